theorem sf_99_187_v45 {sc : List Int} {d : Nat} {φ : hf_F} {x : Nat} {Q : Option jm_V → hf_F → Nat → Prop} {L : jm_L} {l1 l2 l3 l4 l5 l6 : Int} (g0 : jm_get L 0 = some (2, 187)) (g1 : jm_get L 1 = some (0, l1)) (g2 : jm_get L 2 = some (0, l2)) (g3 : jm_get L 3 = some (0, l3)) (g4 : jm_get L 4 = some (0, l4)) (g5 : jm_get L 5 = some (0, l5)) (g6 : jm_get L 6 = some (0, l6))
    (H : hi l6 ∧ hi l5 ∧ (l5 ≤ l6 → Q (some (0, (-1 : Int))) φ x) ∧ (¬ l5 ≤ l6 → (¬ (jm_n l3) = 0 → hw sc d 92 0 [(0, (2, 5)), (1, (0, l1)), (2, (0, l3))] [] φ x (fun r ψ4 y4 => y4 = x ∧ φ = ψ4 ∧ (∃ z4 : Int, r = some (0, z4) ∧ (hw sc d 92 0 [(0, (2, 5)), (1, (0, l2)), (2, (0, l4))] [] φ x (fun r ψ5 y5 => y5 = x ∧ φ = ψ5 ∧ (∃ z5 : Int, r = some (0, z5) ∧ (hw sc (d + 1) 99 45 (jm_st1 (jm_st1 (jm_st1 L 3 (0, z4)) 4 (0, z5)) 6 (0, l6 + 1)) [] φ x Q))))))) ∧ (¬ (¬ (jm_n l3) = 0) → (¬ (jm_n l4) = 0 → hw sc d 92 0 [(0, (2, 5)), (1, (0, l1)), (2, (0, l3))] [] φ x (fun r ψ7 y7 => y7 = x ∧ φ = ψ7 ∧ (∃ z7 : Int, r = some (0, z7) ∧ (hw sc d 92 0 [(0, (2, 5)), (1, (0, l2)), (2, (0, l4))] [] φ x (fun r ψ8 y8 => y8 = x ∧ φ = ψ8 ∧ (∃ z8 : Int, r = some (0, z8) ∧ (hw sc (d + 1) 99 45 (jm_st1 (jm_st1 (jm_st1 L 3 (0, z7)) 4 (0, z8)) 6 (0, l6 + 1)) [] φ x Q))))))) ∧ (¬ (¬ (jm_n l4) = 0) → Q (some (0, l6)) φ x)))) :
    hw sc (d + 1) 99 45 L [] φ x Q := by
  refine hw_ld (b := 6) (e := 1) (by decide +kernel) g6 ?_
  refine hw_ld (b := 5) (e := 1) (by decide +kernel) g5 ?_
  obtain ⟨hz1, hy1, ht1, hf1⟩ := H
  refine hw_if2 (a0 := 0) (b := 3) (e := 92) (by decide +kernel) hz1 hy1 (fun q => ?_) (fun q => ?_)
  · have H := ht1 q
    refine hw_k (c := (-1 : Int)) (b := 0) (e := 1) (by decide +kernel) ?_
    exact hw_ret (a0 := 0) (e := 0) (by decide +kernel) (Or.inl rfl) H
  · have H := hf1 q
    refine hw_ld (b := 3) (e := 0) (by decide +kernel) g3 ?_
    obtain ⟨ht3, hf3⟩ := H
    refine hw_ifn (a0 := 0) (b := 1) (e := 64) (by decide +kernel) (fun q => ?_) (fun q => ?_)
    · have H := ht3 q
      refine hw_ald (b := 0) (e := 0) (by decide +kernel) g0 (by decide) ?_
      refine hr_gr (w := 5) (b := 9) (e := 0) 187 rfl (by decide +kernel) ?_
      refine hw_ld (b := 1) (e := 0) (by decide +kernel) g1 ?_
      refine hw_ld (b := 3) (e := 0) (by decide +kernel) g3 ?_
      refine hr_call (a0 := 13) (b := 92) (e := 3) (nl := 4) (As := [(0, l1), (0, l3)]) (R := []) 5 rfl (by decide +kernel) rfl rfl (Nat.le_of_ble_eq_true rfl) (Nat.le_of_ble_eq_true rfl) ?_
      refine hw_mono H ?_
      rintro r ψ4 y4 ⟨hyx, hψx, z4, hr, H⟩
      subst hyx
      subst hψx
      subst hr
      refine ⟨hne0, ?_⟩
      show hw sc (d + 1) 99 73 L [(0, z4)] φ y4 Q
      refine hw_st (L' := (jm_st1 L 3 (0, z4))) (b := 3) (e := 0) (by decide +kernel) rfl ?_
      refine hw_ald (b := 0) (e := 0) (by decide +kernel) (get_st1 g0 (by decide) (fun q => absurd q.1 (by decide))) (by decide) ?_
      refine hr_gr (w := 5) (b := 9) (e := 0) 187 rfl (by decide +kernel) ?_
      refine hw_ld (b := 2) (e := 0) (by decide +kernel) (get_st1 g2 (by decide) (fun q => tg0 q.2)) ?_
      refine hw_ld (b := 4) (e := 1) (by decide +kernel) (get_st1 g4 (by decide) (fun q => absurd q.1 (by decide))) ?_
      refine hr_call (a0 := 13) (b := 92) (e := 3) (nl := 4) (As := [(0, l2), (0, l4)]) (R := []) 5 rfl (by decide +kernel) rfl rfl (Nat.le_of_ble_eq_true rfl) (Nat.le_of_ble_eq_true rfl) ?_
      refine hw_mono H ?_
      rintro r ψ5 y5 ⟨hyx, hψx, z5, hr, H⟩
      subst hyx
      subst hψx
      subst hr
      refine ⟨hne0, ?_⟩
      show hw sc (d + 1) 99 84 (jm_st1 L 3 (0, z4)) [(0, z5)] φ y5 Q
      refine hw_st (L' := (jm_st1 (jm_st1 L 3 (0, z4)) 4 (0, z5))) (b := 4) (e := 1) (by decide +kernel) rfl ?_
      refine hw_inc (L' := (jm_st1 (jm_st1 (jm_st1 L 3 (0, z4)) 4 (0, z5)) 6 (0, l6 + 1))) (c := 1) (b := 6) (e := 0) (by decide +kernel) (get_st1 (get_st1 g6 (by decide) (fun q => absurd q.1 (by decide))) (by decide) (fun q => absurd q.1 (by decide))) rfl ?_
      refine hw_goto (a0 := 0) (b := 0) (e := 45) (by decide +kernel) ?_
      exact H
    · have H := hf3 q
      refine hw_ld (b := 4) (e := 1) (by decide +kernel) g4 ?_
      obtain ⟨ht6, hf6⟩ := H
      refine hw_ifn (a0 := 0) (b := 1) (e := 64) (by decide +kernel) (fun q => ?_) (fun q => ?_)
      · have H := ht6 q
        refine hw_ald (b := 0) (e := 0) (by decide +kernel) g0 (by decide) ?_
        refine hr_gr (w := 5) (b := 9) (e := 0) 187 rfl (by decide +kernel) ?_
        refine hw_ld (b := 1) (e := 0) (by decide +kernel) g1 ?_
        refine hw_ld (b := 3) (e := 0) (by decide +kernel) g3 ?_
        refine hr_call (a0 := 13) (b := 92) (e := 3) (nl := 4) (As := [(0, l1), (0, l3)]) (R := []) 5 rfl (by decide +kernel) rfl rfl (Nat.le_of_ble_eq_true rfl) (Nat.le_of_ble_eq_true rfl) ?_
        refine hw_mono H ?_
        rintro r ψ7 y7 ⟨hyx, hψx, z7, hr, H⟩
        subst hyx
        subst hψx
        subst hr
        refine ⟨hne0, ?_⟩
        show hw sc (d + 1) 99 73 L [(0, z7)] φ y7 Q
        refine hw_st (L' := (jm_st1 L 3 (0, z7))) (b := 3) (e := 0) (by decide +kernel) rfl ?_
        refine hw_ald (b := 0) (e := 0) (by decide +kernel) (get_st1 g0 (by decide) (fun q => absurd q.1 (by decide))) (by decide) ?_
        refine hr_gr (w := 5) (b := 9) (e := 0) 187 rfl (by decide +kernel) ?_
        refine hw_ld (b := 2) (e := 0) (by decide +kernel) (get_st1 g2 (by decide) (fun q => tg0 q.2)) ?_
        refine hw_ld (b := 4) (e := 1) (by decide +kernel) (get_st1 g4 (by decide) (fun q => absurd q.1 (by decide))) ?_
        refine hr_call (a0 := 13) (b := 92) (e := 3) (nl := 4) (As := [(0, l2), (0, l4)]) (R := []) 5 rfl (by decide +kernel) rfl rfl (Nat.le_of_ble_eq_true rfl) (Nat.le_of_ble_eq_true rfl) ?_
        refine hw_mono H ?_
        rintro r ψ8 y8 ⟨hyx, hψx, z8, hr, H⟩
        subst hyx
        subst hψx
        subst hr
        refine ⟨hne0, ?_⟩
        show hw sc (d + 1) 99 84 (jm_st1 L 3 (0, z7)) [(0, z8)] φ y8 Q
        refine hw_st (L' := (jm_st1 (jm_st1 L 3 (0, z7)) 4 (0, z8))) (b := 4) (e := 1) (by decide +kernel) rfl ?_
        refine hw_inc (L' := (jm_st1 (jm_st1 (jm_st1 L 3 (0, z7)) 4 (0, z8)) 6 (0, l6 + 1))) (c := 1) (b := 6) (e := 0) (by decide +kernel) (get_st1 (get_st1 g6 (by decide) (fun q => absurd q.1 (by decide))) (by decide) (fun q => absurd q.1 (by decide))) rfl ?_
        refine hw_goto (a0 := 0) (b := 0) (e := 45) (by decide +kernel) ?_
        exact H
      · have H := hf6 q
        refine hw_ld (b := 6) (e := 1) (by decide +kernel) g6 ?_
        exact hw_ret (a0 := 0) (e := 0) (by decide +kernel) (Or.inl rfl) H
theorem sf_99_187_l45 {sc : List Int} {d x : Nat} {Q : Option jm_V → hf_F → Nat → Prop} : ∀ (n : Nat) (φ : hf_F) (L : jm_L) (l1 l2 l3 l4 l5 l6 : Int), jm_get L 0 = some (2, 187) → jm_get L 1 = some (0, l1) → jm_get L 2 = some (0, l2) → jm_get L 3 = some (0, l3) → jm_get L 4 = some (0, l4) → jm_get L 5 = some (0, l5) → jm_get L 6 = some (0, l6) → Inv φ → 900 - l6 < (n : Int) → 0 ≤ l1 → l1 ≤ 7 → 0 ≤ l2 → l2 ≤ 7 → 0 ≤ l5 → l5 ≤ 900 → 0 ≤ l6 → l6 ≤ 900 → (∀ (r : Int), True → F_Outlook_ticksToMeet_187_l45 n φ l1 l2 l3 l4 l5 l6 = r → Q (some (0, r)) φ x) → hw sc (d + 1) 99 45 L [] φ x Q := by
  intro n
  induction n with
  | zero =>
    intro φ L l1 l2 l3 l4 l5 l6 g0 g1 g2 g3 g4 g5 g6 hI hM b1a b1b b2a b2b b5a b5b b6a b6b hQ
    exfalso
    omega
  | succ n ih =>
    intro φ L l1 l2 l3 l4 l5 l6 g0 g1 g2 g3 g4 g5 g6 hI hM b1a b1b b2a b2b b5a b5b b6a b6b hQ
    refine sf_99_187_v45 g0 g1 g2 g3 g4 g5 g6 ?_
    have e0 := F_Outlook_ticksToMeet_187_l45_s (φ := φ) (l1 := l1) (l2 := l2) (l3 := l3) (l4 := l4) (l5 := l5) (l6 := l6) n
    refine ⟨by unfold hi; omega, by unfold hi; omega, fun q1 => ?_, fun q1 => ?_⟩
    · skip
      have e1a := e0.trans (if_pos q1)
      exact hQ (-1 : Int) trivial e1a
    · skip
      have e1b := e0.trans (if_neg q1)
      have f1 := hr_n l3
      refine ⟨fun q3 => ?_, fun q3 => ?_⟩
      · skip
        have e3a := e1b.trans (if_pos q3)
        refine sf_92_5 (φ := φ) hI (by omega) (by omega) (fun z4 hp4 hE4 => ⟨rfl, rfl, z4, rfl, ?_⟩)
        have e4 := e3a.trans (bnp_e hE4)
        refine sf_92_5 (φ := φ) hI (by omega) (by omega) (fun z5 hp5 hE5 => ⟨rfl, rfl, z5, rfl, ?_⟩)
        have e5 := e4.trans (bnp_e hE5)
        exact ih φ (jm_st1 (jm_st1 (jm_st1 L 3 (0, z4)) 4 (0, z5)) 6 (0, l6 + 1)) l1 l2 z4 z5 l5 (l6 + 1) (get_st1 (get_st1 (get_st1 g0 (by decide) (fun q => absurd q.1 (by decide))) (by decide) (fun q => absurd q.1 (by decide))) (by decide) (fun q => absurd q.1 (by decide))) (get_st1 (get_st1 (get_st1 g1 (by decide) (fun q => absurd q.1 (by decide))) (by decide) (fun q => absurd q.1 (by decide))) (by decide) (fun q => absurd q.1 (by decide))) (get_st1 (get_st1 (get_st1 g2 (by decide) (fun q => tg0 q.2)) (by decide) (fun q => absurd q.1 (by decide))) (by decide) (fun q => absurd q.1 (by decide))) (get_st1 (get_st1 get_st1e (by decide) (fun q => tg0 q.2)) (by decide) (fun q => absurd q.1 (by decide))) (get_st1 get_st1e (by decide) (fun q => absurd q.1 (by decide))) (get_st1 (get_st1 (get_st1 g5 (by decide) (fun q => absurd q.1 (by decide))) (by decide) (fun q => absurd q.1 (by decide))) (by decide) (fun q => tg0 q.2)) get_st1e hI (by omega) (by omega) (by omega) (by omega) (by omega) (by omega) (by omega) (by omega) (by omega) (fun rr hpχ hEχ => hQ rr hpχ (e5.trans hEχ))
      · skip
        have e3b := e1b.trans (if_neg q3)
        have f2 := hr_n l4
        refine ⟨fun q6 => ?_, fun q6 => ?_⟩
        · skip
          have e6a := e3b.trans (if_pos q6)
          refine sf_92_5 (φ := φ) hI (by omega) (by omega) (fun z7 hp7 hE7 => ⟨rfl, rfl, z7, rfl, ?_⟩)
          have e7 := e6a.trans (bnp_e hE7)
          refine sf_92_5 (φ := φ) hI (by omega) (by omega) (fun z8 hp8 hE8 => ⟨rfl, rfl, z8, rfl, ?_⟩)
          have e8 := e7.trans (bnp_e hE8)
          exact ih φ (jm_st1 (jm_st1 (jm_st1 L 3 (0, z7)) 4 (0, z8)) 6 (0, l6 + 1)) l1 l2 z7 z8 l5 (l6 + 1) (get_st1 (get_st1 (get_st1 g0 (by decide) (fun q => absurd q.1 (by decide))) (by decide) (fun q => absurd q.1 (by decide))) (by decide) (fun q => absurd q.1 (by decide))) (get_st1 (get_st1 (get_st1 g1 (by decide) (fun q => absurd q.1 (by decide))) (by decide) (fun q => absurd q.1 (by decide))) (by decide) (fun q => absurd q.1 (by decide))) (get_st1 (get_st1 (get_st1 g2 (by decide) (fun q => tg0 q.2)) (by decide) (fun q => absurd q.1 (by decide))) (by decide) (fun q => absurd q.1 (by decide))) (get_st1 (get_st1 get_st1e (by decide) (fun q => tg0 q.2)) (by decide) (fun q => absurd q.1 (by decide))) (get_st1 get_st1e (by decide) (fun q => absurd q.1 (by decide))) (get_st1 (get_st1 (get_st1 g5 (by decide) (fun q => absurd q.1 (by decide))) (by decide) (fun q => absurd q.1 (by decide))) (by decide) (fun q => tg0 q.2)) get_st1e hI (by omega) (by omega) (by omega) (by omega) (by omega) (by omega) (by omega) (by omega) (by omega) (fun rr hpχ hEχ => hQ rr hpχ (e8.trans hEχ))
        · skip
          have e6b := e3b.trans (if_neg q6)
          exact hQ l6 trivial e6b
theorem sf_99_187_v {sc : List Int} {d : Nat} {φ : hf_F} {x : Nat} {Q : Option jm_V → hf_F → Nat → Prop} {v1 v2 : Int}
    (H : 0 ≤ v1 ∧ v1 < 8 ∧ (0 ≤ v2 ∧ v2 < 8 ∧ (0 ≤ v1 ∧ v1 < 8 ∧ (0 ≤ v2 ∧ v2 < 8 ∧ (hw sc (d + 1) 99 45 (jm_st1 (jm_st1 (jm_st1 (jm_st1 [(0, (2, 187)), (1, (0, v1)), (2, (0, v2))] 3 (0, φ 18 ((v1).toNat))) 4 (0, φ 18 ((v2).toNat))) 5 (0, (φ 12 ((v1).toNat)) * (φ 12 ((v2).toNat)))) 6 (0, 0)) [] φ x Q))))) :
    hw sc (d + 1) 99 0 [(0, (2, 187)), (1, (0, v1)), (2, (0, v2))] [] φ x Q := by
  refine hw_ald (b := 0) (e := 0) (by decide +kernel) rfl (by decide) ?_
  refine hr_gr (w := 17) (b := 9) (e := 1) 187 rfl (by decide +kernel) ?_
  refine hr_gr (w := 18) (b := 4) (e := 6) 17 rfl (by decide +kernel) ?_
  refine hw_ld (b := 1) (e := 0) (by decide +kernel) rfl ?_
  obtain ⟨hl1, hu1, H⟩ := H
  refine hr_al (b := 0) (a0 := 0) (e := 0) (n := 8) (w := φ 18 ((v1).toNat)) 18 rfl (by decide +kernel) (by decide) hl1 hu1 rfl ?_
  refine hw_st (L' := (jm_st1 [(0, (2, 187)), (1, (0, v1)), (2, (0, v2))] 3 (0, φ 18 ((v1).toNat)))) (b := 3) (e := 0) (by decide +kernel) rfl ?_
  refine hw_ald (b := 0) (e := 0) (by decide +kernel) (get_st1 rfl (by decide) (fun q => absurd q.1 (by decide))) (by decide) ?_
  refine hr_gr (w := 17) (b := 9) (e := 1) 187 rfl (by decide +kernel) ?_
  refine hr_gr (w := 18) (b := 4) (e := 6) 17 rfl (by decide +kernel) ?_
  refine hw_ld (b := 2) (e := 0) (by decide +kernel) (get_st1 rfl (by decide) (fun q => tg0 q.2)) ?_
  obtain ⟨hl2, hu2, H⟩ := H
  refine hr_al (b := 0) (a0 := 0) (e := 0) (n := 8) (w := φ 18 ((v2).toNat)) 18 rfl (by decide +kernel) (by decide) hl2 hu2 rfl ?_
  refine hw_st (L' := (jm_st1 (jm_st1 [(0, (2, 187)), (1, (0, v1)), (2, (0, v2))] 3 (0, φ 18 ((v1).toNat))) 4 (0, φ 18 ((v2).toNat)))) (b := 4) (e := 1) (by decide +kernel) rfl ?_
  refine hw_ald (b := 0) (e := 0) (by decide +kernel) (get_st1 (get_st1 rfl (by decide) (fun q => absurd q.1 (by decide))) (by decide) (fun q => absurd q.1 (by decide))) (by decide) ?_
  refine hr_gr (w := 5) (b := 9) (e := 0) 187 rfl (by decide +kernel) ?_
  refine hr_gr (w := 12) (b := 3) (e := 6) 5 rfl (by decide +kernel) ?_
  refine hw_ld (b := 1) (e := 0) (by decide +kernel) (get_st1 (get_st1 rfl (by decide) (fun q => absurd q.1 (by decide))) (by decide) (fun q => absurd q.1 (by decide))) ?_
  obtain ⟨hl3, hu3, H⟩ := H
  refine hr_al (b := 0) (a0 := 0) (e := 0) (n := 8) (w := φ 12 ((v1).toNat)) 12 rfl (by decide +kernel) (by decide) hl3 hu3 rfl ?_
  refine hw_ald (b := 0) (e := 0) (by decide +kernel) (get_st1 (get_st1 rfl (by decide) (fun q => absurd q.1 (by decide))) (by decide) (fun q => absurd q.1 (by decide))) (by decide) ?_
  refine hr_gr (w := 5) (b := 9) (e := 0) 187 rfl (by decide +kernel) ?_
  refine hr_gr (w := 12) (b := 3) (e := 6) 5 rfl (by decide +kernel) ?_
  refine hw_ld (b := 2) (e := 0) (by decide +kernel) (get_st1 (get_st1 rfl (by decide) (fun q => tg0 q.2)) (by decide) (fun q => absurd q.1 (by decide))) ?_
  obtain ⟨hl4, hu4, H⟩ := H
  refine hr_al (b := 0) (a0 := 0) (e := 0) (n := 8) (w := φ 12 ((v2).toNat)) 12 rfl (by decide +kernel) (by decide) hl4 hu4 rfl ?_
  refine hw_bin (w := (φ 12 ((v1).toNat)) * (φ 12 ((v2).toNat))) (a0 := 0) (b := 2) (e := 0) (by decide +kernel) rfl ?_
  refine hw_st (L' := (jm_st1 (jm_st1 (jm_st1 [(0, (2, 187)), (1, (0, v1)), (2, (0, v2))] 3 (0, φ 18 ((v1).toNat))) 4 (0, φ 18 ((v2).toNat))) 5 (0, (φ 12 ((v1).toNat)) * (φ 12 ((v2).toNat))))) (b := 5) (e := 1) (by decide +kernel) rfl ?_
  refine hw_k (c := 0) (b := 0) (e := 1) (by decide +kernel) ?_
  refine hw_st (L' := (jm_st1 (jm_st1 (jm_st1 (jm_st1 [(0, (2, 187)), (1, (0, v1)), (2, (0, v2))] 3 (0, φ 18 ((v1).toNat))) 4 (0, φ 18 ((v2).toNat))) 5 (0, (φ 12 ((v1).toNat)) * (φ 12 ((v2).toNat)))) 6 (0, 0))) (b := 6) (e := 1) (by decide +kernel) rfl ?_
  exact H
theorem sf_99_187 {sc : List Int} {d : Nat} {φ : hf_F} {x : Nat} {Q : Option jm_V → hf_F → Nat → Prop} {v1 v2 : Int} (hI : Inv φ) (h1a : 0 ≤ v1) (h1b : v1 ≤ 7) (h2a : 0 ≤ v2) (h2b : v2 ≤ 7) (hQ : ∀ (r : Int), True → F_Outlook_ticksToMeet_187 φ v1 v2 = r → Q (some (0, r)) φ x) : hw sc (d + 1) 99 0 [(0, (2, 187)), (1, (0, v1)), (2, (0, v2))] [] φ x Q := by
  apply sf_99_187_v
  have e0 : F_Outlook_ticksToMeet_187 φ v1 v2 = _ := rfl
  refine ⟨by omega, by omega, ?_⟩
  refine ⟨by omega, by omega, ?_⟩
  refine ⟨by omega, by omega, ?_⟩
  have f1 := iv_ar (a := 12) (s := 0) (t := 8) (lo := 0) (u := 30) (z := v1) hI (by decide +kernel) (by omega) (by omega)
  refine ⟨by omega, by omega, ?_⟩
  have f2 := iv_ar (a := 12) (s := 0) (t := 8) (lo := 0) (u := 30) (z := v2) hI (by decide +kernel) (by omega) (by omega)
  have f3 := hr_mul (φ 12 ((v1).toNat)) (φ 12 ((v2).toNat))
  exact sf_99_187_l45 ((900 - 0 : Int).toNat + 1) φ (jm_st1 (jm_st1 (jm_st1 (jm_st1 [(0, (2, 187)), (1, (0, v1)), (2, (0, v2))] 3 (0, φ 18 ((v1).toNat))) 4 (0, φ 18 ((v2).toNat))) 5 (0, (φ 12 ((v1).toNat)) * (φ 12 ((v2).toNat)))) 6 (0, 0)) v1 v2 (φ 18 ((v1).toNat)) (φ 18 ((v2).toNat)) ((φ 12 ((v1).toNat)) * (φ 12 ((v2).toNat))) 0 (get_st1 (get_st1 (get_st1 (get_st1 rfl (by decide) (fun q => absurd q.1 (by decide))) (by decide) (fun q => absurd q.1 (by decide))) (by decide) (fun q => absurd q.1 (by decide))) (by decide) (fun q => absurd q.1 (by decide))) (get_st1 (get_st1 (get_st1 (get_st1 rfl (by decide) (fun q => absurd q.1 (by decide))) (by decide) (fun q => absurd q.1 (by decide))) (by decide) (fun q => absurd q.1 (by decide))) (by decide) (fun q => absurd q.1 (by decide))) (get_st1 (get_st1 (get_st1 (get_st1 rfl (by decide) (fun q => tg0 q.2)) (by decide) (fun q => absurd q.1 (by decide))) (by decide) (fun q => absurd q.1 (by decide))) (by decide) (fun q => absurd q.1 (by decide))) (get_st1 (get_st1 (get_st1 get_st1e (by decide) (fun q => tg0 q.2)) (by decide) (fun q => absurd q.1 (by decide))) (by decide) (fun q => absurd q.1 (by decide))) (get_st1 (get_st1 get_st1e (by decide) (fun q => tg0 q.2)) (by decide) (fun q => absurd q.1 (by decide))) (get_st1 get_st1e (by decide) (fun q => tg0 q.2)) get_st1e hI (by omega) (by omega) (by omega) (by omega) (by omega) (by omega) (by omega) (by omega) (by omega) (fun rr hpχ hEχ => hQ rr hpχ (e0.trans hEχ))
theorem sf_98_0_v {sc : List Int} {d : Nat} {φ : hf_F} {x : Nat} {Q : Option jm_V → hf_F → Nat → Prop} {v1 v2 : Int}
    (H : hw sc (d + 1) 70 0 [(0, (2, 0)), (1, (0, 1)), (2, (0, v1))] [] φ x (fun r ψ1 y1 => y1 = x ∧ φ = ψ1 ∧ (∃ z1 : Int, r = some (0, z1) ∧ (hi z1 ∧ (z1 = 0 → Q (some (0, (-1 : Int))) φ x) ∧ (¬ z1 = 0 → hw sc (d + 1) 70 0 [(0, (2, 0)), (1, (0, 1)), (2, (0, v2))] [] φ x (fun r ψ4 y4 => y4 = x ∧ φ = ψ4 ∧ (∃ z4 : Int, r = some (0, z4) ∧ (hi z4 ∧ (z4 = 0 → Q (some (0, (-1 : Int))) φ x) ∧ (¬ z4 = 0 → hi v1 ∧ hi v2 ∧ (¬ v1 = v2 → hw sc (d + 1) 99 0 [(0, (2, 187)), (1, (0, v1)), (2, (0, v2))] [] φ x (fun r ψ8 y8 => y8 = x ∧ φ = ψ8 ∧ (∃ z8 : Int, r = some (0, z8) ∧ (Q (some (0, z8)) φ x)))) ∧ (¬ (¬ v1 = v2) → Q (some (0, (-1 : Int))) φ x)))))))))) :
    hw sc (d + 2) 98 0 [(0, (2, 0)), (1, (0, v1)), (2, (0, v2))] [] φ x Q := by
  refine hw_ald (b := 0) (e := 0) (by decide +kernel) rfl (by decide) ?_
  refine hw_k (c := 1) (b := 0) (e := 1) (by decide +kernel) ?_
  refine hw_ld (b := 1) (e := 0) (by decide +kernel) rfl ?_
  refine hr_call (a0 := 10) (b := 70) (e := 3) (nl := 3) (As := [(0, 1), (0, v1)]) (R := []) 0 rfl (by decide +kernel) rfl rfl (Nat.le_of_ble_eq_true rfl) (Nat.le_of_ble_eq_true rfl) ?_
  refine hw_mono H ?_
  rintro r ψ1 y1 ⟨hyx, hψx, z1, hr, H⟩
  subst hyx
  subst hψx
  subst hr
  refine ⟨hne0, ?_⟩
  show hw sc (d + 2) 98 6 [(0, (2, 0)), (1, (0, v1)), (2, (0, v2))] [(0, z1)] φ y1 Q
  obtain ⟨hz2, ht2, hf2⟩ := H
  refine hw_if (a0 := 0) (b := 0) (e := 23) (by decide +kernel) hz2 (fun q => ?_) (fun q => ?_)
  · have H := ht2 q
    refine hw_k (c := (-1 : Int)) (b := 0) (e := 1) (by decide +kernel) ?_
    exact hw_ret (a0 := 0) (e := 0) (by decide +kernel) (Or.inl rfl) H
  · have H := hf2 q
    refine hw_ald (b := 0) (e := 0) (by decide +kernel) rfl (by decide) ?_
    refine hw_k (c := 1) (b := 0) (e := 1) (by decide +kernel) ?_
    refine hw_ld (b := 2) (e := 0) (by decide +kernel) rfl ?_
    refine hr_call (a0 := 10) (b := 70) (e := 3) (nl := 3) (As := [(0, 1), (0, v2)]) (R := []) 0 rfl (by decide +kernel) rfl rfl (Nat.le_of_ble_eq_true rfl) (Nat.le_of_ble_eq_true rfl) ?_
    refine hw_mono H ?_
    rintro r ψ4 y4 ⟨hyx, hψx, z4, hr, H⟩
    subst hyx
    subst hψx
    subst hr
    refine ⟨hne0, ?_⟩
    show hw sc (d + 2) 98 15 [(0, (2, 0)), (1, (0, v1)), (2, (0, v2))] [(0, z4)] φ y4 Q
    obtain ⟨hz5, ht5, hf5⟩ := H
    refine hw_if (a0 := 0) (b := 0) (e := 23) (by decide +kernel) hz5 (fun q => ?_) (fun q => ?_)
    · have H := ht5 q
      refine hw_k (c := (-1 : Int)) (b := 0) (e := 1) (by decide +kernel) ?_
      exact hw_ret (a0 := 0) (e := 0) (by decide +kernel) (Or.inl rfl) H
    · have H := hf5 q
      refine hw_ld (b := 1) (e := 0) (by decide +kernel) rfl ?_
      refine hw_ld (b := 2) (e := 0) (by decide +kernel) rfl ?_
      obtain ⟨hz7, hy7, ht7, hf7⟩ := H
      refine hw_if2 (a0 := 0) (b := 1) (e := 25) (by decide +kernel) hz7 hy7 (fun q => ?_) (fun q => ?_)
      · have H := ht7 q
        refine hw_ald (b := 0) (e := 0) (by decide +kernel) rfl (by decide) ?_
        refine hr_gr (w := 187) (b := 0) (e := 8) 0 rfl (by decide +kernel) ?_
        refine hw_ld (b := 1) (e := 0) (by decide +kernel) rfl ?_
        refine hw_ld (b := 2) (e := 0) (by decide +kernel) rfl ?_
        refine hr_call (a0 := 19) (b := 99) (e := 3) (nl := 7) (As := [(0, v1), (0, v2)]) (R := []) 187 rfl (by decide +kernel) rfl rfl (Nat.le_of_ble_eq_true rfl) (Nat.le_of_ble_eq_true rfl) ?_
        refine hw_mono H ?_
        rintro r ψ8 y8 ⟨hyx, hψx, z8, hr, H⟩
        subst hyx
        subst hψx
        subst hr
        refine ⟨hne0, ?_⟩
        show hw sc (d + 2) 98 34 [(0, (2, 0)), (1, (0, v1)), (2, (0, v2))] [(0, z8)] φ y8 Q
        exact hw_ret (a0 := 0) (e := 0) (by decide +kernel) (Or.inl rfl) H
      · have H := hf7 q
        refine hw_k (c := (-1 : Int)) (b := 0) (e := 1) (by decide +kernel) ?_
        exact hw_ret (a0 := 0) (e := 0) (by decide +kernel) (Or.inl rfl) H
theorem sf_98_0 {sc : List Int} {d : Nat} {φ : hf_F} {x : Nat} {Q : Option jm_V → hf_F → Nat → Prop} {v1 v2 : Int} (hI : Inv φ) (h1a : (-2147483648 : Int) ≤ v1) (h1b : v1 ≤ 2147483647) (h2a : (-2147483648 : Int) ≤ v2) (h2b : v2 ≤ 2147483647) (hQ : ∀ (r : Int), True → F_RideLaws_both_0 φ v1 v2 = r → Q (some (0, r)) φ x) : hw sc (d + 2) 98 0 [(0, (2, 0)), (1, (0, v1)), (2, (0, v2))] [] φ x Q := by
  apply sf_98_0_v
  have e0 : F_RideLaws_both_0 φ v1 v2 = _ := rfl
  refine sf_70_0_k1_1 (φ := φ) hI (by omega) (by omega) (fun z1 hp1 hE1 => ⟨rfl, rfl, z1, rfl, ?_⟩)
  have e1 := e0.trans (bnp_e hE1)
  have f1 := iv_at (a := 6) (k := 1) (lo := 0) (u := 8) hI (by decide +kernel)
  refine ⟨by unfold hi; omega, fun q2 => ?_, fun q2 => ?_⟩
  · skip
    have e2a := e1.trans (if_pos q2)
    exact hQ (-1 : Int) trivial e2a
  · skip
    have e2b := e1.trans (if_neg q2)
    refine sf_70_0_k1_1 (φ := φ) hI (by omega) (by omega) (fun z4 hp4 hE4 => ⟨rfl, rfl, z4, rfl, ?_⟩)
    have e4 := e2b.trans (bnp_e hE4)
    refine ⟨by unfold hi; omega, fun q5 => ?_, fun q5 => ?_⟩
    · skip
      have e5a := e4.trans (if_pos q5)
      exact hQ (-1 : Int) trivial e5a
    · skip
      have e5b := e4.trans (if_neg q5)
      refine ⟨by unfold hi; omega, by unfold hi; omega, fun q7 => ?_, fun q7 => ?_⟩
      · skip
        have e7a := e5b.trans (if_pos q7)
        refine sf_99_187 (φ := φ) hI (by omega) (by omega) (by omega) (by omega) (fun z8 hp8 hE8 => ⟨rfl, rfl, z8, rfl, ?_⟩)
        have e8 := e7a.trans (bnp_e hE8)
        exact hQ z8 trivial e8
      · skip
        have e7b := e5b.trans (if_neg q7)
        exact hQ (-1 : Int) trivial e7b
theorem sf_154_26_17_v {sc : List Int} {d : Nat} {φ : hf_F} {x : Nat} {Q : Option jm_V → hf_F → Nat → Prop} {v1 v3 : Int}
    (H : 0 ≤ v1 ∧ v1 < 40 ∧ (hi (φ 27 ((v1).toNat)) ∧ ((φ 27 ((v1).toNat)) = 15 → 0 ≤ v3 ∧ v3 < 6 ∧ (hi (φ 20 ((v3).toNat)) ∧ hi (-1 : Int) ∧ ((φ 20 ((v3).toNat)) = (-1 : Int) → Q (some (0, 0)) φ x) ∧ (¬ (φ 20 ((v3).toNat)) = (-1 : Int) → Q (some (0, 1)) φ x))) ∧ ((φ 27 ((v1).toNat)) = 16 → 0 ≤ v3 ∧ v3 < 6 ∧ (hi (φ 21 ((v3).toNat)) ∧ (¬ (φ 21 ((v3).toNat)) = 0 → Q (some (0, 0)) φ x) ∧ (¬ (¬ (φ 21 ((v3).toNat)) = 0) → Q (some (0, 1)) φ x))) ∧ ((φ 27 ((v1).toNat)) = 17 → hi (φ 17 2) ∧ hi v3 ∧ (¬ (φ 17 2) = v3 → Q (some (0, 0)) φ x) ∧ (¬ (¬ (φ 17 2) = v3) → Q (some (0, 1)) φ x)) ∧ ((φ 27 ((v1).toNat)) = 18 → 0 ≤ v3 ∧ v3 < 6 ∧ (0 ≤ v1 ∧ v1 < 40 ∧ (hi (φ 20 ((v3).toNat)) ∧ hi (φ 29 ((v1).toNat)) ∧ (¬ (φ 20 ((v3).toNat)) = (φ 29 ((v1).toNat)) → Q (some (0, 0)) φ x) ∧ (¬ (¬ (φ 20 ((v3).toNat)) = (φ 29 ((v1).toNat))) → Q (some (0, 1)) φ x)))) ∧ ((φ 27 ((v1).toNat)) = 19 → hw sc (d + 1) 108 0 [(0, (2, 17)), (1, (0, v3))] [] φ x (fun r ψ19 y19 => y19 = x ∧ φ = ψ19 ∧ (∃ z19 : Int, r = some (0, z19) ∧ (0 ≤ v1 ∧ v1 < 40 ∧ (hi (hb_and (hb_shr z19 (φ 29 ((v1).toNat))) 1) ∧ ((hb_and (hb_shr z19 (φ 29 ((v1).toNat))) 1) = 0 → Q (some (0, 0)) φ x) ∧ (¬ (hb_and (hb_shr z19 (φ 29 ((v1).toNat))) 1) = 0 → Q (some (0, 1)) φ x)))))) ∧ ((φ 27 ((v1).toNat)) = 20 → 0 ≤ v3 ∧ v3 < 6 ∧ (0 ≤ v1 ∧ v1 < 40 ∧ (0 ≤ v1 ∧ v1 < 40 ∧ (hw sc (d + 1) 155 0 [(0, (0, φ 24 ((v3).toNat))), (1, (0, φ 28 ((v1).toNat))), (2, (0, φ 29 ((v1).toNat)))] [] φ x (fun r ψ27 y27 => y27 = x ∧ φ = ψ27 ∧ (∃ z27 : Int, r = some (0, z27) ∧ ((z27 = 0 ∨ z27 = 1) ∧ Q (some (0, z27)) φ x))))))) ∧ ((φ 27 ((v1).toNat)) = 21 → 0 ≤ v3 ∧ v3 < 6 ∧ (0 ≤ v1 ∧ v1 < 40 ∧ (0 ≤ v1 ∧ v1 < 40 ∧ (hw sc (d + 1) 155 0 [(0, (0, φ 21 ((v3).toNat))), (1, (0, φ 28 ((v1).toNat))), (2, (0, φ 29 ((v1).toNat)))] [] φ x (fun r ψ32 y32 => y32 = x ∧ φ = ψ32 ∧ (∃ z32 : Int, r = some (0, z32) ∧ ((z32 = 0 ∨ z32 = 1) ∧ Q (some (0, z32)) φ x))))))) ∧ (((φ 27 ((v1).toNat)) < 15 ∨ 22 ≤ (φ 27 ((v1).toNat))) → 0 ≤ v1 ∧ v1 < 40 ∧ (0 ≤ v1 ∧ v1 < 40 ∧ (hw sc (d + 1) 155 0 [(0, (0, v3)), (1, (0, φ 28 ((v1).toNat))), (2, (0, φ 29 ((v1).toNat)))] [] φ x (fun r ψ36 y36 => y36 = x ∧ φ = ψ36 ∧ (∃ z36 : Int, r = some (0, z36) ∧ ((z36 = 0 ∨ z36 = 1) ∧ Q (some (0, z36)) φ x)))))))) :
    hw sc (d + 2) 154 0 [(0, (2, 26)), (1, (0, v1)), (2, (2, 17)), (3, (0, v3))] [] φ x Q := by
  refine hw_ald (b := 0) (e := 0) (by decide +kernel) rfl (by decide) ?_
  refine hr_gr (w := 27) (b := 5) (e := 0) 26 rfl (by decide +kernel) ?_
  refine hw_ld (b := 1) (e := 0) (by decide +kernel) rfl ?_
  obtain ⟨hl1, hu1, H⟩ := H
  refine hr_al (b := 0) (a0 := 0) (e := 0) (n := 40) (w := φ 27 ((v1).toNat)) 27 rfl (by decide +kernel) (by decide) hl1 hu1 rfl ?_
  obtain ⟨hz2, H⟩ := H
  refine hr_tsw (T := [48, 64, 79, 93, 114, 137, 159]) (lo := 15) (nn := 22) (b := 181) (e := 7) (by decide +kernel) rfl hz2 ?_ ?_
  · intro q
    have H := H.2.2.2.2.2.2.2 q
    refine hw_ld (b := 3) (e := 0) (by decide +kernel) rfl ?_
    refine hw_ald (b := 0) (e := 0) (by decide +kernel) rfl (by decide) ?_
    refine hr_gr (w := 28) (b := 5) (e := 1) 26 rfl (by decide +kernel) ?_
    refine hw_ld (b := 1) (e := 0) (by decide +kernel) rfl ?_
    obtain ⟨hl34, hu34, H⟩ := H
    refine hr_al (b := 0) (a0 := 0) (e := 0) (n := 40) (w := φ 28 ((v1).toNat)) 28 rfl (by decide +kernel) (by decide) hl34 hu34 rfl ?_
    refine hw_ald (b := 0) (e := 0) (by decide +kernel) rfl (by decide) ?_
    refine hr_gr (w := 29) (b := 5) (e := 2) 26 rfl (by decide +kernel) ?_
    refine hw_ld (b := 1) (e := 0) (by decide +kernel) rfl ?_
    obtain ⟨hl35, hu35, H⟩ := H
    refine hr_al (b := 0) (a0 := 0) (e := 0) (n := 40) (w := φ 29 ((v1).toNat)) 29 rfl (by decide +kernel) (by decide) hl35 hu35 rfl ?_
    refine hr_calls (b := 155) (e := 3) (nl := 3) (As := [(0, v3), (0, φ 28 ((v1).toNat)), (0, φ 29 ((v1).toNat))]) (R := []) (by decide +kernel) rfl rfl (Nat.le_of_ble_eq_true rfl) (Nat.le_of_ble_eq_true rfl) ?_
    refine hw_mono H ?_
    rintro r ψ36 y36 ⟨hyx, hψx, z36, hr, H⟩
    subst hyx
    subst hψx
    subst hr
    refine ⟨hne0, ?_⟩
    show hw sc (d + 2) 154 197 [(0, (2, 26)), (1, (0, v1)), (2, (2, 17)), (3, (0, v3))] [(0, z36)] φ y36 Q
    exact hw_ret (a0 := 0) (e := 1) (by decide +kernel) (Or.inr ⟨rfl, H.1⟩) H.2
  · intro kq tq htq hzq
    match kq, htq, hzq with
    | 0, htq, hzq =>
      cases htq
      have H := H.1 (by omega)
      refine hw_ald (b := 2) (e := 0) (by decide +kernel) rfl (by decide) ?_
      refine hr_gr (w := 20) (b := 4) (e := 8) 17 rfl (by decide +kernel) ?_
      refine hw_ld (b := 3) (e := 0) (by decide +kernel) rfl ?_
      obtain ⟨hl3, hu3, H⟩ := H
      refine hr_al (b := 0) (a0 := 0) (e := 0) (n := 6) (w := φ 20 ((v3).toNat)) 20 rfl (by decide +kernel) (by decide) hl3 hu3 rfl ?_
      refine hw_k (c := (-1 : Int)) (b := 0) (e := 1) (by decide +kernel) ?_
      obtain ⟨hz4, hy4, ht4, hf4⟩ := H
      refine hw_if2 (a0 := 0) (b := 0) (e := 62) (by decide +kernel) hz4 hy4 (fun q => ?_) (fun q => ?_)
      · have H := ht4 q
        refine hw_k (c := 0) (b := 0) (e := 1) (by decide +kernel) ?_
        exact hw_ret (a0 := 0) (e := 1) (by decide +kernel) (Or.inr ⟨rfl, by decide⟩) H
      · have H := hf4 q
        refine hw_k (c := 1) (b := 0) (e := 1) (by decide +kernel) ?_
        refine hw_goto (a0 := 0) (b := 0) (e := 63) (by decide +kernel) ?_
        exact hw_ret (a0 := 0) (e := 1) (by decide +kernel) (Or.inr ⟨rfl, by decide⟩) H
    | 1, htq, hzq =>
      cases htq
      have H := H.2.1 (by omega)
      refine hw_ald (b := 2) (e := 0) (by decide +kernel) rfl (by decide) ?_
      refine hr_gr (w := 21) (b := 4) (e := 9) 17 rfl (by decide +kernel) ?_
      refine hw_ld (b := 3) (e := 0) (by decide +kernel) rfl ?_
      obtain ⟨hl7, hu7, H⟩ := H
      refine hr_al (b := 0) (a0 := 0) (e := 0) (n := 6) (w := φ 21 ((v3).toNat)) 21 rfl (by decide +kernel) (by decide) hl7 hu7 rfl ?_
      obtain ⟨hz8, ht8, hf8⟩ := H
      refine hw_if (a0 := 0) (b := 1) (e := 77) (by decide +kernel) hz8 (fun q => ?_) (fun q => ?_)
      · have H := ht8 q
        refine hw_k (c := 0) (b := 0) (e := 1) (by decide +kernel) ?_
        exact hw_ret (a0 := 0) (e := 1) (by decide +kernel) (Or.inr ⟨rfl, by decide⟩) H
      · have H := hf8 q
        refine hw_k (c := 1) (b := 0) (e := 1) (by decide +kernel) ?_
        refine hw_goto (a0 := 0) (b := 0) (e := 78) (by decide +kernel) ?_
        exact hw_ret (a0 := 0) (e := 1) (by decide +kernel) (Or.inr ⟨rfl, by decide⟩) H
    | 2, htq, hzq =>
      cases htq
      have H := H.2.2.1 (by omega)
      refine hw_ald (b := 2) (e := 0) (by decide +kernel) rfl (by decide) ?_
      refine hr_gi (w := φ 17 2) (b := 4) (e := 2) 17 rfl (by decide +kernel) rfl ?_
      refine hw_ld (b := 3) (e := 0) (by decide +kernel) rfl ?_
      obtain ⟨hz11, hy11, ht11, hf11⟩ := H
      refine hw_if2 (a0 := 0) (b := 1) (e := 91) (by decide +kernel) hz11 hy11 (fun q => ?_) (fun q => ?_)
      · have H := ht11 q
        refine hw_k (c := 0) (b := 0) (e := 1) (by decide +kernel) ?_
        exact hw_ret (a0 := 0) (e := 1) (by decide +kernel) (Or.inr ⟨rfl, by decide⟩) H
      · have H := hf11 q
        refine hw_k (c := 1) (b := 0) (e := 1) (by decide +kernel) ?_
        refine hw_goto (a0 := 0) (b := 0) (e := 92) (by decide +kernel) ?_
        exact hw_ret (a0 := 0) (e := 1) (by decide +kernel) (Or.inr ⟨rfl, by decide⟩) H
    | 3, htq, hzq =>
      cases htq
      have H := H.2.2.2.1 (by omega)
      refine hw_ald (b := 2) (e := 0) (by decide +kernel) rfl (by decide) ?_
      refine hr_gr (w := 20) (b := 4) (e := 8) 17 rfl (by decide +kernel) ?_
      refine hw_ld (b := 3) (e := 0) (by decide +kernel) rfl ?_
      obtain ⟨hl14, hu14, H⟩ := H
      refine hr_al (b := 0) (a0 := 0) (e := 0) (n := 6) (w := φ 20 ((v3).toNat)) 20 rfl (by decide +kernel) (by decide) hl14 hu14 rfl ?_
      refine hw_ald (b := 0) (e := 0) (by decide +kernel) rfl (by decide) ?_
      refine hr_gr (w := 29) (b := 5) (e := 2) 26 rfl (by decide +kernel) ?_
      refine hw_ld (b := 1) (e := 0) (by decide +kernel) rfl ?_
      obtain ⟨hl15, hu15, H⟩ := H
      refine hr_al (b := 0) (a0 := 0) (e := 0) (n := 40) (w := φ 29 ((v1).toNat)) 29 rfl (by decide +kernel) (by decide) hl15 hu15 rfl ?_
      obtain ⟨hz16, hy16, ht16, hf16⟩ := H
      refine hw_if2 (a0 := 0) (b := 1) (e := 112) (by decide +kernel) hz16 hy16 (fun q => ?_) (fun q => ?_)
      · have H := ht16 q
        refine hw_k (c := 0) (b := 0) (e := 1) (by decide +kernel) ?_
        exact hw_ret (a0 := 0) (e := 1) (by decide +kernel) (Or.inr ⟨rfl, by decide⟩) H
      · have H := hf16 q
        refine hw_k (c := 1) (b := 0) (e := 1) (by decide +kernel) ?_
        refine hw_goto (a0 := 0) (b := 0) (e := 113) (by decide +kernel) ?_
        exact hw_ret (a0 := 0) (e := 1) (by decide +kernel) (Or.inr ⟨rfl, by decide⟩) H
    | 4, htq, hzq =>
      cases htq
      have H := H.2.2.2.2.1 (by omega)
      refine hw_ald (b := 2) (e := 0) (by decide +kernel) rfl (by decide) ?_
      refine hw_ld (b := 3) (e := 0) (by decide +kernel) rfl ?_
      refine hr_call (a0 := 14) (b := 108) (e := 2) (nl := 4) (As := [(0, v3)]) (R := []) 17 rfl (by decide +kernel) rfl rfl (Nat.le_of_ble_eq_true rfl) (Nat.le_of_ble_eq_true rfl) ?_
      refine hw_mono H ?_
      rintro r ψ19 y19 ⟨hyx, hψx, z19, hr, H⟩
      subst hyx
      subst hψx
      subst hr
      refine ⟨hne0, ?_⟩
      show hw sc (d + 2) 154 119 [(0, (2, 26)), (1, (0, v1)), (2, (2, 17)), (3, (0, v3))] [(0, z19)] φ y19 Q
      refine hw_ald (b := 0) (e := 0) (by decide +kernel) rfl (by decide) ?_
      refine hr_gr (w := 29) (b := 5) (e := 2) 26 rfl (by decide +kernel) ?_
      refine hw_ld (b := 1) (e := 0) (by decide +kernel) rfl ?_
      obtain ⟨hl20, hu20, H⟩ := H
      refine hr_al (b := 0) (a0 := 0) (e := 0) (n := 40) (w := φ 29 ((v1).toNat)) 29 rfl (by decide +kernel) (by decide) hl20 hu20 rfl ?_
      refine hw_bin (w := hb_shr z19 (φ 29 ((v1).toNat))) (a0 := 0) (b := 7) (e := 0) (by decide +kernel) rfl ?_
      refine hw_k (c := 1) (b := 0) (e := 1) (by decide +kernel) ?_
      refine hw_bin (w := hb_and (hb_shr z19 (φ 29 ((v1).toNat))) 1) (a0 := 0) (b := 3) (e := 0) (by decide +kernel) rfl ?_
      obtain ⟨hz21, ht21, hf21⟩ := H
      refine hw_if (a0 := 0) (b := 0) (e := 135) (by decide +kernel) hz21 (fun q => ?_) (fun q => ?_)
      · have H := ht21 q
        refine hw_k (c := 0) (b := 0) (e := 1) (by decide +kernel) ?_
        exact hw_ret (a0 := 0) (e := 1) (by decide +kernel) (Or.inr ⟨rfl, by decide⟩) H
      · have H := hf21 q
        refine hw_k (c := 1) (b := 0) (e := 1) (by decide +kernel) ?_
        refine hw_goto (a0 := 0) (b := 0) (e := 136) (by decide +kernel) ?_
        exact hw_ret (a0 := 0) (e := 1) (by decide +kernel) (Or.inr ⟨rfl, by decide⟩) H
    | 5, htq, hzq =>
      cases htq
      have H := H.2.2.2.2.2.1 (by omega)
      refine hw_ald (b := 2) (e := 0) (by decide +kernel) rfl (by decide) ?_
      refine hr_gr (w := 24) (b := 4) (e := 12) 17 rfl (by decide +kernel) ?_
      refine hw_ld (b := 3) (e := 0) (by decide +kernel) rfl ?_
      obtain ⟨hl24, hu24, H⟩ := H
      refine hr_al (b := 0) (a0 := 0) (e := 0) (n := 6) (w := φ 24 ((v3).toNat)) 24 rfl (by decide +kernel) (by decide) hl24 hu24 rfl ?_
      refine hw_ald (b := 0) (e := 0) (by decide +kernel) rfl (by decide) ?_
      refine hr_gr (w := 28) (b := 5) (e := 1) 26 rfl (by decide +kernel) ?_
      refine hw_ld (b := 1) (e := 0) (by decide +kernel) rfl ?_
      obtain ⟨hl25, hu25, H⟩ := H
      refine hr_al (b := 0) (a0 := 0) (e := 0) (n := 40) (w := φ 28 ((v1).toNat)) 28 rfl (by decide +kernel) (by decide) hl25 hu25 rfl ?_
      refine hw_ald (b := 0) (e := 0) (by decide +kernel) rfl (by decide) ?_
      refine hr_gr (w := 29) (b := 5) (e := 2) 26 rfl (by decide +kernel) ?_
      refine hw_ld (b := 1) (e := 0) (by decide +kernel) rfl ?_
      obtain ⟨hl26, hu26, H⟩ := H
      refine hr_al (b := 0) (a0 := 0) (e := 0) (n := 40) (w := φ 29 ((v1).toNat)) 29 rfl (by decide +kernel) (by decide) hl26 hu26 rfl ?_
      refine hr_calls (b := 155) (e := 3) (nl := 3) (As := [(0, φ 24 ((v3).toNat)), (0, φ 28 ((v1).toNat)), (0, φ 29 ((v1).toNat))]) (R := []) (by decide +kernel) rfl rfl (Nat.le_of_ble_eq_true rfl) (Nat.le_of_ble_eq_true rfl) ?_
      refine hw_mono H ?_
      rintro r ψ27 y27 ⟨hyx, hψx, z27, hr, H⟩
      subst hyx
      subst hψx
      subst hr
      refine ⟨hne0, ?_⟩
      show hw sc (d + 2) 154 158 [(0, (2, 26)), (1, (0, v1)), (2, (2, 17)), (3, (0, v3))] [(0, z27)] φ y27 Q
      exact hw_ret (a0 := 0) (e := 1) (by decide +kernel) (Or.inr ⟨rfl, H.1⟩) H.2
    | 6, htq, hzq =>
      cases htq
      have H := H.2.2.2.2.2.2.1 (by omega)
      refine hw_ald (b := 2) (e := 0) (by decide +kernel) rfl (by decide) ?_
      refine hr_gr (w := 21) (b := 4) (e := 9) 17 rfl (by decide +kernel) ?_
      refine hw_ld (b := 3) (e := 0) (by decide +kernel) rfl ?_
      obtain ⟨hl29, hu29, H⟩ := H
      refine hr_al (b := 0) (a0 := 0) (e := 0) (n := 6) (w := φ 21 ((v3).toNat)) 21 rfl (by decide +kernel) (by decide) hl29 hu29 rfl ?_
      refine hw_ald (b := 0) (e := 0) (by decide +kernel) rfl (by decide) ?_
      refine hr_gr (w := 28) (b := 5) (e := 1) 26 rfl (by decide +kernel) ?_
      refine hw_ld (b := 1) (e := 0) (by decide +kernel) rfl ?_
      obtain ⟨hl30, hu30, H⟩ := H
      refine hr_al (b := 0) (a0 := 0) (e := 0) (n := 40) (w := φ 28 ((v1).toNat)) 28 rfl (by decide +kernel) (by decide) hl30 hu30 rfl ?_
      refine hw_ald (b := 0) (e := 0) (by decide +kernel) rfl (by decide) ?_
      refine hr_gr (w := 29) (b := 5) (e := 2) 26 rfl (by decide +kernel) ?_
      refine hw_ld (b := 1) (e := 0) (by decide +kernel) rfl ?_
      obtain ⟨hl31, hu31, H⟩ := H
      refine hr_al (b := 0) (a0 := 0) (e := 0) (n := 40) (w := φ 29 ((v1).toNat)) 29 rfl (by decide +kernel) (by decide) hl31 hu31 rfl ?_
      refine hr_calls (b := 155) (e := 3) (nl := 3) (As := [(0, φ 21 ((v3).toNat)), (0, φ 28 ((v1).toNat)), (0, φ 29 ((v1).toNat))]) (R := []) (by decide +kernel) rfl rfl (Nat.le_of_ble_eq_true rfl) (Nat.le_of_ble_eq_true rfl) ?_
      refine hw_mono H ?_
      rintro r ψ32 y32 ⟨hyx, hψx, z32, hr, H⟩
      subst hyx
      subst hψx
      subst hr
      refine ⟨hne0, ?_⟩
      show hw sc (d + 2) 154 180 [(0, (2, 26)), (1, (0, v1)), (2, (2, 17)), (3, (0, v3))] [(0, z32)] φ y32 Q
      exact hw_ret (a0 := 0) (e := 1) (by decide +kernel) (Or.inr ⟨rfl, H.1⟩) H.2
    | kq + 7, htq, _ => cases htq
theorem sf_154_26_17 {sc : List Int} {d : Nat} {φ : hf_F} {x : Nat} {Q : Option jm_V → hf_F → Nat → Prop} {v1 v3 : Int} (hI : Inv φ) (h1a : 0 ≤ v1) (h1b : v1 ≤ 39) (h3a : 0 ≤ v3) (h3b : v3 ≤ 5) (hQ : ∀ (r : Int), 0 ≤ r ∧ r ≤ 1 → F_Sentence_isTrue_26_17 φ v1 v3 = r → Q (some (0, r)) φ x) : hw sc (d + 2) 154 0 [(0, (2, 26)), (1, (0, v1)), (2, (2, 17)), (3, (0, v3))] [] φ x Q := by
  apply sf_154_26_17_v
  have e0 : F_Sentence_isTrue_26_17 φ v1 v3 = _ := rfl
  refine ⟨by omega, by omega, ?_⟩
  have f1 := iv_ar (a := 27) (s := 0) (t := 40) (lo := 0) (u := 22) (z := v1) hI (by decide +kernel) (by omega) (by omega)
  refine ⟨by unfold hi; omega, fun q2 => ?_, fun q2 => ?_, fun q2 => ?_, fun q2 => ?_, fun q2 => ?_, fun q2 => ?_, fun q2 => ?_, fun q2 => ?_⟩
  · skip
    have e2_0 := (e0).trans (if_pos q2)
    refine ⟨by omega, by omega, ?_⟩
    have f2 := iv_ar (a := 20) (s := 0) (t := 6) (lo := (-1 : Int)) (u := 7) (z := v3) hI (by decide +kernel) (by omega) (by omega)
    refine ⟨by unfold hi; omega, by unfold hi; omega, fun q4 => ?_, fun q4 => ?_⟩
    · skip
      have e4a := e2_0.trans (if_pos q4)
      exact hQ 0 ⟨by omega, by omega⟩ e4a
    · skip
      have e4b := e2_0.trans (if_neg q4)
      exact hQ 1 ⟨by omega, by omega⟩ e4b
  · skip
    have e2_1 := ((e0).trans (if_neg (by omega))).trans (if_pos q2)
    refine ⟨by omega, by omega, ?_⟩
    have f3 := iv_ar (a := 21) (s := 0) (t := 6) (lo := 0) (u := 6) (z := v3) hI (by decide +kernel) (by omega) (by omega)
    refine ⟨by unfold hi; omega, fun q8 => ?_, fun q8 => ?_⟩
    · skip
      have e8a := e2_1.trans (if_pos q8)
      exact hQ 0 ⟨by omega, by omega⟩ e8a
    · skip
      have e8b := e2_1.trans (if_neg q8)
      exact hQ 1 ⟨by omega, by omega⟩ e8b
  · skip
    have e2_2 := (((e0).trans (if_neg (by omega))).trans (if_neg (by omega))).trans (if_pos q2)
    have f4 := iv_at (a := 17) (k := 2) (lo := (-1 : Int)) (u := 5) hI (by decide +kernel)
    refine ⟨by unfold hi; omega, by unfold hi; omega, fun q11 => ?_, fun q11 => ?_⟩
    · skip
      have e11a := e2_2.trans (if_pos q11)
      exact hQ 0 ⟨by omega, by omega⟩ e11a
    · skip
      have e11b := e2_2.trans (if_neg q11)
      exact hQ 1 ⟨by omega, by omega⟩ e11b
  · skip
    have e2_3 := ((((e0).trans (if_neg (by omega))).trans (if_neg (by omega))).trans (if_neg (by omega))).trans (if_pos q2)
    refine ⟨by omega, by omega, ?_⟩
    have f5 := iv_ar (a := 20) (s := 0) (t := 6) (lo := (-1 : Int)) (u := 7) (z := v3) hI (by decide +kernel) (by omega) (by omega)
    refine ⟨by omega, by omega, ?_⟩
    have f6 := iv_ar (a := 29) (s := 0) (t := 40) (lo := 0) (u := 999) (z := v1) hI (by decide +kernel) (by omega) (by omega)
    refine ⟨by unfold hi; omega, by unfold hi; omega, fun q16 => ?_, fun q16 => ?_⟩
    · skip
      have e16a := e2_3.trans (if_pos q16)
      exact hQ 0 ⟨by omega, by omega⟩ e16a
    · skip
      have e16b := e2_3.trans (if_neg q16)
      exact hQ 1 ⟨by omega, by omega⟩ e16b
  · skip
    have e2_4 := (((((e0).trans (if_neg (by omega))).trans (if_neg (by omega))).trans (if_neg (by omega))).trans (if_neg (by omega))).trans (if_pos q2)
    refine sf_108_17 (φ := φ) hI (by omega) (by omega) (fun z19 hp19 hE19 => ⟨rfl, rfl, z19, rfl, ?_⟩)
    have e19 := e2_4.trans (bnp_e hE19)
    refine ⟨by omega, by omega, ?_⟩
    have f7 := iv_ar (a := 29) (s := 0) (t := 40) (lo := 0) (u := 999) (z := v1) hI (by decide +kernel) (by omega) (by omega)
    have f8 := hr_shr0 z19 (φ 29 ((v1).toNat))
    have f9 := hr_shr z19 (φ 29 ((v1).toNat))
    have f10 := hr_and0 (hb_shr z19 (φ 29 ((v1).toNat))) 1
    have f11 := hr_and1 (hb_shr z19 (φ 29 ((v1).toNat)))
    have f12 := hr_and (hb_shr z19 (φ 29 ((v1).toNat))) 1
    refine ⟨by unfold hi; omega, fun q21 => ?_, fun q21 => ?_⟩
    · skip
      have e21a := e19.trans (if_pos q21)
      exact hQ 0 ⟨by omega, by omega⟩ e21a
    · skip
      have e21b := e19.trans (if_neg q21)
      exact hQ 1 ⟨by omega, by omega⟩ e21b
  · skip
    have e2_5 := ((((((e0).trans (if_neg (by omega))).trans (if_neg (by omega))).trans (if_neg (by omega))).trans (if_neg (by omega))).trans (if_neg (by omega))).trans (if_pos q2)
    refine ⟨by omega, by omega, ?_⟩
    refine ⟨by omega, by omega, ?_⟩
    have f13 := iv_ar (a := 28) (s := 0) (t := 40) (lo := 0) (u := 62) (z := v1) hI (by decide +kernel) (by omega) (by omega)
    refine ⟨by omega, by omega, ?_⟩
    have f14 := iv_ar (a := 29) (s := 0) (t := 40) (lo := 0) (u := 999) (z := v1) hI (by decide +kernel) (by omega) (by omega)
    refine sf_155 (φ := φ) hI (by omega) (by omega) (by omega) (by omega) (fun z27 hp27 hE27 => ⟨rfl, rfl, z27, rfl, ?_⟩)
    have e27 := e2_5.trans (bnp_e hE27)
    refine ⟨by omega, ?_⟩
    exact hQ z27 ⟨by omega, by omega⟩ e27
  · skip
    have e2_6 := (((((((e0).trans (if_neg (by omega))).trans (if_neg (by omega))).trans (if_neg (by omega))).trans (if_neg (by omega))).trans (if_neg (by omega))).trans (if_neg (by omega))).trans (if_pos q2)
    refine ⟨by omega, by omega, ?_⟩
    have f15 := iv_ar (a := 21) (s := 0) (t := 6) (lo := 0) (u := 6) (z := v3) hI (by decide +kernel) (by omega) (by omega)
    refine ⟨by omega, by omega, ?_⟩
    have f16 := iv_ar (a := 28) (s := 0) (t := 40) (lo := 0) (u := 62) (z := v1) hI (by decide +kernel) (by omega) (by omega)
    refine ⟨by omega, by omega, ?_⟩
    have f17 := iv_ar (a := 29) (s := 0) (t := 40) (lo := 0) (u := 999) (z := v1) hI (by decide +kernel) (by omega) (by omega)
    refine sf_155 (φ := φ) hI (by omega) (by omega) (by omega) (by omega) (fun z32 hp32 hE32 => ⟨rfl, rfl, z32, rfl, ?_⟩)
    have e32 := e2_6.trans (bnp_e hE32)
    refine ⟨by omega, ?_⟩
    exact hQ z32 ⟨by omega, by omega⟩ e32
  · skip
    have e2_7 := (((((((e0).trans (if_neg (by omega))).trans (if_neg (by omega))).trans (if_neg (by omega))).trans (if_neg (by omega))).trans (if_neg (by omega))).trans (if_neg (by omega))).trans (if_neg (by omega))
    refine ⟨by omega, by omega, ?_⟩
    have f18 := iv_ar (a := 28) (s := 0) (t := 40) (lo := 0) (u := 62) (z := v1) hI (by decide +kernel) (by omega) (by omega)
    refine ⟨by omega, by omega, ?_⟩
    have f19 := iv_ar (a := 29) (s := 0) (t := 40) (lo := 0) (u := 999) (z := v1) hI (by decide +kernel) (by omega) (by omega)
    refine sf_155 (φ := φ) hI (by omega) (by omega) (by omega) (by omega) (fun z36 hp36 hE36 => ⟨rfl, rfl, z36, rfl, ?_⟩)
    have e36 := e2_7.trans (bnp_e hE36)
    refine ⟨by omega, ?_⟩
    exact hQ z36 ⟨by omega, by omega⟩ e36
theorem sf_153_26_17_v5 {sc : List Int} {d : Nat} {φ : hf_F} {x : Nat} {Q : Option jm_V → hf_F → Nat → Prop} {L : jm_L} {l2 l3 l4 : Int} (g0 : jm_get L 0 = some (2, 26)) (g1 : jm_get L 1 = some (2, 17)) (g2 : jm_get L 2 = some (0, l2)) (g3 : jm_get L 3 = some (0, l3)) (g4 : jm_get L 4 = some (0, l4))
    (H : hi l4 ∧ hi (φ 26 3) ∧ ((φ 26 3) ≤ l4 → hi (hb_and l3 1) ∧ ((hb_and l3 1) = 0 → Q (some (0, 0)) φ x) ∧ (¬ (hb_and l3 1) = 0 → Q (some (0, 1)) φ x)) ∧ (¬ (φ 26 3) ≤ l4 → 0 ≤ l4 ∧ l4 < 40 ∧ (hi (φ 27 ((l4).toNat)) ∧ ((φ 27 ((l4).toNat)) = 12 → hw sc (d + 3) 153 5 (jm_st1 (jm_st1 L 3 (0, hb_or (hb_shl (hb_shr l3 2) 1) (hb_and (hb_or (hb_shr l3 1) l3) 1))) 4 (0, l4 + 1)) [] φ x Q) ∧ ((φ 27 ((l4).toNat)) = 13 → hw sc (d + 3) 153 5 (jm_st1 (jm_st1 L 3 (0, hb_or (hb_shl (hb_shr l3 2) 1) (hb_and (hb_and (hb_shr l3 1) l3) 1))) 4 (0, l4 + 1)) [] φ x Q) ∧ ((φ 27 ((l4).toNat)) = 14 → hw sc (d + 3) 153 5 (jm_st1 (jm_st1 L 3 (0, hb_xor l3 1)) 4 (0, l4 + 1)) [] φ x Q) ∧ (((φ 27 ((l4).toNat)) < 12 ∨ 15 ≤ (φ 27 ((l4).toNat))) → hw sc (d + 2) 154 0 [(0, (2, 26)), (1, (0, l4)), (2, (2, 17)), (3, (0, l2))] [] φ x (fun r ψ7 y7 => y7 = x ∧ φ = ψ7 ∧ (∃ z7 : Int, r = some (0, z7) ∧ (hi z7 ∧ (z7 = 0 → hw sc (d + 3) 153 5 (jm_st1 (jm_st1 L 3 (0, hb_or (hb_shl l3 1) 0)) 4 (0, l4 + 1)) [] φ x Q) ∧ (¬ z7 = 0 → hw sc (d + 3) 153 5 (jm_st1 (jm_st1 L 3 (0, hb_or (hb_shl l3 1) 1)) 4 (0, l4 + 1)) [] φ x Q)))))))) :
    hw sc (d + 3) 153 5 L [] φ x Q := by
  refine hw_ld (b := 4) (e := 1) (by decide +kernel) g4 ?_
  refine hw_ald (b := 0) (e := 0) (by decide +kernel) g0 (by decide) ?_
  refine hr_gi (w := φ 26 3) (b := 5) (e := 3) 26 rfl (by decide +kernel) rfl ?_
  obtain ⟨hz1, hy1, ht1, hf1⟩ := H
  refine hw_if2 (a0 := 0) (b := 3) (e := 116) (by decide +kernel) hz1 hy1 (fun q => ?_) (fun q => ?_)
  · have H := ht1 q
    refine hw_ld (b := 3) (e := 0) (by decide +kernel) g3 ?_
    refine hw_k (c := 1) (b := 0) (e := 1) (by decide +kernel) ?_
    refine hw_bin (w := hb_and l3 1) (a0 := 0) (b := 3) (e := 0) (by decide +kernel) rfl ?_
    obtain ⟨hz2, ht2, hf2⟩ := H
    refine hw_if (a0 := 0) (b := 0) (e := 126) (by decide +kernel) hz2 (fun q => ?_) (fun q => ?_)
    · have H := ht2 q
      refine hw_k (c := 0) (b := 0) (e := 1) (by decide +kernel) ?_
      exact hw_ret (a0 := 0) (e := 1) (by decide +kernel) (Or.inr ⟨rfl, by decide⟩) H
    · have H := hf2 q
      refine hw_k (c := 1) (b := 0) (e := 1) (by decide +kernel) ?_
      refine hw_goto (a0 := 0) (b := 0) (e := 127) (by decide +kernel) ?_
      exact hw_ret (a0 := 0) (e := 1) (by decide +kernel) (Or.inr ⟨rfl, by decide⟩) H
  · have H := hf1 q
    refine hw_ald (b := 0) (e := 0) (by decide +kernel) g0 (by decide) ?_
    refine hr_gr (w := 27) (b := 5) (e := 0) 26 rfl (by decide +kernel) ?_
    refine hw_ld (b := 4) (e := 1) (by decide +kernel) g4 ?_
    obtain ⟨hl5, hu5, H⟩ := H
    refine hr_al (b := 0) (a0 := 0) (e := 0) (n := 40) (w := φ 27 ((l4).toNat)) 27 rfl (by decide +kernel) (by decide) hl5 hu5 rfl ?_
    obtain ⟨hz6, H⟩ := H
    refine hr_tsw (T := [72, 55, 48]) (lo := 12) (nn := 15) (b := 89) (e := 6) (by decide +kernel) rfl hz6 ?_ ?_
    · intro q
      have H := H.2.2.2 q
      refine hw_ld (b := 3) (e := 0) (by decide +kernel) g3 ?_
      refine hw_k (c := 1) (b := 0) (e := 1) (by decide +kernel) ?_
      refine hw_bin (w := hb_shl l3 1) (a0 := 0) (b := 6) (e := 0) (by decide +kernel) rfl ?_
      refine hw_ald (b := 0) (e := 0) (by decide +kernel) g0 (by decide) ?_
      refine hw_ld (b := 4) (e := 1) (by decide +kernel) g4 ?_
      refine hw_ald (b := 1) (e := 0) (by decide +kernel) g1 (by decide) ?_
      refine hw_ld (b := 2) (e := 0) (by decide +kernel) g2 ?_
      refine hr_call (a0 := 15) (b := 154) (e := 4) (nl := 4) (As := [(0, l4), (2, 17), (0, l2)]) (R := [(0, hb_shl l3 1)]) 26 rfl (by decide +kernel) rfl rfl (Nat.le_of_ble_eq_true rfl) (Nat.le_of_ble_eq_true rfl) ?_
      refine hw_mono H ?_
      rintro r ψ7 y7 ⟨hyx, hψx, z7, hr, H⟩
      subst hyx
      subst hψx
      subst hr
      refine ⟨hne0, ?_⟩
      show hw sc (d + 3) 153 100 L [(0, z7), (0, hb_shl l3 1)] φ y7 Q
      obtain ⟨hz8, ht8, hf8⟩ := H
      refine hw_if (a0 := 0) (b := 0) (e := 107) (by decide +kernel) hz8 (fun q => ?_) (fun q => ?_)
      · have H := ht8 q
        refine hw_k (c := 0) (b := 0) (e := 1) (by decide +kernel) ?_
        refine hw_bin (w := hb_or (hb_shl l3 1) 0) (a0 := 0) (b := 4) (e := 0) (by decide +kernel) rfl ?_
        refine hw_st (L' := (jm_st1 L 3 (0, hb_or (hb_shl l3 1) 0))) (b := 3) (e := 0) (by decide +kernel) rfl ?_
        refine hw_inc (L' := (jm_st1 (jm_st1 L 3 (0, hb_or (hb_shl l3 1) 0)) 4 (0, l4 + 1))) (c := 1) (b := 4) (e := 0) (by decide +kernel) (get_st1 g4 (by decide) (fun q => absurd q.1 (by decide))) rfl ?_
        refine hw_goto (a0 := 0) (b := 0) (e := 5) (by decide +kernel) ?_
        exact H
      · have H := hf8 q
        refine hw_k (c := 1) (b := 0) (e := 1) (by decide +kernel) ?_
        refine hw_goto (a0 := 0) (b := 0) (e := 108) (by decide +kernel) ?_
        refine hw_bin (w := hb_or (hb_shl l3 1) 1) (a0 := 0) (b := 4) (e := 0) (by decide +kernel) rfl ?_
        refine hw_st (L' := (jm_st1 L 3 (0, hb_or (hb_shl l3 1) 1))) (b := 3) (e := 0) (by decide +kernel) rfl ?_
        refine hw_inc (L' := (jm_st1 (jm_st1 L 3 (0, hb_or (hb_shl l3 1) 1)) 4 (0, l4 + 1))) (c := 1) (b := 4) (e := 0) (by decide +kernel) (get_st1 g4 (by decide) (fun q => absurd q.1 (by decide))) rfl ?_
        refine hw_goto (a0 := 0) (b := 0) (e := 5) (by decide +kernel) ?_
        exact H
    · intro kq tq htq hzq
      match kq, htq, hzq with
      | 0, htq, hzq =>
        cases htq
        have H := H.1 (by omega)
        refine hw_ld (b := 3) (e := 0) (by decide +kernel) g3 ?_
        refine hw_k (c := 2) (b := 0) (e := 1) (by decide +kernel) ?_
        refine hw_bin (w := hb_shr l3 2) (a0 := 0) (b := 7) (e := 0) (by decide +kernel) rfl ?_
        refine hw_k (c := 1) (b := 0) (e := 1) (by decide +kernel) ?_
        refine hw_bin (w := hb_shl (hb_shr l3 2) 1) (a0 := 0) (b := 6) (e := 0) (by decide +kernel) rfl ?_
        refine hw_ld (b := 3) (e := 0) (by decide +kernel) g3 ?_
        refine hw_k (c := 1) (b := 0) (e := 1) (by decide +kernel) ?_
        refine hw_bin (w := hb_shr l3 1) (a0 := 0) (b := 7) (e := 0) (by decide +kernel) rfl ?_
        refine hw_ld (b := 3) (e := 0) (by decide +kernel) g3 ?_
        refine hw_bin (w := hb_or (hb_shr l3 1) l3) (a0 := 0) (b := 4) (e := 0) (by decide +kernel) rfl ?_
        refine hw_k (c := 1) (b := 0) (e := 1) (by decide +kernel) ?_
        refine hw_bin (w := hb_and (hb_or (hb_shr l3 1) l3) 1) (a0 := 0) (b := 3) (e := 0) (by decide +kernel) rfl ?_
        refine hw_bin (w := hb_or (hb_shl (hb_shr l3 2) 1) (hb_and (hb_or (hb_shr l3 1) l3) 1)) (a0 := 0) (b := 4) (e := 0) (by decide +kernel) rfl ?_
        refine hw_st (L' := (jm_st1 L 3 (0, hb_or (hb_shl (hb_shr l3 2) 1) (hb_and (hb_or (hb_shr l3 1) l3) 1)))) (b := 3) (e := 0) (by decide +kernel) rfl ?_
        refine hw_goto (a0 := 0) (b := 0) (e := 110) (by decide +kernel) ?_
        refine hw_inc (L' := (jm_st1 (jm_st1 L 3 (0, hb_or (hb_shl (hb_shr l3 2) 1) (hb_and (hb_or (hb_shr l3 1) l3) 1))) 4 (0, l4 + 1))) (c := 1) (b := 4) (e := 0) (by decide +kernel) (get_st1 g4 (by decide) (fun q => absurd q.1 (by decide))) rfl ?_
        refine hw_goto (a0 := 0) (b := 0) (e := 5) (by decide +kernel) ?_
        exact H
      | 1, htq, hzq =>
        cases htq
        have H := H.2.1 (by omega)
        refine hw_ld (b := 3) (e := 0) (by decide +kernel) g3 ?_
        refine hw_k (c := 2) (b := 0) (e := 1) (by decide +kernel) ?_
        refine hw_bin (w := hb_shr l3 2) (a0 := 0) (b := 7) (e := 0) (by decide +kernel) rfl ?_
        refine hw_k (c := 1) (b := 0) (e := 1) (by decide +kernel) ?_
        refine hw_bin (w := hb_shl (hb_shr l3 2) 1) (a0 := 0) (b := 6) (e := 0) (by decide +kernel) rfl ?_
        refine hw_ld (b := 3) (e := 0) (by decide +kernel) g3 ?_
        refine hw_k (c := 1) (b := 0) (e := 1) (by decide +kernel) ?_
        refine hw_bin (w := hb_shr l3 1) (a0 := 0) (b := 7) (e := 0) (by decide +kernel) rfl ?_
        refine hw_ld (b := 3) (e := 0) (by decide +kernel) g3 ?_
        refine hw_bin (w := hb_and (hb_shr l3 1) l3) (a0 := 0) (b := 3) (e := 0) (by decide +kernel) rfl ?_
        refine hw_k (c := 1) (b := 0) (e := 1) (by decide +kernel) ?_
        refine hw_bin (w := hb_and (hb_and (hb_shr l3 1) l3) 1) (a0 := 0) (b := 3) (e := 0) (by decide +kernel) rfl ?_
        refine hw_bin (w := hb_or (hb_shl (hb_shr l3 2) 1) (hb_and (hb_and (hb_shr l3 1) l3) 1)) (a0 := 0) (b := 4) (e := 0) (by decide +kernel) rfl ?_
        refine hw_st (L' := (jm_st1 L 3 (0, hb_or (hb_shl (hb_shr l3 2) 1) (hb_and (hb_and (hb_shr l3 1) l3) 1)))) (b := 3) (e := 0) (by decide +kernel) rfl ?_
        refine hw_goto (a0 := 0) (b := 0) (e := 110) (by decide +kernel) ?_
        refine hw_inc (L' := (jm_st1 (jm_st1 L 3 (0, hb_or (hb_shl (hb_shr l3 2) 1) (hb_and (hb_and (hb_shr l3 1) l3) 1))) 4 (0, l4 + 1))) (c := 1) (b := 4) (e := 0) (by decide +kernel) (get_st1 g4 (by decide) (fun q => absurd q.1 (by decide))) rfl ?_
        refine hw_goto (a0 := 0) (b := 0) (e := 5) (by decide +kernel) ?_
        exact H
      | 2, htq, hzq =>
        cases htq
        have H := H.2.2.1 (by omega)
        refine hw_ld (b := 3) (e := 0) (by decide +kernel) g3 ?_
        refine hw_k (c := 1) (b := 0) (e := 1) (by decide +kernel) ?_
        refine hw_bin (w := hb_xor l3 1) (a0 := 0) (b := 5) (e := 0) (by decide +kernel) rfl ?_
        refine hw_st (L' := (jm_st1 L 3 (0, hb_xor l3 1))) (b := 3) (e := 0) (by decide +kernel) rfl ?_
        refine hw_goto (a0 := 0) (b := 0) (e := 110) (by decide +kernel) ?_
        refine hw_inc (L' := (jm_st1 (jm_st1 L 3 (0, hb_xor l3 1)) 4 (0, l4 + 1))) (c := 1) (b := 4) (e := 0) (by decide +kernel) (get_st1 g4 (by decide) (fun q => absurd q.1 (by decide))) rfl ?_
        refine hw_goto (a0 := 0) (b := 0) (e := 5) (by decide +kernel) ?_
        exact H
      | kq + 3, htq, _ => cases htq
theorem sf_153_26_17_l5 {sc : List Int} {d x : Nat} {Q : Option jm_V → hf_F → Nat → Prop} : ∀ (n : Nat) (φ : hf_F) (L : jm_L) (l2 l3 l4 : Int), jm_get L 0 = some (2, 26) → jm_get L 1 = some (2, 17) → jm_get L 2 = some (0, l2) → jm_get L 3 = some (0, l3) → jm_get L 4 = some (0, l4) → Inv φ → 40 - l4 < (n : Int) → 0 ≤ l2 → l2 ≤ 5 → (-2147483648 : Int) ≤ l3 → l3 ≤ 2147483647 → 0 ≤ l4 → l4 ≤ 40 → (∀ (r : Int), 0 ≤ r ∧ r ≤ 1 → F_Sentence_fits_26_17_l5 n φ l2 l3 l4 = r → Q (some (0, r)) φ x) → hw sc (d + 3) 153 5 L [] φ x Q := by
  intro n
  induction n with
  | zero =>
    intro φ L l2 l3 l4 g0 g1 g2 g3 g4 hI hM b2a b2b b3a b3b b4a b4b hQ
    exfalso
    omega
  | succ n ih =>
    intro φ L l2 l3 l4 g0 g1 g2 g3 g4 hI hM b2a b2b b3a b3b b4a b4b hQ
    refine sf_153_26_17_v5 g0 g1 g2 g3 g4 ?_
    have e0 := F_Sentence_fits_26_17_l5_s (φ := φ) (l2 := l2) (l3 := l3) (l4 := l4) n
    have f1 := iv_at (a := 26) (k := 3) (lo := 0) (u := 40) hI (by decide +kernel)
    refine ⟨by unfold hi; omega, by unfold hi; omega, fun q1 => ?_, fun q1 => ?_⟩
    · skip
      have e1a := e0.trans (if_pos q1)
      have f2 := hr_and0 l3 1
      have f3 := hr_and1 l3
      have f4 := hr_and l3 1
      refine ⟨by unfold hi; omega, fun q2 => ?_, fun q2 => ?_⟩
      · skip
        have e2a := e1a.trans (if_pos q2)
        exact hQ 0 ⟨by omega, by omega⟩ e2a
      · skip
        have e2b := e1a.trans (if_neg q2)
        exact hQ 1 ⟨by omega, by omega⟩ e2b
    · skip
      have e1b := e0.trans (if_neg q1)
      refine ⟨by omega, by omega, ?_⟩
      have f5 := iv_ar (a := 27) (s := 0) (t := 40) (lo := 0) (u := 22) (z := l4) hI (by decide +kernel) (by omega) (by omega)
      refine ⟨by unfold hi; omega, fun q6 => ?_, fun q6 => ?_, fun q6 => ?_, fun q6 => ?_⟩
      · skip
        have e6_0 := (e1b).trans (if_pos q6)
        have f6 := hr_shr0 l3 2
        have f7 := hr_shr l3 2
        have f8 := hr_shl (hb_shr l3 2) 1
        have f9 := hr_shr0 l3 1
        have f10 := hr_shr l3 1
        have f11 := hr_or (hb_shr l3 1) l3
        have f12 := hr_and0 (hb_or (hb_shr l3 1) l3) 1
        have f13 := hr_and1 (hb_or (hb_shr l3 1) l3)
        have f14 := hr_and (hb_or (hb_shr l3 1) l3) 1
        have f15 := hr_or (hb_shl (hb_shr l3 2) 1) (hb_and (hb_or (hb_shr l3 1) l3) 1)
        exact ih φ (jm_st1 (jm_st1 L 3 (0, hb_or (hb_shl (hb_shr l3 2) 1) (hb_and (hb_or (hb_shr l3 1) l3) 1))) 4 (0, l4 + 1)) l2 (hb_or (hb_shl (hb_shr l3 2) 1) (hb_and (hb_or (hb_shr l3 1) l3) 1)) (l4 + 1) (get_st1 (get_st1 g0 (by decide) (fun q => absurd q.1 (by decide))) (by decide) (fun q => absurd q.1 (by decide))) (get_st1 (get_st1 g1 (by decide) (fun q => absurd q.1 (by decide))) (by decide) (fun q => absurd q.1 (by decide))) (get_st1 (get_st1 g2 (by decide) (fun q => tg0 q.2)) (by decide) (fun q => absurd q.1 (by decide))) (get_st1 get_st1e (by decide) (fun q => tg0 q.2)) get_st1e hI (by omega) (by omega) (by omega) (by omega) (by omega) (by omega) (by omega) (fun rr hpχ hEχ => hQ rr hpχ (e6_0.trans hEχ))
      · skip
        have e6_1 := ((e1b).trans (if_neg (by omega))).trans (if_pos q6)
        have f16 := hr_shr0 l3 2
        have f17 := hr_shr l3 2
        have f18 := hr_shl (hb_shr l3 2) 1
        have f19 := hr_shr0 l3 1
        have f20 := hr_shr l3 1
        have f21 := hr_and0 (hb_shr l3 1) l3
        have f22 := hr_and (hb_shr l3 1) l3
        have f23 := hr_and0 (hb_and (hb_shr l3 1) l3) 1
        have f24 := hr_and1 (hb_and (hb_shr l3 1) l3)
        have f25 := hr_and (hb_and (hb_shr l3 1) l3) 1
        have f26 := hr_or (hb_shl (hb_shr l3 2) 1) (hb_and (hb_and (hb_shr l3 1) l3) 1)
        exact ih φ (jm_st1 (jm_st1 L 3 (0, hb_or (hb_shl (hb_shr l3 2) 1) (hb_and (hb_and (hb_shr l3 1) l3) 1))) 4 (0, l4 + 1)) l2 (hb_or (hb_shl (hb_shr l3 2) 1) (hb_and (hb_and (hb_shr l3 1) l3) 1)) (l4 + 1) (get_st1 (get_st1 g0 (by decide) (fun q => absurd q.1 (by decide))) (by decide) (fun q => absurd q.1 (by decide))) (get_st1 (get_st1 g1 (by decide) (fun q => absurd q.1 (by decide))) (by decide) (fun q => absurd q.1 (by decide))) (get_st1 (get_st1 g2 (by decide) (fun q => tg0 q.2)) (by decide) (fun q => absurd q.1 (by decide))) (get_st1 get_st1e (by decide) (fun q => tg0 q.2)) get_st1e hI (by omega) (by omega) (by omega) (by omega) (by omega) (by omega) (by omega) (fun rr hpχ hEχ => hQ rr hpχ (e6_1.trans hEχ))
      · skip
        have e6_2 := (((e1b).trans (if_neg (by omega))).trans (if_neg (by omega))).trans (if_pos q6)
        have f27 := hr_xor l3 1
        exact ih φ (jm_st1 (jm_st1 L 3 (0, hb_xor l3 1)) 4 (0, l4 + 1)) l2 (hb_xor l3 1) (l4 + 1) (get_st1 (get_st1 g0 (by decide) (fun q => absurd q.1 (by decide))) (by decide) (fun q => absurd q.1 (by decide))) (get_st1 (get_st1 g1 (by decide) (fun q => absurd q.1 (by decide))) (by decide) (fun q => absurd q.1 (by decide))) (get_st1 (get_st1 g2 (by decide) (fun q => tg0 q.2)) (by decide) (fun q => absurd q.1 (by decide))) (get_st1 get_st1e (by decide) (fun q => tg0 q.2)) get_st1e hI (by omega) (by omega) (by omega) (by omega) (by omega) (by omega) (by omega) (fun rr hpχ hEχ => hQ rr hpχ (e6_2.trans hEχ))
      · skip
        have e6_3 := (((e1b).trans (if_neg (by omega))).trans (if_neg (by omega))).trans (if_neg (by omega))
        have f28 := hr_shl l3 1
        refine sf_154_26_17 (φ := φ) hI (by omega) (by omega) (by omega) (by omega) (fun z7 hp7 hE7 => ⟨rfl, rfl, z7, rfl, ?_⟩)
        have e7 := e6_3.trans (bnp_e hE7)
        refine ⟨by unfold hi; omega, fun q8 => ?_, fun q8 => ?_⟩
        · skip
          have e8a := e7.trans (if_pos q8)
          have f29 := hr_or (hb_shl l3 1) 0
          exact ih φ (jm_st1 (jm_st1 L 3 (0, hb_or (hb_shl l3 1) 0)) 4 (0, l4 + 1)) l2 (hb_or (hb_shl l3 1) 0) (l4 + 1) (get_st1 (get_st1 g0 (by decide) (fun q => absurd q.1 (by decide))) (by decide) (fun q => absurd q.1 (by decide))) (get_st1 (get_st1 g1 (by decide) (fun q => absurd q.1 (by decide))) (by decide) (fun q => absurd q.1 (by decide))) (get_st1 (get_st1 g2 (by decide) (fun q => tg0 q.2)) (by decide) (fun q => absurd q.1 (by decide))) (get_st1 get_st1e (by decide) (fun q => tg0 q.2)) get_st1e hI (by omega) (by omega) (by omega) (by omega) (by omega) (by omega) (by omega) (fun rr hpχ hEχ => hQ rr hpχ (e8a.trans hEχ))
        · skip
          have e8b := e7.trans (if_neg q8)
          have f30 := hr_or (hb_shl l3 1) 1
          exact ih φ (jm_st1 (jm_st1 L 3 (0, hb_or (hb_shl l3 1) 1)) 4 (0, l4 + 1)) l2 (hb_or (hb_shl l3 1) 1) (l4 + 1) (get_st1 (get_st1 g0 (by decide) (fun q => absurd q.1 (by decide))) (by decide) (fun q => absurd q.1 (by decide))) (get_st1 (get_st1 g1 (by decide) (fun q => absurd q.1 (by decide))) (by decide) (fun q => absurd q.1 (by decide))) (get_st1 (get_st1 g2 (by decide) (fun q => tg0 q.2)) (by decide) (fun q => absurd q.1 (by decide))) (get_st1 get_st1e (by decide) (fun q => tg0 q.2)) get_st1e hI (by omega) (by omega) (by omega) (by omega) (by omega) (by omega) (by omega) (fun rr hpχ hEχ => hQ rr hpχ (e8b.trans hEχ))
theorem sf_153_26_17_v {sc : List Int} {d : Nat} {φ : hf_F} {x : Nat} {Q : Option jm_V → hf_F → Nat → Prop} {v2 : Int}
    (H : hw sc (d + 3) 153 5 (jm_st1 (jm_st1 [(0, (2, 26)), (1, (2, 17)), (2, (0, v2))] 3 (0, 0)) 4 (0, 0)) [] φ x Q) :
    hw sc (d + 3) 153 0 [(0, (2, 26)), (1, (2, 17)), (2, (0, v2))] [] φ x Q := by
  refine hw_k (c := 0) (b := 0) (e := 1) (by decide +kernel) ?_
  refine hw_st (L' := (jm_st1 [(0, (2, 26)), (1, (2, 17)), (2, (0, v2))] 3 (0, 0))) (b := 3) (e := 0) (by decide +kernel) rfl ?_
  refine hw_k (c := 0) (b := 0) (e := 1) (by decide +kernel) ?_
  refine hw_st (L' := (jm_st1 (jm_st1 [(0, (2, 26)), (1, (2, 17)), (2, (0, v2))] 3 (0, 0)) 4 (0, 0))) (b := 4) (e := 1) (by decide +kernel) rfl ?_
  exact H
theorem sf_153_26_17 {sc : List Int} {d : Nat} {φ : hf_F} {x : Nat} {Q : Option jm_V → hf_F → Nat → Prop} {v2 : Int} (hI : Inv φ) (h2a : 0 ≤ v2) (h2b : v2 ≤ 5) (hQ : ∀ (r : Int), 0 ≤ r ∧ r ≤ 1 → F_Sentence_fits_26_17 φ v2 = r → Q (some (0, r)) φ x) : hw sc (d + 3) 153 0 [(0, (2, 26)), (1, (2, 17)), (2, (0, v2))] [] φ x Q := by
  apply sf_153_26_17_v
  have e0 : F_Sentence_fits_26_17 φ v2 = _ := rfl
  exact sf_153_26_17_l5 ((40 - 0 : Int).toNat + 1) φ (jm_st1 (jm_st1 [(0, (2, 26)), (1, (2, 17)), (2, (0, v2))] 3 (0, 0)) 4 (0, 0)) v2 0 0 (get_st1 (get_st1 rfl (by decide) (fun q => absurd q.1 (by decide))) (by decide) (fun q => absurd q.1 (by decide))) (get_st1 (get_st1 rfl (by decide) (fun q => absurd q.1 (by decide))) (by decide) (fun q => absurd q.1 (by decide))) (get_st1 (get_st1 rfl (by decide) (fun q => tg0 q.2)) (by decide) (fun q => absurd q.1 (by decide))) (get_st1 get_st1e (by decide) (fun q => tg0 q.2)) get_st1e hI (by omega) (by omega) (by omega) (by omega) (by omega) (by omega) (by omega) (fun rr hpχ hEχ => hQ rr hpχ (e0.trans hEχ))
theorem sf_152_0_v24 {sc : List Int} {d : Nat} {φ : hf_F} {x : Nat} {Q : Option jm_V → hf_F → Nat → Prop} {L : jm_L} {l1 l2 l3 : Int} (g0 : jm_get L 0 = some (2, 0)) (g1 : jm_get L 1 = some (0, l1)) (g2 : jm_get L 2 = some (0, l2)) (g3 : jm_get L 3 = some (0, l3))
    (H : hi l3 ∧ hi (φ 6 3) ∧ ((φ 6 3) ≤ l3 → hi l1 ∧ hi (-1 : Int) ∧ (¬ l1 = (-1 : Int) → Q (some (0, (-1 : Int))) φ x) ∧ (¬ (¬ l1 = (-1 : Int)) → Q (some (0, l2)) φ x)) ∧ (¬ (φ 6 3) ≤ l3 → hw sc (d + 3) 153 0 [(0, (2, 26)), (1, (2, 17)), (2, (0, l3))] [] φ x (fun r ψ5 y5 => y5 = x ∧ φ = ψ5 ∧ (∃ z5 : Int, r = some (0, z5) ∧ (hi z5 ∧ (z5 = 0 → hw sc (d + 4) 152 24 (jm_st1 L 3 (0, l3 + 1)) [] φ x Q) ∧ (¬ z5 = 0 → hi l2 ∧ hi l1 ∧ (¬ l2 = l1 → hw sc (d + 4) 152 24 (jm_st1 (jm_st1 L 2 (0, l2 + 1)) 3 (0, l3 + 1)) [] φ x Q) ∧ (¬ (¬ l2 = l1) → Q (some (0, l3)) φ x))))))) :
    hw sc (d + 4) 152 24 L [] φ x Q := by
  refine hw_ld (b := 3) (e := 0) (by decide +kernel) g3 ?_
  refine hw_ald (b := 0) (e := 0) (by decide +kernel) g0 (by decide) ?_
  refine hr_gr (w := 4) (b := 0) (e := 1) 0 rfl (by decide +kernel) ?_
  refine hr_gr (w := 5) (b := 2) (e := 0) 4 rfl (by decide +kernel) ?_
  refine hr_gr (w := 6) (b := 3) (e := 0) 5 rfl (by decide +kernel) ?_
  refine hw_k (c := 3) (b := 0) (e := 1) (by decide +kernel) ?_
  refine hr_al (b := 0) (a0 := 0) (e := 0) (n := 5) (w := φ 6 3) 6 rfl (by decide +kernel) (by decide) (by decide) (by decide) rfl ?_
  obtain ⟨hz1, hy1, ht1, hf1⟩ := H
  refine hw_if2 (a0 := 0) (b := 3) (e := 77) (by decide +kernel) hz1 hy1 (fun q => ?_) (fun q => ?_)
  · have H := ht1 q
    refine hw_ld (b := 1) (e := 0) (by decide +kernel) g1 ?_
    refine hw_k (c := (-1 : Int)) (b := 0) (e := 1) (by decide +kernel) ?_
    obtain ⟨hz2, hy2, ht2, hf2⟩ := H
    refine hw_if2 (a0 := 0) (b := 1) (e := 86) (by decide +kernel) hz2 hy2 (fun q => ?_) (fun q => ?_)
    · have H := ht2 q
      refine hw_k (c := (-1 : Int)) (b := 0) (e := 1) (by decide +kernel) ?_
      exact hw_ret (a0 := 0) (e := 0) (by decide +kernel) (Or.inl rfl) H
    · have H := hf2 q
      refine hw_ld (b := 2) (e := 0) (by decide +kernel) g2 ?_
      refine hw_goto (a0 := 0) (b := 0) (e := 87) (by decide +kernel) ?_
      exact hw_ret (a0 := 0) (e := 0) (by decide +kernel) (Or.inl rfl) H
  · have H := hf1 q
    refine hw_ald (b := 0) (e := 0) (by decide +kernel) g0 (by decide) ?_
    refine hr_gr (w := 4) (b := 0) (e := 1) 0 rfl (by decide +kernel) ?_
    refine hr_gr (w := 26) (b := 2) (e := 2) 4 rfl (by decide +kernel) ?_
    refine hw_ald (b := 0) (e := 0) (by decide +kernel) g0 (by decide) ?_
    refine hr_gr (w := 4) (b := 0) (e := 1) 0 rfl (by decide +kernel) ?_
    refine hr_gr (w := 17) (b := 2) (e := 1) 4 rfl (by decide +kernel) ?_
    refine hw_ld (b := 3) (e := 0) (by decide +kernel) g3 ?_
    refine hr_call (a0 := 15) (b := 153) (e := 3) (nl := 5) (As := [(2, 17), (0, l3)]) (R := []) 26 rfl (by decide +kernel) rfl rfl (Nat.le_of_ble_eq_true rfl) (Nat.le_of_ble_eq_true rfl) ?_
    refine hw_mono H ?_
    rintro r ψ5 y5 ⟨hyx, hψx, z5, hr, H⟩
    subst hyx
    subst hψx
    subst hr
    refine ⟨hne0, ?_⟩
    show hw sc (d + 4) 152 58 L [(0, z5)] φ y5 Q
    obtain ⟨hz6, ht6, hf6⟩ := H
    refine hw_if (a0 := 0) (b := 0) (e := 71) (by decide +kernel) hz6 (fun q => ?_) (fun q => ?_)
    · have H := ht6 q
      refine hw_inc (L' := (jm_st1 L 3 (0, l3 + 1))) (c := 1) (b := 3) (e := 0) (by decide +kernel) g3 rfl ?_
      refine hw_goto (a0 := 0) (b := 0) (e := 24) (by decide +kernel) ?_
      exact H
    · have H := hf6 q
      refine hw_ld (b := 2) (e := 0) (by decide +kernel) g2 ?_
      refine hw_ld (b := 1) (e := 0) (by decide +kernel) g1 ?_
      obtain ⟨hz7, hy7, ht7, hf7⟩ := H
      refine hw_if2 (a0 := 0) (b := 1) (e := 68) (by decide +kernel) hz7 hy7 (fun q => ?_) (fun q => ?_)
      · have H := ht7 q
        refine hw_inc (L' := (jm_st1 L 2 (0, l2 + 1))) (c := 1) (b := 2) (e := 0) (by decide +kernel) g2 rfl ?_
        refine hw_inc (L' := (jm_st1 (jm_st1 L 2 (0, l2 + 1)) 3 (0, l3 + 1))) (c := 1) (b := 3) (e := 0) (by decide +kernel) (get_st1 g3 (by decide) (fun q => absurd q.1 (by decide))) rfl ?_
        refine hw_goto (a0 := 0) (b := 0) (e := 24) (by decide +kernel) ?_
        exact H
      · have H := hf7 q
        refine hw_ld (b := 3) (e := 0) (by decide +kernel) g3 ?_
        exact hw_ret (a0 := 0) (e := 0) (by decide +kernel) (Or.inl rfl) H
theorem sf_152_0_l24 {sc : List Int} {d x : Nat} {Q : Option jm_V → hf_F → Nat → Prop} : ∀ (n : Nat) (φ : hf_F) (L : jm_L) (l1 l2 l3 : Int), jm_get L 0 = some (2, 0) → jm_get L 1 = some (0, l1) → jm_get L 2 = some (0, l2) → jm_get L 3 = some (0, l3) → Inv φ → 6 - l3 < (n : Int) → (-2147483648 : Int) ≤ l1 → l1 ≤ 2147483647 → 0 ≤ l2 → l2 ≤ 6 → 0 ≤ l3 → l3 ≤ 6 → l2 ≤ l3 → (∀ (r : Int), True → F_RideLaws_said_0_l24 n φ l1 l2 l3 = r → Q (some (0, r)) φ x) → hw sc (d + 4) 152 24 L [] φ x Q := by
  intro n
  induction n with
  | zero =>
    intro φ L l1 l2 l3 g0 g1 g2 g3 hI hM b1a b1b b2a b2b b3a b3b c0 hQ
    exfalso
    omega
  | succ n ih =>
    intro φ L l1 l2 l3 g0 g1 g2 g3 hI hM b1a b1b b2a b2b b3a b3b c0 hQ
    refine sf_152_0_v24 g0 g1 g2 g3 ?_
    have e0 := F_RideLaws_said_0_l24_s (φ := φ) (l1 := l1) (l2 := l2) (l3 := l3) n
    have f1 := iv_at (a := 6) (k := 3) (lo := 0) (u := 6) hI (by decide +kernel)
    refine ⟨by unfold hi; omega, by unfold hi; omega, fun q1 => ?_, fun q1 => ?_⟩
    · skip
      have e1a := e0.trans (if_pos q1)
      refine ⟨by unfold hi; omega, by unfold hi; omega, fun q2 => ?_, fun q2 => ?_⟩
      · skip
        have e2a := e1a.trans (if_pos q2)
        exact hQ (-1 : Int) trivial e2a
      · skip
        have e2b := e1a.trans (if_neg q2)
        exact hQ l2 trivial e2b
    · skip
      have e1b := e0.trans (if_neg q1)
      refine sf_153_26_17 (φ := φ) hI (by omega) (by omega) (fun z5 hp5 hE5 => ⟨rfl, rfl, z5, rfl, ?_⟩)
      have e5 := e1b.trans (bnp_e hE5)
      refine ⟨by unfold hi; omega, fun q6 => ?_, fun q6 => ?_⟩
      · skip
        have e6a := e5.trans (if_pos q6)
        exact ih φ (jm_st1 L 3 (0, l3 + 1)) l1 l2 (l3 + 1) (get_st1 g0 (by decide) (fun q => absurd q.1 (by decide))) (get_st1 g1 (by decide) (fun q => absurd q.1 (by decide))) (get_st1 g2 (by decide) (fun q => tg0 q.2)) get_st1e hI (by omega) (by omega) (by omega) (by omega) (by omega) (by omega) (by omega) (by omega) (fun rr hpχ hEχ => hQ rr hpχ (e6a.trans hEχ))
      · skip
        have e6b := e5.trans (if_neg q6)
        refine ⟨by unfold hi; omega, by unfold hi; omega, fun q7 => ?_, fun q7 => ?_⟩
        · skip
          have e7a := e6b.trans (if_pos q7)
          exact ih φ (jm_st1 (jm_st1 L 2 (0, l2 + 1)) 3 (0, l3 + 1)) l1 (l2 + 1) (l3 + 1) (get_st1 (get_st1 g0 (by decide) (fun q => absurd q.1 (by decide))) (by decide) (fun q => absurd q.1 (by decide))) (get_st1 (get_st1 g1 (by decide) (fun q => tg0 q.2)) (by decide) (fun q => absurd q.1 (by decide))) (get_st1 get_st1e (by decide) (fun q => tg0 q.2)) get_st1e hI (by omega) (by omega) (by omega) (by omega) (by omega) (by omega) (by omega) (by omega) (fun rr hpχ hEχ => hQ rr hpχ (e7a.trans hEχ))
        · skip
          have e7b := e6b.trans (if_neg q7)
          exact hQ l3 trivial e7b
theorem sf_152_0_v {sc : List Int} {d : Nat} {φ : hf_F} {x : Nat} {Q : Option jm_V → hf_F → Nat → Prop} {v1 : Int}
    (H : hi (φ 26 5) ∧ ((φ 26 5) = 0 → Q (some (0, (-1 : Int))) φ x) ∧ (¬ (φ 26 5) = 0 → hi v1 ∧ hi (-1 : Int) ∧ ((-1 : Int) ≤ v1 → hw sc (d + 4) 152 24 (jm_st1 (jm_st1 [(0, (2, 0)), (1, (0, v1))] 2 (0, 0)) 3 (0, 0)) [] φ x Q) ∧ (¬ (-1 : Int) ≤ v1 → Q (some (0, (-1 : Int))) φ x))) :
    hw sc (d + 4) 152 0 [(0, (2, 0)), (1, (0, v1))] [] φ x Q := by
  refine hw_ald (b := 0) (e := 0) (by decide +kernel) rfl (by decide) ?_
  refine hr_gr (w := 4) (b := 0) (e := 1) 0 rfl (by decide +kernel) ?_
  refine hr_gr (w := 26) (b := 2) (e := 2) 4 rfl (by decide +kernel) ?_
  refine hr_gz (w := φ 26 5) (b := 5) (e := 5) 26 rfl (by decide +kernel) rfl ?_
  obtain ⟨hz1, ht1, hf1⟩ := H
  refine hw_if (a0 := 0) (b := 0) (e := 18) (by decide +kernel) hz1 (fun q => ?_) (fun q => ?_)
  · have H := ht1 q
    refine hw_k (c := (-1 : Int)) (b := 0) (e := 1) (by decide +kernel) ?_
    exact hw_ret (a0 := 0) (e := 0) (by decide +kernel) (Or.inl rfl) H
  · have H := hf1 q
    refine hw_ld (b := 1) (e := 0) (by decide +kernel) rfl ?_
    refine hw_k (c := (-1 : Int)) (b := 0) (e := 1) (by decide +kernel) ?_
    obtain ⟨hz3, hy3, ht3, hf3⟩ := H
    refine hw_if2 (a0 := 0) (b := 3) (e := 20) (by decide +kernel) hz3 hy3 (fun q => ?_) (fun q => ?_)
    · have H := ht3 q
      refine hw_k (c := 0) (b := 0) (e := 1) (by decide +kernel) ?_
      refine hw_st (L' := (jm_st1 [(0, (2, 0)), (1, (0, v1))] 2 (0, 0))) (b := 2) (e := 0) (by decide +kernel) rfl ?_
      refine hw_k (c := 0) (b := 0) (e := 1) (by decide +kernel) ?_
      refine hw_st (L' := (jm_st1 (jm_st1 [(0, (2, 0)), (1, (0, v1))] 2 (0, 0)) 3 (0, 0))) (b := 3) (e := 0) (by decide +kernel) rfl ?_
      exact H
    · have H := hf3 q
      refine hw_k (c := (-1 : Int)) (b := 0) (e := 1) (by decide +kernel) ?_
      exact hw_ret (a0 := 0) (e := 0) (by decide +kernel) (Or.inl rfl) H
theorem sf_152_0 {sc : List Int} {d : Nat} {φ : hf_F} {x : Nat} {Q : Option jm_V → hf_F → Nat → Prop} {v1 : Int} (hI : Inv φ) (h1a : (-2147483648 : Int) ≤ v1) (h1b : v1 ≤ 2147483647) (hQ : ∀ (r : Int), True → F_RideLaws_said_0 φ v1 = r → Q (some (0, r)) φ x) : hw sc (d + 4) 152 0 [(0, (2, 0)), (1, (0, v1))] [] φ x Q := by
  apply sf_152_0_v
  have e0 : F_RideLaws_said_0 φ v1 = _ := rfl
  have f1 := iv_at (a := 26) (k := 5) (lo := 0) (u := 1) hI (by decide +kernel)
  refine ⟨by unfold hi; omega, fun q1 => ?_, fun q1 => ?_⟩
  · skip
    have e1a := e0.trans (if_pos q1)
    exact hQ (-1 : Int) trivial e1a
  · skip
    have e1b := e0.trans (if_neg q1)
    refine ⟨by unfold hi; omega, by unfold hi; omega, fun q3 => ?_, fun q3 => ?_⟩
    · skip
      have e3a := e1b.trans (if_pos q3)
      exact sf_152_0_l24 ((6 - 0 : Int).toNat + 1) φ (jm_st1 (jm_st1 [(0, (2, 0)), (1, (0, v1))] 2 (0, 0)) 3 (0, 0)) v1 0 0 (get_st1 (get_st1 rfl (by decide) (fun q => absurd q.1 (by decide))) (by decide) (fun q => absurd q.1 (by decide))) (get_st1 (get_st1 rfl (by decide) (fun q => tg0 q.2)) (by decide) (fun q => absurd q.1 (by decide))) (get_st1 get_st1e (by decide) (fun q => tg0 q.2)) get_st1e hI (by omega) (by omega) (by omega) (by omega) (by omega) (by omega) (by omega) (by omega) (fun rr hpχ hEχ => hQ rr hpχ (e3a.trans hEχ))
    · skip
      have e3b := e1b.trans (if_neg q3)
      exact hQ (-1 : Int) trivial e3b
theorem sf_122_189_v {sc : List Int} {d : Nat} {φ : hf_F} {x : Nat} {Q : Option jm_V → hf_F → Nat → Prop} {v1 : Int}
    (H : hi (φ 189 1) ∧ hi 32 ∧ (32 ≤ (φ 189 1) → Q none φ x) ∧ (¬ 32 ≤ (φ 189 1) → 0 ≤ (φ 189 1) ∧ (φ 189 1) < 32 ∧ (Q none (hf_up (hf_up φ 190 ((φ 189 1).toNat) (jm_b (hb_i2b v1))) 189 1 ((φ 189 1) + 1)) x))) :
    hw sc d 122 0 [(0, (2, 189)), (1, (0, v1))] [] φ x Q := by
  refine hw_ald (b := 0) (e := 0) (by decide +kernel) rfl (by decide) ?_
  refine hr_gi (w := φ 189 1) (b := 11) (e := 1) 189 rfl (by decide +kernel) rfl ?_
  refine hw_k (c := 32) (b := 1) (e := 2) (by decide +kernel) ?_
  obtain ⟨hz1, hy1, ht1, hf1⟩ := H
  refine hw_if2 (a0 := 0) (b := 3) (e := 30) (by decide +kernel) hz1 hy1 (fun q => ?_) (fun q => ?_)
  · have H := ht1 q
    exact hw_vret (a0 := 0) (e := 0) (by decide +kernel) H
  · have H := hf1 q
    refine hw_ald (b := 0) (e := 0) (by decide +kernel) rfl (by decide) ?_
    refine hr_gr (w := 190) (b := 11) (e := 0) 189 rfl (by decide +kernel) ?_
    refine hw_ald (b := 0) (e := 0) (by decide +kernel) rfl (by decide) ?_
    refine hr_gi (w := φ 189 1) (b := 11) (e := 1) 189 rfl (by decide +kernel) rfl ?_
    refine hw_ld (b := 1) (e := 0) (by decide +kernel) rfl ?_
    refine hw_conv (t' := 0) (w := hb_i2b v1) (a0 := 0) (b := 2) (e := 0) (by decide +kernel) rfl ?_
    obtain ⟨hl3, hu3, H⟩ := H
    refine hr_asb (a0 := 0) (e := 4) (n := 32) 190 rfl (by decide +kernel) hl3 hu3 ?_
    refine hw_ald (b := 0) (e := 0) (by decide +kernel) rfl (by decide) ?_
    refine hw_dup (a0 := 0) (e := 0) (by decide +kernel) (by decide) ?_
    refine hr_gi (w := φ 189 1) (b := 11) (e := 1) 189 rfl (by decide +kernel) (hf_up_ne (fun q => absurd q.1 (by decide))) ?_
    refine hw_k (c := 1) (b := 0) (e := 1) (by decide +kernel) ?_
    refine hw_bin (w := (φ 189 1) + 1) (a0 := 0) (b := 0) (e := 0) (by decide +kernel) rfl ?_
    refine hr_pi (b := 11) (e := 1) 189 rfl (by decide +kernel) ?_
    exact hw_vret (a0 := 0) (e := 0) (by decide +kernel) H
theorem sf_122_189 {sc : List Int} {d : Nat} {φ : hf_F} {x : Nat} {Q : Option jm_V → hf_F → Nat → Prop} {v1 : Int} (hI : Inv φ)  (hQ : ∀ ψ : hf_F, Inv ψ → Fr [190, 190001] φ ψ → F_Line_addByte_189 φ v1 = ψ → Q none ψ x) : hw sc d 122 0 [(0, (2, 189)), (1, (0, v1))] [] φ x Q := by
  apply sf_122_189_v
  have e0 : F_Line_addByte_189 φ v1 = _ := rfl
  have f1 := iv_at (a := 189) (k := 1) (lo := 0) (u := 32) hI (by decide +kernel)
  refine ⟨by unfold hi; omega, by unfold hi; omega, fun q1 => ?_, fun q1 => ?_⟩
  · skip
    have e1a := e0.trans (if_pos q1)
    exact hQ φ hI (fr_rf) e1a
  · skip
    have e1b := e0.trans (if_neg q1)
    have f2 := hr_i2b v1
    refine ⟨by omega, by omega, ?_⟩
    have f3 := hr_jmb (hb_i2b v1)
    have i4 : Inv (hf_up φ 190 ((φ 189 1).toNat) (jm_b (hb_i2b v1))) := iv_upI (s := 0) (t := 32) (lo := (-128 : Int)) (u := 127) (z := φ 189 1) hI (by decide +kernel) (by omega) (by omega) (by omega) (by omega)
    have r4 : Fr [190, 190001] φ (hf_up φ 190 ((φ 189 1).toNat) (jm_b (hb_i2b v1))) := fr_upa (fr_rf) (by decide)
    have i5 : Inv (hf_up (hf_up φ 190 ((φ 189 1).toNat) (jm_b (hb_i2b v1))) 189 1 ((φ 189 1) + 1)) := iv_up (lo := 0) (u := 32) i4 (by decide +kernel) (by omega) (by omega)
    have r5 : Fr [190, 190001] φ (hf_up (hf_up φ 190 ((φ 189 1).toNat) (jm_b (hb_i2b v1))) 189 1 ((φ 189 1) + 1)) := fr_up r4 (by decide)
    exact hQ (hf_up (hf_up φ 190 ((φ 189 1).toNat) (jm_b (hb_i2b v1))) 189 1 ((φ 189 1) + 1)) i5 r5 e1b
theorem sf_121_189_v3 {sc : List Int} {d : Nat} {φ : hf_F} {x : Nat} {Q : Option jm_V → hf_F → Nat → Prop} {L : jm_L} {l1 l3 : Int} (g0 : jm_get L 0 = some (2, 189)) (g1 : jm_get L 1 = some (1, l1)) (g3 : jm_get L 3 = some (0, l3))
    (H : hi l3 ∧ (l3 < 0 → Q none φ x) ∧ (¬ l3 < 0 → hi (hb_l2i (hb_land (hb_lshr l1 l3) 31)) ∧ ((hb_l2i (hb_land (hb_lshr l1 l3) 31)) = 0 → hw sc (d + 1) 121 3 (jm_st1 (jm_st1 L 4 (0, hb_l2i (hb_land (hb_lshr l1 l3) 31))) 3 (0, l3 + (-5 : Int))) [] φ x Q) ∧ (¬ (hb_l2i (hb_land (hb_lshr l1 l3) 31)) = 0 → hw sc d 122 0 [(0, (2, 189)), (1, (0, (97 + (hb_l2i (hb_land (hb_lshr l1 l3) 31))) - 1))] [] φ x (fun r ψ4 y4 => y4 = x ∧ (r = none ∧ (hw sc (d + 1) 121 3 (jm_st1 (jm_st1 L 4 (0, hb_l2i (hb_land (hb_lshr l1 l3) 31))) 3 (0, l3 + (-5 : Int))) [] ψ4 x Q)))))) :
    hw sc (d + 1) 121 3 L [] φ x Q := by
  refine hw_ld (b := 3) (e := 0) (by decide +kernel) g3 ?_
  obtain ⟨hz1, ht1, hf1⟩ := H
  refine hw_if (a0 := 0) (b := 2) (e := 39) (by decide +kernel) hz1 (fun q => ?_) (fun q => ?_)
  · have H := ht1 q
    exact hw_vret (a0 := 0) (e := 0) (by decide +kernel) H
  · have H := hf1 q
    refine hw_lld (b := 1) (e := 0) (by decide +kernel) g1 ?_
    refine hw_ld (b := 3) (e := 0) (by decide +kernel) g3 ?_
    refine hw_lsh (w := hb_lshr l1 l3) (a0 := 0) (b := 5) (e := 0) (by decide +kernel) rfl ?_
    refine hw_lk (c := 31) (b := 1) (e := 3) (by decide +kernel) ?_
    refine hw_lbin (w := hb_land (hb_lshr l1 l3) 31) (a0 := 0) (b := 2) (e := 0) (by decide +kernel) rfl ?_
    refine hw_conv (t' := 0) (w := hb_l2i (hb_land (hb_lshr l1 l3) 31)) (a0 := 0) (b := 1) (e := 0) (by decide +kernel) rfl ?_
    refine hw_st (L' := (jm_st1 L 4 (0, hb_l2i (hb_land (hb_lshr l1 l3) 31)))) (b := 4) (e := 1) (by decide +kernel) rfl ?_
    refine hw_ld (b := 4) (e := 1) (by decide +kernel) get_st1e ?_
    obtain ⟨hz3, ht3, hf3⟩ := H
    refine hw_if (a0 := 0) (b := 0) (e := 33) (by decide +kernel) hz3 (fun q => ?_) (fun q => ?_)
    · have H := ht3 q
      refine hw_inc (L' := (jm_st1 (jm_st1 L 4 (0, hb_l2i (hb_land (hb_lshr l1 l3) 31))) 3 (0, l3 + (-5 : Int)))) (c := (-5 : Int)) (b := 3) (e := 0) (by decide +kernel) (get_st1 g3 (by decide) (fun q => tg0 q.2)) rfl ?_
      refine hw_goto (a0 := 0) (b := 0) (e := 3) (by decide +kernel) ?_
      exact H
    · have H := hf3 q
      refine hw_ald (b := 0) (e := 0) (by decide +kernel) (get_st1 g0 (by decide) (fun q => absurd q.1 (by decide))) (by decide) ?_
      refine hw_k (c := 97) (b := 1) (e := 2) (by decide +kernel) ?_
      refine hw_ld (b := 4) (e := 1) (by decide +kernel) get_st1e ?_
      refine hw_bin (w := 97 + (hb_l2i (hb_land (hb_lshr l1 l3) 31))) (a0 := 0) (b := 0) (e := 0) (by decide +kernel) rfl ?_
      refine hw_k (c := 1) (b := 0) (e := 1) (by decide +kernel) ?_
      refine hw_bin (w := (97 + (hb_l2i (hb_land (hb_lshr l1 l3) 31))) - 1) (a0 := 0) (b := 1) (e := 0) (by decide +kernel) rfl ?_
      refine hr_call (a0 := 21) (b := 122) (e := 2) (nl := 2) (As := [(0, (97 + (hb_l2i (hb_land (hb_lshr l1 l3) 31))) - 1)]) (R := []) 189 rfl (by decide +kernel) rfl rfl (Nat.le_of_ble_eq_true rfl) (Nat.le_of_ble_eq_true rfl) ?_
      refine hw_mono H ?_
      rintro r ψ4 y4 ⟨hyx, hr, H⟩
      subst hyx
      subst hr
      refine ⟨hnen, ?_⟩
      show hw sc (d + 1) 121 33 (jm_st1 L 4 (0, hb_l2i (hb_land (hb_lshr l1 l3) 31))) [] ψ4 y4 Q
      refine hw_inc (L' := (jm_st1 (jm_st1 L 4 (0, hb_l2i (hb_land (hb_lshr l1 l3) 31))) 3 (0, l3 + (-5 : Int)))) (c := (-5 : Int)) (b := 3) (e := 0) (by decide +kernel) (get_st1 g3 (by decide) (fun q => tg0 q.2)) rfl ?_
      refine hw_goto (a0 := 0) (b := 0) (e := 3) (by decide +kernel) ?_
      exact H
theorem sf_121_189_l3 {sc : List Int} {d x : Nat} {Q : Option jm_V → hf_F → Nat → Prop} : ∀ (n : Nat) (φ : hf_F) (L : jm_L) (l1 l3 : Int), jm_get L 0 = some (2, 189) → jm_get L 1 = some (1, l1) → jm_get L 3 = some (0, l3) → Inv φ → l3 + 5 < (n : Int) → (-5 : Int) ≤ l3 → l3 ≤ 30 → (∀ ψ : hf_F, Inv ψ → Fr [190, 190001] φ ψ → F_Line_addName_189_l3 n φ l1 l3 = ψ → Q none ψ x) → hw sc (d + 1) 121 3 L [] φ x Q := by
  intro n
  induction n with
  | zero =>
    intro φ L l1 l3 g0 g1 g3 hI hM b3a b3b hQ
    exfalso
    omega
  | succ n ih =>
    intro φ L l1 l3 g0 g1 g3 hI hM b3a b3b hQ
    refine sf_121_189_v3 g0 g1 g3 ?_
    have e0 := F_Line_addName_189_l3_s (φ := φ) (l1 := l1) (l3 := l3) n
    refine ⟨by unfold hi; omega, fun q1 => ?_, fun q1 => ?_⟩
    · skip
      have e1a := e0.trans (if_pos q1)
      exact hQ φ hI (fr_rf) e1a
    · skip
      have e1b := e0.trans (if_neg q1)
      have f1 := hr_l2i (hb_land (hb_lshr l1 l3) 31)
      refine ⟨by unfold hi; omega, fun q3 => ?_, fun q3 => ?_⟩
      · skip
        have e3a := e1b.trans (if_pos q3)
        exact ih φ (jm_st1 (jm_st1 L 4 (0, hb_l2i (hb_land (hb_lshr l1 l3) 31))) 3 (0, l3 + (-5 : Int))) l1 (l3 + (-5 : Int)) (get_st1 (get_st1 g0 (by decide) (fun q => absurd q.1 (by decide))) (by decide) (fun q => absurd q.1 (by decide))) (get_st1 (get_st1 g1 (by decide) (fun q => absurd q.1 (by decide))) (by decide) (fun q => absurd q.1 (by decide))) get_st1e hI (by omega) (by omega) (by omega) (fun χ hIχ hFχ hEχ => hQ χ hIχ (fr_tr (fr_rf) hFχ (by decide)) (e3a.trans hEχ))
      · skip
        have e3b := e1b.trans (if_neg q3)
        refine sf_122_189 (φ := φ) hI  (fun ψ4 hI4 hF4 hE4 => ⟨rfl, rfl, ?_⟩)
        have hG4 : Fr [190, 190001] φ ψ4 := fr_tr (fr_rf) hF4 (by decide)
        have e4 := e3b.trans (bnv_e hE4)
        exact ih ψ4 (jm_st1 (jm_st1 L 4 (0, hb_l2i (hb_land (hb_lshr l1 l3) 31))) 3 (0, l3 + (-5 : Int))) l1 (l3 + (-5 : Int)) (get_st1 (get_st1 g0 (by decide) (fun q => absurd q.1 (by decide))) (by decide) (fun q => absurd q.1 (by decide))) (get_st1 (get_st1 g1 (by decide) (fun q => absurd q.1 (by decide))) (by decide) (fun q => absurd q.1 (by decide))) get_st1e hI4 (by omega) (by omega) (by omega) (fun χ hIχ hFχ hEχ => hQ χ hIχ (fr_tr hG4 hFχ (by decide)) (e4.trans hEχ))
theorem sf_121_189_v {sc : List Int} {d : Nat} {φ : hf_F} {x : Nat} {Q : Option jm_V → hf_F → Nat → Prop} {v1 : Int}
    (H : hw sc (d + 1) 121 3 (jm_st1 [(0, (2, 189)), (1, (1, v1))] 3 (0, 30)) [] φ x Q) :
    hw sc (d + 1) 121 0 [(0, (2, 189)), (1, (1, v1))] [] φ x Q := by
  refine hw_k (c := 30) (b := 1) (e := 2) (by decide +kernel) ?_
  refine hw_st (L' := (jm_st1 [(0, (2, 189)), (1, (1, v1))] 3 (0, 30))) (b := 3) (e := 0) (by decide +kernel) rfl ?_
  exact H
theorem sf_121_189 {sc : List Int} {d : Nat} {φ : hf_F} {x : Nat} {Q : Option jm_V → hf_F → Nat → Prop} {v1 : Int} (hI : Inv φ)  (hQ : ∀ ψ : hf_F, Inv ψ → Fr [190, 190001] φ ψ → F_Line_addName_189 φ v1 = ψ → Q none ψ x) : hw sc (d + 1) 121 0 [(0, (2, 189)), (1, (1, v1))] [] φ x Q := by
  apply sf_121_189_v
  have e0 : F_Line_addName_189 φ v1 = _ := rfl
  exact sf_121_189_l3 ((30 + 5 : Int).toNat + 1) φ (jm_st1 [(0, (2, 189)), (1, (1, v1))] 3 (0, 30)) v1 30 (get_st1 rfl (by decide) (fun q => absurd q.1 (by decide))) (get_st1 rfl (by decide) (fun q => absurd q.1 (by decide))) get_st1e hI (by omega) (by omega) (by omega) (fun χ hIχ hFχ hEχ => hQ χ hIχ (fr_tr (fr_rf) hFχ (by decide)) (e0.trans hEχ))
theorem sf_123_189_100014_v {sc : List Int} {d : Nat} {φ : hf_F} {x : Nat} {Q : Option jm_V → hf_F → Nat → Prop} 
    (H : hw sc (d + 3) 122 0 [(0, (2, 189)), (1, (0, 32))] [] φ x (fun r ψ2 y2 => y2 = x ∧ (r = none ∧ (hw sc (d + 3) 122 0 [(0, (2, 189)), (1, (0, 111))] [] ψ2 x (fun r ψ4 y4 => y4 = x ∧ (r = none ∧ (hw sc (d + 3) 122 0 [(0, (2, 189)), (1, (0, 110))] [] ψ4 x (fun r ψ6 y6 => y6 = x ∧ (r = none ∧ (hw sc (d + 3) 122 0 [(0, (2, 189)), (1, (0, 32))] [] ψ6 x (fun r ψ8 y8 => y8 = x ∧ (r = none ∧ (Q none ψ8 x))))))))))))) :
    hw sc (d + 4) 123 0 [(0, (2, 189)), (1, (4, 14))] [] φ x Q := by
  refine hw_k (c := 0) (b := 0) (e := 1) (by decide +kernel) ?_
  refine hw_st (L' := (jm_st1 [(0, (2, 189)), (1, (4, 14))] 2 (0, 0))) (b := 2) (e := 0) (by decide +kernel) rfl ?_
  refine hw_ld (b := 2) (e := 0) (by decide +kernel) get_st1e ?_
  refine hw_tld (b := 1) (e := 0) (by decide +kernel) (get_st1 rfl (by decide) (fun q => tg4 q.2)) ?_
  refine hw_txc (b := 2) (e := 1) (nl := 1) (v := 14) (z := 4) (As := []) (R := [(0, 0)]) (by decide +kernel) rfl rfl (Nat.le_of_ble_eq_true rfl) (Nat.le_of_ble_eq_true rfl) (fun _ => rfl) ?_
  refine hw_if2 (a0 := 0) (b := 3) (e := 25) (by decide +kernel) (by unfold hi; omega) (by unfold hi; omega) (fun q => absurd (show 4 ≤ (0 : Int) from q) (by decide)) (fun _ => ?_)
  refine hw_ald (b := 0) (e := 0) (by decide +kernel) (get_st1 rfl (by decide) (fun q => absurd q.1 (by decide))) (by decide) ?_
  refine hw_tld (b := 1) (e := 0) (by decide +kernel) (get_st1 rfl (by decide) (fun q => tg4 q.2)) ?_
  refine hw_ld (b := 2) (e := 0) (by decide +kernel) get_st1e ?_
  refine hw_txc (b := 4) (e := 2) (nl := 2) (v := 14) (z := 32) (As := [(0, 0)]) (R := [(2, 189)]) (by decide +kernel) rfl rfl (Nat.le_of_ble_eq_true rfl) (Nat.le_of_ble_eq_true rfl) (fun _ => rfl) ?_
  refine hr_call (a0 := 21) (b := 122) (e := 2) (nl := 2) (As := [(0, 32)]) (R := []) 189 rfl (by decide +kernel) rfl rfl (Nat.le_of_ble_eq_true rfl) (Nat.le_of_ble_eq_true rfl) ?_
  refine hw_mono H ?_
  rintro r ψ2 y2 ⟨hyx, hr, H⟩
  subst hyx
  subst hr
  refine ⟨hnen, ?_⟩
  show hw sc (d + 4) 123 19 (jm_st1 [(0, (2, 189)), (1, (4, 14))] 2 (0, 0)) [] ψ2 y2 Q
  refine hw_inc (L' := (jm_st1 (jm_st1 [(0, (2, 189)), (1, (4, 14))] 2 (0, 0)) 2 (0, 1))) (c := 1) (b := 2) (e := 0) (by decide +kernel) get_st1e rfl ?_
  refine hw_goto (a0 := 0) (b := 0) (e := 2) (by decide +kernel) ?_
  refine hw_ld (b := 2) (e := 0) (by decide +kernel) get_st1e ?_
  refine hw_tld (b := 1) (e := 0) (by decide +kernel) (get_st1 (get_st1 rfl (by decide) (fun q => tg4 q.2)) (by decide) (fun q => tg4 q.2)) ?_
  refine hw_txc (b := 2) (e := 1) (nl := 1) (v := 14) (z := 4) (As := []) (R := [(0, 1)]) (by decide +kernel) rfl rfl (Nat.le_of_ble_eq_true rfl) (Nat.le_of_ble_eq_true rfl) (fun _ => rfl) ?_
  refine hw_if2 (a0 := 0) (b := 3) (e := 25) (by decide +kernel) (by unfold hi; omega) (by unfold hi; omega) (fun q => absurd (show 4 ≤ (1 : Int) from q) (by decide)) (fun _ => ?_)
  refine hw_ald (b := 0) (e := 0) (by decide +kernel) (get_st1 (get_st1 rfl (by decide) (fun q => absurd q.1 (by decide))) (by decide) (fun q => absurd q.1 (by decide))) (by decide) ?_
  refine hw_tld (b := 1) (e := 0) (by decide +kernel) (get_st1 (get_st1 rfl (by decide) (fun q => tg4 q.2)) (by decide) (fun q => tg4 q.2)) ?_
  refine hw_ld (b := 2) (e := 0) (by decide +kernel) get_st1e ?_
  refine hw_txc (b := 4) (e := 2) (nl := 2) (v := 14) (z := 111) (As := [(0, 1)]) (R := [(2, 189)]) (by decide +kernel) rfl rfl (Nat.le_of_ble_eq_true rfl) (Nat.le_of_ble_eq_true rfl) (fun _ => rfl) ?_
  refine hr_call (a0 := 21) (b := 122) (e := 2) (nl := 2) (As := [(0, 111)]) (R := []) 189 rfl (by decide +kernel) rfl rfl (Nat.le_of_ble_eq_true rfl) (Nat.le_of_ble_eq_true rfl) ?_
  refine hw_mono H ?_
  rintro r ψ4 y4 ⟨hyx, hr, H⟩
  subst hyx
  subst hr
  refine ⟨hnen, ?_⟩
  show hw sc (d + 4) 123 19 (jm_st1 (jm_st1 [(0, (2, 189)), (1, (4, 14))] 2 (0, 0)) 2 (0, 1)) [] ψ4 y4 Q
  refine hw_inc (L' := (jm_st1 (jm_st1 (jm_st1 [(0, (2, 189)), (1, (4, 14))] 2 (0, 0)) 2 (0, 1)) 2 (0, 2))) (c := 1) (b := 2) (e := 0) (by decide +kernel) get_st1e rfl ?_
  refine hw_goto (a0 := 0) (b := 0) (e := 2) (by decide +kernel) ?_
  refine hw_ld (b := 2) (e := 0) (by decide +kernel) get_st1e ?_
  refine hw_tld (b := 1) (e := 0) (by decide +kernel) (get_st1 (get_st1 (get_st1 rfl (by decide) (fun q => tg4 q.2)) (by decide) (fun q => tg4 q.2)) (by decide) (fun q => tg4 q.2)) ?_
  refine hw_txc (b := 2) (e := 1) (nl := 1) (v := 14) (z := 4) (As := []) (R := [(0, 2)]) (by decide +kernel) rfl rfl (Nat.le_of_ble_eq_true rfl) (Nat.le_of_ble_eq_true rfl) (fun _ => rfl) ?_
  refine hw_if2 (a0 := 0) (b := 3) (e := 25) (by decide +kernel) (by unfold hi; omega) (by unfold hi; omega) (fun q => absurd (show 4 ≤ (2 : Int) from q) (by decide)) (fun _ => ?_)
  refine hw_ald (b := 0) (e := 0) (by decide +kernel) (get_st1 (get_st1 (get_st1 rfl (by decide) (fun q => absurd q.1 (by decide))) (by decide) (fun q => absurd q.1 (by decide))) (by decide) (fun q => absurd q.1 (by decide))) (by decide) ?_
  refine hw_tld (b := 1) (e := 0) (by decide +kernel) (get_st1 (get_st1 (get_st1 rfl (by decide) (fun q => tg4 q.2)) (by decide) (fun q => tg4 q.2)) (by decide) (fun q => tg4 q.2)) ?_
  refine hw_ld (b := 2) (e := 0) (by decide +kernel) get_st1e ?_
  refine hw_txc (b := 4) (e := 2) (nl := 2) (v := 14) (z := 110) (As := [(0, 2)]) (R := [(2, 189)]) (by decide +kernel) rfl rfl (Nat.le_of_ble_eq_true rfl) (Nat.le_of_ble_eq_true rfl) (fun _ => rfl) ?_
  refine hr_call (a0 := 21) (b := 122) (e := 2) (nl := 2) (As := [(0, 110)]) (R := []) 189 rfl (by decide +kernel) rfl rfl (Nat.le_of_ble_eq_true rfl) (Nat.le_of_ble_eq_true rfl) ?_
  refine hw_mono H ?_
  rintro r ψ6 y6 ⟨hyx, hr, H⟩
  subst hyx
  subst hr
  refine ⟨hnen, ?_⟩
  show hw sc (d + 4) 123 19 (jm_st1 (jm_st1 (jm_st1 [(0, (2, 189)), (1, (4, 14))] 2 (0, 0)) 2 (0, 1)) 2 (0, 2)) [] ψ6 y6 Q
  refine hw_inc (L' := (jm_st1 (jm_st1 (jm_st1 (jm_st1 [(0, (2, 189)), (1, (4, 14))] 2 (0, 0)) 2 (0, 1)) 2 (0, 2)) 2 (0, 3))) (c := 1) (b := 2) (e := 0) (by decide +kernel) get_st1e rfl ?_
  refine hw_goto (a0 := 0) (b := 0) (e := 2) (by decide +kernel) ?_
  refine hw_ld (b := 2) (e := 0) (by decide +kernel) get_st1e ?_
  refine hw_tld (b := 1) (e := 0) (by decide +kernel) (get_st1 (get_st1 (get_st1 (get_st1 rfl (by decide) (fun q => tg4 q.2)) (by decide) (fun q => tg4 q.2)) (by decide) (fun q => tg4 q.2)) (by decide) (fun q => tg4 q.2)) ?_
  refine hw_txc (b := 2) (e := 1) (nl := 1) (v := 14) (z := 4) (As := []) (R := [(0, 3)]) (by decide +kernel) rfl rfl (Nat.le_of_ble_eq_true rfl) (Nat.le_of_ble_eq_true rfl) (fun _ => rfl) ?_
  refine hw_if2 (a0 := 0) (b := 3) (e := 25) (by decide +kernel) (by unfold hi; omega) (by unfold hi; omega) (fun q => absurd (show 4 ≤ (3 : Int) from q) (by decide)) (fun _ => ?_)
  refine hw_ald (b := 0) (e := 0) (by decide +kernel) (get_st1 (get_st1 (get_st1 (get_st1 rfl (by decide) (fun q => absurd q.1 (by decide))) (by decide) (fun q => absurd q.1 (by decide))) (by decide) (fun q => absurd q.1 (by decide))) (by decide) (fun q => absurd q.1 (by decide))) (by decide) ?_
  refine hw_tld (b := 1) (e := 0) (by decide +kernel) (get_st1 (get_st1 (get_st1 (get_st1 rfl (by decide) (fun q => tg4 q.2)) (by decide) (fun q => tg4 q.2)) (by decide) (fun q => tg4 q.2)) (by decide) (fun q => tg4 q.2)) ?_
  refine hw_ld (b := 2) (e := 0) (by decide +kernel) get_st1e ?_
  refine hw_txc (b := 4) (e := 2) (nl := 2) (v := 14) (z := 32) (As := [(0, 3)]) (R := [(2, 189)]) (by decide +kernel) rfl rfl (Nat.le_of_ble_eq_true rfl) (Nat.le_of_ble_eq_true rfl) (fun _ => rfl) ?_
  refine hr_call (a0 := 21) (b := 122) (e := 2) (nl := 2) (As := [(0, 32)]) (R := []) 189 rfl (by decide +kernel) rfl rfl (Nat.le_of_ble_eq_true rfl) (Nat.le_of_ble_eq_true rfl) ?_
  refine hw_mono H ?_
  rintro r ψ8 y8 ⟨hyx, hr, H⟩
  subst hyx
  subst hr
  refine ⟨hnen, ?_⟩
  show hw sc (d + 4) 123 19 (jm_st1 (jm_st1 (jm_st1 (jm_st1 [(0, (2, 189)), (1, (4, 14))] 2 (0, 0)) 2 (0, 1)) 2 (0, 2)) 2 (0, 3)) [] ψ8 y8 Q
  refine hw_inc (L' := (jm_st1 (jm_st1 (jm_st1 (jm_st1 (jm_st1 [(0, (2, 189)), (1, (4, 14))] 2 (0, 0)) 2 (0, 1)) 2 (0, 2)) 2 (0, 3)) 2 (0, 4))) (c := 1) (b := 2) (e := 0) (by decide +kernel) get_st1e rfl ?_
  refine hw_goto (a0 := 0) (b := 0) (e := 2) (by decide +kernel) ?_
  refine hw_ld (b := 2) (e := 0) (by decide +kernel) get_st1e ?_
  refine hw_tld (b := 1) (e := 0) (by decide +kernel) (get_st1 (get_st1 (get_st1 (get_st1 (get_st1 rfl (by decide) (fun q => tg4 q.2)) (by decide) (fun q => tg4 q.2)) (by decide) (fun q => tg4 q.2)) (by decide) (fun q => tg4 q.2)) (by decide) (fun q => tg4 q.2)) ?_
  refine hw_txc (b := 2) (e := 1) (nl := 1) (v := 14) (z := 4) (As := []) (R := [(0, 4)]) (by decide +kernel) rfl rfl (Nat.le_of_ble_eq_true rfl) (Nat.le_of_ble_eq_true rfl) (fun _ => rfl) ?_
  refine hw_if2 (a0 := 0) (b := 3) (e := 25) (by decide +kernel) (by unfold hi; omega) (by unfold hi; omega) (fun _ => ?_) (fun q => absurd (show 4 ≤ (4 : Int) by decide) q)
  exact hw_vret (a0 := 0) (e := 0) (by decide +kernel) H
theorem sf_123_189_100014 {sc : List Int} {d : Nat} {φ : hf_F} {x : Nat} {Q : Option jm_V → hf_F → Nat → Prop}  (hI : Inv φ)  (hQ : ∀ ψ : hf_F, Inv ψ → Fr [190, 190001] φ ψ → F_Line_addText_189_100014 φ = ψ → Q none ψ x) : hw sc (d + 4) 123 0 [(0, (2, 189)), (1, (4, 14))] [] φ x Q := by
  apply sf_123_189_100014_v
  have e0 : F_Line_addText_189_100014 φ = _ := rfl
  refine sf_122_189 (φ := φ) hI  (fun ψ2 hI2 hF2 hE2 => ⟨rfl, rfl, ?_⟩)
  have hG2 : Fr [190, 190001] φ ψ2 := fr_tr (fr_rf) hF2 (by decide)
  have e2 := e0.trans (bnv_e hE2)
  refine sf_122_189 (φ := ψ2) hI2  (fun ψ4 hI4 hF4 hE4 => ⟨rfl, rfl, ?_⟩)
  have hG4 : Fr [190, 190001] φ ψ4 := fr_tr hG2 hF4 (by decide)
  have e4 := e2.trans (bnv_e hE4)
  refine sf_122_189 (φ := ψ4) hI4  (fun ψ6 hI6 hF6 hE6 => ⟨rfl, rfl, ?_⟩)
  have hG6 : Fr [190, 190001] φ ψ6 := fr_tr hG4 hF6 (by decide)
  have e6 := e4.trans (bnv_e hE6)
  refine sf_122_189 (φ := ψ6) hI6  (fun ψ8 hI8 hF8 hE8 => ⟨rfl, rfl, ?_⟩)
  have hG8 : Fr [190, 190001] φ ψ8 := fr_tr hG6 hF8 (by decide)
  have e8 := e6.trans (bnv_e hE8)
  exact hQ ψ8 hI8 hG8 e8
theorem sf_123_189_100018_v {sc : List Int} {d : Nat} {φ : hf_F} {x : Nat} {Q : Option jm_V → hf_F → Nat → Prop} 
    (H : hw sc (d + 3) 122 0 [(0, (2, 189)), (1, (0, 32))] [] φ x (fun r ψ2 y2 => y2 = x ∧ (r = none ∧ (hw sc (d + 3) 122 0 [(0, (2, 189)), (1, (0, 110))] [] ψ2 x (fun r ψ4 y4 => y4 = x ∧ (r = none ∧ (hw sc (d + 3) 122 0 [(0, (2, 189)), (1, (0, 101))] [] ψ4 x (fun r ψ6 y6 => y6 = x ∧ (r = none ∧ (hw sc (d + 3) 122 0 [(0, (2, 189)), (1, (0, 120))] [] ψ6 x (fun r ψ8 y8 => y8 = x ∧ (r = none ∧ (hw sc (d + 3) 122 0 [(0, (2, 189)), (1, (0, 116))] [] ψ8 x (fun r ψ10 y10 => y10 = x ∧ (r = none ∧ (hw sc (d + 3) 122 0 [(0, (2, 189)), (1, (0, 32))] [] ψ10 x (fun r ψ12 y12 => y12 = x ∧ (r = none ∧ (Q none ψ12 x))))))))))))))))))) :
    hw sc (d + 4) 123 0 [(0, (2, 189)), (1, (4, 18))] [] φ x Q := by
  refine hw_k (c := 0) (b := 0) (e := 1) (by decide +kernel) ?_
  refine hw_st (L' := (jm_st1 [(0, (2, 189)), (1, (4, 18))] 2 (0, 0))) (b := 2) (e := 0) (by decide +kernel) rfl ?_
  refine hw_ld (b := 2) (e := 0) (by decide +kernel) get_st1e ?_
  refine hw_tld (b := 1) (e := 0) (by decide +kernel) (get_st1 rfl (by decide) (fun q => tg4 q.2)) ?_
  refine hw_txc (b := 2) (e := 1) (nl := 1) (v := 18) (z := 6) (As := []) (R := [(0, 0)]) (by decide +kernel) rfl rfl (Nat.le_of_ble_eq_true rfl) (Nat.le_of_ble_eq_true rfl) (fun _ => rfl) ?_
  refine hw_if2 (a0 := 0) (b := 3) (e := 25) (by decide +kernel) (by unfold hi; omega) (by unfold hi; omega) (fun q => absurd (show 6 ≤ (0 : Int) from q) (by decide)) (fun _ => ?_)
  refine hw_ald (b := 0) (e := 0) (by decide +kernel) (get_st1 rfl (by decide) (fun q => absurd q.1 (by decide))) (by decide) ?_
  refine hw_tld (b := 1) (e := 0) (by decide +kernel) (get_st1 rfl (by decide) (fun q => tg4 q.2)) ?_
  refine hw_ld (b := 2) (e := 0) (by decide +kernel) get_st1e ?_
  refine hw_txc (b := 4) (e := 2) (nl := 2) (v := 18) (z := 32) (As := [(0, 0)]) (R := [(2, 189)]) (by decide +kernel) rfl rfl (Nat.le_of_ble_eq_true rfl) (Nat.le_of_ble_eq_true rfl) (fun _ => rfl) ?_
  refine hr_call (a0 := 21) (b := 122) (e := 2) (nl := 2) (As := [(0, 32)]) (R := []) 189 rfl (by decide +kernel) rfl rfl (Nat.le_of_ble_eq_true rfl) (Nat.le_of_ble_eq_true rfl) ?_
  refine hw_mono H ?_
  rintro r ψ2 y2 ⟨hyx, hr, H⟩
  subst hyx
  subst hr
  refine ⟨hnen, ?_⟩
  show hw sc (d + 4) 123 19 (jm_st1 [(0, (2, 189)), (1, (4, 18))] 2 (0, 0)) [] ψ2 y2 Q
  refine hw_inc (L' := (jm_st1 (jm_st1 [(0, (2, 189)), (1, (4, 18))] 2 (0, 0)) 2 (0, 1))) (c := 1) (b := 2) (e := 0) (by decide +kernel) get_st1e rfl ?_
  refine hw_goto (a0 := 0) (b := 0) (e := 2) (by decide +kernel) ?_
  refine hw_ld (b := 2) (e := 0) (by decide +kernel) get_st1e ?_
  refine hw_tld (b := 1) (e := 0) (by decide +kernel) (get_st1 (get_st1 rfl (by decide) (fun q => tg4 q.2)) (by decide) (fun q => tg4 q.2)) ?_
  refine hw_txc (b := 2) (e := 1) (nl := 1) (v := 18) (z := 6) (As := []) (R := [(0, 1)]) (by decide +kernel) rfl rfl (Nat.le_of_ble_eq_true rfl) (Nat.le_of_ble_eq_true rfl) (fun _ => rfl) ?_
  refine hw_if2 (a0 := 0) (b := 3) (e := 25) (by decide +kernel) (by unfold hi; omega) (by unfold hi; omega) (fun q => absurd (show 6 ≤ (1 : Int) from q) (by decide)) (fun _ => ?_)
  refine hw_ald (b := 0) (e := 0) (by decide +kernel) (get_st1 (get_st1 rfl (by decide) (fun q => absurd q.1 (by decide))) (by decide) (fun q => absurd q.1 (by decide))) (by decide) ?_
  refine hw_tld (b := 1) (e := 0) (by decide +kernel) (get_st1 (get_st1 rfl (by decide) (fun q => tg4 q.2)) (by decide) (fun q => tg4 q.2)) ?_
  refine hw_ld (b := 2) (e := 0) (by decide +kernel) get_st1e ?_
  refine hw_txc (b := 4) (e := 2) (nl := 2) (v := 18) (z := 110) (As := [(0, 1)]) (R := [(2, 189)]) (by decide +kernel) rfl rfl (Nat.le_of_ble_eq_true rfl) (Nat.le_of_ble_eq_true rfl) (fun _ => rfl) ?_
  refine hr_call (a0 := 21) (b := 122) (e := 2) (nl := 2) (As := [(0, 110)]) (R := []) 189 rfl (by decide +kernel) rfl rfl (Nat.le_of_ble_eq_true rfl) (Nat.le_of_ble_eq_true rfl) ?_
  refine hw_mono H ?_
  rintro r ψ4 y4 ⟨hyx, hr, H⟩
  subst hyx
  subst hr
  refine ⟨hnen, ?_⟩
  show hw sc (d + 4) 123 19 (jm_st1 (jm_st1 [(0, (2, 189)), (1, (4, 18))] 2 (0, 0)) 2 (0, 1)) [] ψ4 y4 Q
  refine hw_inc (L' := (jm_st1 (jm_st1 (jm_st1 [(0, (2, 189)), (1, (4, 18))] 2 (0, 0)) 2 (0, 1)) 2 (0, 2))) (c := 1) (b := 2) (e := 0) (by decide +kernel) get_st1e rfl ?_
  refine hw_goto (a0 := 0) (b := 0) (e := 2) (by decide +kernel) ?_
  refine hw_ld (b := 2) (e := 0) (by decide +kernel) get_st1e ?_
  refine hw_tld (b := 1) (e := 0) (by decide +kernel) (get_st1 (get_st1 (get_st1 rfl (by decide) (fun q => tg4 q.2)) (by decide) (fun q => tg4 q.2)) (by decide) (fun q => tg4 q.2)) ?_
  refine hw_txc (b := 2) (e := 1) (nl := 1) (v := 18) (z := 6) (As := []) (R := [(0, 2)]) (by decide +kernel) rfl rfl (Nat.le_of_ble_eq_true rfl) (Nat.le_of_ble_eq_true rfl) (fun _ => rfl) ?_
  refine hw_if2 (a0 := 0) (b := 3) (e := 25) (by decide +kernel) (by unfold hi; omega) (by unfold hi; omega) (fun q => absurd (show 6 ≤ (2 : Int) from q) (by decide)) (fun _ => ?_)
  refine hw_ald (b := 0) (e := 0) (by decide +kernel) (get_st1 (get_st1 (get_st1 rfl (by decide) (fun q => absurd q.1 (by decide))) (by decide) (fun q => absurd q.1 (by decide))) (by decide) (fun q => absurd q.1 (by decide))) (by decide) ?_
  refine hw_tld (b := 1) (e := 0) (by decide +kernel) (get_st1 (get_st1 (get_st1 rfl (by decide) (fun q => tg4 q.2)) (by decide) (fun q => tg4 q.2)) (by decide) (fun q => tg4 q.2)) ?_
  refine hw_ld (b := 2) (e := 0) (by decide +kernel) get_st1e ?_
  refine hw_txc (b := 4) (e := 2) (nl := 2) (v := 18) (z := 101) (As := [(0, 2)]) (R := [(2, 189)]) (by decide +kernel) rfl rfl (Nat.le_of_ble_eq_true rfl) (Nat.le_of_ble_eq_true rfl) (fun _ => rfl) ?_
  refine hr_call (a0 := 21) (b := 122) (e := 2) (nl := 2) (As := [(0, 101)]) (R := []) 189 rfl (by decide +kernel) rfl rfl (Nat.le_of_ble_eq_true rfl) (Nat.le_of_ble_eq_true rfl) ?_
  refine hw_mono H ?_
  rintro r ψ6 y6 ⟨hyx, hr, H⟩
  subst hyx
  subst hr
  refine ⟨hnen, ?_⟩
  show hw sc (d + 4) 123 19 (jm_st1 (jm_st1 (jm_st1 [(0, (2, 189)), (1, (4, 18))] 2 (0, 0)) 2 (0, 1)) 2 (0, 2)) [] ψ6 y6 Q
  refine hw_inc (L' := (jm_st1 (jm_st1 (jm_st1 (jm_st1 [(0, (2, 189)), (1, (4, 18))] 2 (0, 0)) 2 (0, 1)) 2 (0, 2)) 2 (0, 3))) (c := 1) (b := 2) (e := 0) (by decide +kernel) get_st1e rfl ?_
  refine hw_goto (a0 := 0) (b := 0) (e := 2) (by decide +kernel) ?_
  refine hw_ld (b := 2) (e := 0) (by decide +kernel) get_st1e ?_
  refine hw_tld (b := 1) (e := 0) (by decide +kernel) (get_st1 (get_st1 (get_st1 (get_st1 rfl (by decide) (fun q => tg4 q.2)) (by decide) (fun q => tg4 q.2)) (by decide) (fun q => tg4 q.2)) (by decide) (fun q => tg4 q.2)) ?_
  refine hw_txc (b := 2) (e := 1) (nl := 1) (v := 18) (z := 6) (As := []) (R := [(0, 3)]) (by decide +kernel) rfl rfl (Nat.le_of_ble_eq_true rfl) (Nat.le_of_ble_eq_true rfl) (fun _ => rfl) ?_
  refine hw_if2 (a0 := 0) (b := 3) (e := 25) (by decide +kernel) (by unfold hi; omega) (by unfold hi; omega) (fun q => absurd (show 6 ≤ (3 : Int) from q) (by decide)) (fun _ => ?_)
  refine hw_ald (b := 0) (e := 0) (by decide +kernel) (get_st1 (get_st1 (get_st1 (get_st1 rfl (by decide) (fun q => absurd q.1 (by decide))) (by decide) (fun q => absurd q.1 (by decide))) (by decide) (fun q => absurd q.1 (by decide))) (by decide) (fun q => absurd q.1 (by decide))) (by decide) ?_
  refine hw_tld (b := 1) (e := 0) (by decide +kernel) (get_st1 (get_st1 (get_st1 (get_st1 rfl (by decide) (fun q => tg4 q.2)) (by decide) (fun q => tg4 q.2)) (by decide) (fun q => tg4 q.2)) (by decide) (fun q => tg4 q.2)) ?_
  refine hw_ld (b := 2) (e := 0) (by decide +kernel) get_st1e ?_
  refine hw_txc (b := 4) (e := 2) (nl := 2) (v := 18) (z := 120) (As := [(0, 3)]) (R := [(2, 189)]) (by decide +kernel) rfl rfl (Nat.le_of_ble_eq_true rfl) (Nat.le_of_ble_eq_true rfl) (fun _ => rfl) ?_
  refine hr_call (a0 := 21) (b := 122) (e := 2) (nl := 2) (As := [(0, 120)]) (R := []) 189 rfl (by decide +kernel) rfl rfl (Nat.le_of_ble_eq_true rfl) (Nat.le_of_ble_eq_true rfl) ?_
  refine hw_mono H ?_
  rintro r ψ8 y8 ⟨hyx, hr, H⟩
  subst hyx
  subst hr
  refine ⟨hnen, ?_⟩
  show hw sc (d + 4) 123 19 (jm_st1 (jm_st1 (jm_st1 (jm_st1 [(0, (2, 189)), (1, (4, 18))] 2 (0, 0)) 2 (0, 1)) 2 (0, 2)) 2 (0, 3)) [] ψ8 y8 Q
  refine hw_inc (L' := (jm_st1 (jm_st1 (jm_st1 (jm_st1 (jm_st1 [(0, (2, 189)), (1, (4, 18))] 2 (0, 0)) 2 (0, 1)) 2 (0, 2)) 2 (0, 3)) 2 (0, 4))) (c := 1) (b := 2) (e := 0) (by decide +kernel) get_st1e rfl ?_
  refine hw_goto (a0 := 0) (b := 0) (e := 2) (by decide +kernel) ?_
  refine hw_ld (b := 2) (e := 0) (by decide +kernel) get_st1e ?_
  refine hw_tld (b := 1) (e := 0) (by decide +kernel) (get_st1 (get_st1 (get_st1 (get_st1 (get_st1 rfl (by decide) (fun q => tg4 q.2)) (by decide) (fun q => tg4 q.2)) (by decide) (fun q => tg4 q.2)) (by decide) (fun q => tg4 q.2)) (by decide) (fun q => tg4 q.2)) ?_
  refine hw_txc (b := 2) (e := 1) (nl := 1) (v := 18) (z := 6) (As := []) (R := [(0, 4)]) (by decide +kernel) rfl rfl (Nat.le_of_ble_eq_true rfl) (Nat.le_of_ble_eq_true rfl) (fun _ => rfl) ?_
  refine hw_if2 (a0 := 0) (b := 3) (e := 25) (by decide +kernel) (by unfold hi; omega) (by unfold hi; omega) (fun q => absurd (show 6 ≤ (4 : Int) from q) (by decide)) (fun _ => ?_)
  refine hw_ald (b := 0) (e := 0) (by decide +kernel) (get_st1 (get_st1 (get_st1 (get_st1 (get_st1 rfl (by decide) (fun q => absurd q.1 (by decide))) (by decide) (fun q => absurd q.1 (by decide))) (by decide) (fun q => absurd q.1 (by decide))) (by decide) (fun q => absurd q.1 (by decide))) (by decide) (fun q => absurd q.1 (by decide))) (by decide) ?_
  refine hw_tld (b := 1) (e := 0) (by decide +kernel) (get_st1 (get_st1 (get_st1 (get_st1 (get_st1 rfl (by decide) (fun q => tg4 q.2)) (by decide) (fun q => tg4 q.2)) (by decide) (fun q => tg4 q.2)) (by decide) (fun q => tg4 q.2)) (by decide) (fun q => tg4 q.2)) ?_
  refine hw_ld (b := 2) (e := 0) (by decide +kernel) get_st1e ?_
  refine hw_txc (b := 4) (e := 2) (nl := 2) (v := 18) (z := 116) (As := [(0, 4)]) (R := [(2, 189)]) (by decide +kernel) rfl rfl (Nat.le_of_ble_eq_true rfl) (Nat.le_of_ble_eq_true rfl) (fun _ => rfl) ?_
  refine hr_call (a0 := 21) (b := 122) (e := 2) (nl := 2) (As := [(0, 116)]) (R := []) 189 rfl (by decide +kernel) rfl rfl (Nat.le_of_ble_eq_true rfl) (Nat.le_of_ble_eq_true rfl) ?_
  refine hw_mono H ?_
  rintro r ψ10 y10 ⟨hyx, hr, H⟩
  subst hyx
  subst hr
  refine ⟨hnen, ?_⟩
  show hw sc (d + 4) 123 19 (jm_st1 (jm_st1 (jm_st1 (jm_st1 (jm_st1 [(0, (2, 189)), (1, (4, 18))] 2 (0, 0)) 2 (0, 1)) 2 (0, 2)) 2 (0, 3)) 2 (0, 4)) [] ψ10 y10 Q
  refine hw_inc (L' := (jm_st1 (jm_st1 (jm_st1 (jm_st1 (jm_st1 (jm_st1 [(0, (2, 189)), (1, (4, 18))] 2 (0, 0)) 2 (0, 1)) 2 (0, 2)) 2 (0, 3)) 2 (0, 4)) 2 (0, 5))) (c := 1) (b := 2) (e := 0) (by decide +kernel) get_st1e rfl ?_
  refine hw_goto (a0 := 0) (b := 0) (e := 2) (by decide +kernel) ?_
  refine hw_ld (b := 2) (e := 0) (by decide +kernel) get_st1e ?_
  refine hw_tld (b := 1) (e := 0) (by decide +kernel) (get_st1 (get_st1 (get_st1 (get_st1 (get_st1 (get_st1 rfl (by decide) (fun q => tg4 q.2)) (by decide) (fun q => tg4 q.2)) (by decide) (fun q => tg4 q.2)) (by decide) (fun q => tg4 q.2)) (by decide) (fun q => tg4 q.2)) (by decide) (fun q => tg4 q.2)) ?_
  refine hw_txc (b := 2) (e := 1) (nl := 1) (v := 18) (z := 6) (As := []) (R := [(0, 5)]) (by decide +kernel) rfl rfl (Nat.le_of_ble_eq_true rfl) (Nat.le_of_ble_eq_true rfl) (fun _ => rfl) ?_
  refine hw_if2 (a0 := 0) (b := 3) (e := 25) (by decide +kernel) (by unfold hi; omega) (by unfold hi; omega) (fun q => absurd (show 6 ≤ (5 : Int) from q) (by decide)) (fun _ => ?_)
  refine hw_ald (b := 0) (e := 0) (by decide +kernel) (get_st1 (get_st1 (get_st1 (get_st1 (get_st1 (get_st1 rfl (by decide) (fun q => absurd q.1 (by decide))) (by decide) (fun q => absurd q.1 (by decide))) (by decide) (fun q => absurd q.1 (by decide))) (by decide) (fun q => absurd q.1 (by decide))) (by decide) (fun q => absurd q.1 (by decide))) (by decide) (fun q => absurd q.1 (by decide))) (by decide) ?_
  refine hw_tld (b := 1) (e := 0) (by decide +kernel) (get_st1 (get_st1 (get_st1 (get_st1 (get_st1 (get_st1 rfl (by decide) (fun q => tg4 q.2)) (by decide) (fun q => tg4 q.2)) (by decide) (fun q => tg4 q.2)) (by decide) (fun q => tg4 q.2)) (by decide) (fun q => tg4 q.2)) (by decide) (fun q => tg4 q.2)) ?_
  refine hw_ld (b := 2) (e := 0) (by decide +kernel) get_st1e ?_
  refine hw_txc (b := 4) (e := 2) (nl := 2) (v := 18) (z := 32) (As := [(0, 5)]) (R := [(2, 189)]) (by decide +kernel) rfl rfl (Nat.le_of_ble_eq_true rfl) (Nat.le_of_ble_eq_true rfl) (fun _ => rfl) ?_
  refine hr_call (a0 := 21) (b := 122) (e := 2) (nl := 2) (As := [(0, 32)]) (R := []) 189 rfl (by decide +kernel) rfl rfl (Nat.le_of_ble_eq_true rfl) (Nat.le_of_ble_eq_true rfl) ?_
  refine hw_mono H ?_
  rintro r ψ12 y12 ⟨hyx, hr, H⟩
  subst hyx
  subst hr
  refine ⟨hnen, ?_⟩
  show hw sc (d + 4) 123 19 (jm_st1 (jm_st1 (jm_st1 (jm_st1 (jm_st1 (jm_st1 [(0, (2, 189)), (1, (4, 18))] 2 (0, 0)) 2 (0, 1)) 2 (0, 2)) 2 (0, 3)) 2 (0, 4)) 2 (0, 5)) [] ψ12 y12 Q
  refine hw_inc (L' := (jm_st1 (jm_st1 (jm_st1 (jm_st1 (jm_st1 (jm_st1 (jm_st1 [(0, (2, 189)), (1, (4, 18))] 2 (0, 0)) 2 (0, 1)) 2 (0, 2)) 2 (0, 3)) 2 (0, 4)) 2 (0, 5)) 2 (0, 6))) (c := 1) (b := 2) (e := 0) (by decide +kernel) get_st1e rfl ?_
  refine hw_goto (a0 := 0) (b := 0) (e := 2) (by decide +kernel) ?_
  refine hw_ld (b := 2) (e := 0) (by decide +kernel) get_st1e ?_
  refine hw_tld (b := 1) (e := 0) (by decide +kernel) (get_st1 (get_st1 (get_st1 (get_st1 (get_st1 (get_st1 (get_st1 rfl (by decide) (fun q => tg4 q.2)) (by decide) (fun q => tg4 q.2)) (by decide) (fun q => tg4 q.2)) (by decide) (fun q => tg4 q.2)) (by decide) (fun q => tg4 q.2)) (by decide) (fun q => tg4 q.2)) (by decide) (fun q => tg4 q.2)) ?_
  refine hw_txc (b := 2) (e := 1) (nl := 1) (v := 18) (z := 6) (As := []) (R := [(0, 6)]) (by decide +kernel) rfl rfl (Nat.le_of_ble_eq_true rfl) (Nat.le_of_ble_eq_true rfl) (fun _ => rfl) ?_
  refine hw_if2 (a0 := 0) (b := 3) (e := 25) (by decide +kernel) (by unfold hi; omega) (by unfold hi; omega) (fun _ => ?_) (fun q => absurd (show 6 ≤ (6 : Int) by decide) q)
  exact hw_vret (a0 := 0) (e := 0) (by decide +kernel) H
theorem sf_123_189_100018 {sc : List Int} {d : Nat} {φ : hf_F} {x : Nat} {Q : Option jm_V → hf_F → Nat → Prop}  (hI : Inv φ)  (hQ : ∀ ψ : hf_F, Inv ψ → Fr [190, 190001] φ ψ → F_Line_addText_189_100018 φ = ψ → Q none ψ x) : hw sc (d + 4) 123 0 [(0, (2, 189)), (1, (4, 18))] [] φ x Q := by
  apply sf_123_189_100018_v
  have e0 : F_Line_addText_189_100018 φ = _ := rfl
  refine sf_122_189 (φ := φ) hI  (fun ψ2 hI2 hF2 hE2 => ⟨rfl, rfl, ?_⟩)
  have hG2 : Fr [190, 190001] φ ψ2 := fr_tr (fr_rf) hF2 (by decide)
  have e2 := e0.trans (bnv_e hE2)
  refine sf_122_189 (φ := ψ2) hI2  (fun ψ4 hI4 hF4 hE4 => ⟨rfl, rfl, ?_⟩)
  have hG4 : Fr [190, 190001] φ ψ4 := fr_tr hG2 hF4 (by decide)
  have e4 := e2.trans (bnv_e hE4)
  refine sf_122_189 (φ := ψ4) hI4  (fun ψ6 hI6 hF6 hE6 => ⟨rfl, rfl, ?_⟩)
  have hG6 : Fr [190, 190001] φ ψ6 := fr_tr hG4 hF6 (by decide)
  have e6 := e4.trans (bnv_e hE6)
  refine sf_122_189 (φ := ψ6) hI6  (fun ψ8 hI8 hF8 hE8 => ⟨rfl, rfl, ?_⟩)
  have hG8 : Fr [190, 190001] φ ψ8 := fr_tr hG6 hF8 (by decide)
  have e8 := e6.trans (bnv_e hE8)
  refine sf_122_189 (φ := ψ8) hI8  (fun ψ10 hI10 hF10 hE10 => ⟨rfl, rfl, ?_⟩)
  have hG10 : Fr [190, 190001] φ ψ10 := fr_tr hG8 hF10 (by decide)
  have e10 := e8.trans (bnv_e hE10)
  refine sf_122_189 (φ := ψ10) hI10  (fun ψ12 hI12 hF12 hE12 => ⟨rfl, rfl, ?_⟩)
  have hG12 : Fr [190, 190001] φ ψ12 := fr_tr hG10 hF12 (by decide)
  have e12 := e10.trans (bnv_e hE12)
  exact hQ ψ12 hI12 hG12 e12
theorem sf_123_189_100016_v {sc : List Int} {d : Nat} {φ : hf_F} {x : Nat} {Q : Option jm_V → hf_F → Nat → Prop} 
    (H : hw sc (d + 3) 122 0 [(0, (2, 189)), (1, (0, 32))] [] φ x (fun r ψ2 y2 => y2 = x ∧ (r = none ∧ (hw sc (d + 3) 122 0 [(0, (2, 189)), (1, (0, 109))] [] ψ2 x (fun r ψ4 y4 => y4 = x ∧ (r = none ∧ (hw sc (d + 3) 122 0 [(0, (2, 189)), (1, (0, 117))] [] ψ4 x (fun r ψ6 y6 => y6 = x ∧ (r = none ∧ (hw sc (d + 3) 122 0 [(0, (2, 189)), (1, (0, 116))] [] ψ6 x (fun r ψ8 y8 => y8 = x ∧ (r = none ∧ (hw sc (d + 3) 122 0 [(0, (2, 189)), (1, (0, 101))] [] ψ8 x (fun r ψ10 y10 => y10 = x ∧ (r = none ∧ (Q none ψ10 x)))))))))))))))) :
    hw sc (d + 4) 123 0 [(0, (2, 189)), (1, (4, 16))] [] φ x Q := by
  refine hw_k (c := 0) (b := 0) (e := 1) (by decide +kernel) ?_
  refine hw_st (L' := (jm_st1 [(0, (2, 189)), (1, (4, 16))] 2 (0, 0))) (b := 2) (e := 0) (by decide +kernel) rfl ?_
  refine hw_ld (b := 2) (e := 0) (by decide +kernel) get_st1e ?_
  refine hw_tld (b := 1) (e := 0) (by decide +kernel) (get_st1 rfl (by decide) (fun q => tg4 q.2)) ?_
  refine hw_txc (b := 2) (e := 1) (nl := 1) (v := 16) (z := 5) (As := []) (R := [(0, 0)]) (by decide +kernel) rfl rfl (Nat.le_of_ble_eq_true rfl) (Nat.le_of_ble_eq_true rfl) (fun _ => rfl) ?_
  refine hw_if2 (a0 := 0) (b := 3) (e := 25) (by decide +kernel) (by unfold hi; omega) (by unfold hi; omega) (fun q => absurd (show 5 ≤ (0 : Int) from q) (by decide)) (fun _ => ?_)
  refine hw_ald (b := 0) (e := 0) (by decide +kernel) (get_st1 rfl (by decide) (fun q => absurd q.1 (by decide))) (by decide) ?_
  refine hw_tld (b := 1) (e := 0) (by decide +kernel) (get_st1 rfl (by decide) (fun q => tg4 q.2)) ?_
  refine hw_ld (b := 2) (e := 0) (by decide +kernel) get_st1e ?_
  refine hw_txc (b := 4) (e := 2) (nl := 2) (v := 16) (z := 32) (As := [(0, 0)]) (R := [(2, 189)]) (by decide +kernel) rfl rfl (Nat.le_of_ble_eq_true rfl) (Nat.le_of_ble_eq_true rfl) (fun _ => rfl) ?_
  refine hr_call (a0 := 21) (b := 122) (e := 2) (nl := 2) (As := [(0, 32)]) (R := []) 189 rfl (by decide +kernel) rfl rfl (Nat.le_of_ble_eq_true rfl) (Nat.le_of_ble_eq_true rfl) ?_
  refine hw_mono H ?_
  rintro r ψ2 y2 ⟨hyx, hr, H⟩
  subst hyx
  subst hr
  refine ⟨hnen, ?_⟩
  show hw sc (d + 4) 123 19 (jm_st1 [(0, (2, 189)), (1, (4, 16))] 2 (0, 0)) [] ψ2 y2 Q
  refine hw_inc (L' := (jm_st1 (jm_st1 [(0, (2, 189)), (1, (4, 16))] 2 (0, 0)) 2 (0, 1))) (c := 1) (b := 2) (e := 0) (by decide +kernel) get_st1e rfl ?_
  refine hw_goto (a0 := 0) (b := 0) (e := 2) (by decide +kernel) ?_
  refine hw_ld (b := 2) (e := 0) (by decide +kernel) get_st1e ?_
  refine hw_tld (b := 1) (e := 0) (by decide +kernel) (get_st1 (get_st1 rfl (by decide) (fun q => tg4 q.2)) (by decide) (fun q => tg4 q.2)) ?_
  refine hw_txc (b := 2) (e := 1) (nl := 1) (v := 16) (z := 5) (As := []) (R := [(0, 1)]) (by decide +kernel) rfl rfl (Nat.le_of_ble_eq_true rfl) (Nat.le_of_ble_eq_true rfl) (fun _ => rfl) ?_
  refine hw_if2 (a0 := 0) (b := 3) (e := 25) (by decide +kernel) (by unfold hi; omega) (by unfold hi; omega) (fun q => absurd (show 5 ≤ (1 : Int) from q) (by decide)) (fun _ => ?_)
  refine hw_ald (b := 0) (e := 0) (by decide +kernel) (get_st1 (get_st1 rfl (by decide) (fun q => absurd q.1 (by decide))) (by decide) (fun q => absurd q.1 (by decide))) (by decide) ?_
  refine hw_tld (b := 1) (e := 0) (by decide +kernel) (get_st1 (get_st1 rfl (by decide) (fun q => tg4 q.2)) (by decide) (fun q => tg4 q.2)) ?_
  refine hw_ld (b := 2) (e := 0) (by decide +kernel) get_st1e ?_
  refine hw_txc (b := 4) (e := 2) (nl := 2) (v := 16) (z := 109) (As := [(0, 1)]) (R := [(2, 189)]) (by decide +kernel) rfl rfl (Nat.le_of_ble_eq_true rfl) (Nat.le_of_ble_eq_true rfl) (fun _ => rfl) ?_
  refine hr_call (a0 := 21) (b := 122) (e := 2) (nl := 2) (As := [(0, 109)]) (R := []) 189 rfl (by decide +kernel) rfl rfl (Nat.le_of_ble_eq_true rfl) (Nat.le_of_ble_eq_true rfl) ?_
  refine hw_mono H ?_
  rintro r ψ4 y4 ⟨hyx, hr, H⟩
  subst hyx
  subst hr
  refine ⟨hnen, ?_⟩
  show hw sc (d + 4) 123 19 (jm_st1 (jm_st1 [(0, (2, 189)), (1, (4, 16))] 2 (0, 0)) 2 (0, 1)) [] ψ4 y4 Q
  refine hw_inc (L' := (jm_st1 (jm_st1 (jm_st1 [(0, (2, 189)), (1, (4, 16))] 2 (0, 0)) 2 (0, 1)) 2 (0, 2))) (c := 1) (b := 2) (e := 0) (by decide +kernel) get_st1e rfl ?_
  refine hw_goto (a0 := 0) (b := 0) (e := 2) (by decide +kernel) ?_
  refine hw_ld (b := 2) (e := 0) (by decide +kernel) get_st1e ?_
  refine hw_tld (b := 1) (e := 0) (by decide +kernel) (get_st1 (get_st1 (get_st1 rfl (by decide) (fun q => tg4 q.2)) (by decide) (fun q => tg4 q.2)) (by decide) (fun q => tg4 q.2)) ?_
  refine hw_txc (b := 2) (e := 1) (nl := 1) (v := 16) (z := 5) (As := []) (R := [(0, 2)]) (by decide +kernel) rfl rfl (Nat.le_of_ble_eq_true rfl) (Nat.le_of_ble_eq_true rfl) (fun _ => rfl) ?_
  refine hw_if2 (a0 := 0) (b := 3) (e := 25) (by decide +kernel) (by unfold hi; omega) (by unfold hi; omega) (fun q => absurd (show 5 ≤ (2 : Int) from q) (by decide)) (fun _ => ?_)
  refine hw_ald (b := 0) (e := 0) (by decide +kernel) (get_st1 (get_st1 (get_st1 rfl (by decide) (fun q => absurd q.1 (by decide))) (by decide) (fun q => absurd q.1 (by decide))) (by decide) (fun q => absurd q.1 (by decide))) (by decide) ?_
  refine hw_tld (b := 1) (e := 0) (by decide +kernel) (get_st1 (get_st1 (get_st1 rfl (by decide) (fun q => tg4 q.2)) (by decide) (fun q => tg4 q.2)) (by decide) (fun q => tg4 q.2)) ?_
  refine hw_ld (b := 2) (e := 0) (by decide +kernel) get_st1e ?_
  refine hw_txc (b := 4) (e := 2) (nl := 2) (v := 16) (z := 117) (As := [(0, 2)]) (R := [(2, 189)]) (by decide +kernel) rfl rfl (Nat.le_of_ble_eq_true rfl) (Nat.le_of_ble_eq_true rfl) (fun _ => rfl) ?_
  refine hr_call (a0 := 21) (b := 122) (e := 2) (nl := 2) (As := [(0, 117)]) (R := []) 189 rfl (by decide +kernel) rfl rfl (Nat.le_of_ble_eq_true rfl) (Nat.le_of_ble_eq_true rfl) ?_
  refine hw_mono H ?_
  rintro r ψ6 y6 ⟨hyx, hr, H⟩
  subst hyx
  subst hr
  refine ⟨hnen, ?_⟩
  show hw sc (d + 4) 123 19 (jm_st1 (jm_st1 (jm_st1 [(0, (2, 189)), (1, (4, 16))] 2 (0, 0)) 2 (0, 1)) 2 (0, 2)) [] ψ6 y6 Q
  refine hw_inc (L' := (jm_st1 (jm_st1 (jm_st1 (jm_st1 [(0, (2, 189)), (1, (4, 16))] 2 (0, 0)) 2 (0, 1)) 2 (0, 2)) 2 (0, 3))) (c := 1) (b := 2) (e := 0) (by decide +kernel) get_st1e rfl ?_
  refine hw_goto (a0 := 0) (b := 0) (e := 2) (by decide +kernel) ?_
  refine hw_ld (b := 2) (e := 0) (by decide +kernel) get_st1e ?_
  refine hw_tld (b := 1) (e := 0) (by decide +kernel) (get_st1 (get_st1 (get_st1 (get_st1 rfl (by decide) (fun q => tg4 q.2)) (by decide) (fun q => tg4 q.2)) (by decide) (fun q => tg4 q.2)) (by decide) (fun q => tg4 q.2)) ?_
  refine hw_txc (b := 2) (e := 1) (nl := 1) (v := 16) (z := 5) (As := []) (R := [(0, 3)]) (by decide +kernel) rfl rfl (Nat.le_of_ble_eq_true rfl) (Nat.le_of_ble_eq_true rfl) (fun _ => rfl) ?_
  refine hw_if2 (a0 := 0) (b := 3) (e := 25) (by decide +kernel) (by unfold hi; omega) (by unfold hi; omega) (fun q => absurd (show 5 ≤ (3 : Int) from q) (by decide)) (fun _ => ?_)
  refine hw_ald (b := 0) (e := 0) (by decide +kernel) (get_st1 (get_st1 (get_st1 (get_st1 rfl (by decide) (fun q => absurd q.1 (by decide))) (by decide) (fun q => absurd q.1 (by decide))) (by decide) (fun q => absurd q.1 (by decide))) (by decide) (fun q => absurd q.1 (by decide))) (by decide) ?_
  refine hw_tld (b := 1) (e := 0) (by decide +kernel) (get_st1 (get_st1 (get_st1 (get_st1 rfl (by decide) (fun q => tg4 q.2)) (by decide) (fun q => tg4 q.2)) (by decide) (fun q => tg4 q.2)) (by decide) (fun q => tg4 q.2)) ?_
  refine hw_ld (b := 2) (e := 0) (by decide +kernel) get_st1e ?_
  refine hw_txc (b := 4) (e := 2) (nl := 2) (v := 16) (z := 116) (As := [(0, 3)]) (R := [(2, 189)]) (by decide +kernel) rfl rfl (Nat.le_of_ble_eq_true rfl) (Nat.le_of_ble_eq_true rfl) (fun _ => rfl) ?_
  refine hr_call (a0 := 21) (b := 122) (e := 2) (nl := 2) (As := [(0, 116)]) (R := []) 189 rfl (by decide +kernel) rfl rfl (Nat.le_of_ble_eq_true rfl) (Nat.le_of_ble_eq_true rfl) ?_
  refine hw_mono H ?_
  rintro r ψ8 y8 ⟨hyx, hr, H⟩
  subst hyx
  subst hr
  refine ⟨hnen, ?_⟩
  show hw sc (d + 4) 123 19 (jm_st1 (jm_st1 (jm_st1 (jm_st1 [(0, (2, 189)), (1, (4, 16))] 2 (0, 0)) 2 (0, 1)) 2 (0, 2)) 2 (0, 3)) [] ψ8 y8 Q
  refine hw_inc (L' := (jm_st1 (jm_st1 (jm_st1 (jm_st1 (jm_st1 [(0, (2, 189)), (1, (4, 16))] 2 (0, 0)) 2 (0, 1)) 2 (0, 2)) 2 (0, 3)) 2 (0, 4))) (c := 1) (b := 2) (e := 0) (by decide +kernel) get_st1e rfl ?_
  refine hw_goto (a0 := 0) (b := 0) (e := 2) (by decide +kernel) ?_
  refine hw_ld (b := 2) (e := 0) (by decide +kernel) get_st1e ?_
  refine hw_tld (b := 1) (e := 0) (by decide +kernel) (get_st1 (get_st1 (get_st1 (get_st1 (get_st1 rfl (by decide) (fun q => tg4 q.2)) (by decide) (fun q => tg4 q.2)) (by decide) (fun q => tg4 q.2)) (by decide) (fun q => tg4 q.2)) (by decide) (fun q => tg4 q.2)) ?_
  refine hw_txc (b := 2) (e := 1) (nl := 1) (v := 16) (z := 5) (As := []) (R := [(0, 4)]) (by decide +kernel) rfl rfl (Nat.le_of_ble_eq_true rfl) (Nat.le_of_ble_eq_true rfl) (fun _ => rfl) ?_
  refine hw_if2 (a0 := 0) (b := 3) (e := 25) (by decide +kernel) (by unfold hi; omega) (by unfold hi; omega) (fun q => absurd (show 5 ≤ (4 : Int) from q) (by decide)) (fun _ => ?_)
  refine hw_ald (b := 0) (e := 0) (by decide +kernel) (get_st1 (get_st1 (get_st1 (get_st1 (get_st1 rfl (by decide) (fun q => absurd q.1 (by decide))) (by decide) (fun q => absurd q.1 (by decide))) (by decide) (fun q => absurd q.1 (by decide))) (by decide) (fun q => absurd q.1 (by decide))) (by decide) (fun q => absurd q.1 (by decide))) (by decide) ?_
  refine hw_tld (b := 1) (e := 0) (by decide +kernel) (get_st1 (get_st1 (get_st1 (get_st1 (get_st1 rfl (by decide) (fun q => tg4 q.2)) (by decide) (fun q => tg4 q.2)) (by decide) (fun q => tg4 q.2)) (by decide) (fun q => tg4 q.2)) (by decide) (fun q => tg4 q.2)) ?_
  refine hw_ld (b := 2) (e := 0) (by decide +kernel) get_st1e ?_
  refine hw_txc (b := 4) (e := 2) (nl := 2) (v := 16) (z := 101) (As := [(0, 4)]) (R := [(2, 189)]) (by decide +kernel) rfl rfl (Nat.le_of_ble_eq_true rfl) (Nat.le_of_ble_eq_true rfl) (fun _ => rfl) ?_
  refine hr_call (a0 := 21) (b := 122) (e := 2) (nl := 2) (As := [(0, 101)]) (R := []) 189 rfl (by decide +kernel) rfl rfl (Nat.le_of_ble_eq_true rfl) (Nat.le_of_ble_eq_true rfl) ?_
  refine hw_mono H ?_
  rintro r ψ10 y10 ⟨hyx, hr, H⟩
  subst hyx
  subst hr
  refine ⟨hnen, ?_⟩
  show hw sc (d + 4) 123 19 (jm_st1 (jm_st1 (jm_st1 (jm_st1 (jm_st1 [(0, (2, 189)), (1, (4, 16))] 2 (0, 0)) 2 (0, 1)) 2 (0, 2)) 2 (0, 3)) 2 (0, 4)) [] ψ10 y10 Q
  refine hw_inc (L' := (jm_st1 (jm_st1 (jm_st1 (jm_st1 (jm_st1 (jm_st1 [(0, (2, 189)), (1, (4, 16))] 2 (0, 0)) 2 (0, 1)) 2 (0, 2)) 2 (0, 3)) 2 (0, 4)) 2 (0, 5))) (c := 1) (b := 2) (e := 0) (by decide +kernel) get_st1e rfl ?_
  refine hw_goto (a0 := 0) (b := 0) (e := 2) (by decide +kernel) ?_
  refine hw_ld (b := 2) (e := 0) (by decide +kernel) get_st1e ?_
  refine hw_tld (b := 1) (e := 0) (by decide +kernel) (get_st1 (get_st1 (get_st1 (get_st1 (get_st1 (get_st1 rfl (by decide) (fun q => tg4 q.2)) (by decide) (fun q => tg4 q.2)) (by decide) (fun q => tg4 q.2)) (by decide) (fun q => tg4 q.2)) (by decide) (fun q => tg4 q.2)) (by decide) (fun q => tg4 q.2)) ?_
  refine hw_txc (b := 2) (e := 1) (nl := 1) (v := 16) (z := 5) (As := []) (R := [(0, 5)]) (by decide +kernel) rfl rfl (Nat.le_of_ble_eq_true rfl) (Nat.le_of_ble_eq_true rfl) (fun _ => rfl) ?_
  refine hw_if2 (a0 := 0) (b := 3) (e := 25) (by decide +kernel) (by unfold hi; omega) (by unfold hi; omega) (fun _ => ?_) (fun q => absurd (show 5 ≤ (5 : Int) by decide) q)
  exact hw_vret (a0 := 0) (e := 0) (by decide +kernel) H
theorem sf_123_189_100016 {sc : List Int} {d : Nat} {φ : hf_F} {x : Nat} {Q : Option jm_V → hf_F → Nat → Prop}  (hI : Inv φ)  (hQ : ∀ ψ : hf_F, Inv ψ → Fr [190, 190001] φ ψ → F_Line_addText_189_100016 φ = ψ → Q none ψ x) : hw sc (d + 4) 123 0 [(0, (2, 189)), (1, (4, 16))] [] φ x Q := by
  apply sf_123_189_100016_v
  have e0 : F_Line_addText_189_100016 φ = _ := rfl
  refine sf_122_189 (φ := φ) hI  (fun ψ2 hI2 hF2 hE2 => ⟨rfl, rfl, ?_⟩)
  have hG2 : Fr [190, 190001] φ ψ2 := fr_tr (fr_rf) hF2 (by decide)
  have e2 := e0.trans (bnv_e hE2)
  refine sf_122_189 (φ := ψ2) hI2  (fun ψ4 hI4 hF4 hE4 => ⟨rfl, rfl, ?_⟩)
  have hG4 : Fr [190, 190001] φ ψ4 := fr_tr hG2 hF4 (by decide)
  have e4 := e2.trans (bnv_e hE4)
  refine sf_122_189 (φ := ψ4) hI4  (fun ψ6 hI6 hF6 hE6 => ⟨rfl, rfl, ?_⟩)
  have hG6 : Fr [190, 190001] φ ψ6 := fr_tr hG4 hF6 (by decide)
  have e6 := e4.trans (bnv_e hE6)
  refine sf_122_189 (φ := ψ6) hI6  (fun ψ8 hI8 hF8 hE8 => ⟨rfl, rfl, ?_⟩)
  have hG8 : Fr [190, 190001] φ ψ8 := fr_tr hG6 hF8 (by decide)
  have e8 := e6.trans (bnv_e hE8)
  refine sf_122_189 (φ := ψ8) hI8  (fun ψ10 hI10 hF10 hE10 => ⟨rfl, rfl, ?_⟩)
  have hG10 : Fr [190, 190001] φ ψ10 := fr_tr hG8 hF10 (by decide)
  have e10 := e8.trans (bnv_e hE10)
  exact hQ ψ10 hI10 hG10 e10
theorem sf_123_189_100012_v {sc : List Int} {d : Nat} {φ : hf_F} {x : Nat} {Q : Option jm_V → hf_F → Nat → Prop} 
    (H : hw sc (d + 3) 122 0 [(0, (2, 189)), (1, (0, 32))] [] φ x (fun r ψ2 y2 => y2 = x ∧ (r = none ∧ (hw sc (d + 3) 122 0 [(0, (2, 189)), (1, (0, 111))] [] ψ2 x (fun r ψ4 y4 => y4 = x ∧ (r = none ∧ (hw sc (d + 3) 122 0 [(0, (2, 189)), (1, (0, 102))] [] ψ4 x (fun r ψ6 y6 => y6 = x ∧ (r = none ∧ (hw sc (d + 3) 122 0 [(0, (2, 189)), (1, (0, 102))] [] ψ6 x (fun r ψ8 y8 => y8 = x ∧ (r = none ∧ (Q none ψ8 x))))))))))))) :
    hw sc (d + 4) 123 0 [(0, (2, 189)), (1, (4, 12))] [] φ x Q := by
  refine hw_k (c := 0) (b := 0) (e := 1) (by decide +kernel) ?_
  refine hw_st (L' := (jm_st1 [(0, (2, 189)), (1, (4, 12))] 2 (0, 0))) (b := 2) (e := 0) (by decide +kernel) rfl ?_
  refine hw_ld (b := 2) (e := 0) (by decide +kernel) get_st1e ?_
  refine hw_tld (b := 1) (e := 0) (by decide +kernel) (get_st1 rfl (by decide) (fun q => tg4 q.2)) ?_
  refine hw_txc (b := 2) (e := 1) (nl := 1) (v := 12) (z := 4) (As := []) (R := [(0, 0)]) (by decide +kernel) rfl rfl (Nat.le_of_ble_eq_true rfl) (Nat.le_of_ble_eq_true rfl) (fun _ => rfl) ?_
  refine hw_if2 (a0 := 0) (b := 3) (e := 25) (by decide +kernel) (by unfold hi; omega) (by unfold hi; omega) (fun q => absurd (show 4 ≤ (0 : Int) from q) (by decide)) (fun _ => ?_)
  refine hw_ald (b := 0) (e := 0) (by decide +kernel) (get_st1 rfl (by decide) (fun q => absurd q.1 (by decide))) (by decide) ?_
  refine hw_tld (b := 1) (e := 0) (by decide +kernel) (get_st1 rfl (by decide) (fun q => tg4 q.2)) ?_
  refine hw_ld (b := 2) (e := 0) (by decide +kernel) get_st1e ?_
  refine hw_txc (b := 4) (e := 2) (nl := 2) (v := 12) (z := 32) (As := [(0, 0)]) (R := [(2, 189)]) (by decide +kernel) rfl rfl (Nat.le_of_ble_eq_true rfl) (Nat.le_of_ble_eq_true rfl) (fun _ => rfl) ?_
  refine hr_call (a0 := 21) (b := 122) (e := 2) (nl := 2) (As := [(0, 32)]) (R := []) 189 rfl (by decide +kernel) rfl rfl (Nat.le_of_ble_eq_true rfl) (Nat.le_of_ble_eq_true rfl) ?_
  refine hw_mono H ?_
  rintro r ψ2 y2 ⟨hyx, hr, H⟩
  subst hyx
  subst hr
  refine ⟨hnen, ?_⟩
  show hw sc (d + 4) 123 19 (jm_st1 [(0, (2, 189)), (1, (4, 12))] 2 (0, 0)) [] ψ2 y2 Q
  refine hw_inc (L' := (jm_st1 (jm_st1 [(0, (2, 189)), (1, (4, 12))] 2 (0, 0)) 2 (0, 1))) (c := 1) (b := 2) (e := 0) (by decide +kernel) get_st1e rfl ?_
  refine hw_goto (a0 := 0) (b := 0) (e := 2) (by decide +kernel) ?_
  refine hw_ld (b := 2) (e := 0) (by decide +kernel) get_st1e ?_
  refine hw_tld (b := 1) (e := 0) (by decide +kernel) (get_st1 (get_st1 rfl (by decide) (fun q => tg4 q.2)) (by decide) (fun q => tg4 q.2)) ?_
  refine hw_txc (b := 2) (e := 1) (nl := 1) (v := 12) (z := 4) (As := []) (R := [(0, 1)]) (by decide +kernel) rfl rfl (Nat.le_of_ble_eq_true rfl) (Nat.le_of_ble_eq_true rfl) (fun _ => rfl) ?_
  refine hw_if2 (a0 := 0) (b := 3) (e := 25) (by decide +kernel) (by unfold hi; omega) (by unfold hi; omega) (fun q => absurd (show 4 ≤ (1 : Int) from q) (by decide)) (fun _ => ?_)
  refine hw_ald (b := 0) (e := 0) (by decide +kernel) (get_st1 (get_st1 rfl (by decide) (fun q => absurd q.1 (by decide))) (by decide) (fun q => absurd q.1 (by decide))) (by decide) ?_
  refine hw_tld (b := 1) (e := 0) (by decide +kernel) (get_st1 (get_st1 rfl (by decide) (fun q => tg4 q.2)) (by decide) (fun q => tg4 q.2)) ?_
  refine hw_ld (b := 2) (e := 0) (by decide +kernel) get_st1e ?_
  refine hw_txc (b := 4) (e := 2) (nl := 2) (v := 12) (z := 111) (As := [(0, 1)]) (R := [(2, 189)]) (by decide +kernel) rfl rfl (Nat.le_of_ble_eq_true rfl) (Nat.le_of_ble_eq_true rfl) (fun _ => rfl) ?_
  refine hr_call (a0 := 21) (b := 122) (e := 2) (nl := 2) (As := [(0, 111)]) (R := []) 189 rfl (by decide +kernel) rfl rfl (Nat.le_of_ble_eq_true rfl) (Nat.le_of_ble_eq_true rfl) ?_
  refine hw_mono H ?_
  rintro r ψ4 y4 ⟨hyx, hr, H⟩
  subst hyx
  subst hr
  refine ⟨hnen, ?_⟩
  show hw sc (d + 4) 123 19 (jm_st1 (jm_st1 [(0, (2, 189)), (1, (4, 12))] 2 (0, 0)) 2 (0, 1)) [] ψ4 y4 Q
  refine hw_inc (L' := (jm_st1 (jm_st1 (jm_st1 [(0, (2, 189)), (1, (4, 12))] 2 (0, 0)) 2 (0, 1)) 2 (0, 2))) (c := 1) (b := 2) (e := 0) (by decide +kernel) get_st1e rfl ?_
  refine hw_goto (a0 := 0) (b := 0) (e := 2) (by decide +kernel) ?_
  refine hw_ld (b := 2) (e := 0) (by decide +kernel) get_st1e ?_
  refine hw_tld (b := 1) (e := 0) (by decide +kernel) (get_st1 (get_st1 (get_st1 rfl (by decide) (fun q => tg4 q.2)) (by decide) (fun q => tg4 q.2)) (by decide) (fun q => tg4 q.2)) ?_
  refine hw_txc (b := 2) (e := 1) (nl := 1) (v := 12) (z := 4) (As := []) (R := [(0, 2)]) (by decide +kernel) rfl rfl (Nat.le_of_ble_eq_true rfl) (Nat.le_of_ble_eq_true rfl) (fun _ => rfl) ?_
  refine hw_if2 (a0 := 0) (b := 3) (e := 25) (by decide +kernel) (by unfold hi; omega) (by unfold hi; omega) (fun q => absurd (show 4 ≤ (2 : Int) from q) (by decide)) (fun _ => ?_)
  refine hw_ald (b := 0) (e := 0) (by decide +kernel) (get_st1 (get_st1 (get_st1 rfl (by decide) (fun q => absurd q.1 (by decide))) (by decide) (fun q => absurd q.1 (by decide))) (by decide) (fun q => absurd q.1 (by decide))) (by decide) ?_
  refine hw_tld (b := 1) (e := 0) (by decide +kernel) (get_st1 (get_st1 (get_st1 rfl (by decide) (fun q => tg4 q.2)) (by decide) (fun q => tg4 q.2)) (by decide) (fun q => tg4 q.2)) ?_
  refine hw_ld (b := 2) (e := 0) (by decide +kernel) get_st1e ?_
  refine hw_txc (b := 4) (e := 2) (nl := 2) (v := 12) (z := 102) (As := [(0, 2)]) (R := [(2, 189)]) (by decide +kernel) rfl rfl (Nat.le_of_ble_eq_true rfl) (Nat.le_of_ble_eq_true rfl) (fun _ => rfl) ?_
  refine hr_call (a0 := 21) (b := 122) (e := 2) (nl := 2) (As := [(0, 102)]) (R := []) 189 rfl (by decide +kernel) rfl rfl (Nat.le_of_ble_eq_true rfl) (Nat.le_of_ble_eq_true rfl) ?_
  refine hw_mono H ?_
  rintro r ψ6 y6 ⟨hyx, hr, H⟩
  subst hyx
  subst hr
  refine ⟨hnen, ?_⟩
  show hw sc (d + 4) 123 19 (jm_st1 (jm_st1 (jm_st1 [(0, (2, 189)), (1, (4, 12))] 2 (0, 0)) 2 (0, 1)) 2 (0, 2)) [] ψ6 y6 Q
  refine hw_inc (L' := (jm_st1 (jm_st1 (jm_st1 (jm_st1 [(0, (2, 189)), (1, (4, 12))] 2 (0, 0)) 2 (0, 1)) 2 (0, 2)) 2 (0, 3))) (c := 1) (b := 2) (e := 0) (by decide +kernel) get_st1e rfl ?_
  refine hw_goto (a0 := 0) (b := 0) (e := 2) (by decide +kernel) ?_
  refine hw_ld (b := 2) (e := 0) (by decide +kernel) get_st1e ?_
  refine hw_tld (b := 1) (e := 0) (by decide +kernel) (get_st1 (get_st1 (get_st1 (get_st1 rfl (by decide) (fun q => tg4 q.2)) (by decide) (fun q => tg4 q.2)) (by decide) (fun q => tg4 q.2)) (by decide) (fun q => tg4 q.2)) ?_
  refine hw_txc (b := 2) (e := 1) (nl := 1) (v := 12) (z := 4) (As := []) (R := [(0, 3)]) (by decide +kernel) rfl rfl (Nat.le_of_ble_eq_true rfl) (Nat.le_of_ble_eq_true rfl) (fun _ => rfl) ?_
  refine hw_if2 (a0 := 0) (b := 3) (e := 25) (by decide +kernel) (by unfold hi; omega) (by unfold hi; omega) (fun q => absurd (show 4 ≤ (3 : Int) from q) (by decide)) (fun _ => ?_)
  refine hw_ald (b := 0) (e := 0) (by decide +kernel) (get_st1 (get_st1 (get_st1 (get_st1 rfl (by decide) (fun q => absurd q.1 (by decide))) (by decide) (fun q => absurd q.1 (by decide))) (by decide) (fun q => absurd q.1 (by decide))) (by decide) (fun q => absurd q.1 (by decide))) (by decide) ?_
  refine hw_tld (b := 1) (e := 0) (by decide +kernel) (get_st1 (get_st1 (get_st1 (get_st1 rfl (by decide) (fun q => tg4 q.2)) (by decide) (fun q => tg4 q.2)) (by decide) (fun q => tg4 q.2)) (by decide) (fun q => tg4 q.2)) ?_
  refine hw_ld (b := 2) (e := 0) (by decide +kernel) get_st1e ?_
  refine hw_txc (b := 4) (e := 2) (nl := 2) (v := 12) (z := 102) (As := [(0, 3)]) (R := [(2, 189)]) (by decide +kernel) rfl rfl (Nat.le_of_ble_eq_true rfl) (Nat.le_of_ble_eq_true rfl) (fun _ => rfl) ?_
  refine hr_call (a0 := 21) (b := 122) (e := 2) (nl := 2) (As := [(0, 102)]) (R := []) 189 rfl (by decide +kernel) rfl rfl (Nat.le_of_ble_eq_true rfl) (Nat.le_of_ble_eq_true rfl) ?_
  refine hw_mono H ?_
  rintro r ψ8 y8 ⟨hyx, hr, H⟩
  subst hyx
  subst hr
  refine ⟨hnen, ?_⟩
  show hw sc (d + 4) 123 19 (jm_st1 (jm_st1 (jm_st1 (jm_st1 [(0, (2, 189)), (1, (4, 12))] 2 (0, 0)) 2 (0, 1)) 2 (0, 2)) 2 (0, 3)) [] ψ8 y8 Q
  refine hw_inc (L' := (jm_st1 (jm_st1 (jm_st1 (jm_st1 (jm_st1 [(0, (2, 189)), (1, (4, 12))] 2 (0, 0)) 2 (0, 1)) 2 (0, 2)) 2 (0, 3)) 2 (0, 4))) (c := 1) (b := 2) (e := 0) (by decide +kernel) get_st1e rfl ?_
  refine hw_goto (a0 := 0) (b := 0) (e := 2) (by decide +kernel) ?_
  refine hw_ld (b := 2) (e := 0) (by decide +kernel) get_st1e ?_
  refine hw_tld (b := 1) (e := 0) (by decide +kernel) (get_st1 (get_st1 (get_st1 (get_st1 (get_st1 rfl (by decide) (fun q => tg4 q.2)) (by decide) (fun q => tg4 q.2)) (by decide) (fun q => tg4 q.2)) (by decide) (fun q => tg4 q.2)) (by decide) (fun q => tg4 q.2)) ?_
  refine hw_txc (b := 2) (e := 1) (nl := 1) (v := 12) (z := 4) (As := []) (R := [(0, 4)]) (by decide +kernel) rfl rfl (Nat.le_of_ble_eq_true rfl) (Nat.le_of_ble_eq_true rfl) (fun _ => rfl) ?_
  refine hw_if2 (a0 := 0) (b := 3) (e := 25) (by decide +kernel) (by unfold hi; omega) (by unfold hi; omega) (fun _ => ?_) (fun q => absurd (show 4 ≤ (4 : Int) by decide) q)
  exact hw_vret (a0 := 0) (e := 0) (by decide +kernel) H
theorem sf_123_189_100012 {sc : List Int} {d : Nat} {φ : hf_F} {x : Nat} {Q : Option jm_V → hf_F → Nat → Prop}  (hI : Inv φ)  (hQ : ∀ ψ : hf_F, Inv ψ → Fr [190, 190001] φ ψ → F_Line_addText_189_100012 φ = ψ → Q none ψ x) : hw sc (d + 4) 123 0 [(0, (2, 189)), (1, (4, 12))] [] φ x Q := by
  apply sf_123_189_100012_v
  have e0 : F_Line_addText_189_100012 φ = _ := rfl
  refine sf_122_189 (φ := φ) hI  (fun ψ2 hI2 hF2 hE2 => ⟨rfl, rfl, ?_⟩)
  have hG2 : Fr [190, 190001] φ ψ2 := fr_tr (fr_rf) hF2 (by decide)
  have e2 := e0.trans (bnv_e hE2)
  refine sf_122_189 (φ := ψ2) hI2  (fun ψ4 hI4 hF4 hE4 => ⟨rfl, rfl, ?_⟩)
  have hG4 : Fr [190, 190001] φ ψ4 := fr_tr hG2 hF4 (by decide)
  have e4 := e2.trans (bnv_e hE4)
  refine sf_122_189 (φ := ψ4) hI4  (fun ψ6 hI6 hF6 hE6 => ⟨rfl, rfl, ?_⟩)
  have hG6 : Fr [190, 190001] φ ψ6 := fr_tr hG4 hF6 (by decide)
  have e6 := e4.trans (bnv_e hE6)
  refine sf_122_189 (φ := ψ6) hI6  (fun ψ8 hI8 hF8 hE8 => ⟨rfl, rfl, ?_⟩)
  have hG8 : Fr [190, 190001] φ ψ8 := fr_tr hG6 hF8 (by decide)
  have e8 := e6.trans (bnv_e hE8)
  exact hQ ψ8 hI8 hG8 e8
theorem sf_119_0_v {sc : List Int} {d : Nat} {φ : hf_F} {x : Nat} {Q : Option jm_V → hf_F → Nat → Prop} {v1 : Int}
    (H : hw sc (d + 4) 70 0 [(0, (2, 0)), (1, (0, 3)), (2, (0, v1))] [] φ x (fun r ψ1 y1 => y1 = x ∧ φ = ψ1 ∧ (∃ z1 : Int, r = some (0, z1) ∧ (hi z1 ∧ (¬ z1 = 0 → hw sc (d + 4) 120 0 [(0, (2, 5)), (1, (0, 3)), (2, (0, v1))] [] (hf_up φ 189 1 0) x (fun r ψ3 y3 => y3 = x ∧ (hf_up φ 189 1 0) = ψ3 ∧ (∃ z3 : Int, r = some (1, z3) ∧ (hw sc (d + 4) 121 0 [(0, (2, 189)), (1, (1, z3))] [] (hf_up φ 189 1 0) x (fun r ψ4 y4 => y4 = x ∧ (r = none ∧ (0 ≤ v1 ∧ v1 < 6 ∧ (hi (ψ4 20 ((v1).toNat)) ∧ hi (-1 : Int) ∧ (¬ (ψ4 20 ((v1).toNat)) = (-1 : Int) → hw sc (d + 4) 123 0 [(0, (2, 189)), (1, (4, 14))] [] ψ4 x (fun r ψ7 y7 => y7 = x ∧ (r = none ∧ (hw sc (d + 4) 120 0 [(0, (2, 5)), (1, (0, 1)), (2, (0, ψ4 20 ((v1).toNat)))] [] ψ7 x (fun r ψ8 y8 => y8 = x ∧ ψ7 = ψ8 ∧ (∃ z8 : Int, r = some (1, z8) ∧ (hw sc (d + 4) 121 0 [(0, (2, 189)), (1, (1, z8))] [] ψ7 x (fun r ψ9 y9 => y9 = x ∧ (r = none ∧ (hw sc (d + 4) 124 0 [(0, (2, 17)), (1, (0, v1))] [] ψ9 x (fun r ψ10 y10 => y10 = x ∧ ψ9 = ψ10 ∧ (∃ z10 : Int, r = some (0, z10) ∧ (hi z10 ∧ hi (-1 : Int) ∧ (¬ z10 = (-1 : Int) → hw sc (d + 4) 123 0 [(0, (2, 189)), (1, (4, 18))] [] ψ9 x (fun r ψ12 y12 => y12 = x ∧ (r = none ∧ (hw sc (d + 4) 120 0 [(0, (2, 5)), (1, (0, 2)), (2, (0, z10))] [] ψ12 x (fun r ψ13 y13 => y13 = x ∧ ψ12 = ψ13 ∧ (∃ z13 : Int, r = some (1, z13) ∧ (hw sc (d + 4) 121 0 [(0, (2, 189)), (1, (1, z13))] [] ψ12 x (fun r ψ14 y14 => y14 = x ∧ (r = none ∧ (Q (some (0, ψ14 189 1)) ψ14 x)))))))))) ∧ (¬ (¬ z10 = (-1 : Int)) → hw sc (d + 4) 123 0 [(0, (2, 189)), (1, (4, 16))] [] ψ9 x (fun r ψ16 y16 => y16 = x ∧ (r = none ∧ (Q (some (0, ψ16 189 1)) ψ16 x))))))))))))))))) ∧ (¬ (¬ (ψ4 20 ((v1).toNat)) = (-1 : Int)) → hw sc (d + 4) 123 0 [(0, (2, 189)), (1, (4, 12))] [] ψ4 x (fun r ψ18 y18 => y18 = x ∧ (r = none ∧ (hw sc (d + 4) 124 0 [(0, (2, 17)), (1, (0, v1))] [] ψ18 x (fun r ψ19 y19 => y19 = x ∧ ψ18 = ψ19 ∧ (∃ z19 : Int, r = some (0, z19) ∧ (hi z19 ∧ hi (-1 : Int) ∧ (¬ z19 = (-1 : Int) → hw sc (d + 4) 123 0 [(0, (2, 189)), (1, (4, 18))] [] ψ18 x (fun r ψ21 y21 => y21 = x ∧ (r = none ∧ (hw sc (d + 4) 120 0 [(0, (2, 5)), (1, (0, 2)), (2, (0, z19))] [] ψ21 x (fun r ψ22 y22 => y22 = x ∧ ψ21 = ψ22 ∧ (∃ z22 : Int, r = some (1, z22) ∧ (hw sc (d + 4) 121 0 [(0, (2, 189)), (1, (1, z22))] [] ψ21 x (fun r ψ23 y23 => y23 = x ∧ (r = none ∧ (Q (some (0, ψ23 189 1)) ψ23 x)))))))))) ∧ (¬ (¬ z19 = (-1 : Int)) → hw sc (d + 4) 123 0 [(0, (2, 189)), (1, (4, 16))] [] ψ18 x (fun r ψ25 y25 => y25 = x ∧ (r = none ∧ (Q (some (0, ψ25 189 1)) ψ25 x))))))))))))))))))) ∧ (¬ (¬ z1 = 0) → Q (some (0, (-1 : Int))) φ x))))) :
    hw sc (d + 5) 119 0 [(0, (2, 0)), (1, (0, v1))] [] φ x Q := by
  refine hw_ald (b := 0) (e := 0) (by decide +kernel) rfl (by decide) ?_
  refine hw_k (c := 3) (b := 0) (e := 1) (by decide +kernel) ?_
  refine hw_ld (b := 1) (e := 0) (by decide +kernel) rfl ?_
  refine hr_call (a0 := 10) (b := 70) (e := 3) (nl := 3) (As := [(0, 3), (0, v1)]) (R := []) 0 rfl (by decide +kernel) rfl rfl (Nat.le_of_ble_eq_true rfl) (Nat.le_of_ble_eq_true rfl) ?_
  refine hw_mono H ?_
  rintro r ψ1 y1 ⟨hyx, hψx, z1, hr, H⟩
  subst hyx
  subst hψx
  subst hr
  refine ⟨hne0, ?_⟩
  show hw sc (d + 5) 119 6 [(0, (2, 0)), (1, (0, v1))] [(0, z1)] φ y1 Q
  obtain ⟨hz2, ht2, hf2⟩ := H
  refine hw_if (a0 := 0) (b := 1) (e := 11) (by decide +kernel) hz2 (fun q => ?_) (fun q => ?_)
  · have H := ht2 q
    refine hw_ald (b := 0) (e := 0) (by decide +kernel) rfl (by decide) ?_
    refine hr_gr (w := 189) (b := 0) (e := 10) 0 rfl (by decide +kernel) ?_
    refine hw_k (c := 0) (b := 0) (e := 1) (by decide +kernel) ?_
    refine hr_pi (b := 11) (e := 1) 189 rfl (by decide +kernel) ?_
    refine hw_ald (b := 0) (e := 0) (by decide +kernel) rfl (by decide) ?_
    refine hr_gr (w := 189) (b := 0) (e := 10) 0 rfl (by decide +kernel) ?_
    refine hw_ald (b := 0) (e := 0) (by decide +kernel) rfl (by decide) ?_
    refine hr_gr (w := 4) (b := 0) (e := 1) 0 rfl (by decide +kernel) ?_
    refine hr_gr (w := 5) (b := 2) (e := 0) 4 rfl (by decide +kernel) ?_
    refine hw_k (c := 3) (b := 0) (e := 1) (by decide +kernel) ?_
    refine hw_ld (b := 1) (e := 0) (by decide +kernel) rfl ?_
    refine hr_call (a0 := 13) (b := 120) (e := 3) (nl := 3) (As := [(0, 3), (0, v1)]) (R := [(2, 189)]) 5 rfl (by decide +kernel) rfl rfl (Nat.le_of_ble_eq_true rfl) (Nat.le_of_ble_eq_true rfl) ?_
    refine hw_mono H ?_
    rintro r ψ3 y3 ⟨hyx, hψx, z3, hr, H⟩
    subst hyx
    subst hψx
    subst hr
    refine ⟨hne1, ?_⟩
    show hw sc (d + 5) 119 35 [(0, (2, 0)), (1, (0, v1))] [(1, z3), (2, 189)] (hf_up φ 189 1 0) y3 Q
    refine hr_call (a0 := 21) (b := 121) (e := 2) (nl := 5) (As := [(1, z3)]) (R := []) 189 rfl (by decide +kernel) rfl rfl (Nat.le_of_ble_eq_true rfl) (Nat.le_of_ble_eq_true rfl) ?_
    refine hw_mono H ?_
    rintro r ψ4 y4 ⟨hyx, hr, H⟩
    subst hyx
    subst hr
    refine ⟨hnen, ?_⟩
    show hw sc (d + 5) 119 38 [(0, (2, 0)), (1, (0, v1))] [] ψ4 y4 Q
    refine hw_ald (b := 0) (e := 0) (by decide +kernel) rfl (by decide) ?_
    refine hr_gr (w := 4) (b := 0) (e := 1) 0 rfl (by decide +kernel) ?_
    refine hr_gr (w := 17) (b := 2) (e := 1) 4 rfl (by decide +kernel) ?_
    refine hr_gr (w := 20) (b := 4) (e := 8) 17 rfl (by decide +kernel) ?_
    refine hw_ld (b := 1) (e := 0) (by decide +kernel) rfl ?_
    obtain ⟨hl5, hu5, H⟩ := H
    refine hr_al (b := 0) (a0 := 0) (e := 0) (n := 6) (w := ψ4 20 ((v1).toNat)) 20 rfl (by decide +kernel) (by decide) hl5 hu5 rfl ?_
    refine hw_st (L' := (jm_st1 [(0, (2, 0)), (1, (0, v1))] 2 (0, ψ4 20 ((v1).toNat)))) (b := 2) (e := 0) (by decide +kernel) rfl ?_
    refine hw_ld (b := 2) (e := 0) (by decide +kernel) get_st1e ?_
    refine hw_k (c := (-1 : Int)) (b := 0) (e := 1) (by decide +kernel) ?_
    obtain ⟨hz6, hy6, ht6, hf6⟩ := H
    refine hw_if2 (a0 := 0) (b := 1) (e := 69) (by decide +kernel) hz6 hy6 (fun q => ?_) (fun q => ?_)
    · have H := ht6 q
      refine hw_ald (b := 0) (e := 0) (by decide +kernel) (get_st1 rfl (by decide) (fun q => absurd q.1 (by decide))) (by decide) ?_
      refine hr_gr (w := 189) (b := 0) (e := 10) 0 rfl (by decide +kernel) ?_
      refine hw_txt (v := 14) (a0 := 0) (b := 2) (e := 1) (by decide +kernel) (by decide) ?_
      refine hr_call (a0 := 21) (b := 123) (e := 2) (nl := 3) (As := [(4, 14)]) (R := []) 189 rfl (by decide +kernel) rfl rfl (Nat.le_of_ble_eq_true rfl) (Nat.le_of_ble_eq_true rfl) ?_
      refine hw_mono H ?_
      rintro r ψ7 y7 ⟨hyx, hr, H⟩
      subst hyx
      subst hr
      refine ⟨hnen, ?_⟩
      show hw sc (d + 5) 119 79 (jm_st1 [(0, (2, 0)), (1, (0, v1))] 2 (0, ψ4 20 ((v1).toNat))) [] ψ7 y7 Q
      refine hw_ald (b := 0) (e := 0) (by decide +kernel) (get_st1 rfl (by decide) (fun q => absurd q.1 (by decide))) (by decide) ?_
      refine hr_gr (w := 189) (b := 0) (e := 10) 0 rfl (by decide +kernel) ?_
      refine hw_ald (b := 0) (e := 0) (by decide +kernel) (get_st1 rfl (by decide) (fun q => absurd q.1 (by decide))) (by decide) ?_
      refine hr_gr (w := 4) (b := 0) (e := 1) 0 rfl (by decide +kernel) ?_
      refine hr_gr (w := 5) (b := 2) (e := 0) 4 rfl (by decide +kernel) ?_
      refine hw_k (c := 1) (b := 0) (e := 1) (by decide +kernel) ?_
      refine hw_ld (b := 2) (e := 0) (by decide +kernel) get_st1e ?_
      refine hr_call (a0 := 13) (b := 120) (e := 3) (nl := 3) (As := [(0, 1), (0, ψ4 20 ((v1).toNat))]) (R := [(2, 189)]) 5 rfl (by decide +kernel) rfl rfl (Nat.le_of_ble_eq_true rfl) (Nat.le_of_ble_eq_true rfl) ?_
      refine hw_mono H ?_
      rintro r ψ8 y8 ⟨hyx, hψx, z8, hr, H⟩
      subst hyx
      subst hψx
      subst hr
      refine ⟨hne1, ?_⟩
      show hw sc (d + 5) 119 95 (jm_st1 [(0, (2, 0)), (1, (0, v1))] 2 (0, ψ4 20 ((v1).toNat))) [(1, z8), (2, 189)] ψ7 y8 Q
      refine hr_call (a0 := 21) (b := 121) (e := 2) (nl := 5) (As := [(1, z8)]) (R := []) 189 rfl (by decide +kernel) rfl rfl (Nat.le_of_ble_eq_true rfl) (Nat.le_of_ble_eq_true rfl) ?_
      refine hw_mono H ?_
      rintro r ψ9 y9 ⟨hyx, hr, H⟩
      subst hyx
      subst hr
      refine ⟨hnen, ?_⟩
      show hw sc (d + 5) 119 98 (jm_st1 [(0, (2, 0)), (1, (0, v1))] 2 (0, ψ4 20 ((v1).toNat))) [] ψ9 y9 Q
      refine hw_ald (b := 0) (e := 0) (by decide +kernel) (get_st1 rfl (by decide) (fun q => absurd q.1 (by decide))) (by decide) ?_
      refine hr_gr (w := 4) (b := 0) (e := 1) 0 rfl (by decide +kernel) ?_
      refine hr_gr (w := 17) (b := 2) (e := 1) 4 rfl (by decide +kernel) ?_
      refine hw_ld (b := 1) (e := 0) (by decide +kernel) (get_st1 rfl (by decide) (fun q => tg0 q.2)) ?_
      refine hr_call (a0 := 14) (b := 124) (e := 2) (nl := 2) (As := [(0, v1)]) (R := []) 17 rfl (by decide +kernel) rfl rfl (Nat.le_of_ble_eq_true rfl) (Nat.le_of_ble_eq_true rfl) ?_
      refine hw_mono H ?_
      rintro r ψ10 y10 ⟨hyx, hψx, z10, hr, H⟩
      subst hyx
      subst hψx
      subst hr
      refine ⟨hne0, ?_⟩
      show hw sc (d + 5) 119 109 (jm_st1 [(0, (2, 0)), (1, (0, v1))] 2 (0, ψ4 20 ((v1).toNat))) [(0, z10)] ψ9 y10 Q
      refine hw_st (L' := (jm_st1 (jm_st1 [(0, (2, 0)), (1, (0, v1))] 2 (0, ψ4 20 ((v1).toNat))) 3 (0, z10))) (b := 3) (e := 0) (by decide +kernel) rfl ?_
      refine hw_ld (b := 3) (e := 0) (by decide +kernel) get_st1e ?_
      refine hw_k (c := (-1 : Int)) (b := 0) (e := 1) (by decide +kernel) ?_
      obtain ⟨hz11, hy11, ht11, hf11⟩ := H
      refine hw_if2 (a0 := 0) (b := 1) (e := 128) (by decide +kernel) hz11 hy11 (fun q => ?_) (fun q => ?_)
      · have H := ht11 q
        refine hw_ald (b := 0) (e := 0) (by decide +kernel) (get_st1 (get_st1 rfl (by decide) (fun q => absurd q.1 (by decide))) (by decide) (fun q => absurd q.1 (by decide))) (by decide) ?_
        refine hr_gr (w := 189) (b := 0) (e := 10) 0 rfl (by decide +kernel) ?_
        refine hw_txt (v := 18) (a0 := 0) (b := 4) (e := 1) (by decide +kernel) (by decide) ?_
        refine hr_call (a0 := 21) (b := 123) (e := 2) (nl := 3) (As := [(4, 18)]) (R := []) 189 rfl (by decide +kernel) rfl rfl (Nat.le_of_ble_eq_true rfl) (Nat.le_of_ble_eq_true rfl) ?_
        refine hw_mono H ?_
        rintro r ψ12 y12 ⟨hyx, hr, H⟩
        subst hyx
        subst hr
        refine ⟨hnen, ?_⟩
        show hw sc (d + 5) 119 138 (jm_st1 (jm_st1 [(0, (2, 0)), (1, (0, v1))] 2 (0, ψ4 20 ((v1).toNat))) 3 (0, z10)) [] ψ12 y12 Q
        refine hw_ald (b := 0) (e := 0) (by decide +kernel) (get_st1 (get_st1 rfl (by decide) (fun q => absurd q.1 (by decide))) (by decide) (fun q => absurd q.1 (by decide))) (by decide) ?_
        refine hr_gr (w := 189) (b := 0) (e := 10) 0 rfl (by decide +kernel) ?_
        refine hw_ald (b := 0) (e := 0) (by decide +kernel) (get_st1 (get_st1 rfl (by decide) (fun q => absurd q.1 (by decide))) (by decide) (fun q => absurd q.1 (by decide))) (by decide) ?_
        refine hr_gr (w := 4) (b := 0) (e := 1) 0 rfl (by decide +kernel) ?_
        refine hr_gr (w := 5) (b := 2) (e := 0) 4 rfl (by decide +kernel) ?_
        refine hw_k (c := 2) (b := 0) (e := 1) (by decide +kernel) ?_
        refine hw_ld (b := 3) (e := 0) (by decide +kernel) get_st1e ?_
        refine hr_call (a0 := 13) (b := 120) (e := 3) (nl := 3) (As := [(0, 2), (0, z10)]) (R := [(2, 189)]) 5 rfl (by decide +kernel) rfl rfl (Nat.le_of_ble_eq_true rfl) (Nat.le_of_ble_eq_true rfl) ?_
        refine hw_mono H ?_
        rintro r ψ13 y13 ⟨hyx, hψx, z13, hr, H⟩
        subst hyx
        subst hψx
        subst hr
        refine ⟨hne1, ?_⟩
        show hw sc (d + 5) 119 154 (jm_st1 (jm_st1 [(0, (2, 0)), (1, (0, v1))] 2 (0, ψ4 20 ((v1).toNat))) 3 (0, z10)) [(1, z13), (2, 189)] ψ12 y13 Q
        refine hr_call (a0 := 21) (b := 121) (e := 2) (nl := 5) (As := [(1, z13)]) (R := []) 189 rfl (by decide +kernel) rfl rfl (Nat.le_of_ble_eq_true rfl) (Nat.le_of_ble_eq_true rfl) ?_
        refine hw_mono H ?_
        rintro r ψ14 y14 ⟨hyx, hr, H⟩
        subst hyx
        subst hr
        refine ⟨hnen, ?_⟩
        show hw sc (d + 5) 119 157 (jm_st1 (jm_st1 [(0, (2, 0)), (1, (0, v1))] 2 (0, ψ4 20 ((v1).toNat))) 3 (0, z10)) [] ψ14 y14 Q
        refine hw_ald (b := 0) (e := 0) (by decide +kernel) (get_st1 (get_st1 rfl (by decide) (fun q => absurd q.1 (by decide))) (by decide) (fun q => absurd q.1 (by decide))) (by decide) ?_
        refine hr_gr (w := 189) (b := 0) (e := 10) 0 rfl (by decide +kernel) ?_
        refine hr_gi (w := ψ14 189 1) (b := 11) (e := 1) 189 rfl (by decide +kernel) rfl ?_
        exact hw_ret (a0 := 0) (e := 0) (by decide +kernel) (Or.inl rfl) H
      · have H := hf11 q
        refine hw_ald (b := 0) (e := 0) (by decide +kernel) (get_st1 (get_st1 rfl (by decide) (fun q => absurd q.1 (by decide))) (by decide) (fun q => absurd q.1 (by decide))) (by decide) ?_
        refine hr_gr (w := 189) (b := 0) (e := 10) 0 rfl (by decide +kernel) ?_
        refine hw_txt (v := 16) (a0 := 0) (b := 3) (e := 1) (by decide +kernel) (by decide) ?_
        refine hr_call (a0 := 21) (b := 123) (e := 2) (nl := 3) (As := [(4, 16)]) (R := []) 189 rfl (by decide +kernel) rfl rfl (Nat.le_of_ble_eq_true rfl) (Nat.le_of_ble_eq_true rfl) ?_
        refine hw_mono H ?_
        rintro r ψ16 y16 ⟨hyx, hr, H⟩
        subst hyx
        subst hr
        refine ⟨hnen, ?_⟩
        show hw sc (d + 5) 119 125 (jm_st1 (jm_st1 [(0, (2, 0)), (1, (0, v1))] 2 (0, ψ4 20 ((v1).toNat))) 3 (0, z10)) [] ψ16 y16 Q
        refine hw_goto (a0 := 0) (b := 0) (e := 157) (by decide +kernel) ?_
        refine hw_ald (b := 0) (e := 0) (by decide +kernel) (get_st1 (get_st1 rfl (by decide) (fun q => absurd q.1 (by decide))) (by decide) (fun q => absurd q.1 (by decide))) (by decide) ?_
        refine hr_gr (w := 189) (b := 0) (e := 10) 0 rfl (by decide +kernel) ?_
        refine hr_gi (w := ψ16 189 1) (b := 11) (e := 1) 189 rfl (by decide +kernel) rfl ?_
        exact hw_ret (a0 := 0) (e := 0) (by decide +kernel) (Or.inl rfl) H
    · have H := hf6 q
      refine hw_ald (b := 0) (e := 0) (by decide +kernel) (get_st1 rfl (by decide) (fun q => absurd q.1 (by decide))) (by decide) ?_
      refine hr_gr (w := 189) (b := 0) (e := 10) 0 rfl (by decide +kernel) ?_
      refine hw_txt (v := 12) (a0 := 0) (b := 1) (e := 1) (by decide +kernel) (by decide) ?_
      refine hr_call (a0 := 21) (b := 123) (e := 2) (nl := 3) (As := [(4, 12)]) (R := []) 189 rfl (by decide +kernel) rfl rfl (Nat.le_of_ble_eq_true rfl) (Nat.le_of_ble_eq_true rfl) ?_
      refine hw_mono H ?_
      rintro r ψ18 y18 ⟨hyx, hr, H⟩
      subst hyx
      subst hr
      refine ⟨hnen, ?_⟩
      show hw sc (d + 5) 119 66 (jm_st1 [(0, (2, 0)), (1, (0, v1))] 2 (0, ψ4 20 ((v1).toNat))) [] ψ18 y18 Q
      refine hw_goto (a0 := 0) (b := 0) (e := 98) (by decide +kernel) ?_
      refine hw_ald (b := 0) (e := 0) (by decide +kernel) (get_st1 rfl (by decide) (fun q => absurd q.1 (by decide))) (by decide) ?_
      refine hr_gr (w := 4) (b := 0) (e := 1) 0 rfl (by decide +kernel) ?_
      refine hr_gr (w := 17) (b := 2) (e := 1) 4 rfl (by decide +kernel) ?_
      refine hw_ld (b := 1) (e := 0) (by decide +kernel) (get_st1 rfl (by decide) (fun q => tg0 q.2)) ?_
      refine hr_call (a0 := 14) (b := 124) (e := 2) (nl := 2) (As := [(0, v1)]) (R := []) 17 rfl (by decide +kernel) rfl rfl (Nat.le_of_ble_eq_true rfl) (Nat.le_of_ble_eq_true rfl) ?_
      refine hw_mono H ?_
      rintro r ψ19 y19 ⟨hyx, hψx, z19, hr, H⟩
      subst hyx
      subst hψx
      subst hr
      refine ⟨hne0, ?_⟩
      show hw sc (d + 5) 119 109 (jm_st1 [(0, (2, 0)), (1, (0, v1))] 2 (0, ψ4 20 ((v1).toNat))) [(0, z19)] ψ18 y19 Q
      refine hw_st (L' := (jm_st1 (jm_st1 [(0, (2, 0)), (1, (0, v1))] 2 (0, ψ4 20 ((v1).toNat))) 3 (0, z19))) (b := 3) (e := 0) (by decide +kernel) rfl ?_
      refine hw_ld (b := 3) (e := 0) (by decide +kernel) get_st1e ?_
      refine hw_k (c := (-1 : Int)) (b := 0) (e := 1) (by decide +kernel) ?_
      obtain ⟨hz20, hy20, ht20, hf20⟩ := H
      refine hw_if2 (a0 := 0) (b := 1) (e := 128) (by decide +kernel) hz20 hy20 (fun q => ?_) (fun q => ?_)
      · have H := ht20 q
        refine hw_ald (b := 0) (e := 0) (by decide +kernel) (get_st1 (get_st1 rfl (by decide) (fun q => absurd q.1 (by decide))) (by decide) (fun q => absurd q.1 (by decide))) (by decide) ?_
        refine hr_gr (w := 189) (b := 0) (e := 10) 0 rfl (by decide +kernel) ?_
        refine hw_txt (v := 18) (a0 := 0) (b := 4) (e := 1) (by decide +kernel) (by decide) ?_
        refine hr_call (a0 := 21) (b := 123) (e := 2) (nl := 3) (As := [(4, 18)]) (R := []) 189 rfl (by decide +kernel) rfl rfl (Nat.le_of_ble_eq_true rfl) (Nat.le_of_ble_eq_true rfl) ?_
        refine hw_mono H ?_
        rintro r ψ21 y21 ⟨hyx, hr, H⟩
        subst hyx
        subst hr
        refine ⟨hnen, ?_⟩
        show hw sc (d + 5) 119 138 (jm_st1 (jm_st1 [(0, (2, 0)), (1, (0, v1))] 2 (0, ψ4 20 ((v1).toNat))) 3 (0, z19)) [] ψ21 y21 Q
        refine hw_ald (b := 0) (e := 0) (by decide +kernel) (get_st1 (get_st1 rfl (by decide) (fun q => absurd q.1 (by decide))) (by decide) (fun q => absurd q.1 (by decide))) (by decide) ?_
        refine hr_gr (w := 189) (b := 0) (e := 10) 0 rfl (by decide +kernel) ?_
        refine hw_ald (b := 0) (e := 0) (by decide +kernel) (get_st1 (get_st1 rfl (by decide) (fun q => absurd q.1 (by decide))) (by decide) (fun q => absurd q.1 (by decide))) (by decide) ?_
        refine hr_gr (w := 4) (b := 0) (e := 1) 0 rfl (by decide +kernel) ?_
        refine hr_gr (w := 5) (b := 2) (e := 0) 4 rfl (by decide +kernel) ?_
        refine hw_k (c := 2) (b := 0) (e := 1) (by decide +kernel) ?_
        refine hw_ld (b := 3) (e := 0) (by decide +kernel) get_st1e ?_
        refine hr_call (a0 := 13) (b := 120) (e := 3) (nl := 3) (As := [(0, 2), (0, z19)]) (R := [(2, 189)]) 5 rfl (by decide +kernel) rfl rfl (Nat.le_of_ble_eq_true rfl) (Nat.le_of_ble_eq_true rfl) ?_
        refine hw_mono H ?_
        rintro r ψ22 y22 ⟨hyx, hψx, z22, hr, H⟩
        subst hyx
        subst hψx
        subst hr
        refine ⟨hne1, ?_⟩
        show hw sc (d + 5) 119 154 (jm_st1 (jm_st1 [(0, (2, 0)), (1, (0, v1))] 2 (0, ψ4 20 ((v1).toNat))) 3 (0, z19)) [(1, z22), (2, 189)] ψ21 y22 Q
        refine hr_call (a0 := 21) (b := 121) (e := 2) (nl := 5) (As := [(1, z22)]) (R := []) 189 rfl (by decide +kernel) rfl rfl (Nat.le_of_ble_eq_true rfl) (Nat.le_of_ble_eq_true rfl) ?_
        refine hw_mono H ?_
        rintro r ψ23 y23 ⟨hyx, hr, H⟩
        subst hyx
        subst hr
        refine ⟨hnen, ?_⟩
        show hw sc (d + 5) 119 157 (jm_st1 (jm_st1 [(0, (2, 0)), (1, (0, v1))] 2 (0, ψ4 20 ((v1).toNat))) 3 (0, z19)) [] ψ23 y23 Q
        refine hw_ald (b := 0) (e := 0) (by decide +kernel) (get_st1 (get_st1 rfl (by decide) (fun q => absurd q.1 (by decide))) (by decide) (fun q => absurd q.1 (by decide))) (by decide) ?_
        refine hr_gr (w := 189) (b := 0) (e := 10) 0 rfl (by decide +kernel) ?_
        refine hr_gi (w := ψ23 189 1) (b := 11) (e := 1) 189 rfl (by decide +kernel) rfl ?_
        exact hw_ret (a0 := 0) (e := 0) (by decide +kernel) (Or.inl rfl) H
      · have H := hf20 q
        refine hw_ald (b := 0) (e := 0) (by decide +kernel) (get_st1 (get_st1 rfl (by decide) (fun q => absurd q.1 (by decide))) (by decide) (fun q => absurd q.1 (by decide))) (by decide) ?_
        refine hr_gr (w := 189) (b := 0) (e := 10) 0 rfl (by decide +kernel) ?_
        refine hw_txt (v := 16) (a0 := 0) (b := 3) (e := 1) (by decide +kernel) (by decide) ?_
        refine hr_call (a0 := 21) (b := 123) (e := 2) (nl := 3) (As := [(4, 16)]) (R := []) 189 rfl (by decide +kernel) rfl rfl (Nat.le_of_ble_eq_true rfl) (Nat.le_of_ble_eq_true rfl) ?_
        refine hw_mono H ?_
        rintro r ψ25 y25 ⟨hyx, hr, H⟩
        subst hyx
        subst hr
        refine ⟨hnen, ?_⟩
        show hw sc (d + 5) 119 125 (jm_st1 (jm_st1 [(0, (2, 0)), (1, (0, v1))] 2 (0, ψ4 20 ((v1).toNat))) 3 (0, z19)) [] ψ25 y25 Q
        refine hw_goto (a0 := 0) (b := 0) (e := 157) (by decide +kernel) ?_
        refine hw_ald (b := 0) (e := 0) (by decide +kernel) (get_st1 (get_st1 rfl (by decide) (fun q => absurd q.1 (by decide))) (by decide) (fun q => absurd q.1 (by decide))) (by decide) ?_
        refine hr_gr (w := 189) (b := 0) (e := 10) 0 rfl (by decide +kernel) ?_
        refine hr_gi (w := ψ25 189 1) (b := 11) (e := 1) 189 rfl (by decide +kernel) rfl ?_
        exact hw_ret (a0 := 0) (e := 0) (by decide +kernel) (Or.inl rfl) H
  · have H := hf2 q
    refine hw_k (c := (-1 : Int)) (b := 0) (e := 1) (by decide +kernel) ?_
    exact hw_ret (a0 := 0) (e := 0) (by decide +kernel) (Or.inl rfl) H
theorem sf_119_0 {sc : List Int} {d : Nat} {φ : hf_F} {x : Nat} {Q : Option jm_V → hf_F → Nat → Prop} {v1 : Int} (hI : Inv φ) (h1a : (-2147483648 : Int) ≤ v1) (h1b : v1 ≤ 2147483647) (hQ : ∀ (r : Int) (ψ : hf_F), Inv ψ → Fr [190, 190001] φ ψ → True → F_RideLaws_line_0 φ v1 = (r, ψ) → Q (some (0, r)) ψ x) : hw sc (d + 5) 119 0 [(0, (2, 0)), (1, (0, v1))] [] φ x Q := by
  apply sf_119_0_v
  have e0 : F_RideLaws_line_0 φ v1 = _ := rfl
  refine sf_70_0_k1_3 (φ := φ) hI (by omega) (by omega) (fun z1 hp1 hE1 => ⟨rfl, rfl, z1, rfl, ?_⟩)
  have e1 := e0.trans (bnp_e hE1)
  have f1 := iv_at (a := 6) (k := 3) (lo := 0) (u := 6) hI (by decide +kernel)
  refine ⟨by unfold hi; omega, fun q2 => ?_, fun q2 => ?_⟩
  · skip
    have e2a := e1.trans (if_pos q2)
    have i2 : Inv (hf_up φ 189 1 0) := iv_up (lo := 0) (u := 32) hI (by decide +kernel) (by omega) (by omega)
    have r2 : Fr [190, 190001] φ (hf_up φ 189 1 0) := fr_up (fr_rf) (by decide)
    refine sf_120_5 (φ := (hf_up φ 189 1 0)) i2 (by omega) (by omega) (by omega) (by omega) (fun z3 hp3 hE3 => ⟨rfl, rfl, z3, rfl, ?_⟩)
    have e3 := e2a.trans (bnp_e hE3)
    refine sf_121_189 (φ := (hf_up φ 189 1 0)) i2  (fun ψ4 hI4 hF4 hE4 => ⟨rfl, rfl, ?_⟩)
    have hG4 : Fr [190, 190001] φ ψ4 := fr_tr r2 hF4 (by decide)
    have e4 := e3.trans (bnv_e hE4)
    refine ⟨by omega, by omega, ?_⟩
    have f3 := iv_ar (a := 20) (s := 0) (t := 6) (lo := (-1 : Int)) (u := 7) (z := v1) hI4 (by decide +kernel) (by omega) (by omega)
    have f4 : ψ4 20 ((v1).toNat) = φ 20 ((v1).toNat) := (fr_at hF4 20 (by decide) ((v1).toNat)).trans (hf_up_ne (fun q => absurd q.1 (by decide)))
    have f5 := iv_ar (a := 20) (s := 0) (t := 6) (lo := (-1 : Int)) (u := 7) (z := v1) hI (by decide +kernel) (by omega) (by omega)
    refine ⟨by unfold hi; omega, by unfold hi; omega, fun q6 => ?_, fun q6 => ?_⟩
    · skip
      have e6a := e4.trans (if_pos q6)
      refine sf_123_189_100014 (φ := ψ4) hI4  (fun ψ7 hI7 hF7 hE7 => ⟨rfl, rfl, ?_⟩)
      have hG7 : Fr [190, 190001] φ ψ7 := fr_tr hG4 hF7 (by decide)
      have e7 := e6a.trans (bnv_e hE7)
      refine sf_120_5 (φ := ψ7) hI7 (by omega) (by omega) (by omega) (by omega) (fun z8 hp8 hE8 => ⟨rfl, rfl, z8, rfl, ?_⟩)
      have e8 := e7.trans (bnp_e hE8)
      refine sf_121_189 (φ := ψ7) hI7  (fun ψ9 hI9 hF9 hE9 => ⟨rfl, rfl, ?_⟩)
      have hG9 : Fr [190, 190001] φ ψ9 := fr_tr hG7 hF9 (by decide)
      have e9 := e8.trans (bnv_e hE9)
      refine sf_124_17 (φ := ψ9) hI9 (by omega) (by omega) (fun z10 hp10 hE10 => ⟨rfl, rfl, z10, rfl, ?_⟩)
      have e10 := e9.trans (bnp_e hE10)
      refine ⟨by unfold hi; omega, by unfold hi; omega, fun q11 => ?_, fun q11 => ?_⟩
      · skip
        have e11a := e10.trans (if_pos q11)
        refine sf_123_189_100018 (φ := ψ9) hI9  (fun ψ12 hI12 hF12 hE12 => ⟨rfl, rfl, ?_⟩)
        have hG12 : Fr [190, 190001] φ ψ12 := fr_tr hG9 hF12 (by decide)
        have e12 := e11a.trans (bnv_e hE12)
        refine sf_120_5 (φ := ψ12) hI12 (by omega) (by omega) (by omega) (by omega) (fun z13 hp13 hE13 => ⟨rfl, rfl, z13, rfl, ?_⟩)
        have e13 := e12.trans (bnp_e hE13)
        refine sf_121_189 (φ := ψ12) hI12  (fun ψ14 hI14 hF14 hE14 => ⟨rfl, rfl, ?_⟩)
        have hG14 : Fr [190, 190001] φ ψ14 := fr_tr hG12 hF14 (by decide)
        have e14 := e13.trans (bnv_e hE14)
        have f6 := iv_at (a := 189) (k := 1) (lo := 0) (u := 32) hI14 (by decide +kernel)
        exact hQ (ψ14 189 1) ψ14 hI14 hG14 trivial e14
      · skip
        have e11b := e10.trans (if_neg q11)
        refine sf_123_189_100016 (φ := ψ9) hI9  (fun ψ16 hI16 hF16 hE16 => ⟨rfl, rfl, ?_⟩)
        have hG16 : Fr [190, 190001] φ ψ16 := fr_tr hG9 hF16 (by decide)
        have e16 := e11b.trans (bnv_e hE16)
        have f7 := iv_at (a := 189) (k := 1) (lo := 0) (u := 32) hI16 (by decide +kernel)
        exact hQ (ψ16 189 1) ψ16 hI16 hG16 trivial e16
    · skip
      have e6b := e4.trans (if_neg q6)
      refine sf_123_189_100012 (φ := ψ4) hI4  (fun ψ18 hI18 hF18 hE18 => ⟨rfl, rfl, ?_⟩)
      have hG18 : Fr [190, 190001] φ ψ18 := fr_tr hG4 hF18 (by decide)
      have e18 := e6b.trans (bnv_e hE18)
      refine sf_124_17 (φ := ψ18) hI18 (by omega) (by omega) (fun z19 hp19 hE19 => ⟨rfl, rfl, z19, rfl, ?_⟩)
      have e19 := e18.trans (bnp_e hE19)
      refine ⟨by unfold hi; omega, by unfold hi; omega, fun q20 => ?_, fun q20 => ?_⟩
      · skip
        have e20a := e19.trans (if_pos q20)
        refine sf_123_189_100018 (φ := ψ18) hI18  (fun ψ21 hI21 hF21 hE21 => ⟨rfl, rfl, ?_⟩)
        have hG21 : Fr [190, 190001] φ ψ21 := fr_tr hG18 hF21 (by decide)
        have e21 := e20a.trans (bnv_e hE21)
        refine sf_120_5 (φ := ψ21) hI21 (by omega) (by omega) (by omega) (by omega) (fun z22 hp22 hE22 => ⟨rfl, rfl, z22, rfl, ?_⟩)
        have e22 := e21.trans (bnp_e hE22)
        refine sf_121_189 (φ := ψ21) hI21  (fun ψ23 hI23 hF23 hE23 => ⟨rfl, rfl, ?_⟩)
        have hG23 : Fr [190, 190001] φ ψ23 := fr_tr hG21 hF23 (by decide)
        have e23 := e22.trans (bnv_e hE23)
        have f8 := iv_at (a := 189) (k := 1) (lo := 0) (u := 32) hI23 (by decide +kernel)
        exact hQ (ψ23 189 1) ψ23 hI23 hG23 trivial e23
      · skip
        have e20b := e19.trans (if_neg q20)
        refine sf_123_189_100016 (φ := ψ18) hI18  (fun ψ25 hI25 hF25 hE25 => ⟨rfl, rfl, ?_⟩)
        have hG25 : Fr [190, 190001] φ ψ25 := fr_tr hG18 hF25 (by decide)
        have e25 := e20b.trans (bnv_e hE25)
        have f9 := iv_at (a := 189) (k := 1) (lo := 0) (u := 32) hI25 (by decide +kernel)
        exact hQ (ψ25 189 1) ψ25 hI25 hG25 trivial e25
  · skip
    have e2b := e1.trans (if_neg q2)
    exact hQ (-1 : Int) φ hI (fr_rf) trivial e2b
theorem sf_175_192_v181 {sc : List Int} {d : Nat} {φ : hf_F} {x : Nat} {Q : Option jm_V → hf_F → Nat → Prop} {L : jm_L} {l1 l2 l3 : Int} (g0 : jm_get L 0 = some (2, 192)) (g1 : jm_get L 1 = some (0, l1)) (g2 : jm_get L 2 = some (0, l2)) (g3 : jm_get L 3 = some (0, l3))
    (H : hw sc d 176 0 [(0, (2, 192))] [] φ x (fun r ψ1 y1 => y1 = x ∧ φ = ψ1 ∧ (∃ z1 : Int, r = some (0, z1) ∧ (hw sc d 177 0 [(0, (0, z1))] [] φ x (fun r ψ2 y2 => y2 = x ∧ φ = ψ2 ∧ (∃ z2 : Int, r = some (0, z2) ∧ (hi z2 ∧ (¬ z2 = 0 → hi l3 ∧ (l3 = 0 → hi (φ 192 13) ∧ hi 7 ∧ (7 ≤ (φ 192 13) → hi (φ 192 13) ∧ hi 3 ∧ (3 ≤ (φ 192 13) → hw sc (d + 1) 175 181 (jm_st1 L 3 (0, 0)) [] (hf_up (hf_up φ 192 13 ((φ 192 13) + 1)) 192 4 ((φ 192 4) + 1)) x Q) ∧ (¬ 3 ≤ (φ 192 13) → hw sc d 176 0 [(0, (2, 192))] [] φ x (fun r ψ7 y7 => y7 = x ∧ φ = ψ7 ∧ (∃ z7 : Int, r = some (0, z7) ∧ (hw sc (d + 1) 175 181 (jm_st1 L 3 (0, 0)) [] (hf_up (hf_up (hf_up φ 192 14 (((10 * (φ 192 14)) + z7) - 48)) 192 13 ((φ 192 13) + 1)) 192 4 ((φ 192 4) + 1)) x Q))))) ∧ (¬ 7 ≤ (φ 192 13) → hw sc d 176 0 [(0, (2, 192))] [] φ x (fun r ψ8 y8 => y8 = x ∧ φ = ψ8 ∧ (∃ z8 : Int, r = some (0, z8) ∧ (hi (φ 192 13) ∧ hi 3 ∧ (3 ≤ (φ 192 13) → hw sc (d + 1) 175 181 (jm_st1 L 3 (0, 0)) [] (hf_up (hf_up (hf_up φ 192 17 (hb_lor (hb_lshl (φ 192 17) 8) (hb_i2l z8))) 192 13 ((φ 192 13) + 1)) 192 4 ((φ 192 4) + 1)) x Q) ∧ (¬ 3 ≤ (φ 192 13) → hw sc d 176 0 [(0, (2, 192))] [] (hf_up φ 192 17 (hb_lor (hb_lshl (φ 192 17) 8) (hb_i2l z8))) x (fun r ψ10 y10 => y10 = x ∧ (hf_up φ 192 17 (hb_lor (hb_lshl (φ 192 17) 8) (hb_i2l z8))) = ψ10 ∧ (∃ z10 : Int, r = some (0, z10) ∧ (hw sc (d + 1) 175 181 (jm_st1 L 3 (0, 0)) [] (hf_up (hf_up (hf_up (hf_up φ 192 17 (hb_lor (hb_lshl (φ 192 17) 8) (hb_i2l z8))) 192 14 (((10 * (φ 192 14)) + z10) - 48)) 192 13 ((φ 192 13) + 1)) 192 4 ((φ 192 4) + 1)) x Q))))))))) ∧ (¬ l3 = 0 → hw sc d 176 0 [(0, (2, 192))] [] φ x (fun r ψ11 y11 => y11 = x ∧ φ = ψ11 ∧ (∃ z11 : Int, r = some (0, z11) ∧ (hw sc d 177 0 [(0, (0, z11))] [] φ x (fun r ψ12 y12 => y12 = x ∧ φ = ψ12 ∧ (∃ z12 : Int, r = some (0, z12) ∧ (hi z12 ∧ hi l2 ∧ (¬ z12 = l2 → hi (φ 192 13) ∧ hi 7 ∧ (7 ≤ (φ 192 13) → hi (φ 192 13) ∧ hi 3 ∧ (3 ≤ (φ 192 13) → hw sc (d + 1) 175 181 (jm_st1 L 3 (0, 0)) [] (hf_up (hf_up φ 192 13 ((φ 192 13) + 1)) 192 4 ((φ 192 4) + 1)) x Q) ∧ (¬ 3 ≤ (φ 192 13) → hw sc d 176 0 [(0, (2, 192))] [] φ x (fun r ψ16 y16 => y16 = x ∧ φ = ψ16 ∧ (∃ z16 : Int, r = some (0, z16) ∧ (hw sc (d + 1) 175 181 (jm_st1 L 3 (0, 0)) [] (hf_up (hf_up (hf_up φ 192 14 (((10 * (φ 192 14)) + z16) - 48)) 192 13 ((φ 192 13) + 1)) 192 4 ((φ 192 4) + 1)) x Q))))) ∧ (¬ 7 ≤ (φ 192 13) → hw sc d 176 0 [(0, (2, 192))] [] φ x (fun r ψ17 y17 => y17 = x ∧ φ = ψ17 ∧ (∃ z17 : Int, r = some (0, z17) ∧ (hi (φ 192 13) ∧ hi 3 ∧ (3 ≤ (φ 192 13) → hw sc (d + 1) 175 181 (jm_st1 L 3 (0, 0)) [] (hf_up (hf_up (hf_up φ 192 17 (hb_lor (hb_lshl (φ 192 17) 8) (hb_i2l z17))) 192 13 ((φ 192 13) + 1)) 192 4 ((φ 192 4) + 1)) x Q) ∧ (¬ 3 ≤ (φ 192 13) → hw sc d 176 0 [(0, (2, 192))] [] (hf_up φ 192 17 (hb_lor (hb_lshl (φ 192 17) 8) (hb_i2l z17))) x (fun r ψ19 y19 => y19 = x ∧ (hf_up φ 192 17 (hb_lor (hb_lshl (φ 192 17) 8) (hb_i2l z17))) = ψ19 ∧ (∃ z19 : Int, r = some (0, z19) ∧ (hw sc (d + 1) 175 181 (jm_st1 L 3 (0, 0)) [] (hf_up (hf_up (hf_up (hf_up φ 192 17 (hb_lor (hb_lshl (φ 192 17) 8) (hb_i2l z17))) 192 14 (((10 * (φ 192 14)) + z19) - 48)) 192 13 ((φ 192 13) + 1)) 192 4 ((φ 192 4) + 1)) x Q))))))))) ∧ (¬ (¬ z12 = l2) → hi (φ 192 13) ∧ hi 7 ∧ (7 ≤ (φ 192 13) → hi (φ 192 13) ∧ hi 3 ∧ (3 ≤ (φ 192 13) → hw sc (d + 1) 175 181 (jm_st1 L 3 (0, 1)) [] (hf_up (hf_up φ 192 13 ((φ 192 13) + 1)) 192 4 ((φ 192 4) + 1)) x Q) ∧ (¬ 3 ≤ (φ 192 13) → hw sc d 176 0 [(0, (2, 192))] [] φ x (fun r ψ22 y22 => y22 = x ∧ φ = ψ22 ∧ (∃ z22 : Int, r = some (0, z22) ∧ (hw sc (d + 1) 175 181 (jm_st1 L 3 (0, 1)) [] (hf_up (hf_up (hf_up φ 192 14 (((10 * (φ 192 14)) + z22) - 48)) 192 13 ((φ 192 13) + 1)) 192 4 ((φ 192 4) + 1)) x Q))))) ∧ (¬ 7 ≤ (φ 192 13) → hw sc d 176 0 [(0, (2, 192))] [] φ x (fun r ψ23 y23 => y23 = x ∧ φ = ψ23 ∧ (∃ z23 : Int, r = some (0, z23) ∧ (hi (φ 192 13) ∧ hi 3 ∧ (3 ≤ (φ 192 13) → hw sc (d + 1) 175 181 (jm_st1 L 3 (0, 1)) [] (hf_up (hf_up (hf_up φ 192 17 (hb_lor (hb_lshl (φ 192 17) 8) (hb_i2l z23))) 192 13 ((φ 192 13) + 1)) 192 4 ((φ 192 4) + 1)) x Q) ∧ (¬ 3 ≤ (φ 192 13) → hw sc d 176 0 [(0, (2, 192))] [] (hf_up φ 192 17 (hb_lor (hb_lshl (φ 192 17) 8) (hb_i2l z23))) x (fun r ψ25 y25 => y25 = x ∧ (hf_up φ 192 17 (hb_lor (hb_lshl (φ 192 17) 8) (hb_i2l z23))) = ψ25 ∧ (∃ z25 : Int, r = some (0, z25) ∧ (hw sc (d + 1) 175 181 (jm_st1 L 3 (0, 1)) [] (hf_up (hf_up (hf_up (hf_up φ 192 17 (hb_lor (hb_lshl (φ 192 17) 8) (hb_i2l z23))) 192 14 (((10 * (φ 192 14)) + z25) - 48)) 192 13 ((φ 192 13) + 1)) 192 4 ((φ 192 4) + 1)) x Q))))))))))))))))) ∧ (¬ (¬ z2 = 0) → hw sc d 176 0 [(0, (2, 192))] [] φ x (fun r ψ26 y26 => y26 = x ∧ φ = ψ26 ∧ (∃ z26 : Int, r = some (0, z26) ∧ (hw sc d 178 0 [(0, (0, z26))] [] φ x (fun r ψ27 y27 => y27 = x ∧ φ = ψ27 ∧ (∃ z27 : Int, r = some (0, z27) ∧ (hi z27 ∧ (z27 = 0 → hi l3 ∧ (l3 = 0 → Q none (hf_up φ 192 11 4) x) ∧ (¬ l3 = 0 → hi l2 ∧ (l2 = 0 → hi (φ 192 13) ∧ hi 3 ∧ ((φ 192 13) ≤ 3 → hi l2 ∧ (l2 = 0 → Q none (hf_up φ 192 11 2) x) ∧ (¬ l2 = 0 → Q none (hf_up φ 192 11 1) x)) ∧ (¬ (φ 192 13) ≤ 3 → Q none (hf_up φ 192 11 4) x)) ∧ (¬ l2 = 0 → hi (φ 192 13) ∧ hi 7 ∧ ((φ 192 13) ≤ 7 → hi l2 ∧ (l2 = 0 → Q none (hf_up φ 192 11 2) x) ∧ (¬ l2 = 0 → Q none (hf_up φ 192 11 1) x)) ∧ (¬ (φ 192 13) ≤ 7 → Q none (hf_up φ 192 11 4) x)))) ∧ (¬ z27 = 0 → hi l3 ∧ (l3 = 0 → hi (φ 192 13) ∧ hi 7 ∧ (7 ≤ (φ 192 13) → hi (φ 192 13) ∧ hi 3 ∧ (3 ≤ (φ 192 13) → hw sc (d + 1) 175 181 (jm_st1 L 3 (0, 0)) [] (hf_up (hf_up φ 192 13 ((φ 192 13) + 1)) 192 4 ((φ 192 4) + 1)) x Q) ∧ (¬ 3 ≤ (φ 192 13) → hw sc d 176 0 [(0, (2, 192))] [] φ x (fun r ψ45 y45 => y45 = x ∧ φ = ψ45 ∧ (∃ z45 : Int, r = some (0, z45) ∧ (hw sc (d + 1) 175 181 (jm_st1 L 3 (0, 0)) [] (hf_up (hf_up (hf_up φ 192 14 (((10 * (φ 192 14)) + z45) - 48)) 192 13 ((φ 192 13) + 1)) 192 4 ((φ 192 4) + 1)) x Q))))) ∧ (¬ 7 ≤ (φ 192 13) → hw sc d 176 0 [(0, (2, 192))] [] φ x (fun r ψ46 y46 => y46 = x ∧ φ = ψ46 ∧ (∃ z46 : Int, r = some (0, z46) ∧ (hi (φ 192 13) ∧ hi 3 ∧ (3 ≤ (φ 192 13) → hw sc (d + 1) 175 181 (jm_st1 L 3 (0, 0)) [] (hf_up (hf_up (hf_up φ 192 17 (hb_lor (hb_lshl (φ 192 17) 8) (hb_i2l z46))) 192 13 ((φ 192 13) + 1)) 192 4 ((φ 192 4) + 1)) x Q) ∧ (¬ 3 ≤ (φ 192 13) → hw sc d 176 0 [(0, (2, 192))] [] (hf_up φ 192 17 (hb_lor (hb_lshl (φ 192 17) 8) (hb_i2l z46))) x (fun r ψ48 y48 => y48 = x ∧ (hf_up φ 192 17 (hb_lor (hb_lshl (φ 192 17) 8) (hb_i2l z46))) = ψ48 ∧ (∃ z48 : Int, r = some (0, z48) ∧ (hw sc (d + 1) 175 181 (jm_st1 L 3 (0, 0)) [] (hf_up (hf_up (hf_up (hf_up φ 192 17 (hb_lor (hb_lshl (φ 192 17) 8) (hb_i2l z46))) 192 14 (((10 * (φ 192 14)) + z48) - 48)) 192 13 ((φ 192 13) + 1)) 192 4 ((φ 192 4) + 1)) x Q))))))))) ∧ (¬ l3 = 0 → hw sc d 176 0 [(0, (2, 192))] [] φ x (fun r ψ49 y49 => y49 = x ∧ φ = ψ49 ∧ (∃ z49 : Int, r = some (0, z49) ∧ (hw sc d 177 0 [(0, (0, z49))] [] φ x (fun r ψ50 y50 => y50 = x ∧ φ = ψ50 ∧ (∃ z50 : Int, r = some (0, z50) ∧ (hi z50 ∧ hi l2 ∧ (¬ z50 = l2 → hi (φ 192 13) ∧ hi 7 ∧ (7 ≤ (φ 192 13) → hi (φ 192 13) ∧ hi 3 ∧ (3 ≤ (φ 192 13) → hw sc (d + 1) 175 181 (jm_st1 L 3 (0, 0)) [] (hf_up (hf_up φ 192 13 ((φ 192 13) + 1)) 192 4 ((φ 192 4) + 1)) x Q) ∧ (¬ 3 ≤ (φ 192 13) → hw sc d 176 0 [(0, (2, 192))] [] φ x (fun r ψ54 y54 => y54 = x ∧ φ = ψ54 ∧ (∃ z54 : Int, r = some (0, z54) ∧ (hw sc (d + 1) 175 181 (jm_st1 L 3 (0, 0)) [] (hf_up (hf_up (hf_up φ 192 14 (((10 * (φ 192 14)) + z54) - 48)) 192 13 ((φ 192 13) + 1)) 192 4 ((φ 192 4) + 1)) x Q))))) ∧ (¬ 7 ≤ (φ 192 13) → hw sc d 176 0 [(0, (2, 192))] [] φ x (fun r ψ55 y55 => y55 = x ∧ φ = ψ55 ∧ (∃ z55 : Int, r = some (0, z55) ∧ (hi (φ 192 13) ∧ hi 3 ∧ (3 ≤ (φ 192 13) → hw sc (d + 1) 175 181 (jm_st1 L 3 (0, 0)) [] (hf_up (hf_up (hf_up φ 192 17 (hb_lor (hb_lshl (φ 192 17) 8) (hb_i2l z55))) 192 13 ((φ 192 13) + 1)) 192 4 ((φ 192 4) + 1)) x Q) ∧ (¬ 3 ≤ (φ 192 13) → hw sc d 176 0 [(0, (2, 192))] [] (hf_up φ 192 17 (hb_lor (hb_lshl (φ 192 17) 8) (hb_i2l z55))) x (fun r ψ57 y57 => y57 = x ∧ (hf_up φ 192 17 (hb_lor (hb_lshl (φ 192 17) 8) (hb_i2l z55))) = ψ57 ∧ (∃ z57 : Int, r = some (0, z57) ∧ (hw sc (d + 1) 175 181 (jm_st1 L 3 (0, 0)) [] (hf_up (hf_up (hf_up (hf_up φ 192 17 (hb_lor (hb_lshl (φ 192 17) 8) (hb_i2l z55))) 192 14 (((10 * (φ 192 14)) + z57) - 48)) 192 13 ((φ 192 13) + 1)) 192 4 ((φ 192 4) + 1)) x Q))))))))) ∧ (¬ (¬ z50 = l2) → hi (φ 192 13) ∧ hi 7 ∧ (7 ≤ (φ 192 13) → hi (φ 192 13) ∧ hi 3 ∧ (3 ≤ (φ 192 13) → hw sc (d + 1) 175 181 (jm_st1 L 3 (0, 1)) [] (hf_up (hf_up φ 192 13 ((φ 192 13) + 1)) 192 4 ((φ 192 4) + 1)) x Q) ∧ (¬ 3 ≤ (φ 192 13) → hw sc d 176 0 [(0, (2, 192))] [] φ x (fun r ψ60 y60 => y60 = x ∧ φ = ψ60 ∧ (∃ z60 : Int, r = some (0, z60) ∧ (hw sc (d + 1) 175 181 (jm_st1 L 3 (0, 1)) [] (hf_up (hf_up (hf_up φ 192 14 (((10 * (φ 192 14)) + z60) - 48)) 192 13 ((φ 192 13) + 1)) 192 4 ((φ 192 4) + 1)) x Q))))) ∧ (¬ 7 ≤ (φ 192 13) → hw sc d 176 0 [(0, (2, 192))] [] φ x (fun r ψ61 y61 => y61 = x ∧ φ = ψ61 ∧ (∃ z61 : Int, r = some (0, z61) ∧ (hi (φ 192 13) ∧ hi 3 ∧ (3 ≤ (φ 192 13) → hw sc (d + 1) 175 181 (jm_st1 L 3 (0, 1)) [] (hf_up (hf_up (hf_up φ 192 17 (hb_lor (hb_lshl (φ 192 17) 8) (hb_i2l z61))) 192 13 ((φ 192 13) + 1)) 192 4 ((φ 192 4) + 1)) x Q) ∧ (¬ 3 ≤ (φ 192 13) → hw sc d 176 0 [(0, (2, 192))] [] (hf_up φ 192 17 (hb_lor (hb_lshl (φ 192 17) 8) (hb_i2l z61))) x (fun r ψ63 y63 => y63 = x ∧ (hf_up φ 192 17 (hb_lor (hb_lshl (φ 192 17) 8) (hb_i2l z61))) = ψ63 ∧ (∃ z63 : Int, r = some (0, z63) ∧ (hw sc (d + 1) 175 181 (jm_st1 L 3 (0, 1)) [] (hf_up (hf_up (hf_up (hf_up φ 192 17 (hb_lor (hb_lshl (φ 192 17) 8) (hb_i2l z61))) 192 14 (((10 * (φ 192 14)) + z63) - 48)) 192 13 ((φ 192 13) + 1)) 192 4 ((φ 192 4) + 1)) x Q))))))))))))))))))))))))))))))) :
    hw sc (d + 1) 175 181 L [] φ x Q := by
  refine hw_ald (b := 0) (e := 0) (by decide +kernel) g0 (by decide) ?_
  refine hr_call (a0 := 22) (b := 176) (e := 1) (nl := 1) (As := []) (R := []) 192 rfl (by decide +kernel) rfl rfl (Nat.le_of_ble_eq_true rfl) (Nat.le_of_ble_eq_true rfl) ?_
  refine hw_mono H ?_
  rintro r ψ1 y1 ⟨hyx, hψx, z1, hr, H⟩
  subst hyx
  subst hψx
  subst hr
  refine ⟨hne0, ?_⟩
  show hw sc (d + 1) 175 185 L [(0, z1)] φ y1 Q
  refine hr_calls (b := 177) (e := 1) (nl := 1) (As := [(0, z1)]) (R := []) (by decide +kernel) rfl rfl (Nat.le_of_ble_eq_true rfl) (Nat.le_of_ble_eq_true rfl) ?_
  refine hw_mono H ?_
  rintro r ψ2 y2 ⟨hyx, hψx, z2, hr, H⟩
  subst hyx
  subst hψx
  subst hr
  refine ⟨hne0, ?_⟩
  show hw sc (d + 1) 175 188 L [(0, z2)] φ y2 Q
  obtain ⟨hz3, ht3, hf3⟩ := H
  refine hw_if (a0 := 0) (b := 1) (e := 201) (by decide +kernel) hz3 (fun q => ?_) (fun q => ?_)
  · have H := ht3 q
    refine hw_ld (b := 3) (e := 0) (by decide +kernel) g3 ?_
    obtain ⟨hz4, ht4, hf4⟩ := H
    refine hw_if (a0 := 0) (b := 0) (e := 220) (by decide +kernel) hz4 (fun q => ?_) (fun q => ?_)
    · have H := ht4 q
      refine hw_k (c := 0) (b := 0) (e := 1) (by decide +kernel) ?_
      refine hw_st (L' := (jm_st1 L 3 (0, 0))) (b := 3) (e := 0) (by decide +kernel) rfl ?_
      refine hw_ald (b := 0) (e := 0) (by decide +kernel) (get_st1 g0 (by decide) (fun q => absurd q.1 (by decide))) (by decide) ?_
      refine hr_gi (w := φ 192 13) (b := 12) (e := 13) 192 rfl (by decide +kernel) rfl ?_
      refine hw_k (c := 7) (b := 1) (e := 2) (by decide +kernel) ?_
      obtain ⟨hz5, hy5, ht5, hf5⟩ := H
      refine hw_if2 (a0 := 0) (b := 3) (e := 248) (by decide +kernel) hz5 hy5 (fun q => ?_) (fun q => ?_)
      · have H := ht5 q
        refine hw_ald (b := 0) (e := 0) (by decide +kernel) (get_st1 g0 (by decide) (fun q => absurd q.1 (by decide))) (by decide) ?_
        refine hr_gi (w := φ 192 13) (b := 12) (e := 13) 192 rfl (by decide +kernel) rfl ?_
        refine hw_k (c := 3) (b := 0) (e := 1) (by decide +kernel) ?_
        obtain ⟨hz6, hy6, ht6, hf6⟩ := H
        refine hw_if2 (a0 := 0) (b := 3) (e := 275) (by decide +kernel) hz6 hy6 (fun q => ?_) (fun q => ?_)
        · have H := ht6 q
          refine hw_ald (b := 0) (e := 0) (by decide +kernel) (get_st1 g0 (by decide) (fun q => absurd q.1 (by decide))) (by decide) ?_
          refine hw_dup (a0 := 0) (e := 0) (by decide +kernel) (by decide) ?_
          refine hr_gi (w := φ 192 13) (b := 12) (e := 13) 192 rfl (by decide +kernel) rfl ?_
          refine hw_k (c := 1) (b := 0) (e := 1) (by decide +kernel) ?_
          refine hw_bin (w := (φ 192 13) + 1) (a0 := 0) (b := 0) (e := 0) (by decide +kernel) rfl ?_
          refine hr_pi (b := 12) (e := 13) 192 rfl (by decide +kernel) ?_
          refine hw_ald (b := 0) (e := 0) (by decide +kernel) (get_st1 g0 (by decide) (fun q => absurd q.1 (by decide))) (by decide) ?_
          refine hw_dup (a0 := 0) (e := 0) (by decide +kernel) (by decide) ?_
          refine hr_gi (w := φ 192 4) (b := 12) (e := 4) 192 rfl (by decide +kernel) (hf_up_ne (fun q => absurd q.2 (by decide))) ?_
          refine hw_k (c := 1) (b := 0) (e := 1) (by decide +kernel) ?_
          refine hw_bin (w := (φ 192 4) + 1) (a0 := 0) (b := 0) (e := 0) (by decide +kernel) rfl ?_
          refine hr_pi (b := 12) (e := 4) 192 rfl (by decide +kernel) ?_
          refine hw_goto (a0 := 0) (b := 0) (e := 181) (by decide +kernel) ?_
          exact H
        · have H := hf6 q
          refine hw_ald (b := 0) (e := 0) (by decide +kernel) (get_st1 g0 (by decide) (fun q => absurd q.1 (by decide))) (by decide) ?_
          refine hw_k (c := 10) (b := 1) (e := 2) (by decide +kernel) ?_
          refine hw_ald (b := 0) (e := 0) (by decide +kernel) (get_st1 g0 (by decide) (fun q => absurd q.1 (by decide))) (by decide) ?_
          refine hr_gi (w := φ 192 14) (b := 12) (e := 14) 192 rfl (by decide +kernel) rfl ?_
          refine hw_bin (w := 10 * (φ 192 14)) (a0 := 0) (b := 2) (e := 0) (by decide +kernel) rfl ?_
          refine hw_ald (b := 0) (e := 0) (by decide +kernel) (get_st1 g0 (by decide) (fun q => absurd q.1 (by decide))) (by decide) ?_
          refine hr_call (a0 := 22) (b := 176) (e := 1) (nl := 1) (As := []) (R := [(0, 10 * (φ 192 14)), (2, 192)]) 192 rfl (by decide +kernel) rfl rfl (Nat.le_of_ble_eq_true rfl) (Nat.le_of_ble_eq_true rfl) ?_
          refine hw_mono H ?_
          rintro r ψ7 y7 ⟨hyx, hψx, z7, hr, H⟩
          subst hyx
          subst hψx
          subst hr
          refine ⟨hne0, ?_⟩
          show hw sc (d + 1) 175 268 (jm_st1 L 3 (0, 0)) [(0, z7), (0, 10 * (φ 192 14)), (2, 192)] φ y7 Q
          refine hw_bin (w := (10 * (φ 192 14)) + z7) (a0 := 0) (b := 0) (e := 0) (by decide +kernel) rfl ?_
          refine hw_k (c := 48) (b := 1) (e := 2) (by decide +kernel) ?_
          refine hw_bin (w := ((10 * (φ 192 14)) + z7) - 48) (a0 := 0) (b := 1) (e := 0) (by decide +kernel) rfl ?_
          refine hr_pi (b := 12) (e := 14) 192 rfl (by decide +kernel) ?_
          refine hw_ald (b := 0) (e := 0) (by decide +kernel) (get_st1 g0 (by decide) (fun q => absurd q.1 (by decide))) (by decide) ?_
          refine hw_dup (a0 := 0) (e := 0) (by decide +kernel) (by decide) ?_
          refine hr_gi (w := φ 192 13) (b := 12) (e := 13) 192 rfl (by decide +kernel) (hf_up_ne (fun q => absurd q.2 (by decide))) ?_
          refine hw_k (c := 1) (b := 0) (e := 1) (by decide +kernel) ?_
          refine hw_bin (w := (φ 192 13) + 1) (a0 := 0) (b := 0) (e := 0) (by decide +kernel) rfl ?_
          refine hr_pi (b := 12) (e := 13) 192 rfl (by decide +kernel) ?_
          refine hw_ald (b := 0) (e := 0) (by decide +kernel) (get_st1 g0 (by decide) (fun q => absurd q.1 (by decide))) (by decide) ?_
          refine hw_dup (a0 := 0) (e := 0) (by decide +kernel) (by decide) ?_
          refine hr_gi (w := φ 192 4) (b := 12) (e := 4) 192 rfl (by decide +kernel) ((hf_up_ne (fun q => absurd q.2 (by decide))).trans (hf_up_ne (fun q => absurd q.2 (by decide)))) ?_
          refine hw_k (c := 1) (b := 0) (e := 1) (by decide +kernel) ?_
          refine hw_bin (w := (φ 192 4) + 1) (a0 := 0) (b := 0) (e := 0) (by decide +kernel) rfl ?_
          refine hr_pi (b := 12) (e := 4) 192 rfl (by decide +kernel) ?_
          refine hw_goto (a0 := 0) (b := 0) (e := 181) (by decide +kernel) ?_
          exact H
      · have H := hf5 q
        refine hw_ald (b := 0) (e := 0) (by decide +kernel) (get_st1 g0 (by decide) (fun q => absurd q.1 (by decide))) (by decide) ?_
        refine hw_ald (b := 0) (e := 0) (by decide +kernel) (get_st1 g0 (by decide) (fun q => absurd q.1 (by decide))) (by decide) ?_
        refine hr_gl (w := φ 192 17) (b := 12) (e := 17) 192 rfl (by decide +kernel) rfl ?_
        refine hw_k (c := 8) (b := 1) (e := 2) (by decide +kernel) ?_
        refine hw_lsh (w := hb_lshl (φ 192 17) 8) (a0 := 0) (b := 4) (e := 0) (by decide +kernel) rfl ?_
        refine hw_ald (b := 0) (e := 0) (by decide +kernel) (get_st1 g0 (by decide) (fun q => absurd q.1 (by decide))) (by decide) ?_
        refine hr_call (a0 := 22) (b := 176) (e := 1) (nl := 1) (As := []) (R := [(1, hb_lshl (φ 192 17) 8), (2, 192)]) 192 rfl (by decide +kernel) rfl rfl (Nat.le_of_ble_eq_true rfl) (Nat.le_of_ble_eq_true rfl) ?_
        refine hw_mono H ?_
        rintro r ψ8 y8 ⟨hyx, hψx, z8, hr, H⟩
        subst hyx
        subst hψx
        subst hr
        refine ⟨hne0, ?_⟩
        show hw sc (d + 1) 175 243 (jm_st1 L 3 (0, 0)) [(0, z8), (1, hb_lshl (φ 192 17) 8), (2, 192)] φ y8 Q
        refine hw_conv (t' := 1) (w := hb_i2l z8) (a0 := 0) (b := 0) (e := 0) (by decide +kernel) rfl ?_
        refine hw_lbin (w := hb_lor (hb_lshl (φ 192 17) 8) (hb_i2l z8)) (a0 := 0) (b := 3) (e := 0) (by decide +kernel) rfl ?_
        refine hr_pl (b := 12) (e := 17) 192 rfl (by decide +kernel) ?_
        refine hw_ald (b := 0) (e := 0) (by decide +kernel) (get_st1 g0 (by decide) (fun q => absurd q.1 (by decide))) (by decide) ?_
        refine hr_gi (w := φ 192 13) (b := 12) (e := 13) 192 rfl (by decide +kernel) (hf_up_ne (fun q => absurd q.2 (by decide))) ?_
        refine hw_k (c := 3) (b := 0) (e := 1) (by decide +kernel) ?_
        obtain ⟨hz9, hy9, ht9, hf9⟩ := H
        refine hw_if2 (a0 := 0) (b := 3) (e := 275) (by decide +kernel) hz9 hy9 (fun q => ?_) (fun q => ?_)
        · have H := ht9 q
          refine hw_ald (b := 0) (e := 0) (by decide +kernel) (get_st1 g0 (by decide) (fun q => absurd q.1 (by decide))) (by decide) ?_
          refine hw_dup (a0 := 0) (e := 0) (by decide +kernel) (by decide) ?_
          refine hr_gi (w := φ 192 13) (b := 12) (e := 13) 192 rfl (by decide +kernel) (hf_up_ne (fun q => absurd q.2 (by decide))) ?_
          refine hw_k (c := 1) (b := 0) (e := 1) (by decide +kernel) ?_
          refine hw_bin (w := (φ 192 13) + 1) (a0 := 0) (b := 0) (e := 0) (by decide +kernel) rfl ?_
          refine hr_pi (b := 12) (e := 13) 192 rfl (by decide +kernel) ?_
          refine hw_ald (b := 0) (e := 0) (by decide +kernel) (get_st1 g0 (by decide) (fun q => absurd q.1 (by decide))) (by decide) ?_
          refine hw_dup (a0 := 0) (e := 0) (by decide +kernel) (by decide) ?_
          refine hr_gi (w := φ 192 4) (b := 12) (e := 4) 192 rfl (by decide +kernel) ((hf_up_ne (fun q => absurd q.2 (by decide))).trans (hf_up_ne (fun q => absurd q.2 (by decide)))) ?_
          refine hw_k (c := 1) (b := 0) (e := 1) (by decide +kernel) ?_
          refine hw_bin (w := (φ 192 4) + 1) (a0 := 0) (b := 0) (e := 0) (by decide +kernel) rfl ?_
          refine hr_pi (b := 12) (e := 4) 192 rfl (by decide +kernel) ?_
          refine hw_goto (a0 := 0) (b := 0) (e := 181) (by decide +kernel) ?_
          exact H
        · have H := hf9 q
          refine hw_ald (b := 0) (e := 0) (by decide +kernel) (get_st1 g0 (by decide) (fun q => absurd q.1 (by decide))) (by decide) ?_
          refine hw_k (c := 10) (b := 1) (e := 2) (by decide +kernel) ?_
          refine hw_ald (b := 0) (e := 0) (by decide +kernel) (get_st1 g0 (by decide) (fun q => absurd q.1 (by decide))) (by decide) ?_
          refine hr_gi (w := φ 192 14) (b := 12) (e := 14) 192 rfl (by decide +kernel) (hf_up_ne (fun q => absurd q.2 (by decide))) ?_
          refine hw_bin (w := 10 * (φ 192 14)) (a0 := 0) (b := 2) (e := 0) (by decide +kernel) rfl ?_
          refine hw_ald (b := 0) (e := 0) (by decide +kernel) (get_st1 g0 (by decide) (fun q => absurd q.1 (by decide))) (by decide) ?_
          refine hr_call (a0 := 22) (b := 176) (e := 1) (nl := 1) (As := []) (R := [(0, 10 * (φ 192 14)), (2, 192)]) 192 rfl (by decide +kernel) rfl rfl (Nat.le_of_ble_eq_true rfl) (Nat.le_of_ble_eq_true rfl) ?_
          refine hw_mono H ?_
          rintro r ψ10 y10 ⟨hyx, hψx, z10, hr, H⟩
          subst hyx
          subst hψx
          subst hr
          refine ⟨hne0, ?_⟩
          show hw sc (d + 1) 175 268 (jm_st1 L 3 (0, 0)) [(0, z10), (0, 10 * (φ 192 14)), (2, 192)] (hf_up φ 192 17 (hb_lor (hb_lshl (φ 192 17) 8) (hb_i2l z8))) y10 Q
          refine hw_bin (w := (10 * (φ 192 14)) + z10) (a0 := 0) (b := 0) (e := 0) (by decide +kernel) rfl ?_
          refine hw_k (c := 48) (b := 1) (e := 2) (by decide +kernel) ?_
          refine hw_bin (w := ((10 * (φ 192 14)) + z10) - 48) (a0 := 0) (b := 1) (e := 0) (by decide +kernel) rfl ?_
          refine hr_pi (b := 12) (e := 14) 192 rfl (by decide +kernel) ?_
          refine hw_ald (b := 0) (e := 0) (by decide +kernel) (get_st1 g0 (by decide) (fun q => absurd q.1 (by decide))) (by decide) ?_
          refine hw_dup (a0 := 0) (e := 0) (by decide +kernel) (by decide) ?_
          refine hr_gi (w := φ 192 13) (b := 12) (e := 13) 192 rfl (by decide +kernel) ((hf_up_ne (fun q => absurd q.2 (by decide))).trans (hf_up_ne (fun q => absurd q.2 (by decide)))) ?_
          refine hw_k (c := 1) (b := 0) (e := 1) (by decide +kernel) ?_
          refine hw_bin (w := (φ 192 13) + 1) (a0 := 0) (b := 0) (e := 0) (by decide +kernel) rfl ?_
          refine hr_pi (b := 12) (e := 13) 192 rfl (by decide +kernel) ?_
          refine hw_ald (b := 0) (e := 0) (by decide +kernel) (get_st1 g0 (by decide) (fun q => absurd q.1 (by decide))) (by decide) ?_
          refine hw_dup (a0 := 0) (e := 0) (by decide +kernel) (by decide) ?_
          refine hr_gi (w := φ 192 4) (b := 12) (e := 4) 192 rfl (by decide +kernel) ((hf_up_ne (fun q => absurd q.2 (by decide))).trans ((hf_up_ne (fun q => absurd q.2 (by decide))).trans (hf_up_ne (fun q => absurd q.2 (by decide))))) ?_
          refine hw_k (c := 1) (b := 0) (e := 1) (by decide +kernel) ?_
          refine hw_bin (w := (φ 192 4) + 1) (a0 := 0) (b := 0) (e := 0) (by decide +kernel) rfl ?_
          refine hr_pi (b := 12) (e := 4) 192 rfl (by decide +kernel) ?_
          refine hw_goto (a0 := 0) (b := 0) (e := 181) (by decide +kernel) ?_
          exact H
    · have H := hf4 q
      refine hw_ald (b := 0) (e := 0) (by decide +kernel) g0 (by decide) ?_
      refine hr_call (a0 := 22) (b := 176) (e := 1) (nl := 1) (As := []) (R := []) 192 rfl (by decide +kernel) rfl rfl (Nat.le_of_ble_eq_true rfl) (Nat.le_of_ble_eq_true rfl) ?_
      refine hw_mono H ?_
      rintro r ψ11 y11 ⟨hyx, hψx, z11, hr, H⟩
      subst hyx
      subst hψx
      subst hr
      refine ⟨hne0, ?_⟩
      show hw sc (d + 1) 175 209 L [(0, z11)] φ y11 Q
      refine hr_calls (b := 177) (e := 1) (nl := 1) (As := [(0, z11)]) (R := []) (by decide +kernel) rfl rfl (Nat.le_of_ble_eq_true rfl) (Nat.le_of_ble_eq_true rfl) ?_
      refine hw_mono H ?_
      rintro r ψ12 y12 ⟨hyx, hψx, z12, hr, H⟩
      subst hyx
      subst hψx
      subst hr
      refine ⟨hne0, ?_⟩
      show hw sc (d + 1) 175 212 L [(0, z12)] φ y12 Q
      refine hw_ld (b := 2) (e := 0) (by decide +kernel) g2 ?_
      obtain ⟨hz13, hy13, ht13, hf13⟩ := H
      refine hw_if2 (a0 := 0) (b := 1) (e := 220) (by decide +kernel) hz13 hy13 (fun q => ?_) (fun q => ?_)
      · have H := ht13 q
        refine hw_k (c := 0) (b := 0) (e := 1) (by decide +kernel) ?_
        refine hw_st (L' := (jm_st1 L 3 (0, 0))) (b := 3) (e := 0) (by decide +kernel) rfl ?_
        refine hw_ald (b := 0) (e := 0) (by decide +kernel) (get_st1 g0 (by decide) (fun q => absurd q.1 (by decide))) (by decide) ?_
        refine hr_gi (w := φ 192 13) (b := 12) (e := 13) 192 rfl (by decide +kernel) rfl ?_
        refine hw_k (c := 7) (b := 1) (e := 2) (by decide +kernel) ?_
        obtain ⟨hz14, hy14, ht14, hf14⟩ := H
        refine hw_if2 (a0 := 0) (b := 3) (e := 248) (by decide +kernel) hz14 hy14 (fun q => ?_) (fun q => ?_)
        · have H := ht14 q
          refine hw_ald (b := 0) (e := 0) (by decide +kernel) (get_st1 g0 (by decide) (fun q => absurd q.1 (by decide))) (by decide) ?_
          refine hr_gi (w := φ 192 13) (b := 12) (e := 13) 192 rfl (by decide +kernel) rfl ?_
          refine hw_k (c := 3) (b := 0) (e := 1) (by decide +kernel) ?_
          obtain ⟨hz15, hy15, ht15, hf15⟩ := H
          refine hw_if2 (a0 := 0) (b := 3) (e := 275) (by decide +kernel) hz15 hy15 (fun q => ?_) (fun q => ?_)
          · have H := ht15 q
            refine hw_ald (b := 0) (e := 0) (by decide +kernel) (get_st1 g0 (by decide) (fun q => absurd q.1 (by decide))) (by decide) ?_
            refine hw_dup (a0 := 0) (e := 0) (by decide +kernel) (by decide) ?_
            refine hr_gi (w := φ 192 13) (b := 12) (e := 13) 192 rfl (by decide +kernel) rfl ?_
            refine hw_k (c := 1) (b := 0) (e := 1) (by decide +kernel) ?_
            refine hw_bin (w := (φ 192 13) + 1) (a0 := 0) (b := 0) (e := 0) (by decide +kernel) rfl ?_
            refine hr_pi (b := 12) (e := 13) 192 rfl (by decide +kernel) ?_
            refine hw_ald (b := 0) (e := 0) (by decide +kernel) (get_st1 g0 (by decide) (fun q => absurd q.1 (by decide))) (by decide) ?_
            refine hw_dup (a0 := 0) (e := 0) (by decide +kernel) (by decide) ?_
            refine hr_gi (w := φ 192 4) (b := 12) (e := 4) 192 rfl (by decide +kernel) (hf_up_ne (fun q => absurd q.2 (by decide))) ?_
            refine hw_k (c := 1) (b := 0) (e := 1) (by decide +kernel) ?_
            refine hw_bin (w := (φ 192 4) + 1) (a0 := 0) (b := 0) (e := 0) (by decide +kernel) rfl ?_
            refine hr_pi (b := 12) (e := 4) 192 rfl (by decide +kernel) ?_
            refine hw_goto (a0 := 0) (b := 0) (e := 181) (by decide +kernel) ?_
            exact H
          · have H := hf15 q
            refine hw_ald (b := 0) (e := 0) (by decide +kernel) (get_st1 g0 (by decide) (fun q => absurd q.1 (by decide))) (by decide) ?_
            refine hw_k (c := 10) (b := 1) (e := 2) (by decide +kernel) ?_
            refine hw_ald (b := 0) (e := 0) (by decide +kernel) (get_st1 g0 (by decide) (fun q => absurd q.1 (by decide))) (by decide) ?_
            refine hr_gi (w := φ 192 14) (b := 12) (e := 14) 192 rfl (by decide +kernel) rfl ?_
            refine hw_bin (w := 10 * (φ 192 14)) (a0 := 0) (b := 2) (e := 0) (by decide +kernel) rfl ?_
            refine hw_ald (b := 0) (e := 0) (by decide +kernel) (get_st1 g0 (by decide) (fun q => absurd q.1 (by decide))) (by decide) ?_
            refine hr_call (a0 := 22) (b := 176) (e := 1) (nl := 1) (As := []) (R := [(0, 10 * (φ 192 14)), (2, 192)]) 192 rfl (by decide +kernel) rfl rfl (Nat.le_of_ble_eq_true rfl) (Nat.le_of_ble_eq_true rfl) ?_
            refine hw_mono H ?_
            rintro r ψ16 y16 ⟨hyx, hψx, z16, hr, H⟩
            subst hyx
            subst hψx
            subst hr
            refine ⟨hne0, ?_⟩
            show hw sc (d + 1) 175 268 (jm_st1 L 3 (0, 0)) [(0, z16), (0, 10 * (φ 192 14)), (2, 192)] φ y16 Q
            refine hw_bin (w := (10 * (φ 192 14)) + z16) (a0 := 0) (b := 0) (e := 0) (by decide +kernel) rfl ?_
            refine hw_k (c := 48) (b := 1) (e := 2) (by decide +kernel) ?_
            refine hw_bin (w := ((10 * (φ 192 14)) + z16) - 48) (a0 := 0) (b := 1) (e := 0) (by decide +kernel) rfl ?_
            refine hr_pi (b := 12) (e := 14) 192 rfl (by decide +kernel) ?_
            refine hw_ald (b := 0) (e := 0) (by decide +kernel) (get_st1 g0 (by decide) (fun q => absurd q.1 (by decide))) (by decide) ?_
            refine hw_dup (a0 := 0) (e := 0) (by decide +kernel) (by decide) ?_
            refine hr_gi (w := φ 192 13) (b := 12) (e := 13) 192 rfl (by decide +kernel) (hf_up_ne (fun q => absurd q.2 (by decide))) ?_
            refine hw_k (c := 1) (b := 0) (e := 1) (by decide +kernel) ?_
            refine hw_bin (w := (φ 192 13) + 1) (a0 := 0) (b := 0) (e := 0) (by decide +kernel) rfl ?_
            refine hr_pi (b := 12) (e := 13) 192 rfl (by decide +kernel) ?_
            refine hw_ald (b := 0) (e := 0) (by decide +kernel) (get_st1 g0 (by decide) (fun q => absurd q.1 (by decide))) (by decide) ?_
            refine hw_dup (a0 := 0) (e := 0) (by decide +kernel) (by decide) ?_
            refine hr_gi (w := φ 192 4) (b := 12) (e := 4) 192 rfl (by decide +kernel) ((hf_up_ne (fun q => absurd q.2 (by decide))).trans (hf_up_ne (fun q => absurd q.2 (by decide)))) ?_
            refine hw_k (c := 1) (b := 0) (e := 1) (by decide +kernel) ?_
            refine hw_bin (w := (φ 192 4) + 1) (a0 := 0) (b := 0) (e := 0) (by decide +kernel) rfl ?_
            refine hr_pi (b := 12) (e := 4) 192 rfl (by decide +kernel) ?_
            refine hw_goto (a0 := 0) (b := 0) (e := 181) (by decide +kernel) ?_
            exact H
        · have H := hf14 q
          refine hw_ald (b := 0) (e := 0) (by decide +kernel) (get_st1 g0 (by decide) (fun q => absurd q.1 (by decide))) (by decide) ?_
          refine hw_ald (b := 0) (e := 0) (by decide +kernel) (get_st1 g0 (by decide) (fun q => absurd q.1 (by decide))) (by decide) ?_
          refine hr_gl (w := φ 192 17) (b := 12) (e := 17) 192 rfl (by decide +kernel) rfl ?_
          refine hw_k (c := 8) (b := 1) (e := 2) (by decide +kernel) ?_
          refine hw_lsh (w := hb_lshl (φ 192 17) 8) (a0 := 0) (b := 4) (e := 0) (by decide +kernel) rfl ?_
          refine hw_ald (b := 0) (e := 0) (by decide +kernel) (get_st1 g0 (by decide) (fun q => absurd q.1 (by decide))) (by decide) ?_
          refine hr_call (a0 := 22) (b := 176) (e := 1) (nl := 1) (As := []) (R := [(1, hb_lshl (φ 192 17) 8), (2, 192)]) 192 rfl (by decide +kernel) rfl rfl (Nat.le_of_ble_eq_true rfl) (Nat.le_of_ble_eq_true rfl) ?_
          refine hw_mono H ?_
          rintro r ψ17 y17 ⟨hyx, hψx, z17, hr, H⟩
          subst hyx
          subst hψx
          subst hr
          refine ⟨hne0, ?_⟩
          show hw sc (d + 1) 175 243 (jm_st1 L 3 (0, 0)) [(0, z17), (1, hb_lshl (φ 192 17) 8), (2, 192)] φ y17 Q
          refine hw_conv (t' := 1) (w := hb_i2l z17) (a0 := 0) (b := 0) (e := 0) (by decide +kernel) rfl ?_
          refine hw_lbin (w := hb_lor (hb_lshl (φ 192 17) 8) (hb_i2l z17)) (a0 := 0) (b := 3) (e := 0) (by decide +kernel) rfl ?_
          refine hr_pl (b := 12) (e := 17) 192 rfl (by decide +kernel) ?_
          refine hw_ald (b := 0) (e := 0) (by decide +kernel) (get_st1 g0 (by decide) (fun q => absurd q.1 (by decide))) (by decide) ?_
          refine hr_gi (w := φ 192 13) (b := 12) (e := 13) 192 rfl (by decide +kernel) (hf_up_ne (fun q => absurd q.2 (by decide))) ?_
          refine hw_k (c := 3) (b := 0) (e := 1) (by decide +kernel) ?_
          obtain ⟨hz18, hy18, ht18, hf18⟩ := H
          refine hw_if2 (a0 := 0) (b := 3) (e := 275) (by decide +kernel) hz18 hy18 (fun q => ?_) (fun q => ?_)
          · have H := ht18 q
            refine hw_ald (b := 0) (e := 0) (by decide +kernel) (get_st1 g0 (by decide) (fun q => absurd q.1 (by decide))) (by decide) ?_
            refine hw_dup (a0 := 0) (e := 0) (by decide +kernel) (by decide) ?_
            refine hr_gi (w := φ 192 13) (b := 12) (e := 13) 192 rfl (by decide +kernel) (hf_up_ne (fun q => absurd q.2 (by decide))) ?_
            refine hw_k (c := 1) (b := 0) (e := 1) (by decide +kernel) ?_
            refine hw_bin (w := (φ 192 13) + 1) (a0 := 0) (b := 0) (e := 0) (by decide +kernel) rfl ?_
            refine hr_pi (b := 12) (e := 13) 192 rfl (by decide +kernel) ?_
            refine hw_ald (b := 0) (e := 0) (by decide +kernel) (get_st1 g0 (by decide) (fun q => absurd q.1 (by decide))) (by decide) ?_
            refine hw_dup (a0 := 0) (e := 0) (by decide +kernel) (by decide) ?_
            refine hr_gi (w := φ 192 4) (b := 12) (e := 4) 192 rfl (by decide +kernel) ((hf_up_ne (fun q => absurd q.2 (by decide))).trans (hf_up_ne (fun q => absurd q.2 (by decide)))) ?_
            refine hw_k (c := 1) (b := 0) (e := 1) (by decide +kernel) ?_
            refine hw_bin (w := (φ 192 4) + 1) (a0 := 0) (b := 0) (e := 0) (by decide +kernel) rfl ?_
            refine hr_pi (b := 12) (e := 4) 192 rfl (by decide +kernel) ?_
            refine hw_goto (a0 := 0) (b := 0) (e := 181) (by decide +kernel) ?_
            exact H
          · have H := hf18 q
            refine hw_ald (b := 0) (e := 0) (by decide +kernel) (get_st1 g0 (by decide) (fun q => absurd q.1 (by decide))) (by decide) ?_
            refine hw_k (c := 10) (b := 1) (e := 2) (by decide +kernel) ?_
            refine hw_ald (b := 0) (e := 0) (by decide +kernel) (get_st1 g0 (by decide) (fun q => absurd q.1 (by decide))) (by decide) ?_
            refine hr_gi (w := φ 192 14) (b := 12) (e := 14) 192 rfl (by decide +kernel) (hf_up_ne (fun q => absurd q.2 (by decide))) ?_
            refine hw_bin (w := 10 * (φ 192 14)) (a0 := 0) (b := 2) (e := 0) (by decide +kernel) rfl ?_
            refine hw_ald (b := 0) (e := 0) (by decide +kernel) (get_st1 g0 (by decide) (fun q => absurd q.1 (by decide))) (by decide) ?_
            refine hr_call (a0 := 22) (b := 176) (e := 1) (nl := 1) (As := []) (R := [(0, 10 * (φ 192 14)), (2, 192)]) 192 rfl (by decide +kernel) rfl rfl (Nat.le_of_ble_eq_true rfl) (Nat.le_of_ble_eq_true rfl) ?_
            refine hw_mono H ?_
            rintro r ψ19 y19 ⟨hyx, hψx, z19, hr, H⟩
            subst hyx
            subst hψx
            subst hr
            refine ⟨hne0, ?_⟩
            show hw sc (d + 1) 175 268 (jm_st1 L 3 (0, 0)) [(0, z19), (0, 10 * (φ 192 14)), (2, 192)] (hf_up φ 192 17 (hb_lor (hb_lshl (φ 192 17) 8) (hb_i2l z17))) y19 Q
            refine hw_bin (w := (10 * (φ 192 14)) + z19) (a0 := 0) (b := 0) (e := 0) (by decide +kernel) rfl ?_
            refine hw_k (c := 48) (b := 1) (e := 2) (by decide +kernel) ?_
            refine hw_bin (w := ((10 * (φ 192 14)) + z19) - 48) (a0 := 0) (b := 1) (e := 0) (by decide +kernel) rfl ?_
            refine hr_pi (b := 12) (e := 14) 192 rfl (by decide +kernel) ?_
            refine hw_ald (b := 0) (e := 0) (by decide +kernel) (get_st1 g0 (by decide) (fun q => absurd q.1 (by decide))) (by decide) ?_
            refine hw_dup (a0 := 0) (e := 0) (by decide +kernel) (by decide) ?_
            refine hr_gi (w := φ 192 13) (b := 12) (e := 13) 192 rfl (by decide +kernel) ((hf_up_ne (fun q => absurd q.2 (by decide))).trans (hf_up_ne (fun q => absurd q.2 (by decide)))) ?_
            refine hw_k (c := 1) (b := 0) (e := 1) (by decide +kernel) ?_
            refine hw_bin (w := (φ 192 13) + 1) (a0 := 0) (b := 0) (e := 0) (by decide +kernel) rfl ?_
            refine hr_pi (b := 12) (e := 13) 192 rfl (by decide +kernel) ?_
            refine hw_ald (b := 0) (e := 0) (by decide +kernel) (get_st1 g0 (by decide) (fun q => absurd q.1 (by decide))) (by decide) ?_
            refine hw_dup (a0 := 0) (e := 0) (by decide +kernel) (by decide) ?_
            refine hr_gi (w := φ 192 4) (b := 12) (e := 4) 192 rfl (by decide +kernel) ((hf_up_ne (fun q => absurd q.2 (by decide))).trans ((hf_up_ne (fun q => absurd q.2 (by decide))).trans (hf_up_ne (fun q => absurd q.2 (by decide))))) ?_
            refine hw_k (c := 1) (b := 0) (e := 1) (by decide +kernel) ?_
            refine hw_bin (w := (φ 192 4) + 1) (a0 := 0) (b := 0) (e := 0) (by decide +kernel) rfl ?_
            refine hr_pi (b := 12) (e := 4) 192 rfl (by decide +kernel) ?_
            refine hw_goto (a0 := 0) (b := 0) (e := 181) (by decide +kernel) ?_
            exact H
      · have H := hf13 q
        refine hw_k (c := 1) (b := 0) (e := 1) (by decide +kernel) ?_
        refine hw_goto (a0 := 0) (b := 0) (e := 221) (by decide +kernel) ?_
        refine hw_st (L' := (jm_st1 L 3 (0, 1))) (b := 3) (e := 0) (by decide +kernel) rfl ?_
        refine hw_ald (b := 0) (e := 0) (by decide +kernel) (get_st1 g0 (by decide) (fun q => absurd q.1 (by decide))) (by decide) ?_
        refine hr_gi (w := φ 192 13) (b := 12) (e := 13) 192 rfl (by decide +kernel) rfl ?_
        refine hw_k (c := 7) (b := 1) (e := 2) (by decide +kernel) ?_
        obtain ⟨hz20, hy20, ht20, hf20⟩ := H
        refine hw_if2 (a0 := 0) (b := 3) (e := 248) (by decide +kernel) hz20 hy20 (fun q => ?_) (fun q => ?_)
        · have H := ht20 q
          refine hw_ald (b := 0) (e := 0) (by decide +kernel) (get_st1 g0 (by decide) (fun q => absurd q.1 (by decide))) (by decide) ?_
          refine hr_gi (w := φ 192 13) (b := 12) (e := 13) 192 rfl (by decide +kernel) rfl ?_
          refine hw_k (c := 3) (b := 0) (e := 1) (by decide +kernel) ?_
          obtain ⟨hz21, hy21, ht21, hf21⟩ := H
          refine hw_if2 (a0 := 0) (b := 3) (e := 275) (by decide +kernel) hz21 hy21 (fun q => ?_) (fun q => ?_)
          · have H := ht21 q
            refine hw_ald (b := 0) (e := 0) (by decide +kernel) (get_st1 g0 (by decide) (fun q => absurd q.1 (by decide))) (by decide) ?_
            refine hw_dup (a0 := 0) (e := 0) (by decide +kernel) (by decide) ?_
            refine hr_gi (w := φ 192 13) (b := 12) (e := 13) 192 rfl (by decide +kernel) rfl ?_
            refine hw_k (c := 1) (b := 0) (e := 1) (by decide +kernel) ?_
            refine hw_bin (w := (φ 192 13) + 1) (a0 := 0) (b := 0) (e := 0) (by decide +kernel) rfl ?_
            refine hr_pi (b := 12) (e := 13) 192 rfl (by decide +kernel) ?_
            refine hw_ald (b := 0) (e := 0) (by decide +kernel) (get_st1 g0 (by decide) (fun q => absurd q.1 (by decide))) (by decide) ?_
            refine hw_dup (a0 := 0) (e := 0) (by decide +kernel) (by decide) ?_
            refine hr_gi (w := φ 192 4) (b := 12) (e := 4) 192 rfl (by decide +kernel) (hf_up_ne (fun q => absurd q.2 (by decide))) ?_
            refine hw_k (c := 1) (b := 0) (e := 1) (by decide +kernel) ?_
            refine hw_bin (w := (φ 192 4) + 1) (a0 := 0) (b := 0) (e := 0) (by decide +kernel) rfl ?_
            refine hr_pi (b := 12) (e := 4) 192 rfl (by decide +kernel) ?_
            refine hw_goto (a0 := 0) (b := 0) (e := 181) (by decide +kernel) ?_
            exact H
          · have H := hf21 q
            refine hw_ald (b := 0) (e := 0) (by decide +kernel) (get_st1 g0 (by decide) (fun q => absurd q.1 (by decide))) (by decide) ?_
            refine hw_k (c := 10) (b := 1) (e := 2) (by decide +kernel) ?_
            refine hw_ald (b := 0) (e := 0) (by decide +kernel) (get_st1 g0 (by decide) (fun q => absurd q.1 (by decide))) (by decide) ?_
            refine hr_gi (w := φ 192 14) (b := 12) (e := 14) 192 rfl (by decide +kernel) rfl ?_
            refine hw_bin (w := 10 * (φ 192 14)) (a0 := 0) (b := 2) (e := 0) (by decide +kernel) rfl ?_
            refine hw_ald (b := 0) (e := 0) (by decide +kernel) (get_st1 g0 (by decide) (fun q => absurd q.1 (by decide))) (by decide) ?_
            refine hr_call (a0 := 22) (b := 176) (e := 1) (nl := 1) (As := []) (R := [(0, 10 * (φ 192 14)), (2, 192)]) 192 rfl (by decide +kernel) rfl rfl (Nat.le_of_ble_eq_true rfl) (Nat.le_of_ble_eq_true rfl) ?_
            refine hw_mono H ?_
            rintro r ψ22 y22 ⟨hyx, hψx, z22, hr, H⟩
            subst hyx
            subst hψx
            subst hr
            refine ⟨hne0, ?_⟩
            show hw sc (d + 1) 175 268 (jm_st1 L 3 (0, 1)) [(0, z22), (0, 10 * (φ 192 14)), (2, 192)] φ y22 Q
            refine hw_bin (w := (10 * (φ 192 14)) + z22) (a0 := 0) (b := 0) (e := 0) (by decide +kernel) rfl ?_
            refine hw_k (c := 48) (b := 1) (e := 2) (by decide +kernel) ?_
            refine hw_bin (w := ((10 * (φ 192 14)) + z22) - 48) (a0 := 0) (b := 1) (e := 0) (by decide +kernel) rfl ?_
            refine hr_pi (b := 12) (e := 14) 192 rfl (by decide +kernel) ?_
            refine hw_ald (b := 0) (e := 0) (by decide +kernel) (get_st1 g0 (by decide) (fun q => absurd q.1 (by decide))) (by decide) ?_
            refine hw_dup (a0 := 0) (e := 0) (by decide +kernel) (by decide) ?_
            refine hr_gi (w := φ 192 13) (b := 12) (e := 13) 192 rfl (by decide +kernel) (hf_up_ne (fun q => absurd q.2 (by decide))) ?_
            refine hw_k (c := 1) (b := 0) (e := 1) (by decide +kernel) ?_
            refine hw_bin (w := (φ 192 13) + 1) (a0 := 0) (b := 0) (e := 0) (by decide +kernel) rfl ?_
            refine hr_pi (b := 12) (e := 13) 192 rfl (by decide +kernel) ?_
            refine hw_ald (b := 0) (e := 0) (by decide +kernel) (get_st1 g0 (by decide) (fun q => absurd q.1 (by decide))) (by decide) ?_
            refine hw_dup (a0 := 0) (e := 0) (by decide +kernel) (by decide) ?_
            refine hr_gi (w := φ 192 4) (b := 12) (e := 4) 192 rfl (by decide +kernel) ((hf_up_ne (fun q => absurd q.2 (by decide))).trans (hf_up_ne (fun q => absurd q.2 (by decide)))) ?_
            refine hw_k (c := 1) (b := 0) (e := 1) (by decide +kernel) ?_
            refine hw_bin (w := (φ 192 4) + 1) (a0 := 0) (b := 0) (e := 0) (by decide +kernel) rfl ?_
            refine hr_pi (b := 12) (e := 4) 192 rfl (by decide +kernel) ?_
            refine hw_goto (a0 := 0) (b := 0) (e := 181) (by decide +kernel) ?_
            exact H
        · have H := hf20 q
          refine hw_ald (b := 0) (e := 0) (by decide +kernel) (get_st1 g0 (by decide) (fun q => absurd q.1 (by decide))) (by decide) ?_
          refine hw_ald (b := 0) (e := 0) (by decide +kernel) (get_st1 g0 (by decide) (fun q => absurd q.1 (by decide))) (by decide) ?_
          refine hr_gl (w := φ 192 17) (b := 12) (e := 17) 192 rfl (by decide +kernel) rfl ?_
          refine hw_k (c := 8) (b := 1) (e := 2) (by decide +kernel) ?_
          refine hw_lsh (w := hb_lshl (φ 192 17) 8) (a0 := 0) (b := 4) (e := 0) (by decide +kernel) rfl ?_
          refine hw_ald (b := 0) (e := 0) (by decide +kernel) (get_st1 g0 (by decide) (fun q => absurd q.1 (by decide))) (by decide) ?_
          refine hr_call (a0 := 22) (b := 176) (e := 1) (nl := 1) (As := []) (R := [(1, hb_lshl (φ 192 17) 8), (2, 192)]) 192 rfl (by decide +kernel) rfl rfl (Nat.le_of_ble_eq_true rfl) (Nat.le_of_ble_eq_true rfl) ?_
          refine hw_mono H ?_
          rintro r ψ23 y23 ⟨hyx, hψx, z23, hr, H⟩
          subst hyx
          subst hψx
          subst hr
          refine ⟨hne0, ?_⟩
          show hw sc (d + 1) 175 243 (jm_st1 L 3 (0, 1)) [(0, z23), (1, hb_lshl (φ 192 17) 8), (2, 192)] φ y23 Q
          refine hw_conv (t' := 1) (w := hb_i2l z23) (a0 := 0) (b := 0) (e := 0) (by decide +kernel) rfl ?_
          refine hw_lbin (w := hb_lor (hb_lshl (φ 192 17) 8) (hb_i2l z23)) (a0 := 0) (b := 3) (e := 0) (by decide +kernel) rfl ?_
          refine hr_pl (b := 12) (e := 17) 192 rfl (by decide +kernel) ?_
          refine hw_ald (b := 0) (e := 0) (by decide +kernel) (get_st1 g0 (by decide) (fun q => absurd q.1 (by decide))) (by decide) ?_
          refine hr_gi (w := φ 192 13) (b := 12) (e := 13) 192 rfl (by decide +kernel) (hf_up_ne (fun q => absurd q.2 (by decide))) ?_
          refine hw_k (c := 3) (b := 0) (e := 1) (by decide +kernel) ?_
          obtain ⟨hz24, hy24, ht24, hf24⟩ := H
          refine hw_if2 (a0 := 0) (b := 3) (e := 275) (by decide +kernel) hz24 hy24 (fun q => ?_) (fun q => ?_)
          · have H := ht24 q
            refine hw_ald (b := 0) (e := 0) (by decide +kernel) (get_st1 g0 (by decide) (fun q => absurd q.1 (by decide))) (by decide) ?_
            refine hw_dup (a0 := 0) (e := 0) (by decide +kernel) (by decide) ?_
            refine hr_gi (w := φ 192 13) (b := 12) (e := 13) 192 rfl (by decide +kernel) (hf_up_ne (fun q => absurd q.2 (by decide))) ?_
            refine hw_k (c := 1) (b := 0) (e := 1) (by decide +kernel) ?_
            refine hw_bin (w := (φ 192 13) + 1) (a0 := 0) (b := 0) (e := 0) (by decide +kernel) rfl ?_
            refine hr_pi (b := 12) (e := 13) 192 rfl (by decide +kernel) ?_
            refine hw_ald (b := 0) (e := 0) (by decide +kernel) (get_st1 g0 (by decide) (fun q => absurd q.1 (by decide))) (by decide) ?_
            refine hw_dup (a0 := 0) (e := 0) (by decide +kernel) (by decide) ?_
            refine hr_gi (w := φ 192 4) (b := 12) (e := 4) 192 rfl (by decide +kernel) ((hf_up_ne (fun q => absurd q.2 (by decide))).trans (hf_up_ne (fun q => absurd q.2 (by decide)))) ?_
            refine hw_k (c := 1) (b := 0) (e := 1) (by decide +kernel) ?_
            refine hw_bin (w := (φ 192 4) + 1) (a0 := 0) (b := 0) (e := 0) (by decide +kernel) rfl ?_
            refine hr_pi (b := 12) (e := 4) 192 rfl (by decide +kernel) ?_
            refine hw_goto (a0 := 0) (b := 0) (e := 181) (by decide +kernel) ?_
            exact H
          · have H := hf24 q
            refine hw_ald (b := 0) (e := 0) (by decide +kernel) (get_st1 g0 (by decide) (fun q => absurd q.1 (by decide))) (by decide) ?_
            refine hw_k (c := 10) (b := 1) (e := 2) (by decide +kernel) ?_
            refine hw_ald (b := 0) (e := 0) (by decide +kernel) (get_st1 g0 (by decide) (fun q => absurd q.1 (by decide))) (by decide) ?_
            refine hr_gi (w := φ 192 14) (b := 12) (e := 14) 192 rfl (by decide +kernel) (hf_up_ne (fun q => absurd q.2 (by decide))) ?_
            refine hw_bin (w := 10 * (φ 192 14)) (a0 := 0) (b := 2) (e := 0) (by decide +kernel) rfl ?_
            refine hw_ald (b := 0) (e := 0) (by decide +kernel) (get_st1 g0 (by decide) (fun q => absurd q.1 (by decide))) (by decide) ?_
            refine hr_call (a0 := 22) (b := 176) (e := 1) (nl := 1) (As := []) (R := [(0, 10 * (φ 192 14)), (2, 192)]) 192 rfl (by decide +kernel) rfl rfl (Nat.le_of_ble_eq_true rfl) (Nat.le_of_ble_eq_true rfl) ?_
            refine hw_mono H ?_
            rintro r ψ25 y25 ⟨hyx, hψx, z25, hr, H⟩
            subst hyx
            subst hψx
            subst hr
            refine ⟨hne0, ?_⟩
            show hw sc (d + 1) 175 268 (jm_st1 L 3 (0, 1)) [(0, z25), (0, 10 * (φ 192 14)), (2, 192)] (hf_up φ 192 17 (hb_lor (hb_lshl (φ 192 17) 8) (hb_i2l z23))) y25 Q
            refine hw_bin (w := (10 * (φ 192 14)) + z25) (a0 := 0) (b := 0) (e := 0) (by decide +kernel) rfl ?_
            refine hw_k (c := 48) (b := 1) (e := 2) (by decide +kernel) ?_
            refine hw_bin (w := ((10 * (φ 192 14)) + z25) - 48) (a0 := 0) (b := 1) (e := 0) (by decide +kernel) rfl ?_
            refine hr_pi (b := 12) (e := 14) 192 rfl (by decide +kernel) ?_
            refine hw_ald (b := 0) (e := 0) (by decide +kernel) (get_st1 g0 (by decide) (fun q => absurd q.1 (by decide))) (by decide) ?_
            refine hw_dup (a0 := 0) (e := 0) (by decide +kernel) (by decide) ?_
            refine hr_gi (w := φ 192 13) (b := 12) (e := 13) 192 rfl (by decide +kernel) ((hf_up_ne (fun q => absurd q.2 (by decide))).trans (hf_up_ne (fun q => absurd q.2 (by decide)))) ?_
            refine hw_k (c := 1) (b := 0) (e := 1) (by decide +kernel) ?_
            refine hw_bin (w := (φ 192 13) + 1) (a0 := 0) (b := 0) (e := 0) (by decide +kernel) rfl ?_
            refine hr_pi (b := 12) (e := 13) 192 rfl (by decide +kernel) ?_
            refine hw_ald (b := 0) (e := 0) (by decide +kernel) (get_st1 g0 (by decide) (fun q => absurd q.1 (by decide))) (by decide) ?_
            refine hw_dup (a0 := 0) (e := 0) (by decide +kernel) (by decide) ?_
            refine hr_gi (w := φ 192 4) (b := 12) (e := 4) 192 rfl (by decide +kernel) ((hf_up_ne (fun q => absurd q.2 (by decide))).trans ((hf_up_ne (fun q => absurd q.2 (by decide))).trans (hf_up_ne (fun q => absurd q.2 (by decide))))) ?_
            refine hw_k (c := 1) (b := 0) (e := 1) (by decide +kernel) ?_
            refine hw_bin (w := (φ 192 4) + 1) (a0 := 0) (b := 0) (e := 0) (by decide +kernel) rfl ?_
            refine hr_pi (b := 12) (e := 4) 192 rfl (by decide +kernel) ?_
            refine hw_goto (a0 := 0) (b := 0) (e := 181) (by decide +kernel) ?_
            exact H
  · have H := hf3 q
    refine hw_ald (b := 0) (e := 0) (by decide +kernel) g0 (by decide) ?_
    refine hr_call (a0 := 22) (b := 176) (e := 1) (nl := 1) (As := []) (R := []) 192 rfl (by decide +kernel) rfl rfl (Nat.le_of_ble_eq_true rfl) (Nat.le_of_ble_eq_true rfl) ?_
    refine hw_mono H ?_
    rintro r ψ26 y26 ⟨hyx, hψx, z26, hr, H⟩
    subst hyx
    subst hψx
    subst hr
    refine ⟨hne0, ?_⟩
    show hw sc (d + 1) 175 195 L [(0, z26)] φ y26 Q
    refine hr_calls (b := 178) (e := 1) (nl := 1) (As := [(0, z26)]) (R := []) (by decide +kernel) rfl rfl (Nat.le_of_ble_eq_true rfl) (Nat.le_of_ble_eq_true rfl) ?_
    refine hw_mono H ?_
    rintro r ψ27 y27 ⟨hyx, hψx, z27, hr, H⟩
    subst hyx
    subst hψx
    subst hr
    refine ⟨hne0, ?_⟩
    show hw sc (d + 1) 175 198 L [(0, z27)] φ y27 Q
    obtain ⟨hz28, ht28, hf28⟩ := H
    refine hw_if (a0 := 0) (b := 0) (e := 298) (by decide +kernel) hz28 (fun q => ?_) (fun q => ?_)
    · have H := ht28 q
      refine hw_ald (b := 0) (e := 0) (by decide +kernel) g0 (by decide) ?_
      refine hw_ld (b := 3) (e := 0) (by decide +kernel) g3 ?_
      obtain ⟨hz29, ht29, hf29⟩ := H
      refine hw_if (a0 := 0) (b := 0) (e := 320) (by decide +kernel) hz29 (fun q => ?_) (fun q => ?_)
      · have H := ht29 q
        refine hw_k (c := 4) (b := 0) (e := 1) (by decide +kernel) ?_
        refine hw_goto (a0 := 0) (b := 0) (e := 333) (by decide +kernel) ?_
        refine hr_pi (b := 12) (e := 11) 192 rfl (by decide +kernel) ?_
        exact hw_vret (a0 := 0) (e := 0) (by decide +kernel) H
      · have H := hf29 q
        refine hw_ald (b := 0) (e := 0) (by decide +kernel) g0 (by decide) ?_
        refine hr_gi (w := φ 192 13) (b := 12) (e := 13) 192 rfl (by decide +kernel) rfl ?_
        refine hw_ld (b := 2) (e := 0) (by decide +kernel) g2 ?_
        obtain ⟨hz31, ht31, hf31⟩ := H
        refine hw_if (a0 := 0) (b := 0) (e := 316) (by decide +kernel) hz31 (fun q => ?_) (fun q => ?_)
        · have H := ht31 q
          refine hw_k (c := 3) (b := 0) (e := 1) (by decide +kernel) ?_
          obtain ⟨hz32, hy32, ht32, hf32⟩ := H
          refine hw_if2 (a0 := 0) (b := 5) (e := 324) (by decide +kernel) hz32 hy32 (fun q => ?_) (fun q => ?_)
          · have H := ht32 q
            refine hw_ld (b := 2) (e := 0) (by decide +kernel) g2 ?_
            obtain ⟨hz33, ht33, hf33⟩ := H
            refine hw_if (a0 := 0) (b := 0) (e := 332) (by decide +kernel) hz33 (fun q => ?_) (fun q => ?_)
            · have H := ht33 q
              refine hw_k (c := 2) (b := 0) (e := 1) (by decide +kernel) ?_
              refine hr_pi (b := 12) (e := 11) 192 rfl (by decide +kernel) ?_
              exact hw_vret (a0 := 0) (e := 0) (by decide +kernel) H
            · have H := hf33 q
              refine hw_k (c := 1) (b := 0) (e := 1) (by decide +kernel) ?_
              refine hw_goto (a0 := 0) (b := 0) (e := 333) (by decide +kernel) ?_
              refine hr_pi (b := 12) (e := 11) 192 rfl (by decide +kernel) ?_
              exact hw_vret (a0 := 0) (e := 0) (by decide +kernel) H
          · have H := hf32 q
            refine hw_k (c := 4) (b := 0) (e := 1) (by decide +kernel) ?_
            refine hw_goto (a0 := 0) (b := 0) (e := 333) (by decide +kernel) ?_
            refine hr_pi (b := 12) (e := 11) 192 rfl (by decide +kernel) ?_
            exact hw_vret (a0 := 0) (e := 0) (by decide +kernel) H
        · have H := hf31 q
          refine hw_k (c := 7) (b := 1) (e := 2) (by decide +kernel) ?_
          refine hw_goto (a0 := 0) (b := 0) (e := 317) (by decide +kernel) ?_
          obtain ⟨hz37, hy37, ht37, hf37⟩ := H
          refine hw_if2 (a0 := 0) (b := 5) (e := 324) (by decide +kernel) hz37 hy37 (fun q => ?_) (fun q => ?_)
          · have H := ht37 q
            refine hw_ld (b := 2) (e := 0) (by decide +kernel) g2 ?_
            obtain ⟨hz38, ht38, hf38⟩ := H
            refine hw_if (a0 := 0) (b := 0) (e := 332) (by decide +kernel) hz38 (fun q => ?_) (fun q => ?_)
            · have H := ht38 q
              refine hw_k (c := 2) (b := 0) (e := 1) (by decide +kernel) ?_
              refine hr_pi (b := 12) (e := 11) 192 rfl (by decide +kernel) ?_
              exact hw_vret (a0 := 0) (e := 0) (by decide +kernel) H
            · have H := hf38 q
              refine hw_k (c := 1) (b := 0) (e := 1) (by decide +kernel) ?_
              refine hw_goto (a0 := 0) (b := 0) (e := 333) (by decide +kernel) ?_
              refine hr_pi (b := 12) (e := 11) 192 rfl (by decide +kernel) ?_
              exact hw_vret (a0 := 0) (e := 0) (by decide +kernel) H
          · have H := hf37 q
            refine hw_k (c := 4) (b := 0) (e := 1) (by decide +kernel) ?_
            refine hw_goto (a0 := 0) (b := 0) (e := 333) (by decide +kernel) ?_
            refine hr_pi (b := 12) (e := 11) 192 rfl (by decide +kernel) ?_
            exact hw_vret (a0 := 0) (e := 0) (by decide +kernel) H
    · have H := hf28 q
      refine hw_ld (b := 3) (e := 0) (by decide +kernel) g3 ?_
      obtain ⟨hz42, ht42, hf42⟩ := H
      refine hw_if (a0 := 0) (b := 0) (e := 220) (by decide +kernel) hz42 (fun q => ?_) (fun q => ?_)
      · have H := ht42 q
        refine hw_k (c := 0) (b := 0) (e := 1) (by decide +kernel) ?_
        refine hw_st (L' := (jm_st1 L 3 (0, 0))) (b := 3) (e := 0) (by decide +kernel) rfl ?_
        refine hw_ald (b := 0) (e := 0) (by decide +kernel) (get_st1 g0 (by decide) (fun q => absurd q.1 (by decide))) (by decide) ?_
        refine hr_gi (w := φ 192 13) (b := 12) (e := 13) 192 rfl (by decide +kernel) rfl ?_
        refine hw_k (c := 7) (b := 1) (e := 2) (by decide +kernel) ?_
        obtain ⟨hz43, hy43, ht43, hf43⟩ := H
        refine hw_if2 (a0 := 0) (b := 3) (e := 248) (by decide +kernel) hz43 hy43 (fun q => ?_) (fun q => ?_)
        · have H := ht43 q
          refine hw_ald (b := 0) (e := 0) (by decide +kernel) (get_st1 g0 (by decide) (fun q => absurd q.1 (by decide))) (by decide) ?_
          refine hr_gi (w := φ 192 13) (b := 12) (e := 13) 192 rfl (by decide +kernel) rfl ?_
          refine hw_k (c := 3) (b := 0) (e := 1) (by decide +kernel) ?_
          obtain ⟨hz44, hy44, ht44, hf44⟩ := H
          refine hw_if2 (a0 := 0) (b := 3) (e := 275) (by decide +kernel) hz44 hy44 (fun q => ?_) (fun q => ?_)
          · have H := ht44 q
            refine hw_ald (b := 0) (e := 0) (by decide +kernel) (get_st1 g0 (by decide) (fun q => absurd q.1 (by decide))) (by decide) ?_
            refine hw_dup (a0 := 0) (e := 0) (by decide +kernel) (by decide) ?_
            refine hr_gi (w := φ 192 13) (b := 12) (e := 13) 192 rfl (by decide +kernel) rfl ?_
            refine hw_k (c := 1) (b := 0) (e := 1) (by decide +kernel) ?_
            refine hw_bin (w := (φ 192 13) + 1) (a0 := 0) (b := 0) (e := 0) (by decide +kernel) rfl ?_
            refine hr_pi (b := 12) (e := 13) 192 rfl (by decide +kernel) ?_
            refine hw_ald (b := 0) (e := 0) (by decide +kernel) (get_st1 g0 (by decide) (fun q => absurd q.1 (by decide))) (by decide) ?_
            refine hw_dup (a0 := 0) (e := 0) (by decide +kernel) (by decide) ?_
            refine hr_gi (w := φ 192 4) (b := 12) (e := 4) 192 rfl (by decide +kernel) (hf_up_ne (fun q => absurd q.2 (by decide))) ?_
            refine hw_k (c := 1) (b := 0) (e := 1) (by decide +kernel) ?_
            refine hw_bin (w := (φ 192 4) + 1) (a0 := 0) (b := 0) (e := 0) (by decide +kernel) rfl ?_
            refine hr_pi (b := 12) (e := 4) 192 rfl (by decide +kernel) ?_
            refine hw_goto (a0 := 0) (b := 0) (e := 181) (by decide +kernel) ?_
            exact H
          · have H := hf44 q
            refine hw_ald (b := 0) (e := 0) (by decide +kernel) (get_st1 g0 (by decide) (fun q => absurd q.1 (by decide))) (by decide) ?_
            refine hw_k (c := 10) (b := 1) (e := 2) (by decide +kernel) ?_
            refine hw_ald (b := 0) (e := 0) (by decide +kernel) (get_st1 g0 (by decide) (fun q => absurd q.1 (by decide))) (by decide) ?_
            refine hr_gi (w := φ 192 14) (b := 12) (e := 14) 192 rfl (by decide +kernel) rfl ?_
            refine hw_bin (w := 10 * (φ 192 14)) (a0 := 0) (b := 2) (e := 0) (by decide +kernel) rfl ?_
            refine hw_ald (b := 0) (e := 0) (by decide +kernel) (get_st1 g0 (by decide) (fun q => absurd q.1 (by decide))) (by decide) ?_
            refine hr_call (a0 := 22) (b := 176) (e := 1) (nl := 1) (As := []) (R := [(0, 10 * (φ 192 14)), (2, 192)]) 192 rfl (by decide +kernel) rfl rfl (Nat.le_of_ble_eq_true rfl) (Nat.le_of_ble_eq_true rfl) ?_
            refine hw_mono H ?_
            rintro r ψ45 y45 ⟨hyx, hψx, z45, hr, H⟩
            subst hyx
            subst hψx
            subst hr
            refine ⟨hne0, ?_⟩
            show hw sc (d + 1) 175 268 (jm_st1 L 3 (0, 0)) [(0, z45), (0, 10 * (φ 192 14)), (2, 192)] φ y45 Q
            refine hw_bin (w := (10 * (φ 192 14)) + z45) (a0 := 0) (b := 0) (e := 0) (by decide +kernel) rfl ?_
            refine hw_k (c := 48) (b := 1) (e := 2) (by decide +kernel) ?_
            refine hw_bin (w := ((10 * (φ 192 14)) + z45) - 48) (a0 := 0) (b := 1) (e := 0) (by decide +kernel) rfl ?_
            refine hr_pi (b := 12) (e := 14) 192 rfl (by decide +kernel) ?_
            refine hw_ald (b := 0) (e := 0) (by decide +kernel) (get_st1 g0 (by decide) (fun q => absurd q.1 (by decide))) (by decide) ?_
            refine hw_dup (a0 := 0) (e := 0) (by decide +kernel) (by decide) ?_
            refine hr_gi (w := φ 192 13) (b := 12) (e := 13) 192 rfl (by decide +kernel) (hf_up_ne (fun q => absurd q.2 (by decide))) ?_
            refine hw_k (c := 1) (b := 0) (e := 1) (by decide +kernel) ?_
            refine hw_bin (w := (φ 192 13) + 1) (a0 := 0) (b := 0) (e := 0) (by decide +kernel) rfl ?_
            refine hr_pi (b := 12) (e := 13) 192 rfl (by decide +kernel) ?_
            refine hw_ald (b := 0) (e := 0) (by decide +kernel) (get_st1 g0 (by decide) (fun q => absurd q.1 (by decide))) (by decide) ?_
            refine hw_dup (a0 := 0) (e := 0) (by decide +kernel) (by decide) ?_
            refine hr_gi (w := φ 192 4) (b := 12) (e := 4) 192 rfl (by decide +kernel) ((hf_up_ne (fun q => absurd q.2 (by decide))).trans (hf_up_ne (fun q => absurd q.2 (by decide)))) ?_
            refine hw_k (c := 1) (b := 0) (e := 1) (by decide +kernel) ?_
            refine hw_bin (w := (φ 192 4) + 1) (a0 := 0) (b := 0) (e := 0) (by decide +kernel) rfl ?_
            refine hr_pi (b := 12) (e := 4) 192 rfl (by decide +kernel) ?_
            refine hw_goto (a0 := 0) (b := 0) (e := 181) (by decide +kernel) ?_
            exact H
        · have H := hf43 q
          refine hw_ald (b := 0) (e := 0) (by decide +kernel) (get_st1 g0 (by decide) (fun q => absurd q.1 (by decide))) (by decide) ?_
          refine hw_ald (b := 0) (e := 0) (by decide +kernel) (get_st1 g0 (by decide) (fun q => absurd q.1 (by decide))) (by decide) ?_
          refine hr_gl (w := φ 192 17) (b := 12) (e := 17) 192 rfl (by decide +kernel) rfl ?_
          refine hw_k (c := 8) (b := 1) (e := 2) (by decide +kernel) ?_
          refine hw_lsh (w := hb_lshl (φ 192 17) 8) (a0 := 0) (b := 4) (e := 0) (by decide +kernel) rfl ?_
          refine hw_ald (b := 0) (e := 0) (by decide +kernel) (get_st1 g0 (by decide) (fun q => absurd q.1 (by decide))) (by decide) ?_
          refine hr_call (a0 := 22) (b := 176) (e := 1) (nl := 1) (As := []) (R := [(1, hb_lshl (φ 192 17) 8), (2, 192)]) 192 rfl (by decide +kernel) rfl rfl (Nat.le_of_ble_eq_true rfl) (Nat.le_of_ble_eq_true rfl) ?_
          refine hw_mono H ?_
          rintro r ψ46 y46 ⟨hyx, hψx, z46, hr, H⟩
          subst hyx
          subst hψx
          subst hr
          refine ⟨hne0, ?_⟩
          show hw sc (d + 1) 175 243 (jm_st1 L 3 (0, 0)) [(0, z46), (1, hb_lshl (φ 192 17) 8), (2, 192)] φ y46 Q
          refine hw_conv (t' := 1) (w := hb_i2l z46) (a0 := 0) (b := 0) (e := 0) (by decide +kernel) rfl ?_
          refine hw_lbin (w := hb_lor (hb_lshl (φ 192 17) 8) (hb_i2l z46)) (a0 := 0) (b := 3) (e := 0) (by decide +kernel) rfl ?_
          refine hr_pl (b := 12) (e := 17) 192 rfl (by decide +kernel) ?_
          refine hw_ald (b := 0) (e := 0) (by decide +kernel) (get_st1 g0 (by decide) (fun q => absurd q.1 (by decide))) (by decide) ?_
          refine hr_gi (w := φ 192 13) (b := 12) (e := 13) 192 rfl (by decide +kernel) (hf_up_ne (fun q => absurd q.2 (by decide))) ?_
          refine hw_k (c := 3) (b := 0) (e := 1) (by decide +kernel) ?_
          obtain ⟨hz47, hy47, ht47, hf47⟩ := H
          refine hw_if2 (a0 := 0) (b := 3) (e := 275) (by decide +kernel) hz47 hy47 (fun q => ?_) (fun q => ?_)
          · have H := ht47 q
            refine hw_ald (b := 0) (e := 0) (by decide +kernel) (get_st1 g0 (by decide) (fun q => absurd q.1 (by decide))) (by decide) ?_
            refine hw_dup (a0 := 0) (e := 0) (by decide +kernel) (by decide) ?_
            refine hr_gi (w := φ 192 13) (b := 12) (e := 13) 192 rfl (by decide +kernel) (hf_up_ne (fun q => absurd q.2 (by decide))) ?_
            refine hw_k (c := 1) (b := 0) (e := 1) (by decide +kernel) ?_
            refine hw_bin (w := (φ 192 13) + 1) (a0 := 0) (b := 0) (e := 0) (by decide +kernel) rfl ?_
            refine hr_pi (b := 12) (e := 13) 192 rfl (by decide +kernel) ?_
            refine hw_ald (b := 0) (e := 0) (by decide +kernel) (get_st1 g0 (by decide) (fun q => absurd q.1 (by decide))) (by decide) ?_
            refine hw_dup (a0 := 0) (e := 0) (by decide +kernel) (by decide) ?_
            refine hr_gi (w := φ 192 4) (b := 12) (e := 4) 192 rfl (by decide +kernel) ((hf_up_ne (fun q => absurd q.2 (by decide))).trans (hf_up_ne (fun q => absurd q.2 (by decide)))) ?_
            refine hw_k (c := 1) (b := 0) (e := 1) (by decide +kernel) ?_
            refine hw_bin (w := (φ 192 4) + 1) (a0 := 0) (b := 0) (e := 0) (by decide +kernel) rfl ?_
            refine hr_pi (b := 12) (e := 4) 192 rfl (by decide +kernel) ?_
            refine hw_goto (a0 := 0) (b := 0) (e := 181) (by decide +kernel) ?_
            exact H
          · have H := hf47 q
            refine hw_ald (b := 0) (e := 0) (by decide +kernel) (get_st1 g0 (by decide) (fun q => absurd q.1 (by decide))) (by decide) ?_
            refine hw_k (c := 10) (b := 1) (e := 2) (by decide +kernel) ?_
            refine hw_ald (b := 0) (e := 0) (by decide +kernel) (get_st1 g0 (by decide) (fun q => absurd q.1 (by decide))) (by decide) ?_
            refine hr_gi (w := φ 192 14) (b := 12) (e := 14) 192 rfl (by decide +kernel) (hf_up_ne (fun q => absurd q.2 (by decide))) ?_
            refine hw_bin (w := 10 * (φ 192 14)) (a0 := 0) (b := 2) (e := 0) (by decide +kernel) rfl ?_
            refine hw_ald (b := 0) (e := 0) (by decide +kernel) (get_st1 g0 (by decide) (fun q => absurd q.1 (by decide))) (by decide) ?_
            refine hr_call (a0 := 22) (b := 176) (e := 1) (nl := 1) (As := []) (R := [(0, 10 * (φ 192 14)), (2, 192)]) 192 rfl (by decide +kernel) rfl rfl (Nat.le_of_ble_eq_true rfl) (Nat.le_of_ble_eq_true rfl) ?_
            refine hw_mono H ?_
            rintro r ψ48 y48 ⟨hyx, hψx, z48, hr, H⟩
            subst hyx
            subst hψx
            subst hr
            refine ⟨hne0, ?_⟩
            show hw sc (d + 1) 175 268 (jm_st1 L 3 (0, 0)) [(0, z48), (0, 10 * (φ 192 14)), (2, 192)] (hf_up φ 192 17 (hb_lor (hb_lshl (φ 192 17) 8) (hb_i2l z46))) y48 Q
            refine hw_bin (w := (10 * (φ 192 14)) + z48) (a0 := 0) (b := 0) (e := 0) (by decide +kernel) rfl ?_
            refine hw_k (c := 48) (b := 1) (e := 2) (by decide +kernel) ?_
            refine hw_bin (w := ((10 * (φ 192 14)) + z48) - 48) (a0 := 0) (b := 1) (e := 0) (by decide +kernel) rfl ?_
            refine hr_pi (b := 12) (e := 14) 192 rfl (by decide +kernel) ?_
            refine hw_ald (b := 0) (e := 0) (by decide +kernel) (get_st1 g0 (by decide) (fun q => absurd q.1 (by decide))) (by decide) ?_
            refine hw_dup (a0 := 0) (e := 0) (by decide +kernel) (by decide) ?_
            refine hr_gi (w := φ 192 13) (b := 12) (e := 13) 192 rfl (by decide +kernel) ((hf_up_ne (fun q => absurd q.2 (by decide))).trans (hf_up_ne (fun q => absurd q.2 (by decide)))) ?_
            refine hw_k (c := 1) (b := 0) (e := 1) (by decide +kernel) ?_
            refine hw_bin (w := (φ 192 13) + 1) (a0 := 0) (b := 0) (e := 0) (by decide +kernel) rfl ?_
            refine hr_pi (b := 12) (e := 13) 192 rfl (by decide +kernel) ?_
            refine hw_ald (b := 0) (e := 0) (by decide +kernel) (get_st1 g0 (by decide) (fun q => absurd q.1 (by decide))) (by decide) ?_
            refine hw_dup (a0 := 0) (e := 0) (by decide +kernel) (by decide) ?_
            refine hr_gi (w := φ 192 4) (b := 12) (e := 4) 192 rfl (by decide +kernel) ((hf_up_ne (fun q => absurd q.2 (by decide))).trans ((hf_up_ne (fun q => absurd q.2 (by decide))).trans (hf_up_ne (fun q => absurd q.2 (by decide))))) ?_
            refine hw_k (c := 1) (b := 0) (e := 1) (by decide +kernel) ?_
            refine hw_bin (w := (φ 192 4) + 1) (a0 := 0) (b := 0) (e := 0) (by decide +kernel) rfl ?_
            refine hr_pi (b := 12) (e := 4) 192 rfl (by decide +kernel) ?_
            refine hw_goto (a0 := 0) (b := 0) (e := 181) (by decide +kernel) ?_
            exact H
      · have H := hf42 q
        refine hw_ald (b := 0) (e := 0) (by decide +kernel) g0 (by decide) ?_
        refine hr_call (a0 := 22) (b := 176) (e := 1) (nl := 1) (As := []) (R := []) 192 rfl (by decide +kernel) rfl rfl (Nat.le_of_ble_eq_true rfl) (Nat.le_of_ble_eq_true rfl) ?_
        refine hw_mono H ?_
        rintro r ψ49 y49 ⟨hyx, hψx, z49, hr, H⟩
        subst hyx
        subst hψx
        subst hr
        refine ⟨hne0, ?_⟩
        show hw sc (d + 1) 175 209 L [(0, z49)] φ y49 Q
        refine hr_calls (b := 177) (e := 1) (nl := 1) (As := [(0, z49)]) (R := []) (by decide +kernel) rfl rfl (Nat.le_of_ble_eq_true rfl) (Nat.le_of_ble_eq_true rfl) ?_
        refine hw_mono H ?_
        rintro r ψ50 y50 ⟨hyx, hψx, z50, hr, H⟩
        subst hyx
        subst hψx
        subst hr
        refine ⟨hne0, ?_⟩
        show hw sc (d + 1) 175 212 L [(0, z50)] φ y50 Q
        refine hw_ld (b := 2) (e := 0) (by decide +kernel) g2 ?_
        obtain ⟨hz51, hy51, ht51, hf51⟩ := H
        refine hw_if2 (a0 := 0) (b := 1) (e := 220) (by decide +kernel) hz51 hy51 (fun q => ?_) (fun q => ?_)
        · have H := ht51 q
          refine hw_k (c := 0) (b := 0) (e := 1) (by decide +kernel) ?_
          refine hw_st (L' := (jm_st1 L 3 (0, 0))) (b := 3) (e := 0) (by decide +kernel) rfl ?_
          refine hw_ald (b := 0) (e := 0) (by decide +kernel) (get_st1 g0 (by decide) (fun q => absurd q.1 (by decide))) (by decide) ?_
          refine hr_gi (w := φ 192 13) (b := 12) (e := 13) 192 rfl (by decide +kernel) rfl ?_
          refine hw_k (c := 7) (b := 1) (e := 2) (by decide +kernel) ?_
          obtain ⟨hz52, hy52, ht52, hf52⟩ := H
          refine hw_if2 (a0 := 0) (b := 3) (e := 248) (by decide +kernel) hz52 hy52 (fun q => ?_) (fun q => ?_)
          · have H := ht52 q
            refine hw_ald (b := 0) (e := 0) (by decide +kernel) (get_st1 g0 (by decide) (fun q => absurd q.1 (by decide))) (by decide) ?_
            refine hr_gi (w := φ 192 13) (b := 12) (e := 13) 192 rfl (by decide +kernel) rfl ?_
            refine hw_k (c := 3) (b := 0) (e := 1) (by decide +kernel) ?_
            obtain ⟨hz53, hy53, ht53, hf53⟩ := H
            refine hw_if2 (a0 := 0) (b := 3) (e := 275) (by decide +kernel) hz53 hy53 (fun q => ?_) (fun q => ?_)
            · have H := ht53 q
              refine hw_ald (b := 0) (e := 0) (by decide +kernel) (get_st1 g0 (by decide) (fun q => absurd q.1 (by decide))) (by decide) ?_
              refine hw_dup (a0 := 0) (e := 0) (by decide +kernel) (by decide) ?_
              refine hr_gi (w := φ 192 13) (b := 12) (e := 13) 192 rfl (by decide +kernel) rfl ?_
              refine hw_k (c := 1) (b := 0) (e := 1) (by decide +kernel) ?_
              refine hw_bin (w := (φ 192 13) + 1) (a0 := 0) (b := 0) (e := 0) (by decide +kernel) rfl ?_
              refine hr_pi (b := 12) (e := 13) 192 rfl (by decide +kernel) ?_
              refine hw_ald (b := 0) (e := 0) (by decide +kernel) (get_st1 g0 (by decide) (fun q => absurd q.1 (by decide))) (by decide) ?_
              refine hw_dup (a0 := 0) (e := 0) (by decide +kernel) (by decide) ?_
              refine hr_gi (w := φ 192 4) (b := 12) (e := 4) 192 rfl (by decide +kernel) (hf_up_ne (fun q => absurd q.2 (by decide))) ?_
              refine hw_k (c := 1) (b := 0) (e := 1) (by decide +kernel) ?_
              refine hw_bin (w := (φ 192 4) + 1) (a0 := 0) (b := 0) (e := 0) (by decide +kernel) rfl ?_
              refine hr_pi (b := 12) (e := 4) 192 rfl (by decide +kernel) ?_
              refine hw_goto (a0 := 0) (b := 0) (e := 181) (by decide +kernel) ?_
              exact H
            · have H := hf53 q
              refine hw_ald (b := 0) (e := 0) (by decide +kernel) (get_st1 g0 (by decide) (fun q => absurd q.1 (by decide))) (by decide) ?_
              refine hw_k (c := 10) (b := 1) (e := 2) (by decide +kernel) ?_
              refine hw_ald (b := 0) (e := 0) (by decide +kernel) (get_st1 g0 (by decide) (fun q => absurd q.1 (by decide))) (by decide) ?_
              refine hr_gi (w := φ 192 14) (b := 12) (e := 14) 192 rfl (by decide +kernel) rfl ?_
              refine hw_bin (w := 10 * (φ 192 14)) (a0 := 0) (b := 2) (e := 0) (by decide +kernel) rfl ?_
              refine hw_ald (b := 0) (e := 0) (by decide +kernel) (get_st1 g0 (by decide) (fun q => absurd q.1 (by decide))) (by decide) ?_
              refine hr_call (a0 := 22) (b := 176) (e := 1) (nl := 1) (As := []) (R := [(0, 10 * (φ 192 14)), (2, 192)]) 192 rfl (by decide +kernel) rfl rfl (Nat.le_of_ble_eq_true rfl) (Nat.le_of_ble_eq_true rfl) ?_
              refine hw_mono H ?_
              rintro r ψ54 y54 ⟨hyx, hψx, z54, hr, H⟩
              subst hyx
              subst hψx
              subst hr
              refine ⟨hne0, ?_⟩
              show hw sc (d + 1) 175 268 (jm_st1 L 3 (0, 0)) [(0, z54), (0, 10 * (φ 192 14)), (2, 192)] φ y54 Q
              refine hw_bin (w := (10 * (φ 192 14)) + z54) (a0 := 0) (b := 0) (e := 0) (by decide +kernel) rfl ?_
              refine hw_k (c := 48) (b := 1) (e := 2) (by decide +kernel) ?_
              refine hw_bin (w := ((10 * (φ 192 14)) + z54) - 48) (a0 := 0) (b := 1) (e := 0) (by decide +kernel) rfl ?_
              refine hr_pi (b := 12) (e := 14) 192 rfl (by decide +kernel) ?_
              refine hw_ald (b := 0) (e := 0) (by decide +kernel) (get_st1 g0 (by decide) (fun q => absurd q.1 (by decide))) (by decide) ?_
              refine hw_dup (a0 := 0) (e := 0) (by decide +kernel) (by decide) ?_
              refine hr_gi (w := φ 192 13) (b := 12) (e := 13) 192 rfl (by decide +kernel) (hf_up_ne (fun q => absurd q.2 (by decide))) ?_
              refine hw_k (c := 1) (b := 0) (e := 1) (by decide +kernel) ?_
              refine hw_bin (w := (φ 192 13) + 1) (a0 := 0) (b := 0) (e := 0) (by decide +kernel) rfl ?_
              refine hr_pi (b := 12) (e := 13) 192 rfl (by decide +kernel) ?_
              refine hw_ald (b := 0) (e := 0) (by decide +kernel) (get_st1 g0 (by decide) (fun q => absurd q.1 (by decide))) (by decide) ?_
              refine hw_dup (a0 := 0) (e := 0) (by decide +kernel) (by decide) ?_
              refine hr_gi (w := φ 192 4) (b := 12) (e := 4) 192 rfl (by decide +kernel) ((hf_up_ne (fun q => absurd q.2 (by decide))).trans (hf_up_ne (fun q => absurd q.2 (by decide)))) ?_
              refine hw_k (c := 1) (b := 0) (e := 1) (by decide +kernel) ?_
              refine hw_bin (w := (φ 192 4) + 1) (a0 := 0) (b := 0) (e := 0) (by decide +kernel) rfl ?_
              refine hr_pi (b := 12) (e := 4) 192 rfl (by decide +kernel) ?_
              refine hw_goto (a0 := 0) (b := 0) (e := 181) (by decide +kernel) ?_
              exact H
          · have H := hf52 q
            refine hw_ald (b := 0) (e := 0) (by decide +kernel) (get_st1 g0 (by decide) (fun q => absurd q.1 (by decide))) (by decide) ?_
            refine hw_ald (b := 0) (e := 0) (by decide +kernel) (get_st1 g0 (by decide) (fun q => absurd q.1 (by decide))) (by decide) ?_
            refine hr_gl (w := φ 192 17) (b := 12) (e := 17) 192 rfl (by decide +kernel) rfl ?_
            refine hw_k (c := 8) (b := 1) (e := 2) (by decide +kernel) ?_
            refine hw_lsh (w := hb_lshl (φ 192 17) 8) (a0 := 0) (b := 4) (e := 0) (by decide +kernel) rfl ?_
            refine hw_ald (b := 0) (e := 0) (by decide +kernel) (get_st1 g0 (by decide) (fun q => absurd q.1 (by decide))) (by decide) ?_
            refine hr_call (a0 := 22) (b := 176) (e := 1) (nl := 1) (As := []) (R := [(1, hb_lshl (φ 192 17) 8), (2, 192)]) 192 rfl (by decide +kernel) rfl rfl (Nat.le_of_ble_eq_true rfl) (Nat.le_of_ble_eq_true rfl) ?_
            refine hw_mono H ?_
            rintro r ψ55 y55 ⟨hyx, hψx, z55, hr, H⟩
            subst hyx
            subst hψx
            subst hr
            refine ⟨hne0, ?_⟩
            show hw sc (d + 1) 175 243 (jm_st1 L 3 (0, 0)) [(0, z55), (1, hb_lshl (φ 192 17) 8), (2, 192)] φ y55 Q
            refine hw_conv (t' := 1) (w := hb_i2l z55) (a0 := 0) (b := 0) (e := 0) (by decide +kernel) rfl ?_
            refine hw_lbin (w := hb_lor (hb_lshl (φ 192 17) 8) (hb_i2l z55)) (a0 := 0) (b := 3) (e := 0) (by decide +kernel) rfl ?_
            refine hr_pl (b := 12) (e := 17) 192 rfl (by decide +kernel) ?_
            refine hw_ald (b := 0) (e := 0) (by decide +kernel) (get_st1 g0 (by decide) (fun q => absurd q.1 (by decide))) (by decide) ?_
            refine hr_gi (w := φ 192 13) (b := 12) (e := 13) 192 rfl (by decide +kernel) (hf_up_ne (fun q => absurd q.2 (by decide))) ?_
            refine hw_k (c := 3) (b := 0) (e := 1) (by decide +kernel) ?_
            obtain ⟨hz56, hy56, ht56, hf56⟩ := H
            refine hw_if2 (a0 := 0) (b := 3) (e := 275) (by decide +kernel) hz56 hy56 (fun q => ?_) (fun q => ?_)
            · have H := ht56 q
              refine hw_ald (b := 0) (e := 0) (by decide +kernel) (get_st1 g0 (by decide) (fun q => absurd q.1 (by decide))) (by decide) ?_
              refine hw_dup (a0 := 0) (e := 0) (by decide +kernel) (by decide) ?_
              refine hr_gi (w := φ 192 13) (b := 12) (e := 13) 192 rfl (by decide +kernel) (hf_up_ne (fun q => absurd q.2 (by decide))) ?_
              refine hw_k (c := 1) (b := 0) (e := 1) (by decide +kernel) ?_
              refine hw_bin (w := (φ 192 13) + 1) (a0 := 0) (b := 0) (e := 0) (by decide +kernel) rfl ?_
              refine hr_pi (b := 12) (e := 13) 192 rfl (by decide +kernel) ?_
              refine hw_ald (b := 0) (e := 0) (by decide +kernel) (get_st1 g0 (by decide) (fun q => absurd q.1 (by decide))) (by decide) ?_
              refine hw_dup (a0 := 0) (e := 0) (by decide +kernel) (by decide) ?_
              refine hr_gi (w := φ 192 4) (b := 12) (e := 4) 192 rfl (by decide +kernel) ((hf_up_ne (fun q => absurd q.2 (by decide))).trans (hf_up_ne (fun q => absurd q.2 (by decide)))) ?_
              refine hw_k (c := 1) (b := 0) (e := 1) (by decide +kernel) ?_
              refine hw_bin (w := (φ 192 4) + 1) (a0 := 0) (b := 0) (e := 0) (by decide +kernel) rfl ?_
              refine hr_pi (b := 12) (e := 4) 192 rfl (by decide +kernel) ?_
              refine hw_goto (a0 := 0) (b := 0) (e := 181) (by decide +kernel) ?_
              exact H
            · have H := hf56 q
              refine hw_ald (b := 0) (e := 0) (by decide +kernel) (get_st1 g0 (by decide) (fun q => absurd q.1 (by decide))) (by decide) ?_
              refine hw_k (c := 10) (b := 1) (e := 2) (by decide +kernel) ?_
              refine hw_ald (b := 0) (e := 0) (by decide +kernel) (get_st1 g0 (by decide) (fun q => absurd q.1 (by decide))) (by decide) ?_
              refine hr_gi (w := φ 192 14) (b := 12) (e := 14) 192 rfl (by decide +kernel) (hf_up_ne (fun q => absurd q.2 (by decide))) ?_
              refine hw_bin (w := 10 * (φ 192 14)) (a0 := 0) (b := 2) (e := 0) (by decide +kernel) rfl ?_
              refine hw_ald (b := 0) (e := 0) (by decide +kernel) (get_st1 g0 (by decide) (fun q => absurd q.1 (by decide))) (by decide) ?_
              refine hr_call (a0 := 22) (b := 176) (e := 1) (nl := 1) (As := []) (R := [(0, 10 * (φ 192 14)), (2, 192)]) 192 rfl (by decide +kernel) rfl rfl (Nat.le_of_ble_eq_true rfl) (Nat.le_of_ble_eq_true rfl) ?_
              refine hw_mono H ?_
              rintro r ψ57 y57 ⟨hyx, hψx, z57, hr, H⟩
              subst hyx
              subst hψx
              subst hr
              refine ⟨hne0, ?_⟩
              show hw sc (d + 1) 175 268 (jm_st1 L 3 (0, 0)) [(0, z57), (0, 10 * (φ 192 14)), (2, 192)] (hf_up φ 192 17 (hb_lor (hb_lshl (φ 192 17) 8) (hb_i2l z55))) y57 Q
              refine hw_bin (w := (10 * (φ 192 14)) + z57) (a0 := 0) (b := 0) (e := 0) (by decide +kernel) rfl ?_
              refine hw_k (c := 48) (b := 1) (e := 2) (by decide +kernel) ?_
              refine hw_bin (w := ((10 * (φ 192 14)) + z57) - 48) (a0 := 0) (b := 1) (e := 0) (by decide +kernel) rfl ?_
              refine hr_pi (b := 12) (e := 14) 192 rfl (by decide +kernel) ?_
              refine hw_ald (b := 0) (e := 0) (by decide +kernel) (get_st1 g0 (by decide) (fun q => absurd q.1 (by decide))) (by decide) ?_
              refine hw_dup (a0 := 0) (e := 0) (by decide +kernel) (by decide) ?_
              refine hr_gi (w := φ 192 13) (b := 12) (e := 13) 192 rfl (by decide +kernel) ((hf_up_ne (fun q => absurd q.2 (by decide))).trans (hf_up_ne (fun q => absurd q.2 (by decide)))) ?_
              refine hw_k (c := 1) (b := 0) (e := 1) (by decide +kernel) ?_
              refine hw_bin (w := (φ 192 13) + 1) (a0 := 0) (b := 0) (e := 0) (by decide +kernel) rfl ?_
              refine hr_pi (b := 12) (e := 13) 192 rfl (by decide +kernel) ?_
              refine hw_ald (b := 0) (e := 0) (by decide +kernel) (get_st1 g0 (by decide) (fun q => absurd q.1 (by decide))) (by decide) ?_
              refine hw_dup (a0 := 0) (e := 0) (by decide +kernel) (by decide) ?_
              refine hr_gi (w := φ 192 4) (b := 12) (e := 4) 192 rfl (by decide +kernel) ((hf_up_ne (fun q => absurd q.2 (by decide))).trans ((hf_up_ne (fun q => absurd q.2 (by decide))).trans (hf_up_ne (fun q => absurd q.2 (by decide))))) ?_
              refine hw_k (c := 1) (b := 0) (e := 1) (by decide +kernel) ?_
              refine hw_bin (w := (φ 192 4) + 1) (a0 := 0) (b := 0) (e := 0) (by decide +kernel) rfl ?_
              refine hr_pi (b := 12) (e := 4) 192 rfl (by decide +kernel) ?_
              refine hw_goto (a0 := 0) (b := 0) (e := 181) (by decide +kernel) ?_
              exact H
        · have H := hf51 q
          refine hw_k (c := 1) (b := 0) (e := 1) (by decide +kernel) ?_
          refine hw_goto (a0 := 0) (b := 0) (e := 221) (by decide +kernel) ?_
          refine hw_st (L' := (jm_st1 L 3 (0, 1))) (b := 3) (e := 0) (by decide +kernel) rfl ?_
          refine hw_ald (b := 0) (e := 0) (by decide +kernel) (get_st1 g0 (by decide) (fun q => absurd q.1 (by decide))) (by decide) ?_
          refine hr_gi (w := φ 192 13) (b := 12) (e := 13) 192 rfl (by decide +kernel) rfl ?_
          refine hw_k (c := 7) (b := 1) (e := 2) (by decide +kernel) ?_
          obtain ⟨hz58, hy58, ht58, hf58⟩ := H
          refine hw_if2 (a0 := 0) (b := 3) (e := 248) (by decide +kernel) hz58 hy58 (fun q => ?_) (fun q => ?_)
          · have H := ht58 q
            refine hw_ald (b := 0) (e := 0) (by decide +kernel) (get_st1 g0 (by decide) (fun q => absurd q.1 (by decide))) (by decide) ?_
            refine hr_gi (w := φ 192 13) (b := 12) (e := 13) 192 rfl (by decide +kernel) rfl ?_
            refine hw_k (c := 3) (b := 0) (e := 1) (by decide +kernel) ?_
            obtain ⟨hz59, hy59, ht59, hf59⟩ := H
            refine hw_if2 (a0 := 0) (b := 3) (e := 275) (by decide +kernel) hz59 hy59 (fun q => ?_) (fun q => ?_)
            · have H := ht59 q
              refine hw_ald (b := 0) (e := 0) (by decide +kernel) (get_st1 g0 (by decide) (fun q => absurd q.1 (by decide))) (by decide) ?_
              refine hw_dup (a0 := 0) (e := 0) (by decide +kernel) (by decide) ?_
              refine hr_gi (w := φ 192 13) (b := 12) (e := 13) 192 rfl (by decide +kernel) rfl ?_
              refine hw_k (c := 1) (b := 0) (e := 1) (by decide +kernel) ?_
              refine hw_bin (w := (φ 192 13) + 1) (a0 := 0) (b := 0) (e := 0) (by decide +kernel) rfl ?_
              refine hr_pi (b := 12) (e := 13) 192 rfl (by decide +kernel) ?_
              refine hw_ald (b := 0) (e := 0) (by decide +kernel) (get_st1 g0 (by decide) (fun q => absurd q.1 (by decide))) (by decide) ?_
              refine hw_dup (a0 := 0) (e := 0) (by decide +kernel) (by decide) ?_
              refine hr_gi (w := φ 192 4) (b := 12) (e := 4) 192 rfl (by decide +kernel) (hf_up_ne (fun q => absurd q.2 (by decide))) ?_
              refine hw_k (c := 1) (b := 0) (e := 1) (by decide +kernel) ?_
              refine hw_bin (w := (φ 192 4) + 1) (a0 := 0) (b := 0) (e := 0) (by decide +kernel) rfl ?_
              refine hr_pi (b := 12) (e := 4) 192 rfl (by decide +kernel) ?_
              refine hw_goto (a0 := 0) (b := 0) (e := 181) (by decide +kernel) ?_
              exact H
            · have H := hf59 q
              refine hw_ald (b := 0) (e := 0) (by decide +kernel) (get_st1 g0 (by decide) (fun q => absurd q.1 (by decide))) (by decide) ?_
              refine hw_k (c := 10) (b := 1) (e := 2) (by decide +kernel) ?_
              refine hw_ald (b := 0) (e := 0) (by decide +kernel) (get_st1 g0 (by decide) (fun q => absurd q.1 (by decide))) (by decide) ?_
              refine hr_gi (w := φ 192 14) (b := 12) (e := 14) 192 rfl (by decide +kernel) rfl ?_
              refine hw_bin (w := 10 * (φ 192 14)) (a0 := 0) (b := 2) (e := 0) (by decide +kernel) rfl ?_
              refine hw_ald (b := 0) (e := 0) (by decide +kernel) (get_st1 g0 (by decide) (fun q => absurd q.1 (by decide))) (by decide) ?_
              refine hr_call (a0 := 22) (b := 176) (e := 1) (nl := 1) (As := []) (R := [(0, 10 * (φ 192 14)), (2, 192)]) 192 rfl (by decide +kernel) rfl rfl (Nat.le_of_ble_eq_true rfl) (Nat.le_of_ble_eq_true rfl) ?_
              refine hw_mono H ?_
              rintro r ψ60 y60 ⟨hyx, hψx, z60, hr, H⟩
              subst hyx
              subst hψx
              subst hr
              refine ⟨hne0, ?_⟩
              show hw sc (d + 1) 175 268 (jm_st1 L 3 (0, 1)) [(0, z60), (0, 10 * (φ 192 14)), (2, 192)] φ y60 Q
              refine hw_bin (w := (10 * (φ 192 14)) + z60) (a0 := 0) (b := 0) (e := 0) (by decide +kernel) rfl ?_
              refine hw_k (c := 48) (b := 1) (e := 2) (by decide +kernel) ?_
              refine hw_bin (w := ((10 * (φ 192 14)) + z60) - 48) (a0 := 0) (b := 1) (e := 0) (by decide +kernel) rfl ?_
              refine hr_pi (b := 12) (e := 14) 192 rfl (by decide +kernel) ?_
              refine hw_ald (b := 0) (e := 0) (by decide +kernel) (get_st1 g0 (by decide) (fun q => absurd q.1 (by decide))) (by decide) ?_
              refine hw_dup (a0 := 0) (e := 0) (by decide +kernel) (by decide) ?_
              refine hr_gi (w := φ 192 13) (b := 12) (e := 13) 192 rfl (by decide +kernel) (hf_up_ne (fun q => absurd q.2 (by decide))) ?_
              refine hw_k (c := 1) (b := 0) (e := 1) (by decide +kernel) ?_
              refine hw_bin (w := (φ 192 13) + 1) (a0 := 0) (b := 0) (e := 0) (by decide +kernel) rfl ?_
              refine hr_pi (b := 12) (e := 13) 192 rfl (by decide +kernel) ?_
              refine hw_ald (b := 0) (e := 0) (by decide +kernel) (get_st1 g0 (by decide) (fun q => absurd q.1 (by decide))) (by decide) ?_
              refine hw_dup (a0 := 0) (e := 0) (by decide +kernel) (by decide) ?_
              refine hr_gi (w := φ 192 4) (b := 12) (e := 4) 192 rfl (by decide +kernel) ((hf_up_ne (fun q => absurd q.2 (by decide))).trans (hf_up_ne (fun q => absurd q.2 (by decide)))) ?_
              refine hw_k (c := 1) (b := 0) (e := 1) (by decide +kernel) ?_
              refine hw_bin (w := (φ 192 4) + 1) (a0 := 0) (b := 0) (e := 0) (by decide +kernel) rfl ?_
              refine hr_pi (b := 12) (e := 4) 192 rfl (by decide +kernel) ?_
              refine hw_goto (a0 := 0) (b := 0) (e := 181) (by decide +kernel) ?_
              exact H
          · have H := hf58 q
            refine hw_ald (b := 0) (e := 0) (by decide +kernel) (get_st1 g0 (by decide) (fun q => absurd q.1 (by decide))) (by decide) ?_
            refine hw_ald (b := 0) (e := 0) (by decide +kernel) (get_st1 g0 (by decide) (fun q => absurd q.1 (by decide))) (by decide) ?_
            refine hr_gl (w := φ 192 17) (b := 12) (e := 17) 192 rfl (by decide +kernel) rfl ?_
            refine hw_k (c := 8) (b := 1) (e := 2) (by decide +kernel) ?_
            refine hw_lsh (w := hb_lshl (φ 192 17) 8) (a0 := 0) (b := 4) (e := 0) (by decide +kernel) rfl ?_
            refine hw_ald (b := 0) (e := 0) (by decide +kernel) (get_st1 g0 (by decide) (fun q => absurd q.1 (by decide))) (by decide) ?_
            refine hr_call (a0 := 22) (b := 176) (e := 1) (nl := 1) (As := []) (R := [(1, hb_lshl (φ 192 17) 8), (2, 192)]) 192 rfl (by decide +kernel) rfl rfl (Nat.le_of_ble_eq_true rfl) (Nat.le_of_ble_eq_true rfl) ?_
            refine hw_mono H ?_
            rintro r ψ61 y61 ⟨hyx, hψx, z61, hr, H⟩
            subst hyx
            subst hψx
            subst hr
            refine ⟨hne0, ?_⟩
            show hw sc (d + 1) 175 243 (jm_st1 L 3 (0, 1)) [(0, z61), (1, hb_lshl (φ 192 17) 8), (2, 192)] φ y61 Q
            refine hw_conv (t' := 1) (w := hb_i2l z61) (a0 := 0) (b := 0) (e := 0) (by decide +kernel) rfl ?_
            refine hw_lbin (w := hb_lor (hb_lshl (φ 192 17) 8) (hb_i2l z61)) (a0 := 0) (b := 3) (e := 0) (by decide +kernel) rfl ?_
            refine hr_pl (b := 12) (e := 17) 192 rfl (by decide +kernel) ?_
            refine hw_ald (b := 0) (e := 0) (by decide +kernel) (get_st1 g0 (by decide) (fun q => absurd q.1 (by decide))) (by decide) ?_
            refine hr_gi (w := φ 192 13) (b := 12) (e := 13) 192 rfl (by decide +kernel) (hf_up_ne (fun q => absurd q.2 (by decide))) ?_
            refine hw_k (c := 3) (b := 0) (e := 1) (by decide +kernel) ?_
            obtain ⟨hz62, hy62, ht62, hf62⟩ := H
            refine hw_if2 (a0 := 0) (b := 3) (e := 275) (by decide +kernel) hz62 hy62 (fun q => ?_) (fun q => ?_)
            · have H := ht62 q
              refine hw_ald (b := 0) (e := 0) (by decide +kernel) (get_st1 g0 (by decide) (fun q => absurd q.1 (by decide))) (by decide) ?_
              refine hw_dup (a0 := 0) (e := 0) (by decide +kernel) (by decide) ?_
              refine hr_gi (w := φ 192 13) (b := 12) (e := 13) 192 rfl (by decide +kernel) (hf_up_ne (fun q => absurd q.2 (by decide))) ?_
              refine hw_k (c := 1) (b := 0) (e := 1) (by decide +kernel) ?_
              refine hw_bin (w := (φ 192 13) + 1) (a0 := 0) (b := 0) (e := 0) (by decide +kernel) rfl ?_
              refine hr_pi (b := 12) (e := 13) 192 rfl (by decide +kernel) ?_
              refine hw_ald (b := 0) (e := 0) (by decide +kernel) (get_st1 g0 (by decide) (fun q => absurd q.1 (by decide))) (by decide) ?_
              refine hw_dup (a0 := 0) (e := 0) (by decide +kernel) (by decide) ?_
              refine hr_gi (w := φ 192 4) (b := 12) (e := 4) 192 rfl (by decide +kernel) ((hf_up_ne (fun q => absurd q.2 (by decide))).trans (hf_up_ne (fun q => absurd q.2 (by decide)))) ?_
              refine hw_k (c := 1) (b := 0) (e := 1) (by decide +kernel) ?_
              refine hw_bin (w := (φ 192 4) + 1) (a0 := 0) (b := 0) (e := 0) (by decide +kernel) rfl ?_
              refine hr_pi (b := 12) (e := 4) 192 rfl (by decide +kernel) ?_
              refine hw_goto (a0 := 0) (b := 0) (e := 181) (by decide +kernel) ?_
              exact H
            · have H := hf62 q
              refine hw_ald (b := 0) (e := 0) (by decide +kernel) (get_st1 g0 (by decide) (fun q => absurd q.1 (by decide))) (by decide) ?_
              refine hw_k (c := 10) (b := 1) (e := 2) (by decide +kernel) ?_
              refine hw_ald (b := 0) (e := 0) (by decide +kernel) (get_st1 g0 (by decide) (fun q => absurd q.1 (by decide))) (by decide) ?_
              refine hr_gi (w := φ 192 14) (b := 12) (e := 14) 192 rfl (by decide +kernel) (hf_up_ne (fun q => absurd q.2 (by decide))) ?_
              refine hw_bin (w := 10 * (φ 192 14)) (a0 := 0) (b := 2) (e := 0) (by decide +kernel) rfl ?_
              refine hw_ald (b := 0) (e := 0) (by decide +kernel) (get_st1 g0 (by decide) (fun q => absurd q.1 (by decide))) (by decide) ?_
              refine hr_call (a0 := 22) (b := 176) (e := 1) (nl := 1) (As := []) (R := [(0, 10 * (φ 192 14)), (2, 192)]) 192 rfl (by decide +kernel) rfl rfl (Nat.le_of_ble_eq_true rfl) (Nat.le_of_ble_eq_true rfl) ?_
              refine hw_mono H ?_
              rintro r ψ63 y63 ⟨hyx, hψx, z63, hr, H⟩
              subst hyx
              subst hψx
              subst hr
              refine ⟨hne0, ?_⟩
              show hw sc (d + 1) 175 268 (jm_st1 L 3 (0, 1)) [(0, z63), (0, 10 * (φ 192 14)), (2, 192)] (hf_up φ 192 17 (hb_lor (hb_lshl (φ 192 17) 8) (hb_i2l z61))) y63 Q
              refine hw_bin (w := (10 * (φ 192 14)) + z63) (a0 := 0) (b := 0) (e := 0) (by decide +kernel) rfl ?_
              refine hw_k (c := 48) (b := 1) (e := 2) (by decide +kernel) ?_
              refine hw_bin (w := ((10 * (φ 192 14)) + z63) - 48) (a0 := 0) (b := 1) (e := 0) (by decide +kernel) rfl ?_
              refine hr_pi (b := 12) (e := 14) 192 rfl (by decide +kernel) ?_
              refine hw_ald (b := 0) (e := 0) (by decide +kernel) (get_st1 g0 (by decide) (fun q => absurd q.1 (by decide))) (by decide) ?_
              refine hw_dup (a0 := 0) (e := 0) (by decide +kernel) (by decide) ?_
              refine hr_gi (w := φ 192 13) (b := 12) (e := 13) 192 rfl (by decide +kernel) ((hf_up_ne (fun q => absurd q.2 (by decide))).trans (hf_up_ne (fun q => absurd q.2 (by decide)))) ?_
              refine hw_k (c := 1) (b := 0) (e := 1) (by decide +kernel) ?_
              refine hw_bin (w := (φ 192 13) + 1) (a0 := 0) (b := 0) (e := 0) (by decide +kernel) rfl ?_
              refine hr_pi (b := 12) (e := 13) 192 rfl (by decide +kernel) ?_
              refine hw_ald (b := 0) (e := 0) (by decide +kernel) (get_st1 g0 (by decide) (fun q => absurd q.1 (by decide))) (by decide) ?_
              refine hw_dup (a0 := 0) (e := 0) (by decide +kernel) (by decide) ?_
              refine hr_gi (w := φ 192 4) (b := 12) (e := 4) 192 rfl (by decide +kernel) ((hf_up_ne (fun q => absurd q.2 (by decide))).trans ((hf_up_ne (fun q => absurd q.2 (by decide))).trans (hf_up_ne (fun q => absurd q.2 (by decide))))) ?_
              refine hw_k (c := 1) (b := 0) (e := 1) (by decide +kernel) ?_
              refine hw_bin (w := (φ 192 4) + 1) (a0 := 0) (b := 0) (e := 0) (by decide +kernel) rfl ?_
              refine hr_pi (b := 12) (e := 4) 192 rfl (by decide +kernel) ?_
              refine hw_goto (a0 := 0) (b := 0) (e := 181) (by decide +kernel) ?_
              exact H
theorem sf_175_192_l181 {sc : List Int} {d x : Nat} {Q : Option jm_V → hf_F → Nat → Prop} : ∀ (n : Nat) (φ : hf_F) (L : jm_L) (l1 l2 l3 : Int), jm_get L 0 = some (2, 192) → jm_get L 1 = some (0, l1) → jm_get L 2 = some (0, l2) → jm_get L 3 = some (0, l3) → Inv φ → 940 - φ 192 4 < (n : Int) → 0 ≤ l2 → l2 ≤ 1 → 0 ≤ l3 → l3 ≤ 1 → 0 ≤ φ 192 13 → φ 192 13 ≤ φ 192 4 → (φ 192 13 = 0 → φ 192 14 = 0) → (φ 192 13 = 1 → φ 192 14 ≤ 74) → (φ 192 13 = 2 → φ 192 14 ≤ 814) → (∀ ψ : hf_F, Inv ψ → Fr [193004, 193011, 193012, 193013, 193014, 193017] φ ψ → (φ 192 4 ≤ ψ 192 4 ∧ ¬ ψ 192 11 = 3 ∧ ψ 192 18 = φ 192 18 ∧ ψ 192 30 = φ 192 30 ∧ ψ 192 34 = φ 192 34 ∧ ψ 192 35 = φ 192 35 ∧ ψ 192 36 = φ 192 36 ∧ ψ 192 38 = φ 192 38) → F_RideLawsModel_next_192_l181 n φ l1 l2 l3 = ψ → Q none ψ x) → hw sc (d + 1) 175 181 L [] φ x Q := by
  intro n
  induction n with
  | zero =>
    intro φ L l1 l2 l3 g0 g1 g2 g3 hI hM b2a b2b b3a b3b c0 c1 c2 c3 c4 hQ
    have fm192_4 := iv_at (a := 192) (k := 4) (lo := 0) (u := 940) hI (by decide +kernel)
    exfalso
    omega
  | succ n ih =>
    intro φ L l1 l2 l3 g0 g1 g2 g3 hI hM b2a b2b b3a b3b c0 c1 c2 c3 c4 hQ
    have fm192_4 := iv_at (a := 192) (k := 4) (lo := 0) (u := 940) hI (by decide +kernel)
    refine sf_175_192_v181 g0 g1 g2 g3 ?_
    have ffx43754 := pk_b φ
    have e0 := F_RideLawsModel_next_192_l181_s (φ := φ) (l1 := l1) (l2 := l2) (l3 := l3) n
    refine sf_176_192 (φ := φ) hI  (fun z1 hp1 hE1 => ⟨rfl, rfl, z1, rfl, ?_⟩)
    have e1 := e0.trans (bnp_e hE1)
    have f1 := iv_at (a := 192) (k := 3) (lo := 0) (u := 940) hI (by decide +kernel)
    have f2 := iv_at (a := 192) (k := 4) (lo := 0) (u := 940) hI (by decide +kernel)
    have f3 := pk_b φ
    refine sf_177 (φ := φ) hI (by omega) (by omega) (fun z2 hp2 hE2 => ⟨rfl, rfl, z2, rfl, ?_⟩)
    have e2 := e1.trans (bnp_e hE2)
    refine ⟨by unfold hi; omega, fun q3 => ?_, fun q3 => ?_⟩
    · skip
      have e3a := e2.trans (if_pos q3)
      refine ⟨by unfold hi; omega, fun q4 => ?_, fun q4 => ?_⟩
      · skip
        have e4a := e3a.trans (if_pos q4)
        have f4 := iv_at (a := 192) (k := 13) (lo := 0) (u := 940) hI (by decide +kernel)
        refine ⟨by unfold hi; omega, by unfold hi; omega, fun q5 => ?_, fun q5 => ?_⟩
        · skip
          have e5a := e4a.trans (if_pos q5)
          refine ⟨by unfold hi; omega, by unfold hi; omega, fun q6 => ?_, fun q6 => ?_⟩
          · skip
            have e6a := e5a.trans (if_pos q6)
            have i5 : Inv (hf_up φ 192 13 ((φ 192 13) + 1)) := iv_up (lo := 0) (u := 940) hI (by decide +kernel) (by omega) (by omega)
            have r5 : Fr [193004, 193011, 193012, 193013, 193014, 193017] φ (hf_up φ 192 13 ((φ 192 13) + 1)) := fr_up (fr_rf) (by decide)
            have i6 : Inv (hf_up (hf_up φ 192 13 ((φ 192 13) + 1)) 192 4 ((φ 192 4) + 1)) := iv_up (lo := 0) (u := 940) i5 (by decide +kernel) (by omega) (by omega)
            have r6 : Fr [193004, 193011, 193012, 193013, 193014, 193017] φ (hf_up (hf_up φ 192 13 ((φ 192 13) + 1)) 192 4 ((φ 192 4) + 1)) := fr_up r5 (by decide)
            have f7 : (hf_up (hf_up φ 192 13 ((φ 192 13) + 1)) 192 4 ((φ 192 4) + 1)) 192 13 = (φ 192 13) + 1 := ((hf_up_ne (fun q => absurd q.2 (by decide))).trans hf_up_eq)
            have f8 : (hf_up (hf_up φ 192 13 ((φ 192 13) + 1)) 192 4 ((φ 192 4) + 1)) 192 14 = φ 192 14 := ((hf_up_ne (fun q => absurd q.2 (by decide))).trans (hf_up_ne (fun q => absurd q.2 (by decide))))
            have f9 := iv_at (a := 192) (k := 14) (lo := 0) (u := 8214) hI (by decide +kernel)
            have f10 : (hf_up (hf_up φ 192 13 ((φ 192 13) + 1)) 192 4 ((φ 192 4) + 1)) 192 18 = φ 192 18 := ((hf_up_ne (fun q => absurd q.2 (by decide))).trans (hf_up_ne (fun q => absurd q.2 (by decide))))
            have f11 := iv_at (a := 192) (k := 18) (lo := (-1 : Int)) (u := 999) hI (by decide +kernel)
            have f12 : (hf_up (hf_up φ 192 13 ((φ 192 13) + 1)) 192 4 ((φ 192 4) + 1)) 192 30 = φ 192 30 := ((hf_up_ne (fun q => absurd q.2 (by decide))).trans (hf_up_ne (fun q => absurd q.2 (by decide))))
            have f13 := iv_at (a := 192) (k := 30) (lo := 0) (u := 40) hI (by decide +kernel)
            have f14 : (hf_up (hf_up φ 192 13 ((φ 192 13) + 1)) 192 4 ((φ 192 4) + 1)) 192 34 = φ 192 34 := ((hf_up_ne (fun q => absurd q.2 (by decide))).trans (hf_up_ne (fun q => absurd q.2 (by decide))))
            have f15 := iv_at (a := 192) (k := 34) (lo := 0) (u := 45) hI (by decide +kernel)
            have f16 : (hf_up (hf_up φ 192 13 ((φ 192 13) + 1)) 192 4 ((φ 192 4) + 1)) 192 35 = φ 192 35 := ((hf_up_ne (fun q => absurd q.2 (by decide))).trans (hf_up_ne (fun q => absurd q.2 (by decide))))
            have f17 := iv_at (a := 192) (k := 35) (lo := 0) (u := 20) hI (by decide +kernel)
            have f18 : (hf_up (hf_up φ 192 13 ((φ 192 13) + 1)) 192 4 ((φ 192 4) + 1)) 192 36 = φ 192 36 := ((hf_up_ne (fun q => absurd q.2 (by decide))).trans (hf_up_ne (fun q => absurd q.2 (by decide))))
            have f19 := iv_at (a := 192) (k := 36) (lo := 0) (u := 45) hI (by decide +kernel)
            have f20 : (hf_up (hf_up φ 192 13 ((φ 192 13) + 1)) 192 4 ((φ 192 4) + 1)) 192 38 = φ 192 38 := ((hf_up_ne (fun q => absurd q.2 (by decide))).trans (hf_up_ne (fun q => absurd q.2 (by decide))))
            have f21 := iv_at (a := 192) (k := 38) (lo := 0) (u := 1) hI (by decide +kernel)
            have f22 : (hf_up (hf_up φ 192 13 ((φ 192 13) + 1)) 192 4 ((φ 192 4) + 1)) 192 4 = (φ 192 4) + 1 := hf_up_eq
            exact ih (hf_up (hf_up φ 192 13 ((φ 192 13) + 1)) 192 4 ((φ 192 4) + 1)) (jm_st1 L 3 (0, 0)) l1 l2 0 (get_st1 g0 (by decide) (fun q => absurd q.1 (by decide))) (get_st1 g1 (by decide) (fun q => absurd q.1 (by decide))) (get_st1 g2 (by decide) (fun q => tg0 q.2)) get_st1e i6 (by omega) (by omega) (by omega) (by omega) (by omega) (by omega) (by omega) (by omega) (by omega) (by omega) (fun χ hIχ hFχ hVχ hEχ => hQ χ hIχ (fr_tr r6 hFχ (by decide)) (by omega) (e6a.trans hEχ))
          · skip
            have e6b := e5a.trans (if_neg q6)
            have f23 := iv_at (a := 192) (k := 14) (lo := 0) (u := 8214) hI (by decide +kernel)
            refine sf_176_192 (φ := φ) hI  (fun z7 hp7 hE7 => ⟨rfl, rfl, z7, rfl, ?_⟩)
            have e7 := e6b.trans (bnp_e hE7)
            have i24 : Inv (hf_up φ 192 14 (((10 * (φ 192 14)) + z7) - 48)) := iv_up (lo := 0) (u := 8214) hI (by decide +kernel) (by omega) (by omega)
            have r24 : Fr [193004, 193011, 193012, 193013, 193014, 193017] φ (hf_up φ 192 14 (((10 * (φ 192 14)) + z7) - 48)) := fr_up (fr_rf) (by decide)
            have i25 : Inv (hf_up (hf_up φ 192 14 (((10 * (φ 192 14)) + z7) - 48)) 192 13 ((φ 192 13) + 1)) := iv_up (lo := 0) (u := 940) i24 (by decide +kernel) (by omega) (by omega)
            have r25 : Fr [193004, 193011, 193012, 193013, 193014, 193017] φ (hf_up (hf_up φ 192 14 (((10 * (φ 192 14)) + z7) - 48)) 192 13 ((φ 192 13) + 1)) := fr_up r24 (by decide)
            have i26 : Inv (hf_up (hf_up (hf_up φ 192 14 (((10 * (φ 192 14)) + z7) - 48)) 192 13 ((φ 192 13) + 1)) 192 4 ((φ 192 4) + 1)) := iv_up (lo := 0) (u := 940) i25 (by decide +kernel) (by omega) (by omega)
            have r26 : Fr [193004, 193011, 193012, 193013, 193014, 193017] φ (hf_up (hf_up (hf_up φ 192 14 (((10 * (φ 192 14)) + z7) - 48)) 192 13 ((φ 192 13) + 1)) 192 4 ((φ 192 4) + 1)) := fr_up r25 (by decide)
            have f27 : (hf_up (hf_up (hf_up φ 192 14 (((10 * (φ 192 14)) + z7) - 48)) 192 13 ((φ 192 13) + 1)) 192 4 ((φ 192 4) + 1)) 192 13 = (φ 192 13) + 1 := ((hf_up_ne (fun q => absurd q.2 (by decide))).trans hf_up_eq)
            have f28 : (hf_up (hf_up (hf_up φ 192 14 (((10 * (φ 192 14)) + z7) - 48)) 192 13 ((φ 192 13) + 1)) 192 4 ((φ 192 4) + 1)) 192 14 = ((10 * (φ 192 14)) + z7) - 48 := ((hf_up_ne (fun q => absurd q.2 (by decide))).trans ((hf_up_ne (fun q => absurd q.2 (by decide))).trans hf_up_eq))
            have f29 : (hf_up (hf_up (hf_up φ 192 14 (((10 * (φ 192 14)) + z7) - 48)) 192 13 ((φ 192 13) + 1)) 192 4 ((φ 192 4) + 1)) 192 18 = φ 192 18 := ((hf_up_ne (fun q => absurd q.2 (by decide))).trans ((hf_up_ne (fun q => absurd q.2 (by decide))).trans (hf_up_ne (fun q => absurd q.2 (by decide)))))
            have f30 := iv_at (a := 192) (k := 18) (lo := (-1 : Int)) (u := 999) hI (by decide +kernel)
            have f31 : (hf_up (hf_up (hf_up φ 192 14 (((10 * (φ 192 14)) + z7) - 48)) 192 13 ((φ 192 13) + 1)) 192 4 ((φ 192 4) + 1)) 192 30 = φ 192 30 := ((hf_up_ne (fun q => absurd q.2 (by decide))).trans ((hf_up_ne (fun q => absurd q.2 (by decide))).trans (hf_up_ne (fun q => absurd q.2 (by decide)))))
            have f32 := iv_at (a := 192) (k := 30) (lo := 0) (u := 40) hI (by decide +kernel)
            have f33 : (hf_up (hf_up (hf_up φ 192 14 (((10 * (φ 192 14)) + z7) - 48)) 192 13 ((φ 192 13) + 1)) 192 4 ((φ 192 4) + 1)) 192 34 = φ 192 34 := ((hf_up_ne (fun q => absurd q.2 (by decide))).trans ((hf_up_ne (fun q => absurd q.2 (by decide))).trans (hf_up_ne (fun q => absurd q.2 (by decide)))))
            have f34 := iv_at (a := 192) (k := 34) (lo := 0) (u := 45) hI (by decide +kernel)
            have f35 : (hf_up (hf_up (hf_up φ 192 14 (((10 * (φ 192 14)) + z7) - 48)) 192 13 ((φ 192 13) + 1)) 192 4 ((φ 192 4) + 1)) 192 35 = φ 192 35 := ((hf_up_ne (fun q => absurd q.2 (by decide))).trans ((hf_up_ne (fun q => absurd q.2 (by decide))).trans (hf_up_ne (fun q => absurd q.2 (by decide)))))
            have f36 := iv_at (a := 192) (k := 35) (lo := 0) (u := 20) hI (by decide +kernel)
            have f37 : (hf_up (hf_up (hf_up φ 192 14 (((10 * (φ 192 14)) + z7) - 48)) 192 13 ((φ 192 13) + 1)) 192 4 ((φ 192 4) + 1)) 192 36 = φ 192 36 := ((hf_up_ne (fun q => absurd q.2 (by decide))).trans ((hf_up_ne (fun q => absurd q.2 (by decide))).trans (hf_up_ne (fun q => absurd q.2 (by decide)))))
            have f38 := iv_at (a := 192) (k := 36) (lo := 0) (u := 45) hI (by decide +kernel)
            have f39 : (hf_up (hf_up (hf_up φ 192 14 (((10 * (φ 192 14)) + z7) - 48)) 192 13 ((φ 192 13) + 1)) 192 4 ((φ 192 4) + 1)) 192 38 = φ 192 38 := ((hf_up_ne (fun q => absurd q.2 (by decide))).trans ((hf_up_ne (fun q => absurd q.2 (by decide))).trans (hf_up_ne (fun q => absurd q.2 (by decide)))))
            have f40 := iv_at (a := 192) (k := 38) (lo := 0) (u := 1) hI (by decide +kernel)
            have f41 : (hf_up (hf_up (hf_up φ 192 14 (((10 * (φ 192 14)) + z7) - 48)) 192 13 ((φ 192 13) + 1)) 192 4 ((φ 192 4) + 1)) 192 4 = (φ 192 4) + 1 := hf_up_eq
            exact ih (hf_up (hf_up (hf_up φ 192 14 (((10 * (φ 192 14)) + z7) - 48)) 192 13 ((φ 192 13) + 1)) 192 4 ((φ 192 4) + 1)) (jm_st1 L 3 (0, 0)) l1 l2 0 (get_st1 g0 (by decide) (fun q => absurd q.1 (by decide))) (get_st1 g1 (by decide) (fun q => absurd q.1 (by decide))) (get_st1 g2 (by decide) (fun q => tg0 q.2)) get_st1e i26 (by omega) (by omega) (by omega) (by omega) (by omega) (by omega) (by omega) (by omega) (by omega) (by omega) (fun χ hIχ hFχ hVχ hEχ => hQ χ hIχ (fr_tr r26 hFχ (by decide)) (by omega) (e7.trans hEχ))
        · skip
          have e5b := e4a.trans (if_neg q5)
          refine sf_176_192 (φ := φ) hI  (fun z8 hp8 hE8 => ⟨rfl, rfl, z8, rfl, ?_⟩)
          have e8 := e5b.trans (bnp_e hE8)
          have i42 : Inv (hf_up φ 192 17 (hb_lor (hb_lshl (φ 192 17) 8) (hb_i2l z8))) := iv_upn hI (by decide) (by decide) (by decide +kernel)
          have r42 : Fr [193004, 193011, 193012, 193013, 193014, 193017] φ (hf_up φ 192 17 (hb_lor (hb_lshl (φ 192 17) 8) (hb_i2l z8))) := fr_up (fr_rf) (by decide)
          refine ⟨by unfold hi; omega, by unfold hi; omega, fun q9 => ?_, fun q9 => ?_⟩
          · skip
            have e9a := e8.trans (if_pos q9)
            have i43 : Inv (hf_up (hf_up φ 192 17 (hb_lor (hb_lshl (φ 192 17) 8) (hb_i2l z8))) 192 13 ((φ 192 13) + 1)) := iv_up (lo := 0) (u := 940) i42 (by decide +kernel) (by omega) (by omega)
            have r43 : Fr [193004, 193011, 193012, 193013, 193014, 193017] φ (hf_up (hf_up φ 192 17 (hb_lor (hb_lshl (φ 192 17) 8) (hb_i2l z8))) 192 13 ((φ 192 13) + 1)) := fr_up r42 (by decide)
            have i44 : Inv (hf_up (hf_up (hf_up φ 192 17 (hb_lor (hb_lshl (φ 192 17) 8) (hb_i2l z8))) 192 13 ((φ 192 13) + 1)) 192 4 ((φ 192 4) + 1)) := iv_up (lo := 0) (u := 940) i43 (by decide +kernel) (by omega) (by omega)
            have r44 : Fr [193004, 193011, 193012, 193013, 193014, 193017] φ (hf_up (hf_up (hf_up φ 192 17 (hb_lor (hb_lshl (φ 192 17) 8) (hb_i2l z8))) 192 13 ((φ 192 13) + 1)) 192 4 ((φ 192 4) + 1)) := fr_up r43 (by decide)
            have f45 : (hf_up (hf_up (hf_up φ 192 17 (hb_lor (hb_lshl (φ 192 17) 8) (hb_i2l z8))) 192 13 ((φ 192 13) + 1)) 192 4 ((φ 192 4) + 1)) 192 13 = (φ 192 13) + 1 := ((hf_up_ne (fun q => absurd q.2 (by decide))).trans hf_up_eq)
            have f46 : (hf_up (hf_up (hf_up φ 192 17 (hb_lor (hb_lshl (φ 192 17) 8) (hb_i2l z8))) 192 13 ((φ 192 13) + 1)) 192 4 ((φ 192 4) + 1)) 192 14 = φ 192 14 := ((hf_up_ne (fun q => absurd q.2 (by decide))).trans ((hf_up_ne (fun q => absurd q.2 (by decide))).trans (hf_up_ne (fun q => absurd q.2 (by decide)))))
            have f47 := iv_at (a := 192) (k := 14) (lo := 0) (u := 8214) hI (by decide +kernel)
            have f48 : (hf_up (hf_up (hf_up φ 192 17 (hb_lor (hb_lshl (φ 192 17) 8) (hb_i2l z8))) 192 13 ((φ 192 13) + 1)) 192 4 ((φ 192 4) + 1)) 192 18 = φ 192 18 := ((hf_up_ne (fun q => absurd q.2 (by decide))).trans ((hf_up_ne (fun q => absurd q.2 (by decide))).trans (hf_up_ne (fun q => absurd q.2 (by decide)))))
            have f49 := iv_at (a := 192) (k := 18) (lo := (-1 : Int)) (u := 999) hI (by decide +kernel)
            have f50 : (hf_up (hf_up (hf_up φ 192 17 (hb_lor (hb_lshl (φ 192 17) 8) (hb_i2l z8))) 192 13 ((φ 192 13) + 1)) 192 4 ((φ 192 4) + 1)) 192 30 = φ 192 30 := ((hf_up_ne (fun q => absurd q.2 (by decide))).trans ((hf_up_ne (fun q => absurd q.2 (by decide))).trans (hf_up_ne (fun q => absurd q.2 (by decide)))))
            have f51 := iv_at (a := 192) (k := 30) (lo := 0) (u := 40) hI (by decide +kernel)
            have f52 : (hf_up (hf_up (hf_up φ 192 17 (hb_lor (hb_lshl (φ 192 17) 8) (hb_i2l z8))) 192 13 ((φ 192 13) + 1)) 192 4 ((φ 192 4) + 1)) 192 34 = φ 192 34 := ((hf_up_ne (fun q => absurd q.2 (by decide))).trans ((hf_up_ne (fun q => absurd q.2 (by decide))).trans (hf_up_ne (fun q => absurd q.2 (by decide)))))
            have f53 := iv_at (a := 192) (k := 34) (lo := 0) (u := 45) hI (by decide +kernel)
            have f54 : (hf_up (hf_up (hf_up φ 192 17 (hb_lor (hb_lshl (φ 192 17) 8) (hb_i2l z8))) 192 13 ((φ 192 13) + 1)) 192 4 ((φ 192 4) + 1)) 192 35 = φ 192 35 := ((hf_up_ne (fun q => absurd q.2 (by decide))).trans ((hf_up_ne (fun q => absurd q.2 (by decide))).trans (hf_up_ne (fun q => absurd q.2 (by decide)))))
            have f55 := iv_at (a := 192) (k := 35) (lo := 0) (u := 20) hI (by decide +kernel)
            have f56 : (hf_up (hf_up (hf_up φ 192 17 (hb_lor (hb_lshl (φ 192 17) 8) (hb_i2l z8))) 192 13 ((φ 192 13) + 1)) 192 4 ((φ 192 4) + 1)) 192 36 = φ 192 36 := ((hf_up_ne (fun q => absurd q.2 (by decide))).trans ((hf_up_ne (fun q => absurd q.2 (by decide))).trans (hf_up_ne (fun q => absurd q.2 (by decide)))))
            have f57 := iv_at (a := 192) (k := 36) (lo := 0) (u := 45) hI (by decide +kernel)
            have f58 : (hf_up (hf_up (hf_up φ 192 17 (hb_lor (hb_lshl (φ 192 17) 8) (hb_i2l z8))) 192 13 ((φ 192 13) + 1)) 192 4 ((φ 192 4) + 1)) 192 38 = φ 192 38 := ((hf_up_ne (fun q => absurd q.2 (by decide))).trans ((hf_up_ne (fun q => absurd q.2 (by decide))).trans (hf_up_ne (fun q => absurd q.2 (by decide)))))
            have f59 := iv_at (a := 192) (k := 38) (lo := 0) (u := 1) hI (by decide +kernel)
            have f60 : (hf_up (hf_up (hf_up φ 192 17 (hb_lor (hb_lshl (φ 192 17) 8) (hb_i2l z8))) 192 13 ((φ 192 13) + 1)) 192 4 ((φ 192 4) + 1)) 192 4 = (φ 192 4) + 1 := hf_up_eq
            exact ih (hf_up (hf_up (hf_up φ 192 17 (hb_lor (hb_lshl (φ 192 17) 8) (hb_i2l z8))) 192 13 ((φ 192 13) + 1)) 192 4 ((φ 192 4) + 1)) (jm_st1 L 3 (0, 0)) l1 l2 0 (get_st1 g0 (by decide) (fun q => absurd q.1 (by decide))) (get_st1 g1 (by decide) (fun q => absurd q.1 (by decide))) (get_st1 g2 (by decide) (fun q => tg0 q.2)) get_st1e i44 (by omega) (by omega) (by omega) (by omega) (by omega) (by omega) (by omega) (by omega) (by omega) (by omega) (fun χ hIχ hFχ hVχ hEχ => hQ χ hIχ (fr_tr r44 hFχ (by decide)) (by omega) (e9a.trans hEχ))
          · skip
            have e9b := e8.trans (if_neg q9)
            have f61 := iv_at (a := 192) (k := 14) (lo := 0) (u := 8214) hI (by decide +kernel)
            refine sf_176_192 (φ := (hf_up φ 192 17 (hb_lor (hb_lshl (φ 192 17) 8) (hb_i2l z8)))) i42  (fun z10 hp10 hE10 => ⟨rfl, rfl, z10, rfl, ?_⟩)
            have e10 := e9b.trans (bnp_e hE10)
            have f62 : (hf_up φ 192 17 (hb_lor (hb_lshl (φ 192 17) 8) (hb_i2l z8))) 192 3 = φ 192 3 := (hf_up_ne (fun q => absurd q.2 (by decide)))
            have f63 : (hf_up φ 192 17 (hb_lor (hb_lshl (φ 192 17) 8) (hb_i2l z8))) 192 4 = φ 192 4 := (hf_up_ne (fun q => absurd q.2 (by decide)))
            have f64 := pk_b (hf_up φ 192 17 (hb_lor (hb_lshl (φ 192 17) 8) (hb_i2l z8)))
            have f65 := pk_c (φ := φ) (ψ := (hf_up φ 192 17 (hb_lor (hb_lshl (φ 192 17) 8) (hb_i2l z8)))) (hf_up_ne (fun q => absurd q.2 (by decide))) (hf_up_ne (fun q => absurd q.2 (by decide))) (fun kk => (hf_up_ne (fun q => absurd q.1 (by decide))))
            have i66 : Inv (hf_up (hf_up φ 192 17 (hb_lor (hb_lshl (φ 192 17) 8) (hb_i2l z8))) 192 14 (((10 * (φ 192 14)) + z10) - 48)) := iv_up (lo := 0) (u := 8214) i42 (by decide +kernel) (by omega) (by omega)
            have r66 : Fr [193004, 193011, 193012, 193013, 193014, 193017] φ (hf_up (hf_up φ 192 17 (hb_lor (hb_lshl (φ 192 17) 8) (hb_i2l z8))) 192 14 (((10 * (φ 192 14)) + z10) - 48)) := fr_up r42 (by decide)
            have i67 : Inv (hf_up (hf_up (hf_up φ 192 17 (hb_lor (hb_lshl (φ 192 17) 8) (hb_i2l z8))) 192 14 (((10 * (φ 192 14)) + z10) - 48)) 192 13 ((φ 192 13) + 1)) := iv_up (lo := 0) (u := 940) i66 (by decide +kernel) (by omega) (by omega)
            have r67 : Fr [193004, 193011, 193012, 193013, 193014, 193017] φ (hf_up (hf_up (hf_up φ 192 17 (hb_lor (hb_lshl (φ 192 17) 8) (hb_i2l z8))) 192 14 (((10 * (φ 192 14)) + z10) - 48)) 192 13 ((φ 192 13) + 1)) := fr_up r66 (by decide)
            have i68 : Inv (hf_up (hf_up (hf_up (hf_up φ 192 17 (hb_lor (hb_lshl (φ 192 17) 8) (hb_i2l z8))) 192 14 (((10 * (φ 192 14)) + z10) - 48)) 192 13 ((φ 192 13) + 1)) 192 4 ((φ 192 4) + 1)) := iv_up (lo := 0) (u := 940) i67 (by decide +kernel) (by omega) (by omega)
            have r68 : Fr [193004, 193011, 193012, 193013, 193014, 193017] φ (hf_up (hf_up (hf_up (hf_up φ 192 17 (hb_lor (hb_lshl (φ 192 17) 8) (hb_i2l z8))) 192 14 (((10 * (φ 192 14)) + z10) - 48)) 192 13 ((φ 192 13) + 1)) 192 4 ((φ 192 4) + 1)) := fr_up r67 (by decide)
            have f69 : (hf_up (hf_up (hf_up (hf_up φ 192 17 (hb_lor (hb_lshl (φ 192 17) 8) (hb_i2l z8))) 192 14 (((10 * (φ 192 14)) + z10) - 48)) 192 13 ((φ 192 13) + 1)) 192 4 ((φ 192 4) + 1)) 192 13 = (φ 192 13) + 1 := ((hf_up_ne (fun q => absurd q.2 (by decide))).trans hf_up_eq)
            have f70 : (hf_up (hf_up (hf_up (hf_up φ 192 17 (hb_lor (hb_lshl (φ 192 17) 8) (hb_i2l z8))) 192 14 (((10 * (φ 192 14)) + z10) - 48)) 192 13 ((φ 192 13) + 1)) 192 4 ((φ 192 4) + 1)) 192 14 = ((10 * (φ 192 14)) + z10) - 48 := ((hf_up_ne (fun q => absurd q.2 (by decide))).trans ((hf_up_ne (fun q => absurd q.2 (by decide))).trans hf_up_eq))
            have f71 : (hf_up (hf_up (hf_up (hf_up φ 192 17 (hb_lor (hb_lshl (φ 192 17) 8) (hb_i2l z8))) 192 14 (((10 * (φ 192 14)) + z10) - 48)) 192 13 ((φ 192 13) + 1)) 192 4 ((φ 192 4) + 1)) 192 18 = φ 192 18 := ((hf_up_ne (fun q => absurd q.2 (by decide))).trans ((hf_up_ne (fun q => absurd q.2 (by decide))).trans ((hf_up_ne (fun q => absurd q.2 (by decide))).trans (hf_up_ne (fun q => absurd q.2 (by decide))))))
            have f72 := iv_at (a := 192) (k := 18) (lo := (-1 : Int)) (u := 999) hI (by decide +kernel)
            have f73 : (hf_up (hf_up (hf_up (hf_up φ 192 17 (hb_lor (hb_lshl (φ 192 17) 8) (hb_i2l z8))) 192 14 (((10 * (φ 192 14)) + z10) - 48)) 192 13 ((φ 192 13) + 1)) 192 4 ((φ 192 4) + 1)) 192 30 = φ 192 30 := ((hf_up_ne (fun q => absurd q.2 (by decide))).trans ((hf_up_ne (fun q => absurd q.2 (by decide))).trans ((hf_up_ne (fun q => absurd q.2 (by decide))).trans (hf_up_ne (fun q => absurd q.2 (by decide))))))
            have f74 := iv_at (a := 192) (k := 30) (lo := 0) (u := 40) hI (by decide +kernel)
            have f75 : (hf_up (hf_up (hf_up (hf_up φ 192 17 (hb_lor (hb_lshl (φ 192 17) 8) (hb_i2l z8))) 192 14 (((10 * (φ 192 14)) + z10) - 48)) 192 13 ((φ 192 13) + 1)) 192 4 ((φ 192 4) + 1)) 192 34 = φ 192 34 := ((hf_up_ne (fun q => absurd q.2 (by decide))).trans ((hf_up_ne (fun q => absurd q.2 (by decide))).trans ((hf_up_ne (fun q => absurd q.2 (by decide))).trans (hf_up_ne (fun q => absurd q.2 (by decide))))))
            have f76 := iv_at (a := 192) (k := 34) (lo := 0) (u := 45) hI (by decide +kernel)
            have f77 : (hf_up (hf_up (hf_up (hf_up φ 192 17 (hb_lor (hb_lshl (φ 192 17) 8) (hb_i2l z8))) 192 14 (((10 * (φ 192 14)) + z10) - 48)) 192 13 ((φ 192 13) + 1)) 192 4 ((φ 192 4) + 1)) 192 35 = φ 192 35 := ((hf_up_ne (fun q => absurd q.2 (by decide))).trans ((hf_up_ne (fun q => absurd q.2 (by decide))).trans ((hf_up_ne (fun q => absurd q.2 (by decide))).trans (hf_up_ne (fun q => absurd q.2 (by decide))))))
            have f78 := iv_at (a := 192) (k := 35) (lo := 0) (u := 20) hI (by decide +kernel)
            have f79 : (hf_up (hf_up (hf_up (hf_up φ 192 17 (hb_lor (hb_lshl (φ 192 17) 8) (hb_i2l z8))) 192 14 (((10 * (φ 192 14)) + z10) - 48)) 192 13 ((φ 192 13) + 1)) 192 4 ((φ 192 4) + 1)) 192 36 = φ 192 36 := ((hf_up_ne (fun q => absurd q.2 (by decide))).trans ((hf_up_ne (fun q => absurd q.2 (by decide))).trans ((hf_up_ne (fun q => absurd q.2 (by decide))).trans (hf_up_ne (fun q => absurd q.2 (by decide))))))
            have f80 := iv_at (a := 192) (k := 36) (lo := 0) (u := 45) hI (by decide +kernel)
            have f81 : (hf_up (hf_up (hf_up (hf_up φ 192 17 (hb_lor (hb_lshl (φ 192 17) 8) (hb_i2l z8))) 192 14 (((10 * (φ 192 14)) + z10) - 48)) 192 13 ((φ 192 13) + 1)) 192 4 ((φ 192 4) + 1)) 192 38 = φ 192 38 := ((hf_up_ne (fun q => absurd q.2 (by decide))).trans ((hf_up_ne (fun q => absurd q.2 (by decide))).trans ((hf_up_ne (fun q => absurd q.2 (by decide))).trans (hf_up_ne (fun q => absurd q.2 (by decide))))))
            have f82 := iv_at (a := 192) (k := 38) (lo := 0) (u := 1) hI (by decide +kernel)
            have f83 : (hf_up (hf_up (hf_up (hf_up φ 192 17 (hb_lor (hb_lshl (φ 192 17) 8) (hb_i2l z8))) 192 14 (((10 * (φ 192 14)) + z10) - 48)) 192 13 ((φ 192 13) + 1)) 192 4 ((φ 192 4) + 1)) 192 4 = (φ 192 4) + 1 := hf_up_eq
            exact ih (hf_up (hf_up (hf_up (hf_up φ 192 17 (hb_lor (hb_lshl (φ 192 17) 8) (hb_i2l z8))) 192 14 (((10 * (φ 192 14)) + z10) - 48)) 192 13 ((φ 192 13) + 1)) 192 4 ((φ 192 4) + 1)) (jm_st1 L 3 (0, 0)) l1 l2 0 (get_st1 g0 (by decide) (fun q => absurd q.1 (by decide))) (get_st1 g1 (by decide) (fun q => absurd q.1 (by decide))) (get_st1 g2 (by decide) (fun q => tg0 q.2)) get_st1e i68 (by omega) (by omega) (by omega) (by omega) (by omega) (by omega) (by omega) (by omega) (by omega) (by omega) (fun χ hIχ hFχ hVχ hEχ => hQ χ hIχ (fr_tr r68 hFχ (by decide)) (by omega) (e10.trans hEχ))
      · skip
        have e4b := e3a.trans (if_neg q4)
        refine sf_176_192 (φ := φ) hI  (fun z11 hp11 hE11 => ⟨rfl, rfl, z11, rfl, ?_⟩)
        have e11 := e4b.trans (bnp_e hE11)
        refine sf_177 (φ := φ) hI (by omega) (by omega) (fun z12 hp12 hE12 => ⟨rfl, rfl, z12, rfl, ?_⟩)
        have e12 := e11.trans (bnp_e hE12)
        refine ⟨by unfold hi; omega, by unfold hi; omega, fun q13 => ?_, fun q13 => ?_⟩
        · skip
          have e13a := e12.trans (if_pos q13)
          have f84 := iv_at (a := 192) (k := 13) (lo := 0) (u := 940) hI (by decide +kernel)
          refine ⟨by unfold hi; omega, by unfold hi; omega, fun q14 => ?_, fun q14 => ?_⟩
          · skip
            have e14a := e13a.trans (if_pos q14)
            refine ⟨by unfold hi; omega, by unfold hi; omega, fun q15 => ?_, fun q15 => ?_⟩
            · skip
              have e15a := e14a.trans (if_pos q15)
              have i85 : Inv (hf_up φ 192 13 ((φ 192 13) + 1)) := iv_up (lo := 0) (u := 940) hI (by decide +kernel) (by omega) (by omega)
              have r85 : Fr [193004, 193011, 193012, 193013, 193014, 193017] φ (hf_up φ 192 13 ((φ 192 13) + 1)) := fr_up (fr_rf) (by decide)
              have i86 : Inv (hf_up (hf_up φ 192 13 ((φ 192 13) + 1)) 192 4 ((φ 192 4) + 1)) := iv_up (lo := 0) (u := 940) i85 (by decide +kernel) (by omega) (by omega)
              have r86 : Fr [193004, 193011, 193012, 193013, 193014, 193017] φ (hf_up (hf_up φ 192 13 ((φ 192 13) + 1)) 192 4 ((φ 192 4) + 1)) := fr_up r85 (by decide)
              have f87 : (hf_up (hf_up φ 192 13 ((φ 192 13) + 1)) 192 4 ((φ 192 4) + 1)) 192 13 = (φ 192 13) + 1 := ((hf_up_ne (fun q => absurd q.2 (by decide))).trans hf_up_eq)
              have f88 : (hf_up (hf_up φ 192 13 ((φ 192 13) + 1)) 192 4 ((φ 192 4) + 1)) 192 14 = φ 192 14 := ((hf_up_ne (fun q => absurd q.2 (by decide))).trans (hf_up_ne (fun q => absurd q.2 (by decide))))
              have f89 := iv_at (a := 192) (k := 14) (lo := 0) (u := 8214) hI (by decide +kernel)
              have f90 : (hf_up (hf_up φ 192 13 ((φ 192 13) + 1)) 192 4 ((φ 192 4) + 1)) 192 18 = φ 192 18 := ((hf_up_ne (fun q => absurd q.2 (by decide))).trans (hf_up_ne (fun q => absurd q.2 (by decide))))
              have f91 := iv_at (a := 192) (k := 18) (lo := (-1 : Int)) (u := 999) hI (by decide +kernel)
              have f92 : (hf_up (hf_up φ 192 13 ((φ 192 13) + 1)) 192 4 ((φ 192 4) + 1)) 192 30 = φ 192 30 := ((hf_up_ne (fun q => absurd q.2 (by decide))).trans (hf_up_ne (fun q => absurd q.2 (by decide))))
              have f93 := iv_at (a := 192) (k := 30) (lo := 0) (u := 40) hI (by decide +kernel)
              have f94 : (hf_up (hf_up φ 192 13 ((φ 192 13) + 1)) 192 4 ((φ 192 4) + 1)) 192 34 = φ 192 34 := ((hf_up_ne (fun q => absurd q.2 (by decide))).trans (hf_up_ne (fun q => absurd q.2 (by decide))))
              have f95 := iv_at (a := 192) (k := 34) (lo := 0) (u := 45) hI (by decide +kernel)
              have f96 : (hf_up (hf_up φ 192 13 ((φ 192 13) + 1)) 192 4 ((φ 192 4) + 1)) 192 35 = φ 192 35 := ((hf_up_ne (fun q => absurd q.2 (by decide))).trans (hf_up_ne (fun q => absurd q.2 (by decide))))
              have f97 := iv_at (a := 192) (k := 35) (lo := 0) (u := 20) hI (by decide +kernel)
              have f98 : (hf_up (hf_up φ 192 13 ((φ 192 13) + 1)) 192 4 ((φ 192 4) + 1)) 192 36 = φ 192 36 := ((hf_up_ne (fun q => absurd q.2 (by decide))).trans (hf_up_ne (fun q => absurd q.2 (by decide))))
              have f99 := iv_at (a := 192) (k := 36) (lo := 0) (u := 45) hI (by decide +kernel)
              have f100 : (hf_up (hf_up φ 192 13 ((φ 192 13) + 1)) 192 4 ((φ 192 4) + 1)) 192 38 = φ 192 38 := ((hf_up_ne (fun q => absurd q.2 (by decide))).trans (hf_up_ne (fun q => absurd q.2 (by decide))))
              have f101 := iv_at (a := 192) (k := 38) (lo := 0) (u := 1) hI (by decide +kernel)
              have f102 : (hf_up (hf_up φ 192 13 ((φ 192 13) + 1)) 192 4 ((φ 192 4) + 1)) 192 4 = (φ 192 4) + 1 := hf_up_eq
              exact ih (hf_up (hf_up φ 192 13 ((φ 192 13) + 1)) 192 4 ((φ 192 4) + 1)) (jm_st1 L 3 (0, 0)) l1 l2 0 (get_st1 g0 (by decide) (fun q => absurd q.1 (by decide))) (get_st1 g1 (by decide) (fun q => absurd q.1 (by decide))) (get_st1 g2 (by decide) (fun q => tg0 q.2)) get_st1e i86 (by omega) (by omega) (by omega) (by omega) (by omega) (by omega) (by omega) (by omega) (by omega) (by omega) (fun χ hIχ hFχ hVχ hEχ => hQ χ hIχ (fr_tr r86 hFχ (by decide)) (by omega) (e15a.trans hEχ))
            · skip
              have e15b := e14a.trans (if_neg q15)
              have f103 := iv_at (a := 192) (k := 14) (lo := 0) (u := 8214) hI (by decide +kernel)
              refine sf_176_192 (φ := φ) hI  (fun z16 hp16 hE16 => ⟨rfl, rfl, z16, rfl, ?_⟩)
              have e16 := e15b.trans (bnp_e hE16)
              have i104 : Inv (hf_up φ 192 14 (((10 * (φ 192 14)) + z16) - 48)) := iv_up (lo := 0) (u := 8214) hI (by decide +kernel) (by omega) (by omega)
              have r104 : Fr [193004, 193011, 193012, 193013, 193014, 193017] φ (hf_up φ 192 14 (((10 * (φ 192 14)) + z16) - 48)) := fr_up (fr_rf) (by decide)
              have i105 : Inv (hf_up (hf_up φ 192 14 (((10 * (φ 192 14)) + z16) - 48)) 192 13 ((φ 192 13) + 1)) := iv_up (lo := 0) (u := 940) i104 (by decide +kernel) (by omega) (by omega)
              have r105 : Fr [193004, 193011, 193012, 193013, 193014, 193017] φ (hf_up (hf_up φ 192 14 (((10 * (φ 192 14)) + z16) - 48)) 192 13 ((φ 192 13) + 1)) := fr_up r104 (by decide)
              have i106 : Inv (hf_up (hf_up (hf_up φ 192 14 (((10 * (φ 192 14)) + z16) - 48)) 192 13 ((φ 192 13) + 1)) 192 4 ((φ 192 4) + 1)) := iv_up (lo := 0) (u := 940) i105 (by decide +kernel) (by omega) (by omega)
              have r106 : Fr [193004, 193011, 193012, 193013, 193014, 193017] φ (hf_up (hf_up (hf_up φ 192 14 (((10 * (φ 192 14)) + z16) - 48)) 192 13 ((φ 192 13) + 1)) 192 4 ((φ 192 4) + 1)) := fr_up r105 (by decide)
              have f107 : (hf_up (hf_up (hf_up φ 192 14 (((10 * (φ 192 14)) + z16) - 48)) 192 13 ((φ 192 13) + 1)) 192 4 ((φ 192 4) + 1)) 192 13 = (φ 192 13) + 1 := ((hf_up_ne (fun q => absurd q.2 (by decide))).trans hf_up_eq)
              have f108 : (hf_up (hf_up (hf_up φ 192 14 (((10 * (φ 192 14)) + z16) - 48)) 192 13 ((φ 192 13) + 1)) 192 4 ((φ 192 4) + 1)) 192 14 = ((10 * (φ 192 14)) + z16) - 48 := ((hf_up_ne (fun q => absurd q.2 (by decide))).trans ((hf_up_ne (fun q => absurd q.2 (by decide))).trans hf_up_eq))
              have f109 : (hf_up (hf_up (hf_up φ 192 14 (((10 * (φ 192 14)) + z16) - 48)) 192 13 ((φ 192 13) + 1)) 192 4 ((φ 192 4) + 1)) 192 18 = φ 192 18 := ((hf_up_ne (fun q => absurd q.2 (by decide))).trans ((hf_up_ne (fun q => absurd q.2 (by decide))).trans (hf_up_ne (fun q => absurd q.2 (by decide)))))
              have f110 := iv_at (a := 192) (k := 18) (lo := (-1 : Int)) (u := 999) hI (by decide +kernel)
              have f111 : (hf_up (hf_up (hf_up φ 192 14 (((10 * (φ 192 14)) + z16) - 48)) 192 13 ((φ 192 13) + 1)) 192 4 ((φ 192 4) + 1)) 192 30 = φ 192 30 := ((hf_up_ne (fun q => absurd q.2 (by decide))).trans ((hf_up_ne (fun q => absurd q.2 (by decide))).trans (hf_up_ne (fun q => absurd q.2 (by decide)))))
              have f112 := iv_at (a := 192) (k := 30) (lo := 0) (u := 40) hI (by decide +kernel)
              have f113 : (hf_up (hf_up (hf_up φ 192 14 (((10 * (φ 192 14)) + z16) - 48)) 192 13 ((φ 192 13) + 1)) 192 4 ((φ 192 4) + 1)) 192 34 = φ 192 34 := ((hf_up_ne (fun q => absurd q.2 (by decide))).trans ((hf_up_ne (fun q => absurd q.2 (by decide))).trans (hf_up_ne (fun q => absurd q.2 (by decide)))))
              have f114 := iv_at (a := 192) (k := 34) (lo := 0) (u := 45) hI (by decide +kernel)
              have f115 : (hf_up (hf_up (hf_up φ 192 14 (((10 * (φ 192 14)) + z16) - 48)) 192 13 ((φ 192 13) + 1)) 192 4 ((φ 192 4) + 1)) 192 35 = φ 192 35 := ((hf_up_ne (fun q => absurd q.2 (by decide))).trans ((hf_up_ne (fun q => absurd q.2 (by decide))).trans (hf_up_ne (fun q => absurd q.2 (by decide)))))
              have f116 := iv_at (a := 192) (k := 35) (lo := 0) (u := 20) hI (by decide +kernel)
              have f117 : (hf_up (hf_up (hf_up φ 192 14 (((10 * (φ 192 14)) + z16) - 48)) 192 13 ((φ 192 13) + 1)) 192 4 ((φ 192 4) + 1)) 192 36 = φ 192 36 := ((hf_up_ne (fun q => absurd q.2 (by decide))).trans ((hf_up_ne (fun q => absurd q.2 (by decide))).trans (hf_up_ne (fun q => absurd q.2 (by decide)))))
              have f118 := iv_at (a := 192) (k := 36) (lo := 0) (u := 45) hI (by decide +kernel)
              have f119 : (hf_up (hf_up (hf_up φ 192 14 (((10 * (φ 192 14)) + z16) - 48)) 192 13 ((φ 192 13) + 1)) 192 4 ((φ 192 4) + 1)) 192 38 = φ 192 38 := ((hf_up_ne (fun q => absurd q.2 (by decide))).trans ((hf_up_ne (fun q => absurd q.2 (by decide))).trans (hf_up_ne (fun q => absurd q.2 (by decide)))))
              have f120 := iv_at (a := 192) (k := 38) (lo := 0) (u := 1) hI (by decide +kernel)
              have f121 : (hf_up (hf_up (hf_up φ 192 14 (((10 * (φ 192 14)) + z16) - 48)) 192 13 ((φ 192 13) + 1)) 192 4 ((φ 192 4) + 1)) 192 4 = (φ 192 4) + 1 := hf_up_eq
              exact ih (hf_up (hf_up (hf_up φ 192 14 (((10 * (φ 192 14)) + z16) - 48)) 192 13 ((φ 192 13) + 1)) 192 4 ((φ 192 4) + 1)) (jm_st1 L 3 (0, 0)) l1 l2 0 (get_st1 g0 (by decide) (fun q => absurd q.1 (by decide))) (get_st1 g1 (by decide) (fun q => absurd q.1 (by decide))) (get_st1 g2 (by decide) (fun q => tg0 q.2)) get_st1e i106 (by omega) (by omega) (by omega) (by omega) (by omega) (by omega) (by omega) (by omega) (by omega) (by omega) (fun χ hIχ hFχ hVχ hEχ => hQ χ hIχ (fr_tr r106 hFχ (by decide)) (by omega) (e16.trans hEχ))
          · skip
            have e14b := e13a.trans (if_neg q14)
            refine sf_176_192 (φ := φ) hI  (fun z17 hp17 hE17 => ⟨rfl, rfl, z17, rfl, ?_⟩)
            have e17 := e14b.trans (bnp_e hE17)
            have i122 : Inv (hf_up φ 192 17 (hb_lor (hb_lshl (φ 192 17) 8) (hb_i2l z17))) := iv_upn hI (by decide) (by decide) (by decide +kernel)
            have r122 : Fr [193004, 193011, 193012, 193013, 193014, 193017] φ (hf_up φ 192 17 (hb_lor (hb_lshl (φ 192 17) 8) (hb_i2l z17))) := fr_up (fr_rf) (by decide)
            refine ⟨by unfold hi; omega, by unfold hi; omega, fun q18 => ?_, fun q18 => ?_⟩
            · skip
              have e18a := e17.trans (if_pos q18)
              have i123 : Inv (hf_up (hf_up φ 192 17 (hb_lor (hb_lshl (φ 192 17) 8) (hb_i2l z17))) 192 13 ((φ 192 13) + 1)) := iv_up (lo := 0) (u := 940) i122 (by decide +kernel) (by omega) (by omega)
              have r123 : Fr [193004, 193011, 193012, 193013, 193014, 193017] φ (hf_up (hf_up φ 192 17 (hb_lor (hb_lshl (φ 192 17) 8) (hb_i2l z17))) 192 13 ((φ 192 13) + 1)) := fr_up r122 (by decide)
              have i124 : Inv (hf_up (hf_up (hf_up φ 192 17 (hb_lor (hb_lshl (φ 192 17) 8) (hb_i2l z17))) 192 13 ((φ 192 13) + 1)) 192 4 ((φ 192 4) + 1)) := iv_up (lo := 0) (u := 940) i123 (by decide +kernel) (by omega) (by omega)
              have r124 : Fr [193004, 193011, 193012, 193013, 193014, 193017] φ (hf_up (hf_up (hf_up φ 192 17 (hb_lor (hb_lshl (φ 192 17) 8) (hb_i2l z17))) 192 13 ((φ 192 13) + 1)) 192 4 ((φ 192 4) + 1)) := fr_up r123 (by decide)
              have f125 : (hf_up (hf_up (hf_up φ 192 17 (hb_lor (hb_lshl (φ 192 17) 8) (hb_i2l z17))) 192 13 ((φ 192 13) + 1)) 192 4 ((φ 192 4) + 1)) 192 13 = (φ 192 13) + 1 := ((hf_up_ne (fun q => absurd q.2 (by decide))).trans hf_up_eq)
              have f126 : (hf_up (hf_up (hf_up φ 192 17 (hb_lor (hb_lshl (φ 192 17) 8) (hb_i2l z17))) 192 13 ((φ 192 13) + 1)) 192 4 ((φ 192 4) + 1)) 192 14 = φ 192 14 := ((hf_up_ne (fun q => absurd q.2 (by decide))).trans ((hf_up_ne (fun q => absurd q.2 (by decide))).trans (hf_up_ne (fun q => absurd q.2 (by decide)))))
              have f127 := iv_at (a := 192) (k := 14) (lo := 0) (u := 8214) hI (by decide +kernel)
              have f128 : (hf_up (hf_up (hf_up φ 192 17 (hb_lor (hb_lshl (φ 192 17) 8) (hb_i2l z17))) 192 13 ((φ 192 13) + 1)) 192 4 ((φ 192 4) + 1)) 192 18 = φ 192 18 := ((hf_up_ne (fun q => absurd q.2 (by decide))).trans ((hf_up_ne (fun q => absurd q.2 (by decide))).trans (hf_up_ne (fun q => absurd q.2 (by decide)))))
              have f129 := iv_at (a := 192) (k := 18) (lo := (-1 : Int)) (u := 999) hI (by decide +kernel)
              have f130 : (hf_up (hf_up (hf_up φ 192 17 (hb_lor (hb_lshl (φ 192 17) 8) (hb_i2l z17))) 192 13 ((φ 192 13) + 1)) 192 4 ((φ 192 4) + 1)) 192 30 = φ 192 30 := ((hf_up_ne (fun q => absurd q.2 (by decide))).trans ((hf_up_ne (fun q => absurd q.2 (by decide))).trans (hf_up_ne (fun q => absurd q.2 (by decide)))))
              have f131 := iv_at (a := 192) (k := 30) (lo := 0) (u := 40) hI (by decide +kernel)
              have f132 : (hf_up (hf_up (hf_up φ 192 17 (hb_lor (hb_lshl (φ 192 17) 8) (hb_i2l z17))) 192 13 ((φ 192 13) + 1)) 192 4 ((φ 192 4) + 1)) 192 34 = φ 192 34 := ((hf_up_ne (fun q => absurd q.2 (by decide))).trans ((hf_up_ne (fun q => absurd q.2 (by decide))).trans (hf_up_ne (fun q => absurd q.2 (by decide)))))
              have f133 := iv_at (a := 192) (k := 34) (lo := 0) (u := 45) hI (by decide +kernel)
              have f134 : (hf_up (hf_up (hf_up φ 192 17 (hb_lor (hb_lshl (φ 192 17) 8) (hb_i2l z17))) 192 13 ((φ 192 13) + 1)) 192 4 ((φ 192 4) + 1)) 192 35 = φ 192 35 := ((hf_up_ne (fun q => absurd q.2 (by decide))).trans ((hf_up_ne (fun q => absurd q.2 (by decide))).trans (hf_up_ne (fun q => absurd q.2 (by decide)))))
              have f135 := iv_at (a := 192) (k := 35) (lo := 0) (u := 20) hI (by decide +kernel)
              have f136 : (hf_up (hf_up (hf_up φ 192 17 (hb_lor (hb_lshl (φ 192 17) 8) (hb_i2l z17))) 192 13 ((φ 192 13) + 1)) 192 4 ((φ 192 4) + 1)) 192 36 = φ 192 36 := ((hf_up_ne (fun q => absurd q.2 (by decide))).trans ((hf_up_ne (fun q => absurd q.2 (by decide))).trans (hf_up_ne (fun q => absurd q.2 (by decide)))))
              have f137 := iv_at (a := 192) (k := 36) (lo := 0) (u := 45) hI (by decide +kernel)
              have f138 : (hf_up (hf_up (hf_up φ 192 17 (hb_lor (hb_lshl (φ 192 17) 8) (hb_i2l z17))) 192 13 ((φ 192 13) + 1)) 192 4 ((φ 192 4) + 1)) 192 38 = φ 192 38 := ((hf_up_ne (fun q => absurd q.2 (by decide))).trans ((hf_up_ne (fun q => absurd q.2 (by decide))).trans (hf_up_ne (fun q => absurd q.2 (by decide)))))
              have f139 := iv_at (a := 192) (k := 38) (lo := 0) (u := 1) hI (by decide +kernel)
              have f140 : (hf_up (hf_up (hf_up φ 192 17 (hb_lor (hb_lshl (φ 192 17) 8) (hb_i2l z17))) 192 13 ((φ 192 13) + 1)) 192 4 ((φ 192 4) + 1)) 192 4 = (φ 192 4) + 1 := hf_up_eq
              exact ih (hf_up (hf_up (hf_up φ 192 17 (hb_lor (hb_lshl (φ 192 17) 8) (hb_i2l z17))) 192 13 ((φ 192 13) + 1)) 192 4 ((φ 192 4) + 1)) (jm_st1 L 3 (0, 0)) l1 l2 0 (get_st1 g0 (by decide) (fun q => absurd q.1 (by decide))) (get_st1 g1 (by decide) (fun q => absurd q.1 (by decide))) (get_st1 g2 (by decide) (fun q => tg0 q.2)) get_st1e i124 (by omega) (by omega) (by omega) (by omega) (by omega) (by omega) (by omega) (by omega) (by omega) (by omega) (fun χ hIχ hFχ hVχ hEχ => hQ χ hIχ (fr_tr r124 hFχ (by decide)) (by omega) (e18a.trans hEχ))
            · skip
              have e18b := e17.trans (if_neg q18)
              have f141 := iv_at (a := 192) (k := 14) (lo := 0) (u := 8214) hI (by decide +kernel)
              refine sf_176_192 (φ := (hf_up φ 192 17 (hb_lor (hb_lshl (φ 192 17) 8) (hb_i2l z17)))) i122  (fun z19 hp19 hE19 => ⟨rfl, rfl, z19, rfl, ?_⟩)
              have e19 := e18b.trans (bnp_e hE19)
              have f142 : (hf_up φ 192 17 (hb_lor (hb_lshl (φ 192 17) 8) (hb_i2l z17))) 192 3 = φ 192 3 := (hf_up_ne (fun q => absurd q.2 (by decide)))
              have f143 : (hf_up φ 192 17 (hb_lor (hb_lshl (φ 192 17) 8) (hb_i2l z17))) 192 4 = φ 192 4 := (hf_up_ne (fun q => absurd q.2 (by decide)))
              have f144 := pk_b (hf_up φ 192 17 (hb_lor (hb_lshl (φ 192 17) 8) (hb_i2l z17)))
              have f145 := pk_c (φ := φ) (ψ := (hf_up φ 192 17 (hb_lor (hb_lshl (φ 192 17) 8) (hb_i2l z17)))) (hf_up_ne (fun q => absurd q.2 (by decide))) (hf_up_ne (fun q => absurd q.2 (by decide))) (fun kk => (hf_up_ne (fun q => absurd q.1 (by decide))))
              have i146 : Inv (hf_up (hf_up φ 192 17 (hb_lor (hb_lshl (φ 192 17) 8) (hb_i2l z17))) 192 14 (((10 * (φ 192 14)) + z19) - 48)) := iv_up (lo := 0) (u := 8214) i122 (by decide +kernel) (by omega) (by omega)
              have r146 : Fr [193004, 193011, 193012, 193013, 193014, 193017] φ (hf_up (hf_up φ 192 17 (hb_lor (hb_lshl (φ 192 17) 8) (hb_i2l z17))) 192 14 (((10 * (φ 192 14)) + z19) - 48)) := fr_up r122 (by decide)
              have i147 : Inv (hf_up (hf_up (hf_up φ 192 17 (hb_lor (hb_lshl (φ 192 17) 8) (hb_i2l z17))) 192 14 (((10 * (φ 192 14)) + z19) - 48)) 192 13 ((φ 192 13) + 1)) := iv_up (lo := 0) (u := 940) i146 (by decide +kernel) (by omega) (by omega)
              have r147 : Fr [193004, 193011, 193012, 193013, 193014, 193017] φ (hf_up (hf_up (hf_up φ 192 17 (hb_lor (hb_lshl (φ 192 17) 8) (hb_i2l z17))) 192 14 (((10 * (φ 192 14)) + z19) - 48)) 192 13 ((φ 192 13) + 1)) := fr_up r146 (by decide)
              have i148 : Inv (hf_up (hf_up (hf_up (hf_up φ 192 17 (hb_lor (hb_lshl (φ 192 17) 8) (hb_i2l z17))) 192 14 (((10 * (φ 192 14)) + z19) - 48)) 192 13 ((φ 192 13) + 1)) 192 4 ((φ 192 4) + 1)) := iv_up (lo := 0) (u := 940) i147 (by decide +kernel) (by omega) (by omega)
              have r148 : Fr [193004, 193011, 193012, 193013, 193014, 193017] φ (hf_up (hf_up (hf_up (hf_up φ 192 17 (hb_lor (hb_lshl (φ 192 17) 8) (hb_i2l z17))) 192 14 (((10 * (φ 192 14)) + z19) - 48)) 192 13 ((φ 192 13) + 1)) 192 4 ((φ 192 4) + 1)) := fr_up r147 (by decide)
              have f149 : (hf_up (hf_up (hf_up (hf_up φ 192 17 (hb_lor (hb_lshl (φ 192 17) 8) (hb_i2l z17))) 192 14 (((10 * (φ 192 14)) + z19) - 48)) 192 13 ((φ 192 13) + 1)) 192 4 ((φ 192 4) + 1)) 192 13 = (φ 192 13) + 1 := ((hf_up_ne (fun q => absurd q.2 (by decide))).trans hf_up_eq)
              have f150 : (hf_up (hf_up (hf_up (hf_up φ 192 17 (hb_lor (hb_lshl (φ 192 17) 8) (hb_i2l z17))) 192 14 (((10 * (φ 192 14)) + z19) - 48)) 192 13 ((φ 192 13) + 1)) 192 4 ((φ 192 4) + 1)) 192 14 = ((10 * (φ 192 14)) + z19) - 48 := ((hf_up_ne (fun q => absurd q.2 (by decide))).trans ((hf_up_ne (fun q => absurd q.2 (by decide))).trans hf_up_eq))
              have f151 : (hf_up (hf_up (hf_up (hf_up φ 192 17 (hb_lor (hb_lshl (φ 192 17) 8) (hb_i2l z17))) 192 14 (((10 * (φ 192 14)) + z19) - 48)) 192 13 ((φ 192 13) + 1)) 192 4 ((φ 192 4) + 1)) 192 18 = φ 192 18 := ((hf_up_ne (fun q => absurd q.2 (by decide))).trans ((hf_up_ne (fun q => absurd q.2 (by decide))).trans ((hf_up_ne (fun q => absurd q.2 (by decide))).trans (hf_up_ne (fun q => absurd q.2 (by decide))))))
              have f152 := iv_at (a := 192) (k := 18) (lo := (-1 : Int)) (u := 999) hI (by decide +kernel)
              have f153 : (hf_up (hf_up (hf_up (hf_up φ 192 17 (hb_lor (hb_lshl (φ 192 17) 8) (hb_i2l z17))) 192 14 (((10 * (φ 192 14)) + z19) - 48)) 192 13 ((φ 192 13) + 1)) 192 4 ((φ 192 4) + 1)) 192 30 = φ 192 30 := ((hf_up_ne (fun q => absurd q.2 (by decide))).trans ((hf_up_ne (fun q => absurd q.2 (by decide))).trans ((hf_up_ne (fun q => absurd q.2 (by decide))).trans (hf_up_ne (fun q => absurd q.2 (by decide))))))
              have f154 := iv_at (a := 192) (k := 30) (lo := 0) (u := 40) hI (by decide +kernel)
              have f155 : (hf_up (hf_up (hf_up (hf_up φ 192 17 (hb_lor (hb_lshl (φ 192 17) 8) (hb_i2l z17))) 192 14 (((10 * (φ 192 14)) + z19) - 48)) 192 13 ((φ 192 13) + 1)) 192 4 ((φ 192 4) + 1)) 192 34 = φ 192 34 := ((hf_up_ne (fun q => absurd q.2 (by decide))).trans ((hf_up_ne (fun q => absurd q.2 (by decide))).trans ((hf_up_ne (fun q => absurd q.2 (by decide))).trans (hf_up_ne (fun q => absurd q.2 (by decide))))))
              have f156 := iv_at (a := 192) (k := 34) (lo := 0) (u := 45) hI (by decide +kernel)
              have f157 : (hf_up (hf_up (hf_up (hf_up φ 192 17 (hb_lor (hb_lshl (φ 192 17) 8) (hb_i2l z17))) 192 14 (((10 * (φ 192 14)) + z19) - 48)) 192 13 ((φ 192 13) + 1)) 192 4 ((φ 192 4) + 1)) 192 35 = φ 192 35 := ((hf_up_ne (fun q => absurd q.2 (by decide))).trans ((hf_up_ne (fun q => absurd q.2 (by decide))).trans ((hf_up_ne (fun q => absurd q.2 (by decide))).trans (hf_up_ne (fun q => absurd q.2 (by decide))))))
              have f158 := iv_at (a := 192) (k := 35) (lo := 0) (u := 20) hI (by decide +kernel)
              have f159 : (hf_up (hf_up (hf_up (hf_up φ 192 17 (hb_lor (hb_lshl (φ 192 17) 8) (hb_i2l z17))) 192 14 (((10 * (φ 192 14)) + z19) - 48)) 192 13 ((φ 192 13) + 1)) 192 4 ((φ 192 4) + 1)) 192 36 = φ 192 36 := ((hf_up_ne (fun q => absurd q.2 (by decide))).trans ((hf_up_ne (fun q => absurd q.2 (by decide))).trans ((hf_up_ne (fun q => absurd q.2 (by decide))).trans (hf_up_ne (fun q => absurd q.2 (by decide))))))
              have f160 := iv_at (a := 192) (k := 36) (lo := 0) (u := 45) hI (by decide +kernel)
              have f161 : (hf_up (hf_up (hf_up (hf_up φ 192 17 (hb_lor (hb_lshl (φ 192 17) 8) (hb_i2l z17))) 192 14 (((10 * (φ 192 14)) + z19) - 48)) 192 13 ((φ 192 13) + 1)) 192 4 ((φ 192 4) + 1)) 192 38 = φ 192 38 := ((hf_up_ne (fun q => absurd q.2 (by decide))).trans ((hf_up_ne (fun q => absurd q.2 (by decide))).trans ((hf_up_ne (fun q => absurd q.2 (by decide))).trans (hf_up_ne (fun q => absurd q.2 (by decide))))))
              have f162 := iv_at (a := 192) (k := 38) (lo := 0) (u := 1) hI (by decide +kernel)
              have f163 : (hf_up (hf_up (hf_up (hf_up φ 192 17 (hb_lor (hb_lshl (φ 192 17) 8) (hb_i2l z17))) 192 14 (((10 * (φ 192 14)) + z19) - 48)) 192 13 ((φ 192 13) + 1)) 192 4 ((φ 192 4) + 1)) 192 4 = (φ 192 4) + 1 := hf_up_eq
              exact ih (hf_up (hf_up (hf_up (hf_up φ 192 17 (hb_lor (hb_lshl (φ 192 17) 8) (hb_i2l z17))) 192 14 (((10 * (φ 192 14)) + z19) - 48)) 192 13 ((φ 192 13) + 1)) 192 4 ((φ 192 4) + 1)) (jm_st1 L 3 (0, 0)) l1 l2 0 (get_st1 g0 (by decide) (fun q => absurd q.1 (by decide))) (get_st1 g1 (by decide) (fun q => absurd q.1 (by decide))) (get_st1 g2 (by decide) (fun q => tg0 q.2)) get_st1e i148 (by omega) (by omega) (by omega) (by omega) (by omega) (by omega) (by omega) (by omega) (by omega) (by omega) (fun χ hIχ hFχ hVχ hEχ => hQ χ hIχ (fr_tr r148 hFχ (by decide)) (by omega) (e19.trans hEχ))
        · skip
          have e13b := e12.trans (if_neg q13)
          have f164 := iv_at (a := 192) (k := 13) (lo := 0) (u := 940) hI (by decide +kernel)
          refine ⟨by unfold hi; omega, by unfold hi; omega, fun q20 => ?_, fun q20 => ?_⟩
          · skip
            have e20a := e13b.trans (if_pos q20)
            refine ⟨by unfold hi; omega, by unfold hi; omega, fun q21 => ?_, fun q21 => ?_⟩
            · skip
              have e21a := e20a.trans (if_pos q21)
              have i165 : Inv (hf_up φ 192 13 ((φ 192 13) + 1)) := iv_up (lo := 0) (u := 940) hI (by decide +kernel) (by omega) (by omega)
              have r165 : Fr [193004, 193011, 193012, 193013, 193014, 193017] φ (hf_up φ 192 13 ((φ 192 13) + 1)) := fr_up (fr_rf) (by decide)
              have i166 : Inv (hf_up (hf_up φ 192 13 ((φ 192 13) + 1)) 192 4 ((φ 192 4) + 1)) := iv_up (lo := 0) (u := 940) i165 (by decide +kernel) (by omega) (by omega)
              have r166 : Fr [193004, 193011, 193012, 193013, 193014, 193017] φ (hf_up (hf_up φ 192 13 ((φ 192 13) + 1)) 192 4 ((φ 192 4) + 1)) := fr_up r165 (by decide)
              have f167 : (hf_up (hf_up φ 192 13 ((φ 192 13) + 1)) 192 4 ((φ 192 4) + 1)) 192 13 = (φ 192 13) + 1 := ((hf_up_ne (fun q => absurd q.2 (by decide))).trans hf_up_eq)
              have f168 : (hf_up (hf_up φ 192 13 ((φ 192 13) + 1)) 192 4 ((φ 192 4) + 1)) 192 14 = φ 192 14 := ((hf_up_ne (fun q => absurd q.2 (by decide))).trans (hf_up_ne (fun q => absurd q.2 (by decide))))
              have f169 := iv_at (a := 192) (k := 14) (lo := 0) (u := 8214) hI (by decide +kernel)
              have f170 : (hf_up (hf_up φ 192 13 ((φ 192 13) + 1)) 192 4 ((φ 192 4) + 1)) 192 18 = φ 192 18 := ((hf_up_ne (fun q => absurd q.2 (by decide))).trans (hf_up_ne (fun q => absurd q.2 (by decide))))
              have f171 := iv_at (a := 192) (k := 18) (lo := (-1 : Int)) (u := 999) hI (by decide +kernel)
              have f172 : (hf_up (hf_up φ 192 13 ((φ 192 13) + 1)) 192 4 ((φ 192 4) + 1)) 192 30 = φ 192 30 := ((hf_up_ne (fun q => absurd q.2 (by decide))).trans (hf_up_ne (fun q => absurd q.2 (by decide))))
              have f173 := iv_at (a := 192) (k := 30) (lo := 0) (u := 40) hI (by decide +kernel)
              have f174 : (hf_up (hf_up φ 192 13 ((φ 192 13) + 1)) 192 4 ((φ 192 4) + 1)) 192 34 = φ 192 34 := ((hf_up_ne (fun q => absurd q.2 (by decide))).trans (hf_up_ne (fun q => absurd q.2 (by decide))))
              have f175 := iv_at (a := 192) (k := 34) (lo := 0) (u := 45) hI (by decide +kernel)
              have f176 : (hf_up (hf_up φ 192 13 ((φ 192 13) + 1)) 192 4 ((φ 192 4) + 1)) 192 35 = φ 192 35 := ((hf_up_ne (fun q => absurd q.2 (by decide))).trans (hf_up_ne (fun q => absurd q.2 (by decide))))
              have f177 := iv_at (a := 192) (k := 35) (lo := 0) (u := 20) hI (by decide +kernel)
              have f178 : (hf_up (hf_up φ 192 13 ((φ 192 13) + 1)) 192 4 ((φ 192 4) + 1)) 192 36 = φ 192 36 := ((hf_up_ne (fun q => absurd q.2 (by decide))).trans (hf_up_ne (fun q => absurd q.2 (by decide))))
              have f179 := iv_at (a := 192) (k := 36) (lo := 0) (u := 45) hI (by decide +kernel)
              have f180 : (hf_up (hf_up φ 192 13 ((φ 192 13) + 1)) 192 4 ((φ 192 4) + 1)) 192 38 = φ 192 38 := ((hf_up_ne (fun q => absurd q.2 (by decide))).trans (hf_up_ne (fun q => absurd q.2 (by decide))))
              have f181 := iv_at (a := 192) (k := 38) (lo := 0) (u := 1) hI (by decide +kernel)
              have f182 : (hf_up (hf_up φ 192 13 ((φ 192 13) + 1)) 192 4 ((φ 192 4) + 1)) 192 4 = (φ 192 4) + 1 := hf_up_eq
              exact ih (hf_up (hf_up φ 192 13 ((φ 192 13) + 1)) 192 4 ((φ 192 4) + 1)) (jm_st1 L 3 (0, 1)) l1 l2 1 (get_st1 g0 (by decide) (fun q => absurd q.1 (by decide))) (get_st1 g1 (by decide) (fun q => absurd q.1 (by decide))) (get_st1 g2 (by decide) (fun q => tg0 q.2)) get_st1e i166 (by omega) (by omega) (by omega) (by omega) (by omega) (by omega) (by omega) (by omega) (by omega) (by omega) (fun χ hIχ hFχ hVχ hEχ => hQ χ hIχ (fr_tr r166 hFχ (by decide)) (by omega) (e21a.trans hEχ))
            · skip
              have e21b := e20a.trans (if_neg q21)
              have f183 := iv_at (a := 192) (k := 14) (lo := 0) (u := 8214) hI (by decide +kernel)
              refine sf_176_192 (φ := φ) hI  (fun z22 hp22 hE22 => ⟨rfl, rfl, z22, rfl, ?_⟩)
              have e22 := e21b.trans (bnp_e hE22)
              have i184 : Inv (hf_up φ 192 14 (((10 * (φ 192 14)) + z22) - 48)) := iv_up (lo := 0) (u := 8214) hI (by decide +kernel) (by omega) (by omega)
              have r184 : Fr [193004, 193011, 193012, 193013, 193014, 193017] φ (hf_up φ 192 14 (((10 * (φ 192 14)) + z22) - 48)) := fr_up (fr_rf) (by decide)
              have i185 : Inv (hf_up (hf_up φ 192 14 (((10 * (φ 192 14)) + z22) - 48)) 192 13 ((φ 192 13) + 1)) := iv_up (lo := 0) (u := 940) i184 (by decide +kernel) (by omega) (by omega)
              have r185 : Fr [193004, 193011, 193012, 193013, 193014, 193017] φ (hf_up (hf_up φ 192 14 (((10 * (φ 192 14)) + z22) - 48)) 192 13 ((φ 192 13) + 1)) := fr_up r184 (by decide)
              have i186 : Inv (hf_up (hf_up (hf_up φ 192 14 (((10 * (φ 192 14)) + z22) - 48)) 192 13 ((φ 192 13) + 1)) 192 4 ((φ 192 4) + 1)) := iv_up (lo := 0) (u := 940) i185 (by decide +kernel) (by omega) (by omega)
              have r186 : Fr [193004, 193011, 193012, 193013, 193014, 193017] φ (hf_up (hf_up (hf_up φ 192 14 (((10 * (φ 192 14)) + z22) - 48)) 192 13 ((φ 192 13) + 1)) 192 4 ((φ 192 4) + 1)) := fr_up r185 (by decide)
              have f187 : (hf_up (hf_up (hf_up φ 192 14 (((10 * (φ 192 14)) + z22) - 48)) 192 13 ((φ 192 13) + 1)) 192 4 ((φ 192 4) + 1)) 192 13 = (φ 192 13) + 1 := ((hf_up_ne (fun q => absurd q.2 (by decide))).trans hf_up_eq)
              have f188 : (hf_up (hf_up (hf_up φ 192 14 (((10 * (φ 192 14)) + z22) - 48)) 192 13 ((φ 192 13) + 1)) 192 4 ((φ 192 4) + 1)) 192 14 = ((10 * (φ 192 14)) + z22) - 48 := ((hf_up_ne (fun q => absurd q.2 (by decide))).trans ((hf_up_ne (fun q => absurd q.2 (by decide))).trans hf_up_eq))
              have f189 : (hf_up (hf_up (hf_up φ 192 14 (((10 * (φ 192 14)) + z22) - 48)) 192 13 ((φ 192 13) + 1)) 192 4 ((φ 192 4) + 1)) 192 18 = φ 192 18 := ((hf_up_ne (fun q => absurd q.2 (by decide))).trans ((hf_up_ne (fun q => absurd q.2 (by decide))).trans (hf_up_ne (fun q => absurd q.2 (by decide)))))
              have f190 := iv_at (a := 192) (k := 18) (lo := (-1 : Int)) (u := 999) hI (by decide +kernel)
              have f191 : (hf_up (hf_up (hf_up φ 192 14 (((10 * (φ 192 14)) + z22) - 48)) 192 13 ((φ 192 13) + 1)) 192 4 ((φ 192 4) + 1)) 192 30 = φ 192 30 := ((hf_up_ne (fun q => absurd q.2 (by decide))).trans ((hf_up_ne (fun q => absurd q.2 (by decide))).trans (hf_up_ne (fun q => absurd q.2 (by decide)))))
              have f192 := iv_at (a := 192) (k := 30) (lo := 0) (u := 40) hI (by decide +kernel)
              have f193 : (hf_up (hf_up (hf_up φ 192 14 (((10 * (φ 192 14)) + z22) - 48)) 192 13 ((φ 192 13) + 1)) 192 4 ((φ 192 4) + 1)) 192 34 = φ 192 34 := ((hf_up_ne (fun q => absurd q.2 (by decide))).trans ((hf_up_ne (fun q => absurd q.2 (by decide))).trans (hf_up_ne (fun q => absurd q.2 (by decide)))))
              have f194 := iv_at (a := 192) (k := 34) (lo := 0) (u := 45) hI (by decide +kernel)
              have f195 : (hf_up (hf_up (hf_up φ 192 14 (((10 * (φ 192 14)) + z22) - 48)) 192 13 ((φ 192 13) + 1)) 192 4 ((φ 192 4) + 1)) 192 35 = φ 192 35 := ((hf_up_ne (fun q => absurd q.2 (by decide))).trans ((hf_up_ne (fun q => absurd q.2 (by decide))).trans (hf_up_ne (fun q => absurd q.2 (by decide)))))
              have f196 := iv_at (a := 192) (k := 35) (lo := 0) (u := 20) hI (by decide +kernel)
              have f197 : (hf_up (hf_up (hf_up φ 192 14 (((10 * (φ 192 14)) + z22) - 48)) 192 13 ((φ 192 13) + 1)) 192 4 ((φ 192 4) + 1)) 192 36 = φ 192 36 := ((hf_up_ne (fun q => absurd q.2 (by decide))).trans ((hf_up_ne (fun q => absurd q.2 (by decide))).trans (hf_up_ne (fun q => absurd q.2 (by decide)))))
              have f198 := iv_at (a := 192) (k := 36) (lo := 0) (u := 45) hI (by decide +kernel)
              have f199 : (hf_up (hf_up (hf_up φ 192 14 (((10 * (φ 192 14)) + z22) - 48)) 192 13 ((φ 192 13) + 1)) 192 4 ((φ 192 4) + 1)) 192 38 = φ 192 38 := ((hf_up_ne (fun q => absurd q.2 (by decide))).trans ((hf_up_ne (fun q => absurd q.2 (by decide))).trans (hf_up_ne (fun q => absurd q.2 (by decide)))))
              have f200 := iv_at (a := 192) (k := 38) (lo := 0) (u := 1) hI (by decide +kernel)
              have f201 : (hf_up (hf_up (hf_up φ 192 14 (((10 * (φ 192 14)) + z22) - 48)) 192 13 ((φ 192 13) + 1)) 192 4 ((φ 192 4) + 1)) 192 4 = (φ 192 4) + 1 := hf_up_eq
              exact ih (hf_up (hf_up (hf_up φ 192 14 (((10 * (φ 192 14)) + z22) - 48)) 192 13 ((φ 192 13) + 1)) 192 4 ((φ 192 4) + 1)) (jm_st1 L 3 (0, 1)) l1 l2 1 (get_st1 g0 (by decide) (fun q => absurd q.1 (by decide))) (get_st1 g1 (by decide) (fun q => absurd q.1 (by decide))) (get_st1 g2 (by decide) (fun q => tg0 q.2)) get_st1e i186 (by omega) (by omega) (by omega) (by omega) (by omega) (by omega) (by omega) (by omega) (by omega) (by omega) (fun χ hIχ hFχ hVχ hEχ => hQ χ hIχ (fr_tr r186 hFχ (by decide)) (by omega) (e22.trans hEχ))
          · skip
            have e20b := e13b.trans (if_neg q20)
            refine sf_176_192 (φ := φ) hI  (fun z23 hp23 hE23 => ⟨rfl, rfl, z23, rfl, ?_⟩)
            have e23 := e20b.trans (bnp_e hE23)
            have i202 : Inv (hf_up φ 192 17 (hb_lor (hb_lshl (φ 192 17) 8) (hb_i2l z23))) := iv_upn hI (by decide) (by decide) (by decide +kernel)
            have r202 : Fr [193004, 193011, 193012, 193013, 193014, 193017] φ (hf_up φ 192 17 (hb_lor (hb_lshl (φ 192 17) 8) (hb_i2l z23))) := fr_up (fr_rf) (by decide)
            refine ⟨by unfold hi; omega, by unfold hi; omega, fun q24 => ?_, fun q24 => ?_⟩
            · skip
              have e24a := e23.trans (if_pos q24)
              have i203 : Inv (hf_up (hf_up φ 192 17 (hb_lor (hb_lshl (φ 192 17) 8) (hb_i2l z23))) 192 13 ((φ 192 13) + 1)) := iv_up (lo := 0) (u := 940) i202 (by decide +kernel) (by omega) (by omega)
              have r203 : Fr [193004, 193011, 193012, 193013, 193014, 193017] φ (hf_up (hf_up φ 192 17 (hb_lor (hb_lshl (φ 192 17) 8) (hb_i2l z23))) 192 13 ((φ 192 13) + 1)) := fr_up r202 (by decide)
              have i204 : Inv (hf_up (hf_up (hf_up φ 192 17 (hb_lor (hb_lshl (φ 192 17) 8) (hb_i2l z23))) 192 13 ((φ 192 13) + 1)) 192 4 ((φ 192 4) + 1)) := iv_up (lo := 0) (u := 940) i203 (by decide +kernel) (by omega) (by omega)
              have r204 : Fr [193004, 193011, 193012, 193013, 193014, 193017] φ (hf_up (hf_up (hf_up φ 192 17 (hb_lor (hb_lshl (φ 192 17) 8) (hb_i2l z23))) 192 13 ((φ 192 13) + 1)) 192 4 ((φ 192 4) + 1)) := fr_up r203 (by decide)
              have f205 : (hf_up (hf_up (hf_up φ 192 17 (hb_lor (hb_lshl (φ 192 17) 8) (hb_i2l z23))) 192 13 ((φ 192 13) + 1)) 192 4 ((φ 192 4) + 1)) 192 13 = (φ 192 13) + 1 := ((hf_up_ne (fun q => absurd q.2 (by decide))).trans hf_up_eq)
              have f206 : (hf_up (hf_up (hf_up φ 192 17 (hb_lor (hb_lshl (φ 192 17) 8) (hb_i2l z23))) 192 13 ((φ 192 13) + 1)) 192 4 ((φ 192 4) + 1)) 192 14 = φ 192 14 := ((hf_up_ne (fun q => absurd q.2 (by decide))).trans ((hf_up_ne (fun q => absurd q.2 (by decide))).trans (hf_up_ne (fun q => absurd q.2 (by decide)))))
              have f207 := iv_at (a := 192) (k := 14) (lo := 0) (u := 8214) hI (by decide +kernel)
              have f208 : (hf_up (hf_up (hf_up φ 192 17 (hb_lor (hb_lshl (φ 192 17) 8) (hb_i2l z23))) 192 13 ((φ 192 13) + 1)) 192 4 ((φ 192 4) + 1)) 192 18 = φ 192 18 := ((hf_up_ne (fun q => absurd q.2 (by decide))).trans ((hf_up_ne (fun q => absurd q.2 (by decide))).trans (hf_up_ne (fun q => absurd q.2 (by decide)))))
              have f209 := iv_at (a := 192) (k := 18) (lo := (-1 : Int)) (u := 999) hI (by decide +kernel)
              have f210 : (hf_up (hf_up (hf_up φ 192 17 (hb_lor (hb_lshl (φ 192 17) 8) (hb_i2l z23))) 192 13 ((φ 192 13) + 1)) 192 4 ((φ 192 4) + 1)) 192 30 = φ 192 30 := ((hf_up_ne (fun q => absurd q.2 (by decide))).trans ((hf_up_ne (fun q => absurd q.2 (by decide))).trans (hf_up_ne (fun q => absurd q.2 (by decide)))))
              have f211 := iv_at (a := 192) (k := 30) (lo := 0) (u := 40) hI (by decide +kernel)
              have f212 : (hf_up (hf_up (hf_up φ 192 17 (hb_lor (hb_lshl (φ 192 17) 8) (hb_i2l z23))) 192 13 ((φ 192 13) + 1)) 192 4 ((φ 192 4) + 1)) 192 34 = φ 192 34 := ((hf_up_ne (fun q => absurd q.2 (by decide))).trans ((hf_up_ne (fun q => absurd q.2 (by decide))).trans (hf_up_ne (fun q => absurd q.2 (by decide)))))
              have f213 := iv_at (a := 192) (k := 34) (lo := 0) (u := 45) hI (by decide +kernel)
              have f214 : (hf_up (hf_up (hf_up φ 192 17 (hb_lor (hb_lshl (φ 192 17) 8) (hb_i2l z23))) 192 13 ((φ 192 13) + 1)) 192 4 ((φ 192 4) + 1)) 192 35 = φ 192 35 := ((hf_up_ne (fun q => absurd q.2 (by decide))).trans ((hf_up_ne (fun q => absurd q.2 (by decide))).trans (hf_up_ne (fun q => absurd q.2 (by decide)))))
              have f215 := iv_at (a := 192) (k := 35) (lo := 0) (u := 20) hI (by decide +kernel)
              have f216 : (hf_up (hf_up (hf_up φ 192 17 (hb_lor (hb_lshl (φ 192 17) 8) (hb_i2l z23))) 192 13 ((φ 192 13) + 1)) 192 4 ((φ 192 4) + 1)) 192 36 = φ 192 36 := ((hf_up_ne (fun q => absurd q.2 (by decide))).trans ((hf_up_ne (fun q => absurd q.2 (by decide))).trans (hf_up_ne (fun q => absurd q.2 (by decide)))))
              have f217 := iv_at (a := 192) (k := 36) (lo := 0) (u := 45) hI (by decide +kernel)
              have f218 : (hf_up (hf_up (hf_up φ 192 17 (hb_lor (hb_lshl (φ 192 17) 8) (hb_i2l z23))) 192 13 ((φ 192 13) + 1)) 192 4 ((φ 192 4) + 1)) 192 38 = φ 192 38 := ((hf_up_ne (fun q => absurd q.2 (by decide))).trans ((hf_up_ne (fun q => absurd q.2 (by decide))).trans (hf_up_ne (fun q => absurd q.2 (by decide)))))
              have f219 := iv_at (a := 192) (k := 38) (lo := 0) (u := 1) hI (by decide +kernel)
              have f220 : (hf_up (hf_up (hf_up φ 192 17 (hb_lor (hb_lshl (φ 192 17) 8) (hb_i2l z23))) 192 13 ((φ 192 13) + 1)) 192 4 ((φ 192 4) + 1)) 192 4 = (φ 192 4) + 1 := hf_up_eq
              exact ih (hf_up (hf_up (hf_up φ 192 17 (hb_lor (hb_lshl (φ 192 17) 8) (hb_i2l z23))) 192 13 ((φ 192 13) + 1)) 192 4 ((φ 192 4) + 1)) (jm_st1 L 3 (0, 1)) l1 l2 1 (get_st1 g0 (by decide) (fun q => absurd q.1 (by decide))) (get_st1 g1 (by decide) (fun q => absurd q.1 (by decide))) (get_st1 g2 (by decide) (fun q => tg0 q.2)) get_st1e i204 (by omega) (by omega) (by omega) (by omega) (by omega) (by omega) (by omega) (by omega) (by omega) (by omega) (fun χ hIχ hFχ hVχ hEχ => hQ χ hIχ (fr_tr r204 hFχ (by decide)) (by omega) (e24a.trans hEχ))
            · skip
              have e24b := e23.trans (if_neg q24)
              have f221 := iv_at (a := 192) (k := 14) (lo := 0) (u := 8214) hI (by decide +kernel)
              refine sf_176_192 (φ := (hf_up φ 192 17 (hb_lor (hb_lshl (φ 192 17) 8) (hb_i2l z23)))) i202  (fun z25 hp25 hE25 => ⟨rfl, rfl, z25, rfl, ?_⟩)
              have e25 := e24b.trans (bnp_e hE25)
              have f222 : (hf_up φ 192 17 (hb_lor (hb_lshl (φ 192 17) 8) (hb_i2l z23))) 192 3 = φ 192 3 := (hf_up_ne (fun q => absurd q.2 (by decide)))
              have f223 : (hf_up φ 192 17 (hb_lor (hb_lshl (φ 192 17) 8) (hb_i2l z23))) 192 4 = φ 192 4 := (hf_up_ne (fun q => absurd q.2 (by decide)))
              have f224 := pk_b (hf_up φ 192 17 (hb_lor (hb_lshl (φ 192 17) 8) (hb_i2l z23)))
              have f225 := pk_c (φ := φ) (ψ := (hf_up φ 192 17 (hb_lor (hb_lshl (φ 192 17) 8) (hb_i2l z23)))) (hf_up_ne (fun q => absurd q.2 (by decide))) (hf_up_ne (fun q => absurd q.2 (by decide))) (fun kk => (hf_up_ne (fun q => absurd q.1 (by decide))))
              have i226 : Inv (hf_up (hf_up φ 192 17 (hb_lor (hb_lshl (φ 192 17) 8) (hb_i2l z23))) 192 14 (((10 * (φ 192 14)) + z25) - 48)) := iv_up (lo := 0) (u := 8214) i202 (by decide +kernel) (by omega) (by omega)
              have r226 : Fr [193004, 193011, 193012, 193013, 193014, 193017] φ (hf_up (hf_up φ 192 17 (hb_lor (hb_lshl (φ 192 17) 8) (hb_i2l z23))) 192 14 (((10 * (φ 192 14)) + z25) - 48)) := fr_up r202 (by decide)
              have i227 : Inv (hf_up (hf_up (hf_up φ 192 17 (hb_lor (hb_lshl (φ 192 17) 8) (hb_i2l z23))) 192 14 (((10 * (φ 192 14)) + z25) - 48)) 192 13 ((φ 192 13) + 1)) := iv_up (lo := 0) (u := 940) i226 (by decide +kernel) (by omega) (by omega)
              have r227 : Fr [193004, 193011, 193012, 193013, 193014, 193017] φ (hf_up (hf_up (hf_up φ 192 17 (hb_lor (hb_lshl (φ 192 17) 8) (hb_i2l z23))) 192 14 (((10 * (φ 192 14)) + z25) - 48)) 192 13 ((φ 192 13) + 1)) := fr_up r226 (by decide)
              have i228 : Inv (hf_up (hf_up (hf_up (hf_up φ 192 17 (hb_lor (hb_lshl (φ 192 17) 8) (hb_i2l z23))) 192 14 (((10 * (φ 192 14)) + z25) - 48)) 192 13 ((φ 192 13) + 1)) 192 4 ((φ 192 4) + 1)) := iv_up (lo := 0) (u := 940) i227 (by decide +kernel) (by omega) (by omega)
              have r228 : Fr [193004, 193011, 193012, 193013, 193014, 193017] φ (hf_up (hf_up (hf_up (hf_up φ 192 17 (hb_lor (hb_lshl (φ 192 17) 8) (hb_i2l z23))) 192 14 (((10 * (φ 192 14)) + z25) - 48)) 192 13 ((φ 192 13) + 1)) 192 4 ((φ 192 4) + 1)) := fr_up r227 (by decide)
              have f229 : (hf_up (hf_up (hf_up (hf_up φ 192 17 (hb_lor (hb_lshl (φ 192 17) 8) (hb_i2l z23))) 192 14 (((10 * (φ 192 14)) + z25) - 48)) 192 13 ((φ 192 13) + 1)) 192 4 ((φ 192 4) + 1)) 192 13 = (φ 192 13) + 1 := ((hf_up_ne (fun q => absurd q.2 (by decide))).trans hf_up_eq)
              have f230 : (hf_up (hf_up (hf_up (hf_up φ 192 17 (hb_lor (hb_lshl (φ 192 17) 8) (hb_i2l z23))) 192 14 (((10 * (φ 192 14)) + z25) - 48)) 192 13 ((φ 192 13) + 1)) 192 4 ((φ 192 4) + 1)) 192 14 = ((10 * (φ 192 14)) + z25) - 48 := ((hf_up_ne (fun q => absurd q.2 (by decide))).trans ((hf_up_ne (fun q => absurd q.2 (by decide))).trans hf_up_eq))
              have f231 : (hf_up (hf_up (hf_up (hf_up φ 192 17 (hb_lor (hb_lshl (φ 192 17) 8) (hb_i2l z23))) 192 14 (((10 * (φ 192 14)) + z25) - 48)) 192 13 ((φ 192 13) + 1)) 192 4 ((φ 192 4) + 1)) 192 18 = φ 192 18 := ((hf_up_ne (fun q => absurd q.2 (by decide))).trans ((hf_up_ne (fun q => absurd q.2 (by decide))).trans ((hf_up_ne (fun q => absurd q.2 (by decide))).trans (hf_up_ne (fun q => absurd q.2 (by decide))))))
              have f232 := iv_at (a := 192) (k := 18) (lo := (-1 : Int)) (u := 999) hI (by decide +kernel)
              have f233 : (hf_up (hf_up (hf_up (hf_up φ 192 17 (hb_lor (hb_lshl (φ 192 17) 8) (hb_i2l z23))) 192 14 (((10 * (φ 192 14)) + z25) - 48)) 192 13 ((φ 192 13) + 1)) 192 4 ((φ 192 4) + 1)) 192 30 = φ 192 30 := ((hf_up_ne (fun q => absurd q.2 (by decide))).trans ((hf_up_ne (fun q => absurd q.2 (by decide))).trans ((hf_up_ne (fun q => absurd q.2 (by decide))).trans (hf_up_ne (fun q => absurd q.2 (by decide))))))
              have f234 := iv_at (a := 192) (k := 30) (lo := 0) (u := 40) hI (by decide +kernel)
              have f235 : (hf_up (hf_up (hf_up (hf_up φ 192 17 (hb_lor (hb_lshl (φ 192 17) 8) (hb_i2l z23))) 192 14 (((10 * (φ 192 14)) + z25) - 48)) 192 13 ((φ 192 13) + 1)) 192 4 ((φ 192 4) + 1)) 192 34 = φ 192 34 := ((hf_up_ne (fun q => absurd q.2 (by decide))).trans ((hf_up_ne (fun q => absurd q.2 (by decide))).trans ((hf_up_ne (fun q => absurd q.2 (by decide))).trans (hf_up_ne (fun q => absurd q.2 (by decide))))))
              have f236 := iv_at (a := 192) (k := 34) (lo := 0) (u := 45) hI (by decide +kernel)
              have f237 : (hf_up (hf_up (hf_up (hf_up φ 192 17 (hb_lor (hb_lshl (φ 192 17) 8) (hb_i2l z23))) 192 14 (((10 * (φ 192 14)) + z25) - 48)) 192 13 ((φ 192 13) + 1)) 192 4 ((φ 192 4) + 1)) 192 35 = φ 192 35 := ((hf_up_ne (fun q => absurd q.2 (by decide))).trans ((hf_up_ne (fun q => absurd q.2 (by decide))).trans ((hf_up_ne (fun q => absurd q.2 (by decide))).trans (hf_up_ne (fun q => absurd q.2 (by decide))))))
              have f238 := iv_at (a := 192) (k := 35) (lo := 0) (u := 20) hI (by decide +kernel)
              have f239 : (hf_up (hf_up (hf_up (hf_up φ 192 17 (hb_lor (hb_lshl (φ 192 17) 8) (hb_i2l z23))) 192 14 (((10 * (φ 192 14)) + z25) - 48)) 192 13 ((φ 192 13) + 1)) 192 4 ((φ 192 4) + 1)) 192 36 = φ 192 36 := ((hf_up_ne (fun q => absurd q.2 (by decide))).trans ((hf_up_ne (fun q => absurd q.2 (by decide))).trans ((hf_up_ne (fun q => absurd q.2 (by decide))).trans (hf_up_ne (fun q => absurd q.2 (by decide))))))
              have f240 := iv_at (a := 192) (k := 36) (lo := 0) (u := 45) hI (by decide +kernel)
              have f241 : (hf_up (hf_up (hf_up (hf_up φ 192 17 (hb_lor (hb_lshl (φ 192 17) 8) (hb_i2l z23))) 192 14 (((10 * (φ 192 14)) + z25) - 48)) 192 13 ((φ 192 13) + 1)) 192 4 ((φ 192 4) + 1)) 192 38 = φ 192 38 := ((hf_up_ne (fun q => absurd q.2 (by decide))).trans ((hf_up_ne (fun q => absurd q.2 (by decide))).trans ((hf_up_ne (fun q => absurd q.2 (by decide))).trans (hf_up_ne (fun q => absurd q.2 (by decide))))))
              have f242 := iv_at (a := 192) (k := 38) (lo := 0) (u := 1) hI (by decide +kernel)
              have f243 : (hf_up (hf_up (hf_up (hf_up φ 192 17 (hb_lor (hb_lshl (φ 192 17) 8) (hb_i2l z23))) 192 14 (((10 * (φ 192 14)) + z25) - 48)) 192 13 ((φ 192 13) + 1)) 192 4 ((φ 192 4) + 1)) 192 4 = (φ 192 4) + 1 := hf_up_eq
              exact ih (hf_up (hf_up (hf_up (hf_up φ 192 17 (hb_lor (hb_lshl (φ 192 17) 8) (hb_i2l z23))) 192 14 (((10 * (φ 192 14)) + z25) - 48)) 192 13 ((φ 192 13) + 1)) 192 4 ((φ 192 4) + 1)) (jm_st1 L 3 (0, 1)) l1 l2 1 (get_st1 g0 (by decide) (fun q => absurd q.1 (by decide))) (get_st1 g1 (by decide) (fun q => absurd q.1 (by decide))) (get_st1 g2 (by decide) (fun q => tg0 q.2)) get_st1e i228 (by omega) (by omega) (by omega) (by omega) (by omega) (by omega) (by omega) (by omega) (by omega) (by omega) (fun χ hIχ hFχ hVχ hEχ => hQ χ hIχ (fr_tr r228 hFχ (by decide)) (by omega) (e25.trans hEχ))
    · skip
      have e3b := e2.trans (if_neg q3)
      refine sf_176_192 (φ := φ) hI  (fun z26 hp26 hE26 => ⟨rfl, rfl, z26, rfl, ?_⟩)
      have e26 := e3b.trans (bnp_e hE26)
      refine sf_178 (φ := φ) hI (by omega) (by omega) (fun z27 hp27 hE27 => ⟨rfl, rfl, z27, rfl, ?_⟩)
      have e27 := e26.trans (bnp_e hE27)
      refine ⟨by unfold hi; omega, fun q28 => ?_, fun q28 => ?_⟩
      · skip
        have e28a := e27.trans (if_pos q28)
        refine ⟨by unfold hi; omega, fun q29 => ?_, fun q29 => ?_⟩
        · skip
          have e29a := e28a.trans (if_pos q29)
          have i244 : Inv (hf_up φ 192 11 4) := iv_up (lo := 0) (u := 4) hI (by decide +kernel) (by omega) (by omega)
          have r244 : Fr [193004, 193011, 193012, 193013, 193014, 193017] φ (hf_up φ 192 11 4) := fr_up (fr_rf) (by decide)
          have f245 := iv_at (a := 192) (k := 18) (lo := (-1 : Int)) (u := 999) hI (by decide +kernel)
          have f246 := iv_at (a := 192) (k := 30) (lo := 0) (u := 40) hI (by decide +kernel)
          have f247 := iv_at (a := 192) (k := 34) (lo := 0) (u := 45) hI (by decide +kernel)
          have f248 := iv_at (a := 192) (k := 35) (lo := 0) (u := 20) hI (by decide +kernel)
          have f249 := iv_at (a := 192) (k := 36) (lo := 0) (u := 45) hI (by decide +kernel)
          have f250 := iv_at (a := 192) (k := 38) (lo := 0) (u := 1) hI (by decide +kernel)
          have f251 : (hf_up φ 192 11 4) 192 11 = 4 := hf_up_eq
          have f252 : (hf_up φ 192 11 4) 192 18 = φ 192 18 := (hf_up_ne (fun q => absurd q.2 (by decide)))
          have f253 : (hf_up φ 192 11 4) 192 30 = φ 192 30 := (hf_up_ne (fun q => absurd q.2 (by decide)))
          have f254 : (hf_up φ 192 11 4) 192 34 = φ 192 34 := (hf_up_ne (fun q => absurd q.2 (by decide)))
          have f255 : (hf_up φ 192 11 4) 192 35 = φ 192 35 := (hf_up_ne (fun q => absurd q.2 (by decide)))
          have f256 : (hf_up φ 192 11 4) 192 36 = φ 192 36 := (hf_up_ne (fun q => absurd q.2 (by decide)))
          have f257 : (hf_up φ 192 11 4) 192 38 = φ 192 38 := (hf_up_ne (fun q => absurd q.2 (by decide)))
          have f258 : (hf_up φ 192 11 4) 192 4 = φ 192 4 := (hf_up_ne (fun q => absurd q.2 (by decide)))
          exact hQ (hf_up φ 192 11 4) i244 r244 (by omega) e29a
        · skip
          have e29b := e28a.trans (if_neg q29)
          have f259 := iv_at (a := 192) (k := 13) (lo := 0) (u := 940) hI (by decide +kernel)
          refine ⟨by unfold hi; omega, fun q31 => ?_, fun q31 => ?_⟩
          · skip
            have e31a := e29b.trans (if_pos q31)
            refine ⟨by unfold hi; omega, by unfold hi; omega, fun q32 => ?_, fun q32 => ?_⟩
            · skip
              have e32a := e31a.trans (if_pos q32)
              refine ⟨by unfold hi; omega, fun q33 => ?_, fun q33 => ?_⟩
              · skip
                have e33a := e32a.trans (if_pos q33)
                have i260 : Inv (hf_up φ 192 11 2) := iv_up (lo := 0) (u := 4) hI (by decide +kernel) (by omega) (by omega)
                have r260 : Fr [193004, 193011, 193012, 193013, 193014, 193017] φ (hf_up φ 192 11 2) := fr_up (fr_rf) (by decide)
                have f261 := iv_at (a := 192) (k := 18) (lo := (-1 : Int)) (u := 999) hI (by decide +kernel)
                have f262 := iv_at (a := 192) (k := 30) (lo := 0) (u := 40) hI (by decide +kernel)
                have f263 := iv_at (a := 192) (k := 34) (lo := 0) (u := 45) hI (by decide +kernel)
                have f264 := iv_at (a := 192) (k := 35) (lo := 0) (u := 20) hI (by decide +kernel)
                have f265 := iv_at (a := 192) (k := 36) (lo := 0) (u := 45) hI (by decide +kernel)
                have f266 := iv_at (a := 192) (k := 38) (lo := 0) (u := 1) hI (by decide +kernel)
                have f267 : (hf_up φ 192 11 2) 192 11 = 2 := hf_up_eq
                have f268 : (hf_up φ 192 11 2) 192 18 = φ 192 18 := (hf_up_ne (fun q => absurd q.2 (by decide)))
                have f269 : (hf_up φ 192 11 2) 192 30 = φ 192 30 := (hf_up_ne (fun q => absurd q.2 (by decide)))
                have f270 : (hf_up φ 192 11 2) 192 34 = φ 192 34 := (hf_up_ne (fun q => absurd q.2 (by decide)))
                have f271 : (hf_up φ 192 11 2) 192 35 = φ 192 35 := (hf_up_ne (fun q => absurd q.2 (by decide)))
                have f272 : (hf_up φ 192 11 2) 192 36 = φ 192 36 := (hf_up_ne (fun q => absurd q.2 (by decide)))
                have f273 : (hf_up φ 192 11 2) 192 38 = φ 192 38 := (hf_up_ne (fun q => absurd q.2 (by decide)))
                have f274 : (hf_up φ 192 11 2) 192 4 = φ 192 4 := (hf_up_ne (fun q => absurd q.2 (by decide)))
                exact hQ (hf_up φ 192 11 2) i260 r260 (by omega) e33a
              · skip
                have e33b := e32a.trans (if_neg q33)
                have i275 : Inv (hf_up φ 192 11 1) := iv_up (lo := 0) (u := 4) hI (by decide +kernel) (by omega) (by omega)
                have r275 : Fr [193004, 193011, 193012, 193013, 193014, 193017] φ (hf_up φ 192 11 1) := fr_up (fr_rf) (by decide)
                have f276 := iv_at (a := 192) (k := 18) (lo := (-1 : Int)) (u := 999) hI (by decide +kernel)
                have f277 := iv_at (a := 192) (k := 30) (lo := 0) (u := 40) hI (by decide +kernel)
                have f278 := iv_at (a := 192) (k := 34) (lo := 0) (u := 45) hI (by decide +kernel)
                have f279 := iv_at (a := 192) (k := 35) (lo := 0) (u := 20) hI (by decide +kernel)
                have f280 := iv_at (a := 192) (k := 36) (lo := 0) (u := 45) hI (by decide +kernel)
                have f281 := iv_at (a := 192) (k := 38) (lo := 0) (u := 1) hI (by decide +kernel)
                have f282 : (hf_up φ 192 11 1) 192 11 = 1 := hf_up_eq
                have f283 : (hf_up φ 192 11 1) 192 18 = φ 192 18 := (hf_up_ne (fun q => absurd q.2 (by decide)))
                have f284 : (hf_up φ 192 11 1) 192 30 = φ 192 30 := (hf_up_ne (fun q => absurd q.2 (by decide)))
                have f285 : (hf_up φ 192 11 1) 192 34 = φ 192 34 := (hf_up_ne (fun q => absurd q.2 (by decide)))
                have f286 : (hf_up φ 192 11 1) 192 35 = φ 192 35 := (hf_up_ne (fun q => absurd q.2 (by decide)))
                have f287 : (hf_up φ 192 11 1) 192 36 = φ 192 36 := (hf_up_ne (fun q => absurd q.2 (by decide)))
                have f288 : (hf_up φ 192 11 1) 192 38 = φ 192 38 := (hf_up_ne (fun q => absurd q.2 (by decide)))
                have f289 : (hf_up φ 192 11 1) 192 4 = φ 192 4 := (hf_up_ne (fun q => absurd q.2 (by decide)))
                exact hQ (hf_up φ 192 11 1) i275 r275 (by omega) e33b
            · skip
              have e32b := e31a.trans (if_neg q32)
              have i290 : Inv (hf_up φ 192 11 4) := iv_up (lo := 0) (u := 4) hI (by decide +kernel) (by omega) (by omega)
              have r290 : Fr [193004, 193011, 193012, 193013, 193014, 193017] φ (hf_up φ 192 11 4) := fr_up (fr_rf) (by decide)
              have f291 := iv_at (a := 192) (k := 18) (lo := (-1 : Int)) (u := 999) hI (by decide +kernel)
              have f292 := iv_at (a := 192) (k := 30) (lo := 0) (u := 40) hI (by decide +kernel)
              have f293 := iv_at (a := 192) (k := 34) (lo := 0) (u := 45) hI (by decide +kernel)
              have f294 := iv_at (a := 192) (k := 35) (lo := 0) (u := 20) hI (by decide +kernel)
              have f295 := iv_at (a := 192) (k := 36) (lo := 0) (u := 45) hI (by decide +kernel)
              have f296 := iv_at (a := 192) (k := 38) (lo := 0) (u := 1) hI (by decide +kernel)
              have f297 : (hf_up φ 192 11 4) 192 11 = 4 := hf_up_eq
              have f298 : (hf_up φ 192 11 4) 192 18 = φ 192 18 := (hf_up_ne (fun q => absurd q.2 (by decide)))
              have f299 : (hf_up φ 192 11 4) 192 30 = φ 192 30 := (hf_up_ne (fun q => absurd q.2 (by decide)))
              have f300 : (hf_up φ 192 11 4) 192 34 = φ 192 34 := (hf_up_ne (fun q => absurd q.2 (by decide)))
              have f301 : (hf_up φ 192 11 4) 192 35 = φ 192 35 := (hf_up_ne (fun q => absurd q.2 (by decide)))
              have f302 : (hf_up φ 192 11 4) 192 36 = φ 192 36 := (hf_up_ne (fun q => absurd q.2 (by decide)))
              have f303 : (hf_up φ 192 11 4) 192 38 = φ 192 38 := (hf_up_ne (fun q => absurd q.2 (by decide)))
              have f304 : (hf_up φ 192 11 4) 192 4 = φ 192 4 := (hf_up_ne (fun q => absurd q.2 (by decide)))
              exact hQ (hf_up φ 192 11 4) i290 r290 (by omega) e32b
          · skip
            have e31b := e29b.trans (if_neg q31)
            refine ⟨by unfold hi; omega, by unfold hi; omega, fun q37 => ?_, fun q37 => ?_⟩
            · skip
              have e37a := e31b.trans (if_pos q37)
              refine ⟨by unfold hi; omega, fun q38 => ?_, fun q38 => ?_⟩
              · skip
                have e38a := e37a.trans (if_pos q38)
                have i305 : Inv (hf_up φ 192 11 2) := iv_up (lo := 0) (u := 4) hI (by decide +kernel) (by omega) (by omega)
                have r305 : Fr [193004, 193011, 193012, 193013, 193014, 193017] φ (hf_up φ 192 11 2) := fr_up (fr_rf) (by decide)
                have f306 := iv_at (a := 192) (k := 18) (lo := (-1 : Int)) (u := 999) hI (by decide +kernel)
                have f307 := iv_at (a := 192) (k := 30) (lo := 0) (u := 40) hI (by decide +kernel)
                have f308 := iv_at (a := 192) (k := 34) (lo := 0) (u := 45) hI (by decide +kernel)
                have f309 := iv_at (a := 192) (k := 35) (lo := 0) (u := 20) hI (by decide +kernel)
                have f310 := iv_at (a := 192) (k := 36) (lo := 0) (u := 45) hI (by decide +kernel)
                have f311 := iv_at (a := 192) (k := 38) (lo := 0) (u := 1) hI (by decide +kernel)
                have f312 : (hf_up φ 192 11 2) 192 11 = 2 := hf_up_eq
                have f313 : (hf_up φ 192 11 2) 192 18 = φ 192 18 := (hf_up_ne (fun q => absurd q.2 (by decide)))
                have f314 : (hf_up φ 192 11 2) 192 30 = φ 192 30 := (hf_up_ne (fun q => absurd q.2 (by decide)))
                have f315 : (hf_up φ 192 11 2) 192 34 = φ 192 34 := (hf_up_ne (fun q => absurd q.2 (by decide)))
                have f316 : (hf_up φ 192 11 2) 192 35 = φ 192 35 := (hf_up_ne (fun q => absurd q.2 (by decide)))
                have f317 : (hf_up φ 192 11 2) 192 36 = φ 192 36 := (hf_up_ne (fun q => absurd q.2 (by decide)))
                have f318 : (hf_up φ 192 11 2) 192 38 = φ 192 38 := (hf_up_ne (fun q => absurd q.2 (by decide)))
                have f319 : (hf_up φ 192 11 2) 192 4 = φ 192 4 := (hf_up_ne (fun q => absurd q.2 (by decide)))
                exact hQ (hf_up φ 192 11 2) i305 r305 (by omega) e38a
              · skip
                have e38b := e37a.trans (if_neg q38)
                have i320 : Inv (hf_up φ 192 11 1) := iv_up (lo := 0) (u := 4) hI (by decide +kernel) (by omega) (by omega)
                have r320 : Fr [193004, 193011, 193012, 193013, 193014, 193017] φ (hf_up φ 192 11 1) := fr_up (fr_rf) (by decide)
                have f321 := iv_at (a := 192) (k := 18) (lo := (-1 : Int)) (u := 999) hI (by decide +kernel)
                have f322 := iv_at (a := 192) (k := 30) (lo := 0) (u := 40) hI (by decide +kernel)
                have f323 := iv_at (a := 192) (k := 34) (lo := 0) (u := 45) hI (by decide +kernel)
                have f324 := iv_at (a := 192) (k := 35) (lo := 0) (u := 20) hI (by decide +kernel)
                have f325 := iv_at (a := 192) (k := 36) (lo := 0) (u := 45) hI (by decide +kernel)
                have f326 := iv_at (a := 192) (k := 38) (lo := 0) (u := 1) hI (by decide +kernel)
                have f327 : (hf_up φ 192 11 1) 192 11 = 1 := hf_up_eq
                have f328 : (hf_up φ 192 11 1) 192 18 = φ 192 18 := (hf_up_ne (fun q => absurd q.2 (by decide)))
                have f329 : (hf_up φ 192 11 1) 192 30 = φ 192 30 := (hf_up_ne (fun q => absurd q.2 (by decide)))
                have f330 : (hf_up φ 192 11 1) 192 34 = φ 192 34 := (hf_up_ne (fun q => absurd q.2 (by decide)))
                have f331 : (hf_up φ 192 11 1) 192 35 = φ 192 35 := (hf_up_ne (fun q => absurd q.2 (by decide)))
                have f332 : (hf_up φ 192 11 1) 192 36 = φ 192 36 := (hf_up_ne (fun q => absurd q.2 (by decide)))
                have f333 : (hf_up φ 192 11 1) 192 38 = φ 192 38 := (hf_up_ne (fun q => absurd q.2 (by decide)))
                have f334 : (hf_up φ 192 11 1) 192 4 = φ 192 4 := (hf_up_ne (fun q => absurd q.2 (by decide)))
                exact hQ (hf_up φ 192 11 1) i320 r320 (by omega) e38b
            · skip
              have e37b := e31b.trans (if_neg q37)
              have i335 : Inv (hf_up φ 192 11 4) := iv_up (lo := 0) (u := 4) hI (by decide +kernel) (by omega) (by omega)
              have r335 : Fr [193004, 193011, 193012, 193013, 193014, 193017] φ (hf_up φ 192 11 4) := fr_up (fr_rf) (by decide)
              have f336 := iv_at (a := 192) (k := 18) (lo := (-1 : Int)) (u := 999) hI (by decide +kernel)
              have f337 := iv_at (a := 192) (k := 30) (lo := 0) (u := 40) hI (by decide +kernel)
              have f338 := iv_at (a := 192) (k := 34) (lo := 0) (u := 45) hI (by decide +kernel)
              have f339 := iv_at (a := 192) (k := 35) (lo := 0) (u := 20) hI (by decide +kernel)
              have f340 := iv_at (a := 192) (k := 36) (lo := 0) (u := 45) hI (by decide +kernel)
              have f341 := iv_at (a := 192) (k := 38) (lo := 0) (u := 1) hI (by decide +kernel)
              have f342 : (hf_up φ 192 11 4) 192 11 = 4 := hf_up_eq
              have f343 : (hf_up φ 192 11 4) 192 18 = φ 192 18 := (hf_up_ne (fun q => absurd q.2 (by decide)))
              have f344 : (hf_up φ 192 11 4) 192 30 = φ 192 30 := (hf_up_ne (fun q => absurd q.2 (by decide)))
              have f345 : (hf_up φ 192 11 4) 192 34 = φ 192 34 := (hf_up_ne (fun q => absurd q.2 (by decide)))
              have f346 : (hf_up φ 192 11 4) 192 35 = φ 192 35 := (hf_up_ne (fun q => absurd q.2 (by decide)))
              have f347 : (hf_up φ 192 11 4) 192 36 = φ 192 36 := (hf_up_ne (fun q => absurd q.2 (by decide)))
              have f348 : (hf_up φ 192 11 4) 192 38 = φ 192 38 := (hf_up_ne (fun q => absurd q.2 (by decide)))
              have f349 : (hf_up φ 192 11 4) 192 4 = φ 192 4 := (hf_up_ne (fun q => absurd q.2 (by decide)))
              exact hQ (hf_up φ 192 11 4) i335 r335 (by omega) e37b
      · skip
        have e28b := e27.trans (if_neg q28)
        refine ⟨by unfold hi; omega, fun q42 => ?_, fun q42 => ?_⟩
        · skip
          have e42a := e28b.trans (if_pos q42)
          have f350 := iv_at (a := 192) (k := 13) (lo := 0) (u := 940) hI (by decide +kernel)
          refine ⟨by unfold hi; omega, by unfold hi; omega, fun q43 => ?_, fun q43 => ?_⟩
          · skip
            have e43a := e42a.trans (if_pos q43)
            refine ⟨by unfold hi; omega, by unfold hi; omega, fun q44 => ?_, fun q44 => ?_⟩
            · skip
              have e44a := e43a.trans (if_pos q44)
              have i351 : Inv (hf_up φ 192 13 ((φ 192 13) + 1)) := iv_up (lo := 0) (u := 940) hI (by decide +kernel) (by omega) (by omega)
              have r351 : Fr [193004, 193011, 193012, 193013, 193014, 193017] φ (hf_up φ 192 13 ((φ 192 13) + 1)) := fr_up (fr_rf) (by decide)
              have i352 : Inv (hf_up (hf_up φ 192 13 ((φ 192 13) + 1)) 192 4 ((φ 192 4) + 1)) := iv_up (lo := 0) (u := 940) i351 (by decide +kernel) (by omega) (by omega)
              have r352 : Fr [193004, 193011, 193012, 193013, 193014, 193017] φ (hf_up (hf_up φ 192 13 ((φ 192 13) + 1)) 192 4 ((φ 192 4) + 1)) := fr_up r351 (by decide)
              have f353 : (hf_up (hf_up φ 192 13 ((φ 192 13) + 1)) 192 4 ((φ 192 4) + 1)) 192 13 = (φ 192 13) + 1 := ((hf_up_ne (fun q => absurd q.2 (by decide))).trans hf_up_eq)
              have f354 : (hf_up (hf_up φ 192 13 ((φ 192 13) + 1)) 192 4 ((φ 192 4) + 1)) 192 14 = φ 192 14 := ((hf_up_ne (fun q => absurd q.2 (by decide))).trans (hf_up_ne (fun q => absurd q.2 (by decide))))
              have f355 := iv_at (a := 192) (k := 14) (lo := 0) (u := 8214) hI (by decide +kernel)
              have f356 : (hf_up (hf_up φ 192 13 ((φ 192 13) + 1)) 192 4 ((φ 192 4) + 1)) 192 18 = φ 192 18 := ((hf_up_ne (fun q => absurd q.2 (by decide))).trans (hf_up_ne (fun q => absurd q.2 (by decide))))
              have f357 := iv_at (a := 192) (k := 18) (lo := (-1 : Int)) (u := 999) hI (by decide +kernel)
              have f358 : (hf_up (hf_up φ 192 13 ((φ 192 13) + 1)) 192 4 ((φ 192 4) + 1)) 192 30 = φ 192 30 := ((hf_up_ne (fun q => absurd q.2 (by decide))).trans (hf_up_ne (fun q => absurd q.2 (by decide))))
              have f359 := iv_at (a := 192) (k := 30) (lo := 0) (u := 40) hI (by decide +kernel)
              have f360 : (hf_up (hf_up φ 192 13 ((φ 192 13) + 1)) 192 4 ((φ 192 4) + 1)) 192 34 = φ 192 34 := ((hf_up_ne (fun q => absurd q.2 (by decide))).trans (hf_up_ne (fun q => absurd q.2 (by decide))))
              have f361 := iv_at (a := 192) (k := 34) (lo := 0) (u := 45) hI (by decide +kernel)
              have f362 : (hf_up (hf_up φ 192 13 ((φ 192 13) + 1)) 192 4 ((φ 192 4) + 1)) 192 35 = φ 192 35 := ((hf_up_ne (fun q => absurd q.2 (by decide))).trans (hf_up_ne (fun q => absurd q.2 (by decide))))
              have f363 := iv_at (a := 192) (k := 35) (lo := 0) (u := 20) hI (by decide +kernel)
              have f364 : (hf_up (hf_up φ 192 13 ((φ 192 13) + 1)) 192 4 ((φ 192 4) + 1)) 192 36 = φ 192 36 := ((hf_up_ne (fun q => absurd q.2 (by decide))).trans (hf_up_ne (fun q => absurd q.2 (by decide))))
              have f365 := iv_at (a := 192) (k := 36) (lo := 0) (u := 45) hI (by decide +kernel)
              have f366 : (hf_up (hf_up φ 192 13 ((φ 192 13) + 1)) 192 4 ((φ 192 4) + 1)) 192 38 = φ 192 38 := ((hf_up_ne (fun q => absurd q.2 (by decide))).trans (hf_up_ne (fun q => absurd q.2 (by decide))))
              have f367 := iv_at (a := 192) (k := 38) (lo := 0) (u := 1) hI (by decide +kernel)
              have f368 : (hf_up (hf_up φ 192 13 ((φ 192 13) + 1)) 192 4 ((φ 192 4) + 1)) 192 4 = (φ 192 4) + 1 := hf_up_eq
              exact ih (hf_up (hf_up φ 192 13 ((φ 192 13) + 1)) 192 4 ((φ 192 4) + 1)) (jm_st1 L 3 (0, 0)) l1 l2 0 (get_st1 g0 (by decide) (fun q => absurd q.1 (by decide))) (get_st1 g1 (by decide) (fun q => absurd q.1 (by decide))) (get_st1 g2 (by decide) (fun q => tg0 q.2)) get_st1e i352 (by omega) (by omega) (by omega) (by omega) (by omega) (by omega) (by omega) (by omega) (by omega) (by omega) (fun χ hIχ hFχ hVχ hEχ => hQ χ hIχ (fr_tr r352 hFχ (by decide)) (by omega) (e44a.trans hEχ))
            · skip
              have e44b := e43a.trans (if_neg q44)
              have f369 := iv_at (a := 192) (k := 14) (lo := 0) (u := 8214) hI (by decide +kernel)
              refine sf_176_192 (φ := φ) hI  (fun z45 hp45 hE45 => ⟨rfl, rfl, z45, rfl, ?_⟩)
              have e45 := e44b.trans (bnp_e hE45)
              have i370 : Inv (hf_up φ 192 14 (((10 * (φ 192 14)) + z45) - 48)) := iv_up (lo := 0) (u := 8214) hI (by decide +kernel) (by omega) (by omega)
              have r370 : Fr [193004, 193011, 193012, 193013, 193014, 193017] φ (hf_up φ 192 14 (((10 * (φ 192 14)) + z45) - 48)) := fr_up (fr_rf) (by decide)
              have i371 : Inv (hf_up (hf_up φ 192 14 (((10 * (φ 192 14)) + z45) - 48)) 192 13 ((φ 192 13) + 1)) := iv_up (lo := 0) (u := 940) i370 (by decide +kernel) (by omega) (by omega)
              have r371 : Fr [193004, 193011, 193012, 193013, 193014, 193017] φ (hf_up (hf_up φ 192 14 (((10 * (φ 192 14)) + z45) - 48)) 192 13 ((φ 192 13) + 1)) := fr_up r370 (by decide)
              have i372 : Inv (hf_up (hf_up (hf_up φ 192 14 (((10 * (φ 192 14)) + z45) - 48)) 192 13 ((φ 192 13) + 1)) 192 4 ((φ 192 4) + 1)) := iv_up (lo := 0) (u := 940) i371 (by decide +kernel) (by omega) (by omega)
              have r372 : Fr [193004, 193011, 193012, 193013, 193014, 193017] φ (hf_up (hf_up (hf_up φ 192 14 (((10 * (φ 192 14)) + z45) - 48)) 192 13 ((φ 192 13) + 1)) 192 4 ((φ 192 4) + 1)) := fr_up r371 (by decide)
              have f373 : (hf_up (hf_up (hf_up φ 192 14 (((10 * (φ 192 14)) + z45) - 48)) 192 13 ((φ 192 13) + 1)) 192 4 ((φ 192 4) + 1)) 192 13 = (φ 192 13) + 1 := ((hf_up_ne (fun q => absurd q.2 (by decide))).trans hf_up_eq)
              have f374 : (hf_up (hf_up (hf_up φ 192 14 (((10 * (φ 192 14)) + z45) - 48)) 192 13 ((φ 192 13) + 1)) 192 4 ((φ 192 4) + 1)) 192 14 = ((10 * (φ 192 14)) + z45) - 48 := ((hf_up_ne (fun q => absurd q.2 (by decide))).trans ((hf_up_ne (fun q => absurd q.2 (by decide))).trans hf_up_eq))
              have f375 : (hf_up (hf_up (hf_up φ 192 14 (((10 * (φ 192 14)) + z45) - 48)) 192 13 ((φ 192 13) + 1)) 192 4 ((φ 192 4) + 1)) 192 18 = φ 192 18 := ((hf_up_ne (fun q => absurd q.2 (by decide))).trans ((hf_up_ne (fun q => absurd q.2 (by decide))).trans (hf_up_ne (fun q => absurd q.2 (by decide)))))
              have f376 := iv_at (a := 192) (k := 18) (lo := (-1 : Int)) (u := 999) hI (by decide +kernel)
              have f377 : (hf_up (hf_up (hf_up φ 192 14 (((10 * (φ 192 14)) + z45) - 48)) 192 13 ((φ 192 13) + 1)) 192 4 ((φ 192 4) + 1)) 192 30 = φ 192 30 := ((hf_up_ne (fun q => absurd q.2 (by decide))).trans ((hf_up_ne (fun q => absurd q.2 (by decide))).trans (hf_up_ne (fun q => absurd q.2 (by decide)))))
              have f378 := iv_at (a := 192) (k := 30) (lo := 0) (u := 40) hI (by decide +kernel)
              have f379 : (hf_up (hf_up (hf_up φ 192 14 (((10 * (φ 192 14)) + z45) - 48)) 192 13 ((φ 192 13) + 1)) 192 4 ((φ 192 4) + 1)) 192 34 = φ 192 34 := ((hf_up_ne (fun q => absurd q.2 (by decide))).trans ((hf_up_ne (fun q => absurd q.2 (by decide))).trans (hf_up_ne (fun q => absurd q.2 (by decide)))))
              have f380 := iv_at (a := 192) (k := 34) (lo := 0) (u := 45) hI (by decide +kernel)
              have f381 : (hf_up (hf_up (hf_up φ 192 14 (((10 * (φ 192 14)) + z45) - 48)) 192 13 ((φ 192 13) + 1)) 192 4 ((φ 192 4) + 1)) 192 35 = φ 192 35 := ((hf_up_ne (fun q => absurd q.2 (by decide))).trans ((hf_up_ne (fun q => absurd q.2 (by decide))).trans (hf_up_ne (fun q => absurd q.2 (by decide)))))
              have f382 := iv_at (a := 192) (k := 35) (lo := 0) (u := 20) hI (by decide +kernel)
              have f383 : (hf_up (hf_up (hf_up φ 192 14 (((10 * (φ 192 14)) + z45) - 48)) 192 13 ((φ 192 13) + 1)) 192 4 ((φ 192 4) + 1)) 192 36 = φ 192 36 := ((hf_up_ne (fun q => absurd q.2 (by decide))).trans ((hf_up_ne (fun q => absurd q.2 (by decide))).trans (hf_up_ne (fun q => absurd q.2 (by decide)))))
              have f384 := iv_at (a := 192) (k := 36) (lo := 0) (u := 45) hI (by decide +kernel)
              have f385 : (hf_up (hf_up (hf_up φ 192 14 (((10 * (φ 192 14)) + z45) - 48)) 192 13 ((φ 192 13) + 1)) 192 4 ((φ 192 4) + 1)) 192 38 = φ 192 38 := ((hf_up_ne (fun q => absurd q.2 (by decide))).trans ((hf_up_ne (fun q => absurd q.2 (by decide))).trans (hf_up_ne (fun q => absurd q.2 (by decide)))))
              have f386 := iv_at (a := 192) (k := 38) (lo := 0) (u := 1) hI (by decide +kernel)
              have f387 : (hf_up (hf_up (hf_up φ 192 14 (((10 * (φ 192 14)) + z45) - 48)) 192 13 ((φ 192 13) + 1)) 192 4 ((φ 192 4) + 1)) 192 4 = (φ 192 4) + 1 := hf_up_eq
              exact ih (hf_up (hf_up (hf_up φ 192 14 (((10 * (φ 192 14)) + z45) - 48)) 192 13 ((φ 192 13) + 1)) 192 4 ((φ 192 4) + 1)) (jm_st1 L 3 (0, 0)) l1 l2 0 (get_st1 g0 (by decide) (fun q => absurd q.1 (by decide))) (get_st1 g1 (by decide) (fun q => absurd q.1 (by decide))) (get_st1 g2 (by decide) (fun q => tg0 q.2)) get_st1e i372 (by omega) (by omega) (by omega) (by omega) (by omega) (by omega) (by omega) (by omega) (by omega) (by omega) (fun χ hIχ hFχ hVχ hEχ => hQ χ hIχ (fr_tr r372 hFχ (by decide)) (by omega) (e45.trans hEχ))
          · skip
            have e43b := e42a.trans (if_neg q43)
            refine sf_176_192 (φ := φ) hI  (fun z46 hp46 hE46 => ⟨rfl, rfl, z46, rfl, ?_⟩)
            have e46 := e43b.trans (bnp_e hE46)
            have i388 : Inv (hf_up φ 192 17 (hb_lor (hb_lshl (φ 192 17) 8) (hb_i2l z46))) := iv_upn hI (by decide) (by decide) (by decide +kernel)
            have r388 : Fr [193004, 193011, 193012, 193013, 193014, 193017] φ (hf_up φ 192 17 (hb_lor (hb_lshl (φ 192 17) 8) (hb_i2l z46))) := fr_up (fr_rf) (by decide)
            refine ⟨by unfold hi; omega, by unfold hi; omega, fun q47 => ?_, fun q47 => ?_⟩
            · skip
              have e47a := e46.trans (if_pos q47)
              have i389 : Inv (hf_up (hf_up φ 192 17 (hb_lor (hb_lshl (φ 192 17) 8) (hb_i2l z46))) 192 13 ((φ 192 13) + 1)) := iv_up (lo := 0) (u := 940) i388 (by decide +kernel) (by omega) (by omega)
              have r389 : Fr [193004, 193011, 193012, 193013, 193014, 193017] φ (hf_up (hf_up φ 192 17 (hb_lor (hb_lshl (φ 192 17) 8) (hb_i2l z46))) 192 13 ((φ 192 13) + 1)) := fr_up r388 (by decide)
              have i390 : Inv (hf_up (hf_up (hf_up φ 192 17 (hb_lor (hb_lshl (φ 192 17) 8) (hb_i2l z46))) 192 13 ((φ 192 13) + 1)) 192 4 ((φ 192 4) + 1)) := iv_up (lo := 0) (u := 940) i389 (by decide +kernel) (by omega) (by omega)
              have r390 : Fr [193004, 193011, 193012, 193013, 193014, 193017] φ (hf_up (hf_up (hf_up φ 192 17 (hb_lor (hb_lshl (φ 192 17) 8) (hb_i2l z46))) 192 13 ((φ 192 13) + 1)) 192 4 ((φ 192 4) + 1)) := fr_up r389 (by decide)
              have f391 : (hf_up (hf_up (hf_up φ 192 17 (hb_lor (hb_lshl (φ 192 17) 8) (hb_i2l z46))) 192 13 ((φ 192 13) + 1)) 192 4 ((φ 192 4) + 1)) 192 13 = (φ 192 13) + 1 := ((hf_up_ne (fun q => absurd q.2 (by decide))).trans hf_up_eq)
              have f392 : (hf_up (hf_up (hf_up φ 192 17 (hb_lor (hb_lshl (φ 192 17) 8) (hb_i2l z46))) 192 13 ((φ 192 13) + 1)) 192 4 ((φ 192 4) + 1)) 192 14 = φ 192 14 := ((hf_up_ne (fun q => absurd q.2 (by decide))).trans ((hf_up_ne (fun q => absurd q.2 (by decide))).trans (hf_up_ne (fun q => absurd q.2 (by decide)))))
              have f393 := iv_at (a := 192) (k := 14) (lo := 0) (u := 8214) hI (by decide +kernel)
              have f394 : (hf_up (hf_up (hf_up φ 192 17 (hb_lor (hb_lshl (φ 192 17) 8) (hb_i2l z46))) 192 13 ((φ 192 13) + 1)) 192 4 ((φ 192 4) + 1)) 192 18 = φ 192 18 := ((hf_up_ne (fun q => absurd q.2 (by decide))).trans ((hf_up_ne (fun q => absurd q.2 (by decide))).trans (hf_up_ne (fun q => absurd q.2 (by decide)))))
              have f395 := iv_at (a := 192) (k := 18) (lo := (-1 : Int)) (u := 999) hI (by decide +kernel)
              have f396 : (hf_up (hf_up (hf_up φ 192 17 (hb_lor (hb_lshl (φ 192 17) 8) (hb_i2l z46))) 192 13 ((φ 192 13) + 1)) 192 4 ((φ 192 4) + 1)) 192 30 = φ 192 30 := ((hf_up_ne (fun q => absurd q.2 (by decide))).trans ((hf_up_ne (fun q => absurd q.2 (by decide))).trans (hf_up_ne (fun q => absurd q.2 (by decide)))))
              have f397 := iv_at (a := 192) (k := 30) (lo := 0) (u := 40) hI (by decide +kernel)
              have f398 : (hf_up (hf_up (hf_up φ 192 17 (hb_lor (hb_lshl (φ 192 17) 8) (hb_i2l z46))) 192 13 ((φ 192 13) + 1)) 192 4 ((φ 192 4) + 1)) 192 34 = φ 192 34 := ((hf_up_ne (fun q => absurd q.2 (by decide))).trans ((hf_up_ne (fun q => absurd q.2 (by decide))).trans (hf_up_ne (fun q => absurd q.2 (by decide)))))
              have f399 := iv_at (a := 192) (k := 34) (lo := 0) (u := 45) hI (by decide +kernel)
              have f400 : (hf_up (hf_up (hf_up φ 192 17 (hb_lor (hb_lshl (φ 192 17) 8) (hb_i2l z46))) 192 13 ((φ 192 13) + 1)) 192 4 ((φ 192 4) + 1)) 192 35 = φ 192 35 := ((hf_up_ne (fun q => absurd q.2 (by decide))).trans ((hf_up_ne (fun q => absurd q.2 (by decide))).trans (hf_up_ne (fun q => absurd q.2 (by decide)))))
              have f401 := iv_at (a := 192) (k := 35) (lo := 0) (u := 20) hI (by decide +kernel)
              have f402 : (hf_up (hf_up (hf_up φ 192 17 (hb_lor (hb_lshl (φ 192 17) 8) (hb_i2l z46))) 192 13 ((φ 192 13) + 1)) 192 4 ((φ 192 4) + 1)) 192 36 = φ 192 36 := ((hf_up_ne (fun q => absurd q.2 (by decide))).trans ((hf_up_ne (fun q => absurd q.2 (by decide))).trans (hf_up_ne (fun q => absurd q.2 (by decide)))))
              have f403 := iv_at (a := 192) (k := 36) (lo := 0) (u := 45) hI (by decide +kernel)
              have f404 : (hf_up (hf_up (hf_up φ 192 17 (hb_lor (hb_lshl (φ 192 17) 8) (hb_i2l z46))) 192 13 ((φ 192 13) + 1)) 192 4 ((φ 192 4) + 1)) 192 38 = φ 192 38 := ((hf_up_ne (fun q => absurd q.2 (by decide))).trans ((hf_up_ne (fun q => absurd q.2 (by decide))).trans (hf_up_ne (fun q => absurd q.2 (by decide)))))
              have f405 := iv_at (a := 192) (k := 38) (lo := 0) (u := 1) hI (by decide +kernel)
              have f406 : (hf_up (hf_up (hf_up φ 192 17 (hb_lor (hb_lshl (φ 192 17) 8) (hb_i2l z46))) 192 13 ((φ 192 13) + 1)) 192 4 ((φ 192 4) + 1)) 192 4 = (φ 192 4) + 1 := hf_up_eq
              exact ih (hf_up (hf_up (hf_up φ 192 17 (hb_lor (hb_lshl (φ 192 17) 8) (hb_i2l z46))) 192 13 ((φ 192 13) + 1)) 192 4 ((φ 192 4) + 1)) (jm_st1 L 3 (0, 0)) l1 l2 0 (get_st1 g0 (by decide) (fun q => absurd q.1 (by decide))) (get_st1 g1 (by decide) (fun q => absurd q.1 (by decide))) (get_st1 g2 (by decide) (fun q => tg0 q.2)) get_st1e i390 (by omega) (by omega) (by omega) (by omega) (by omega) (by omega) (by omega) (by omega) (by omega) (by omega) (fun χ hIχ hFχ hVχ hEχ => hQ χ hIχ (fr_tr r390 hFχ (by decide)) (by omega) (e47a.trans hEχ))
            · skip
              have e47b := e46.trans (if_neg q47)
              have f407 := iv_at (a := 192) (k := 14) (lo := 0) (u := 8214) hI (by decide +kernel)
              refine sf_176_192 (φ := (hf_up φ 192 17 (hb_lor (hb_lshl (φ 192 17) 8) (hb_i2l z46)))) i388  (fun z48 hp48 hE48 => ⟨rfl, rfl, z48, rfl, ?_⟩)
              have e48 := e47b.trans (bnp_e hE48)
              have f408 : (hf_up φ 192 17 (hb_lor (hb_lshl (φ 192 17) 8) (hb_i2l z46))) 192 3 = φ 192 3 := (hf_up_ne (fun q => absurd q.2 (by decide)))
              have f409 : (hf_up φ 192 17 (hb_lor (hb_lshl (φ 192 17) 8) (hb_i2l z46))) 192 4 = φ 192 4 := (hf_up_ne (fun q => absurd q.2 (by decide)))
              have f410 := pk_b (hf_up φ 192 17 (hb_lor (hb_lshl (φ 192 17) 8) (hb_i2l z46)))
              have f411 := pk_c (φ := φ) (ψ := (hf_up φ 192 17 (hb_lor (hb_lshl (φ 192 17) 8) (hb_i2l z46)))) (hf_up_ne (fun q => absurd q.2 (by decide))) (hf_up_ne (fun q => absurd q.2 (by decide))) (fun kk => (hf_up_ne (fun q => absurd q.1 (by decide))))
              have i412 : Inv (hf_up (hf_up φ 192 17 (hb_lor (hb_lshl (φ 192 17) 8) (hb_i2l z46))) 192 14 (((10 * (φ 192 14)) + z48) - 48)) := iv_up (lo := 0) (u := 8214) i388 (by decide +kernel) (by omega) (by omega)
              have r412 : Fr [193004, 193011, 193012, 193013, 193014, 193017] φ (hf_up (hf_up φ 192 17 (hb_lor (hb_lshl (φ 192 17) 8) (hb_i2l z46))) 192 14 (((10 * (φ 192 14)) + z48) - 48)) := fr_up r388 (by decide)
              have i413 : Inv (hf_up (hf_up (hf_up φ 192 17 (hb_lor (hb_lshl (φ 192 17) 8) (hb_i2l z46))) 192 14 (((10 * (φ 192 14)) + z48) - 48)) 192 13 ((φ 192 13) + 1)) := iv_up (lo := 0) (u := 940) i412 (by decide +kernel) (by omega) (by omega)
              have r413 : Fr [193004, 193011, 193012, 193013, 193014, 193017] φ (hf_up (hf_up (hf_up φ 192 17 (hb_lor (hb_lshl (φ 192 17) 8) (hb_i2l z46))) 192 14 (((10 * (φ 192 14)) + z48) - 48)) 192 13 ((φ 192 13) + 1)) := fr_up r412 (by decide)
              have i414 : Inv (hf_up (hf_up (hf_up (hf_up φ 192 17 (hb_lor (hb_lshl (φ 192 17) 8) (hb_i2l z46))) 192 14 (((10 * (φ 192 14)) + z48) - 48)) 192 13 ((φ 192 13) + 1)) 192 4 ((φ 192 4) + 1)) := iv_up (lo := 0) (u := 940) i413 (by decide +kernel) (by omega) (by omega)
              have r414 : Fr [193004, 193011, 193012, 193013, 193014, 193017] φ (hf_up (hf_up (hf_up (hf_up φ 192 17 (hb_lor (hb_lshl (φ 192 17) 8) (hb_i2l z46))) 192 14 (((10 * (φ 192 14)) + z48) - 48)) 192 13 ((φ 192 13) + 1)) 192 4 ((φ 192 4) + 1)) := fr_up r413 (by decide)
              have f415 : (hf_up (hf_up (hf_up (hf_up φ 192 17 (hb_lor (hb_lshl (φ 192 17) 8) (hb_i2l z46))) 192 14 (((10 * (φ 192 14)) + z48) - 48)) 192 13 ((φ 192 13) + 1)) 192 4 ((φ 192 4) + 1)) 192 13 = (φ 192 13) + 1 := ((hf_up_ne (fun q => absurd q.2 (by decide))).trans hf_up_eq)
              have f416 : (hf_up (hf_up (hf_up (hf_up φ 192 17 (hb_lor (hb_lshl (φ 192 17) 8) (hb_i2l z46))) 192 14 (((10 * (φ 192 14)) + z48) - 48)) 192 13 ((φ 192 13) + 1)) 192 4 ((φ 192 4) + 1)) 192 14 = ((10 * (φ 192 14)) + z48) - 48 := ((hf_up_ne (fun q => absurd q.2 (by decide))).trans ((hf_up_ne (fun q => absurd q.2 (by decide))).trans hf_up_eq))
              have f417 : (hf_up (hf_up (hf_up (hf_up φ 192 17 (hb_lor (hb_lshl (φ 192 17) 8) (hb_i2l z46))) 192 14 (((10 * (φ 192 14)) + z48) - 48)) 192 13 ((φ 192 13) + 1)) 192 4 ((φ 192 4) + 1)) 192 18 = φ 192 18 := ((hf_up_ne (fun q => absurd q.2 (by decide))).trans ((hf_up_ne (fun q => absurd q.2 (by decide))).trans ((hf_up_ne (fun q => absurd q.2 (by decide))).trans (hf_up_ne (fun q => absurd q.2 (by decide))))))
              have f418 := iv_at (a := 192) (k := 18) (lo := (-1 : Int)) (u := 999) hI (by decide +kernel)
              have f419 : (hf_up (hf_up (hf_up (hf_up φ 192 17 (hb_lor (hb_lshl (φ 192 17) 8) (hb_i2l z46))) 192 14 (((10 * (φ 192 14)) + z48) - 48)) 192 13 ((φ 192 13) + 1)) 192 4 ((φ 192 4) + 1)) 192 30 = φ 192 30 := ((hf_up_ne (fun q => absurd q.2 (by decide))).trans ((hf_up_ne (fun q => absurd q.2 (by decide))).trans ((hf_up_ne (fun q => absurd q.2 (by decide))).trans (hf_up_ne (fun q => absurd q.2 (by decide))))))
              have f420 := iv_at (a := 192) (k := 30) (lo := 0) (u := 40) hI (by decide +kernel)
              have f421 : (hf_up (hf_up (hf_up (hf_up φ 192 17 (hb_lor (hb_lshl (φ 192 17) 8) (hb_i2l z46))) 192 14 (((10 * (φ 192 14)) + z48) - 48)) 192 13 ((φ 192 13) + 1)) 192 4 ((φ 192 4) + 1)) 192 34 = φ 192 34 := ((hf_up_ne (fun q => absurd q.2 (by decide))).trans ((hf_up_ne (fun q => absurd q.2 (by decide))).trans ((hf_up_ne (fun q => absurd q.2 (by decide))).trans (hf_up_ne (fun q => absurd q.2 (by decide))))))
              have f422 := iv_at (a := 192) (k := 34) (lo := 0) (u := 45) hI (by decide +kernel)
              have f423 : (hf_up (hf_up (hf_up (hf_up φ 192 17 (hb_lor (hb_lshl (φ 192 17) 8) (hb_i2l z46))) 192 14 (((10 * (φ 192 14)) + z48) - 48)) 192 13 ((φ 192 13) + 1)) 192 4 ((φ 192 4) + 1)) 192 35 = φ 192 35 := ((hf_up_ne (fun q => absurd q.2 (by decide))).trans ((hf_up_ne (fun q => absurd q.2 (by decide))).trans ((hf_up_ne (fun q => absurd q.2 (by decide))).trans (hf_up_ne (fun q => absurd q.2 (by decide))))))
              have f424 := iv_at (a := 192) (k := 35) (lo := 0) (u := 20) hI (by decide +kernel)
              have f425 : (hf_up (hf_up (hf_up (hf_up φ 192 17 (hb_lor (hb_lshl (φ 192 17) 8) (hb_i2l z46))) 192 14 (((10 * (φ 192 14)) + z48) - 48)) 192 13 ((φ 192 13) + 1)) 192 4 ((φ 192 4) + 1)) 192 36 = φ 192 36 := ((hf_up_ne (fun q => absurd q.2 (by decide))).trans ((hf_up_ne (fun q => absurd q.2 (by decide))).trans ((hf_up_ne (fun q => absurd q.2 (by decide))).trans (hf_up_ne (fun q => absurd q.2 (by decide))))))
              have f426 := iv_at (a := 192) (k := 36) (lo := 0) (u := 45) hI (by decide +kernel)
              have f427 : (hf_up (hf_up (hf_up (hf_up φ 192 17 (hb_lor (hb_lshl (φ 192 17) 8) (hb_i2l z46))) 192 14 (((10 * (φ 192 14)) + z48) - 48)) 192 13 ((φ 192 13) + 1)) 192 4 ((φ 192 4) + 1)) 192 38 = φ 192 38 := ((hf_up_ne (fun q => absurd q.2 (by decide))).trans ((hf_up_ne (fun q => absurd q.2 (by decide))).trans ((hf_up_ne (fun q => absurd q.2 (by decide))).trans (hf_up_ne (fun q => absurd q.2 (by decide))))))
              have f428 := iv_at (a := 192) (k := 38) (lo := 0) (u := 1) hI (by decide +kernel)
              have f429 : (hf_up (hf_up (hf_up (hf_up φ 192 17 (hb_lor (hb_lshl (φ 192 17) 8) (hb_i2l z46))) 192 14 (((10 * (φ 192 14)) + z48) - 48)) 192 13 ((φ 192 13) + 1)) 192 4 ((φ 192 4) + 1)) 192 4 = (φ 192 4) + 1 := hf_up_eq
              exact ih (hf_up (hf_up (hf_up (hf_up φ 192 17 (hb_lor (hb_lshl (φ 192 17) 8) (hb_i2l z46))) 192 14 (((10 * (φ 192 14)) + z48) - 48)) 192 13 ((φ 192 13) + 1)) 192 4 ((φ 192 4) + 1)) (jm_st1 L 3 (0, 0)) l1 l2 0 (get_st1 g0 (by decide) (fun q => absurd q.1 (by decide))) (get_st1 g1 (by decide) (fun q => absurd q.1 (by decide))) (get_st1 g2 (by decide) (fun q => tg0 q.2)) get_st1e i414 (by omega) (by omega) (by omega) (by omega) (by omega) (by omega) (by omega) (by omega) (by omega) (by omega) (fun χ hIχ hFχ hVχ hEχ => hQ χ hIχ (fr_tr r414 hFχ (by decide)) (by omega) (e48.trans hEχ))
        · skip
          have e42b := e28b.trans (if_neg q42)
          refine sf_176_192 (φ := φ) hI  (fun z49 hp49 hE49 => ⟨rfl, rfl, z49, rfl, ?_⟩)
          have e49 := e42b.trans (bnp_e hE49)
          refine sf_177 (φ := φ) hI (by omega) (by omega) (fun z50 hp50 hE50 => ⟨rfl, rfl, z50, rfl, ?_⟩)
          have e50 := e49.trans (bnp_e hE50)
          refine ⟨by unfold hi; omega, by unfold hi; omega, fun q51 => ?_, fun q51 => ?_⟩
          · skip
            have e51a := e50.trans (if_pos q51)
            have f430 := iv_at (a := 192) (k := 13) (lo := 0) (u := 940) hI (by decide +kernel)
            refine ⟨by unfold hi; omega, by unfold hi; omega, fun q52 => ?_, fun q52 => ?_⟩
            · skip
              have e52a := e51a.trans (if_pos q52)
              refine ⟨by unfold hi; omega, by unfold hi; omega, fun q53 => ?_, fun q53 => ?_⟩
              · skip
                have e53a := e52a.trans (if_pos q53)
                have i431 : Inv (hf_up φ 192 13 ((φ 192 13) + 1)) := iv_up (lo := 0) (u := 940) hI (by decide +kernel) (by omega) (by omega)
                have r431 : Fr [193004, 193011, 193012, 193013, 193014, 193017] φ (hf_up φ 192 13 ((φ 192 13) + 1)) := fr_up (fr_rf) (by decide)
                have i432 : Inv (hf_up (hf_up φ 192 13 ((φ 192 13) + 1)) 192 4 ((φ 192 4) + 1)) := iv_up (lo := 0) (u := 940) i431 (by decide +kernel) (by omega) (by omega)
                have r432 : Fr [193004, 193011, 193012, 193013, 193014, 193017] φ (hf_up (hf_up φ 192 13 ((φ 192 13) + 1)) 192 4 ((φ 192 4) + 1)) := fr_up r431 (by decide)
                have f433 : (hf_up (hf_up φ 192 13 ((φ 192 13) + 1)) 192 4 ((φ 192 4) + 1)) 192 13 = (φ 192 13) + 1 := ((hf_up_ne (fun q => absurd q.2 (by decide))).trans hf_up_eq)
                have f434 : (hf_up (hf_up φ 192 13 ((φ 192 13) + 1)) 192 4 ((φ 192 4) + 1)) 192 14 = φ 192 14 := ((hf_up_ne (fun q => absurd q.2 (by decide))).trans (hf_up_ne (fun q => absurd q.2 (by decide))))
                have f435 := iv_at (a := 192) (k := 14) (lo := 0) (u := 8214) hI (by decide +kernel)
                have f436 : (hf_up (hf_up φ 192 13 ((φ 192 13) + 1)) 192 4 ((φ 192 4) + 1)) 192 18 = φ 192 18 := ((hf_up_ne (fun q => absurd q.2 (by decide))).trans (hf_up_ne (fun q => absurd q.2 (by decide))))
                have f437 := iv_at (a := 192) (k := 18) (lo := (-1 : Int)) (u := 999) hI (by decide +kernel)
                have f438 : (hf_up (hf_up φ 192 13 ((φ 192 13) + 1)) 192 4 ((φ 192 4) + 1)) 192 30 = φ 192 30 := ((hf_up_ne (fun q => absurd q.2 (by decide))).trans (hf_up_ne (fun q => absurd q.2 (by decide))))
                have f439 := iv_at (a := 192) (k := 30) (lo := 0) (u := 40) hI (by decide +kernel)
                have f440 : (hf_up (hf_up φ 192 13 ((φ 192 13) + 1)) 192 4 ((φ 192 4) + 1)) 192 34 = φ 192 34 := ((hf_up_ne (fun q => absurd q.2 (by decide))).trans (hf_up_ne (fun q => absurd q.2 (by decide))))
                have f441 := iv_at (a := 192) (k := 34) (lo := 0) (u := 45) hI (by decide +kernel)
                have f442 : (hf_up (hf_up φ 192 13 ((φ 192 13) + 1)) 192 4 ((φ 192 4) + 1)) 192 35 = φ 192 35 := ((hf_up_ne (fun q => absurd q.2 (by decide))).trans (hf_up_ne (fun q => absurd q.2 (by decide))))
                have f443 := iv_at (a := 192) (k := 35) (lo := 0) (u := 20) hI (by decide +kernel)
                have f444 : (hf_up (hf_up φ 192 13 ((φ 192 13) + 1)) 192 4 ((φ 192 4) + 1)) 192 36 = φ 192 36 := ((hf_up_ne (fun q => absurd q.2 (by decide))).trans (hf_up_ne (fun q => absurd q.2 (by decide))))
                have f445 := iv_at (a := 192) (k := 36) (lo := 0) (u := 45) hI (by decide +kernel)
                have f446 : (hf_up (hf_up φ 192 13 ((φ 192 13) + 1)) 192 4 ((φ 192 4) + 1)) 192 38 = φ 192 38 := ((hf_up_ne (fun q => absurd q.2 (by decide))).trans (hf_up_ne (fun q => absurd q.2 (by decide))))
                have f447 := iv_at (a := 192) (k := 38) (lo := 0) (u := 1) hI (by decide +kernel)
                have f448 : (hf_up (hf_up φ 192 13 ((φ 192 13) + 1)) 192 4 ((φ 192 4) + 1)) 192 4 = (φ 192 4) + 1 := hf_up_eq
                exact ih (hf_up (hf_up φ 192 13 ((φ 192 13) + 1)) 192 4 ((φ 192 4) + 1)) (jm_st1 L 3 (0, 0)) l1 l2 0 (get_st1 g0 (by decide) (fun q => absurd q.1 (by decide))) (get_st1 g1 (by decide) (fun q => absurd q.1 (by decide))) (get_st1 g2 (by decide) (fun q => tg0 q.2)) get_st1e i432 (by omega) (by omega) (by omega) (by omega) (by omega) (by omega) (by omega) (by omega) (by omega) (by omega) (fun χ hIχ hFχ hVχ hEχ => hQ χ hIχ (fr_tr r432 hFχ (by decide)) (by omega) (e53a.trans hEχ))
              · skip
                have e53b := e52a.trans (if_neg q53)
                have f449 := iv_at (a := 192) (k := 14) (lo := 0) (u := 8214) hI (by decide +kernel)
                refine sf_176_192 (φ := φ) hI  (fun z54 hp54 hE54 => ⟨rfl, rfl, z54, rfl, ?_⟩)
                have e54 := e53b.trans (bnp_e hE54)
                have i450 : Inv (hf_up φ 192 14 (((10 * (φ 192 14)) + z54) - 48)) := iv_up (lo := 0) (u := 8214) hI (by decide +kernel) (by omega) (by omega)
                have r450 : Fr [193004, 193011, 193012, 193013, 193014, 193017] φ (hf_up φ 192 14 (((10 * (φ 192 14)) + z54) - 48)) := fr_up (fr_rf) (by decide)
                have i451 : Inv (hf_up (hf_up φ 192 14 (((10 * (φ 192 14)) + z54) - 48)) 192 13 ((φ 192 13) + 1)) := iv_up (lo := 0) (u := 940) i450 (by decide +kernel) (by omega) (by omega)
                have r451 : Fr [193004, 193011, 193012, 193013, 193014, 193017] φ (hf_up (hf_up φ 192 14 (((10 * (φ 192 14)) + z54) - 48)) 192 13 ((φ 192 13) + 1)) := fr_up r450 (by decide)
                have i452 : Inv (hf_up (hf_up (hf_up φ 192 14 (((10 * (φ 192 14)) + z54) - 48)) 192 13 ((φ 192 13) + 1)) 192 4 ((φ 192 4) + 1)) := iv_up (lo := 0) (u := 940) i451 (by decide +kernel) (by omega) (by omega)
                have r452 : Fr [193004, 193011, 193012, 193013, 193014, 193017] φ (hf_up (hf_up (hf_up φ 192 14 (((10 * (φ 192 14)) + z54) - 48)) 192 13 ((φ 192 13) + 1)) 192 4 ((φ 192 4) + 1)) := fr_up r451 (by decide)
                have f453 : (hf_up (hf_up (hf_up φ 192 14 (((10 * (φ 192 14)) + z54) - 48)) 192 13 ((φ 192 13) + 1)) 192 4 ((φ 192 4) + 1)) 192 13 = (φ 192 13) + 1 := ((hf_up_ne (fun q => absurd q.2 (by decide))).trans hf_up_eq)
                have f454 : (hf_up (hf_up (hf_up φ 192 14 (((10 * (φ 192 14)) + z54) - 48)) 192 13 ((φ 192 13) + 1)) 192 4 ((φ 192 4) + 1)) 192 14 = ((10 * (φ 192 14)) + z54) - 48 := ((hf_up_ne (fun q => absurd q.2 (by decide))).trans ((hf_up_ne (fun q => absurd q.2 (by decide))).trans hf_up_eq))
                have f455 : (hf_up (hf_up (hf_up φ 192 14 (((10 * (φ 192 14)) + z54) - 48)) 192 13 ((φ 192 13) + 1)) 192 4 ((φ 192 4) + 1)) 192 18 = φ 192 18 := ((hf_up_ne (fun q => absurd q.2 (by decide))).trans ((hf_up_ne (fun q => absurd q.2 (by decide))).trans (hf_up_ne (fun q => absurd q.2 (by decide)))))
                have f456 := iv_at (a := 192) (k := 18) (lo := (-1 : Int)) (u := 999) hI (by decide +kernel)
                have f457 : (hf_up (hf_up (hf_up φ 192 14 (((10 * (φ 192 14)) + z54) - 48)) 192 13 ((φ 192 13) + 1)) 192 4 ((φ 192 4) + 1)) 192 30 = φ 192 30 := ((hf_up_ne (fun q => absurd q.2 (by decide))).trans ((hf_up_ne (fun q => absurd q.2 (by decide))).trans (hf_up_ne (fun q => absurd q.2 (by decide)))))
                have f458 := iv_at (a := 192) (k := 30) (lo := 0) (u := 40) hI (by decide +kernel)
                have f459 : (hf_up (hf_up (hf_up φ 192 14 (((10 * (φ 192 14)) + z54) - 48)) 192 13 ((φ 192 13) + 1)) 192 4 ((φ 192 4) + 1)) 192 34 = φ 192 34 := ((hf_up_ne (fun q => absurd q.2 (by decide))).trans ((hf_up_ne (fun q => absurd q.2 (by decide))).trans (hf_up_ne (fun q => absurd q.2 (by decide)))))
                have f460 := iv_at (a := 192) (k := 34) (lo := 0) (u := 45) hI (by decide +kernel)
                have f461 : (hf_up (hf_up (hf_up φ 192 14 (((10 * (φ 192 14)) + z54) - 48)) 192 13 ((φ 192 13) + 1)) 192 4 ((φ 192 4) + 1)) 192 35 = φ 192 35 := ((hf_up_ne (fun q => absurd q.2 (by decide))).trans ((hf_up_ne (fun q => absurd q.2 (by decide))).trans (hf_up_ne (fun q => absurd q.2 (by decide)))))
                have f462 := iv_at (a := 192) (k := 35) (lo := 0) (u := 20) hI (by decide +kernel)
                have f463 : (hf_up (hf_up (hf_up φ 192 14 (((10 * (φ 192 14)) + z54) - 48)) 192 13 ((φ 192 13) + 1)) 192 4 ((φ 192 4) + 1)) 192 36 = φ 192 36 := ((hf_up_ne (fun q => absurd q.2 (by decide))).trans ((hf_up_ne (fun q => absurd q.2 (by decide))).trans (hf_up_ne (fun q => absurd q.2 (by decide)))))
                have f464 := iv_at (a := 192) (k := 36) (lo := 0) (u := 45) hI (by decide +kernel)
                have f465 : (hf_up (hf_up (hf_up φ 192 14 (((10 * (φ 192 14)) + z54) - 48)) 192 13 ((φ 192 13) + 1)) 192 4 ((φ 192 4) + 1)) 192 38 = φ 192 38 := ((hf_up_ne (fun q => absurd q.2 (by decide))).trans ((hf_up_ne (fun q => absurd q.2 (by decide))).trans (hf_up_ne (fun q => absurd q.2 (by decide)))))
                have f466 := iv_at (a := 192) (k := 38) (lo := 0) (u := 1) hI (by decide +kernel)
                have f467 : (hf_up (hf_up (hf_up φ 192 14 (((10 * (φ 192 14)) + z54) - 48)) 192 13 ((φ 192 13) + 1)) 192 4 ((φ 192 4) + 1)) 192 4 = (φ 192 4) + 1 := hf_up_eq
                exact ih (hf_up (hf_up (hf_up φ 192 14 (((10 * (φ 192 14)) + z54) - 48)) 192 13 ((φ 192 13) + 1)) 192 4 ((φ 192 4) + 1)) (jm_st1 L 3 (0, 0)) l1 l2 0 (get_st1 g0 (by decide) (fun q => absurd q.1 (by decide))) (get_st1 g1 (by decide) (fun q => absurd q.1 (by decide))) (get_st1 g2 (by decide) (fun q => tg0 q.2)) get_st1e i452 (by omega) (by omega) (by omega) (by omega) (by omega) (by omega) (by omega) (by omega) (by omega) (by omega) (fun χ hIχ hFχ hVχ hEχ => hQ χ hIχ (fr_tr r452 hFχ (by decide)) (by omega) (e54.trans hEχ))
            · skip
              have e52b := e51a.trans (if_neg q52)
              refine sf_176_192 (φ := φ) hI  (fun z55 hp55 hE55 => ⟨rfl, rfl, z55, rfl, ?_⟩)
              have e55 := e52b.trans (bnp_e hE55)
              have i468 : Inv (hf_up φ 192 17 (hb_lor (hb_lshl (φ 192 17) 8) (hb_i2l z55))) := iv_upn hI (by decide) (by decide) (by decide +kernel)
              have r468 : Fr [193004, 193011, 193012, 193013, 193014, 193017] φ (hf_up φ 192 17 (hb_lor (hb_lshl (φ 192 17) 8) (hb_i2l z55))) := fr_up (fr_rf) (by decide)
              refine ⟨by unfold hi; omega, by unfold hi; omega, fun q56 => ?_, fun q56 => ?_⟩
              · skip
                have e56a := e55.trans (if_pos q56)
                have i469 : Inv (hf_up (hf_up φ 192 17 (hb_lor (hb_lshl (φ 192 17) 8) (hb_i2l z55))) 192 13 ((φ 192 13) + 1)) := iv_up (lo := 0) (u := 940) i468 (by decide +kernel) (by omega) (by omega)
                have r469 : Fr [193004, 193011, 193012, 193013, 193014, 193017] φ (hf_up (hf_up φ 192 17 (hb_lor (hb_lshl (φ 192 17) 8) (hb_i2l z55))) 192 13 ((φ 192 13) + 1)) := fr_up r468 (by decide)
                have i470 : Inv (hf_up (hf_up (hf_up φ 192 17 (hb_lor (hb_lshl (φ 192 17) 8) (hb_i2l z55))) 192 13 ((φ 192 13) + 1)) 192 4 ((φ 192 4) + 1)) := iv_up (lo := 0) (u := 940) i469 (by decide +kernel) (by omega) (by omega)
                have r470 : Fr [193004, 193011, 193012, 193013, 193014, 193017] φ (hf_up (hf_up (hf_up φ 192 17 (hb_lor (hb_lshl (φ 192 17) 8) (hb_i2l z55))) 192 13 ((φ 192 13) + 1)) 192 4 ((φ 192 4) + 1)) := fr_up r469 (by decide)
                have f471 : (hf_up (hf_up (hf_up φ 192 17 (hb_lor (hb_lshl (φ 192 17) 8) (hb_i2l z55))) 192 13 ((φ 192 13) + 1)) 192 4 ((φ 192 4) + 1)) 192 13 = (φ 192 13) + 1 := ((hf_up_ne (fun q => absurd q.2 (by decide))).trans hf_up_eq)
                have f472 : (hf_up (hf_up (hf_up φ 192 17 (hb_lor (hb_lshl (φ 192 17) 8) (hb_i2l z55))) 192 13 ((φ 192 13) + 1)) 192 4 ((φ 192 4) + 1)) 192 14 = φ 192 14 := ((hf_up_ne (fun q => absurd q.2 (by decide))).trans ((hf_up_ne (fun q => absurd q.2 (by decide))).trans (hf_up_ne (fun q => absurd q.2 (by decide)))))
                have f473 := iv_at (a := 192) (k := 14) (lo := 0) (u := 8214) hI (by decide +kernel)
                have f474 : (hf_up (hf_up (hf_up φ 192 17 (hb_lor (hb_lshl (φ 192 17) 8) (hb_i2l z55))) 192 13 ((φ 192 13) + 1)) 192 4 ((φ 192 4) + 1)) 192 18 = φ 192 18 := ((hf_up_ne (fun q => absurd q.2 (by decide))).trans ((hf_up_ne (fun q => absurd q.2 (by decide))).trans (hf_up_ne (fun q => absurd q.2 (by decide)))))
                have f475 := iv_at (a := 192) (k := 18) (lo := (-1 : Int)) (u := 999) hI (by decide +kernel)
                have f476 : (hf_up (hf_up (hf_up φ 192 17 (hb_lor (hb_lshl (φ 192 17) 8) (hb_i2l z55))) 192 13 ((φ 192 13) + 1)) 192 4 ((φ 192 4) + 1)) 192 30 = φ 192 30 := ((hf_up_ne (fun q => absurd q.2 (by decide))).trans ((hf_up_ne (fun q => absurd q.2 (by decide))).trans (hf_up_ne (fun q => absurd q.2 (by decide)))))
                have f477 := iv_at (a := 192) (k := 30) (lo := 0) (u := 40) hI (by decide +kernel)
                have f478 : (hf_up (hf_up (hf_up φ 192 17 (hb_lor (hb_lshl (φ 192 17) 8) (hb_i2l z55))) 192 13 ((φ 192 13) + 1)) 192 4 ((φ 192 4) + 1)) 192 34 = φ 192 34 := ((hf_up_ne (fun q => absurd q.2 (by decide))).trans ((hf_up_ne (fun q => absurd q.2 (by decide))).trans (hf_up_ne (fun q => absurd q.2 (by decide)))))
                have f479 := iv_at (a := 192) (k := 34) (lo := 0) (u := 45) hI (by decide +kernel)
                have f480 : (hf_up (hf_up (hf_up φ 192 17 (hb_lor (hb_lshl (φ 192 17) 8) (hb_i2l z55))) 192 13 ((φ 192 13) + 1)) 192 4 ((φ 192 4) + 1)) 192 35 = φ 192 35 := ((hf_up_ne (fun q => absurd q.2 (by decide))).trans ((hf_up_ne (fun q => absurd q.2 (by decide))).trans (hf_up_ne (fun q => absurd q.2 (by decide)))))
                have f481 := iv_at (a := 192) (k := 35) (lo := 0) (u := 20) hI (by decide +kernel)
                have f482 : (hf_up (hf_up (hf_up φ 192 17 (hb_lor (hb_lshl (φ 192 17) 8) (hb_i2l z55))) 192 13 ((φ 192 13) + 1)) 192 4 ((φ 192 4) + 1)) 192 36 = φ 192 36 := ((hf_up_ne (fun q => absurd q.2 (by decide))).trans ((hf_up_ne (fun q => absurd q.2 (by decide))).trans (hf_up_ne (fun q => absurd q.2 (by decide)))))
                have f483 := iv_at (a := 192) (k := 36) (lo := 0) (u := 45) hI (by decide +kernel)
                have f484 : (hf_up (hf_up (hf_up φ 192 17 (hb_lor (hb_lshl (φ 192 17) 8) (hb_i2l z55))) 192 13 ((φ 192 13) + 1)) 192 4 ((φ 192 4) + 1)) 192 38 = φ 192 38 := ((hf_up_ne (fun q => absurd q.2 (by decide))).trans ((hf_up_ne (fun q => absurd q.2 (by decide))).trans (hf_up_ne (fun q => absurd q.2 (by decide)))))
                have f485 := iv_at (a := 192) (k := 38) (lo := 0) (u := 1) hI (by decide +kernel)
                have f486 : (hf_up (hf_up (hf_up φ 192 17 (hb_lor (hb_lshl (φ 192 17) 8) (hb_i2l z55))) 192 13 ((φ 192 13) + 1)) 192 4 ((φ 192 4) + 1)) 192 4 = (φ 192 4) + 1 := hf_up_eq
                exact ih (hf_up (hf_up (hf_up φ 192 17 (hb_lor (hb_lshl (φ 192 17) 8) (hb_i2l z55))) 192 13 ((φ 192 13) + 1)) 192 4 ((φ 192 4) + 1)) (jm_st1 L 3 (0, 0)) l1 l2 0 (get_st1 g0 (by decide) (fun q => absurd q.1 (by decide))) (get_st1 g1 (by decide) (fun q => absurd q.1 (by decide))) (get_st1 g2 (by decide) (fun q => tg0 q.2)) get_st1e i470 (by omega) (by omega) (by omega) (by omega) (by omega) (by omega) (by omega) (by omega) (by omega) (by omega) (fun χ hIχ hFχ hVχ hEχ => hQ χ hIχ (fr_tr r470 hFχ (by decide)) (by omega) (e56a.trans hEχ))
              · skip
                have e56b := e55.trans (if_neg q56)
                have f487 := iv_at (a := 192) (k := 14) (lo := 0) (u := 8214) hI (by decide +kernel)
                refine sf_176_192 (φ := (hf_up φ 192 17 (hb_lor (hb_lshl (φ 192 17) 8) (hb_i2l z55)))) i468  (fun z57 hp57 hE57 => ⟨rfl, rfl, z57, rfl, ?_⟩)
                have e57 := e56b.trans (bnp_e hE57)
                have f488 : (hf_up φ 192 17 (hb_lor (hb_lshl (φ 192 17) 8) (hb_i2l z55))) 192 3 = φ 192 3 := (hf_up_ne (fun q => absurd q.2 (by decide)))
                have f489 : (hf_up φ 192 17 (hb_lor (hb_lshl (φ 192 17) 8) (hb_i2l z55))) 192 4 = φ 192 4 := (hf_up_ne (fun q => absurd q.2 (by decide)))
                have f490 := pk_b (hf_up φ 192 17 (hb_lor (hb_lshl (φ 192 17) 8) (hb_i2l z55)))
                have f491 := pk_c (φ := φ) (ψ := (hf_up φ 192 17 (hb_lor (hb_lshl (φ 192 17) 8) (hb_i2l z55)))) (hf_up_ne (fun q => absurd q.2 (by decide))) (hf_up_ne (fun q => absurd q.2 (by decide))) (fun kk => (hf_up_ne (fun q => absurd q.1 (by decide))))
                have i492 : Inv (hf_up (hf_up φ 192 17 (hb_lor (hb_lshl (φ 192 17) 8) (hb_i2l z55))) 192 14 (((10 * (φ 192 14)) + z57) - 48)) := iv_up (lo := 0) (u := 8214) i468 (by decide +kernel) (by omega) (by omega)
                have r492 : Fr [193004, 193011, 193012, 193013, 193014, 193017] φ (hf_up (hf_up φ 192 17 (hb_lor (hb_lshl (φ 192 17) 8) (hb_i2l z55))) 192 14 (((10 * (φ 192 14)) + z57) - 48)) := fr_up r468 (by decide)
                have i493 : Inv (hf_up (hf_up (hf_up φ 192 17 (hb_lor (hb_lshl (φ 192 17) 8) (hb_i2l z55))) 192 14 (((10 * (φ 192 14)) + z57) - 48)) 192 13 ((φ 192 13) + 1)) := iv_up (lo := 0) (u := 940) i492 (by decide +kernel) (by omega) (by omega)
                have r493 : Fr [193004, 193011, 193012, 193013, 193014, 193017] φ (hf_up (hf_up (hf_up φ 192 17 (hb_lor (hb_lshl (φ 192 17) 8) (hb_i2l z55))) 192 14 (((10 * (φ 192 14)) + z57) - 48)) 192 13 ((φ 192 13) + 1)) := fr_up r492 (by decide)
                have i494 : Inv (hf_up (hf_up (hf_up (hf_up φ 192 17 (hb_lor (hb_lshl (φ 192 17) 8) (hb_i2l z55))) 192 14 (((10 * (φ 192 14)) + z57) - 48)) 192 13 ((φ 192 13) + 1)) 192 4 ((φ 192 4) + 1)) := iv_up (lo := 0) (u := 940) i493 (by decide +kernel) (by omega) (by omega)
                have r494 : Fr [193004, 193011, 193012, 193013, 193014, 193017] φ (hf_up (hf_up (hf_up (hf_up φ 192 17 (hb_lor (hb_lshl (φ 192 17) 8) (hb_i2l z55))) 192 14 (((10 * (φ 192 14)) + z57) - 48)) 192 13 ((φ 192 13) + 1)) 192 4 ((φ 192 4) + 1)) := fr_up r493 (by decide)
                have f495 : (hf_up (hf_up (hf_up (hf_up φ 192 17 (hb_lor (hb_lshl (φ 192 17) 8) (hb_i2l z55))) 192 14 (((10 * (φ 192 14)) + z57) - 48)) 192 13 ((φ 192 13) + 1)) 192 4 ((φ 192 4) + 1)) 192 13 = (φ 192 13) + 1 := ((hf_up_ne (fun q => absurd q.2 (by decide))).trans hf_up_eq)
                have f496 : (hf_up (hf_up (hf_up (hf_up φ 192 17 (hb_lor (hb_lshl (φ 192 17) 8) (hb_i2l z55))) 192 14 (((10 * (φ 192 14)) + z57) - 48)) 192 13 ((φ 192 13) + 1)) 192 4 ((φ 192 4) + 1)) 192 14 = ((10 * (φ 192 14)) + z57) - 48 := ((hf_up_ne (fun q => absurd q.2 (by decide))).trans ((hf_up_ne (fun q => absurd q.2 (by decide))).trans hf_up_eq))
                have f497 : (hf_up (hf_up (hf_up (hf_up φ 192 17 (hb_lor (hb_lshl (φ 192 17) 8) (hb_i2l z55))) 192 14 (((10 * (φ 192 14)) + z57) - 48)) 192 13 ((φ 192 13) + 1)) 192 4 ((φ 192 4) + 1)) 192 18 = φ 192 18 := ((hf_up_ne (fun q => absurd q.2 (by decide))).trans ((hf_up_ne (fun q => absurd q.2 (by decide))).trans ((hf_up_ne (fun q => absurd q.2 (by decide))).trans (hf_up_ne (fun q => absurd q.2 (by decide))))))
                have f498 := iv_at (a := 192) (k := 18) (lo := (-1 : Int)) (u := 999) hI (by decide +kernel)
                have f499 : (hf_up (hf_up (hf_up (hf_up φ 192 17 (hb_lor (hb_lshl (φ 192 17) 8) (hb_i2l z55))) 192 14 (((10 * (φ 192 14)) + z57) - 48)) 192 13 ((φ 192 13) + 1)) 192 4 ((φ 192 4) + 1)) 192 30 = φ 192 30 := ((hf_up_ne (fun q => absurd q.2 (by decide))).trans ((hf_up_ne (fun q => absurd q.2 (by decide))).trans ((hf_up_ne (fun q => absurd q.2 (by decide))).trans (hf_up_ne (fun q => absurd q.2 (by decide))))))
                have f500 := iv_at (a := 192) (k := 30) (lo := 0) (u := 40) hI (by decide +kernel)
                have f501 : (hf_up (hf_up (hf_up (hf_up φ 192 17 (hb_lor (hb_lshl (φ 192 17) 8) (hb_i2l z55))) 192 14 (((10 * (φ 192 14)) + z57) - 48)) 192 13 ((φ 192 13) + 1)) 192 4 ((φ 192 4) + 1)) 192 34 = φ 192 34 := ((hf_up_ne (fun q => absurd q.2 (by decide))).trans ((hf_up_ne (fun q => absurd q.2 (by decide))).trans ((hf_up_ne (fun q => absurd q.2 (by decide))).trans (hf_up_ne (fun q => absurd q.2 (by decide))))))
                have f502 := iv_at (a := 192) (k := 34) (lo := 0) (u := 45) hI (by decide +kernel)
                have f503 : (hf_up (hf_up (hf_up (hf_up φ 192 17 (hb_lor (hb_lshl (φ 192 17) 8) (hb_i2l z55))) 192 14 (((10 * (φ 192 14)) + z57) - 48)) 192 13 ((φ 192 13) + 1)) 192 4 ((φ 192 4) + 1)) 192 35 = φ 192 35 := ((hf_up_ne (fun q => absurd q.2 (by decide))).trans ((hf_up_ne (fun q => absurd q.2 (by decide))).trans ((hf_up_ne (fun q => absurd q.2 (by decide))).trans (hf_up_ne (fun q => absurd q.2 (by decide))))))
                have f504 := iv_at (a := 192) (k := 35) (lo := 0) (u := 20) hI (by decide +kernel)
                have f505 : (hf_up (hf_up (hf_up (hf_up φ 192 17 (hb_lor (hb_lshl (φ 192 17) 8) (hb_i2l z55))) 192 14 (((10 * (φ 192 14)) + z57) - 48)) 192 13 ((φ 192 13) + 1)) 192 4 ((φ 192 4) + 1)) 192 36 = φ 192 36 := ((hf_up_ne (fun q => absurd q.2 (by decide))).trans ((hf_up_ne (fun q => absurd q.2 (by decide))).trans ((hf_up_ne (fun q => absurd q.2 (by decide))).trans (hf_up_ne (fun q => absurd q.2 (by decide))))))
                have f506 := iv_at (a := 192) (k := 36) (lo := 0) (u := 45) hI (by decide +kernel)
                have f507 : (hf_up (hf_up (hf_up (hf_up φ 192 17 (hb_lor (hb_lshl (φ 192 17) 8) (hb_i2l z55))) 192 14 (((10 * (φ 192 14)) + z57) - 48)) 192 13 ((φ 192 13) + 1)) 192 4 ((φ 192 4) + 1)) 192 38 = φ 192 38 := ((hf_up_ne (fun q => absurd q.2 (by decide))).trans ((hf_up_ne (fun q => absurd q.2 (by decide))).trans ((hf_up_ne (fun q => absurd q.2 (by decide))).trans (hf_up_ne (fun q => absurd q.2 (by decide))))))
                have f508 := iv_at (a := 192) (k := 38) (lo := 0) (u := 1) hI (by decide +kernel)
                have f509 : (hf_up (hf_up (hf_up (hf_up φ 192 17 (hb_lor (hb_lshl (φ 192 17) 8) (hb_i2l z55))) 192 14 (((10 * (φ 192 14)) + z57) - 48)) 192 13 ((φ 192 13) + 1)) 192 4 ((φ 192 4) + 1)) 192 4 = (φ 192 4) + 1 := hf_up_eq
                exact ih (hf_up (hf_up (hf_up (hf_up φ 192 17 (hb_lor (hb_lshl (φ 192 17) 8) (hb_i2l z55))) 192 14 (((10 * (φ 192 14)) + z57) - 48)) 192 13 ((φ 192 13) + 1)) 192 4 ((φ 192 4) + 1)) (jm_st1 L 3 (0, 0)) l1 l2 0 (get_st1 g0 (by decide) (fun q => absurd q.1 (by decide))) (get_st1 g1 (by decide) (fun q => absurd q.1 (by decide))) (get_st1 g2 (by decide) (fun q => tg0 q.2)) get_st1e i494 (by omega) (by omega) (by omega) (by omega) (by omega) (by omega) (by omega) (by omega) (by omega) (by omega) (fun χ hIχ hFχ hVχ hEχ => hQ χ hIχ (fr_tr r494 hFχ (by decide)) (by omega) (e57.trans hEχ))
          · skip
            have e51b := e50.trans (if_neg q51)
            have f510 := iv_at (a := 192) (k := 13) (lo := 0) (u := 940) hI (by decide +kernel)
            refine ⟨by unfold hi; omega, by unfold hi; omega, fun q58 => ?_, fun q58 => ?_⟩
            · skip
              have e58a := e51b.trans (if_pos q58)
              refine ⟨by unfold hi; omega, by unfold hi; omega, fun q59 => ?_, fun q59 => ?_⟩
              · skip
                have e59a := e58a.trans (if_pos q59)
                have i511 : Inv (hf_up φ 192 13 ((φ 192 13) + 1)) := iv_up (lo := 0) (u := 940) hI (by decide +kernel) (by omega) (by omega)
                have r511 : Fr [193004, 193011, 193012, 193013, 193014, 193017] φ (hf_up φ 192 13 ((φ 192 13) + 1)) := fr_up (fr_rf) (by decide)
                have i512 : Inv (hf_up (hf_up φ 192 13 ((φ 192 13) + 1)) 192 4 ((φ 192 4) + 1)) := iv_up (lo := 0) (u := 940) i511 (by decide +kernel) (by omega) (by omega)
                have r512 : Fr [193004, 193011, 193012, 193013, 193014, 193017] φ (hf_up (hf_up φ 192 13 ((φ 192 13) + 1)) 192 4 ((φ 192 4) + 1)) := fr_up r511 (by decide)
                have f513 : (hf_up (hf_up φ 192 13 ((φ 192 13) + 1)) 192 4 ((φ 192 4) + 1)) 192 13 = (φ 192 13) + 1 := ((hf_up_ne (fun q => absurd q.2 (by decide))).trans hf_up_eq)
                have f514 : (hf_up (hf_up φ 192 13 ((φ 192 13) + 1)) 192 4 ((φ 192 4) + 1)) 192 14 = φ 192 14 := ((hf_up_ne (fun q => absurd q.2 (by decide))).trans (hf_up_ne (fun q => absurd q.2 (by decide))))
                have f515 := iv_at (a := 192) (k := 14) (lo := 0) (u := 8214) hI (by decide +kernel)
                have f516 : (hf_up (hf_up φ 192 13 ((φ 192 13) + 1)) 192 4 ((φ 192 4) + 1)) 192 18 = φ 192 18 := ((hf_up_ne (fun q => absurd q.2 (by decide))).trans (hf_up_ne (fun q => absurd q.2 (by decide))))
                have f517 := iv_at (a := 192) (k := 18) (lo := (-1 : Int)) (u := 999) hI (by decide +kernel)
                have f518 : (hf_up (hf_up φ 192 13 ((φ 192 13) + 1)) 192 4 ((φ 192 4) + 1)) 192 30 = φ 192 30 := ((hf_up_ne (fun q => absurd q.2 (by decide))).trans (hf_up_ne (fun q => absurd q.2 (by decide))))
                have f519 := iv_at (a := 192) (k := 30) (lo := 0) (u := 40) hI (by decide +kernel)
                have f520 : (hf_up (hf_up φ 192 13 ((φ 192 13) + 1)) 192 4 ((φ 192 4) + 1)) 192 34 = φ 192 34 := ((hf_up_ne (fun q => absurd q.2 (by decide))).trans (hf_up_ne (fun q => absurd q.2 (by decide))))
                have f521 := iv_at (a := 192) (k := 34) (lo := 0) (u := 45) hI (by decide +kernel)
                have f522 : (hf_up (hf_up φ 192 13 ((φ 192 13) + 1)) 192 4 ((φ 192 4) + 1)) 192 35 = φ 192 35 := ((hf_up_ne (fun q => absurd q.2 (by decide))).trans (hf_up_ne (fun q => absurd q.2 (by decide))))
                have f523 := iv_at (a := 192) (k := 35) (lo := 0) (u := 20) hI (by decide +kernel)
                have f524 : (hf_up (hf_up φ 192 13 ((φ 192 13) + 1)) 192 4 ((φ 192 4) + 1)) 192 36 = φ 192 36 := ((hf_up_ne (fun q => absurd q.2 (by decide))).trans (hf_up_ne (fun q => absurd q.2 (by decide))))
                have f525 := iv_at (a := 192) (k := 36) (lo := 0) (u := 45) hI (by decide +kernel)
                have f526 : (hf_up (hf_up φ 192 13 ((φ 192 13) + 1)) 192 4 ((φ 192 4) + 1)) 192 38 = φ 192 38 := ((hf_up_ne (fun q => absurd q.2 (by decide))).trans (hf_up_ne (fun q => absurd q.2 (by decide))))
                have f527 := iv_at (a := 192) (k := 38) (lo := 0) (u := 1) hI (by decide +kernel)
                have f528 : (hf_up (hf_up φ 192 13 ((φ 192 13) + 1)) 192 4 ((φ 192 4) + 1)) 192 4 = (φ 192 4) + 1 := hf_up_eq
                exact ih (hf_up (hf_up φ 192 13 ((φ 192 13) + 1)) 192 4 ((φ 192 4) + 1)) (jm_st1 L 3 (0, 1)) l1 l2 1 (get_st1 g0 (by decide) (fun q => absurd q.1 (by decide))) (get_st1 g1 (by decide) (fun q => absurd q.1 (by decide))) (get_st1 g2 (by decide) (fun q => tg0 q.2)) get_st1e i512 (by omega) (by omega) (by omega) (by omega) (by omega) (by omega) (by omega) (by omega) (by omega) (by omega) (fun χ hIχ hFχ hVχ hEχ => hQ χ hIχ (fr_tr r512 hFχ (by decide)) (by omega) (e59a.trans hEχ))
              · skip
                have e59b := e58a.trans (if_neg q59)
                have f529 := iv_at (a := 192) (k := 14) (lo := 0) (u := 8214) hI (by decide +kernel)
                refine sf_176_192 (φ := φ) hI  (fun z60 hp60 hE60 => ⟨rfl, rfl, z60, rfl, ?_⟩)
                have e60 := e59b.trans (bnp_e hE60)
                have i530 : Inv (hf_up φ 192 14 (((10 * (φ 192 14)) + z60) - 48)) := iv_up (lo := 0) (u := 8214) hI (by decide +kernel) (by omega) (by omega)
                have r530 : Fr [193004, 193011, 193012, 193013, 193014, 193017] φ (hf_up φ 192 14 (((10 * (φ 192 14)) + z60) - 48)) := fr_up (fr_rf) (by decide)
                have i531 : Inv (hf_up (hf_up φ 192 14 (((10 * (φ 192 14)) + z60) - 48)) 192 13 ((φ 192 13) + 1)) := iv_up (lo := 0) (u := 940) i530 (by decide +kernel) (by omega) (by omega)
                have r531 : Fr [193004, 193011, 193012, 193013, 193014, 193017] φ (hf_up (hf_up φ 192 14 (((10 * (φ 192 14)) + z60) - 48)) 192 13 ((φ 192 13) + 1)) := fr_up r530 (by decide)
                have i532 : Inv (hf_up (hf_up (hf_up φ 192 14 (((10 * (φ 192 14)) + z60) - 48)) 192 13 ((φ 192 13) + 1)) 192 4 ((φ 192 4) + 1)) := iv_up (lo := 0) (u := 940) i531 (by decide +kernel) (by omega) (by omega)
                have r532 : Fr [193004, 193011, 193012, 193013, 193014, 193017] φ (hf_up (hf_up (hf_up φ 192 14 (((10 * (φ 192 14)) + z60) - 48)) 192 13 ((φ 192 13) + 1)) 192 4 ((φ 192 4) + 1)) := fr_up r531 (by decide)
                have f533 : (hf_up (hf_up (hf_up φ 192 14 (((10 * (φ 192 14)) + z60) - 48)) 192 13 ((φ 192 13) + 1)) 192 4 ((φ 192 4) + 1)) 192 13 = (φ 192 13) + 1 := ((hf_up_ne (fun q => absurd q.2 (by decide))).trans hf_up_eq)
                have f534 : (hf_up (hf_up (hf_up φ 192 14 (((10 * (φ 192 14)) + z60) - 48)) 192 13 ((φ 192 13) + 1)) 192 4 ((φ 192 4) + 1)) 192 14 = ((10 * (φ 192 14)) + z60) - 48 := ((hf_up_ne (fun q => absurd q.2 (by decide))).trans ((hf_up_ne (fun q => absurd q.2 (by decide))).trans hf_up_eq))
                have f535 : (hf_up (hf_up (hf_up φ 192 14 (((10 * (φ 192 14)) + z60) - 48)) 192 13 ((φ 192 13) + 1)) 192 4 ((φ 192 4) + 1)) 192 18 = φ 192 18 := ((hf_up_ne (fun q => absurd q.2 (by decide))).trans ((hf_up_ne (fun q => absurd q.2 (by decide))).trans (hf_up_ne (fun q => absurd q.2 (by decide)))))
                have f536 := iv_at (a := 192) (k := 18) (lo := (-1 : Int)) (u := 999) hI (by decide +kernel)
                have f537 : (hf_up (hf_up (hf_up φ 192 14 (((10 * (φ 192 14)) + z60) - 48)) 192 13 ((φ 192 13) + 1)) 192 4 ((φ 192 4) + 1)) 192 30 = φ 192 30 := ((hf_up_ne (fun q => absurd q.2 (by decide))).trans ((hf_up_ne (fun q => absurd q.2 (by decide))).trans (hf_up_ne (fun q => absurd q.2 (by decide)))))
                have f538 := iv_at (a := 192) (k := 30) (lo := 0) (u := 40) hI (by decide +kernel)
                have f539 : (hf_up (hf_up (hf_up φ 192 14 (((10 * (φ 192 14)) + z60) - 48)) 192 13 ((φ 192 13) + 1)) 192 4 ((φ 192 4) + 1)) 192 34 = φ 192 34 := ((hf_up_ne (fun q => absurd q.2 (by decide))).trans ((hf_up_ne (fun q => absurd q.2 (by decide))).trans (hf_up_ne (fun q => absurd q.2 (by decide)))))
                have f540 := iv_at (a := 192) (k := 34) (lo := 0) (u := 45) hI (by decide +kernel)
                have f541 : (hf_up (hf_up (hf_up φ 192 14 (((10 * (φ 192 14)) + z60) - 48)) 192 13 ((φ 192 13) + 1)) 192 4 ((φ 192 4) + 1)) 192 35 = φ 192 35 := ((hf_up_ne (fun q => absurd q.2 (by decide))).trans ((hf_up_ne (fun q => absurd q.2 (by decide))).trans (hf_up_ne (fun q => absurd q.2 (by decide)))))
                have f542 := iv_at (a := 192) (k := 35) (lo := 0) (u := 20) hI (by decide +kernel)
                have f543 : (hf_up (hf_up (hf_up φ 192 14 (((10 * (φ 192 14)) + z60) - 48)) 192 13 ((φ 192 13) + 1)) 192 4 ((φ 192 4) + 1)) 192 36 = φ 192 36 := ((hf_up_ne (fun q => absurd q.2 (by decide))).trans ((hf_up_ne (fun q => absurd q.2 (by decide))).trans (hf_up_ne (fun q => absurd q.2 (by decide)))))
                have f544 := iv_at (a := 192) (k := 36) (lo := 0) (u := 45) hI (by decide +kernel)
                have f545 : (hf_up (hf_up (hf_up φ 192 14 (((10 * (φ 192 14)) + z60) - 48)) 192 13 ((φ 192 13) + 1)) 192 4 ((φ 192 4) + 1)) 192 38 = φ 192 38 := ((hf_up_ne (fun q => absurd q.2 (by decide))).trans ((hf_up_ne (fun q => absurd q.2 (by decide))).trans (hf_up_ne (fun q => absurd q.2 (by decide)))))
                have f546 := iv_at (a := 192) (k := 38) (lo := 0) (u := 1) hI (by decide +kernel)
                have f547 : (hf_up (hf_up (hf_up φ 192 14 (((10 * (φ 192 14)) + z60) - 48)) 192 13 ((φ 192 13) + 1)) 192 4 ((φ 192 4) + 1)) 192 4 = (φ 192 4) + 1 := hf_up_eq
                exact ih (hf_up (hf_up (hf_up φ 192 14 (((10 * (φ 192 14)) + z60) - 48)) 192 13 ((φ 192 13) + 1)) 192 4 ((φ 192 4) + 1)) (jm_st1 L 3 (0, 1)) l1 l2 1 (get_st1 g0 (by decide) (fun q => absurd q.1 (by decide))) (get_st1 g1 (by decide) (fun q => absurd q.1 (by decide))) (get_st1 g2 (by decide) (fun q => tg0 q.2)) get_st1e i532 (by omega) (by omega) (by omega) (by omega) (by omega) (by omega) (by omega) (by omega) (by omega) (by omega) (fun χ hIχ hFχ hVχ hEχ => hQ χ hIχ (fr_tr r532 hFχ (by decide)) (by omega) (e60.trans hEχ))
            · skip
              have e58b := e51b.trans (if_neg q58)
              refine sf_176_192 (φ := φ) hI  (fun z61 hp61 hE61 => ⟨rfl, rfl, z61, rfl, ?_⟩)
              have e61 := e58b.trans (bnp_e hE61)
              have i548 : Inv (hf_up φ 192 17 (hb_lor (hb_lshl (φ 192 17) 8) (hb_i2l z61))) := iv_upn hI (by decide) (by decide) (by decide +kernel)
              have r548 : Fr [193004, 193011, 193012, 193013, 193014, 193017] φ (hf_up φ 192 17 (hb_lor (hb_lshl (φ 192 17) 8) (hb_i2l z61))) := fr_up (fr_rf) (by decide)
              refine ⟨by unfold hi; omega, by unfold hi; omega, fun q62 => ?_, fun q62 => ?_⟩
              · skip
                have e62a := e61.trans (if_pos q62)
                have i549 : Inv (hf_up (hf_up φ 192 17 (hb_lor (hb_lshl (φ 192 17) 8) (hb_i2l z61))) 192 13 ((φ 192 13) + 1)) := iv_up (lo := 0) (u := 940) i548 (by decide +kernel) (by omega) (by omega)
                have r549 : Fr [193004, 193011, 193012, 193013, 193014, 193017] φ (hf_up (hf_up φ 192 17 (hb_lor (hb_lshl (φ 192 17) 8) (hb_i2l z61))) 192 13 ((φ 192 13) + 1)) := fr_up r548 (by decide)
                have i550 : Inv (hf_up (hf_up (hf_up φ 192 17 (hb_lor (hb_lshl (φ 192 17) 8) (hb_i2l z61))) 192 13 ((φ 192 13) + 1)) 192 4 ((φ 192 4) + 1)) := iv_up (lo := 0) (u := 940) i549 (by decide +kernel) (by omega) (by omega)
                have r550 : Fr [193004, 193011, 193012, 193013, 193014, 193017] φ (hf_up (hf_up (hf_up φ 192 17 (hb_lor (hb_lshl (φ 192 17) 8) (hb_i2l z61))) 192 13 ((φ 192 13) + 1)) 192 4 ((φ 192 4) + 1)) := fr_up r549 (by decide)
                have f551 : (hf_up (hf_up (hf_up φ 192 17 (hb_lor (hb_lshl (φ 192 17) 8) (hb_i2l z61))) 192 13 ((φ 192 13) + 1)) 192 4 ((φ 192 4) + 1)) 192 13 = (φ 192 13) + 1 := ((hf_up_ne (fun q => absurd q.2 (by decide))).trans hf_up_eq)
                have f552 : (hf_up (hf_up (hf_up φ 192 17 (hb_lor (hb_lshl (φ 192 17) 8) (hb_i2l z61))) 192 13 ((φ 192 13) + 1)) 192 4 ((φ 192 4) + 1)) 192 14 = φ 192 14 := ((hf_up_ne (fun q => absurd q.2 (by decide))).trans ((hf_up_ne (fun q => absurd q.2 (by decide))).trans (hf_up_ne (fun q => absurd q.2 (by decide)))))
                have f553 := iv_at (a := 192) (k := 14) (lo := 0) (u := 8214) hI (by decide +kernel)
                have f554 : (hf_up (hf_up (hf_up φ 192 17 (hb_lor (hb_lshl (φ 192 17) 8) (hb_i2l z61))) 192 13 ((φ 192 13) + 1)) 192 4 ((φ 192 4) + 1)) 192 18 = φ 192 18 := ((hf_up_ne (fun q => absurd q.2 (by decide))).trans ((hf_up_ne (fun q => absurd q.2 (by decide))).trans (hf_up_ne (fun q => absurd q.2 (by decide)))))
                have f555 := iv_at (a := 192) (k := 18) (lo := (-1 : Int)) (u := 999) hI (by decide +kernel)
                have f556 : (hf_up (hf_up (hf_up φ 192 17 (hb_lor (hb_lshl (φ 192 17) 8) (hb_i2l z61))) 192 13 ((φ 192 13) + 1)) 192 4 ((φ 192 4) + 1)) 192 30 = φ 192 30 := ((hf_up_ne (fun q => absurd q.2 (by decide))).trans ((hf_up_ne (fun q => absurd q.2 (by decide))).trans (hf_up_ne (fun q => absurd q.2 (by decide)))))
                have f557 := iv_at (a := 192) (k := 30) (lo := 0) (u := 40) hI (by decide +kernel)
                have f558 : (hf_up (hf_up (hf_up φ 192 17 (hb_lor (hb_lshl (φ 192 17) 8) (hb_i2l z61))) 192 13 ((φ 192 13) + 1)) 192 4 ((φ 192 4) + 1)) 192 34 = φ 192 34 := ((hf_up_ne (fun q => absurd q.2 (by decide))).trans ((hf_up_ne (fun q => absurd q.2 (by decide))).trans (hf_up_ne (fun q => absurd q.2 (by decide)))))
                have f559 := iv_at (a := 192) (k := 34) (lo := 0) (u := 45) hI (by decide +kernel)
                have f560 : (hf_up (hf_up (hf_up φ 192 17 (hb_lor (hb_lshl (φ 192 17) 8) (hb_i2l z61))) 192 13 ((φ 192 13) + 1)) 192 4 ((φ 192 4) + 1)) 192 35 = φ 192 35 := ((hf_up_ne (fun q => absurd q.2 (by decide))).trans ((hf_up_ne (fun q => absurd q.2 (by decide))).trans (hf_up_ne (fun q => absurd q.2 (by decide)))))
                have f561 := iv_at (a := 192) (k := 35) (lo := 0) (u := 20) hI (by decide +kernel)
                have f562 : (hf_up (hf_up (hf_up φ 192 17 (hb_lor (hb_lshl (φ 192 17) 8) (hb_i2l z61))) 192 13 ((φ 192 13) + 1)) 192 4 ((φ 192 4) + 1)) 192 36 = φ 192 36 := ((hf_up_ne (fun q => absurd q.2 (by decide))).trans ((hf_up_ne (fun q => absurd q.2 (by decide))).trans (hf_up_ne (fun q => absurd q.2 (by decide)))))
                have f563 := iv_at (a := 192) (k := 36) (lo := 0) (u := 45) hI (by decide +kernel)
                have f564 : (hf_up (hf_up (hf_up φ 192 17 (hb_lor (hb_lshl (φ 192 17) 8) (hb_i2l z61))) 192 13 ((φ 192 13) + 1)) 192 4 ((φ 192 4) + 1)) 192 38 = φ 192 38 := ((hf_up_ne (fun q => absurd q.2 (by decide))).trans ((hf_up_ne (fun q => absurd q.2 (by decide))).trans (hf_up_ne (fun q => absurd q.2 (by decide)))))
                have f565 := iv_at (a := 192) (k := 38) (lo := 0) (u := 1) hI (by decide +kernel)
                have f566 : (hf_up (hf_up (hf_up φ 192 17 (hb_lor (hb_lshl (φ 192 17) 8) (hb_i2l z61))) 192 13 ((φ 192 13) + 1)) 192 4 ((φ 192 4) + 1)) 192 4 = (φ 192 4) + 1 := hf_up_eq
                exact ih (hf_up (hf_up (hf_up φ 192 17 (hb_lor (hb_lshl (φ 192 17) 8) (hb_i2l z61))) 192 13 ((φ 192 13) + 1)) 192 4 ((φ 192 4) + 1)) (jm_st1 L 3 (0, 1)) l1 l2 1 (get_st1 g0 (by decide) (fun q => absurd q.1 (by decide))) (get_st1 g1 (by decide) (fun q => absurd q.1 (by decide))) (get_st1 g2 (by decide) (fun q => tg0 q.2)) get_st1e i550 (by omega) (by omega) (by omega) (by omega) (by omega) (by omega) (by omega) (by omega) (by omega) (by omega) (fun χ hIχ hFχ hVχ hEχ => hQ χ hIχ (fr_tr r550 hFχ (by decide)) (by omega) (e62a.trans hEχ))
              · skip
                have e62b := e61.trans (if_neg q62)
                have f567 := iv_at (a := 192) (k := 14) (lo := 0) (u := 8214) hI (by decide +kernel)
                refine sf_176_192 (φ := (hf_up φ 192 17 (hb_lor (hb_lshl (φ 192 17) 8) (hb_i2l z61)))) i548  (fun z63 hp63 hE63 => ⟨rfl, rfl, z63, rfl, ?_⟩)
                have e63 := e62b.trans (bnp_e hE63)
                have f568 : (hf_up φ 192 17 (hb_lor (hb_lshl (φ 192 17) 8) (hb_i2l z61))) 192 3 = φ 192 3 := (hf_up_ne (fun q => absurd q.2 (by decide)))
                have f569 : (hf_up φ 192 17 (hb_lor (hb_lshl (φ 192 17) 8) (hb_i2l z61))) 192 4 = φ 192 4 := (hf_up_ne (fun q => absurd q.2 (by decide)))
                have f570 := pk_b (hf_up φ 192 17 (hb_lor (hb_lshl (φ 192 17) 8) (hb_i2l z61)))
                have f571 := pk_c (φ := φ) (ψ := (hf_up φ 192 17 (hb_lor (hb_lshl (φ 192 17) 8) (hb_i2l z61)))) (hf_up_ne (fun q => absurd q.2 (by decide))) (hf_up_ne (fun q => absurd q.2 (by decide))) (fun kk => (hf_up_ne (fun q => absurd q.1 (by decide))))
                have i572 : Inv (hf_up (hf_up φ 192 17 (hb_lor (hb_lshl (φ 192 17) 8) (hb_i2l z61))) 192 14 (((10 * (φ 192 14)) + z63) - 48)) := iv_up (lo := 0) (u := 8214) i548 (by decide +kernel) (by omega) (by omega)
                have r572 : Fr [193004, 193011, 193012, 193013, 193014, 193017] φ (hf_up (hf_up φ 192 17 (hb_lor (hb_lshl (φ 192 17) 8) (hb_i2l z61))) 192 14 (((10 * (φ 192 14)) + z63) - 48)) := fr_up r548 (by decide)
                have i573 : Inv (hf_up (hf_up (hf_up φ 192 17 (hb_lor (hb_lshl (φ 192 17) 8) (hb_i2l z61))) 192 14 (((10 * (φ 192 14)) + z63) - 48)) 192 13 ((φ 192 13) + 1)) := iv_up (lo := 0) (u := 940) i572 (by decide +kernel) (by omega) (by omega)
                have r573 : Fr [193004, 193011, 193012, 193013, 193014, 193017] φ (hf_up (hf_up (hf_up φ 192 17 (hb_lor (hb_lshl (φ 192 17) 8) (hb_i2l z61))) 192 14 (((10 * (φ 192 14)) + z63) - 48)) 192 13 ((φ 192 13) + 1)) := fr_up r572 (by decide)
                have i574 : Inv (hf_up (hf_up (hf_up (hf_up φ 192 17 (hb_lor (hb_lshl (φ 192 17) 8) (hb_i2l z61))) 192 14 (((10 * (φ 192 14)) + z63) - 48)) 192 13 ((φ 192 13) + 1)) 192 4 ((φ 192 4) + 1)) := iv_up (lo := 0) (u := 940) i573 (by decide +kernel) (by omega) (by omega)
                have r574 : Fr [193004, 193011, 193012, 193013, 193014, 193017] φ (hf_up (hf_up (hf_up (hf_up φ 192 17 (hb_lor (hb_lshl (φ 192 17) 8) (hb_i2l z61))) 192 14 (((10 * (φ 192 14)) + z63) - 48)) 192 13 ((φ 192 13) + 1)) 192 4 ((φ 192 4) + 1)) := fr_up r573 (by decide)
                have f575 : (hf_up (hf_up (hf_up (hf_up φ 192 17 (hb_lor (hb_lshl (φ 192 17) 8) (hb_i2l z61))) 192 14 (((10 * (φ 192 14)) + z63) - 48)) 192 13 ((φ 192 13) + 1)) 192 4 ((φ 192 4) + 1)) 192 13 = (φ 192 13) + 1 := ((hf_up_ne (fun q => absurd q.2 (by decide))).trans hf_up_eq)
                have f576 : (hf_up (hf_up (hf_up (hf_up φ 192 17 (hb_lor (hb_lshl (φ 192 17) 8) (hb_i2l z61))) 192 14 (((10 * (φ 192 14)) + z63) - 48)) 192 13 ((φ 192 13) + 1)) 192 4 ((φ 192 4) + 1)) 192 14 = ((10 * (φ 192 14)) + z63) - 48 := ((hf_up_ne (fun q => absurd q.2 (by decide))).trans ((hf_up_ne (fun q => absurd q.2 (by decide))).trans hf_up_eq))
                have f577 : (hf_up (hf_up (hf_up (hf_up φ 192 17 (hb_lor (hb_lshl (φ 192 17) 8) (hb_i2l z61))) 192 14 (((10 * (φ 192 14)) + z63) - 48)) 192 13 ((φ 192 13) + 1)) 192 4 ((φ 192 4) + 1)) 192 18 = φ 192 18 := ((hf_up_ne (fun q => absurd q.2 (by decide))).trans ((hf_up_ne (fun q => absurd q.2 (by decide))).trans ((hf_up_ne (fun q => absurd q.2 (by decide))).trans (hf_up_ne (fun q => absurd q.2 (by decide))))))
                have f578 := iv_at (a := 192) (k := 18) (lo := (-1 : Int)) (u := 999) hI (by decide +kernel)
                have f579 : (hf_up (hf_up (hf_up (hf_up φ 192 17 (hb_lor (hb_lshl (φ 192 17) 8) (hb_i2l z61))) 192 14 (((10 * (φ 192 14)) + z63) - 48)) 192 13 ((φ 192 13) + 1)) 192 4 ((φ 192 4) + 1)) 192 30 = φ 192 30 := ((hf_up_ne (fun q => absurd q.2 (by decide))).trans ((hf_up_ne (fun q => absurd q.2 (by decide))).trans ((hf_up_ne (fun q => absurd q.2 (by decide))).trans (hf_up_ne (fun q => absurd q.2 (by decide))))))
                have f580 := iv_at (a := 192) (k := 30) (lo := 0) (u := 40) hI (by decide +kernel)
                have f581 : (hf_up (hf_up (hf_up (hf_up φ 192 17 (hb_lor (hb_lshl (φ 192 17) 8) (hb_i2l z61))) 192 14 (((10 * (φ 192 14)) + z63) - 48)) 192 13 ((φ 192 13) + 1)) 192 4 ((φ 192 4) + 1)) 192 34 = φ 192 34 := ((hf_up_ne (fun q => absurd q.2 (by decide))).trans ((hf_up_ne (fun q => absurd q.2 (by decide))).trans ((hf_up_ne (fun q => absurd q.2 (by decide))).trans (hf_up_ne (fun q => absurd q.2 (by decide))))))
                have f582 := iv_at (a := 192) (k := 34) (lo := 0) (u := 45) hI (by decide +kernel)
                have f583 : (hf_up (hf_up (hf_up (hf_up φ 192 17 (hb_lor (hb_lshl (φ 192 17) 8) (hb_i2l z61))) 192 14 (((10 * (φ 192 14)) + z63) - 48)) 192 13 ((φ 192 13) + 1)) 192 4 ((φ 192 4) + 1)) 192 35 = φ 192 35 := ((hf_up_ne (fun q => absurd q.2 (by decide))).trans ((hf_up_ne (fun q => absurd q.2 (by decide))).trans ((hf_up_ne (fun q => absurd q.2 (by decide))).trans (hf_up_ne (fun q => absurd q.2 (by decide))))))
                have f584 := iv_at (a := 192) (k := 35) (lo := 0) (u := 20) hI (by decide +kernel)
                have f585 : (hf_up (hf_up (hf_up (hf_up φ 192 17 (hb_lor (hb_lshl (φ 192 17) 8) (hb_i2l z61))) 192 14 (((10 * (φ 192 14)) + z63) - 48)) 192 13 ((φ 192 13) + 1)) 192 4 ((φ 192 4) + 1)) 192 36 = φ 192 36 := ((hf_up_ne (fun q => absurd q.2 (by decide))).trans ((hf_up_ne (fun q => absurd q.2 (by decide))).trans ((hf_up_ne (fun q => absurd q.2 (by decide))).trans (hf_up_ne (fun q => absurd q.2 (by decide))))))
                have f586 := iv_at (a := 192) (k := 36) (lo := 0) (u := 45) hI (by decide +kernel)
                have f587 : (hf_up (hf_up (hf_up (hf_up φ 192 17 (hb_lor (hb_lshl (φ 192 17) 8) (hb_i2l z61))) 192 14 (((10 * (φ 192 14)) + z63) - 48)) 192 13 ((φ 192 13) + 1)) 192 4 ((φ 192 4) + 1)) 192 38 = φ 192 38 := ((hf_up_ne (fun q => absurd q.2 (by decide))).trans ((hf_up_ne (fun q => absurd q.2 (by decide))).trans ((hf_up_ne (fun q => absurd q.2 (by decide))).trans (hf_up_ne (fun q => absurd q.2 (by decide))))))
                have f588 := iv_at (a := 192) (k := 38) (lo := 0) (u := 1) hI (by decide +kernel)
                have f589 : (hf_up (hf_up (hf_up (hf_up φ 192 17 (hb_lor (hb_lshl (φ 192 17) 8) (hb_i2l z61))) 192 14 (((10 * (φ 192 14)) + z63) - 48)) 192 13 ((φ 192 13) + 1)) 192 4 ((φ 192 4) + 1)) 192 4 = (φ 192 4) + 1 := hf_up_eq
                exact ih (hf_up (hf_up (hf_up (hf_up φ 192 17 (hb_lor (hb_lshl (φ 192 17) 8) (hb_i2l z61))) 192 14 (((10 * (φ 192 14)) + z63) - 48)) 192 13 ((φ 192 13) + 1)) 192 4 ((φ 192 4) + 1)) (jm_st1 L 3 (0, 1)) l1 l2 1 (get_st1 g0 (by decide) (fun q => absurd q.1 (by decide))) (get_st1 g1 (by decide) (fun q => absurd q.1 (by decide))) (get_st1 g2 (by decide) (fun q => tg0 q.2)) get_st1e i574 (by omega) (by omega) (by omega) (by omega) (by omega) (by omega) (by omega) (by omega) (by omega) (by omega) (fun χ hIχ hFχ hVχ hEχ => hQ χ hIχ (fr_tr r574 hFχ (by decide)) (by omega) (e63.trans hEχ))
theorem sf_175_192_v0 {sc : List Int} {d : Nat} {φ : hf_F} {x : Nat} {Q : Option jm_V → hf_F → Nat → Prop} {L : jm_L} (g0 : jm_get L 0 = some (2, 192))
    (H : hw sc d 176 0 [(0, (2, 192))] [] φ x (fun r ψ1 y1 => y1 = x ∧ φ = ψ1 ∧ (∃ z1 : Int, r = some (0, z1) ∧ (hi z1 ∧ hi 32 ∧ (z1 = 32 → hw sc (d + 1) 175 0 L [] (hf_up φ 192 4 ((φ 192 4) + 1)) x Q) ∧ (¬ z1 = 32 → hw sc d 176 0 [(0, (2, 192))] [] φ x (fun r ψ3 y3 => y3 = x ∧ φ = ψ3 ∧ (∃ z3 : Int, r = some (0, z3) ∧ (hi z3 ∧ hi 10 ∧ (¬ z3 = 10 → hi (φ 192 3) ∧ hi (φ 192 5) ∧ ((φ 192 3) ≤ (φ 192 5) → hw sc d 176 0 [(0, (2, 192))] [] (hf_up (hf_up φ 192 12 (φ 192 4)) 192 13 0) x (fun r ψ6 y6 => y6 = x ∧ (hf_up (hf_up φ 192 12 (φ 192 4)) 192 13 0) = ψ6 ∧ (∃ z6 : Int, r = some (0, z6) ∧ (hi z6 ∧ (0 ≤ z6 → hw sc d 177 0 [(0, (0, z6))] [] (hf_up (hf_up φ 192 12 (φ 192 4)) 192 13 0) x (fun r ψ8 y8 => y8 = x ∧ (hf_up (hf_up φ 192 12 (φ 192 4)) 192 13 0) = ψ8 ∧ (∃ z8 : Int, r = some (0, z8) ∧ (hi z8 ∧ (¬ z8 = 0 → hw sc d 177 0 [(0, (0, z6))] [] (hf_up (hf_up φ 192 12 (φ 192 4)) 192 13 0) x (fun r ψ10 y10 => y10 = x ∧ (hf_up (hf_up φ 192 12 (φ 192 4)) 192 13 0) = ψ10 ∧ (∃ z10 : Int, r = some (0, z10) ∧ (hw sc (d + 1) 175 181 (jm_st1 (jm_st1 (jm_st1 L 1 (0, z6)) 2 (0, z10)) 3 (0, 1)) [] (hf_up (hf_up (hf_up (hf_up φ 192 12 (φ 192 4)) 192 13 0) 192 17 0) 192 14 0) x Q)))) ∧ (¬ (¬ z8 = 0) → hw sc d 178 0 [(0, (0, z6))] [] (hf_up (hf_up φ 192 12 (φ 192 4)) 192 13 0) x (fun r ψ11 y11 => y11 = x ∧ (hf_up (hf_up φ 192 12 (φ 192 4)) 192 13 0) = ψ11 ∧ (∃ z11 : Int, r = some (0, z11) ∧ (hi z11 ∧ (¬ z11 = 0 → hw sc d 177 0 [(0, (0, z6))] [] (hf_up (hf_up φ 192 12 (φ 192 4)) 192 13 0) x (fun r ψ13 y13 => y13 = x ∧ (hf_up (hf_up φ 192 12 (φ 192 4)) 192 13 0) = ψ13 ∧ (∃ z13 : Int, r = some (0, z13) ∧ (hw sc (d + 1) 175 181 (jm_st1 (jm_st1 (jm_st1 L 1 (0, z6)) 2 (0, z13)) 3 (0, 1)) [] (hf_up (hf_up (hf_up (hf_up φ 192 12 (φ 192 4)) 192 13 0) 192 17 0) 192 14 0) x Q)))) ∧ (¬ (¬ z11 = 0) → hi z6 ∧ hi 59 ∧ (z6 = 59 → Q none (hf_up (hf_up (hf_up (hf_up (hf_up φ 192 12 (φ 192 4)) 192 13 0) 192 11 3) 192 14 z6) 192 4 ((φ 192 4) + 1)) x) ∧ (¬ z6 = 59 → hi z6 ∧ hi 40 ∧ (z6 = 40 → Q none (hf_up (hf_up (hf_up (hf_up (hf_up φ 192 12 (φ 192 4)) 192 13 0) 192 11 3) 192 14 z6) 192 4 ((φ 192 4) + 1)) x) ∧ (¬ z6 = 40 → hi z6 ∧ hi 41 ∧ (z6 = 41 → Q none (hf_up (hf_up (hf_up (hf_up (hf_up φ 192 12 (φ 192 4)) 192 13 0) 192 11 3) 192 14 z6) 192 4 ((φ 192 4) + 1)) x) ∧ (¬ z6 = 41 → hi z6 ∧ hi 60 ∧ (z6 < 60 → Q none (hf_up (hf_up (hf_up (hf_up (hf_up φ 192 12 (φ 192 4)) 192 13 0) 192 11 4) 192 14 z6) 192 4 ((φ 192 4) + 1)) x) ∧ (¬ z6 < 60 → hi z6 ∧ hi 62 ∧ (62 < z6 → Q none (hf_up (hf_up (hf_up (hf_up (hf_up φ 192 12 (φ 192 4)) 192 13 0) 192 11 4) 192 14 z6) 192 4 ((φ 192 4) + 1)) x) ∧ (¬ 62 < z6 → Q none (hf_up (hf_up (hf_up (hf_up (hf_up φ 192 12 (φ 192 4)) 192 13 0) 192 11 3) 192 14 z6) 192 4 ((φ 192 4) + 1)) x)))))))))))))) ∧ (¬ 0 ≤ z6 → Q none (hf_up (hf_up (hf_up φ 192 12 (φ 192 4)) 192 13 0) 192 11 0) x))))) ∧ (¬ (φ 192 3) ≤ (φ 192 5) → hi (φ 192 4) ∧ hi (φ 192 5) ∧ ((φ 192 4) < (φ 192 5) → hw sc d 176 0 [(0, (2, 192))] [] (hf_up (hf_up φ 192 12 (φ 192 4)) 192 13 0) x (fun r ψ27 y27 => y27 = x ∧ (hf_up (hf_up φ 192 12 (φ 192 4)) 192 13 0) = ψ27 ∧ (∃ z27 : Int, r = some (0, z27) ∧ (hi z27 ∧ (0 ≤ z27 → hw sc d 177 0 [(0, (0, z27))] [] (hf_up (hf_up φ 192 12 (φ 192 4)) 192 13 0) x (fun r ψ29 y29 => y29 = x ∧ (hf_up (hf_up φ 192 12 (φ 192 4)) 192 13 0) = ψ29 ∧ (∃ z29 : Int, r = some (0, z29) ∧ (hi z29 ∧ (¬ z29 = 0 → hw sc d 177 0 [(0, (0, z27))] [] (hf_up (hf_up φ 192 12 (φ 192 4)) 192 13 0) x (fun r ψ31 y31 => y31 = x ∧ (hf_up (hf_up φ 192 12 (φ 192 4)) 192 13 0) = ψ31 ∧ (∃ z31 : Int, r = some (0, z31) ∧ (hw sc (d + 1) 175 181 (jm_st1 (jm_st1 (jm_st1 L 1 (0, z27)) 2 (0, z31)) 3 (0, 1)) [] (hf_up (hf_up (hf_up (hf_up φ 192 12 (φ 192 4)) 192 13 0) 192 17 0) 192 14 0) x Q)))) ∧ (¬ (¬ z29 = 0) → hw sc d 178 0 [(0, (0, z27))] [] (hf_up (hf_up φ 192 12 (φ 192 4)) 192 13 0) x (fun r ψ32 y32 => y32 = x ∧ (hf_up (hf_up φ 192 12 (φ 192 4)) 192 13 0) = ψ32 ∧ (∃ z32 : Int, r = some (0, z32) ∧ (hi z32 ∧ (¬ z32 = 0 → hw sc d 177 0 [(0, (0, z27))] [] (hf_up (hf_up φ 192 12 (φ 192 4)) 192 13 0) x (fun r ψ34 y34 => y34 = x ∧ (hf_up (hf_up φ 192 12 (φ 192 4)) 192 13 0) = ψ34 ∧ (∃ z34 : Int, r = some (0, z34) ∧ (hw sc (d + 1) 175 181 (jm_st1 (jm_st1 (jm_st1 L 1 (0, z27)) 2 (0, z34)) 3 (0, 1)) [] (hf_up (hf_up (hf_up (hf_up φ 192 12 (φ 192 4)) 192 13 0) 192 17 0) 192 14 0) x Q)))) ∧ (¬ (¬ z32 = 0) → hi z27 ∧ hi 59 ∧ (z27 = 59 → Q none (hf_up (hf_up (hf_up (hf_up (hf_up φ 192 12 (φ 192 4)) 192 13 0) 192 11 3) 192 14 z27) 192 4 ((φ 192 4) + 1)) x) ∧ (¬ z27 = 59 → hi z27 ∧ hi 40 ∧ (z27 = 40 → Q none (hf_up (hf_up (hf_up (hf_up (hf_up φ 192 12 (φ 192 4)) 192 13 0) 192 11 3) 192 14 z27) 192 4 ((φ 192 4) + 1)) x) ∧ (¬ z27 = 40 → hi z27 ∧ hi 41 ∧ (z27 = 41 → Q none (hf_up (hf_up (hf_up (hf_up (hf_up φ 192 12 (φ 192 4)) 192 13 0) 192 11 3) 192 14 z27) 192 4 ((φ 192 4) + 1)) x) ∧ (¬ z27 = 41 → hi z27 ∧ hi 60 ∧ (z27 < 60 → Q none (hf_up (hf_up (hf_up (hf_up (hf_up φ 192 12 (φ 192 4)) 192 13 0) 192 11 4) 192 14 z27) 192 4 ((φ 192 4) + 1)) x) ∧ (¬ z27 < 60 → hi z27 ∧ hi 62 ∧ (62 < z27 → Q none (hf_up (hf_up (hf_up (hf_up (hf_up φ 192 12 (φ 192 4)) 192 13 0) 192 11 4) 192 14 z27) 192 4 ((φ 192 4) + 1)) x) ∧ (¬ 62 < z27 → Q none (hf_up (hf_up (hf_up (hf_up (hf_up φ 192 12 (φ 192 4)) 192 13 0) 192 11 3) 192 14 z27) 192 4 ((φ 192 4) + 1)) x)))))))))))))) ∧ (¬ 0 ≤ z27 → Q none (hf_up (hf_up (hf_up φ 192 12 (φ 192 4)) 192 13 0) 192 11 0) x))))) ∧ (¬ (φ 192 4) < (φ 192 5) → Q none (hf_up (hf_up (hf_up (hf_up φ 192 12 (φ 192 4)) 192 13 0) 192 12 (φ 192 5)) 192 11 4) x))) ∧ (¬ (¬ z3 = 10) → hw sc (d + 1) 175 0 L [] (hf_up φ 192 4 ((φ 192 4) + 1)) x Q))))))))) :
    hw sc (d + 1) 175 0 L [] φ x Q := by
  refine hw_ald (b := 0) (e := 0) (by decide +kernel) g0 (by decide) ?_
  refine hr_call (a0 := 22) (b := 176) (e := 1) (nl := 1) (As := []) (R := []) 192 rfl (by decide +kernel) rfl rfl (Nat.le_of_ble_eq_true rfl) (Nat.le_of_ble_eq_true rfl) ?_
  refine hw_mono H ?_
  rintro r ψ1 y1 ⟨hyx, hψx, z1, hr, H⟩
  subst hyx
  subst hψx
  subst hr
  refine ⟨hne0, ?_⟩
  show hw sc (d + 1) 175 4 L [(0, z1)] φ y1 Q
  refine hw_k (c := 32) (b := 1) (e := 2) (by decide +kernel) ?_
  obtain ⟨hz2, hy2, ht2, hf2⟩ := H
  refine hw_if2 (a0 := 0) (b := 0) (e := 18) (by decide +kernel) hz2 hy2 (fun q => ?_) (fun q => ?_)
  · have H := ht2 q
    refine hw_ald (b := 0) (e := 0) (by decide +kernel) g0 (by decide) ?_
    refine hw_dup (a0 := 0) (e := 0) (by decide +kernel) (by decide) ?_
    refine hr_gi (w := φ 192 4) (b := 12) (e := 4) 192 rfl (by decide +kernel) rfl ?_
    refine hw_k (c := 1) (b := 0) (e := 1) (by decide +kernel) ?_
    refine hw_bin (w := (φ 192 4) + 1) (a0 := 0) (b := 0) (e := 0) (by decide +kernel) rfl ?_
    refine hr_pi (b := 12) (e := 4) 192 rfl (by decide +kernel) ?_
    refine hw_goto (a0 := 0) (b := 0) (e := 0) (by decide +kernel) ?_
    exact H
  · have H := hf2 q
    refine hw_ald (b := 0) (e := 0) (by decide +kernel) g0 (by decide) ?_
    refine hr_call (a0 := 22) (b := 176) (e := 1) (nl := 1) (As := []) (R := []) 192 rfl (by decide +kernel) rfl rfl (Nat.le_of_ble_eq_true rfl) (Nat.le_of_ble_eq_true rfl) ?_
    refine hw_mono H ?_
    rintro r ψ3 y3 ⟨hyx, hψx, z3, hr, H⟩
    subst hyx
    subst hψx
    subst hr
    refine ⟨hne0, ?_⟩
    show hw sc (d + 1) 175 13 L [(0, z3)] φ y3 Q
    refine hw_k (c := 10) (b := 1) (e := 2) (by decide +kernel) ?_
    obtain ⟨hz4, hy4, ht4, hf4⟩ := H
    refine hw_if2 (a0 := 0) (b := 1) (e := 31) (by decide +kernel) hz4 hy4 (fun q => ?_) (fun q => ?_)
    · have H := ht4 q
      refine hw_ald (b := 0) (e := 0) (by decide +kernel) g0 (by decide) ?_
      refine hw_ald (b := 0) (e := 0) (by decide +kernel) g0 (by decide) ?_
      refine hr_gi (w := φ 192 4) (b := 12) (e := 4) 192 rfl (by decide +kernel) rfl ?_
      refine hr_pi (b := 12) (e := 12) 192 rfl (by decide +kernel) ?_
      refine hw_ald (b := 0) (e := 0) (by decide +kernel) g0 (by decide) ?_
      refine hw_k (c := 0) (b := 0) (e := 1) (by decide +kernel) ?_
      refine hr_pi (b := 12) (e := 13) 192 rfl (by decide +kernel) ?_
      refine hw_ald (b := 0) (e := 0) (by decide +kernel) g0 (by decide) ?_
      refine hr_gi (w := φ 192 3) (b := 12) (e := 3) 192 rfl (by decide +kernel) ((hf_up_ne (fun q => absurd q.2 (by decide))).trans (hf_up_ne (fun q => absurd q.2 (by decide)))) ?_
      refine hw_ald (b := 0) (e := 0) (by decide +kernel) g0 (by decide) ?_
      refine hr_gi (w := φ 192 5) (b := 12) (e := 5) 192 rfl (by decide +kernel) ((hf_up_ne (fun q => absurd q.2 (by decide))).trans (hf_up_ne (fun q => absurd q.2 (by decide)))) ?_
      obtain ⟨hz5, hy5, ht5, hf5⟩ := H
      refine hw_if2 (a0 := 0) (b := 5) (e := 80) (by decide +kernel) hz5 hy5 (fun q => ?_) (fun q => ?_)
      · have H := ht5 q
        refine hw_ald (b := 0) (e := 0) (by decide +kernel) g0 (by decide) ?_
        refine hr_call (a0 := 22) (b := 176) (e := 1) (nl := 1) (As := []) (R := []) 192 rfl (by decide +kernel) rfl rfl (Nat.le_of_ble_eq_true rfl) (Nat.le_of_ble_eq_true rfl) ?_
        refine hw_mono H ?_
        rintro r ψ6 y6 ⟨hyx, hψx, z6, hr, H⟩
        subst hyx
        subst hψx
        subst hr
        refine ⟨hne0, ?_⟩
        show hw sc (d + 1) 175 84 L [(0, z6)] (hf_up (hf_up φ 192 12 (φ 192 4)) 192 13 0) y6 Q
        refine hw_st (L' := (jm_st1 L 1 (0, z6))) (b := 1) (e := 0) (by decide +kernel) rfl ?_
        refine hw_ld (b := 1) (e := 0) (by decide +kernel) get_st1e ?_
        obtain ⟨hz7, ht7, hf7⟩ := H
        refine hw_if (a0 := 0) (b := 3) (e := 95) (by decide +kernel) hz7 (fun q => ?_) (fun q => ?_)
        · have H := ht7 q
          refine hw_ld (b := 1) (e := 0) (by decide +kernel) get_st1e ?_
          refine hr_calls (b := 177) (e := 1) (nl := 1) (As := [(0, z6)]) (R := []) (by decide +kernel) rfl rfl (Nat.le_of_ble_eq_true rfl) (Nat.le_of_ble_eq_true rfl) ?_
          refine hw_mono H ?_
          rintro r ψ8 y8 ⟨hyx, hψx, z8, hr, H⟩
          subst hyx
          subst hψx
          subst hr
          refine ⟨hne0, ?_⟩
          show hw sc (d + 1) 175 99 (jm_st1 L 1 (0, z6)) [(0, z8)] (hf_up (hf_up φ 192 12 (φ 192 4)) 192 13 0) y8 Q
          obtain ⟨hz9, ht9, hf9⟩ := H
          refine hw_if (a0 := 0) (b := 1) (e := 164) (by decide +kernel) hz9 (fun q => ?_) (fun q => ?_)
          · have H := ht9 q
            refine hw_ld (b := 1) (e := 0) (by decide +kernel) get_st1e ?_
            refine hr_calls (b := 177) (e := 1) (nl := 1) (As := [(0, z6)]) (R := []) (by decide +kernel) rfl rfl (Nat.le_of_ble_eq_true rfl) (Nat.le_of_ble_eq_true rfl) ?_
            refine hw_mono H ?_
            rintro r ψ10 y10 ⟨hyx, hψx, z10, hr, H⟩
            subst hyx
            subst hψx
            subst hr
            refine ⟨hne0, ?_⟩
            show hw sc (d + 1) 175 168 (jm_st1 L 1 (0, z6)) [(0, z10)] (hf_up (hf_up φ 192 12 (φ 192 4)) 192 13 0) y10 Q
            refine hw_st (L' := (jm_st1 (jm_st1 L 1 (0, z6)) 2 (0, z10))) (b := 2) (e := 0) (by decide +kernel) rfl ?_
            refine hw_k (c := 1) (b := 0) (e := 1) (by decide +kernel) ?_
            refine hw_st (L' := (jm_st1 (jm_st1 (jm_st1 L 1 (0, z6)) 2 (0, z10)) 3 (0, 1))) (b := 3) (e := 0) (by decide +kernel) rfl ?_
            refine hw_ald (b := 0) (e := 0) (by decide +kernel) (get_st1 (get_st1 (get_st1 g0 (by decide) (fun q => tg2 q.2)) (by decide) (fun q => absurd q.1 (by decide))) (by decide) (fun q => absurd q.1 (by decide))) (by decide) ?_
            refine hw_lk (c := 0) (b := 0) (e := 1) (by decide +kernel) ?_
            refine hr_pl (b := 12) (e := 17) 192 rfl (by decide +kernel) ?_
            refine hw_ald (b := 0) (e := 0) (by decide +kernel) (get_st1 (get_st1 (get_st1 g0 (by decide) (fun q => tg2 q.2)) (by decide) (fun q => absurd q.1 (by decide))) (by decide) (fun q => absurd q.1 (by decide))) (by decide) ?_
            refine hw_k (c := 0) (b := 0) (e := 1) (by decide +kernel) ?_
            refine hr_pi (b := 12) (e := 14) 192 rfl (by decide +kernel) ?_
            exact H
          · have H := hf9 q
            refine hw_ld (b := 1) (e := 0) (by decide +kernel) get_st1e ?_
            refine hr_calls (b := 178) (e := 1) (nl := 1) (As := [(0, z6)]) (R := []) (by decide +kernel) rfl rfl (Nat.le_of_ble_eq_true rfl) (Nat.le_of_ble_eq_true rfl) ?_
            refine hw_mono H ?_
            rintro r ψ11 y11 ⟨hyx, hψx, z11, hr, H⟩
            subst hyx
            subst hψx
            subst hr
            refine ⟨hne0, ?_⟩
            show hw sc (d + 1) 175 106 (jm_st1 L 1 (0, z6)) [(0, z11)] (hf_up (hf_up φ 192 12 (φ 192 4)) 192 13 0) y11 Q
            obtain ⟨hz12, ht12, hf12⟩ := H
            refine hw_if (a0 := 0) (b := 1) (e := 164) (by decide +kernel) hz12 (fun q => ?_) (fun q => ?_)
            · have H := ht12 q
              refine hw_ld (b := 1) (e := 0) (by decide +kernel) get_st1e ?_
              refine hr_calls (b := 177) (e := 1) (nl := 1) (As := [(0, z6)]) (R := []) (by decide +kernel) rfl rfl (Nat.le_of_ble_eq_true rfl) (Nat.le_of_ble_eq_true rfl) ?_
              refine hw_mono H ?_
              rintro r ψ13 y13 ⟨hyx, hψx, z13, hr, H⟩
              subst hyx
              subst hψx
              subst hr
              refine ⟨hne0, ?_⟩
              show hw sc (d + 1) 175 168 (jm_st1 L 1 (0, z6)) [(0, z13)] (hf_up (hf_up φ 192 12 (φ 192 4)) 192 13 0) y13 Q
              refine hw_st (L' := (jm_st1 (jm_st1 L 1 (0, z6)) 2 (0, z13))) (b := 2) (e := 0) (by decide +kernel) rfl ?_
              refine hw_k (c := 1) (b := 0) (e := 1) (by decide +kernel) ?_
              refine hw_st (L' := (jm_st1 (jm_st1 (jm_st1 L 1 (0, z6)) 2 (0, z13)) 3 (0, 1))) (b := 3) (e := 0) (by decide +kernel) rfl ?_
              refine hw_ald (b := 0) (e := 0) (by decide +kernel) (get_st1 (get_st1 (get_st1 g0 (by decide) (fun q => tg2 q.2)) (by decide) (fun q => absurd q.1 (by decide))) (by decide) (fun q => absurd q.1 (by decide))) (by decide) ?_
              refine hw_lk (c := 0) (b := 0) (e := 1) (by decide +kernel) ?_
              refine hr_pl (b := 12) (e := 17) 192 rfl (by decide +kernel) ?_
              refine hw_ald (b := 0) (e := 0) (by decide +kernel) (get_st1 (get_st1 (get_st1 g0 (by decide) (fun q => tg2 q.2)) (by decide) (fun q => absurd q.1 (by decide))) (by decide) (fun q => absurd q.1 (by decide))) (by decide) ?_
              refine hw_k (c := 0) (b := 0) (e := 1) (by decide +kernel) ?_
              refine hr_pi (b := 12) (e := 14) 192 rfl (by decide +kernel) ?_
              exact H
            · have H := hf12 q
              refine hw_ald (b := 0) (e := 0) (by decide +kernel) (get_st1 g0 (by decide) (fun q => tg2 q.2)) (by decide) ?_
              refine hw_ld (b := 1) (e := 0) (by decide +kernel) get_st1e ?_
              refine hw_k (c := 59) (b := 1) (e := 2) (by decide +kernel) ?_
              obtain ⟨hz14, hy14, ht14, hf14⟩ := H
              refine hw_if2 (a0 := 0) (b := 0) (e := 140) (by decide +kernel) hz14 hy14 (fun q => ?_) (fun q => ?_)
              · have H := ht14 q
                refine hw_k (c := 3) (b := 0) (e := 1) (by decide +kernel) ?_
                refine hw_goto (a0 := 0) (b := 0) (e := 145) (by decide +kernel) ?_
                refine hr_pi (b := 12) (e := 11) 192 rfl (by decide +kernel) ?_
                refine hw_ald (b := 0) (e := 0) (by decide +kernel) (get_st1 g0 (by decide) (fun q => tg2 q.2)) (by decide) ?_
                refine hw_ld (b := 1) (e := 0) (by decide +kernel) get_st1e ?_
                refine hr_pi (b := 12) (e := 14) 192 rfl (by decide +kernel) ?_
                refine hw_ald (b := 0) (e := 0) (by decide +kernel) (get_st1 g0 (by decide) (fun q => tg2 q.2)) (by decide) ?_
                refine hw_dup (a0 := 0) (e := 0) (by decide +kernel) (by decide) ?_
                refine hr_gi (w := φ 192 4) (b := 12) (e := 4) 192 rfl (by decide +kernel) ((hf_up_ne (fun q => absurd q.2 (by decide))).trans ((hf_up_ne (fun q => absurd q.2 (by decide))).trans ((hf_up_ne (fun q => absurd q.2 (by decide))).trans (hf_up_ne (fun q => absurd q.2 (by decide)))))) ?_
                refine hw_k (c := 1) (b := 0) (e := 1) (by decide +kernel) ?_
                refine hw_bin (w := (φ 192 4) + 1) (a0 := 0) (b := 0) (e := 0) (by decide +kernel) rfl ?_
                refine hr_pi (b := 12) (e := 4) 192 rfl (by decide +kernel) ?_
                exact hw_vret (a0 := 0) (e := 0) (by decide +kernel) H
              · have H := hf14 q
                refine hw_ld (b := 1) (e := 0) (by decide +kernel) get_st1e ?_
                refine hw_k (c := 40) (b := 1) (e := 2) (by decide +kernel) ?_
                obtain ⟨hz16, hy16, ht16, hf16⟩ := H
                refine hw_if2 (a0 := 0) (b := 0) (e := 140) (by decide +kernel) hz16 hy16 (fun q => ?_) (fun q => ?_)
                · have H := ht16 q
                  refine hw_k (c := 3) (b := 0) (e := 1) (by decide +kernel) ?_
                  refine hw_goto (a0 := 0) (b := 0) (e := 145) (by decide +kernel) ?_
                  refine hr_pi (b := 12) (e := 11) 192 rfl (by decide +kernel) ?_
                  refine hw_ald (b := 0) (e := 0) (by decide +kernel) (get_st1 g0 (by decide) (fun q => tg2 q.2)) (by decide) ?_
                  refine hw_ld (b := 1) (e := 0) (by decide +kernel) get_st1e ?_
                  refine hr_pi (b := 12) (e := 14) 192 rfl (by decide +kernel) ?_
                  refine hw_ald (b := 0) (e := 0) (by decide +kernel) (get_st1 g0 (by decide) (fun q => tg2 q.2)) (by decide) ?_
                  refine hw_dup (a0 := 0) (e := 0) (by decide +kernel) (by decide) ?_
                  refine hr_gi (w := φ 192 4) (b := 12) (e := 4) 192 rfl (by decide +kernel) ((hf_up_ne (fun q => absurd q.2 (by decide))).trans ((hf_up_ne (fun q => absurd q.2 (by decide))).trans ((hf_up_ne (fun q => absurd q.2 (by decide))).trans (hf_up_ne (fun q => absurd q.2 (by decide)))))) ?_
                  refine hw_k (c := 1) (b := 0) (e := 1) (by decide +kernel) ?_
                  refine hw_bin (w := (φ 192 4) + 1) (a0 := 0) (b := 0) (e := 0) (by decide +kernel) rfl ?_
                  refine hr_pi (b := 12) (e := 4) 192 rfl (by decide +kernel) ?_
                  exact hw_vret (a0 := 0) (e := 0) (by decide +kernel) H
                · have H := hf16 q
                  refine hw_ld (b := 1) (e := 0) (by decide +kernel) get_st1e ?_
                  refine hw_k (c := 41) (b := 1) (e := 2) (by decide +kernel) ?_
                  obtain ⟨hz18, hy18, ht18, hf18⟩ := H
                  refine hw_if2 (a0 := 0) (b := 0) (e := 140) (by decide +kernel) hz18 hy18 (fun q => ?_) (fun q => ?_)
                  · have H := ht18 q
                    refine hw_k (c := 3) (b := 0) (e := 1) (by decide +kernel) ?_
                    refine hw_goto (a0 := 0) (b := 0) (e := 145) (by decide +kernel) ?_
                    refine hr_pi (b := 12) (e := 11) 192 rfl (by decide +kernel) ?_
                    refine hw_ald (b := 0) (e := 0) (by decide +kernel) (get_st1 g0 (by decide) (fun q => tg2 q.2)) (by decide) ?_
                    refine hw_ld (b := 1) (e := 0) (by decide +kernel) get_st1e ?_
                    refine hr_pi (b := 12) (e := 14) 192 rfl (by decide +kernel) ?_
                    refine hw_ald (b := 0) (e := 0) (by decide +kernel) (get_st1 g0 (by decide) (fun q => tg2 q.2)) (by decide) ?_
                    refine hw_dup (a0 := 0) (e := 0) (by decide +kernel) (by decide) ?_
                    refine hr_gi (w := φ 192 4) (b := 12) (e := 4) 192 rfl (by decide +kernel) ((hf_up_ne (fun q => absurd q.2 (by decide))).trans ((hf_up_ne (fun q => absurd q.2 (by decide))).trans ((hf_up_ne (fun q => absurd q.2 (by decide))).trans (hf_up_ne (fun q => absurd q.2 (by decide)))))) ?_
                    refine hw_k (c := 1) (b := 0) (e := 1) (by decide +kernel) ?_
                    refine hw_bin (w := (φ 192 4) + 1) (a0 := 0) (b := 0) (e := 0) (by decide +kernel) rfl ?_
                    refine hr_pi (b := 12) (e := 4) 192 rfl (by decide +kernel) ?_
                    exact hw_vret (a0 := 0) (e := 0) (by decide +kernel) H
                  · have H := hf18 q
                    refine hw_ld (b := 1) (e := 0) (by decide +kernel) get_st1e ?_
                    refine hw_k (c := 60) (b := 1) (e := 2) (by decide +kernel) ?_
                    obtain ⟨hz20, hy20, ht20, hf20⟩ := H
                    refine hw_if2 (a0 := 0) (b := 2) (e := 144) (by decide +kernel) hz20 hy20 (fun q => ?_) (fun q => ?_)
                    · have H := ht20 q
                      refine hw_k (c := 4) (b := 0) (e := 1) (by decide +kernel) ?_
                      refine hr_pi (b := 12) (e := 11) 192 rfl (by decide +kernel) ?_
                      refine hw_ald (b := 0) (e := 0) (by decide +kernel) (get_st1 g0 (by decide) (fun q => tg2 q.2)) (by decide) ?_
                      refine hw_ld (b := 1) (e := 0) (by decide +kernel) get_st1e ?_
                      refine hr_pi (b := 12) (e := 14) 192 rfl (by decide +kernel) ?_
                      refine hw_ald (b := 0) (e := 0) (by decide +kernel) (get_st1 g0 (by decide) (fun q => tg2 q.2)) (by decide) ?_
                      refine hw_dup (a0 := 0) (e := 0) (by decide +kernel) (by decide) ?_
                      refine hr_gi (w := φ 192 4) (b := 12) (e := 4) 192 rfl (by decide +kernel) ((hf_up_ne (fun q => absurd q.2 (by decide))).trans ((hf_up_ne (fun q => absurd q.2 (by decide))).trans ((hf_up_ne (fun q => absurd q.2 (by decide))).trans (hf_up_ne (fun q => absurd q.2 (by decide)))))) ?_
                      refine hw_k (c := 1) (b := 0) (e := 1) (by decide +kernel) ?_
                      refine hw_bin (w := (φ 192 4) + 1) (a0 := 0) (b := 0) (e := 0) (by decide +kernel) rfl ?_
                      refine hr_pi (b := 12) (e := 4) 192 rfl (by decide +kernel) ?_
                      exact hw_vret (a0 := 0) (e := 0) (by decide +kernel) H
                    · have H := hf20 q
                      refine hw_ld (b := 1) (e := 0) (by decide +kernel) get_st1e ?_
                      refine hw_k (c := 62) (b := 1) (e := 2) (by decide +kernel) ?_
                      obtain ⟨hz22, hy22, ht22, hf22⟩ := H
                      refine hw_if2 (a0 := 0) (b := 4) (e := 144) (by decide +kernel) hz22 hy22 (fun q => ?_) (fun q => ?_)
                      · have H := ht22 q
                        refine hw_k (c := 4) (b := 0) (e := 1) (by decide +kernel) ?_
                        refine hr_pi (b := 12) (e := 11) 192 rfl (by decide +kernel) ?_
                        refine hw_ald (b := 0) (e := 0) (by decide +kernel) (get_st1 g0 (by decide) (fun q => tg2 q.2)) (by decide) ?_
                        refine hw_ld (b := 1) (e := 0) (by decide +kernel) get_st1e ?_
                        refine hr_pi (b := 12) (e := 14) 192 rfl (by decide +kernel) ?_
                        refine hw_ald (b := 0) (e := 0) (by decide +kernel) (get_st1 g0 (by decide) (fun q => tg2 q.2)) (by decide) ?_
                        refine hw_dup (a0 := 0) (e := 0) (by decide +kernel) (by decide) ?_
                        refine hr_gi (w := φ 192 4) (b := 12) (e := 4) 192 rfl (by decide +kernel) ((hf_up_ne (fun q => absurd q.2 (by decide))).trans ((hf_up_ne (fun q => absurd q.2 (by decide))).trans ((hf_up_ne (fun q => absurd q.2 (by decide))).trans (hf_up_ne (fun q => absurd q.2 (by decide)))))) ?_
                        refine hw_k (c := 1) (b := 0) (e := 1) (by decide +kernel) ?_
                        refine hw_bin (w := (φ 192 4) + 1) (a0 := 0) (b := 0) (e := 0) (by decide +kernel) rfl ?_
                        refine hr_pi (b := 12) (e := 4) 192 rfl (by decide +kernel) ?_
                        exact hw_vret (a0 := 0) (e := 0) (by decide +kernel) H
                      · have H := hf22 q
                        refine hw_k (c := 3) (b := 0) (e := 1) (by decide +kernel) ?_
                        refine hw_goto (a0 := 0) (b := 0) (e := 145) (by decide +kernel) ?_
                        refine hr_pi (b := 12) (e := 11) 192 rfl (by decide +kernel) ?_
                        refine hw_ald (b := 0) (e := 0) (by decide +kernel) (get_st1 g0 (by decide) (fun q => tg2 q.2)) (by decide) ?_
                        refine hw_ld (b := 1) (e := 0) (by decide +kernel) get_st1e ?_
                        refine hr_pi (b := 12) (e := 14) 192 rfl (by decide +kernel) ?_
                        refine hw_ald (b := 0) (e := 0) (by decide +kernel) (get_st1 g0 (by decide) (fun q => tg2 q.2)) (by decide) ?_
                        refine hw_dup (a0 := 0) (e := 0) (by decide +kernel) (by decide) ?_
                        refine hr_gi (w := φ 192 4) (b := 12) (e := 4) 192 rfl (by decide +kernel) ((hf_up_ne (fun q => absurd q.2 (by decide))).trans ((hf_up_ne (fun q => absurd q.2 (by decide))).trans ((hf_up_ne (fun q => absurd q.2 (by decide))).trans (hf_up_ne (fun q => absurd q.2 (by decide)))))) ?_
                        refine hw_k (c := 1) (b := 0) (e := 1) (by decide +kernel) ?_
                        refine hw_bin (w := (φ 192 4) + 1) (a0 := 0) (b := 0) (e := 0) (by decide +kernel) rfl ?_
                        refine hr_pi (b := 12) (e := 4) 192 rfl (by decide +kernel) ?_
                        exact hw_vret (a0 := 0) (e := 0) (by decide +kernel) H
        · have H := hf7 q
          refine hw_ald (b := 0) (e := 0) (by decide +kernel) (get_st1 g0 (by decide) (fun q => tg2 q.2)) (by decide) ?_
          refine hw_k (c := 0) (b := 0) (e := 1) (by decide +kernel) ?_
          refine hr_pi (b := 12) (e := 11) 192 rfl (by decide +kernel) ?_
          exact hw_vret (a0 := 0) (e := 0) (by decide +kernel) H
      · have H := hf5 q
        refine hw_ald (b := 0) (e := 0) (by decide +kernel) g0 (by decide) ?_
        refine hr_gi (w := φ 192 4) (b := 12) (e := 4) 192 rfl (by decide +kernel) ((hf_up_ne (fun q => absurd q.2 (by decide))).trans (hf_up_ne (fun q => absurd q.2 (by decide)))) ?_
        refine hw_ald (b := 0) (e := 0) (by decide +kernel) g0 (by decide) ?_
        refine hr_gi (w := φ 192 5) (b := 12) (e := 5) 192 rfl (by decide +kernel) ((hf_up_ne (fun q => absurd q.2 (by decide))).trans (hf_up_ne (fun q => absurd q.2 (by decide)))) ?_
        obtain ⟨hz26, hy26, ht26, hf26⟩ := H
        refine hw_if2 (a0 := 0) (b := 2) (e := 80) (by decide +kernel) hz26 hy26 (fun q => ?_) (fun q => ?_)
        · have H := ht26 q
          refine hw_ald (b := 0) (e := 0) (by decide +kernel) g0 (by decide) ?_
          refine hr_call (a0 := 22) (b := 176) (e := 1) (nl := 1) (As := []) (R := []) 192 rfl (by decide +kernel) rfl rfl (Nat.le_of_ble_eq_true rfl) (Nat.le_of_ble_eq_true rfl) ?_
          refine hw_mono H ?_
          rintro r ψ27 y27 ⟨hyx, hψx, z27, hr, H⟩
          subst hyx
          subst hψx
          subst hr
          refine ⟨hne0, ?_⟩
          show hw sc (d + 1) 175 84 L [(0, z27)] (hf_up (hf_up φ 192 12 (φ 192 4)) 192 13 0) y27 Q
          refine hw_st (L' := (jm_st1 L 1 (0, z27))) (b := 1) (e := 0) (by decide +kernel) rfl ?_
          refine hw_ld (b := 1) (e := 0) (by decide +kernel) get_st1e ?_
          obtain ⟨hz28, ht28, hf28⟩ := H
          refine hw_if (a0 := 0) (b := 3) (e := 95) (by decide +kernel) hz28 (fun q => ?_) (fun q => ?_)
          · have H := ht28 q
            refine hw_ld (b := 1) (e := 0) (by decide +kernel) get_st1e ?_
            refine hr_calls (b := 177) (e := 1) (nl := 1) (As := [(0, z27)]) (R := []) (by decide +kernel) rfl rfl (Nat.le_of_ble_eq_true rfl) (Nat.le_of_ble_eq_true rfl) ?_
            refine hw_mono H ?_
            rintro r ψ29 y29 ⟨hyx, hψx, z29, hr, H⟩
            subst hyx
            subst hψx
            subst hr
            refine ⟨hne0, ?_⟩
            show hw sc (d + 1) 175 99 (jm_st1 L 1 (0, z27)) [(0, z29)] (hf_up (hf_up φ 192 12 (φ 192 4)) 192 13 0) y29 Q
            obtain ⟨hz30, ht30, hf30⟩ := H
            refine hw_if (a0 := 0) (b := 1) (e := 164) (by decide +kernel) hz30 (fun q => ?_) (fun q => ?_)
            · have H := ht30 q
              refine hw_ld (b := 1) (e := 0) (by decide +kernel) get_st1e ?_
              refine hr_calls (b := 177) (e := 1) (nl := 1) (As := [(0, z27)]) (R := []) (by decide +kernel) rfl rfl (Nat.le_of_ble_eq_true rfl) (Nat.le_of_ble_eq_true rfl) ?_
              refine hw_mono H ?_
              rintro r ψ31 y31 ⟨hyx, hψx, z31, hr, H⟩
              subst hyx
              subst hψx
              subst hr
              refine ⟨hne0, ?_⟩
              show hw sc (d + 1) 175 168 (jm_st1 L 1 (0, z27)) [(0, z31)] (hf_up (hf_up φ 192 12 (φ 192 4)) 192 13 0) y31 Q
              refine hw_st (L' := (jm_st1 (jm_st1 L 1 (0, z27)) 2 (0, z31))) (b := 2) (e := 0) (by decide +kernel) rfl ?_
              refine hw_k (c := 1) (b := 0) (e := 1) (by decide +kernel) ?_
              refine hw_st (L' := (jm_st1 (jm_st1 (jm_st1 L 1 (0, z27)) 2 (0, z31)) 3 (0, 1))) (b := 3) (e := 0) (by decide +kernel) rfl ?_
              refine hw_ald (b := 0) (e := 0) (by decide +kernel) (get_st1 (get_st1 (get_st1 g0 (by decide) (fun q => tg2 q.2)) (by decide) (fun q => absurd q.1 (by decide))) (by decide) (fun q => absurd q.1 (by decide))) (by decide) ?_
              refine hw_lk (c := 0) (b := 0) (e := 1) (by decide +kernel) ?_
              refine hr_pl (b := 12) (e := 17) 192 rfl (by decide +kernel) ?_
              refine hw_ald (b := 0) (e := 0) (by decide +kernel) (get_st1 (get_st1 (get_st1 g0 (by decide) (fun q => tg2 q.2)) (by decide) (fun q => absurd q.1 (by decide))) (by decide) (fun q => absurd q.1 (by decide))) (by decide) ?_
              refine hw_k (c := 0) (b := 0) (e := 1) (by decide +kernel) ?_
              refine hr_pi (b := 12) (e := 14) 192 rfl (by decide +kernel) ?_
              exact H
            · have H := hf30 q
              refine hw_ld (b := 1) (e := 0) (by decide +kernel) get_st1e ?_
              refine hr_calls (b := 178) (e := 1) (nl := 1) (As := [(0, z27)]) (R := []) (by decide +kernel) rfl rfl (Nat.le_of_ble_eq_true rfl) (Nat.le_of_ble_eq_true rfl) ?_
              refine hw_mono H ?_
              rintro r ψ32 y32 ⟨hyx, hψx, z32, hr, H⟩
              subst hyx
              subst hψx
              subst hr
              refine ⟨hne0, ?_⟩
              show hw sc (d + 1) 175 106 (jm_st1 L 1 (0, z27)) [(0, z32)] (hf_up (hf_up φ 192 12 (φ 192 4)) 192 13 0) y32 Q
              obtain ⟨hz33, ht33, hf33⟩ := H
              refine hw_if (a0 := 0) (b := 1) (e := 164) (by decide +kernel) hz33 (fun q => ?_) (fun q => ?_)
              · have H := ht33 q
                refine hw_ld (b := 1) (e := 0) (by decide +kernel) get_st1e ?_
                refine hr_calls (b := 177) (e := 1) (nl := 1) (As := [(0, z27)]) (R := []) (by decide +kernel) rfl rfl (Nat.le_of_ble_eq_true rfl) (Nat.le_of_ble_eq_true rfl) ?_
                refine hw_mono H ?_
                rintro r ψ34 y34 ⟨hyx, hψx, z34, hr, H⟩
                subst hyx
                subst hψx
                subst hr
                refine ⟨hne0, ?_⟩
                show hw sc (d + 1) 175 168 (jm_st1 L 1 (0, z27)) [(0, z34)] (hf_up (hf_up φ 192 12 (φ 192 4)) 192 13 0) y34 Q
                refine hw_st (L' := (jm_st1 (jm_st1 L 1 (0, z27)) 2 (0, z34))) (b := 2) (e := 0) (by decide +kernel) rfl ?_
                refine hw_k (c := 1) (b := 0) (e := 1) (by decide +kernel) ?_
                refine hw_st (L' := (jm_st1 (jm_st1 (jm_st1 L 1 (0, z27)) 2 (0, z34)) 3 (0, 1))) (b := 3) (e := 0) (by decide +kernel) rfl ?_
                refine hw_ald (b := 0) (e := 0) (by decide +kernel) (get_st1 (get_st1 (get_st1 g0 (by decide) (fun q => tg2 q.2)) (by decide) (fun q => absurd q.1 (by decide))) (by decide) (fun q => absurd q.1 (by decide))) (by decide) ?_
                refine hw_lk (c := 0) (b := 0) (e := 1) (by decide +kernel) ?_
                refine hr_pl (b := 12) (e := 17) 192 rfl (by decide +kernel) ?_
                refine hw_ald (b := 0) (e := 0) (by decide +kernel) (get_st1 (get_st1 (get_st1 g0 (by decide) (fun q => tg2 q.2)) (by decide) (fun q => absurd q.1 (by decide))) (by decide) (fun q => absurd q.1 (by decide))) (by decide) ?_
                refine hw_k (c := 0) (b := 0) (e := 1) (by decide +kernel) ?_
                refine hr_pi (b := 12) (e := 14) 192 rfl (by decide +kernel) ?_
                exact H
              · have H := hf33 q
                refine hw_ald (b := 0) (e := 0) (by decide +kernel) (get_st1 g0 (by decide) (fun q => tg2 q.2)) (by decide) ?_
                refine hw_ld (b := 1) (e := 0) (by decide +kernel) get_st1e ?_
                refine hw_k (c := 59) (b := 1) (e := 2) (by decide +kernel) ?_
                obtain ⟨hz35, hy35, ht35, hf35⟩ := H
                refine hw_if2 (a0 := 0) (b := 0) (e := 140) (by decide +kernel) hz35 hy35 (fun q => ?_) (fun q => ?_)
                · have H := ht35 q
                  refine hw_k (c := 3) (b := 0) (e := 1) (by decide +kernel) ?_
                  refine hw_goto (a0 := 0) (b := 0) (e := 145) (by decide +kernel) ?_
                  refine hr_pi (b := 12) (e := 11) 192 rfl (by decide +kernel) ?_
                  refine hw_ald (b := 0) (e := 0) (by decide +kernel) (get_st1 g0 (by decide) (fun q => tg2 q.2)) (by decide) ?_
                  refine hw_ld (b := 1) (e := 0) (by decide +kernel) get_st1e ?_
                  refine hr_pi (b := 12) (e := 14) 192 rfl (by decide +kernel) ?_
                  refine hw_ald (b := 0) (e := 0) (by decide +kernel) (get_st1 g0 (by decide) (fun q => tg2 q.2)) (by decide) ?_
                  refine hw_dup (a0 := 0) (e := 0) (by decide +kernel) (by decide) ?_
                  refine hr_gi (w := φ 192 4) (b := 12) (e := 4) 192 rfl (by decide +kernel) ((hf_up_ne (fun q => absurd q.2 (by decide))).trans ((hf_up_ne (fun q => absurd q.2 (by decide))).trans ((hf_up_ne (fun q => absurd q.2 (by decide))).trans (hf_up_ne (fun q => absurd q.2 (by decide)))))) ?_
                  refine hw_k (c := 1) (b := 0) (e := 1) (by decide +kernel) ?_
                  refine hw_bin (w := (φ 192 4) + 1) (a0 := 0) (b := 0) (e := 0) (by decide +kernel) rfl ?_
                  refine hr_pi (b := 12) (e := 4) 192 rfl (by decide +kernel) ?_
                  exact hw_vret (a0 := 0) (e := 0) (by decide +kernel) H
                · have H := hf35 q
                  refine hw_ld (b := 1) (e := 0) (by decide +kernel) get_st1e ?_
                  refine hw_k (c := 40) (b := 1) (e := 2) (by decide +kernel) ?_
                  obtain ⟨hz37, hy37, ht37, hf37⟩ := H
                  refine hw_if2 (a0 := 0) (b := 0) (e := 140) (by decide +kernel) hz37 hy37 (fun q => ?_) (fun q => ?_)
                  · have H := ht37 q
                    refine hw_k (c := 3) (b := 0) (e := 1) (by decide +kernel) ?_
                    refine hw_goto (a0 := 0) (b := 0) (e := 145) (by decide +kernel) ?_
                    refine hr_pi (b := 12) (e := 11) 192 rfl (by decide +kernel) ?_
                    refine hw_ald (b := 0) (e := 0) (by decide +kernel) (get_st1 g0 (by decide) (fun q => tg2 q.2)) (by decide) ?_
                    refine hw_ld (b := 1) (e := 0) (by decide +kernel) get_st1e ?_
                    refine hr_pi (b := 12) (e := 14) 192 rfl (by decide +kernel) ?_
                    refine hw_ald (b := 0) (e := 0) (by decide +kernel) (get_st1 g0 (by decide) (fun q => tg2 q.2)) (by decide) ?_
                    refine hw_dup (a0 := 0) (e := 0) (by decide +kernel) (by decide) ?_
                    refine hr_gi (w := φ 192 4) (b := 12) (e := 4) 192 rfl (by decide +kernel) ((hf_up_ne (fun q => absurd q.2 (by decide))).trans ((hf_up_ne (fun q => absurd q.2 (by decide))).trans ((hf_up_ne (fun q => absurd q.2 (by decide))).trans (hf_up_ne (fun q => absurd q.2 (by decide)))))) ?_
                    refine hw_k (c := 1) (b := 0) (e := 1) (by decide +kernel) ?_
                    refine hw_bin (w := (φ 192 4) + 1) (a0 := 0) (b := 0) (e := 0) (by decide +kernel) rfl ?_
                    refine hr_pi (b := 12) (e := 4) 192 rfl (by decide +kernel) ?_
                    exact hw_vret (a0 := 0) (e := 0) (by decide +kernel) H
                  · have H := hf37 q
                    refine hw_ld (b := 1) (e := 0) (by decide +kernel) get_st1e ?_
                    refine hw_k (c := 41) (b := 1) (e := 2) (by decide +kernel) ?_
                    obtain ⟨hz39, hy39, ht39, hf39⟩ := H
                    refine hw_if2 (a0 := 0) (b := 0) (e := 140) (by decide +kernel) hz39 hy39 (fun q => ?_) (fun q => ?_)
                    · have H := ht39 q
                      refine hw_k (c := 3) (b := 0) (e := 1) (by decide +kernel) ?_
                      refine hw_goto (a0 := 0) (b := 0) (e := 145) (by decide +kernel) ?_
                      refine hr_pi (b := 12) (e := 11) 192 rfl (by decide +kernel) ?_
                      refine hw_ald (b := 0) (e := 0) (by decide +kernel) (get_st1 g0 (by decide) (fun q => tg2 q.2)) (by decide) ?_
                      refine hw_ld (b := 1) (e := 0) (by decide +kernel) get_st1e ?_
                      refine hr_pi (b := 12) (e := 14) 192 rfl (by decide +kernel) ?_
                      refine hw_ald (b := 0) (e := 0) (by decide +kernel) (get_st1 g0 (by decide) (fun q => tg2 q.2)) (by decide) ?_
                      refine hw_dup (a0 := 0) (e := 0) (by decide +kernel) (by decide) ?_
                      refine hr_gi (w := φ 192 4) (b := 12) (e := 4) 192 rfl (by decide +kernel) ((hf_up_ne (fun q => absurd q.2 (by decide))).trans ((hf_up_ne (fun q => absurd q.2 (by decide))).trans ((hf_up_ne (fun q => absurd q.2 (by decide))).trans (hf_up_ne (fun q => absurd q.2 (by decide)))))) ?_
                      refine hw_k (c := 1) (b := 0) (e := 1) (by decide +kernel) ?_
                      refine hw_bin (w := (φ 192 4) + 1) (a0 := 0) (b := 0) (e := 0) (by decide +kernel) rfl ?_
                      refine hr_pi (b := 12) (e := 4) 192 rfl (by decide +kernel) ?_
                      exact hw_vret (a0 := 0) (e := 0) (by decide +kernel) H
                    · have H := hf39 q
                      refine hw_ld (b := 1) (e := 0) (by decide +kernel) get_st1e ?_
                      refine hw_k (c := 60) (b := 1) (e := 2) (by decide +kernel) ?_
                      obtain ⟨hz41, hy41, ht41, hf41⟩ := H
                      refine hw_if2 (a0 := 0) (b := 2) (e := 144) (by decide +kernel) hz41 hy41 (fun q => ?_) (fun q => ?_)
                      · have H := ht41 q
                        refine hw_k (c := 4) (b := 0) (e := 1) (by decide +kernel) ?_
                        refine hr_pi (b := 12) (e := 11) 192 rfl (by decide +kernel) ?_
                        refine hw_ald (b := 0) (e := 0) (by decide +kernel) (get_st1 g0 (by decide) (fun q => tg2 q.2)) (by decide) ?_
                        refine hw_ld (b := 1) (e := 0) (by decide +kernel) get_st1e ?_
                        refine hr_pi (b := 12) (e := 14) 192 rfl (by decide +kernel) ?_
                        refine hw_ald (b := 0) (e := 0) (by decide +kernel) (get_st1 g0 (by decide) (fun q => tg2 q.2)) (by decide) ?_
                        refine hw_dup (a0 := 0) (e := 0) (by decide +kernel) (by decide) ?_
                        refine hr_gi (w := φ 192 4) (b := 12) (e := 4) 192 rfl (by decide +kernel) ((hf_up_ne (fun q => absurd q.2 (by decide))).trans ((hf_up_ne (fun q => absurd q.2 (by decide))).trans ((hf_up_ne (fun q => absurd q.2 (by decide))).trans (hf_up_ne (fun q => absurd q.2 (by decide)))))) ?_
                        refine hw_k (c := 1) (b := 0) (e := 1) (by decide +kernel) ?_
                        refine hw_bin (w := (φ 192 4) + 1) (a0 := 0) (b := 0) (e := 0) (by decide +kernel) rfl ?_
                        refine hr_pi (b := 12) (e := 4) 192 rfl (by decide +kernel) ?_
                        exact hw_vret (a0 := 0) (e := 0) (by decide +kernel) H
                      · have H := hf41 q
                        refine hw_ld (b := 1) (e := 0) (by decide +kernel) get_st1e ?_
                        refine hw_k (c := 62) (b := 1) (e := 2) (by decide +kernel) ?_
                        obtain ⟨hz43, hy43, ht43, hf43⟩ := H
                        refine hw_if2 (a0 := 0) (b := 4) (e := 144) (by decide +kernel) hz43 hy43 (fun q => ?_) (fun q => ?_)
                        · have H := ht43 q
                          refine hw_k (c := 4) (b := 0) (e := 1) (by decide +kernel) ?_
                          refine hr_pi (b := 12) (e := 11) 192 rfl (by decide +kernel) ?_
                          refine hw_ald (b := 0) (e := 0) (by decide +kernel) (get_st1 g0 (by decide) (fun q => tg2 q.2)) (by decide) ?_
                          refine hw_ld (b := 1) (e := 0) (by decide +kernel) get_st1e ?_
                          refine hr_pi (b := 12) (e := 14) 192 rfl (by decide +kernel) ?_
                          refine hw_ald (b := 0) (e := 0) (by decide +kernel) (get_st1 g0 (by decide) (fun q => tg2 q.2)) (by decide) ?_
                          refine hw_dup (a0 := 0) (e := 0) (by decide +kernel) (by decide) ?_
                          refine hr_gi (w := φ 192 4) (b := 12) (e := 4) 192 rfl (by decide +kernel) ((hf_up_ne (fun q => absurd q.2 (by decide))).trans ((hf_up_ne (fun q => absurd q.2 (by decide))).trans ((hf_up_ne (fun q => absurd q.2 (by decide))).trans (hf_up_ne (fun q => absurd q.2 (by decide)))))) ?_
                          refine hw_k (c := 1) (b := 0) (e := 1) (by decide +kernel) ?_
                          refine hw_bin (w := (φ 192 4) + 1) (a0 := 0) (b := 0) (e := 0) (by decide +kernel) rfl ?_
                          refine hr_pi (b := 12) (e := 4) 192 rfl (by decide +kernel) ?_
                          exact hw_vret (a0 := 0) (e := 0) (by decide +kernel) H
                        · have H := hf43 q
                          refine hw_k (c := 3) (b := 0) (e := 1) (by decide +kernel) ?_
                          refine hw_goto (a0 := 0) (b := 0) (e := 145) (by decide +kernel) ?_
                          refine hr_pi (b := 12) (e := 11) 192 rfl (by decide +kernel) ?_
                          refine hw_ald (b := 0) (e := 0) (by decide +kernel) (get_st1 g0 (by decide) (fun q => tg2 q.2)) (by decide) ?_
                          refine hw_ld (b := 1) (e := 0) (by decide +kernel) get_st1e ?_
                          refine hr_pi (b := 12) (e := 14) 192 rfl (by decide +kernel) ?_
                          refine hw_ald (b := 0) (e := 0) (by decide +kernel) (get_st1 g0 (by decide) (fun q => tg2 q.2)) (by decide) ?_
                          refine hw_dup (a0 := 0) (e := 0) (by decide +kernel) (by decide) ?_
                          refine hr_gi (w := φ 192 4) (b := 12) (e := 4) 192 rfl (by decide +kernel) ((hf_up_ne (fun q => absurd q.2 (by decide))).trans ((hf_up_ne (fun q => absurd q.2 (by decide))).trans ((hf_up_ne (fun q => absurd q.2 (by decide))).trans (hf_up_ne (fun q => absurd q.2 (by decide)))))) ?_
                          refine hw_k (c := 1) (b := 0) (e := 1) (by decide +kernel) ?_
                          refine hw_bin (w := (φ 192 4) + 1) (a0 := 0) (b := 0) (e := 0) (by decide +kernel) rfl ?_
                          refine hr_pi (b := 12) (e := 4) 192 rfl (by decide +kernel) ?_
                          exact hw_vret (a0 := 0) (e := 0) (by decide +kernel) H
          · have H := hf28 q
            refine hw_ald (b := 0) (e := 0) (by decide +kernel) (get_st1 g0 (by decide) (fun q => tg2 q.2)) (by decide) ?_
            refine hw_k (c := 0) (b := 0) (e := 1) (by decide +kernel) ?_
            refine hr_pi (b := 12) (e := 11) 192 rfl (by decide +kernel) ?_
            exact hw_vret (a0 := 0) (e := 0) (by decide +kernel) H
        · have H := hf26 q
          refine hw_ald (b := 0) (e := 0) (by decide +kernel) g0 (by decide) ?_
          refine hw_ald (b := 0) (e := 0) (by decide +kernel) g0 (by decide) ?_
          refine hr_gi (w := φ 192 5) (b := 12) (e := 5) 192 rfl (by decide +kernel) ((hf_up_ne (fun q => absurd q.2 (by decide))).trans (hf_up_ne (fun q => absurd q.2 (by decide)))) ?_
          refine hr_pi (b := 12) (e := 12) 192 rfl (by decide +kernel) ?_
          refine hw_ald (b := 0) (e := 0) (by decide +kernel) g0 (by decide) ?_
          refine hw_k (c := 4) (b := 0) (e := 1) (by decide +kernel) ?_
          refine hr_pi (b := 12) (e := 11) 192 rfl (by decide +kernel) ?_
          exact hw_vret (a0 := 0) (e := 0) (by decide +kernel) H
    · have H := hf4 q
      refine hw_ald (b := 0) (e := 0) (by decide +kernel) g0 (by decide) ?_
      refine hw_dup (a0 := 0) (e := 0) (by decide +kernel) (by decide) ?_
      refine hr_gi (w := φ 192 4) (b := 12) (e := 4) 192 rfl (by decide +kernel) rfl ?_
      refine hw_k (c := 1) (b := 0) (e := 1) (by decide +kernel) ?_
      refine hw_bin (w := (φ 192 4) + 1) (a0 := 0) (b := 0) (e := 0) (by decide +kernel) rfl ?_
      refine hr_pi (b := 12) (e := 4) 192 rfl (by decide +kernel) ?_
      refine hw_goto (a0 := 0) (b := 0) (e := 0) (by decide +kernel) ?_
      exact H
theorem sf_175_192_l0 {sc : List Int} {d x : Nat} {Q : Option jm_V → hf_F → Nat → Prop} : ∀ (n : Nat) (φ : hf_F) (L : jm_L), jm_get L 0 = some (2, 192) → Inv φ → 940 - φ 192 4 < (n : Int) → (∀ ψ : hf_F, Inv ψ → Fr [193004, 193011, 193012, 193013, 193014, 193017] φ ψ → (φ 192 4 ≤ ψ 192 4 ∧ (ψ 192 11 = 3 → φ 192 4 < ψ 192 4) ∧ ψ 192 18 = φ 192 18 ∧ ψ 192 30 = φ 192 30 ∧ ψ 192 34 = φ 192 34 ∧ ψ 192 35 = φ 192 35 ∧ ψ 192 36 = φ 192 36 ∧ ψ 192 38 = φ 192 38) → F_RideLawsModel_next_192_l0 n φ  = ψ → Q none ψ x) → hw sc (d + 1) 175 0 L [] φ x Q := by
  intro n
  induction n with
  | zero =>
    intro φ L  g0 hI hM  hQ
    have fm192_4 := iv_at (a := 192) (k := 4) (lo := 0) (u := 940) hI (by decide +kernel)
    exfalso
    omega
  | succ n ih =>
    intro φ L  g0 hI hM  hQ
    have fm192_4 := iv_at (a := 192) (k := 4) (lo := 0) (u := 940) hI (by decide +kernel)
    refine sf_175_192_v0 g0 ?_
    have ffx43754 := pk_b φ
    have e0 := F_RideLawsModel_next_192_l0_s (φ := φ) n
    refine sf_176_192 (φ := φ) hI  (fun z1 hp1 hE1 => ⟨rfl, rfl, z1, rfl, ?_⟩)
    have e1 := e0.trans (bnp_e hE1)
    have f1 := iv_at (a := 192) (k := 3) (lo := 0) (u := 940) hI (by decide +kernel)
    have f2 := iv_at (a := 192) (k := 4) (lo := 0) (u := 940) hI (by decide +kernel)
    have f3 := pk_b φ
    refine ⟨by unfold hi; omega, by unfold hi; omega, fun q2 => ?_, fun q2 => ?_⟩
    · skip
      have e2a := e1.trans (if_pos q2)
      have i4 : Inv (hf_up φ 192 4 ((φ 192 4) + 1)) := iv_up (lo := 0) (u := 940) hI (by decide +kernel) (by omega) (by omega)
      have r4 : Fr [193004, 193011, 193012, 193013, 193014, 193017] φ (hf_up φ 192 4 ((φ 192 4) + 1)) := fr_up (fr_rf) (by decide)
      have f5 : (hf_up φ 192 4 ((φ 192 4) + 1)) 192 18 = φ 192 18 := (hf_up_ne (fun q => absurd q.2 (by decide)))
      have f6 := iv_at (a := 192) (k := 18) (lo := (-1 : Int)) (u := 999) hI (by decide +kernel)
      have f7 : (hf_up φ 192 4 ((φ 192 4) + 1)) 192 30 = φ 192 30 := (hf_up_ne (fun q => absurd q.2 (by decide)))
      have f8 := iv_at (a := 192) (k := 30) (lo := 0) (u := 40) hI (by decide +kernel)
      have f9 : (hf_up φ 192 4 ((φ 192 4) + 1)) 192 34 = φ 192 34 := (hf_up_ne (fun q => absurd q.2 (by decide)))
      have f10 := iv_at (a := 192) (k := 34) (lo := 0) (u := 45) hI (by decide +kernel)
      have f11 : (hf_up φ 192 4 ((φ 192 4) + 1)) 192 35 = φ 192 35 := (hf_up_ne (fun q => absurd q.2 (by decide)))
      have f12 := iv_at (a := 192) (k := 35) (lo := 0) (u := 20) hI (by decide +kernel)
      have f13 : (hf_up φ 192 4 ((φ 192 4) + 1)) 192 36 = φ 192 36 := (hf_up_ne (fun q => absurd q.2 (by decide)))
      have f14 := iv_at (a := 192) (k := 36) (lo := 0) (u := 45) hI (by decide +kernel)
      have f15 : (hf_up φ 192 4 ((φ 192 4) + 1)) 192 38 = φ 192 38 := (hf_up_ne (fun q => absurd q.2 (by decide)))
      have f16 := iv_at (a := 192) (k := 38) (lo := 0) (u := 1) hI (by decide +kernel)
      have f17 : (hf_up φ 192 4 ((φ 192 4) + 1)) 192 4 = (φ 192 4) + 1 := hf_up_eq
      exact ih (hf_up φ 192 4 ((φ 192 4) + 1)) L  g0 i4 (by omega)  (fun χ hIχ hFχ hVχ hEχ => hQ χ hIχ (fr_tr r4 hFχ (by decide)) (by omega) (e2a.trans hEχ))
    · skip
      have e2b := e1.trans (if_neg q2)
      refine sf_176_192 (φ := φ) hI  (fun z3 hp3 hE3 => ⟨rfl, rfl, z3, rfl, ?_⟩)
      have e3 := e2b.trans (bnp_e hE3)
      refine ⟨by unfold hi; omega, by unfold hi; omega, fun q4 => ?_, fun q4 => ?_⟩
      · skip
        have e4a := e3.trans (if_pos q4)
        have i18 : Inv (hf_up φ 192 12 (φ 192 4)) := iv_up (lo := 0) (u := 940) hI (by decide +kernel) (by omega) (by omega)
        have r18 : Fr [193004, 193011, 193012, 193013, 193014, 193017] φ (hf_up φ 192 12 (φ 192 4)) := fr_up (fr_rf) (by decide)
        have i19 : Inv (hf_up (hf_up φ 192 12 (φ 192 4)) 192 13 0) := iv_up (lo := 0) (u := 940) i18 (by decide +kernel) (by omega) (by omega)
        have r19 : Fr [193004, 193011, 193012, 193013, 193014, 193017] φ (hf_up (hf_up φ 192 12 (φ 192 4)) 192 13 0) := fr_up r18 (by decide)
        have f20 := iv_at (a := 192) (k := 5) (lo := 0) (u := 940) hI (by decide +kernel)
        refine ⟨by unfold hi; omega, by unfold hi; omega, fun q5 => ?_, fun q5 => ?_⟩
        · skip
          have e5a := e4a.trans (if_pos q5)
          refine sf_176_192 (φ := (hf_up (hf_up φ 192 12 (φ 192 4)) 192 13 0)) i19  (fun z6 hp6 hE6 => ⟨rfl, rfl, z6, rfl, ?_⟩)
          have e6 := e5a.trans (bnp_e hE6)
          have f21 : (hf_up (hf_up φ 192 12 (φ 192 4)) 192 13 0) 192 3 = φ 192 3 := ((hf_up_ne (fun q => absurd q.2 (by decide))).trans (hf_up_ne (fun q => absurd q.2 (by decide))))
          have f22 : (hf_up (hf_up φ 192 12 (φ 192 4)) 192 13 0) 192 4 = φ 192 4 := ((hf_up_ne (fun q => absurd q.2 (by decide))).trans (hf_up_ne (fun q => absurd q.2 (by decide))))
          have f23 := pk_b (hf_up (hf_up φ 192 12 (φ 192 4)) 192 13 0)
          have f24 := pk_c (φ := φ) (ψ := (hf_up (hf_up φ 192 12 (φ 192 4)) 192 13 0)) ((hf_up_ne (fun q => absurd q.2 (by decide))).trans (hf_up_ne (fun q => absurd q.2 (by decide)))) ((hf_up_ne (fun q => absurd q.2 (by decide))).trans (hf_up_ne (fun q => absurd q.2 (by decide)))) (fun kk => ((hf_up_ne (fun q => absurd q.1 (by decide))).trans (hf_up_ne (fun q => absurd q.1 (by decide)))))
          refine ⟨by unfold hi; omega, fun q7 => ?_, fun q7 => ?_⟩
          · skip
            have e7a := e6.trans (if_pos q7)
            refine sf_177 (φ := (hf_up (hf_up φ 192 12 (φ 192 4)) 192 13 0)) i19 (by omega) (by omega) (fun z8 hp8 hE8 => ⟨rfl, rfl, z8, rfl, ?_⟩)
            have e8 := e7a.trans (bnp_e hE8)
            refine ⟨by unfold hi; omega, fun q9 => ?_, fun q9 => ?_⟩
            · skip
              have e9a := e8.trans (if_pos q9)
              refine sf_177 (φ := (hf_up (hf_up φ 192 12 (φ 192 4)) 192 13 0)) i19 (by omega) (by omega) (fun z10 hp10 hE10 => ⟨rfl, rfl, z10, rfl, ?_⟩)
              have e10 := e9a.trans (bnp_e hE10)
              have i25 : Inv (hf_up (hf_up (hf_up φ 192 12 (φ 192 4)) 192 13 0) 192 17 0) := iv_upn i19 (by decide) (by decide) (by decide +kernel)
              have r25 : Fr [193004, 193011, 193012, 193013, 193014, 193017] φ (hf_up (hf_up (hf_up φ 192 12 (φ 192 4)) 192 13 0) 192 17 0) := fr_up r19 (by decide)
              have i26 : Inv (hf_up (hf_up (hf_up (hf_up φ 192 12 (φ 192 4)) 192 13 0) 192 17 0) 192 14 0) := iv_up (lo := 0) (u := 8214) i25 (by decide +kernel) (by omega) (by omega)
              have r26 : Fr [193004, 193011, 193012, 193013, 193014, 193017] φ (hf_up (hf_up (hf_up (hf_up φ 192 12 (φ 192 4)) 192 13 0) 192 17 0) 192 14 0) := fr_up r25 (by decide)
              have f27 : (hf_up (hf_up (hf_up (hf_up φ 192 12 (φ 192 4)) 192 13 0) 192 17 0) 192 14 0) 192 13 = 0 := ((hf_up_ne (fun q => absurd q.2 (by decide))).trans ((hf_up_ne (fun q => absurd q.2 (by decide))).trans hf_up_eq))
              have f28 : (hf_up (hf_up (hf_up (hf_up φ 192 12 (φ 192 4)) 192 13 0) 192 17 0) 192 14 0) 192 14 = 0 := hf_up_eq
              have f29 : (hf_up (hf_up (hf_up (hf_up φ 192 12 (φ 192 4)) 192 13 0) 192 17 0) 192 14 0) 192 18 = φ 192 18 := ((hf_up_ne (fun q => absurd q.2 (by decide))).trans ((hf_up_ne (fun q => absurd q.2 (by decide))).trans ((hf_up_ne (fun q => absurd q.2 (by decide))).trans (hf_up_ne (fun q => absurd q.2 (by decide))))))
              have f30 := iv_at (a := 192) (k := 18) (lo := (-1 : Int)) (u := 999) hI (by decide +kernel)
              have f31 : (hf_up (hf_up (hf_up (hf_up φ 192 12 (φ 192 4)) 192 13 0) 192 17 0) 192 14 0) 192 30 = φ 192 30 := ((hf_up_ne (fun q => absurd q.2 (by decide))).trans ((hf_up_ne (fun q => absurd q.2 (by decide))).trans ((hf_up_ne (fun q => absurd q.2 (by decide))).trans (hf_up_ne (fun q => absurd q.2 (by decide))))))
              have f32 := iv_at (a := 192) (k := 30) (lo := 0) (u := 40) hI (by decide +kernel)
              have f33 : (hf_up (hf_up (hf_up (hf_up φ 192 12 (φ 192 4)) 192 13 0) 192 17 0) 192 14 0) 192 34 = φ 192 34 := ((hf_up_ne (fun q => absurd q.2 (by decide))).trans ((hf_up_ne (fun q => absurd q.2 (by decide))).trans ((hf_up_ne (fun q => absurd q.2 (by decide))).trans (hf_up_ne (fun q => absurd q.2 (by decide))))))
              have f34 := iv_at (a := 192) (k := 34) (lo := 0) (u := 45) hI (by decide +kernel)
              have f35 : (hf_up (hf_up (hf_up (hf_up φ 192 12 (φ 192 4)) 192 13 0) 192 17 0) 192 14 0) 192 35 = φ 192 35 := ((hf_up_ne (fun q => absurd q.2 (by decide))).trans ((hf_up_ne (fun q => absurd q.2 (by decide))).trans ((hf_up_ne (fun q => absurd q.2 (by decide))).trans (hf_up_ne (fun q => absurd q.2 (by decide))))))
              have f36 := iv_at (a := 192) (k := 35) (lo := 0) (u := 20) hI (by decide +kernel)
              have f37 : (hf_up (hf_up (hf_up (hf_up φ 192 12 (φ 192 4)) 192 13 0) 192 17 0) 192 14 0) 192 36 = φ 192 36 := ((hf_up_ne (fun q => absurd q.2 (by decide))).trans ((hf_up_ne (fun q => absurd q.2 (by decide))).trans ((hf_up_ne (fun q => absurd q.2 (by decide))).trans (hf_up_ne (fun q => absurd q.2 (by decide))))))
              have f38 := iv_at (a := 192) (k := 36) (lo := 0) (u := 45) hI (by decide +kernel)
              have f39 : (hf_up (hf_up (hf_up (hf_up φ 192 12 (φ 192 4)) 192 13 0) 192 17 0) 192 14 0) 192 38 = φ 192 38 := ((hf_up_ne (fun q => absurd q.2 (by decide))).trans ((hf_up_ne (fun q => absurd q.2 (by decide))).trans ((hf_up_ne (fun q => absurd q.2 (by decide))).trans (hf_up_ne (fun q => absurd q.2 (by decide))))))
              have f40 := iv_at (a := 192) (k := 38) (lo := 0) (u := 1) hI (by decide +kernel)
              have f41 : (hf_up (hf_up (hf_up (hf_up φ 192 12 (φ 192 4)) 192 13 0) 192 17 0) 192 14 0) 192 4 = φ 192 4 := ((hf_up_ne (fun q => absurd q.2 (by decide))).trans ((hf_up_ne (fun q => absurd q.2 (by decide))).trans ((hf_up_ne (fun q => absurd q.2 (by decide))).trans (hf_up_ne (fun q => absurd q.2 (by decide))))))
              exact sf_175_192_l181 ((940 - (hf_up (hf_up (hf_up (hf_up φ 192 12 (φ 192 4)) 192 13 0) 192 17 0) 192 14 0) 192 4 : Int).toNat + 1) (hf_up (hf_up (hf_up (hf_up φ 192 12 (φ 192 4)) 192 13 0) 192 17 0) 192 14 0) (jm_st1 (jm_st1 (jm_st1 L 1 (0, z6)) 2 (0, z10)) 3 (0, 1)) z6 z10 1 (get_st1 (get_st1 (get_st1 g0 (by decide) (fun q => tg2 q.2)) (by decide) (fun q => absurd q.1 (by decide))) (by decide) (fun q => absurd q.1 (by decide))) (get_st1 (get_st1 get_st1e (by decide) (fun q => tg0 q.2)) (by decide) (fun q => absurd q.1 (by decide))) (get_st1 get_st1e (by decide) (fun q => tg0 q.2)) get_st1e i26 (by omega) (by omega) (by omega) (by omega) (by omega) (by omega) (by omega) (by omega) (by omega) (by omega) (fun χ hIχ hFχ hVχ hEχ => hQ χ hIχ (fr_tr r26 hFχ (by decide)) (by omega) (e10.trans hEχ))
            · skip
              have e9b := e8.trans (if_neg q9)
              refine sf_178 (φ := (hf_up (hf_up φ 192 12 (φ 192 4)) 192 13 0)) i19 (by omega) (by omega) (fun z11 hp11 hE11 => ⟨rfl, rfl, z11, rfl, ?_⟩)
              have e11 := e9b.trans (bnp_e hE11)
              refine ⟨by unfold hi; omega, fun q12 => ?_, fun q12 => ?_⟩
              · skip
                have e12a := e11.trans (if_pos q12)
                refine sf_177 (φ := (hf_up (hf_up φ 192 12 (φ 192 4)) 192 13 0)) i19 (by omega) (by omega) (fun z13 hp13 hE13 => ⟨rfl, rfl, z13, rfl, ?_⟩)
                have e13 := e12a.trans (bnp_e hE13)
                have i42 : Inv (hf_up (hf_up (hf_up φ 192 12 (φ 192 4)) 192 13 0) 192 17 0) := iv_upn i19 (by decide) (by decide) (by decide +kernel)
                have r42 : Fr [193004, 193011, 193012, 193013, 193014, 193017] φ (hf_up (hf_up (hf_up φ 192 12 (φ 192 4)) 192 13 0) 192 17 0) := fr_up r19 (by decide)
                have i43 : Inv (hf_up (hf_up (hf_up (hf_up φ 192 12 (φ 192 4)) 192 13 0) 192 17 0) 192 14 0) := iv_up (lo := 0) (u := 8214) i42 (by decide +kernel) (by omega) (by omega)
                have r43 : Fr [193004, 193011, 193012, 193013, 193014, 193017] φ (hf_up (hf_up (hf_up (hf_up φ 192 12 (φ 192 4)) 192 13 0) 192 17 0) 192 14 0) := fr_up r42 (by decide)
                have f44 : (hf_up (hf_up (hf_up (hf_up φ 192 12 (φ 192 4)) 192 13 0) 192 17 0) 192 14 0) 192 13 = 0 := ((hf_up_ne (fun q => absurd q.2 (by decide))).trans ((hf_up_ne (fun q => absurd q.2 (by decide))).trans hf_up_eq))
                have f45 : (hf_up (hf_up (hf_up (hf_up φ 192 12 (φ 192 4)) 192 13 0) 192 17 0) 192 14 0) 192 14 = 0 := hf_up_eq
                have f46 : (hf_up (hf_up (hf_up (hf_up φ 192 12 (φ 192 4)) 192 13 0) 192 17 0) 192 14 0) 192 18 = φ 192 18 := ((hf_up_ne (fun q => absurd q.2 (by decide))).trans ((hf_up_ne (fun q => absurd q.2 (by decide))).trans ((hf_up_ne (fun q => absurd q.2 (by decide))).trans (hf_up_ne (fun q => absurd q.2 (by decide))))))
                have f47 := iv_at (a := 192) (k := 18) (lo := (-1 : Int)) (u := 999) hI (by decide +kernel)
                have f48 : (hf_up (hf_up (hf_up (hf_up φ 192 12 (φ 192 4)) 192 13 0) 192 17 0) 192 14 0) 192 30 = φ 192 30 := ((hf_up_ne (fun q => absurd q.2 (by decide))).trans ((hf_up_ne (fun q => absurd q.2 (by decide))).trans ((hf_up_ne (fun q => absurd q.2 (by decide))).trans (hf_up_ne (fun q => absurd q.2 (by decide))))))
                have f49 := iv_at (a := 192) (k := 30) (lo := 0) (u := 40) hI (by decide +kernel)
                have f50 : (hf_up (hf_up (hf_up (hf_up φ 192 12 (φ 192 4)) 192 13 0) 192 17 0) 192 14 0) 192 34 = φ 192 34 := ((hf_up_ne (fun q => absurd q.2 (by decide))).trans ((hf_up_ne (fun q => absurd q.2 (by decide))).trans ((hf_up_ne (fun q => absurd q.2 (by decide))).trans (hf_up_ne (fun q => absurd q.2 (by decide))))))
                have f51 := iv_at (a := 192) (k := 34) (lo := 0) (u := 45) hI (by decide +kernel)
                have f52 : (hf_up (hf_up (hf_up (hf_up φ 192 12 (φ 192 4)) 192 13 0) 192 17 0) 192 14 0) 192 35 = φ 192 35 := ((hf_up_ne (fun q => absurd q.2 (by decide))).trans ((hf_up_ne (fun q => absurd q.2 (by decide))).trans ((hf_up_ne (fun q => absurd q.2 (by decide))).trans (hf_up_ne (fun q => absurd q.2 (by decide))))))
                have f53 := iv_at (a := 192) (k := 35) (lo := 0) (u := 20) hI (by decide +kernel)
                have f54 : (hf_up (hf_up (hf_up (hf_up φ 192 12 (φ 192 4)) 192 13 0) 192 17 0) 192 14 0) 192 36 = φ 192 36 := ((hf_up_ne (fun q => absurd q.2 (by decide))).trans ((hf_up_ne (fun q => absurd q.2 (by decide))).trans ((hf_up_ne (fun q => absurd q.2 (by decide))).trans (hf_up_ne (fun q => absurd q.2 (by decide))))))
                have f55 := iv_at (a := 192) (k := 36) (lo := 0) (u := 45) hI (by decide +kernel)
                have f56 : (hf_up (hf_up (hf_up (hf_up φ 192 12 (φ 192 4)) 192 13 0) 192 17 0) 192 14 0) 192 38 = φ 192 38 := ((hf_up_ne (fun q => absurd q.2 (by decide))).trans ((hf_up_ne (fun q => absurd q.2 (by decide))).trans ((hf_up_ne (fun q => absurd q.2 (by decide))).trans (hf_up_ne (fun q => absurd q.2 (by decide))))))
                have f57 := iv_at (a := 192) (k := 38) (lo := 0) (u := 1) hI (by decide +kernel)
                have f58 : (hf_up (hf_up (hf_up (hf_up φ 192 12 (φ 192 4)) 192 13 0) 192 17 0) 192 14 0) 192 4 = φ 192 4 := ((hf_up_ne (fun q => absurd q.2 (by decide))).trans ((hf_up_ne (fun q => absurd q.2 (by decide))).trans ((hf_up_ne (fun q => absurd q.2 (by decide))).trans (hf_up_ne (fun q => absurd q.2 (by decide))))))
                exact sf_175_192_l181 ((940 - (hf_up (hf_up (hf_up (hf_up φ 192 12 (φ 192 4)) 192 13 0) 192 17 0) 192 14 0) 192 4 : Int).toNat + 1) (hf_up (hf_up (hf_up (hf_up φ 192 12 (φ 192 4)) 192 13 0) 192 17 0) 192 14 0) (jm_st1 (jm_st1 (jm_st1 L 1 (0, z6)) 2 (0, z13)) 3 (0, 1)) z6 z13 1 (get_st1 (get_st1 (get_st1 g0 (by decide) (fun q => tg2 q.2)) (by decide) (fun q => absurd q.1 (by decide))) (by decide) (fun q => absurd q.1 (by decide))) (get_st1 (get_st1 get_st1e (by decide) (fun q => tg0 q.2)) (by decide) (fun q => absurd q.1 (by decide))) (get_st1 get_st1e (by decide) (fun q => tg0 q.2)) get_st1e i43 (by omega) (by omega) (by omega) (by omega) (by omega) (by omega) (by omega) (by omega) (by omega) (by omega) (fun χ hIχ hFχ hVχ hEχ => hQ χ hIχ (fr_tr r43 hFχ (by decide)) (by omega) (e13.trans hEχ))
              · skip
                have e12b := e11.trans (if_neg q12)
                refine ⟨by unfold hi; omega, by unfold hi; omega, fun q14 => ?_, fun q14 => ?_⟩
                · skip
                  have e14a := e12b.trans (if_pos q14)
                  have i59 : Inv (hf_up (hf_up (hf_up φ 192 12 (φ 192 4)) 192 13 0) 192 11 3) := iv_up (lo := 0) (u := 4) i19 (by decide +kernel) (by omega) (by omega)
                  have r59 : Fr [193004, 193011, 193012, 193013, 193014, 193017] φ (hf_up (hf_up (hf_up φ 192 12 (φ 192 4)) 192 13 0) 192 11 3) := fr_up r19 (by decide)
                  have i60 : Inv (hf_up (hf_up (hf_up (hf_up φ 192 12 (φ 192 4)) 192 13 0) 192 11 3) 192 14 z6) := iv_up (lo := 0) (u := 8214) i59 (by decide +kernel) (by omega) (by omega)
                  have r60 : Fr [193004, 193011, 193012, 193013, 193014, 193017] φ (hf_up (hf_up (hf_up (hf_up φ 192 12 (φ 192 4)) 192 13 0) 192 11 3) 192 14 z6) := fr_up r59 (by decide)
                  have i61 : Inv (hf_up (hf_up (hf_up (hf_up (hf_up φ 192 12 (φ 192 4)) 192 13 0) 192 11 3) 192 14 z6) 192 4 ((φ 192 4) + 1)) := iv_up (lo := 0) (u := 940) i60 (by decide +kernel) (by omega) (by omega)
                  have r61 : Fr [193004, 193011, 193012, 193013, 193014, 193017] φ (hf_up (hf_up (hf_up (hf_up (hf_up φ 192 12 (φ 192 4)) 192 13 0) 192 11 3) 192 14 z6) 192 4 ((φ 192 4) + 1)) := fr_up r60 (by decide)
                  have f62 := iv_at (a := 192) (k := 18) (lo := (-1 : Int)) (u := 999) hI (by decide +kernel)
                  have f63 := iv_at (a := 192) (k := 30) (lo := 0) (u := 40) hI (by decide +kernel)
                  have f64 := iv_at (a := 192) (k := 34) (lo := 0) (u := 45) hI (by decide +kernel)
                  have f65 := iv_at (a := 192) (k := 35) (lo := 0) (u := 20) hI (by decide +kernel)
                  have f66 := iv_at (a := 192) (k := 36) (lo := 0) (u := 45) hI (by decide +kernel)
                  have f67 := iv_at (a := 192) (k := 38) (lo := 0) (u := 1) hI (by decide +kernel)
                  have f68 : (hf_up (hf_up (hf_up (hf_up (hf_up φ 192 12 (φ 192 4)) 192 13 0) 192 11 3) 192 14 z6) 192 4 ((φ 192 4) + 1)) 192 11 = 3 := ((hf_up_ne (fun q => absurd q.2 (by decide))).trans ((hf_up_ne (fun q => absurd q.2 (by decide))).trans hf_up_eq))
                  have f69 : (hf_up (hf_up (hf_up (hf_up (hf_up φ 192 12 (φ 192 4)) 192 13 0) 192 11 3) 192 14 z6) 192 4 ((φ 192 4) + 1)) 192 18 = φ 192 18 := ((hf_up_ne (fun q => absurd q.2 (by decide))).trans ((hf_up_ne (fun q => absurd q.2 (by decide))).trans ((hf_up_ne (fun q => absurd q.2 (by decide))).trans ((hf_up_ne (fun q => absurd q.2 (by decide))).trans (hf_up_ne (fun q => absurd q.2 (by decide)))))))
                  have f70 : (hf_up (hf_up (hf_up (hf_up (hf_up φ 192 12 (φ 192 4)) 192 13 0) 192 11 3) 192 14 z6) 192 4 ((φ 192 4) + 1)) 192 30 = φ 192 30 := ((hf_up_ne (fun q => absurd q.2 (by decide))).trans ((hf_up_ne (fun q => absurd q.2 (by decide))).trans ((hf_up_ne (fun q => absurd q.2 (by decide))).trans ((hf_up_ne (fun q => absurd q.2 (by decide))).trans (hf_up_ne (fun q => absurd q.2 (by decide)))))))
                  have f71 : (hf_up (hf_up (hf_up (hf_up (hf_up φ 192 12 (φ 192 4)) 192 13 0) 192 11 3) 192 14 z6) 192 4 ((φ 192 4) + 1)) 192 34 = φ 192 34 := ((hf_up_ne (fun q => absurd q.2 (by decide))).trans ((hf_up_ne (fun q => absurd q.2 (by decide))).trans ((hf_up_ne (fun q => absurd q.2 (by decide))).trans ((hf_up_ne (fun q => absurd q.2 (by decide))).trans (hf_up_ne (fun q => absurd q.2 (by decide)))))))
                  have f72 : (hf_up (hf_up (hf_up (hf_up (hf_up φ 192 12 (φ 192 4)) 192 13 0) 192 11 3) 192 14 z6) 192 4 ((φ 192 4) + 1)) 192 35 = φ 192 35 := ((hf_up_ne (fun q => absurd q.2 (by decide))).trans ((hf_up_ne (fun q => absurd q.2 (by decide))).trans ((hf_up_ne (fun q => absurd q.2 (by decide))).trans ((hf_up_ne (fun q => absurd q.2 (by decide))).trans (hf_up_ne (fun q => absurd q.2 (by decide)))))))
                  have f73 : (hf_up (hf_up (hf_up (hf_up (hf_up φ 192 12 (φ 192 4)) 192 13 0) 192 11 3) 192 14 z6) 192 4 ((φ 192 4) + 1)) 192 36 = φ 192 36 := ((hf_up_ne (fun q => absurd q.2 (by decide))).trans ((hf_up_ne (fun q => absurd q.2 (by decide))).trans ((hf_up_ne (fun q => absurd q.2 (by decide))).trans ((hf_up_ne (fun q => absurd q.2 (by decide))).trans (hf_up_ne (fun q => absurd q.2 (by decide)))))))
                  have f74 : (hf_up (hf_up (hf_up (hf_up (hf_up φ 192 12 (φ 192 4)) 192 13 0) 192 11 3) 192 14 z6) 192 4 ((φ 192 4) + 1)) 192 38 = φ 192 38 := ((hf_up_ne (fun q => absurd q.2 (by decide))).trans ((hf_up_ne (fun q => absurd q.2 (by decide))).trans ((hf_up_ne (fun q => absurd q.2 (by decide))).trans ((hf_up_ne (fun q => absurd q.2 (by decide))).trans (hf_up_ne (fun q => absurd q.2 (by decide)))))))
                  have f75 : (hf_up (hf_up (hf_up (hf_up (hf_up φ 192 12 (φ 192 4)) 192 13 0) 192 11 3) 192 14 z6) 192 4 ((φ 192 4) + 1)) 192 4 = (φ 192 4) + 1 := hf_up_eq
                  exact hQ (hf_up (hf_up (hf_up (hf_up (hf_up φ 192 12 (φ 192 4)) 192 13 0) 192 11 3) 192 14 z6) 192 4 ((φ 192 4) + 1)) i61 r61 (by omega) e14a
                · skip
                  have e14b := e12b.trans (if_neg q14)
                  refine ⟨by unfold hi; omega, by unfold hi; omega, fun q16 => ?_, fun q16 => ?_⟩
                  · skip
                    have e16a := e14b.trans (if_pos q16)
                    have i76 : Inv (hf_up (hf_up (hf_up φ 192 12 (φ 192 4)) 192 13 0) 192 11 3) := iv_up (lo := 0) (u := 4) i19 (by decide +kernel) (by omega) (by omega)
                    have r76 : Fr [193004, 193011, 193012, 193013, 193014, 193017] φ (hf_up (hf_up (hf_up φ 192 12 (φ 192 4)) 192 13 0) 192 11 3) := fr_up r19 (by decide)
                    have i77 : Inv (hf_up (hf_up (hf_up (hf_up φ 192 12 (φ 192 4)) 192 13 0) 192 11 3) 192 14 z6) := iv_up (lo := 0) (u := 8214) i76 (by decide +kernel) (by omega) (by omega)
                    have r77 : Fr [193004, 193011, 193012, 193013, 193014, 193017] φ (hf_up (hf_up (hf_up (hf_up φ 192 12 (φ 192 4)) 192 13 0) 192 11 3) 192 14 z6) := fr_up r76 (by decide)
                    have i78 : Inv (hf_up (hf_up (hf_up (hf_up (hf_up φ 192 12 (φ 192 4)) 192 13 0) 192 11 3) 192 14 z6) 192 4 ((φ 192 4) + 1)) := iv_up (lo := 0) (u := 940) i77 (by decide +kernel) (by omega) (by omega)
                    have r78 : Fr [193004, 193011, 193012, 193013, 193014, 193017] φ (hf_up (hf_up (hf_up (hf_up (hf_up φ 192 12 (φ 192 4)) 192 13 0) 192 11 3) 192 14 z6) 192 4 ((φ 192 4) + 1)) := fr_up r77 (by decide)
                    have f79 := iv_at (a := 192) (k := 18) (lo := (-1 : Int)) (u := 999) hI (by decide +kernel)
                    have f80 := iv_at (a := 192) (k := 30) (lo := 0) (u := 40) hI (by decide +kernel)
                    have f81 := iv_at (a := 192) (k := 34) (lo := 0) (u := 45) hI (by decide +kernel)
                    have f82 := iv_at (a := 192) (k := 35) (lo := 0) (u := 20) hI (by decide +kernel)
                    have f83 := iv_at (a := 192) (k := 36) (lo := 0) (u := 45) hI (by decide +kernel)
                    have f84 := iv_at (a := 192) (k := 38) (lo := 0) (u := 1) hI (by decide +kernel)
                    have f85 : (hf_up (hf_up (hf_up (hf_up (hf_up φ 192 12 (φ 192 4)) 192 13 0) 192 11 3) 192 14 z6) 192 4 ((φ 192 4) + 1)) 192 11 = 3 := ((hf_up_ne (fun q => absurd q.2 (by decide))).trans ((hf_up_ne (fun q => absurd q.2 (by decide))).trans hf_up_eq))
                    have f86 : (hf_up (hf_up (hf_up (hf_up (hf_up φ 192 12 (φ 192 4)) 192 13 0) 192 11 3) 192 14 z6) 192 4 ((φ 192 4) + 1)) 192 18 = φ 192 18 := ((hf_up_ne (fun q => absurd q.2 (by decide))).trans ((hf_up_ne (fun q => absurd q.2 (by decide))).trans ((hf_up_ne (fun q => absurd q.2 (by decide))).trans ((hf_up_ne (fun q => absurd q.2 (by decide))).trans (hf_up_ne (fun q => absurd q.2 (by decide)))))))
                    have f87 : (hf_up (hf_up (hf_up (hf_up (hf_up φ 192 12 (φ 192 4)) 192 13 0) 192 11 3) 192 14 z6) 192 4 ((φ 192 4) + 1)) 192 30 = φ 192 30 := ((hf_up_ne (fun q => absurd q.2 (by decide))).trans ((hf_up_ne (fun q => absurd q.2 (by decide))).trans ((hf_up_ne (fun q => absurd q.2 (by decide))).trans ((hf_up_ne (fun q => absurd q.2 (by decide))).trans (hf_up_ne (fun q => absurd q.2 (by decide)))))))
                    have f88 : (hf_up (hf_up (hf_up (hf_up (hf_up φ 192 12 (φ 192 4)) 192 13 0) 192 11 3) 192 14 z6) 192 4 ((φ 192 4) + 1)) 192 34 = φ 192 34 := ((hf_up_ne (fun q => absurd q.2 (by decide))).trans ((hf_up_ne (fun q => absurd q.2 (by decide))).trans ((hf_up_ne (fun q => absurd q.2 (by decide))).trans ((hf_up_ne (fun q => absurd q.2 (by decide))).trans (hf_up_ne (fun q => absurd q.2 (by decide)))))))
                    have f89 : (hf_up (hf_up (hf_up (hf_up (hf_up φ 192 12 (φ 192 4)) 192 13 0) 192 11 3) 192 14 z6) 192 4 ((φ 192 4) + 1)) 192 35 = φ 192 35 := ((hf_up_ne (fun q => absurd q.2 (by decide))).trans ((hf_up_ne (fun q => absurd q.2 (by decide))).trans ((hf_up_ne (fun q => absurd q.2 (by decide))).trans ((hf_up_ne (fun q => absurd q.2 (by decide))).trans (hf_up_ne (fun q => absurd q.2 (by decide)))))))
                    have f90 : (hf_up (hf_up (hf_up (hf_up (hf_up φ 192 12 (φ 192 4)) 192 13 0) 192 11 3) 192 14 z6) 192 4 ((φ 192 4) + 1)) 192 36 = φ 192 36 := ((hf_up_ne (fun q => absurd q.2 (by decide))).trans ((hf_up_ne (fun q => absurd q.2 (by decide))).trans ((hf_up_ne (fun q => absurd q.2 (by decide))).trans ((hf_up_ne (fun q => absurd q.2 (by decide))).trans (hf_up_ne (fun q => absurd q.2 (by decide)))))))
                    have f91 : (hf_up (hf_up (hf_up (hf_up (hf_up φ 192 12 (φ 192 4)) 192 13 0) 192 11 3) 192 14 z6) 192 4 ((φ 192 4) + 1)) 192 38 = φ 192 38 := ((hf_up_ne (fun q => absurd q.2 (by decide))).trans ((hf_up_ne (fun q => absurd q.2 (by decide))).trans ((hf_up_ne (fun q => absurd q.2 (by decide))).trans ((hf_up_ne (fun q => absurd q.2 (by decide))).trans (hf_up_ne (fun q => absurd q.2 (by decide)))))))
                    have f92 : (hf_up (hf_up (hf_up (hf_up (hf_up φ 192 12 (φ 192 4)) 192 13 0) 192 11 3) 192 14 z6) 192 4 ((φ 192 4) + 1)) 192 4 = (φ 192 4) + 1 := hf_up_eq
                    exact hQ (hf_up (hf_up (hf_up (hf_up (hf_up φ 192 12 (φ 192 4)) 192 13 0) 192 11 3) 192 14 z6) 192 4 ((φ 192 4) + 1)) i78 r78 (by omega) e16a
                  · skip
                    have e16b := e14b.trans (if_neg q16)
                    refine ⟨by unfold hi; omega, by unfold hi; omega, fun q18 => ?_, fun q18 => ?_⟩
                    · skip
                      have e18a := e16b.trans (if_pos q18)
                      have i93 : Inv (hf_up (hf_up (hf_up φ 192 12 (φ 192 4)) 192 13 0) 192 11 3) := iv_up (lo := 0) (u := 4) i19 (by decide +kernel) (by omega) (by omega)
                      have r93 : Fr [193004, 193011, 193012, 193013, 193014, 193017] φ (hf_up (hf_up (hf_up φ 192 12 (φ 192 4)) 192 13 0) 192 11 3) := fr_up r19 (by decide)
                      have i94 : Inv (hf_up (hf_up (hf_up (hf_up φ 192 12 (φ 192 4)) 192 13 0) 192 11 3) 192 14 z6) := iv_up (lo := 0) (u := 8214) i93 (by decide +kernel) (by omega) (by omega)
                      have r94 : Fr [193004, 193011, 193012, 193013, 193014, 193017] φ (hf_up (hf_up (hf_up (hf_up φ 192 12 (φ 192 4)) 192 13 0) 192 11 3) 192 14 z6) := fr_up r93 (by decide)
                      have i95 : Inv (hf_up (hf_up (hf_up (hf_up (hf_up φ 192 12 (φ 192 4)) 192 13 0) 192 11 3) 192 14 z6) 192 4 ((φ 192 4) + 1)) := iv_up (lo := 0) (u := 940) i94 (by decide +kernel) (by omega) (by omega)
                      have r95 : Fr [193004, 193011, 193012, 193013, 193014, 193017] φ (hf_up (hf_up (hf_up (hf_up (hf_up φ 192 12 (φ 192 4)) 192 13 0) 192 11 3) 192 14 z6) 192 4 ((φ 192 4) + 1)) := fr_up r94 (by decide)
                      have f96 := iv_at (a := 192) (k := 18) (lo := (-1 : Int)) (u := 999) hI (by decide +kernel)
                      have f97 := iv_at (a := 192) (k := 30) (lo := 0) (u := 40) hI (by decide +kernel)
                      have f98 := iv_at (a := 192) (k := 34) (lo := 0) (u := 45) hI (by decide +kernel)
                      have f99 := iv_at (a := 192) (k := 35) (lo := 0) (u := 20) hI (by decide +kernel)
                      have f100 := iv_at (a := 192) (k := 36) (lo := 0) (u := 45) hI (by decide +kernel)
                      have f101 := iv_at (a := 192) (k := 38) (lo := 0) (u := 1) hI (by decide +kernel)
                      have f102 : (hf_up (hf_up (hf_up (hf_up (hf_up φ 192 12 (φ 192 4)) 192 13 0) 192 11 3) 192 14 z6) 192 4 ((φ 192 4) + 1)) 192 11 = 3 := ((hf_up_ne (fun q => absurd q.2 (by decide))).trans ((hf_up_ne (fun q => absurd q.2 (by decide))).trans hf_up_eq))
                      have f103 : (hf_up (hf_up (hf_up (hf_up (hf_up φ 192 12 (φ 192 4)) 192 13 0) 192 11 3) 192 14 z6) 192 4 ((φ 192 4) + 1)) 192 18 = φ 192 18 := ((hf_up_ne (fun q => absurd q.2 (by decide))).trans ((hf_up_ne (fun q => absurd q.2 (by decide))).trans ((hf_up_ne (fun q => absurd q.2 (by decide))).trans ((hf_up_ne (fun q => absurd q.2 (by decide))).trans (hf_up_ne (fun q => absurd q.2 (by decide)))))))
                      have f104 : (hf_up (hf_up (hf_up (hf_up (hf_up φ 192 12 (φ 192 4)) 192 13 0) 192 11 3) 192 14 z6) 192 4 ((φ 192 4) + 1)) 192 30 = φ 192 30 := ((hf_up_ne (fun q => absurd q.2 (by decide))).trans ((hf_up_ne (fun q => absurd q.2 (by decide))).trans ((hf_up_ne (fun q => absurd q.2 (by decide))).trans ((hf_up_ne (fun q => absurd q.2 (by decide))).trans (hf_up_ne (fun q => absurd q.2 (by decide)))))))
                      have f105 : (hf_up (hf_up (hf_up (hf_up (hf_up φ 192 12 (φ 192 4)) 192 13 0) 192 11 3) 192 14 z6) 192 4 ((φ 192 4) + 1)) 192 34 = φ 192 34 := ((hf_up_ne (fun q => absurd q.2 (by decide))).trans ((hf_up_ne (fun q => absurd q.2 (by decide))).trans ((hf_up_ne (fun q => absurd q.2 (by decide))).trans ((hf_up_ne (fun q => absurd q.2 (by decide))).trans (hf_up_ne (fun q => absurd q.2 (by decide)))))))
                      have f106 : (hf_up (hf_up (hf_up (hf_up (hf_up φ 192 12 (φ 192 4)) 192 13 0) 192 11 3) 192 14 z6) 192 4 ((φ 192 4) + 1)) 192 35 = φ 192 35 := ((hf_up_ne (fun q => absurd q.2 (by decide))).trans ((hf_up_ne (fun q => absurd q.2 (by decide))).trans ((hf_up_ne (fun q => absurd q.2 (by decide))).trans ((hf_up_ne (fun q => absurd q.2 (by decide))).trans (hf_up_ne (fun q => absurd q.2 (by decide)))))))
                      have f107 : (hf_up (hf_up (hf_up (hf_up (hf_up φ 192 12 (φ 192 4)) 192 13 0) 192 11 3) 192 14 z6) 192 4 ((φ 192 4) + 1)) 192 36 = φ 192 36 := ((hf_up_ne (fun q => absurd q.2 (by decide))).trans ((hf_up_ne (fun q => absurd q.2 (by decide))).trans ((hf_up_ne (fun q => absurd q.2 (by decide))).trans ((hf_up_ne (fun q => absurd q.2 (by decide))).trans (hf_up_ne (fun q => absurd q.2 (by decide)))))))
                      have f108 : (hf_up (hf_up (hf_up (hf_up (hf_up φ 192 12 (φ 192 4)) 192 13 0) 192 11 3) 192 14 z6) 192 4 ((φ 192 4) + 1)) 192 38 = φ 192 38 := ((hf_up_ne (fun q => absurd q.2 (by decide))).trans ((hf_up_ne (fun q => absurd q.2 (by decide))).trans ((hf_up_ne (fun q => absurd q.2 (by decide))).trans ((hf_up_ne (fun q => absurd q.2 (by decide))).trans (hf_up_ne (fun q => absurd q.2 (by decide)))))))
                      have f109 : (hf_up (hf_up (hf_up (hf_up (hf_up φ 192 12 (φ 192 4)) 192 13 0) 192 11 3) 192 14 z6) 192 4 ((φ 192 4) + 1)) 192 4 = (φ 192 4) + 1 := hf_up_eq
                      exact hQ (hf_up (hf_up (hf_up (hf_up (hf_up φ 192 12 (φ 192 4)) 192 13 0) 192 11 3) 192 14 z6) 192 4 ((φ 192 4) + 1)) i95 r95 (by omega) e18a
                    · skip
                      have e18b := e16b.trans (if_neg q18)
                      refine ⟨by unfold hi; omega, by unfold hi; omega, fun q20 => ?_, fun q20 => ?_⟩
                      · skip
                        have e20a := e18b.trans (if_pos q20)
                        have i110 : Inv (hf_up (hf_up (hf_up φ 192 12 (φ 192 4)) 192 13 0) 192 11 4) := iv_up (lo := 0) (u := 4) i19 (by decide +kernel) (by omega) (by omega)
                        have r110 : Fr [193004, 193011, 193012, 193013, 193014, 193017] φ (hf_up (hf_up (hf_up φ 192 12 (φ 192 4)) 192 13 0) 192 11 4) := fr_up r19 (by decide)
                        have i111 : Inv (hf_up (hf_up (hf_up (hf_up φ 192 12 (φ 192 4)) 192 13 0) 192 11 4) 192 14 z6) := iv_up (lo := 0) (u := 8214) i110 (by decide +kernel) (by omega) (by omega)
                        have r111 : Fr [193004, 193011, 193012, 193013, 193014, 193017] φ (hf_up (hf_up (hf_up (hf_up φ 192 12 (φ 192 4)) 192 13 0) 192 11 4) 192 14 z6) := fr_up r110 (by decide)
                        have i112 : Inv (hf_up (hf_up (hf_up (hf_up (hf_up φ 192 12 (φ 192 4)) 192 13 0) 192 11 4) 192 14 z6) 192 4 ((φ 192 4) + 1)) := iv_up (lo := 0) (u := 940) i111 (by decide +kernel) (by omega) (by omega)
                        have r112 : Fr [193004, 193011, 193012, 193013, 193014, 193017] φ (hf_up (hf_up (hf_up (hf_up (hf_up φ 192 12 (φ 192 4)) 192 13 0) 192 11 4) 192 14 z6) 192 4 ((φ 192 4) + 1)) := fr_up r111 (by decide)
                        have f113 := iv_at (a := 192) (k := 18) (lo := (-1 : Int)) (u := 999) hI (by decide +kernel)
                        have f114 := iv_at (a := 192) (k := 30) (lo := 0) (u := 40) hI (by decide +kernel)
                        have f115 := iv_at (a := 192) (k := 34) (lo := 0) (u := 45) hI (by decide +kernel)
                        have f116 := iv_at (a := 192) (k := 35) (lo := 0) (u := 20) hI (by decide +kernel)
                        have f117 := iv_at (a := 192) (k := 36) (lo := 0) (u := 45) hI (by decide +kernel)
                        have f118 := iv_at (a := 192) (k := 38) (lo := 0) (u := 1) hI (by decide +kernel)
                        have f119 : (hf_up (hf_up (hf_up (hf_up (hf_up φ 192 12 (φ 192 4)) 192 13 0) 192 11 4) 192 14 z6) 192 4 ((φ 192 4) + 1)) 192 11 = 4 := ((hf_up_ne (fun q => absurd q.2 (by decide))).trans ((hf_up_ne (fun q => absurd q.2 (by decide))).trans hf_up_eq))
                        have f120 : (hf_up (hf_up (hf_up (hf_up (hf_up φ 192 12 (φ 192 4)) 192 13 0) 192 11 4) 192 14 z6) 192 4 ((φ 192 4) + 1)) 192 18 = φ 192 18 := ((hf_up_ne (fun q => absurd q.2 (by decide))).trans ((hf_up_ne (fun q => absurd q.2 (by decide))).trans ((hf_up_ne (fun q => absurd q.2 (by decide))).trans ((hf_up_ne (fun q => absurd q.2 (by decide))).trans (hf_up_ne (fun q => absurd q.2 (by decide)))))))
                        have f121 : (hf_up (hf_up (hf_up (hf_up (hf_up φ 192 12 (φ 192 4)) 192 13 0) 192 11 4) 192 14 z6) 192 4 ((φ 192 4) + 1)) 192 30 = φ 192 30 := ((hf_up_ne (fun q => absurd q.2 (by decide))).trans ((hf_up_ne (fun q => absurd q.2 (by decide))).trans ((hf_up_ne (fun q => absurd q.2 (by decide))).trans ((hf_up_ne (fun q => absurd q.2 (by decide))).trans (hf_up_ne (fun q => absurd q.2 (by decide)))))))
                        have f122 : (hf_up (hf_up (hf_up (hf_up (hf_up φ 192 12 (φ 192 4)) 192 13 0) 192 11 4) 192 14 z6) 192 4 ((φ 192 4) + 1)) 192 34 = φ 192 34 := ((hf_up_ne (fun q => absurd q.2 (by decide))).trans ((hf_up_ne (fun q => absurd q.2 (by decide))).trans ((hf_up_ne (fun q => absurd q.2 (by decide))).trans ((hf_up_ne (fun q => absurd q.2 (by decide))).trans (hf_up_ne (fun q => absurd q.2 (by decide)))))))
                        have f123 : (hf_up (hf_up (hf_up (hf_up (hf_up φ 192 12 (φ 192 4)) 192 13 0) 192 11 4) 192 14 z6) 192 4 ((φ 192 4) + 1)) 192 35 = φ 192 35 := ((hf_up_ne (fun q => absurd q.2 (by decide))).trans ((hf_up_ne (fun q => absurd q.2 (by decide))).trans ((hf_up_ne (fun q => absurd q.2 (by decide))).trans ((hf_up_ne (fun q => absurd q.2 (by decide))).trans (hf_up_ne (fun q => absurd q.2 (by decide)))))))
                        have f124 : (hf_up (hf_up (hf_up (hf_up (hf_up φ 192 12 (φ 192 4)) 192 13 0) 192 11 4) 192 14 z6) 192 4 ((φ 192 4) + 1)) 192 36 = φ 192 36 := ((hf_up_ne (fun q => absurd q.2 (by decide))).trans ((hf_up_ne (fun q => absurd q.2 (by decide))).trans ((hf_up_ne (fun q => absurd q.2 (by decide))).trans ((hf_up_ne (fun q => absurd q.2 (by decide))).trans (hf_up_ne (fun q => absurd q.2 (by decide)))))))
                        have f125 : (hf_up (hf_up (hf_up (hf_up (hf_up φ 192 12 (φ 192 4)) 192 13 0) 192 11 4) 192 14 z6) 192 4 ((φ 192 4) + 1)) 192 38 = φ 192 38 := ((hf_up_ne (fun q => absurd q.2 (by decide))).trans ((hf_up_ne (fun q => absurd q.2 (by decide))).trans ((hf_up_ne (fun q => absurd q.2 (by decide))).trans ((hf_up_ne (fun q => absurd q.2 (by decide))).trans (hf_up_ne (fun q => absurd q.2 (by decide)))))))
                        have f126 : (hf_up (hf_up (hf_up (hf_up (hf_up φ 192 12 (φ 192 4)) 192 13 0) 192 11 4) 192 14 z6) 192 4 ((φ 192 4) + 1)) 192 4 = (φ 192 4) + 1 := hf_up_eq
                        exact hQ (hf_up (hf_up (hf_up (hf_up (hf_up φ 192 12 (φ 192 4)) 192 13 0) 192 11 4) 192 14 z6) 192 4 ((φ 192 4) + 1)) i112 r112 (by omega) e20a
                      · skip
                        have e20b := e18b.trans (if_neg q20)
                        refine ⟨by unfold hi; omega, by unfold hi; omega, fun q22 => ?_, fun q22 => ?_⟩
                        · skip
                          have e22a := e20b.trans (if_pos q22)
                          have i127 : Inv (hf_up (hf_up (hf_up φ 192 12 (φ 192 4)) 192 13 0) 192 11 4) := iv_up (lo := 0) (u := 4) i19 (by decide +kernel) (by omega) (by omega)
                          have r127 : Fr [193004, 193011, 193012, 193013, 193014, 193017] φ (hf_up (hf_up (hf_up φ 192 12 (φ 192 4)) 192 13 0) 192 11 4) := fr_up r19 (by decide)
                          have i128 : Inv (hf_up (hf_up (hf_up (hf_up φ 192 12 (φ 192 4)) 192 13 0) 192 11 4) 192 14 z6) := iv_up (lo := 0) (u := 8214) i127 (by decide +kernel) (by omega) (by omega)
                          have r128 : Fr [193004, 193011, 193012, 193013, 193014, 193017] φ (hf_up (hf_up (hf_up (hf_up φ 192 12 (φ 192 4)) 192 13 0) 192 11 4) 192 14 z6) := fr_up r127 (by decide)
                          have i129 : Inv (hf_up (hf_up (hf_up (hf_up (hf_up φ 192 12 (φ 192 4)) 192 13 0) 192 11 4) 192 14 z6) 192 4 ((φ 192 4) + 1)) := iv_up (lo := 0) (u := 940) i128 (by decide +kernel) (by omega) (by omega)
                          have r129 : Fr [193004, 193011, 193012, 193013, 193014, 193017] φ (hf_up (hf_up (hf_up (hf_up (hf_up φ 192 12 (φ 192 4)) 192 13 0) 192 11 4) 192 14 z6) 192 4 ((φ 192 4) + 1)) := fr_up r128 (by decide)
                          have f130 := iv_at (a := 192) (k := 18) (lo := (-1 : Int)) (u := 999) hI (by decide +kernel)
                          have f131 := iv_at (a := 192) (k := 30) (lo := 0) (u := 40) hI (by decide +kernel)
                          have f132 := iv_at (a := 192) (k := 34) (lo := 0) (u := 45) hI (by decide +kernel)
                          have f133 := iv_at (a := 192) (k := 35) (lo := 0) (u := 20) hI (by decide +kernel)
                          have f134 := iv_at (a := 192) (k := 36) (lo := 0) (u := 45) hI (by decide +kernel)
                          have f135 := iv_at (a := 192) (k := 38) (lo := 0) (u := 1) hI (by decide +kernel)
                          have f136 : (hf_up (hf_up (hf_up (hf_up (hf_up φ 192 12 (φ 192 4)) 192 13 0) 192 11 4) 192 14 z6) 192 4 ((φ 192 4) + 1)) 192 11 = 4 := ((hf_up_ne (fun q => absurd q.2 (by decide))).trans ((hf_up_ne (fun q => absurd q.2 (by decide))).trans hf_up_eq))
                          have f137 : (hf_up (hf_up (hf_up (hf_up (hf_up φ 192 12 (φ 192 4)) 192 13 0) 192 11 4) 192 14 z6) 192 4 ((φ 192 4) + 1)) 192 18 = φ 192 18 := ((hf_up_ne (fun q => absurd q.2 (by decide))).trans ((hf_up_ne (fun q => absurd q.2 (by decide))).trans ((hf_up_ne (fun q => absurd q.2 (by decide))).trans ((hf_up_ne (fun q => absurd q.2 (by decide))).trans (hf_up_ne (fun q => absurd q.2 (by decide)))))))
                          have f138 : (hf_up (hf_up (hf_up (hf_up (hf_up φ 192 12 (φ 192 4)) 192 13 0) 192 11 4) 192 14 z6) 192 4 ((φ 192 4) + 1)) 192 30 = φ 192 30 := ((hf_up_ne (fun q => absurd q.2 (by decide))).trans ((hf_up_ne (fun q => absurd q.2 (by decide))).trans ((hf_up_ne (fun q => absurd q.2 (by decide))).trans ((hf_up_ne (fun q => absurd q.2 (by decide))).trans (hf_up_ne (fun q => absurd q.2 (by decide)))))))
                          have f139 : (hf_up (hf_up (hf_up (hf_up (hf_up φ 192 12 (φ 192 4)) 192 13 0) 192 11 4) 192 14 z6) 192 4 ((φ 192 4) + 1)) 192 34 = φ 192 34 := ((hf_up_ne (fun q => absurd q.2 (by decide))).trans ((hf_up_ne (fun q => absurd q.2 (by decide))).trans ((hf_up_ne (fun q => absurd q.2 (by decide))).trans ((hf_up_ne (fun q => absurd q.2 (by decide))).trans (hf_up_ne (fun q => absurd q.2 (by decide)))))))
                          have f140 : (hf_up (hf_up (hf_up (hf_up (hf_up φ 192 12 (φ 192 4)) 192 13 0) 192 11 4) 192 14 z6) 192 4 ((φ 192 4) + 1)) 192 35 = φ 192 35 := ((hf_up_ne (fun q => absurd q.2 (by decide))).trans ((hf_up_ne (fun q => absurd q.2 (by decide))).trans ((hf_up_ne (fun q => absurd q.2 (by decide))).trans ((hf_up_ne (fun q => absurd q.2 (by decide))).trans (hf_up_ne (fun q => absurd q.2 (by decide)))))))
                          have f141 : (hf_up (hf_up (hf_up (hf_up (hf_up φ 192 12 (φ 192 4)) 192 13 0) 192 11 4) 192 14 z6) 192 4 ((φ 192 4) + 1)) 192 36 = φ 192 36 := ((hf_up_ne (fun q => absurd q.2 (by decide))).trans ((hf_up_ne (fun q => absurd q.2 (by decide))).trans ((hf_up_ne (fun q => absurd q.2 (by decide))).trans ((hf_up_ne (fun q => absurd q.2 (by decide))).trans (hf_up_ne (fun q => absurd q.2 (by decide)))))))
                          have f142 : (hf_up (hf_up (hf_up (hf_up (hf_up φ 192 12 (φ 192 4)) 192 13 0) 192 11 4) 192 14 z6) 192 4 ((φ 192 4) + 1)) 192 38 = φ 192 38 := ((hf_up_ne (fun q => absurd q.2 (by decide))).trans ((hf_up_ne (fun q => absurd q.2 (by decide))).trans ((hf_up_ne (fun q => absurd q.2 (by decide))).trans ((hf_up_ne (fun q => absurd q.2 (by decide))).trans (hf_up_ne (fun q => absurd q.2 (by decide)))))))
                          have f143 : (hf_up (hf_up (hf_up (hf_up (hf_up φ 192 12 (φ 192 4)) 192 13 0) 192 11 4) 192 14 z6) 192 4 ((φ 192 4) + 1)) 192 4 = (φ 192 4) + 1 := hf_up_eq
                          exact hQ (hf_up (hf_up (hf_up (hf_up (hf_up φ 192 12 (φ 192 4)) 192 13 0) 192 11 4) 192 14 z6) 192 4 ((φ 192 4) + 1)) i129 r129 (by omega) e22a
                        · skip
                          have e22b := e20b.trans (if_neg q22)
                          have i144 : Inv (hf_up (hf_up (hf_up φ 192 12 (φ 192 4)) 192 13 0) 192 11 3) := iv_up (lo := 0) (u := 4) i19 (by decide +kernel) (by omega) (by omega)
                          have r144 : Fr [193004, 193011, 193012, 193013, 193014, 193017] φ (hf_up (hf_up (hf_up φ 192 12 (φ 192 4)) 192 13 0) 192 11 3) := fr_up r19 (by decide)
                          have i145 : Inv (hf_up (hf_up (hf_up (hf_up φ 192 12 (φ 192 4)) 192 13 0) 192 11 3) 192 14 z6) := iv_up (lo := 0) (u := 8214) i144 (by decide +kernel) (by omega) (by omega)
                          have r145 : Fr [193004, 193011, 193012, 193013, 193014, 193017] φ (hf_up (hf_up (hf_up (hf_up φ 192 12 (φ 192 4)) 192 13 0) 192 11 3) 192 14 z6) := fr_up r144 (by decide)
                          have i146 : Inv (hf_up (hf_up (hf_up (hf_up (hf_up φ 192 12 (φ 192 4)) 192 13 0) 192 11 3) 192 14 z6) 192 4 ((φ 192 4) + 1)) := iv_up (lo := 0) (u := 940) i145 (by decide +kernel) (by omega) (by omega)
                          have r146 : Fr [193004, 193011, 193012, 193013, 193014, 193017] φ (hf_up (hf_up (hf_up (hf_up (hf_up φ 192 12 (φ 192 4)) 192 13 0) 192 11 3) 192 14 z6) 192 4 ((φ 192 4) + 1)) := fr_up r145 (by decide)
                          have f147 := iv_at (a := 192) (k := 18) (lo := (-1 : Int)) (u := 999) hI (by decide +kernel)
                          have f148 := iv_at (a := 192) (k := 30) (lo := 0) (u := 40) hI (by decide +kernel)
                          have f149 := iv_at (a := 192) (k := 34) (lo := 0) (u := 45) hI (by decide +kernel)
                          have f150 := iv_at (a := 192) (k := 35) (lo := 0) (u := 20) hI (by decide +kernel)
                          have f151 := iv_at (a := 192) (k := 36) (lo := 0) (u := 45) hI (by decide +kernel)
                          have f152 := iv_at (a := 192) (k := 38) (lo := 0) (u := 1) hI (by decide +kernel)
                          have f153 : (hf_up (hf_up (hf_up (hf_up (hf_up φ 192 12 (φ 192 4)) 192 13 0) 192 11 3) 192 14 z6) 192 4 ((φ 192 4) + 1)) 192 11 = 3 := ((hf_up_ne (fun q => absurd q.2 (by decide))).trans ((hf_up_ne (fun q => absurd q.2 (by decide))).trans hf_up_eq))
                          have f154 : (hf_up (hf_up (hf_up (hf_up (hf_up φ 192 12 (φ 192 4)) 192 13 0) 192 11 3) 192 14 z6) 192 4 ((φ 192 4) + 1)) 192 18 = φ 192 18 := ((hf_up_ne (fun q => absurd q.2 (by decide))).trans ((hf_up_ne (fun q => absurd q.2 (by decide))).trans ((hf_up_ne (fun q => absurd q.2 (by decide))).trans ((hf_up_ne (fun q => absurd q.2 (by decide))).trans (hf_up_ne (fun q => absurd q.2 (by decide)))))))
                          have f155 : (hf_up (hf_up (hf_up (hf_up (hf_up φ 192 12 (φ 192 4)) 192 13 0) 192 11 3) 192 14 z6) 192 4 ((φ 192 4) + 1)) 192 30 = φ 192 30 := ((hf_up_ne (fun q => absurd q.2 (by decide))).trans ((hf_up_ne (fun q => absurd q.2 (by decide))).trans ((hf_up_ne (fun q => absurd q.2 (by decide))).trans ((hf_up_ne (fun q => absurd q.2 (by decide))).trans (hf_up_ne (fun q => absurd q.2 (by decide)))))))
                          have f156 : (hf_up (hf_up (hf_up (hf_up (hf_up φ 192 12 (φ 192 4)) 192 13 0) 192 11 3) 192 14 z6) 192 4 ((φ 192 4) + 1)) 192 34 = φ 192 34 := ((hf_up_ne (fun q => absurd q.2 (by decide))).trans ((hf_up_ne (fun q => absurd q.2 (by decide))).trans ((hf_up_ne (fun q => absurd q.2 (by decide))).trans ((hf_up_ne (fun q => absurd q.2 (by decide))).trans (hf_up_ne (fun q => absurd q.2 (by decide)))))))
                          have f157 : (hf_up (hf_up (hf_up (hf_up (hf_up φ 192 12 (φ 192 4)) 192 13 0) 192 11 3) 192 14 z6) 192 4 ((φ 192 4) + 1)) 192 35 = φ 192 35 := ((hf_up_ne (fun q => absurd q.2 (by decide))).trans ((hf_up_ne (fun q => absurd q.2 (by decide))).trans ((hf_up_ne (fun q => absurd q.2 (by decide))).trans ((hf_up_ne (fun q => absurd q.2 (by decide))).trans (hf_up_ne (fun q => absurd q.2 (by decide)))))))
                          have f158 : (hf_up (hf_up (hf_up (hf_up (hf_up φ 192 12 (φ 192 4)) 192 13 0) 192 11 3) 192 14 z6) 192 4 ((φ 192 4) + 1)) 192 36 = φ 192 36 := ((hf_up_ne (fun q => absurd q.2 (by decide))).trans ((hf_up_ne (fun q => absurd q.2 (by decide))).trans ((hf_up_ne (fun q => absurd q.2 (by decide))).trans ((hf_up_ne (fun q => absurd q.2 (by decide))).trans (hf_up_ne (fun q => absurd q.2 (by decide)))))))
                          have f159 : (hf_up (hf_up (hf_up (hf_up (hf_up φ 192 12 (φ 192 4)) 192 13 0) 192 11 3) 192 14 z6) 192 4 ((φ 192 4) + 1)) 192 38 = φ 192 38 := ((hf_up_ne (fun q => absurd q.2 (by decide))).trans ((hf_up_ne (fun q => absurd q.2 (by decide))).trans ((hf_up_ne (fun q => absurd q.2 (by decide))).trans ((hf_up_ne (fun q => absurd q.2 (by decide))).trans (hf_up_ne (fun q => absurd q.2 (by decide)))))))
                          have f160 : (hf_up (hf_up (hf_up (hf_up (hf_up φ 192 12 (φ 192 4)) 192 13 0) 192 11 3) 192 14 z6) 192 4 ((φ 192 4) + 1)) 192 4 = (φ 192 4) + 1 := hf_up_eq
                          exact hQ (hf_up (hf_up (hf_up (hf_up (hf_up φ 192 12 (φ 192 4)) 192 13 0) 192 11 3) 192 14 z6) 192 4 ((φ 192 4) + 1)) i146 r146 (by omega) e22b
          · skip
            have e7b := e6.trans (if_neg q7)
            have i161 : Inv (hf_up (hf_up (hf_up φ 192 12 (φ 192 4)) 192 13 0) 192 11 0) := iv_up (lo := 0) (u := 4) i19 (by decide +kernel) (by omega) (by omega)
            have r161 : Fr [193004, 193011, 193012, 193013, 193014, 193017] φ (hf_up (hf_up (hf_up φ 192 12 (φ 192 4)) 192 13 0) 192 11 0) := fr_up r19 (by decide)
            have f162 := iv_at (a := 192) (k := 18) (lo := (-1 : Int)) (u := 999) hI (by decide +kernel)
            have f163 := iv_at (a := 192) (k := 30) (lo := 0) (u := 40) hI (by decide +kernel)
            have f164 := iv_at (a := 192) (k := 34) (lo := 0) (u := 45) hI (by decide +kernel)
            have f165 := iv_at (a := 192) (k := 35) (lo := 0) (u := 20) hI (by decide +kernel)
            have f166 := iv_at (a := 192) (k := 36) (lo := 0) (u := 45) hI (by decide +kernel)
            have f167 := iv_at (a := 192) (k := 38) (lo := 0) (u := 1) hI (by decide +kernel)
            have f168 : (hf_up (hf_up (hf_up φ 192 12 (φ 192 4)) 192 13 0) 192 11 0) 192 11 = 0 := hf_up_eq
            have f169 : (hf_up (hf_up (hf_up φ 192 12 (φ 192 4)) 192 13 0) 192 11 0) 192 18 = φ 192 18 := ((hf_up_ne (fun q => absurd q.2 (by decide))).trans ((hf_up_ne (fun q => absurd q.2 (by decide))).trans (hf_up_ne (fun q => absurd q.2 (by decide)))))
            have f170 : (hf_up (hf_up (hf_up φ 192 12 (φ 192 4)) 192 13 0) 192 11 0) 192 30 = φ 192 30 := ((hf_up_ne (fun q => absurd q.2 (by decide))).trans ((hf_up_ne (fun q => absurd q.2 (by decide))).trans (hf_up_ne (fun q => absurd q.2 (by decide)))))
            have f171 : (hf_up (hf_up (hf_up φ 192 12 (φ 192 4)) 192 13 0) 192 11 0) 192 34 = φ 192 34 := ((hf_up_ne (fun q => absurd q.2 (by decide))).trans ((hf_up_ne (fun q => absurd q.2 (by decide))).trans (hf_up_ne (fun q => absurd q.2 (by decide)))))
            have f172 : (hf_up (hf_up (hf_up φ 192 12 (φ 192 4)) 192 13 0) 192 11 0) 192 35 = φ 192 35 := ((hf_up_ne (fun q => absurd q.2 (by decide))).trans ((hf_up_ne (fun q => absurd q.2 (by decide))).trans (hf_up_ne (fun q => absurd q.2 (by decide)))))
            have f173 : (hf_up (hf_up (hf_up φ 192 12 (φ 192 4)) 192 13 0) 192 11 0) 192 36 = φ 192 36 := ((hf_up_ne (fun q => absurd q.2 (by decide))).trans ((hf_up_ne (fun q => absurd q.2 (by decide))).trans (hf_up_ne (fun q => absurd q.2 (by decide)))))
            have f174 : (hf_up (hf_up (hf_up φ 192 12 (φ 192 4)) 192 13 0) 192 11 0) 192 38 = φ 192 38 := ((hf_up_ne (fun q => absurd q.2 (by decide))).trans ((hf_up_ne (fun q => absurd q.2 (by decide))).trans (hf_up_ne (fun q => absurd q.2 (by decide)))))
            have f175 : (hf_up (hf_up (hf_up φ 192 12 (φ 192 4)) 192 13 0) 192 11 0) 192 4 = φ 192 4 := ((hf_up_ne (fun q => absurd q.2 (by decide))).trans ((hf_up_ne (fun q => absurd q.2 (by decide))).trans (hf_up_ne (fun q => absurd q.2 (by decide)))))
            exact hQ (hf_up (hf_up (hf_up φ 192 12 (φ 192 4)) 192 13 0) 192 11 0) i161 r161 (by omega) e7b
        · skip
          have e5b := e4a.trans (if_neg q5)
          refine ⟨by unfold hi; omega, by unfold hi; omega, fun q26 => ?_, fun q26 => ?_⟩
          · skip
            have e26a := e5b.trans (if_pos q26)
            refine sf_176_192 (φ := (hf_up (hf_up φ 192 12 (φ 192 4)) 192 13 0)) i19  (fun z27 hp27 hE27 => ⟨rfl, rfl, z27, rfl, ?_⟩)
            have e27 := e26a.trans (bnp_e hE27)
            have f176 : (hf_up (hf_up φ 192 12 (φ 192 4)) 192 13 0) 192 3 = φ 192 3 := ((hf_up_ne (fun q => absurd q.2 (by decide))).trans (hf_up_ne (fun q => absurd q.2 (by decide))))
            have f177 : (hf_up (hf_up φ 192 12 (φ 192 4)) 192 13 0) 192 4 = φ 192 4 := ((hf_up_ne (fun q => absurd q.2 (by decide))).trans (hf_up_ne (fun q => absurd q.2 (by decide))))
            have f178 := pk_b (hf_up (hf_up φ 192 12 (φ 192 4)) 192 13 0)
            have f179 := pk_c (φ := φ) (ψ := (hf_up (hf_up φ 192 12 (φ 192 4)) 192 13 0)) ((hf_up_ne (fun q => absurd q.2 (by decide))).trans (hf_up_ne (fun q => absurd q.2 (by decide)))) ((hf_up_ne (fun q => absurd q.2 (by decide))).trans (hf_up_ne (fun q => absurd q.2 (by decide)))) (fun kk => ((hf_up_ne (fun q => absurd q.1 (by decide))).trans (hf_up_ne (fun q => absurd q.1 (by decide)))))
            refine ⟨by unfold hi; omega, fun q28 => ?_, fun q28 => ?_⟩
            · skip
              have e28a := e27.trans (if_pos q28)
              refine sf_177 (φ := (hf_up (hf_up φ 192 12 (φ 192 4)) 192 13 0)) i19 (by omega) (by omega) (fun z29 hp29 hE29 => ⟨rfl, rfl, z29, rfl, ?_⟩)
              have e29 := e28a.trans (bnp_e hE29)
              refine ⟨by unfold hi; omega, fun q30 => ?_, fun q30 => ?_⟩
              · skip
                have e30a := e29.trans (if_pos q30)
                refine sf_177 (φ := (hf_up (hf_up φ 192 12 (φ 192 4)) 192 13 0)) i19 (by omega) (by omega) (fun z31 hp31 hE31 => ⟨rfl, rfl, z31, rfl, ?_⟩)
                have e31 := e30a.trans (bnp_e hE31)
                have i180 : Inv (hf_up (hf_up (hf_up φ 192 12 (φ 192 4)) 192 13 0) 192 17 0) := iv_upn i19 (by decide) (by decide) (by decide +kernel)
                have r180 : Fr [193004, 193011, 193012, 193013, 193014, 193017] φ (hf_up (hf_up (hf_up φ 192 12 (φ 192 4)) 192 13 0) 192 17 0) := fr_up r19 (by decide)
                have i181 : Inv (hf_up (hf_up (hf_up (hf_up φ 192 12 (φ 192 4)) 192 13 0) 192 17 0) 192 14 0) := iv_up (lo := 0) (u := 8214) i180 (by decide +kernel) (by omega) (by omega)
                have r181 : Fr [193004, 193011, 193012, 193013, 193014, 193017] φ (hf_up (hf_up (hf_up (hf_up φ 192 12 (φ 192 4)) 192 13 0) 192 17 0) 192 14 0) := fr_up r180 (by decide)
                have f182 : (hf_up (hf_up (hf_up (hf_up φ 192 12 (φ 192 4)) 192 13 0) 192 17 0) 192 14 0) 192 13 = 0 := ((hf_up_ne (fun q => absurd q.2 (by decide))).trans ((hf_up_ne (fun q => absurd q.2 (by decide))).trans hf_up_eq))
                have f183 : (hf_up (hf_up (hf_up (hf_up φ 192 12 (φ 192 4)) 192 13 0) 192 17 0) 192 14 0) 192 14 = 0 := hf_up_eq
                have f184 : (hf_up (hf_up (hf_up (hf_up φ 192 12 (φ 192 4)) 192 13 0) 192 17 0) 192 14 0) 192 18 = φ 192 18 := ((hf_up_ne (fun q => absurd q.2 (by decide))).trans ((hf_up_ne (fun q => absurd q.2 (by decide))).trans ((hf_up_ne (fun q => absurd q.2 (by decide))).trans (hf_up_ne (fun q => absurd q.2 (by decide))))))
                have f185 := iv_at (a := 192) (k := 18) (lo := (-1 : Int)) (u := 999) hI (by decide +kernel)
                have f186 : (hf_up (hf_up (hf_up (hf_up φ 192 12 (φ 192 4)) 192 13 0) 192 17 0) 192 14 0) 192 30 = φ 192 30 := ((hf_up_ne (fun q => absurd q.2 (by decide))).trans ((hf_up_ne (fun q => absurd q.2 (by decide))).trans ((hf_up_ne (fun q => absurd q.2 (by decide))).trans (hf_up_ne (fun q => absurd q.2 (by decide))))))
                have f187 := iv_at (a := 192) (k := 30) (lo := 0) (u := 40) hI (by decide +kernel)
                have f188 : (hf_up (hf_up (hf_up (hf_up φ 192 12 (φ 192 4)) 192 13 0) 192 17 0) 192 14 0) 192 34 = φ 192 34 := ((hf_up_ne (fun q => absurd q.2 (by decide))).trans ((hf_up_ne (fun q => absurd q.2 (by decide))).trans ((hf_up_ne (fun q => absurd q.2 (by decide))).trans (hf_up_ne (fun q => absurd q.2 (by decide))))))
                have f189 := iv_at (a := 192) (k := 34) (lo := 0) (u := 45) hI (by decide +kernel)
                have f190 : (hf_up (hf_up (hf_up (hf_up φ 192 12 (φ 192 4)) 192 13 0) 192 17 0) 192 14 0) 192 35 = φ 192 35 := ((hf_up_ne (fun q => absurd q.2 (by decide))).trans ((hf_up_ne (fun q => absurd q.2 (by decide))).trans ((hf_up_ne (fun q => absurd q.2 (by decide))).trans (hf_up_ne (fun q => absurd q.2 (by decide))))))
                have f191 := iv_at (a := 192) (k := 35) (lo := 0) (u := 20) hI (by decide +kernel)
                have f192 : (hf_up (hf_up (hf_up (hf_up φ 192 12 (φ 192 4)) 192 13 0) 192 17 0) 192 14 0) 192 36 = φ 192 36 := ((hf_up_ne (fun q => absurd q.2 (by decide))).trans ((hf_up_ne (fun q => absurd q.2 (by decide))).trans ((hf_up_ne (fun q => absurd q.2 (by decide))).trans (hf_up_ne (fun q => absurd q.2 (by decide))))))
                have f193 := iv_at (a := 192) (k := 36) (lo := 0) (u := 45) hI (by decide +kernel)
                have f194 : (hf_up (hf_up (hf_up (hf_up φ 192 12 (φ 192 4)) 192 13 0) 192 17 0) 192 14 0) 192 38 = φ 192 38 := ((hf_up_ne (fun q => absurd q.2 (by decide))).trans ((hf_up_ne (fun q => absurd q.2 (by decide))).trans ((hf_up_ne (fun q => absurd q.2 (by decide))).trans (hf_up_ne (fun q => absurd q.2 (by decide))))))
                have f195 := iv_at (a := 192) (k := 38) (lo := 0) (u := 1) hI (by decide +kernel)
                have f196 : (hf_up (hf_up (hf_up (hf_up φ 192 12 (φ 192 4)) 192 13 0) 192 17 0) 192 14 0) 192 4 = φ 192 4 := ((hf_up_ne (fun q => absurd q.2 (by decide))).trans ((hf_up_ne (fun q => absurd q.2 (by decide))).trans ((hf_up_ne (fun q => absurd q.2 (by decide))).trans (hf_up_ne (fun q => absurd q.2 (by decide))))))
                exact sf_175_192_l181 ((940 - (hf_up (hf_up (hf_up (hf_up φ 192 12 (φ 192 4)) 192 13 0) 192 17 0) 192 14 0) 192 4 : Int).toNat + 1) (hf_up (hf_up (hf_up (hf_up φ 192 12 (φ 192 4)) 192 13 0) 192 17 0) 192 14 0) (jm_st1 (jm_st1 (jm_st1 L 1 (0, z27)) 2 (0, z31)) 3 (0, 1)) z27 z31 1 (get_st1 (get_st1 (get_st1 g0 (by decide) (fun q => tg2 q.2)) (by decide) (fun q => absurd q.1 (by decide))) (by decide) (fun q => absurd q.1 (by decide))) (get_st1 (get_st1 get_st1e (by decide) (fun q => tg0 q.2)) (by decide) (fun q => absurd q.1 (by decide))) (get_st1 get_st1e (by decide) (fun q => tg0 q.2)) get_st1e i181 (by omega) (by omega) (by omega) (by omega) (by omega) (by omega) (by omega) (by omega) (by omega) (by omega) (fun χ hIχ hFχ hVχ hEχ => hQ χ hIχ (fr_tr r181 hFχ (by decide)) (by omega) (e31.trans hEχ))
              · skip
                have e30b := e29.trans (if_neg q30)
                refine sf_178 (φ := (hf_up (hf_up φ 192 12 (φ 192 4)) 192 13 0)) i19 (by omega) (by omega) (fun z32 hp32 hE32 => ⟨rfl, rfl, z32, rfl, ?_⟩)
                have e32 := e30b.trans (bnp_e hE32)
                refine ⟨by unfold hi; omega, fun q33 => ?_, fun q33 => ?_⟩
                · skip
                  have e33a := e32.trans (if_pos q33)
                  refine sf_177 (φ := (hf_up (hf_up φ 192 12 (φ 192 4)) 192 13 0)) i19 (by omega) (by omega) (fun z34 hp34 hE34 => ⟨rfl, rfl, z34, rfl, ?_⟩)
                  have e34 := e33a.trans (bnp_e hE34)
                  have i197 : Inv (hf_up (hf_up (hf_up φ 192 12 (φ 192 4)) 192 13 0) 192 17 0) := iv_upn i19 (by decide) (by decide) (by decide +kernel)
                  have r197 : Fr [193004, 193011, 193012, 193013, 193014, 193017] φ (hf_up (hf_up (hf_up φ 192 12 (φ 192 4)) 192 13 0) 192 17 0) := fr_up r19 (by decide)
                  have i198 : Inv (hf_up (hf_up (hf_up (hf_up φ 192 12 (φ 192 4)) 192 13 0) 192 17 0) 192 14 0) := iv_up (lo := 0) (u := 8214) i197 (by decide +kernel) (by omega) (by omega)
                  have r198 : Fr [193004, 193011, 193012, 193013, 193014, 193017] φ (hf_up (hf_up (hf_up (hf_up φ 192 12 (φ 192 4)) 192 13 0) 192 17 0) 192 14 0) := fr_up r197 (by decide)
                  have f199 : (hf_up (hf_up (hf_up (hf_up φ 192 12 (φ 192 4)) 192 13 0) 192 17 0) 192 14 0) 192 13 = 0 := ((hf_up_ne (fun q => absurd q.2 (by decide))).trans ((hf_up_ne (fun q => absurd q.2 (by decide))).trans hf_up_eq))
                  have f200 : (hf_up (hf_up (hf_up (hf_up φ 192 12 (φ 192 4)) 192 13 0) 192 17 0) 192 14 0) 192 14 = 0 := hf_up_eq
                  have f201 : (hf_up (hf_up (hf_up (hf_up φ 192 12 (φ 192 4)) 192 13 0) 192 17 0) 192 14 0) 192 18 = φ 192 18 := ((hf_up_ne (fun q => absurd q.2 (by decide))).trans ((hf_up_ne (fun q => absurd q.2 (by decide))).trans ((hf_up_ne (fun q => absurd q.2 (by decide))).trans (hf_up_ne (fun q => absurd q.2 (by decide))))))
                  have f202 := iv_at (a := 192) (k := 18) (lo := (-1 : Int)) (u := 999) hI (by decide +kernel)
                  have f203 : (hf_up (hf_up (hf_up (hf_up φ 192 12 (φ 192 4)) 192 13 0) 192 17 0) 192 14 0) 192 30 = φ 192 30 := ((hf_up_ne (fun q => absurd q.2 (by decide))).trans ((hf_up_ne (fun q => absurd q.2 (by decide))).trans ((hf_up_ne (fun q => absurd q.2 (by decide))).trans (hf_up_ne (fun q => absurd q.2 (by decide))))))
                  have f204 := iv_at (a := 192) (k := 30) (lo := 0) (u := 40) hI (by decide +kernel)
                  have f205 : (hf_up (hf_up (hf_up (hf_up φ 192 12 (φ 192 4)) 192 13 0) 192 17 0) 192 14 0) 192 34 = φ 192 34 := ((hf_up_ne (fun q => absurd q.2 (by decide))).trans ((hf_up_ne (fun q => absurd q.2 (by decide))).trans ((hf_up_ne (fun q => absurd q.2 (by decide))).trans (hf_up_ne (fun q => absurd q.2 (by decide))))))
                  have f206 := iv_at (a := 192) (k := 34) (lo := 0) (u := 45) hI (by decide +kernel)
                  have f207 : (hf_up (hf_up (hf_up (hf_up φ 192 12 (φ 192 4)) 192 13 0) 192 17 0) 192 14 0) 192 35 = φ 192 35 := ((hf_up_ne (fun q => absurd q.2 (by decide))).trans ((hf_up_ne (fun q => absurd q.2 (by decide))).trans ((hf_up_ne (fun q => absurd q.2 (by decide))).trans (hf_up_ne (fun q => absurd q.2 (by decide))))))
                  have f208 := iv_at (a := 192) (k := 35) (lo := 0) (u := 20) hI (by decide +kernel)
                  have f209 : (hf_up (hf_up (hf_up (hf_up φ 192 12 (φ 192 4)) 192 13 0) 192 17 0) 192 14 0) 192 36 = φ 192 36 := ((hf_up_ne (fun q => absurd q.2 (by decide))).trans ((hf_up_ne (fun q => absurd q.2 (by decide))).trans ((hf_up_ne (fun q => absurd q.2 (by decide))).trans (hf_up_ne (fun q => absurd q.2 (by decide))))))
                  have f210 := iv_at (a := 192) (k := 36) (lo := 0) (u := 45) hI (by decide +kernel)
                  have f211 : (hf_up (hf_up (hf_up (hf_up φ 192 12 (φ 192 4)) 192 13 0) 192 17 0) 192 14 0) 192 38 = φ 192 38 := ((hf_up_ne (fun q => absurd q.2 (by decide))).trans ((hf_up_ne (fun q => absurd q.2 (by decide))).trans ((hf_up_ne (fun q => absurd q.2 (by decide))).trans (hf_up_ne (fun q => absurd q.2 (by decide))))))
                  have f212 := iv_at (a := 192) (k := 38) (lo := 0) (u := 1) hI (by decide +kernel)
                  have f213 : (hf_up (hf_up (hf_up (hf_up φ 192 12 (φ 192 4)) 192 13 0) 192 17 0) 192 14 0) 192 4 = φ 192 4 := ((hf_up_ne (fun q => absurd q.2 (by decide))).trans ((hf_up_ne (fun q => absurd q.2 (by decide))).trans ((hf_up_ne (fun q => absurd q.2 (by decide))).trans (hf_up_ne (fun q => absurd q.2 (by decide))))))
                  exact sf_175_192_l181 ((940 - (hf_up (hf_up (hf_up (hf_up φ 192 12 (φ 192 4)) 192 13 0) 192 17 0) 192 14 0) 192 4 : Int).toNat + 1) (hf_up (hf_up (hf_up (hf_up φ 192 12 (φ 192 4)) 192 13 0) 192 17 0) 192 14 0) (jm_st1 (jm_st1 (jm_st1 L 1 (0, z27)) 2 (0, z34)) 3 (0, 1)) z27 z34 1 (get_st1 (get_st1 (get_st1 g0 (by decide) (fun q => tg2 q.2)) (by decide) (fun q => absurd q.1 (by decide))) (by decide) (fun q => absurd q.1 (by decide))) (get_st1 (get_st1 get_st1e (by decide) (fun q => tg0 q.2)) (by decide) (fun q => absurd q.1 (by decide))) (get_st1 get_st1e (by decide) (fun q => tg0 q.2)) get_st1e i198 (by omega) (by omega) (by omega) (by omega) (by omega) (by omega) (by omega) (by omega) (by omega) (by omega) (fun χ hIχ hFχ hVχ hEχ => hQ χ hIχ (fr_tr r198 hFχ (by decide)) (by omega) (e34.trans hEχ))
                · skip
                  have e33b := e32.trans (if_neg q33)
                  refine ⟨by unfold hi; omega, by unfold hi; omega, fun q35 => ?_, fun q35 => ?_⟩
                  · skip
                    have e35a := e33b.trans (if_pos q35)
                    have i214 : Inv (hf_up (hf_up (hf_up φ 192 12 (φ 192 4)) 192 13 0) 192 11 3) := iv_up (lo := 0) (u := 4) i19 (by decide +kernel) (by omega) (by omega)
                    have r214 : Fr [193004, 193011, 193012, 193013, 193014, 193017] φ (hf_up (hf_up (hf_up φ 192 12 (φ 192 4)) 192 13 0) 192 11 3) := fr_up r19 (by decide)
                    have i215 : Inv (hf_up (hf_up (hf_up (hf_up φ 192 12 (φ 192 4)) 192 13 0) 192 11 3) 192 14 z27) := iv_up (lo := 0) (u := 8214) i214 (by decide +kernel) (by omega) (by omega)
                    have r215 : Fr [193004, 193011, 193012, 193013, 193014, 193017] φ (hf_up (hf_up (hf_up (hf_up φ 192 12 (φ 192 4)) 192 13 0) 192 11 3) 192 14 z27) := fr_up r214 (by decide)
                    have i216 : Inv (hf_up (hf_up (hf_up (hf_up (hf_up φ 192 12 (φ 192 4)) 192 13 0) 192 11 3) 192 14 z27) 192 4 ((φ 192 4) + 1)) := iv_up (lo := 0) (u := 940) i215 (by decide +kernel) (by omega) (by omega)
                    have r216 : Fr [193004, 193011, 193012, 193013, 193014, 193017] φ (hf_up (hf_up (hf_up (hf_up (hf_up φ 192 12 (φ 192 4)) 192 13 0) 192 11 3) 192 14 z27) 192 4 ((φ 192 4) + 1)) := fr_up r215 (by decide)
                    have f217 := iv_at (a := 192) (k := 18) (lo := (-1 : Int)) (u := 999) hI (by decide +kernel)
                    have f218 := iv_at (a := 192) (k := 30) (lo := 0) (u := 40) hI (by decide +kernel)
                    have f219 := iv_at (a := 192) (k := 34) (lo := 0) (u := 45) hI (by decide +kernel)
                    have f220 := iv_at (a := 192) (k := 35) (lo := 0) (u := 20) hI (by decide +kernel)
                    have f221 := iv_at (a := 192) (k := 36) (lo := 0) (u := 45) hI (by decide +kernel)
                    have f222 := iv_at (a := 192) (k := 38) (lo := 0) (u := 1) hI (by decide +kernel)
                    have f223 : (hf_up (hf_up (hf_up (hf_up (hf_up φ 192 12 (φ 192 4)) 192 13 0) 192 11 3) 192 14 z27) 192 4 ((φ 192 4) + 1)) 192 11 = 3 := ((hf_up_ne (fun q => absurd q.2 (by decide))).trans ((hf_up_ne (fun q => absurd q.2 (by decide))).trans hf_up_eq))
                    have f224 : (hf_up (hf_up (hf_up (hf_up (hf_up φ 192 12 (φ 192 4)) 192 13 0) 192 11 3) 192 14 z27) 192 4 ((φ 192 4) + 1)) 192 18 = φ 192 18 := ((hf_up_ne (fun q => absurd q.2 (by decide))).trans ((hf_up_ne (fun q => absurd q.2 (by decide))).trans ((hf_up_ne (fun q => absurd q.2 (by decide))).trans ((hf_up_ne (fun q => absurd q.2 (by decide))).trans (hf_up_ne (fun q => absurd q.2 (by decide)))))))
                    have f225 : (hf_up (hf_up (hf_up (hf_up (hf_up φ 192 12 (φ 192 4)) 192 13 0) 192 11 3) 192 14 z27) 192 4 ((φ 192 4) + 1)) 192 30 = φ 192 30 := ((hf_up_ne (fun q => absurd q.2 (by decide))).trans ((hf_up_ne (fun q => absurd q.2 (by decide))).trans ((hf_up_ne (fun q => absurd q.2 (by decide))).trans ((hf_up_ne (fun q => absurd q.2 (by decide))).trans (hf_up_ne (fun q => absurd q.2 (by decide)))))))
                    have f226 : (hf_up (hf_up (hf_up (hf_up (hf_up φ 192 12 (φ 192 4)) 192 13 0) 192 11 3) 192 14 z27) 192 4 ((φ 192 4) + 1)) 192 34 = φ 192 34 := ((hf_up_ne (fun q => absurd q.2 (by decide))).trans ((hf_up_ne (fun q => absurd q.2 (by decide))).trans ((hf_up_ne (fun q => absurd q.2 (by decide))).trans ((hf_up_ne (fun q => absurd q.2 (by decide))).trans (hf_up_ne (fun q => absurd q.2 (by decide)))))))
                    have f227 : (hf_up (hf_up (hf_up (hf_up (hf_up φ 192 12 (φ 192 4)) 192 13 0) 192 11 3) 192 14 z27) 192 4 ((φ 192 4) + 1)) 192 35 = φ 192 35 := ((hf_up_ne (fun q => absurd q.2 (by decide))).trans ((hf_up_ne (fun q => absurd q.2 (by decide))).trans ((hf_up_ne (fun q => absurd q.2 (by decide))).trans ((hf_up_ne (fun q => absurd q.2 (by decide))).trans (hf_up_ne (fun q => absurd q.2 (by decide)))))))
                    have f228 : (hf_up (hf_up (hf_up (hf_up (hf_up φ 192 12 (φ 192 4)) 192 13 0) 192 11 3) 192 14 z27) 192 4 ((φ 192 4) + 1)) 192 36 = φ 192 36 := ((hf_up_ne (fun q => absurd q.2 (by decide))).trans ((hf_up_ne (fun q => absurd q.2 (by decide))).trans ((hf_up_ne (fun q => absurd q.2 (by decide))).trans ((hf_up_ne (fun q => absurd q.2 (by decide))).trans (hf_up_ne (fun q => absurd q.2 (by decide)))))))
                    have f229 : (hf_up (hf_up (hf_up (hf_up (hf_up φ 192 12 (φ 192 4)) 192 13 0) 192 11 3) 192 14 z27) 192 4 ((φ 192 4) + 1)) 192 38 = φ 192 38 := ((hf_up_ne (fun q => absurd q.2 (by decide))).trans ((hf_up_ne (fun q => absurd q.2 (by decide))).trans ((hf_up_ne (fun q => absurd q.2 (by decide))).trans ((hf_up_ne (fun q => absurd q.2 (by decide))).trans (hf_up_ne (fun q => absurd q.2 (by decide)))))))
                    have f230 : (hf_up (hf_up (hf_up (hf_up (hf_up φ 192 12 (φ 192 4)) 192 13 0) 192 11 3) 192 14 z27) 192 4 ((φ 192 4) + 1)) 192 4 = (φ 192 4) + 1 := hf_up_eq
                    exact hQ (hf_up (hf_up (hf_up (hf_up (hf_up φ 192 12 (φ 192 4)) 192 13 0) 192 11 3) 192 14 z27) 192 4 ((φ 192 4) + 1)) i216 r216 (by omega) e35a
                  · skip
                    have e35b := e33b.trans (if_neg q35)
                    refine ⟨by unfold hi; omega, by unfold hi; omega, fun q37 => ?_, fun q37 => ?_⟩
                    · skip
                      have e37a := e35b.trans (if_pos q37)
                      have i231 : Inv (hf_up (hf_up (hf_up φ 192 12 (φ 192 4)) 192 13 0) 192 11 3) := iv_up (lo := 0) (u := 4) i19 (by decide +kernel) (by omega) (by omega)
                      have r231 : Fr [193004, 193011, 193012, 193013, 193014, 193017] φ (hf_up (hf_up (hf_up φ 192 12 (φ 192 4)) 192 13 0) 192 11 3) := fr_up r19 (by decide)
                      have i232 : Inv (hf_up (hf_up (hf_up (hf_up φ 192 12 (φ 192 4)) 192 13 0) 192 11 3) 192 14 z27) := iv_up (lo := 0) (u := 8214) i231 (by decide +kernel) (by omega) (by omega)
                      have r232 : Fr [193004, 193011, 193012, 193013, 193014, 193017] φ (hf_up (hf_up (hf_up (hf_up φ 192 12 (φ 192 4)) 192 13 0) 192 11 3) 192 14 z27) := fr_up r231 (by decide)
                      have i233 : Inv (hf_up (hf_up (hf_up (hf_up (hf_up φ 192 12 (φ 192 4)) 192 13 0) 192 11 3) 192 14 z27) 192 4 ((φ 192 4) + 1)) := iv_up (lo := 0) (u := 940) i232 (by decide +kernel) (by omega) (by omega)
                      have r233 : Fr [193004, 193011, 193012, 193013, 193014, 193017] φ (hf_up (hf_up (hf_up (hf_up (hf_up φ 192 12 (φ 192 4)) 192 13 0) 192 11 3) 192 14 z27) 192 4 ((φ 192 4) + 1)) := fr_up r232 (by decide)
                      have f234 := iv_at (a := 192) (k := 18) (lo := (-1 : Int)) (u := 999) hI (by decide +kernel)
                      have f235 := iv_at (a := 192) (k := 30) (lo := 0) (u := 40) hI (by decide +kernel)
                      have f236 := iv_at (a := 192) (k := 34) (lo := 0) (u := 45) hI (by decide +kernel)
                      have f237 := iv_at (a := 192) (k := 35) (lo := 0) (u := 20) hI (by decide +kernel)
                      have f238 := iv_at (a := 192) (k := 36) (lo := 0) (u := 45) hI (by decide +kernel)
                      have f239 := iv_at (a := 192) (k := 38) (lo := 0) (u := 1) hI (by decide +kernel)
                      have f240 : (hf_up (hf_up (hf_up (hf_up (hf_up φ 192 12 (φ 192 4)) 192 13 0) 192 11 3) 192 14 z27) 192 4 ((φ 192 4) + 1)) 192 11 = 3 := ((hf_up_ne (fun q => absurd q.2 (by decide))).trans ((hf_up_ne (fun q => absurd q.2 (by decide))).trans hf_up_eq))
                      have f241 : (hf_up (hf_up (hf_up (hf_up (hf_up φ 192 12 (φ 192 4)) 192 13 0) 192 11 3) 192 14 z27) 192 4 ((φ 192 4) + 1)) 192 18 = φ 192 18 := ((hf_up_ne (fun q => absurd q.2 (by decide))).trans ((hf_up_ne (fun q => absurd q.2 (by decide))).trans ((hf_up_ne (fun q => absurd q.2 (by decide))).trans ((hf_up_ne (fun q => absurd q.2 (by decide))).trans (hf_up_ne (fun q => absurd q.2 (by decide)))))))
                      have f242 : (hf_up (hf_up (hf_up (hf_up (hf_up φ 192 12 (φ 192 4)) 192 13 0) 192 11 3) 192 14 z27) 192 4 ((φ 192 4) + 1)) 192 30 = φ 192 30 := ((hf_up_ne (fun q => absurd q.2 (by decide))).trans ((hf_up_ne (fun q => absurd q.2 (by decide))).trans ((hf_up_ne (fun q => absurd q.2 (by decide))).trans ((hf_up_ne (fun q => absurd q.2 (by decide))).trans (hf_up_ne (fun q => absurd q.2 (by decide)))))))
                      have f243 : (hf_up (hf_up (hf_up (hf_up (hf_up φ 192 12 (φ 192 4)) 192 13 0) 192 11 3) 192 14 z27) 192 4 ((φ 192 4) + 1)) 192 34 = φ 192 34 := ((hf_up_ne (fun q => absurd q.2 (by decide))).trans ((hf_up_ne (fun q => absurd q.2 (by decide))).trans ((hf_up_ne (fun q => absurd q.2 (by decide))).trans ((hf_up_ne (fun q => absurd q.2 (by decide))).trans (hf_up_ne (fun q => absurd q.2 (by decide)))))))
                      have f244 : (hf_up (hf_up (hf_up (hf_up (hf_up φ 192 12 (φ 192 4)) 192 13 0) 192 11 3) 192 14 z27) 192 4 ((φ 192 4) + 1)) 192 35 = φ 192 35 := ((hf_up_ne (fun q => absurd q.2 (by decide))).trans ((hf_up_ne (fun q => absurd q.2 (by decide))).trans ((hf_up_ne (fun q => absurd q.2 (by decide))).trans ((hf_up_ne (fun q => absurd q.2 (by decide))).trans (hf_up_ne (fun q => absurd q.2 (by decide)))))))
                      have f245 : (hf_up (hf_up (hf_up (hf_up (hf_up φ 192 12 (φ 192 4)) 192 13 0) 192 11 3) 192 14 z27) 192 4 ((φ 192 4) + 1)) 192 36 = φ 192 36 := ((hf_up_ne (fun q => absurd q.2 (by decide))).trans ((hf_up_ne (fun q => absurd q.2 (by decide))).trans ((hf_up_ne (fun q => absurd q.2 (by decide))).trans ((hf_up_ne (fun q => absurd q.2 (by decide))).trans (hf_up_ne (fun q => absurd q.2 (by decide)))))))
                      have f246 : (hf_up (hf_up (hf_up (hf_up (hf_up φ 192 12 (φ 192 4)) 192 13 0) 192 11 3) 192 14 z27) 192 4 ((φ 192 4) + 1)) 192 38 = φ 192 38 := ((hf_up_ne (fun q => absurd q.2 (by decide))).trans ((hf_up_ne (fun q => absurd q.2 (by decide))).trans ((hf_up_ne (fun q => absurd q.2 (by decide))).trans ((hf_up_ne (fun q => absurd q.2 (by decide))).trans (hf_up_ne (fun q => absurd q.2 (by decide)))))))
                      have f247 : (hf_up (hf_up (hf_up (hf_up (hf_up φ 192 12 (φ 192 4)) 192 13 0) 192 11 3) 192 14 z27) 192 4 ((φ 192 4) + 1)) 192 4 = (φ 192 4) + 1 := hf_up_eq
                      exact hQ (hf_up (hf_up (hf_up (hf_up (hf_up φ 192 12 (φ 192 4)) 192 13 0) 192 11 3) 192 14 z27) 192 4 ((φ 192 4) + 1)) i233 r233 (by omega) e37a
                    · skip
                      have e37b := e35b.trans (if_neg q37)
                      refine ⟨by unfold hi; omega, by unfold hi; omega, fun q39 => ?_, fun q39 => ?_⟩
                      · skip
                        have e39a := e37b.trans (if_pos q39)
                        have i248 : Inv (hf_up (hf_up (hf_up φ 192 12 (φ 192 4)) 192 13 0) 192 11 3) := iv_up (lo := 0) (u := 4) i19 (by decide +kernel) (by omega) (by omega)
                        have r248 : Fr [193004, 193011, 193012, 193013, 193014, 193017] φ (hf_up (hf_up (hf_up φ 192 12 (φ 192 4)) 192 13 0) 192 11 3) := fr_up r19 (by decide)
                        have i249 : Inv (hf_up (hf_up (hf_up (hf_up φ 192 12 (φ 192 4)) 192 13 0) 192 11 3) 192 14 z27) := iv_up (lo := 0) (u := 8214) i248 (by decide +kernel) (by omega) (by omega)
                        have r249 : Fr [193004, 193011, 193012, 193013, 193014, 193017] φ (hf_up (hf_up (hf_up (hf_up φ 192 12 (φ 192 4)) 192 13 0) 192 11 3) 192 14 z27) := fr_up r248 (by decide)
                        have i250 : Inv (hf_up (hf_up (hf_up (hf_up (hf_up φ 192 12 (φ 192 4)) 192 13 0) 192 11 3) 192 14 z27) 192 4 ((φ 192 4) + 1)) := iv_up (lo := 0) (u := 940) i249 (by decide +kernel) (by omega) (by omega)
                        have r250 : Fr [193004, 193011, 193012, 193013, 193014, 193017] φ (hf_up (hf_up (hf_up (hf_up (hf_up φ 192 12 (φ 192 4)) 192 13 0) 192 11 3) 192 14 z27) 192 4 ((φ 192 4) + 1)) := fr_up r249 (by decide)
                        have f251 := iv_at (a := 192) (k := 18) (lo := (-1 : Int)) (u := 999) hI (by decide +kernel)
                        have f252 := iv_at (a := 192) (k := 30) (lo := 0) (u := 40) hI (by decide +kernel)
                        have f253 := iv_at (a := 192) (k := 34) (lo := 0) (u := 45) hI (by decide +kernel)
                        have f254 := iv_at (a := 192) (k := 35) (lo := 0) (u := 20) hI (by decide +kernel)
                        have f255 := iv_at (a := 192) (k := 36) (lo := 0) (u := 45) hI (by decide +kernel)
                        have f256 := iv_at (a := 192) (k := 38) (lo := 0) (u := 1) hI (by decide +kernel)
                        have f257 : (hf_up (hf_up (hf_up (hf_up (hf_up φ 192 12 (φ 192 4)) 192 13 0) 192 11 3) 192 14 z27) 192 4 ((φ 192 4) + 1)) 192 11 = 3 := ((hf_up_ne (fun q => absurd q.2 (by decide))).trans ((hf_up_ne (fun q => absurd q.2 (by decide))).trans hf_up_eq))
                        have f258 : (hf_up (hf_up (hf_up (hf_up (hf_up φ 192 12 (φ 192 4)) 192 13 0) 192 11 3) 192 14 z27) 192 4 ((φ 192 4) + 1)) 192 18 = φ 192 18 := ((hf_up_ne (fun q => absurd q.2 (by decide))).trans ((hf_up_ne (fun q => absurd q.2 (by decide))).trans ((hf_up_ne (fun q => absurd q.2 (by decide))).trans ((hf_up_ne (fun q => absurd q.2 (by decide))).trans (hf_up_ne (fun q => absurd q.2 (by decide)))))))
                        have f259 : (hf_up (hf_up (hf_up (hf_up (hf_up φ 192 12 (φ 192 4)) 192 13 0) 192 11 3) 192 14 z27) 192 4 ((φ 192 4) + 1)) 192 30 = φ 192 30 := ((hf_up_ne (fun q => absurd q.2 (by decide))).trans ((hf_up_ne (fun q => absurd q.2 (by decide))).trans ((hf_up_ne (fun q => absurd q.2 (by decide))).trans ((hf_up_ne (fun q => absurd q.2 (by decide))).trans (hf_up_ne (fun q => absurd q.2 (by decide)))))))
                        have f260 : (hf_up (hf_up (hf_up (hf_up (hf_up φ 192 12 (φ 192 4)) 192 13 0) 192 11 3) 192 14 z27) 192 4 ((φ 192 4) + 1)) 192 34 = φ 192 34 := ((hf_up_ne (fun q => absurd q.2 (by decide))).trans ((hf_up_ne (fun q => absurd q.2 (by decide))).trans ((hf_up_ne (fun q => absurd q.2 (by decide))).trans ((hf_up_ne (fun q => absurd q.2 (by decide))).trans (hf_up_ne (fun q => absurd q.2 (by decide)))))))
                        have f261 : (hf_up (hf_up (hf_up (hf_up (hf_up φ 192 12 (φ 192 4)) 192 13 0) 192 11 3) 192 14 z27) 192 4 ((φ 192 4) + 1)) 192 35 = φ 192 35 := ((hf_up_ne (fun q => absurd q.2 (by decide))).trans ((hf_up_ne (fun q => absurd q.2 (by decide))).trans ((hf_up_ne (fun q => absurd q.2 (by decide))).trans ((hf_up_ne (fun q => absurd q.2 (by decide))).trans (hf_up_ne (fun q => absurd q.2 (by decide)))))))
                        have f262 : (hf_up (hf_up (hf_up (hf_up (hf_up φ 192 12 (φ 192 4)) 192 13 0) 192 11 3) 192 14 z27) 192 4 ((φ 192 4) + 1)) 192 36 = φ 192 36 := ((hf_up_ne (fun q => absurd q.2 (by decide))).trans ((hf_up_ne (fun q => absurd q.2 (by decide))).trans ((hf_up_ne (fun q => absurd q.2 (by decide))).trans ((hf_up_ne (fun q => absurd q.2 (by decide))).trans (hf_up_ne (fun q => absurd q.2 (by decide)))))))
                        have f263 : (hf_up (hf_up (hf_up (hf_up (hf_up φ 192 12 (φ 192 4)) 192 13 0) 192 11 3) 192 14 z27) 192 4 ((φ 192 4) + 1)) 192 38 = φ 192 38 := ((hf_up_ne (fun q => absurd q.2 (by decide))).trans ((hf_up_ne (fun q => absurd q.2 (by decide))).trans ((hf_up_ne (fun q => absurd q.2 (by decide))).trans ((hf_up_ne (fun q => absurd q.2 (by decide))).trans (hf_up_ne (fun q => absurd q.2 (by decide)))))))
                        have f264 : (hf_up (hf_up (hf_up (hf_up (hf_up φ 192 12 (φ 192 4)) 192 13 0) 192 11 3) 192 14 z27) 192 4 ((φ 192 4) + 1)) 192 4 = (φ 192 4) + 1 := hf_up_eq
                        exact hQ (hf_up (hf_up (hf_up (hf_up (hf_up φ 192 12 (φ 192 4)) 192 13 0) 192 11 3) 192 14 z27) 192 4 ((φ 192 4) + 1)) i250 r250 (by omega) e39a
                      · skip
                        have e39b := e37b.trans (if_neg q39)
                        refine ⟨by unfold hi; omega, by unfold hi; omega, fun q41 => ?_, fun q41 => ?_⟩
                        · skip
                          have e41a := e39b.trans (if_pos q41)
                          have i265 : Inv (hf_up (hf_up (hf_up φ 192 12 (φ 192 4)) 192 13 0) 192 11 4) := iv_up (lo := 0) (u := 4) i19 (by decide +kernel) (by omega) (by omega)
                          have r265 : Fr [193004, 193011, 193012, 193013, 193014, 193017] φ (hf_up (hf_up (hf_up φ 192 12 (φ 192 4)) 192 13 0) 192 11 4) := fr_up r19 (by decide)
                          have i266 : Inv (hf_up (hf_up (hf_up (hf_up φ 192 12 (φ 192 4)) 192 13 0) 192 11 4) 192 14 z27) := iv_up (lo := 0) (u := 8214) i265 (by decide +kernel) (by omega) (by omega)
                          have r266 : Fr [193004, 193011, 193012, 193013, 193014, 193017] φ (hf_up (hf_up (hf_up (hf_up φ 192 12 (φ 192 4)) 192 13 0) 192 11 4) 192 14 z27) := fr_up r265 (by decide)
                          have i267 : Inv (hf_up (hf_up (hf_up (hf_up (hf_up φ 192 12 (φ 192 4)) 192 13 0) 192 11 4) 192 14 z27) 192 4 ((φ 192 4) + 1)) := iv_up (lo := 0) (u := 940) i266 (by decide +kernel) (by omega) (by omega)
                          have r267 : Fr [193004, 193011, 193012, 193013, 193014, 193017] φ (hf_up (hf_up (hf_up (hf_up (hf_up φ 192 12 (φ 192 4)) 192 13 0) 192 11 4) 192 14 z27) 192 4 ((φ 192 4) + 1)) := fr_up r266 (by decide)
                          have f268 := iv_at (a := 192) (k := 18) (lo := (-1 : Int)) (u := 999) hI (by decide +kernel)
                          have f269 := iv_at (a := 192) (k := 30) (lo := 0) (u := 40) hI (by decide +kernel)
                          have f270 := iv_at (a := 192) (k := 34) (lo := 0) (u := 45) hI (by decide +kernel)
                          have f271 := iv_at (a := 192) (k := 35) (lo := 0) (u := 20) hI (by decide +kernel)
                          have f272 := iv_at (a := 192) (k := 36) (lo := 0) (u := 45) hI (by decide +kernel)
                          have f273 := iv_at (a := 192) (k := 38) (lo := 0) (u := 1) hI (by decide +kernel)
                          have f274 : (hf_up (hf_up (hf_up (hf_up (hf_up φ 192 12 (φ 192 4)) 192 13 0) 192 11 4) 192 14 z27) 192 4 ((φ 192 4) + 1)) 192 11 = 4 := ((hf_up_ne (fun q => absurd q.2 (by decide))).trans ((hf_up_ne (fun q => absurd q.2 (by decide))).trans hf_up_eq))
                          have f275 : (hf_up (hf_up (hf_up (hf_up (hf_up φ 192 12 (φ 192 4)) 192 13 0) 192 11 4) 192 14 z27) 192 4 ((φ 192 4) + 1)) 192 18 = φ 192 18 := ((hf_up_ne (fun q => absurd q.2 (by decide))).trans ((hf_up_ne (fun q => absurd q.2 (by decide))).trans ((hf_up_ne (fun q => absurd q.2 (by decide))).trans ((hf_up_ne (fun q => absurd q.2 (by decide))).trans (hf_up_ne (fun q => absurd q.2 (by decide)))))))
                          have f276 : (hf_up (hf_up (hf_up (hf_up (hf_up φ 192 12 (φ 192 4)) 192 13 0) 192 11 4) 192 14 z27) 192 4 ((φ 192 4) + 1)) 192 30 = φ 192 30 := ((hf_up_ne (fun q => absurd q.2 (by decide))).trans ((hf_up_ne (fun q => absurd q.2 (by decide))).trans ((hf_up_ne (fun q => absurd q.2 (by decide))).trans ((hf_up_ne (fun q => absurd q.2 (by decide))).trans (hf_up_ne (fun q => absurd q.2 (by decide)))))))
                          have f277 : (hf_up (hf_up (hf_up (hf_up (hf_up φ 192 12 (φ 192 4)) 192 13 0) 192 11 4) 192 14 z27) 192 4 ((φ 192 4) + 1)) 192 34 = φ 192 34 := ((hf_up_ne (fun q => absurd q.2 (by decide))).trans ((hf_up_ne (fun q => absurd q.2 (by decide))).trans ((hf_up_ne (fun q => absurd q.2 (by decide))).trans ((hf_up_ne (fun q => absurd q.2 (by decide))).trans (hf_up_ne (fun q => absurd q.2 (by decide)))))))
                          have f278 : (hf_up (hf_up (hf_up (hf_up (hf_up φ 192 12 (φ 192 4)) 192 13 0) 192 11 4) 192 14 z27) 192 4 ((φ 192 4) + 1)) 192 35 = φ 192 35 := ((hf_up_ne (fun q => absurd q.2 (by decide))).trans ((hf_up_ne (fun q => absurd q.2 (by decide))).trans ((hf_up_ne (fun q => absurd q.2 (by decide))).trans ((hf_up_ne (fun q => absurd q.2 (by decide))).trans (hf_up_ne (fun q => absurd q.2 (by decide)))))))
                          have f279 : (hf_up (hf_up (hf_up (hf_up (hf_up φ 192 12 (φ 192 4)) 192 13 0) 192 11 4) 192 14 z27) 192 4 ((φ 192 4) + 1)) 192 36 = φ 192 36 := ((hf_up_ne (fun q => absurd q.2 (by decide))).trans ((hf_up_ne (fun q => absurd q.2 (by decide))).trans ((hf_up_ne (fun q => absurd q.2 (by decide))).trans ((hf_up_ne (fun q => absurd q.2 (by decide))).trans (hf_up_ne (fun q => absurd q.2 (by decide)))))))
                          have f280 : (hf_up (hf_up (hf_up (hf_up (hf_up φ 192 12 (φ 192 4)) 192 13 0) 192 11 4) 192 14 z27) 192 4 ((φ 192 4) + 1)) 192 38 = φ 192 38 := ((hf_up_ne (fun q => absurd q.2 (by decide))).trans ((hf_up_ne (fun q => absurd q.2 (by decide))).trans ((hf_up_ne (fun q => absurd q.2 (by decide))).trans ((hf_up_ne (fun q => absurd q.2 (by decide))).trans (hf_up_ne (fun q => absurd q.2 (by decide)))))))
                          have f281 : (hf_up (hf_up (hf_up (hf_up (hf_up φ 192 12 (φ 192 4)) 192 13 0) 192 11 4) 192 14 z27) 192 4 ((φ 192 4) + 1)) 192 4 = (φ 192 4) + 1 := hf_up_eq
                          exact hQ (hf_up (hf_up (hf_up (hf_up (hf_up φ 192 12 (φ 192 4)) 192 13 0) 192 11 4) 192 14 z27) 192 4 ((φ 192 4) + 1)) i267 r267 (by omega) e41a
                        · skip
                          have e41b := e39b.trans (if_neg q41)
                          refine ⟨by unfold hi; omega, by unfold hi; omega, fun q43 => ?_, fun q43 => ?_⟩
                          · skip
                            have e43a := e41b.trans (if_pos q43)
                            have i282 : Inv (hf_up (hf_up (hf_up φ 192 12 (φ 192 4)) 192 13 0) 192 11 4) := iv_up (lo := 0) (u := 4) i19 (by decide +kernel) (by omega) (by omega)
                            have r282 : Fr [193004, 193011, 193012, 193013, 193014, 193017] φ (hf_up (hf_up (hf_up φ 192 12 (φ 192 4)) 192 13 0) 192 11 4) := fr_up r19 (by decide)
                            have i283 : Inv (hf_up (hf_up (hf_up (hf_up φ 192 12 (φ 192 4)) 192 13 0) 192 11 4) 192 14 z27) := iv_up (lo := 0) (u := 8214) i282 (by decide +kernel) (by omega) (by omega)
                            have r283 : Fr [193004, 193011, 193012, 193013, 193014, 193017] φ (hf_up (hf_up (hf_up (hf_up φ 192 12 (φ 192 4)) 192 13 0) 192 11 4) 192 14 z27) := fr_up r282 (by decide)
                            have i284 : Inv (hf_up (hf_up (hf_up (hf_up (hf_up φ 192 12 (φ 192 4)) 192 13 0) 192 11 4) 192 14 z27) 192 4 ((φ 192 4) + 1)) := iv_up (lo := 0) (u := 940) i283 (by decide +kernel) (by omega) (by omega)
                            have r284 : Fr [193004, 193011, 193012, 193013, 193014, 193017] φ (hf_up (hf_up (hf_up (hf_up (hf_up φ 192 12 (φ 192 4)) 192 13 0) 192 11 4) 192 14 z27) 192 4 ((φ 192 4) + 1)) := fr_up r283 (by decide)
                            have f285 := iv_at (a := 192) (k := 18) (lo := (-1 : Int)) (u := 999) hI (by decide +kernel)
                            have f286 := iv_at (a := 192) (k := 30) (lo := 0) (u := 40) hI (by decide +kernel)
                            have f287 := iv_at (a := 192) (k := 34) (lo := 0) (u := 45) hI (by decide +kernel)
                            have f288 := iv_at (a := 192) (k := 35) (lo := 0) (u := 20) hI (by decide +kernel)
                            have f289 := iv_at (a := 192) (k := 36) (lo := 0) (u := 45) hI (by decide +kernel)
                            have f290 := iv_at (a := 192) (k := 38) (lo := 0) (u := 1) hI (by decide +kernel)
                            have f291 : (hf_up (hf_up (hf_up (hf_up (hf_up φ 192 12 (φ 192 4)) 192 13 0) 192 11 4) 192 14 z27) 192 4 ((φ 192 4) + 1)) 192 11 = 4 := ((hf_up_ne (fun q => absurd q.2 (by decide))).trans ((hf_up_ne (fun q => absurd q.2 (by decide))).trans hf_up_eq))
                            have f292 : (hf_up (hf_up (hf_up (hf_up (hf_up φ 192 12 (φ 192 4)) 192 13 0) 192 11 4) 192 14 z27) 192 4 ((φ 192 4) + 1)) 192 18 = φ 192 18 := ((hf_up_ne (fun q => absurd q.2 (by decide))).trans ((hf_up_ne (fun q => absurd q.2 (by decide))).trans ((hf_up_ne (fun q => absurd q.2 (by decide))).trans ((hf_up_ne (fun q => absurd q.2 (by decide))).trans (hf_up_ne (fun q => absurd q.2 (by decide)))))))
                            have f293 : (hf_up (hf_up (hf_up (hf_up (hf_up φ 192 12 (φ 192 4)) 192 13 0) 192 11 4) 192 14 z27) 192 4 ((φ 192 4) + 1)) 192 30 = φ 192 30 := ((hf_up_ne (fun q => absurd q.2 (by decide))).trans ((hf_up_ne (fun q => absurd q.2 (by decide))).trans ((hf_up_ne (fun q => absurd q.2 (by decide))).trans ((hf_up_ne (fun q => absurd q.2 (by decide))).trans (hf_up_ne (fun q => absurd q.2 (by decide)))))))
                            have f294 : (hf_up (hf_up (hf_up (hf_up (hf_up φ 192 12 (φ 192 4)) 192 13 0) 192 11 4) 192 14 z27) 192 4 ((φ 192 4) + 1)) 192 34 = φ 192 34 := ((hf_up_ne (fun q => absurd q.2 (by decide))).trans ((hf_up_ne (fun q => absurd q.2 (by decide))).trans ((hf_up_ne (fun q => absurd q.2 (by decide))).trans ((hf_up_ne (fun q => absurd q.2 (by decide))).trans (hf_up_ne (fun q => absurd q.2 (by decide)))))))
                            have f295 : (hf_up (hf_up (hf_up (hf_up (hf_up φ 192 12 (φ 192 4)) 192 13 0) 192 11 4) 192 14 z27) 192 4 ((φ 192 4) + 1)) 192 35 = φ 192 35 := ((hf_up_ne (fun q => absurd q.2 (by decide))).trans ((hf_up_ne (fun q => absurd q.2 (by decide))).trans ((hf_up_ne (fun q => absurd q.2 (by decide))).trans ((hf_up_ne (fun q => absurd q.2 (by decide))).trans (hf_up_ne (fun q => absurd q.2 (by decide)))))))
                            have f296 : (hf_up (hf_up (hf_up (hf_up (hf_up φ 192 12 (φ 192 4)) 192 13 0) 192 11 4) 192 14 z27) 192 4 ((φ 192 4) + 1)) 192 36 = φ 192 36 := ((hf_up_ne (fun q => absurd q.2 (by decide))).trans ((hf_up_ne (fun q => absurd q.2 (by decide))).trans ((hf_up_ne (fun q => absurd q.2 (by decide))).trans ((hf_up_ne (fun q => absurd q.2 (by decide))).trans (hf_up_ne (fun q => absurd q.2 (by decide)))))))
                            have f297 : (hf_up (hf_up (hf_up (hf_up (hf_up φ 192 12 (φ 192 4)) 192 13 0) 192 11 4) 192 14 z27) 192 4 ((φ 192 4) + 1)) 192 38 = φ 192 38 := ((hf_up_ne (fun q => absurd q.2 (by decide))).trans ((hf_up_ne (fun q => absurd q.2 (by decide))).trans ((hf_up_ne (fun q => absurd q.2 (by decide))).trans ((hf_up_ne (fun q => absurd q.2 (by decide))).trans (hf_up_ne (fun q => absurd q.2 (by decide)))))))
                            have f298 : (hf_up (hf_up (hf_up (hf_up (hf_up φ 192 12 (φ 192 4)) 192 13 0) 192 11 4) 192 14 z27) 192 4 ((φ 192 4) + 1)) 192 4 = (φ 192 4) + 1 := hf_up_eq
                            exact hQ (hf_up (hf_up (hf_up (hf_up (hf_up φ 192 12 (φ 192 4)) 192 13 0) 192 11 4) 192 14 z27) 192 4 ((φ 192 4) + 1)) i284 r284 (by omega) e43a
                          · skip
                            have e43b := e41b.trans (if_neg q43)
                            have i299 : Inv (hf_up (hf_up (hf_up φ 192 12 (φ 192 4)) 192 13 0) 192 11 3) := iv_up (lo := 0) (u := 4) i19 (by decide +kernel) (by omega) (by omega)
                            have r299 : Fr [193004, 193011, 193012, 193013, 193014, 193017] φ (hf_up (hf_up (hf_up φ 192 12 (φ 192 4)) 192 13 0) 192 11 3) := fr_up r19 (by decide)
                            have i300 : Inv (hf_up (hf_up (hf_up (hf_up φ 192 12 (φ 192 4)) 192 13 0) 192 11 3) 192 14 z27) := iv_up (lo := 0) (u := 8214) i299 (by decide +kernel) (by omega) (by omega)
                            have r300 : Fr [193004, 193011, 193012, 193013, 193014, 193017] φ (hf_up (hf_up (hf_up (hf_up φ 192 12 (φ 192 4)) 192 13 0) 192 11 3) 192 14 z27) := fr_up r299 (by decide)
                            have i301 : Inv (hf_up (hf_up (hf_up (hf_up (hf_up φ 192 12 (φ 192 4)) 192 13 0) 192 11 3) 192 14 z27) 192 4 ((φ 192 4) + 1)) := iv_up (lo := 0) (u := 940) i300 (by decide +kernel) (by omega) (by omega)
                            have r301 : Fr [193004, 193011, 193012, 193013, 193014, 193017] φ (hf_up (hf_up (hf_up (hf_up (hf_up φ 192 12 (φ 192 4)) 192 13 0) 192 11 3) 192 14 z27) 192 4 ((φ 192 4) + 1)) := fr_up r300 (by decide)
                            have f302 := iv_at (a := 192) (k := 18) (lo := (-1 : Int)) (u := 999) hI (by decide +kernel)
                            have f303 := iv_at (a := 192) (k := 30) (lo := 0) (u := 40) hI (by decide +kernel)
                            have f304 := iv_at (a := 192) (k := 34) (lo := 0) (u := 45) hI (by decide +kernel)
                            have f305 := iv_at (a := 192) (k := 35) (lo := 0) (u := 20) hI (by decide +kernel)
                            have f306 := iv_at (a := 192) (k := 36) (lo := 0) (u := 45) hI (by decide +kernel)
                            have f307 := iv_at (a := 192) (k := 38) (lo := 0) (u := 1) hI (by decide +kernel)
                            have f308 : (hf_up (hf_up (hf_up (hf_up (hf_up φ 192 12 (φ 192 4)) 192 13 0) 192 11 3) 192 14 z27) 192 4 ((φ 192 4) + 1)) 192 11 = 3 := ((hf_up_ne (fun q => absurd q.2 (by decide))).trans ((hf_up_ne (fun q => absurd q.2 (by decide))).trans hf_up_eq))
                            have f309 : (hf_up (hf_up (hf_up (hf_up (hf_up φ 192 12 (φ 192 4)) 192 13 0) 192 11 3) 192 14 z27) 192 4 ((φ 192 4) + 1)) 192 18 = φ 192 18 := ((hf_up_ne (fun q => absurd q.2 (by decide))).trans ((hf_up_ne (fun q => absurd q.2 (by decide))).trans ((hf_up_ne (fun q => absurd q.2 (by decide))).trans ((hf_up_ne (fun q => absurd q.2 (by decide))).trans (hf_up_ne (fun q => absurd q.2 (by decide)))))))
                            have f310 : (hf_up (hf_up (hf_up (hf_up (hf_up φ 192 12 (φ 192 4)) 192 13 0) 192 11 3) 192 14 z27) 192 4 ((φ 192 4) + 1)) 192 30 = φ 192 30 := ((hf_up_ne (fun q => absurd q.2 (by decide))).trans ((hf_up_ne (fun q => absurd q.2 (by decide))).trans ((hf_up_ne (fun q => absurd q.2 (by decide))).trans ((hf_up_ne (fun q => absurd q.2 (by decide))).trans (hf_up_ne (fun q => absurd q.2 (by decide)))))))
                            have f311 : (hf_up (hf_up (hf_up (hf_up (hf_up φ 192 12 (φ 192 4)) 192 13 0) 192 11 3) 192 14 z27) 192 4 ((φ 192 4) + 1)) 192 34 = φ 192 34 := ((hf_up_ne (fun q => absurd q.2 (by decide))).trans ((hf_up_ne (fun q => absurd q.2 (by decide))).trans ((hf_up_ne (fun q => absurd q.2 (by decide))).trans ((hf_up_ne (fun q => absurd q.2 (by decide))).trans (hf_up_ne (fun q => absurd q.2 (by decide)))))))
                            have f312 : (hf_up (hf_up (hf_up (hf_up (hf_up φ 192 12 (φ 192 4)) 192 13 0) 192 11 3) 192 14 z27) 192 4 ((φ 192 4) + 1)) 192 35 = φ 192 35 := ((hf_up_ne (fun q => absurd q.2 (by decide))).trans ((hf_up_ne (fun q => absurd q.2 (by decide))).trans ((hf_up_ne (fun q => absurd q.2 (by decide))).trans ((hf_up_ne (fun q => absurd q.2 (by decide))).trans (hf_up_ne (fun q => absurd q.2 (by decide)))))))
                            have f313 : (hf_up (hf_up (hf_up (hf_up (hf_up φ 192 12 (φ 192 4)) 192 13 0) 192 11 3) 192 14 z27) 192 4 ((φ 192 4) + 1)) 192 36 = φ 192 36 := ((hf_up_ne (fun q => absurd q.2 (by decide))).trans ((hf_up_ne (fun q => absurd q.2 (by decide))).trans ((hf_up_ne (fun q => absurd q.2 (by decide))).trans ((hf_up_ne (fun q => absurd q.2 (by decide))).trans (hf_up_ne (fun q => absurd q.2 (by decide)))))))
                            have f314 : (hf_up (hf_up (hf_up (hf_up (hf_up φ 192 12 (φ 192 4)) 192 13 0) 192 11 3) 192 14 z27) 192 4 ((φ 192 4) + 1)) 192 38 = φ 192 38 := ((hf_up_ne (fun q => absurd q.2 (by decide))).trans ((hf_up_ne (fun q => absurd q.2 (by decide))).trans ((hf_up_ne (fun q => absurd q.2 (by decide))).trans ((hf_up_ne (fun q => absurd q.2 (by decide))).trans (hf_up_ne (fun q => absurd q.2 (by decide)))))))
                            have f315 : (hf_up (hf_up (hf_up (hf_up (hf_up φ 192 12 (φ 192 4)) 192 13 0) 192 11 3) 192 14 z27) 192 4 ((φ 192 4) + 1)) 192 4 = (φ 192 4) + 1 := hf_up_eq
                            exact hQ (hf_up (hf_up (hf_up (hf_up (hf_up φ 192 12 (φ 192 4)) 192 13 0) 192 11 3) 192 14 z27) 192 4 ((φ 192 4) + 1)) i301 r301 (by omega) e43b
            · skip
              have e28b := e27.trans (if_neg q28)
              have i316 : Inv (hf_up (hf_up (hf_up φ 192 12 (φ 192 4)) 192 13 0) 192 11 0) := iv_up (lo := 0) (u := 4) i19 (by decide +kernel) (by omega) (by omega)
              have r316 : Fr [193004, 193011, 193012, 193013, 193014, 193017] φ (hf_up (hf_up (hf_up φ 192 12 (φ 192 4)) 192 13 0) 192 11 0) := fr_up r19 (by decide)
              have f317 := iv_at (a := 192) (k := 18) (lo := (-1 : Int)) (u := 999) hI (by decide +kernel)
              have f318 := iv_at (a := 192) (k := 30) (lo := 0) (u := 40) hI (by decide +kernel)
              have f319 := iv_at (a := 192) (k := 34) (lo := 0) (u := 45) hI (by decide +kernel)
              have f320 := iv_at (a := 192) (k := 35) (lo := 0) (u := 20) hI (by decide +kernel)
              have f321 := iv_at (a := 192) (k := 36) (lo := 0) (u := 45) hI (by decide +kernel)
              have f322 := iv_at (a := 192) (k := 38) (lo := 0) (u := 1) hI (by decide +kernel)
              have f323 : (hf_up (hf_up (hf_up φ 192 12 (φ 192 4)) 192 13 0) 192 11 0) 192 11 = 0 := hf_up_eq
              have f324 : (hf_up (hf_up (hf_up φ 192 12 (φ 192 4)) 192 13 0) 192 11 0) 192 18 = φ 192 18 := ((hf_up_ne (fun q => absurd q.2 (by decide))).trans ((hf_up_ne (fun q => absurd q.2 (by decide))).trans (hf_up_ne (fun q => absurd q.2 (by decide)))))
              have f325 : (hf_up (hf_up (hf_up φ 192 12 (φ 192 4)) 192 13 0) 192 11 0) 192 30 = φ 192 30 := ((hf_up_ne (fun q => absurd q.2 (by decide))).trans ((hf_up_ne (fun q => absurd q.2 (by decide))).trans (hf_up_ne (fun q => absurd q.2 (by decide)))))
              have f326 : (hf_up (hf_up (hf_up φ 192 12 (φ 192 4)) 192 13 0) 192 11 0) 192 34 = φ 192 34 := ((hf_up_ne (fun q => absurd q.2 (by decide))).trans ((hf_up_ne (fun q => absurd q.2 (by decide))).trans (hf_up_ne (fun q => absurd q.2 (by decide)))))
              have f327 : (hf_up (hf_up (hf_up φ 192 12 (φ 192 4)) 192 13 0) 192 11 0) 192 35 = φ 192 35 := ((hf_up_ne (fun q => absurd q.2 (by decide))).trans ((hf_up_ne (fun q => absurd q.2 (by decide))).trans (hf_up_ne (fun q => absurd q.2 (by decide)))))
              have f328 : (hf_up (hf_up (hf_up φ 192 12 (φ 192 4)) 192 13 0) 192 11 0) 192 36 = φ 192 36 := ((hf_up_ne (fun q => absurd q.2 (by decide))).trans ((hf_up_ne (fun q => absurd q.2 (by decide))).trans (hf_up_ne (fun q => absurd q.2 (by decide)))))
              have f329 : (hf_up (hf_up (hf_up φ 192 12 (φ 192 4)) 192 13 0) 192 11 0) 192 38 = φ 192 38 := ((hf_up_ne (fun q => absurd q.2 (by decide))).trans ((hf_up_ne (fun q => absurd q.2 (by decide))).trans (hf_up_ne (fun q => absurd q.2 (by decide)))))
              have f330 : (hf_up (hf_up (hf_up φ 192 12 (φ 192 4)) 192 13 0) 192 11 0) 192 4 = φ 192 4 := ((hf_up_ne (fun q => absurd q.2 (by decide))).trans ((hf_up_ne (fun q => absurd q.2 (by decide))).trans (hf_up_ne (fun q => absurd q.2 (by decide)))))
              exact hQ (hf_up (hf_up (hf_up φ 192 12 (φ 192 4)) 192 13 0) 192 11 0) i316 r316 (by omega) e28b
          · skip
            have e26b := e5b.trans (if_neg q26)
            have i331 : Inv (hf_up (hf_up (hf_up φ 192 12 (φ 192 4)) 192 13 0) 192 12 (φ 192 5)) := iv_up (lo := 0) (u := 940) i19 (by decide +kernel) (by omega) (by omega)
            have r331 : Fr [193004, 193011, 193012, 193013, 193014, 193017] φ (hf_up (hf_up (hf_up φ 192 12 (φ 192 4)) 192 13 0) 192 12 (φ 192 5)) := fr_up r19 (by decide)
            have i332 : Inv (hf_up (hf_up (hf_up (hf_up φ 192 12 (φ 192 4)) 192 13 0) 192 12 (φ 192 5)) 192 11 4) := iv_up (lo := 0) (u := 4) i331 (by decide +kernel) (by omega) (by omega)
            have r332 : Fr [193004, 193011, 193012, 193013, 193014, 193017] φ (hf_up (hf_up (hf_up (hf_up φ 192 12 (φ 192 4)) 192 13 0) 192 12 (φ 192 5)) 192 11 4) := fr_up r331 (by decide)
            have f333 := iv_at (a := 192) (k := 18) (lo := (-1 : Int)) (u := 999) hI (by decide +kernel)
            have f334 := iv_at (a := 192) (k := 30) (lo := 0) (u := 40) hI (by decide +kernel)
            have f335 := iv_at (a := 192) (k := 34) (lo := 0) (u := 45) hI (by decide +kernel)
            have f336 := iv_at (a := 192) (k := 35) (lo := 0) (u := 20) hI (by decide +kernel)
            have f337 := iv_at (a := 192) (k := 36) (lo := 0) (u := 45) hI (by decide +kernel)
            have f338 := iv_at (a := 192) (k := 38) (lo := 0) (u := 1) hI (by decide +kernel)
            have f339 : (hf_up (hf_up (hf_up (hf_up φ 192 12 (φ 192 4)) 192 13 0) 192 12 (φ 192 5)) 192 11 4) 192 11 = 4 := hf_up_eq
            have f340 : (hf_up (hf_up (hf_up (hf_up φ 192 12 (φ 192 4)) 192 13 0) 192 12 (φ 192 5)) 192 11 4) 192 18 = φ 192 18 := ((hf_up_ne (fun q => absurd q.2 (by decide))).trans ((hf_up_ne (fun q => absurd q.2 (by decide))).trans ((hf_up_ne (fun q => absurd q.2 (by decide))).trans (hf_up_ne (fun q => absurd q.2 (by decide))))))
            have f341 : (hf_up (hf_up (hf_up (hf_up φ 192 12 (φ 192 4)) 192 13 0) 192 12 (φ 192 5)) 192 11 4) 192 30 = φ 192 30 := ((hf_up_ne (fun q => absurd q.2 (by decide))).trans ((hf_up_ne (fun q => absurd q.2 (by decide))).trans ((hf_up_ne (fun q => absurd q.2 (by decide))).trans (hf_up_ne (fun q => absurd q.2 (by decide))))))
            have f342 : (hf_up (hf_up (hf_up (hf_up φ 192 12 (φ 192 4)) 192 13 0) 192 12 (φ 192 5)) 192 11 4) 192 34 = φ 192 34 := ((hf_up_ne (fun q => absurd q.2 (by decide))).trans ((hf_up_ne (fun q => absurd q.2 (by decide))).trans ((hf_up_ne (fun q => absurd q.2 (by decide))).trans (hf_up_ne (fun q => absurd q.2 (by decide))))))
            have f343 : (hf_up (hf_up (hf_up (hf_up φ 192 12 (φ 192 4)) 192 13 0) 192 12 (φ 192 5)) 192 11 4) 192 35 = φ 192 35 := ((hf_up_ne (fun q => absurd q.2 (by decide))).trans ((hf_up_ne (fun q => absurd q.2 (by decide))).trans ((hf_up_ne (fun q => absurd q.2 (by decide))).trans (hf_up_ne (fun q => absurd q.2 (by decide))))))
            have f344 : (hf_up (hf_up (hf_up (hf_up φ 192 12 (φ 192 4)) 192 13 0) 192 12 (φ 192 5)) 192 11 4) 192 36 = φ 192 36 := ((hf_up_ne (fun q => absurd q.2 (by decide))).trans ((hf_up_ne (fun q => absurd q.2 (by decide))).trans ((hf_up_ne (fun q => absurd q.2 (by decide))).trans (hf_up_ne (fun q => absurd q.2 (by decide))))))
            have f345 : (hf_up (hf_up (hf_up (hf_up φ 192 12 (φ 192 4)) 192 13 0) 192 12 (φ 192 5)) 192 11 4) 192 38 = φ 192 38 := ((hf_up_ne (fun q => absurd q.2 (by decide))).trans ((hf_up_ne (fun q => absurd q.2 (by decide))).trans ((hf_up_ne (fun q => absurd q.2 (by decide))).trans (hf_up_ne (fun q => absurd q.2 (by decide))))))
            have f346 : (hf_up (hf_up (hf_up (hf_up φ 192 12 (φ 192 4)) 192 13 0) 192 12 (φ 192 5)) 192 11 4) 192 4 = φ 192 4 := ((hf_up_ne (fun q => absurd q.2 (by decide))).trans ((hf_up_ne (fun q => absurd q.2 (by decide))).trans ((hf_up_ne (fun q => absurd q.2 (by decide))).trans (hf_up_ne (fun q => absurd q.2 (by decide))))))
            exact hQ (hf_up (hf_up (hf_up (hf_up φ 192 12 (φ 192 4)) 192 13 0) 192 12 (φ 192 5)) 192 11 4) i332 r332 (by omega) e26b
      · skip
        have e4b := e3.trans (if_neg q4)
        have i347 : Inv (hf_up φ 192 4 ((φ 192 4) + 1)) := iv_up (lo := 0) (u := 940) hI (by decide +kernel) (by omega) (by omega)
        have r347 : Fr [193004, 193011, 193012, 193013, 193014, 193017] φ (hf_up φ 192 4 ((φ 192 4) + 1)) := fr_up (fr_rf) (by decide)
        have f348 : (hf_up φ 192 4 ((φ 192 4) + 1)) 192 18 = φ 192 18 := (hf_up_ne (fun q => absurd q.2 (by decide)))
        have f349 := iv_at (a := 192) (k := 18) (lo := (-1 : Int)) (u := 999) hI (by decide +kernel)
        have f350 : (hf_up φ 192 4 ((φ 192 4) + 1)) 192 30 = φ 192 30 := (hf_up_ne (fun q => absurd q.2 (by decide)))
        have f351 := iv_at (a := 192) (k := 30) (lo := 0) (u := 40) hI (by decide +kernel)
        have f352 : (hf_up φ 192 4 ((φ 192 4) + 1)) 192 34 = φ 192 34 := (hf_up_ne (fun q => absurd q.2 (by decide)))
        have f353 := iv_at (a := 192) (k := 34) (lo := 0) (u := 45) hI (by decide +kernel)
        have f354 : (hf_up φ 192 4 ((φ 192 4) + 1)) 192 35 = φ 192 35 := (hf_up_ne (fun q => absurd q.2 (by decide)))
        have f355 := iv_at (a := 192) (k := 35) (lo := 0) (u := 20) hI (by decide +kernel)
        have f356 : (hf_up φ 192 4 ((φ 192 4) + 1)) 192 36 = φ 192 36 := (hf_up_ne (fun q => absurd q.2 (by decide)))
        have f357 := iv_at (a := 192) (k := 36) (lo := 0) (u := 45) hI (by decide +kernel)
        have f358 : (hf_up φ 192 4 ((φ 192 4) + 1)) 192 38 = φ 192 38 := (hf_up_ne (fun q => absurd q.2 (by decide)))
        have f359 := iv_at (a := 192) (k := 38) (lo := 0) (u := 1) hI (by decide +kernel)
        have f360 : (hf_up φ 192 4 ((φ 192 4) + 1)) 192 4 = (φ 192 4) + 1 := hf_up_eq
        exact ih (hf_up φ 192 4 ((φ 192 4) + 1)) L  g0 i347 (by omega)  (fun χ hIχ hFχ hVχ hEχ => hQ χ hIχ (fr_tr r347 hFχ (by decide)) (by omega) (e4b.trans hEχ))
theorem sf_175_192 {sc : List Int} {d : Nat} {φ : hf_F} {x : Nat} {Q : Option jm_V → hf_F → Nat → Prop}  (hI : Inv φ)  (hQ : ∀ ψ : hf_F, Inv ψ → Fr [193004, 193011, 193012, 193013, 193014, 193017] φ ψ → (φ 192 4 ≤ ψ 192 4 ∧ (ψ 192 11 = 3 → φ 192 4 < ψ 192 4) ∧ ψ 192 18 = φ 192 18 ∧ ψ 192 30 = φ 192 30 ∧ ψ 192 34 = φ 192 34 ∧ ψ 192 35 = φ 192 35 ∧ ψ 192 36 = φ 192 36 ∧ ψ 192 38 = φ 192 38) → F_RideLawsModel_next_192 φ = ψ → Q none ψ x) : hw sc (d + 1) 175 0 [(0, (2, 192))] [] φ x Q := by
  have e : F_RideLawsModel_next_192 φ = F_RideLawsModel_next_192_l0 ((940 - (hf_up φ 192 4 ((φ 192 4) + 1)) 192 4 : Int).toNat + 1 + 1) φ := rfl
  refine sf_175_192_l0 ((940 - (hf_up φ 192 4 ((φ 192 4) + 1)) 192 4 : Int).toNat + 1 + 1) φ [(0, (2, 192))] rfl hI ?_ (fun ψ h1 h2 h3 h4 => hQ ψ h1 h2 h3 (e.trans h4))
  show 940 - φ 192 4 < (((940 - (φ 192 4 + 1) : Int).toNat + 1 + 1 : Nat) : Int)
  omega
theorem sf_172_192_v2 {sc : List Int} {d : Nat} {φ : hf_F} {x : Nat} {Q : Option jm_V → hf_F → Nat → Prop} {L : jm_L} {l1 : Int} (g0 : jm_get L 0 = some (2, 192)) (g1 : jm_get L 1 = some (0, l1))
    (H : hi l1 ∧ hi 99 ∧ (99 ≤ l1 → hw sc d 172 21 L [] φ x Q) ∧ (¬ 99 ≤ l1 → 0 ≤ l1 ∧ l1 < 99 ∧ (hw sc d 172 2 (jm_st1 L 1 (0, l1 + 1)) [] (hf_up φ 195 ((l1).toNat) 0) x Q))) :
    hw sc d 172 2 L [] φ x Q := by
  refine hw_ld (b := 1) (e := 0) (by decide +kernel) g1 ?_
  refine hw_k (c := 99) (b := 1) (e := 2) (by decide +kernel) ?_
  obtain ⟨hz1, hy1, ht1, hf1⟩ := H
  refine hw_if2 (a0 := 0) (b := 3) (e := 21) (by decide +kernel) hz1 hy1 (fun q => ?_) (fun q => ?_)
  · have H := ht1 q
    exact H
  · have H := hf1 q
    refine hw_ald (b := 0) (e := 0) (by decide +kernel) g0 (by decide) ?_
    refine hr_gr (w := 195) (b := 12) (e := 7) 192 rfl (by decide +kernel) ?_
    refine hw_ld (b := 1) (e := 0) (by decide +kernel) g1 ?_
    refine hw_k (c := 0) (b := 0) (e := 1) (by decide +kernel) ?_
    obtain ⟨hl2, hu2, H⟩ := H
    refine hr_as (a0 := 0) (e := 4) (n := 99) 195 rfl (by decide +kernel) hl2 hu2 ?_
    refine hw_inc (L' := (jm_st1 L 1 (0, l1 + 1))) (c := 1) (b := 1) (e := 0) (by decide +kernel) g1 rfl ?_
    refine hw_goto (a0 := 0) (b := 0) (e := 2) (by decide +kernel) ?_
    exact H
theorem sf_172_192_m2 {sc : List Int} {d x : Nat} {Q : Option jm_V → hf_F → Nat → Prop} {φ0 : hf_F}  : ∀ (n : Nat) (L : jm_L) (l1 : Int), jm_get L 0 = some (2, 192) → jm_get L 1 = some (0, l1) → 0 ≤ l1 → l1 + (n : Int) = 99 → (∀ (L1 : jm_L), jm_get L1 0 = some (2, 192) → jm_get L1 1 = some (0, 99) → hw sc d 172 21 L1 [] (hf_mp φ0 195 0 99 (fun _ => 0)) x Q) → hw sc d 172 2 L [] (hf_mp φ0 195 0 (l1).toNat (fun _ => 0)) x Q := by
  intro n
  induction n with
  | zero =>
    intro L l1 g0 g1 h0 hn hQ
    generalize hμ : hf_mp φ0 195 0 (l1).toNat (fun _ => 0) = φ
    refine sf_172_192_v2 g0 g1 ?_
    refine ⟨by unfold hi; omega, by unfold hi; omega, fun q1 => ?_, fun q1 => ?_⟩
    · skip
      obtain rfl : l1 = 99 := by omega
      subst hμ
      exact hQ L g0 g1
    · exfalso
      omega
  | succ n ih =>
    intro L l1 g0 g1 h0 hn hQ
    generalize hμ : hf_mp φ0 195 0 (l1).toNat (fun _ => 0) = φ
    refine sf_172_192_v2 g0 g1 ?_
    refine ⟨by unfold hi; omega, by unfold hi; omega, fun q1 => ?_, fun q1 => ?_⟩
    · skip
      obtain rfl : l1 = 99 := by omega
      subst hμ
      exact hQ L g0 g1
    · skip
      refine ⟨by omega, by omega, ?_⟩
      have hk : (l1).toNat = 0 + (l1).toNat := by omega
      have hv : (0 : Int) = (fun _ => 0) (l1).toNat := rfl
      have he := hf_mp_s (φ := φ0) (b := 195) (ob := 0) (f := (fun _ => 0)) hk hv
      rw [hμ, show (l1).toNat + 1 = (l1 + 1).toNat by omega] at he
      rw [he]
      exact ih (jm_st1 L 1 (0, l1 + 1)) (l1 + 1) (get_st1 g0 (by decide) (fun q => tg2 q.2)) get_st1e (by omega) (by omega) hQ
theorem sf_172_192_M2 {sc : List Int} {d x : Nat} {Q : Option jm_V → hf_F → Nat → Prop} {φ0 : hf_F}  {L : jm_L} (g0 : jm_get L 0 = some (2, 192)) (g1 : jm_get L 1 = some (0, 0))  (hQ : (∀ (L1 : jm_L), jm_get L1 0 = some (2, 192) → jm_get L1 1 = some (0, 99) → hw sc d 172 21 L1 [] (hf_mp φ0 195 0 99 (fun _ => 0)) x Q)) : hw sc d 172 2 L [] φ0 x Q := by
  have h := sf_172_192_m2 (φ0 := φ0)  99 L 0 g0 g1 (by decide) (by omega) hQ
  rw [show hf_mp φ0 195 0 ((0 : Int)).toNat (fun _ => 0) = φ0 from hf_mp_0] at h
  exact h
theorem sf_172_192_v {sc : List Int} {d : Nat} {φ : hf_F} {x : Nat} {Q : Option jm_V → hf_F → Nat → Prop} 
    (H : (∀ (Lm1 : jm_L), jm_get Lm1 0 = some (2, 192) → jm_get Lm1 1 = some (0, 99) → (Q none (hf_mp φ 195 0 99 (fun _ => 0)) x))) :
    hw sc d 172 0 [(0, (2, 192))] [] φ x Q := by
  refine hw_k (c := 0) (b := 0) (e := 1) (by decide +kernel) ?_
  refine hw_st (L' := (jm_st1 [(0, (2, 192))] 1 (0, 0))) (b := 1) (e := 0) (by decide +kernel) rfl ?_
  refine sf_172_192_M2 (φ0 := φ) (get_st1 rfl (by decide) (fun q => tg2 q.2)) get_st1e  (fun Lm1 w1_0 w1_1 => ?_)
  have H := H Lm1 w1_0 w1_1
  exact hw_vret (a0 := 0) (e := 0) (by decide +kernel) H
theorem sf_172_192 {sc : List Int} {d : Nat} {φ : hf_F} {x : Nat} {Q : Option jm_V → hf_F → Nat → Prop}  (hI : Inv φ)  (hQ : ∀ ψ : hf_F, Inv ψ → Fr [195] φ ψ → F_RideLawsModel_clears_192 φ = ψ → Q none ψ x) : hw sc d 172 0 [(0, (2, 192))] [] φ x Q := by
  apply sf_172_192_v
  have e0 : F_RideLawsModel_clears_192 φ = _ := rfl
  intro Lm1 w1_0 w1_1
  have i1 : Inv (hf_mp φ 195 0 99 (fun _ => 0)) := iv_clear hI
  have r1 : Fr [195] φ (hf_mp φ 195 0 99 (fun _ => 0)) := fr_mp (fr_rf) (by decide)
  exact hQ (hf_mp φ 195 0 99 (fun _ => 0)) i1 r1 e0
theorem sf_233_192_v2 {sc : List Int} {d : Nat} {φ : hf_F} {x : Nat} {Q : Option jm_V → hf_F → Nat → Prop} {L : jm_L} {l1 : Int} (g0 : jm_get L 0 = some (2, 192)) (g1 : jm_get L 1 = some (0, l1))
    (H : hi l1 ∧ hi 81 ∧ (81 ≤ l1 → hw sc d 233 29 L [] φ x Q) ∧ (¬ 81 ≤ l1 → 0 ≤ (99 + l1) ∧ (99 + l1) < 361 ∧ (0 ≤ l1 ∧ l1 < 81 ∧ (hw sc d 233 2 (jm_st1 L 1 (0, l1 + 1)) [] (hf_up φ 200 ((l1).toNat) (φ 194 ((99 + l1).toNat))) x Q)))) :
    hw sc d 233 2 L [] φ x Q := by
  refine hw_ld (b := 1) (e := 0) (by decide +kernel) g1 ?_
  refine hw_k (c := 81) (b := 1) (e := 2) (by decide +kernel) ?_
  obtain ⟨hz1, hy1, ht1, hf1⟩ := H
  refine hw_if2 (a0 := 0) (b := 3) (e := 29) (by decide +kernel) hz1 hy1 (fun q => ?_) (fun q => ?_)
  · have H := ht1 q
    exact H
  · have H := hf1 q
    refine hw_ald (b := 0) (e := 0) (by decide +kernel) g0 (by decide) ?_
    refine hr_gr (w := 200) (b := 12) (e := 21) 192 rfl (by decide +kernel) ?_
    refine hw_ld (b := 1) (e := 0) (by decide +kernel) g1 ?_
    refine hw_ald (b := 0) (e := 0) (by decide +kernel) g0 (by decide) ?_
    refine hr_gr (w := 194) (b := 12) (e := 6) 192 rfl (by decide +kernel) ?_
    refine hw_k (c := 99) (b := 1) (e := 2) (by decide +kernel) ?_
    refine hw_ld (b := 1) (e := 0) (by decide +kernel) g1 ?_
    refine hw_bin (w := 99 + l1) (a0 := 0) (b := 0) (e := 0) (by decide +kernel) rfl ?_
    obtain ⟨hl2, hu2, H⟩ := H
    refine hr_al (b := 0) (a0 := 0) (e := 0) (n := 361) (w := φ 194 ((99 + l1).toNat)) 194 rfl (by decide +kernel) (by decide) hl2 hu2 rfl ?_
    obtain ⟨hl3, hu3, H⟩ := H
    refine hr_as (a0 := 0) (e := 4) (n := 81) 200 rfl (by decide +kernel) hl3 hu3 ?_
    refine hw_inc (L' := (jm_st1 L 1 (0, l1 + 1))) (c := 1) (b := 1) (e := 0) (by decide +kernel) g1 rfl ?_
    refine hw_goto (a0 := 0) (b := 0) (e := 2) (by decide +kernel) ?_
    exact H
theorem sf_233_192_m2 {sc : List Int} {d x : Nat} {Q : Option jm_V → hf_F → Nat → Prop} {φ0 : hf_F}  : ∀ (n : Nat) (L : jm_L) (l1 : Int), jm_get L 0 = some (2, 192) → jm_get L 1 = some (0, l1) → 0 ≤ l1 → l1 + (n : Int) = 81 → (∀ (L1 : jm_L), jm_get L1 0 = some (2, 192) → jm_get L1 1 = some (0, 81) → hw sc d 233 29 L1 [] (hf_mp φ0 200 0 81 (fun j => φ0 194 (99 + j))) x Q) → hw sc d 233 2 L [] (hf_mp φ0 200 0 (l1).toNat (fun j => φ0 194 (99 + j))) x Q := by
  intro n
  induction n with
  | zero =>
    intro L l1 g0 g1 h0 hn hQ
    generalize hμ : hf_mp φ0 200 0 (l1).toNat (fun j => φ0 194 (99 + j)) = φ
    refine sf_233_192_v2 g0 g1 ?_
    refine ⟨by unfold hi; omega, by unfold hi; omega, fun q1 => ?_, fun q1 => ?_⟩
    · skip
      obtain rfl : l1 = 81 := by omega
      subst hμ
      exact hQ L g0 g1
    · exfalso
      omega
  | succ n ih =>
    intro L l1 g0 g1 h0 hn hQ
    generalize hμ : hf_mp φ0 200 0 (l1).toNat (fun j => φ0 194 (99 + j)) = φ
    refine sf_233_192_v2 g0 g1 ?_
    refine ⟨by unfold hi; omega, by unfold hi; omega, fun q1 => ?_, fun q1 => ?_⟩
    · skip
      obtain rfl : l1 = 81 := by omega
      subst hμ
      exact hQ L g0 g1
    · skip
      refine ⟨by omega, by omega, ?_⟩
      refine ⟨by omega, by omega, ?_⟩
      have hk : (l1).toNat = 0 + (l1).toNat := by omega
      have hv : (φ 194 ((99 + l1).toNat) : Int) = (fun j => φ0 194 (99 + j)) (l1).toNat := (congrArg (φ 194) (show ((99 + l1).toNat) = 99 + (l1).toNat by omega)).trans (by rw [← hμ]; exact hf_mp_ne (by omega))
      have he := hf_mp_s (φ := φ0) (b := 200) (ob := 0) (f := (fun j => φ0 194 (99 + j))) hk hv
      rw [hμ, show (l1).toNat + 1 = (l1 + 1).toNat by omega] at he
      rw [he]
      exact ih (jm_st1 L 1 (0, l1 + 1)) (l1 + 1) (get_st1 g0 (by decide) (fun q => tg2 q.2)) get_st1e (by omega) (by omega) hQ
theorem sf_233_192_M2 {sc : List Int} {d x : Nat} {Q : Option jm_V → hf_F → Nat → Prop} {φ0 : hf_F}  {L : jm_L} (g0 : jm_get L 0 = some (2, 192)) (g1 : jm_get L 1 = some (0, 0))  (hQ : (∀ (L1 : jm_L), jm_get L1 0 = some (2, 192) → jm_get L1 1 = some (0, 81) → hw sc d 233 29 L1 [] (hf_mp φ0 200 0 81 (fun j => φ0 194 (99 + j))) x Q)) : hw sc d 233 2 L [] φ0 x Q := by
  have h := sf_233_192_m2 (φ0 := φ0)  81 L 0 g0 g1 (by decide) (by omega) hQ
  rw [show hf_mp φ0 200 0 ((0 : Int)).toNat (fun j => φ0 194 (99 + j)) = φ0 from hf_mp_0] at h
  exact h
theorem sf_233_192_v {sc : List Int} {d : Nat} {φ : hf_F} {x : Nat} {Q : Option jm_V → hf_F → Nat → Prop} 
    (H : (∀ (Lm1 : jm_L), jm_get Lm1 0 = some (2, 192) → jm_get Lm1 1 = some (0, 81) → (Q none (hf_mp φ 200 0 81 (fun j => φ 194 (99 + j))) x))) :
    hw sc d 233 0 [(0, (2, 192))] [] φ x Q := by
  refine hw_k (c := 0) (b := 0) (e := 1) (by decide +kernel) ?_
  refine hw_st (L' := (jm_st1 [(0, (2, 192))] 1 (0, 0))) (b := 1) (e := 0) (by decide +kernel) rfl ?_
  refine sf_233_192_M2 (φ0 := φ) (get_st1 rfl (by decide) (fun q => tg2 q.2)) get_st1e  (fun Lm1 w1_0 w1_1 => ?_)
  have H := H Lm1 w1_0 w1_1
  exact hw_vret (a0 := 0) (e := 0) (by decide +kernel) H
theorem sf_233_192 {sc : List Int} {d : Nat} {φ : hf_F} {x : Nat} {Q : Option jm_V → hf_F → Nat → Prop}  (hI : Inv φ)  (hQ : ∀ ψ : hf_F, Inv ψ → Fr [200] φ ψ → F_RideLawsModel_tries_192 φ = ψ → Q none ψ x) : hw sc d 233 0 [(0, (2, 192))] [] φ x Q := by
  apply sf_233_192_v
  have e0 : F_RideLawsModel_tries_192 φ = _ := rfl
  intro Lm1 w1_0 w1_1
  have i1 : Inv (hf_mp φ 200 0 81 (fun j => φ 194 (99 + j))) := iv_mpc hI (by decide +kernel) (by decide +kernel)
  have r1 : Fr [200] φ (hf_mp φ 200 0 81 (fun j => φ 194 (99 + j))) := fr_mp (fr_rf) (by decide)
  exact hQ (hf_mp φ 200 0 81 (fun j => φ 194 (99 + j))) i1 r1 e0
theorem sf_235_192_v2 {sc : List Int} {d : Nat} {φ : hf_F} {x : Nat} {Q : Option jm_V → hf_F → Nat → Prop} {L : jm_L} {l1 : Int} (g0 : jm_get L 0 = some (2, 192)) (g1 : jm_get L 1 = some (0, l1))
    (H : hi l1 ∧ hi 81 ∧ (81 ≤ l1 → hw sc d 235 29 L [] φ x Q) ∧ (¬ 81 ≤ l1 → 0 ≤ l1 ∧ l1 < 81 ∧ (0 ≤ (99 + l1) ∧ (99 + l1) < 361 ∧ (hw sc d 235 2 (jm_st1 L 1 (0, l1 + 1)) [] (hf_up φ 194 ((99 + l1).toNat) (φ 200 ((l1).toNat))) x Q)))) :
    hw sc d 235 2 L [] φ x Q := by
  refine hw_ld (b := 1) (e := 0) (by decide +kernel) g1 ?_
  refine hw_k (c := 81) (b := 1) (e := 2) (by decide +kernel) ?_
  obtain ⟨hz1, hy1, ht1, hf1⟩ := H
  refine hw_if2 (a0 := 0) (b := 3) (e := 29) (by decide +kernel) hz1 hy1 (fun q => ?_) (fun q => ?_)
  · have H := ht1 q
    exact H
  · have H := hf1 q
    refine hw_ald (b := 0) (e := 0) (by decide +kernel) g0 (by decide) ?_
    refine hr_gr (w := 194) (b := 12) (e := 6) 192 rfl (by decide +kernel) ?_
    refine hw_k (c := 99) (b := 1) (e := 2) (by decide +kernel) ?_
    refine hw_ld (b := 1) (e := 0) (by decide +kernel) g1 ?_
    refine hw_bin (w := 99 + l1) (a0 := 0) (b := 0) (e := 0) (by decide +kernel) rfl ?_
    refine hw_ald (b := 0) (e := 0) (by decide +kernel) g0 (by decide) ?_
    refine hr_gr (w := 200) (b := 12) (e := 21) 192 rfl (by decide +kernel) ?_
    refine hw_ld (b := 1) (e := 0) (by decide +kernel) g1 ?_
    obtain ⟨hl2, hu2, H⟩ := H
    refine hr_al (b := 0) (a0 := 0) (e := 0) (n := 81) (w := φ 200 ((l1).toNat)) 200 rfl (by decide +kernel) (by decide) hl2 hu2 rfl ?_
    obtain ⟨hl3, hu3, H⟩ := H
    refine hr_as (a0 := 0) (e := 4) (n := 361) 194 rfl (by decide +kernel) hl3 hu3 ?_
    refine hw_inc (L' := (jm_st1 L 1 (0, l1 + 1))) (c := 1) (b := 1) (e := 0) (by decide +kernel) g1 rfl ?_
    refine hw_goto (a0 := 0) (b := 0) (e := 2) (by decide +kernel) ?_
    exact H
theorem sf_235_192_m2 {sc : List Int} {d x : Nat} {Q : Option jm_V → hf_F → Nat → Prop} {φ0 : hf_F}  : ∀ (n : Nat) (L : jm_L) (l1 : Int), jm_get L 0 = some (2, 192) → jm_get L 1 = some (0, l1) → 0 ≤ l1 → l1 + (n : Int) = 81 → (∀ (L1 : jm_L), jm_get L1 0 = some (2, 192) → jm_get L1 1 = some (0, 81) → hw sc d 235 29 L1 [] (hf_mp φ0 194 99 81 (fun j => φ0 200 (0 + j))) x Q) → hw sc d 235 2 L [] (hf_mp φ0 194 99 (l1).toNat (fun j => φ0 200 (0 + j))) x Q := by
  intro n
  induction n with
  | zero =>
    intro L l1 g0 g1 h0 hn hQ
    generalize hμ : hf_mp φ0 194 99 (l1).toNat (fun j => φ0 200 (0 + j)) = φ
    refine sf_235_192_v2 g0 g1 ?_
    refine ⟨by unfold hi; omega, by unfold hi; omega, fun q1 => ?_, fun q1 => ?_⟩
    · skip
      obtain rfl : l1 = 81 := by omega
      subst hμ
      exact hQ L g0 g1
    · exfalso
      omega
  | succ n ih =>
    intro L l1 g0 g1 h0 hn hQ
    generalize hμ : hf_mp φ0 194 99 (l1).toNat (fun j => φ0 200 (0 + j)) = φ
    refine sf_235_192_v2 g0 g1 ?_
    refine ⟨by unfold hi; omega, by unfold hi; omega, fun q1 => ?_, fun q1 => ?_⟩
    · skip
      obtain rfl : l1 = 81 := by omega
      subst hμ
      exact hQ L g0 g1
    · skip
      refine ⟨by omega, by omega, ?_⟩
      refine ⟨by omega, by omega, ?_⟩
      have hk : (99 + l1).toNat = 99 + (l1).toNat := by omega
      have hv : (φ 200 ((l1).toNat) : Int) = (fun j => φ0 200 (0 + j)) (l1).toNat := (congrArg (φ 200) (show ((l1).toNat) = 0 + (l1).toNat by omega)).trans (by rw [← hμ]; exact hf_mp_ne (by omega))
      have he := hf_mp_s (φ := φ0) (b := 194) (ob := 99) (f := (fun j => φ0 200 (0 + j))) hk hv
      rw [hμ, show (l1).toNat + 1 = (l1 + 1).toNat by omega] at he
      rw [he]
      exact ih (jm_st1 L 1 (0, l1 + 1)) (l1 + 1) (get_st1 g0 (by decide) (fun q => tg2 q.2)) get_st1e (by omega) (by omega) hQ
theorem sf_235_192_M2 {sc : List Int} {d x : Nat} {Q : Option jm_V → hf_F → Nat → Prop} {φ0 : hf_F}  {L : jm_L} (g0 : jm_get L 0 = some (2, 192)) (g1 : jm_get L 1 = some (0, 0))  (hQ : (∀ (L1 : jm_L), jm_get L1 0 = some (2, 192) → jm_get L1 1 = some (0, 81) → hw sc d 235 29 L1 [] (hf_mp φ0 194 99 81 (fun j => φ0 200 (0 + j))) x Q)) : hw sc d 235 2 L [] φ0 x Q := by
  have h := sf_235_192_m2 (φ0 := φ0)  81 L 0 g0 g1 (by decide) (by omega) hQ
  rw [show hf_mp φ0 194 99 ((0 : Int)).toNat (fun j => φ0 200 (0 + j)) = φ0 from hf_mp_0] at h
  exact h
theorem sf_235_192_v {sc : List Int} {d : Nat} {φ : hf_F} {x : Nat} {Q : Option jm_V → hf_F → Nat → Prop} 
    (H : (∀ (Lm1 : jm_L), jm_get Lm1 0 = some (2, 192) → jm_get Lm1 1 = some (0, 81) → (Q none (hf_mp φ 194 99 81 (fun j => φ 200 (0 + j))) x))) :
    hw sc d 235 0 [(0, (2, 192))] [] φ x Q := by
  refine hw_k (c := 0) (b := 0) (e := 1) (by decide +kernel) ?_
  refine hw_st (L' := (jm_st1 [(0, (2, 192))] 1 (0, 0))) (b := 1) (e := 0) (by decide +kernel) rfl ?_
  refine sf_235_192_M2 (φ0 := φ) (get_st1 rfl (by decide) (fun q => tg2 q.2)) get_st1e  (fun Lm1 w1_0 w1_1 => ?_)
  have H := H Lm1 w1_0 w1_1
  exact hw_vret (a0 := 0) (e := 0) (by decide +kernel) H
theorem sf_235_192 {sc : List Int} {d : Nat} {φ : hf_F} {x : Nat} {Q : Option jm_V → hf_F → Nat → Prop}  (hI : Inv φ)  (hQ : ∀ ψ : hf_F, Inv ψ → Fr [194] φ ψ → F_RideLawsModel_back_192 φ = ψ → Q none ψ x) : hw sc d 235 0 [(0, (2, 192))] [] φ x Q := by
  apply sf_235_192_v
  have e0 : F_RideLawsModel_back_192 φ = _ := rfl
  intro Lm1 w1_0 w1_1
  have i1 : Inv (hf_mp φ 194 99 81 (fun j => φ 200 (0 + j))) := iv_mpc hI (by decide +kernel) (by decide +kernel)
  have r1 : Fr [194] φ (hf_mp φ 194 99 81 (fun j => φ 200 (0 + j))) := fr_mp (fr_rf) (by decide)
  exact hQ (hf_mp φ 194 99 81 (fun j => φ 200 (0 + j))) i1 r1 e0
theorem sf_216_192_v47 {sc : List Int} {d : Nat} {φ : hf_F} {x : Nat} {Q : Option jm_V → hf_F → Nat → Prop} {L : jm_L} {l1 : Int} (g0 : jm_get L 0 = some (2, 192)) (g1 : jm_get L 1 = some (0, l1))
    (H : hi l1 ∧ hi 81 ∧ (81 ≤ l1 → hw sc d 216 82 L [] φ x Q) ∧ (¬ 81 ≤ l1 → 0 ≤ (99 + l1) ∧ (99 + l1) < 361 ∧ (0 ≤ ((81 * (φ 192 22)) + l1) ∧ ((81 * (φ 192 22)) + l1) < 648 ∧ (hw sc d 216 47 (jm_st1 L 1 (0, l1 + 1)) [] (hf_up φ 199 (((81 * (φ 192 22)) + l1).toNat) (φ 194 ((99 + l1).toNat))) x Q)))) :
    hw sc d 216 47 L [] φ x Q := by
  refine hw_ld (b := 1) (e := 0) (by decide +kernel) g1 ?_
  refine hw_k (c := 81) (b := 1) (e := 2) (by decide +kernel) ?_
  obtain ⟨hz1, hy1, ht1, hf1⟩ := H
  refine hw_if2 (a0 := 0) (b := 3) (e := 82) (by decide +kernel) hz1 hy1 (fun q => ?_) (fun q => ?_)
  · have H := ht1 q
    exact H
  · have H := hf1 q
    refine hw_ald (b := 0) (e := 0) (by decide +kernel) g0 (by decide) ?_
    refine hr_gr (w := 199) (b := 12) (e := 20) 192 rfl (by decide +kernel) ?_
    refine hw_k (c := 81) (b := 1) (e := 2) (by decide +kernel) ?_
    refine hw_ald (b := 0) (e := 0) (by decide +kernel) g0 (by decide) ?_
    refine hr_gi (w := φ 192 22) (b := 12) (e := 22) 192 rfl (by decide +kernel) rfl ?_
    refine hw_bin (w := 81 * (φ 192 22)) (a0 := 0) (b := 2) (e := 0) (by decide +kernel) rfl ?_
    refine hw_ld (b := 1) (e := 0) (by decide +kernel) g1 ?_
    refine hw_bin (w := (81 * (φ 192 22)) + l1) (a0 := 0) (b := 0) (e := 0) (by decide +kernel) rfl ?_
    refine hw_ald (b := 0) (e := 0) (by decide +kernel) g0 (by decide) ?_
    refine hr_gr (w := 194) (b := 12) (e := 6) 192 rfl (by decide +kernel) ?_
    refine hw_k (c := 99) (b := 1) (e := 2) (by decide +kernel) ?_
    refine hw_ld (b := 1) (e := 0) (by decide +kernel) g1 ?_
    refine hw_bin (w := 99 + l1) (a0 := 0) (b := 0) (e := 0) (by decide +kernel) rfl ?_
    obtain ⟨hl2, hu2, H⟩ := H
    refine hr_al (b := 0) (a0 := 0) (e := 0) (n := 361) (w := φ 194 ((99 + l1).toNat)) 194 rfl (by decide +kernel) (by decide) hl2 hu2 rfl ?_
    obtain ⟨hl3, hu3, H⟩ := H
    refine hr_as (a0 := 0) (e := 4) (n := 648) 199 rfl (by decide +kernel) hl3 hu3 ?_
    refine hw_inc (L' := (jm_st1 L 1 (0, l1 + 1))) (c := 1) (b := 1) (e := 0) (by decide +kernel) g1 rfl ?_
    refine hw_goto (a0 := 0) (b := 0) (e := 47) (by decide +kernel) ?_
    exact H
theorem sf_216_192_m47 {sc : List Int} {d x : Nat} {Q : Option jm_V → hf_F → Nat → Prop} {φ0 : hf_F} (hs0 : 0 ≤ φ0 192 22) (hs1 : φ0 192 22 ≤ 7) : ∀ (n : Nat) (L : jm_L) (l1 : Int), jm_get L 0 = some (2, 192) → jm_get L 1 = some (0, l1) → 0 ≤ l1 → l1 + (n : Int) = 81 → (∀ (L1 : jm_L), jm_get L1 0 = some (2, 192) → jm_get L1 1 = some (0, 81) → hw sc d 216 82 L1 [] (hf_mp φ0 199 ((81 * φ0 192 22).toNat) 81 (fun j => φ0 194 (99 + j))) x Q) → hw sc d 216 47 L [] (hf_mp φ0 199 ((81 * φ0 192 22).toNat) (l1).toNat (fun j => φ0 194 (99 + j))) x Q := by
  intro n
  induction n with
  | zero =>
    intro L l1 g0 g1 h0 hn hQ
    generalize hμ : hf_mp φ0 199 ((81 * φ0 192 22).toNat) (l1).toNat (fun j => φ0 194 (99 + j)) = φ
    have ec192_22 : φ 192 22 = φ0 192 22 := by rw [← hμ]; exact hf_mp_ne (by omega)
    refine sf_216_192_v47 g0 g1 ?_
    refine ⟨by unfold hi; omega, by unfold hi; omega, fun q1 => ?_, fun q1 => ?_⟩
    · skip
      obtain rfl : l1 = 81 := by omega
      subst hμ
      exact hQ L g0 g1
    · exfalso
      omega
  | succ n ih =>
    intro L l1 g0 g1 h0 hn hQ
    generalize hμ : hf_mp φ0 199 ((81 * φ0 192 22).toNat) (l1).toNat (fun j => φ0 194 (99 + j)) = φ
    have ec192_22 : φ 192 22 = φ0 192 22 := by rw [← hμ]; exact hf_mp_ne (by omega)
    refine sf_216_192_v47 g0 g1 ?_
    refine ⟨by unfold hi; omega, by unfold hi; omega, fun q1 => ?_, fun q1 => ?_⟩
    · skip
      obtain rfl : l1 = 81 := by omega
      subst hμ
      exact hQ L g0 g1
    · skip
      refine ⟨by omega, by omega, ?_⟩
      refine ⟨by omega, by omega, ?_⟩
      have ec192_22 : φ 192 22 = φ0 192 22 := by rw [← hμ]; exact hf_mp_ne (by omega)
      have hk : ((81 * (φ 192 22)) + l1).toNat = ((81 * φ0 192 22).toNat) + (l1).toNat := by omega
      have hv : (φ 194 ((99 + l1).toNat) : Int) = (fun j => φ0 194 (99 + j)) (l1).toNat := (congrArg (φ 194) (show ((99 + l1).toNat) = 99 + (l1).toNat by omega)).trans (by rw [← hμ]; exact hf_mp_ne (by omega))
      have he := hf_mp_s (φ := φ0) (b := 199) (ob := (81 * φ0 192 22).toNat) (f := (fun j => φ0 194 (99 + j))) hk hv
      rw [hμ, show (l1).toNat + 1 = (l1 + 1).toNat by omega] at he
      rw [he]
      exact ih (jm_st1 L 1 (0, l1 + 1)) (l1 + 1) (get_st1 g0 (by decide) (fun q => tg2 q.2)) get_st1e (by omega) (by omega) hQ
theorem sf_216_192_M47 {sc : List Int} {d x : Nat} {Q : Option jm_V → hf_F → Nat → Prop} {φ0 : hf_F} {L : jm_L} (g0 : jm_get L 0 = some (2, 192)) (g1 : jm_get L 1 = some (0, 0)) (hs0 : 0 ≤ φ0 192 22) (hs1 : φ0 192 22 ≤ 7) (hQ : (∀ (L1 : jm_L), jm_get L1 0 = some (2, 192) → jm_get L1 1 = some (0, 81) → hw sc d 216 82 L1 [] (hf_mp φ0 199 ((81 * φ0 192 22).toNat) 81 (fun j => φ0 194 (99 + j))) x Q)) : hw sc d 216 47 L [] φ0 x Q := by
  have h := sf_216_192_m47 (φ0 := φ0) hs0 hs1 81 L 0 g0 g1 (by decide) (by omega) hQ
  rw [show hf_mp φ0 199 ((81 * φ0 192 22).toNat) ((0 : Int)).toNat (fun j => φ0 194 (99 + j)) = φ0 from hf_mp_0] at h
  exact h
theorem sf_216_192_v11 {sc : List Int} {d : Nat} {φ : hf_F} {x : Nat} {Q : Option jm_V → hf_F → Nat → Prop} {L : jm_L} {l1 : Int} (g0 : jm_get L 0 = some (2, 192)) (g1 : jm_get L 1 = some (0, l1))
    (H : hi l1 ∧ hi 567 ∧ (567 ≤ l1 → hw sc d 216 39 L [] φ x Q) ∧ (¬ 567 ≤ l1 → 0 ≤ (l1 + 81) ∧ (l1 + 81) < 648 ∧ (0 ≤ l1 ∧ l1 < 648 ∧ (hw sc d 216 11 (jm_st1 L 1 (0, l1 + 1)) [] (hf_up φ 199 ((l1).toNat) (φ 199 ((l1 + 81).toNat))) x Q)))) :
    hw sc d 216 11 L [] φ x Q := by
  refine hw_ld (b := 1) (e := 0) (by decide +kernel) g1 ?_
  refine hw_k (c := 567) (b := 2) (e := 3) (by decide +kernel) ?_
  obtain ⟨hz1, hy1, ht1, hf1⟩ := H
  refine hw_if2 (a0 := 0) (b := 3) (e := 39) (by decide +kernel) hz1 hy1 (fun q => ?_) (fun q => ?_)
  · have H := ht1 q
    exact H
  · have H := hf1 q
    refine hw_ald (b := 0) (e := 0) (by decide +kernel) g0 (by decide) ?_
    refine hr_gr (w := 199) (b := 12) (e := 20) 192 rfl (by decide +kernel) ?_
    refine hw_ld (b := 1) (e := 0) (by decide +kernel) g1 ?_
    refine hw_ald (b := 0) (e := 0) (by decide +kernel) g0 (by decide) ?_
    refine hr_gr (w := 199) (b := 12) (e := 20) 192 rfl (by decide +kernel) ?_
    refine hw_ld (b := 1) (e := 0) (by decide +kernel) g1 ?_
    refine hw_k (c := 81) (b := 1) (e := 2) (by decide +kernel) ?_
    refine hw_bin (w := l1 + 81) (a0 := 0) (b := 0) (e := 0) (by decide +kernel) rfl ?_
    obtain ⟨hl2, hu2, H⟩ := H
    refine hr_al (b := 0) (a0 := 0) (e := 0) (n := 648) (w := φ 199 ((l1 + 81).toNat)) 199 rfl (by decide +kernel) (by decide) hl2 hu2 rfl ?_
    obtain ⟨hl3, hu3, H⟩ := H
    refine hr_as (a0 := 0) (e := 4) (n := 648) 199 rfl (by decide +kernel) hl3 hu3 ?_
    refine hw_inc (L' := (jm_st1 L 1 (0, l1 + 1))) (c := 1) (b := 1) (e := 0) (by decide +kernel) g1 rfl ?_
    refine hw_goto (a0 := 0) (b := 0) (e := 11) (by decide +kernel) ?_
    exact H
theorem sf_216_192_m11 {sc : List Int} {d x : Nat} {Q : Option jm_V → hf_F → Nat → Prop} {φ0 : hf_F}  : ∀ (n : Nat) (L : jm_L) (l1 : Int), jm_get L 0 = some (2, 192) → jm_get L 1 = some (0, l1) → 0 ≤ l1 → l1 + (n : Int) = 567 → (∀ (L1 : jm_L), jm_get L1 0 = some (2, 192) → jm_get L1 1 = some (0, 567) → hw sc d 216 39 L1 [] (hf_mp φ0 199 0 567 (fun j => φ0 199 (81 + j))) x Q) → hw sc d 216 11 L [] (hf_mp φ0 199 0 (l1).toNat (fun j => φ0 199 (81 + j))) x Q := by
  intro n
  induction n with
  | zero =>
    intro L l1 g0 g1 h0 hn hQ
    generalize hμ : hf_mp φ0 199 0 (l1).toNat (fun j => φ0 199 (81 + j)) = φ
    refine sf_216_192_v11 g0 g1 ?_
    refine ⟨by unfold hi; omega, by unfold hi; omega, fun q1 => ?_, fun q1 => ?_⟩
    · skip
      obtain rfl : l1 = 567 := by omega
      subst hμ
      exact hQ L g0 g1
    · exfalso
      omega
  | succ n ih =>
    intro L l1 g0 g1 h0 hn hQ
    generalize hμ : hf_mp φ0 199 0 (l1).toNat (fun j => φ0 199 (81 + j)) = φ
    refine sf_216_192_v11 g0 g1 ?_
    refine ⟨by unfold hi; omega, by unfold hi; omega, fun q1 => ?_, fun q1 => ?_⟩
    · skip
      obtain rfl : l1 = 567 := by omega
      subst hμ
      exact hQ L g0 g1
    · skip
      refine ⟨by omega, by omega, ?_⟩
      refine ⟨by omega, by omega, ?_⟩
      have hk : (l1).toNat = 0 + (l1).toNat := by omega
      have hv : (φ 199 ((l1 + 81).toNat) : Int) = (fun j => φ0 199 (81 + j)) (l1).toNat := (congrArg (φ 199) (show ((l1 + 81).toNat) = 81 + (l1).toNat by omega)).trans (by rw [← hμ]; exact hf_mp_ne (by omega))
      have he := hf_mp_s (φ := φ0) (b := 199) (ob := 0) (f := (fun j => φ0 199 (81 + j))) hk hv
      rw [hμ, show (l1).toNat + 1 = (l1 + 1).toNat by omega] at he
      rw [he]
      exact ih (jm_st1 L 1 (0, l1 + 1)) (l1 + 1) (get_st1 g0 (by decide) (fun q => tg2 q.2)) get_st1e (by omega) (by omega) hQ
theorem sf_216_192_M11 {sc : List Int} {d x : Nat} {Q : Option jm_V → hf_F → Nat → Prop} {φ0 : hf_F}  {L : jm_L} (g0 : jm_get L 0 = some (2, 192)) (g1 : jm_get L 1 = some (0, 0))  (hQ : (∀ (L1 : jm_L), jm_get L1 0 = some (2, 192) → jm_get L1 1 = some (0, 567) → hw sc d 216 39 L1 [] (hf_mp φ0 199 0 567 (fun j => φ0 199 (81 + j))) x Q)) : hw sc d 216 11 L [] φ0 x Q := by
  have h := sf_216_192_m11 (φ0 := φ0)  567 L 0 g0 g1 (by decide) (by omega) hQ
  rw [show hf_mp φ0 199 0 ((0 : Int)).toNat (fun j => φ0 199 (81 + j)) = φ0 from hf_mp_0] at h
  exact h
theorem sf_216_192_v {sc : List Int} {d : Nat} {φ : hf_F} {x : Nat} {Q : Option jm_V → hf_F → Nat → Prop} 
    (H : hi (φ 192 22) ∧ hi 8 ∧ (¬ (φ 192 22) = 8 → (0 ≤ φ 192 22) ∧ (φ 192 22 ≤ 7) ∧ (∀ (Lm2 : jm_L), jm_get Lm2 0 = some (2, 192) → jm_get Lm2 1 = some (0, 81) → (Q none (hf_up (hf_mp φ 199 ((81 * φ 192 22).toNat) 81 (fun j => φ 194 (99 + j))) 192 22 ((φ 192 22) + 1)) x))) ∧ (¬ (¬ (φ 192 22) = 8) → (∀ (Lm4 : jm_L), jm_get Lm4 0 = some (2, 192) → jm_get Lm4 1 = some (0, 567) → ((0 ≤ (hf_up (hf_mp φ 199 0 567 (fun j => φ 199 (81 + j))) 192 22 7) 192 22) ∧ ((hf_up (hf_mp φ 199 0 567 (fun j => φ 199 (81 + j))) 192 22 7) 192 22 ≤ 7) ∧ (∀ (Lm5 : jm_L), jm_get Lm5 0 = some (2, 192) → jm_get Lm5 1 = some (0, 81) → (Q none (hf_up (hf_mp (hf_up (hf_mp φ 199 0 567 (fun j => φ 199 (81 + j))) 192 22 7) 199 ((81 * (hf_up (hf_mp φ 199 0 567 (fun j => φ 199 (81 + j))) 192 22 7) 192 22).toNat) 81 (fun j => (hf_up (hf_mp φ 199 0 567 (fun j => φ 199 (81 + j))) 192 22 7) 194 (99 + j))) 192 22 8) x)))))) :
    hw sc d 216 0 [(0, (2, 192))] [] φ x Q := by
  refine hw_ald (b := 0) (e := 0) (by decide +kernel) rfl (by decide) ?_
  refine hr_gi (w := φ 192 22) (b := 12) (e := 22) 192 rfl (by decide +kernel) rfl ?_
  refine hw_k (c := 8) (b := 1) (e := 2) (by decide +kernel) ?_
  obtain ⟨hz1, hy1, ht1, hf1⟩ := H
  refine hw_if2 (a0 := 0) (b := 1) (e := 45) (by decide +kernel) hz1 hy1 (fun q => ?_) (fun q => ?_)
  · have H := ht1 q
    refine hw_k (c := 0) (b := 0) (e := 1) (by decide +kernel) ?_
    refine hw_st (L' := (jm_st1 [(0, (2, 192))] 1 (0, 0))) (b := 1) (e := 0) (by decide +kernel) rfl ?_
    obtain ⟨hs2_0, hs2_1, H⟩ := H
    refine sf_216_192_M47 (φ0 := φ) (get_st1 rfl (by decide) (fun q => tg2 q.2)) get_st1e hs2_0 hs2_1 (fun Lm2 w2_0 w2_1 => ?_)
    have H := H Lm2 w2_0 w2_1
    refine hw_ald (b := 0) (e := 0) (by decide +kernel) w2_0 (by decide) ?_
    refine hw_dup (a0 := 0) (e := 0) (by decide +kernel) (by decide) ?_
    refine hr_gi (w := φ 192 22) (b := 12) (e := 22) 192 rfl (by decide +kernel) (hf_mp_ne (fun q => absurd q.1 (by decide))) ?_
    refine hw_k (c := 1) (b := 0) (e := 1) (by decide +kernel) ?_
    refine hw_bin (w := (φ 192 22) + 1) (a0 := 0) (b := 0) (e := 0) (by decide +kernel) rfl ?_
    refine hr_pi (b := 12) (e := 22) 192 rfl (by decide +kernel) ?_
    exact hw_vret (a0 := 0) (e := 0) (by decide +kernel) H
  · have H := hf1 q
    refine hw_k (c := 0) (b := 0) (e := 1) (by decide +kernel) ?_
    refine hw_st (L' := (jm_st1 [(0, (2, 192))] 1 (0, 0))) (b := 1) (e := 0) (by decide +kernel) rfl ?_
    refine sf_216_192_M11 (φ0 := φ) (get_st1 rfl (by decide) (fun q => tg2 q.2)) get_st1e  (fun Lm4 w4_0 w4_1 => ?_)
    have H := H Lm4 w4_0 w4_1
    refine hw_ald (b := 0) (e := 0) (by decide +kernel) w4_0 (by decide) ?_
    refine hw_k (c := 7) (b := 1) (e := 2) (by decide +kernel) ?_
    refine hr_pi (b := 12) (e := 22) 192 rfl (by decide +kernel) ?_
    refine hw_k (c := 0) (b := 0) (e := 1) (by decide +kernel) ?_
    refine hw_st (L' := (jm_st1 Lm4 1 (0, 0))) (b := 1) (e := 0) (by decide +kernel) rfl ?_
    obtain ⟨hs5_0, hs5_1, H⟩ := H
    refine sf_216_192_M47 (φ0 := (hf_up (hf_mp φ 199 0 567 (fun j => φ 199 (81 + j))) 192 22 7)) (get_st1 w4_0 (by decide) (fun q => tg2 q.2)) get_st1e hs5_0 hs5_1 (fun Lm5 w5_0 w5_1 => ?_)
    have H := H Lm5 w5_0 w5_1
    refine hw_ald (b := 0) (e := 0) (by decide +kernel) w5_0 (by decide) ?_
    refine hw_dup (a0 := 0) (e := 0) (by decide +kernel) (by decide) ?_
    refine hr_gi (w := 7) (b := 12) (e := 22) 192 rfl (by decide +kernel) ((hf_mp_ne (fun q => absurd q.1 (by decide))).trans hf_up_eq) ?_
    refine hw_k (c := 1) (b := 0) (e := 1) (by decide +kernel) ?_
    refine hw_bin (w := 8) (a0 := 0) (b := 0) (e := 0) (by decide +kernel) rfl ?_
    refine hr_pi (b := 12) (e := 22) 192 rfl (by decide +kernel) ?_
    exact hw_vret (a0 := 0) (e := 0) (by decide +kernel) H
theorem sf_216_192 {sc : List Int} {d : Nat} {φ : hf_F} {x : Nat} {Q : Option jm_V → hf_F → Nat → Prop}  (hI : Inv φ)  (hQ : ∀ ψ : hf_F, Inv ψ → Fr [199, 193022] φ ψ → (1 ≤ ψ 192 22 ∧ ψ 192 22 ≤ 8) → F_RideLawsModel_keep_192 φ = ψ → Q none ψ x) : hw sc d 216 0 [(0, (2, 192))] [] φ x Q := by
  apply sf_216_192_v
  have e0 : F_RideLawsModel_keep_192 φ = _ := rfl
  have f1 := iv_at (a := 192) (k := 22) (lo := 0) (u := 8) hI (by decide +kernel)
  refine ⟨by unfold hi; omega, by unfold hi; omega, fun q1 => ?_, fun q1 => ?_⟩
  · skip
    have e1a := e0.trans (if_pos q1)
    refine ⟨by omega, by omega, fun Lm2 w2_0 w2_1 => ?_⟩
    have i2 : Inv (hf_mp φ 199 ((81 * φ 192 22).toNat) 81 (fun j => φ 194 (99 + j))) := iv_mpU (st := 81) (m := 8) (z := φ 192 22) hI (by decide +kernel) (by omega) (by omega)
    have r2 : Fr [199, 193022] φ (hf_mp φ 199 ((81 * φ 192 22).toNat) 81 (fun j => φ 194 (99 + j))) := fr_mp (fr_rf) (by decide)
    have i3 : Inv (hf_up (hf_mp φ 199 ((81 * φ 192 22).toNat) 81 (fun j => φ 194 (99 + j))) 192 22 ((φ 192 22) + 1)) := iv_up (lo := 0) (u := 8) i2 (by decide +kernel) (by omega) (by omega)
    have r3 : Fr [199, 193022] φ (hf_up (hf_mp φ 199 ((81 * φ 192 22).toNat) 81 (fun j => φ 194 (99 + j))) 192 22 ((φ 192 22) + 1)) := fr_up r2 (by decide)
    have f4 : (hf_up (hf_mp φ 199 ((81 * φ 192 22).toNat) 81 (fun j => φ 194 (99 + j))) 192 22 ((φ 192 22) + 1)) 192 22 = (φ 192 22) + 1 := hf_up_eq
    exact hQ (hf_up (hf_mp φ 199 ((81 * φ 192 22).toNat) 81 (fun j => φ 194 (99 + j))) 192 22 ((φ 192 22) + 1)) i3 r3 (by omega) e1a
  · skip
    have e1b := e0.trans (if_neg q1)
    intro Lm4 w4_0 w4_1
    have i5 : Inv (hf_mp φ 199 0 567 (fun j => φ 199 (81 + j))) := iv_mpc hI (by decide +kernel) (by decide +kernel)
    have r5 : Fr [199, 193022] φ (hf_mp φ 199 0 567 (fun j => φ 199 (81 + j))) := fr_mp (fr_rf) (by decide)
    have i6 : Inv (hf_up (hf_mp φ 199 0 567 (fun j => φ 199 (81 + j))) 192 22 7) := iv_up (lo := 0) (u := 8) i5 (by decide +kernel) (by omega) (by omega)
    have r6 : Fr [199, 193022] φ (hf_up (hf_mp φ 199 0 567 (fun j => φ 199 (81 + j))) 192 22 7) := fr_up r5 (by decide)
    have f7 : (hf_up (hf_mp φ 199 0 567 (fun j => φ 199 (81 + j))) 192 22 7) 192 22 = 7 := hf_up_eq
    refine ⟨by omega, by omega, fun Lm5 w5_0 w5_1 => ?_⟩
    have i8 : Inv (hf_mp (hf_up (hf_mp φ 199 0 567 (fun j => φ 199 (81 + j))) 192 22 7) 199 ((81 * (hf_up (hf_mp φ 199 0 567 (fun j => φ 199 (81 + j))) 192 22 7) 192 22).toNat) 81 (fun j => (hf_up (hf_mp φ 199 0 567 (fun j => φ 199 (81 + j))) 192 22 7) 194 (99 + j))) := iv_mpU (st := 81) (m := 8) (z := (hf_up (hf_mp φ 199 0 567 (fun j => φ 199 (81 + j))) 192 22 7) 192 22) i6 (by decide +kernel) (by omega) (by omega)
    have r8 : Fr [199, 193022] φ (hf_mp (hf_up (hf_mp φ 199 0 567 (fun j => φ 199 (81 + j))) 192 22 7) 199 ((81 * (hf_up (hf_mp φ 199 0 567 (fun j => φ 199 (81 + j))) 192 22 7) 192 22).toNat) 81 (fun j => (hf_up (hf_mp φ 199 0 567 (fun j => φ 199 (81 + j))) 192 22 7) 194 (99 + j))) := fr_mp r6 (by decide)
    have i9 : Inv (hf_up (hf_mp (hf_up (hf_mp φ 199 0 567 (fun j => φ 199 (81 + j))) 192 22 7) 199 ((81 * (hf_up (hf_mp φ 199 0 567 (fun j => φ 199 (81 + j))) 192 22 7) 192 22).toNat) 81 (fun j => (hf_up (hf_mp φ 199 0 567 (fun j => φ 199 (81 + j))) 192 22 7) 194 (99 + j))) 192 22 8) := iv_up (lo := 0) (u := 8) i8 (by decide +kernel) (by omega) (by omega)
    have r9 : Fr [199, 193022] φ (hf_up (hf_mp (hf_up (hf_mp φ 199 0 567 (fun j => φ 199 (81 + j))) 192 22 7) 199 ((81 * (hf_up (hf_mp φ 199 0 567 (fun j => φ 199 (81 + j))) 192 22 7) 192 22).toNat) 81 (fun j => (hf_up (hf_mp φ 199 0 567 (fun j => φ 199 (81 + j))) 192 22 7) 194 (99 + j))) 192 22 8) := fr_up r8 (by decide)
    have f10 : (hf_up (hf_mp (hf_up (hf_mp φ 199 0 567 (fun j => φ 199 (81 + j))) 192 22 7) 199 ((81 * (hf_up (hf_mp φ 199 0 567 (fun j => φ 199 (81 + j))) 192 22 7) 192 22).toNat) 81 (fun j => (hf_up (hf_mp φ 199 0 567 (fun j => φ 199 (81 + j))) 192 22 7) 194 (99 + j))) 192 22 8) 192 22 = 8 := hf_up_eq
    exact hQ (hf_up (hf_mp (hf_up (hf_mp φ 199 0 567 (fun j => φ 199 (81 + j))) 192 22 7) 199 ((81 * (hf_up (hf_mp φ 199 0 567 (fun j => φ 199 (81 + j))) 192 22 7) 192 22).toNat) 81 (fun j => (hf_up (hf_mp φ 199 0 567 (fun j => φ 199 (81 + j))) 192 22 7) 194 (99 + j))) 192 22 8) i9 r9 (by omega) e1b
theorem sf_228_192_v26 {sc : List Int} {d : Nat} {φ : hf_F} {x : Nat} {Q : Option jm_V → hf_F → Nat → Prop} {L : jm_L} {l1 : Int} (g0 : jm_get L 0 = some (2, 192)) (g1 : jm_get L 1 = some (0, l1))
    (H : hi l1 ∧ hi 81 ∧ (81 ≤ l1 → hw sc d 228 61 L [] φ x Q) ∧ (¬ 81 ≤ l1 → 0 ≤ ((81 * (φ 192 22)) + l1) ∧ ((81 * (φ 192 22)) + l1) < 648 ∧ (0 ≤ (99 + l1) ∧ (99 + l1) < 361 ∧ (hw sc d 228 26 (jm_st1 L 1 (0, l1 + 1)) [] (hf_up φ 194 ((99 + l1).toNat) (φ 199 (((81 * (φ 192 22)) + l1).toNat))) x Q)))) :
    hw sc d 228 26 L [] φ x Q := by
  refine hw_ld (b := 1) (e := 0) (by decide +kernel) g1 ?_
  refine hw_k (c := 81) (b := 1) (e := 2) (by decide +kernel) ?_
  obtain ⟨hz1, hy1, ht1, hf1⟩ := H
  refine hw_if2 (a0 := 0) (b := 3) (e := 61) (by decide +kernel) hz1 hy1 (fun q => ?_) (fun q => ?_)
  · have H := ht1 q
    exact H
  · have H := hf1 q
    refine hw_ald (b := 0) (e := 0) (by decide +kernel) g0 (by decide) ?_
    refine hr_gr (w := 194) (b := 12) (e := 6) 192 rfl (by decide +kernel) ?_
    refine hw_k (c := 99) (b := 1) (e := 2) (by decide +kernel) ?_
    refine hw_ld (b := 1) (e := 0) (by decide +kernel) g1 ?_
    refine hw_bin (w := 99 + l1) (a0 := 0) (b := 0) (e := 0) (by decide +kernel) rfl ?_
    refine hw_ald (b := 0) (e := 0) (by decide +kernel) g0 (by decide) ?_
    refine hr_gr (w := 199) (b := 12) (e := 20) 192 rfl (by decide +kernel) ?_
    refine hw_k (c := 81) (b := 1) (e := 2) (by decide +kernel) ?_
    refine hw_ald (b := 0) (e := 0) (by decide +kernel) g0 (by decide) ?_
    refine hr_gi (w := φ 192 22) (b := 12) (e := 22) 192 rfl (by decide +kernel) rfl ?_
    refine hw_bin (w := 81 * (φ 192 22)) (a0 := 0) (b := 2) (e := 0) (by decide +kernel) rfl ?_
    refine hw_ld (b := 1) (e := 0) (by decide +kernel) g1 ?_
    refine hw_bin (w := (81 * (φ 192 22)) + l1) (a0 := 0) (b := 0) (e := 0) (by decide +kernel) rfl ?_
    obtain ⟨hl2, hu2, H⟩ := H
    refine hr_al (b := 0) (a0 := 0) (e := 0) (n := 648) (w := φ 199 (((81 * (φ 192 22)) + l1).toNat)) 199 rfl (by decide +kernel) (by decide) hl2 hu2 rfl ?_
    obtain ⟨hl3, hu3, H⟩ := H
    refine hr_as (a0 := 0) (e := 4) (n := 361) 194 rfl (by decide +kernel) hl3 hu3 ?_
    refine hw_inc (L' := (jm_st1 L 1 (0, l1 + 1))) (c := 1) (b := 1) (e := 0) (by decide +kernel) g1 rfl ?_
    refine hw_goto (a0 := 0) (b := 0) (e := 26) (by decide +kernel) ?_
    exact H
theorem sf_228_192_m26 {sc : List Int} {d x : Nat} {Q : Option jm_V → hf_F → Nat → Prop} {φ0 : hf_F} (hs0 : 0 ≤ φ0 192 22) (hs1 : φ0 192 22 ≤ 7) : ∀ (n : Nat) (L : jm_L) (l1 : Int), jm_get L 0 = some (2, 192) → jm_get L 1 = some (0, l1) → 0 ≤ l1 → l1 + (n : Int) = 81 → (∀ (L1 : jm_L), jm_get L1 0 = some (2, 192) → jm_get L1 1 = some (0, 81) → hw sc d 228 61 L1 [] (hf_mp φ0 194 99 81 (fun j => φ0 199 (((81 * φ0 192 22).toNat) + j))) x Q) → hw sc d 228 26 L [] (hf_mp φ0 194 99 (l1).toNat (fun j => φ0 199 (((81 * φ0 192 22).toNat) + j))) x Q := by
  intro n
  induction n with
  | zero =>
    intro L l1 g0 g1 h0 hn hQ
    generalize hμ : hf_mp φ0 194 99 (l1).toNat (fun j => φ0 199 (((81 * φ0 192 22).toNat) + j)) = φ
    have ec192_22 : φ 192 22 = φ0 192 22 := by rw [← hμ]; exact hf_mp_ne (by omega)
    refine sf_228_192_v26 g0 g1 ?_
    refine ⟨by unfold hi; omega, by unfold hi; omega, fun q1 => ?_, fun q1 => ?_⟩
    · skip
      obtain rfl : l1 = 81 := by omega
      subst hμ
      exact hQ L g0 g1
    · exfalso
      omega
  | succ n ih =>
    intro L l1 g0 g1 h0 hn hQ
    generalize hμ : hf_mp φ0 194 99 (l1).toNat (fun j => φ0 199 (((81 * φ0 192 22).toNat) + j)) = φ
    have ec192_22 : φ 192 22 = φ0 192 22 := by rw [← hμ]; exact hf_mp_ne (by omega)
    refine sf_228_192_v26 g0 g1 ?_
    refine ⟨by unfold hi; omega, by unfold hi; omega, fun q1 => ?_, fun q1 => ?_⟩
    · skip
      obtain rfl : l1 = 81 := by omega
      subst hμ
      exact hQ L g0 g1
    · skip
      refine ⟨by omega, by omega, ?_⟩
      refine ⟨by omega, by omega, ?_⟩
      have ec192_22 : φ 192 22 = φ0 192 22 := by rw [← hμ]; exact hf_mp_ne (by omega)
      have hk : (99 + l1).toNat = 99 + (l1).toNat := by omega
      have hv : (φ 199 (((81 * (φ 192 22)) + l1).toNat) : Int) = (fun j => φ0 199 (((81 * φ0 192 22).toNat) + j)) (l1).toNat := (congrArg (φ 199) (show (((81 * (φ 192 22)) + l1).toNat) = ((81 * φ0 192 22).toNat) + (l1).toNat by omega)).trans (by rw [← hμ]; exact hf_mp_ne (by omega))
      have he := hf_mp_s (φ := φ0) (b := 194) (ob := 99) (f := (fun j => φ0 199 (((81 * φ0 192 22).toNat) + j))) hk hv
      rw [hμ, show (l1).toNat + 1 = (l1 + 1).toNat by omega] at he
      rw [he]
      exact ih (jm_st1 L 1 (0, l1 + 1)) (l1 + 1) (get_st1 g0 (by decide) (fun q => tg2 q.2)) get_st1e (by omega) (by omega) hQ
theorem sf_228_192_M26 {sc : List Int} {d x : Nat} {Q : Option jm_V → hf_F → Nat → Prop} {φ0 : hf_F} {L : jm_L} (g0 : jm_get L 0 = some (2, 192)) (g1 : jm_get L 1 = some (0, 0)) (hs0 : 0 ≤ φ0 192 22) (hs1 : φ0 192 22 ≤ 7) (hQ : (∀ (L1 : jm_L), jm_get L1 0 = some (2, 192) → jm_get L1 1 = some (0, 81) → hw sc d 228 61 L1 [] (hf_mp φ0 194 99 81 (fun j => φ0 199 (((81 * φ0 192 22).toNat) + j))) x Q)) : hw sc d 228 26 L [] φ0 x Q := by
  have h := sf_228_192_m26 (φ0 := φ0) hs0 hs1 81 L 0 g0 g1 (by decide) (by omega) hQ
  rw [show hf_mp φ0 194 99 ((0 : Int)).toNat (fun j => φ0 199 (((81 * φ0 192 22).toNat) + j)) = φ0 from hf_mp_0] at h
  exact h
theorem sf_228_192_v {sc : List Int} {d : Nat} {φ : hf_F} {x : Nat} {Q : Option jm_V → hf_F → Nat → Prop} 
    (H : hi (φ 192 22) ∧ (¬ (φ 192 22) = 0 → (0 ≤ (hf_up (hf_up φ 192 0 0) 192 22 ((φ 192 22) - 1)) 192 22) ∧ ((hf_up (hf_up φ 192 0 0) 192 22 ((φ 192 22) - 1)) 192 22 ≤ 7) ∧ (∀ (Lm2 : jm_L), jm_get Lm2 0 = some (2, 192) → jm_get Lm2 1 = some (0, 81) → (Q (some (0, (φ 192 22) - 1)) (hf_mp (hf_up (hf_up φ 192 0 0) 192 22 ((φ 192 22) - 1)) 194 99 81 (fun j => (hf_up (hf_up φ 192 0 0) 192 22 ((φ 192 22) - 1)) 199 (((81 * (hf_up (hf_up φ 192 0 0) 192 22 ((φ 192 22) - 1)) 192 22).toNat) + j))) x))) ∧ (¬ (¬ (φ 192 22) = 0) → Q (some (0, (-1 : Int))) (hf_up φ 192 0 0) x)) :
    hw sc d 228 0 [(0, (2, 192))] [] φ x Q := by
  refine hw_ald (b := 0) (e := 0) (by decide +kernel) rfl (by decide) ?_
  refine hw_k (c := 0) (b := 0) (e := 1) (by decide +kernel) ?_
  refine hr_pi (b := 12) (e := 0) 192 rfl (by decide +kernel) ?_
  refine hw_ald (b := 0) (e := 0) (by decide +kernel) rfl (by decide) ?_
  refine hr_gi (w := φ 192 22) (b := 12) (e := 22) 192 rfl (by decide +kernel) (hf_up_ne (fun q => absurd q.2 (by decide))) ?_
  obtain ⟨hz1, ht1, hf1⟩ := H
  refine hw_if (a0 := 0) (b := 1) (e := 14) (by decide +kernel) hz1 (fun q => ?_) (fun q => ?_)
  · have H := ht1 q
    refine hw_ald (b := 0) (e := 0) (by decide +kernel) rfl (by decide) ?_
    refine hw_dup (a0 := 0) (e := 0) (by decide +kernel) (by decide) ?_
    refine hr_gi (w := φ 192 22) (b := 12) (e := 22) 192 rfl (by decide +kernel) (hf_up_ne (fun q => absurd q.2 (by decide))) ?_
    refine hw_k (c := 1) (b := 0) (e := 1) (by decide +kernel) ?_
    refine hw_bin (w := (φ 192 22) - 1) (a0 := 0) (b := 1) (e := 0) (by decide +kernel) rfl ?_
    refine hr_pi (b := 12) (e := 22) 192 rfl (by decide +kernel) ?_
    refine hw_k (c := 0) (b := 0) (e := 1) (by decide +kernel) ?_
    refine hw_st (L' := (jm_st1 [(0, (2, 192))] 1 (0, 0))) (b := 1) (e := 0) (by decide +kernel) rfl ?_
    obtain ⟨hs2_0, hs2_1, H⟩ := H
    refine sf_228_192_M26 (φ0 := (hf_up (hf_up φ 192 0 0) 192 22 ((φ 192 22) - 1))) (get_st1 rfl (by decide) (fun q => tg2 q.2)) get_st1e hs2_0 hs2_1 (fun Lm2 w2_0 w2_1 => ?_)
    have H := H Lm2 w2_0 w2_1
    refine hw_ald (b := 0) (e := 0) (by decide +kernel) w2_0 (by decide) ?_
    refine hr_gi (w := (φ 192 22) - 1) (b := 12) (e := 22) 192 rfl (by decide +kernel) ((hf_mp_ne (fun q => absurd q.1 (by decide))).trans hf_up_eq) ?_
    exact hw_ret (a0 := 0) (e := 0) (by decide +kernel) (Or.inl rfl) H
  · have H := hf1 q
    refine hw_k (c := (-1 : Int)) (b := 0) (e := 1) (by decide +kernel) ?_
    exact hw_ret (a0 := 0) (e := 0) (by decide +kernel) (Or.inl rfl) H
theorem sf_228_192 {sc : List Int} {d : Nat} {φ : hf_F} {x : Nat} {Q : Option jm_V → hf_F → Nat → Prop}  (hI : Inv φ)  (hQ : ∀ (r : Int) (ψ : hf_F), Inv ψ → Fr [194, 193000, 193022] φ ψ → True → F_RideLawsModel_undo_192 φ = (r, ψ) → Q (some (0, r)) ψ x) : hw sc d 228 0 [(0, (2, 192))] [] φ x Q := by
  apply sf_228_192_v
  have e0 : F_RideLawsModel_undo_192 φ = _ := rfl
  have i1 : Inv (hf_up φ 192 0 0) := iv_up (lo := 0) (u := 1) hI (by decide +kernel) (by omega) (by omega)
  have r1 : Fr [194, 193000, 193022] φ (hf_up φ 192 0 0) := fr_up (fr_rf) (by decide)
  have f2 := iv_at (a := 192) (k := 22) (lo := 0) (u := 8) hI (by decide +kernel)
  refine ⟨by unfold hi; omega, fun q1 => ?_, fun q1 => ?_⟩
  · skip
    have e1a := e0.trans (if_pos q1)
    have i3 : Inv (hf_up (hf_up φ 192 0 0) 192 22 ((φ 192 22) - 1)) := iv_up (lo := 0) (u := 8) i1 (by decide +kernel) (by omega) (by omega)
    have r3 : Fr [194, 193000, 193022] φ (hf_up (hf_up φ 192 0 0) 192 22 ((φ 192 22) - 1)) := fr_up r1 (by decide)
    have f4 : (hf_up (hf_up φ 192 0 0) 192 22 ((φ 192 22) - 1)) 192 22 = (φ 192 22) - 1 := hf_up_eq
    refine ⟨by omega, by omega, fun Lm2 w2_0 w2_1 => ?_⟩
    have i5 : Inv (hf_mp (hf_up (hf_up φ 192 0 0) 192 22 ((φ 192 22) - 1)) 194 99 81 (fun j => (hf_up (hf_up φ 192 0 0) 192 22 ((φ 192 22) - 1)) 199 (((81 * (hf_up (hf_up φ 192 0 0) 192 22 ((φ 192 22) - 1)) 192 22).toNat) + j))) := iv_mpV (st := 81) (m := 8) (z := (hf_up (hf_up φ 192 0 0) 192 22 ((φ 192 22) - 1)) 192 22) i3 (by decide +kernel) (by omega) (by omega)
    have r5 : Fr [194, 193000, 193022] φ (hf_mp (hf_up (hf_up φ 192 0 0) 192 22 ((φ 192 22) - 1)) 194 99 81 (fun j => (hf_up (hf_up φ 192 0 0) 192 22 ((φ 192 22) - 1)) 199 (((81 * (hf_up (hf_up φ 192 0 0) 192 22 ((φ 192 22) - 1)) 192 22).toNat) + j))) := fr_mp r3 (by decide)
    exact hQ ((φ 192 22) - 1) (hf_mp (hf_up (hf_up φ 192 0 0) 192 22 ((φ 192 22) - 1)) 194 99 81 (fun j => (hf_up (hf_up φ 192 0 0) 192 22 ((φ 192 22) - 1)) 199 (((81 * (hf_up (hf_up φ 192 0 0) 192 22 ((φ 192 22) - 1)) 192 22).toNat) + j))) i5 r5 trivial e1a
  · skip
    have e1b := e0.trans (if_neg q1)
    exact hQ (-1 : Int) (hf_up φ 192 0 0) i1 r1 trivial e1b
theorem sf_223_192_v37 {sc : List Int} {d : Nat} {φ : hf_F} {x : Nat} {Q : Option jm_V → hf_F → Nat → Prop} {L : jm_L} {l1 : Int} (g0 : jm_get L 0 = some (2, 192)) (g1 : jm_get L 1 = some (0, l1))
    (H : hi l1 ∧ hi 6 ∧ (6 ≤ l1 → hw sc d 223 60 L [] φ x Q) ∧ (¬ 6 ≤ l1 → 0 ≤ (160 + l1) ∧ (160 + l1) < 361 ∧ (hw sc d 223 37 (jm_st1 L 1 (0, l1 + 1)) [] (hf_up φ 194 ((160 + l1).toNat) 0) x Q))) :
    hw sc d 223 37 L [] φ x Q := by
  refine hw_ld (b := 1) (e := 0) (by decide +kernel) g1 ?_
  refine hw_k (c := 6) (b := 1) (e := 2) (by decide +kernel) ?_
  obtain ⟨hz1, hy1, ht1, hf1⟩ := H
  refine hw_if2 (a0 := 0) (b := 3) (e := 60) (by decide +kernel) hz1 hy1 (fun q => ?_) (fun q => ?_)
  · have H := ht1 q
    exact H
  · have H := hf1 q
    refine hw_ald (b := 0) (e := 0) (by decide +kernel) g0 (by decide) ?_
    refine hr_gr (w := 194) (b := 12) (e := 6) 192 rfl (by decide +kernel) ?_
    refine hw_k (c := 160) (b := 2) (e := 3) (by decide +kernel) ?_
    refine hw_ld (b := 1) (e := 0) (by decide +kernel) g1 ?_
    refine hw_bin (w := 160 + l1) (a0 := 0) (b := 0) (e := 0) (by decide +kernel) rfl ?_
    refine hw_k (c := 0) (b := 0) (e := 1) (by decide +kernel) ?_
    obtain ⟨hl2, hu2, H⟩ := H
    refine hr_as (a0 := 0) (e := 4) (n := 361) 194 rfl (by decide +kernel) hl2 hu2 ?_
    refine hw_inc (L' := (jm_st1 L 1 (0, l1 + 1))) (c := 1) (b := 1) (e := 0) (by decide +kernel) g1 rfl ?_
    refine hw_goto (a0 := 0) (b := 0) (e := 37) (by decide +kernel) ?_
    exact H
theorem sf_223_192_m37 {sc : List Int} {d x : Nat} {Q : Option jm_V → hf_F → Nat → Prop} {φ0 : hf_F}  : ∀ (n : Nat) (L : jm_L) (l1 : Int), jm_get L 0 = some (2, 192) → jm_get L 1 = some (0, l1) → 0 ≤ l1 → l1 + (n : Int) = 6 → (∀ (L1 : jm_L), jm_get L1 0 = some (2, 192) → jm_get L1 1 = some (0, 6) → hw sc d 223 60 L1 [] (hf_mp φ0 194 160 6 (fun _ => 0)) x Q) → hw sc d 223 37 L [] (hf_mp φ0 194 160 (l1).toNat (fun _ => 0)) x Q := by
  intro n
  induction n with
  | zero =>
    intro L l1 g0 g1 h0 hn hQ
    generalize hμ : hf_mp φ0 194 160 (l1).toNat (fun _ => 0) = φ
    refine sf_223_192_v37 g0 g1 ?_
    refine ⟨by unfold hi; omega, by unfold hi; omega, fun q1 => ?_, fun q1 => ?_⟩
    · skip
      obtain rfl : l1 = 6 := by omega
      subst hμ
      exact hQ L g0 g1
    · exfalso
      omega
  | succ n ih =>
    intro L l1 g0 g1 h0 hn hQ
    generalize hμ : hf_mp φ0 194 160 (l1).toNat (fun _ => 0) = φ
    refine sf_223_192_v37 g0 g1 ?_
    refine ⟨by unfold hi; omega, by unfold hi; omega, fun q1 => ?_, fun q1 => ?_⟩
    · skip
      obtain rfl : l1 = 6 := by omega
      subst hμ
      exact hQ L g0 g1
    · skip
      refine ⟨by omega, by omega, ?_⟩
      have hk : (160 + l1).toNat = 160 + (l1).toNat := by omega
      have hv : (0 : Int) = (fun _ => 0) (l1).toNat := rfl
      have he := hf_mp_s (φ := φ0) (b := 194) (ob := 160) (f := (fun _ => 0)) hk hv
      rw [hμ, show (l1).toNat + 1 = (l1 + 1).toNat by omega] at he
      rw [he]
      exact ih (jm_st1 L 1 (0, l1 + 1)) (l1 + 1) (get_st1 g0 (by decide) (fun q => tg2 q.2)) get_st1e (by omega) (by omega) hQ
theorem sf_223_192_M37 {sc : List Int} {d x : Nat} {Q : Option jm_V → hf_F → Nat → Prop} {φ0 : hf_F}  {L : jm_L} (g0 : jm_get L 0 = some (2, 192)) (g1 : jm_get L 1 = some (0, 0))  (hQ : (∀ (L1 : jm_L), jm_get L1 0 = some (2, 192) → jm_get L1 1 = some (0, 6) → hw sc d 223 60 L1 [] (hf_mp φ0 194 160 6 (fun _ => 0)) x Q)) : hw sc d 223 37 L [] φ0 x Q := by
  have h := sf_223_192_m37 (φ0 := φ0)  6 L 0 g0 g1 (by decide) (by omega) hQ
  rw [show hf_mp φ0 194 160 ((0 : Int)).toNat (fun _ => 0) = φ0 from hf_mp_0] at h
  exact h
theorem sf_223_192_v {sc : List Int} {d : Nat} {φ : hf_F} {x : Nat} {Q : Option jm_V → hf_F → Nat → Prop} 
    (H : (∀ (Lm1 : jm_L), jm_get Lm1 0 = some (2, 192) → jm_get Lm1 1 = some (0, 6) → (Q none (hf_mp (hf_up (hf_up (hf_up (hf_up φ 194 102 0) 194 100 0) 194 101 0) 194 103 ((φ 194 103) + 1)) 194 160 6 (fun _ => 0)) x))) :
    hw sc d 223 0 [(0, (2, 192))] [] φ x Q := by
  refine hw_ald (b := 0) (e := 0) (by decide +kernel) rfl (by decide) ?_
  refine hr_gr (w := 194) (b := 12) (e := 6) 192 rfl (by decide +kernel) ?_
  refine hw_k (c := 102) (b := 1) (e := 2) (by decide +kernel) ?_
  refine hw_k (c := 0) (b := 0) (e := 1) (by decide +kernel) ?_
  refine hr_as (a0 := 0) (e := 4) (n := 361) 194 rfl (by decide +kernel) (by decide) (by decide) ?_
  refine hw_ald (b := 0) (e := 0) (by decide +kernel) rfl (by decide) ?_
  refine hr_gr (w := 194) (b := 12) (e := 6) 192 rfl (by decide +kernel) ?_
  refine hw_k (c := 100) (b := 1) (e := 2) (by decide +kernel) ?_
  refine hw_k (c := 0) (b := 0) (e := 1) (by decide +kernel) ?_
  refine hr_as (a0 := 0) (e := 4) (n := 361) 194 rfl (by decide +kernel) (by decide) (by decide) ?_
  refine hw_ald (b := 0) (e := 0) (by decide +kernel) rfl (by decide) ?_
  refine hr_gr (w := 194) (b := 12) (e := 6) 192 rfl (by decide +kernel) ?_
  refine hw_k (c := 101) (b := 1) (e := 2) (by decide +kernel) ?_
  refine hw_k (c := 0) (b := 0) (e := 1) (by decide +kernel) ?_
  refine hr_as (a0 := 0) (e := 4) (n := 361) 194 rfl (by decide +kernel) (by decide) (by decide) ?_
  refine hw_ald (b := 0) (e := 0) (by decide +kernel) rfl (by decide) ?_
  refine hr_gr (w := 194) (b := 12) (e := 6) 192 rfl (by decide +kernel) ?_
  refine hw_k (c := 103) (b := 1) (e := 2) (by decide +kernel) ?_
  refine hw_dup2 (a0 := 0) (e := 0) (by decide +kernel) (by decide) (by decide) ?_
  refine hr_al (b := 0) (a0 := 0) (e := 0) (n := 361) (w := φ 194 103) 194 rfl (by decide +kernel) (by decide) (by decide) (by decide) ((hf_up_ne (fun q => absurd q.2 (by decide))).trans ((hf_up_ne (fun q => absurd q.2 (by decide))).trans (hf_up_ne (fun q => absurd q.2 (by decide))))) ?_
  refine hw_k (c := 1) (b := 0) (e := 1) (by decide +kernel) ?_
  refine hw_bin (w := (φ 194 103) + 1) (a0 := 0) (b := 0) (e := 0) (by decide +kernel) rfl ?_
  refine hr_as (a0 := 0) (e := 4) (n := 361) 194 rfl (by decide +kernel) (by decide) (by decide) ?_
  refine hw_k (c := 0) (b := 0) (e := 1) (by decide +kernel) ?_
  refine hw_st (L' := (jm_st1 [(0, (2, 192))] 1 (0, 0))) (b := 1) (e := 0) (by decide +kernel) rfl ?_
  refine sf_223_192_M37 (φ0 := (hf_up (hf_up (hf_up (hf_up φ 194 102 0) 194 100 0) 194 101 0) 194 103 ((φ 194 103) + 1))) (get_st1 rfl (by decide) (fun q => tg2 q.2)) get_st1e  (fun Lm1 w1_0 w1_1 => ?_)
  have H := H Lm1 w1_0 w1_1
  exact hw_vret (a0 := 0) (e := 0) (by decide +kernel) H
theorem sf_223_192 {sc : List Int} {d : Nat} {φ : hf_F} {x : Nat} {Q : Option jm_V → hf_F → Nat → Prop}  (hI : Inv φ)  (hQ : ∀ ψ : hf_F, Inv ψ → Fr [194] φ ψ → F_RideLawsModel_blows_192 φ = ψ → Q none ψ x) : hw sc d 223 0 [(0, (2, 192))] [] φ x Q := by
  apply sf_223_192_v
  have e0 : F_RideLawsModel_blows_192 φ = _ := rfl
  have i1 : Inv (hf_up φ 194 102 0) := iv_up (lo := (-2147483648 : Int)) (u := 2147483647) hI (by decide +kernel) (by omega) (by omega)
  have r1 : Fr [194] φ (hf_up φ 194 102 0) := fr_upa (fr_rf) (by decide)
  have i2 : Inv (hf_up (hf_up φ 194 102 0) 194 100 0) := iv_up (lo := 0) (u := 8) i1 (by decide +kernel) (by omega) (by omega)
  have r2 : Fr [194] φ (hf_up (hf_up φ 194 102 0) 194 100 0) := fr_upa r1 (by decide)
  have i3 : Inv (hf_up (hf_up (hf_up φ 194 102 0) 194 100 0) 194 101 0) := iv_up (lo := 0) (u := 6) i2 (by decide +kernel) (by omega) (by omega)
  have r3 : Fr [194] φ (hf_up (hf_up (hf_up φ 194 102 0) 194 100 0) 194 101 0) := fr_upa r2 (by decide)
  have i4 : Inv (hf_up (hf_up (hf_up (hf_up φ 194 102 0) 194 100 0) 194 101 0) 194 103 ((φ 194 103) + 1)) := iv_upn i3 (by decide) (by decide) (by decide +kernel)
  have r4 : Fr [194] φ (hf_up (hf_up (hf_up (hf_up φ 194 102 0) 194 100 0) 194 101 0) 194 103 ((φ 194 103) + 1)) := fr_upa r3 (by decide)
  intro Lm1 w1_0 w1_1
  have i5 : Inv (hf_mp (hf_up (hf_up (hf_up (hf_up φ 194 102 0) 194 100 0) 194 101 0) 194 103 ((φ 194 103) + 1)) 194 160 6 (fun _ => 0)) := iv_mpk i4 (by decide +kernel) (by decide +kernel)
  have r5 : Fr [194] φ (hf_mp (hf_up (hf_up (hf_up (hf_up φ 194 102 0) 194 100 0) 194 101 0) 194 103 ((φ 194 103) + 1)) 194 160 6 (fun _ => 0)) := fr_mp r4 (by decide)
  exact hQ (hf_mp (hf_up (hf_up (hf_up (hf_up φ 194 102 0) 194 100 0) 194 101 0) 194 103 ((φ 194 103) + 1)) 194 160 6 (fun _ => 0)) i5 r5 e0
theorem sf_273_192_v51 {sc : List Int} {d : Nat} {φ : hf_F} {x : Nat} {Q : Option jm_V → hf_F → Nat → Prop} {L : jm_L} {l1 l2 : Int} (g0 : jm_get L 0 = some (2, 192)) (g1 : jm_get L 1 = some (0, l1)) (g2 : jm_get L 2 = some (0, l2))
    (H : hi l2 ∧ hi 33 ∧ (33 ≤ l2 → hw sc (d + 1) 273 80 L [] φ x Q) ∧ (¬ 33 ≤ l2 → 0 ≤ l2 ∧ l2 < 66 ∧ (0 ≤ ((33 * l1) + l2) ∧ ((33 * l1) + l2) < 66 ∧ (hw sc (d + 1) 273 51 (jm_st1 L 2 (0, l2 + 1)) [] (hf_up φ 206 (((33 * l1) + l2).toNat) (φ 197 ((l2).toNat))) x Q)))) :
    hw sc (d + 1) 273 51 L [] φ x Q := by
  refine hw_ld (b := 2) (e := 0) (by decide +kernel) g2 ?_
  refine hw_k (c := 33) (b := 1) (e := 2) (by decide +kernel) ?_
  obtain ⟨hz1, hy1, ht1, hf1⟩ := H
  refine hw_if2 (a0 := 0) (b := 3) (e := 80) (by decide +kernel) hz1 hy1 (fun q => ?_) (fun q => ?_)
  · have H := ht1 q
    exact H
  · have H := hf1 q
    refine hw_ald (b := 0) (e := 0) (by decide +kernel) g0 (by decide) ?_
    refine hr_gr (w := 206) (b := 12) (e := 41) 192 rfl (by decide +kernel) ?_
    refine hw_k (c := 33) (b := 1) (e := 2) (by decide +kernel) ?_
    refine hw_ld (b := 1) (e := 0) (by decide +kernel) g1 ?_
    refine hw_bin (w := 33 * l1) (a0 := 0) (b := 2) (e := 0) (by decide +kernel) rfl ?_
    refine hw_ld (b := 2) (e := 0) (by decide +kernel) g2 ?_
    refine hw_bin (w := (33 * l1) + l2) (a0 := 0) (b := 0) (e := 0) (by decide +kernel) rfl ?_
    refine hw_ald (b := 0) (e := 0) (by decide +kernel) g0 (by decide) ?_
    refine hr_gr (w := 197) (b := 12) (e := 9) 192 rfl (by decide +kernel) ?_
    refine hw_ld (b := 2) (e := 0) (by decide +kernel) g2 ?_
    obtain ⟨hl2, hu2, H⟩ := H
    refine hr_all (a0 := 0) (e := 0) (n := 66) (w := φ 197 ((l2).toNat)) 197 rfl (by decide +kernel) hl2 hu2 rfl ?_
    obtain ⟨hl3, hu3, H⟩ := H
    refine hr_asl (a0 := 0) (e := 4) (n := 66) 206 rfl (by decide +kernel) hl3 hu3 ?_
    refine hw_inc (L' := (jm_st1 L 2 (0, l2 + 1))) (c := 1) (b := 2) (e := 0) (by decide +kernel) g2 rfl ?_
    refine hw_goto (a0 := 0) (b := 0) (e := 51) (by decide +kernel) ?_
    exact H
theorem sf_273_192_m51 {sc : List Int} {d x : Nat} {Q : Option jm_V → hf_F → Nat → Prop} {φ0 : hf_F} {l1 : Int} (hs0 : 0 ≤ l1) (hs1 : l1 ≤ 1) : ∀ (n : Nat) (L : jm_L) (l2 : Int), jm_get L 0 = some (2, 192) → jm_get L 1 = some (0, l1) → jm_get L 2 = some (0, l2) → 0 ≤ l2 → l2 + (n : Int) = 33 → (∀ (L1 : jm_L), jm_get L1 0 = some (2, 192) → jm_get L1 1 = some (0, l1) → jm_get L1 2 = some (0, 33) → hw sc (d + 1) 273 80 L1 [] (hf_mp φ0 206 ((33 * l1).toNat) 33 (fun j => φ0 197 (0 + j))) x Q) → hw sc (d + 1) 273 51 L [] (hf_mp φ0 206 ((33 * l1).toNat) (l2).toNat (fun j => φ0 197 (0 + j))) x Q := by
  intro n
  induction n with
  | zero =>
    intro L l2 g0 g1 g2 h0 hn hQ
    generalize hμ : hf_mp φ0 206 ((33 * l1).toNat) (l2).toNat (fun j => φ0 197 (0 + j)) = φ
    refine sf_273_192_v51 g0 g1 g2 ?_
    refine ⟨by unfold hi; omega, by unfold hi; omega, fun q1 => ?_, fun q1 => ?_⟩
    · skip
      obtain rfl : l2 = 33 := by omega
      subst hμ
      exact hQ L g0 g1 g2
    · exfalso
      omega
  | succ n ih =>
    intro L l2 g0 g1 g2 h0 hn hQ
    generalize hμ : hf_mp φ0 206 ((33 * l1).toNat) (l2).toNat (fun j => φ0 197 (0 + j)) = φ
    refine sf_273_192_v51 g0 g1 g2 ?_
    refine ⟨by unfold hi; omega, by unfold hi; omega, fun q1 => ?_, fun q1 => ?_⟩
    · skip
      obtain rfl : l2 = 33 := by omega
      subst hμ
      exact hQ L g0 g1 g2
    · skip
      refine ⟨by omega, by omega, ?_⟩
      refine ⟨by omega, by omega, ?_⟩
      have hk : ((33 * l1) + l2).toNat = ((33 * l1).toNat) + (l2).toNat := by omega
      have hv : (φ 197 ((l2).toNat) : Int) = (fun j => φ0 197 (0 + j)) (l2).toNat := (congrArg (φ 197) (show ((l2).toNat) = 0 + (l2).toNat by omega)).trans (by rw [← hμ]; exact hf_mp_ne (by omega))
      have he := hf_mp_s (φ := φ0) (b := 206) (ob := (33 * l1).toNat) (f := (fun j => φ0 197 (0 + j))) hk hv
      rw [hμ, show (l2).toNat + 1 = (l2 + 1).toNat by omega] at he
      rw [he]
      exact ih (jm_st1 L 2 (0, l2 + 1)) (l2 + 1) (get_st1 g0 (by decide) (fun q => absurd q.1 (by decide))) (get_st1 g1 (by decide) (fun q => tg0 q.2)) get_st1e (by omega) (by omega) hQ
theorem sf_273_192_M51 {sc : List Int} {d x : Nat} {Q : Option jm_V → hf_F → Nat → Prop} {φ0 : hf_F} {l1 : Int} {L : jm_L} (g0 : jm_get L 0 = some (2, 192)) (g1 : jm_get L 1 = some (0, l1)) (g2 : jm_get L 2 = some (0, 0)) (hs0 : 0 ≤ l1) (hs1 : l1 ≤ 1) (hQ : (∀ (L1 : jm_L), jm_get L1 0 = some (2, 192) → jm_get L1 1 = some (0, l1) → jm_get L1 2 = some (0, 33) → hw sc (d + 1) 273 80 L1 [] (hf_mp φ0 206 ((33 * l1).toNat) 33 (fun j => φ0 197 (0 + j))) x Q)) : hw sc (d + 1) 273 51 L [] φ0 x Q := by
  have h := sf_273_192_m51 (φ0 := φ0) (l1 := l1) hs0 hs1 33 L 0 g0 g1 g2 (by decide) (by omega) hQ
  rw [show hf_mp φ0 206 ((33 * l1).toNat) ((0 : Int)).toNat (fun j => φ0 197 (0 + j)) = φ0 from hf_mp_0] at h
  exact h
theorem sf_273_192_v18 {sc : List Int} {d : Nat} {φ : hf_F} {x : Nat} {Q : Option jm_V → hf_F → Nat → Prop} {L : jm_L} {l1 l2 : Int} (g0 : jm_get L 0 = some (2, 192)) (g1 : jm_get L 1 = some (0, l1)) (g2 : jm_get L 2 = some (0, l2))
    (H : hi l2 ∧ hi 361 ∧ (361 ≤ l2 → hw sc (d + 1) 273 49 L [] φ x Q) ∧ (¬ 361 ≤ l2 → 0 ≤ l2 ∧ l2 < 361 ∧ (0 ≤ ((361 * l1) + l2) ∧ ((361 * l1) + l2) < 722 ∧ (hw sc (d + 1) 273 18 (jm_st1 L 2 (0, l2 + 1)) [] (hf_up φ 205 (((361 * l1) + l2).toNat) (φ 194 ((l2).toNat))) x Q)))) :
    hw sc (d + 1) 273 18 L [] φ x Q := by
  refine hw_ld (b := 2) (e := 0) (by decide +kernel) g2 ?_
  refine hw_k (c := 361) (b := 2) (e := 3) (by decide +kernel) ?_
  obtain ⟨hz1, hy1, ht1, hf1⟩ := H
  refine hw_if2 (a0 := 0) (b := 3) (e := 49) (by decide +kernel) hz1 hy1 (fun q => ?_) (fun q => ?_)
  · have H := ht1 q
    exact H
  · have H := hf1 q
    refine hw_ald (b := 0) (e := 0) (by decide +kernel) g0 (by decide) ?_
    refine hr_gr (w := 205) (b := 12) (e := 40) 192 rfl (by decide +kernel) ?_
    refine hw_k (c := 361) (b := 2) (e := 3) (by decide +kernel) ?_
    refine hw_ld (b := 1) (e := 0) (by decide +kernel) g1 ?_
    refine hw_bin (w := 361 * l1) (a0 := 0) (b := 2) (e := 0) (by decide +kernel) rfl ?_
    refine hw_ld (b := 2) (e := 0) (by decide +kernel) g2 ?_
    refine hw_bin (w := (361 * l1) + l2) (a0 := 0) (b := 0) (e := 0) (by decide +kernel) rfl ?_
    refine hw_ald (b := 0) (e := 0) (by decide +kernel) g0 (by decide) ?_
    refine hr_gr (w := 194) (b := 12) (e := 6) 192 rfl (by decide +kernel) ?_
    refine hw_ld (b := 2) (e := 0) (by decide +kernel) g2 ?_
    obtain ⟨hl2, hu2, H⟩ := H
    refine hr_al (b := 0) (a0 := 0) (e := 0) (n := 361) (w := φ 194 ((l2).toNat)) 194 rfl (by decide +kernel) (by decide) hl2 hu2 rfl ?_
    obtain ⟨hl3, hu3, H⟩ := H
    refine hr_as (a0 := 0) (e := 4) (n := 722) 205 rfl (by decide +kernel) hl3 hu3 ?_
    refine hw_inc (L' := (jm_st1 L 2 (0, l2 + 1))) (c := 1) (b := 2) (e := 0) (by decide +kernel) g2 rfl ?_
    refine hw_goto (a0 := 0) (b := 0) (e := 18) (by decide +kernel) ?_
    exact H
theorem sf_273_192_m18 {sc : List Int} {d x : Nat} {Q : Option jm_V → hf_F → Nat → Prop} {φ0 : hf_F} {l1 : Int} (hs0 : 0 ≤ l1) (hs1 : l1 ≤ 1) : ∀ (n : Nat) (L : jm_L) (l2 : Int), jm_get L 0 = some (2, 192) → jm_get L 1 = some (0, l1) → jm_get L 2 = some (0, l2) → 0 ≤ l2 → l2 + (n : Int) = 361 → (∀ (L1 : jm_L), jm_get L1 0 = some (2, 192) → jm_get L1 1 = some (0, l1) → jm_get L1 2 = some (0, 361) → hw sc (d + 1) 273 49 L1 [] (hf_mp φ0 205 ((361 * l1).toNat) 361 (fun j => φ0 194 (0 + j))) x Q) → hw sc (d + 1) 273 18 L [] (hf_mp φ0 205 ((361 * l1).toNat) (l2).toNat (fun j => φ0 194 (0 + j))) x Q := by
  intro n
  induction n with
  | zero =>
    intro L l2 g0 g1 g2 h0 hn hQ
    generalize hμ : hf_mp φ0 205 ((361 * l1).toNat) (l2).toNat (fun j => φ0 194 (0 + j)) = φ
    refine sf_273_192_v18 g0 g1 g2 ?_
    refine ⟨by unfold hi; omega, by unfold hi; omega, fun q1 => ?_, fun q1 => ?_⟩
    · skip
      obtain rfl : l2 = 361 := by omega
      subst hμ
      exact hQ L g0 g1 g2
    · exfalso
      omega
  | succ n ih =>
    intro L l2 g0 g1 g2 h0 hn hQ
    generalize hμ : hf_mp φ0 205 ((361 * l1).toNat) (l2).toNat (fun j => φ0 194 (0 + j)) = φ
    refine sf_273_192_v18 g0 g1 g2 ?_
    refine ⟨by unfold hi; omega, by unfold hi; omega, fun q1 => ?_, fun q1 => ?_⟩
    · skip
      obtain rfl : l2 = 361 := by omega
      subst hμ
      exact hQ L g0 g1 g2
    · skip
      refine ⟨by omega, by omega, ?_⟩
      refine ⟨by omega, by omega, ?_⟩
      have hk : ((361 * l1) + l2).toNat = ((361 * l1).toNat) + (l2).toNat := by omega
      have hv : (φ 194 ((l2).toNat) : Int) = (fun j => φ0 194 (0 + j)) (l2).toNat := (congrArg (φ 194) (show ((l2).toNat) = 0 + (l2).toNat by omega)).trans (by rw [← hμ]; exact hf_mp_ne (by omega))
      have he := hf_mp_s (φ := φ0) (b := 205) (ob := (361 * l1).toNat) (f := (fun j => φ0 194 (0 + j))) hk hv
      rw [hμ, show (l2).toNat + 1 = (l2 + 1).toNat by omega] at he
      rw [he]
      exact ih (jm_st1 L 2 (0, l2 + 1)) (l2 + 1) (get_st1 g0 (by decide) (fun q => absurd q.1 (by decide))) (get_st1 g1 (by decide) (fun q => tg0 q.2)) get_st1e (by omega) (by omega) hQ
theorem sf_273_192_M18 {sc : List Int} {d x : Nat} {Q : Option jm_V → hf_F → Nat → Prop} {φ0 : hf_F} {l1 : Int} {L : jm_L} (g0 : jm_get L 0 = some (2, 192)) (g1 : jm_get L 1 = some (0, l1)) (g2 : jm_get L 2 = some (0, 0)) (hs0 : 0 ≤ l1) (hs1 : l1 ≤ 1) (hQ : (∀ (L1 : jm_L), jm_get L1 0 = some (2, 192) → jm_get L1 1 = some (0, l1) → jm_get L1 2 = some (0, 361) → hw sc (d + 1) 273 49 L1 [] (hf_mp φ0 205 ((361 * l1).toNat) 361 (fun j => φ0 194 (0 + j))) x Q)) : hw sc (d + 1) 273 18 L [] φ0 x Q := by
  have h := sf_273_192_m18 (φ0 := φ0) (l1 := l1) hs0 hs1 361 L 0 g0 g1 g2 (by decide) (by omega) hQ
  rw [show hf_mp φ0 205 ((361 * l1).toNat) ((0 : Int)).toNat (fun j => φ0 194 (0 + j)) = φ0 from hf_mp_0] at h
  exact h
theorem sf_273_192_v {sc : List Int} {d : Nat} {φ : hf_F} {x : Nat} {Q : Option jm_V → hf_F → Nat → Prop} {v1 : Int}
    (H : hw sc d 188 0 [(0, (0, v1)), (1, (0, 0)), (2, (0, 1))] [] (hf_up φ 192 0 0) x (fun r ψ1 y1 => y1 = x ∧ (hf_up φ 192 0 0) = ψ1 ∧ (∃ z1 : Int, r = some (0, z1) ∧ (hi z1 ∧ (¬ z1 = 0 → (0 ≤ v1) ∧ (v1 ≤ 1) ∧ (∀ (Lm3 : jm_L), jm_get Lm3 0 = some (2, 192) → jm_get Lm3 1 = some (0, v1) → jm_get Lm3 2 = some (0, 361) → ((0 ≤ v1) ∧ (v1 ≤ 1) ∧ (∀ (Lm4 : jm_L), jm_get Lm4 0 = some (2, 192) → jm_get Lm4 1 = some (0, v1) → jm_get Lm4 2 = some (0, 33) → (0 ≤ v1 ∧ v1 < 2 ∧ (Q (some (0, 1)) (hf_up (hf_mp (hf_mp (hf_up φ 192 0 0) 205 ((361 * v1).toNat) 361 (fun j => (hf_up φ 192 0 0) 194 (0 + j))) 206 ((33 * v1).toNat) 33 (fun j => (hf_mp (hf_up φ 192 0 0) 205 ((361 * v1).toNat) 361 (fun j => (hf_up φ 192 0 0) 194 (0 + j))) 197 (0 + j))) 207 ((v1).toNat) (jm_z 1)) x)))))) ∧ (¬ (¬ z1 = 0) → Q (some (0, 0)) (hf_up φ 192 0 0) x))))) :
    hw sc (d + 1) 273 0 [(0, (2, 192)), (1, (0, v1))] [] φ x Q := by
  refine hw_ald (b := 0) (e := 0) (by decide +kernel) rfl (by decide) ?_
  refine hw_k (c := 0) (b := 0) (e := 1) (by decide +kernel) ?_
  refine hr_pi (b := 12) (e := 0) 192 rfl (by decide +kernel) ?_
  refine hw_ld (b := 1) (e := 0) (by decide +kernel) rfl ?_
  refine hw_k (c := 0) (b := 0) (e := 1) (by decide +kernel) ?_
  refine hw_k (c := 1) (b := 0) (e := 1) (by decide +kernel) ?_
  refine hr_calls (b := 188) (e := 3) (nl := 3) (As := [(0, v1), (0, 0), (0, 1)]) (R := []) (by decide +kernel) rfl rfl (Nat.le_of_ble_eq_true rfl) (Nat.le_of_ble_eq_true rfl) ?_
  refine hw_mono H ?_
  rintro r ψ1 y1 ⟨hyx, hψx, z1, hr, H⟩
  subst hyx
  subst hψx
  subst hr
  refine ⟨hne0, ?_⟩
  show hw sc (d + 1) 273 11 [(0, (2, 192)), (1, (0, v1))] [(0, z1)] (hf_up φ 192 0 0) y1 Q
  obtain ⟨hz2, ht2, hf2⟩ := H
  refine hw_if (a0 := 0) (b := 1) (e := 16) (by decide +kernel) hz2 (fun q => ?_) (fun q => ?_)
  · have H := ht2 q
    refine hw_k (c := 0) (b := 0) (e := 1) (by decide +kernel) ?_
    refine hw_st (L' := (jm_st1 [(0, (2, 192)), (1, (0, v1))] 2 (0, 0))) (b := 2) (e := 0) (by decide +kernel) rfl ?_
    obtain ⟨hs3_0, hs3_1, H⟩ := H
    refine sf_273_192_M18 (φ0 := (hf_up φ 192 0 0)) (l1 := v1) (get_st1 rfl (by decide) (fun q => absurd q.1 (by decide))) (get_st1 rfl (by decide) (fun q => tg0 q.2)) get_st1e hs3_0 hs3_1 (fun Lm3 w3_0 w3_1 w3_2 => ?_)
    have H := H Lm3 w3_0 w3_1 w3_2
    refine hw_k (c := 0) (b := 0) (e := 1) (by decide +kernel) ?_
    refine hw_st (L' := (jm_st1 Lm3 2 (0, 0))) (b := 2) (e := 0) (by decide +kernel) rfl ?_
    obtain ⟨hs4_0, hs4_1, H⟩ := H
    refine sf_273_192_M51 (φ0 := (hf_mp (hf_up φ 192 0 0) 205 ((361 * v1).toNat) 361 (fun j => (hf_up φ 192 0 0) 194 (0 + j)))) (l1 := v1) (get_st1 w3_0 (by decide) (fun q => absurd q.1 (by decide))) (get_st1 w3_1 (by decide) (fun q => tg0 q.2)) get_st1e hs4_0 hs4_1 (fun Lm4 w4_0 w4_1 w4_2 => ?_)
    have H := H Lm4 w4_0 w4_1 w4_2
    refine hw_ald (b := 0) (e := 0) (by decide +kernel) w4_0 (by decide) ?_
    refine hr_gr (w := 207) (b := 12) (e := 42) 192 rfl (by decide +kernel) ?_
    refine hw_ld (b := 1) (e := 0) (by decide +kernel) w4_1 ?_
    refine hw_k (c := 1) (b := 0) (e := 1) (by decide +kernel) ?_
    obtain ⟨hl5, hu5, H⟩ := H
    refine hr_asz (a0 := 0) (e := 4) (n := 2) 207 rfl (by decide +kernel) hl5 hu5 ?_
    refine hw_k (c := 1) (b := 0) (e := 1) (by decide +kernel) ?_
    exact hw_ret (a0 := 0) (e := 1) (by decide +kernel) (Or.inr ⟨rfl, by decide⟩) H
  · have H := hf2 q
    refine hw_k (c := 0) (b := 0) (e := 1) (by decide +kernel) ?_
    exact hw_ret (a0 := 0) (e := 1) (by decide +kernel) (Or.inr ⟨rfl, by decide⟩) H
theorem sf_273_192 {sc : List Int} {d : Nat} {φ : hf_F} {x : Nat} {Q : Option jm_V → hf_F → Nat → Prop} {v1 : Int} (hI : Inv φ) (h1a : (-2147483648 : Int) ≤ v1) (h1b : v1 ≤ 2147483647) (hQ : ∀ (r : Int) (ψ : hf_F), Inv ψ → Fr [205, 206, 207, 193000] φ ψ → 0 ≤ r ∧ r ≤ 1 ∧ KP v1 r φ ψ → F_RideLawsModel_image_192 φ v1 = (r, ψ) → Q (some (0, r)) ψ x) : hw sc (d + 1) 273 0 [(0, (2, 192)), (1, (0, v1))] [] φ x Q := by
  apply sf_273_192_v
  have e0 : F_RideLawsModel_image_192 φ v1 = _ := rfl
  have i1 : Inv (hf_up φ 192 0 0) := iv_up (lo := 0) (u := 1) hI (by decide +kernel) (by omega) (by omega)
  have r1 : Fr [205, 206, 207, 193000] φ (hf_up φ 192 0 0) := fr_up (fr_rf) (by decide)
  refine sf_188 (φ := (hf_up φ 192 0 0)) i1 (by omega) (by omega) (by omega) (by omega) (by omega) (by omega) (fun z1 hp1 hE1 => ⟨rfl, rfl, z1, rfl, ?_⟩)
  have e1 := e0.trans (bnp_e hE1)
  refine ⟨by unfold hi; omega, fun q2 => ?_, fun q2 => ?_⟩
  · skip
    have e2a := e1.trans (if_pos q2)
    refine ⟨by omega, by omega, fun Lm3 w3_0 w3_1 w3_2 => ?_⟩
    have i2 : Inv (hf_mp (hf_up φ 192 0 0) 205 ((361 * v1).toNat) 361 (fun j => (hf_up φ 192 0 0) 194 (0 + j))) := iv_image i1 (z := v1) (by omega) (by omega)
    have r2 : Fr [205, 206, 207, 193000] φ (hf_mp (hf_up φ 192 0 0) 205 ((361 * v1).toNat) 361 (fun j => (hf_up φ 192 0 0) 194 (0 + j))) := fr_mp r1 (by decide)
    refine ⟨by omega, by omega, fun Lm4 w4_0 w4_1 w4_2 => ?_⟩
    have i3 : Inv (hf_mp (hf_mp (hf_up φ 192 0 0) 205 ((361 * v1).toNat) 361 (fun j => (hf_up φ 192 0 0) 194 (0 + j))) 206 ((33 * v1).toNat) 33 (fun j => (hf_mp (hf_up φ 192 0 0) 205 ((361 * v1).toNat) 361 (fun j => (hf_up φ 192 0 0) 194 (0 + j))) 197 (0 + j))) := iv_mpn i2 (by decide +kernel)
    have r3 : Fr [205, 206, 207, 193000] φ (hf_mp (hf_mp (hf_up φ 192 0 0) 205 ((361 * v1).toNat) 361 (fun j => (hf_up φ 192 0 0) 194 (0 + j))) 206 ((33 * v1).toNat) 33 (fun j => (hf_mp (hf_up φ 192 0 0) 205 ((361 * v1).toNat) 361 (fun j => (hf_up φ 192 0 0) 194 (0 + j))) 197 (0 + j))) := fr_mp r2 (by decide)
    refine ⟨by omega, by omega, ?_⟩
    have f4 := hr_jmz (w := 1) (by omega)
    have i5 : Inv (hf_up (hf_mp (hf_mp (hf_up φ 192 0 0) 205 ((361 * v1).toNat) 361 (fun j => (hf_up φ 192 0 0) 194 (0 + j))) 206 ((33 * v1).toNat) 33 (fun j => (hf_mp (hf_up φ 192 0 0) 205 ((361 * v1).toNat) 361 (fun j => (hf_up φ 192 0 0) 194 (0 + j))) 197 (0 + j))) 207 ((v1).toNat) (jm_z 1)) := iv_upI (s := 0) (t := 2) (lo := 0) (u := 1) (z := v1) i3 (by decide +kernel) (by omega) (by omega) (by omega) (by omega)
    have r5 : Fr [205, 206, 207, 193000] φ (hf_up (hf_mp (hf_mp (hf_up φ 192 0 0) 205 ((361 * v1).toNat) 361 (fun j => (hf_up φ 192 0 0) 194 (0 + j))) 206 ((33 * v1).toNat) 33 (fun j => (hf_mp (hf_up φ 192 0 0) 205 ((361 * v1).toNat) 361 (fun j => (hf_up φ 192 0 0) 194 (0 + j))) 197 (0 + j))) 207 ((v1).toNat) (jm_z 1)) := fr_upa r3 (by decide)
    exact hQ 1 (hf_up (hf_mp (hf_mp (hf_up φ 192 0 0) 205 ((361 * v1).toNat) 361 (fun j => (hf_up φ 192 0 0) 194 (0 + j))) 206 ((33 * v1).toNat) 33 (fun j => (hf_mp (hf_up φ 192 0 0) 205 ((361 * v1).toNat) 361 (fun j => (hf_up φ 192 0 0) 194 (0 + j))) 197 (0 + j))) 207 ((v1).toNat) (jm_z 1)) i5 r5 ⟨by omega, by omega, Or.inl ⟨rfl, by omega, hf_up_eq.trans rfl, fun kk hk => (hf_up_ne (fun q => hk q.2)).trans ((hf_mp_ne (fun q => absurd q.1 (by decide))).trans ((hf_mp_ne (fun q => absurd q.1 (by decide))).trans (hf_up_ne (fun q => absurd q.1 (by decide)))))⟩⟩ e2a
  · skip
    have e2b := e1.trans (if_neg q2)
    exact hQ 0 (hf_up φ 192 0 0) i1 r1 ⟨by omega, by omega, Or.inr ⟨rfl, by omega, fun kk => (hf_up_ne (fun q => absurd q.1 (by decide)))⟩⟩ e2b
theorem sf_274_192_v60 {sc : List Int} {d : Nat} {φ : hf_F} {x : Nat} {Q : Option jm_V → hf_F → Nat → Prop} {L : jm_L} {l1 l2 : Int} (g0 : jm_get L 0 = some (2, 192)) (g1 : jm_get L 1 = some (0, l1)) (g2 : jm_get L 2 = some (0, l2))
    (H : hi l2 ∧ hi 33 ∧ (33 ≤ l2 → hw sc (d + 1) 274 89 L [] φ x Q) ∧ (¬ 33 ≤ l2 → 0 ≤ ((33 * l1) + l2) ∧ ((33 * l1) + l2) < 66 ∧ (0 ≤ l2 ∧ l2 < 66 ∧ (hw sc (d + 1) 274 60 (jm_st1 L 2 (0, l2 + 1)) [] (hf_up φ 197 ((l2).toNat) (φ 206 (((33 * l1) + l2).toNat))) x Q)))) :
    hw sc (d + 1) 274 60 L [] φ x Q := by
  refine hw_ld (b := 2) (e := 0) (by decide +kernel) g2 ?_
  refine hw_k (c := 33) (b := 1) (e := 2) (by decide +kernel) ?_
  obtain ⟨hz1, hy1, ht1, hf1⟩ := H
  refine hw_if2 (a0 := 0) (b := 3) (e := 89) (by decide +kernel) hz1 hy1 (fun q => ?_) (fun q => ?_)
  · have H := ht1 q
    exact H
  · have H := hf1 q
    refine hw_ald (b := 0) (e := 0) (by decide +kernel) g0 (by decide) ?_
    refine hr_gr (w := 197) (b := 12) (e := 9) 192 rfl (by decide +kernel) ?_
    refine hw_ld (b := 2) (e := 0) (by decide +kernel) g2 ?_
    refine hw_ald (b := 0) (e := 0) (by decide +kernel) g0 (by decide) ?_
    refine hr_gr (w := 206) (b := 12) (e := 41) 192 rfl (by decide +kernel) ?_
    refine hw_k (c := 33) (b := 1) (e := 2) (by decide +kernel) ?_
    refine hw_ld (b := 1) (e := 0) (by decide +kernel) g1 ?_
    refine hw_bin (w := 33 * l1) (a0 := 0) (b := 2) (e := 0) (by decide +kernel) rfl ?_
    refine hw_ld (b := 2) (e := 0) (by decide +kernel) g2 ?_
    refine hw_bin (w := (33 * l1) + l2) (a0 := 0) (b := 0) (e := 0) (by decide +kernel) rfl ?_
    obtain ⟨hl2, hu2, H⟩ := H
    refine hr_all (a0 := 0) (e := 0) (n := 66) (w := φ 206 (((33 * l1) + l2).toNat)) 206 rfl (by decide +kernel) hl2 hu2 rfl ?_
    obtain ⟨hl3, hu3, H⟩ := H
    refine hr_asl (a0 := 0) (e := 4) (n := 66) 197 rfl (by decide +kernel) hl3 hu3 ?_
    refine hw_inc (L' := (jm_st1 L 2 (0, l2 + 1))) (c := 1) (b := 2) (e := 0) (by decide +kernel) g2 rfl ?_
    refine hw_goto (a0 := 0) (b := 0) (e := 60) (by decide +kernel) ?_
    exact H
theorem sf_274_192_m60 {sc : List Int} {d x : Nat} {Q : Option jm_V → hf_F → Nat → Prop} {φ0 : hf_F} {l1 : Int} (hs0 : 0 ≤ l1) (hs1 : l1 ≤ 1) : ∀ (n : Nat) (L : jm_L) (l2 : Int), jm_get L 0 = some (2, 192) → jm_get L 1 = some (0, l1) → jm_get L 2 = some (0, l2) → 0 ≤ l2 → l2 + (n : Int) = 33 → (∀ (L1 : jm_L), jm_get L1 0 = some (2, 192) → jm_get L1 1 = some (0, l1) → jm_get L1 2 = some (0, 33) → hw sc (d + 1) 274 89 L1 [] (hf_mp φ0 197 0 33 (fun j => φ0 206 (((33 * l1).toNat) + j))) x Q) → hw sc (d + 1) 274 60 L [] (hf_mp φ0 197 0 (l2).toNat (fun j => φ0 206 (((33 * l1).toNat) + j))) x Q := by
  intro n
  induction n with
  | zero =>
    intro L l2 g0 g1 g2 h0 hn hQ
    generalize hμ : hf_mp φ0 197 0 (l2).toNat (fun j => φ0 206 (((33 * l1).toNat) + j)) = φ
    refine sf_274_192_v60 g0 g1 g2 ?_
    refine ⟨by unfold hi; omega, by unfold hi; omega, fun q1 => ?_, fun q1 => ?_⟩
    · skip
      obtain rfl : l2 = 33 := by omega
      subst hμ
      exact hQ L g0 g1 g2
    · exfalso
      omega
  | succ n ih =>
    intro L l2 g0 g1 g2 h0 hn hQ
    generalize hμ : hf_mp φ0 197 0 (l2).toNat (fun j => φ0 206 (((33 * l1).toNat) + j)) = φ
    refine sf_274_192_v60 g0 g1 g2 ?_
    refine ⟨by unfold hi; omega, by unfold hi; omega, fun q1 => ?_, fun q1 => ?_⟩
    · skip
      obtain rfl : l2 = 33 := by omega
      subst hμ
      exact hQ L g0 g1 g2
    · skip
      refine ⟨by omega, by omega, ?_⟩
      refine ⟨by omega, by omega, ?_⟩
      have hk : (l2).toNat = 0 + (l2).toNat := by omega
      have hv : (φ 206 (((33 * l1) + l2).toNat) : Int) = (fun j => φ0 206 (((33 * l1).toNat) + j)) (l2).toNat := (congrArg (φ 206) (show (((33 * l1) + l2).toNat) = ((33 * l1).toNat) + (l2).toNat by omega)).trans (by rw [← hμ]; exact hf_mp_ne (by omega))
      have he := hf_mp_s (φ := φ0) (b := 197) (ob := 0) (f := (fun j => φ0 206 (((33 * l1).toNat) + j))) hk hv
      rw [hμ, show (l2).toNat + 1 = (l2 + 1).toNat by omega] at he
      rw [he]
      exact ih (jm_st1 L 2 (0, l2 + 1)) (l2 + 1) (get_st1 g0 (by decide) (fun q => absurd q.1 (by decide))) (get_st1 g1 (by decide) (fun q => tg0 q.2)) get_st1e (by omega) (by omega) hQ
theorem sf_274_192_M60 {sc : List Int} {d x : Nat} {Q : Option jm_V → hf_F → Nat → Prop} {φ0 : hf_F} {l1 : Int} {L : jm_L} (g0 : jm_get L 0 = some (2, 192)) (g1 : jm_get L 1 = some (0, l1)) (g2 : jm_get L 2 = some (0, 0)) (hs0 : 0 ≤ l1) (hs1 : l1 ≤ 1) (hQ : (∀ (L1 : jm_L), jm_get L1 0 = some (2, 192) → jm_get L1 1 = some (0, l1) → jm_get L1 2 = some (0, 33) → hw sc (d + 1) 274 89 L1 [] (hf_mp φ0 197 0 33 (fun j => φ0 206 (((33 * l1).toNat) + j))) x Q)) : hw sc (d + 1) 274 60 L [] φ0 x Q := by
  have h := sf_274_192_m60 (φ0 := φ0) (l1 := l1) hs0 hs1 33 L 0 g0 g1 g2 (by decide) (by omega) hQ
  rw [show hf_mp φ0 197 0 ((0 : Int)).toNat (fun j => φ0 206 (((33 * l1).toNat) + j)) = φ0 from hf_mp_0] at h
  exact h
theorem sf_274_192_v27 {sc : List Int} {d : Nat} {φ : hf_F} {x : Nat} {Q : Option jm_V → hf_F → Nat → Prop} {L : jm_L} {l1 l2 : Int} (g0 : jm_get L 0 = some (2, 192)) (g1 : jm_get L 1 = some (0, l1)) (g2 : jm_get L 2 = some (0, l2))
    (H : hi l2 ∧ hi 361 ∧ (361 ≤ l2 → hw sc (d + 1) 274 58 L [] φ x Q) ∧ (¬ 361 ≤ l2 → 0 ≤ ((361 * l1) + l2) ∧ ((361 * l1) + l2) < 722 ∧ (0 ≤ l2 ∧ l2 < 361 ∧ (hw sc (d + 1) 274 27 (jm_st1 L 2 (0, l2 + 1)) [] (hf_up φ 194 ((l2).toNat) (φ 205 (((361 * l1) + l2).toNat))) x Q)))) :
    hw sc (d + 1) 274 27 L [] φ x Q := by
  refine hw_ld (b := 2) (e := 0) (by decide +kernel) g2 ?_
  refine hw_k (c := 361) (b := 2) (e := 3) (by decide +kernel) ?_
  obtain ⟨hz1, hy1, ht1, hf1⟩ := H
  refine hw_if2 (a0 := 0) (b := 3) (e := 58) (by decide +kernel) hz1 hy1 (fun q => ?_) (fun q => ?_)
  · have H := ht1 q
    exact H
  · have H := hf1 q
    refine hw_ald (b := 0) (e := 0) (by decide +kernel) g0 (by decide) ?_
    refine hr_gr (w := 194) (b := 12) (e := 6) 192 rfl (by decide +kernel) ?_
    refine hw_ld (b := 2) (e := 0) (by decide +kernel) g2 ?_
    refine hw_ald (b := 0) (e := 0) (by decide +kernel) g0 (by decide) ?_
    refine hr_gr (w := 205) (b := 12) (e := 40) 192 rfl (by decide +kernel) ?_
    refine hw_k (c := 361) (b := 2) (e := 3) (by decide +kernel) ?_
    refine hw_ld (b := 1) (e := 0) (by decide +kernel) g1 ?_
    refine hw_bin (w := 361 * l1) (a0 := 0) (b := 2) (e := 0) (by decide +kernel) rfl ?_
    refine hw_ld (b := 2) (e := 0) (by decide +kernel) g2 ?_
    refine hw_bin (w := (361 * l1) + l2) (a0 := 0) (b := 0) (e := 0) (by decide +kernel) rfl ?_
    obtain ⟨hl2, hu2, H⟩ := H
    refine hr_al (b := 0) (a0 := 0) (e := 0) (n := 722) (w := φ 205 (((361 * l1) + l2).toNat)) 205 rfl (by decide +kernel) (by decide) hl2 hu2 rfl ?_
    obtain ⟨hl3, hu3, H⟩ := H
    refine hr_as (a0 := 0) (e := 4) (n := 361) 194 rfl (by decide +kernel) hl3 hu3 ?_
    refine hw_inc (L' := (jm_st1 L 2 (0, l2 + 1))) (c := 1) (b := 2) (e := 0) (by decide +kernel) g2 rfl ?_
    refine hw_goto (a0 := 0) (b := 0) (e := 27) (by decide +kernel) ?_
    exact H
theorem sf_274_192_m27 {sc : List Int} {d x : Nat} {Q : Option jm_V → hf_F → Nat → Prop} {φ0 : hf_F} {l1 : Int} (hs0 : 0 ≤ l1) (hs1 : l1 ≤ 1) : ∀ (n : Nat) (L : jm_L) (l2 : Int), jm_get L 0 = some (2, 192) → jm_get L 1 = some (0, l1) → jm_get L 2 = some (0, l2) → 0 ≤ l2 → l2 + (n : Int) = 361 → (∀ (L1 : jm_L), jm_get L1 0 = some (2, 192) → jm_get L1 1 = some (0, l1) → jm_get L1 2 = some (0, 361) → hw sc (d + 1) 274 58 L1 [] (hf_mp φ0 194 0 361 (fun j => φ0 205 (((361 * l1).toNat) + j))) x Q) → hw sc (d + 1) 274 27 L [] (hf_mp φ0 194 0 (l2).toNat (fun j => φ0 205 (((361 * l1).toNat) + j))) x Q := by
  intro n
  induction n with
  | zero =>
    intro L l2 g0 g1 g2 h0 hn hQ
    generalize hμ : hf_mp φ0 194 0 (l2).toNat (fun j => φ0 205 (((361 * l1).toNat) + j)) = φ
    refine sf_274_192_v27 g0 g1 g2 ?_
    refine ⟨by unfold hi; omega, by unfold hi; omega, fun q1 => ?_, fun q1 => ?_⟩
    · skip
      obtain rfl : l2 = 361 := by omega
      subst hμ
      exact hQ L g0 g1 g2
    · exfalso
      omega
  | succ n ih =>
    intro L l2 g0 g1 g2 h0 hn hQ
    generalize hμ : hf_mp φ0 194 0 (l2).toNat (fun j => φ0 205 (((361 * l1).toNat) + j)) = φ
    refine sf_274_192_v27 g0 g1 g2 ?_
    refine ⟨by unfold hi; omega, by unfold hi; omega, fun q1 => ?_, fun q1 => ?_⟩
    · skip
      obtain rfl : l2 = 361 := by omega
      subst hμ
      exact hQ L g0 g1 g2
    · skip
      refine ⟨by omega, by omega, ?_⟩
      refine ⟨by omega, by omega, ?_⟩
      have hk : (l2).toNat = 0 + (l2).toNat := by omega
      have hv : (φ 205 (((361 * l1) + l2).toNat) : Int) = (fun j => φ0 205 (((361 * l1).toNat) + j)) (l2).toNat := (congrArg (φ 205) (show (((361 * l1) + l2).toNat) = ((361 * l1).toNat) + (l2).toNat by omega)).trans (by rw [← hμ]; exact hf_mp_ne (by omega))
      have he := hf_mp_s (φ := φ0) (b := 194) (ob := 0) (f := (fun j => φ0 205 (((361 * l1).toNat) + j))) hk hv
      rw [hμ, show (l2).toNat + 1 = (l2 + 1).toNat by omega] at he
      rw [he]
      exact ih (jm_st1 L 2 (0, l2 + 1)) (l2 + 1) (get_st1 g0 (by decide) (fun q => absurd q.1 (by decide))) (get_st1 g1 (by decide) (fun q => tg0 q.2)) get_st1e (by omega) (by omega) hQ
theorem sf_274_192_M27 {sc : List Int} {d x : Nat} {Q : Option jm_V → hf_F → Nat → Prop} {φ0 : hf_F} {l1 : Int} {L : jm_L} (g0 : jm_get L 0 = some (2, 192)) (g1 : jm_get L 1 = some (0, l1)) (g2 : jm_get L 2 = some (0, 0)) (hs0 : 0 ≤ l1) (hs1 : l1 ≤ 1) (hQ : (∀ (L1 : jm_L), jm_get L1 0 = some (2, 192) → jm_get L1 1 = some (0, l1) → jm_get L1 2 = some (0, 361) → hw sc (d + 1) 274 58 L1 [] (hf_mp φ0 194 0 361 (fun j => φ0 205 (((361 * l1).toNat) + j))) x Q)) : hw sc (d + 1) 274 27 L [] φ0 x Q := by
  have h := sf_274_192_m27 (φ0 := φ0) (l1 := l1) hs0 hs1 361 L 0 g0 g1 g2 (by decide) (by omega) hQ
  rw [show hf_mp φ0 194 0 ((0 : Int)).toNat (fun j => φ0 205 (((361 * l1).toNat) + j)) = φ0 from hf_mp_0] at h
  exact h
theorem sf_274_192_v {sc : List Int} {d : Nat} {φ : hf_F} {x : Nat} {Q : Option jm_V → hf_F → Nat → Prop} {v1 : Int}
    (H : hw sc d 188 0 [(0, (0, v1)), (1, (0, 0)), (2, (0, 1))] [] (hf_up φ 192 0 0) x (fun r ψ1 y1 => y1 = x ∧ (hf_up φ 192 0 0) = ψ1 ∧ (∃ z1 : Int, r = some (0, z1) ∧ (hi z1 ∧ (z1 = 0 → Q (some (0, 0)) (hf_up φ 192 0 0) x) ∧ (¬ z1 = 0 → 0 ≤ v1 ∧ v1 < 2 ∧ (hi (φ 207 ((v1).toNat)) ∧ (¬ (φ 207 ((v1).toNat)) = 0 → (0 ≤ v1) ∧ (v1 ≤ 1) ∧ (∀ (Lm6 : jm_L), jm_get Lm6 0 = some (2, 192) → jm_get Lm6 1 = some (0, v1) → jm_get Lm6 2 = some (0, 361) → ((0 ≤ v1) ∧ (v1 ≤ 1) ∧ (∀ (Lm7 : jm_L), jm_get Lm7 0 = some (2, 192) → jm_get Lm7 1 = some (0, v1) → jm_get Lm7 2 = some (0, 33) → (Q (some (0, 1)) (hf_up (hf_mp (hf_mp (hf_up φ 192 0 0) 194 0 361 (fun j => (hf_up φ 192 0 0) 205 (((361 * v1).toNat) + j))) 197 0 33 (fun j => (hf_mp (hf_up φ 192 0 0) 194 0 361 (fun j => (hf_up φ 192 0 0) 205 (((361 * v1).toNat) + j))) 206 (((33 * v1).toNat) + j))) 192 22 0) x))))) ∧ (¬ (¬ (φ 207 ((v1).toNat)) = 0) → Q (some (0, 0)) (hf_up φ 192 0 0) x))))))) :
    hw sc (d + 1) 274 0 [(0, (2, 192)), (1, (0, v1))] [] φ x Q := by
  refine hw_ald (b := 0) (e := 0) (by decide +kernel) rfl (by decide) ?_
  refine hw_k (c := 0) (b := 0) (e := 1) (by decide +kernel) ?_
  refine hr_pi (b := 12) (e := 0) 192 rfl (by decide +kernel) ?_
  refine hw_ld (b := 1) (e := 0) (by decide +kernel) rfl ?_
  refine hw_k (c := 0) (b := 0) (e := 1) (by decide +kernel) ?_
  refine hw_k (c := 1) (b := 0) (e := 1) (by decide +kernel) ?_
  refine hr_calls (b := 188) (e := 3) (nl := 3) (As := [(0, v1), (0, 0), (0, 1)]) (R := []) (by decide +kernel) rfl rfl (Nat.le_of_ble_eq_true rfl) (Nat.le_of_ble_eq_true rfl) ?_
  refine hw_mono H ?_
  rintro r ψ1 y1 ⟨hyx, hψx, z1, hr, H⟩
  subst hyx
  subst hψx
  subst hr
  refine ⟨hne0, ?_⟩
  show hw sc (d + 1) 274 11 [(0, (2, 192)), (1, (0, v1))] [(0, z1)] (hf_up φ 192 0 0) y1 Q
  obtain ⟨hz2, ht2, hf2⟩ := H
  refine hw_if (a0 := 0) (b := 0) (e := 23) (by decide +kernel) hz2 (fun q => ?_) (fun q => ?_)
  · have H := ht2 q
    refine hw_k (c := 0) (b := 0) (e := 1) (by decide +kernel) ?_
    exact hw_ret (a0 := 0) (e := 1) (by decide +kernel) (Or.inr ⟨rfl, by decide⟩) H
  · have H := hf2 q
    refine hw_ald (b := 0) (e := 0) (by decide +kernel) rfl (by decide) ?_
    refine hr_gr (w := 207) (b := 12) (e := 42) 192 rfl (by decide +kernel) ?_
    refine hw_ld (b := 1) (e := 0) (by decide +kernel) rfl ?_
    obtain ⟨hl4, hu4, H⟩ := H
    refine hr_al (b := 1) (a0 := 0) (e := 0) (n := 2) (w := φ 207 ((v1).toNat)) 207 rfl (by decide +kernel) (by decide) hl4 hu4 (hf_up_ne (fun q => absurd q.1 (by decide))) ?_
    obtain ⟨hz5, ht5, hf5⟩ := H
    refine hw_if (a0 := 0) (b := 1) (e := 25) (by decide +kernel) hz5 (fun q => ?_) (fun q => ?_)
    · have H := ht5 q
      refine hw_k (c := 0) (b := 0) (e := 1) (by decide +kernel) ?_
      refine hw_st (L' := (jm_st1 [(0, (2, 192)), (1, (0, v1))] 2 (0, 0))) (b := 2) (e := 0) (by decide +kernel) rfl ?_
      obtain ⟨hs6_0, hs6_1, H⟩ := H
      refine sf_274_192_M27 (φ0 := (hf_up φ 192 0 0)) (l1 := v1) (get_st1 rfl (by decide) (fun q => absurd q.1 (by decide))) (get_st1 rfl (by decide) (fun q => tg0 q.2)) get_st1e hs6_0 hs6_1 (fun Lm6 w6_0 w6_1 w6_2 => ?_)
      have H := H Lm6 w6_0 w6_1 w6_2
      refine hw_k (c := 0) (b := 0) (e := 1) (by decide +kernel) ?_
      refine hw_st (L' := (jm_st1 Lm6 2 (0, 0))) (b := 2) (e := 0) (by decide +kernel) rfl ?_
      obtain ⟨hs7_0, hs7_1, H⟩ := H
      refine sf_274_192_M60 (φ0 := (hf_mp (hf_up φ 192 0 0) 194 0 361 (fun j => (hf_up φ 192 0 0) 205 (((361 * v1).toNat) + j)))) (l1 := v1) (get_st1 w6_0 (by decide) (fun q => absurd q.1 (by decide))) (get_st1 w6_1 (by decide) (fun q => tg0 q.2)) get_st1e hs7_0 hs7_1 (fun Lm7 w7_0 w7_1 w7_2 => ?_)
      have H := H Lm7 w7_0 w7_1 w7_2
      refine hw_ald (b := 0) (e := 0) (by decide +kernel) w7_0 (by decide) ?_
      refine hw_k (c := 0) (b := 0) (e := 1) (by decide +kernel) ?_
      refine hr_pi (b := 12) (e := 22) 192 rfl (by decide +kernel) ?_
      refine hw_k (c := 1) (b := 0) (e := 1) (by decide +kernel) ?_
      exact hw_ret (a0 := 0) (e := 1) (by decide +kernel) (Or.inr ⟨rfl, by decide⟩) H
    · have H := hf5 q
      refine hw_k (c := 0) (b := 0) (e := 1) (by decide +kernel) ?_
      exact hw_ret (a0 := 0) (e := 1) (by decide +kernel) (Or.inr ⟨rfl, by decide⟩) H
theorem sf_274_192 {sc : List Int} {d : Nat} {φ : hf_F} {x : Nat} {Q : Option jm_V → hf_F → Nat → Prop} {v1 : Int} (hI : Inv φ) (h1a : (-2147483648 : Int) ≤ v1) (h1b : v1 ≤ 2147483647) (hQ : ∀ (r : Int) (ψ : hf_F), Inv ψ → Fr [194, 197, 193000, 193022] φ ψ → 0 ≤ r ∧ r ≤ 1 ∧ KQ v1 r φ → F_RideLawsModel_restore_192 φ v1 = (r, ψ) → Q (some (0, r)) ψ x) : hw sc (d + 1) 274 0 [(0, (2, 192)), (1, (0, v1))] [] φ x Q := by
  apply sf_274_192_v
  have e0 : F_RideLawsModel_restore_192 φ v1 = _ := rfl
  have i1 : Inv (hf_up φ 192 0 0) := iv_up (lo := 0) (u := 1) hI (by decide +kernel) (by omega) (by omega)
  have r1 : Fr [194, 197, 193000, 193022] φ (hf_up φ 192 0 0) := fr_up (fr_rf) (by decide)
  refine sf_188 (φ := (hf_up φ 192 0 0)) i1 (by omega) (by omega) (by omega) (by omega) (by omega) (by omega) (fun z1 hp1 hE1 => ⟨rfl, rfl, z1, rfl, ?_⟩)
  have e1 := e0.trans (bnp_e hE1)
  refine ⟨by unfold hi; omega, fun q2 => ?_, fun q2 => ?_⟩
  · skip
    have e2a := e1.trans (if_pos q2)
    exact hQ 0 (hf_up φ 192 0 0) i1 r1 ⟨by omega, by omega, by unfold KQ; omega⟩ e2a
  · skip
    have e2b := e1.trans (if_neg q2)
    refine ⟨by omega, by omega, ?_⟩
    have f2 := iv_ar (a := 207) (s := 0) (t := 2) (lo := 0) (u := 1) (z := v1) hI (by decide +kernel) (by omega) (by omega)
    refine ⟨by unfold hi; omega, fun q5 => ?_, fun q5 => ?_⟩
    · skip
      have e5a := e2b.trans (if_pos q5)
      refine ⟨by omega, by omega, fun Lm6 w6_0 w6_1 w6_2 => ?_⟩
      have i3 : Inv (hf_mp (hf_up φ 192 0 0) 194 0 361 (fun j => (hf_up φ 192 0 0) 205 (((361 * v1).toNat) + j))) := iv_rest i1 (z := v1) (by omega) (by omega)
      have r3 : Fr [194, 197, 193000, 193022] φ (hf_mp (hf_up φ 192 0 0) 194 0 361 (fun j => (hf_up φ 192 0 0) 205 (((361 * v1).toNat) + j))) := fr_mp r1 (by decide)
      refine ⟨by omega, by omega, fun Lm7 w7_0 w7_1 w7_2 => ?_⟩
      have i4 : Inv (hf_mp (hf_mp (hf_up φ 192 0 0) 194 0 361 (fun j => (hf_up φ 192 0 0) 205 (((361 * v1).toNat) + j))) 197 0 33 (fun j => (hf_mp (hf_up φ 192 0 0) 194 0 361 (fun j => (hf_up φ 192 0 0) 205 (((361 * v1).toNat) + j))) 206 (((33 * v1).toNat) + j))) := iv_mpn i3 (by decide +kernel)
      have r4 : Fr [194, 197, 193000, 193022] φ (hf_mp (hf_mp (hf_up φ 192 0 0) 194 0 361 (fun j => (hf_up φ 192 0 0) 205 (((361 * v1).toNat) + j))) 197 0 33 (fun j => (hf_mp (hf_up φ 192 0 0) 194 0 361 (fun j => (hf_up φ 192 0 0) 205 (((361 * v1).toNat) + j))) 206 (((33 * v1).toNat) + j))) := fr_mp r3 (by decide)
      have i5 : Inv (hf_up (hf_mp (hf_mp (hf_up φ 192 0 0) 194 0 361 (fun j => (hf_up φ 192 0 0) 205 (((361 * v1).toNat) + j))) 197 0 33 (fun j => (hf_mp (hf_up φ 192 0 0) 194 0 361 (fun j => (hf_up φ 192 0 0) 205 (((361 * v1).toNat) + j))) 206 (((33 * v1).toNat) + j))) 192 22 0) := iv_up (lo := 0) (u := 8) i4 (by decide +kernel) (by omega) (by omega)
      have r5 : Fr [194, 197, 193000, 193022] φ (hf_up (hf_mp (hf_mp (hf_up φ 192 0 0) 194 0 361 (fun j => (hf_up φ 192 0 0) 205 (((361 * v1).toNat) + j))) 197 0 33 (fun j => (hf_mp (hf_up φ 192 0 0) 194 0 361 (fun j => (hf_up φ 192 0 0) 205 (((361 * v1).toNat) + j))) 206 (((33 * v1).toNat) + j))) 192 22 0) := fr_up r4 (by decide)
      exact hQ 1 (hf_up (hf_mp (hf_mp (hf_up φ 192 0 0) 194 0 361 (fun j => (hf_up φ 192 0 0) 205 (((361 * v1).toNat) + j))) 197 0 33 (fun j => (hf_mp (hf_up φ 192 0 0) 194 0 361 (fun j => (hf_up φ 192 0 0) 205 (((361 * v1).toNat) + j))) 206 (((33 * v1).toNat) + j))) 192 22 0) i5 r5 ⟨by omega, by omega, by unfold KQ; omega⟩ e5a
    · skip
      have e5b := e2b.trans (if_neg q5)
      exact hQ 0 (hf_up φ 192 0 0) i1 r1 ⟨by omega, by omega, by unfold KQ; omega⟩ e5b
theorem sf_198_192_v {sc : List Int} {d : Nat} {φ : hf_F} {x : Nat} {Q : Option jm_V → hf_F → Nat → Prop} {v1 : Int}
    (H : hw sc (d + 1) 199 0 [(0, (2, 192)), (1, (0, v1))] [] φ x (fun r ψ1 y1 => y1 = x ∧ φ = ψ1 ∧ (∃ z1 : Int, r = some (0, z1) ∧ (hi z1 ∧ (¬ z1 = 0 → hw sc (d + 1) 175 0 [(0, (2, 192))] [] φ x (fun r ψ3 y3 => y3 = x ∧ (r = none ∧ (Q (some (0, 1)) ψ3 x)))) ∧ (¬ (¬ z1 = 0) → hw sc (d + 1) 182 0 [(0, (2, 192)), (1, (0, 1))] [] φ x (fun r ψ5 y5 => y5 = x ∧ (∃ z5 : Int, r = some (0, z5) ∧ ((z5 = 0 ∨ z5 = 1) ∧ Q (some (0, z5)) ψ5 x)))))))) :
    hw sc (d + 2) 198 0 [(0, (2, 192)), (1, (0, v1))] [] φ x Q := by
  refine hw_ald (b := 0) (e := 0) (by decide +kernel) rfl (by decide) ?_
  refine hw_ld (b := 1) (e := 0) (by decide +kernel) rfl ?_
  refine hr_call (a0 := 22) (b := 199) (e := 2) (nl := 2) (As := [(0, v1)]) (R := []) 192 rfl (by decide +kernel) rfl rfl (Nat.le_of_ble_eq_true rfl) (Nat.le_of_ble_eq_true rfl) ?_
  refine hw_mono H ?_
  rintro r ψ1 y1 ⟨hyx, hψx, z1, hr, H⟩
  subst hyx
  subst hψx
  subst hr
  refine ⟨hne0, ?_⟩
  show hw sc (d + 2) 198 5 [(0, (2, 192)), (1, (0, v1))] [(0, z1)] φ y1 Q
  obtain ⟨hz2, ht2, hf2⟩ := H
  refine hw_if (a0 := 0) (b := 1) (e := 14) (by decide +kernel) hz2 (fun q => ?_) (fun q => ?_)
  · have H := ht2 q
    refine hw_ald (b := 0) (e := 0) (by decide +kernel) rfl (by decide) ?_
    refine hr_call (a0 := 22) (b := 175) (e := 1) (nl := 4) (As := []) (R := []) 192 rfl (by decide +kernel) rfl rfl (Nat.le_of_ble_eq_true rfl) (Nat.le_of_ble_eq_true rfl) ?_
    refine hw_mono H ?_
    rintro r ψ3 y3 ⟨hyx, hr, H⟩
    subst hyx
    subst hr
    refine ⟨hnen, ?_⟩
    show hw sc (d + 2) 198 18 [(0, (2, 192)), (1, (0, v1))] [] ψ3 y3 Q
    refine hw_k (c := 1) (b := 0) (e := 1) (by decide +kernel) ?_
    exact hw_ret (a0 := 0) (e := 1) (by decide +kernel) (Or.inr ⟨rfl, by decide⟩) H
  · have H := hf2 q
    refine hw_ald (b := 0) (e := 0) (by decide +kernel) rfl (by decide) ?_
    refine hw_k (c := 1) (b := 0) (e := 1) (by decide +kernel) ?_
    refine hr_call (a0 := 22) (b := 182) (e := 2) (nl := 2) (As := [(0, 1)]) (R := []) 192 rfl (by decide +kernel) rfl rfl (Nat.le_of_ble_eq_true rfl) (Nat.le_of_ble_eq_true rfl) ?_
    refine hw_mono H ?_
    rintro r ψ5 y5 ⟨hyx, z5, hr, H⟩
    subst hyx
    subst hr
    refine ⟨hne0, ?_⟩
    show hw sc (d + 2) 198 13 [(0, (2, 192)), (1, (0, v1))] [(0, z5)] ψ5 y5 Q
    exact hw_ret (a0 := 0) (e := 1) (by decide +kernel) (Or.inr ⟨rfl, H.1⟩) H.2
theorem sf_198_192 {sc : List Int} {d : Nat} {φ : hf_F} {x : Nat} {Q : Option jm_V → hf_F → Nat → Prop} {v1 : Int} (hI : Inv φ) (h1a : 0 ≤ v1) (h1b : v1 ≤ 255) (hQ : ∀ (r : Int) (ψ : hf_F), Inv ψ → Fr [193004, 193011, 193012, 193013, 193014, 193015, 193016, 193017] φ ψ → 0 ≤ r ∧ r ≤ 1 ∧ (((r = 1 → φ 192 11 = 3) ∧ φ 192 4 ≤ ψ 192 4) ∧ ψ 192 30 = φ 192 30) → F_RideLawsModel_sign_192 φ v1 = (r, ψ) → Q (some (0, r)) ψ x) : hw sc (d + 2) 198 0 [(0, (2, 192)), (1, (0, v1))] [] φ x Q := by
  apply sf_198_192_v
  have e0 : F_RideLawsModel_sign_192 φ v1 = _ := rfl
  refine sf_199_192 (φ := φ) hI (by omega) (by omega) (fun z1 hp1 hE1 => ⟨rfl, rfl, z1, rfl, ?_⟩)
  have e1 := e0.trans (bnp_e hE1)
  have f1 := iv_at (a := 192) (k := 11) (lo := 0) (u := 4) hI (by decide +kernel)
  refine ⟨by unfold hi; omega, fun q2 => ?_, fun q2 => ?_⟩
  · skip
    have e2a := e1.trans (if_pos q2)
    refine sf_175_192 (φ := φ) hI  (fun ψ3 hI3 hF3 hV3 hE3 => ⟨rfl, rfl, ?_⟩)
    have hG3 : Fr [193004, 193011, 193012, 193013, 193014, 193015, 193016, 193017] φ ψ3 := fr_tr (fr_rf) hF3 (by decide)
    have f2 := iv_at (a := 192) (k := 18) (lo := (-1 : Int)) (u := 999) hI (by decide +kernel)
    have f3 := iv_at (a := 192) (k := 30) (lo := 0) (u := 40) hI (by decide +kernel)
    have f4 := iv_at (a := 192) (k := 34) (lo := 0) (u := 45) hI (by decide +kernel)
    have f5 := iv_at (a := 192) (k := 35) (lo := 0) (u := 20) hI (by decide +kernel)
    have f6 := iv_at (a := 192) (k := 36) (lo := 0) (u := 45) hI (by decide +kernel)
    have f7 := iv_at (a := 192) (k := 38) (lo := 0) (u := 1) hI (by decide +kernel)
    have f8 := iv_at (a := 192) (k := 4) (lo := 0) (u := 940) hI (by decide +kernel)
    have f9 := iv_at (a := 192) (k := 11) (lo := 0) (u := 4) hI3 (by decide +kernel)
    have f10 := iv_at (a := 192) (k := 18) (lo := (-1 : Int)) (u := 999) hI3 (by decide +kernel)
    have f11 : ψ3 192 18 = φ 192 18 := (fr_fd hF3 192 18 (by decide))
    have f12 := iv_at (a := 192) (k := 30) (lo := 0) (u := 40) hI3 (by decide +kernel)
    have f13 : ψ3 192 30 = φ 192 30 := (fr_fd hF3 192 30 (by decide))
    have f14 := iv_at (a := 192) (k := 34) (lo := 0) (u := 45) hI3 (by decide +kernel)
    have f15 : ψ3 192 34 = φ 192 34 := (fr_fd hF3 192 34 (by decide))
    have f16 := iv_at (a := 192) (k := 35) (lo := 0) (u := 20) hI3 (by decide +kernel)
    have f17 : ψ3 192 35 = φ 192 35 := (fr_fd hF3 192 35 (by decide))
    have f18 := iv_at (a := 192) (k := 36) (lo := 0) (u := 45) hI3 (by decide +kernel)
    have f19 : ψ3 192 36 = φ 192 36 := (fr_fd hF3 192 36 (by decide))
    have f20 := iv_at (a := 192) (k := 38) (lo := 0) (u := 1) hI3 (by decide +kernel)
    have f21 : ψ3 192 38 = φ 192 38 := (fr_fd hF3 192 38 (by decide))
    have f22 := iv_at (a := 192) (k := 4) (lo := 0) (u := 940) hI3 (by decide +kernel)
    have e3 := e2a.trans (bnv_e hE3)
    exact hQ 1 ψ3 hI3 hG3 ⟨by omega, by omega, by omega⟩ e3
  · skip
    have e2b := e1.trans (if_neg q2)
    refine sf_182_192 (φ := φ) hI (by omega) (by omega) (fun z5 ψ5 hI5 hF5 hp5 hE5 => ⟨rfl, z5, rfl, ?_⟩)
    have hG5 : Fr [193004, 193011, 193012, 193013, 193014, 193015, 193016, 193017] φ ψ5 := fr_tr (fr_rf) hF5 (by decide)
    have f23 := iv_at (a := 192) (k := 30) (lo := 0) (u := 40) hI (by decide +kernel)
    have f24 := iv_at (a := 192) (k := 4) (lo := 0) (u := 940) hI (by decide +kernel)
    have f25 := iv_at (a := 192) (k := 30) (lo := 0) (u := 40) hI5 (by decide +kernel)
    have f26 : ψ5 192 30 = φ 192 30 := (fr_fd hF5 192 30 (by decide))
    have f27 := iv_at (a := 192) (k := 4) (lo := 0) (u := 940) hI5 (by decide +kernel)
    have f28 : ψ5 192 4 = φ 192 4 := (fr_fd hF5 192 4 (by decide))
    have e5 := e2b.trans (bnd_e hE5)
    refine ⟨by omega, ?_⟩
    exact hQ z5 ψ5 hI5 hG5 ⟨by omega, by omega, by omega⟩ e5
theorem sf_187_192_v {sc : List Int} {d : Nat} {φ : hf_F} {x : Nat} {Q : Option jm_V → hf_F → Nat → Prop} {v1 v2 : Int}
    (H : hi (φ 192 11) ∧ hi 2 ∧ ((φ 192 11) = 2 → hw sc (d + 1) 188 0 [(0, (0, φ 192 14)), (1, (0, v1)), (2, (0, v2))] [] φ x (fun r ψ2 y2 => y2 = x ∧ φ = ψ2 ∧ (∃ z2 : Int, r = some (0, z2) ∧ (hi z2 ∧ (¬ z2 = 0 → hw sc (d + 1) 175 0 [(0, (2, 192))] [] (hf_up φ 192 18 (φ 192 14)) x (fun r ψ4 y4 => y4 = x ∧ (r = none ∧ (Q (some (0, 1)) ψ4 x)))) ∧ (¬ (¬ z2 = 0) → hw sc (d + 1) 182 0 [(0, (2, 192)), (1, (0, 2))] [] φ x (fun r ψ6 y6 => y6 = x ∧ (∃ z6 : Int, r = some (0, z6) ∧ ((z6 = 0 ∨ z6 = 1) ∧ Q (some (0, z6)) ψ6 x)))))))) ∧ (¬ (φ 192 11) = 2 → hw sc (d + 1) 182 0 [(0, (2, 192)), (1, (0, 1))] [] φ x (fun r ψ8 y8 => y8 = x ∧ (∃ z8 : Int, r = some (0, z8) ∧ ((z8 = 0 ∨ z8 = 1) ∧ Q (some (0, z8)) ψ8 x))))) :
    hw sc (d + 2) 187 0 [(0, (2, 192)), (1, (0, v1)), (2, (0, v2))] [] φ x Q := by
  refine hw_ald (b := 0) (e := 0) (by decide +kernel) rfl (by decide) ?_
  refine hr_gi (w := φ 192 11) (b := 12) (e := 11) 192 rfl (by decide +kernel) rfl ?_
  refine hw_k (c := 2) (b := 0) (e := 1) (by decide +kernel) ?_
  obtain ⟨hz1, hy1, ht1, hf1⟩ := H
  refine hw_if2 (a0 := 0) (b := 0) (e := 14) (by decide +kernel) hz1 hy1 (fun q => ?_) (fun q => ?_)
  · have H := ht1 q
    refine hw_ald (b := 0) (e := 0) (by decide +kernel) rfl (by decide) ?_
    refine hr_gi (w := φ 192 14) (b := 12) (e := 14) 192 rfl (by decide +kernel) rfl ?_
    refine hw_ld (b := 1) (e := 0) (by decide +kernel) rfl ?_
    refine hw_ld (b := 2) (e := 0) (by decide +kernel) rfl ?_
    refine hr_calls (b := 188) (e := 3) (nl := 3) (As := [(0, φ 192 14), (0, v1), (0, v2)]) (R := []) (by decide +kernel) rfl rfl (Nat.le_of_ble_eq_true rfl) (Nat.le_of_ble_eq_true rfl) ?_
    refine hw_mono H ?_
    rintro r ψ2 y2 ⟨hyx, hψx, z2, hr, H⟩
    subst hyx
    subst hψx
    subst hr
    refine ⟨hne0, ?_⟩
    show hw sc (d + 2) 187 23 [(0, (2, 192)), (1, (0, v1)), (2, (0, v2))] [(0, z2)] φ y2 Q
    obtain ⟨hz3, ht3, hf3⟩ := H
    refine hw_if (a0 := 0) (b := 1) (e := 32) (by decide +kernel) hz3 (fun q => ?_) (fun q => ?_)
    · have H := ht3 q
      refine hw_ald (b := 0) (e := 0) (by decide +kernel) rfl (by decide) ?_
      refine hw_ald (b := 0) (e := 0) (by decide +kernel) rfl (by decide) ?_
      refine hr_gi (w := φ 192 14) (b := 12) (e := 14) 192 rfl (by decide +kernel) rfl ?_
      refine hr_pi (b := 12) (e := 18) 192 rfl (by decide +kernel) ?_
      refine hw_ald (b := 0) (e := 0) (by decide +kernel) rfl (by decide) ?_
      refine hr_call (a0 := 22) (b := 175) (e := 1) (nl := 4) (As := []) (R := []) 192 rfl (by decide +kernel) rfl rfl (Nat.le_of_ble_eq_true rfl) (Nat.le_of_ble_eq_true rfl) ?_
      refine hw_mono H ?_
      rintro r ψ4 y4 ⟨hyx, hr, H⟩
      subst hyx
      subst hr
      refine ⟨hnen, ?_⟩
      show hw sc (d + 2) 187 44 [(0, (2, 192)), (1, (0, v1)), (2, (0, v2))] [] ψ4 y4 Q
      refine hw_k (c := 1) (b := 0) (e := 1) (by decide +kernel) ?_
      exact hw_ret (a0 := 0) (e := 1) (by decide +kernel) (Or.inr ⟨rfl, by decide⟩) H
    · have H := hf3 q
      refine hw_ald (b := 0) (e := 0) (by decide +kernel) rfl (by decide) ?_
      refine hw_k (c := 2) (b := 0) (e := 1) (by decide +kernel) ?_
      refine hr_call (a0 := 22) (b := 182) (e := 2) (nl := 2) (As := [(0, 2)]) (R := []) 192 rfl (by decide +kernel) rfl rfl (Nat.le_of_ble_eq_true rfl) (Nat.le_of_ble_eq_true rfl) ?_
      refine hw_mono H ?_
      rintro r ψ6 y6 ⟨hyx, z6, hr, H⟩
      subst hyx
      subst hr
      refine ⟨hne0, ?_⟩
      show hw sc (d + 2) 187 31 [(0, (2, 192)), (1, (0, v1)), (2, (0, v2))] [(0, z6)] ψ6 y6 Q
      exact hw_ret (a0 := 0) (e := 1) (by decide +kernel) (Or.inr ⟨rfl, H.1⟩) H.2
  · have H := hf1 q
    refine hw_ald (b := 0) (e := 0) (by decide +kernel) rfl (by decide) ?_
    refine hw_k (c := 1) (b := 0) (e := 1) (by decide +kernel) ?_
    refine hr_call (a0 := 22) (b := 182) (e := 2) (nl := 2) (As := [(0, 1)]) (R := []) 192 rfl (by decide +kernel) rfl rfl (Nat.le_of_ble_eq_true rfl) (Nat.le_of_ble_eq_true rfl) ?_
    refine hw_mono H ?_
    rintro r ψ8 y8 ⟨hyx, z8, hr, H⟩
    subst hyx
    subst hr
    refine ⟨hne0, ?_⟩
    show hw sc (d + 2) 187 13 [(0, (2, 192)), (1, (0, v1)), (2, (0, v2))] [(0, z8)] ψ8 y8 Q
    exact hw_ret (a0 := 0) (e := 1) (by decide +kernel) (Or.inr ⟨rfl, H.1⟩) H.2
theorem sf_187_192 {sc : List Int} {d : Nat} {φ : hf_F} {x : Nat} {Q : Option jm_V → hf_F → Nat → Prop} {v1 v2 : Int} (hI : Inv φ) (h1a : 0 ≤ v1) (h1b : v1 ≤ 2) (h2a : 0 ≤ v2) (h2b : v2 ≤ 999) (hQ : ∀ (r : Int) (ψ : hf_F), Inv ψ → Fr [193004, 193011, 193012, 193013, 193014, 193015, 193016, 193017, 193018] φ ψ → 0 ≤ r ∧ r ≤ 1 ∧ ((φ 192 4 ≤ ψ 192 4 ∧ (r = 1 → (ψ 192 11 = 3 → φ 192 4 < ψ 192 4) ∧ v1 ≤ ψ 192 18 ∧ ψ 192 18 ≤ v2)) ∧ ψ 192 30 = φ 192 30) → F_RideLawsModel_takes_192 φ v1 v2 = (r, ψ) → Q (some (0, r)) ψ x) : hw sc (d + 2) 187 0 [(0, (2, 192)), (1, (0, v1)), (2, (0, v2))] [] φ x Q := by
  apply sf_187_192_v
  have e0 : F_RideLawsModel_takes_192 φ v1 v2 = _ := rfl
  have f1 := iv_at (a := 192) (k := 11) (lo := 0) (u := 4) hI (by decide +kernel)
  refine ⟨by unfold hi; omega, by unfold hi; omega, fun q1 => ?_, fun q1 => ?_⟩
  · skip
    have e1a := e0.trans (if_pos q1)
    have f2 := iv_at (a := 192) (k := 14) (lo := 0) (u := 8214) hI (by decide +kernel)
    refine sf_188 (φ := φ) hI (by omega) (by omega) (by omega) (by omega) (by omega) (by omega) (fun z2 hp2 hE2 => ⟨rfl, rfl, z2, rfl, ?_⟩)
    have e2 := e1a.trans (bnp_e hE2)
    refine ⟨by unfold hi; omega, fun q3 => ?_, fun q3 => ?_⟩
    · skip
      have e3a := e2.trans (if_pos q3)
      have i3 : Inv (hf_up φ 192 18 (φ 192 14)) := iv_up (lo := (-1 : Int)) (u := 999) hI (by decide +kernel) (by omega) (by omega)
      have r3 : Fr [193004, 193011, 193012, 193013, 193014, 193015, 193016, 193017, 193018] φ (hf_up φ 192 18 (φ 192 14)) := fr_up (fr_rf) (by decide)
      refine sf_175_192 (φ := (hf_up φ 192 18 (φ 192 14))) i3  (fun ψ4 hI4 hF4 hV4 hE4 => ⟨rfl, rfl, ?_⟩)
      have hG4 : Fr [193004, 193011, 193012, 193013, 193014, 193015, 193016, 193017, 193018] φ ψ4 := fr_tr r3 hF4 (by decide)
      have f4 : (hf_up φ 192 18 (φ 192 14)) 192 18 = φ 192 14 := hf_up_eq
      have f5 : (hf_up φ 192 18 (φ 192 14)) 192 30 = φ 192 30 := (hf_up_ne (fun q => absurd q.2 (by decide)))
      have f6 := iv_at (a := 192) (k := 30) (lo := 0) (u := 40) hI (by decide +kernel)
      have f7 : (hf_up φ 192 18 (φ 192 14)) 192 34 = φ 192 34 := (hf_up_ne (fun q => absurd q.2 (by decide)))
      have f8 := iv_at (a := 192) (k := 34) (lo := 0) (u := 45) hI (by decide +kernel)
      have f9 : (hf_up φ 192 18 (φ 192 14)) 192 35 = φ 192 35 := (hf_up_ne (fun q => absurd q.2 (by decide)))
      have f10 := iv_at (a := 192) (k := 35) (lo := 0) (u := 20) hI (by decide +kernel)
      have f11 : (hf_up φ 192 18 (φ 192 14)) 192 36 = φ 192 36 := (hf_up_ne (fun q => absurd q.2 (by decide)))
      have f12 := iv_at (a := 192) (k := 36) (lo := 0) (u := 45) hI (by decide +kernel)
      have f13 : (hf_up φ 192 18 (φ 192 14)) 192 38 = φ 192 38 := (hf_up_ne (fun q => absurd q.2 (by decide)))
      have f14 := iv_at (a := 192) (k := 38) (lo := 0) (u := 1) hI (by decide +kernel)
      have f15 : (hf_up φ 192 18 (φ 192 14)) 192 4 = φ 192 4 := (hf_up_ne (fun q => absurd q.2 (by decide)))
      have f16 := iv_at (a := 192) (k := 4) (lo := 0) (u := 940) hI (by decide +kernel)
      have f17 := iv_at (a := 192) (k := 11) (lo := 0) (u := 4) hI4 (by decide +kernel)
      have f18 := iv_at (a := 192) (k := 18) (lo := (-1 : Int)) (u := 999) hI4 (by decide +kernel)
      have f19 : ψ4 192 18 = φ 192 14 := (fr_fd hF4 192 18 (by decide)).trans hf_up_eq
      have f20 := iv_at (a := 192) (k := 30) (lo := 0) (u := 40) hI4 (by decide +kernel)
      have f21 : ψ4 192 30 = φ 192 30 := (fr_fd hF4 192 30 (by decide)).trans (hf_up_ne (fun q => absurd q.2 (by decide)))
      have f22 := iv_at (a := 192) (k := 34) (lo := 0) (u := 45) hI4 (by decide +kernel)
      have f23 : ψ4 192 34 = φ 192 34 := (fr_fd hF4 192 34 (by decide)).trans (hf_up_ne (fun q => absurd q.2 (by decide)))
      have f24 := iv_at (a := 192) (k := 35) (lo := 0) (u := 20) hI4 (by decide +kernel)
      have f25 : ψ4 192 35 = φ 192 35 := (fr_fd hF4 192 35 (by decide)).trans (hf_up_ne (fun q => absurd q.2 (by decide)))
      have f26 := iv_at (a := 192) (k := 36) (lo := 0) (u := 45) hI4 (by decide +kernel)
      have f27 : ψ4 192 36 = φ 192 36 := (fr_fd hF4 192 36 (by decide)).trans (hf_up_ne (fun q => absurd q.2 (by decide)))
      have f28 := iv_at (a := 192) (k := 38) (lo := 0) (u := 1) hI4 (by decide +kernel)
      have f29 : ψ4 192 38 = φ 192 38 := (fr_fd hF4 192 38 (by decide)).trans (hf_up_ne (fun q => absurd q.2 (by decide)))
      have f30 := iv_at (a := 192) (k := 4) (lo := 0) (u := 940) hI4 (by decide +kernel)
      have e4 := e3a.trans (bnv_e hE4)
      exact hQ 1 ψ4 hI4 hG4 ⟨by omega, by omega, by omega⟩ e4
    · skip
      have e3b := e2.trans (if_neg q3)
      refine sf_182_192 (φ := φ) hI (by omega) (by omega) (fun z6 ψ6 hI6 hF6 hp6 hE6 => ⟨rfl, z6, rfl, ?_⟩)
      have hG6 : Fr [193004, 193011, 193012, 193013, 193014, 193015, 193016, 193017, 193018] φ ψ6 := fr_tr (fr_rf) hF6 (by decide)
      have f31 := iv_at (a := 192) (k := 30) (lo := 0) (u := 40) hI (by decide +kernel)
      have f32 := iv_at (a := 192) (k := 4) (lo := 0) (u := 940) hI (by decide +kernel)
      have f33 := iv_at (a := 192) (k := 30) (lo := 0) (u := 40) hI6 (by decide +kernel)
      have f34 : ψ6 192 30 = φ 192 30 := (fr_fd hF6 192 30 (by decide))
      have f35 := iv_at (a := 192) (k := 4) (lo := 0) (u := 940) hI6 (by decide +kernel)
      have f36 : ψ6 192 4 = φ 192 4 := (fr_fd hF6 192 4 (by decide))
      have e6 := e3b.trans (bnd_e hE6)
      have f37 := iv_at (a := 192) (k := 11) (lo := 0) (u := 4) hI6 (by decide +kernel)
      have f38 : ψ6 192 11 = φ 192 11 := (fr_fd hF6 192 11 (by decide))
      have f39 := iv_at (a := 192) (k := 18) (lo := (-1 : Int)) (u := 999) hI6 (by decide +kernel)
      have f40 : ψ6 192 18 = φ 192 18 := (fr_fd hF6 192 18 (by decide))
      have f41 := iv_at (a := 192) (k := 18) (lo := (-1 : Int)) (u := 999) hI (by decide +kernel)
      refine ⟨by omega, ?_⟩
      exact hQ z6 ψ6 hI6 hG6 ⟨by omega, by omega, by omega⟩ e6
  · skip
    have e1b := e0.trans (if_neg q1)
    refine sf_182_192 (φ := φ) hI (by omega) (by omega) (fun z8 ψ8 hI8 hF8 hp8 hE8 => ⟨rfl, z8, rfl, ?_⟩)
    have hG8 : Fr [193004, 193011, 193012, 193013, 193014, 193015, 193016, 193017, 193018] φ ψ8 := fr_tr (fr_rf) hF8 (by decide)
    have f42 := iv_at (a := 192) (k := 30) (lo := 0) (u := 40) hI (by decide +kernel)
    have f43 := iv_at (a := 192) (k := 4) (lo := 0) (u := 940) hI (by decide +kernel)
    have f44 := iv_at (a := 192) (k := 30) (lo := 0) (u := 40) hI8 (by decide +kernel)
    have f45 : ψ8 192 30 = φ 192 30 := (fr_fd hF8 192 30 (by decide))
    have f46 := iv_at (a := 192) (k := 4) (lo := 0) (u := 940) hI8 (by decide +kernel)
    have f47 : ψ8 192 4 = φ 192 4 := (fr_fd hF8 192 4 (by decide))
    have e8 := e1b.trans (bnd_e hE8)
    have f48 := iv_at (a := 192) (k := 11) (lo := 0) (u := 4) hI8 (by decide +kernel)
    have f49 : ψ8 192 11 = φ 192 11 := (fr_fd hF8 192 11 (by decide))
    have f50 := iv_at (a := 192) (k := 18) (lo := (-1 : Int)) (u := 999) hI8 (by decide +kernel)
    have f51 : ψ8 192 18 = φ 192 18 := (fr_fd hF8 192 18 (by decide))
    have f52 := iv_at (a := 192) (k := 18) (lo := (-1 : Int)) (u := 999) hI (by decide +kernel)
    refine ⟨by omega, ?_⟩
    exact hQ z8 ψ8 hI8 hG8 ⟨by omega, by omega, by omega⟩ e8
theorem sf_185_192_v2 {sc : List Int} {d : Nat} {φ : hf_F} {x : Nat} {Q : Option jm_V → hf_F → Nat → Prop} {L : jm_L} {l1 l2 l3 : Int} (g0 : jm_get L 0 = some (2, 192)) (g1 : jm_get L 1 = some (0, l1)) (g2 : jm_get L 2 = some (0, l2)) (g3 : jm_get L 3 = some (0, l3))
    (H : hi l3 ∧ hi l2 ∧ (l2 ≤ l3 → Q (some (0, (-1 : Int))) φ x) ∧ (¬ l2 ≤ l3 → 0 ≤ (l1 + l3) ∧ (l1 + l3) < 66 ∧ (hi (jm_cmp (φ 197 ((l1 + l3).toNat)) (φ 192 17)) ∧ (¬ (jm_cmp (φ 197 ((l1 + l3).toNat)) (φ 192 17)) = 0 → hw sc d 185 2 (jm_st1 L 3 (0, l3 + 1)) [] φ x Q) ∧ (¬ (¬ (jm_cmp (φ 197 ((l1 + l3).toNat)) (φ 192 17)) = 0) → Q (some (0, l3)) φ x)))) :
    hw sc d 185 2 L [] φ x Q := by
  refine hw_ld (b := 3) (e := 0) (by decide +kernel) g3 ?_
  refine hw_ld (b := 2) (e := 0) (by decide +kernel) g2 ?_
  obtain ⟨hz1, hy1, ht1, hf1⟩ := H
  refine hw_if2 (a0 := 0) (b := 3) (e := 31) (by decide +kernel) hz1 hy1 (fun q => ?_) (fun q => ?_)
  · have H := ht1 q
    refine hw_k (c := (-1 : Int)) (b := 0) (e := 1) (by decide +kernel) ?_
    exact hw_ret (a0 := 0) (e := 0) (by decide +kernel) (Or.inl rfl) H
  · have H := hf1 q
    refine hw_ald (b := 0) (e := 0) (by decide +kernel) g0 (by decide) ?_
    refine hr_gr (w := 197) (b := 12) (e := 9) 192 rfl (by decide +kernel) ?_
    refine hw_ld (b := 1) (e := 0) (by decide +kernel) g1 ?_
    refine hw_ld (b := 3) (e := 0) (by decide +kernel) g3 ?_
    refine hw_bin (w := l1 + l3) (a0 := 0) (b := 0) (e := 0) (by decide +kernel) rfl ?_
    obtain ⟨hl3, hu3, H⟩ := H
    refine hr_all (a0 := 0) (e := 0) (n := 66) (w := φ 197 ((l1 + l3).toNat)) 197 rfl (by decide +kernel) hl3 hu3 rfl ?_
    refine hw_ald (b := 0) (e := 0) (by decide +kernel) g0 (by decide) ?_
    refine hr_gl (w := φ 192 17) (b := 12) (e := 17) 192 rfl (by decide +kernel) rfl ?_
    refine hw_lcmp (w := jm_cmp (φ 197 ((l1 + l3).toNat)) (φ 192 17)) (a0 := 0) (b := 0) (e := 0) (by decide +kernel) rfl ?_
    obtain ⟨hz4, ht4, hf4⟩ := H
    refine hw_if (a0 := 0) (b := 1) (e := 25) (by decide +kernel) hz4 (fun q => ?_) (fun q => ?_)
    · have H := ht4 q
      refine hw_inc (L' := (jm_st1 L 3 (0, l3 + 1))) (c := 1) (b := 3) (e := 0) (by decide +kernel) g3 rfl ?_
      refine hw_goto (a0 := 0) (b := 0) (e := 2) (by decide +kernel) ?_
      exact H
    · have H := hf4 q
      refine hw_ld (b := 3) (e := 0) (by decide +kernel) g3 ?_
      exact hw_ret (a0 := 0) (e := 0) (by decide +kernel) (Or.inl rfl) H
theorem sf_185_192_l2 {sc : List Int} {d x : Nat} {Q : Option jm_V → hf_F → Nat → Prop} : ∀ (n : Nat) (φ : hf_F) (L : jm_L) (l1 l2 l3 : Int), jm_get L 0 = some (2, 192) → jm_get L 1 = some (0, l1) → jm_get L 2 = some (0, l2) → jm_get L 3 = some (0, l3) → Inv φ → 8 - l3 < (n : Int) → 0 ≤ l1 → l1 ≤ 58 → 0 ≤ l2 → l2 ≤ 8 → 0 ≤ l3 → l3 ≤ 8 → l1 + l2 ≤ 66 → (∀ (r : Int), (-1 : Int) ≤ r ∧ r ≤ 7 ∧ (r = -1 ∨ (0 ≤ r ∧ r < l2)) → F_RideLawsModel_seek_192_l2 n φ l1 l2 l3 = r → Q (some (0, r)) φ x) → hw sc d 185 2 L [] φ x Q := by
  intro n
  induction n with
  | zero =>
    intro φ L l1 l2 l3 g0 g1 g2 g3 hI hM b1a b1b b2a b2b b3a b3b c0 hQ
    exfalso
    omega
  | succ n ih =>
    intro φ L l1 l2 l3 g0 g1 g2 g3 hI hM b1a b1b b2a b2b b3a b3b c0 hQ
    refine sf_185_192_v2 g0 g1 g2 g3 ?_
    have e0 := F_RideLawsModel_seek_192_l2_s (φ := φ) (l1 := l1) (l2 := l2) (l3 := l3) n
    refine ⟨by unfold hi; omega, by unfold hi; omega, fun q1 => ?_, fun q1 => ?_⟩
    · skip
      have e1a := e0.trans (if_pos q1)
      exact hQ (-1 : Int) ⟨by omega, by omega, by omega⟩ e1a
    · skip
      have e1b := e0.trans (if_neg q1)
      refine ⟨by omega, by omega, ?_⟩
      have f1 := hr_cmp (φ 197 ((l1 + l3).toNat)) (φ 192 17)
      refine ⟨by unfold hi; omega, fun q4 => ?_, fun q4 => ?_⟩
      · skip
        have e4a := e1b.trans (if_pos q4)
        exact ih φ (jm_st1 L 3 (0, l3 + 1)) l1 l2 (l3 + 1) (get_st1 g0 (by decide) (fun q => absurd q.1 (by decide))) (get_st1 g1 (by decide) (fun q => absurd q.1 (by decide))) (get_st1 g2 (by decide) (fun q => tg0 q.2)) get_st1e hI (by omega) (by omega) (by omega) (by omega) (by omega) (by omega) (by omega) (by omega) (fun rr hpχ hEχ => hQ rr hpχ (e4a.trans hEχ))
      · skip
        have e4b := e1b.trans (if_neg q4)
        exact hQ l3 ⟨by omega, by omega, by omega⟩ e4b
theorem sf_185_192_v {sc : List Int} {d : Nat} {φ : hf_F} {x : Nat} {Q : Option jm_V → hf_F → Nat → Prop} {v1 v2 : Int}
    (H : hw sc d 185 2 (jm_st1 [(0, (2, 192)), (1, (0, v1)), (2, (0, v2))] 3 (0, 0)) [] φ x Q) :
    hw sc d 185 0 [(0, (2, 192)), (1, (0, v1)), (2, (0, v2))] [] φ x Q := by
  refine hw_k (c := 0) (b := 0) (e := 1) (by decide +kernel) ?_
  refine hw_st (L' := (jm_st1 [(0, (2, 192)), (1, (0, v1)), (2, (0, v2))] 3 (0, 0))) (b := 3) (e := 0) (by decide +kernel) rfl ?_
  exact H
theorem sf_185_192 {sc : List Int} {d : Nat} {φ : hf_F} {x : Nat} {Q : Option jm_V → hf_F → Nat → Prop} {v1 v2 : Int} (hI : Inv φ) (h1a : 0 ≤ v1) (h1b : v1 ≤ 58) (h2a : 0 ≤ v2) (h2b : v2 ≤ 8) (hp0 : v1 + v2 ≤ 66) (hQ : ∀ (r : Int), (-1 : Int) ≤ r ∧ r ≤ 7 ∧ (r = -1 ∨ (0 ≤ r ∧ r < v2)) → F_RideLawsModel_seek_192 φ v1 v2 = r → Q (some (0, r)) φ x) : hw sc d 185 0 [(0, (2, 192)), (1, (0, v1)), (2, (0, v2))] [] φ x Q := by
  apply sf_185_192_v
  have e0 : F_RideLawsModel_seek_192 φ v1 v2 = _ := rfl
  exact sf_185_192_l2 ((8 - 0 : Int).toNat + 1) φ (jm_st1 [(0, (2, 192)), (1, (0, v1)), (2, (0, v2))] 3 (0, 0)) v1 v2 0 (get_st1 rfl (by decide) (fun q => absurd q.1 (by decide))) (get_st1 rfl (by decide) (fun q => absurd q.1 (by decide))) (get_st1 rfl (by decide) (fun q => tg0 q.2)) get_st1e hI (by omega) (by omega) (by omega) (by omega) (by omega) (by omega) (by omega) (by omega) (fun rr hpχ hEχ => hQ rr hpχ (e0.trans hEχ))
theorem sf_184_192_v16 {sc : List Int} {d : Nat} {φ : hf_F} {x : Nat} {Q : Option jm_V → hf_F → Nat → Prop} {L : jm_L} {l1 l2 : Int} (g0 : jm_get L 0 = some (2, 192)) (g1 : jm_get L 1 = some (0, l1)) (g2 : jm_get L 2 = some (0, l2))
    (H : hi l2 ∧ hi 23 ∧ (23 ≤ l2 → (l1 = 0 ∨ l1 = 1) ∧ Q (some (0, l1)) φ x) ∧ (¬ 23 ≤ l2 → hi l1 ∧ (l1 = 0 → hw sc d 184 16 (jm_st1 (jm_st1 L 1 (0, 0)) 2 (0, l2 + 1)) [] φ x Q) ∧ (¬ l1 = 0 → 0 ≤ l2 ∧ l2 < 23 ∧ (hi (jm_cmp (φ 192 17) (φ 198 ((l2).toNat))) ∧ ((jm_cmp (φ 192 17) (φ 198 ((l2).toNat))) = 0 → hw sc d 184 16 (jm_st1 (jm_st1 L 1 (0, 0)) 2 (0, l2 + 1)) [] φ x Q) ∧ (¬ (jm_cmp (φ 192 17) (φ 198 ((l2).toNat))) = 0 → hw sc d 184 16 (jm_st1 (jm_st1 L 1 (0, 1)) 2 (0, l2 + 1)) [] φ x Q))))) :
    hw sc d 184 16 L [] φ x Q := by
  refine hw_ld (b := 2) (e := 0) (by decide +kernel) g2 ?_
  refine hw_k (c := 23) (b := 1) (e := 2) (by decide +kernel) ?_
  obtain ⟨hz1, hy1, ht1, hf1⟩ := H
  refine hw_if2 (a0 := 0) (b := 3) (e := 52) (by decide +kernel) hz1 hy1 (fun q => ?_) (fun q => ?_)
  · have H := ht1 q
    refine hw_ld (b := 1) (e := 0) (by decide +kernel) g1 ?_
    exact hw_ret (a0 := 0) (e := 1) (by decide +kernel) (Or.inr ⟨rfl, H.1⟩) H.2
  · have H := hf1 q
    refine hw_ld (b := 1) (e := 0) (by decide +kernel) g1 ?_
    obtain ⟨hz3, ht3, hf3⟩ := H
    refine hw_if (a0 := 0) (b := 0) (e := 44) (by decide +kernel) hz3 (fun q => ?_) (fun q => ?_)
    · have H := ht3 q
      refine hw_k (c := 0) (b := 0) (e := 1) (by decide +kernel) ?_
      refine hw_st (L' := (jm_st1 L 1 (0, 0))) (b := 1) (e := 0) (by decide +kernel) rfl ?_
      refine hw_inc (L' := (jm_st1 (jm_st1 L 1 (0, 0)) 2 (0, l2 + 1))) (c := 1) (b := 2) (e := 0) (by decide +kernel) (get_st1 g2 (by decide) (fun q => absurd q.1 (by decide))) rfl ?_
      refine hw_goto (a0 := 0) (b := 0) (e := 16) (by decide +kernel) ?_
      exact H
    · have H := hf3 q
      refine hw_ald (b := 0) (e := 0) (by decide +kernel) g0 (by decide) ?_
      refine hr_gl (w := φ 192 17) (b := 12) (e := 17) 192 rfl (by decide +kernel) rfl ?_
      refine hw_ald (b := 0) (e := 0) (by decide +kernel) g0 (by decide) ?_
      refine hr_gr (w := 198) (b := 12) (e := 10) 192 rfl (by decide +kernel) ?_
      refine hw_ld (b := 2) (e := 0) (by decide +kernel) g2 ?_
      obtain ⟨hl4, hu4, H⟩ := H
      refine hr_all (a0 := 0) (e := 0) (n := 23) (w := φ 198 ((l2).toNat)) 198 rfl (by decide +kernel) hl4 hu4 rfl ?_
      refine hw_lcmp (w := jm_cmp (φ 192 17) (φ 198 ((l2).toNat))) (a0 := 0) (b := 0) (e := 0) (by decide +kernel) rfl ?_
      obtain ⟨hz5, ht5, hf5⟩ := H
      refine hw_if (a0 := 0) (b := 0) (e := 44) (by decide +kernel) hz5 (fun q => ?_) (fun q => ?_)
      · have H := ht5 q
        refine hw_k (c := 0) (b := 0) (e := 1) (by decide +kernel) ?_
        refine hw_st (L' := (jm_st1 L 1 (0, 0))) (b := 1) (e := 0) (by decide +kernel) rfl ?_
        refine hw_inc (L' := (jm_st1 (jm_st1 L 1 (0, 0)) 2 (0, l2 + 1))) (c := 1) (b := 2) (e := 0) (by decide +kernel) (get_st1 g2 (by decide) (fun q => absurd q.1 (by decide))) rfl ?_
        refine hw_goto (a0 := 0) (b := 0) (e := 16) (by decide +kernel) ?_
        exact H
      · have H := hf5 q
        refine hw_k (c := 1) (b := 0) (e := 1) (by decide +kernel) ?_
        refine hw_goto (a0 := 0) (b := 0) (e := 45) (by decide +kernel) ?_
        refine hw_st (L' := (jm_st1 L 1 (0, 1))) (b := 1) (e := 0) (by decide +kernel) rfl ?_
        refine hw_inc (L' := (jm_st1 (jm_st1 L 1 (0, 1)) 2 (0, l2 + 1))) (c := 1) (b := 2) (e := 0) (by decide +kernel) (get_st1 g2 (by decide) (fun q => absurd q.1 (by decide))) rfl ?_
        refine hw_goto (a0 := 0) (b := 0) (e := 16) (by decide +kernel) ?_
        exact H
theorem sf_184_192_l16 {sc : List Int} {d x : Nat} {Q : Option jm_V → hf_F → Nat → Prop} : ∀ (n : Nat) (φ : hf_F) (L : jm_L) (l1 l2 : Int), jm_get L 0 = some (2, 192) → jm_get L 1 = some (0, l1) → jm_get L 2 = some (0, l2) → Inv φ → 23 - l2 < (n : Int) → 0 ≤ l1 → l1 ≤ 1 → 0 ≤ l2 → l2 ≤ 23 → (∀ (r : Int), 0 ≤ r ∧ r ≤ 1 → F_RideLawsModel_isName_192_l16 n φ l1 l2 = r → Q (some (0, r)) φ x) → hw sc d 184 16 L [] φ x Q := by
  intro n
  induction n with
  | zero =>
    intro φ L l1 l2 g0 g1 g2 hI hM b1a b1b b2a b2b hQ
    exfalso
    omega
  | succ n ih =>
    intro φ L l1 l2 g0 g1 g2 hI hM b1a b1b b2a b2b hQ
    refine sf_184_192_v16 g0 g1 g2 ?_
    have e0 := F_RideLawsModel_isName_192_l16_s (φ := φ) (l1 := l1) (l2 := l2) n
    refine ⟨by unfold hi; omega, by unfold hi; omega, fun q1 => ?_, fun q1 => ?_⟩
    · skip
      have e1a := e0.trans (if_pos q1)
      refine ⟨by omega, ?_⟩
      exact hQ l1 ⟨by omega, by omega⟩ e1a
    · skip
      have e1b := e0.trans (if_neg q1)
      refine ⟨by unfold hi; omega, fun q3 => ?_, fun q3 => ?_⟩
      · skip
        have e3a := e1b.trans (if_pos q3)
        exact ih φ (jm_st1 (jm_st1 L 1 (0, 0)) 2 (0, l2 + 1)) 0 (l2 + 1) (get_st1 (get_st1 g0 (by decide) (fun q => tg2 q.2)) (by decide) (fun q => absurd q.1 (by decide))) (get_st1 get_st1e (by decide) (fun q => tg0 q.2)) get_st1e hI (by omega) (by omega) (by omega) (by omega) (by omega) (fun rr hpχ hEχ => hQ rr hpχ (e3a.trans hEχ))
      · skip
        have e3b := e1b.trans (if_neg q3)
        refine ⟨by omega, by omega, ?_⟩
        have f1 := hr_cmp (φ 192 17) (φ 198 ((l2).toNat))
        refine ⟨by unfold hi; omega, fun q5 => ?_, fun q5 => ?_⟩
        · skip
          have e5a := e3b.trans (if_pos q5)
          exact ih φ (jm_st1 (jm_st1 L 1 (0, 0)) 2 (0, l2 + 1)) 0 (l2 + 1) (get_st1 (get_st1 g0 (by decide) (fun q => tg2 q.2)) (by decide) (fun q => absurd q.1 (by decide))) (get_st1 get_st1e (by decide) (fun q => tg0 q.2)) get_st1e hI (by omega) (by omega) (by omega) (by omega) (by omega) (fun rr hpχ hEχ => hQ rr hpχ (e5a.trans hEχ))
        · skip
          have e5b := e3b.trans (if_neg q5)
          exact ih φ (jm_st1 (jm_st1 L 1 (0, 1)) 2 (0, l2 + 1)) 1 (l2 + 1) (get_st1 (get_st1 g0 (by decide) (fun q => tg2 q.2)) (by decide) (fun q => absurd q.1 (by decide))) (get_st1 get_st1e (by decide) (fun q => tg0 q.2)) get_st1e hI (by omega) (by omega) (by omega) (by omega) (by omega) (fun rr hpχ hEχ => hQ rr hpχ (e5b.trans hEχ))
theorem sf_184_192_v {sc : List Int} {d : Nat} {φ : hf_F} {x : Nat} {Q : Option jm_V → hf_F → Nat → Prop} 
    (H : hi (φ 192 11) ∧ hi 1 ∧ (¬ (φ 192 11) = 1 → hw sc d 184 16 (jm_st1 (jm_st1 [(0, (2, 192))] 1 (0, 0)) 2 (0, 0)) [] φ x Q) ∧ (¬ (¬ (φ 192 11) = 1) → hw sc d 184 16 (jm_st1 (jm_st1 [(0, (2, 192))] 1 (0, 1)) 2 (0, 0)) [] φ x Q)) :
    hw sc d 184 0 [(0, (2, 192))] [] φ x Q := by
  refine hw_ald (b := 0) (e := 0) (by decide +kernel) rfl (by decide) ?_
  refine hr_gi (w := φ 192 11) (b := 12) (e := 11) 192 rfl (by decide +kernel) rfl ?_
  refine hw_k (c := 1) (b := 0) (e := 1) (by decide +kernel) ?_
  obtain ⟨hz1, hy1, ht1, hf1⟩ := H
  refine hw_if2 (a0 := 0) (b := 1) (e := 12) (by decide +kernel) hz1 hy1 (fun q => ?_) (fun q => ?_)
  · have H := ht1 q
    refine hw_k (c := 0) (b := 0) (e := 1) (by decide +kernel) ?_
    refine hw_st (L' := (jm_st1 [(0, (2, 192))] 1 (0, 0))) (b := 1) (e := 0) (by decide +kernel) rfl ?_
    refine hw_k (c := 0) (b := 0) (e := 1) (by decide +kernel) ?_
    refine hw_st (L' := (jm_st1 (jm_st1 [(0, (2, 192))] 1 (0, 0)) 2 (0, 0))) (b := 2) (e := 0) (by decide +kernel) rfl ?_
    exact H
  · have H := hf1 q
    refine hw_k (c := 1) (b := 0) (e := 1) (by decide +kernel) ?_
    refine hw_goto (a0 := 0) (b := 0) (e := 13) (by decide +kernel) ?_
    refine hw_st (L' := (jm_st1 [(0, (2, 192))] 1 (0, 1))) (b := 1) (e := 0) (by decide +kernel) rfl ?_
    refine hw_k (c := 0) (b := 0) (e := 1) (by decide +kernel) ?_
    refine hw_st (L' := (jm_st1 (jm_st1 [(0, (2, 192))] 1 (0, 1)) 2 (0, 0))) (b := 2) (e := 0) (by decide +kernel) rfl ?_
    exact H
theorem sf_184_192 {sc : List Int} {d : Nat} {φ : hf_F} {x : Nat} {Q : Option jm_V → hf_F → Nat → Prop}  (hI : Inv φ)  (hQ : ∀ (r : Int), 0 ≤ r ∧ r ≤ 1 → F_RideLawsModel_isName_192 φ = r → Q (some (0, r)) φ x) : hw sc d 184 0 [(0, (2, 192))] [] φ x Q := by
  apply sf_184_192_v
  have e0 : F_RideLawsModel_isName_192 φ = _ := rfl
  have f1 := iv_at (a := 192) (k := 11) (lo := 0) (u := 4) hI (by decide +kernel)
  refine ⟨by unfold hi; omega, by unfold hi; omega, fun q1 => ?_, fun q1 => ?_⟩
  · skip
    have e1a := e0.trans (if_pos q1)
    exact sf_184_192_l16 ((23 - 0 : Int).toNat + 1) φ (jm_st1 (jm_st1 [(0, (2, 192))] 1 (0, 0)) 2 (0, 0)) 0 0 (get_st1 (get_st1 rfl (by decide) (fun q => tg2 q.2)) (by decide) (fun q => absurd q.1 (by decide))) (get_st1 get_st1e (by decide) (fun q => tg0 q.2)) get_st1e hI (by omega) (by omega) (by omega) (by omega) (by omega) (fun rr hpχ hEχ => hQ rr hpχ (e1a.trans hEχ))
  · skip
    have e1b := e0.trans (if_neg q1)
    exact sf_184_192_l16 ((23 - 0 : Int).toNat + 1) φ (jm_st1 (jm_st1 [(0, (2, 192))] 1 (0, 1)) 2 (0, 0)) 1 0 (get_st1 (get_st1 rfl (by decide) (fun q => tg2 q.2)) (by decide) (fun q => absurd q.1 (by decide))) (get_st1 get_st1e (by decide) (fun q => tg0 q.2)) get_st1e hI (by omega) (by omega) (by omega) (by omega) (by omega) (fun rr hpχ hEχ => hQ rr hpχ (e1b.trans hEχ))
theorem sf_183_192_v {sc : List Int} {d : Nat} {φ : hf_F} {x : Nat} {Q : Option jm_V → hf_F → Nat → Prop} {v1 : Int}
    (H : hw sc (d + 1) 184 0 [(0, (2, 192))] [] φ x (fun r ψ1 y1 => y1 = x ∧ φ = ψ1 ∧ (∃ z1 : Int, r = some (0, z1) ∧ (hi z1 ∧ (¬ z1 = 0 → hw sc (d + 1) 185 0 [(0, (2, 192)), (1, (0, 33)), (2, (0, φ 195 0))] [] φ x (fun r ψ3 y3 => y3 = x ∧ φ = ψ3 ∧ (∃ z3 : Int, r = some (0, z3) ∧ (hi z3 ∧ (0 ≤ z3 → hw sc (d + 1) 182 0 [(0, (2, 192)), (1, (0, 3))] [] φ x (fun r ψ5 y5 => y5 = x ∧ (∃ z5 : Int, r = some (0, z5) ∧ ((z5 = 0 ∨ z5 = 1) ∧ Q (some (0, z5)) ψ5 x)))) ∧ (¬ 0 ≤ z3 → hw sc (d + 1) 185 0 [(0, (2, 192)), (1, (0, 36)), (2, (0, φ 195 1))] [] φ x (fun r ψ7 y7 => y7 = x ∧ φ = ψ7 ∧ (∃ z7 : Int, r = some (0, z7) ∧ (hi z7 ∧ (0 ≤ z7 → hw sc (d + 1) 182 0 [(0, (2, 192)), (1, (0, 3))] [] φ x (fun r ψ9 y9 => y9 = x ∧ (∃ z9 : Int, r = some (0, z9) ∧ ((z9 = 0 ∨ z9 = 1) ∧ Q (some (0, z9)) ψ9 x)))) ∧ (¬ 0 ≤ z7 → hw sc (d + 1) 185 0 [(0, (2, 192)), (1, (0, 44)), (2, (0, φ 195 2))] [] φ x (fun r ψ11 y11 => y11 = x ∧ φ = ψ11 ∧ (∃ z11 : Int, r = some (0, z11) ∧ (hi z11 ∧ (0 ≤ z11 → hw sc (d + 1) 182 0 [(0, (2, 192)), (1, (0, 3))] [] φ x (fun r ψ13 y13 => y13 = x ∧ (∃ z13 : Int, r = some (0, z13) ∧ ((z13 = 0 ∨ z13 = 1) ∧ Q (some (0, z13)) ψ13 x)))) ∧ (¬ 0 ≤ z11 → hw sc (d + 1) 185 0 [(0, (2, 192)), (1, (0, 52)), (2, (0, φ 195 3))] [] φ x (fun r ψ15 y15 => y15 = x ∧ φ = ψ15 ∧ (∃ z15 : Int, r = some (0, z15) ∧ (hi z15 ∧ (0 ≤ z15 → hw sc (d + 1) 182 0 [(0, (2, 192)), (1, (0, 3))] [] φ x (fun r ψ17 y17 => y17 = x ∧ (∃ z17 : Int, r = some (0, z17) ∧ ((z17 = 0 ∨ z17 = 1) ∧ Q (some (0, z17)) ψ17 x)))) ∧ (¬ 0 ≤ z15 → hw sc (d + 1) 185 0 [(0, (2, 192)), (1, (0, 58)), (2, (0, φ 195 4))] [] φ x (fun r ψ19 y19 => y19 = x ∧ φ = ψ19 ∧ (∃ z19 : Int, r = some (0, z19) ∧ (hi z19 ∧ (z19 < 0 → 0 ≤ v1 ∧ v1 < 66 ∧ (hw sc (d + 1) 175 0 [(0, (2, 192))] [] (hf_up φ 197 ((v1).toNat) (φ 192 17)) x (fun r ψ22 y22 => y22 = x ∧ (r = none ∧ (Q (some (0, 1)) ψ22 x))))) ∧ (¬ z19 < 0 → hw sc (d + 1) 182 0 [(0, (2, 192)), (1, (0, 3))] [] φ x (fun r ψ24 y24 => y24 = x ∧ (∃ z24 : Int, r = some (0, z24) ∧ ((z24 = 0 ∨ z24 = 1) ∧ Q (some (0, z24)) ψ24 x)))))))))))))))))))))))) ∧ (¬ (¬ z1 = 0) → hw sc (d + 1) 182 0 [(0, (2, 192)), (1, (0, 1))] [] φ x (fun r ψ26 y26 => y26 = x ∧ (∃ z26 : Int, r = some (0, z26) ∧ ((z26 = 0 ∨ z26 = 1) ∧ Q (some (0, z26)) ψ26 x)))))))) :
    hw sc (d + 2) 183 0 [(0, (2, 192)), (1, (0, v1))] [] φ x Q := by
  refine hw_ald (b := 0) (e := 0) (by decide +kernel) rfl (by decide) ?_
  refine hr_call (a0 := 22) (b := 184) (e := 1) (nl := 3) (As := []) (R := []) 192 rfl (by decide +kernel) rfl rfl (Nat.le_of_ble_eq_true rfl) (Nat.le_of_ble_eq_true rfl) ?_
  refine hw_mono H ?_
  rintro r ψ1 y1 ⟨hyx, hψx, z1, hr, H⟩
  subst hyx
  subst hψx
  subst hr
  refine ⟨hne0, ?_⟩
  show hw sc (d + 2) 183 4 [(0, (2, 192)), (1, (0, v1))] [(0, z1)] φ y1 Q
  obtain ⟨hz2, ht2, hf2⟩ := H
  refine hw_if (a0 := 0) (b := 1) (e := 13) (by decide +kernel) hz2 (fun q => ?_) (fun q => ?_)
  · have H := ht2 q
    refine hw_ald (b := 0) (e := 0) (by decide +kernel) rfl (by decide) ?_
    refine hw_k (c := 33) (b := 1) (e := 2) (by decide +kernel) ?_
    refine hw_ald (b := 0) (e := 0) (by decide +kernel) rfl (by decide) ?_
    refine hr_gr (w := 195) (b := 12) (e := 7) 192 rfl (by decide +kernel) ?_
    refine hw_k (c := 0) (b := 0) (e := 1) (by decide +kernel) ?_
    refine hr_al (b := 0) (a0 := 0) (e := 0) (n := 99) (w := φ 195 0) 195 rfl (by decide +kernel) (by decide) (by decide) (by decide) rfl ?_
    refine hr_call (a0 := 22) (b := 185) (e := 3) (nl := 4) (As := [(0, 33), (0, φ 195 0)]) (R := []) 192 rfl (by decide +kernel) rfl rfl (Nat.le_of_ble_eq_true rfl) (Nat.le_of_ble_eq_true rfl) ?_
    refine hw_mono H ?_
    rintro r ψ3 y3 ⟨hyx, hψx, z3, hr, H⟩
    subst hyx
    subst hψx
    subst hr
    refine ⟨hne0, ?_⟩
    show hw sc (d + 2) 183 25 [(0, (2, 192)), (1, (0, v1))] [(0, z3)] φ y3 Q
    obtain ⟨hz4, ht4, hf4⟩ := H
    refine hw_if (a0 := 0) (b := 3) (e := 88) (by decide +kernel) hz4 (fun q => ?_) (fun q => ?_)
    · have H := ht4 q
      refine hw_ald (b := 0) (e := 0) (by decide +kernel) rfl (by decide) ?_
      refine hw_k (c := 3) (b := 0) (e := 1) (by decide +kernel) ?_
      refine hr_call (a0 := 22) (b := 182) (e := 2) (nl := 2) (As := [(0, 3)]) (R := []) 192 rfl (by decide +kernel) rfl rfl (Nat.le_of_ble_eq_true rfl) (Nat.le_of_ble_eq_true rfl) ?_
      refine hw_mono H ?_
      rintro r ψ5 y5 ⟨hyx, z5, hr, H⟩
      subst hyx
      subst hr
      refine ⟨hne0, ?_⟩
      show hw sc (d + 2) 183 93 [(0, (2, 192)), (1, (0, v1))] [(0, z5)] ψ5 y5 Q
      exact hw_ret (a0 := 0) (e := 1) (by decide +kernel) (Or.inr ⟨rfl, H.1⟩) H.2
    · have H := hf4 q
      refine hw_ald (b := 0) (e := 0) (by decide +kernel) rfl (by decide) ?_
      refine hw_k (c := 36) (b := 1) (e := 2) (by decide +kernel) ?_
      refine hw_ald (b := 0) (e := 0) (by decide +kernel) rfl (by decide) ?_
      refine hr_gr (w := 195) (b := 12) (e := 7) 192 rfl (by decide +kernel) ?_
      refine hw_k (c := 1) (b := 0) (e := 1) (by decide +kernel) ?_
      refine hr_al (b := 0) (a0 := 0) (e := 0) (n := 99) (w := φ 195 1) 195 rfl (by decide +kernel) (by decide) (by decide) (by decide) rfl ?_
      refine hr_call (a0 := 22) (b := 185) (e := 3) (nl := 4) (As := [(0, 36), (0, φ 195 1)]) (R := []) 192 rfl (by decide +kernel) rfl rfl (Nat.le_of_ble_eq_true rfl) (Nat.le_of_ble_eq_true rfl) ?_
      refine hw_mono H ?_
      rintro r ψ7 y7 ⟨hyx, hψx, z7, hr, H⟩
      subst hyx
      subst hψx
      subst hr
      refine ⟨hne0, ?_⟩
      show hw sc (d + 2) 183 40 [(0, (2, 192)), (1, (0, v1))] [(0, z7)] φ y7 Q
      obtain ⟨hz8, ht8, hf8⟩ := H
      refine hw_if (a0 := 0) (b := 3) (e := 88) (by decide +kernel) hz8 (fun q => ?_) (fun q => ?_)
      · have H := ht8 q
        refine hw_ald (b := 0) (e := 0) (by decide +kernel) rfl (by decide) ?_
        refine hw_k (c := 3) (b := 0) (e := 1) (by decide +kernel) ?_
        refine hr_call (a0 := 22) (b := 182) (e := 2) (nl := 2) (As := [(0, 3)]) (R := []) 192 rfl (by decide +kernel) rfl rfl (Nat.le_of_ble_eq_true rfl) (Nat.le_of_ble_eq_true rfl) ?_
        refine hw_mono H ?_
        rintro r ψ9 y9 ⟨hyx, z9, hr, H⟩
        subst hyx
        subst hr
        refine ⟨hne0, ?_⟩
        show hw sc (d + 2) 183 93 [(0, (2, 192)), (1, (0, v1))] [(0, z9)] ψ9 y9 Q
        exact hw_ret (a0 := 0) (e := 1) (by decide +kernel) (Or.inr ⟨rfl, H.1⟩) H.2
      · have H := hf8 q
        refine hw_ald (b := 0) (e := 0) (by decide +kernel) rfl (by decide) ?_
        refine hw_k (c := 44) (b := 1) (e := 2) (by decide +kernel) ?_
        refine hw_ald (b := 0) (e := 0) (by decide +kernel) rfl (by decide) ?_
        refine hr_gr (w := 195) (b := 12) (e := 7) 192 rfl (by decide +kernel) ?_
        refine hw_k (c := 2) (b := 0) (e := 1) (by decide +kernel) ?_
        refine hr_al (b := 0) (a0 := 0) (e := 0) (n := 99) (w := φ 195 2) 195 rfl (by decide +kernel) (by decide) (by decide) (by decide) rfl ?_
        refine hr_call (a0 := 22) (b := 185) (e := 3) (nl := 4) (As := [(0, 44), (0, φ 195 2)]) (R := []) 192 rfl (by decide +kernel) rfl rfl (Nat.le_of_ble_eq_true rfl) (Nat.le_of_ble_eq_true rfl) ?_
        refine hw_mono H ?_
        rintro r ψ11 y11 ⟨hyx, hψx, z11, hr, H⟩
        subst hyx
        subst hψx
        subst hr
        refine ⟨hne0, ?_⟩
        show hw sc (d + 2) 183 55 [(0, (2, 192)), (1, (0, v1))] [(0, z11)] φ y11 Q
        obtain ⟨hz12, ht12, hf12⟩ := H
        refine hw_if (a0 := 0) (b := 3) (e := 88) (by decide +kernel) hz12 (fun q => ?_) (fun q => ?_)
        · have H := ht12 q
          refine hw_ald (b := 0) (e := 0) (by decide +kernel) rfl (by decide) ?_
          refine hw_k (c := 3) (b := 0) (e := 1) (by decide +kernel) ?_
          refine hr_call (a0 := 22) (b := 182) (e := 2) (nl := 2) (As := [(0, 3)]) (R := []) 192 rfl (by decide +kernel) rfl rfl (Nat.le_of_ble_eq_true rfl) (Nat.le_of_ble_eq_true rfl) ?_
          refine hw_mono H ?_
          rintro r ψ13 y13 ⟨hyx, z13, hr, H⟩
          subst hyx
          subst hr
          refine ⟨hne0, ?_⟩
          show hw sc (d + 2) 183 93 [(0, (2, 192)), (1, (0, v1))] [(0, z13)] ψ13 y13 Q
          exact hw_ret (a0 := 0) (e := 1) (by decide +kernel) (Or.inr ⟨rfl, H.1⟩) H.2
        · have H := hf12 q
          refine hw_ald (b := 0) (e := 0) (by decide +kernel) rfl (by decide) ?_
          refine hw_k (c := 52) (b := 1) (e := 2) (by decide +kernel) ?_
          refine hw_ald (b := 0) (e := 0) (by decide +kernel) rfl (by decide) ?_
          refine hr_gr (w := 195) (b := 12) (e := 7) 192 rfl (by decide +kernel) ?_
          refine hw_k (c := 3) (b := 0) (e := 1) (by decide +kernel) ?_
          refine hr_al (b := 0) (a0 := 0) (e := 0) (n := 99) (w := φ 195 3) 195 rfl (by decide +kernel) (by decide) (by decide) (by decide) rfl ?_
          refine hr_call (a0 := 22) (b := 185) (e := 3) (nl := 4) (As := [(0, 52), (0, φ 195 3)]) (R := []) 192 rfl (by decide +kernel) rfl rfl (Nat.le_of_ble_eq_true rfl) (Nat.le_of_ble_eq_true rfl) ?_
          refine hw_mono H ?_
          rintro r ψ15 y15 ⟨hyx, hψx, z15, hr, H⟩
          subst hyx
          subst hψx
          subst hr
          refine ⟨hne0, ?_⟩
          show hw sc (d + 2) 183 70 [(0, (2, 192)), (1, (0, v1))] [(0, z15)] φ y15 Q
          obtain ⟨hz16, ht16, hf16⟩ := H
          refine hw_if (a0 := 0) (b := 3) (e := 88) (by decide +kernel) hz16 (fun q => ?_) (fun q => ?_)
          · have H := ht16 q
            refine hw_ald (b := 0) (e := 0) (by decide +kernel) rfl (by decide) ?_
            refine hw_k (c := 3) (b := 0) (e := 1) (by decide +kernel) ?_
            refine hr_call (a0 := 22) (b := 182) (e := 2) (nl := 2) (As := [(0, 3)]) (R := []) 192 rfl (by decide +kernel) rfl rfl (Nat.le_of_ble_eq_true rfl) (Nat.le_of_ble_eq_true rfl) ?_
            refine hw_mono H ?_
            rintro r ψ17 y17 ⟨hyx, z17, hr, H⟩
            subst hyx
            subst hr
            refine ⟨hne0, ?_⟩
            show hw sc (d + 2) 183 93 [(0, (2, 192)), (1, (0, v1))] [(0, z17)] ψ17 y17 Q
            exact hw_ret (a0 := 0) (e := 1) (by decide +kernel) (Or.inr ⟨rfl, H.1⟩) H.2
          · have H := hf16 q
            refine hw_ald (b := 0) (e := 0) (by decide +kernel) rfl (by decide) ?_
            refine hw_k (c := 58) (b := 1) (e := 2) (by decide +kernel) ?_
            refine hw_ald (b := 0) (e := 0) (by decide +kernel) rfl (by decide) ?_
            refine hr_gr (w := 195) (b := 12) (e := 7) 192 rfl (by decide +kernel) ?_
            refine hw_k (c := 4) (b := 0) (e := 1) (by decide +kernel) ?_
            refine hr_al (b := 0) (a0 := 0) (e := 0) (n := 99) (w := φ 195 4) 195 rfl (by decide +kernel) (by decide) (by decide) (by decide) rfl ?_
            refine hr_call (a0 := 22) (b := 185) (e := 3) (nl := 4) (As := [(0, 58), (0, φ 195 4)]) (R := []) 192 rfl (by decide +kernel) rfl rfl (Nat.le_of_ble_eq_true rfl) (Nat.le_of_ble_eq_true rfl) ?_
            refine hw_mono H ?_
            rintro r ψ19 y19 ⟨hyx, hψx, z19, hr, H⟩
            subst hyx
            subst hψx
            subst hr
            refine ⟨hne0, ?_⟩
            show hw sc (d + 2) 183 85 [(0, (2, 192)), (1, (0, v1))] [(0, z19)] φ y19 Q
            obtain ⟨hz20, ht20, hf20⟩ := H
            refine hw_if (a0 := 0) (b := 2) (e := 94) (by decide +kernel) hz20 (fun q => ?_) (fun q => ?_)
            · have H := ht20 q
              refine hw_ald (b := 0) (e := 0) (by decide +kernel) rfl (by decide) ?_
              refine hr_gr (w := 197) (b := 12) (e := 9) 192 rfl (by decide +kernel) ?_
              refine hw_ld (b := 1) (e := 0) (by decide +kernel) rfl ?_
              refine hw_ald (b := 0) (e := 0) (by decide +kernel) rfl (by decide) ?_
              refine hr_gl (w := φ 192 17) (b := 12) (e := 17) 192 rfl (by decide +kernel) rfl ?_
              obtain ⟨hl21, hu21, H⟩ := H
              refine hr_asl (a0 := 0) (e := 4) (n := 66) 197 rfl (by decide +kernel) hl21 hu21 ?_
              refine hw_ald (b := 0) (e := 0) (by decide +kernel) rfl (by decide) ?_
              refine hr_call (a0 := 22) (b := 175) (e := 1) (nl := 4) (As := []) (R := []) 192 rfl (by decide +kernel) rfl rfl (Nat.le_of_ble_eq_true rfl) (Nat.le_of_ble_eq_true rfl) ?_
              refine hw_mono H ?_
              rintro r ψ22 y22 ⟨hyx, hr, H⟩
              subst hyx
              subst hr
              refine ⟨hnen, ?_⟩
              show hw sc (d + 2) 183 108 [(0, (2, 192)), (1, (0, v1))] [] ψ22 y22 Q
              refine hw_k (c := 1) (b := 0) (e := 1) (by decide +kernel) ?_
              exact hw_ret (a0 := 0) (e := 1) (by decide +kernel) (Or.inr ⟨rfl, by decide⟩) H
            · have H := hf20 q
              refine hw_ald (b := 0) (e := 0) (by decide +kernel) rfl (by decide) ?_
              refine hw_k (c := 3) (b := 0) (e := 1) (by decide +kernel) ?_
              refine hr_call (a0 := 22) (b := 182) (e := 2) (nl := 2) (As := [(0, 3)]) (R := []) 192 rfl (by decide +kernel) rfl rfl (Nat.le_of_ble_eq_true rfl) (Nat.le_of_ble_eq_true rfl) ?_
              refine hw_mono H ?_
              rintro r ψ24 y24 ⟨hyx, z24, hr, H⟩
              subst hyx
              subst hr
              refine ⟨hne0, ?_⟩
              show hw sc (d + 2) 183 93 [(0, (2, 192)), (1, (0, v1))] [(0, z24)] ψ24 y24 Q
              exact hw_ret (a0 := 0) (e := 1) (by decide +kernel) (Or.inr ⟨rfl, H.1⟩) H.2
  · have H := hf2 q
    refine hw_ald (b := 0) (e := 0) (by decide +kernel) rfl (by decide) ?_
    refine hw_k (c := 1) (b := 0) (e := 1) (by decide +kernel) ?_
    refine hr_call (a0 := 22) (b := 182) (e := 2) (nl := 2) (As := [(0, 1)]) (R := []) 192 rfl (by decide +kernel) rfl rfl (Nat.le_of_ble_eq_true rfl) (Nat.le_of_ble_eq_true rfl) ?_
    refine hw_mono H ?_
    rintro r ψ26 y26 ⟨hyx, z26, hr, H⟩
    subst hyx
    subst hr
    refine ⟨hne0, ?_⟩
    show hw sc (d + 2) 183 12 [(0, (2, 192)), (1, (0, v1))] [(0, z26)] ψ26 y26 Q
    exact hw_ret (a0 := 0) (e := 1) (by decide +kernel) (Or.inr ⟨rfl, H.1⟩) H.2
theorem sf_183_192 {sc : List Int} {d : Nat} {φ : hf_F} {x : Nat} {Q : Option jm_V → hf_F → Nat → Prop} {v1 : Int} (hI : Inv φ) (h1a : 33 ≤ v1) (h1b : v1 ≤ 65) (hQ : ∀ (r : Int) (ψ : hf_F), Inv ψ → Fr [197, 193004, 193011, 193012, 193013, 193014, 193015, 193016, 193017] φ ψ → 0 ≤ r ∧ r ≤ 1 ∧ (φ 192 4 ≤ ψ 192 4 ∧ (r = 1 → ψ 192 11 = 3 → φ 192 4 < ψ 192 4)) → F_RideLawsModel_fresh_192 φ v1 = (r, ψ) → Q (some (0, r)) ψ x) : hw sc (d + 2) 183 0 [(0, (2, 192)), (1, (0, v1))] [] φ x Q := by
  apply sf_183_192_v
  have e0 : F_RideLawsModel_fresh_192 φ v1 = _ := rfl
  refine sf_184_192 (φ := φ) hI  (fun z1 hp1 hE1 => ⟨rfl, rfl, z1, rfl, ?_⟩)
  have e1 := e0.trans (bnp_e hE1)
  refine ⟨by unfold hi; omega, fun q2 => ?_, fun q2 => ?_⟩
  · skip
    have e2a := e1.trans (if_pos q2)
    have f1 := iv_at (a := 195) (k := 0) (lo := 0) (u := 3) hI (by decide +kernel)
    refine sf_185_192 (φ := φ) hI (by omega) (by omega) (by omega) (by omega) (by omega) (fun z3 hp3 hE3 => ⟨rfl, rfl, z3, rfl, ?_⟩)
    have e3 := e2a.trans (bnp_e hE3)
    refine ⟨by unfold hi; omega, fun q4 => ?_, fun q4 => ?_⟩
    · skip
      have e4a := e3.trans (if_pos q4)
      refine sf_182_192 (φ := φ) hI (by omega) (by omega) (fun z5 ψ5 hI5 hF5 hp5 hE5 => ⟨rfl, z5, rfl, ?_⟩)
      have hG5 : Fr [197, 193004, 193011, 193012, 193013, 193014, 193015, 193016, 193017] φ ψ5 := fr_tr (fr_rf) hF5 (by decide)
      have f2 := iv_at (a := 192) (k := 30) (lo := 0) (u := 40) hI (by decide +kernel)
      have f3 := iv_at (a := 192) (k := 4) (lo := 0) (u := 940) hI (by decide +kernel)
      have f4 := iv_at (a := 192) (k := 30) (lo := 0) (u := 40) hI5 (by decide +kernel)
      have f5 : ψ5 192 30 = φ 192 30 := (fr_fd hF5 192 30 (by decide))
      have f6 := iv_at (a := 192) (k := 4) (lo := 0) (u := 940) hI5 (by decide +kernel)
      have f7 : ψ5 192 4 = φ 192 4 := (fr_fd hF5 192 4 (by decide))
      have e5 := e4a.trans (bnd_e hE5)
      have f8 := iv_at (a := 192) (k := 11) (lo := 0) (u := 4) hI5 (by decide +kernel)
      have f9 : ψ5 192 11 = φ 192 11 := (fr_fd hF5 192 11 (by decide))
      have f10 := iv_at (a := 192) (k := 11) (lo := 0) (u := 4) hI (by decide +kernel)
      refine ⟨by omega, ?_⟩
      exact hQ z5 ψ5 hI5 hG5 ⟨by omega, by omega, by omega⟩ e5
    · skip
      have e4b := e3.trans (if_neg q4)
      have f11 := iv_at (a := 195) (k := 1) (lo := 0) (u := 8) hI (by decide +kernel)
      refine sf_185_192 (φ := φ) hI (by omega) (by omega) (by omega) (by omega) (by omega) (fun z7 hp7 hE7 => ⟨rfl, rfl, z7, rfl, ?_⟩)
      have e7 := e4b.trans (bnp_e hE7)
      refine ⟨by unfold hi; omega, fun q8 => ?_, fun q8 => ?_⟩
      · skip
        have e8a := e7.trans (if_pos q8)
        refine sf_182_192 (φ := φ) hI (by omega) (by omega) (fun z9 ψ9 hI9 hF9 hp9 hE9 => ⟨rfl, z9, rfl, ?_⟩)
        have hG9 : Fr [197, 193004, 193011, 193012, 193013, 193014, 193015, 193016, 193017] φ ψ9 := fr_tr (fr_rf) hF9 (by decide)
        have f12 := iv_at (a := 192) (k := 30) (lo := 0) (u := 40) hI (by decide +kernel)
        have f13 := iv_at (a := 192) (k := 4) (lo := 0) (u := 940) hI (by decide +kernel)
        have f14 := iv_at (a := 192) (k := 30) (lo := 0) (u := 40) hI9 (by decide +kernel)
        have f15 : ψ9 192 30 = φ 192 30 := (fr_fd hF9 192 30 (by decide))
        have f16 := iv_at (a := 192) (k := 4) (lo := 0) (u := 940) hI9 (by decide +kernel)
        have f17 : ψ9 192 4 = φ 192 4 := (fr_fd hF9 192 4 (by decide))
        have e9 := e8a.trans (bnd_e hE9)
        have f18 := iv_at (a := 192) (k := 11) (lo := 0) (u := 4) hI9 (by decide +kernel)
        have f19 : ψ9 192 11 = φ 192 11 := (fr_fd hF9 192 11 (by decide))
        have f20 := iv_at (a := 192) (k := 11) (lo := 0) (u := 4) hI (by decide +kernel)
        refine ⟨by omega, ?_⟩
        exact hQ z9 ψ9 hI9 hG9 ⟨by omega, by omega, by omega⟩ e9
      · skip
        have e8b := e7.trans (if_neg q8)
        have f21 := iv_at (a := 195) (k := 2) (lo := 0) (u := 8) hI (by decide +kernel)
        refine sf_185_192 (φ := φ) hI (by omega) (by omega) (by omega) (by omega) (by omega) (fun z11 hp11 hE11 => ⟨rfl, rfl, z11, rfl, ?_⟩)
        have e11 := e8b.trans (bnp_e hE11)
        refine ⟨by unfold hi; omega, fun q12 => ?_, fun q12 => ?_⟩
        · skip
          have e12a := e11.trans (if_pos q12)
          refine sf_182_192 (φ := φ) hI (by omega) (by omega) (fun z13 ψ13 hI13 hF13 hp13 hE13 => ⟨rfl, z13, rfl, ?_⟩)
          have hG13 : Fr [197, 193004, 193011, 193012, 193013, 193014, 193015, 193016, 193017] φ ψ13 := fr_tr (fr_rf) hF13 (by decide)
          have f22 := iv_at (a := 192) (k := 30) (lo := 0) (u := 40) hI (by decide +kernel)
          have f23 := iv_at (a := 192) (k := 4) (lo := 0) (u := 940) hI (by decide +kernel)
          have f24 := iv_at (a := 192) (k := 30) (lo := 0) (u := 40) hI13 (by decide +kernel)
          have f25 : ψ13 192 30 = φ 192 30 := (fr_fd hF13 192 30 (by decide))
          have f26 := iv_at (a := 192) (k := 4) (lo := 0) (u := 940) hI13 (by decide +kernel)
          have f27 : ψ13 192 4 = φ 192 4 := (fr_fd hF13 192 4 (by decide))
          have e13 := e12a.trans (bnd_e hE13)
          have f28 := iv_at (a := 192) (k := 11) (lo := 0) (u := 4) hI13 (by decide +kernel)
          have f29 : ψ13 192 11 = φ 192 11 := (fr_fd hF13 192 11 (by decide))
          have f30 := iv_at (a := 192) (k := 11) (lo := 0) (u := 4) hI (by decide +kernel)
          refine ⟨by omega, ?_⟩
          exact hQ z13 ψ13 hI13 hG13 ⟨by omega, by omega, by omega⟩ e13
        · skip
          have e12b := e11.trans (if_neg q12)
          have f31 := iv_at (a := 195) (k := 3) (lo := 0) (u := 6) hI (by decide +kernel)
          refine sf_185_192 (φ := φ) hI (by omega) (by omega) (by omega) (by omega) (by omega) (fun z15 hp15 hE15 => ⟨rfl, rfl, z15, rfl, ?_⟩)
          have e15 := e12b.trans (bnp_e hE15)
          refine ⟨by unfold hi; omega, fun q16 => ?_, fun q16 => ?_⟩
          · skip
            have e16a := e15.trans (if_pos q16)
            refine sf_182_192 (φ := φ) hI (by omega) (by omega) (fun z17 ψ17 hI17 hF17 hp17 hE17 => ⟨rfl, z17, rfl, ?_⟩)
            have hG17 : Fr [197, 193004, 193011, 193012, 193013, 193014, 193015, 193016, 193017] φ ψ17 := fr_tr (fr_rf) hF17 (by decide)
            have f32 := iv_at (a := 192) (k := 30) (lo := 0) (u := 40) hI (by decide +kernel)
            have f33 := iv_at (a := 192) (k := 4) (lo := 0) (u := 940) hI (by decide +kernel)
            have f34 := iv_at (a := 192) (k := 30) (lo := 0) (u := 40) hI17 (by decide +kernel)
            have f35 : ψ17 192 30 = φ 192 30 := (fr_fd hF17 192 30 (by decide))
            have f36 := iv_at (a := 192) (k := 4) (lo := 0) (u := 940) hI17 (by decide +kernel)
            have f37 : ψ17 192 4 = φ 192 4 := (fr_fd hF17 192 4 (by decide))
            have e17 := e16a.trans (bnd_e hE17)
            have f38 := iv_at (a := 192) (k := 11) (lo := 0) (u := 4) hI17 (by decide +kernel)
            have f39 : ψ17 192 11 = φ 192 11 := (fr_fd hF17 192 11 (by decide))
            have f40 := iv_at (a := 192) (k := 11) (lo := 0) (u := 4) hI (by decide +kernel)
            refine ⟨by omega, ?_⟩
            exact hQ z17 ψ17 hI17 hG17 ⟨by omega, by omega, by omega⟩ e17
          · skip
            have e16b := e15.trans (if_neg q16)
            have f41 := iv_at (a := 195) (k := 4) (lo := 0) (u := 8) hI (by decide +kernel)
            refine sf_185_192 (φ := φ) hI (by omega) (by omega) (by omega) (by omega) (by omega) (fun z19 hp19 hE19 => ⟨rfl, rfl, z19, rfl, ?_⟩)
            have e19 := e16b.trans (bnp_e hE19)
            refine ⟨by unfold hi; omega, fun q20 => ?_, fun q20 => ?_⟩
            · skip
              have e20a := e19.trans (if_pos q20)
              refine ⟨by omega, by omega, ?_⟩
              have i42 : Inv (hf_up φ 197 ((v1).toNat) (φ 192 17)) := iv_upIn hI (by decide) (by decide +kernel)
              have r42 : Fr [197, 193004, 193011, 193012, 193013, 193014, 193015, 193016, 193017] φ (hf_up φ 197 ((v1).toNat) (φ 192 17)) := fr_upa (fr_rf) (by decide)
              refine sf_175_192 (φ := (hf_up φ 197 ((v1).toNat) (φ 192 17))) i42  (fun ψ22 hI22 hF22 hV22 hE22 => ⟨rfl, rfl, ?_⟩)
              have hG22 : Fr [197, 193004, 193011, 193012, 193013, 193014, 193015, 193016, 193017] φ ψ22 := fr_tr r42 hF22 (by decide)
              have f43 : (hf_up φ 197 ((v1).toNat) (φ 192 17)) 192 18 = φ 192 18 := (hf_up_ne (fun q => absurd q.1 (by decide)))
              have f44 := iv_at (a := 192) (k := 18) (lo := (-1 : Int)) (u := 999) hI (by decide +kernel)
              have f45 : (hf_up φ 197 ((v1).toNat) (φ 192 17)) 192 30 = φ 192 30 := (hf_up_ne (fun q => absurd q.1 (by decide)))
              have f46 := iv_at (a := 192) (k := 30) (lo := 0) (u := 40) hI (by decide +kernel)
              have f47 : (hf_up φ 197 ((v1).toNat) (φ 192 17)) 192 34 = φ 192 34 := (hf_up_ne (fun q => absurd q.1 (by decide)))
              have f48 := iv_at (a := 192) (k := 34) (lo := 0) (u := 45) hI (by decide +kernel)
              have f49 : (hf_up φ 197 ((v1).toNat) (φ 192 17)) 192 35 = φ 192 35 := (hf_up_ne (fun q => absurd q.1 (by decide)))
              have f50 := iv_at (a := 192) (k := 35) (lo := 0) (u := 20) hI (by decide +kernel)
              have f51 : (hf_up φ 197 ((v1).toNat) (φ 192 17)) 192 36 = φ 192 36 := (hf_up_ne (fun q => absurd q.1 (by decide)))
              have f52 := iv_at (a := 192) (k := 36) (lo := 0) (u := 45) hI (by decide +kernel)
              have f53 : (hf_up φ 197 ((v1).toNat) (φ 192 17)) 192 38 = φ 192 38 := (hf_up_ne (fun q => absurd q.1 (by decide)))
              have f54 := iv_at (a := 192) (k := 38) (lo := 0) (u := 1) hI (by decide +kernel)
              have f55 : (hf_up φ 197 ((v1).toNat) (φ 192 17)) 192 4 = φ 192 4 := (hf_up_ne (fun q => absurd q.1 (by decide)))
              have f56 := iv_at (a := 192) (k := 4) (lo := 0) (u := 940) hI (by decide +kernel)
              have f57 := iv_at (a := 192) (k := 11) (lo := 0) (u := 4) hI22 (by decide +kernel)
              have f58 := iv_at (a := 192) (k := 18) (lo := (-1 : Int)) (u := 999) hI22 (by decide +kernel)
              have f59 : ψ22 192 18 = φ 192 18 := (fr_fd hF22 192 18 (by decide)).trans (hf_up_ne (fun q => absurd q.1 (by decide)))
              have f60 := iv_at (a := 192) (k := 30) (lo := 0) (u := 40) hI22 (by decide +kernel)
              have f61 : ψ22 192 30 = φ 192 30 := (fr_fd hF22 192 30 (by decide)).trans (hf_up_ne (fun q => absurd q.1 (by decide)))
              have f62 := iv_at (a := 192) (k := 34) (lo := 0) (u := 45) hI22 (by decide +kernel)
              have f63 : ψ22 192 34 = φ 192 34 := (fr_fd hF22 192 34 (by decide)).trans (hf_up_ne (fun q => absurd q.1 (by decide)))
              have f64 := iv_at (a := 192) (k := 35) (lo := 0) (u := 20) hI22 (by decide +kernel)
              have f65 : ψ22 192 35 = φ 192 35 := (fr_fd hF22 192 35 (by decide)).trans (hf_up_ne (fun q => absurd q.1 (by decide)))
              have f66 := iv_at (a := 192) (k := 36) (lo := 0) (u := 45) hI22 (by decide +kernel)
              have f67 : ψ22 192 36 = φ 192 36 := (fr_fd hF22 192 36 (by decide)).trans (hf_up_ne (fun q => absurd q.1 (by decide)))
              have f68 := iv_at (a := 192) (k := 38) (lo := 0) (u := 1) hI22 (by decide +kernel)
              have f69 : ψ22 192 38 = φ 192 38 := (fr_fd hF22 192 38 (by decide)).trans (hf_up_ne (fun q => absurd q.1 (by decide)))
              have f70 := iv_at (a := 192) (k := 4) (lo := 0) (u := 940) hI22 (by decide +kernel)
              have e22 := e20a.trans (bnv_e hE22)
              exact hQ 1 ψ22 hI22 hG22 ⟨by omega, by omega, by omega⟩ e22
            · skip
              have e20b := e19.trans (if_neg q20)
              refine sf_182_192 (φ := φ) hI (by omega) (by omega) (fun z24 ψ24 hI24 hF24 hp24 hE24 => ⟨rfl, z24, rfl, ?_⟩)
              have hG24 : Fr [197, 193004, 193011, 193012, 193013, 193014, 193015, 193016, 193017] φ ψ24 := fr_tr (fr_rf) hF24 (by decide)
              have f71 := iv_at (a := 192) (k := 30) (lo := 0) (u := 40) hI (by decide +kernel)
              have f72 := iv_at (a := 192) (k := 4) (lo := 0) (u := 940) hI (by decide +kernel)
              have f73 := iv_at (a := 192) (k := 30) (lo := 0) (u := 40) hI24 (by decide +kernel)
              have f74 : ψ24 192 30 = φ 192 30 := (fr_fd hF24 192 30 (by decide))
              have f75 := iv_at (a := 192) (k := 4) (lo := 0) (u := 940) hI24 (by decide +kernel)
              have f76 : ψ24 192 4 = φ 192 4 := (fr_fd hF24 192 4 (by decide))
              have e24 := e20b.trans (bnd_e hE24)
              have f77 := iv_at (a := 192) (k := 11) (lo := 0) (u := 4) hI24 (by decide +kernel)
              have f78 : ψ24 192 11 = φ 192 11 := (fr_fd hF24 192 11 (by decide))
              have f79 := iv_at (a := 192) (k := 11) (lo := 0) (u := 4) hI (by decide +kernel)
              refine ⟨by omega, ?_⟩
              exact hQ z24 ψ24 hI24 hG24 ⟨by omega, by omega, by omega⟩ e24
  · skip
    have e2b := e1.trans (if_neg q2)
    refine sf_182_192 (φ := φ) hI (by omega) (by omega) (fun z26 ψ26 hI26 hF26 hp26 hE26 => ⟨rfl, z26, rfl, ?_⟩)
    have hG26 : Fr [197, 193004, 193011, 193012, 193013, 193014, 193015, 193016, 193017] φ ψ26 := fr_tr (fr_rf) hF26 (by decide)
    have f80 := iv_at (a := 192) (k := 30) (lo := 0) (u := 40) hI (by decide +kernel)
    have f81 := iv_at (a := 192) (k := 4) (lo := 0) (u := 940) hI (by decide +kernel)
    have f82 := iv_at (a := 192) (k := 30) (lo := 0) (u := 40) hI26 (by decide +kernel)
    have f83 : ψ26 192 30 = φ 192 30 := (fr_fd hF26 192 30 (by decide))
    have f84 := iv_at (a := 192) (k := 4) (lo := 0) (u := 940) hI26 (by decide +kernel)
    have f85 : ψ26 192 4 = φ 192 4 := (fr_fd hF26 192 4 (by decide))
    have e26 := e2b.trans (bnd_e hE26)
    have f86 := iv_at (a := 192) (k := 11) (lo := 0) (u := 4) hI26 (by decide +kernel)
    have f87 : ψ26 192 11 = φ 192 11 := (fr_fd hF26 192 11 (by decide))
    have f88 := iv_at (a := 192) (k := 11) (lo := 0) (u := 4) hI (by decide +kernel)
    refine ⟨by omega, ?_⟩
    exact hQ z26 ψ26 hI26 hG26 ⟨by omega, by omega, by omega⟩ e26
theorem sf_191_192_v {sc : List Int} {d : Nat} {φ : hf_F} {x : Nat} {Q : Option jm_V → hf_F → Nat → Prop} {v1 v2 : Int}
    (H : hw sc d 184 0 [(0, (2, 192))] [] φ x (fun r ψ1 y1 => y1 = x ∧ φ = ψ1 ∧ (∃ z1 : Int, r = some (0, z1) ∧ (hi z1 ∧ (¬ z1 = 0 → hw sc d 185 0 [(0, (2, 192)), (1, (0, v1)), (2, (0, v2))] [] φ x (fun r ψ3 y3 => y3 = x ∧ φ = ψ3 ∧ (∃ z3 : Int, r = some (0, z3) ∧ (hi z3 ∧ (0 ≤ z3 → Q (some (0, 1)) (hf_up φ 192 18 z3) x) ∧ (¬ 0 ≤ z3 → hw sc d 182 0 [(0, (2, 192)), (1, (0, 3))] [] (hf_up φ 192 18 z3) x (fun r ψ6 y6 => y6 = x ∧ (∃ z6 : Int, r = some (0, z6) ∧ (hi z6 ∧ (z6 = 0 → Q (some (0, 0)) ψ6 x) ∧ (¬ z6 = 0 → Q (some (0, 1)) ψ6 x))))))))) ∧ (¬ (¬ z1 = 0) → hw sc d 182 0 [(0, (2, 192)), (1, (0, 1))] [] φ x (fun r ψ10 y10 => y10 = x ∧ (∃ z10 : Int, r = some (0, z10) ∧ ((z10 = 0 ∨ z10 = 1) ∧ Q (some (0, z10)) ψ10 x)))))))) :
    hw sc (d + 1) 191 0 [(0, (2, 192)), (1, (0, v1)), (2, (0, v2))] [] φ x Q := by
  refine hw_ald (b := 0) (e := 0) (by decide +kernel) rfl (by decide) ?_
  refine hr_call (a0 := 22) (b := 184) (e := 1) (nl := 3) (As := []) (R := []) 192 rfl (by decide +kernel) rfl rfl (Nat.le_of_ble_eq_true rfl) (Nat.le_of_ble_eq_true rfl) ?_
  refine hw_mono H ?_
  rintro r ψ1 y1 ⟨hyx, hψx, z1, hr, H⟩
  subst hyx
  subst hψx
  subst hr
  refine ⟨hne0, ?_⟩
  show hw sc (d + 1) 191 4 [(0, (2, 192)), (1, (0, v1)), (2, (0, v2))] [(0, z1)] φ y1 Q
  obtain ⟨hz2, ht2, hf2⟩ := H
  refine hw_if (a0 := 0) (b := 1) (e := 13) (by decide +kernel) hz2 (fun q => ?_) (fun q => ?_)
  · have H := ht2 q
    refine hw_ald (b := 0) (e := 0) (by decide +kernel) rfl (by decide) ?_
    refine hw_ald (b := 0) (e := 0) (by decide +kernel) rfl (by decide) ?_
    refine hw_ld (b := 1) (e := 0) (by decide +kernel) rfl ?_
    refine hw_ld (b := 2) (e := 0) (by decide +kernel) rfl ?_
    refine hr_call (a0 := 22) (b := 185) (e := 3) (nl := 4) (As := [(0, v1), (0, v2)]) (R := [(2, 192)]) 192 rfl (by decide +kernel) rfl rfl (Nat.le_of_ble_eq_true rfl) (Nat.le_of_ble_eq_true rfl) ?_
    refine hw_mono H ?_
    rintro r ψ3 y3 ⟨hyx, hψx, z3, hr, H⟩
    subst hyx
    subst hψx
    subst hr
    refine ⟨hne0, ?_⟩
    show hw sc (d + 1) 191 20 [(0, (2, 192)), (1, (0, v1)), (2, (0, v2))] [(0, z3), (2, 192)] φ y3 Q
    refine hr_pi (b := 12) (e := 18) 192 rfl (by decide +kernel) ?_
    refine hw_ald (b := 0) (e := 0) (by decide +kernel) rfl (by decide) ?_
    refine hr_gi (w := z3) (b := 12) (e := 18) 192 rfl (by decide +kernel) hf_up_eq ?_
    obtain ⟨hz4, ht4, hf4⟩ := H
    refine hw_if (a0 := 0) (b := 3) (e := 38) (by decide +kernel) hz4 (fun q => ?_) (fun q => ?_)
    · have H := ht4 q
      refine hw_k (c := 1) (b := 0) (e := 1) (by decide +kernel) ?_
      refine hw_goto (a0 := 0) (b := 0) (e := 43) (by decide +kernel) ?_
      exact hw_ret (a0 := 0) (e := 1) (by decide +kernel) (Or.inr ⟨rfl, by decide⟩) H
    · have H := hf4 q
      refine hw_ald (b := 0) (e := 0) (by decide +kernel) rfl (by decide) ?_
      refine hw_k (c := 3) (b := 0) (e := 1) (by decide +kernel) ?_
      refine hr_call (a0 := 22) (b := 182) (e := 2) (nl := 2) (As := [(0, 3)]) (R := []) 192 rfl (by decide +kernel) rfl rfl (Nat.le_of_ble_eq_true rfl) (Nat.le_of_ble_eq_true rfl) ?_
      refine hw_mono H ?_
      rintro r ψ6 y6 ⟨hyx, z6, hr, H⟩
      subst hyx
      subst hr
      refine ⟨hne0, ?_⟩
      show hw sc (d + 1) 191 35 [(0, (2, 192)), (1, (0, v1)), (2, (0, v2))] [(0, z6)] ψ6 y6 Q
      obtain ⟨hz7, ht7, hf7⟩ := H
      refine hw_if (a0 := 0) (b := 0) (e := 42) (by decide +kernel) hz7 (fun q => ?_) (fun q => ?_)
      · have H := ht7 q
        refine hw_k (c := 0) (b := 0) (e := 1) (by decide +kernel) ?_
        exact hw_ret (a0 := 0) (e := 1) (by decide +kernel) (Or.inr ⟨rfl, by decide⟩) H
      · have H := hf7 q
        refine hw_k (c := 1) (b := 0) (e := 1) (by decide +kernel) ?_
        refine hw_goto (a0 := 0) (b := 0) (e := 43) (by decide +kernel) ?_
        exact hw_ret (a0 := 0) (e := 1) (by decide +kernel) (Or.inr ⟨rfl, by decide⟩) H
  · have H := hf2 q
    refine hw_ald (b := 0) (e := 0) (by decide +kernel) rfl (by decide) ?_
    refine hw_k (c := 1) (b := 0) (e := 1) (by decide +kernel) ?_
    refine hr_call (a0 := 22) (b := 182) (e := 2) (nl := 2) (As := [(0, 1)]) (R := []) 192 rfl (by decide +kernel) rfl rfl (Nat.le_of_ble_eq_true rfl) (Nat.le_of_ble_eq_true rfl) ?_
    refine hw_mono H ?_
    rintro r ψ10 y10 ⟨hyx, z10, hr, H⟩
    subst hyx
    subst hr
    refine ⟨hne0, ?_⟩
    show hw sc (d + 1) 191 12 [(0, (2, 192)), (1, (0, v1)), (2, (0, v2))] [(0, z10)] ψ10 y10 Q
    exact hw_ret (a0 := 0) (e := 1) (by decide +kernel) (Or.inr ⟨rfl, H.1⟩) H.2
theorem sf_191_192 {sc : List Int} {d : Nat} {φ : hf_F} {x : Nat} {Q : Option jm_V → hf_F → Nat → Prop} {v1 v2 : Int} (hI : Inv φ) (h1a : 0 ≤ v1) (h1b : v1 ≤ 58) (h2a : 0 ≤ v2) (h2b : v2 ≤ 8) (hp0 : v1 + v2 ≤ 66) (hQ : ∀ (r : Int) (ψ : hf_F), Inv ψ → Fr [193015, 193016, 193018] φ ψ → 0 ≤ r ∧ r ≤ 1 ∧ ((((r = 1 → 0 ≤ ψ 192 18 ∧ ψ 192 18 < v2) ∧ ψ 192 4 = φ 192 4) ∧ ψ 192 30 = φ 192 30) ∧ (r = 1 → ψ 192 34 = φ 192 34 ∧ ψ 192 35 = φ 192 35 ∧ ψ 192 36 = φ 192 36 ∧ ψ 192 38 = φ 192 38)) → F_RideLawsModel_looksAt_192 φ v1 v2 = (r, ψ) → Q (some (0, r)) ψ x) : hw sc (d + 1) 191 0 [(0, (2, 192)), (1, (0, v1)), (2, (0, v2))] [] φ x Q := by
  apply sf_191_192_v
  have e0 : F_RideLawsModel_looksAt_192 φ v1 v2 = _ := rfl
  refine sf_184_192 (φ := φ) hI  (fun z1 hp1 hE1 => ⟨rfl, rfl, z1, rfl, ?_⟩)
  have e1 := e0.trans (bnp_e hE1)
  refine ⟨by unfold hi; omega, fun q2 => ?_, fun q2 => ?_⟩
  · skip
    have e2a := e1.trans (if_pos q2)
    refine sf_185_192 (φ := φ) hI (by omega) (by omega) (by omega) (by omega) (by omega) (fun z3 hp3 hE3 => ⟨rfl, rfl, z3, rfl, ?_⟩)
    have e3 := e2a.trans (bnp_e hE3)
    have i1 : Inv (hf_up φ 192 18 z3) := iv_up (lo := (-1 : Int)) (u := 999) hI (by decide +kernel) (by omega) (by omega)
    have r1 : Fr [193015, 193016, 193018] φ (hf_up φ 192 18 z3) := fr_up (fr_rf) (by decide)
    refine ⟨by unfold hi; omega, fun q4 => ?_, fun q4 => ?_⟩
    · skip
      have e4a := e3.trans (if_pos q4)
      have f2 := iv_at (a := 192) (k := 30) (lo := 0) (u := 40) hI (by decide +kernel)
      have f3 := iv_at (a := 192) (k := 34) (lo := 0) (u := 45) hI (by decide +kernel)
      have f4 := iv_at (a := 192) (k := 35) (lo := 0) (u := 20) hI (by decide +kernel)
      have f5 := iv_at (a := 192) (k := 36) (lo := 0) (u := 45) hI (by decide +kernel)
      have f6 := iv_at (a := 192) (k := 38) (lo := 0) (u := 1) hI (by decide +kernel)
      have f7 := iv_at (a := 192) (k := 4) (lo := 0) (u := 940) hI (by decide +kernel)
      have f8 : (hf_up φ 192 18 z3) 192 18 = z3 := hf_up_eq
      have f9 : (hf_up φ 192 18 z3) 192 30 = φ 192 30 := (hf_up_ne (fun q => absurd q.2 (by decide)))
      have f10 : (hf_up φ 192 18 z3) 192 34 = φ 192 34 := (hf_up_ne (fun q => absurd q.2 (by decide)))
      have f11 : (hf_up φ 192 18 z3) 192 35 = φ 192 35 := (hf_up_ne (fun q => absurd q.2 (by decide)))
      have f12 : (hf_up φ 192 18 z3) 192 36 = φ 192 36 := (hf_up_ne (fun q => absurd q.2 (by decide)))
      have f13 : (hf_up φ 192 18 z3) 192 38 = φ 192 38 := (hf_up_ne (fun q => absurd q.2 (by decide)))
      have f14 : (hf_up φ 192 18 z3) 192 4 = φ 192 4 := (hf_up_ne (fun q => absurd q.2 (by decide)))
      exact hQ 1 (hf_up φ 192 18 z3) i1 r1 ⟨by omega, by omega, by omega⟩ e4a
    · skip
      have e4b := e3.trans (if_neg q4)
      refine sf_182_192 (φ := (hf_up φ 192 18 z3)) i1 (by omega) (by omega) (fun z6 ψ6 hI6 hF6 hp6 hE6 => ⟨rfl, z6, rfl, ?_⟩)
      have hG6 : Fr [193015, 193016, 193018] φ ψ6 := fr_tr r1 hF6 (by decide)
      have f15 : (hf_up φ 192 18 z3) 192 30 = φ 192 30 := (hf_up_ne (fun q => absurd q.2 (by decide)))
      have f16 := iv_at (a := 192) (k := 30) (lo := 0) (u := 40) hI (by decide +kernel)
      have f17 : (hf_up φ 192 18 z3) 192 4 = φ 192 4 := (hf_up_ne (fun q => absurd q.2 (by decide)))
      have f18 := iv_at (a := 192) (k := 4) (lo := 0) (u := 940) hI (by decide +kernel)
      have f19 := iv_at (a := 192) (k := 30) (lo := 0) (u := 40) hI6 (by decide +kernel)
      have f20 : ψ6 192 30 = φ 192 30 := (fr_fd hF6 192 30 (by decide)).trans (hf_up_ne (fun q => absurd q.2 (by decide)))
      have f21 := iv_at (a := 192) (k := 4) (lo := 0) (u := 940) hI6 (by decide +kernel)
      have f22 : ψ6 192 4 = φ 192 4 := (fr_fd hF6 192 4 (by decide)).trans (hf_up_ne (fun q => absurd q.2 (by decide)))
      have e6 := e4b.trans (bnd_e hE6)
      refine ⟨by unfold hi; omega, fun q7 => ?_, fun q7 => ?_⟩
      · skip
        have e7a := e6.trans (if_pos q7)
        have f23 := iv_at (a := 192) (k := 34) (lo := 0) (u := 45) hI (by decide +kernel)
        have f24 := iv_at (a := 192) (k := 35) (lo := 0) (u := 20) hI (by decide +kernel)
        have f25 := iv_at (a := 192) (k := 36) (lo := 0) (u := 45) hI (by decide +kernel)
        have f26 := iv_at (a := 192) (k := 38) (lo := 0) (u := 1) hI (by decide +kernel)
        have f27 := iv_at (a := 192) (k := 18) (lo := (-1 : Int)) (u := 999) hI6 (by decide +kernel)
        have f28 : ψ6 192 18 = z3 := (fr_fd hF6 192 18 (by decide)).trans hf_up_eq
        have f29 := iv_at (a := 192) (k := 34) (lo := 0) (u := 45) hI6 (by decide +kernel)
        have f30 : ψ6 192 34 = φ 192 34 := (fr_fd hF6 192 34 (by decide)).trans (hf_up_ne (fun q => absurd q.2 (by decide)))
        have f31 := iv_at (a := 192) (k := 35) (lo := 0) (u := 20) hI6 (by decide +kernel)
        have f32 : ψ6 192 35 = φ 192 35 := (fr_fd hF6 192 35 (by decide)).trans (hf_up_ne (fun q => absurd q.2 (by decide)))
        have f33 := iv_at (a := 192) (k := 36) (lo := 0) (u := 45) hI6 (by decide +kernel)
        have f34 : ψ6 192 36 = φ 192 36 := (fr_fd hF6 192 36 (by decide)).trans (hf_up_ne (fun q => absurd q.2 (by decide)))
        have f35 := iv_at (a := 192) (k := 38) (lo := 0) (u := 1) hI6 (by decide +kernel)
        have f36 : ψ6 192 38 = φ 192 38 := (fr_fd hF6 192 38 (by decide)).trans (hf_up_ne (fun q => absurd q.2 (by decide)))
        exact hQ 0 ψ6 hI6 hG6 ⟨by omega, by omega, by omega⟩ e7a
      · skip
        have e7b := e6.trans (if_neg q7)
        have f37 := iv_at (a := 192) (k := 34) (lo := 0) (u := 45) hI (by decide +kernel)
        have f38 := iv_at (a := 192) (k := 35) (lo := 0) (u := 20) hI (by decide +kernel)
        have f39 := iv_at (a := 192) (k := 36) (lo := 0) (u := 45) hI (by decide +kernel)
        have f40 := iv_at (a := 192) (k := 38) (lo := 0) (u := 1) hI (by decide +kernel)
        have f41 := iv_at (a := 192) (k := 18) (lo := (-1 : Int)) (u := 999) hI6 (by decide +kernel)
        have f42 : ψ6 192 18 = z3 := (fr_fd hF6 192 18 (by decide)).trans hf_up_eq
        have f43 := iv_at (a := 192) (k := 34) (lo := 0) (u := 45) hI6 (by decide +kernel)
        have f44 : ψ6 192 34 = φ 192 34 := (fr_fd hF6 192 34 (by decide)).trans (hf_up_ne (fun q => absurd q.2 (by decide)))
        have f45 := iv_at (a := 192) (k := 35) (lo := 0) (u := 20) hI6 (by decide +kernel)
        have f46 : ψ6 192 35 = φ 192 35 := (fr_fd hF6 192 35 (by decide)).trans (hf_up_ne (fun q => absurd q.2 (by decide)))
        have f47 := iv_at (a := 192) (k := 36) (lo := 0) (u := 45) hI6 (by decide +kernel)
        have f48 : ψ6 192 36 = φ 192 36 := (fr_fd hF6 192 36 (by decide)).trans (hf_up_ne (fun q => absurd q.2 (by decide)))
        have f49 := iv_at (a := 192) (k := 38) (lo := 0) (u := 1) hI6 (by decide +kernel)
        have f50 : ψ6 192 38 = φ 192 38 := (fr_fd hF6 192 38 (by decide)).trans (hf_up_ne (fun q => absurd q.2 (by decide)))
        exact hQ 1 ψ6 hI6 hG6 ⟨by omega, by omega, by omega⟩ e7b
  · skip
    have e2b := e1.trans (if_neg q2)
    refine sf_182_192 (φ := φ) hI (by omega) (by omega) (fun z10 ψ10 hI10 hF10 hp10 hE10 => ⟨rfl, z10, rfl, ?_⟩)
    have hG10 : Fr [193015, 193016, 193018] φ ψ10 := fr_tr (fr_rf) hF10 (by decide)
    have f51 := iv_at (a := 192) (k := 30) (lo := 0) (u := 40) hI (by decide +kernel)
    have f52 := iv_at (a := 192) (k := 4) (lo := 0) (u := 940) hI (by decide +kernel)
    have f53 := iv_at (a := 192) (k := 30) (lo := 0) (u := 40) hI10 (by decide +kernel)
    have f54 : ψ10 192 30 = φ 192 30 := (fr_fd hF10 192 30 (by decide))
    have f55 := iv_at (a := 192) (k := 4) (lo := 0) (u := 940) hI10 (by decide +kernel)
    have f56 : ψ10 192 4 = φ 192 4 := (fr_fd hF10 192 4 (by decide))
    have e10 := e2b.trans (bnd_e hE10)
    have f57 := iv_at (a := 192) (k := 34) (lo := 0) (u := 45) hI (by decide +kernel)
    have f58 := iv_at (a := 192) (k := 35) (lo := 0) (u := 20) hI (by decide +kernel)
    have f59 := iv_at (a := 192) (k := 36) (lo := 0) (u := 45) hI (by decide +kernel)
    have f60 := iv_at (a := 192) (k := 38) (lo := 0) (u := 1) hI (by decide +kernel)
    have f61 := iv_at (a := 192) (k := 18) (lo := (-1 : Int)) (u := 999) hI10 (by decide +kernel)
    have f62 : ψ10 192 18 = φ 192 18 := (fr_fd hF10 192 18 (by decide))
    have f63 := iv_at (a := 192) (k := 18) (lo := (-1 : Int)) (u := 999) hI (by decide +kernel)
    have f64 := iv_at (a := 192) (k := 34) (lo := 0) (u := 45) hI10 (by decide +kernel)
    have f65 : ψ10 192 34 = φ 192 34 := (fr_fd hF10 192 34 (by decide))
    have f66 := iv_at (a := 192) (k := 35) (lo := 0) (u := 20) hI10 (by decide +kernel)
    have f67 : ψ10 192 35 = φ 192 35 := (fr_fd hF10 192 35 (by decide))
    have f68 := iv_at (a := 192) (k := 36) (lo := 0) (u := 45) hI10 (by decide +kernel)
    have f69 : ψ10 192 36 = φ 192 36 := (fr_fd hF10 192 36 (by decide))
    have f70 := iv_at (a := 192) (k := 38) (lo := 0) (u := 1) hI10 (by decide +kernel)
    have f71 : ψ10 192 38 = φ 192 38 := (fr_fd hF10 192 38 (by decide))
    refine ⟨by omega, ?_⟩
    exact hQ z10 ψ10 hI10 hG10 ⟨by omega, by omega, by omega⟩ e10
theorem sf_190_192_v {sc : List Int} {d : Nat} {φ : hf_F} {x : Nat} {Q : Option jm_V → hf_F → Nat → Prop} {v1 v2 : Int}
    (H : hw sc (d + 1) 191 0 [(0, (2, 192)), (1, (0, v1)), (2, (0, v2))] [] φ x (fun r ψ1 y1 => y1 = x ∧ (∃ z1 : Int, r = some (0, z1) ∧ (hi z1 ∧ (¬ z1 = 0 → hw sc (d + 1) 175 0 [(0, (2, 192))] [] ψ1 x (fun r ψ3 y3 => y3 = x ∧ (r = none ∧ (Q (some (0, 1)) ψ3 x)))) ∧ (¬ (¬ z1 = 0) → Q (some (0, 0)) ψ1 x))))) :
    hw sc (d + 2) 190 0 [(0, (2, 192)), (1, (0, v1)), (2, (0, v2))] [] φ x Q := by
  refine hw_ald (b := 0) (e := 0) (by decide +kernel) rfl (by decide) ?_
  refine hw_ld (b := 1) (e := 0) (by decide +kernel) rfl ?_
  refine hw_ld (b := 2) (e := 0) (by decide +kernel) rfl ?_
  refine hr_call (a0 := 22) (b := 191) (e := 3) (nl := 3) (As := [(0, v1), (0, v2)]) (R := []) 192 rfl (by decide +kernel) rfl rfl (Nat.le_of_ble_eq_true rfl) (Nat.le_of_ble_eq_true rfl) ?_
  refine hw_mono H ?_
  rintro r ψ1 y1 ⟨hyx, z1, hr, H⟩
  subst hyx
  subst hr
  refine ⟨hne0, ?_⟩
  show hw sc (d + 2) 190 6 [(0, (2, 192)), (1, (0, v1)), (2, (0, v2))] [(0, z1)] ψ1 y1 Q
  obtain ⟨hz2, ht2, hf2⟩ := H
  refine hw_if (a0 := 0) (b := 1) (e := 11) (by decide +kernel) hz2 (fun q => ?_) (fun q => ?_)
  · have H := ht2 q
    refine hw_ald (b := 0) (e := 0) (by decide +kernel) rfl (by decide) ?_
    refine hr_call (a0 := 22) (b := 175) (e := 1) (nl := 4) (As := []) (R := []) 192 rfl (by decide +kernel) rfl rfl (Nat.le_of_ble_eq_true rfl) (Nat.le_of_ble_eq_true rfl) ?_
    refine hw_mono H ?_
    rintro r ψ3 y3 ⟨hyx, hr, H⟩
    subst hyx
    subst hr
    refine ⟨hnen, ?_⟩
    show hw sc (d + 2) 190 15 [(0, (2, 192)), (1, (0, v1)), (2, (0, v2))] [] ψ3 y3 Q
    refine hw_k (c := 1) (b := 0) (e := 1) (by decide +kernel) ?_
    exact hw_ret (a0 := 0) (e := 1) (by decide +kernel) (Or.inr ⟨rfl, by decide⟩) H
  · have H := hf2 q
    refine hw_k (c := 0) (b := 0) (e := 1) (by decide +kernel) ?_
    exact hw_ret (a0 := 0) (e := 1) (by decide +kernel) (Or.inr ⟨rfl, by decide⟩) H
theorem sf_190_192 {sc : List Int} {d : Nat} {φ : hf_F} {x : Nat} {Q : Option jm_V → hf_F → Nat → Prop} {v1 v2 : Int} (hI : Inv φ) (h1a : 0 ≤ v1) (h1b : v1 ≤ 58) (h2a : 0 ≤ v2) (h2b : v2 ≤ 8) (hp0 : v1 + v2 ≤ 66) (hQ : ∀ (r : Int) (ψ : hf_F), Inv ψ → Fr [193004, 193011, 193012, 193013, 193014, 193015, 193016, 193017, 193018] φ ψ → 0 ≤ r ∧ r ≤ 1 ∧ (((r = 1 → 0 ≤ ψ 192 18 ∧ ψ 192 18 < v2 ∧ (ψ 192 11 = 3 → φ 192 4 < ψ 192 4)) ∧ φ 192 4 ≤ ψ 192 4) ∧ ψ 192 30 = φ 192 30) → F_RideLawsModel_takesName_192 φ v1 v2 = (r, ψ) → Q (some (0, r)) ψ x) : hw sc (d + 2) 190 0 [(0, (2, 192)), (1, (0, v1)), (2, (0, v2))] [] φ x Q := by
  apply sf_190_192_v
  have e0 : F_RideLawsModel_takesName_192 φ v1 v2 = _ := rfl
  refine sf_191_192 (φ := φ) hI (by omega) (by omega) (by omega) (by omega) (by omega) (fun z1 ψ1 hI1 hF1 hp1 hE1 => ⟨rfl, z1, rfl, ?_⟩)
  have hG1 : Fr [193004, 193011, 193012, 193013, 193014, 193015, 193016, 193017, 193018] φ ψ1 := fr_tr (fr_rf) hF1 (by decide)
  have f1 := iv_at (a := 192) (k := 30) (lo := 0) (u := 40) hI (by decide +kernel)
  have f2 := iv_at (a := 192) (k := 34) (lo := 0) (u := 45) hI (by decide +kernel)
  have f3 := iv_at (a := 192) (k := 35) (lo := 0) (u := 20) hI (by decide +kernel)
  have f4 := iv_at (a := 192) (k := 36) (lo := 0) (u := 45) hI (by decide +kernel)
  have f5 := iv_at (a := 192) (k := 38) (lo := 0) (u := 1) hI (by decide +kernel)
  have f6 := iv_at (a := 192) (k := 4) (lo := 0) (u := 940) hI (by decide +kernel)
  have f7 := iv_at (a := 192) (k := 18) (lo := (-1 : Int)) (u := 999) hI1 (by decide +kernel)
  have f8 := iv_at (a := 192) (k := 30) (lo := 0) (u := 40) hI1 (by decide +kernel)
  have f9 : ψ1 192 30 = φ 192 30 := (fr_fd hF1 192 30 (by decide))
  have f10 := iv_at (a := 192) (k := 34) (lo := 0) (u := 45) hI1 (by decide +kernel)
  have f11 : ψ1 192 34 = φ 192 34 := (fr_fd hF1 192 34 (by decide))
  have f12 := iv_at (a := 192) (k := 35) (lo := 0) (u := 20) hI1 (by decide +kernel)
  have f13 : ψ1 192 35 = φ 192 35 := (fr_fd hF1 192 35 (by decide))
  have f14 := iv_at (a := 192) (k := 36) (lo := 0) (u := 45) hI1 (by decide +kernel)
  have f15 : ψ1 192 36 = φ 192 36 := (fr_fd hF1 192 36 (by decide))
  have f16 := iv_at (a := 192) (k := 38) (lo := 0) (u := 1) hI1 (by decide +kernel)
  have f17 : ψ1 192 38 = φ 192 38 := (fr_fd hF1 192 38 (by decide))
  have f18 := iv_at (a := 192) (k := 4) (lo := 0) (u := 940) hI1 (by decide +kernel)
  have f19 : ψ1 192 4 = φ 192 4 := (fr_fd hF1 192 4 (by decide))
  have e1 := e0.trans (bnd_e hE1)
  refine ⟨by unfold hi; omega, fun q2 => ?_, fun q2 => ?_⟩
  · skip
    have e2a := e1.trans (if_pos q2)
    refine sf_175_192 (φ := ψ1) hI1  (fun ψ3 hI3 hF3 hV3 hE3 => ⟨rfl, rfl, ?_⟩)
    have hG3 : Fr [193004, 193011, 193012, 193013, 193014, 193015, 193016, 193017, 193018] φ ψ3 := fr_tr hG1 hF3 (by decide)
    have f20 := iv_at (a := 192) (k := 11) (lo := 0) (u := 4) hI3 (by decide +kernel)
    have f21 := iv_at (a := 192) (k := 18) (lo := (-1 : Int)) (u := 999) hI3 (by decide +kernel)
    have f22 : ψ3 192 18 = ψ1 192 18 := (fr_fd hF3 192 18 (by decide))
    have f23 := iv_at (a := 192) (k := 30) (lo := 0) (u := 40) hI3 (by decide +kernel)
    have f24 : ψ3 192 30 = ψ1 192 30 := (fr_fd hF3 192 30 (by decide))
    have f25 := iv_at (a := 192) (k := 34) (lo := 0) (u := 45) hI3 (by decide +kernel)
    have f26 : ψ3 192 34 = ψ1 192 34 := (fr_fd hF3 192 34 (by decide))
    have f27 := iv_at (a := 192) (k := 35) (lo := 0) (u := 20) hI3 (by decide +kernel)
    have f28 : ψ3 192 35 = ψ1 192 35 := (fr_fd hF3 192 35 (by decide))
    have f29 := iv_at (a := 192) (k := 36) (lo := 0) (u := 45) hI3 (by decide +kernel)
    have f30 : ψ3 192 36 = ψ1 192 36 := (fr_fd hF3 192 36 (by decide))
    have f31 := iv_at (a := 192) (k := 38) (lo := 0) (u := 1) hI3 (by decide +kernel)
    have f32 : ψ3 192 38 = ψ1 192 38 := (fr_fd hF3 192 38 (by decide))
    have f33 := iv_at (a := 192) (k := 4) (lo := 0) (u := 940) hI3 (by decide +kernel)
    have e3 := e2a.trans (bnv_e hE3)
    exact hQ 1 ψ3 hI3 hG3 ⟨by omega, by omega, by omega⟩ e3
  · skip
    have e2b := e1.trans (if_neg q2)
    have f34 := iv_at (a := 192) (k := 11) (lo := 0) (u := 4) hI1 (by decide +kernel)
    have f35 : ψ1 192 11 = φ 192 11 := (fr_fd hF1 192 11 (by decide))
    have f36 := iv_at (a := 192) (k := 11) (lo := 0) (u := 4) hI (by decide +kernel)
    exact hQ 0 ψ1 hI1 hG1 ⟨by omega, by omega, by omega⟩ e2b
theorem sf_186_192_k2_2_k3_30_v {sc : List Int} {d : Nat} {φ : hf_F} {x : Nat} {Q : Option jm_V → hf_F → Nat → Prop} {v1 : Int}
    (H : hw sc (d + 2) 187 0 [(0, (2, 192)), (1, (0, 2)), (2, (0, 30))] [] φ x (fun r ψ1 y1 => y1 = x ∧ (∃ z1 : Int, r = some (0, z1) ∧ (hi z1 ∧ (¬ z1 = 0 → 0 ≤ v1 ∧ v1 < 99 ∧ (Q (some (0, 1)) (hf_up ψ1 195 ((v1).toNat) (ψ1 192 18)) x)) ∧ (¬ (¬ z1 = 0) → Q (some (0, 0)) ψ1 x))))) :
    hw sc (d + 3) 186 0 [(0, (2, 192)), (1, (0, v1)), (2, (0, 2)), (3, (0, 30))] [] φ x Q := by
  refine hw_ald (b := 0) (e := 0) (by decide +kernel) rfl (by decide) ?_
  refine hw_ld (b := 2) (e := 0) (by decide +kernel) rfl ?_
  refine hw_ld (b := 3) (e := 0) (by decide +kernel) rfl ?_
  refine hr_call (a0 := 22) (b := 187) (e := 3) (nl := 3) (As := [(0, 2), (0, 30)]) (R := []) 192 rfl (by decide +kernel) rfl rfl (Nat.le_of_ble_eq_true rfl) (Nat.le_of_ble_eq_true rfl) ?_
  refine hw_mono H ?_
  rintro r ψ1 y1 ⟨hyx, z1, hr, H⟩
  subst hyx
  subst hr
  refine ⟨hne0, ?_⟩
  show hw sc (d + 3) 186 6 [(0, (2, 192)), (1, (0, v1)), (2, (0, 2)), (3, (0, 30))] [(0, z1)] ψ1 y1 Q
  obtain ⟨hz2, ht2, hf2⟩ := H
  refine hw_if (a0 := 0) (b := 1) (e := 11) (by decide +kernel) hz2 (fun q => ?_) (fun q => ?_)
  · have H := ht2 q
    refine hw_ald (b := 0) (e := 0) (by decide +kernel) rfl (by decide) ?_
    refine hr_gr (w := 195) (b := 12) (e := 7) 192 rfl (by decide +kernel) ?_
    refine hw_ld (b := 1) (e := 0) (by decide +kernel) rfl ?_
    refine hw_ald (b := 0) (e := 0) (by decide +kernel) rfl (by decide) ?_
    refine hr_gi (w := ψ1 192 18) (b := 12) (e := 18) 192 rfl (by decide +kernel) rfl ?_
    obtain ⟨hl3, hu3, H⟩ := H
    refine hr_as (a0 := 0) (e := 4) (n := 99) 195 rfl (by decide +kernel) hl3 hu3 ?_
    refine hw_k (c := 1) (b := 0) (e := 1) (by decide +kernel) ?_
    exact hw_ret (a0 := 0) (e := 1) (by decide +kernel) (Or.inr ⟨rfl, by decide⟩) H
  · have H := hf2 q
    refine hw_k (c := 0) (b := 0) (e := 1) (by decide +kernel) ?_
    exact hw_ret (a0 := 0) (e := 1) (by decide +kernel) (Or.inr ⟨rfl, by decide⟩) H
theorem sf_186_192_k2_2_k3_30 {sc : List Int} {d : Nat} {φ : hf_F} {x : Nat} {Q : Option jm_V → hf_F → Nat → Prop} {v1 : Int} (hI : Inv φ) (h1a : 5 ≤ v1) (h1b : v1 ≤ 7) (hQ : ∀ (r : Int) (ψ : hf_F), Inv ψ → Fr [195, 193004, 193011, 193012, 193013, 193014, 193015, 193016, 193017, 193018] φ ψ → 0 ≤ r ∧ r ≤ 1 ∧ (φ 192 4 ≤ ψ 192 4 ∧ (r = 1 → ψ 192 11 = 3 → φ 192 4 < ψ 192 4) ∧ ψ 195 0 = φ 195 0) → F_RideLawsModel_puts_192_k2_2_k3_30 φ v1 = (r, ψ) → Q (some (0, r)) ψ x) : hw sc (d + 3) 186 0 [(0, (2, 192)), (1, (0, v1)), (2, (0, 2)), (3, (0, 30))] [] φ x Q := by
  apply sf_186_192_k2_2_k3_30_v
  have e0 : F_RideLawsModel_puts_192_k2_2_k3_30 φ v1 = _ := rfl
  refine sf_187_192 (φ := φ) hI (by omega) (by omega) (by omega) (by omega) (fun z1 ψ1 hI1 hF1 hp1 hE1 => ⟨rfl, z1, rfl, ?_⟩)
  have hG1 : Fr [195, 193004, 193011, 193012, 193013, 193014, 193015, 193016, 193017, 193018] φ ψ1 := fr_tr (fr_rf) hF1 (by decide)
  have f1 := iv_at (a := 192) (k := 30) (lo := 0) (u := 40) hI (by decide +kernel)
  have f2 := iv_at (a := 192) (k := 4) (lo := 0) (u := 940) hI (by decide +kernel)
  have f3 := iv_at (a := 192) (k := 11) (lo := 0) (u := 4) hI1 (by decide +kernel)
  have f4 := iv_at (a := 192) (k := 18) (lo := (-1 : Int)) (u := 999) hI1 (by decide +kernel)
  have f5 := iv_at (a := 192) (k := 30) (lo := 0) (u := 40) hI1 (by decide +kernel)
  have f6 : ψ1 192 30 = φ 192 30 := (fr_fd hF1 192 30 (by decide))
  have f7 := iv_at (a := 192) (k := 4) (lo := 0) (u := 940) hI1 (by decide +kernel)
  have e1 := e0.trans (bnd_e hE1)
  refine ⟨by unfold hi; omega, fun q2 => ?_, fun q2 => ?_⟩
  · skip
    have e2a := e1.trans (if_pos q2)
    refine ⟨by omega, by omega, ?_⟩
    have i8 : Inv (hf_up ψ1 195 ((v1).toNat) (ψ1 192 18)) := iv_steps hI1 (by omega) (by omega) (by omega) (by omega)
    have r8 : Fr [195, 193004, 193011, 193012, 193013, 193014, 193015, 193016, 193017, 193018] φ (hf_up ψ1 195 ((v1).toNat) (ψ1 192 18)) := fr_upa hG1 (by decide)
    have f9 := iv_at (a := 195) (k := 0) (lo := 0) (u := 3) hI (by decide +kernel)
    have f10 : (hf_up ψ1 195 ((v1).toNat) (ψ1 192 18)) 192 11 = ψ1 192 11 := (hf_up_ne (fun q => absurd q.1 (by decide)))
    have f11 : (hf_up ψ1 195 ((v1).toNat) (ψ1 192 18)) 192 4 = ψ1 192 4 := (hf_up_ne (fun q => absurd q.1 (by decide)))
    have f12 : (hf_up ψ1 195 ((v1).toNat) (ψ1 192 18)) 195 0 = ψ1 195 0 := (hf_up_ne (fun q => absurd q.2 (by omega)))
    have f13 := iv_at (a := 195) (k := 0) (lo := 0) (u := 3) hI1 (by decide +kernel)
    have f14 : ψ1 195 0 = φ 195 0 := (fr_at hF1 195 (by decide) 0)
    exact hQ 1 (hf_up ψ1 195 ((v1).toNat) (ψ1 192 18)) i8 r8 ⟨by omega, by omega, by omega⟩ e2a
  · skip
    have e2b := e1.trans (if_neg q2)
    have f15 := iv_at (a := 195) (k := 0) (lo := 0) (u := 3) hI (by decide +kernel)
    have f16 := iv_at (a := 195) (k := 0) (lo := 0) (u := 3) hI1 (by decide +kernel)
    have f17 : ψ1 195 0 = φ 195 0 := (fr_at hF1 195 (by decide) 0)
    exact hQ 0 ψ1 hI1 hG1 ⟨by omega, by omega, by omega⟩ e2b
theorem sf_186_192_k2_1_k3_9_v {sc : List Int} {d : Nat} {φ : hf_F} {x : Nat} {Q : Option jm_V → hf_F → Nat → Prop} {v1 : Int}
    (H : hw sc (d + 2) 187 0 [(0, (2, 192)), (1, (0, 1)), (2, (0, 9))] [] φ x (fun r ψ1 y1 => y1 = x ∧ (∃ z1 : Int, r = some (0, z1) ∧ (hi z1 ∧ (¬ z1 = 0 → 0 ≤ v1 ∧ v1 < 99 ∧ (Q (some (0, 1)) (hf_up ψ1 195 ((v1).toNat) (ψ1 192 18)) x)) ∧ (¬ (¬ z1 = 0) → Q (some (0, 0)) ψ1 x))))) :
    hw sc (d + 3) 186 0 [(0, (2, 192)), (1, (0, v1)), (2, (0, 1)), (3, (0, 9))] [] φ x Q := by
  refine hw_ald (b := 0) (e := 0) (by decide +kernel) rfl (by decide) ?_
  refine hw_ld (b := 2) (e := 0) (by decide +kernel) rfl ?_
  refine hw_ld (b := 3) (e := 0) (by decide +kernel) rfl ?_
  refine hr_call (a0 := 22) (b := 187) (e := 3) (nl := 3) (As := [(0, 1), (0, 9)]) (R := []) 192 rfl (by decide +kernel) rfl rfl (Nat.le_of_ble_eq_true rfl) (Nat.le_of_ble_eq_true rfl) ?_
  refine hw_mono H ?_
  rintro r ψ1 y1 ⟨hyx, z1, hr, H⟩
  subst hyx
  subst hr
  refine ⟨hne0, ?_⟩
  show hw sc (d + 3) 186 6 [(0, (2, 192)), (1, (0, v1)), (2, (0, 1)), (3, (0, 9))] [(0, z1)] ψ1 y1 Q
  obtain ⟨hz2, ht2, hf2⟩ := H
  refine hw_if (a0 := 0) (b := 1) (e := 11) (by decide +kernel) hz2 (fun q => ?_) (fun q => ?_)
  · have H := ht2 q
    refine hw_ald (b := 0) (e := 0) (by decide +kernel) rfl (by decide) ?_
    refine hr_gr (w := 195) (b := 12) (e := 7) 192 rfl (by decide +kernel) ?_
    refine hw_ld (b := 1) (e := 0) (by decide +kernel) rfl ?_
    refine hw_ald (b := 0) (e := 0) (by decide +kernel) rfl (by decide) ?_
    refine hr_gi (w := ψ1 192 18) (b := 12) (e := 18) 192 rfl (by decide +kernel) rfl ?_
    obtain ⟨hl3, hu3, H⟩ := H
    refine hr_as (a0 := 0) (e := 4) (n := 99) 195 rfl (by decide +kernel) hl3 hu3 ?_
    refine hw_k (c := 1) (b := 0) (e := 1) (by decide +kernel) ?_
    exact hw_ret (a0 := 0) (e := 1) (by decide +kernel) (Or.inr ⟨rfl, by decide⟩) H
  · have H := hf2 q
    refine hw_k (c := 0) (b := 0) (e := 1) (by decide +kernel) ?_
    exact hw_ret (a0 := 0) (e := 1) (by decide +kernel) (Or.inr ⟨rfl, by decide⟩) H
theorem sf_186_192_k2_1_k3_9 {sc : List Int} {d : Nat} {φ : hf_F} {x : Nat} {Q : Option jm_V → hf_F → Nat → Prop} {v1 : Int} (hI : Inv φ) (h1a : 8 ≤ v1) (h1b : v1 ≤ 10) (hQ : ∀ (r : Int) (ψ : hf_F), Inv ψ → Fr [195, 193004, 193011, 193012, 193013, 193014, 193015, 193016, 193017, 193018] φ ψ → 0 ≤ r ∧ r ≤ 1 ∧ (φ 192 4 ≤ ψ 192 4 ∧ (r = 1 → ψ 192 11 = 3 → φ 192 4 < ψ 192 4) ∧ ψ 195 0 = φ 195 0) → F_RideLawsModel_puts_192_k2_1_k3_9 φ v1 = (r, ψ) → Q (some (0, r)) ψ x) : hw sc (d + 3) 186 0 [(0, (2, 192)), (1, (0, v1)), (2, (0, 1)), (3, (0, 9))] [] φ x Q := by
  apply sf_186_192_k2_1_k3_9_v
  have e0 : F_RideLawsModel_puts_192_k2_1_k3_9 φ v1 = _ := rfl
  refine sf_187_192 (φ := φ) hI (by omega) (by omega) (by omega) (by omega) (fun z1 ψ1 hI1 hF1 hp1 hE1 => ⟨rfl, z1, rfl, ?_⟩)
  have hG1 : Fr [195, 193004, 193011, 193012, 193013, 193014, 193015, 193016, 193017, 193018] φ ψ1 := fr_tr (fr_rf) hF1 (by decide)
  have f1 := iv_at (a := 192) (k := 30) (lo := 0) (u := 40) hI (by decide +kernel)
  have f2 := iv_at (a := 192) (k := 4) (lo := 0) (u := 940) hI (by decide +kernel)
  have f3 := iv_at (a := 192) (k := 11) (lo := 0) (u := 4) hI1 (by decide +kernel)
  have f4 := iv_at (a := 192) (k := 18) (lo := (-1 : Int)) (u := 999) hI1 (by decide +kernel)
  have f5 := iv_at (a := 192) (k := 30) (lo := 0) (u := 40) hI1 (by decide +kernel)
  have f6 : ψ1 192 30 = φ 192 30 := (fr_fd hF1 192 30 (by decide))
  have f7 := iv_at (a := 192) (k := 4) (lo := 0) (u := 940) hI1 (by decide +kernel)
  have e1 := e0.trans (bnd_e hE1)
  refine ⟨by unfold hi; omega, fun q2 => ?_, fun q2 => ?_⟩
  · skip
    have e2a := e1.trans (if_pos q2)
    refine ⟨by omega, by omega, ?_⟩
    have i8 : Inv (hf_up ψ1 195 ((v1).toNat) (ψ1 192 18)) := iv_upI (s := 8) (t := 11) (lo := 0) (u := 9) (z := v1) hI1 (by decide +kernel) (by omega) (by omega) (by omega) (by omega)
    have r8 : Fr [195, 193004, 193011, 193012, 193013, 193014, 193015, 193016, 193017, 193018] φ (hf_up ψ1 195 ((v1).toNat) (ψ1 192 18)) := fr_upa hG1 (by decide)
    have f9 := iv_at (a := 195) (k := 0) (lo := 0) (u := 3) hI (by decide +kernel)
    have f10 : (hf_up ψ1 195 ((v1).toNat) (ψ1 192 18)) 192 11 = ψ1 192 11 := (hf_up_ne (fun q => absurd q.1 (by decide)))
    have f11 : (hf_up ψ1 195 ((v1).toNat) (ψ1 192 18)) 192 4 = ψ1 192 4 := (hf_up_ne (fun q => absurd q.1 (by decide)))
    have f12 : (hf_up ψ1 195 ((v1).toNat) (ψ1 192 18)) 195 0 = ψ1 195 0 := (hf_up_ne (fun q => absurd q.2 (by omega)))
    have f13 := iv_at (a := 195) (k := 0) (lo := 0) (u := 3) hI1 (by decide +kernel)
    have f14 : ψ1 195 0 = φ 195 0 := (fr_at hF1 195 (by decide) 0)
    exact hQ 1 (hf_up ψ1 195 ((v1).toNat) (ψ1 192 18)) i8 r8 ⟨by omega, by omega, by omega⟩ e2a
  · skip
    have e2b := e1.trans (if_neg q2)
    have f15 := iv_at (a := 195) (k := 0) (lo := 0) (u := 3) hI (by decide +kernel)
    have f16 := iv_at (a := 195) (k := 0) (lo := 0) (u := 3) hI1 (by decide +kernel)
    have f17 : ψ1 195 0 = φ 195 0 := (fr_at hF1 195 (by decide) 0)
    exact hQ 0 ψ1 hI1 hG1 ⟨by omega, by omega, by omega⟩ e2b
theorem sf_181_192_v {sc : List Int} {d : Nat} {φ : hf_F} {x : Nat} {Q : Option jm_V → hf_F → Nat → Prop} 
    (H : hi (φ 195 0) ∧ hi 3 ∧ (¬ (φ 195 0) = 3 → hw sc (d + 3) 175 0 [(0, (2, 192))] [] φ x (fun r ψ2 y2 => y2 = x ∧ (r = none ∧ (hw sc (d + 3) 183 0 [(0, (2, 192)), (1, (0, 33 + (φ 195 0)))] [] ψ2 x (fun r ψ3 y3 => y3 = x ∧ (∃ z3 : Int, r = some (0, z3) ∧ (hi z3 ∧ (z3 = 0 → Q (some (0, 0)) ψ3 x) ∧ (¬ z3 = 0 → hw sc (d + 3) 186 0 [(0, (2, 192)), (1, (0, 5 + (φ 195 0))), (2, (0, 2)), (3, (0, 30))] [] ψ3 x (fun r ψ6 y6 => y6 = x ∧ (∃ z6 : Int, r = some (0, z6) ∧ (hi z6 ∧ (z6 = 0 → Q (some (0, 0)) ψ6 x) ∧ (¬ z6 = 0 → hw sc (d + 3) 186 0 [(0, (2, 192)), (1, (0, 8 + (φ 195 0))), (2, (0, 1)), (3, (0, 9))] [] ψ6 x (fun r ψ9 y9 => y9 = x ∧ (∃ z9 : Int, r = some (0, z9) ∧ (hi z9 ∧ (¬ z9 = 0 → Q (some (0, 1)) (hf_up ψ9 195 0 ((ψ9 195 0) + 1)) x) ∧ (¬ (¬ z9 = 0) → Q (some (0, 0)) ψ9 x)))))))))))))))) ∧ (¬ (¬ (φ 195 0) = 3) → hw sc (d + 3) 182 0 [(0, (2, 192)), (1, (0, 4))] [] φ x (fun r ψ13 y13 => y13 = x ∧ (∃ z13 : Int, r = some (0, z13) ∧ ((z13 = 0 ∨ z13 = 1) ∧ Q (some (0, z13)) ψ13 x))))) :
    hw sc (d + 4) 181 0 [(0, (2, 192))] [] φ x Q := by
  refine hw_ald (b := 0) (e := 0) (by decide +kernel) rfl (by decide) ?_
  refine hr_gr (w := 195) (b := 12) (e := 7) 192 rfl (by decide +kernel) ?_
  refine hw_k (c := 0) (b := 0) (e := 1) (by decide +kernel) ?_
  refine hr_al (b := 0) (a0 := 0) (e := 0) (n := 99) (w := φ 195 0) 195 rfl (by decide +kernel) (by decide) (by decide) (by decide) rfl ?_
  refine hw_st (L' := (jm_st1 [(0, (2, 192))] 1 (0, φ 195 0))) (b := 1) (e := 0) (by decide +kernel) rfl ?_
  refine hw_ld (b := 1) (e := 0) (by decide +kernel) get_st1e ?_
  refine hw_k (c := 3) (b := 0) (e := 1) (by decide +kernel) ?_
  obtain ⟨hz1, hy1, ht1, hf1⟩ := H
  refine hw_if2 (a0 := 0) (b := 1) (e := 18) (by decide +kernel) hz1 hy1 (fun q => ?_) (fun q => ?_)
  · have H := ht1 q
    refine hw_ald (b := 0) (e := 0) (by decide +kernel) (get_st1 rfl (by decide) (fun q => tg2 q.2)) (by decide) ?_
    refine hr_call (a0 := 22) (b := 175) (e := 1) (nl := 4) (As := []) (R := []) 192 rfl (by decide +kernel) rfl rfl (Nat.le_of_ble_eq_true rfl) (Nat.le_of_ble_eq_true rfl) ?_
    refine hw_mono H ?_
    rintro r ψ2 y2 ⟨hyx, hr, H⟩
    subst hyx
    subst hr
    refine ⟨hnen, ?_⟩
    show hw sc (d + 4) 181 22 (jm_st1 [(0, (2, 192))] 1 (0, φ 195 0)) [] ψ2 y2 Q
    refine hw_ald (b := 0) (e := 0) (by decide +kernel) (get_st1 rfl (by decide) (fun q => tg2 q.2)) (by decide) ?_
    refine hw_k (c := 33) (b := 1) (e := 2) (by decide +kernel) ?_
    refine hw_ld (b := 1) (e := 0) (by decide +kernel) get_st1e ?_
    refine hw_bin (w := 33 + (φ 195 0)) (a0 := 0) (b := 0) (e := 0) (by decide +kernel) rfl ?_
    refine hr_call (a0 := 22) (b := 183) (e := 2) (nl := 2) (As := [(0, 33 + (φ 195 0))]) (R := []) 192 rfl (by decide +kernel) rfl rfl (Nat.le_of_ble_eq_true rfl) (Nat.le_of_ble_eq_true rfl) ?_
    refine hw_mono H ?_
    rintro r ψ3 y3 ⟨hyx, z3, hr, H⟩
    subst hyx
    subst hr
    refine ⟨hne0, ?_⟩
    show hw sc (d + 4) 181 30 (jm_st1 [(0, (2, 192))] 1 (0, φ 195 0)) [(0, z3)] ψ3 y3 Q
    obtain ⟨hz4, ht4, hf4⟩ := H
    refine hw_if (a0 := 0) (b := 0) (e := 60) (by decide +kernel) hz4 (fun q => ?_) (fun q => ?_)
    · have H := ht4 q
      refine hw_k (c := 0) (b := 0) (e := 1) (by decide +kernel) ?_
      exact hw_ret (a0 := 0) (e := 1) (by decide +kernel) (Or.inr ⟨rfl, by decide⟩) H
    · have H := hf4 q
      refine hw_ald (b := 0) (e := 0) (by decide +kernel) (get_st1 rfl (by decide) (fun q => tg2 q.2)) (by decide) ?_
      refine hw_k (c := 5) (b := 0) (e := 1) (by decide +kernel) ?_
      refine hw_ld (b := 1) (e := 0) (by decide +kernel) get_st1e ?_
      refine hw_bin (w := 5 + (φ 195 0)) (a0 := 0) (b := 0) (e := 0) (by decide +kernel) rfl ?_
      refine hw_k (c := 2) (b := 0) (e := 1) (by decide +kernel) ?_
      refine hw_k (c := 30) (b := 1) (e := 2) (by decide +kernel) ?_
      refine hr_call (a0 := 22) (b := 186) (e := 4) (nl := 4) (As := [(0, 5 + (φ 195 0)), (0, 2), (0, 30)]) (R := []) 192 rfl (by decide +kernel) rfl rfl (Nat.le_of_ble_eq_true rfl) (Nat.le_of_ble_eq_true rfl) ?_
      refine hw_mono H ?_
      rintro r ψ6 y6 ⟨hyx, z6, hr, H⟩
      subst hyx
      subst hr
      refine ⟨hne0, ?_⟩
      show hw sc (d + 4) 181 43 (jm_st1 [(0, (2, 192))] 1 (0, φ 195 0)) [(0, z6)] ψ6 y6 Q
      obtain ⟨hz7, ht7, hf7⟩ := H
      refine hw_if (a0 := 0) (b := 0) (e := 60) (by decide +kernel) hz7 (fun q => ?_) (fun q => ?_)
      · have H := ht7 q
        refine hw_k (c := 0) (b := 0) (e := 1) (by decide +kernel) ?_
        exact hw_ret (a0 := 0) (e := 1) (by decide +kernel) (Or.inr ⟨rfl, by decide⟩) H
      · have H := hf7 q
        refine hw_ald (b := 0) (e := 0) (by decide +kernel) (get_st1 rfl (by decide) (fun q => tg2 q.2)) (by decide) ?_
        refine hw_k (c := 8) (b := 1) (e := 2) (by decide +kernel) ?_
        refine hw_ld (b := 1) (e := 0) (by decide +kernel) get_st1e ?_
        refine hw_bin (w := 8 + (φ 195 0)) (a0 := 0) (b := 0) (e := 0) (by decide +kernel) rfl ?_
        refine hw_k (c := 1) (b := 0) (e := 1) (by decide +kernel) ?_
        refine hw_k (c := 9) (b := 1) (e := 2) (by decide +kernel) ?_
        refine hr_call (a0 := 22) (b := 186) (e := 4) (nl := 4) (As := [(0, 8 + (φ 195 0)), (0, 1), (0, 9)]) (R := []) 192 rfl (by decide +kernel) rfl rfl (Nat.le_of_ble_eq_true rfl) (Nat.le_of_ble_eq_true rfl) ?_
        refine hw_mono H ?_
        rintro r ψ9 y9 ⟨hyx, z9, hr, H⟩
        subst hyx
        subst hr
        refine ⟨hne0, ?_⟩
        show hw sc (d + 4) 181 57 (jm_st1 [(0, (2, 192))] 1 (0, φ 195 0)) [(0, z9)] ψ9 y9 Q
        obtain ⟨hz10, ht10, hf10⟩ := H
        refine hw_if (a0 := 0) (b := 1) (e := 62) (by decide +kernel) hz10 (fun q => ?_) (fun q => ?_)
        · have H := ht10 q
          refine hw_ald (b := 0) (e := 0) (by decide +kernel) (get_st1 rfl (by decide) (fun q => tg2 q.2)) (by decide) ?_
          refine hr_gr (w := 195) (b := 12) (e := 7) 192 rfl (by decide +kernel) ?_
          refine hw_k (c := 0) (b := 0) (e := 1) (by decide +kernel) ?_
          refine hw_dup2 (a0 := 0) (e := 0) (by decide +kernel) (by decide) (by decide) ?_
          refine hr_al (b := 0) (a0 := 0) (e := 0) (n := 99) (w := ψ9 195 0) 195 rfl (by decide +kernel) (by decide) (by decide) (by decide) rfl ?_
          refine hw_k (c := 1) (b := 0) (e := 1) (by decide +kernel) ?_
          refine hw_bin (w := (ψ9 195 0) + 1) (a0 := 0) (b := 0) (e := 0) (by decide +kernel) rfl ?_
          refine hr_as (a0 := 0) (e := 4) (n := 99) 195 rfl (by decide +kernel) (by decide) (by decide) ?_
          refine hw_k (c := 1) (b := 0) (e := 1) (by decide +kernel) ?_
          exact hw_ret (a0 := 0) (e := 1) (by decide +kernel) (Or.inr ⟨rfl, by decide⟩) H
        · have H := hf10 q
          refine hw_k (c := 0) (b := 0) (e := 1) (by decide +kernel) ?_
          exact hw_ret (a0 := 0) (e := 1) (by decide +kernel) (Or.inr ⟨rfl, by decide⟩) H
  · have H := hf1 q
    refine hw_ald (b := 0) (e := 0) (by decide +kernel) (get_st1 rfl (by decide) (fun q => tg2 q.2)) (by decide) ?_
    refine hw_k (c := 4) (b := 0) (e := 1) (by decide +kernel) ?_
    refine hr_call (a0 := 22) (b := 182) (e := 2) (nl := 2) (As := [(0, 4)]) (R := []) 192 rfl (by decide +kernel) rfl rfl (Nat.le_of_ble_eq_true rfl) (Nat.le_of_ble_eq_true rfl) ?_
    refine hw_mono H ?_
    rintro r ψ13 y13 ⟨hyx, z13, hr, H⟩
    subst hyx
    subst hr
    refine ⟨hne0, ?_⟩
    show hw sc (d + 4) 181 17 (jm_st1 [(0, (2, 192))] 1 (0, φ 195 0)) [(0, z13)] ψ13 y13 Q
    exact hw_ret (a0 := 0) (e := 1) (by decide +kernel) (Or.inr ⟨rfl, H.1⟩) H.2
theorem sf_181_192 {sc : List Int} {d : Nat} {φ : hf_F} {x : Nat} {Q : Option jm_V → hf_F → Nat → Prop}  (hI : Inv φ)  (hQ : ∀ (r : Int) (ψ : hf_F), Inv ψ → Fr [195, 197, 193004, 193011, 193012, 193013, 193014, 193015, 193016, 193017, 193018] φ ψ → 0 ≤ r ∧ r ≤ 1 ∧ (φ 192 4 ≤ ψ 192 4 ∧ (r = 1 → ψ 192 11 = 3 → φ 192 4 < ψ 192 4)) → F_RideLawsModel_readRing_192 φ = (r, ψ) → Q (some (0, r)) ψ x) : hw sc (d + 4) 181 0 [(0, (2, 192))] [] φ x Q := by
  apply sf_181_192_v
  have e0 : F_RideLawsModel_readRing_192 φ = _ := rfl
  have f1 := iv_at (a := 195) (k := 0) (lo := 0) (u := 3) hI (by decide +kernel)
  refine ⟨by unfold hi; omega, by unfold hi; omega, fun q1 => ?_, fun q1 => ?_⟩
  · skip
    have e1a := e0.trans (if_pos q1)
    refine sf_175_192 (φ := φ) hI  (fun ψ2 hI2 hF2 hV2 hE2 => ⟨rfl, rfl, ?_⟩)
    have hG2 : Fr [195, 197, 193004, 193011, 193012, 193013, 193014, 193015, 193016, 193017, 193018] φ ψ2 := fr_tr (fr_rf) hF2 (by decide)
    have f2 := iv_at (a := 192) (k := 18) (lo := (-1 : Int)) (u := 999) hI (by decide +kernel)
    have f3 := iv_at (a := 192) (k := 30) (lo := 0) (u := 40) hI (by decide +kernel)
    have f4 := iv_at (a := 192) (k := 34) (lo := 0) (u := 45) hI (by decide +kernel)
    have f5 := iv_at (a := 192) (k := 35) (lo := 0) (u := 20) hI (by decide +kernel)
    have f6 := iv_at (a := 192) (k := 36) (lo := 0) (u := 45) hI (by decide +kernel)
    have f7 := iv_at (a := 192) (k := 38) (lo := 0) (u := 1) hI (by decide +kernel)
    have f8 := iv_at (a := 192) (k := 4) (lo := 0) (u := 940) hI (by decide +kernel)
    have f9 := iv_at (a := 192) (k := 11) (lo := 0) (u := 4) hI2 (by decide +kernel)
    have f10 := iv_at (a := 192) (k := 18) (lo := (-1 : Int)) (u := 999) hI2 (by decide +kernel)
    have f11 : ψ2 192 18 = φ 192 18 := (fr_fd hF2 192 18 (by decide))
    have f12 := iv_at (a := 192) (k := 30) (lo := 0) (u := 40) hI2 (by decide +kernel)
    have f13 : ψ2 192 30 = φ 192 30 := (fr_fd hF2 192 30 (by decide))
    have f14 := iv_at (a := 192) (k := 34) (lo := 0) (u := 45) hI2 (by decide +kernel)
    have f15 : ψ2 192 34 = φ 192 34 := (fr_fd hF2 192 34 (by decide))
    have f16 := iv_at (a := 192) (k := 35) (lo := 0) (u := 20) hI2 (by decide +kernel)
    have f17 : ψ2 192 35 = φ 192 35 := (fr_fd hF2 192 35 (by decide))
    have f18 := iv_at (a := 192) (k := 36) (lo := 0) (u := 45) hI2 (by decide +kernel)
    have f19 : ψ2 192 36 = φ 192 36 := (fr_fd hF2 192 36 (by decide))
    have f20 := iv_at (a := 192) (k := 38) (lo := 0) (u := 1) hI2 (by decide +kernel)
    have f21 : ψ2 192 38 = φ 192 38 := (fr_fd hF2 192 38 (by decide))
    have f22 := iv_at (a := 192) (k := 4) (lo := 0) (u := 940) hI2 (by decide +kernel)
    have e2 := e1a.trans (bnv_e hE2)
    refine sf_183_192 (φ := ψ2) hI2 (by omega) (by omega) (fun z3 ψ3 hI3 hF3 hp3 hE3 => ⟨rfl, z3, rfl, ?_⟩)
    have hG3 : Fr [195, 197, 193004, 193011, 193012, 193013, 193014, 193015, 193016, 193017, 193018] φ ψ3 := fr_tr hG2 hF3 (by decide)
    have f23 := iv_at (a := 192) (k := 11) (lo := 0) (u := 4) hI3 (by decide +kernel)
    have f24 := iv_at (a := 192) (k := 4) (lo := 0) (u := 940) hI3 (by decide +kernel)
    have e3 := e2.trans (bnd_e hE3)
    refine ⟨by unfold hi; omega, fun q4 => ?_, fun q4 => ?_⟩
    · skip
      have e4a := e3.trans (if_pos q4)
      exact hQ 0 ψ3 hI3 hG3 ⟨by omega, by omega, by omega⟩ e4a
    · skip
      have e4b := e3.trans (if_neg q4)
      refine sf_186_192_k2_2_k3_30 (φ := ψ3) hI3 (by omega) (by omega) (fun z6 ψ6 hI6 hF6 hp6 hE6 => ⟨rfl, z6, rfl, ?_⟩)
      have hG6 : Fr [195, 197, 193004, 193011, 193012, 193013, 193014, 193015, 193016, 193017, 193018] φ ψ6 := fr_tr hG3 hF6 (by decide)
      have f25 := iv_at (a := 195) (k := 0) (lo := 0) (u := 3) hI3 (by decide +kernel)
      have f26 : ψ3 195 0 = ψ2 195 0 := (fr_at hF3 195 (by decide) 0)
      have f27 := iv_at (a := 195) (k := 0) (lo := 0) (u := 3) hI2 (by decide +kernel)
      have f28 : ψ2 195 0 = φ 195 0 := (fr_at hF2 195 (by decide) 0)
      have f29 := iv_at (a := 192) (k := 11) (lo := 0) (u := 4) hI6 (by decide +kernel)
      have f30 := iv_at (a := 192) (k := 4) (lo := 0) (u := 940) hI6 (by decide +kernel)
      have f31 := iv_at (a := 195) (k := 0) (lo := 0) (u := 3) hI6 (by decide +kernel)
      have e6 := e4b.trans (bnd_e hE6)
      refine ⟨by unfold hi; omega, fun q7 => ?_, fun q7 => ?_⟩
      · skip
        have e7a := e6.trans (if_pos q7)
        exact hQ 0 ψ6 hI6 hG6 ⟨by omega, by omega, by omega⟩ e7a
      · skip
        have e7b := e6.trans (if_neg q7)
        refine sf_186_192_k2_1_k3_9 (φ := ψ6) hI6 (by omega) (by omega) (fun z9 ψ9 hI9 hF9 hp9 hE9 => ⟨rfl, z9, rfl, ?_⟩)
        have hG9 : Fr [195, 197, 193004, 193011, 193012, 193013, 193014, 193015, 193016, 193017, 193018] φ ψ9 := fr_tr hG6 hF9 (by decide)
        have f32 := iv_at (a := 192) (k := 11) (lo := 0) (u := 4) hI9 (by decide +kernel)
        have f33 := iv_at (a := 192) (k := 4) (lo := 0) (u := 940) hI9 (by decide +kernel)
        have f34 := iv_at (a := 195) (k := 0) (lo := 0) (u := 3) hI9 (by decide +kernel)
        have e9 := e7b.trans (bnd_e hE9)
        refine ⟨by unfold hi; omega, fun q10 => ?_, fun q10 => ?_⟩
        · skip
          have e10a := e9.trans (if_pos q10)
          have i35 : Inv (hf_up ψ9 195 0 ((ψ9 195 0) + 1)) := iv_up (lo := 0) (u := 3) hI9 (by decide +kernel) (by omega) (by omega)
          have r35 : Fr [195, 197, 193004, 193011, 193012, 193013, 193014, 193015, 193016, 193017, 193018] φ (hf_up ψ9 195 0 ((ψ9 195 0) + 1)) := fr_upa hG9 (by decide)
          have f36 : (hf_up ψ9 195 0 ((ψ9 195 0) + 1)) 192 11 = ψ9 192 11 := (hf_up_ne (fun q => absurd q.1 (by decide)))
          have f37 : (hf_up ψ9 195 0 ((ψ9 195 0) + 1)) 192 4 = ψ9 192 4 := (hf_up_ne (fun q => absurd q.1 (by decide)))
          exact hQ 1 (hf_up ψ9 195 0 ((ψ9 195 0) + 1)) i35 r35 ⟨by omega, by omega, by omega⟩ e10a
        · skip
          have e10b := e9.trans (if_neg q10)
          exact hQ 0 ψ9 hI9 hG9 ⟨by omega, by omega, by omega⟩ e10b
  · skip
    have e1b := e0.trans (if_neg q1)
    refine sf_182_192 (φ := φ) hI (by omega) (by omega) (fun z13 ψ13 hI13 hF13 hp13 hE13 => ⟨rfl, z13, rfl, ?_⟩)
    have hG13 : Fr [195, 197, 193004, 193011, 193012, 193013, 193014, 193015, 193016, 193017, 193018] φ ψ13 := fr_tr (fr_rf) hF13 (by decide)
    have f38 := iv_at (a := 192) (k := 30) (lo := 0) (u := 40) hI (by decide +kernel)
    have f39 := iv_at (a := 192) (k := 4) (lo := 0) (u := 940) hI (by decide +kernel)
    have f40 := iv_at (a := 192) (k := 30) (lo := 0) (u := 40) hI13 (by decide +kernel)
    have f41 : ψ13 192 30 = φ 192 30 := (fr_fd hF13 192 30 (by decide))
    have f42 := iv_at (a := 192) (k := 4) (lo := 0) (u := 940) hI13 (by decide +kernel)
    have f43 : ψ13 192 4 = φ 192 4 := (fr_fd hF13 192 4 (by decide))
    have e13 := e1b.trans (bnd_e hE13)
    have f44 := iv_at (a := 192) (k := 11) (lo := 0) (u := 4) hI13 (by decide +kernel)
    have f45 : ψ13 192 11 = φ 192 11 := (fr_fd hF13 192 11 (by decide))
    have f46 := iv_at (a := 192) (k := 11) (lo := 0) (u := 4) hI (by decide +kernel)
    refine ⟨by omega, ?_⟩
    exact hQ z13 ψ13 hI13 hG13 ⟨by omega, by omega, by omega⟩ e13
theorem sf_189_192_v93 {sc : List Int} {d : Nat} {φ : hf_F} {x : Nat} {Q : Option jm_V → hf_F → Nat → Prop} {L : jm_L} {l1 l2 l3 : Int} (g0 : jm_get L 0 = some (2, 192)) (g1 : jm_get L 1 = some (0, l1)) (g2 : jm_get L 2 = some (0, l2)) (g3 : jm_get L 3 = some (0, l3))
    (H : hi l3 ∧ hi l1 ∧ (l1 ≤ l3 → 0 ≤ (11 + l1) ∧ (11 + l1) < 99 ∧ (0 ≤ (19 + l1) ∧ (19 + l1) < 99 ∧ (hw sc (d + 2) 175 0 [(0, (2, 192))] [] (hf_up (hf_up φ 195 ((11 + l1).toNat) l2) 195 ((19 + l1).toNat) (φ 192 14)) x (fun r ψ4 y4 => y4 = x ∧ (r = none ∧ (Q (some (0, 1)) (hf_up ψ4 195 1 ((ψ4 195 1) + 1)) x)))))) ∧ (¬ l1 ≤ l3 → 0 ≤ (11 + l3) ∧ (11 + l3) < 99 ∧ (hi (φ 195 ((11 + l3).toNat)) ∧ hi l2 ∧ (¬ (φ 195 ((11 + l3).toNat)) = l2 → hw sc (d + 3) 189 93 (jm_st1 L 3 (0, l3 + 1)) [] φ x Q) ∧ (¬ (¬ (φ 195 ((11 + l3).toNat)) = l2) → 0 ≤ (19 + l3) ∧ (19 + l3) < 99 ∧ (hi (φ 195 ((19 + l3).toNat)) ∧ hi (φ 192 14) ∧ (¬ (φ 195 ((19 + l3).toNat)) = (φ 192 14) → hw sc (d + 3) 189 93 (jm_st1 L 3 (0, l3 + 1)) [] φ x Q) ∧ (¬ (¬ (φ 195 ((19 + l3).toNat)) = (φ 192 14)) → hw sc (d + 2) 182 0 [(0, (2, 192)), (1, (0, 3))] [] φ x (fun r ψ10 y10 => y10 = x ∧ (∃ z10 : Int, r = some (0, z10) ∧ ((z10 = 0 ∨ z10 = 1) ∧ Q (some (0, z10)) ψ10 x))))))))) :
    hw sc (d + 3) 189 93 L [] φ x Q := by
  refine hw_ld (b := 3) (e := 0) (by decide +kernel) g3 ?_
  refine hw_ld (b := 1) (e := 0) (by decide +kernel) g1 ?_
  obtain ⟨hz1, hy1, ht1, hf1⟩ := H
  refine hw_if2 (a0 := 0) (b := 3) (e := 139) (by decide +kernel) hz1 hy1 (fun q => ?_) (fun q => ?_)
  · have H := ht1 q
    refine hw_ald (b := 0) (e := 0) (by decide +kernel) g0 (by decide) ?_
    refine hr_gr (w := 195) (b := 12) (e := 7) 192 rfl (by decide +kernel) ?_
    refine hw_k (c := 11) (b := 1) (e := 2) (by decide +kernel) ?_
    refine hw_ld (b := 1) (e := 0) (by decide +kernel) g1 ?_
    refine hw_bin (w := 11 + l1) (a0 := 0) (b := 0) (e := 0) (by decide +kernel) rfl ?_
    refine hw_ld (b := 2) (e := 0) (by decide +kernel) g2 ?_
    obtain ⟨hl2, hu2, H⟩ := H
    refine hr_as (a0 := 0) (e := 4) (n := 99) 195 rfl (by decide +kernel) hl2 hu2 ?_
    refine hw_ald (b := 0) (e := 0) (by decide +kernel) g0 (by decide) ?_
    refine hr_gr (w := 195) (b := 12) (e := 7) 192 rfl (by decide +kernel) ?_
    refine hw_k (c := 19) (b := 1) (e := 2) (by decide +kernel) ?_
    refine hw_ld (b := 1) (e := 0) (by decide +kernel) g1 ?_
    refine hw_bin (w := 19 + l1) (a0 := 0) (b := 0) (e := 0) (by decide +kernel) rfl ?_
    refine hw_ald (b := 0) (e := 0) (by decide +kernel) g0 (by decide) ?_
    refine hr_gi (w := φ 192 14) (b := 12) (e := 14) 192 rfl (by decide +kernel) (hf_up_ne (fun q => absurd q.1 (by decide))) ?_
    obtain ⟨hl3, hu3, H⟩ := H
    refine hr_as (a0 := 0) (e := 4) (n := 99) 195 rfl (by decide +kernel) hl3 hu3 ?_
    refine hw_ald (b := 0) (e := 0) (by decide +kernel) g0 (by decide) ?_
    refine hr_call (a0 := 22) (b := 175) (e := 1) (nl := 4) (As := []) (R := []) 192 rfl (by decide +kernel) rfl rfl (Nat.le_of_ble_eq_true rfl) (Nat.le_of_ble_eq_true rfl) ?_
    refine hw_mono H ?_
    rintro r ψ4 y4 ⟨hyx, hr, H⟩
    subst hyx
    subst hr
    refine ⟨hnen, ?_⟩
    show hw sc (d + 3) 189 166 L [] ψ4 y4 Q
    refine hw_ald (b := 0) (e := 0) (by decide +kernel) g0 (by decide) ?_
    refine hr_gr (w := 195) (b := 12) (e := 7) 192 rfl (by decide +kernel) ?_
    refine hw_k (c := 1) (b := 0) (e := 1) (by decide +kernel) ?_
    refine hw_dup2 (a0 := 0) (e := 0) (by decide +kernel) (by decide) (by decide) ?_
    refine hr_al (b := 0) (a0 := 0) (e := 0) (n := 99) (w := ψ4 195 1) 195 rfl (by decide +kernel) (by decide) (by decide) (by decide) rfl ?_
    refine hw_k (c := 1) (b := 0) (e := 1) (by decide +kernel) ?_
    refine hw_bin (w := (ψ4 195 1) + 1) (a0 := 0) (b := 0) (e := 0) (by decide +kernel) rfl ?_
    refine hr_as (a0 := 0) (e := 4) (n := 99) 195 rfl (by decide +kernel) (by decide) (by decide) ?_
    refine hw_k (c := 1) (b := 0) (e := 1) (by decide +kernel) ?_
    exact hw_ret (a0 := 0) (e := 1) (by decide +kernel) (Or.inr ⟨rfl, by decide⟩) H
  · have H := hf1 q
    refine hw_ald (b := 0) (e := 0) (by decide +kernel) g0 (by decide) ?_
    refine hr_gr (w := 195) (b := 12) (e := 7) 192 rfl (by decide +kernel) ?_
    refine hw_k (c := 11) (b := 1) (e := 2) (by decide +kernel) ?_
    refine hw_ld (b := 3) (e := 0) (by decide +kernel) g3 ?_
    refine hw_bin (w := 11 + l3) (a0 := 0) (b := 0) (e := 0) (by decide +kernel) rfl ?_
    obtain ⟨hl6, hu6, H⟩ := H
    refine hr_al (b := 0) (a0 := 0) (e := 0) (n := 99) (w := φ 195 ((11 + l3).toNat)) 195 rfl (by decide +kernel) (by decide) hl6 hu6 rfl ?_
    refine hw_ld (b := 2) (e := 0) (by decide +kernel) g2 ?_
    obtain ⟨hz7, hy7, ht7, hf7⟩ := H
    refine hw_if2 (a0 := 0) (b := 1) (e := 133) (by decide +kernel) hz7 hy7 (fun q => ?_) (fun q => ?_)
    · have H := ht7 q
      refine hw_inc (L' := (jm_st1 L 3 (0, l3 + 1))) (c := 1) (b := 3) (e := 0) (by decide +kernel) g3 rfl ?_
      refine hw_goto (a0 := 0) (b := 0) (e := 93) (by decide +kernel) ?_
      exact H
    · have H := hf7 q
      refine hw_ald (b := 0) (e := 0) (by decide +kernel) g0 (by decide) ?_
      refine hr_gr (w := 195) (b := 12) (e := 7) 192 rfl (by decide +kernel) ?_
      refine hw_k (c := 19) (b := 1) (e := 2) (by decide +kernel) ?_
      refine hw_ld (b := 3) (e := 0) (by decide +kernel) g3 ?_
      refine hw_bin (w := 19 + l3) (a0 := 0) (b := 0) (e := 0) (by decide +kernel) rfl ?_
      obtain ⟨hl8, hu8, H⟩ := H
      refine hr_al (b := 0) (a0 := 0) (e := 0) (n := 99) (w := φ 195 ((19 + l3).toNat)) 195 rfl (by decide +kernel) (by decide) hl8 hu8 rfl ?_
      refine hw_ald (b := 0) (e := 0) (by decide +kernel) g0 (by decide) ?_
      refine hr_gi (w := φ 192 14) (b := 12) (e := 14) 192 rfl (by decide +kernel) rfl ?_
      obtain ⟨hz9, hy9, ht9, hf9⟩ := H
      refine hw_if2 (a0 := 0) (b := 1) (e := 133) (by decide +kernel) hz9 hy9 (fun q => ?_) (fun q => ?_)
      · have H := ht9 q
        refine hw_inc (L' := (jm_st1 L 3 (0, l3 + 1))) (c := 1) (b := 3) (e := 0) (by decide +kernel) g3 rfl ?_
        refine hw_goto (a0 := 0) (b := 0) (e := 93) (by decide +kernel) ?_
        exact H
      · have H := hf9 q
        refine hw_ald (b := 0) (e := 0) (by decide +kernel) g0 (by decide) ?_
        refine hw_k (c := 3) (b := 0) (e := 1) (by decide +kernel) ?_
        refine hr_call (a0 := 22) (b := 182) (e := 2) (nl := 2) (As := [(0, 3)]) (R := []) 192 rfl (by decide +kernel) rfl rfl (Nat.le_of_ble_eq_true rfl) (Nat.le_of_ble_eq_true rfl) ?_
        refine hw_mono H ?_
        rintro r ψ10 y10 ⟨hyx, z10, hr, H⟩
        subst hyx
        subst hr
        refine ⟨hne0, ?_⟩
        show hw sc (d + 3) 189 132 L [(0, z10)] ψ10 y10 Q
        exact hw_ret (a0 := 0) (e := 1) (by decide +kernel) (Or.inr ⟨rfl, H.1⟩) H.2
theorem sf_189_192_l93 {sc : List Int} {d x : Nat} {Q : Option jm_V → hf_F → Nat → Prop} : ∀ (n : Nat) (φ : hf_F) (L : jm_L) (l1 l2 l3 : Int), jm_get L 0 = some (2, 192) → jm_get L 1 = some (0, l1) → jm_get L 2 = some (0, l2) → jm_get L 3 = some (0, l3) → Inv φ → 8 - l3 < (n : Int) → 0 ≤ l1 → l1 ≤ 7 → 0 ≤ l2 → l2 ≤ 2 → 0 ≤ l3 → l3 ≤ 8 → l1 = φ 195 1 → 1 ≤ φ 195 (5 + l2).toNat → φ 192 14 < φ 195 (5 + l2).toNat → φ 195 (5 + l2).toNat ≤ 30 → (∀ (r : Int) (ψ : hf_F), Inv ψ → Fr [195, 197, 193004, 193011, 193012, 193013, 193014, 193015, 193016, 193017, 193018] φ ψ → 0 ≤ r ∧ r ≤ 1 ∧ (φ 192 4 ≤ ψ 192 4 ∧ (r = 1 → ψ 192 11 = 3 → φ 192 4 < ψ 192 4)) → F_RideLawsModel_readSeat_192_l93 n φ l1 l2 l3 = (r, ψ) → Q (some (0, r)) ψ x) → hw sc (d + 3) 189 93 L [] φ x Q := by
  intro n
  induction n with
  | zero =>
    intro φ L l1 l2 l3 g0 g1 g2 g3 hI hM b1a b1b b2a b2b b3a b3b c0 c1 c2 c3 hQ
    exfalso
    omega
  | succ n ih =>
    intro φ L l1 l2 l3 g0 g1 g2 g3 hI hM b1a b1b b2a b2b b3a b3b c0 c1 c2 c3 hQ
    refine sf_189_192_v93 g0 g1 g2 g3 ?_
    have e0 := F_RideLawsModel_readSeat_192_l93_s (φ := φ) (l1 := l1) (l2 := l2) (l3 := l3) n
    refine ⟨by unfold hi; omega, by unfold hi; omega, fun q1 => ?_, fun q1 => ?_⟩
    · skip
      have e1a := e0.trans (if_pos q1)
      refine ⟨by omega, by omega, ?_⟩
      have i1 : Inv (hf_up φ 195 ((11 + l1).toNat) l2) := iv_seat1 hI (by omega) (by omega) (by omega) (by omega)
      have r1 : Fr [195, 197, 193004, 193011, 193012, 193013, 193014, 193015, 193016, 193017, 193018] φ (hf_up φ 195 ((11 + l1).toNat) l2) := fr_upa (fr_rf) (by decide)
      have f2 := iv_at (a := 192) (k := 14) (lo := 0) (u := 8214) hI (by decide +kernel)
      refine ⟨by omega, by omega, ?_⟩
      have i3 : Inv (hf_up (hf_up φ 195 ((11 + l1).toNat) l2) 195 ((19 + l1).toNat) (φ 192 14)) := iv_upI (s := 19) (t := 27) (lo := 0) (u := 29) (z := 19 + l1) i1 (by decide +kernel) (by omega) (by omega) (by omega) (by omega)
      have r3 : Fr [195, 197, 193004, 193011, 193012, 193013, 193014, 193015, 193016, 193017, 193018] φ (hf_up (hf_up φ 195 ((11 + l1).toNat) l2) 195 ((19 + l1).toNat) (φ 192 14)) := fr_upa r1 (by decide)
      refine sf_175_192 (φ := (hf_up (hf_up φ 195 ((11 + l1).toNat) l2) 195 ((19 + l1).toNat) (φ 192 14))) i3  (fun ψ4 hI4 hF4 hV4 hE4 => ⟨rfl, rfl, ?_⟩)
      have hG4 : Fr [195, 197, 193004, 193011, 193012, 193013, 193014, 193015, 193016, 193017, 193018] φ ψ4 := fr_tr r3 hF4 (by decide)
      have f4 : (hf_up (hf_up φ 195 ((11 + l1).toNat) l2) 195 ((19 + l1).toNat) (φ 192 14)) 192 18 = φ 192 18 := ((hf_up_ne (fun q => absurd q.1 (by decide))).trans (hf_up_ne (fun q => absurd q.1 (by decide))))
      have f5 := iv_at (a := 192) (k := 18) (lo := (-1 : Int)) (u := 999) hI (by decide +kernel)
      have f6 : (hf_up (hf_up φ 195 ((11 + l1).toNat) l2) 195 ((19 + l1).toNat) (φ 192 14)) 192 30 = φ 192 30 := ((hf_up_ne (fun q => absurd q.1 (by decide))).trans (hf_up_ne (fun q => absurd q.1 (by decide))))
      have f7 := iv_at (a := 192) (k := 30) (lo := 0) (u := 40) hI (by decide +kernel)
      have f8 : (hf_up (hf_up φ 195 ((11 + l1).toNat) l2) 195 ((19 + l1).toNat) (φ 192 14)) 192 34 = φ 192 34 := ((hf_up_ne (fun q => absurd q.1 (by decide))).trans (hf_up_ne (fun q => absurd q.1 (by decide))))
      have f9 := iv_at (a := 192) (k := 34) (lo := 0) (u := 45) hI (by decide +kernel)
      have f10 : (hf_up (hf_up φ 195 ((11 + l1).toNat) l2) 195 ((19 + l1).toNat) (φ 192 14)) 192 35 = φ 192 35 := ((hf_up_ne (fun q => absurd q.1 (by decide))).trans (hf_up_ne (fun q => absurd q.1 (by decide))))
      have f11 := iv_at (a := 192) (k := 35) (lo := 0) (u := 20) hI (by decide +kernel)
      have f12 : (hf_up (hf_up φ 195 ((11 + l1).toNat) l2) 195 ((19 + l1).toNat) (φ 192 14)) 192 36 = φ 192 36 := ((hf_up_ne (fun q => absurd q.1 (by decide))).trans (hf_up_ne (fun q => absurd q.1 (by decide))))
      have f13 := iv_at (a := 192) (k := 36) (lo := 0) (u := 45) hI (by decide +kernel)
      have f14 : (hf_up (hf_up φ 195 ((11 + l1).toNat) l2) 195 ((19 + l1).toNat) (φ 192 14)) 192 38 = φ 192 38 := ((hf_up_ne (fun q => absurd q.1 (by decide))).trans (hf_up_ne (fun q => absurd q.1 (by decide))))
      have f15 := iv_at (a := 192) (k := 38) (lo := 0) (u := 1) hI (by decide +kernel)
      have f16 : (hf_up (hf_up φ 195 ((11 + l1).toNat) l2) 195 ((19 + l1).toNat) (φ 192 14)) 192 4 = φ 192 4 := ((hf_up_ne (fun q => absurd q.1 (by decide))).trans (hf_up_ne (fun q => absurd q.1 (by decide))))
      have f17 := iv_at (a := 192) (k := 4) (lo := 0) (u := 940) hI (by decide +kernel)
      have f18 := iv_at (a := 192) (k := 11) (lo := 0) (u := 4) hI4 (by decide +kernel)
      have f19 := iv_at (a := 192) (k := 18) (lo := (-1 : Int)) (u := 999) hI4 (by decide +kernel)
      have f20 : ψ4 192 18 = φ 192 18 := (fr_fd hF4 192 18 (by decide)).trans ((hf_up_ne (fun q => absurd q.1 (by decide))).trans (hf_up_ne (fun q => absurd q.1 (by decide))))
      have f21 := iv_at (a := 192) (k := 30) (lo := 0) (u := 40) hI4 (by decide +kernel)
      have f22 : ψ4 192 30 = φ 192 30 := (fr_fd hF4 192 30 (by decide)).trans ((hf_up_ne (fun q => absurd q.1 (by decide))).trans (hf_up_ne (fun q => absurd q.1 (by decide))))
      have f23 := iv_at (a := 192) (k := 34) (lo := 0) (u := 45) hI4 (by decide +kernel)
      have f24 : ψ4 192 34 = φ 192 34 := (fr_fd hF4 192 34 (by decide)).trans ((hf_up_ne (fun q => absurd q.1 (by decide))).trans (hf_up_ne (fun q => absurd q.1 (by decide))))
      have f25 := iv_at (a := 192) (k := 35) (lo := 0) (u := 20) hI4 (by decide +kernel)
      have f26 : ψ4 192 35 = φ 192 35 := (fr_fd hF4 192 35 (by decide)).trans ((hf_up_ne (fun q => absurd q.1 (by decide))).trans (hf_up_ne (fun q => absurd q.1 (by decide))))
      have f27 := iv_at (a := 192) (k := 36) (lo := 0) (u := 45) hI4 (by decide +kernel)
      have f28 : ψ4 192 36 = φ 192 36 := (fr_fd hF4 192 36 (by decide)).trans ((hf_up_ne (fun q => absurd q.1 (by decide))).trans (hf_up_ne (fun q => absurd q.1 (by decide))))
      have f29 := iv_at (a := 192) (k := 38) (lo := 0) (u := 1) hI4 (by decide +kernel)
      have f30 : ψ4 192 38 = φ 192 38 := (fr_fd hF4 192 38 (by decide)).trans ((hf_up_ne (fun q => absurd q.1 (by decide))).trans (hf_up_ne (fun q => absurd q.1 (by decide))))
      have f31 := iv_at (a := 192) (k := 4) (lo := 0) (u := 940) hI4 (by decide +kernel)
      have e4 := e1a.trans (bnv_e hE4)
      have f32 := iv_at (a := 195) (k := 1) (lo := 0) (u := 8) hI4 (by decide +kernel)
      have f33 : ψ4 195 1 = φ 195 1 := (fr_at hF4 195 (by decide) 1).trans ((hf_up_ne (fun q => absurd q.2 (by omega))).trans (hf_up_ne (fun q => absurd q.2 (by omega))))
      have f34 := iv_at (a := 195) (k := 1) (lo := 0) (u := 8) i3 (by decide +kernel)
      have f36 := iv_ar (a := 195) (s := 11) (t := 19) (lo := 0) (u := 2) (z := 11 + l1) hI4 (by decide +kernel) (by omega) (by omega)
      have f37 : ψ4 195 ((11 + l1).toNat) = l2 := (fr_at hF4 195 (by decide) ((11 + l1).toNat)).trans ((hf_up_ne (fun q => absurd q.2 (by omega))).trans hf_up_eq)
      have f38 := iv_ar (a := 195) (s := 11) (t := 19) (lo := 0) (u := 2) (z := 11 + l1) i3 (by decide +kernel) (by omega) (by omega)
      have f39 := iv_ar (a := 195) (s := 5) (t := 8) (lo := 0) (u := 30) (z := 5 + l2) hI4 (by decide +kernel) (by omega) (by omega)
      have f40 : ψ4 195 ((5 + l2).toNat) = φ 195 ((5 + l2).toNat) := (fr_at hF4 195 (by decide) ((5 + l2).toNat)).trans ((hf_up_ne (fun q => absurd q.2 (by omega))).trans (hf_up_ne (fun q => absurd q.2 (by omega))))
      have f41 := iv_ar (a := 195) (s := 5) (t := 8) (lo := 0) (u := 30) (z := 5 + l2) i3 (by decide +kernel) (by omega) (by omega)
      have i35 : Inv (hf_up ψ4 195 1 ((ψ4 195 1) + 1)) := iv_seat2 hI4 (k := l1) (g := l2) (by omega) (by omega) (by omega) (by omega) (by omega) (by omega)
      have r35 : Fr [195, 197, 193004, 193011, 193012, 193013, 193014, 193015, 193016, 193017, 193018] φ (hf_up ψ4 195 1 ((ψ4 195 1) + 1)) := fr_upa hG4 (by decide)
      have f42 : (hf_up ψ4 195 1 ((ψ4 195 1) + 1)) 192 11 = ψ4 192 11 := (hf_up_ne (fun q => absurd q.1 (by decide)))
      have f43 : (hf_up ψ4 195 1 ((ψ4 195 1) + 1)) 192 4 = ψ4 192 4 := (hf_up_ne (fun q => absurd q.1 (by decide)))
      exact hQ 1 (hf_up ψ4 195 1 ((ψ4 195 1) + 1)) i35 r35 ⟨by omega, by omega, by omega⟩ e4
    · skip
      have e1b := e0.trans (if_neg q1)
      refine ⟨by omega, by omega, ?_⟩
      have f44 := iv_ar (a := 195) (s := 11) (t := 19) (lo := 0) (u := 2) (z := 11 + l3) hI (by decide +kernel) (by omega) (by omega)
      refine ⟨by unfold hi; omega, by unfold hi; omega, fun q7 => ?_, fun q7 => ?_⟩
      · skip
        have e7a := e1b.trans (if_pos q7)
        have f45 := iv_at (a := 192) (k := 14) (lo := 0) (u := 8214) hI (by decide +kernel)
        have f46 := iv_at (a := 192) (k := 4) (lo := 0) (u := 940) hI (by decide +kernel)
        have f47 := iv_ar (a := 195) (s := 5) (t := 8) (lo := 0) (u := 30) (z := 5 + l2) hI (by decide +kernel) (by omega) (by omega)
        have f48 := iv_at (a := 195) (k := 1) (lo := 0) (u := 8) hI (by decide +kernel)
        exact ih φ (jm_st1 L 3 (0, l3 + 1)) l1 l2 (l3 + 1) (get_st1 g0 (by decide) (fun q => absurd q.1 (by decide))) (get_st1 g1 (by decide) (fun q => absurd q.1 (by decide))) (get_st1 g2 (by decide) (fun q => tg0 q.2)) get_st1e hI (by omega) (by omega) (by omega) (by omega) (by omega) (by omega) (by omega) (by omega) (by omega) (by omega) (by omega) (fun rr χ hIχ hFχ hpχ hEχ => hQ rr χ hIχ (fr_tr (fr_rf) hFχ (by decide)) (by omega) (e7a.trans hEχ))
      · skip
        have e7b := e1b.trans (if_neg q7)
        refine ⟨by omega, by omega, ?_⟩
        have f49 := iv_ar (a := 195) (s := 19) (t := 27) (lo := 0) (u := 29) (z := 19 + l3) hI (by decide +kernel) (by omega) (by omega)
        have f50 := iv_at (a := 192) (k := 14) (lo := 0) (u := 8214) hI (by decide +kernel)
        refine ⟨by unfold hi; omega, by unfold hi; omega, fun q9 => ?_, fun q9 => ?_⟩
        · skip
          have e9a := e7b.trans (if_pos q9)
          have f51 := iv_at (a := 192) (k := 4) (lo := 0) (u := 940) hI (by decide +kernel)
          have f52 := iv_ar (a := 195) (s := 5) (t := 8) (lo := 0) (u := 30) (z := 5 + l2) hI (by decide +kernel) (by omega) (by omega)
          have f53 := iv_at (a := 195) (k := 1) (lo := 0) (u := 8) hI (by decide +kernel)
          exact ih φ (jm_st1 L 3 (0, l3 + 1)) l1 l2 (l3 + 1) (get_st1 g0 (by decide) (fun q => absurd q.1 (by decide))) (get_st1 g1 (by decide) (fun q => absurd q.1 (by decide))) (get_st1 g2 (by decide) (fun q => tg0 q.2)) get_st1e hI (by omega) (by omega) (by omega) (by omega) (by omega) (by omega) (by omega) (by omega) (by omega) (by omega) (by omega) (fun rr χ hIχ hFχ hpχ hEχ => hQ rr χ hIχ (fr_tr (fr_rf) hFχ (by decide)) (by omega) (e9a.trans hEχ))
        · skip
          have e9b := e7b.trans (if_neg q9)
          refine sf_182_192 (φ := φ) hI (by omega) (by omega) (fun z10 ψ10 hI10 hF10 hp10 hE10 => ⟨rfl, z10, rfl, ?_⟩)
          have hG10 : Fr [195, 197, 193004, 193011, 193012, 193013, 193014, 193015, 193016, 193017, 193018] φ ψ10 := fr_tr (fr_rf) hF10 (by decide)
          have f54 := iv_at (a := 192) (k := 30) (lo := 0) (u := 40) hI (by decide +kernel)
          have f55 := iv_at (a := 192) (k := 4) (lo := 0) (u := 940) hI (by decide +kernel)
          have f56 := iv_at (a := 192) (k := 30) (lo := 0) (u := 40) hI10 (by decide +kernel)
          have f57 : ψ10 192 30 = φ 192 30 := (fr_fd hF10 192 30 (by decide))
          have f58 := iv_at (a := 192) (k := 4) (lo := 0) (u := 940) hI10 (by decide +kernel)
          have f59 : ψ10 192 4 = φ 192 4 := (fr_fd hF10 192 4 (by decide))
          have e10 := e9b.trans (bnd_e hE10)
          have f60 := iv_at (a := 192) (k := 11) (lo := 0) (u := 4) hI10 (by decide +kernel)
          have f61 : ψ10 192 11 = φ 192 11 := (fr_fd hF10 192 11 (by decide))
          have f62 := iv_at (a := 192) (k := 11) (lo := 0) (u := 4) hI (by decide +kernel)
          refine ⟨by omega, ?_⟩
          exact hQ z10 ψ10 hI10 hG10 ⟨by omega, by omega, by omega⟩ e10
theorem sf_189_192_v {sc : List Int} {d : Nat} {φ : hf_F} {x : Nat} {Q : Option jm_V → hf_F → Nat → Prop} 
    (H : hi (φ 195 1) ∧ hi 8 ∧ (¬ (φ 195 1) = 8 → hw sc (d + 2) 175 0 [(0, (2, 192))] [] φ x (fun r ψ2 y2 => y2 = x ∧ (r = none ∧ (hw sc (d + 2) 183 0 [(0, (2, 192)), (1, (0, 36 + (φ 195 1)))] [] ψ2 x (fun r ψ3 y3 => y3 = x ∧ (∃ z3 : Int, r = some (0, z3) ∧ (hi z3 ∧ (z3 = 0 → Q (some (0, 0)) ψ3 x) ∧ (¬ z3 = 0 → hw sc (d + 2) 190 0 [(0, (2, 192)), (1, (0, 33)), (2, (0, ψ3 195 0))] [] ψ3 x (fun r ψ6 y6 => y6 = x ∧ (∃ z6 : Int, r = some (0, z6) ∧ (hi z6 ∧ (¬ z6 = 0 → hi (ψ6 192 11) ∧ hi 2 ∧ ((ψ6 192 11) = 2 → 0 ≤ (5 + (ψ6 192 18)) ∧ (5 + (ψ6 192 18)) < 99 ∧ (hi (ψ6 192 14) ∧ hi (ψ6 195 ((5 + (ψ6 192 18)).toNat)) ∧ ((ψ6 192 14) < (ψ6 195 ((5 + (ψ6 192 18)).toNat)) → hw sc (d + 3) 189 93 (jm_st1 (jm_st1 (jm_st1 [(0, (2, 192))] 1 (0, φ 195 1)) 2 (0, ψ6 192 18)) 3 (0, 0)) [] ψ6 x Q) ∧ (¬ (ψ6 192 14) < (ψ6 195 ((5 + (ψ6 192 18)).toNat)) → hw sc (d + 2) 182 0 [(0, (2, 192)), (1, (0, 2))] [] ψ6 x (fun r ψ11 y11 => y11 = x ∧ (∃ z11 : Int, r = some (0, z11) ∧ ((z11 = 0 ∨ z11 = 1) ∧ Q (some (0, z11)) ψ11 x)))))) ∧ (¬ (ψ6 192 11) = 2 → hw sc (d + 2) 182 0 [(0, (2, 192)), (1, (0, 1))] [] ψ6 x (fun r ψ13 y13 => y13 = x ∧ (∃ z13 : Int, r = some (0, z13) ∧ ((z13 = 0 ∨ z13 = 1) ∧ Q (some (0, z13)) ψ13 x))))) ∧ (¬ (¬ z6 = 0) → Q (some (0, 0)) ψ6 x)))))))))))) ∧ (¬ (¬ (φ 195 1) = 8) → hw sc (d + 2) 182 0 [(0, (2, 192)), (1, (0, 4))] [] φ x (fun r ψ16 y16 => y16 = x ∧ (∃ z16 : Int, r = some (0, z16) ∧ ((z16 = 0 ∨ z16 = 1) ∧ Q (some (0, z16)) ψ16 x))))) :
    hw sc (d + 3) 189 0 [(0, (2, 192))] [] φ x Q := by
  refine hw_ald (b := 0) (e := 0) (by decide +kernel) rfl (by decide) ?_
  refine hr_gr (w := 195) (b := 12) (e := 7) 192 rfl (by decide +kernel) ?_
  refine hw_k (c := 1) (b := 0) (e := 1) (by decide +kernel) ?_
  refine hr_al (b := 0) (a0 := 0) (e := 0) (n := 99) (w := φ 195 1) 195 rfl (by decide +kernel) (by decide) (by decide) (by decide) rfl ?_
  refine hw_st (L' := (jm_st1 [(0, (2, 192))] 1 (0, φ 195 1))) (b := 1) (e := 0) (by decide +kernel) rfl ?_
  refine hw_ld (b := 1) (e := 0) (by decide +kernel) get_st1e ?_
  refine hw_k (c := 8) (b := 1) (e := 2) (by decide +kernel) ?_
  obtain ⟨hz1, hy1, ht1, hf1⟩ := H
  refine hw_if2 (a0 := 0) (b := 1) (e := 19) (by decide +kernel) hz1 hy1 (fun q => ?_) (fun q => ?_)
  · have H := ht1 q
    refine hw_ald (b := 0) (e := 0) (by decide +kernel) (get_st1 rfl (by decide) (fun q => tg2 q.2)) (by decide) ?_
    refine hr_call (a0 := 22) (b := 175) (e := 1) (nl := 4) (As := []) (R := []) 192 rfl (by decide +kernel) rfl rfl (Nat.le_of_ble_eq_true rfl) (Nat.le_of_ble_eq_true rfl) ?_
    refine hw_mono H ?_
    rintro r ψ2 y2 ⟨hyx, hr, H⟩
    subst hyx
    subst hr
    refine ⟨hnen, ?_⟩
    show hw sc (d + 3) 189 23 (jm_st1 [(0, (2, 192))] 1 (0, φ 195 1)) [] ψ2 y2 Q
    refine hw_ald (b := 0) (e := 0) (by decide +kernel) (get_st1 rfl (by decide) (fun q => tg2 q.2)) (by decide) ?_
    refine hw_k (c := 36) (b := 1) (e := 2) (by decide +kernel) ?_
    refine hw_ld (b := 1) (e := 0) (by decide +kernel) get_st1e ?_
    refine hw_bin (w := 36 + (φ 195 1)) (a0 := 0) (b := 0) (e := 0) (by decide +kernel) rfl ?_
    refine hr_call (a0 := 22) (b := 183) (e := 2) (nl := 2) (As := [(0, 36 + (φ 195 1))]) (R := []) 192 rfl (by decide +kernel) rfl rfl (Nat.le_of_ble_eq_true rfl) (Nat.le_of_ble_eq_true rfl) ?_
    refine hw_mono H ?_
    rintro r ψ3 y3 ⟨hyx, z3, hr, H⟩
    subst hyx
    subst hr
    refine ⟨hne0, ?_⟩
    show hw sc (d + 3) 189 31 (jm_st1 [(0, (2, 192))] 1 (0, φ 195 1)) [(0, z3)] ψ3 y3 Q
    obtain ⟨hz4, ht4, hf4⟩ := H
    refine hw_if (a0 := 0) (b := 0) (e := 49) (by decide +kernel) hz4 (fun q => ?_) (fun q => ?_)
    · have H := ht4 q
      refine hw_k (c := 0) (b := 0) (e := 1) (by decide +kernel) ?_
      exact hw_ret (a0 := 0) (e := 1) (by decide +kernel) (Or.inr ⟨rfl, by decide⟩) H
    · have H := hf4 q
      refine hw_ald (b := 0) (e := 0) (by decide +kernel) (get_st1 rfl (by decide) (fun q => tg2 q.2)) (by decide) ?_
      refine hw_k (c := 33) (b := 1) (e := 2) (by decide +kernel) ?_
      refine hw_ald (b := 0) (e := 0) (by decide +kernel) (get_st1 rfl (by decide) (fun q => tg2 q.2)) (by decide) ?_
      refine hr_gr (w := 195) (b := 12) (e := 7) 192 rfl (by decide +kernel) ?_
      refine hw_k (c := 0) (b := 0) (e := 1) (by decide +kernel) ?_
      refine hr_al (b := 0) (a0 := 0) (e := 0) (n := 99) (w := ψ3 195 0) 195 rfl (by decide +kernel) (by decide) (by decide) (by decide) rfl ?_
      refine hr_call (a0 := 22) (b := 190) (e := 3) (nl := 3) (As := [(0, 33), (0, ψ3 195 0)]) (R := []) 192 rfl (by decide +kernel) rfl rfl (Nat.le_of_ble_eq_true rfl) (Nat.le_of_ble_eq_true rfl) ?_
      refine hw_mono H ?_
      rintro r ψ6 y6 ⟨hyx, z6, hr, H⟩
      subst hyx
      subst hr
      refine ⟨hne0, ?_⟩
      show hw sc (d + 3) 189 46 (jm_st1 [(0, (2, 192))] 1 (0, φ 195 1)) [(0, z6)] ψ6 y6 Q
      obtain ⟨hz7, ht7, hf7⟩ := H
      refine hw_if (a0 := 0) (b := 1) (e := 51) (by decide +kernel) hz7 (fun q => ?_) (fun q => ?_)
      · have H := ht7 q
        refine hw_ald (b := 0) (e := 0) (by decide +kernel) (get_st1 rfl (by decide) (fun q => tg2 q.2)) (by decide) ?_
        refine hr_gi (w := ψ6 192 18) (b := 12) (e := 18) 192 rfl (by decide +kernel) rfl ?_
        refine hw_st (L' := (jm_st1 (jm_st1 [(0, (2, 192))] 1 (0, φ 195 1)) 2 (0, ψ6 192 18))) (b := 2) (e := 0) (by decide +kernel) rfl ?_
        refine hw_ald (b := 0) (e := 0) (by decide +kernel) (get_st1 (get_st1 rfl (by decide) (fun q => tg2 q.2)) (by decide) (fun q => absurd q.1 (by decide))) (by decide) ?_
        refine hr_gi (w := ψ6 192 11) (b := 12) (e := 11) 192 rfl (by decide +kernel) rfl ?_
        refine hw_k (c := 2) (b := 0) (e := 1) (by decide +kernel) ?_
        obtain ⟨hz8, hy8, ht8, hf8⟩ := H
        refine hw_if2 (a0 := 0) (b := 0) (e := 70) (by decide +kernel) hz8 hy8 (fun q => ?_) (fun q => ?_)
        · have H := ht8 q
          refine hw_ald (b := 0) (e := 0) (by decide +kernel) (get_st1 (get_st1 rfl (by decide) (fun q => tg2 q.2)) (by decide) (fun q => absurd q.1 (by decide))) (by decide) ?_
          refine hr_gi (w := ψ6 192 14) (b := 12) (e := 14) 192 rfl (by decide +kernel) rfl ?_
          refine hw_ald (b := 0) (e := 0) (by decide +kernel) (get_st1 (get_st1 rfl (by decide) (fun q => tg2 q.2)) (by decide) (fun q => absurd q.1 (by decide))) (by decide) ?_
          refine hr_gr (w := 195) (b := 12) (e := 7) 192 rfl (by decide +kernel) ?_
          refine hw_k (c := 5) (b := 0) (e := 1) (by decide +kernel) ?_
          refine hw_ld (b := 2) (e := 0) (by decide +kernel) get_st1e ?_
          refine hw_bin (w := 5 + (ψ6 192 18)) (a0 := 0) (b := 0) (e := 0) (by decide +kernel) rfl ?_
          obtain ⟨hl9, hu9, H⟩ := H
          refine hr_al (b := 0) (a0 := 0) (e := 0) (n := 99) (w := ψ6 195 ((5 + (ψ6 192 18)).toNat)) 195 rfl (by decide +kernel) (by decide) hl9 hu9 rfl ?_
          obtain ⟨hz10, hy10, ht10, hf10⟩ := H
          refine hw_if2 (a0 := 0) (b := 2) (e := 91) (by decide +kernel) hz10 hy10 (fun q => ?_) (fun q => ?_)
          · have H := ht10 q
            refine hw_k (c := 0) (b := 0) (e := 1) (by decide +kernel) ?_
            refine hw_st (L' := (jm_st1 (jm_st1 (jm_st1 [(0, (2, 192))] 1 (0, φ 195 1)) 2 (0, ψ6 192 18)) 3 (0, 0))) (b := 3) (e := 0) (by decide +kernel) rfl ?_
            exact H
          · have H := hf10 q
            refine hw_ald (b := 0) (e := 0) (by decide +kernel) (get_st1 (get_st1 rfl (by decide) (fun q => tg2 q.2)) (by decide) (fun q => absurd q.1 (by decide))) (by decide) ?_
            refine hw_k (c := 2) (b := 0) (e := 1) (by decide +kernel) ?_
            refine hr_call (a0 := 22) (b := 182) (e := 2) (nl := 2) (As := [(0, 2)]) (R := []) 192 rfl (by decide +kernel) rfl rfl (Nat.le_of_ble_eq_true rfl) (Nat.le_of_ble_eq_true rfl) ?_
            refine hw_mono H ?_
            rintro r ψ11 y11 ⟨hyx, z11, hr, H⟩
            subst hyx
            subst hr
            refine ⟨hne0, ?_⟩
            show hw sc (d + 3) 189 90 (jm_st1 (jm_st1 [(0, (2, 192))] 1 (0, φ 195 1)) 2 (0, ψ6 192 18)) [(0, z11)] ψ11 y11 Q
            exact hw_ret (a0 := 0) (e := 1) (by decide +kernel) (Or.inr ⟨rfl, H.1⟩) H.2
        · have H := hf8 q
          refine hw_ald (b := 0) (e := 0) (by decide +kernel) (get_st1 (get_st1 rfl (by decide) (fun q => tg2 q.2)) (by decide) (fun q => absurd q.1 (by decide))) (by decide) ?_
          refine hw_k (c := 1) (b := 0) (e := 1) (by decide +kernel) ?_
          refine hr_call (a0 := 22) (b := 182) (e := 2) (nl := 2) (As := [(0, 1)]) (R := []) 192 rfl (by decide +kernel) rfl rfl (Nat.le_of_ble_eq_true rfl) (Nat.le_of_ble_eq_true rfl) ?_
          refine hw_mono H ?_
          rintro r ψ13 y13 ⟨hyx, z13, hr, H⟩
          subst hyx
          subst hr
          refine ⟨hne0, ?_⟩
          show hw sc (d + 3) 189 69 (jm_st1 (jm_st1 [(0, (2, 192))] 1 (0, φ 195 1)) 2 (0, ψ6 192 18)) [(0, z13)] ψ13 y13 Q
          exact hw_ret (a0 := 0) (e := 1) (by decide +kernel) (Or.inr ⟨rfl, H.1⟩) H.2
      · have H := hf7 q
        refine hw_k (c := 0) (b := 0) (e := 1) (by decide +kernel) ?_
        exact hw_ret (a0 := 0) (e := 1) (by decide +kernel) (Or.inr ⟨rfl, by decide⟩) H
  · have H := hf1 q
    refine hw_ald (b := 0) (e := 0) (by decide +kernel) (get_st1 rfl (by decide) (fun q => tg2 q.2)) (by decide) ?_
    refine hw_k (c := 4) (b := 0) (e := 1) (by decide +kernel) ?_
    refine hr_call (a0 := 22) (b := 182) (e := 2) (nl := 2) (As := [(0, 4)]) (R := []) 192 rfl (by decide +kernel) rfl rfl (Nat.le_of_ble_eq_true rfl) (Nat.le_of_ble_eq_true rfl) ?_
    refine hw_mono H ?_
    rintro r ψ16 y16 ⟨hyx, z16, hr, H⟩
    subst hyx
    subst hr
    refine ⟨hne0, ?_⟩
    show hw sc (d + 3) 189 18 (jm_st1 [(0, (2, 192))] 1 (0, φ 195 1)) [(0, z16)] ψ16 y16 Q
    exact hw_ret (a0 := 0) (e := 1) (by decide +kernel) (Or.inr ⟨rfl, H.1⟩) H.2
theorem sf_189_192 {sc : List Int} {d : Nat} {φ : hf_F} {x : Nat} {Q : Option jm_V → hf_F → Nat → Prop}  (hI : Inv φ)  (hQ : ∀ (r : Int) (ψ : hf_F), Inv ψ → Fr [195, 197, 193004, 193011, 193012, 193013, 193014, 193015, 193016, 193017, 193018] φ ψ → 0 ≤ r ∧ r ≤ 1 ∧ (φ 192 4 ≤ ψ 192 4 ∧ (r = 1 → ψ 192 11 = 3 → φ 192 4 < ψ 192 4)) → F_RideLawsModel_readSeat_192 φ = (r, ψ) → Q (some (0, r)) ψ x) : hw sc (d + 3) 189 0 [(0, (2, 192))] [] φ x Q := by
  apply sf_189_192_v
  have e0 : F_RideLawsModel_readSeat_192 φ = _ := rfl
  have f1 := iv_at (a := 195) (k := 1) (lo := 0) (u := 8) hI (by decide +kernel)
  refine ⟨by unfold hi; omega, by unfold hi; omega, fun q1 => ?_, fun q1 => ?_⟩
  · skip
    have e1a := e0.trans (if_pos q1)
    refine sf_175_192 (φ := φ) hI  (fun ψ2 hI2 hF2 hV2 hE2 => ⟨rfl, rfl, ?_⟩)
    have hG2 : Fr [195, 197, 193004, 193011, 193012, 193013, 193014, 193015, 193016, 193017, 193018] φ ψ2 := fr_tr (fr_rf) hF2 (by decide)
    have f2 := iv_at (a := 192) (k := 18) (lo := (-1 : Int)) (u := 999) hI (by decide +kernel)
    have f3 := iv_at (a := 192) (k := 30) (lo := 0) (u := 40) hI (by decide +kernel)
    have f4 := iv_at (a := 192) (k := 34) (lo := 0) (u := 45) hI (by decide +kernel)
    have f5 := iv_at (a := 192) (k := 35) (lo := 0) (u := 20) hI (by decide +kernel)
    have f6 := iv_at (a := 192) (k := 36) (lo := 0) (u := 45) hI (by decide +kernel)
    have f7 := iv_at (a := 192) (k := 38) (lo := 0) (u := 1) hI (by decide +kernel)
    have f8 := iv_at (a := 192) (k := 4) (lo := 0) (u := 940) hI (by decide +kernel)
    have f9 := iv_at (a := 192) (k := 11) (lo := 0) (u := 4) hI2 (by decide +kernel)
    have f10 := iv_at (a := 192) (k := 18) (lo := (-1 : Int)) (u := 999) hI2 (by decide +kernel)
    have f11 : ψ2 192 18 = φ 192 18 := (fr_fd hF2 192 18 (by decide))
    have f12 := iv_at (a := 192) (k := 30) (lo := 0) (u := 40) hI2 (by decide +kernel)
    have f13 : ψ2 192 30 = φ 192 30 := (fr_fd hF2 192 30 (by decide))
    have f14 := iv_at (a := 192) (k := 34) (lo := 0) (u := 45) hI2 (by decide +kernel)
    have f15 : ψ2 192 34 = φ 192 34 := (fr_fd hF2 192 34 (by decide))
    have f16 := iv_at (a := 192) (k := 35) (lo := 0) (u := 20) hI2 (by decide +kernel)
    have f17 : ψ2 192 35 = φ 192 35 := (fr_fd hF2 192 35 (by decide))
    have f18 := iv_at (a := 192) (k := 36) (lo := 0) (u := 45) hI2 (by decide +kernel)
    have f19 : ψ2 192 36 = φ 192 36 := (fr_fd hF2 192 36 (by decide))
    have f20 := iv_at (a := 192) (k := 38) (lo := 0) (u := 1) hI2 (by decide +kernel)
    have f21 : ψ2 192 38 = φ 192 38 := (fr_fd hF2 192 38 (by decide))
    have f22 := iv_at (a := 192) (k := 4) (lo := 0) (u := 940) hI2 (by decide +kernel)
    have e2 := e1a.trans (bnv_e hE2)
    refine sf_183_192 (φ := ψ2) hI2 (by omega) (by omega) (fun z3 ψ3 hI3 hF3 hp3 hE3 => ⟨rfl, z3, rfl, ?_⟩)
    have hG3 : Fr [195, 197, 193004, 193011, 193012, 193013, 193014, 193015, 193016, 193017, 193018] φ ψ3 := fr_tr hG2 hF3 (by decide)
    have f23 := iv_at (a := 192) (k := 11) (lo := 0) (u := 4) hI3 (by decide +kernel)
    have f24 := iv_at (a := 192) (k := 4) (lo := 0) (u := 940) hI3 (by decide +kernel)
    have e3 := e2.trans (bnd_e hE3)
    refine ⟨by unfold hi; omega, fun q4 => ?_, fun q4 => ?_⟩
    · skip
      have e4a := e3.trans (if_pos q4)
      exact hQ 0 ψ3 hI3 hG3 ⟨by omega, by omega, by omega⟩ e4a
    · skip
      have e4b := e3.trans (if_neg q4)
      have f25 := iv_at (a := 195) (k := 0) (lo := 0) (u := 3) hI3 (by decide +kernel)
      have f26 : ψ3 195 0 = ψ2 195 0 := (fr_at hF3 195 (by decide) 0)
      have f27 := iv_at (a := 195) (k := 0) (lo := 0) (u := 3) hI2 (by decide +kernel)
      have f28 : ψ2 195 0 = φ 195 0 := (fr_at hF2 195 (by decide) 0)
      have f29 := iv_at (a := 195) (k := 0) (lo := 0) (u := 3) hI (by decide +kernel)
      refine sf_190_192 (φ := ψ3) hI3 (by omega) (by omega) (by omega) (by omega) (by omega) (fun z6 ψ6 hI6 hF6 hp6 hE6 => ⟨rfl, z6, rfl, ?_⟩)
      have hG6 : Fr [195, 197, 193004, 193011, 193012, 193013, 193014, 193015, 193016, 193017, 193018] φ ψ6 := fr_tr hG3 hF6 (by decide)
      have f30 := iv_at (a := 192) (k := 30) (lo := 0) (u := 40) hI3 (by decide +kernel)
      have f31 : ψ3 192 30 = ψ2 192 30 := (fr_fd hF3 192 30 (by decide))
      have f32 := iv_at (a := 192) (k := 11) (lo := 0) (u := 4) hI6 (by decide +kernel)
      have f33 := iv_at (a := 192) (k := 18) (lo := (-1 : Int)) (u := 999) hI6 (by decide +kernel)
      have f34 := iv_at (a := 192) (k := 30) (lo := 0) (u := 40) hI6 (by decide +kernel)
      have f35 : ψ6 192 30 = ψ3 192 30 := (fr_fd hF6 192 30 (by decide))
      have f36 := iv_at (a := 192) (k := 4) (lo := 0) (u := 940) hI6 (by decide +kernel)
      have e6 := e4b.trans (bnd_e hE6)
      refine ⟨by unfold hi; omega, fun q7 => ?_, fun q7 => ?_⟩
      · skip
        have e7a := e6.trans (if_pos q7)
        refine ⟨by unfold hi; omega, by unfold hi; omega, fun q8 => ?_, fun q8 => ?_⟩
        · skip
          have e8a := e7a.trans (if_pos q8)
          have f37 := iv_at (a := 192) (k := 14) (lo := 0) (u := 8214) hI6 (by decide +kernel)
          refine ⟨by omega, by omega, ?_⟩
          have f38 := iv_ar (a := 195) (s := 5) (t := 8) (lo := 0) (u := 30) (z := 5 + (ψ6 192 18)) hI6 (by decide +kernel) (by omega) (by omega)
          have f39 : ψ6 195 ((5 + (ψ6 192 18)).toNat) = ψ3 195 ((5 + (ψ6 192 18)).toNat) := (fr_at hF6 195 (by decide) ((5 + (ψ6 192 18)).toNat))
          have f40 := iv_ar (a := 195) (s := 5) (t := 8) (lo := 0) (u := 30) (z := 5 + (ψ6 192 18)) hI3 (by decide +kernel) (by omega) (by omega)
          have f41 : ψ3 195 ((5 + (ψ6 192 18)).toNat) = ψ2 195 ((5 + (ψ6 192 18)).toNat) := (fr_at hF3 195 (by decide) ((5 + (ψ6 192 18)).toNat))
          have f42 := iv_ar (a := 195) (s := 5) (t := 8) (lo := 0) (u := 30) (z := 5 + (ψ6 192 18)) hI2 (by decide +kernel) (by omega) (by omega)
          have f43 : ψ2 195 ((5 + (ψ6 192 18)).toNat) = φ 195 ((5 + (ψ6 192 18)).toNat) := (fr_at hF2 195 (by decide) ((5 + (ψ6 192 18)).toNat))
          have f44 := iv_ar (a := 195) (s := 5) (t := 8) (lo := 0) (u := 30) (z := 5 + (ψ6 192 18)) hI (by decide +kernel) (by omega) (by omega)
          refine ⟨by unfold hi; omega, by unfold hi; omega, fun q10 => ?_, fun q10 => ?_⟩
          · skip
            have e10a := e8a.trans (if_pos q10)
            have f45 := iv_at (a := 195) (k := 1) (lo := 0) (u := 8) hI6 (by decide +kernel)
            have f46 : ψ6 195 1 = ψ3 195 1 := (fr_at hF6 195 (by decide) 1)
            have f47 := iv_at (a := 195) (k := 1) (lo := 0) (u := 8) hI3 (by decide +kernel)
            have f48 : ψ3 195 1 = ψ2 195 1 := (fr_at hF3 195 (by decide) 1)
            have f49 := iv_at (a := 195) (k := 1) (lo := 0) (u := 8) hI2 (by decide +kernel)
            have f50 : ψ2 195 1 = φ 195 1 := (fr_at hF2 195 (by decide) 1)
            exact sf_189_192_l93 ((8 - 0 : Int).toNat + 1) ψ6 (jm_st1 (jm_st1 (jm_st1 [(0, (2, 192))] 1 (0, φ 195 1)) 2 (0, ψ6 192 18)) 3 (0, 0)) (φ 195 1) (ψ6 192 18) 0 (get_st1 (get_st1 (get_st1 rfl (by decide) (fun q => tg2 q.2)) (by decide) (fun q => absurd q.1 (by decide))) (by decide) (fun q => absurd q.1 (by decide))) (get_st1 (get_st1 get_st1e (by decide) (fun q => tg0 q.2)) (by decide) (fun q => absurd q.1 (by decide))) (get_st1 get_st1e (by decide) (fun q => tg0 q.2)) get_st1e hI6 (by omega) (by omega) (by omega) (by omega) (by omega) (by omega) (by omega) (by omega) (by omega) (by omega) (by omega) (fun rr χ hIχ hFχ hpχ hEχ => hQ rr χ hIχ (fr_tr hG6 hFχ (by decide)) (by omega) (e10a.trans hEχ))
          · skip
            have e10b := e8a.trans (if_neg q10)
            refine sf_182_192 (φ := ψ6) hI6 (by omega) (by omega) (fun z11 ψ11 hI11 hF11 hp11 hE11 => ⟨rfl, z11, rfl, ?_⟩)
            have hG11 : Fr [195, 197, 193004, 193011, 193012, 193013, 193014, 193015, 193016, 193017, 193018] φ ψ11 := fr_tr hG6 hF11 (by decide)
            have f51 := iv_at (a := 192) (k := 30) (lo := 0) (u := 40) hI11 (by decide +kernel)
            have f52 : ψ11 192 30 = ψ6 192 30 := (fr_fd hF11 192 30 (by decide))
            have f53 := iv_at (a := 192) (k := 4) (lo := 0) (u := 940) hI11 (by decide +kernel)
            have f54 : ψ11 192 4 = ψ6 192 4 := (fr_fd hF11 192 4 (by decide))
            have e11 := e10b.trans (bnd_e hE11)
            have f55 := iv_at (a := 192) (k := 11) (lo := 0) (u := 4) hI11 (by decide +kernel)
            have f56 : ψ11 192 11 = ψ6 192 11 := (fr_fd hF11 192 11 (by decide))
            refine ⟨by omega, ?_⟩
            exact hQ z11 ψ11 hI11 hG11 ⟨by omega, by omega, by omega⟩ e11
        · skip
          have e8b := e7a.trans (if_neg q8)
          refine sf_182_192 (φ := ψ6) hI6 (by omega) (by omega) (fun z13 ψ13 hI13 hF13 hp13 hE13 => ⟨rfl, z13, rfl, ?_⟩)
          have hG13 : Fr [195, 197, 193004, 193011, 193012, 193013, 193014, 193015, 193016, 193017, 193018] φ ψ13 := fr_tr hG6 hF13 (by decide)
          have f57 := iv_at (a := 192) (k := 30) (lo := 0) (u := 40) hI13 (by decide +kernel)
          have f58 : ψ13 192 30 = ψ6 192 30 := (fr_fd hF13 192 30 (by decide))
          have f59 := iv_at (a := 192) (k := 4) (lo := 0) (u := 940) hI13 (by decide +kernel)
          have f60 : ψ13 192 4 = ψ6 192 4 := (fr_fd hF13 192 4 (by decide))
          have e13 := e8b.trans (bnd_e hE13)
          have f61 := iv_at (a := 192) (k := 11) (lo := 0) (u := 4) hI13 (by decide +kernel)
          have f62 : ψ13 192 11 = ψ6 192 11 := (fr_fd hF13 192 11 (by decide))
          refine ⟨by omega, ?_⟩
          exact hQ z13 ψ13 hI13 hG13 ⟨by omega, by omega, by omega⟩ e13
      · skip
        have e7b := e6.trans (if_neg q7)
        exact hQ 0 ψ6 hI6 hG6 ⟨by omega, by omega, by omega⟩ e7b
  · skip
    have e1b := e0.trans (if_neg q1)
    refine sf_182_192 (φ := φ) hI (by omega) (by omega) (fun z16 ψ16 hI16 hF16 hp16 hE16 => ⟨rfl, z16, rfl, ?_⟩)
    have hG16 : Fr [195, 197, 193004, 193011, 193012, 193013, 193014, 193015, 193016, 193017, 193018] φ ψ16 := fr_tr (fr_rf) hF16 (by decide)
    have f63 := iv_at (a := 192) (k := 30) (lo := 0) (u := 40) hI (by decide +kernel)
    have f64 := iv_at (a := 192) (k := 4) (lo := 0) (u := 940) hI (by decide +kernel)
    have f65 := iv_at (a := 192) (k := 30) (lo := 0) (u := 40) hI16 (by decide +kernel)
    have f66 : ψ16 192 30 = φ 192 30 := (fr_fd hF16 192 30 (by decide))
    have f67 := iv_at (a := 192) (k := 4) (lo := 0) (u := 940) hI16 (by decide +kernel)
    have f68 : ψ16 192 4 = φ 192 4 := (fr_fd hF16 192 4 (by decide))
    have e16 := e1b.trans (bnd_e hE16)
    have f69 := iv_at (a := 192) (k := 11) (lo := 0) (u := 4) hI16 (by decide +kernel)
    have f70 : ψ16 192 11 = φ 192 11 := (fr_fd hF16 192 11 (by decide))
    have f71 := iv_at (a := 192) (k := 11) (lo := 0) (u := 4) hI (by decide +kernel)
    refine ⟨by omega, ?_⟩
    exact hQ z16 ψ16 hI16 hG16 ⟨by omega, by omega, by omega⟩ e16
theorem sf_192_192_v {sc : List Int} {d : Nat} {φ : hf_F} {x : Nat} {Q : Option jm_V → hf_F → Nat → Prop} 
    (H : hi (φ 195 2) ∧ hi 8 ∧ (¬ (φ 195 2) = 8 → hw sc (d + 2) 175 0 [(0, (2, 192))] [] φ x (fun r ψ2 y2 => y2 = x ∧ (r = none ∧ (hw sc (d + 2) 183 0 [(0, (2, 192)), (1, (0, 44 + (φ 195 2)))] [] ψ2 x (fun r ψ3 y3 => y3 = x ∧ (∃ z3 : Int, r = some (0, z3) ∧ (hi z3 ∧ (¬ z3 = 0 → Q (some (0, 1)) (hf_up ψ3 195 2 ((ψ3 195 2) + 1)) x) ∧ (¬ (¬ z3 = 0) → Q (some (0, 0)) ψ3 x)))))))) ∧ (¬ (¬ (φ 195 2) = 8) → hw sc (d + 2) 182 0 [(0, (2, 192)), (1, (0, 4))] [] φ x (fun r ψ7 y7 => y7 = x ∧ (∃ z7 : Int, r = some (0, z7) ∧ ((z7 = 0 ∨ z7 = 1) ∧ Q (some (0, z7)) ψ7 x))))) :
    hw sc (d + 3) 192 0 [(0, (2, 192))] [] φ x Q := by
  refine hw_ald (b := 0) (e := 0) (by decide +kernel) rfl (by decide) ?_
  refine hr_gr (w := 195) (b := 12) (e := 7) 192 rfl (by decide +kernel) ?_
  refine hw_k (c := 2) (b := 0) (e := 1) (by decide +kernel) ?_
  refine hr_al (b := 0) (a0 := 0) (e := 0) (n := 99) (w := φ 195 2) 195 rfl (by decide +kernel) (by decide) (by decide) (by decide) rfl ?_
  refine hw_st (L' := (jm_st1 [(0, (2, 192))] 1 (0, φ 195 2))) (b := 1) (e := 0) (by decide +kernel) rfl ?_
  refine hw_ld (b := 1) (e := 0) (by decide +kernel) get_st1e ?_
  refine hw_k (c := 8) (b := 1) (e := 2) (by decide +kernel) ?_
  obtain ⟨hz1, hy1, ht1, hf1⟩ := H
  refine hw_if2 (a0 := 0) (b := 1) (e := 19) (by decide +kernel) hz1 hy1 (fun q => ?_) (fun q => ?_)
  · have H := ht1 q
    refine hw_ald (b := 0) (e := 0) (by decide +kernel) (get_st1 rfl (by decide) (fun q => tg2 q.2)) (by decide) ?_
    refine hr_call (a0 := 22) (b := 175) (e := 1) (nl := 4) (As := []) (R := []) 192 rfl (by decide +kernel) rfl rfl (Nat.le_of_ble_eq_true rfl) (Nat.le_of_ble_eq_true rfl) ?_
    refine hw_mono H ?_
    rintro r ψ2 y2 ⟨hyx, hr, H⟩
    subst hyx
    subst hr
    refine ⟨hnen, ?_⟩
    show hw sc (d + 3) 192 23 (jm_st1 [(0, (2, 192))] 1 (0, φ 195 2)) [] ψ2 y2 Q
    refine hw_ald (b := 0) (e := 0) (by decide +kernel) (get_st1 rfl (by decide) (fun q => tg2 q.2)) (by decide) ?_
    refine hw_k (c := 44) (b := 1) (e := 2) (by decide +kernel) ?_
    refine hw_ld (b := 1) (e := 0) (by decide +kernel) get_st1e ?_
    refine hw_bin (w := 44 + (φ 195 2)) (a0 := 0) (b := 0) (e := 0) (by decide +kernel) rfl ?_
    refine hr_call (a0 := 22) (b := 183) (e := 2) (nl := 2) (As := [(0, 44 + (φ 195 2))]) (R := []) 192 rfl (by decide +kernel) rfl rfl (Nat.le_of_ble_eq_true rfl) (Nat.le_of_ble_eq_true rfl) ?_
    refine hw_mono H ?_
    rintro r ψ3 y3 ⟨hyx, z3, hr, H⟩
    subst hyx
    subst hr
    refine ⟨hne0, ?_⟩
    show hw sc (d + 3) 192 31 (jm_st1 [(0, (2, 192))] 1 (0, φ 195 2)) [(0, z3)] ψ3 y3 Q
    obtain ⟨hz4, ht4, hf4⟩ := H
    refine hw_if (a0 := 0) (b := 1) (e := 36) (by decide +kernel) hz4 (fun q => ?_) (fun q => ?_)
    · have H := ht4 q
      refine hw_ald (b := 0) (e := 0) (by decide +kernel) (get_st1 rfl (by decide) (fun q => tg2 q.2)) (by decide) ?_
      refine hr_gr (w := 195) (b := 12) (e := 7) 192 rfl (by decide +kernel) ?_
      refine hw_k (c := 2) (b := 0) (e := 1) (by decide +kernel) ?_
      refine hw_dup2 (a0 := 0) (e := 0) (by decide +kernel) (by decide) (by decide) ?_
      refine hr_al (b := 0) (a0 := 0) (e := 0) (n := 99) (w := ψ3 195 2) 195 rfl (by decide +kernel) (by decide) (by decide) (by decide) rfl ?_
      refine hw_k (c := 1) (b := 0) (e := 1) (by decide +kernel) ?_
      refine hw_bin (w := (ψ3 195 2) + 1) (a0 := 0) (b := 0) (e := 0) (by decide +kernel) rfl ?_
      refine hr_as (a0 := 0) (e := 4) (n := 99) 195 rfl (by decide +kernel) (by decide) (by decide) ?_
      refine hw_k (c := 1) (b := 0) (e := 1) (by decide +kernel) ?_
      exact hw_ret (a0 := 0) (e := 1) (by decide +kernel) (Or.inr ⟨rfl, by decide⟩) H
    · have H := hf4 q
      refine hw_k (c := 0) (b := 0) (e := 1) (by decide +kernel) ?_
      exact hw_ret (a0 := 0) (e := 1) (by decide +kernel) (Or.inr ⟨rfl, by decide⟩) H
  · have H := hf1 q
    refine hw_ald (b := 0) (e := 0) (by decide +kernel) (get_st1 rfl (by decide) (fun q => tg2 q.2)) (by decide) ?_
    refine hw_k (c := 4) (b := 0) (e := 1) (by decide +kernel) ?_
    refine hr_call (a0 := 22) (b := 182) (e := 2) (nl := 2) (As := [(0, 4)]) (R := []) 192 rfl (by decide +kernel) rfl rfl (Nat.le_of_ble_eq_true rfl) (Nat.le_of_ble_eq_true rfl) ?_
    refine hw_mono H ?_
    rintro r ψ7 y7 ⟨hyx, z7, hr, H⟩
    subst hyx
    subst hr
    refine ⟨hne0, ?_⟩
    show hw sc (d + 3) 192 18 (jm_st1 [(0, (2, 192))] 1 (0, φ 195 2)) [(0, z7)] ψ7 y7 Q
    exact hw_ret (a0 := 0) (e := 1) (by decide +kernel) (Or.inr ⟨rfl, H.1⟩) H.2
theorem sf_192_192 {sc : List Int} {d : Nat} {φ : hf_F} {x : Nat} {Q : Option jm_V → hf_F → Nat → Prop}  (hI : Inv φ)  (hQ : ∀ (r : Int) (ψ : hf_F), Inv ψ → Fr [195, 197, 193004, 193011, 193012, 193013, 193014, 193015, 193016, 193017] φ ψ → 0 ≤ r ∧ r ≤ 1 ∧ (φ 192 4 ≤ ψ 192 4 ∧ (r = 1 → ψ 192 11 = 3 → φ 192 4 < ψ 192 4)) → F_RideLawsModel_readWord_192 φ = (r, ψ) → Q (some (0, r)) ψ x) : hw sc (d + 3) 192 0 [(0, (2, 192))] [] φ x Q := by
  apply sf_192_192_v
  have e0 : F_RideLawsModel_readWord_192 φ = _ := rfl
  have f1 := iv_at (a := 195) (k := 2) (lo := 0) (u := 8) hI (by decide +kernel)
  refine ⟨by unfold hi; omega, by unfold hi; omega, fun q1 => ?_, fun q1 => ?_⟩
  · skip
    have e1a := e0.trans (if_pos q1)
    refine sf_175_192 (φ := φ) hI  (fun ψ2 hI2 hF2 hV2 hE2 => ⟨rfl, rfl, ?_⟩)
    have hG2 : Fr [195, 197, 193004, 193011, 193012, 193013, 193014, 193015, 193016, 193017] φ ψ2 := fr_tr (fr_rf) hF2 (by decide)
    have f2 := iv_at (a := 192) (k := 18) (lo := (-1 : Int)) (u := 999) hI (by decide +kernel)
    have f3 := iv_at (a := 192) (k := 30) (lo := 0) (u := 40) hI (by decide +kernel)
    have f4 := iv_at (a := 192) (k := 34) (lo := 0) (u := 45) hI (by decide +kernel)
    have f5 := iv_at (a := 192) (k := 35) (lo := 0) (u := 20) hI (by decide +kernel)
    have f6 := iv_at (a := 192) (k := 36) (lo := 0) (u := 45) hI (by decide +kernel)
    have f7 := iv_at (a := 192) (k := 38) (lo := 0) (u := 1) hI (by decide +kernel)
    have f8 := iv_at (a := 192) (k := 4) (lo := 0) (u := 940) hI (by decide +kernel)
    have f9 := iv_at (a := 192) (k := 11) (lo := 0) (u := 4) hI2 (by decide +kernel)
    have f10 := iv_at (a := 192) (k := 18) (lo := (-1 : Int)) (u := 999) hI2 (by decide +kernel)
    have f11 : ψ2 192 18 = φ 192 18 := (fr_fd hF2 192 18 (by decide))
    have f12 := iv_at (a := 192) (k := 30) (lo := 0) (u := 40) hI2 (by decide +kernel)
    have f13 : ψ2 192 30 = φ 192 30 := (fr_fd hF2 192 30 (by decide))
    have f14 := iv_at (a := 192) (k := 34) (lo := 0) (u := 45) hI2 (by decide +kernel)
    have f15 : ψ2 192 34 = φ 192 34 := (fr_fd hF2 192 34 (by decide))
    have f16 := iv_at (a := 192) (k := 35) (lo := 0) (u := 20) hI2 (by decide +kernel)
    have f17 : ψ2 192 35 = φ 192 35 := (fr_fd hF2 192 35 (by decide))
    have f18 := iv_at (a := 192) (k := 36) (lo := 0) (u := 45) hI2 (by decide +kernel)
    have f19 : ψ2 192 36 = φ 192 36 := (fr_fd hF2 192 36 (by decide))
    have f20 := iv_at (a := 192) (k := 38) (lo := 0) (u := 1) hI2 (by decide +kernel)
    have f21 : ψ2 192 38 = φ 192 38 := (fr_fd hF2 192 38 (by decide))
    have f22 := iv_at (a := 192) (k := 4) (lo := 0) (u := 940) hI2 (by decide +kernel)
    have e2 := e1a.trans (bnv_e hE2)
    refine sf_183_192 (φ := ψ2) hI2 (by omega) (by omega) (fun z3 ψ3 hI3 hF3 hp3 hE3 => ⟨rfl, z3, rfl, ?_⟩)
    have hG3 : Fr [195, 197, 193004, 193011, 193012, 193013, 193014, 193015, 193016, 193017] φ ψ3 := fr_tr hG2 hF3 (by decide)
    have f23 := iv_at (a := 192) (k := 11) (lo := 0) (u := 4) hI3 (by decide +kernel)
    have f24 := iv_at (a := 192) (k := 4) (lo := 0) (u := 940) hI3 (by decide +kernel)
    have e3 := e2.trans (bnd_e hE3)
    refine ⟨by unfold hi; omega, fun q4 => ?_, fun q4 => ?_⟩
    · skip
      have e4a := e3.trans (if_pos q4)
      have f25 := iv_at (a := 195) (k := 2) (lo := 0) (u := 8) hI3 (by decide +kernel)
      have f26 : ψ3 195 2 = ψ2 195 2 := (fr_at hF3 195 (by decide) 2)
      have f27 := iv_at (a := 195) (k := 2) (lo := 0) (u := 8) hI2 (by decide +kernel)
      have f28 : ψ2 195 2 = φ 195 2 := (fr_at hF2 195 (by decide) 2)
      have i29 : Inv (hf_up ψ3 195 2 ((ψ3 195 2) + 1)) := iv_up (lo := 0) (u := 8) hI3 (by decide +kernel) (by omega) (by omega)
      have r29 : Fr [195, 197, 193004, 193011, 193012, 193013, 193014, 193015, 193016, 193017] φ (hf_up ψ3 195 2 ((ψ3 195 2) + 1)) := fr_upa hG3 (by decide)
      have f30 : (hf_up ψ3 195 2 ((ψ3 195 2) + 1)) 192 11 = ψ3 192 11 := (hf_up_ne (fun q => absurd q.1 (by decide)))
      have f31 : (hf_up ψ3 195 2 ((ψ3 195 2) + 1)) 192 4 = ψ3 192 4 := (hf_up_ne (fun q => absurd q.1 (by decide)))
      exact hQ 1 (hf_up ψ3 195 2 ((ψ3 195 2) + 1)) i29 r29 ⟨by omega, by omega, by omega⟩ e4a
    · skip
      have e4b := e3.trans (if_neg q4)
      exact hQ 0 ψ3 hI3 hG3 ⟨by omega, by omega, by omega⟩ e4b
  · skip
    have e1b := e0.trans (if_neg q1)
    refine sf_182_192 (φ := φ) hI (by omega) (by omega) (fun z7 ψ7 hI7 hF7 hp7 hE7 => ⟨rfl, z7, rfl, ?_⟩)
    have hG7 : Fr [195, 197, 193004, 193011, 193012, 193013, 193014, 193015, 193016, 193017] φ ψ7 := fr_tr (fr_rf) hF7 (by decide)
    have f32 := iv_at (a := 192) (k := 30) (lo := 0) (u := 40) hI (by decide +kernel)
    have f33 := iv_at (a := 192) (k := 4) (lo := 0) (u := 940) hI (by decide +kernel)
    have f34 := iv_at (a := 192) (k := 30) (lo := 0) (u := 40) hI7 (by decide +kernel)
    have f35 : ψ7 192 30 = φ 192 30 := (fr_fd hF7 192 30 (by decide))
    have f36 := iv_at (a := 192) (k := 4) (lo := 0) (u := 940) hI7 (by decide +kernel)
    have f37 : ψ7 192 4 = φ 192 4 := (fr_fd hF7 192 4 (by decide))
    have e7 := e1b.trans (bnd_e hE7)
    have f38 := iv_at (a := 192) (k := 11) (lo := 0) (u := 4) hI7 (by decide +kernel)
    have f39 : ψ7 192 11 = φ 192 11 := (fr_fd hF7 192 11 (by decide))
    have f40 := iv_at (a := 192) (k := 11) (lo := 0) (u := 4) hI (by decide +kernel)
    refine ⟨by omega, ?_⟩
    exact hQ z7 ψ7 hI7 hG7 ⟨by omega, by omega, by omega⟩ e7
