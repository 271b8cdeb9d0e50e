/-! a SENTENCE: what waits goes, a joining word comes, of both -/
theorem sdn_n {φ χ : hf_F} {T w a k l : Nat} {d : Int} (h : SDN φ χ T w a k l d) (hB : w = 0 → a = 0 → SBT χ T) (hw : w ≤ 1) (ha : a ≤ 1) :
    SDN φ (F_RideLawsModel_nots_192 χ) T w a 0 l d ∧ (∀ j, F_RideLawsModel_nots_192 χ 203 j = χ 203 j) ∧ F_RideLawsModel_nots_192 χ 192 35 = χ 192 35 := by
  obtain ⟨h1, h2, ⟨h3, h3b⟩, h4, h5, h6, h7, h8, h9, h10, h11⟩ := h
  have hI := h1.1.2
  have o35 := iv_at (a := 192) (k := 35) (lo := 0) (u := 20) hI (by decide +kernel)
  have h34 := h8.2.1
  have hn : NTS (T + w + a) k χ (F_RideLawsModel_nots_192 χ) := by
    rw [nts_0]
    refine nts_l k _ (T + w + a) χ (by omega) (by omega) h34 h11 ?_
    by_cases ca : a = 1
    · right
      rw [show T + w + a - 1 = T + w by omega, h10 ca]
      decide
    · by_cases cw : w = 1
      · right
        rw [show T + w + a - 1 = T by omega, h9 cw]
        decide
      · rcases hB (by omega) (by omega) with q | q
        · left; omega
        · right
          rw [show T + w + a - 1 = T - 1 by omega, q]
          decide
  rw [h4] at h3
  have kk := K_F_RideLawsModel_nots_192 hI h3 (by omega) rfl
  generalize F_RideLawsModel_nots_192 χ = ζ at hn kk ⊢
  have hs := scd_n h8 hn
  obtain ⟨n1, n2, n3, n4, n5, n6⟩ := hn
  obtain ⟨k1, _, k3, k4, k5, k6, k7⟩ := kk
  have o : ∀ b q : Nat, ¬ b = 192 → ¬ b = 196 → ζ b q = χ b q := fun b q g1 g2 => n6 b q g2 (fun z => g1 z.1)
  have e94 : ζ 194 = χ 194 := funext (fun q => o 194 q (by decide) (by decide))
  have e97 : ζ 197 = χ 197 := funext (fun q => o 197 q (by decide) (by decide))
  refine ⟨⟨rp_f h1 h1.1.1 k1 (fun _ _ => rfl) (fun q hq => n6 192 q (by decide) (by omega)) (fun _ => rfl) (fun q => o 198 q (by decide) (by decide)) (fun _ => rfl) (fun q => o 193 q (by decide) (by decide)), by rw [e94, e97]; exact h2, ⟨by rw [k4, h4]; exact k3, by omega⟩, k4.trans h4, by omega, by omega, by omega, hs, fun q => by rw [o 203 _ (by decide) (by decide)]; exact h9 q, fun q => by rw [o 203 _ (by decide) (by decide)]; exact h10 q, fun j hj => by omega⟩, fun j => o 203 j (by decide) (by decide), k5⟩
noncomputable def PFR (χ ξ : hf_F) : Prop := ∀ a k : Nat, ¬ a = 196 → ¬ (a = 192 ∧ (k = 34 ∨ k = 36)) → ξ a k = χ a k
theorem sdn_j {φ χ ξ : hf_F} {T w a l u m : Nat} {d : Int} (h : SDN φ χ T w a 0 l d) (hp : PFR χ ξ) (kk : Inv ξ ∧ SIw ξ 1 ∧ ξ 192 38 = χ 192 38 ∧ ξ 192 35 = χ 192 35 ∧ ξ 192 34 + ξ 192 36 = χ 192 34 + χ 192 36) (hs : SCD φ ξ 0 0 m) (h36 : ξ 192 36 = (T : Int) + (u : Int)) (hu : u = 1 → w = 1) : SDN φ ξ T u 0 0 m d := by
  obtain ⟨h1, h2, ⟨h3, h3b⟩, h4, h5, h6, h7, h8, h9, h10, h11⟩ := h
  obtain ⟨k1, k3, k4, k5, k6⟩ := kk
  have o : ∀ b q : Nat, ¬ b = 192 → ¬ b = 196 → ξ b q = χ b q := fun b q g1 g2 => hp b q g2 (fun z => g1 z.1)
  have e94 : ξ 194 = χ 194 := funext (fun q => o 194 q (by decide) (by decide))
  have e97 : ξ 197 = χ 197 := funext (fun q => o 197 q (by decide) (by decide))
  have e37 : ξ 192 37 = χ 192 37 := hp 192 37 (by decide) (by omega)
  exact ⟨rp_f h1 h1.1.1 k1 (fun _ _ => rfl) (fun q hq => hp 192 q (by decide) (by omega)) (fun _ => rfl) (fun q => o 198 q (by decide) (by decide)) (fun _ => rfl) (fun q => o 193 q (by decide) (by decide)), by rw [e94, e97]; exact h2, ⟨by rw [k4, h4]; exact k3, by omega⟩, k4.trans h4, by omega, by omega, by omega, hs, fun q => by rw [o 203 _ (by decide) (by decide)]; exact h9 (hu q), fun q => by omega, fun j hj => by omega⟩
theorem sdn_a {φ χ : hf_F} {T w a l : Nat} {d : Int} (h : SDN φ χ T w a 0 l d) (hB : w = 0 → SBT χ T) (hw : w ≤ 1) (ha : a ≤ 1) :
    SDN φ (F_RideLawsModel_joins_192 χ 21) T w 0 0 l d ∧ (∀ j, F_RideLawsModel_joins_192 χ 21 203 j = χ 203 j) ∧ F_RideLawsModel_joins_192 χ 21 192 35 = χ 192 35 := by
  have h' := h
  obtain ⟨h1, h2, ⟨h3, h3b⟩, h4, h5, h6, h7, h8, h9, h10, h11⟩ := h'
  have hI := h1.1.2
  have o35 := iv_at (a := 192) (k := 35) (lo := 0) (u := 20) hI (by decide +kernel)
  have h34 := h8.2.1
  rw [h4] at h3
  have kk := K_F_RideLawsModel_joins_192 (v1 := 21) hI (by decide) (by decide) h3 (by omega) rfl
  have hstop : ∀ ζ : hf_F, ζ 192 36 = (T : Int) + (w : Int) → (∀ j, ζ 203 j = χ 203 j) → ζ 192 36 ≤ 0 ∨ ¬ (ζ 203 (ζ 192 36 - 1).toNat = 21 ∨ (ζ 203 (ζ 192 36 - 1).toNat = 22 ∧ (21 : Int) = 22)) := by
    intro ζ z1 z2
    by_cases c : ζ 192 36 ≤ 0
    · exact Or.inl c
    · right
      rw [z2]
      by_cases cw : w = 1
      · rw [show (ζ 192 36 - 1).toNat = T by omega, h9 cw]
        decide
      · rcases hB (by omega) with q | q
        · omega
        · rw [show (ζ 192 36 - 1).toNat = T - 1 by omega, q]
          decide
  have hj : PFR χ (F_RideLawsModel_joins_192 χ 21) ∧ SCD φ (F_RideLawsModel_joins_192 χ 21) 0 0 l ∧ F_RideLawsModel_joins_192 χ 21 192 36 = (T : Int) + (w : Int) := by
    rw [jn_0]
    by_cases ca : a = 1
    · have ht : χ 203 (χ 192 36 - 1).toNat = 21 := by rw [show (χ 192 36 - 1).toNat = T + w by omega]; exact h10 ca
      rw [jn_p (by omega) ht (Or.inl rfl)]
      have hp := pop_e (χ := χ) 21 h34
      generalize F_RideLawsModel_code_192 (hf_up χ 192 36 (χ 192 36 - 1)) 21 0 0 = ζ at hp ⊢
      have z36 : ζ 192 36 = (T : Int) + (w : Int) := by have := hp.1; omega
      rw [jn_s (hstop ζ z36 (fun j => hp.2.2.2.2 203 j (by decide) (by omega)))]
      subst ca
      exact ⟨hp.2.2.2.2, scd_a h8 hp, z36⟩
    · rw [jn_s (hstop χ (by omega) (fun _ => rfl))]
      have ca0 : a = 0 := by omega
      subst ca0
      exact ⟨fun _ _ _ _ => rfl, h8, by omega⟩
  obtain ⟨k1, _, k3, k4, k5, k6, k7⟩ := kk
  exact ⟨sdn_j (u := w) h hj.1 ⟨k1, k3, k4, k5, k6⟩ hj.2.1 hj.2.2 (fun q => q), fun j => hj.1 203 j (by decide) (by omega), k5⟩
theorem sdn_o {φ χ : hf_F} {T w a : Nat} {d : Int} (h : SDN φ χ T w a 0 w d) (hB : SBT χ T) (hw : w ≤ 1) (ha : a ≤ 1) :
    SDN φ (F_RideLawsModel_joins_192 χ 22) T 0 0 0 0 d ∧ (∀ j, F_RideLawsModel_joins_192 χ 22 203 j = χ 203 j) ∧ F_RideLawsModel_joins_192 χ 22 192 35 = χ 192 35 := by
  have h' := h
  obtain ⟨h1, h2, ⟨h3, h3b⟩, h4, h5, h6, h7, h8, h9, h10, h11⟩ := h'
  have hI := h1.1.2
  have o35 := iv_at (a := 192) (k := 35) (lo := 0) (u := 20) hI (by decide +kernel)
  have h34 := h8.2.1
  rw [h4] at h3
  have kk := K_F_RideLawsModel_joins_192 (v1 := 22) hI (by decide) (by decide) h3 (by omega) rfl
  have hstop : ∀ ζ : hf_F, ζ 192 36 = (T : Int) → (∀ j, ζ 203 j = χ 203 j) → ζ 192 36 ≤ 0 ∨ ¬ (ζ 203 (ζ 192 36 - 1).toNat = 21 ∨ (ζ 203 (ζ 192 36 - 1).toNat = 22 ∧ (22 : Int) = 22)) := by
    intro ζ z1 z2
    by_cases c : ζ 192 36 ≤ 0
    · exact Or.inl c
    · right
      rw [z2]
      rcases hB with q | q
      · omega
      · rw [show (ζ 192 36 - 1).toNat = T - 1 by omega, q]
        decide
  have hor : ∀ (n : Nat) (ζ : hf_F), 1 ≤ n → SCD φ ζ 0 0 w → ζ 192 36 = (T : Int) + (w : Int) → (∀ j, ζ 203 j = χ 203 j) → PFR ζ (F_RideLawsModel_joins_192_l0 n ζ 22) ∧ SCD φ (F_RideLawsModel_joins_192_l0 n ζ 22) 0 0 0 ∧ F_RideLawsModel_joins_192_l0 n ζ 22 192 36 = (T : Int) := by
    intro n ζ hn z1 z2 z3
    by_cases cw : w = 1
    · obtain ⟨n, rfl⟩ : ∃ j, n = j + 1 := ⟨n - 1, by omega⟩
      have ht : ζ 203 (ζ 192 36 - 1).toNat = 22 := by rw [show (ζ 192 36 - 1).toNat = T by omega, z3]; exact h9 cw
      rw [jn_p (by omega) ht (Or.inr ⟨rfl, rfl⟩)]
      have hp := pop_e (χ := ζ) 22 z1.2.1
      generalize F_RideLawsModel_code_192 (hf_up ζ 192 36 (ζ 192 36 - 1)) 22 0 0 = ξ at hp ⊢
      have z36 : ξ 192 36 = (T : Int) := by have := hp.1; omega
      rw [jn_s (hstop ξ z36 (fun j => (hp.2.2.2.2 203 j (by decide) (by omega)).trans (z3 j)))]
      subst cw
      exact ⟨hp.2.2.2.2, scd_o z1 hp, z36⟩
    · have cw0 : w = 0 := by omega
      subst cw0
      rw [jn_s (hstop ζ (by omega) z3)]
      exact ⟨fun _ _ _ _ => rfl, z1, by omega⟩
  have hj : PFR χ (F_RideLawsModel_joins_192 χ 22) ∧ SCD φ (F_RideLawsModel_joins_192 χ 22) 0 0 0 ∧ F_RideLawsModel_joins_192 χ 22 192 36 = (T : Int) + ((0 : Nat) : Int) := by
    rw [jn_0]
    by_cases ca : a = 1
    · have ht : χ 203 (χ 192 36 - 1).toNat = 21 := by rw [show (χ 192 36 - 1).toNat = T + w by omega]; exact h10 ca
      rw [jn_p (by omega) ht (Or.inl rfl)]
      have hp := pop_e (χ := χ) 21 h34
      generalize F_RideLawsModel_code_192 (hf_up χ 192 36 (χ 192 36 - 1)) 21 0 0 = ζ at hp ⊢
      have z36 : ζ 192 36 = (T : Int) + (w : Int) := by have := hp.1; omega
      subst ca
      obtain ⟨r1, r2, r3⟩ := hor (χ 192 36).toNat ζ (by omega) (scd_a h8 hp) z36 (fun j => hp.2.2.2.2 203 j (by decide) (by omega))
      exact ⟨fun b q g1 g2 => (r1 b q g1 g2).trans (hp.2.2.2.2 b q g1 g2), r2, by omega⟩
    · have ca0 : a = 0 := by omega
      subst ca0
      obtain ⟨r1, r2, r3⟩ := hor ((χ 192 36).toNat + 1) χ (by omega) h8 (by omega) (fun _ => rfl)
      exact ⟨r1, r2, by omega⟩
  obtain ⟨k1, _, k3, k4, k5, k6, k7⟩ := kk
  exact ⟨sdn_j (u := 0) h hj.1 ⟨k1, k3, k4, k5, k6⟩ hj.2.1 hj.2.2 (fun q => by omega), fun j => hj.1 203 j (by decide) (by omega), k5⟩
/-- a joining word is laid on the stack, an operand is awaited -/
theorem sex_push {φ χ : hf_F} {T w : Nat} {d c : Int} (h : SDN φ χ T w 0 0 0 d) (hc : c = 21 ∨ c = 22) :
    SEX (F_Reader_advance_1 φ) (F_RideLawsModel_next_192 (hf_up (hf_up (hf_up χ 203 (χ 192 36).toNat c) 192 36 (χ 192 36 + 1)) 192 38 0)) (T + w + 1) d ∧
    F_RideLawsModel_next_192 (hf_up (hf_up (hf_up χ 203 (χ 192 36).toNat c) 192 36 (χ 192 36 + 1)) 192 38 0) 203 (T + w) = c ∧
    SLW χ (F_RideLawsModel_next_192 (hf_up (hf_up (hf_up χ 203 (χ 192 36).toNat c) 192 36 (χ 192 36 + 1)) 192 38 0)) (T + w) ∧
    F_RideLawsModel_next_192 (hf_up (hf_up (hf_up χ 203 (χ 192 36).toNat c) 192 36 (χ 192 36 + 1)) 192 38 0) 192 35 = χ 192 35 := by
  obtain ⟨h1, h2, ⟨h3, h3b⟩, h4, h5, h6, h7, h8, h9, h10, h11⟩ := h
  have hI := h1.1.2
  have o35 := iv_at (a := 192) (k := 35) (lo := 0) (u := 20) hI (by decide +kernel)
  have h34 := h8.2.1
  rw [h4] at h3
  have i1 : Inv (hf_up χ 203 (χ 192 36).toNat c) := iv_upI (s := 0) (t := 45) (lo := 0) (u := 23) hI (by decide +kernel) (by omega) (by omega) (by omega) (by omega)
  have i2 : Inv (hf_up (hf_up χ 203 (χ 192 36).toNat c) 192 36 (χ 192 36 + 1)) := iv_up (lo := 0) (u := 45) i1 (by decide +kernel) (by omega) (by omega)
  have i3 : Inv (hf_up (hf_up (hf_up χ 203 (χ 192 36).toNat c) 192 36 (χ 192 36 + 1)) 192 38 0) := iv_up (lo := 0) (u := 1) i2 (by decide +kernel) (by decide) (by decide)
  have s2 : SIw (hf_up (hf_up χ 203 (χ 192 36).toNat c) 192 36 (χ 192 36 + 1)) 0 := si_push h3 (by omega) (fun _ => by decide) (fun q => absurd hc q)
  have s3 : SIw (hf_up (hf_up (hf_up χ 203 (χ 192 36).toNat c) 192 36 (χ 192 36 + 1)) 192 38 0) 0 := si_up s2 (by omega)
  have e35 : hf_up (hf_up (hf_up χ 203 (χ 192 36).toNat c) 192 36 (χ 192 36 + 1)) 192 38 0 192 35 = χ 192 35 := by rw [hf_up_ne (by omega), hf_up_ne (by omega), up_a (by decide)]
  have e34 : hf_up (hf_up (hf_up χ 203 (χ 192 36).toNat c) 192 36 (χ 192 36 + 1)) 192 38 0 192 34 = χ 192 34 := by rw [hf_up_ne (by omega), hf_up_ne (by omega), up_a (by decide)]
  have e37 : hf_up (hf_up (hf_up χ 203 (χ 192 36).toNat c) 192 36 (χ 192 36 + 1)) 192 38 0 192 37 = χ 192 37 := by rw [hf_up_ne (by omega), hf_up_ne (by omega), up_a (by decide)]
  have e36 : hf_up (hf_up (hf_up χ 203 (χ 192 36).toNat c) 192 36 (χ 192 36 + 1)) 192 38 0 192 36 = χ 192 36 + 1 := by rw [hf_up_ne (by omega), hf_up_eq]
  have e38 : hf_up (hf_up (hf_up χ 203 (χ 192 36).toNat c) 192 36 (χ 192 36 + 1)) 192 38 0 192 38 = 0 := hf_up_eq
  have eo : ∀ b q : Nat, ¬ b = 192 → ¬ b = 203 → hf_up (hf_up (hf_up χ 203 (χ 192 36).toNat c) 192 36 (χ 192 36 + 1)) 192 38 0 b q = χ b q := fun b q g1 g2 => by rw [up_a g1, up_a g1, up_a g2]
  have e18 : ∀ q : Nat, q < 18 → hf_up (hf_up (hf_up χ 203 (χ 192 36).toNat c) 192 36 (χ 192 36 + 1)) 192 38 0 192 q = χ 192 q := fun q hq => by rw [hf_up_ne (by omega), hf_up_ne (by omega), up_a (by decide)]
  have e30 : hf_up (hf_up (hf_up χ 203 (χ 192 36).toNat c) 192 36 (χ 192 36 + 1)) 192 38 0 192 30 = χ 192 30 := by rw [hf_up_ne (by omega), hf_up_ne (by omega), up_a (by decide)]
  have et : hf_up (hf_up (hf_up χ 203 (χ 192 36).toNat c) 192 36 (χ 192 36 + 1)) 192 38 0 203 (T + w) = c := by rw [up_a (by decide), up_a (by decide), show (χ 192 36).toNat = T + w by omega, hf_up_eq]
  have el : ∀ j : Nat, j < T + w → hf_up (hf_up (hf_up χ 203 (χ 192 36).toNat c) 192 36 (χ 192 36 + 1)) 192 38 0 203 j = χ 203 j := fun j hj => by rw [up_a (by decide), up_a (by decide), up_k (by omega)]
  generalize hf_up (hf_up (hf_up χ 203 (χ 192 36).toNat c) 192 36 (χ 192 36 + 1)) 192 38 0 = χ1 at i3 s3 e35 e34 e37 e36 e38 eo e18 e30 et el ⊢
  have hR1 : RP φ χ1 := rp_f h1 h1.1.1 i3 (fun _ _ => rfl) e18 (fun _ => rfl) (fun q => eo 198 q (by decide) (by decide)) (fun _ => rfl) (fun q => eo 193 q (by decide) (by decide))
  have ra := rp_adv hR1 rfl rfl
  have kn := (K_F_RideLawsModel_next_192 i3 rfl).2.2
  obtain ⟨_, _, _, n30, n34, n35, n36, n38⟩ := kn
  have n37 : F_RideLawsModel_next_192 χ1 192 37 = χ1 192 37 := fr_fd ra.2.2 192 37 (by decide)
  refine ⟨⟨ra.1, plg_t hI h2 (tcf_a h1) ⟨n30.trans e30, fun q => (next_a (by decide) χ1 q).trans (eo 194 q (by decide) (by decide)), fun q => (next_a (by decide) χ1 q).trans (eo 197 q (by decide) (by decide))⟩, ⟨?_, by omega⟩, n38.trans e38, by omega, by omega, ?_, scd_f h8 (fun q => fr_at ra.2.1 53 (by decide) q) (fun q => fr_at ra.2.1 54 (by decide) q) (fun q => fr_at ra.2.1 55 (by decide) q) (fr_fd ra.2.1 52 3 (by decide)) (fun q => (next_a (by decide) χ1 q).trans (eo 196 q (by decide) (by decide))) (n34.trans e34)⟩, (next_a (by decide) χ1 _).trans et, fun j hj => (next_a (by decide) χ1 j).trans (el j hj), n35.trans e35⟩
  · rw [n38, e38]
    exact si_fr s3 ra.2.2 (by decide) n34 n36
  · have := fr_fd ra.2.1 52 4 (by decide)
    omega
theorem ite_nn {α : Type} {z : Int} {x y : α} (h : ¬ z = 0) : (if ¬ z = 0 then x else y) = x := if_pos h
/-- 'and' behind an operand -/
theorem beh_a {φ χ : hf_F} {T w a k : Nat} {d : Int} (h : SDN φ χ T w a k 0 d) (hB : SBT χ T) (hw : w ≤ 1) (ha : a ≤ 1) (ht : φ 1 5 = 3 ∧ φ 1 7 = 13) :
    ∃ ξ : hf_F, F_RideLawsModel_behind_192 χ = (1, ξ) ∧ SEX (F_Reader_advance_1 φ) ξ (T + w + 1) d ∧ ξ 203 (T + w) = 21 ∧ SLW χ ξ (T + w) ∧ ξ 192 35 = χ 192 35 := by
  obtain ⟨n1, n2, n3⟩ := sdn_n h (fun _ _ => hB) hw ha
  have hB1 : SBT (F_RideLawsModel_nots_192 χ) T := sbt_w hB (fun j _ => n2 j)
  obtain ⟨j1, j2, j3⟩ := sdn_a n1 (fun _ => hB1) hw ha
  have w1 : ¬ F_RideLawsModel_isWord_192 (F_RideLawsModel_nots_192 χ) 6385252 = 0 := by
    rw [isw_z n1.1 (k := 13) (by decide) (w := 6385252) rfl]; exact fun q => q ht
  have w2 : ¬ F_RideLawsModel_isWord_192 (F_RideLawsModel_joins_192 (F_RideLawsModel_nots_192 χ) 21) 6385252 = 0 := by
    rw [isw_z j1.1 (k := 13) (by decide) (w := 6385252) rfl]; exact fun q => q ht
  obtain ⟨p1, p2, p3, p4⟩ := sex_push (c := 21) j1 (Or.inl rfl)
  refine ⟨_, ?_, p1, p2, fun j hj => (p3 j hj).trans ((j2 j).trans (n2 j)), p4.trans (j3.trans n3)⟩
  unfold F_RideLawsModel_behind_192
  rw [bnv_e rfl, bnp_e rfl, ite_nn w1, bnp_e rfl, if_neg w1, bnv_e rfl, bnp_e rfl, if_neg w2, bnv_e rfl]
/-- 'or' behind an operand -/
theorem beh_o {φ χ : hf_F} {T w a k : Nat} {d : Int} (h : SDN φ χ T w a k w d) (hB : SBT χ T) (hw : w ≤ 1) (ha : a ≤ 1) (ht : φ 1 5 = 3 ∧ φ 1 7 = 12) :
    ∃ ξ : hf_F, F_RideLawsModel_behind_192 χ = (1, ξ) ∧ SEX (F_Reader_advance_1 φ) ξ (T + 1) d ∧ ξ 203 T = 22 ∧ SLW χ ξ T ∧ ξ 192 35 = χ 192 35 := by
  obtain ⟨n1, n2, n3⟩ := sdn_n h (fun _ _ => hB) hw ha
  have hB1 : SBT (F_RideLawsModel_nots_192 χ) T := sbt_w hB (fun j _ => n2 j)
  obtain ⟨j1, j2, j3⟩ := sdn_o n1 hB1 hw ha
  have w1 : F_RideLawsModel_isWord_192 (F_RideLawsModel_nots_192 χ) 6385252 = 0 := by
    rw [isw_z n1.1 (k := 13) (by decide) (w := 6385252) rfl]; exact fun q => by have := q.2; omega
  have w3 : ¬ F_RideLawsModel_isWord_192 (F_RideLawsModel_nots_192 χ) 28530 = 0 := by
    rw [isw_z n1.1 (k := 12) (by decide) (w := 28530) rfl]; exact fun q => q ht
  have w2 : F_RideLawsModel_isWord_192 (F_RideLawsModel_joins_192 (F_RideLawsModel_nots_192 χ) 22) 6385252 = 0 := by
    rw [isw_z j1.1 (k := 13) (by decide) (w := 6385252) rfl]; exact fun q => by have := q.2; omega
  obtain ⟨p1, p2, p3, p4⟩ := sex_push (c := 22) j1 (Or.inr rfl)
  refine ⟨_, ?_, p1, p2, fun j hj => (p3 j hj).trans ((j2 j).trans (n2 j)), p4.trans (j3.trans n3)⟩
  unfold F_RideLawsModel_behind_192
  rw [bnv_e rfl, bnp_e rfl, if_neg (show ¬ ¬ F_RideLawsModel_isWord_192 (F_RideLawsModel_nots_192 χ) 6385252 = 0 from fun q => q w1), bnp_e rfl, if_neg w3, bnp_e rfl, if_pos w1, bnv_e rfl, bnp_e rfl, if_pos w2, bnv_e rfl]
/-- another token behind an operand -/
theorem beh_e {φ χ : hf_F} {T w a k : Nat} {d : Int} (h : SDN φ χ T w a k w d) (hB : SBT χ T) (hw : w ≤ 1) (ha : a ≤ 1) (ht : ¬ (φ 1 5 = 3 ∧ φ 1 7 = 13)) (ht2 : ¬ (φ 1 5 = 3 ∧ φ 1 7 = 12)) :
    ∃ ζ : hf_F, SDN φ ζ T 0 0 0 0 d ∧ SLW χ ζ T ∧ ζ 192 35 = χ 192 35 ∧ ζ = F_RideLawsModel_joins_192 (F_RideLawsModel_nots_192 χ) 22 ∧ F_RideLawsModel_behind_192 χ = (bnp (F_RideLawsModel_isSign_192 ζ 41) (fun z27 => (if z27 = 0 then (bnd (F_RideLawsModel_bad_192 ζ 1) (fun z29 ψ29 => (z29, ψ29))) else (if ¬ (ζ 192 36) = 0 then (bnv (F_RideLawsModel_next_192 (hf_up (hf_up ζ 192 36 ((ζ 192 36) - 1)) 192 37 ((ζ 192 37) - 1))) (fun ψ32 => (1, ψ32))) else (bnd (F_RideLawsModel_bad_192 ζ 1) (fun z34 ψ34 => (z34, ψ34))))))) := by
  obtain ⟨n1, n2, n3⟩ := sdn_n h (fun _ _ => hB) hw ha
  have hB1 : SBT (F_RideLawsModel_nots_192 χ) T := sbt_w hB (fun j _ => n2 j)
  obtain ⟨j1, j2, j3⟩ := sdn_o n1 hB1 hw ha
  have w1 : F_RideLawsModel_isWord_192 (F_RideLawsModel_nots_192 χ) 6385252 = 0 := by
    rw [isw_z n1.1 (k := 13) (by decide) (w := 6385252) rfl]; exact ht
  have w3 : F_RideLawsModel_isWord_192 (F_RideLawsModel_nots_192 χ) 28530 = 0 := by
    rw [isw_z n1.1 (k := 12) (by decide) (w := 28530) rfl]; exact ht2
  refine ⟨_, j1, fun j hj => (j2 j).trans (n2 j), j3.trans n3, rfl, ?_⟩
  unfold F_RideLawsModel_behind_192
  rw [bnv_e rfl, bnp_e rfl, if_neg (show ¬ ¬ F_RideLawsModel_isWord_192 (F_RideLawsModel_nots_192 χ) 6385252 = 0 from fun q => q w1), bnp_e rfl, if_pos w3, bnv_e rfl]
/-! the model's loop, a step -/
theorem l48_w {χ : hf_F} {m : Nat} (h : χ 192 38 = 1) (h2 : ¬ χ 192 11 = 0) : F_RideLawsModel_sentence_192_l48 (m + 1) χ 1 = bnd (F_RideLawsModel_behind_192 χ) (fun z ψ => (if ¬ z = 0 then F_RideLawsModel_sentence_192_l48 m ψ 1 else ((-1 : Int) - (ψ 192 16), ψ))) := by
  rw [F_RideLawsModel_sentence_192_l48_s, if_neg (show ¬ (1 : Int) = 0 by decide), if_neg (show ¬ χ 192 38 = 0 by omega), if_pos (show ¬ χ 192 11 = 0 from h2), if_neg (show ¬ χ 192 38 = 0 by omega)]
theorem l48_o {χ : hf_F} {m : Nat} (h : χ 192 38 = 0) : F_RideLawsModel_sentence_192_l48 (m + 1) χ 1 = bnd (F_RideLawsModel_operand_192 χ) (fun z ψ => (if ¬ z = 0 then F_RideLawsModel_sentence_192_l48 m ψ 1 else ((-1 : Int) - (ψ 192 16), ψ))) := by
  rw [F_RideLawsModel_sentence_192_l48_s, if_neg (show ¬ (1 : Int) = 0 by decide), if_pos h, if_pos h]
theorem l48_e {χ : hf_F} {m : Nat} (h : χ 192 38 = 1) (h2 : χ 192 11 = 0) : F_RideLawsModel_sentence_192_l48 (m + 1) χ 1 = if (F_RideLawsModel_joins_192 (F_RideLawsModel_nots_192 χ) 22 192 36) ≤ 0 then F_RideLawsModel_sentence_192_l48 m (F_RideLawsModel_joins_192 (F_RideLawsModel_nots_192 χ) 22) 0 else ((-1 : Int) - ((F_RideLawsModel_bad_192 (F_RideLawsModel_joins_192 (F_RideLawsModel_nots_192 χ) 22) 1).2 192 16), (F_RideLawsModel_bad_192 (F_RideLawsModel_joins_192 (F_RideLawsModel_nots_192 χ) 22) 1).2) := by
  rw [F_RideLawsModel_sentence_192_l48_s, if_neg (show ¬ (1 : Int) = 0 by decide), if_neg (show ¬ χ 192 38 = 0 by omega), if_neg (show ¬ ¬ χ 192 11 = 0 from fun q => q h2), bnv_e rfl, bnv_e rfl]
  rfl
/-- what a step of the loop costs -/
noncomputable def SFL (ψ χ : hf_F) (m : Nat) : Prop := ∃ ξ : hf_F, F_RideLawsModel_sentence_192_l48 m χ 1 = (-1 - ξ 192 16, ξ) ∧ FP ψ ξ
noncomputable def SAP (RO : hf_F → Int × hf_F) (d : Int) : Prop := ∀ (φ χ ψ : hf_F) (r : Int) (T m : Nat), SEX φ χ T d → RO φ = (r, ψ) → SMM χ + 1 < (m : Int) →
  (r = 0 ∧ SFL ψ χ m) ∨ (r = 1 ∧ ∃ (k m' : Nat) (χ' : hf_F), F_RideLawsModel_sentence_192_l48 m χ 1 = F_RideLawsModel_sentence_192_l48 m' χ' 1 ∧ SMM χ' + 1 < (m' : Int) ∧ SDN ψ χ' T 0 0 k 0 d ∧ SLW χ χ' T ∧ χ 192 35 + 1 ≤ χ' 192 35)
noncomputable def SBP (RC : hf_F → Int × hf_F) (d : Int) : Prop := ∀ (φ χ ψ : hf_F) (r : Int) (T m : Nat), SEX φ χ T d → SBT χ T → RC φ = (r, ψ) → SMM χ + 1 < (m : Int) →
  (r = 0 ∧ SFL ψ χ m) ∨ (r = 1 ∧ ∃ (w a k m' : Nat) (χ' : hf_F), F_RideLawsModel_sentence_192_l48 m χ 1 = F_RideLawsModel_sentence_192_l48 m' χ' 1 ∧ SMM χ' + 1 < (m' : Int) ∧ SDN ψ χ' T w a k w d ∧ SLW χ χ' T ∧ w ≤ 1 ∧ a ≤ 1 ∧ ¬ (ψ 1 5 = 3 ∧ ψ 1 7 = 13) ∧ ¬ (ψ 1 5 = 3 ∧ ψ 1 7 = 12) ∧ χ 192 35 + 1 ≤ χ' 192 35)
/-- the class's own code behind what waits -/
theorem rp_sad {φ χ : hf_F} {c : Int} (h : RP φ χ) (hc : 0 ≤ c ∧ c ≤ 22) (h4 : φ 52 3 < 40) : RP (SAD φ c 0 0) χ := by
  have k := K_F_Sentence_add_52 (v2 := 0) (v3 := 0) h.1.1 hc.1 hc.2 (by decide) (by decide) (by decide) (by decide) (sad_e h4)
  exact rp_f h k.1 h.1.2 (fun q hq => fr_fd k.2.1 1 q (by
    have : q = 0 ∨ q = 1 ∨ q = 2 ∨ q = 3 ∨ q = 4 ∨ q = 5 ∨ q = 6 ∨ q = 7 ∨ q = 8 ∨ q = 9 ∨ q = 10 := by omega
    rcases this with rfl | rfl | rfl | rfl | rfl | rfl | rfl | rfl | rfl | rfl | rfl <;> decide)) (fun _ _ => rfl) (fun q => fr_at k.2.1 3 (by decide) q) (fun _ => rfl) (fun q => fr_at k.2.1 2 (by decide) q) (fun _ => rfl)
theorem sad_o {φ : hf_F} {c s v : Int} {a k : Nat} (h : ¬ (52 ≤ a ∧ a ≤ 55)) : SAD φ c s v a k = φ a k := (sad_f φ c s v).2.2.2.2 a k (by omega) (by omega)
theorem plg_sad {φ : hf_F} {m nm : Nat → Int} {c s v : Int} (hb : CB m) (h : PLG 5 φ m nm) : PLG 5 (SAD φ c s v) m nm := plg_f h hb (fun a k q => sad_o (by omega)) (fun _ _ => rfl) (fun _ _ => rfl)
/-- the class lays 'and', 'or' -/
theorem sdn_add_a {φ χ : hf_F} {T w k : Nat} {d : Int} (h : SDN φ χ (T + w + 1) 0 0 k 0 d) (h1 : w = 1 → χ 203 T = 22) (h2 : χ 203 (T + w) = 21) (h4 : φ 52 3 < 40) : SDN (SAD φ 13 0 0) χ T w 1 k 0 d := by
  obtain ⟨a1, a2, a3, a4, a5, a6, a7, a8, a9, a10, a11⟩ := h
  refine ⟨rp_sad a1 (by decide) h4, plg_sad (cb_i a1.1.2) a2, a3, a4, by omega, a6, ?_, scd_add_a a8, h1, fun _ => h2, fun j hj => ?_⟩
  · rw [(sad_f φ 13 0 0).2.2.2.2 52 4 (by omega) (by omega)]; exact a7
  · have := a11 j hj
    rw [show T + w + 1 + 0 + 0 + j = T + w + 1 + j by omega] at this
    exact this
theorem sdn_or1 {φ χ : hf_F} {T k : Nat} {d : Int} (h : SDN φ χ (T + 1) 0 0 k 0 d) (h1 : χ 203 T = 22) : SDN φ χ T 1 0 k 0 d := by
  obtain ⟨a1, a2, a3, a4, a5, a6, a7, a8, a9, a10, a11⟩ := h
  refine ⟨a1, a2, a3, a4, by omega, a6, a7, a8, fun _ => h1, fun q => by omega, fun j hj => ?_⟩
  have := a11 j hj
  rw [show T + 1 + 0 + 0 + j = T + 1 + 0 + j by omega] at this
  exact this
theorem sdn_add_o {φ χ : hf_F} {T a k : Nat} {d : Int} (h : SDN φ χ T 1 a k 0 d) (h4 : φ 52 3 < 40) : SDN (SAD φ 12 0 0) χ T 1 a k 1 d := by
  obtain ⟨a1, a2, a3, a4, a5, a6, a7, a8, a9, a10, a11⟩ := h
  refine ⟨rp_sad a1 (by decide) h4, plg_sad (cb_i a1.1.2) a2, a3, a4, a5, a6, ?_, scd_add_o a8, a9, a10, a11⟩
  rw [(sad_f φ 12 0 0).2.2.2.2 52 4 (by omega) (by omega)]; exact a7
/-- there is room for a code of the class behind an operand -/
theorem sdn_room {φ χ : hf_F} {T w a k : Nat} {d : Int} (h : SDN φ χ T w a k 0 d) : φ 52 3 < 40 := by
  obtain ⟨a1, a2, ⟨_, a3⟩, a4, a5, a6, a7, a8, a9, a10, a11⟩ := h
  have o35 := iv_at (a := 192) (k := 35) (lo := 0) (u := 20) a1.1.2 (by decide +kernel)
  have := a8.1
  omega
theorem kw_1 {φ : hf_F} {k : Int} (h : φ 1 5 = 3 ∧ φ 1 7 = k) : F_Reader_isKeyword_1 φ k = 1 := by rw [iskw_e, if_pos h]
theorem kw_0 {φ : hf_F} {k : Int} (h : ¬ (φ 1 5 = 3 ∧ φ 1 7 = k)) : F_Reader_isKeyword_1 φ k = 0 := by rw [iskw_e, if_neg h]
theorem rp_11 {φ χ : hf_F} (h : RP φ χ) (h5 : φ 1 5 = 3) : ¬ χ 192 11 = 0 := by
  have hx := h.2.2.2.2.2
  rcases hx with ⟨x1, x2⟩ | ⟨x1, x2⟩ | ⟨x1, x2, x3⟩ | ⟨x1, x2, x3⟩ | ⟨x1, x2⟩ <;> omega
