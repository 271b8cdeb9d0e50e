/-! the model's names while a RIDE is read -/
noncomputable def Q33 (χ ξ : hf_F) : Prop := ∀ k, k < 33 → ξ 197 k = χ 197 k
theorem q33_t {φ χ ξ : hf_F} (h : Q33 φ χ) (h2 : Q33 χ ξ) : Q33 φ ξ := fun k hk => (h2 k hk).trans (h k hk)
theorem q33_r (χ : hf_F) : Q33 χ χ := fun _ _ => rfl
theorem ite_a {c : Prop} [Decidable c] (x y : hf_F) (a k : Nat) : (if c then x else y) a k = if c then x a k else y a k := by
  split <;> rfl
theorem next181_a {a : Nat} (ha : ¬ a = 192) : ∀ (n : Nat) (φ : hf_F) (l1 l2 l3 : Int) (k : Nat), F_RideLawsModel_next_192_l181 n φ l1 l2 l3 a k = φ a k := by
  intro n
  induction n with
  | zero => intro φ l1 l2 l3 k; rfl
  | succ n ih =>
    intro φ l1 l2 l3 k
    rw [F_RideLawsModel_next_192_l181_s]
    unfold bnp
    simp only [ite_a, ih, up_a ha, ite_self]
theorem next0_a {a : Nat} (ha : ¬ a = 192) : ∀ (n : Nat) (φ : hf_F) (k : Nat), F_RideLawsModel_next_192_l0 n φ a k = φ a k := by
  intro n
  induction n with
  | zero => intro φ k; rfl
  | succ n ih =>
    intro φ k
    rw [F_RideLawsModel_next_192_l0_s]
    unfold bnp
    simp only [ite_a, ih, up_a ha, next181_a ha, ite_self]
theorem next_a {a : Nat} (ha : ¬ a = 192) (φ : hf_F) (k : Nat) : F_RideLawsModel_next_192 φ a k = φ a k := by
  unfold F_RideLawsModel_next_192
  unfold bnp
  simp only [ite_a, next0_a ha, up_a ha, next181_a ha, ite_self]
theorem ite_2 {c : Prop} [Decidable c] (x y : Int × hf_F) : (if c then x else y).2 = if c then x.2 else y.2 := by
  split <;> rfl
theorem bad_a {a : Nat} (ha : ¬ a = 192) (φ : hf_F) (v : Int) (k : Nat) : (F_RideLawsModel_bad_192 φ v).2 a k = φ a k := by
  unfold F_RideLawsModel_bad_192
  simp only [up_a ha]
theorem fresh_n {φ : hf_F} {v : Int} {k : Nat} (hv : 33 ≤ v) (hk : k < 33) : (F_RideLawsModel_fresh_192 φ v).2 197 k = φ 197 k := by
  have h1 : ∀ w, hf_up φ 197 v.toNat w 197 k = φ 197 k := fun w => up_k (by omega)
  unfold F_RideLawsModel_fresh_192
  unfold bnp bnd bnv
  simp only [ite_2, ite_a, bad_a (show ¬ 197 = 192 by decide), next_a (show ¬ 197 = 192 by decide), h1, ite_self]
theorem looks_a {a : Nat} (ha : ¬ a = 192) (φ : hf_F) (v w : Int) (k : Nat) : (F_RideLawsModel_looksAt_192 φ v w).2 a k = φ a k := by
  unfold F_RideLawsModel_looksAt_192
  unfold bnp bnd
  simp only [ite_2, ite_a, bad_a ha, up_a ha, ite_self]
theorem takesn_a {a : Nat} (ha : ¬ a = 192) (φ : hf_F) (v w : Int) (k : Nat) : (F_RideLawsModel_takesName_192 φ v w).2 a k = φ a k := by
  unfold F_RideLawsModel_takesName_192
  unfold bnd bnv
  simp only [ite_2, ite_a, looks_a ha, next_a ha, ite_self]
theorem takes_a {a : Nat} (ha : ¬ a = 192) (φ : hf_F) (v w : Int) (k : Nat) : (F_RideLawsModel_takes_192 φ v w).2 a k = φ a k := by
  unfold F_RideLawsModel_takes_192
  unfold bnp bnd bnv
  simp only [ite_2, ite_a, bad_a ha, next_a ha, up_a ha, ite_self]
theorem puts1_a {a : Nat} (ha : ¬ a = 192) (hb : ¬ a = 195) (φ : hf_F) (v : Int) (k : Nat) : (F_RideLawsModel_puts_192_k2_2_k3_30 φ v).2 a k = φ a k := by
  unfold F_RideLawsModel_puts_192_k2_2_k3_30
  unfold bnd
  simp only [ite_2, ite_a, takes_a ha, up_a hb, ite_self]
theorem puts2_a {a : Nat} (ha : ¬ a = 192) (hb : ¬ a = 195) (φ : hf_F) (v : Int) (k : Nat) : (F_RideLawsModel_puts_192_k2_1_k3_9 φ v).2 a k = φ a k := by
  unfold F_RideLawsModel_puts_192_k2_1_k3_9
  unfold bnd
  simp only [ite_2, ite_a, takes_a ha, up_a hb, ite_self]
theorem seatl_a {a : Nat} (ha : ¬ a = 192) (hb : ¬ a = 195) : ∀ (n : Nat) (φ : hf_F) (l1 l2 l3 : Int) (k : Nat), (F_RideLawsModel_readSeat_192_l93 n φ l1 l2 l3).2 a k = φ a k := by
  intro n
  induction n with
  | zero => intro φ l1 l2 l3 k; rfl
  | succ n ih =>
    intro φ l1 l2 l3 k
    rw [F_RideLawsModel_readSeat_192_l93_s]
    unfold bnd bnv
    simp only [ite_2, ite_a, ih, bad_a ha, next_a ha, up_a hb, ite_self]
theorem riderl_a {a : Nat} (ha : ¬ a = 192) (hb : ¬ a = 195) : ∀ (n : Nat) (φ : hf_F) (l1 l2 : Int) (k : Nat), (F_RideLawsModel_readRider_192_l63 n φ l1 l2).2 a k = φ a k := by
  intro n
  induction n with
  | zero => intro φ l1 l2 k; rfl
  | succ n ih =>
    intro φ l1 l2 k
    rw [F_RideLawsModel_readRider_192_l63_s]
    unfold bnd bnv
    simp only [ite_2, ite_a, ih, bad_a ha, next_a ha, up_a hb, ite_self]
theorem lawl_a {a : Nat} (ha : ¬ a = 192) (hb : ¬ a = 195) : ∀ (n : Nat) (φ : hf_F) (l1 l2 l3 : Int) (k : Nat), (F_RideLawsModel_readLaw_192_l75 n φ l1 l2 l3).2 a k = φ a k := by
  intro n
  induction n with
  | zero => intro φ l1 l2 l3 k; rfl
  | succ n ih =>
    intro φ l1 l2 l3 k
    rw [F_RideLawsModel_readLaw_192_l75_s]
    unfold bnd bnv
    simp only [ite_2, ite_a, ih, bad_a ha, next_a ha, up_a hb, ite_self]
theorem line_n {φ : hf_F} (hI : Inv φ) {k : Nat} (hk : k < 33) : (F_RideLawsModel_readLine_192 φ).2 197 k = φ 197 k := by
  obtain ⟨b0, b1, b2, b3, b4⟩ := ctb hI
  have ha : ¬ 197 = 192 := by decide
  have hb : ¬ 197 = 195 := by decide
  have f0 : ∀ ζ : hf_F, (F_RideLawsModel_fresh_192 ζ (33 + φ 195 0)).2 197 k = ζ 197 k := fun ζ => fresh_n (by omega) hk
  have f1 : ∀ ζ : hf_F, (F_RideLawsModel_fresh_192 ζ (36 + φ 195 1)).2 197 k = ζ 197 k := fun ζ => fresh_n (by omega) hk
  have f2 : ∀ ζ : hf_F, (F_RideLawsModel_fresh_192 ζ (44 + φ 195 2)).2 197 k = ζ 197 k := fun ζ => fresh_n (by omega) hk
  have f3 : ∀ ζ : hf_F, (F_RideLawsModel_fresh_192 ζ (52 + φ 195 3)).2 197 k = ζ 197 k := fun ζ => fresh_n (by omega) hk
  have f4 : ∀ ζ : hf_F, (F_RideLawsModel_fresh_192 ζ (58 + φ 195 4)).2 197 k = ζ 197 k := fun ζ => fresh_n (by omega) hk
  unfold F_RideLawsModel_readLine_192 F_RideLawsModel_readRing_192 F_RideLawsModel_readSeat_192 F_RideLawsModel_readWord_192 F_RideLawsModel_readRider_192 F_RideLawsModel_readSays_192 F_RideLawsModel_readLaw_192 F_RideLawsModel_readClash_192
  unfold bnp bnd bnv
  simp only [ite_2, ite_a, f0, f1, f2, f3, f4, bad_a ha, next_a ha, up_a hb, looks_a ha, takesn_a ha, puts1_a ha hb, puts2_a ha hb, seatl_a ha hb, riderl_a ha hb, lawl_a ha hb, ite_self]
theorem sign_a {a : Nat} (ha : ¬ a = 192) (φ : hf_F) (v : Int) (k : Nat) : (F_RideLawsModel_sign_192 φ v).2 a k = φ a k := by
  unfold F_RideLawsModel_sign_192
  unfold bnp bnd bnv
  simp only [ite_2, ite_a, bad_a ha, next_a ha, ite_self]
/-- a RIDE that is not read leaves the one that is -/
noncomputable def N33 (χ ξ : hf_F) : Prop := (∀ k, ξ 194 k = χ 194 k) ∧ (∀ k, k < 33 → ξ 197 k = χ 197 k) ∧ (∀ k, ξ 199 k = χ 199 k) ∧ ξ 192 22 = χ 192 22
theorem n33_t {φ χ ξ : hf_F} (h : N33 φ χ) (h2 : N33 χ ξ) : N33 φ ξ := ⟨fun k => (h2.1 k).trans (h.1 k), fun k hk => (h2.2.1 k hk).trans (h.2.1 k hk), fun k => (h2.2.2.1 k).trans (h.2.2.1 k), h2.2.2.2.trans h.2.2.2⟩
theorem ridem_l : ∀ (n : Nat) (χ ξ : hf_F) (s : Int), Inv χ → 0 ≤ χ 192 19 → F_RideLawsModel_ride_192_l30 n χ = (s, ξ) → N33 χ ξ ∨ (0 ≤ s ∧ ∃ χ', ξ = RFIN χ') := by
  intro n
  induction n with
  | zero => intro χ ξ s hI h0 e; cases e; exact Or.inl ⟨fun _ => rfl, fun _ _ => rfl, fun _ => rfl, rfl⟩
  | succ n ih =>
    intro χ ξ s hI h0 e
    rw [F_RideLawsModel_ride_192_l30_s] at e
    by_cases c : χ 192 11 = 0
    · rw [if_pos c] at e
      cases e
      exact Or.inr ⟨h0, χ, rfl⟩
    · rw [if_neg c] at e
      obtain ⟨z7, ψ7, g7⟩ : ∃ a b, F_RideLawsModel_readLine_192 χ = (a, b) := ⟨_, _, rfl⟩
      have k7 := K_F_RideLawsModel_readLine_192 hI g7
      have n7 : N33 χ ψ7 := ⟨fun k => fr_at k7.2.1 194 (by decide) k, fun k hk => by have := line_n hI hk; rw [g7] at this; exact this, fun k => fr_at k7.2.1 199 (by decide) k, fr_fd k7.2.1 192 22 (by decide)⟩
      rw [bnd_e g7] at e
      by_cases c1 : z7 = 0
      · rw [if_pos c1] at e
        cases e
        exact Or.inl n7
      · rw [if_neg c1] at e
        obtain ⟨z10, ψ10, g10⟩ : ∃ a b, F_RideLawsModel_sign_192 ψ7 59 = (a, b) := ⟨_, _, rfl⟩
        have k10 := K_F_RideLawsModel_sign_192 k7.1 (by decide) (by decide) g10
        have a10 : ∀ a k, ¬ a = 192 → ψ10 a k = ψ7 a k := fun a k ha => by have := sign_a ha ψ7 59 k; rw [g10] at this; exact this
        have n10 : N33 χ ψ10 := n33_t n7 ⟨fun k => a10 194 k (by decide), fun k _ => a10 197 k (by decide), fun k => a10 199 k (by decide), fr_fd k10.2.1 192 22 (by decide)⟩
        rw [bnd_e g10] at e
        by_cases c2 : z10 = 0
        · rw [if_neg (fun q => q c2)] at e
          cases e
          exact Or.inl n10
        · rw [if_pos c2] at e
          have i19 : Inv (hf_up ψ10 192 19 (ψ10 192 19 + 1)) := iv_upn k10.1 (by decide) (by decide) (by decide +kernel)
          have e19 : ψ10 192 19 = χ 192 19 := (fr_fd k10.2.1 192 19 (by decide)).trans (fr_fd k7.2.1 192 19 (by decide))
          rcases ih _ _ _ i19 (show 0 ≤ ψ10 192 19 + 1 by omega) e with h | h
          · exact Or.inl (n33_t n10 ⟨fun k => h.1 k, fun k hk => h.2.1 k hk, fun k => h.2.2.1 k, h.2.2.2⟩)
          · exact Or.inr h
theorem ridem {χ ξ : hf_F} {s : Int} (hI : Inv χ) (e : F_RideLawsModel_ride_192 χ = (s, ξ)) : N33 χ ξ ∨ (0 ≤ s ∧ ∃ χ', ξ = RFIN χ') := by
  unfold F_RideLawsModel_ride_192 at e
  rw [bnv_e rfl, bnv_e rfl, bnv_e rfl] at e
  have k0 := inv_0 hI
  have kt := K_F_RideLawsModel_taken_192 k0 (v1 := 900) (by decide) (by decide) rfl
  have t1 : ∀ a k, ¬ a = 192 → F_RideLawsModel_taken_192 (hf_up χ 192 0 0) 900 a k = χ a k := fun a k ha => by
    unfold F_RideLawsModel_taken_192
    simp only [up_a ha]
  have t2 : F_RideLawsModel_taken_192 (hf_up χ 192 0 0) 900 192 22 = χ 192 22 := rfl
  generalize F_RideLawsModel_taken_192 (hf_up χ 192 0 0) 900 = χ1 at e kt t1 t2
  have k2 : Inv (hf_up (hf_up χ1 192 15 0) 192 19 0) := iv_upn (iv_up (lo := 0) (u := 4) kt.1 (by decide +kernel) (by decide) (by decide)) (by decide) (by decide) (by decide +kernel)
  have kc := K_F_RideLawsModel_clears_192 k2 rfl
  have hcl : F_RideLawsModel_clears_192 (hf_up (hf_up χ1 192 15 0) 192 19 0) = hf_mp (hf_up (hf_up χ1 192 15 0) 192 19 0) 195 0 99 (fun _ => 0) := rfl
  rw [hcl] at e kc
  have kn := K_F_RideLawsModel_next_192 kc.1 rfl
  have hz : N33 χ (F_RideLawsModel_next_192 (hf_mp (hf_up (hf_up χ1 192 15 0) 192 19 0) 195 0 99 (fun _ => 0))) := by
    have hx : ∀ a k, ¬ a = 192 → ¬ a = 195 → F_RideLawsModel_next_192 (hf_mp (hf_up (hf_up χ1 192 15 0) 192 19 0) 195 0 99 (fun _ => 0)) a k = χ a k := fun a k h1 h2 => by
      rw [next_a h1, hf_mp_ne (fun q => h2 q.1), up_a h1, up_a h1, t1 a k h1]
    refine ⟨fun k => hx 194 k (by decide) (by decide), fun k _ => hx 197 k (by decide) (by decide), fun k => hx 199 k (by decide) (by decide), ?_⟩
    rw [fr_fd kn.2.1 192 22 (by decide)]
    exact t2
  have z19 : F_RideLawsModel_next_192 (hf_mp (hf_up (hf_up χ1 192 15 0) 192 19 0) 195 0 99 (fun _ => 0)) 192 19 = 0 := by
    rw [fr_fd kn.2.1 192 19 (by decide), hf_mp_ne (fun q => absurd q.1 (by decide))]; rfl
  rcases ridem_l _ _ _ _ kn.1 (by omega) e with h | h
  · exact Or.inl (n33_t hz h)
  · exact Or.inr h
