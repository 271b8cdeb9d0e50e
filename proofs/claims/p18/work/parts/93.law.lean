theorem lw_h159 {sc : List Int} {d x : Nat} {φ : hf_F} {Q : Option jm_V → hf_F → Nat → Prop} {v1 v2 : Int} (hI : Inv φ) (h1a : -2147483648 ≤ v1) (h1b : v1 ≤ 2147483647) (h2a : -2147483648 ≤ v2) (h2b : v2 ≤ 2147483647) (hd : 10 ≤ d) (hQ : ∀ (r : Int) (ψ : hf_F) (y : Nat), Inv ψ → Fr [208] φ ψ → (r = 1 ∧ F_RideLaws_rider_0 φ v1 v2 = none ∨ r = 0 ∧ ∃ r1 : Int, F_RideLaws_rider_0 φ v1 v2 = some r1 ∧ ψ 208 0 = hb_i2l r1) → y ≤ x + 1 → Q (some (0, r)) ψ y) : hw sc (d + 3) 159 0 [(0, (2, 0)), (1, (0, v1)), (2, (0, v2)), (3, (2, 208))] [] φ x Q := by
  refine hw_ald (b := 3) (e := 0) (by decide +kernel) rfl (by decide) ?_
  refine hw_k (c := 0) (b := 0) (e := 1) (by decide +kernel) ?_
  refine hw_ald (b := 0) (e := 0) (by decide +kernel) rfl (by decide) ?_
  refine hw_ld (b := 1) (e := 0) (by decide +kernel) rfl ?_
  refine hw_ld (b := 2) (e := 0) (by decide +kernel) rfl ?_
  refine hr_try (a0 := 15) (b := 160) (e := 3) (nl := 3) (q := 4) (As := [(0, v1), (0, v2)]) (R := [(0, 0), (2, 208)]) 0 rfl (by decide +kernel) rfl rfl (Nat.le_of_ble_eq_true rfl) (Nat.le_of_ble_eq_true rfl) ?_
  refine sf_160_0 (φ := φ) hI (by omega) (by omega) (by omega) (by omega) (by omega) (fun ψ hI1 hF1 hE1 => ⟨fun _ => ?_, fun q => absurd rfl q⟩) (fun r1 hp1 hE1 => ⟨fun q => absurd q hne0, fun _ => ?_⟩)
  · show hw sc (d + 3) 159 15 (jm_drop [(0, (2, 0)), (1, (0, v1)), (2, (0, v2)), (3, (2, 208))] 4) [] ψ (x + 1) Q
    refine hw_k (c := 1) (b := 0) (e := 1) (by decide +kernel) ?_
    exact hw_ret (a0 := 0) (e := 0) (by decide +kernel) (Or.inl rfl) (hQ 1 ψ (x + 1) hI1 (fr_tr fr_rf hF1 (by decide)) (Or.inl ⟨rfl, hE1⟩) (by omega))
  · show hw sc (d + 3) 159 8 [(0, (2, 0)), (1, (0, v1)), (2, (0, v2)), (3, (2, 208))] [(0, r1), (0, 0), (2, 208)] φ x Q
    refine hw_conv (t' := 1) (w := hb_i2l r1) (a0 := 0) (b := 0) (e := 0) (by decide +kernel) rfl ?_
    refine hr_asl (a0 := 0) (e := 4) (n := 1) 208 rfl (by decide +kernel) (by decide) (by decide) ?_
    refine hw_goto (a0 := 0) (b := 0) (e := 17) (by decide +kernel) ?_
    refine hw_k (c := 0) (b := 0) (e := 1) (by decide +kernel) ?_
    exact hw_ret (a0 := 0) (e := 0) (by decide +kernel) (Or.inl rfl) (hQ 0 (hf_up φ 208 0 (hb_i2l r1)) x (iv_upn hI (by decide) (by decide) (by decide +kernel)) (fr_upa fr_rf (by decide)) (Or.inr ⟨rfl, r1, hE1, hf_up_eq⟩) (by omega))
theorem lw_h161 {sc : List Int} {d x : Nat} {φ : hf_F} {Q : Option jm_V → hf_F → Nat → Prop} {v1 v2 v3 : Int} (hI : Inv φ) (h1a : -2147483648 ≤ v1) (h1b : v1 ≤ 2147483647) (h2a : -2147483648 ≤ v2) (h2b : v2 ≤ 2147483647) (h3a : -2147483648 ≤ v3) (h3b : v3 ≤ 2147483647) (hd : 10 ≤ d) (hQ : ∀ (r : Int) (ψ : hf_F) (y : Nat), Inv ψ → Fr [208] φ ψ → (r = 1 ∧ F_RideLaws_power_0 φ v1 v2 v3 = none ∨ r = 0 ∧ ∃ r1 : Int, F_RideLaws_power_0 φ v1 v2 v3 = some r1 ∧ ψ 208 0 = hb_i2l r1) → y ≤ x + 1 → Q (some (0, r)) ψ y) : hw sc (d + 5) 161 0 [(0, (2, 0)), (1, (0, v1)), (2, (0, v2)), (3, (0, v3)), (4, (2, 208))] [] φ x Q := by
  refine hw_ald (b := 4) (e := 1) (by decide +kernel) rfl (by decide) ?_
  refine hw_k (c := 0) (b := 0) (e := 1) (by decide +kernel) ?_
  refine hw_ald (b := 0) (e := 0) (by decide +kernel) rfl (by decide) ?_
  refine hw_ld (b := 1) (e := 0) (by decide +kernel) rfl ?_
  refine hw_ld (b := 2) (e := 0) (by decide +kernel) rfl ?_
  refine hw_ld (b := 3) (e := 0) (by decide +kernel) rfl ?_
  refine hr_try (a0 := 17) (b := 162) (e := 4) (nl := 4) (q := 5) (As := [(0, v1), (0, v2), (0, v3)]) (R := [(0, 0), (2, 208)]) 0 rfl (by decide +kernel) rfl rfl (Nat.le_of_ble_eq_true rfl) (Nat.le_of_ble_eq_true rfl) ?_
  refine sf_162_0 (φ := φ) hI (by omega) (by omega) (by omega) (by omega) (by omega) (by omega) (by omega) (fun ψ hI1 hF1 hE1 => ⟨fun _ => ?_, fun q => absurd rfl q⟩) (fun r1 hp1 hE1 => ⟨fun q => absurd q hne0, fun _ => ?_⟩)
  · show hw sc (d + 5) 161 17 (jm_drop [(0, (2, 0)), (1, (0, v1)), (2, (0, v2)), (3, (0, v3)), (4, (2, 208))] 5) [] ψ (x + 1) Q
    refine hw_k (c := 1) (b := 0) (e := 1) (by decide +kernel) ?_
    exact hw_ret (a0 := 0) (e := 0) (by decide +kernel) (Or.inl rfl) (hQ 1 ψ (x + 1) hI1 (fr_tr fr_rf hF1 (by decide)) (Or.inl ⟨rfl, hE1⟩) (by omega))
  · show hw sc (d + 5) 161 10 [(0, (2, 0)), (1, (0, v1)), (2, (0, v2)), (3, (0, v3)), (4, (2, 208))] [(0, r1), (0, 0), (2, 208)] φ x Q
    refine hw_conv (t' := 1) (w := hb_i2l r1) (a0 := 0) (b := 0) (e := 0) (by decide +kernel) rfl ?_
    refine hr_asl (a0 := 0) (e := 4) (n := 1) 208 rfl (by decide +kernel) (by decide) (by decide) ?_
    refine hw_goto (a0 := 0) (b := 0) (e := 19) (by decide +kernel) ?_
    refine hw_k (c := 0) (b := 0) (e := 1) (by decide +kernel) ?_
    exact hw_ret (a0 := 0) (e := 0) (by decide +kernel) (Or.inl rfl) (hQ 0 (hf_up φ 208 0 (hb_i2l r1)) x (iv_upn hI (by decide) (by decide) (by decide +kernel)) (fr_upa fr_rf (by decide)) (Or.inr ⟨rfl, r1, hE1, hf_up_eq⟩) (by omega))
theorem lw_h166 {sc : List Int} {d x : Nat} {φ : hf_F} {Q : Option jm_V → hf_F → Nat → Prop} {v1 v2 : Int} (hI : Inv φ) (h1a : -2147483648 ≤ v1) (h1b : v1 ≤ 2147483647) (h2a : -2147483648 ≤ v2) (h2b : v2 ≤ 2147483647) (hd : 10 ≤ d) (hQ : ∀ (r : Int) (ψ : hf_F) (y : Nat), Inv ψ → Fr [208] φ ψ → (r = 1 ∧ F_RideLaws_part_0 φ v1 v2 = none ∨ r = 0 ∧ ∃ r1 : Int, F_RideLaws_part_0 φ v1 v2 = some r1 ∧ ψ 208 0 = hb_i2l r1) → y ≤ x + 1 → Q (some (0, r)) ψ y) : hw sc (d + 2) 166 0 [(0, (2, 0)), (1, (0, v1)), (2, (0, v2)), (3, (2, 208))] [] φ x Q := by
  refine hw_ald (b := 3) (e := 0) (by decide +kernel) rfl (by decide) ?_
  refine hw_k (c := 0) (b := 0) (e := 1) (by decide +kernel) ?_
  refine hw_ald (b := 0) (e := 0) (by decide +kernel) rfl (by decide) ?_
  refine hw_ld (b := 1) (e := 0) (by decide +kernel) rfl ?_
  refine hw_ld (b := 2) (e := 0) (by decide +kernel) rfl ?_
  refine hr_try (a0 := 15) (b := 167) (e := 3) (nl := 3) (q := 4) (As := [(0, v1), (0, v2)]) (R := [(0, 0), (2, 208)]) 0 rfl (by decide +kernel) rfl rfl (Nat.le_of_ble_eq_true rfl) (Nat.le_of_ble_eq_true rfl) ?_
  refine sf_167_0 (φ := φ) hI (by omega) (by omega) (by omega) (by omega) (by omega) (fun ψ hI1 hF1 hE1 => ⟨fun _ => ?_, fun q => absurd rfl q⟩) (fun r1 hp1 hE1 => ⟨fun q => absurd q hne0, fun _ => ?_⟩)
  · show hw sc (d + 2) 166 15 (jm_drop [(0, (2, 0)), (1, (0, v1)), (2, (0, v2)), (3, (2, 208))] 4) [] ψ (x + 1) Q
    refine hw_k (c := 1) (b := 0) (e := 1) (by decide +kernel) ?_
    exact hw_ret (a0 := 0) (e := 0) (by decide +kernel) (Or.inl rfl) (hQ 1 ψ (x + 1) hI1 (fr_tr fr_rf hF1 (by decide)) (Or.inl ⟨rfl, hE1⟩) (by omega))
  · show hw sc (d + 2) 166 8 [(0, (2, 0)), (1, (0, v1)), (2, (0, v2)), (3, (2, 208))] [(0, r1), (0, 0), (2, 208)] φ x Q
    refine hw_conv (t' := 1) (w := hb_i2l r1) (a0 := 0) (b := 0) (e := 0) (by decide +kernel) rfl ?_
    refine hr_asl (a0 := 0) (e := 4) (n := 1) 208 rfl (by decide +kernel) (by decide) (by decide) ?_
    refine hw_goto (a0 := 0) (b := 0) (e := 17) (by decide +kernel) ?_
    refine hw_k (c := 0) (b := 0) (e := 1) (by decide +kernel) ?_
    exact hw_ret (a0 := 0) (e := 0) (by decide +kernel) (Or.inl rfl) (hQ 0 (hf_up φ 208 0 (hb_i2l r1)) x (iv_upn hI (by decide) (by decide) (by decide +kernel)) (fr_upa fr_rf (by decide)) (Or.inr ⟨rfl, r1, hE1, hf_up_eq⟩) (by omega))
theorem kp_c {z r : Int} {φ χ ψ : hf_F} (h : KP z r χ ψ) (hf : ∀ k : Nat, χ 207 k = φ 207 k) : KP z r φ ψ := by
  rcases h with ⟨h1, h2, h3, h4⟩ | ⟨h1, h2, h3⟩
  · exact Or.inl ⟨h1, h2, h3, fun k hk => (h4 k hk).trans (hf k)⟩
  · exact Or.inr ⟨h1, h2, fun k => (h3 k).trans (hf k)⟩
theorem kp_eq {z r s : Int} {φ ψ : hf_F} (h : r = 1 ∧ (z = 0 ∨ z = 1) ∨ r = 0 ∧ ¬ (z = 0 ∨ z = 1)) (h2 : KP z s φ ψ) : r = s := by
  rcases h2 with ⟨h3, h4, h5, h6⟩ | ⟨h3, h4, h5⟩ <;> omega
theorem kq_eq {z r s a b : Int} {φ : hf_F} (h : (r = 1 ∧ (z = 0 ∧ a = 1 ∨ z = 1 ∧ b = 1)) ∨ (r = 0 ∧ (¬ (z = 0 ∨ z = 1) ∨ z = 0 ∧ a = 0 ∨ z = 1 ∧ b = 0))) (h2 : KQ z s φ) (ha : φ 207 0 = a) (hb : φ 207 1 = b) : r = s := by
  have e0 : z = 0 → φ 207 z.toNat = a := fun q => by rw [q]; exact ha
  have e1 : z = 1 → φ 207 z.toNat = b := fun q => by rw [q]; exact hb
  unfold KQ at h2
  by_cases z0 : z = 0
  · have := e0 z0; omega
  · by_cases z1 : z = 1
    · have := e1 z1; omega
    · omega
theorem kr_im {z r s : Int} {φ ψ : hf_F} (hk : KR φ) (h : (r = 1 ∧ (z = 0 ∧ ψ 56 3 = 1 ∧ ψ 82 3 = φ 82 3 ∨ z = 1 ∧ ψ 82 3 = 1 ∧ ψ 56 3 = φ 56 3)) ∨ (r = 0 ∧ ¬ (z = 0 ∨ z = 1) ∧ ψ 56 3 = φ 56 3 ∧ ψ 82 3 = φ 82 3)) (h2 : KP z s φ ψ) : KR ψ := by
  obtain ⟨k1, k2⟩ := hk
  unfold KR
  rcases h2 with ⟨h3, h4, h5, h6⟩ | ⟨h3, h4, h5⟩
  · rcases h4 with h4 | h4
    · have h7 := h6 1 (by rw [h4]; decide)
      rw [h4] at h5
      have h5 : ψ 207 0 = 1 := h5
      omega
    · have h7 := h6 0 (by rw [h4]; decide)
      rw [h4] at h5
      have h5 : ψ 207 1 = 1 := h5
      omega
  · have a0 := h5 0
    have a1 := h5 1
    omega
theorem lw_c0 {sc : List Int} {d x : Nat} {φ : hf_F} {L : jm_L} {Q : Option jm_V → hf_F → Nat → Prop} {i : Int} (g0 : jm_get L 0 = some (4, 2)) (g1 : jm_get L 1 = some (2, 0)) (g2 : jm_get L 2 = some (2, 192)) (g3 : jm_get L 3 = some (2, 208)) (g4 : jm_get L 4 = some (0, i)) (hI : Inv φ) (hs : φ 1 2 = φ 192 2) (hk : KR φ) (hB : TPR φ φ) (hW : KWR φ φ) (hR : RLX φ φ) (h0 : 0 ≤ i) (h1 : i + 6 ≤ (sc.length : Int)) (hL : sc.length ≤ 3072) (hsc : SCP sc) (hd : 10 ≤ d)
    (hQ : (∀ (L1 : jm_L) (ψ : hf_F) (y : Nat), jm_get L1 0 = some (4, 2) → jm_get L1 1 = some (2, 0) → jm_get L1 2 = some (2, 192) → jm_get L1 3 = some (2, 208) → jm_get L1 4 = some (0, i) → Inv ψ → ψ 1 2 = ψ 192 2 → KR ψ → TPR ψ ψ → KWR ψ ψ → RLX ψ ψ → y ≤ x + 1 → hw sc (d + 24) 276 1263 L1 [] ψ y Q)) : hw sc (d + 24) 276 208 L [] φ x Q := by
  have f0 := hsc (i).toNat
  have f1 := hsc (i + 1).toNat
  have f2 := hsc (i + 2).toNat
  have f3 := hsc (i + 3).toNat
  have f4 := hsc (i + 4).toNat
  have f5 := hsc (i + 5).toNat
  have u1 := iv_at (a := 1) (k := 2) (lo := 0) (u := 940) hI (by decide +kernel)
  have u192 := iv_at (a := 192) (k := 2) (lo := 0) (u := 940) hI (by decide +kernel)
  refine hw_ald (b := 1) (e := 0) (by decide +kernel) g1 (by decide) ?_
  refine hw_tld (b := 0) (e := 0) (by decide +kernel) g0 ?_
  refine hw_ld (b := 4) (e := 1) (by decide +kernel) g4 ?_
  refine hw_k (c := 1) (b := 0) (e := 1) (by decide +kernel) ?_
  refine hw_bin (w := i + 1) (a0 := 0) (b := 0) (e := 0) (by decide +kernel) rfl ?_
  refine hw_sce (a0 := 0) (j := i + 1) (e := 0) (by decide +kernel) (by omega) (by omega) hL ?_
  refine hw_tld (b := 0) (e := 0) (by decide +kernel) g0 ?_
  refine hw_ld (b := 4) (e := 1) (by decide +kernel) g4 ?_
  refine hw_k (c := 2) (b := 0) (e := 1) (by decide +kernel) ?_
  refine hw_bin (w := i + 2) (a0 := 0) (b := 0) (e := 0) (by decide +kernel) rfl ?_
  refine hw_sce (a0 := 0) (j := i + 2) (e := 0) (by decide +kernel) (by omega) (by omega) hL ?_
  refine hw_tld (b := 0) (e := 0) (by decide +kernel) g0 ?_
  refine hw_ld (b := 4) (e := 1) (by decide +kernel) g4 ?_
  refine hw_k (c := 3) (b := 0) (e := 1) (by decide +kernel) ?_
  refine hw_bin (w := i + 3) (a0 := 0) (b := 0) (e := 0) (by decide +kernel) rfl ?_
  refine hw_sce (a0 := 0) (j := i + 3) (e := 0) (by decide +kernel) (by omega) (by omega) hL ?_
  refine hw_tld (b := 0) (e := 0) (by decide +kernel) g0 ?_
  refine hw_ld (b := 4) (e := 1) (by decide +kernel) g4 ?_
  refine hw_k (c := 4) (b := 0) (e := 1) (by decide +kernel) ?_
  refine hw_bin (w := i + 4) (a0 := 0) (b := 0) (e := 0) (by decide +kernel) rfl ?_
  refine hw_sce (a0 := 0) (j := i + 4) (e := 0) (by decide +kernel) (by omega) (by omega) hL ?_
  refine hw_tld (b := 0) (e := 0) (by decide +kernel) g0 ?_
  refine hw_ld (b := 4) (e := 1) (by decide +kernel) g4 ?_
  refine hw_k (c := 5) (b := 0) (e := 1) (by decide +kernel) ?_
  refine hw_bin (w := i + 5) (a0 := 0) (b := 0) (e := 0) (by decide +kernel) rfl ?_
  refine hw_sce (a0 := 0) (j := i + 5) (e := 0) (by decide +kernel) (by omega) (by omega) hL ?_
  refine hr_call (a0 := 10) (b := 21) (e := 6) (nl := 6) (As := [(0, sc.getD (i + 1).toNat 0), (0, sc.getD (i + 2).toNat 0), (0, sc.getD (i + 3).toNat 0), (0, sc.getD (i + 4).toNat 0), (0, sc.getD (i + 5).toNat 0)]) (R := []) 0 rfl (by decide +kernel) rfl rfl (Nat.le_of_ble_eq_true rfl) (Nat.le_of_ble_eq_true rfl) ?_
  refine sf_21_0 (φ := φ) hI (by omega) (by omega) (by omega) (by omega) (by omega) (by omega) (by omega) (by omega) (by omega) (by omega) (fun r1 ψ1 hI1 hF1 hp1 hE1 => ⟨hne0, ?_⟩)
  have e1_192_2 : ψ1 192 2 = φ 192 2 := fr_fd hF1 192 2 (by decide)
  have e1_56_3 : ψ1 56 3 = φ 56 3 := fr_fd hF1 56 3 (by decide)
  have e1_82_3 : ψ1 82 3 = φ 82 3 := fr_fd hF1 82 3 (by decide)
  have e1_207_0 : ψ1 207 0 = φ 207 0 := fr_at hF1 207 (by decide) 0
  have e1_207_1 : ψ1 207 1 = φ 207 1 := fr_at hF1 207 (by decide) 1
  show hw sc (d + 24) 276 242 L [(0, r1)] ψ1 x Q
  refine hw_pop (a0 := 0) (e := 0) (by decide +kernel) (by decide) ?_
  refine hw_ald (b := 2) (e := 0) (by decide +kernel) g2 (by decide) ?_
  refine hw_tld (b := 0) (e := 0) (by decide +kernel) g0 ?_
  refine hw_ld (b := 4) (e := 1) (by decide +kernel) g4 ?_
  refine hw_k (c := 1) (b := 0) (e := 1) (by decide +kernel) ?_
  refine hw_bin (w := i + 1) (a0 := 0) (b := 0) (e := 0) (by decide +kernel) rfl ?_
  refine hw_sce (a0 := 0) (j := i + 1) (e := 0) (by decide +kernel) (by omega) (by omega) hL ?_
  refine hw_tld (b := 0) (e := 0) (by decide +kernel) g0 ?_
  refine hw_ld (b := 4) (e := 1) (by decide +kernel) g4 ?_
  refine hw_k (c := 2) (b := 0) (e := 1) (by decide +kernel) ?_
  refine hw_bin (w := i + 2) (a0 := 0) (b := 0) (e := 0) (by decide +kernel) rfl ?_
  refine hw_sce (a0 := 0) (j := i + 2) (e := 0) (by decide +kernel) (by omega) (by omega) hL ?_
  refine hw_tld (b := 0) (e := 0) (by decide +kernel) g0 ?_
  refine hw_ld (b := 4) (e := 1) (by decide +kernel) g4 ?_
  refine hw_k (c := 3) (b := 0) (e := 1) (by decide +kernel) ?_
  refine hw_bin (w := i + 3) (a0 := 0) (b := 0) (e := 0) (by decide +kernel) rfl ?_
  refine hw_sce (a0 := 0) (j := i + 3) (e := 0) (by decide +kernel) (by omega) (by omega) hL ?_
  refine hw_tld (b := 0) (e := 0) (by decide +kernel) g0 ?_
  refine hw_ld (b := 4) (e := 1) (by decide +kernel) g4 ?_
  refine hw_k (c := 4) (b := 0) (e := 1) (by decide +kernel) ?_
  refine hw_bin (w := i + 4) (a0 := 0) (b := 0) (e := 0) (by decide +kernel) rfl ?_
  refine hw_sce (a0 := 0) (j := i + 4) (e := 0) (by decide +kernel) (by omega) (by omega) hL ?_
  refine hw_tld (b := 0) (e := 0) (by decide +kernel) g0 ?_
  refine hw_ld (b := 4) (e := 1) (by decide +kernel) g4 ?_
  refine hw_k (c := 5) (b := 0) (e := 1) (by decide +kernel) ?_
  refine hw_bin (w := i + 5) (a0 := 0) (b := 0) (e := 0) (by decide +kernel) rfl ?_
  refine hw_sce (a0 := 0) (j := i + 5) (e := 0) (by decide +kernel) (by omega) (by omega) hL ?_
  refine hr_call (a0 := 22) (b := 168) (e := 6) (nl := 6) (As := [(0, sc.getD (i + 1).toNat 0), (0, sc.getD (i + 2).toNat 0), (0, sc.getD (i + 3).toNat 0), (0, sc.getD (i + 4).toNat 0), (0, sc.getD (i + 5).toNat 0)]) (R := []) 192 rfl (by decide +kernel) rfl rfl (Nat.le_of_ble_eq_true rfl) (Nat.le_of_ble_eq_true rfl) ?_
  refine sf_168_192 (φ := ψ1) hI1 (by omega) (by omega) (by omega) (by omega) (by omega) (by omega) (by omega) (by omega) (by omega) (by omega) (fun r2 ψ2 hI2 hF2 hp2 hE2 => ⟨hne0, ?_⟩)
  have e2_1_2 : ψ2 1 2 = ψ1 1 2 := fr_fd hF2 1 2 (by decide)
  have e2_56_3 : ψ2 56 3 = ψ1 56 3 := fr_fd hF2 56 3 (by decide)
  have e2_82_3 : ψ2 82 3 = ψ1 82 3 := fr_fd hF2 82 3 (by decide)
  have e2_207_0 : ψ2 207 0 = ψ1 207 0 := fr_at hF2 207 (by decide) 0
  have e2_207_1 : ψ2 207 1 = ψ1 207 1 := fr_at hF2 207 (by decide) 1
  have hx := gq_feed hI hI1 hI2 hF1 hF2 hR hs hW hB hE1 hE2
  show hw sc (d + 24) 276 277 L [(0, r2)] ψ2 x Q
  refine hw_pop (a0 := 0) (e := 0) (by decide +kernel) (by decide) ?_
  refine hw_goto (a0 := 0) (b := 0) (e := 1263) (by decide +kernel) ?_
  have hfd := feed_rel (χ := ψ1) hI ⟨hs.trans (fr_fd hF1 192 2 (by decide)).symm, tpr_f hB (fun _ => rfl) (fun k => fr_at hF1 193 (by decide) k)⟩ hE1 hE2
  exact hQ L ψ2 x g0 g1 g2 g3 g4 hI2 (by omega) ⟨by have := hk.1; omega, by have := hk.2; omega⟩ (tpr_f hfd.2.2 (fun k => fr_at hF2 2 (by decide) k) (fun _ => rfl)) (kwr_f hW (fun k => ((fr_at hF2 3 (by decide) k).trans (fr_at hF1 3 (by decide) k))) (fun k => ((fr_at hF2 198 (by decide) k).trans (fr_at hF1 198 (by decide) k)))) hx (by omega)
theorem lw_c1 {sc : List Int} {d x : Nat} {φ : hf_F} {L : jm_L} {Q : Option jm_V → hf_F → Nat → Prop} {i : Int} (g0 : jm_get L 0 = some (4, 2)) (g1 : jm_get L 1 = some (2, 0)) (g2 : jm_get L 2 = some (2, 192)) (g3 : jm_get L 3 = some (2, 208)) (g4 : jm_get L 4 = some (0, i)) (hI : Inv φ) (hs : φ 1 2 = φ 192 2) (hk : KR φ) (hB : TPR φ φ) (hW : KWR φ φ) (hR : RLX φ φ) (h0 : 0 ≤ i) (h1 : i + 6 ≤ (sc.length : Int)) (hL : sc.length ≤ 3072) (hsc : SCP sc) (hd : 10 ≤ d)
    (hQ : (∀ (L1 : jm_L) (ψ : hf_F) (y : Nat), jm_get L1 0 = some (4, 2) → jm_get L1 1 = some (2, 0) → jm_get L1 2 = some (2, 192) → jm_get L1 3 = some (2, 208) → jm_get L1 4 = some (0, i) → Inv ψ → ψ 1 2 = ψ 192 2 → KR ψ → TPR ψ ψ → KWR ψ ψ → RLX ψ ψ → y ≤ x + 1 → hw sc (d + 24) 276 1263 L1 [] ψ y Q)) : hw sc (d + 24) 276 281 L [] φ x Q := by
  have f0 := hsc (i).toNat
  have f1 := hsc (i + 1).toNat
  have f2 := hsc (i + 2).toNat
  have f3 := hsc (i + 3).toNat
  have f4 := hsc (i + 4).toNat
  have f5 := hsc (i + 5).toNat
  have u1 := iv_at (a := 1) (k := 2) (lo := 0) (u := 940) hI (by decide +kernel)
  have u192 := iv_at (a := 192) (k := 2) (lo := 0) (u := 940) hI (by decide +kernel)
  refine hw_ald (b := 1) (e := 0) (by decide +kernel) g1 (by decide) ?_
  refine hw_tld (b := 0) (e := 0) (by decide +kernel) g0 ?_
  refine hw_ld (b := 4) (e := 1) (by decide +kernel) g4 ?_
  refine hw_k (c := 1) (b := 0) (e := 1) (by decide +kernel) ?_
  refine hw_bin (w := i + 1) (a0 := 0) (b := 0) (e := 0) (by decide +kernel) rfl ?_
  refine hw_sce (a0 := 0) (j := i + 1) (e := 0) (by decide +kernel) (by omega) (by omega) hL ?_
  refine hr_call (a0 := 10) (b := 23) (e := 2) (nl := 2) (As := [(0, sc.getD (i + 1).toNat 0)]) (R := []) 0 rfl (by decide +kernel) rfl rfl (Nat.le_of_ble_eq_true rfl) (Nat.le_of_ble_eq_true rfl) ?_
  refine sf_23_0 (φ := φ) hI (by omega) (by omega) (fun r1 ψ1 hI1 hF1 hp1 hE1 => ⟨hne0, ?_⟩)
  have e1_192_2 : ψ1 192 2 = φ 192 2 := fr_fd hF1 192 2 (by decide)
  have e1_56_3 : ψ1 56 3 = φ 56 3 := fr_fd hF1 56 3 (by decide)
  have e1_82_3 : ψ1 82 3 = φ 82 3 := fr_fd hF1 82 3 (by decide)
  have e1_207_0 : ψ1 207 0 = φ 207 0 := fr_at hF1 207 (by decide) 0
  have e1_207_1 : ψ1 207 1 = φ 207 1 := fr_at hF1 207 (by decide) 1
  show hw sc (d + 24) 276 291 L [(0, r1)] ψ1 x Q
  refine hw_pop (a0 := 0) (e := 0) (by decide +kernel) (by decide) ?_
  refine hw_ald (b := 2) (e := 0) (by decide +kernel) g2 (by decide) ?_
  refine hw_tld (b := 0) (e := 0) (by decide +kernel) g0 ?_
  refine hw_ld (b := 4) (e := 1) (by decide +kernel) g4 ?_
  refine hw_k (c := 1) (b := 0) (e := 1) (by decide +kernel) ?_
  refine hw_bin (w := i + 1) (a0 := 0) (b := 0) (e := 0) (by decide +kernel) rfl ?_
  refine hw_sce (a0 := 0) (j := i + 1) (e := 0) (by decide +kernel) (by omega) (by omega) hL ?_
  refine hr_call (a0 := 22) (b := 170) (e := 2) (nl := 2) (As := [(0, sc.getD (i + 1).toNat 0)]) (R := []) 192 rfl (by decide +kernel) rfl rfl (Nat.le_of_ble_eq_true rfl) (Nat.le_of_ble_eq_true rfl) ?_
  refine sf_170_192 (φ := ψ1) hI1 (by omega) (by omega) (fun r2 ψ2 hI2 hF2 hp2 hE2 => ⟨hne0, ?_⟩)
  have e2_1_2 : ψ2 1 2 = ψ1 1 2 := fr_fd hF2 1 2 (by decide)
  have e2_56_3 : ψ2 56 3 = ψ1 56 3 := fr_fd hF2 56 3 (by decide)
  have e2_82_3 : ψ2 82 3 = ψ1 82 3 := fr_fd hF2 82 3 (by decide)
  have e2_207_0 : ψ2 207 0 = ψ1 207 0 := fr_at hF2 207 (by decide) 0
  have e2_207_1 : ψ2 207 1 = ψ1 207 1 := fr_at hF2 207 (by decide) 1
  have hx := gq_end hI hI1 hI2 hF1 hF2 hR hs hW hB hE1 hE2
  show hw sc (d + 24) 276 302 L [(0, r2)] ψ2 x Q
  refine hw_pop (a0 := 0) (e := 0) (by decide +kernel) (by decide) ?_
  refine hw_goto (a0 := 0) (b := 0) (e := 1263) (by decide +kernel) ?_
  exact hQ L ψ2 x g0 g1 g2 g3 g4 hI2 (by omega) ⟨by have := hk.1; omega, by have := hk.2; omega⟩ (tpr_f hB (fun k => ((fr_at hF2 2 (by decide) k).trans (fr_at hF1 2 (by decide) k))) (fun k => ((fr_at hF2 193 (by decide) k).trans (fr_at hF1 193 (by decide) k)))) (kwr_f hW (fun k => ((fr_at hF2 3 (by decide) k).trans (fr_at hF1 3 (by decide) k))) (fun k => ((fr_at hF2 198 (by decide) k).trans (fr_at hF1 198 (by decide) k)))) hx (by omega)
theorem lw_c2 {sc : List Int} {d x : Nat} {φ : hf_F} {L : jm_L} {Q : Option jm_V → hf_F → Nat → Prop} {i : Int} (g0 : jm_get L 0 = some (4, 2)) (g1 : jm_get L 1 = some (2, 0)) (g2 : jm_get L 2 = some (2, 192)) (g3 : jm_get L 3 = some (2, 208)) (g4 : jm_get L 4 = some (0, i)) (hI : Inv φ) (hs : φ 1 2 = φ 192 2) (hk : KR φ) (hB : TPR φ φ) (hW : KWR φ φ) (hR : RLX φ φ) (h0 : 0 ≤ i) (h1 : i + 6 ≤ (sc.length : Int)) (hL : sc.length ≤ 3072) (hsc : SCP sc) (hd : 10 ≤ d)
    (hQ : (∀ (L1 : jm_L) (ψ : hf_F) (y : Nat), jm_get L1 0 = some (4, 2) → jm_get L1 1 = some (2, 0) → jm_get L1 2 = some (2, 192) → jm_get L1 3 = some (2, 208) → jm_get L1 4 = some (0, i) → Inv ψ → ψ 1 2 = ψ 192 2 → KR ψ → TPR ψ ψ → KWR ψ ψ → RLX ψ ψ → y ≤ x + 1 → hw sc (d + 24) 276 1263 L1 [] ψ y Q)) : hw sc (d + 24) 276 306 L [] φ x Q := by
  have f0 := hsc (i).toNat
  have f1 := hsc (i + 1).toNat
  have f2 := hsc (i + 2).toNat
  have f3 := hsc (i + 3).toNat
  have f4 := hsc (i + 4).toNat
  have f5 := hsc (i + 5).toNat
  have u1 := iv_at (a := 1) (k := 2) (lo := 0) (u := 940) hI (by decide +kernel)
  have u192 := iv_at (a := 192) (k := 2) (lo := 0) (u := 940) hI (by decide +kernel)
  refine hw_ald (b := 1) (e := 0) (by decide +kernel) g1 (by decide) ?_
  refine hr_call (a0 := 10) (b := 24) (e := 1) (nl := 2) (As := []) (R := []) 0 rfl (by decide +kernel) rfl rfl (Nat.le_of_ble_eq_true rfl) (Nat.le_of_ble_eq_true rfl) ?_
  refine sf_24_0 (φ := φ) hI  (fun r1 ψ1 hI1 hF1 hp1 hE1 => ⟨hne0, ?_⟩)
  have e1_192_2 : ψ1 192 2 = φ 192 2 := fr_fd hF1 192 2 (by decide)
  have e1_56_3 : ψ1 56 3 = φ 56 3 := fr_fd hF1 56 3 (by decide)
  have e1_82_3 : ψ1 82 3 = φ 82 3 := fr_fd hF1 82 3 (by decide)
  have e1_207_0 : ψ1 207 0 = φ 207 0 := fr_at hF1 207 (by decide) 0
  have e1_207_1 : ψ1 207 1 = φ 207 1 := fr_at hF1 207 (by decide) 1
  show hw sc (d + 24) 276 310 L [(0, r1)] ψ1 x Q
  refine hw_pop (a0 := 0) (e := 0) (by decide +kernel) (by decide) ?_
  refine hw_ald (b := 2) (e := 0) (by decide +kernel) g2 (by decide) ?_
  refine hr_call (a0 := 22) (b := 173) (e := 1) (nl := 2) (As := []) (R := []) 192 rfl (by decide +kernel) rfl rfl (Nat.le_of_ble_eq_true rfl) (Nat.le_of_ble_eq_true rfl) ?_
  refine sf_173_192 (φ := ψ1) hI1  (fun r2 ψ2 hI2 hF2 hp2 hE2 => ⟨hne0, ?_⟩)
  have e2_1_2 : ψ2 1 2 = ψ1 1 2 := fr_fd hF2 1 2 (by decide)
  have e2_56_3 : ψ2 56 3 = ψ1 56 3 := fr_fd hF2 56 3 (by decide)
  have e2_82_3 : ψ2 82 3 = ψ1 82 3 := fr_fd hF2 82 3 (by decide)
  have e2_207_0 : ψ2 207 0 = ψ1 207 0 := fr_at hF2 207 (by decide) 0
  have e2_207_1 : ψ2 207 1 = ψ1 207 1 := fr_at hF2 207 (by decide) 1
  have hx := gq_ride hI hI1 hI2 hF1 hF2 hR hs hW hB hE1 hE2
  show hw sc (d + 24) 276 315 L [(0, r2)] ψ2 x Q
  refine hw_pop (a0 := 0) (e := 0) (by decide +kernel) (by decide) ?_
  refine hw_goto (a0 := 0) (b := 0) (e := 1263) (by decide +kernel) ?_
  exact hQ L ψ2 x g0 g1 g2 g3 g4 hI2 (by omega) ⟨by have := hk.1; omega, by have := hk.2; omega⟩ (tpr_f hB (fun k => ((fr_at hF2 2 (by decide) k).trans (fr_at hF1 2 (by decide) k))) (fun k => ((fr_at hF2 193 (by decide) k).trans (fr_at hF1 193 (by decide) k)))) (kwr_f hW (fun k => ((fr_at hF2 3 (by decide) k).trans (fr_at hF1 3 (by decide) k))) (fun k => ((fr_at hF2 198 (by decide) k).trans (fr_at hF1 198 (by decide) k)))) hx.2 (by omega)
theorem lw_c3 {sc : List Int} {d x : Nat} {φ : hf_F} {L : jm_L} {Q : Option jm_V → hf_F → Nat → Prop} {i : Int} (g0 : jm_get L 0 = some (4, 2)) (g1 : jm_get L 1 = some (2, 0)) (g2 : jm_get L 2 = some (2, 192)) (g3 : jm_get L 3 = some (2, 208)) (g4 : jm_get L 4 = some (0, i)) (hI : Inv φ) (hs : φ 1 2 = φ 192 2) (hk : KR φ) (hB : TPR φ φ) (hW : KWR φ φ) (hR : RLX φ φ) (h0 : 0 ≤ i) (h1 : i + 6 ≤ (sc.length : Int)) (hL : sc.length ≤ 3072) (hsc : SCP sc) (hd : 10 ≤ d)
    (hQ : (∀ (L1 : jm_L) (ψ : hf_F) (y : Nat), jm_get L1 0 = some (4, 2) → jm_get L1 1 = some (2, 0) → jm_get L1 2 = some (2, 192) → jm_get L1 3 = some (2, 208) → jm_get L1 4 = some (0, i) → Inv ψ → ψ 1 2 = ψ 192 2 → KR ψ → TPR ψ ψ → KWR ψ ψ → RLX ψ ψ → y ≤ x + 1 → hw sc (d + 24) 276 1263 L1 [] ψ y Q)) : hw sc (d + 24) 276 319 L [] φ x Q := by
  have f0 := hsc (i).toNat
  have f1 := hsc (i + 1).toNat
  have f2 := hsc (i + 2).toNat
  have f3 := hsc (i + 3).toNat
  have f4 := hsc (i + 4).toNat
  have f5 := hsc (i + 5).toNat
  have u1 := iv_at (a := 1) (k := 2) (lo := 0) (u := 940) hI (by decide +kernel)
  have u192 := iv_at (a := 192) (k := 2) (lo := 0) (u := 940) hI (by decide +kernel)
  refine hw_ald (b := 1) (e := 0) (by decide +kernel) g1 (by decide) ?_
  refine hr_call (a0 := 10) (b := 68) (e := 1) (nl := 1) (As := []) (R := []) 0 rfl (by decide +kernel) rfl rfl (Nat.le_of_ble_eq_true rfl) (Nat.le_of_ble_eq_true rfl) ?_
  refine sf_68_0 (φ := φ) hI  (fun r1 hp1 hE1 => ⟨hne0, ?_⟩)
  show hw sc (d + 24) 276 323 L [(0, r1)] φ x Q
  refine hw_pop (a0 := 0) (e := 0) (by decide +kernel) (by decide) ?_
  refine hw_ald (b := 2) (e := 0) (by decide +kernel) g2 (by decide) ?_
  refine hr_call (a0 := 22) (b := 200) (e := 1) (nl := 1) (As := []) (R := []) 192 rfl (by decide +kernel) rfl rfl (Nat.le_of_ble_eq_true rfl) (Nat.le_of_ble_eq_true rfl) ?_
  refine sf_200_192 (φ := φ) hI  (fun r2 ψ2 hI2 hF2 hp2 hE2 => ⟨hne0, ?_⟩)
  have e2_1_2 : ψ2 1 2 = φ 1 2 := fr_fd hF2 1 2 (by decide)
  have e2_192_2 : ψ2 192 2 = φ 192 2 := fr_fd hF2 192 2 (by decide)
  have e2_56_3 : ψ2 56 3 = φ 56 3 := fr_fd hF2 56 3 (by decide)
  have e2_82_3 : ψ2 82 3 = φ 82 3 := fr_fd hF2 82 3 (by decide)
  have e2_207_0 : ψ2 207 0 = φ 207 0 := fr_at hF2 207 (by decide) 0
  have e2_207_1 : ψ2 207 1 = φ 207 1 := fr_at hF2 207 (by decide) 1
  have hx := gq_fault hI hI2 hF2 hR hs hW hB hE1 hE2
  show hw sc (d + 24) 276 328 L [(0, r2)] ψ2 x Q
  refine hw_pop (a0 := 0) (e := 0) (by decide +kernel) (by decide) ?_
  refine hw_goto (a0 := 0) (b := 0) (e := 1263) (by decide +kernel) ?_
  exact hQ L ψ2 x g0 g1 g2 g3 g4 hI2 (by omega) ⟨by have := hk.1; omega, by have := hk.2; omega⟩ (tpr_f hB (fun k => (fr_at hF2 2 (by decide) k)) (fun k => (fr_at hF2 193 (by decide) k))) (kwr_f hW (fun k => (fr_at hF2 3 (by decide) k)) (fun k => (fr_at hF2 198 (by decide) k))) hx.2 (by omega)
theorem lw_c4 {sc : List Int} {d x : Nat} {φ : hf_F} {L : jm_L} {Q : Option jm_V → hf_F → Nat → Prop} {i : Int} (g0 : jm_get L 0 = some (4, 2)) (g1 : jm_get L 1 = some (2, 0)) (g2 : jm_get L 2 = some (2, 192)) (g3 : jm_get L 3 = some (2, 208)) (g4 : jm_get L 4 = some (0, i)) (hI : Inv φ) (hs : φ 1 2 = φ 192 2) (hk : KR φ) (hB : TPR φ φ) (hW : KWR φ φ) (hR : RLX φ φ) (h0 : 0 ≤ i) (h1 : i + 6 ≤ (sc.length : Int)) (hL : sc.length ≤ 3072) (hsc : SCP sc) (hd : 10 ≤ d)
    (hQ : (∀ (L1 : jm_L) (ψ : hf_F) (y : Nat), jm_get L1 0 = some (4, 2) → jm_get L1 1 = some (2, 0) → jm_get L1 2 = some (2, 192) → jm_get L1 3 = some (2, 208) → jm_get L1 4 = some (0, i) → Inv ψ → ψ 1 2 = ψ 192 2 → KR ψ → TPR ψ ψ → KWR ψ ψ → RLX ψ ψ → y ≤ x + 1 → hw sc (d + 24) 276 1263 L1 [] ψ y Q)) : hw sc (d + 24) 276 332 L [] φ x Q := by
  have f0 := hsc (i).toNat
  have f1 := hsc (i + 1).toNat
  have f2 := hsc (i + 2).toNat
  have f3 := hsc (i + 3).toNat
  have f4 := hsc (i + 4).toNat
  have f5 := hsc (i + 5).toNat
  have u1 := iv_at (a := 1) (k := 2) (lo := 0) (u := 940) hI (by decide +kernel)
  have u192 := iv_at (a := 192) (k := 2) (lo := 0) (u := 940) hI (by decide +kernel)
  refine hw_ald (b := 1) (e := 0) (by decide +kernel) g1 (by decide) ?_
  refine hw_tld (b := 0) (e := 0) (by decide +kernel) g0 ?_
  refine hw_ld (b := 4) (e := 1) (by decide +kernel) g4 ?_
  refine hw_k (c := 1) (b := 0) (e := 1) (by decide +kernel) ?_
  refine hw_bin (w := i + 1) (a0 := 0) (b := 0) (e := 0) (by decide +kernel) rfl ?_
  refine hw_sce (a0 := 0) (j := i + 1) (e := 0) (by decide +kernel) (by omega) (by omega) hL ?_
  refine hw_tld (b := 0) (e := 0) (by decide +kernel) g0 ?_
  refine hw_ld (b := 4) (e := 1) (by decide +kernel) g4 ?_
  refine hw_k (c := 2) (b := 0) (e := 1) (by decide +kernel) ?_
  refine hw_bin (w := i + 2) (a0 := 0) (b := 0) (e := 0) (by decide +kernel) rfl ?_
  refine hw_sce (a0 := 0) (j := i + 2) (e := 0) (by decide +kernel) (by omega) (by omega) hL ?_
  refine hw_ald (b := 3) (e := 0) (by decide +kernel) g3 (by decide) ?_
  refine hr_callw (b := 159) (e := 4) (nl := 5) (As := [(2, 0), (0, sc.getD (i + 1).toNat 0), (0, sc.getD (i + 2).toNat 0), (2, 208)]) (R := []) (by decide +kernel) rfl rfl (Nat.le_of_ble_eq_true rfl) (Nat.le_of_ble_eq_true rfl) ?_
  refine lw_h159 (φ := φ) hI (by omega) (by omega) (by omega) (by omega) (by omega) (fun r1 ψ1 y1 hI1 hF1 hE1 hy1 => ⟨hne0, ?_⟩)
  have e1_1_2 : ψ1 1 2 = φ 1 2 := fr_fd hF1 1 2 (by decide)
  have e1_192_2 : ψ1 192 2 = φ 192 2 := fr_fd hF1 192 2 (by decide)
  have e1_56_3 : ψ1 56 3 = φ 56 3 := fr_fd hF1 56 3 (by decide)
  have e1_82_3 : ψ1 82 3 = φ 82 3 := fr_fd hF1 82 3 (by decide)
  have e1_207_0 : ψ1 207 0 = φ 207 0 := fr_at hF1 207 (by decide) 0
  have e1_207_1 : ψ1 207 1 = φ 207 1 := fr_at hF1 207 (by decide) 1
  show hw sc (d + 24) 276 349 L [(0, r1)] ψ1 y1 Q
  refine hw_st (L' := (jm_st1 L 5 (0, r1))) (b := 5) (e := 1) (by decide +kernel) rfl ?_
  refine hw_ald (b := 2) (e := 0) (by decide +kernel) (get_st1 g2 (by decide) (fun q => absurd q.1 (by decide))) (by decide) ?_
  refine hw_tld (b := 0) (e := 0) (by decide +kernel) (get_st1 g0 (by decide) (fun q => absurd q.1 (by decide))) ?_
  refine hw_ld (b := 4) (e := 1) (by decide +kernel) (get_st1 g4 (by decide) (fun q => tg0 q.2)) ?_
  refine hw_k (c := 1) (b := 0) (e := 1) (by decide +kernel) ?_
  refine hw_bin (w := i + 1) (a0 := 0) (b := 0) (e := 0) (by decide +kernel) rfl ?_
  refine hw_sce (a0 := 0) (j := i + 1) (e := 0) (by decide +kernel) (by omega) (by omega) hL ?_
  refine hw_tld (b := 0) (e := 0) (by decide +kernel) (get_st1 g0 (by decide) (fun q => absurd q.1 (by decide))) ?_
  refine hw_ld (b := 4) (e := 1) (by decide +kernel) (get_st1 g4 (by decide) (fun q => tg0 q.2)) ?_
  refine hw_k (c := 2) (b := 0) (e := 1) (by decide +kernel) ?_
  refine hw_bin (w := i + 2) (a0 := 0) (b := 0) (e := 0) (by decide +kernel) rfl ?_
  refine hw_sce (a0 := 0) (j := i + 2) (e := 0) (by decide +kernel) (by omega) (by omega) hL ?_
  refine hr_call (a0 := 22) (b := 201) (e := 3) (nl := 3) (As := [(0, sc.getD (i + 1).toNat 0), (0, sc.getD (i + 2).toNat 0)]) (R := []) 192 rfl (by decide +kernel) rfl rfl (Nat.le_of_ble_eq_true rfl) (Nat.le_of_ble_eq_true rfl) ?_
  refine sf_201_192 (φ := ψ1) hI1 (by omega) (by omega) (by omega) (by omega) (fun r2 ψ2 hI2 hF2 hp2 hE2 => ⟨hne0, ?_⟩)
  have e2_1_2 : ψ2 1 2 = ψ1 1 2 := fr_fd hF2 1 2 (by decide)
  have e2_192_2 : ψ2 192 2 = ψ1 192 2 := fr_fd hF2 192 2 (by decide)
  have e2_56_3 : ψ2 56 3 = ψ1 56 3 := fr_fd hF2 56 3 (by decide)
  have e2_82_3 : ψ2 82 3 = ψ1 82 3 := fr_fd hF2 82 3 (by decide)
  have e2_207_0 : ψ2 207 0 = ψ1 207 0 := fr_at hF2 207 (by decide) 0
  have e2_207_1 : ψ2 207 1 = ψ1 207 1 := fr_at hF2 207 (by decide) 1
  have hx : RLX ψ2 ψ2 := by
    rcases hE1 with ⟨_, hEo⟩ | ⟨_, _, hEo, _⟩ <;> exact (gq_rider hI hI1 hI2 hF1 hF2 hR hs hW hB hEo hE2).2
  show hw sc (d + 24) 276 367 (jm_st1 L 5 (0, r1)) [(0, r2)] ψ2 y1 Q
  refine hw_st (L' := (jm_st1 (jm_st1 L 5 (0, r1)) 6 (0, r2))) (b := 6) (e := 1) (by decide +kernel) rfl ?_
  refine hw_goto (a0 := 0) (b := 0) (e := 1263) (by decide +kernel) ?_
  exact hQ (jm_st1 (jm_st1 L 5 (0, r1)) 6 (0, r2)) ψ2 y1 (get_st1 (get_st1 g0 (by decide) (fun q => absurd q.1 (by decide))) (by decide) (fun q => absurd q.1 (by decide))) (get_st1 (get_st1 g1 (by decide) (fun q => absurd q.1 (by decide))) (by decide) (fun q => absurd q.1 (by decide))) (get_st1 (get_st1 g2 (by decide) (fun q => absurd q.1 (by decide))) (by decide) (fun q => absurd q.1 (by decide))) (get_st1 (get_st1 g3 (by decide) (fun q => absurd q.1 (by decide))) (by decide) (fun q => absurd q.1 (by decide))) (get_st1 (get_st1 g4 (by decide) (fun q => tg0 q.2)) (by decide) (fun q => absurd q.1 (by decide))) hI2 (by omega) ⟨by have := hk.1; omega, by have := hk.2; omega⟩ (tpr_f hB (fun k => ((fr_at hF2 2 (by decide) k).trans (fr_at hF1 2 (by decide) k))) (fun k => ((fr_at hF2 193 (by decide) k).trans (fr_at hF1 193 (by decide) k)))) (kwr_f hW (fun k => ((fr_at hF2 3 (by decide) k).trans (fr_at hF1 3 (by decide) k))) (fun k => ((fr_at hF2 198 (by decide) k).trans (fr_at hF1 198 (by decide) k)))) hx (by omega)
theorem lw_c5 {sc : List Int} {d x : Nat} {φ : hf_F} {L : jm_L} {Q : Option jm_V → hf_F → Nat → Prop} {i : Int} (g0 : jm_get L 0 = some (4, 2)) (g1 : jm_get L 1 = some (2, 0)) (g2 : jm_get L 2 = some (2, 192)) (g3 : jm_get L 3 = some (2, 208)) (g4 : jm_get L 4 = some (0, i)) (hI : Inv φ) (hs : φ 1 2 = φ 192 2) (hk : KR φ) (hB : TPR φ φ) (hW : KWR φ φ) (hR : RLX φ φ) (h0 : 0 ≤ i) (h1 : i + 6 ≤ (sc.length : Int)) (hL : sc.length ≤ 3072) (hsc : SCP sc) (hd : 10 ≤ d)
    (hQ : (∀ (L1 : jm_L) (ψ : hf_F) (y : Nat), jm_get L1 0 = some (4, 2) → jm_get L1 1 = some (2, 0) → jm_get L1 2 = some (2, 192) → jm_get L1 3 = some (2, 208) → jm_get L1 4 = some (0, i) → Inv ψ → ψ 1 2 = ψ 192 2 → KR ψ → TPR ψ ψ → KWR ψ ψ → RLX ψ ψ → y ≤ x + 1 → hw sc (d + 24) 276 1263 L1 [] ψ y Q)) : hw sc (d + 24) 276 372 L [] φ x Q := by
  have f0 := hsc (i).toNat
  have f1 := hsc (i + 1).toNat
  have f2 := hsc (i + 2).toNat
  have f3 := hsc (i + 3).toNat
  have f4 := hsc (i + 4).toNat
  have f5 := hsc (i + 5).toNat
  have u1 := iv_at (a := 1) (k := 2) (lo := 0) (u := 940) hI (by decide +kernel)
  have u192 := iv_at (a := 192) (k := 2) (lo := 0) (u := 940) hI (by decide +kernel)
  refine hw_ald (b := 1) (e := 0) (by decide +kernel) g1 (by decide) ?_
  refine hw_tld (b := 0) (e := 0) (by decide +kernel) g0 ?_
  refine hw_ld (b := 4) (e := 1) (by decide +kernel) g4 ?_
  refine hw_k (c := 1) (b := 0) (e := 1) (by decide +kernel) ?_
  refine hw_bin (w := i + 1) (a0 := 0) (b := 0) (e := 0) (by decide +kernel) rfl ?_
  refine hw_sce (a0 := 0) (j := i + 1) (e := 0) (by decide +kernel) (by omega) (by omega) hL ?_
  refine hw_tld (b := 0) (e := 0) (by decide +kernel) g0 ?_
  refine hw_ld (b := 4) (e := 1) (by decide +kernel) g4 ?_
  refine hw_k (c := 2) (b := 0) (e := 1) (by decide +kernel) ?_
  refine hw_bin (w := i + 2) (a0 := 0) (b := 0) (e := 0) (by decide +kernel) rfl ?_
  refine hw_sce (a0 := 0) (j := i + 2) (e := 0) (by decide +kernel) (by omega) (by omega) hL ?_
  refine hr_call (a0 := 10) (b := 69) (e := 3) (nl := 3) (As := [(0, sc.getD (i + 1).toNat 0), (0, sc.getD (i + 2).toNat 0)]) (R := []) 0 rfl (by decide +kernel) rfl rfl (Nat.le_of_ble_eq_true rfl) (Nat.le_of_ble_eq_true rfl) ?_
  refine sf_69_0 (φ := φ) hI (by omega) (by omega) (by omega) (by omega) (fun r1 hp1 hE1 => ⟨hne0, ?_⟩)
  show hw sc (d + 24) 276 388 L [(0, r1)] φ x Q
  refine hw_pop (a0 := 0) (e := 0) (by decide +kernel) (by decide) ?_
  refine hw_ald (b := 2) (e := 0) (by decide +kernel) g2 (by decide) ?_
  refine hw_tld (b := 0) (e := 0) (by decide +kernel) g0 ?_
  refine hw_ld (b := 4) (e := 1) (by decide +kernel) g4 ?_
  refine hw_k (c := 1) (b := 0) (e := 1) (by decide +kernel) ?_
  refine hw_bin (w := i + 1) (a0 := 0) (b := 0) (e := 0) (by decide +kernel) rfl ?_
  refine hw_sce (a0 := 0) (j := i + 1) (e := 0) (by decide +kernel) (by omega) (by omega) hL ?_
  refine hw_tld (b := 0) (e := 0) (by decide +kernel) g0 ?_
  refine hw_ld (b := 4) (e := 1) (by decide +kernel) g4 ?_
  refine hw_k (c := 2) (b := 0) (e := 1) (by decide +kernel) ?_
  refine hw_bin (w := i + 2) (a0 := 0) (b := 0) (e := 0) (by decide +kernel) rfl ?_
  refine hw_sce (a0 := 0) (j := i + 2) (e := 0) (by decide +kernel) (by omega) (by omega) hL ?_
  refine hr_call (a0 := 22) (b := 206) (e := 3) (nl := 3) (As := [(0, sc.getD (i + 1).toNat 0), (0, sc.getD (i + 2).toNat 0)]) (R := []) 192 rfl (by decide +kernel) rfl rfl (Nat.le_of_ble_eq_true rfl) (Nat.le_of_ble_eq_true rfl) ?_
  refine sf_206_192 (φ := φ) hI (by omega) (by omega) (by omega) (by omega) (fun r2 ψ2 hI2 hF2 hp2 hE2 => ⟨hne0, ?_⟩)
  have e2_1_2 : ψ2 1 2 = φ 1 2 := fr_fd hF2 1 2 (by decide)
  have e2_192_2 : ψ2 192 2 = φ 192 2 := fr_fd hF2 192 2 (by decide)
  have e2_56_3 : ψ2 56 3 = φ 56 3 := fr_fd hF2 56 3 (by decide)
  have e2_82_3 : ψ2 82 3 = φ 82 3 := fr_fd hF2 82 3 (by decide)
  have e2_207_0 : ψ2 207 0 = φ 207 0 := fr_at hF2 207 (by decide) 0
  have e2_207_1 : ψ2 207 1 = φ 207 1 := fr_at hF2 207 (by decide) 1
  have hx := gq_roll hI hI2 hF2 hR hs hW hB hE1 hE2
  show hw sc (d + 24) 276 405 L [(0, r2)] ψ2 x Q
  refine hw_pop (a0 := 0) (e := 0) (by decide +kernel) (by decide) ?_
  refine hw_goto (a0 := 0) (b := 0) (e := 1263) (by decide +kernel) ?_
  exact hQ L ψ2 x g0 g1 g2 g3 g4 hI2 (by omega) ⟨by have := hk.1; omega, by have := hk.2; omega⟩ (tpr_f hB (fun k => (fr_at hF2 2 (by decide) k)) (fun k => (fr_at hF2 193 (by decide) k))) (kwr_f hW (fun k => (fr_at hF2 3 (by decide) k)) (fun k => (fr_at hF2 198 (by decide) k))) hx.2 (by omega)
theorem lw_c6 {sc : List Int} {d x : Nat} {φ : hf_F} {L : jm_L} {Q : Option jm_V → hf_F → Nat → Prop} {i : Int} (g0 : jm_get L 0 = some (4, 2)) (g1 : jm_get L 1 = some (2, 0)) (g2 : jm_get L 2 = some (2, 192)) (g3 : jm_get L 3 = some (2, 208)) (g4 : jm_get L 4 = some (0, i)) (hI : Inv φ) (hs : φ 1 2 = φ 192 2) (hk : KR φ) (hB : TPR φ φ) (hW : KWR φ φ) (hR : RLX φ φ) (h0 : 0 ≤ i) (h1 : i + 6 ≤ (sc.length : Int)) (hL : sc.length ≤ 3072) (hsc : SCP sc) (hd : 10 ≤ d)
    (hQ : (∀ (L1 : jm_L) (ψ : hf_F) (y : Nat), jm_get L1 0 = some (4, 2) → jm_get L1 1 = some (2, 0) → jm_get L1 2 = some (2, 192) → jm_get L1 3 = some (2, 208) → jm_get L1 4 = some (0, i) → Inv ψ → ψ 1 2 = ψ 192 2 → KR ψ → TPR ψ ψ → KWR ψ ψ → RLX ψ ψ → y ≤ x + 1 → hw sc (d + 24) 276 1263 L1 [] ψ y Q)) : hw sc (d + 24) 276 409 L [] φ x Q := by
  have f0 := hsc (i).toNat
  have f1 := hsc (i + 1).toNat
  have f2 := hsc (i + 2).toNat
  have f3 := hsc (i + 3).toNat
  have f4 := hsc (i + 4).toNat
  have f5 := hsc (i + 5).toNat
  have u1 := iv_at (a := 1) (k := 2) (lo := 0) (u := 940) hI (by decide +kernel)
  have u192 := iv_at (a := 192) (k := 2) (lo := 0) (u := 940) hI (by decide +kernel)
  refine hw_ald (b := 1) (e := 0) (by decide +kernel) g1 (by decide) ?_
  refine hw_tld (b := 0) (e := 0) (by decide +kernel) g0 ?_
  refine hw_ld (b := 4) (e := 1) (by decide +kernel) g4 ?_
  refine hw_k (c := 1) (b := 0) (e := 1) (by decide +kernel) ?_
  refine hw_bin (w := i + 1) (a0 := 0) (b := 0) (e := 0) (by decide +kernel) rfl ?_
  refine hw_sce (a0 := 0) (j := i + 1) (e := 0) (by decide +kernel) (by omega) (by omega) hL ?_
  refine hw_tld (b := 0) (e := 0) (by decide +kernel) g0 ?_
  refine hw_ld (b := 4) (e := 1) (by decide +kernel) g4 ?_
  refine hw_k (c := 2) (b := 0) (e := 1) (by decide +kernel) ?_
  refine hw_bin (w := i + 2) (a0 := 0) (b := 0) (e := 0) (by decide +kernel) rfl ?_
  refine hw_sce (a0 := 0) (j := i + 2) (e := 0) (by decide +kernel) (by omega) (by omega) hL ?_
  refine hr_call (a0 := 10) (b := 72) (e := 3) (nl := 3) (As := [(0, sc.getD (i + 1).toNat 0), (0, sc.getD (i + 2).toNat 0)]) (R := []) 0 rfl (by decide +kernel) rfl rfl (Nat.le_of_ble_eq_true rfl) (Nat.le_of_ble_eq_true rfl) ?_
  refine sf_72_0 (φ := φ) hI (by omega) (by omega) (by omega) (by omega) (fun r1 hp1 hE1 => ⟨hne0, ?_⟩)
  show hw sc (d + 24) 276 425 L [(0, r1)] φ x Q
  refine hw_pop (a0 := 0) (e := 0) (by decide +kernel) (by decide) ?_
  refine hw_ald (b := 2) (e := 0) (by decide +kernel) g2 (by decide) ?_
  refine hw_tld (b := 0) (e := 0) (by decide +kernel) g0 ?_
  refine hw_ld (b := 4) (e := 1) (by decide +kernel) g4 ?_
  refine hw_k (c := 1) (b := 0) (e := 1) (by decide +kernel) ?_
  refine hw_bin (w := i + 1) (a0 := 0) (b := 0) (e := 0) (by decide +kernel) rfl ?_
  refine hw_sce (a0 := 0) (j := i + 1) (e := 0) (by decide +kernel) (by omega) (by omega) hL ?_
  refine hw_tld (b := 0) (e := 0) (by decide +kernel) g0 ?_
  refine hw_ld (b := 4) (e := 1) (by decide +kernel) g4 ?_
  refine hw_k (c := 2) (b := 0) (e := 1) (by decide +kernel) ?_
  refine hw_bin (w := i + 2) (a0 := 0) (b := 0) (e := 0) (by decide +kernel) rfl ?_
  refine hw_sce (a0 := 0) (j := i + 2) (e := 0) (by decide +kernel) (by omega) (by omega) hL ?_
  refine hr_call (a0 := 22) (b := 207) (e := 3) (nl := 3) (As := [(0, sc.getD (i + 1).toNat 0), (0, sc.getD (i + 2).toNat 0)]) (R := []) 192 rfl (by decide +kernel) rfl rfl (Nat.le_of_ble_eq_true rfl) (Nat.le_of_ble_eq_true rfl) ?_
  refine sf_207_192 (φ := φ) hI (by omega) (by omega) (by omega) (by omega) (fun r2 ψ2 hI2 hF2 hp2 hE2 => ⟨hne0, ?_⟩)
  have e2_1_2 : ψ2 1 2 = φ 1 2 := fr_fd hF2 1 2 (by decide)
  have e2_192_2 : ψ2 192 2 = φ 192 2 := fr_fd hF2 192 2 (by decide)
  have e2_56_3 : ψ2 56 3 = φ 56 3 := fr_fd hF2 56 3 (by decide)
  have e2_82_3 : ψ2 82 3 = φ 82 3 := fr_fd hF2 82 3 (by decide)
  have e2_207_0 : ψ2 207 0 = φ 207 0 := fr_at hF2 207 (by decide) 0
  have e2_207_1 : ψ2 207 1 = φ 207 1 := fr_at hF2 207 (by decide) 1
  have hx := gq_seat hI hI2 hF2 hR hs hW hB hE1 hE2
  show hw sc (d + 24) 276 442 L [(0, r2)] ψ2 x Q
  refine hw_pop (a0 := 0) (e := 0) (by decide +kernel) (by decide) ?_
  refine hw_goto (a0 := 0) (b := 0) (e := 1263) (by decide +kernel) ?_
  exact hQ L ψ2 x g0 g1 g2 g3 g4 hI2 (by omega) ⟨by have := hk.1; omega, by have := hk.2; omega⟩ (tpr_f hB (fun k => (fr_at hF2 2 (by decide) k)) (fun k => (fr_at hF2 193 (by decide) k))) (kwr_f hW (fun k => (fr_at hF2 3 (by decide) k)) (fun k => (fr_at hF2 198 (by decide) k))) hx.2 (by omega)
theorem lw_c7 {sc : List Int} {d x : Nat} {φ : hf_F} {L : jm_L} {Q : Option jm_V → hf_F → Nat → Prop} {i : Int} (g0 : jm_get L 0 = some (4, 2)) (g1 : jm_get L 1 = some (2, 0)) (g2 : jm_get L 2 = some (2, 192)) (g3 : jm_get L 3 = some (2, 208)) (g4 : jm_get L 4 = some (0, i)) (hI : Inv φ) (hs : φ 1 2 = φ 192 2) (hk : KR φ) (hB : TPR φ φ) (hW : KWR φ φ) (hR : RLX φ φ) (h0 : 0 ≤ i) (h1 : i + 6 ≤ (sc.length : Int)) (hL : sc.length ≤ 3072) (hsc : SCP sc) (hd : 10 ≤ d)
    (hQ : (∀ (L1 : jm_L) (ψ : hf_F) (y : Nat), jm_get L1 0 = some (4, 2) → jm_get L1 1 = some (2, 0) → jm_get L1 2 = some (2, 192) → jm_get L1 3 = some (2, 208) → jm_get L1 4 = some (0, i) → Inv ψ → ψ 1 2 = ψ 192 2 → KR ψ → TPR ψ ψ → KWR ψ ψ → RLX ψ ψ → y ≤ x + 1 → hw sc (d + 24) 276 1263 L1 [] ψ y Q)) : hw sc (d + 24) 276 446 L [] φ x Q := by
  have f0 := hsc (i).toNat
  have f1 := hsc (i + 1).toNat
  have f2 := hsc (i + 2).toNat
  have f3 := hsc (i + 3).toNat
  have f4 := hsc (i + 4).toNat
  have f5 := hsc (i + 5).toNat
  have u1 := iv_at (a := 1) (k := 2) (lo := 0) (u := 940) hI (by decide +kernel)
  have u192 := iv_at (a := 192) (k := 2) (lo := 0) (u := 940) hI (by decide +kernel)
  refine hw_ald (b := 1) (e := 0) (by decide +kernel) g1 (by decide) ?_
  refine hw_tld (b := 0) (e := 0) (by decide +kernel) g0 ?_
  refine hw_ld (b := 4) (e := 1) (by decide +kernel) g4 ?_
  refine hw_k (c := 1) (b := 0) (e := 1) (by decide +kernel) ?_
  refine hw_bin (w := i + 1) (a0 := 0) (b := 0) (e := 0) (by decide +kernel) rfl ?_
  refine hw_sce (a0 := 0) (j := i + 1) (e := 0) (by decide +kernel) (by omega) (by omega) hL ?_
  refine hw_tld (b := 0) (e := 0) (by decide +kernel) g0 ?_
  refine hw_ld (b := 4) (e := 1) (by decide +kernel) g4 ?_
  refine hw_k (c := 2) (b := 0) (e := 1) (by decide +kernel) ?_
  refine hw_bin (w := i + 2) (a0 := 0) (b := 0) (e := 0) (by decide +kernel) rfl ?_
  refine hw_sce (a0 := 0) (j := i + 2) (e := 0) (by decide +kernel) (by omega) (by omega) hL ?_
  refine hr_call (a0 := 10) (b := 73) (e := 3) (nl := 3) (As := [(0, sc.getD (i + 1).toNat 0), (0, sc.getD (i + 2).toNat 0)]) (R := []) 0 rfl (by decide +kernel) rfl rfl (Nat.le_of_ble_eq_true rfl) (Nat.le_of_ble_eq_true rfl) ?_
  refine sf_73_0 (φ := φ) hI (by omega) (by omega) (by omega) (by omega) (fun r1 hp1 hE1 => ⟨hne0, ?_⟩)
  show hw sc (d + 24) 276 462 L [(0, r1)] φ x Q
  refine hw_pop (a0 := 0) (e := 0) (by decide +kernel) (by decide) ?_
  refine hw_ald (b := 2) (e := 0) (by decide +kernel) g2 (by decide) ?_
  refine hw_tld (b := 0) (e := 0) (by decide +kernel) g0 ?_
  refine hw_ld (b := 4) (e := 1) (by decide +kernel) g4 ?_
  refine hw_k (c := 1) (b := 0) (e := 1) (by decide +kernel) ?_
  refine hw_bin (w := i + 1) (a0 := 0) (b := 0) (e := 0) (by decide +kernel) rfl ?_
  refine hw_sce (a0 := 0) (j := i + 1) (e := 0) (by decide +kernel) (by omega) (by omega) hL ?_
  refine hw_tld (b := 0) (e := 0) (by decide +kernel) g0 ?_
  refine hw_ld (b := 4) (e := 1) (by decide +kernel) g4 ?_
  refine hw_k (c := 2) (b := 0) (e := 1) (by decide +kernel) ?_
  refine hw_bin (w := i + 2) (a0 := 0) (b := 0) (e := 0) (by decide +kernel) rfl ?_
  refine hw_sce (a0 := 0) (j := i + 2) (e := 0) (by decide +kernel) (by omega) (by omega) hL ?_
  refine hr_call (a0 := 22) (b := 210) (e := 3) (nl := 3) (As := [(0, sc.getD (i + 1).toNat 0), (0, sc.getD (i + 2).toNat 0)]) (R := []) 192 rfl (by decide +kernel) rfl rfl (Nat.le_of_ble_eq_true rfl) (Nat.le_of_ble_eq_true rfl) ?_
  refine sf_210_192 (φ := φ) hI (by omega) (by omega) (by omega) (by omega) (fun r2 ψ2 hI2 hF2 hp2 hE2 => ⟨hne0, ?_⟩)
  have e2_1_2 : ψ2 1 2 = φ 1 2 := fr_fd hF2 1 2 (by decide)
  have e2_192_2 : ψ2 192 2 = φ 192 2 := fr_fd hF2 192 2 (by decide)
  have e2_56_3 : ψ2 56 3 = φ 56 3 := fr_fd hF2 56 3 (by decide)
  have e2_82_3 : ψ2 82 3 = φ 82 3 := fr_fd hF2 82 3 (by decide)
  have e2_207_0 : ψ2 207 0 = φ 207 0 := fr_at hF2 207 (by decide) 0
  have e2_207_1 : ψ2 207 1 = φ 207 1 := fr_at hF2 207 (by decide) 1
  have hx := gq_law hI hI2 hF2 hR hs hW hB hE1 hE2
  show hw sc (d + 24) 276 479 L [(0, r2)] ψ2 x Q
  refine hw_pop (a0 := 0) (e := 0) (by decide +kernel) (by decide) ?_
  refine hw_goto (a0 := 0) (b := 0) (e := 1263) (by decide +kernel) ?_
  exact hQ L ψ2 x g0 g1 g2 g3 g4 hI2 (by omega) ⟨by have := hk.1; omega, by have := hk.2; omega⟩ (tpr_f hB (fun k => (fr_at hF2 2 (by decide) k)) (fun k => (fr_at hF2 193 (by decide) k))) (kwr_f hW (fun k => (fr_at hF2 3 (by decide) k)) (fun k => (fr_at hF2 198 (by decide) k))) hx.2 (by omega)
theorem lw_c8 {sc : List Int} {d x : Nat} {φ : hf_F} {L : jm_L} {Q : Option jm_V → hf_F → Nat → Prop} {i : Int} (g0 : jm_get L 0 = some (4, 2)) (g1 : jm_get L 1 = some (2, 0)) (g2 : jm_get L 2 = some (2, 192)) (g3 : jm_get L 3 = some (2, 208)) (g4 : jm_get L 4 = some (0, i)) (hI : Inv φ) (hs : φ 1 2 = φ 192 2) (hk : KR φ) (hB : TPR φ φ) (hW : KWR φ φ) (hR : RLX φ φ) (h0 : 0 ≤ i) (h1 : i + 6 ≤ (sc.length : Int)) (hL : sc.length ≤ 3072) (hsc : SCP sc) (hd : 10 ≤ d)
    (hQ : (∀ (L1 : jm_L) (ψ : hf_F) (y : Nat), jm_get L1 0 = some (4, 2) → jm_get L1 1 = some (2, 0) → jm_get L1 2 = some (2, 192) → jm_get L1 3 = some (2, 208) → jm_get L1 4 = some (0, i) → Inv ψ → ψ 1 2 = ψ 192 2 → KR ψ → TPR ψ ψ → KWR ψ ψ → RLX ψ ψ → y ≤ x + 1 → hw sc (d + 24) 276 1263 L1 [] ψ y Q)) : hw sc (d + 24) 276 483 L [] φ x Q := by
  have f0 := hsc (i).toNat
  have f1 := hsc (i + 1).toNat
  have f2 := hsc (i + 2).toNat
  have f3 := hsc (i + 3).toNat
  have f4 := hsc (i + 4).toNat
  have f5 := hsc (i + 5).toNat
  have u1 := iv_at (a := 1) (k := 2) (lo := 0) (u := 940) hI (by decide +kernel)
  have u192 := iv_at (a := 192) (k := 2) (lo := 0) (u := 940) hI (by decide +kernel)
  refine hw_ald (b := 1) (e := 0) (by decide +kernel) g1 (by decide) ?_
  refine hw_tld (b := 0) (e := 0) (by decide +kernel) g0 ?_
  refine hw_ld (b := 4) (e := 1) (by decide +kernel) g4 ?_
  refine hw_k (c := 1) (b := 0) (e := 1) (by decide +kernel) ?_
  refine hw_bin (w := i + 1) (a0 := 0) (b := 0) (e := 0) (by decide +kernel) rfl ?_
  refine hw_sce (a0 := 0) (j := i + 1) (e := 0) (by decide +kernel) (by omega) (by omega) hL ?_
  refine hr_call (a0 := 10) (b := 75) (e := 2) (nl := 2) (As := [(0, sc.getD (i + 1).toNat 0)]) (R := []) 0 rfl (by decide +kernel) rfl rfl (Nat.le_of_ble_eq_true rfl) (Nat.le_of_ble_eq_true rfl) ?_
  refine sf_75_0 (φ := φ) hI (by omega) (by omega) (fun r1 hp1 hE1 => ⟨hne0, ?_⟩)
  show hw sc (d + 24) 276 493 L [(0, r1)] φ x Q
  refine hw_pop (a0 := 0) (e := 0) (by decide +kernel) (by decide) ?_
  refine hw_ald (b := 2) (e := 0) (by decide +kernel) g2 (by decide) ?_
  refine hw_tld (b := 0) (e := 0) (by decide +kernel) g0 ?_
  refine hw_ld (b := 4) (e := 1) (by decide +kernel) g4 ?_
  refine hw_k (c := 1) (b := 0) (e := 1) (by decide +kernel) ?_
  refine hw_bin (w := i + 1) (a0 := 0) (b := 0) (e := 0) (by decide +kernel) rfl ?_
  refine hw_sce (a0 := 0) (j := i + 1) (e := 0) (by decide +kernel) (by omega) (by omega) hL ?_
  refine hr_call (a0 := 22) (b := 212) (e := 2) (nl := 5) (As := [(0, sc.getD (i + 1).toNat 0)]) (R := []) 192 rfl (by decide +kernel) rfl rfl (Nat.le_of_ble_eq_true rfl) (Nat.le_of_ble_eq_true rfl) ?_
  refine sf_212_192 (φ := φ) hI (by omega) (by omega) (fun r2 ψ2 hI2 hF2 hp2 hE2 => ⟨hne0, ?_⟩)
  have e2_1_2 : ψ2 1 2 = φ 1 2 := fr_fd hF2 1 2 (by decide)
  have e2_192_2 : ψ2 192 2 = φ 192 2 := fr_fd hF2 192 2 (by decide)
  have e2_56_3 : ψ2 56 3 = φ 56 3 := fr_fd hF2 56 3 (by decide)
  have e2_82_3 : ψ2 82 3 = φ 82 3 := fr_fd hF2 82 3 (by decide)
  have e2_207_0 : ψ2 207 0 = φ 207 0 := fr_at hF2 207 (by decide) 0
  have e2_207_1 : ψ2 207 1 = φ 207 1 := fr_at hF2 207 (by decide) 1
  have hx := gq_now hI hI2 hF2 hR hs hW hB hE1 hE2
  show hw sc (d + 24) 276 504 L [(0, r2)] ψ2 x Q
  refine hw_pop (a0 := 0) (e := 0) (by decide +kernel) (by decide) ?_
  refine hw_goto (a0 := 0) (b := 0) (e := 1263) (by decide +kernel) ?_
  exact hQ L ψ2 x g0 g1 g2 g3 g4 hI2 (by omega) ⟨by have := hk.1; omega, by have := hk.2; omega⟩ (tpr_f hB (fun k => (fr_at hF2 2 (by decide) k)) (fun k => (fr_at hF2 193 (by decide) k))) (kwr_f hW (fun k => (fr_at hF2 3 (by decide) k)) (fun k => (fr_at hF2 198 (by decide) k))) hx.2 (by omega)
theorem lw_c9 {sc : List Int} {d x : Nat} {φ : hf_F} {L : jm_L} {Q : Option jm_V → hf_F → Nat → Prop} {i : Int} (g0 : jm_get L 0 = some (4, 2)) (g1 : jm_get L 1 = some (2, 0)) (g2 : jm_get L 2 = some (2, 192)) (g3 : jm_get L 3 = some (2, 208)) (g4 : jm_get L 4 = some (0, i)) (hI : Inv φ) (hs : φ 1 2 = φ 192 2) (hk : KR φ) (hB : TPR φ φ) (hW : KWR φ φ) (hR : RLX φ φ) (h0 : 0 ≤ i) (h1 : i + 6 ≤ (sc.length : Int)) (hL : sc.length ≤ 3072) (hsc : SCP sc) (hd : 10 ≤ d)
    (hQ : (∀ (L1 : jm_L) (ψ : hf_F) (y : Nat), jm_get L1 0 = some (4, 2) → jm_get L1 1 = some (2, 0) → jm_get L1 2 = some (2, 192) → jm_get L1 3 = some (2, 208) → jm_get L1 4 = some (0, i) → Inv ψ → ψ 1 2 = ψ 192 2 → KR ψ → TPR ψ ψ → KWR ψ ψ → RLX ψ ψ → y ≤ x + 1 → hw sc (d + 24) 276 1263 L1 [] ψ y Q)) : hw sc (d + 24) 276 508 L [] φ x Q := by
  have f0 := hsc (i).toNat
  have f1 := hsc (i + 1).toNat
  have f2 := hsc (i + 2).toNat
  have f3 := hsc (i + 3).toNat
  have f4 := hsc (i + 4).toNat
  have f5 := hsc (i + 5).toNat
  have u1 := iv_at (a := 1) (k := 2) (lo := 0) (u := 940) hI (by decide +kernel)
  have u192 := iv_at (a := 192) (k := 2) (lo := 0) (u := 940) hI (by decide +kernel)
  refine hw_ald (b := 1) (e := 0) (by decide +kernel) g1 (by decide) ?_
  refine hw_tld (b := 0) (e := 0) (by decide +kernel) g0 ?_
  refine hw_ld (b := 4) (e := 1) (by decide +kernel) g4 ?_
  refine hw_k (c := 1) (b := 0) (e := 1) (by decide +kernel) ?_
  refine hw_bin (w := i + 1) (a0 := 0) (b := 0) (e := 0) (by decide +kernel) rfl ?_
  refine hw_sce (a0 := 0) (j := i + 1) (e := 0) (by decide +kernel) (by omega) (by omega) hL ?_
  refine hw_tld (b := 0) (e := 0) (by decide +kernel) g0 ?_
  refine hw_ld (b := 4) (e := 1) (by decide +kernel) g4 ?_
  refine hw_k (c := 2) (b := 0) (e := 1) (by decide +kernel) ?_
  refine hw_bin (w := i + 2) (a0 := 0) (b := 0) (e := 0) (by decide +kernel) rfl ?_
  refine hw_sce (a0 := 0) (j := i + 2) (e := 0) (by decide +kernel) (by omega) (by omega) hL ?_
  refine hr_call (a0 := 10) (b := 78) (e := 3) (nl := 4) (As := [(0, sc.getD (i + 1).toNat 0), (0, sc.getD (i + 2).toNat 0)]) (R := []) 0 rfl (by decide +kernel) rfl rfl (Nat.le_of_ble_eq_true rfl) (Nat.le_of_ble_eq_true rfl) ?_
  refine sf_78_0 (φ := φ) hI (by omega) (by omega) (by omega) (by omega) (fun r1 ψ1 hI1 hF1 hp1 hE1 => ⟨hne0, ?_⟩)
  have e1_1_2 : ψ1 1 2 = φ 1 2 := fr_fd hF1 1 2 (by decide)
  have e1_192_2 : ψ1 192 2 = φ 192 2 := fr_fd hF1 192 2 (by decide)
  have e1_56_3 : ψ1 56 3 = φ 56 3 := fr_fd hF1 56 3 (by decide)
  have e1_82_3 : ψ1 82 3 = φ 82 3 := fr_fd hF1 82 3 (by decide)
  have e1_207_0 : ψ1 207 0 = φ 207 0 := fr_at hF1 207 (by decide) 0
  have e1_207_1 : ψ1 207 1 = φ 207 1 := fr_at hF1 207 (by decide) 1
  show hw sc (d + 24) 276 524 L [(0, r1)] ψ1 x Q
  refine hw_pop (a0 := 0) (e := 0) (by decide +kernel) (by decide) ?_
  refine hw_ald (b := 2) (e := 0) (by decide +kernel) g2 (by decide) ?_
  refine hw_tld (b := 0) (e := 0) (by decide +kernel) g0 ?_
  refine hw_ld (b := 4) (e := 1) (by decide +kernel) g4 ?_
  refine hw_k (c := 1) (b := 0) (e := 1) (by decide +kernel) ?_
  refine hw_bin (w := i + 1) (a0 := 0) (b := 0) (e := 0) (by decide +kernel) rfl ?_
  refine hw_sce (a0 := 0) (j := i + 1) (e := 0) (by decide +kernel) (by omega) (by omega) hL ?_
  refine hw_tld (b := 0) (e := 0) (by decide +kernel) g0 ?_
  refine hw_ld (b := 4) (e := 1) (by decide +kernel) g4 ?_
  refine hw_k (c := 2) (b := 0) (e := 1) (by decide +kernel) ?_
  refine hw_bin (w := i + 2) (a0 := 0) (b := 0) (e := 0) (by decide +kernel) rfl ?_
  refine hw_sce (a0 := 0) (j := i + 2) (e := 0) (by decide +kernel) (by omega) (by omega) hL ?_
  refine hr_call (a0 := 22) (b := 214) (e := 3) (nl := 4) (As := [(0, sc.getD (i + 1).toNat 0), (0, sc.getD (i + 2).toNat 0)]) (R := []) 192 rfl (by decide +kernel) rfl rfl (Nat.le_of_ble_eq_true rfl) (Nat.le_of_ble_eq_true rfl) ?_
  refine sf_214_192 (φ := ψ1) hI1 (by omega) (by omega) (by omega) (by omega) (fun r2 ψ2 hI2 hF2 hp2 hE2 => ⟨hne0, ?_⟩)
  have e2_1_2 : ψ2 1 2 = ψ1 1 2 := fr_fd hF2 1 2 (by decide)
  have e2_192_2 : ψ2 192 2 = ψ1 192 2 := fr_fd hF2 192 2 (by decide)
  have e2_56_3 : ψ2 56 3 = ψ1 56 3 := fr_fd hF2 56 3 (by decide)
  have e2_82_3 : ψ2 82 3 = ψ1 82 3 := fr_fd hF2 82 3 (by decide)
  have e2_207_0 : ψ2 207 0 = ψ1 207 0 := fr_at hF2 207 (by decide) 0
  have e2_207_1 : ψ2 207 1 = ψ1 207 1 := fr_at hF2 207 (by decide) 1
  have hx := gq_mount hI hI1 hI2 hF1 hF2 hR hs hW hB hE1 hE2
  show hw sc (d + 24) 276 541 L [(0, r2)] ψ2 x Q
  refine hw_pop (a0 := 0) (e := 0) (by decide +kernel) (by decide) ?_
  refine hw_goto (a0 := 0) (b := 0) (e := 1263) (by decide +kernel) ?_
  exact hQ L ψ2 x g0 g1 g2 g3 g4 hI2 (by omega) ⟨by have := hk.1; omega, by have := hk.2; omega⟩ (tpr_f hB (fun k => ((fr_at hF2 2 (by decide) k).trans (fr_at hF1 2 (by decide) k))) (fun k => ((fr_at hF2 193 (by decide) k).trans (fr_at hF1 193 (by decide) k)))) (kwr_f hW (fun k => ((fr_at hF2 3 (by decide) k).trans (fr_at hF1 3 (by decide) k))) (fun k => ((fr_at hF2 198 (by decide) k).trans (fr_at hF1 198 (by decide) k)))) hx.2 (by omega)
theorem lw_c10 {sc : List Int} {d x : Nat} {φ : hf_F} {L : jm_L} {Q : Option jm_V → hf_F → Nat → Prop} {i : Int} (g0 : jm_get L 0 = some (4, 2)) (g1 : jm_get L 1 = some (2, 0)) (g2 : jm_get L 2 = some (2, 192)) (g3 : jm_get L 3 = some (2, 208)) (g4 : jm_get L 4 = some (0, i)) (hI : Inv φ) (hs : φ 1 2 = φ 192 2) (hk : KR φ) (hB : TPR φ φ) (hW : KWR φ φ) (hR : RLX φ φ) (h0 : 0 ≤ i) (h1 : i + 6 ≤ (sc.length : Int)) (hL : sc.length ≤ 3072) (hsc : SCP sc) (hd : 10 ≤ d)
    (hQ : (∀ (L1 : jm_L) (ψ : hf_F) (y : Nat), jm_get L1 0 = some (4, 2) → jm_get L1 1 = some (2, 0) → jm_get L1 2 = some (2, 192) → jm_get L1 3 = some (2, 208) → jm_get L1 4 = some (0, i) → Inv ψ → ψ 1 2 = ψ 192 2 → KR ψ → TPR ψ ψ → KWR ψ ψ → RLX ψ ψ → y ≤ x + 1 → hw sc (d + 24) 276 1263 L1 [] ψ y Q)) : hw sc (d + 24) 276 545 L [] φ x Q := by
  have f0 := hsc (i).toNat
  have f1 := hsc (i + 1).toNat
  have f2 := hsc (i + 2).toNat
  have f3 := hsc (i + 3).toNat
  have f4 := hsc (i + 4).toNat
  have f5 := hsc (i + 5).toNat
  have u1 := iv_at (a := 1) (k := 2) (lo := 0) (u := 940) hI (by decide +kernel)
  have u192 := iv_at (a := 192) (k := 2) (lo := 0) (u := 940) hI (by decide +kernel)
  refine hw_ald (b := 1) (e := 0) (by decide +kernel) g1 (by decide) ?_
  refine hw_tld (b := 0) (e := 0) (by decide +kernel) g0 ?_
  refine hw_ld (b := 4) (e := 1) (by decide +kernel) g4 ?_
  refine hw_k (c := 1) (b := 0) (e := 1) (by decide +kernel) ?_
  refine hw_bin (w := i + 1) (a0 := 0) (b := 0) (e := 0) (by decide +kernel) rfl ?_
  refine hw_sce (a0 := 0) (j := i + 1) (e := 0) (by decide +kernel) (by omega) (by omega) hL ?_
  refine hr_call (a0 := 10) (b := 82) (e := 2) (nl := 3) (As := [(0, sc.getD (i + 1).toNat 0)]) (R := []) 0 rfl (by decide +kernel) rfl rfl (Nat.le_of_ble_eq_true rfl) (Nat.le_of_ble_eq_true rfl) ?_
  refine sf_82_0 (φ := φ) hI (by omega) (by omega) (fun r1 ψ1 hI1 hF1 hp1 hE1 => ⟨hne0, ?_⟩)
  have e1_1_2 : ψ1 1 2 = φ 1 2 := fr_fd hF1 1 2 (by decide)
  have e1_192_2 : ψ1 192 2 = φ 192 2 := fr_fd hF1 192 2 (by decide)
  have e1_56_3 : ψ1 56 3 = φ 56 3 := fr_fd hF1 56 3 (by decide)
  have e1_82_3 : ψ1 82 3 = φ 82 3 := fr_fd hF1 82 3 (by decide)
  have e1_207_0 : ψ1 207 0 = φ 207 0 := fr_at hF1 207 (by decide) 0
  have e1_207_1 : ψ1 207 1 = φ 207 1 := fr_at hF1 207 (by decide) 1
  show hw sc (d + 24) 276 555 L [(0, r1)] ψ1 x Q
  refine hw_pop (a0 := 0) (e := 0) (by decide +kernel) (by decide) ?_
  refine hw_ald (b := 2) (e := 0) (by decide +kernel) g2 (by decide) ?_
  refine hw_tld (b := 0) (e := 0) (by decide +kernel) g0 ?_
  refine hw_ld (b := 4) (e := 1) (by decide +kernel) g4 ?_
  refine hw_k (c := 1) (b := 0) (e := 1) (by decide +kernel) ?_
  refine hw_bin (w := i + 1) (a0 := 0) (b := 0) (e := 0) (by decide +kernel) rfl ?_
  refine hw_sce (a0 := 0) (j := i + 1) (e := 0) (by decide +kernel) (by omega) (by omega) hL ?_
  refine hr_call (a0 := 22) (b := 217) (e := 2) (nl := 2) (As := [(0, sc.getD (i + 1).toNat 0)]) (R := []) 192 rfl (by decide +kernel) rfl rfl (Nat.le_of_ble_eq_true rfl) (Nat.le_of_ble_eq_true rfl) ?_
  refine sf_217_192 (φ := ψ1) hI1 (by omega) (by omega) (fun r2 ψ2 hI2 hF2 hp2 hE2 => ⟨hne0, ?_⟩)
  have e2_1_2 : ψ2 1 2 = ψ1 1 2 := fr_fd hF2 1 2 (by decide)
  have e2_192_2 : ψ2 192 2 = ψ1 192 2 := fr_fd hF2 192 2 (by decide)
  have e2_56_3 : ψ2 56 3 = ψ1 56 3 := fr_fd hF2 56 3 (by decide)
  have e2_82_3 : ψ2 82 3 = ψ1 82 3 := fr_fd hF2 82 3 (by decide)
  have e2_207_0 : ψ2 207 0 = ψ1 207 0 := fr_at hF2 207 (by decide) 0
  have e2_207_1 : ψ2 207 1 = ψ1 207 1 := fr_at hF2 207 (by decide) 1
  have hx := gq_alight hI hI1 hI2 hF1 hF2 hR hs hW hB hE1 hE2
  show hw sc (d + 24) 276 566 L [(0, r2)] ψ2 x Q
  refine hw_pop (a0 := 0) (e := 0) (by decide +kernel) (by decide) ?_
  refine hw_goto (a0 := 0) (b := 0) (e := 1263) (by decide +kernel) ?_
  exact hQ L ψ2 x g0 g1 g2 g3 g4 hI2 (by omega) ⟨by have := hk.1; omega, by have := hk.2; omega⟩ (tpr_f hB (fun k => ((fr_at hF2 2 (by decide) k).trans (fr_at hF1 2 (by decide) k))) (fun k => ((fr_at hF2 193 (by decide) k).trans (fr_at hF1 193 (by decide) k)))) (kwr_f hW (fun k => ((fr_at hF2 3 (by decide) k).trans (fr_at hF1 3 (by decide) k))) (fun k => ((fr_at hF2 198 (by decide) k).trans (fr_at hF1 198 (by decide) k)))) hx.2 (by omega)
theorem lw_c11 {sc : List Int} {d x : Nat} {φ : hf_F} {L : jm_L} {Q : Option jm_V → hf_F → Nat → Prop} {i : Int} (g0 : jm_get L 0 = some (4, 2)) (g1 : jm_get L 1 = some (2, 0)) (g2 : jm_get L 2 = some (2, 192)) (g3 : jm_get L 3 = some (2, 208)) (g4 : jm_get L 4 = some (0, i)) (hI : Inv φ) (hs : φ 1 2 = φ 192 2) (hk : KR φ) (hB : TPR φ φ) (hW : KWR φ φ) (hR : RLX φ φ) (h0 : 0 ≤ i) (h1 : i + 6 ≤ (sc.length : Int)) (hL : sc.length ≤ 3072) (hsc : SCP sc) (hd : 10 ≤ d)
    (hQ : (∀ (L1 : jm_L) (ψ : hf_F) (y : Nat), jm_get L1 0 = some (4, 2) → jm_get L1 1 = some (2, 0) → jm_get L1 2 = some (2, 192) → jm_get L1 3 = some (2, 208) → jm_get L1 4 = some (0, i) → Inv ψ → ψ 1 2 = ψ 192 2 → KR ψ → TPR ψ ψ → KWR ψ ψ → RLX ψ ψ → y ≤ x + 1 → hw sc (d + 24) 276 1263 L1 [] ψ y Q)) : hw sc (d + 24) 276 570 L [] φ x Q := by
  have f0 := hsc (i).toNat
  have f1 := hsc (i + 1).toNat
  have f2 := hsc (i + 2).toNat
  have f3 := hsc (i + 3).toNat
  have f4 := hsc (i + 4).toNat
  have f5 := hsc (i + 5).toNat
  have u1 := iv_at (a := 1) (k := 2) (lo := 0) (u := 940) hI (by decide +kernel)
  have u192 := iv_at (a := 192) (k := 2) (lo := 0) (u := 940) hI (by decide +kernel)
  refine hw_ald (b := 1) (e := 0) (by decide +kernel) g1 (by decide) ?_
  refine hw_tld (b := 0) (e := 0) (by decide +kernel) g0 ?_
  refine hw_ld (b := 4) (e := 1) (by decide +kernel) g4 ?_
  refine hw_k (c := 1) (b := 0) (e := 1) (by decide +kernel) ?_
  refine hw_bin (w := i + 1) (a0 := 0) (b := 0) (e := 0) (by decide +kernel) rfl ?_
  refine hw_sce (a0 := 0) (j := i + 1) (e := 0) (by decide +kernel) (by omega) (by omega) hL ?_
  refine hw_tld (b := 0) (e := 0) (by decide +kernel) g0 ?_
  refine hw_ld (b := 4) (e := 1) (by decide +kernel) g4 ?_
  refine hw_k (c := 2) (b := 0) (e := 1) (by decide +kernel) ?_
  refine hw_bin (w := i + 2) (a0 := 0) (b := 0) (e := 0) (by decide +kernel) rfl ?_
  refine hw_sce (a0 := 0) (j := i + 2) (e := 0) (by decide +kernel) (by omega) (by omega) hL ?_
  refine hr_call (a0 := 10) (b := 85) (e := 3) (nl := 4) (As := [(0, sc.getD (i + 1).toNat 0), (0, sc.getD (i + 2).toNat 0)]) (R := []) 0 rfl (by decide +kernel) rfl rfl (Nat.le_of_ble_eq_true rfl) (Nat.le_of_ble_eq_true rfl) ?_
  refine sf_85_0 (φ := φ) hI (by omega) (by omega) (by omega) (by omega) (fun r1 ψ1 hI1 hF1 hp1 hE1 => ⟨hne0, ?_⟩)
  have e1_1_2 : ψ1 1 2 = φ 1 2 := fr_fd hF1 1 2 (by decide)
  have e1_192_2 : ψ1 192 2 = φ 192 2 := fr_fd hF1 192 2 (by decide)
  have e1_56_3 : ψ1 56 3 = φ 56 3 := fr_fd hF1 56 3 (by decide)
  have e1_82_3 : ψ1 82 3 = φ 82 3 := fr_fd hF1 82 3 (by decide)
  have e1_207_0 : ψ1 207 0 = φ 207 0 := fr_at hF1 207 (by decide) 0
  have e1_207_1 : ψ1 207 1 = φ 207 1 := fr_at hF1 207 (by decide) 1
  show hw sc (d + 24) 276 586 L [(0, r1)] ψ1 x Q
  refine hw_pop (a0 := 0) (e := 0) (by decide +kernel) (by decide) ?_
  refine hw_ald (b := 2) (e := 0) (by decide +kernel) g2 (by decide) ?_
  refine hw_tld (b := 0) (e := 0) (by decide +kernel) g0 ?_
  refine hw_ld (b := 4) (e := 1) (by decide +kernel) g4 ?_
  refine hw_k (c := 1) (b := 0) (e := 1) (by decide +kernel) ?_
  refine hw_bin (w := i + 1) (a0 := 0) (b := 0) (e := 0) (by decide +kernel) rfl ?_
  refine hw_sce (a0 := 0) (j := i + 1) (e := 0) (by decide +kernel) (by omega) (by omega) hL ?_
  refine hw_tld (b := 0) (e := 0) (by decide +kernel) g0 ?_
  refine hw_ld (b := 4) (e := 1) (by decide +kernel) g4 ?_
  refine hw_k (c := 2) (b := 0) (e := 1) (by decide +kernel) ?_
  refine hw_bin (w := i + 2) (a0 := 0) (b := 0) (e := 0) (by decide +kernel) rfl ?_
  refine hw_sce (a0 := 0) (j := i + 2) (e := 0) (by decide +kernel) (by omega) (by omega) hL ?_
  refine hr_call (a0 := 22) (b := 218) (e := 3) (nl := 3) (As := [(0, sc.getD (i + 1).toNat 0), (0, sc.getD (i + 2).toNat 0)]) (R := []) 192 rfl (by decide +kernel) rfl rfl (Nat.le_of_ble_eq_true rfl) (Nat.le_of_ble_eq_true rfl) ?_
  refine sf_218_192 (φ := ψ1) hI1 (by omega) (by omega) (by omega) (by omega) (fun r2 ψ2 hI2 hF2 hp2 hE2 => ⟨hne0, ?_⟩)
  have e2_1_2 : ψ2 1 2 = ψ1 1 2 := fr_fd hF2 1 2 (by decide)
  have e2_192_2 : ψ2 192 2 = ψ1 192 2 := fr_fd hF2 192 2 (by decide)
  have e2_56_3 : ψ2 56 3 = ψ1 56 3 := fr_fd hF2 56 3 (by decide)
  have e2_82_3 : ψ2 82 3 = ψ1 82 3 := fr_fd hF2 82 3 (by decide)
  have e2_207_0 : ψ2 207 0 = ψ1 207 0 := fr_at hF2 207 (by decide) 0
  have e2_207_1 : ψ2 207 1 = ψ1 207 1 := fr_at hF2 207 (by decide) 1
  have hx := gq_learn hI hI1 hI2 hF1 hF2 hR hs hW hB hE1 hE2
  show hw sc (d + 24) 276 603 L [(0, r2)] ψ2 x Q
  refine hw_pop (a0 := 0) (e := 0) (by decide +kernel) (by decide) ?_
  refine hw_goto (a0 := 0) (b := 0) (e := 1263) (by decide +kernel) ?_
  exact hQ L ψ2 x g0 g1 g2 g3 g4 hI2 (by omega) ⟨by have := hk.1; omega, by have := hk.2; omega⟩ (tpr_f hB (fun k => ((fr_at hF2 2 (by decide) k).trans (fr_at hF1 2 (by decide) k))) (fun k => ((fr_at hF2 193 (by decide) k).trans (fr_at hF1 193 (by decide) k)))) (kwr_f hW (fun k => ((fr_at hF2 3 (by decide) k).trans (fr_at hF1 3 (by decide) k))) (fun k => ((fr_at hF2 198 (by decide) k).trans (fr_at hF1 198 (by decide) k)))) hx.2 (by omega)
theorem lw_c12 {sc : List Int} {d x : Nat} {φ : hf_F} {L : jm_L} {Q : Option jm_V → hf_F → Nat → Prop} {i : Int} (g0 : jm_get L 0 = some (4, 2)) (g1 : jm_get L 1 = some (2, 0)) (g2 : jm_get L 2 = some (2, 192)) (g3 : jm_get L 3 = some (2, 208)) (g4 : jm_get L 4 = some (0, i)) (hI : Inv φ) (hs : φ 1 2 = φ 192 2) (hk : KR φ) (hB : TPR φ φ) (hW : KWR φ φ) (hR : RLX φ φ) (h0 : 0 ≤ i) (h1 : i + 6 ≤ (sc.length : Int)) (hL : sc.length ≤ 3072) (hsc : SCP sc) (hd : 10 ≤ d)
    (hQ : (∀ (L1 : jm_L) (ψ : hf_F) (y : Nat), jm_get L1 0 = some (4, 2) → jm_get L1 1 = some (2, 0) → jm_get L1 2 = some (2, 192) → jm_get L1 3 = some (2, 208) → jm_get L1 4 = some (0, i) → Inv ψ → ψ 1 2 = ψ 192 2 → KR ψ → TPR ψ ψ → KWR ψ ψ → RLX ψ ψ → y ≤ x + 1 → hw sc (d + 24) 276 1263 L1 [] ψ y Q)) : hw sc (d + 24) 276 607 L [] φ x Q := by
  have f0 := hsc (i).toNat
  have f1 := hsc (i + 1).toNat
  have f2 := hsc (i + 2).toNat
  have f3 := hsc (i + 3).toNat
  have f4 := hsc (i + 4).toNat
  have f5 := hsc (i + 5).toNat
  have u1 := iv_at (a := 1) (k := 2) (lo := 0) (u := 940) hI (by decide +kernel)
  have u192 := iv_at (a := 192) (k := 2) (lo := 0) (u := 940) hI (by decide +kernel)
  refine hw_ald (b := 1) (e := 0) (by decide +kernel) g1 (by decide) ?_
  refine hr_call (a0 := 10) (b := 86) (e := 1) (nl := 2) (As := []) (R := []) 0 rfl (by decide +kernel) rfl rfl (Nat.le_of_ble_eq_true rfl) (Nat.le_of_ble_eq_true rfl) ?_
  refine sf_86_0 (φ := φ) hI  (fun r1 ψ1 hI1 hF1 hp1 hE1 => ⟨hne0, ?_⟩)
  have e1_1_2 : ψ1 1 2 = φ 1 2 := fr_fd hF1 1 2 (by decide)
  have e1_192_2 : ψ1 192 2 = φ 192 2 := fr_fd hF1 192 2 (by decide)
  have e1_56_3 : ψ1 56 3 = φ 56 3 := fr_fd hF1 56 3 (by decide)
  have e1_82_3 : ψ1 82 3 = φ 82 3 := fr_fd hF1 82 3 (by decide)
  have e1_207_0 : ψ1 207 0 = φ 207 0 := fr_at hF1 207 (by decide) 0
  have e1_207_1 : ψ1 207 1 = φ 207 1 := fr_at hF1 207 (by decide) 1
  show hw sc (d + 24) 276 611 L [(0, r1)] ψ1 x Q
  refine hw_pop (a0 := 0) (e := 0) (by decide +kernel) (by decide) ?_
  refine hw_ald (b := 2) (e := 0) (by decide +kernel) g2 (by decide) ?_
  refine hr_call (a0 := 22) (b := 221) (e := 1) (nl := 1) (As := []) (R := []) 192 rfl (by decide +kernel) rfl rfl (Nat.le_of_ble_eq_true rfl) (Nat.le_of_ble_eq_true rfl) ?_
  refine sf_221_192 (φ := ψ1) hI1  (fun r2 ψ2 hI2 hF2 hp2 hE2 => ⟨hne0, ?_⟩)
  have e2_1_2 : ψ2 1 2 = ψ1 1 2 := fr_fd hF2 1 2 (by decide)
  have e2_192_2 : ψ2 192 2 = ψ1 192 2 := fr_fd hF2 192 2 (by decide)
  have e2_56_3 : ψ2 56 3 = ψ1 56 3 := fr_fd hF2 56 3 (by decide)
  have e2_82_3 : ψ2 82 3 = ψ1 82 3 := fr_fd hF2 82 3 (by decide)
  have e2_207_0 : ψ2 207 0 = ψ1 207 0 := fr_at hF2 207 (by decide) 0
  have e2_207_1 : ψ2 207 1 = ψ1 207 1 := fr_at hF2 207 (by decide) 1
  have hx := gq_whistle hI hI1 hI2 hF1 hF2 hR hs hW hB hE1 hE2
  show hw sc (d + 24) 276 616 L [(0, r2)] ψ2 x Q
  refine hw_pop (a0 := 0) (e := 0) (by decide +kernel) (by decide) ?_
  refine hw_goto (a0 := 0) (b := 0) (e := 1263) (by decide +kernel) ?_
  exact hQ L ψ2 x g0 g1 g2 g3 g4 hI2 (by omega) ⟨by have := hk.1; omega, by have := hk.2; omega⟩ (tpr_f hB (fun k => ((fr_at hF2 2 (by decide) k).trans (fr_at hF1 2 (by decide) k))) (fun k => ((fr_at hF2 193 (by decide) k).trans (fr_at hF1 193 (by decide) k)))) (kwr_f hW (fun k => ((fr_at hF2 3 (by decide) k).trans (fr_at hF1 3 (by decide) k))) (fun k => ((fr_at hF2 198 (by decide) k).trans (fr_at hF1 198 (by decide) k)))) hx.2 (by omega)
theorem lw_c13 {sc : List Int} {d x : Nat} {φ : hf_F} {L : jm_L} {Q : Option jm_V → hf_F → Nat → Prop} {i : Int} (g0 : jm_get L 0 = some (4, 2)) (g1 : jm_get L 1 = some (2, 0)) (g2 : jm_get L 2 = some (2, 192)) (g3 : jm_get L 3 = some (2, 208)) (g4 : jm_get L 4 = some (0, i)) (hI : Inv φ) (hs : φ 1 2 = φ 192 2) (hk : KR φ) (hB : TPR φ φ) (hW : KWR φ φ) (hR : RLX φ φ) (h0 : 0 ≤ i) (h1 : i + 6 ≤ (sc.length : Int)) (hL : sc.length ≤ 3072) (hsc : SCP sc) (hd : 10 ≤ d)
    (hQ : (∀ (L1 : jm_L) (ψ : hf_F) (y : Nat), jm_get L1 0 = some (4, 2) → jm_get L1 1 = some (2, 0) → jm_get L1 2 = some (2, 192) → jm_get L1 3 = some (2, 208) → jm_get L1 4 = some (0, i) → Inv ψ → ψ 1 2 = ψ 192 2 → KR ψ → TPR ψ ψ → KWR ψ ψ → RLX ψ ψ → y ≤ x + 1 → hw sc (d + 24) 276 1263 L1 [] ψ y Q)) : hw sc (d + 24) 276 620 L [] φ x Q := by
  have f0 := hsc (i).toNat
  have f1 := hsc (i + 1).toNat
  have f2 := hsc (i + 2).toNat
  have f3 := hsc (i + 3).toNat
  have f4 := hsc (i + 4).toNat
  have f5 := hsc (i + 5).toNat
  have u1 := iv_at (a := 1) (k := 2) (lo := 0) (u := 940) hI (by decide +kernel)
  have u192 := iv_at (a := 192) (k := 2) (lo := 0) (u := 940) hI (by decide +kernel)
  refine hw_ald (b := 1) (e := 0) (by decide +kernel) g1 (by decide) ?_
  refine hw_tld (b := 0) (e := 0) (by decide +kernel) g0 ?_
  refine hw_ld (b := 4) (e := 1) (by decide +kernel) g4 ?_
  refine hw_k (c := 1) (b := 0) (e := 1) (by decide +kernel) ?_
  refine hw_bin (w := i + 1) (a0 := 0) (b := 0) (e := 0) (by decide +kernel) rfl ?_
  refine hw_sce (a0 := 0) (j := i + 1) (e := 0) (by decide +kernel) (by omega) (by omega) hL ?_
  refine hr_call (a0 := 10) (b := 89) (e := 2) (nl := 4) (As := [(0, sc.getD (i + 1).toNat 0)]) (R := []) 0 rfl (by decide +kernel) rfl rfl (Nat.le_of_ble_eq_true rfl) (Nat.le_of_ble_eq_true rfl) ?_
  refine sf_89_0 (φ := φ) hI (by omega) (by omega) (fun r1 ψ1 hI1 hF1 hp1 hE1 => ⟨hne0, ?_⟩)
  have e1_1_2 : ψ1 1 2 = φ 1 2 := fr_fd hF1 1 2 (by decide)
  have e1_192_2 : ψ1 192 2 = φ 192 2 := fr_fd hF1 192 2 (by decide)
  have e1_56_3 : ψ1 56 3 = φ 56 3 := fr_fd hF1 56 3 (by decide)
  have e1_82_3 : ψ1 82 3 = φ 82 3 := fr_fd hF1 82 3 (by decide)
  have e1_207_0 : ψ1 207 0 = φ 207 0 := fr_at hF1 207 (by decide) 0
  have e1_207_1 : ψ1 207 1 = φ 207 1 := fr_at hF1 207 (by decide) 1
  show hw sc (d + 24) 276 630 L [(0, r1)] ψ1 x Q
  refine hw_pop (a0 := 0) (e := 0) (by decide +kernel) (by decide) ?_
  refine hw_ald (b := 2) (e := 0) (by decide +kernel) g2 (by decide) ?_
  refine hw_tld (b := 0) (e := 0) (by decide +kernel) g0 ?_
  refine hw_ld (b := 4) (e := 1) (by decide +kernel) g4 ?_
  refine hw_k (c := 1) (b := 0) (e := 1) (by decide +kernel) ?_
  refine hw_bin (w := i + 1) (a0 := 0) (b := 0) (e := 0) (by decide +kernel) rfl ?_
  refine hw_sce (a0 := 0) (j := i + 1) (e := 0) (by decide +kernel) (by omega) (by omega) hL ?_
  refine hr_call (a0 := 22) (b := 224) (e := 2) (nl := 2) (As := [(0, sc.getD (i + 1).toNat 0)]) (R := []) 192 rfl (by decide +kernel) rfl rfl (Nat.le_of_ble_eq_true rfl) (Nat.le_of_ble_eq_true rfl) ?_
  refine sf_224_192 (φ := ψ1) hI1 (by omega) (by omega) (fun r2 ψ2 hI2 hF2 hp2 hE2 => ⟨hne0, ?_⟩)
  have e2_1_2 : ψ2 1 2 = ψ1 1 2 := fr_fd hF2 1 2 (by decide)
  have e2_192_2 : ψ2 192 2 = ψ1 192 2 := fr_fd hF2 192 2 (by decide)
  have e2_56_3 : ψ2 56 3 = ψ1 56 3 := fr_fd hF2 56 3 (by decide)
  have e2_82_3 : ψ2 82 3 = ψ1 82 3 := fr_fd hF2 82 3 (by decide)
  have e2_207_0 : ψ2 207 0 = ψ1 207 0 := fr_at hF2 207 (by decide) 0
  have e2_207_1 : ψ2 207 1 = ψ1 207 1 := fr_at hF2 207 (by decide) 1
  have hx := gq_ticks hI hI1 hI2 hF1 hF2 hR hs hW hB hE1 hE2
  show hw sc (d + 24) 276 641 L [(0, r2)] ψ2 x Q
  refine hw_pop (a0 := 0) (e := 0) (by decide +kernel) (by decide) ?_
  refine hw_goto (a0 := 0) (b := 0) (e := 1263) (by decide +kernel) ?_
  exact hQ L ψ2 x g0 g1 g2 g3 g4 hI2 (by omega) ⟨by have := hk.1; omega, by have := hk.2; omega⟩ (tpr_f hB (fun k => ((fr_at hF2 2 (by decide) k).trans (fr_at hF1 2 (by decide) k))) (fun k => ((fr_at hF2 193 (by decide) k).trans (fr_at hF1 193 (by decide) k)))) (kwr_f hW (fun k => ((fr_at hF2 3 (by decide) k).trans (fr_at hF1 3 (by decide) k))) (fun k => ((fr_at hF2 198 (by decide) k).trans (fr_at hF1 198 (by decide) k)))) hx.2 (by omega)
theorem lw_c14 {sc : List Int} {d x : Nat} {φ : hf_F} {L : jm_L} {Q : Option jm_V → hf_F → Nat → Prop} {i : Int} (g0 : jm_get L 0 = some (4, 2)) (g1 : jm_get L 1 = some (2, 0)) (g2 : jm_get L 2 = some (2, 192)) (g3 : jm_get L 3 = some (2, 208)) (g4 : jm_get L 4 = some (0, i)) (hI : Inv φ) (hs : φ 1 2 = φ 192 2) (hk : KR φ) (hB : TPR φ φ) (hW : KWR φ φ) (hR : RLX φ φ) (h0 : 0 ≤ i) (h1 : i + 6 ≤ (sc.length : Int)) (hL : sc.length ≤ 3072) (hsc : SCP sc) (hd : 10 ≤ d)
    (hQ : (∀ (L1 : jm_L) (ψ : hf_F) (y : Nat), jm_get L1 0 = some (4, 2) → jm_get L1 1 = some (2, 0) → jm_get L1 2 = some (2, 192) → jm_get L1 3 = some (2, 208) → jm_get L1 4 = some (0, i) → Inv ψ → ψ 1 2 = ψ 192 2 → KR ψ → TPR ψ ψ → KWR ψ ψ → RLX ψ ψ → y ≤ x + 1 → hw sc (d + 24) 276 1263 L1 [] ψ y Q)) : hw sc (d + 24) 276 645 L [] φ x Q := by
  have f0 := hsc (i).toNat
  have f1 := hsc (i + 1).toNat
  have f2 := hsc (i + 2).toNat
  have f3 := hsc (i + 3).toNat
  have f4 := hsc (i + 4).toNat
  have f5 := hsc (i + 5).toNat
  have u1 := iv_at (a := 1) (k := 2) (lo := 0) (u := 940) hI (by decide +kernel)
  have u192 := iv_at (a := 192) (k := 2) (lo := 0) (u := 940) hI (by decide +kernel)
  refine hw_ald (b := 1) (e := 0) (by decide +kernel) g1 (by decide) ?_
  refine hr_call (a0 := 10) (b := 94) (e := 1) (nl := 1) (As := []) (R := []) 0 rfl (by decide +kernel) rfl rfl (Nat.le_of_ble_eq_true rfl) (Nat.le_of_ble_eq_true rfl) ?_
  refine sf_94_0 (φ := φ) hI  (fun r1 ψ1 hI1 hF1 hp1 hE1 => ⟨hne0, ?_⟩)
  have e1_1_2 : ψ1 1 2 = φ 1 2 := fr_fd hF1 1 2 (by decide)
  have e1_192_2 : ψ1 192 2 = φ 192 2 := fr_fd hF1 192 2 (by decide)
  have e1_56_3 : ψ1 56 3 = φ 56 3 := fr_fd hF1 56 3 (by decide)
  have e1_82_3 : ψ1 82 3 = φ 82 3 := fr_fd hF1 82 3 (by decide)
  have e1_207_0 : ψ1 207 0 = φ 207 0 := fr_at hF1 207 (by decide) 0
  have e1_207_1 : ψ1 207 1 = φ 207 1 := fr_at hF1 207 (by decide) 1
  show hw sc (d + 24) 276 649 L [(0, r1)] ψ1 x Q
  refine hw_pop (a0 := 0) (e := 0) (by decide +kernel) (by decide) ?_
  refine hw_ald (b := 2) (e := 0) (by decide +kernel) g2 (by decide) ?_
  refine hr_call (a0 := 22) (b := 228) (e := 1) (nl := 2) (As := []) (R := []) 192 rfl (by decide +kernel) rfl rfl (Nat.le_of_ble_eq_true rfl) (Nat.le_of_ble_eq_true rfl) ?_
  refine sf_228_192 (φ := ψ1) hI1  (fun r2 ψ2 hI2 hF2 hp2 hE2 => ⟨hne0, ?_⟩)
  have e2_1_2 : ψ2 1 2 = ψ1 1 2 := fr_fd hF2 1 2 (by decide)
  have e2_192_2 : ψ2 192 2 = ψ1 192 2 := fr_fd hF2 192 2 (by decide)
  have e2_56_3 : ψ2 56 3 = ψ1 56 3 := fr_fd hF2 56 3 (by decide)
  have e2_82_3 : ψ2 82 3 = ψ1 82 3 := fr_fd hF2 82 3 (by decide)
  have e2_207_0 : ψ2 207 0 = ψ1 207 0 := fr_at hF2 207 (by decide) 0
  have e2_207_1 : ψ2 207 1 = ψ1 207 1 := fr_at hF2 207 (by decide) 1
  have hx := gq_undo hI hI1 hI2 hF1 hF2 hR hs hW hB hE1 hE2
  show hw sc (d + 24) 276 654 L [(0, r2)] ψ2 x Q
  refine hw_pop (a0 := 0) (e := 0) (by decide +kernel) (by decide) ?_
  refine hw_goto (a0 := 0) (b := 0) (e := 1263) (by decide +kernel) ?_
  exact hQ L ψ2 x g0 g1 g2 g3 g4 hI2 (by omega) ⟨by have := hk.1; omega, by have := hk.2; omega⟩ (tpr_f hB (fun k => ((fr_at hF2 2 (by decide) k).trans (fr_at hF1 2 (by decide) k))) (fun k => ((fr_at hF2 193 (by decide) k).trans (fr_at hF1 193 (by decide) k)))) (kwr_f hW (fun k => ((fr_at hF2 3 (by decide) k).trans (fr_at hF1 3 (by decide) k))) (fun k => ((fr_at hF2 198 (by decide) k).trans (fr_at hF1 198 (by decide) k)))) hx.2 (by omega)
theorem lw_c15 {sc : List Int} {d x : Nat} {φ : hf_F} {L : jm_L} {Q : Option jm_V → hf_F → Nat → Prop} {i : Int} (g0 : jm_get L 0 = some (4, 2)) (g1 : jm_get L 1 = some (2, 0)) (g2 : jm_get L 2 = some (2, 192)) (g3 : jm_get L 3 = some (2, 208)) (g4 : jm_get L 4 = some (0, i)) (hI : Inv φ) (hs : φ 1 2 = φ 192 2) (hk : KR φ) (hB : TPR φ φ) (hW : KWR φ φ) (hR : RLX φ φ) (h0 : 0 ≤ i) (h1 : i + 6 ≤ (sc.length : Int)) (hL : sc.length ≤ 3072) (hsc : SCP sc) (hd : 10 ≤ d)
    (hQ : (∀ (L1 : jm_L) (ψ : hf_F) (y : Nat), jm_get L1 0 = some (4, 2) → jm_get L1 1 = some (2, 0) → jm_get L1 2 = some (2, 192) → jm_get L1 3 = some (2, 208) → jm_get L1 4 = some (0, i) → Inv ψ → ψ 1 2 = ψ 192 2 → KR ψ → TPR ψ ψ → KWR ψ ψ → RLX ψ ψ → y ≤ x + 1 → hw sc (d + 24) 276 1263 L1 [] ψ y Q)) : hw sc (d + 24) 276 658 L [] φ x Q := by
  have f0 := hsc (i).toNat
  have f1 := hsc (i + 1).toNat
  have f2 := hsc (i + 2).toNat
  have f3 := hsc (i + 3).toNat
  have f4 := hsc (i + 4).toNat
  have f5 := hsc (i + 5).toNat
  have u1 := iv_at (a := 1) (k := 2) (lo := 0) (u := 940) hI (by decide +kernel)
  have u192 := iv_at (a := 192) (k := 2) (lo := 0) (u := 940) hI (by decide +kernel)
  refine hw_ald (b := 1) (e := 0) (by decide +kernel) g1 (by decide) ?_
  refine hw_tld (b := 0) (e := 0) (by decide +kernel) g0 ?_
  refine hw_ld (b := 4) (e := 1) (by decide +kernel) g4 ?_
  refine hw_k (c := 1) (b := 0) (e := 1) (by decide +kernel) ?_
  refine hw_bin (w := i + 1) (a0 := 0) (b := 0) (e := 0) (by decide +kernel) rfl ?_
  refine hw_sce (a0 := 0) (j := i + 1) (e := 0) (by decide +kernel) (by omega) (by omega) hL ?_
  refine hr_call (a0 := 10) (b := 96) (e := 2) (nl := 2) (As := [(0, sc.getD (i + 1).toNat 0)]) (R := []) 0 rfl (by decide +kernel) rfl rfl (Nat.le_of_ble_eq_true rfl) (Nat.le_of_ble_eq_true rfl) ?_
  refine sf_96_0 (φ := φ) hI (by omega) (by omega) (fun r1 hp1 hE1 => ⟨hne0, ?_⟩)
  show hw sc (d + 24) 276 668 L [(0, r1)] φ x Q
  refine hw_pop (a0 := 0) (e := 0) (by decide +kernel) (by decide) ?_
  refine hw_ald (b := 2) (e := 0) (by decide +kernel) g2 (by decide) ?_
  refine hw_tld (b := 0) (e := 0) (by decide +kernel) g0 ?_
  refine hw_ld (b := 4) (e := 1) (by decide +kernel) g4 ?_
  refine hw_k (c := 1) (b := 0) (e := 1) (by decide +kernel) ?_
  refine hw_bin (w := i + 1) (a0 := 0) (b := 0) (e := 0) (by decide +kernel) rfl ?_
  refine hw_sce (a0 := 0) (j := i + 1) (e := 0) (by decide +kernel) (by omega) (by omega) hL ?_
  refine hr_call (a0 := 22) (b := 229) (e := 2) (nl := 3) (As := [(0, sc.getD (i + 1).toNat 0)]) (R := []) 192 rfl (by decide +kernel) rfl rfl (Nat.le_of_ble_eq_true rfl) (Nat.le_of_ble_eq_true rfl) ?_
  refine sf_229_192 (φ := φ) hI (by omega) (by omega) (fun r2 ψ2 hI2 hF2 hp2 hE2 => ⟨hne0, ?_⟩)
  have e2_1_2 : ψ2 1 2 = φ 1 2 := fr_fd hF2 1 2 (by decide)
  have e2_192_2 : ψ2 192 2 = φ 192 2 := fr_fd hF2 192 2 (by decide)
  have e2_56_3 : ψ2 56 3 = φ 56 3 := fr_fd hF2 56 3 (by decide)
  have e2_82_3 : ψ2 82 3 = φ 82 3 := fr_fd hF2 82 3 (by decide)
  have e2_207_0 : ψ2 207 0 = φ 207 0 := fr_at hF2 207 (by decide) 0
  have e2_207_1 : ψ2 207 1 = φ 207 1 := fr_at hF2 207 (by decide) 1
  have hx := gq_comes hI hI2 hF2 hR hs hW hB hE1 hE2
  show hw sc (d + 24) 276 679 L [(0, r2)] ψ2 x Q
  refine hw_pop (a0 := 0) (e := 0) (by decide +kernel) (by decide) ?_
  refine hw_goto (a0 := 0) (b := 0) (e := 1263) (by decide +kernel) ?_
  exact hQ L ψ2 x g0 g1 g2 g3 g4 hI2 (by omega) ⟨by have := hk.1; omega, by have := hk.2; omega⟩ (tpr_f hB (fun k => (fr_at hF2 2 (by decide) k)) (fun k => (fr_at hF2 193 (by decide) k))) (kwr_f hW (fun k => (fr_at hF2 3 (by decide) k)) (fun k => (fr_at hF2 198 (by decide) k))) hx.2 (by omega)
theorem lw_c16 {sc : List Int} {d x : Nat} {φ : hf_F} {L : jm_L} {Q : Option jm_V → hf_F → Nat → Prop} {i : Int} (g0 : jm_get L 0 = some (4, 2)) (g1 : jm_get L 1 = some (2, 0)) (g2 : jm_get L 2 = some (2, 192)) (g3 : jm_get L 3 = some (2, 208)) (g4 : jm_get L 4 = some (0, i)) (hI : Inv φ) (hs : φ 1 2 = φ 192 2) (hk : KR φ) (hB : TPR φ φ) (hW : KWR φ φ) (hR : RLX φ φ) (h0 : 0 ≤ i) (h1 : i + 6 ≤ (sc.length : Int)) (hL : sc.length ≤ 3072) (hsc : SCP sc) (hd : 10 ≤ d)
    (hQ : (∀ (L1 : jm_L) (ψ : hf_F) (y : Nat), jm_get L1 0 = some (4, 2) → jm_get L1 1 = some (2, 0) → jm_get L1 2 = some (2, 192) → jm_get L1 3 = some (2, 208) → jm_get L1 4 = some (0, i) → Inv ψ → ψ 1 2 = ψ 192 2 → KR ψ → TPR ψ ψ → KWR ψ ψ → RLX ψ ψ → y ≤ x + 1 → hw sc (d + 24) 276 1263 L1 [] ψ y Q)) : hw sc (d + 24) 276 683 L [] φ x Q := by
  have f0 := hsc (i).toNat
  have f1 := hsc (i + 1).toNat
  have f2 := hsc (i + 2).toNat
  have f3 := hsc (i + 3).toNat
  have f4 := hsc (i + 4).toNat
  have f5 := hsc (i + 5).toNat
  have u1 := iv_at (a := 1) (k := 2) (lo := 0) (u := 940) hI (by decide +kernel)
  have u192 := iv_at (a := 192) (k := 2) (lo := 0) (u := 940) hI (by decide +kernel)
  refine hw_ald (b := 1) (e := 0) (by decide +kernel) g1 (by decide) ?_
  refine hw_tld (b := 0) (e := 0) (by decide +kernel) g0 ?_
  refine hw_ld (b := 4) (e := 1) (by decide +kernel) g4 ?_
  refine hw_k (c := 1) (b := 0) (e := 1) (by decide +kernel) ?_
  refine hw_bin (w := i + 1) (a0 := 0) (b := 0) (e := 0) (by decide +kernel) rfl ?_
  refine hw_sce (a0 := 0) (j := i + 1) (e := 0) (by decide +kernel) (by omega) (by omega) hL ?_
  refine hw_tld (b := 0) (e := 0) (by decide +kernel) g0 ?_
  refine hw_ld (b := 4) (e := 1) (by decide +kernel) g4 ?_
  refine hw_k (c := 2) (b := 0) (e := 1) (by decide +kernel) ?_
  refine hw_bin (w := i + 2) (a0 := 0) (b := 0) (e := 0) (by decide +kernel) rfl ?_
  refine hw_sce (a0 := 0) (j := i + 2) (e := 0) (by decide +kernel) (by omega) (by omega) hL ?_
  refine hr_call (a0 := 10) (b := 98) (e := 3) (nl := 3) (As := [(0, sc.getD (i + 1).toNat 0), (0, sc.getD (i + 2).toNat 0)]) (R := []) 0 rfl (by decide +kernel) rfl rfl (Nat.le_of_ble_eq_true rfl) (Nat.le_of_ble_eq_true rfl) ?_
  refine sf_98_0 (φ := φ) hI (by omega) (by omega) (by omega) (by omega) (fun r1 hp1 hE1 => ⟨hne0, ?_⟩)
  show hw sc (d + 24) 276 699 L [(0, r1)] φ x Q
  refine hw_ald (b := 2) (e := 0) (by decide +kernel) g2 (by decide) ?_
  refine hw_tld (b := 0) (e := 0) (by decide +kernel) g0 ?_
  refine hw_ld (b := 4) (e := 1) (by decide +kernel) g4 ?_
  refine hw_k (c := 1) (b := 0) (e := 1) (by decide +kernel) ?_
  refine hw_bin (w := i + 1) (a0 := 0) (b := 0) (e := 0) (by decide +kernel) rfl ?_
  refine hw_sce (a0 := 0) (j := i + 1) (e := 0) (by decide +kernel) (by omega) (by omega) hL ?_
  refine hw_tld (b := 0) (e := 0) (by decide +kernel) g0 ?_
  refine hw_ld (b := 4) (e := 1) (by decide +kernel) g4 ?_
  refine hw_k (c := 2) (b := 0) (e := 1) (by decide +kernel) ?_
  refine hw_bin (w := i + 2) (a0 := 0) (b := 0) (e := 0) (by decide +kernel) rfl ?_
  refine hw_sce (a0 := 0) (j := i + 2) (e := 0) (by decide +kernel) (by omega) (by omega) hL ?_
  refine hr_call (a0 := 22) (b := 231) (e := 3) (nl := 4) (As := [(0, sc.getD (i + 1).toNat 0), (0, sc.getD (i + 2).toNat 0)]) (R := [(0, r1)]) 192 rfl (by decide +kernel) rfl rfl (Nat.le_of_ble_eq_true rfl) (Nat.le_of_ble_eq_true rfl) ?_
  refine sf_231_192 (φ := φ) hI (by omega) (by omega) (by omega) (by omega) (fun r2 ψ2 hI2 hF2 hp2 hE2 => ⟨hne0, ?_⟩)
  have e2_1_2 : ψ2 1 2 = φ 1 2 := fr_fd hF2 1 2 (by decide)
  have e2_192_2 : ψ2 192 2 = φ 192 2 := fr_fd hF2 192 2 (by decide)
  have e2_56_3 : ψ2 56 3 = φ 56 3 := fr_fd hF2 56 3 (by decide)
  have e2_82_3 : ψ2 82 3 = φ 82 3 := fr_fd hF2 82 3 (by decide)
  have e2_207_0 : ψ2 207 0 = φ 207 0 := fr_at hF2 207 (by decide) 0
  have e2_207_1 : ψ2 207 1 = φ 207 1 := fr_at hF2 207 (by decide) 1
  have hx := gq_both hI hI2 hF2 hR hs hW hB hE1 hE2
  show hw sc (d + 24) 276 715 L [(0, r2), (0, r1)] ψ2 x Q
  refine hw_if2n (a0 := 0) (b := 0) (e := 1263) (by decide +kernel) (fun q => ?_) (fun q => absurd (show jm_n r1 = jm_n r2 from congrArg jm_n (show r1 = r2 from hx.1)) q)
  exact hQ L ψ2 x g0 g1 g2 g3 g4 hI2 (by omega) ⟨by have := hk.1; omega, by have := hk.2; omega⟩ (tpr_f hB (fun k => (fr_at hF2 2 (by decide) k)) (fun k => (fr_at hF2 193 (by decide) k))) (kwr_f hW (fun k => (fr_at hF2 3 (by decide) k)) (fun k => (fr_at hF2 198 (by decide) k))) hx.2 (by omega)
theorem lw_c17 {sc : List Int} {d x : Nat} {φ : hf_F} {L : jm_L} {Q : Option jm_V → hf_F → Nat → Prop} {i : Int} (g0 : jm_get L 0 = some (4, 2)) (g1 : jm_get L 1 = some (2, 0)) (g2 : jm_get L 2 = some (2, 192)) (g3 : jm_get L 3 = some (2, 208)) (g4 : jm_get L 4 = some (0, i)) (hI : Inv φ) (hs : φ 1 2 = φ 192 2) (hk : KR φ) (hB : TPR φ φ) (hW : KWR φ φ) (hR : RLX φ φ) (h0 : 0 ≤ i) (h1 : i + 6 ≤ (sc.length : Int)) (hL : sc.length ≤ 3072) (hsc : SCP sc) (hd : 10 ≤ d)
    (hQ : (∀ (L1 : jm_L) (ψ : hf_F) (y : Nat), jm_get L1 0 = some (4, 2) → jm_get L1 1 = some (2, 0) → jm_get L1 2 = some (2, 192) → jm_get L1 3 = some (2, 208) → jm_get L1 4 = some (0, i) → Inv ψ → ψ 1 2 = ψ 192 2 → KR ψ → TPR ψ ψ → KWR ψ ψ → RLX ψ ψ → y ≤ x + 1 → hw sc (d + 24) 276 1263 L1 [] ψ y Q)) : hw sc (d + 24) 276 720 L [] φ x Q := by
  have f0 := hsc (i).toNat
  have f1 := hsc (i + 1).toNat
  have f2 := hsc (i + 2).toNat
  have f3 := hsc (i + 3).toNat
  have f4 := hsc (i + 4).toNat
  have f5 := hsc (i + 5).toNat
  have u1 := iv_at (a := 1) (k := 2) (lo := 0) (u := 940) hI (by decide +kernel)
  have u192 := iv_at (a := 192) (k := 2) (lo := 0) (u := 940) hI (by decide +kernel)
  refine hw_ald (b := 1) (e := 0) (by decide +kernel) g1 (by decide) ?_
  refine hw_tld (b := 0) (e := 0) (by decide +kernel) g0 ?_
  refine hw_ld (b := 4) (e := 1) (by decide +kernel) g4 ?_
  refine hw_k (c := 1) (b := 0) (e := 1) (by decide +kernel) ?_
  refine hw_bin (w := i + 1) (a0 := 0) (b := 0) (e := 0) (by decide +kernel) rfl ?_
  refine hw_sce (a0 := 0) (j := i + 1) (e := 0) (by decide +kernel) (by omega) (by omega) hL ?_
  refine hr_call (a0 := 10) (b := 100) (e := 2) (nl := 2) (As := [(0, sc.getD (i + 1).toNat 0)]) (R := []) 0 rfl (by decide +kernel) rfl rfl (Nat.le_of_ble_eq_true rfl) (Nat.le_of_ble_eq_true rfl) ?_
  refine sf_100_0 (φ := φ) hI (by omega) (by omega) (fun r1 ψ1 hI1 hF1 hp1 hE1 => ⟨hne0, ?_⟩)
  have e1_1_2 : ψ1 1 2 = φ 1 2 := fr_fd hF1 1 2 (by decide)
  have e1_192_2 : ψ1 192 2 = φ 192 2 := fr_fd hF1 192 2 (by decide)
  have e1_56_3 : ψ1 56 3 = φ 56 3 := fr_fd hF1 56 3 (by decide)
  have e1_82_3 : ψ1 82 3 = φ 82 3 := fr_fd hF1 82 3 (by decide)
  have e1_207_0 : ψ1 207 0 = φ 207 0 := fr_at hF1 207 (by decide) 0
  have e1_207_1 : ψ1 207 1 = φ 207 1 := fr_at hF1 207 (by decide) 1
  show hw sc (d + 24) 276 730 L [(0, r1)] ψ1 x Q
  refine hw_pop (a0 := 0) (e := 0) (by decide +kernel) (by decide) ?_
  refine hw_ald (b := 2) (e := 0) (by decide +kernel) g2 (by decide) ?_
  refine hw_tld (b := 0) (e := 0) (by decide +kernel) g0 ?_
  refine hw_ld (b := 4) (e := 1) (by decide +kernel) g4 ?_
  refine hw_k (c := 1) (b := 0) (e := 1) (by decide +kernel) ?_
  refine hw_bin (w := i + 1) (a0 := 0) (b := 0) (e := 0) (by decide +kernel) rfl ?_
  refine hw_sce (a0 := 0) (j := i + 1) (e := 0) (by decide +kernel) (by omega) (by omega) hL ?_
  refine hr_call (a0 := 22) (b := 232) (e := 2) (nl := 2) (As := [(0, sc.getD (i + 1).toNat 0)]) (R := []) 192 rfl (by decide +kernel) rfl rfl (Nat.le_of_ble_eq_true rfl) (Nat.le_of_ble_eq_true rfl) ?_
  refine sf_232_192 (φ := ψ1) hI1 (by omega) (by omega) (fun r2 ψ2 hI2 hF2 hp2 hE2 => ⟨hne0, ?_⟩)
  have e2_1_2 : ψ2 1 2 = ψ1 1 2 := fr_fd hF2 1 2 (by decide)
  have e2_192_2 : ψ2 192 2 = ψ1 192 2 := fr_fd hF2 192 2 (by decide)
  have e2_56_3 : ψ2 56 3 = ψ1 56 3 := fr_fd hF2 56 3 (by decide)
  have e2_82_3 : ψ2 82 3 = ψ1 82 3 := fr_fd hF2 82 3 (by decide)
  have e2_207_0 : ψ2 207 0 = ψ1 207 0 := fr_at hF2 207 (by decide) 0
  have e2_207_1 : ψ2 207 1 = ψ1 207 1 := fr_at hF2 207 (by decide) 1
  have hx := gq_holds hI hI1 hI2 hF1 hF2 hR hs hW hB hE1 hE2
  show hw sc (d + 24) 276 741 L [(0, r2)] ψ2 x Q
  refine hw_pop (a0 := 0) (e := 0) (by decide +kernel) (by decide) ?_
  refine hw_goto (a0 := 0) (b := 0) (e := 1263) (by decide +kernel) ?_
  exact hQ L ψ2 x g0 g1 g2 g3 g4 hI2 (by omega) ⟨by have := hk.1; omega, by have := hk.2; omega⟩ (tpr_f hB (fun k => ((fr_at hF2 2 (by decide) k).trans (fr_at hF1 2 (by decide) k))) (fun k => ((fr_at hF2 193 (by decide) k).trans (fr_at hF1 193 (by decide) k)))) (kwr_f hW (fun k => ((fr_at hF2 3 (by decide) k).trans (fr_at hF1 3 (by decide) k))) (fun k => ((fr_at hF2 198 (by decide) k).trans (fr_at hF1 198 (by decide) k)))) hx.2 (by omega)
theorem lw_c18 {sc : List Int} {d x : Nat} {φ : hf_F} {L : jm_L} {Q : Option jm_V → hf_F → Nat → Prop} {i : Int} (g0 : jm_get L 0 = some (4, 2)) (g1 : jm_get L 1 = some (2, 0)) (g2 : jm_get L 2 = some (2, 192)) (g3 : jm_get L 3 = some (2, 208)) (g4 : jm_get L 4 = some (0, i)) (hI : Inv φ) (hs : φ 1 2 = φ 192 2) (hk : KR φ) (hB : TPR φ φ) (hW : KWR φ φ) (hR : RLX φ φ) (h0 : 0 ≤ i) (h1 : i + 6 ≤ (sc.length : Int)) (hL : sc.length ≤ 3072) (hsc : SCP sc) (hd : 10 ≤ d)
    (hQ : (∀ (L1 : jm_L) (ψ : hf_F) (y : Nat), jm_get L1 0 = some (4, 2) → jm_get L1 1 = some (2, 0) → jm_get L1 2 = some (2, 192) → jm_get L1 3 = some (2, 208) → jm_get L1 4 = some (0, i) → Inv ψ → ψ 1 2 = ψ 192 2 → KR ψ → TPR ψ ψ → KWR ψ ψ → RLX ψ ψ → y ≤ x + 1 → hw sc (d + 24) 276 1263 L1 [] ψ y Q)) : hw sc (d + 24) 276 745 L [] φ x Q := by
  have f0 := hsc (i).toNat
  have f1 := hsc (i + 1).toNat
  have f2 := hsc (i + 2).toNat
  have f3 := hsc (i + 3).toNat
  have f4 := hsc (i + 4).toNat
  have f5 := hsc (i + 5).toNat
  have u1 := iv_at (a := 1) (k := 2) (lo := 0) (u := 940) hI (by decide +kernel)
  have u192 := iv_at (a := 192) (k := 2) (lo := 0) (u := 940) hI (by decide +kernel)
  refine hw_ald (b := 1) (e := 0) (by decide +kernel) g1 (by decide) ?_
  refine hw_tld (b := 0) (e := 0) (by decide +kernel) g0 ?_
  refine hw_ld (b := 4) (e := 1) (by decide +kernel) g4 ?_
  refine hw_k (c := 1) (b := 0) (e := 1) (by decide +kernel) ?_
  refine hw_bin (w := i + 1) (a0 := 0) (b := 0) (e := 0) (by decide +kernel) rfl ?_
  refine hw_sce (a0 := 0) (j := i + 1) (e := 0) (by decide +kernel) (by omega) (by omega) hL ?_
  refine hw_tld (b := 0) (e := 0) (by decide +kernel) g0 ?_
  refine hw_ld (b := 4) (e := 1) (by decide +kernel) g4 ?_
  refine hw_k (c := 2) (b := 0) (e := 1) (by decide +kernel) ?_
  refine hw_bin (w := i + 2) (a0 := 0) (b := 0) (e := 0) (by decide +kernel) rfl ?_
  refine hw_sce (a0 := 0) (j := i + 2) (e := 0) (by decide +kernel) (by omega) (by omega) hL ?_
  refine hr_call (a0 := 10) (b := 103) (e := 3) (nl := 4) (As := [(0, sc.getD (i + 1).toNat 0), (0, sc.getD (i + 2).toNat 0)]) (R := []) 0 rfl (by decide +kernel) rfl rfl (Nat.le_of_ble_eq_true rfl) (Nat.le_of_ble_eq_true rfl) ?_
  refine sf_103_0 (φ := φ) hI (by omega) (by omega) (by omega) (by omega) (fun r1 ψ1 hI1 hF1 hp1 hE1 => ⟨hne0, ?_⟩)
  have e1_1_2 : ψ1 1 2 = φ 1 2 := fr_fd hF1 1 2 (by decide)
  have e1_192_2 : ψ1 192 2 = φ 192 2 := fr_fd hF1 192 2 (by decide)
  have e1_56_3 : ψ1 56 3 = φ 56 3 := fr_fd hF1 56 3 (by decide)
  have e1_82_3 : ψ1 82 3 = φ 82 3 := fr_fd hF1 82 3 (by decide)
  have e1_207_0 : ψ1 207 0 = φ 207 0 := fr_at hF1 207 (by decide) 0
  have e1_207_1 : ψ1 207 1 = φ 207 1 := fr_at hF1 207 (by decide) 1
  show hw sc (d + 24) 276 761 L [(0, r1)] ψ1 x Q
  refine hw_pop (a0 := 0) (e := 0) (by decide +kernel) (by decide) ?_
  refine hw_ald (b := 2) (e := 0) (by decide +kernel) g2 (by decide) ?_
  refine hw_tld (b := 0) (e := 0) (by decide +kernel) g0 ?_
  refine hw_ld (b := 4) (e := 1) (by decide +kernel) g4 ?_
  refine hw_k (c := 1) (b := 0) (e := 1) (by decide +kernel) ?_
  refine hw_bin (w := i + 1) (a0 := 0) (b := 0) (e := 0) (by decide +kernel) rfl ?_
  refine hw_sce (a0 := 0) (j := i + 1) (e := 0) (by decide +kernel) (by omega) (by omega) hL ?_
  refine hw_tld (b := 0) (e := 0) (by decide +kernel) g0 ?_
  refine hw_ld (b := 4) (e := 1) (by decide +kernel) g4 ?_
  refine hw_k (c := 2) (b := 0) (e := 1) (by decide +kernel) ?_
  refine hw_bin (w := i + 2) (a0 := 0) (b := 0) (e := 0) (by decide +kernel) rfl ?_
  refine hw_sce (a0 := 0) (j := i + 2) (e := 0) (by decide +kernel) (by omega) (by omega) hL ?_
  refine hr_call (a0 := 22) (b := 236) (e := 3) (nl := 5) (As := [(0, sc.getD (i + 1).toNat 0), (0, sc.getD (i + 2).toNat 0)]) (R := []) 192 rfl (by decide +kernel) rfl rfl (Nat.le_of_ble_eq_true rfl) (Nat.le_of_ble_eq_true rfl) ?_
  refine sf_236_192 (φ := ψ1) hI1 (by omega) (by omega) (by omega) (by omega) (fun r2 ψ2 hI2 hF2 hp2 hE2 => ⟨hne0, ?_⟩)
  have e2_1_2 : ψ2 1 2 = ψ1 1 2 := fr_fd hF2 1 2 (by decide)
  have e2_192_2 : ψ2 192 2 = ψ1 192 2 := fr_fd hF2 192 2 (by decide)
  have e2_56_3 : ψ2 56 3 = ψ1 56 3 := fr_fd hF2 56 3 (by decide)
  have e2_82_3 : ψ2 82 3 = ψ1 82 3 := fr_fd hF2 82 3 (by decide)
  have e2_207_0 : ψ2 207 0 = ψ1 207 0 := fr_at hF2 207 (by decide) 0
  have e2_207_1 : ψ2 207 1 = ψ1 207 1 := fr_at hF2 207 (by decide) 1
  have hx := gq_aim hI hI1 hI2 hF1 hF2 hR hs hW hB hE1 hE2
  show hw sc (d + 24) 276 778 L [(0, r2)] ψ2 x Q
  refine hw_pop (a0 := 0) (e := 0) (by decide +kernel) (by decide) ?_
  refine hw_goto (a0 := 0) (b := 0) (e := 1263) (by decide +kernel) ?_
  exact hQ L ψ2 x g0 g1 g2 g3 g4 hI2 (by omega) ⟨by have := hk.1; omega, by have := hk.2; omega⟩ (tpr_f hB (fun k => ((fr_at hF2 2 (by decide) k).trans (fr_at hF1 2 (by decide) k))) (fun k => ((fr_at hF2 193 (by decide) k).trans (fr_at hF1 193 (by decide) k)))) (kwr_f hW (fun k => ((fr_at hF2 3 (by decide) k).trans (fr_at hF1 3 (by decide) k))) (fun k => ((fr_at hF2 198 (by decide) k).trans (fr_at hF1 198 (by decide) k)))) hx.2 (by omega)
theorem lw_c19 {sc : List Int} {d x : Nat} {φ : hf_F} {L : jm_L} {Q : Option jm_V → hf_F → Nat → Prop} {i : Int} (g0 : jm_get L 0 = some (4, 2)) (g1 : jm_get L 1 = some (2, 0)) (g2 : jm_get L 2 = some (2, 192)) (g3 : jm_get L 3 = some (2, 208)) (g4 : jm_get L 4 = some (0, i)) (hI : Inv φ) (hs : φ 1 2 = φ 192 2) (hk : KR φ) (hB : TPR φ φ) (hW : KWR φ φ) (hR : RLX φ φ) (h0 : 0 ≤ i) (h1 : i + 6 ≤ (sc.length : Int)) (hL : sc.length ≤ 3072) (hsc : SCP sc) (hd : 10 ≤ d)
    (hQ : (∀ (L1 : jm_L) (ψ : hf_F) (y : Nat), jm_get L1 0 = some (4, 2) → jm_get L1 1 = some (2, 0) → jm_get L1 2 = some (2, 192) → jm_get L1 3 = some (2, 208) → jm_get L1 4 = some (0, i) → Inv ψ → ψ 1 2 = ψ 192 2 → KR ψ → TPR ψ ψ → KWR ψ ψ → RLX ψ ψ → y ≤ x + 1 → hw sc (d + 24) 276 1263 L1 [] ψ y Q)) : hw sc (d + 24) 276 782 L [] φ x Q := by
  have f0 := hsc (i).toNat
  have f1 := hsc (i + 1).toNat
  have f2 := hsc (i + 2).toNat
  have f3 := hsc (i + 3).toNat
  have f4 := hsc (i + 4).toNat
  have f5 := hsc (i + 5).toNat
  have u1 := iv_at (a := 1) (k := 2) (lo := 0) (u := 940) hI (by decide +kernel)
  have u192 := iv_at (a := 192) (k := 2) (lo := 0) (u := 940) hI (by decide +kernel)
  refine hw_ald (b := 1) (e := 0) (by decide +kernel) g1 (by decide) ?_
  refine hr_call (a0 := 10) (b := 105) (e := 1) (nl := 1) (As := []) (R := []) 0 rfl (by decide +kernel) rfl rfl (Nat.le_of_ble_eq_true rfl) (Nat.le_of_ble_eq_true rfl) ?_
  refine sf_105_0 (φ := φ) hI  (fun r1 hp1 hE1 => ⟨hne0, ?_⟩)
  show hw sc (d + 24) 276 786 L [(0, r1)] φ x Q
  refine hw_pop (a0 := 0) (e := 0) (by decide +kernel) (by decide) ?_
  refine hw_ald (b := 2) (e := 0) (by decide +kernel) g2 (by decide) ?_
  refine hr_call (a0 := 22) (b := 237) (e := 1) (nl := 1) (As := []) (R := []) 192 rfl (by decide +kernel) rfl rfl (Nat.le_of_ble_eq_true rfl) (Nat.le_of_ble_eq_true rfl) ?_
  refine sf_237_192 (φ := φ) hI  (fun r2 ψ2 hI2 hF2 hp2 hE2 => ⟨hne0, ?_⟩)
  have e2_1_2 : ψ2 1 2 = φ 1 2 := fr_fd hF2 1 2 (by decide)
  have e2_192_2 : ψ2 192 2 = φ 192 2 := fr_fd hF2 192 2 (by decide)
  have e2_56_3 : ψ2 56 3 = φ 56 3 := fr_fd hF2 56 3 (by decide)
  have e2_82_3 : ψ2 82 3 = φ 82 3 := fr_fd hF2 82 3 (by decide)
  have e2_207_0 : ψ2 207 0 = φ 207 0 := fr_at hF2 207 (by decide) 0
  have e2_207_1 : ψ2 207 1 = φ 207 1 := fr_at hF2 207 (by decide) 1
  have hx := gq_aimSeat hI hI2 hF2 hR hs hW hB hE1 hE2
  show hw sc (d + 24) 276 791 L [(0, r2)] ψ2 x Q
  refine hw_pop (a0 := 0) (e := 0) (by decide +kernel) (by decide) ?_
  refine hw_goto (a0 := 0) (b := 0) (e := 1263) (by decide +kernel) ?_
  exact hQ L ψ2 x g0 g1 g2 g3 g4 hI2 (by omega) ⟨by have := hk.1; omega, by have := hk.2; omega⟩ (tpr_f hB (fun k => (fr_at hF2 2 (by decide) k)) (fun k => (fr_at hF2 193 (by decide) k))) (kwr_f hW (fun k => (fr_at hF2 3 (by decide) k)) (fun k => (fr_at hF2 198 (by decide) k))) hx.2 (by omega)
theorem lw_c20 {sc : List Int} {d x : Nat} {φ : hf_F} {L : jm_L} {Q : Option jm_V → hf_F → Nat → Prop} {i : Int} (g0 : jm_get L 0 = some (4, 2)) (g1 : jm_get L 1 = some (2, 0)) (g2 : jm_get L 2 = some (2, 192)) (g3 : jm_get L 3 = some (2, 208)) (g4 : jm_get L 4 = some (0, i)) (hI : Inv φ) (hs : φ 1 2 = φ 192 2) (hk : KR φ) (hB : TPR φ φ) (hW : KWR φ φ) (hR : RLX φ φ) (h0 : 0 ≤ i) (h1 : i + 6 ≤ (sc.length : Int)) (hL : sc.length ≤ 3072) (hsc : SCP sc) (hd : 10 ≤ d)
    (hQ : (∀ (L1 : jm_L) (ψ : hf_F) (y : Nat), jm_get L1 0 = some (4, 2) → jm_get L1 1 = some (2, 0) → jm_get L1 2 = some (2, 192) → jm_get L1 3 = some (2, 208) → jm_get L1 4 = some (0, i) → Inv ψ → ψ 1 2 = ψ 192 2 → KR ψ → TPR ψ ψ → KWR ψ ψ → RLX ψ ψ → y ≤ x + 1 → hw sc (d + 24) 276 1263 L1 [] ψ y Q)) : hw sc (d + 24) 276 795 L [] φ x Q := by
  have f0 := hsc (i).toNat
  have f1 := hsc (i + 1).toNat
  have f2 := hsc (i + 2).toNat
  have f3 := hsc (i + 3).toNat
  have f4 := hsc (i + 4).toNat
  have f5 := hsc (i + 5).toNat
  have u1 := iv_at (a := 1) (k := 2) (lo := 0) (u := 940) hI (by decide +kernel)
  have u192 := iv_at (a := 192) (k := 2) (lo := 0) (u := 940) hI (by decide +kernel)
  refine hw_ald (b := 1) (e := 0) (by decide +kernel) g1 (by decide) ?_
  refine hw_tld (b := 0) (e := 0) (by decide +kernel) g0 ?_
  refine hw_ld (b := 4) (e := 1) (by decide +kernel) g4 ?_
  refine hw_k (c := 1) (b := 0) (e := 1) (by decide +kernel) ?_
  refine hw_bin (w := i + 1) (a0 := 0) (b := 0) (e := 0) (by decide +kernel) rfl ?_
  refine hw_sce (a0 := 0) (j := i + 1) (e := 0) (by decide +kernel) (by omega) (by omega) hL ?_
  refine hr_call (a0 := 10) (b := 106) (e := 2) (nl := 2) (As := [(0, sc.getD (i + 1).toNat 0)]) (R := []) 0 rfl (by decide +kernel) rfl rfl (Nat.le_of_ble_eq_true rfl) (Nat.le_of_ble_eq_true rfl) ?_
  refine sf_106_0 (φ := φ) hI (by omega) (by omega) (fun r1 hp1 hE1 => ⟨hne0, ?_⟩)
  show hw sc (d + 24) 276 805 L [(0, r1)] φ x Q
  refine hw_pop (a0 := 0) (e := 0) (by decide +kernel) (by decide) ?_
  refine hw_ald (b := 2) (e := 0) (by decide +kernel) g2 (by decide) ?_
  refine hw_tld (b := 0) (e := 0) (by decide +kernel) g0 ?_
  refine hw_ld (b := 4) (e := 1) (by decide +kernel) g4 ?_
  refine hw_k (c := 1) (b := 0) (e := 1) (by decide +kernel) ?_
  refine hw_bin (w := i + 1) (a0 := 0) (b := 0) (e := 0) (by decide +kernel) rfl ?_
  refine hw_sce (a0 := 0) (j := i + 1) (e := 0) (by decide +kernel) (by omega) (by omega) hL ?_
  refine hr_call (a0 := 22) (b := 239) (e := 2) (nl := 4) (As := [(0, sc.getD (i + 1).toNat 0)]) (R := []) 192 rfl (by decide +kernel) rfl rfl (Nat.le_of_ble_eq_true rfl) (Nat.le_of_ble_eq_true rfl) ?_
  refine sf_239_192 (φ := φ) hI (by omega) (by omega) (fun r2 ψ2 hI2 hF2 hp2 hE2 => ⟨hne0, ?_⟩)
  have e2_1_2 : ψ2 1 2 = φ 1 2 := fr_fd hF2 1 2 (by decide)
  have e2_192_2 : ψ2 192 2 = φ 192 2 := fr_fd hF2 192 2 (by decide)
  have e2_56_3 : ψ2 56 3 = φ 56 3 := fr_fd hF2 56 3 (by decide)
  have e2_82_3 : ψ2 82 3 = φ 82 3 := fr_fd hF2 82 3 (by decide)
  have e2_207_0 : ψ2 207 0 = φ 207 0 := fr_at hF2 207 (by decide) 0
  have e2_207_1 : ψ2 207 1 = φ 207 1 := fr_at hF2 207 (by decide) 1
  have hx := gq_able hI hI2 hF2 hR hs hW hB hE1 hE2
  show hw sc (d + 24) 276 816 L [(0, r2)] ψ2 x Q
  refine hw_pop (a0 := 0) (e := 0) (by decide +kernel) (by decide) ?_
  refine hw_goto (a0 := 0) (b := 0) (e := 1263) (by decide +kernel) ?_
  exact hQ L ψ2 x g0 g1 g2 g3 g4 hI2 (by omega) ⟨by have := hk.1; omega, by have := hk.2; omega⟩ (tpr_f hB (fun k => (fr_at hF2 2 (by decide) k)) (fun k => (fr_at hF2 193 (by decide) k))) (kwr_f hW (fun k => (fr_at hF2 3 (by decide) k)) (fun k => (fr_at hF2 198 (by decide) k))) hx.2 (by omega)
theorem lw_c21 {sc : List Int} {d x : Nat} {φ : hf_F} {L : jm_L} {Q : Option jm_V → hf_F → Nat → Prop} {i : Int} (g0 : jm_get L 0 = some (4, 2)) (g1 : jm_get L 1 = some (2, 0)) (g2 : jm_get L 2 = some (2, 192)) (g3 : jm_get L 3 = some (2, 208)) (g4 : jm_get L 4 = some (0, i)) (hI : Inv φ) (hs : φ 1 2 = φ 192 2) (hk : KR φ) (hB : TPR φ φ) (hW : KWR φ φ) (hR : RLX φ φ) (h0 : 0 ≤ i) (h1 : i + 6 ≤ (sc.length : Int)) (hL : sc.length ≤ 3072) (hsc : SCP sc) (hd : 10 ≤ d)
    (hQ : (∀ (L1 : jm_L) (ψ : hf_F) (y : Nat), jm_get L1 0 = some (4, 2) → jm_get L1 1 = some (2, 0) → jm_get L1 2 = some (2, 192) → jm_get L1 3 = some (2, 208) → jm_get L1 4 = some (0, i) → Inv ψ → ψ 1 2 = ψ 192 2 → KR ψ → TPR ψ ψ → KWR ψ ψ → RLX ψ ψ → y ≤ x + 1 → hw sc (d + 24) 276 1263 L1 [] ψ y Q)) : hw sc (d + 24) 276 820 L [] φ x Q := by
  have f0 := hsc (i).toNat
  have f1 := hsc (i + 1).toNat
  have f2 := hsc (i + 2).toNat
  have f3 := hsc (i + 3).toNat
  have f4 := hsc (i + 4).toNat
  have f5 := hsc (i + 5).toNat
  have u1 := iv_at (a := 1) (k := 2) (lo := 0) (u := 940) hI (by decide +kernel)
  have u192 := iv_at (a := 192) (k := 2) (lo := 0) (u := 940) hI (by decide +kernel)
  refine hw_ald (b := 1) (e := 0) (by decide +kernel) g1 (by decide) ?_
  refine hw_tld (b := 0) (e := 0) (by decide +kernel) g0 ?_
  refine hw_ld (b := 4) (e := 1) (by decide +kernel) g4 ?_
  refine hw_k (c := 1) (b := 0) (e := 1) (by decide +kernel) ?_
  refine hw_bin (w := i + 1) (a0 := 0) (b := 0) (e := 0) (by decide +kernel) rfl ?_
  refine hw_sce (a0 := 0) (j := i + 1) (e := 0) (by decide +kernel) (by omega) (by omega) hL ?_
  refine hw_tld (b := 0) (e := 0) (by decide +kernel) g0 ?_
  refine hw_ld (b := 4) (e := 1) (by decide +kernel) g4 ?_
  refine hw_k (c := 2) (b := 0) (e := 1) (by decide +kernel) ?_
  refine hw_bin (w := i + 2) (a0 := 0) (b := 0) (e := 0) (by decide +kernel) rfl ?_
  refine hw_sce (a0 := 0) (j := i + 2) (e := 0) (by decide +kernel) (by omega) (by omega) hL ?_
  refine hw_tld (b := 0) (e := 0) (by decide +kernel) g0 ?_
  refine hw_ld (b := 4) (e := 1) (by decide +kernel) g4 ?_
  refine hw_k (c := 3) (b := 0) (e := 1) (by decide +kernel) ?_
  refine hw_bin (w := i + 3) (a0 := 0) (b := 0) (e := 0) (by decide +kernel) rfl ?_
  refine hw_sce (a0 := 0) (j := i + 3) (e := 0) (by decide +kernel) (by omega) (by omega) hL ?_
  refine hw_ald (b := 3) (e := 0) (by decide +kernel) g3 (by decide) ?_
  refine hr_callw (b := 161) (e := 5) (nl := 6) (As := [(2, 0), (0, sc.getD (i + 1).toNat 0), (0, sc.getD (i + 2).toNat 0), (0, sc.getD (i + 3).toNat 0), (2, 208)]) (R := []) (by decide +kernel) rfl rfl (Nat.le_of_ble_eq_true rfl) (Nat.le_of_ble_eq_true rfl) ?_
  refine lw_h161 (φ := φ) hI (by omega) (by omega) (by omega) (by omega) (by omega) (by omega) (by omega) (fun r1 ψ1 y1 hI1 hF1 hE1 hy1 => ⟨hne0, ?_⟩)
  have e1_1_2 : ψ1 1 2 = φ 1 2 := fr_fd hF1 1 2 (by decide)
  have e1_192_2 : ψ1 192 2 = φ 192 2 := fr_fd hF1 192 2 (by decide)
  have e1_56_3 : ψ1 56 3 = φ 56 3 := fr_fd hF1 56 3 (by decide)
  have e1_82_3 : ψ1 82 3 = φ 82 3 := fr_fd hF1 82 3 (by decide)
  have e1_207_0 : ψ1 207 0 = φ 207 0 := fr_at hF1 207 (by decide) 0
  have e1_207_1 : ψ1 207 1 = φ 207 1 := fr_at hF1 207 (by decide) 1
  show hw sc (d + 24) 276 843 L [(0, r1)] ψ1 y1 Q
  refine hw_st (L' := (jm_st1 L 5 (0, r1))) (b := 5) (e := 1) (by decide +kernel) rfl ?_
  refine hw_ald (b := 2) (e := 0) (by decide +kernel) (get_st1 g2 (by decide) (fun q => absurd q.1 (by decide))) (by decide) ?_
  refine hw_tld (b := 0) (e := 0) (by decide +kernel) (get_st1 g0 (by decide) (fun q => absurd q.1 (by decide))) ?_
  refine hw_ld (b := 4) (e := 1) (by decide +kernel) (get_st1 g4 (by decide) (fun q => tg0 q.2)) ?_
  refine hw_k (c := 1) (b := 0) (e := 1) (by decide +kernel) ?_
  refine hw_bin (w := i + 1) (a0 := 0) (b := 0) (e := 0) (by decide +kernel) rfl ?_
  refine hw_sce (a0 := 0) (j := i + 1) (e := 0) (by decide +kernel) (by omega) (by omega) hL ?_
  refine hw_tld (b := 0) (e := 0) (by decide +kernel) (get_st1 g0 (by decide) (fun q => absurd q.1 (by decide))) ?_
  refine hw_ld (b := 4) (e := 1) (by decide +kernel) (get_st1 g4 (by decide) (fun q => tg0 q.2)) ?_
  refine hw_k (c := 2) (b := 0) (e := 1) (by decide +kernel) ?_
  refine hw_bin (w := i + 2) (a0 := 0) (b := 0) (e := 0) (by decide +kernel) rfl ?_
  refine hw_sce (a0 := 0) (j := i + 2) (e := 0) (by decide +kernel) (by omega) (by omega) hL ?_
  refine hw_tld (b := 0) (e := 0) (by decide +kernel) (get_st1 g0 (by decide) (fun q => absurd q.1 (by decide))) ?_
  refine hw_ld (b := 4) (e := 1) (by decide +kernel) (get_st1 g4 (by decide) (fun q => tg0 q.2)) ?_
  refine hw_k (c := 3) (b := 0) (e := 1) (by decide +kernel) ?_
  refine hw_bin (w := i + 3) (a0 := 0) (b := 0) (e := 0) (by decide +kernel) rfl ?_
  refine hw_sce (a0 := 0) (j := i + 3) (e := 0) (by decide +kernel) (by omega) (by omega) hL ?_
  refine hr_call (a0 := 22) (b := 241) (e := 4) (nl := 7) (As := [(0, sc.getD (i + 1).toNat 0), (0, sc.getD (i + 2).toNat 0), (0, sc.getD (i + 3).toNat 0)]) (R := []) 192 rfl (by decide +kernel) rfl rfl (Nat.le_of_ble_eq_true rfl) (Nat.le_of_ble_eq_true rfl) ?_
  refine sf_241_192 (φ := ψ1) hI1 (by omega) (by omega) (by omega) (by omega) (by omega) (by omega) (fun r2 ψ2 hI2 hF2 hp2 hE2 => ⟨hne0, ?_⟩)
  have e2_1_2 : ψ2 1 2 = ψ1 1 2 := fr_fd hF2 1 2 (by decide)
  have e2_192_2 : ψ2 192 2 = ψ1 192 2 := fr_fd hF2 192 2 (by decide)
  have e2_56_3 : ψ2 56 3 = ψ1 56 3 := fr_fd hF2 56 3 (by decide)
  have e2_82_3 : ψ2 82 3 = ψ1 82 3 := fr_fd hF2 82 3 (by decide)
  have e2_207_0 : ψ2 207 0 = ψ1 207 0 := fr_at hF2 207 (by decide) 0
  have e2_207_1 : ψ2 207 1 = ψ1 207 1 := fr_at hF2 207 (by decide) 1
  have hx : RLX ψ2 ψ2 := by
    rcases hE1 with ⟨_, hEo⟩ | ⟨_, _, hEo, _⟩ <;> exact (gq_power hI hI1 hI2 hF1 hF2 hR hs hW hB hEo hE2).2
  show hw sc (d + 24) 276 867 (jm_st1 L 5 (0, r1)) [(0, r2)] ψ2 y1 Q
  refine hw_st (L' := (jm_st1 (jm_st1 L 5 (0, r1)) 6 (0, r2))) (b := 6) (e := 1) (by decide +kernel) rfl ?_
  refine hw_goto (a0 := 0) (b := 0) (e := 1263) (by decide +kernel) ?_
  exact hQ (jm_st1 (jm_st1 L 5 (0, r1)) 6 (0, r2)) ψ2 y1 (get_st1 (get_st1 g0 (by decide) (fun q => absurd q.1 (by decide))) (by decide) (fun q => absurd q.1 (by decide))) (get_st1 (get_st1 g1 (by decide) (fun q => absurd q.1 (by decide))) (by decide) (fun q => absurd q.1 (by decide))) (get_st1 (get_st1 g2 (by decide) (fun q => absurd q.1 (by decide))) (by decide) (fun q => absurd q.1 (by decide))) (get_st1 (get_st1 g3 (by decide) (fun q => absurd q.1 (by decide))) (by decide) (fun q => absurd q.1 (by decide))) (get_st1 (get_st1 g4 (by decide) (fun q => tg0 q.2)) (by decide) (fun q => absurd q.1 (by decide))) hI2 (by omega) ⟨by have := hk.1; omega, by have := hk.2; omega⟩ (tpr_f hB (fun k => ((fr_at hF2 2 (by decide) k).trans (fr_at hF1 2 (by decide) k))) (fun k => ((fr_at hF2 193 (by decide) k).trans (fr_at hF1 193 (by decide) k)))) (kwr_f hW (fun k => ((fr_at hF2 3 (by decide) k).trans (fr_at hF1 3 (by decide) k))) (fun k => ((fr_at hF2 198 (by decide) k).trans (fr_at hF1 198 (by decide) k)))) hx (by omega)
theorem lw_c22 {sc : List Int} {d x : Nat} {φ : hf_F} {L : jm_L} {Q : Option jm_V → hf_F → Nat → Prop} {i : Int} (g0 : jm_get L 0 = some (4, 2)) (g1 : jm_get L 1 = some (2, 0)) (g2 : jm_get L 2 = some (2, 192)) (g3 : jm_get L 3 = some (2, 208)) (g4 : jm_get L 4 = some (0, i)) (hI : Inv φ) (hs : φ 1 2 = φ 192 2) (hk : KR φ) (hB : TPR φ φ) (hW : KWR φ φ) (hR : RLX φ φ) (h0 : 0 ≤ i) (h1 : i + 6 ≤ (sc.length : Int)) (hL : sc.length ≤ 3072) (hsc : SCP sc) (hd : 10 ≤ d)
    (hQ : (∀ (L1 : jm_L) (ψ : hf_F) (y : Nat), jm_get L1 0 = some (4, 2) → jm_get L1 1 = some (2, 0) → jm_get L1 2 = some (2, 192) → jm_get L1 3 = some (2, 208) → jm_get L1 4 = some (0, i) → Inv ψ → ψ 1 2 = ψ 192 2 → KR ψ → TPR ψ ψ → KWR ψ ψ → RLX ψ ψ → y ≤ x + 1 → hw sc (d + 24) 276 1263 L1 [] ψ y Q)) : hw sc (d + 24) 276 872 L [] φ x Q := by
  have f0 := hsc (i).toNat
  have f1 := hsc (i + 1).toNat
  have f2 := hsc (i + 2).toNat
  have f3 := hsc (i + 3).toNat
  have f4 := hsc (i + 4).toNat
  have f5 := hsc (i + 5).toNat
  have u1 := iv_at (a := 1) (k := 2) (lo := 0) (u := 940) hI (by decide +kernel)
  have u192 := iv_at (a := 192) (k := 2) (lo := 0) (u := 940) hI (by decide +kernel)
  refine hw_ald (b := 1) (e := 0) (by decide +kernel) g1 (by decide) ?_
  refine hr_call (a0 := 10) (b := 110) (e := 1) (nl := 1) (As := []) (R := []) 0 rfl (by decide +kernel) rfl rfl (Nat.le_of_ble_eq_true rfl) (Nat.le_of_ble_eq_true rfl) ?_
  refine sf_110_0 (φ := φ) hI  (fun r1 ψ1 hI1 hF1 hp1 hE1 => ⟨hne0, ?_⟩)
  have e1_1_2 : ψ1 1 2 = φ 1 2 := fr_fd hF1 1 2 (by decide)
  have e1_192_2 : ψ1 192 2 = φ 192 2 := fr_fd hF1 192 2 (by decide)
  have e1_56_3 : ψ1 56 3 = φ 56 3 := fr_fd hF1 56 3 (by decide)
  have e1_82_3 : ψ1 82 3 = φ 82 3 := fr_fd hF1 82 3 (by decide)
  have e1_207_0 : ψ1 207 0 = φ 207 0 := fr_at hF1 207 (by decide) 0
  have e1_207_1 : ψ1 207 1 = φ 207 1 := fr_at hF1 207 (by decide) 1
  show hw sc (d + 24) 276 876 L [(0, r1)] ψ1 x Q
  refine hw_pop (a0 := 0) (e := 0) (by decide +kernel) (by decide) ?_
  refine hw_ald (b := 2) (e := 0) (by decide +kernel) g2 (by decide) ?_
  refine hr_call (a0 := 22) (b := 244) (e := 1) (nl := 5) (As := []) (R := []) 192 rfl (by decide +kernel) rfl rfl (Nat.le_of_ble_eq_true rfl) (Nat.le_of_ble_eq_true rfl) ?_
  refine sf_244_192 (φ := ψ1) hI1  (fun r2 ψ2 hI2 hF2 hp2 hE2 => ⟨hne0, ?_⟩)
  have e2_1_2 : ψ2 1 2 = ψ1 1 2 := fr_fd hF2 1 2 (by decide)
  have e2_192_2 : ψ2 192 2 = ψ1 192 2 := fr_fd hF2 192 2 (by decide)
  have e2_56_3 : ψ2 56 3 = ψ1 56 3 := fr_fd hF2 56 3 (by decide)
  have e2_82_3 : ψ2 82 3 = ψ1 82 3 := fr_fd hF2 82 3 (by decide)
  have e2_207_0 : ψ2 207 0 = ψ1 207 0 := fr_at hF2 207 (by decide) 0
  have e2_207_1 : ψ2 207 1 = ψ1 207 1 := fr_at hF2 207 (by decide) 1
  have hx := gq_stand hI hI1 hI2 hF1 hF2 hR hs hW hB hE1 hE2
  show hw sc (d + 24) 276 881 L [(0, r2)] ψ2 x Q
  refine hw_pop (a0 := 0) (e := 0) (by decide +kernel) (by decide) ?_
  refine hw_goto (a0 := 0) (b := 0) (e := 1263) (by decide +kernel) ?_
  exact hQ L ψ2 x g0 g1 g2 g3 g4 hI2 (by omega) ⟨by have := hk.1; omega, by have := hk.2; omega⟩ (tpr_f hB (fun k => ((fr_at hF2 2 (by decide) k).trans (fr_at hF1 2 (by decide) k))) (fun k => ((fr_at hF2 193 (by decide) k).trans (fr_at hF1 193 (by decide) k)))) (kwr_f hW (fun k => ((fr_at hF2 3 (by decide) k).trans (fr_at hF1 3 (by decide) k))) (fun k => ((fr_at hF2 198 (by decide) k).trans (fr_at hF1 198 (by decide) k)))) hx.2 (by omega)
theorem lw_c23 {sc : List Int} {d x : Nat} {φ : hf_F} {L : jm_L} {Q : Option jm_V → hf_F → Nat → Prop} {i : Int} (g0 : jm_get L 0 = some (4, 2)) (g1 : jm_get L 1 = some (2, 0)) (g2 : jm_get L 2 = some (2, 192)) (g3 : jm_get L 3 = some (2, 208)) (g4 : jm_get L 4 = some (0, i)) (hI : Inv φ) (hs : φ 1 2 = φ 192 2) (hk : KR φ) (hB : TPR φ φ) (hW : KWR φ φ) (hR : RLX φ φ) (h0 : 0 ≤ i) (h1 : i + 6 ≤ (sc.length : Int)) (hL : sc.length ≤ 3072) (hsc : SCP sc) (hd : 10 ≤ d)
    (hQ : (∀ (L1 : jm_L) (ψ : hf_F) (y : Nat), jm_get L1 0 = some (4, 2) → jm_get L1 1 = some (2, 0) → jm_get L1 2 = some (2, 192) → jm_get L1 3 = some (2, 208) → jm_get L1 4 = some (0, i) → Inv ψ → ψ 1 2 = ψ 192 2 → KR ψ → TPR ψ ψ → KWR ψ ψ → RLX ψ ψ → y ≤ x + 1 → hw sc (d + 24) 276 1263 L1 [] ψ y Q)) : hw sc (d + 24) 276 885 L [] φ x Q := by
  have f0 := hsc (i).toNat
  have f1 := hsc (i + 1).toNat
  have f2 := hsc (i + 2).toNat
  have f3 := hsc (i + 3).toNat
  have f4 := hsc (i + 4).toNat
  have f5 := hsc (i + 5).toNat
  have u1 := iv_at (a := 1) (k := 2) (lo := 0) (u := 940) hI (by decide +kernel)
  have u192 := iv_at (a := 192) (k := 2) (lo := 0) (u := 940) hI (by decide +kernel)
  refine hw_ald (b := 1) (e := 0) (by decide +kernel) g1 (by decide) ?_
  refine hr_call (a0 := 10) (b := 114) (e := 1) (nl := 1) (As := []) (R := []) 0 rfl (by decide +kernel) rfl rfl (Nat.le_of_ble_eq_true rfl) (Nat.le_of_ble_eq_true rfl) ?_
  refine sf_114_0 (φ := φ) hI  (fun r1 hp1 hE1 => ⟨hne0, ?_⟩)
  show hw sc (d + 24) 276 889 L [(0, r1)] φ x Q
  refine hw_pop (a0 := 0) (e := 0) (by decide +kernel) (by decide) ?_
  refine hw_ald (b := 2) (e := 0) (by decide +kernel) g2 (by decide) ?_
  refine hr_call (a0 := 22) (b := 246) (e := 1) (nl := 1) (As := []) (R := []) 192 rfl (by decide +kernel) rfl rfl (Nat.le_of_ble_eq_true rfl) (Nat.le_of_ble_eq_true rfl) ?_
  refine sf_246_192 (φ := φ) hI  (fun r2 ψ2 hI2 hF2 hp2 hE2 => ⟨hne0, ?_⟩)
  have e2_1_2 : ψ2 1 2 = φ 1 2 := fr_fd hF2 1 2 (by decide)
  have e2_192_2 : ψ2 192 2 = φ 192 2 := fr_fd hF2 192 2 (by decide)
  have e2_56_3 : ψ2 56 3 = φ 56 3 := fr_fd hF2 56 3 (by decide)
  have e2_82_3 : ψ2 82 3 = φ 82 3 := fr_fd hF2 82 3 (by decide)
  have e2_207_0 : ψ2 207 0 = φ 207 0 := fr_at hF2 207 (by decide) 0
  have e2_207_1 : ψ2 207 1 = φ 207 1 := fr_at hF2 207 (by decide) 1
  have hx := gq_standing hI hI2 hF2 hR hs hW hB hE1 hE2
  show hw sc (d + 24) 276 894 L [(0, r2)] ψ2 x Q
  refine hw_pop (a0 := 0) (e := 0) (by decide +kernel) (by decide) ?_
  refine hw_goto (a0 := 0) (b := 0) (e := 1263) (by decide +kernel) ?_
  exact hQ L ψ2 x g0 g1 g2 g3 g4 hI2 (by omega) ⟨by have := hk.1; omega, by have := hk.2; omega⟩ (tpr_f hB (fun k => (fr_at hF2 2 (by decide) k)) (fun k => (fr_at hF2 193 (by decide) k))) (kwr_f hW (fun k => (fr_at hF2 3 (by decide) k)) (fun k => (fr_at hF2 198 (by decide) k))) hx.2 (by omega)
theorem lw_c24 {sc : List Int} {d x : Nat} {φ : hf_F} {L : jm_L} {Q : Option jm_V → hf_F → Nat → Prop} {i : Int} (g0 : jm_get L 0 = some (4, 2)) (g1 : jm_get L 1 = some (2, 0)) (g2 : jm_get L 2 = some (2, 192)) (g3 : jm_get L 3 = some (2, 208)) (g4 : jm_get L 4 = some (0, i)) (hI : Inv φ) (hs : φ 1 2 = φ 192 2) (hk : KR φ) (hB : TPR φ φ) (hW : KWR φ φ) (hR : RLX φ φ) (h0 : 0 ≤ i) (h1 : i + 6 ≤ (sc.length : Int)) (hL : sc.length ≤ 3072) (hsc : SCP sc) (hd : 10 ≤ d)
    (hQ : (∀ (L1 : jm_L) (ψ : hf_F) (y : Nat), jm_get L1 0 = some (4, 2) → jm_get L1 1 = some (2, 0) → jm_get L1 2 = some (2, 192) → jm_get L1 3 = some (2, 208) → jm_get L1 4 = some (0, i) → Inv ψ → ψ 1 2 = ψ 192 2 → KR ψ → TPR ψ ψ → KWR ψ ψ → RLX ψ ψ → y ≤ x + 1 → hw sc (d + 24) 276 1263 L1 [] ψ y Q)) : hw sc (d + 24) 276 898 L [] φ x Q := by
  have f0 := hsc (i).toNat
  have f1 := hsc (i + 1).toNat
  have f2 := hsc (i + 2).toNat
  have f3 := hsc (i + 3).toNat
  have f4 := hsc (i + 4).toNat
  have f5 := hsc (i + 5).toNat
  have u1 := iv_at (a := 1) (k := 2) (lo := 0) (u := 940) hI (by decide +kernel)
  have u192 := iv_at (a := 192) (k := 2) (lo := 0) (u := 940) hI (by decide +kernel)
  refine hw_ald (b := 1) (e := 0) (by decide +kernel) g1 (by decide) ?_
  refine hr_call (a0 := 10) (b := 115) (e := 1) (nl := 1) (As := []) (R := []) 0 rfl (by decide +kernel) rfl rfl (Nat.le_of_ble_eq_true rfl) (Nat.le_of_ble_eq_true rfl) ?_
  refine sf_115_0 (φ := φ) hI  (fun r1 ψ1 hI1 hF1 hp1 hE1 => ⟨hne0, ?_⟩)
  have e1_1_2 : ψ1 1 2 = φ 1 2 := fr_fd hF1 1 2 (by decide)
  have e1_192_2 : ψ1 192 2 = φ 192 2 := fr_fd hF1 192 2 (by decide)
  have e1_56_3 : ψ1 56 3 = φ 56 3 := fr_fd hF1 56 3 (by decide)
  have e1_82_3 : ψ1 82 3 = φ 82 3 := fr_fd hF1 82 3 (by decide)
  have e1_207_0 : ψ1 207 0 = φ 207 0 := fr_at hF1 207 (by decide) 0
  have e1_207_1 : ψ1 207 1 = φ 207 1 := fr_at hF1 207 (by decide) 1
  show hw sc (d + 24) 276 902 L [(0, r1)] ψ1 x Q
  refine hw_pop (a0 := 0) (e := 0) (by decide +kernel) (by decide) ?_
  refine hw_ald (b := 2) (e := 0) (by decide +kernel) g2 (by decide) ?_
  refine hr_call (a0 := 22) (b := 238) (e := 1) (nl := 5) (As := []) (R := []) 192 rfl (by decide +kernel) rfl rfl (Nat.le_of_ble_eq_true rfl) (Nat.le_of_ble_eq_true rfl) ?_
  refine sf_238_192 (φ := ψ1) hI1  (fun r2 ψ2 hI2 hF2 hp2 hE2 => ⟨hne0, ?_⟩)
  have e2_1_2 : ψ2 1 2 = ψ1 1 2 := fr_fd hF2 1 2 (by decide)
  have e2_192_2 : ψ2 192 2 = ψ1 192 2 := fr_fd hF2 192 2 (by decide)
  have e2_56_3 : ψ2 56 3 = ψ1 56 3 := fr_fd hF2 56 3 (by decide)
  have e2_82_3 : ψ2 82 3 = ψ1 82 3 := fr_fd hF2 82 3 (by decide)
  have e2_207_0 : ψ2 207 0 = ψ1 207 0 := fr_at hF2 207 (by decide) 0
  have e2_207_1 : ψ2 207 1 = ψ1 207 1 := fr_at hF2 207 (by decide) 1
  have hx := gq_all hI hI1 hI2 hF1 hF2 hR hs hW hB hE1 hE2
  show hw sc (d + 24) 276 907 L [(0, r2)] ψ2 x Q
  refine hw_pop (a0 := 0) (e := 0) (by decide +kernel) (by decide) ?_
  refine hw_goto (a0 := 0) (b := 0) (e := 1263) (by decide +kernel) ?_
  exact hQ L ψ2 x g0 g1 g2 g3 g4 hI2 (by omega) ⟨by have := hk.1; omega, by have := hk.2; omega⟩ (tpr_f hB (fun k => ((fr_at hF2 2 (by decide) k).trans (fr_at hF1 2 (by decide) k))) (fun k => ((fr_at hF2 193 (by decide) k).trans (fr_at hF1 193 (by decide) k)))) (kwr_f hW (fun k => ((fr_at hF2 3 (by decide) k).trans (fr_at hF1 3 (by decide) k))) (fun k => ((fr_at hF2 198 (by decide) k).trans (fr_at hF1 198 (by decide) k)))) hx.2 (by omega)
theorem lw_c25 {sc : List Int} {d x : Nat} {φ : hf_F} {L : jm_L} {Q : Option jm_V → hf_F → Nat → Prop} {i : Int} (g0 : jm_get L 0 = some (4, 2)) (g1 : jm_get L 1 = some (2, 0)) (g2 : jm_get L 2 = some (2, 192)) (g3 : jm_get L 3 = some (2, 208)) (g4 : jm_get L 4 = some (0, i)) (hI : Inv φ) (hs : φ 1 2 = φ 192 2) (hk : KR φ) (hB : TPR φ φ) (hW : KWR φ φ) (hR : RLX φ φ) (h0 : 0 ≤ i) (h1 : i + 6 ≤ (sc.length : Int)) (hL : sc.length ≤ 3072) (hsc : SCP sc) (hd : 10 ≤ d)
    (hQ : (∀ (L1 : jm_L) (ψ : hf_F) (y : Nat), jm_get L1 0 = some (4, 2) → jm_get L1 1 = some (2, 0) → jm_get L1 2 = some (2, 192) → jm_get L1 3 = some (2, 208) → jm_get L1 4 = some (0, i) → Inv ψ → ψ 1 2 = ψ 192 2 → KR ψ → TPR ψ ψ → KWR ψ ψ → RLX ψ ψ → y ≤ x + 1 → hw sc (d + 24) 276 1263 L1 [] ψ y Q)) : hw sc (d + 24) 276 911 L [] φ x Q := by
  have f0 := hsc (i).toNat
  have f1 := hsc (i + 1).toNat
  have f2 := hsc (i + 2).toNat
  have f3 := hsc (i + 3).toNat
  have f4 := hsc (i + 4).toNat
  have f5 := hsc (i + 5).toNat
  have u1 := iv_at (a := 1) (k := 2) (lo := 0) (u := 940) hI (by decide +kernel)
  have u192 := iv_at (a := 192) (k := 2) (lo := 0) (u := 940) hI (by decide +kernel)
  refine hw_ald (b := 1) (e := 0) (by decide +kernel) g1 (by decide) ?_
  refine hw_tld (b := 0) (e := 0) (by decide +kernel) g0 ?_
  refine hw_ld (b := 4) (e := 1) (by decide +kernel) g4 ?_
  refine hw_k (c := 1) (b := 0) (e := 1) (by decide +kernel) ?_
  refine hw_bin (w := i + 1) (a0 := 0) (b := 0) (e := 0) (by decide +kernel) rfl ?_
  refine hw_sce (a0 := 0) (j := i + 1) (e := 0) (by decide +kernel) (by omega) (by omega) hL ?_
  refine hw_tld (b := 0) (e := 0) (by decide +kernel) g0 ?_
  refine hw_ld (b := 4) (e := 1) (by decide +kernel) g4 ?_
  refine hw_k (c := 2) (b := 0) (e := 1) (by decide +kernel) ?_
  refine hw_bin (w := i + 2) (a0 := 0) (b := 0) (e := 0) (by decide +kernel) rfl ?_
  refine hw_sce (a0 := 0) (j := i + 2) (e := 0) (by decide +kernel) (by omega) (by omega) hL ?_
  refine hw_ald (b := 3) (e := 0) (by decide +kernel) g3 (by decide) ?_
  refine hr_callw (b := 166) (e := 4) (nl := 5) (As := [(2, 0), (0, sc.getD (i + 1).toNat 0), (0, sc.getD (i + 2).toNat 0), (2, 208)]) (R := []) (by decide +kernel) rfl rfl (Nat.le_of_ble_eq_true rfl) (Nat.le_of_ble_eq_true rfl) ?_
  refine lw_h166 (φ := φ) hI (by omega) (by omega) (by omega) (by omega) (by omega) (fun r1 ψ1 y1 hI1 hF1 hE1 hy1 => ⟨hne0, ?_⟩)
  have e1_1_2 : ψ1 1 2 = φ 1 2 := fr_fd hF1 1 2 (by decide)
  have e1_192_2 : ψ1 192 2 = φ 192 2 := fr_fd hF1 192 2 (by decide)
  have e1_56_3 : ψ1 56 3 = φ 56 3 := fr_fd hF1 56 3 (by decide)
  have e1_82_3 : ψ1 82 3 = φ 82 3 := fr_fd hF1 82 3 (by decide)
  have e1_207_0 : ψ1 207 0 = φ 207 0 := fr_at hF1 207 (by decide) 0
  have e1_207_1 : ψ1 207 1 = φ 207 1 := fr_at hF1 207 (by decide) 1
  show hw sc (d + 24) 276 928 L [(0, r1)] ψ1 y1 Q
  refine hw_st (L' := (jm_st1 L 5 (0, r1))) (b := 5) (e := 1) (by decide +kernel) rfl ?_
  refine hw_ald (b := 2) (e := 0) (by decide +kernel) (get_st1 g2 (by decide) (fun q => absurd q.1 (by decide))) (by decide) ?_
  refine hw_tld (b := 0) (e := 0) (by decide +kernel) (get_st1 g0 (by decide) (fun q => absurd q.1 (by decide))) ?_
  refine hw_ld (b := 4) (e := 1) (by decide +kernel) (get_st1 g4 (by decide) (fun q => tg0 q.2)) ?_
  refine hw_k (c := 1) (b := 0) (e := 1) (by decide +kernel) ?_
  refine hw_bin (w := i + 1) (a0 := 0) (b := 0) (e := 0) (by decide +kernel) rfl ?_
  refine hw_sce (a0 := 0) (j := i + 1) (e := 0) (by decide +kernel) (by omega) (by omega) hL ?_
  refine hw_tld (b := 0) (e := 0) (by decide +kernel) (get_st1 g0 (by decide) (fun q => absurd q.1 (by decide))) ?_
  refine hw_ld (b := 4) (e := 1) (by decide +kernel) (get_st1 g4 (by decide) (fun q => tg0 q.2)) ?_
  refine hw_k (c := 2) (b := 0) (e := 1) (by decide +kernel) ?_
  refine hw_bin (w := i + 2) (a0 := 0) (b := 0) (e := 0) (by decide +kernel) rfl ?_
  refine hw_sce (a0 := 0) (j := i + 2) (e := 0) (by decide +kernel) (by omega) (by omega) hL ?_
  refine hr_call (a0 := 22) (b := 247) (e := 3) (nl := 3) (As := [(0, sc.getD (i + 1).toNat 0), (0, sc.getD (i + 2).toNat 0)]) (R := []) 192 rfl (by decide +kernel) rfl rfl (Nat.le_of_ble_eq_true rfl) (Nat.le_of_ble_eq_true rfl) ?_
  refine sf_247_192 (φ := ψ1) hI1 (by omega) (by omega) (by omega) (by omega) (fun r2 ψ2 hI2 hF2 hp2 hE2 => ⟨hne0, ?_⟩)
  have e2_1_2 : ψ2 1 2 = ψ1 1 2 := fr_fd hF2 1 2 (by decide)
  have e2_192_2 : ψ2 192 2 = ψ1 192 2 := fr_fd hF2 192 2 (by decide)
  have e2_56_3 : ψ2 56 3 = ψ1 56 3 := fr_fd hF2 56 3 (by decide)
  have e2_82_3 : ψ2 82 3 = ψ1 82 3 := fr_fd hF2 82 3 (by decide)
  have e2_207_0 : ψ2 207 0 = ψ1 207 0 := fr_at hF2 207 (by decide) 0
  have e2_207_1 : ψ2 207 1 = ψ1 207 1 := fr_at hF2 207 (by decide) 1
  have hx : RLX ψ2 ψ2 := by
    rcases hE1 with ⟨_, hEo⟩ | ⟨_, _, hEo, _⟩ <;> exact (gq_part hI hI1 hI2 hF1 hF2 hR hs hW hB hEo hE2).2
  show hw sc (d + 24) 276 946 (jm_st1 L 5 (0, r1)) [(0, r2)] ψ2 y1 Q
  refine hw_st (L' := (jm_st1 (jm_st1 L 5 (0, r1)) 6 (0, r2))) (b := 6) (e := 1) (by decide +kernel) rfl ?_
  refine hw_goto (a0 := 0) (b := 0) (e := 1263) (by decide +kernel) ?_
  exact hQ (jm_st1 (jm_st1 L 5 (0, r1)) 6 (0, r2)) ψ2 y1 (get_st1 (get_st1 g0 (by decide) (fun q => absurd q.1 (by decide))) (by decide) (fun q => absurd q.1 (by decide))) (get_st1 (get_st1 g1 (by decide) (fun q => absurd q.1 (by decide))) (by decide) (fun q => absurd q.1 (by decide))) (get_st1 (get_st1 g2 (by decide) (fun q => absurd q.1 (by decide))) (by decide) (fun q => absurd q.1 (by decide))) (get_st1 (get_st1 g3 (by decide) (fun q => absurd q.1 (by decide))) (by decide) (fun q => absurd q.1 (by decide))) (get_st1 (get_st1 g4 (by decide) (fun q => tg0 q.2)) (by decide) (fun q => absurd q.1 (by decide))) hI2 (by omega) ⟨by have := hk.1; omega, by have := hk.2; omega⟩ (tpr_f hB (fun k => ((fr_at hF2 2 (by decide) k).trans (fr_at hF1 2 (by decide) k))) (fun k => ((fr_at hF2 193 (by decide) k).trans (fr_at hF1 193 (by decide) k)))) (kwr_f hW (fun k => ((fr_at hF2 3 (by decide) k).trans (fr_at hF1 3 (by decide) k))) (fun k => ((fr_at hF2 198 (by decide) k).trans (fr_at hF1 198 (by decide) k)))) hx (by omega)
theorem lw_c26 {sc : List Int} {d x : Nat} {φ : hf_F} {L : jm_L} {Q : Option jm_V → hf_F → Nat → Prop} {i : Int} (g0 : jm_get L 0 = some (4, 2)) (g1 : jm_get L 1 = some (2, 0)) (g2 : jm_get L 2 = some (2, 192)) (g3 : jm_get L 3 = some (2, 208)) (g4 : jm_get L 4 = some (0, i)) (hI : Inv φ) (hs : φ 1 2 = φ 192 2) (hk : KR φ) (hB : TPR φ φ) (hW : KWR φ φ) (hR : RLX φ φ) (h0 : 0 ≤ i) (h1 : i + 6 ≤ (sc.length : Int)) (hL : sc.length ≤ 3072) (hsc : SCP sc) (hd : 10 ≤ d)
    (hQ : (∀ (L1 : jm_L) (ψ : hf_F) (y : Nat), jm_get L1 0 = some (4, 2) → jm_get L1 1 = some (2, 0) → jm_get L1 2 = some (2, 192) → jm_get L1 3 = some (2, 208) → jm_get L1 4 = some (0, i) → Inv ψ → ψ 1 2 = ψ 192 2 → KR ψ → TPR ψ ψ → KWR ψ ψ → RLX ψ ψ → y ≤ x + 1 → hw sc (d + 24) 276 1263 L1 [] ψ y Q)) : hw sc (d + 24) 276 951 L [] φ x Q := by
  have f0 := hsc (i).toNat
  have f1 := hsc (i + 1).toNat
  have f2 := hsc (i + 2).toNat
  have f3 := hsc (i + 3).toNat
  have f4 := hsc (i + 4).toNat
  have f5 := hsc (i + 5).toNat
  have u1 := iv_at (a := 1) (k := 2) (lo := 0) (u := 940) hI (by decide +kernel)
  have u192 := iv_at (a := 192) (k := 2) (lo := 0) (u := 940) hI (by decide +kernel)
  refine hw_ald (b := 1) (e := 0) (by decide +kernel) g1 (by decide) ?_
  refine hr_call (a0 := 10) (b := 118) (e := 1) (nl := 3) (As := []) (R := []) 0 rfl (by decide +kernel) rfl rfl (Nat.le_of_ble_eq_true rfl) (Nat.le_of_ble_eq_true rfl) ?_
  refine sf_118_0 (φ := φ) hI  (fun r1 hp1 hE1 => ⟨hne0, ?_⟩)
  show hw sc (d + 24) 276 955 L [(0, r1)] φ x Q
  refine hw_pop (a0 := 0) (e := 0) (by decide +kernel) (by decide) ?_
  refine hw_ald (b := 2) (e := 0) (by decide +kernel) g2 (by decide) ?_
  refine hr_call (a0 := 22) (b := 248) (e := 1) (nl := 3) (As := []) (R := []) 192 rfl (by decide +kernel) rfl rfl (Nat.le_of_ble_eq_true rfl) (Nat.le_of_ble_eq_true rfl) ?_
  refine sf_248_192 (φ := φ) hI  (fun r2 ψ2 hI2 hF2 hp2 hE2 => ⟨hne0, ?_⟩)
  have e2_1_2 : ψ2 1 2 = φ 1 2 := fr_fd hF2 1 2 (by decide)
  have e2_192_2 : ψ2 192 2 = φ 192 2 := fr_fd hF2 192 2 (by decide)
  have e2_56_3 : ψ2 56 3 = φ 56 3 := fr_fd hF2 56 3 (by decide)
  have e2_82_3 : ψ2 82 3 = φ 82 3 := fr_fd hF2 82 3 (by decide)
  have e2_207_0 : ψ2 207 0 = φ 207 0 := fr_at hF2 207 (by decide) 0
  have e2_207_1 : ψ2 207 1 = φ 207 1 := fr_at hF2 207 (by decide) 1
  have hx := gq_most hI hI2 hF2 hR hs hW hB hE1 hE2
  show hw sc (d + 24) 276 960 L [(0, r2)] ψ2 x Q
  refine hw_pop (a0 := 0) (e := 0) (by decide +kernel) (by decide) ?_
  refine hw_goto (a0 := 0) (b := 0) (e := 1263) (by decide +kernel) ?_
  exact hQ L ψ2 x g0 g1 g2 g3 g4 hI2 (by omega) ⟨by have := hk.1; omega, by have := hk.2; omega⟩ (tpr_f hB (fun k => (fr_at hF2 2 (by decide) k)) (fun k => (fr_at hF2 193 (by decide) k))) (kwr_f hW (fun k => (fr_at hF2 3 (by decide) k)) (fun k => (fr_at hF2 198 (by decide) k))) hx.2 (by omega)
theorem lw_c27 {sc : List Int} {d x : Nat} {φ : hf_F} {L : jm_L} {Q : Option jm_V → hf_F → Nat → Prop} {i : Int} (g0 : jm_get L 0 = some (4, 2)) (g1 : jm_get L 1 = some (2, 0)) (g2 : jm_get L 2 = some (2, 192)) (g3 : jm_get L 3 = some (2, 208)) (g4 : jm_get L 4 = some (0, i)) (hI : Inv φ) (hs : φ 1 2 = φ 192 2) (hk : KR φ) (hB : TPR φ φ) (hW : KWR φ φ) (hR : RLX φ φ) (h0 : 0 ≤ i) (h1 : i + 6 ≤ (sc.length : Int)) (hL : sc.length ≤ 3072) (hsc : SCP sc) (hd : 10 ≤ d)
    (hQ : (∀ (L1 : jm_L) (ψ : hf_F) (y : Nat), jm_get L1 0 = some (4, 2) → jm_get L1 1 = some (2, 0) → jm_get L1 2 = some (2, 192) → jm_get L1 3 = some (2, 208) → jm_get L1 4 = some (0, i) → Inv ψ → ψ 1 2 = ψ 192 2 → KR ψ → TPR ψ ψ → KWR ψ ψ → RLX ψ ψ → y ≤ x + 1 → hw sc (d + 24) 276 1263 L1 [] ψ y Q)) : hw sc (d + 24) 276 964 L [] φ x Q := by
  have f0 := hsc (i).toNat
  have f1 := hsc (i + 1).toNat
  have f2 := hsc (i + 2).toNat
  have f3 := hsc (i + 3).toNat
  have f4 := hsc (i + 4).toNat
  have f5 := hsc (i + 5).toNat
  have u1 := iv_at (a := 1) (k := 2) (lo := 0) (u := 940) hI (by decide +kernel)
  have u192 := iv_at (a := 192) (k := 2) (lo := 0) (u := 940) hI (by decide +kernel)
  refine hw_ald (b := 1) (e := 0) (by decide +kernel) g1 (by decide) ?_
  refine hw_tld (b := 0) (e := 0) (by decide +kernel) g0 ?_
  refine hw_ld (b := 4) (e := 1) (by decide +kernel) g4 ?_
  refine hw_k (c := 1) (b := 0) (e := 1) (by decide +kernel) ?_
  refine hw_bin (w := i + 1) (a0 := 0) (b := 0) (e := 0) (by decide +kernel) rfl ?_
  refine hw_sce (a0 := 0) (j := i + 1) (e := 0) (by decide +kernel) (by omega) (by omega) hL ?_
  refine hr_call (a0 := 10) (b := 119) (e := 2) (nl := 4) (As := [(0, sc.getD (i + 1).toNat 0)]) (R := []) 0 rfl (by decide +kernel) rfl rfl (Nat.le_of_ble_eq_true rfl) (Nat.le_of_ble_eq_true rfl) ?_
  refine sf_119_0 (φ := φ) hI (by omega) (by omega) (fun r1 ψ1 hI1 hF1 hp1 hE1 => ⟨hne0, ?_⟩)
  have e1_1_2 : ψ1 1 2 = φ 1 2 := fr_fd hF1 1 2 (by decide)
  have e1_192_2 : ψ1 192 2 = φ 192 2 := fr_fd hF1 192 2 (by decide)
  have e1_56_3 : ψ1 56 3 = φ 56 3 := fr_fd hF1 56 3 (by decide)
  have e1_82_3 : ψ1 82 3 = φ 82 3 := fr_fd hF1 82 3 (by decide)
  have e1_207_0 : ψ1 207 0 = φ 207 0 := fr_at hF1 207 (by decide) 0
  have e1_207_1 : ψ1 207 1 = φ 207 1 := fr_at hF1 207 (by decide) 1
  show hw sc (d + 24) 276 974 L [(0, r1)] ψ1 x Q
  refine hw_pop (a0 := 0) (e := 0) (by decide +kernel) (by decide) ?_
  refine hw_ald (b := 2) (e := 0) (by decide +kernel) g2 (by decide) ?_
  refine hw_tld (b := 0) (e := 0) (by decide +kernel) g0 ?_
  refine hw_ld (b := 4) (e := 1) (by decide +kernel) g4 ?_
  refine hw_k (c := 1) (b := 0) (e := 1) (by decide +kernel) ?_
  refine hw_bin (w := i + 1) (a0 := 0) (b := 0) (e := 0) (by decide +kernel) rfl ?_
  refine hw_sce (a0 := 0) (j := i + 1) (e := 0) (by decide +kernel) (by omega) (by omega) hL ?_
  refine hr_call (a0 := 22) (b := 249) (e := 2) (nl := 2) (As := [(0, sc.getD (i + 1).toNat 0)]) (R := []) 192 rfl (by decide +kernel) rfl rfl (Nat.le_of_ble_eq_true rfl) (Nat.le_of_ble_eq_true rfl) ?_
  refine sf_249_192 (φ := ψ1) hI1 (by omega) (by omega) (fun r2 ψ2 hI2 hF2 hp2 hE2 => ⟨hne0, ?_⟩)
  have e2_1_2 : ψ2 1 2 = ψ1 1 2 := fr_fd hF2 1 2 (by decide)
  have e2_192_2 : ψ2 192 2 = ψ1 192 2 := fr_fd hF2 192 2 (by decide)
  have e2_56_3 : ψ2 56 3 = ψ1 56 3 := fr_fd hF2 56 3 (by decide)
  have e2_82_3 : ψ2 82 3 = ψ1 82 3 := fr_fd hF2 82 3 (by decide)
  have e2_207_0 : ψ2 207 0 = ψ1 207 0 := fr_at hF2 207 (by decide) 0
  have e2_207_1 : ψ2 207 1 = ψ1 207 1 := fr_at hF2 207 (by decide) 1
  have hx := gq_line hI hI1 hI2 hF1 hF2 hR hs hW hB hE1 hE2
  show hw sc (d + 24) 276 985 L [(0, r2)] ψ2 x Q
  refine hw_pop (a0 := 0) (e := 0) (by decide +kernel) (by decide) ?_
  refine hw_goto (a0 := 0) (b := 0) (e := 1263) (by decide +kernel) ?_
  exact hQ L ψ2 x g0 g1 g2 g3 g4 hI2 (by omega) ⟨by have := hk.1; omega, by have := hk.2; omega⟩ (tpr_f hB (fun k => ((fr_at hF2 2 (by decide) k).trans (fr_at hF1 2 (by decide) k))) (fun k => ((fr_at hF2 193 (by decide) k).trans (fr_at hF1 193 (by decide) k)))) (kwr_f hW (fun k => ((fr_at hF2 3 (by decide) k).trans (fr_at hF1 3 (by decide) k))) (fun k => ((fr_at hF2 198 (by decide) k).trans (fr_at hF1 198 (by decide) k)))) hx.2 (by omega)
theorem lw_c28 {sc : List Int} {d x : Nat} {φ : hf_F} {L : jm_L} {Q : Option jm_V → hf_F → Nat → Prop} {i : Int} (g0 : jm_get L 0 = some (4, 2)) (g1 : jm_get L 1 = some (2, 0)) (g2 : jm_get L 2 = some (2, 192)) (g3 : jm_get L 3 = some (2, 208)) (g4 : jm_get L 4 = some (0, i)) (hI : Inv φ) (hs : φ 1 2 = φ 192 2) (hk : KR φ) (hB : TPR φ φ) (hW : KWR φ φ) (hR : RLX φ φ) (h0 : 0 ≤ i) (h1 : i + 6 ≤ (sc.length : Int)) (hL : sc.length ≤ 3072) (hsc : SCP sc) (hd : 10 ≤ d)
    (hQ : (∀ (L1 : jm_L) (ψ : hf_F) (y : Nat), jm_get L1 0 = some (4, 2) → jm_get L1 1 = some (2, 0) → jm_get L1 2 = some (2, 192) → jm_get L1 3 = some (2, 208) → jm_get L1 4 = some (0, i) → Inv ψ → ψ 1 2 = ψ 192 2 → KR ψ → TPR ψ ψ → KWR ψ ψ → RLX ψ ψ → y ≤ x + 1 → hw sc (d + 24) 276 1263 L1 [] ψ y Q)) : hw sc (d + 24) 276 989 L [] φ x Q := by
  have f0 := hsc (i).toNat
  have f1 := hsc (i + 1).toNat
  have f2 := hsc (i + 2).toNat
  have f3 := hsc (i + 3).toNat
  have f4 := hsc (i + 4).toNat
  have f5 := hsc (i + 5).toNat
  have u1 := iv_at (a := 1) (k := 2) (lo := 0) (u := 940) hI (by decide +kernel)
  have u192 := iv_at (a := 192) (k := 2) (lo := 0) (u := 940) hI (by decide +kernel)
  refine hw_ald (b := 1) (e := 0) (by decide +kernel) g1 (by decide) ?_
  refine hw_tld (b := 0) (e := 0) (by decide +kernel) g0 ?_
  refine hw_ld (b := 4) (e := 1) (by decide +kernel) g4 ?_
  refine hw_k (c := 1) (b := 0) (e := 1) (by decide +kernel) ?_
  refine hw_bin (w := i + 1) (a0 := 0) (b := 0) (e := 0) (by decide +kernel) rfl ?_
  refine hw_sce (a0 := 0) (j := i + 1) (e := 0) (by decide +kernel) (by omega) (by omega) hL ?_
  refine hr_call (a0 := 10) (b := 125) (e := 2) (nl := 2) (As := [(0, sc.getD (i + 1).toNat 0)]) (R := []) 0 rfl (by decide +kernel) rfl rfl (Nat.le_of_ble_eq_true rfl) (Nat.le_of_ble_eq_true rfl) ?_
  refine sf_125_0 (φ := φ) hI (by omega) (by omega) (fun r1 hp1 hE1 => ⟨hne0, ?_⟩)
  show hw sc (d + 24) 276 999 L [(0, r1)] φ x Q
  refine hw_pop (a0 := 0) (e := 0) (by decide +kernel) (by decide) ?_
  refine hw_ald (b := 2) (e := 0) (by decide +kernel) g2 (by decide) ?_
  refine hw_tld (b := 0) (e := 0) (by decide +kernel) g0 ?_
  refine hw_ld (b := 4) (e := 1) (by decide +kernel) g4 ?_
  refine hw_k (c := 1) (b := 0) (e := 1) (by decide +kernel) ?_
  refine hw_bin (w := i + 1) (a0 := 0) (b := 0) (e := 0) (by decide +kernel) rfl ?_
  refine hw_sce (a0 := 0) (j := i + 1) (e := 0) (by decide +kernel) (by omega) (by omega) hL ?_
  refine hr_call (a0 := 22) (b := 253) (e := 2) (nl := 2) (As := [(0, sc.getD (i + 1).toNat 0)]) (R := []) 192 rfl (by decide +kernel) rfl rfl (Nat.le_of_ble_eq_true rfl) (Nat.le_of_ble_eq_true rfl) ?_
  refine sf_253_192 (φ := φ) hI (by omega) (by omega) (fun r2 ψ2 hI2 hF2 hp2 hE2 => ⟨hne0, ?_⟩)
  have e2_1_2 : ψ2 1 2 = φ 1 2 := fr_fd hF2 1 2 (by decide)
  have e2_192_2 : ψ2 192 2 = φ 192 2 := fr_fd hF2 192 2 (by decide)
  have e2_56_3 : ψ2 56 3 = φ 56 3 := fr_fd hF2 56 3 (by decide)
  have e2_82_3 : ψ2 82 3 = φ 82 3 := fr_fd hF2 82 3 (by decide)
  have e2_207_0 : ψ2 207 0 = φ 207 0 := fr_at hF2 207 (by decide) 0
  have e2_207_1 : ψ2 207 1 = φ 207 1 := fr_at hF2 207 (by decide) 1
  have hx := gq_byteAt hI hI2 hF2 hR hs hW hB hE1 hE2
  show hw sc (d + 24) 276 1010 L [(0, r2)] ψ2 x Q
  refine hw_pop (a0 := 0) (e := 0) (by decide +kernel) (by decide) ?_
  refine hw_goto (a0 := 0) (b := 0) (e := 1263) (by decide +kernel) ?_
  exact hQ L ψ2 x g0 g1 g2 g3 g4 hI2 (by omega) ⟨by have := hk.1; omega, by have := hk.2; omega⟩ (tpr_f hB (fun k => (fr_at hF2 2 (by decide) k)) (fun k => (fr_at hF2 193 (by decide) k))) (kwr_f hW (fun k => (fr_at hF2 3 (by decide) k)) (fun k => (fr_at hF2 198 (by decide) k))) hx.2 (by omega)
theorem lw_c29 {sc : List Int} {d x : Nat} {φ : hf_F} {L : jm_L} {Q : Option jm_V → hf_F → Nat → Prop} {i : Int} (g0 : jm_get L 0 = some (4, 2)) (g1 : jm_get L 1 = some (2, 0)) (g2 : jm_get L 2 = some (2, 192)) (g3 : jm_get L 3 = some (2, 208)) (g4 : jm_get L 4 = some (0, i)) (hI : Inv φ) (hs : φ 1 2 = φ 192 2) (hk : KR φ) (hB : TPR φ φ) (hW : KWR φ φ) (hR : RLX φ φ) (h0 : 0 ≤ i) (h1 : i + 6 ≤ (sc.length : Int)) (hL : sc.length ≤ 3072) (hsc : SCP sc) (hd : 10 ≤ d)
    (hQ : (∀ (L1 : jm_L) (ψ : hf_F) (y : Nat), jm_get L1 0 = some (4, 2) → jm_get L1 1 = some (2, 0) → jm_get L1 2 = some (2, 192) → jm_get L1 3 = some (2, 208) → jm_get L1 4 = some (0, i) → Inv ψ → ψ 1 2 = ψ 192 2 → KR ψ → TPR ψ ψ → KWR ψ ψ → RLX ψ ψ → y ≤ x + 1 → hw sc (d + 24) 276 1263 L1 [] ψ y Q)) : hw sc (d + 24) 276 1014 L [] φ x Q := by
  have f0 := hsc (i).toNat
  have f1 := hsc (i + 1).toNat
  have f2 := hsc (i + 2).toNat
  have f3 := hsc (i + 3).toNat
  have f4 := hsc (i + 4).toNat
  have f5 := hsc (i + 5).toNat
  have u1 := iv_at (a := 1) (k := 2) (lo := 0) (u := 940) hI (by decide +kernel)
  have u192 := iv_at (a := 192) (k := 2) (lo := 0) (u := 940) hI (by decide +kernel)
  refine hw_ald (b := 1) (e := 0) (by decide +kernel) g1 (by decide) ?_
  refine hw_tld (b := 0) (e := 0) (by decide +kernel) g0 ?_
  refine hw_ld (b := 4) (e := 1) (by decide +kernel) g4 ?_
  refine hw_k (c := 1) (b := 0) (e := 1) (by decide +kernel) ?_
  refine hw_bin (w := i + 1) (a0 := 0) (b := 0) (e := 0) (by decide +kernel) rfl ?_
  refine hw_sce (a0 := 0) (j := i + 1) (e := 0) (by decide +kernel) (by omega) (by omega) hL ?_
  refine hw_tld (b := 0) (e := 0) (by decide +kernel) g0 ?_
  refine hw_ld (b := 4) (e := 1) (by decide +kernel) g4 ?_
  refine hw_k (c := 2) (b := 0) (e := 1) (by decide +kernel) ?_
  refine hw_bin (w := i + 2) (a0 := 0) (b := 0) (e := 0) (by decide +kernel) rfl ?_
  refine hw_sce (a0 := 0) (j := i + 2) (e := 0) (by decide +kernel) (by omega) (by omega) hL ?_
  refine hr_call (a0 := 10) (b := 126) (e := 3) (nl := 5) (As := [(0, sc.getD (i + 1).toNat 0), (0, sc.getD (i + 2).toNat 0)]) (R := []) 0 rfl (by decide +kernel) rfl rfl (Nat.le_of_ble_eq_true rfl) (Nat.le_of_ble_eq_true rfl) ?_
  refine sf_126_0 (φ := φ) hI (by omega) (by omega) (by omega) (by omega) (fun r1 ψ1 hI1 hF1 hp1 hE1 => ⟨hne0, ?_⟩)
  have e1_1_2 : ψ1 1 2 = φ 1 2 := fr_fd hF1 1 2 (by decide)
  have e1_192_2 : ψ1 192 2 = φ 192 2 := fr_fd hF1 192 2 (by decide)
  have e1_56_3 : ψ1 56 3 = φ 56 3 := fr_fd hF1 56 3 (by decide)
  have e1_82_3 : ψ1 82 3 = φ 82 3 := fr_fd hF1 82 3 (by decide)
  have e1_207_0 : ψ1 207 0 = φ 207 0 := fr_at hF1 207 (by decide) 0
  have e1_207_1 : ψ1 207 1 = φ 207 1 := fr_at hF1 207 (by decide) 1
  show hw sc (d + 24) 276 1030 L [(0, r1)] ψ1 x Q
  refine hw_pop (a0 := 0) (e := 0) (by decide +kernel) (by decide) ?_
  refine hw_ald (b := 2) (e := 0) (by decide +kernel) g2 (by decide) ?_
  refine hw_tld (b := 0) (e := 0) (by decide +kernel) g0 ?_
  refine hw_ld (b := 4) (e := 1) (by decide +kernel) g4 ?_
  refine hw_k (c := 1) (b := 0) (e := 1) (by decide +kernel) ?_
  refine hw_bin (w := i + 1) (a0 := 0) (b := 0) (e := 0) (by decide +kernel) rfl ?_
  refine hw_sce (a0 := 0) (j := i + 1) (e := 0) (by decide +kernel) (by omega) (by omega) hL ?_
  refine hw_tld (b := 0) (e := 0) (by decide +kernel) g0 ?_
  refine hw_ld (b := 4) (e := 1) (by decide +kernel) g4 ?_
  refine hw_k (c := 2) (b := 0) (e := 1) (by decide +kernel) ?_
  refine hw_bin (w := i + 2) (a0 := 0) (b := 0) (e := 0) (by decide +kernel) rfl ?_
  refine hw_sce (a0 := 0) (j := i + 2) (e := 0) (by decide +kernel) (by omega) (by omega) hL ?_
  refine hr_call (a0 := 22) (b := 254) (e := 3) (nl := 3) (As := [(0, sc.getD (i + 1).toNat 0), (0, sc.getD (i + 2).toNat 0)]) (R := []) 192 rfl (by decide +kernel) rfl rfl (Nat.le_of_ble_eq_true rfl) (Nat.le_of_ble_eq_true rfl) ?_
  refine sf_254_192 (φ := ψ1) hI1 (by omega) (by omega) (by omega) (by omega) (fun r2 ψ2 hI2 hF2 hp2 hE2 => ⟨hne0, ?_⟩)
  have e2_1_2 : ψ2 1 2 = ψ1 1 2 := fr_fd hF2 1 2 (by decide)
  have e2_192_2 : ψ2 192 2 = ψ1 192 2 := fr_fd hF2 192 2 (by decide)
  have e2_56_3 : ψ2 56 3 = ψ1 56 3 := fr_fd hF2 56 3 (by decide)
  have e2_82_3 : ψ2 82 3 = ψ1 82 3 := fr_fd hF2 82 3 (by decide)
  have e2_207_0 : ψ2 207 0 = ψ1 207 0 := fr_at hF2 207 (by decide) 0
  have e2_207_1 : ψ2 207 1 = ψ1 207 1 := fr_at hF2 207 (by decide) 1
  have hx := gq_drawn hI hI1 hI2 hF1 hF2 hR hs hW hB hE1 hE2
  show hw sc (d + 24) 276 1047 L [(0, r2)] ψ2 x Q
  refine hw_pop (a0 := 0) (e := 0) (by decide +kernel) (by decide) ?_
  refine hw_goto (a0 := 0) (b := 0) (e := 1263) (by decide +kernel) ?_
  exact hQ L ψ2 x g0 g1 g2 g3 g4 hI2 (by omega) ⟨by have := hk.1; omega, by have := hk.2; omega⟩ (tpr_f hB (fun k => ((fr_at hF2 2 (by decide) k).trans (fr_at hF1 2 (by decide) k))) (fun k => ((fr_at hF2 193 (by decide) k).trans (fr_at hF1 193 (by decide) k)))) (kwr_f hW (fun k => ((fr_at hF2 3 (by decide) k).trans (fr_at hF1 3 (by decide) k))) (fun k => ((fr_at hF2 198 (by decide) k).trans (fr_at hF1 198 (by decide) k)))) hx.2 (by omega)
theorem lw_c30 {sc : List Int} {d x : Nat} {φ : hf_F} {L : jm_L} {Q : Option jm_V → hf_F → Nat → Prop} {i : Int} (g0 : jm_get L 0 = some (4, 2)) (g1 : jm_get L 1 = some (2, 0)) (g2 : jm_get L 2 = some (2, 192)) (g3 : jm_get L 3 = some (2, 208)) (g4 : jm_get L 4 = some (0, i)) (hI : Inv φ) (hs : φ 1 2 = φ 192 2) (hk : KR φ) (hB : TPR φ φ) (hW : KWR φ φ) (hR : RLX φ φ) (h0 : 0 ≤ i) (h1 : i + 6 ≤ (sc.length : Int)) (hL : sc.length ≤ 3072) (hsc : SCP sc) (hd : 10 ≤ d)
    (hQ : (∀ (L1 : jm_L) (ψ : hf_F) (y : Nat), jm_get L1 0 = some (4, 2) → jm_get L1 1 = some (2, 0) → jm_get L1 2 = some (2, 192) → jm_get L1 3 = some (2, 208) → jm_get L1 4 = some (0, i) → Inv ψ → ψ 1 2 = ψ 192 2 → KR ψ → TPR ψ ψ → KWR ψ ψ → RLX ψ ψ → y ≤ x + 1 → hw sc (d + 24) 276 1263 L1 [] ψ y Q)) : hw sc (d + 24) 276 1051 L [] φ x Q := by
  have f0 := hsc (i).toNat
  have f1 := hsc (i + 1).toNat
  have f2 := hsc (i + 2).toNat
  have f3 := hsc (i + 3).toNat
  have f4 := hsc (i + 4).toNat
  have f5 := hsc (i + 5).toNat
  have u1 := iv_at (a := 1) (k := 2) (lo := 0) (u := 940) hI (by decide +kernel)
  have u192 := iv_at (a := 192) (k := 2) (lo := 0) (u := 940) hI (by decide +kernel)
  refine hw_ald (b := 1) (e := 0) (by decide +kernel) g1 (by decide) ?_
  refine hw_tld (b := 0) (e := 0) (by decide +kernel) g0 ?_
  refine hw_ld (b := 4) (e := 1) (by decide +kernel) g4 ?_
  refine hw_k (c := 1) (b := 0) (e := 1) (by decide +kernel) ?_
  refine hw_bin (w := i + 1) (a0 := 0) (b := 0) (e := 0) (by decide +kernel) rfl ?_
  refine hw_sce (a0 := 0) (j := i + 1) (e := 0) (by decide +kernel) (by omega) (by omega) hL ?_
  refine hw_tld (b := 0) (e := 0) (by decide +kernel) g0 ?_
  refine hw_ld (b := 4) (e := 1) (by decide +kernel) g4 ?_
  refine hw_k (c := 2) (b := 0) (e := 1) (by decide +kernel) ?_
  refine hw_bin (w := i + 2) (a0 := 0) (b := 0) (e := 0) (by decide +kernel) rfl ?_
  refine hw_sce (a0 := 0) (j := i + 2) (e := 0) (by decide +kernel) (by omega) (by omega) hL ?_
  refine hw_tld (b := 0) (e := 0) (by decide +kernel) g0 ?_
  refine hw_ld (b := 4) (e := 1) (by decide +kernel) g4 ?_
  refine hw_k (c := 3) (b := 0) (e := 1) (by decide +kernel) ?_
  refine hw_bin (w := i + 3) (a0 := 0) (b := 0) (e := 0) (by decide +kernel) rfl ?_
  refine hw_sce (a0 := 0) (j := i + 3) (e := 0) (by decide +kernel) (by omega) (by omega) hL ?_
  refine hr_call (a0 := 10) (b := 130) (e := 4) (nl := 6) (As := [(0, sc.getD (i + 1).toNat 0), (0, sc.getD (i + 2).toNat 0), (0, sc.getD (i + 3).toNat 0)]) (R := []) 0 rfl (by decide +kernel) rfl rfl (Nat.le_of_ble_eq_true rfl) (Nat.le_of_ble_eq_true rfl) ?_
  refine sf_130_0 (φ := φ) hI (by omega) (by omega) (by omega) (by omega) (by omega) (by omega) (fun r1 ψ1 hI1 hF1 hp1 hE1 => ⟨hne0, ?_⟩)
  have e1_1_2 : ψ1 1 2 = φ 1 2 := fr_fd hF1 1 2 (by decide)
  have e1_192_2 : ψ1 192 2 = φ 192 2 := fr_fd hF1 192 2 (by decide)
  have e1_56_3 : ψ1 56 3 = φ 56 3 := fr_fd hF1 56 3 (by decide)
  have e1_82_3 : ψ1 82 3 = φ 82 3 := fr_fd hF1 82 3 (by decide)
  have e1_207_0 : ψ1 207 0 = φ 207 0 := fr_at hF1 207 (by decide) 0
  have e1_207_1 : ψ1 207 1 = φ 207 1 := fr_at hF1 207 (by decide) 1
  show hw sc (d + 24) 276 1073 L [(0, r1)] ψ1 x Q
  refine hw_pop (a0 := 0) (e := 0) (by decide +kernel) (by decide) ?_
  refine hw_ald (b := 2) (e := 0) (by decide +kernel) g2 (by decide) ?_
  refine hw_tld (b := 0) (e := 0) (by decide +kernel) g0 ?_
  refine hw_ld (b := 4) (e := 1) (by decide +kernel) g4 ?_
  refine hw_k (c := 1) (b := 0) (e := 1) (by decide +kernel) ?_
  refine hw_bin (w := i + 1) (a0 := 0) (b := 0) (e := 0) (by decide +kernel) rfl ?_
  refine hw_sce (a0 := 0) (j := i + 1) (e := 0) (by decide +kernel) (by omega) (by omega) hL ?_
  refine hw_tld (b := 0) (e := 0) (by decide +kernel) g0 ?_
  refine hw_ld (b := 4) (e := 1) (by decide +kernel) g4 ?_
  refine hw_k (c := 2) (b := 0) (e := 1) (by decide +kernel) ?_
  refine hw_bin (w := i + 2) (a0 := 0) (b := 0) (e := 0) (by decide +kernel) rfl ?_
  refine hw_sce (a0 := 0) (j := i + 2) (e := 0) (by decide +kernel) (by omega) (by omega) hL ?_
  refine hw_tld (b := 0) (e := 0) (by decide +kernel) g0 ?_
  refine hw_ld (b := 4) (e := 1) (by decide +kernel) g4 ?_
  refine hw_k (c := 3) (b := 0) (e := 1) (by decide +kernel) ?_
  refine hw_bin (w := i + 3) (a0 := 0) (b := 0) (e := 0) (by decide +kernel) rfl ?_
  refine hw_sce (a0 := 0) (j := i + 3) (e := 0) (by decide +kernel) (by omega) (by omega) hL ?_
  refine hr_call (a0 := 22) (b := 258) (e := 4) (nl := 6) (As := [(0, sc.getD (i + 1).toNat 0), (0, sc.getD (i + 2).toNat 0), (0, sc.getD (i + 3).toNat 0)]) (R := []) 192 rfl (by decide +kernel) rfl rfl (Nat.le_of_ble_eq_true rfl) (Nat.le_of_ble_eq_true rfl) ?_
  refine sf_258_192 (φ := ψ1) hI1 (by omega) (by omega) (by omega) (by omega) (by omega) (by omega) (fun r2 ψ2 hI2 hF2 hp2 hE2 => ⟨hne0, ?_⟩)
  have e2_1_2 : ψ2 1 2 = ψ1 1 2 := fr_fd hF2 1 2 (by decide)
  have e2_192_2 : ψ2 192 2 = ψ1 192 2 := fr_fd hF2 192 2 (by decide)
  have e2_56_3 : ψ2 56 3 = ψ1 56 3 := fr_fd hF2 56 3 (by decide)
  have e2_82_3 : ψ2 82 3 = ψ1 82 3 := fr_fd hF2 82 3 (by decide)
  have e2_207_0 : ψ2 207 0 = ψ1 207 0 := fr_at hF2 207 (by decide) 0
  have e2_207_1 : ψ2 207 1 = ψ1 207 1 := fr_at hF2 207 (by decide) 1
  have hx := gq_odds hI hI1 hI2 hF1 hF2 hR hs hW hB hE1 hE2
  show hw sc (d + 24) 276 1096 L [(0, r2)] ψ2 x Q
  refine hw_pop (a0 := 0) (e := 0) (by decide +kernel) (by decide) ?_
  refine hw_goto (a0 := 0) (b := 0) (e := 1263) (by decide +kernel) ?_
  exact hQ L ψ2 x g0 g1 g2 g3 g4 hI2 (by omega) ⟨by have := hk.1; omega, by have := hk.2; omega⟩ (tpr_f hB (fun k => ((fr_at hF2 2 (by decide) k).trans (fr_at hF1 2 (by decide) k))) (fun k => ((fr_at hF2 193 (by decide) k).trans (fr_at hF1 193 (by decide) k)))) (kwr_f hW (fun k => ((fr_at hF2 3 (by decide) k).trans (fr_at hF1 3 (by decide) k))) (fun k => ((fr_at hF2 198 (by decide) k).trans (fr_at hF1 198 (by decide) k)))) hx (by omega)
theorem lw_c31 {sc : List Int} {d x : Nat} {φ : hf_F} {L : jm_L} {Q : Option jm_V → hf_F → Nat → Prop} {i : Int} (g0 : jm_get L 0 = some (4, 2)) (g1 : jm_get L 1 = some (2, 0)) (g2 : jm_get L 2 = some (2, 192)) (g3 : jm_get L 3 = some (2, 208)) (g4 : jm_get L 4 = some (0, i)) (hI : Inv φ) (hs : φ 1 2 = φ 192 2) (hk : KR φ) (hB : TPR φ φ) (hW : KWR φ φ) (hR : RLX φ φ) (h0 : 0 ≤ i) (h1 : i + 6 ≤ (sc.length : Int)) (hL : sc.length ≤ 3072) (hsc : SCP sc) (hd : 10 ≤ d)
    (hQ : (∀ (L1 : jm_L) (ψ : hf_F) (y : Nat), jm_get L1 0 = some (4, 2) → jm_get L1 1 = some (2, 0) → jm_get L1 2 = some (2, 192) → jm_get L1 3 = some (2, 208) → jm_get L1 4 = some (0, i) → Inv ψ → ψ 1 2 = ψ 192 2 → KR ψ → TPR ψ ψ → KWR ψ ψ → RLX ψ ψ → y ≤ x + 1 → hw sc (d + 24) 276 1263 L1 [] ψ y Q)) : hw sc (d + 24) 276 1100 L [] φ x Q := by
  have f0 := hsc (i).toNat
  have f1 := hsc (i + 1).toNat
  have f2 := hsc (i + 2).toNat
  have f3 := hsc (i + 3).toNat
  have f4 := hsc (i + 4).toNat
  have f5 := hsc (i + 5).toNat
  have u1 := iv_at (a := 1) (k := 2) (lo := 0) (u := 940) hI (by decide +kernel)
  have u192 := iv_at (a := 192) (k := 2) (lo := 0) (u := 940) hI (by decide +kernel)
  refine hw_ald (b := 1) (e := 0) (by decide +kernel) g1 (by decide) ?_
  refine hw_tld (b := 0) (e := 0) (by decide +kernel) g0 ?_
  refine hw_ld (b := 4) (e := 1) (by decide +kernel) g4 ?_
  refine hw_k (c := 1) (b := 0) (e := 1) (by decide +kernel) ?_
  refine hw_bin (w := i + 1) (a0 := 0) (b := 0) (e := 0) (by decide +kernel) rfl ?_
  refine hw_sce (a0 := 0) (j := i + 1) (e := 0) (by decide +kernel) (by omega) (by omega) hL ?_
  refine hr_call (a0 := 10) (b := 132) (e := 2) (nl := 4) (As := [(0, sc.getD (i + 1).toNat 0)]) (R := []) 0 rfl (by decide +kernel) rfl rfl (Nat.le_of_ble_eq_true rfl) (Nat.le_of_ble_eq_true rfl) ?_
  refine sf_132_0 (φ := φ) hI (by omega) (by omega) (fun r1 ψ1 hI1 hF1 hp1 hE1 => ⟨hne0, ?_⟩)
  have e1_192_2 : ψ1 192 2 = φ 192 2 := fr_fd hF1 192 2 (by decide)
  have e1_56_3 : ψ1 56 3 = φ 56 3 := fr_fd hF1 56 3 (by decide)
  have e1_82_3 : ψ1 82 3 = φ 82 3 := fr_fd hF1 82 3 (by decide)
  have e1_207_0 : ψ1 207 0 = φ 207 0 := fr_at hF1 207 (by decide) 0
  have e1_207_1 : ψ1 207 1 = φ 207 1 := fr_at hF1 207 (by decide) 1
  show hw sc (d + 24) 276 1110 L [(0, r1)] ψ1 x Q
  refine hw_pop (a0 := 0) (e := 0) (by decide +kernel) (by decide) ?_
  refine hw_ald (b := 2) (e := 0) (by decide +kernel) g2 (by decide) ?_
  refine hw_tld (b := 0) (e := 0) (by decide +kernel) g0 ?_
  refine hw_ld (b := 4) (e := 1) (by decide +kernel) g4 ?_
  refine hw_k (c := 1) (b := 0) (e := 1) (by decide +kernel) ?_
  refine hw_bin (w := i + 1) (a0 := 0) (b := 0) (e := 0) (by decide +kernel) rfl ?_
  refine hw_sce (a0 := 0) (j := i + 1) (e := 0) (by decide +kernel) (by omega) (by omega) hL ?_
  refine hr_call (a0 := 22) (b := 259) (e := 2) (nl := 4) (As := [(0, sc.getD (i + 1).toNat 0)]) (R := []) 192 rfl (by decide +kernel) rfl rfl (Nat.le_of_ble_eq_true rfl) (Nat.le_of_ble_eq_true rfl) ?_
  refine sf_259_192 (φ := ψ1) hI1 (by omega) (by omega) (fun r2 ψ2 hI2 hF2 hp2 hE2 => ⟨hne0, ?_⟩)
  have e2_1_2 : ψ2 1 2 = ψ1 1 2 := fr_fd hF2 1 2 (by decide)
  have e2_56_3 : ψ2 56 3 = ψ1 56 3 := fr_fd hF2 56 3 (by decide)
  have e2_82_3 : ψ2 82 3 = ψ1 82 3 := fr_fd hF2 82 3 (by decide)
  have e2_207_0 : ψ2 207 0 = ψ1 207 0 := fr_at hF2 207 (by decide) 0
  have e2_207_1 : ψ2 207 1 = ψ1 207 1 := fr_at hF2 207 (by decide) 1
  have hx := gq_book hI hI1 hI2 hF1 hF2 hR hs hW hB hE1 hE2
  show hw sc (d + 24) 276 1121 L [(0, r2)] ψ2 x Q
  refine hw_pop (a0 := 0) (e := 0) (by decide +kernel) (by decide) ?_
  refine hw_goto (a0 := 0) (b := 0) (e := 1263) (by decide +kernel) ?_
  exact hQ L ψ2 x g0 g1 g2 g3 g4 hI2 (by omega) ⟨by have := hk.1; omega, by have := hk.2; omega⟩ (tpr_f hB (fun k => ((fr_at hF2 2 (by decide) k).trans (fr_at hF1 2 (by decide) k))) (fun k => ((fr_at hF2 193 (by decide) k).trans (fr_at hF1 193 (by decide) k)))) (kwr_f hW (fun k => ((fr_at hF2 3 (by decide) k).trans (fr_at hF1 3 (by decide) k))) (fun k => ((fr_at hF2 198 (by decide) k).trans (fr_at hF1 198 (by decide) k)))) hx.2 (by omega)
theorem lw_c32 {sc : List Int} {d x : Nat} {φ : hf_F} {L : jm_L} {Q : Option jm_V → hf_F → Nat → Prop} {i : Int} (g0 : jm_get L 0 = some (4, 2)) (g1 : jm_get L 1 = some (2, 0)) (g2 : jm_get L 2 = some (2, 192)) (g3 : jm_get L 3 = some (2, 208)) (g4 : jm_get L 4 = some (0, i)) (hI : Inv φ) (hs : φ 1 2 = φ 192 2) (hk : KR φ) (hB : TPR φ φ) (hW : KWR φ φ) (hR : RLX φ φ) (h0 : 0 ≤ i) (h1 : i + 6 ≤ (sc.length : Int)) (hL : sc.length ≤ 3072) (hsc : SCP sc) (hd : 10 ≤ d)
    (hQ : (∀ (L1 : jm_L) (ψ : hf_F) (y : Nat), jm_get L1 0 = some (4, 2) → jm_get L1 1 = some (2, 0) → jm_get L1 2 = some (2, 192) → jm_get L1 3 = some (2, 208) → jm_get L1 4 = some (0, i) → Inv ψ → ψ 1 2 = ψ 192 2 → KR ψ → TPR ψ ψ → KWR ψ ψ → RLX ψ ψ → y ≤ x + 1 → hw sc (d + 24) 276 1263 L1 [] ψ y Q)) : hw sc (d + 24) 276 1125 L [] φ x Q := by
  have f0 := hsc (i).toNat
  have f1 := hsc (i + 1).toNat
  have f2 := hsc (i + 2).toNat
  have f3 := hsc (i + 3).toNat
  have f4 := hsc (i + 4).toNat
  have f5 := hsc (i + 5).toNat
  have u1 := iv_at (a := 1) (k := 2) (lo := 0) (u := 940) hI (by decide +kernel)
  have u192 := iv_at (a := 192) (k := 2) (lo := 0) (u := 940) hI (by decide +kernel)
  refine hw_ald (b := 1) (e := 0) (by decide +kernel) g1 (by decide) ?_
  refine hw_tld (b := 0) (e := 0) (by decide +kernel) g0 ?_
  refine hw_ld (b := 4) (e := 1) (by decide +kernel) g4 ?_
  refine hw_k (c := 1) (b := 0) (e := 1) (by decide +kernel) ?_
  refine hw_bin (w := i + 1) (a0 := 0) (b := 0) (e := 0) (by decide +kernel) rfl ?_
  refine hw_sce (a0 := 0) (j := i + 1) (e := 0) (by decide +kernel) (by omega) (by omega) hL ?_
  refine hr_call (a0 := 10) (b := 143) (e := 2) (nl := 2) (As := [(0, sc.getD (i + 1).toNat 0)]) (R := []) 0 rfl (by decide +kernel) rfl rfl (Nat.le_of_ble_eq_true rfl) (Nat.le_of_ble_eq_true rfl) ?_
  refine sf_143_0 (φ := φ) hI (by omega) (by omega) (fun r1 hp1 hE1 => ⟨hne0, ?_⟩)
  show hw sc (d + 24) 276 1135 L [(0, r1)] φ x Q
  refine hw_pop (a0 := 0) (e := 0) (by decide +kernel) (by decide) ?_
  refine hw_ald (b := 2) (e := 0) (by decide +kernel) g2 (by decide) ?_
  refine hw_tld (b := 0) (e := 0) (by decide +kernel) g0 ?_
  refine hw_ld (b := 4) (e := 1) (by decide +kernel) g4 ?_
  refine hw_k (c := 1) (b := 0) (e := 1) (by decide +kernel) ?_
  refine hw_bin (w := i + 1) (a0 := 0) (b := 0) (e := 0) (by decide +kernel) rfl ?_
  refine hw_sce (a0 := 0) (j := i + 1) (e := 0) (by decide +kernel) (by omega) (by omega) hL ?_
  refine hr_call (a0 := 22) (b := 262) (e := 2) (nl := 2) (As := [(0, sc.getD (i + 1).toNat 0)]) (R := []) 192 rfl (by decide +kernel) rfl rfl (Nat.le_of_ble_eq_true rfl) (Nat.le_of_ble_eq_true rfl) ?_
  refine sf_262_192 (φ := φ) hI (by omega) (by omega) (fun r2 ψ2 hI2 hF2 hp2 hE2 => ⟨hne0, ?_⟩)
  have e2_1_2 : ψ2 1 2 = φ 1 2 := fr_fd hF2 1 2 (by decide)
  have e2_192_2 : ψ2 192 2 = φ 192 2 := fr_fd hF2 192 2 (by decide)
  have e2_56_3 : ψ2 56 3 = φ 56 3 := fr_fd hF2 56 3 (by decide)
  have e2_82_3 : ψ2 82 3 = φ 82 3 := fr_fd hF2 82 3 (by decide)
  have e2_207_0 : ψ2 207 0 = φ 207 0 := fr_at hF2 207 (by decide) 0
  have e2_207_1 : ψ2 207 1 = φ 207 1 := fr_at hF2 207 (by decide) 1
  have hx := gq_told hI hI2 hF2 hR hs hW hB hE1 hE2
  show hw sc (d + 24) 276 1146 L [(0, r2)] ψ2 x Q
  refine hw_pop (a0 := 0) (e := 0) (by decide +kernel) (by decide) ?_
  refine hw_goto (a0 := 0) (b := 0) (e := 1263) (by decide +kernel) ?_
  exact hQ L ψ2 x g0 g1 g2 g3 g4 hI2 (by omega) ⟨by have := hk.1; omega, by have := hk.2; omega⟩ (tpr_f hB (fun k => (fr_at hF2 2 (by decide) k)) (fun k => (fr_at hF2 193 (by decide) k))) (kwr_f hW (fun k => (fr_at hF2 3 (by decide) k)) (fun k => (fr_at hF2 198 (by decide) k))) hx.2 (by omega)
theorem lw_c33 {sc : List Int} {d x : Nat} {φ : hf_F} {L : jm_L} {Q : Option jm_V → hf_F → Nat → Prop} {i : Int} (g0 : jm_get L 0 = some (4, 2)) (g1 : jm_get L 1 = some (2, 0)) (g2 : jm_get L 2 = some (2, 192)) (g3 : jm_get L 3 = some (2, 208)) (g4 : jm_get L 4 = some (0, i)) (hI : Inv φ) (hs : φ 1 2 = φ 192 2) (hk : KR φ) (hB : TPR φ φ) (hW : KWR φ φ) (hR : RLX φ φ) (h0 : 0 ≤ i) (h1 : i + 6 ≤ (sc.length : Int)) (hL : sc.length ≤ 3072) (hsc : SCP sc) (hd : 10 ≤ d)
    (hQ : (∀ (L1 : jm_L) (ψ : hf_F) (y : Nat), jm_get L1 0 = some (4, 2) → jm_get L1 1 = some (2, 0) → jm_get L1 2 = some (2, 192) → jm_get L1 3 = some (2, 208) → jm_get L1 4 = some (0, i) → Inv ψ → ψ 1 2 = ψ 192 2 → KR ψ → TPR ψ ψ → KWR ψ ψ → RLX ψ ψ → y ≤ x + 1 → hw sc (d + 24) 276 1263 L1 [] ψ y Q)) : hw sc (d + 24) 276 1150 L [] φ x Q := by
  have f0 := hsc (i).toNat
  have f1 := hsc (i + 1).toNat
  have f2 := hsc (i + 2).toNat
  have f3 := hsc (i + 3).toNat
  have f4 := hsc (i + 4).toNat
  have f5 := hsc (i + 5).toNat
  have u1 := iv_at (a := 1) (k := 2) (lo := 0) (u := 940) hI (by decide +kernel)
  have u192 := iv_at (a := 192) (k := 2) (lo := 0) (u := 940) hI (by decide +kernel)
  refine hw_ald (b := 1) (e := 0) (by decide +kernel) g1 (by decide) ?_
  refine hr_call (a0 := 10) (b := 144) (e := 1) (nl := 2) (As := []) (R := []) 0 rfl (by decide +kernel) rfl rfl (Nat.le_of_ble_eq_true rfl) (Nat.le_of_ble_eq_true rfl) ?_
  refine sf_144_0 (φ := φ) hI  (fun r1 ψ1 hI1 hF1 hp1 hE1 => ⟨hne0, ?_⟩)
  have e1_192_2 : ψ1 192 2 = φ 192 2 := fr_fd hF1 192 2 (by decide)
  have e1_56_3 : ψ1 56 3 = φ 56 3 := fr_fd hF1 56 3 (by decide)
  have e1_82_3 : ψ1 82 3 = φ 82 3 := fr_fd hF1 82 3 (by decide)
  have e1_207_0 : ψ1 207 0 = φ 207 0 := fr_at hF1 207 (by decide) 0
  have e1_207_1 : ψ1 207 1 = φ 207 1 := fr_at hF1 207 (by decide) 1
  show hw sc (d + 24) 276 1154 L [(0, r1)] ψ1 x Q
  refine hw_pop (a0 := 0) (e := 0) (by decide +kernel) (by decide) ?_
  refine hw_ald (b := 2) (e := 0) (by decide +kernel) g2 (by decide) ?_
  refine hr_call (a0 := 22) (b := 263) (e := 1) (nl := 3) (As := []) (R := []) 192 rfl (by decide +kernel) rfl rfl (Nat.le_of_ble_eq_true rfl) (Nat.le_of_ble_eq_true rfl) ?_
  refine sf_263_192 (φ := ψ1) hI1  (fun r2 ψ2 hI2 hF2 hp2 hE2 => ⟨hne0, ?_⟩)
  have e2_1_2 : ψ2 1 2 = ψ1 1 2 := fr_fd hF2 1 2 (by decide)
  have e2_56_3 : ψ2 56 3 = ψ1 56 3 := fr_fd hF2 56 3 (by decide)
  have e2_82_3 : ψ2 82 3 = ψ1 82 3 := fr_fd hF2 82 3 (by decide)
  have e2_207_0 : ψ2 207 0 = ψ1 207 0 := fr_at hF2 207 (by decide) 0
  have e2_207_1 : ψ2 207 1 = ψ1 207 1 := fr_at hF2 207 (by decide) 1
  have hx := gq_sentence hI hI1 hI2 hF1 hF2 hR hs hW hB hE1 hE2
  show hw sc (d + 24) 276 1159 L [(0, r2)] ψ2 x Q
  refine hw_pop (a0 := 0) (e := 0) (by decide +kernel) (by decide) ?_
  refine hw_goto (a0 := 0) (b := 0) (e := 1263) (by decide +kernel) ?_
  exact hQ L ψ2 x g0 g1 g2 g3 g4 hI2 (by omega) ⟨by have := hk.1; omega, by have := hk.2; omega⟩ (tpr_f hB (fun k => ((fr_at hF2 2 (by decide) k).trans (fr_at hF1 2 (by decide) k))) (fun k => ((fr_at hF2 193 (by decide) k).trans (fr_at hF1 193 (by decide) k)))) (kwr_f hW (fun k => ((fr_at hF2 3 (by decide) k).trans (fr_at hF1 3 (by decide) k))) (fun k => ((fr_at hF2 198 (by decide) k).trans (fr_at hF1 198 (by decide) k)))) hx.2 (by omega)
theorem lw_c34 {sc : List Int} {d x : Nat} {φ : hf_F} {L : jm_L} {Q : Option jm_V → hf_F → Nat → Prop} {i : Int} (g0 : jm_get L 0 = some (4, 2)) (g1 : jm_get L 1 = some (2, 0)) (g2 : jm_get L 2 = some (2, 192)) (g3 : jm_get L 3 = some (2, 208)) (g4 : jm_get L 4 = some (0, i)) (hI : Inv φ) (hs : φ 1 2 = φ 192 2) (hk : KR φ) (hB : TPR φ φ) (hW : KWR φ φ) (hR : RLX φ φ) (h0 : 0 ≤ i) (h1 : i + 6 ≤ (sc.length : Int)) (hL : sc.length ≤ 3072) (hsc : SCP sc) (hd : 10 ≤ d)
    (hQ : (∀ (L1 : jm_L) (ψ : hf_F) (y : Nat), jm_get L1 0 = some (4, 2) → jm_get L1 1 = some (2, 0) → jm_get L1 2 = some (2, 192) → jm_get L1 3 = some (2, 208) → jm_get L1 4 = some (0, i) → Inv ψ → ψ 1 2 = ψ 192 2 → KR ψ → TPR ψ ψ → KWR ψ ψ → RLX ψ ψ → y ≤ x + 1 → hw sc (d + 24) 276 1263 L1 [] ψ y Q)) : hw sc (d + 24) 276 1163 L [] φ x Q := by
  have f0 := hsc (i).toNat
  have f1 := hsc (i + 1).toNat
  have f2 := hsc (i + 2).toNat
  have f3 := hsc (i + 3).toNat
  have f4 := hsc (i + 4).toNat
  have f5 := hsc (i + 5).toNat
  have u1 := iv_at (a := 1) (k := 2) (lo := 0) (u := 940) hI (by decide +kernel)
  have u192 := iv_at (a := 192) (k := 2) (lo := 0) (u := 940) hI (by decide +kernel)
  refine hw_ald (b := 1) (e := 0) (by decide +kernel) g1 (by decide) ?_
  refine hw_tld (b := 0) (e := 0) (by decide +kernel) g0 ?_
  refine hw_ld (b := 4) (e := 1) (by decide +kernel) g4 ?_
  refine hw_k (c := 1) (b := 0) (e := 1) (by decide +kernel) ?_
  refine hw_bin (w := i + 1) (a0 := 0) (b := 0) (e := 0) (by decide +kernel) rfl ?_
  refine hw_sce (a0 := 0) (j := i + 1) (e := 0) (by decide +kernel) (by omega) (by omega) hL ?_
  refine hr_call (a0 := 10) (b := 152) (e := 2) (nl := 4) (As := [(0, sc.getD (i + 1).toNat 0)]) (R := []) 0 rfl (by decide +kernel) rfl rfl (Nat.le_of_ble_eq_true rfl) (Nat.le_of_ble_eq_true rfl) ?_
  refine sf_152_0 (φ := φ) hI (by omega) (by omega) (fun r1 hp1 hE1 => ⟨hne0, ?_⟩)
  show hw sc (d + 24) 276 1173 L [(0, r1)] φ x Q
  refine hw_pop (a0 := 0) (e := 0) (by decide +kernel) (by decide) ?_
  refine hw_ald (b := 2) (e := 0) (by decide +kernel) g2 (by decide) ?_
  refine hw_tld (b := 0) (e := 0) (by decide +kernel) g0 ?_
  refine hw_ld (b := 4) (e := 1) (by decide +kernel) g4 ?_
  refine hw_k (c := 1) (b := 0) (e := 1) (by decide +kernel) ?_
  refine hw_bin (w := i + 1) (a0 := 0) (b := 0) (e := 0) (by decide +kernel) rfl ?_
  refine hw_sce (a0 := 0) (j := i + 1) (e := 0) (by decide +kernel) (by omega) (by omega) hL ?_
  refine hr_call (a0 := 22) (b := 270) (e := 2) (nl := 4) (As := [(0, sc.getD (i + 1).toNat 0)]) (R := []) 192 rfl (by decide +kernel) rfl rfl (Nat.le_of_ble_eq_true rfl) (Nat.le_of_ble_eq_true rfl) ?_
  refine sf_270_192 (φ := φ) hI (by omega) (by omega) (fun r2 ψ2 hI2 hF2 hp2 hE2 => ⟨hne0, ?_⟩)
  have e2_1_2 : ψ2 1 2 = φ 1 2 := fr_fd hF2 1 2 (by decide)
  have e2_192_2 : ψ2 192 2 = φ 192 2 := fr_fd hF2 192 2 (by decide)
  have e2_56_3 : ψ2 56 3 = φ 56 3 := fr_fd hF2 56 3 (by decide)
  have e2_82_3 : ψ2 82 3 = φ 82 3 := fr_fd hF2 82 3 (by decide)
  have e2_207_0 : ψ2 207 0 = φ 207 0 := fr_at hF2 207 (by decide) 0
  have e2_207_1 : ψ2 207 1 = φ 207 1 := fr_at hF2 207 (by decide) 1
  have hx := gq_said hI hI2 hF2 hR hs hW hB hE1 hE2
  show hw sc (d + 24) 276 1184 L [(0, r2)] ψ2 x Q
  refine hw_pop (a0 := 0) (e := 0) (by decide +kernel) (by decide) ?_
  refine hw_goto (a0 := 0) (b := 0) (e := 1263) (by decide +kernel) ?_
  exact hQ L ψ2 x g0 g1 g2 g3 g4 hI2 (by omega) ⟨by have := hk.1; omega, by have := hk.2; omega⟩ (tpr_f hB (fun k => (fr_at hF2 2 (by decide) k)) (fun k => (fr_at hF2 193 (by decide) k))) (kwr_f hW (fun k => (fr_at hF2 3 (by decide) k)) (fun k => (fr_at hF2 198 (by decide) k))) hx (by omega)
theorem lw_c35 {sc : List Int} {d x : Nat} {φ : hf_F} {L : jm_L} {Q : Option jm_V → hf_F → Nat → Prop} {i : Int} (g0 : jm_get L 0 = some (4, 2)) (g1 : jm_get L 1 = some (2, 0)) (g2 : jm_get L 2 = some (2, 192)) (g3 : jm_get L 3 = some (2, 208)) (g4 : jm_get L 4 = some (0, i)) (hI : Inv φ) (hs : φ 1 2 = φ 192 2) (hk : KR φ) (hB : TPR φ φ) (hW : KWR φ φ) (hR : RLX φ φ) (h0 : 0 ≤ i) (h1 : i + 6 ≤ (sc.length : Int)) (hL : sc.length ≤ 3072) (hsc : SCP sc) (hd : 10 ≤ d)
    (hQ : (∀ (L1 : jm_L) (ψ : hf_F) (y : Nat), jm_get L1 0 = some (4, 2) → jm_get L1 1 = some (2, 0) → jm_get L1 2 = some (2, 192) → jm_get L1 3 = some (2, 208) → jm_get L1 4 = some (0, i) → Inv ψ → ψ 1 2 = ψ 192 2 → KR ψ → TPR ψ ψ → KWR ψ ψ → RLX ψ ψ → y ≤ x + 1 → hw sc (d + 24) 276 1263 L1 [] ψ y Q)) : hw sc (d + 24) 276 1188 L [] φ x Q := by
  have f0 := hsc (i).toNat
  have f1 := hsc (i + 1).toNat
  have f2 := hsc (i + 2).toNat
  have f3 := hsc (i + 3).toNat
  have f4 := hsc (i + 4).toNat
  have f5 := hsc (i + 5).toNat
  have u1 := iv_at (a := 1) (k := 2) (lo := 0) (u := 940) hI (by decide +kernel)
  have u192 := iv_at (a := 192) (k := 2) (lo := 0) (u := 940) hI (by decide +kernel)
  refine hw_ald (b := 1) (e := 0) (by decide +kernel) g1 (by decide) ?_
  refine hw_tld (b := 0) (e := 0) (by decide +kernel) g0 ?_
  refine hw_ld (b := 4) (e := 1) (by decide +kernel) g4 ?_
  refine hw_k (c := 1) (b := 0) (e := 1) (by decide +kernel) ?_
  refine hw_bin (w := i + 1) (a0 := 0) (b := 0) (e := 0) (by decide +kernel) rfl ?_
  refine hw_sce (a0 := 0) (j := i + 1) (e := 0) (by decide +kernel) (by omega) (by omega) hL ?_
  refine hr_call (a0 := 10) (b := 156) (e := 2) (nl := 3) (As := [(0, sc.getD (i + 1).toNat 0)]) (R := []) 0 rfl (by decide +kernel) rfl rfl (Nat.le_of_ble_eq_true rfl) (Nat.le_of_ble_eq_true rfl) ?_
  refine sf_156_0 (φ := φ) hI (by omega) (by omega) (fun r1 ψ1 hI1 hF1 hp1 hE1 => ⟨hne0, ?_⟩)
  have e1_1_2 : ψ1 1 2 = φ 1 2 := fr_fd hF1 1 2 (by decide)
  have e1_192_2 : ψ1 192 2 = φ 192 2 := fr_fd hF1 192 2 (by decide)
  have e1_207_0 : ψ1 207 0 = φ 207 0 := fr_at hF1 207 (by decide) 0
  have e1_207_1 : ψ1 207 1 = φ 207 1 := fr_at hF1 207 (by decide) 1
  show hw sc (d + 24) 276 1198 L [(0, r1)] ψ1 x Q
  refine hw_pop (a0 := 0) (e := 0) (by decide +kernel) (by decide) ?_
  refine hw_ald (b := 2) (e := 0) (by decide +kernel) g2 (by decide) ?_
  refine hw_tld (b := 0) (e := 0) (by decide +kernel) g0 ?_
  refine hw_ld (b := 4) (e := 1) (by decide +kernel) g4 ?_
  refine hw_k (c := 1) (b := 0) (e := 1) (by decide +kernel) ?_
  refine hw_bin (w := i + 1) (a0 := 0) (b := 0) (e := 0) (by decide +kernel) rfl ?_
  refine hw_sce (a0 := 0) (j := i + 1) (e := 0) (by decide +kernel) (by omega) (by omega) hL ?_
  refine hr_call (a0 := 22) (b := 273) (e := 2) (nl := 3) (As := [(0, sc.getD (i + 1).toNat 0)]) (R := []) 192 rfl (by decide +kernel) rfl rfl (Nat.le_of_ble_eq_true rfl) (Nat.le_of_ble_eq_true rfl) ?_
  refine sf_273_192 (φ := ψ1) hI1 (by omega) (by omega) (fun r2 ψ2 hI2 hF2 hp2 hE2 => ⟨hne0, ?_⟩)
  have e2_1_2 : ψ2 1 2 = ψ1 1 2 := fr_fd hF2 1 2 (by decide)
  have e2_192_2 : ψ2 192 2 = ψ1 192 2 := fr_fd hF2 192 2 (by decide)
  have e2_56_3 : ψ2 56 3 = ψ1 56 3 := fr_fd hF2 56 3 (by decide)
  have e2_82_3 : ψ2 82 3 = ψ1 82 3 := fr_fd hF2 82 3 (by decide)
  have hx := gq_image hI hI1 hI2 hF1 hF2 hR hs hW hB hE1 hE2
  show hw sc (d + 24) 276 1209 L [(0, r2)] ψ2 x Q
  refine hw_pop (a0 := 0) (e := 0) (by decide +kernel) (by decide) ?_
  refine hw_goto (a0 := 0) (b := 0) (e := 1263) (by decide +kernel) ?_
  exact hQ L ψ2 x g0 g1 g2 g3 g4 hI2 (by omega) (kr_im (φ := φ) (ψ := ψ2) hk (z := sc.getD (i + 1).toNat 0) (r := r1) (s := r2) (by omega) (kp_c hp2.2.2 (fun k => fr_at hF1 207 (by decide) k))) (tpr_f hB (fun k => ((fr_at hF2 2 (by decide) k).trans (fr_at hF1 2 (by decide) k))) (fun k => ((fr_at hF2 193 (by decide) k).trans (fr_at hF1 193 (by decide) k)))) (kwr_f hW (fun k => ((fr_at hF2 3 (by decide) k).trans (fr_at hF1 3 (by decide) k))) (fun k => ((fr_at hF2 198 (by decide) k).trans (fr_at hF1 198 (by decide) k)))) hx.2 (by omega)
theorem lw_c36 {sc : List Int} {d x : Nat} {φ : hf_F} {L : jm_L} {Q : Option jm_V → hf_F → Nat → Prop} {i : Int} (g0 : jm_get L 0 = some (4, 2)) (g1 : jm_get L 1 = some (2, 0)) (g2 : jm_get L 2 = some (2, 192)) (g3 : jm_get L 3 = some (2, 208)) (g4 : jm_get L 4 = some (0, i)) (hI : Inv φ) (hs : φ 1 2 = φ 192 2) (hk : KR φ) (hB : TPR φ φ) (hW : KWR φ φ) (hR : RLX φ φ) (h0 : 0 ≤ i) (h1 : i + 6 ≤ (sc.length : Int)) (hL : sc.length ≤ 3072) (hsc : SCP sc) (hd : 10 ≤ d)
    (hQ : (∀ (L1 : jm_L) (ψ : hf_F) (y : Nat), jm_get L1 0 = some (4, 2) → jm_get L1 1 = some (2, 0) → jm_get L1 2 = some (2, 192) → jm_get L1 3 = some (2, 208) → jm_get L1 4 = some (0, i) → Inv ψ → ψ 1 2 = ψ 192 2 → KR ψ → TPR ψ ψ → KWR ψ ψ → RLX ψ ψ → y ≤ x + 1 → hw sc (d + 24) 276 1263 L1 [] ψ y Q)) : hw sc (d + 24) 276 1213 L [] φ x Q := by
  have f0 := hsc (i).toNat
  have f1 := hsc (i + 1).toNat
  have f2 := hsc (i + 2).toNat
  have f3 := hsc (i + 3).toNat
  have f4 := hsc (i + 4).toNat
  have f5 := hsc (i + 5).toNat
  have u1 := iv_at (a := 1) (k := 2) (lo := 0) (u := 940) hI (by decide +kernel)
  have u192 := iv_at (a := 192) (k := 2) (lo := 0) (u := 940) hI (by decide +kernel)
  refine hw_ald (b := 1) (e := 0) (by decide +kernel) g1 (by decide) ?_
  refine hw_tld (b := 0) (e := 0) (by decide +kernel) g0 ?_
  refine hw_ld (b := 4) (e := 1) (by decide +kernel) g4 ?_
  refine hw_k (c := 1) (b := 0) (e := 1) (by decide +kernel) ?_
  refine hw_bin (w := i + 1) (a0 := 0) (b := 0) (e := 0) (by decide +kernel) rfl ?_
  refine hw_sce (a0 := 0) (j := i + 1) (e := 0) (by decide +kernel) (by omega) (by omega) hL ?_
  refine hr_call (a0 := 10) (b := 157) (e := 2) (nl := 3) (As := [(0, sc.getD (i + 1).toNat 0)]) (R := []) 0 rfl (by decide +kernel) rfl rfl (Nat.le_of_ble_eq_true rfl) (Nat.le_of_ble_eq_true rfl) ?_
  refine sf_157_0 (φ := φ) hI (by omega) (by omega) (fun r1 ψ1 hI1 hF1 hp1 hE1 => ⟨hne0, ?_⟩)
  have e1_1_2 : ψ1 1 2 = φ 1 2 := fr_fd hF1 1 2 (by decide)
  have e1_192_2 : ψ1 192 2 = φ 192 2 := fr_fd hF1 192 2 (by decide)
  have e1_56_3 : ψ1 56 3 = φ 56 3 := fr_fd hF1 56 3 (by decide)
  have e1_82_3 : ψ1 82 3 = φ 82 3 := fr_fd hF1 82 3 (by decide)
  have e1_207_0 : ψ1 207 0 = φ 207 0 := fr_at hF1 207 (by decide) 0
  have e1_207_1 : ψ1 207 1 = φ 207 1 := fr_at hF1 207 (by decide) 1
  show hw sc (d + 24) 276 1223 L [(0, r1)] ψ1 x Q
  refine hw_pop (a0 := 0) (e := 0) (by decide +kernel) (by decide) ?_
  refine hw_ald (b := 2) (e := 0) (by decide +kernel) g2 (by decide) ?_
  refine hw_tld (b := 0) (e := 0) (by decide +kernel) g0 ?_
  refine hw_ld (b := 4) (e := 1) (by decide +kernel) g4 ?_
  refine hw_k (c := 1) (b := 0) (e := 1) (by decide +kernel) ?_
  refine hw_bin (w := i + 1) (a0 := 0) (b := 0) (e := 0) (by decide +kernel) rfl ?_
  refine hw_sce (a0 := 0) (j := i + 1) (e := 0) (by decide +kernel) (by omega) (by omega) hL ?_
  refine hr_call (a0 := 22) (b := 274) (e := 2) (nl := 3) (As := [(0, sc.getD (i + 1).toNat 0)]) (R := []) 192 rfl (by decide +kernel) rfl rfl (Nat.le_of_ble_eq_true rfl) (Nat.le_of_ble_eq_true rfl) ?_
  refine sf_274_192 (φ := ψ1) hI1 (by omega) (by omega) (fun r2 ψ2 hI2 hF2 hp2 hE2 => ⟨hne0, ?_⟩)
  have e2_1_2 : ψ2 1 2 = ψ1 1 2 := fr_fd hF2 1 2 (by decide)
  have e2_192_2 : ψ2 192 2 = ψ1 192 2 := fr_fd hF2 192 2 (by decide)
  have e2_56_3 : ψ2 56 3 = ψ1 56 3 := fr_fd hF2 56 3 (by decide)
  have e2_82_3 : ψ2 82 3 = ψ1 82 3 := fr_fd hF2 82 3 (by decide)
  have e2_207_0 : ψ2 207 0 = ψ1 207 0 := fr_at hF2 207 (by decide) 0
  have e2_207_1 : ψ2 207 1 = ψ1 207 1 := fr_at hF2 207 (by decide) 1
  have hx := gq_restore hI hI1 hI2 hF1 hF2 hR hs hW hB hE1 hE2
  show hw sc (d + 24) 276 1234 L [(0, r2)] ψ2 x Q
  refine hw_pop (a0 := 0) (e := 0) (by decide +kernel) (by decide) ?_
  refine hw_goto (a0 := 0) (b := 0) (e := 1263) (by decide +kernel) ?_
  exact hQ L ψ2 x g0 g1 g2 g3 g4 hI2 (by omega) ⟨by have := hk.1; omega, by have := hk.2; omega⟩ (tpr_f hB (fun k => ((fr_at hF2 2 (by decide) k).trans (fr_at hF1 2 (by decide) k))) (fun k => ((fr_at hF2 193 (by decide) k).trans (fr_at hF1 193 (by decide) k)))) (kwr_f hW (fun k => ((fr_at hF2 3 (by decide) k).trans (fr_at hF1 3 (by decide) k))) (fun k => ((fr_at hF2 198 (by decide) k).trans (fr_at hF1 198 (by decide) k)))) hx.2 (by omega)
theorem lw_c37 {sc : List Int} {d x : Nat} {φ : hf_F} {L : jm_L} {Q : Option jm_V → hf_F → Nat → Prop} {i : Int} (g0 : jm_get L 0 = some (4, 2)) (g1 : jm_get L 1 = some (2, 0)) (g2 : jm_get L 2 = some (2, 192)) (g3 : jm_get L 3 = some (2, 208)) (g4 : jm_get L 4 = some (0, i)) (hI : Inv φ) (hs : φ 1 2 = φ 192 2) (hk : KR φ) (hB : TPR φ φ) (hW : KWR φ φ) (hR : RLX φ φ) (h0 : 0 ≤ i) (h1 : i + 6 ≤ (sc.length : Int)) (hL : sc.length ≤ 3072) (hsc : SCP sc) (hd : 10 ≤ d)
    (hQ : (∀ (L1 : jm_L) (ψ : hf_F) (y : Nat), jm_get L1 0 = some (4, 2) → jm_get L1 1 = some (2, 0) → jm_get L1 2 = some (2, 192) → jm_get L1 3 = some (2, 208) → jm_get L1 4 = some (0, i) → Inv ψ → ψ 1 2 = ψ 192 2 → KR ψ → TPR ψ ψ → KWR ψ ψ → RLX ψ ψ → y ≤ x + 1 → hw sc (d + 24) 276 1263 L1 [] ψ y Q)) : hw sc (d + 24) 276 1238 L [] φ x Q := by
  have f0 := hsc (i).toNat
  have f1 := hsc (i + 1).toNat
  have f2 := hsc (i + 2).toNat
  have f3 := hsc (i + 3).toNat
  have f4 := hsc (i + 4).toNat
  have f5 := hsc (i + 5).toNat
  have u1 := iv_at (a := 1) (k := 2) (lo := 0) (u := 940) hI (by decide +kernel)
  have u192 := iv_at (a := 192) (k := 2) (lo := 0) (u := 940) hI (by decide +kernel)
  refine hw_ald (b := 1) (e := 0) (by decide +kernel) g1 (by decide) ?_
  refine hw_tld (b := 0) (e := 0) (by decide +kernel) g0 ?_
  refine hw_ld (b := 4) (e := 1) (by decide +kernel) g4 ?_
  refine hw_k (c := 1) (b := 0) (e := 1) (by decide +kernel) ?_
  refine hw_bin (w := i + 1) (a0 := 0) (b := 0) (e := 0) (by decide +kernel) rfl ?_
  refine hw_sce (a0 := 0) (j := i + 1) (e := 0) (by decide +kernel) (by omega) (by omega) hL ?_
  refine hr_call (a0 := 10) (b := 158) (e := 2) (nl := 2) (As := [(0, sc.getD (i + 1).toNat 0)]) (R := []) 0 rfl (by decide +kernel) rfl rfl (Nat.le_of_ble_eq_true rfl) (Nat.le_of_ble_eq_true rfl) ?_
  refine sf_158_0 (φ := φ) hI (by omega) (by omega) (fun r1 hp1 hE1 => ⟨hne0, ?_⟩)
  show hw sc (d + 24) 276 1248 L [(0, r1)] φ x Q
  refine hw_pop (a0 := 0) (e := 0) (by decide +kernel) (by decide) ?_
  refine hw_ald (b := 2) (e := 0) (by decide +kernel) g2 (by decide) ?_
  refine hw_tld (b := 0) (e := 0) (by decide +kernel) g0 ?_
  refine hw_ld (b := 4) (e := 1) (by decide +kernel) g4 ?_
  refine hw_k (c := 1) (b := 0) (e := 1) (by decide +kernel) ?_
  refine hw_bin (w := i + 1) (a0 := 0) (b := 0) (e := 0) (by decide +kernel) rfl ?_
  refine hw_sce (a0 := 0) (j := i + 1) (e := 0) (by decide +kernel) (by omega) (by omega) hL ?_
  refine hr_call (a0 := 22) (b := 275) (e := 2) (nl := 2) (As := [(0, sc.getD (i + 1).toNat 0)]) (R := []) 192 rfl (by decide +kernel) rfl rfl (Nat.le_of_ble_eq_true rfl) (Nat.le_of_ble_eq_true rfl) ?_
  refine sf_275_192 (φ := φ) hI (by omega) (by omega) (fun r2 ψ2 hI2 hF2 hp2 hE2 => ⟨hne0, ?_⟩)
  have e2_1_2 : ψ2 1 2 = φ 1 2 := fr_fd hF2 1 2 (by decide)
  have e2_192_2 : ψ2 192 2 = φ 192 2 := fr_fd hF2 192 2 (by decide)
  have e2_56_3 : ψ2 56 3 = φ 56 3 := fr_fd hF2 56 3 (by decide)
  have e2_82_3 : ψ2 82 3 = φ 82 3 := fr_fd hF2 82 3 (by decide)
  have e2_207_0 : ψ2 207 0 = φ 207 0 := fr_at hF2 207 (by decide) 0
  have e2_207_1 : ψ2 207 1 = φ 207 1 := fr_at hF2 207 (by decide) 1
  have hx := gq_count hI hI2 hF2 hR hs hW hB hE1 hE2
  show hw sc (d + 24) 276 1259 L [(0, r2)] ψ2 x Q
  refine hw_pop (a0 := 0) (e := 0) (by decide +kernel) (by decide) ?_
  refine hw_goto (a0 := 0) (b := 0) (e := 1263) (by decide +kernel) ?_
  exact hQ L ψ2 x g0 g1 g2 g3 g4 hI2 (by omega) ⟨by have := hk.1; omega, by have := hk.2; omega⟩ (tpr_f hB (fun k => (fr_at hF2 2 (by decide) k)) (fun k => (fr_at hF2 193 (by decide) k))) (kwr_f hW (fun k => (fr_at hF2 3 (by decide) k)) (fun k => (fr_at hF2 198 (by decide) k))) hx.2 (by omega)
theorem lw_loop {sc : List Int} {d : Nat} (hL : sc.length ≤ 3072) (hsc : SCP sc) (hd : 10 ≤ d) : ∀ (n : Nat) (i : Int) (φ : hf_F) (x : Nat) (L : jm_L), jm_get L 0 = some (4, 2) → jm_get L 1 = some (2, 0) → jm_get L 2 = some (2, 192) → jm_get L 3 = some (2, 208) → jm_get L 4 = some (0, i) → Inv φ → φ 1 2 = φ 192 2 → KR φ → TPR φ φ → KWR φ φ → RLX φ φ → 0 ≤ i → i ≤ (sc.length : Int) → 6 * (x : Int) ≤ i → (sc.length : Int) - i < (n : Int) → hw sc (d + 24) 276 23 L [] φ x (fun r _ y => r = some (0, 1) ∧ y ≤ 512) := by
  intro n
  induction n with
  | zero =>
    intro i φ x L g0 g1 g2 g3 g4 hI hs hk hB hW hR h0 hj h6 hn
    omega
  | succ n ih =>
    intro i φ x L g0 g1 g2 g3 g4 hI hs hk hB hW hR h0 hj h6 hn
    have f0 := hsc (i).toNat
    refine hw_ld (b := 4) (e := 1) (by decide +kernel) g4 ?_
    refine hw_tld (b := 0) (e := 0) (by decide +kernel) g0 ?_
    refine hw_scl (a0 := 0) (e := 0) (by decide +kernel) ?_
    refine hw_k (c := 6) (b := 1) (e := 2) (by decide +kernel) ?_
    refine hw_bin (w := (sc.length : Int) - 6) (a0 := 0) (b := 1) (e := 0) (by decide +kernel) rfl ?_
    refine hw_if2 (a0 := 0) (b := 4) (e := 1269) (by decide +kernel) (by unfold hi; omega) (by unfold hi; omega) (fun q => ?_) (fun q => ?_)
    · refine hw_k (c := 1) (b := 0) (e := 1) (by decide +kernel) ?_
      exact hw_ret (a0 := 0) (e := 1) (by decide +kernel) (Or.inr ⟨rfl, Or.inr rfl⟩) ⟨rfl, by omega⟩
    have q : ¬ (sc.length : Int) - 6 < i := q
    refine hw_tld (b := 0) (e := 0) (by decide +kernel) g0 ?_
    refine hw_ld (b := 4) (e := 1) (by decide +kernel) g4 ?_
    refine hw_sce (a0 := 0) (j := i) (e := 0) (by decide +kernel) (by omega) (by omega) hL ?_
    refine hw_k (c := 63) (b := 1) (e := 2) (by decide +kernel) ?_
    refine hw_bin (w := hb_and (sc.getD (i).toNat 0) 63) (a0 := 0) (b := 3) (e := 0) (by decide +kernel) rfl ?_
    have hC : (∀ (L1 : jm_L) (ψ : hf_F) (y : Nat), jm_get L1 0 = some (4, 2) → jm_get L1 1 = some (2, 0) → jm_get L1 2 = some (2, 192) → jm_get L1 3 = some (2, 208) → jm_get L1 4 = some (0, i) → Inv ψ → ψ 1 2 = ψ 192 2 → KR ψ → TPR ψ ψ → KWR ψ ψ → RLX ψ ψ → y ≤ x + 1 → hw sc (d + 24) 276 1263 L1 [] ψ y (fun r _ y => r = some (0, 1) ∧ y ≤ 512)) := by
      intro L1 ψ y w0 w1 w2 w3 w4 hI1 hs1 hk1 hB1 hW1 hR1 hy
      refine hw_inc (L' := (jm_st1 L1 4 (0, i + 6))) (c := 6) (b := 4) (e := 0) (by decide +kernel) w4 rfl ?_
      refine hw_goto (a0 := 0) (b := 0) (e := 23) (by decide +kernel) ?_
      exact ih (i + 6) ψ y (jm_st1 L1 4 (0, i + 6)) (get_st1 w0 (by decide) (fun q => absurd q.1 (by decide))) (get_st1 w1 (by decide) (fun q => absurd q.1 (by decide))) (get_st1 w2 (by decide) (fun q => absurd q.1 (by decide))) (get_st1 w3 (by decide) (fun q => tg2 q.2)) get_st1e hI1 hs1 hk1 hB1 hW1 hR1 (by omega) (by omega) (by omega) (by omega)
    refine hr_tsw (T := [208, 281, 306, 319, 332, 372, 409, 446, 483, 508, 545, 570, 607, 620, 645, 658, 683, 720, 745, 782, 795, 820, 872, 885, 898, 911, 951, 964, 989, 1014, 1051, 1100, 1125, 1150, 1163, 1188, 1213, 1238]) (lo := 0) (nn := 38) (b := 1263) (e := 14) (by decide +kernel) rfl (hr_and _ _) (fun _ => hC L φ x g0 g1 g2 g3 g4 hI hs hk hB hW hR (by omega)) ?_
    intro kq tq htq hzq
    match kq, htq with
    | 0, htq => cases htq; exact lw_c0 g0 g1 g2 g3 g4 hI hs hk hB hW hR h0 (by omega) hL hsc hd hC
    | 1, htq => cases htq; exact lw_c1 g0 g1 g2 g3 g4 hI hs hk hB hW hR h0 (by omega) hL hsc hd hC
    | 2, htq => cases htq; exact lw_c2 g0 g1 g2 g3 g4 hI hs hk hB hW hR h0 (by omega) hL hsc hd hC
    | 3, htq => cases htq; exact lw_c3 g0 g1 g2 g3 g4 hI hs hk hB hW hR h0 (by omega) hL hsc hd hC
    | 4, htq => cases htq; exact lw_c4 g0 g1 g2 g3 g4 hI hs hk hB hW hR h0 (by omega) hL hsc hd hC
    | 5, htq => cases htq; exact lw_c5 g0 g1 g2 g3 g4 hI hs hk hB hW hR h0 (by omega) hL hsc hd hC
    | 6, htq => cases htq; exact lw_c6 g0 g1 g2 g3 g4 hI hs hk hB hW hR h0 (by omega) hL hsc hd hC
    | 7, htq => cases htq; exact lw_c7 g0 g1 g2 g3 g4 hI hs hk hB hW hR h0 (by omega) hL hsc hd hC
    | 8, htq => cases htq; exact lw_c8 g0 g1 g2 g3 g4 hI hs hk hB hW hR h0 (by omega) hL hsc hd hC
    | 9, htq => cases htq; exact lw_c9 g0 g1 g2 g3 g4 hI hs hk hB hW hR h0 (by omega) hL hsc hd hC
    | 10, htq => cases htq; exact lw_c10 g0 g1 g2 g3 g4 hI hs hk hB hW hR h0 (by omega) hL hsc hd hC
    | 11, htq => cases htq; exact lw_c11 g0 g1 g2 g3 g4 hI hs hk hB hW hR h0 (by omega) hL hsc hd hC
    | 12, htq => cases htq; exact lw_c12 g0 g1 g2 g3 g4 hI hs hk hB hW hR h0 (by omega) hL hsc hd hC
    | 13, htq => cases htq; exact lw_c13 g0 g1 g2 g3 g4 hI hs hk hB hW hR h0 (by omega) hL hsc hd hC
    | 14, htq => cases htq; exact lw_c14 g0 g1 g2 g3 g4 hI hs hk hB hW hR h0 (by omega) hL hsc hd hC
    | 15, htq => cases htq; exact lw_c15 g0 g1 g2 g3 g4 hI hs hk hB hW hR h0 (by omega) hL hsc hd hC
    | 16, htq => cases htq; exact lw_c16 g0 g1 g2 g3 g4 hI hs hk hB hW hR h0 (by omega) hL hsc hd hC
    | 17, htq => cases htq; exact lw_c17 g0 g1 g2 g3 g4 hI hs hk hB hW hR h0 (by omega) hL hsc hd hC
    | 18, htq => cases htq; exact lw_c18 g0 g1 g2 g3 g4 hI hs hk hB hW hR h0 (by omega) hL hsc hd hC
    | 19, htq => cases htq; exact lw_c19 g0 g1 g2 g3 g4 hI hs hk hB hW hR h0 (by omega) hL hsc hd hC
    | 20, htq => cases htq; exact lw_c20 g0 g1 g2 g3 g4 hI hs hk hB hW hR h0 (by omega) hL hsc hd hC
    | 21, htq => cases htq; exact lw_c21 g0 g1 g2 g3 g4 hI hs hk hB hW hR h0 (by omega) hL hsc hd hC
    | 22, htq => cases htq; exact lw_c22 g0 g1 g2 g3 g4 hI hs hk hB hW hR h0 (by omega) hL hsc hd hC
    | 23, htq => cases htq; exact lw_c23 g0 g1 g2 g3 g4 hI hs hk hB hW hR h0 (by omega) hL hsc hd hC
    | 24, htq => cases htq; exact lw_c24 g0 g1 g2 g3 g4 hI hs hk hB hW hR h0 (by omega) hL hsc hd hC
    | 25, htq => cases htq; exact lw_c25 g0 g1 g2 g3 g4 hI hs hk hB hW hR h0 (by omega) hL hsc hd hC
    | 26, htq => cases htq; exact lw_c26 g0 g1 g2 g3 g4 hI hs hk hB hW hR h0 (by omega) hL hsc hd hC
    | 27, htq => cases htq; exact lw_c27 g0 g1 g2 g3 g4 hI hs hk hB hW hR h0 (by omega) hL hsc hd hC
    | 28, htq => cases htq; exact lw_c28 g0 g1 g2 g3 g4 hI hs hk hB hW hR h0 (by omega) hL hsc hd hC
    | 29, htq => cases htq; exact lw_c29 g0 g1 g2 g3 g4 hI hs hk hB hW hR h0 (by omega) hL hsc hd hC
    | 30, htq => cases htq; exact lw_c30 g0 g1 g2 g3 g4 hI hs hk hB hW hR h0 (by omega) hL hsc hd hC
    | 31, htq => cases htq; exact lw_c31 g0 g1 g2 g3 g4 hI hs hk hB hW hR h0 (by omega) hL hsc hd hC
    | 32, htq => cases htq; exact lw_c32 g0 g1 g2 g3 g4 hI hs hk hB hW hR h0 (by omega) hL hsc hd hC
    | 33, htq => cases htq; exact lw_c33 g0 g1 g2 g3 g4 hI hs hk hB hW hR h0 (by omega) hL hsc hd hC
    | 34, htq => cases htq; exact lw_c34 g0 g1 g2 g3 g4 hI hs hk hB hW hR h0 (by omega) hL hsc hd hC
    | 35, htq => cases htq; exact lw_c35 g0 g1 g2 g3 g4 hI hs hk hB hW hR h0 (by omega) hL hsc hd hC
    | 36, htq => cases htq; exact lw_c36 g0 g1 g2 g3 g4 hI hs hk hB hW hR h0 (by omega) hL hsc hd hC
    | 37, htq => cases htq; exact lw_c37 g0 g1 g2 g3 g4 hI hs hk hB hW hR h0 (by omega) hL hsc hd hC
    | kq + 38, htq => cases htq
