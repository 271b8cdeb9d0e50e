/-! the LINE of a RIDER -/
theorem lsh_n {n s : Nat} {y : Int} (h2 : n < 9223372036854775808) (hk : (((Int32.ofInt y).toInt64 &&& 63).toBitVec.smod 64).toNat = s) : hb_lshr (n : Int) y = ((n / 2 ^ s : Nat) : Int) := by
  unfold hb_lshr
  show (Int64.ofInt (n : Int) >>> ((Int32.ofInt y).toInt64 &&& 63)).toBitVec.toInt = _
  rw [Int64.toBitVec_shiftRight, BitVec.sshiftRight_eq', hk, BitVec.toInt_sshiftRight]
  have e : (Int64.ofInt (n : Int)).toBitVec.toInt = (n : Int) := hl_n (by omega) (by omega)
  rw [e, ← Nat.shiftRight_eq_div_pow]
  rfl
theorem lan_n {n t : Nat} {z : Int} (h2 : n < 9223372036854775808) (hz : (Int64.ofInt z).toBitVec.toNat = 2 ^ t - 1) : hb_land (n : Int) z = ((n % 2 ^ t : Nat) : Int) := by
  unfold hb_land
  show ((Int64.ofInt (n : Int)).toBitVec &&& (Int64.ofInt z).toBitVec).toInt = _
  have e : ((Int64.ofInt (n : Int)).toBitVec &&& (Int64.ofInt z).toBitVec).toNat = n % 2 ^ t := by
    rw [BitVec.toNat_and, hz]
    show (BitVec.ofNat 64 n).toNat &&& _ = _
    rw [BitVec.toNat_ofNat, Nat.mod_eq_of_lt (show n < 2 ^ 64 by omega), Nat.and_two_pow_sub_one_eq_mod]
  have hl : n % 2 ^ t ≤ n := Nat.mod_le _ _
  rw [BitVec.toInt_eq_toNat_of_lt (by rw [e]; omega), e]
theorem lan_31 {z : Int} (h1 : 0 ≤ z) (h2 : z < 9223372036854775808) : hb_land z 31 = z % 32 := by
  obtain ⟨n, rfl⟩ := Int.eq_ofNat_of_zero_le h1
  rw [lan_n (t := 5) (by omega) (by decide)]
  omega
theorem lan_255 {z : Int} (h1 : 0 ≤ z) (h2 : z < 9223372036854775808) : hb_land z 255 = z % 256 := by
  obtain ⟨n, rfl⟩ := Int.eq_ofNat_of_zero_le h1
  rw [lan_n (t := 8) (by omega) (by decide)]
  omega
theorem l2i_s {z : Int} (h1 : 0 ≤ z) (h2 : z < 256) : hb_l2i z = z := by
  have hh : ∀ i : Fin 256, hb_l2i (i.1 : Int) = (i.1 : Int) := by decide +kernel
  have := hh ⟨z.toNat, by omega⟩
  dsimp only at this
  rw [show ((z.toNat : Nat) : Int) = z by omega] at this
  exact this
noncomputable def dvn (b : Int) : Nat → Int → Int
  | 0, c => c
  | i + 1, c => dvn b i (c / b)
theorem g8n_0 : ∀ f : Nat, G8n f 0 = 0 := by
  intro f
  cases f with
  | zero => rfl
  | succ f => rw [G8n, if_pos (by decide)]
theorem dgn_0 : ∀ f : Nat, DGn f 0 = true := by
  intro f
  cases f with
  | zero => rfl
  | succ f => rw [DGn]; rfl
theorem g8_d : ∀ (i f : Nat) (c : Int), 0 ≤ c → DGn (f + 1 + i) c = true → (dvn 256 i (G8n (f + 1 + i) c) % 256 = if dvn 32 i c ≤ 0 then 0 else dvn 32 i c % 32 + 96) ∧ (0 < dvn 32 i c → 1 ≤ dvn 32 i c % 32 ∧ dvn 32 i c % 32 ≤ 26) ∧ 0 ≤ dvn 32 i c := by
  intro i
  induction i with
  | zero =>
    intro f c h0 h
    have h : DGn (f + 1) c = true := h
    show (G8n (f + 1) c % 256 = if c ≤ 0 then 0 else c % 32 + 96) ∧ (0 < c → 1 ≤ c % 32 ∧ c % 32 ≤ 26) ∧ 0 ≤ c
    rw [DGn] at h
    simp only [Bool.or_eq_true, Bool.and_eq_true, decide_eq_true_eq] at h
    rw [G8n]
    by_cases c1 : c ≤ 0
    · rw [if_pos c1, if_pos c1]
      exact ⟨by decide, fun q => by omega, h0⟩
    · rw [if_neg c1, if_neg c1]
      rcases h with h | ⟨h1, h2⟩
      · omega
      · generalize G8n f (c / 32) = g
        exact ⟨by omega, fun _ => h1, h0⟩
  | succ i ih =>
    intro f c h0 h
    have h : DGn ((f + 1 + i) + 1) c = true := h
    have e : G8n (f + 1 + (i + 1)) c / 256 = G8n (f + 1 + i) (c / 32) := by
      show G8n ((f + 1 + i) + 1) c / 256 = _
      rw [G8n]
      by_cases c1 : c ≤ 0
      · rw [if_pos c1, show c / 32 = 0 by omega, g8n_0]
        decide
      · rw [if_neg c1]
        generalize G8n (f + 1 + i) (c / 32) = g
        omega
    have hd : DGn (f + 1 + i) (c / 32) = true := by
      rw [DGn] at h
      simp only [Bool.or_eq_true, Bool.and_eq_true, decide_eq_true_eq] at h
      rcases h with h | ⟨_, h2⟩
      · rw [show c / 32 = 0 by omega]; exact dgn_0 _
      · exact h2
    have := ih f (c / 32) (by omega) hd
    rw [← e] at this
    exact this
theorem dvn_b : ∀ (i : Nat) (b c : Int), 1 ≤ b → 0 ≤ c → 0 ≤ dvn b i c ∧ dvn b i c ≤ c := by
  intro i
  induction i with
  | zero => intro b c _ h; exact ⟨h, Int.le_refl _⟩
  | succ i ih =>
    intro b c hb h
    have h1 : 0 ≤ c / b := Int.ediv_nonneg h (by omega)
    have h2 : c / b ≤ c := Int.ediv_le_self _ h
    have := ih b (c / b) hb h1
    exact ⟨this.1, Int.le_trans this.2 h2⟩
/-- one letter of a NAME -/
noncomputable def LTR (c : Int) (i : Nat) : Prop := ∃ d : Int, 0 ≤ d ∧ d ≤ 26 ∧ hb_l2i (hb_land (hb_lshr c (5 * (i : Int))) 31) = d ∧ ((d = 0 ∧ jm_cmp (hb_land (hb_lshr (G8 c) (8 * (i : Int))) 255) 0 = 0) ∨ (1 ≤ d ∧ ¬ jm_cmp (hb_land (hb_lshr (G8 c) (8 * (i : Int))) 255) 0 = 0 ∧ hb_l2i (hb_land (hb_lshr (G8 c) (8 * (i : Int))) 255) = d + 96))
theorem ltr_g {c : Int} (h : VW c) {i : Nat} (e1 : hb_lshr c (5 * (i : Int)) = dvn 32 i c) (e2 : hb_lshr (G8 c) (8 * (i : Int)) = dvn 256 i (G8 c))
    (hf : (dvn 256 i (G8 c) % 256 = if dvn 32 i c ≤ 0 then 0 else dvn 32 i c % 32 + 96) ∧ (0 < dvn 32 i c → 1 ≤ dvn 32 i c % 32 ∧ dvn 32 i c % 32 ≤ 26) ∧ 0 ≤ dvn 32 i c) : LTR c i := by
  obtain ⟨f1, f2, f3⟩ := hf
  have hc := h.2.1
  have hg := G8_b c hc
  have b1 := dvn_b i 32 c (by decide) h.1
  have b2 := dvn_b i 256 (G8 c) (by decide) hg.1
  unfold LTR
  rw [e1, e2, lan_31 b1.1 (by omega), lan_255 b2.1 (by omega), l2i_s (by omega) (by omega), l2i_s (by omega) (by omega), cmp_e (by omega) (by omega) (by decide) (by decide), f1]
  by_cases c1 : dvn 32 i c ≤ 0
  · rw [if_pos c1, show dvn 32 i c = 0 by omega]
    exact ⟨0, by decide, by decide, by decide, Or.inl ⟨rfl, rfl⟩⟩
  · have := f2 (by omega)
    rw [if_neg c1]
    exact ⟨dvn 32 i c % 32, by omega, by omega, rfl, Or.inr ⟨by omega, by omega, rfl⟩⟩
theorem ltr {c : Int} (h : VW c) (i : Nat) (hi6 : i ≤ 6) : LTR c i := by
  have hc := h.2.1
  have h0 := h.1
  have hg := G8_b c hc
  have hgn : ∃ N : Nat, G8 c = (N : Int) := ⟨(G8 c).toNat, by omega⟩
  obtain ⟨N, hN⟩ := hgn
  have hcn : ∃ n : Nat, c = (n : Int) := ⟨c.toNat, by omega⟩
  obtain ⟨n, hn⟩ := hcn
  have hi7 : i = 0 ∨ i = 1 ∨ i = 2 ∨ i = 3 ∨ i = 4 ∨ i = 5 ∨ i = 6 := by omega
  rcases hi7 with rfl | rfl | rfl | rfl | rfl | rfl | rfl
  · refine ltr_g h ?_ ?_ (g8_d 0 7 c h0 h.2.2.2)
    · rw [hn]
      show hb_lshr (n : Int) 0 = (n : Int)
      rw [lsh_n (s := 0) (by omega) (by decide)]
      omega
    · rw [hN]
      show hb_lshr (N : Int) 0 = (N : Int)
      rw [lsh_n (s := 0) (by omega) (by decide)]
      omega
  · refine ltr_g h ?_ ?_ (g8_d 1 6 c h0 h.2.2.2)
    · rw [hn]
      show hb_lshr (n : Int) 5 = (n : Int) / 32
      rw [lsh_n (s := 5) (by omega) (by decide)]
      omega
    · rw [hN]
      show hb_lshr (N : Int) 8 = (N : Int) / 256
      rw [lsh_n (s := 8) (by omega) (by decide)]
      omega
  · refine ltr_g h ?_ ?_ (g8_d 2 5 c h0 h.2.2.2)
    · rw [hn]
      show hb_lshr (n : Int) 10 = (n : Int) / 32 / 32
      rw [lsh_n (s := 10) (by omega) (by decide)]
      omega
    · rw [hN]
      show hb_lshr (N : Int) 16 = (N : Int) / 256 / 256
      rw [lsh_n (s := 16) (by omega) (by decide)]
      omega
  · refine ltr_g h ?_ ?_ (g8_d 3 4 c h0 h.2.2.2)
    · rw [hn]
      show hb_lshr (n : Int) 15 = (n : Int) / 32 / 32 / 32
      rw [lsh_n (s := 15) (by omega) (by decide)]
      omega
    · rw [hN]
      show hb_lshr (N : Int) 24 = (N : Int) / 256 / 256 / 256
      rw [lsh_n (s := 24) (by omega) (by decide)]
      omega
  · refine ltr_g h ?_ ?_ (g8_d 4 3 c h0 h.2.2.2)
    · rw [hn]
      show hb_lshr (n : Int) 20 = (n : Int) / 32 / 32 / 32 / 32
      rw [lsh_n (s := 20) (by omega) (by decide)]
      omega
    · rw [hN]
      show hb_lshr (N : Int) 32 = (N : Int) / 256 / 256 / 256 / 256
      rw [lsh_n (s := 32) (by omega) (by decide)]
      omega
  · refine ltr_g h ?_ ?_ (g8_d 5 2 c h0 h.2.2.2)
    · rw [hn]
      show hb_lshr (n : Int) 25 = (n : Int) / 32 / 32 / 32 / 32 / 32
      rw [lsh_n (s := 25) (by omega) (by decide)]
      omega
    · rw [hN]
      show hb_lshr (N : Int) 40 = (N : Int) / 256 / 256 / 256 / 256 / 256
      rw [lsh_n (s := 40) (by omega) (by decide)]
      omega
  · refine ltr_g h ?_ ?_ (g8_d 6 1 c h0 h.2.2.2)
    · rw [hn]
      show hb_lshr (n : Int) 30 = (n : Int) / 32 / 32 / 32 / 32 / 32 / 32
      rw [lsh_n (s := 30) (by omega) (by decide)]
      omega
    · rw [hN]
      show hb_lshr (N : Int) 48 = (N : Int) / 256 / 256 / 256 / 256 / 256 / 256
      rw [lsh_n (s := 48) (by omega) (by decide)]
      omega
theorem ltr_7 {c : Int} (h : VW c) : jm_cmp (hb_land (hb_lshr (G8 c) 56) 255) 0 = 0 := by
  have hg := G8_b c h.2.1
  have hgn : ∃ N : Nat, G8 c = (N : Int) := ⟨(G8 c).toNat, by omega⟩
  obtain ⟨N, hN⟩ := hgn
  rw [hN, lsh_n (s := 56) (by omega) (by decide), show ((N / 2 ^ 56 : Nat) : Int) = 0 by omega]
  decide
/-- what is laid so far: k bytes -/
noncomputable def LN (k : Int) (φ χ : hf_F) : Prop := φ 189 1 = k ∧ χ 192 28 = k ∧ 0 ≤ k ∧ ∀ j : Nat, (j : Int) < k → φ 190 j = χ 201 j
noncomputable def FRL (φ ψ : hf_F) : Prop := ∀ a k : Nat, ¬ a = 190 → ¬ (a = 189 ∧ k = 1) → ψ a k = φ a k
noncomputable def FRN (χ ξ : hf_F) : Prop := ∀ a k : Nat, ¬ a = 201 → ¬ (a = 192 ∧ k = 28) → ξ a k = χ a k
noncomputable def LNS (k : Int) (φ0 χ0 φ χ : hf_F) : Prop := LN k φ χ ∧ FRL φ0 φ ∧ FRN χ0 χ
theorem adb {k : Int} {φ0 χ0 φ χ : hf_F} (v : Int) (h : LNS k φ0 χ0 φ χ) (hk : k < 32) : LNS (k + 1) φ0 χ0 (F_Line_addByte_189 φ v) (F_RideLawsModel_lays_192 χ v) := by
  obtain ⟨⟨l1, l2, l3, l4⟩, hf, hg⟩ := h
  unfold F_Line_addByte_189 F_RideLawsModel_lays_192
  rw [if_neg (show ¬ 32 ≤ φ 189 1 by omega), l1, l2]
  refine ⟨⟨hf_up_eq, hf_up_eq, by omega, fun j hj => ?_⟩, fun a q q1 q2 => ?_, fun a q q1 q2 => ?_⟩
  · rw [up_a (show ¬ (190 : Nat) = 189 by decide), up_a (show ¬ (201 : Nat) = 192 by decide)]
    by_cases c : j = k.toNat
    · rw [c, hf_up_eq, hf_up_eq]
    · rw [hf_up_ne (fun w => c w.2), hf_up_ne (fun w => c w.2)]
      exact l4 j (by omega)
  · rw [hf_up_ne (fun w => q2 ⟨w.1, w.2⟩), hf_up_ne (fun w => q1 w.1)]
    exact hf a q q1 q2
  · rw [hf_up_ne (fun w => q2 ⟨w.1, w.2⟩), hf_up_ne (fun w => q1 w.1)]
    exact hg a q q1 q2
theorem adb_7 {φ : hf_F} {v : Int} {q : Nat} : F_Line_addByte_189 φ v 7 q = φ 7 q := by
  unfold F_Line_addByte_189
  split
  · rfl
  · rw [hf_up_ne (fun w => absurd w.1 (by decide)), hf_up_ne (fun w => absurd w.1 (by decide))]
theorem lay_f {χ : hf_F} {v : Int} {a q : Nat} (q1 : ¬ a = 201) (q2 : ¬ (a = 192 ∧ q = 28)) : F_RideLawsModel_lays_192 χ v a q = χ a q := by
  unfold F_RideLawsModel_lays_192
  rw [hf_up_ne q2, hf_up_ne (fun w => q1 w.1)]
theorem nam_l {c : Int} (h : VW c) {φ0 χ0 : hf_F} : ∀ (i : Nat), i ≤ 7 → ∀ (n m : Nat) (k s t : Int) (φ χ : hf_F), i < n → i < m → s = 5 * (i : Int) - 5 → t = 8 * (i : Int) - 8 → LNS k φ0 χ0 φ χ → k + (i : Int) ≤ 32 →
    ∃ z : Int, k ≤ z ∧ z ≤ k + (i : Int) ∧ LNS z φ0 χ0 (F_Line_addName_189_l3 n φ c s) (F_RideLawsModel_spells_192_l3 m χ (G8 c) t) := by
  intro i
  induction i with
  | zero =>
    intro _ n m k s t φ χ h1 h2 hs ht hl hk
    obtain ⟨n, rfl⟩ : ∃ j, n = j + 1 := ⟨n - 1, by omega⟩
    obtain ⟨m, rfl⟩ : ∃ j, m = j + 1 := ⟨m - 1, by omega⟩
    rw [F_Line_addName_189_l3_s, F_RideLawsModel_spells_192_l3_s, if_pos (show s < 0 by omega), if_pos (show t < 0 by omega)]
    exact ⟨k, by omega, by omega, hl⟩
  | succ i ih =>
    intro hi7 n m k s t φ χ h1 h2 hs ht hl hk
    obtain ⟨n, rfl⟩ : ∃ j, n = j + 1 := ⟨n - 1, by omega⟩
    obtain ⟨m, rfl⟩ : ∃ j, m = j + 1 := ⟨m - 1, by omega⟩
    obtain ⟨d, d1, d2, d3, d4⟩ := ltr h i (by omega)
    have es : s = 5 * (i : Int) := by omega
    have et : t = 8 * (i : Int) := by omega
    rw [F_Line_addName_189_l3_s, F_RideLawsModel_spells_192_l3_s, if_neg (show ¬ s < 0 by omega), if_neg (show ¬ t < 0 by omega), es, et, d3]
    rcases d4 with ⟨z1, z2⟩ | ⟨z1, z2, z3⟩
    · rw [if_pos z1, if_pos z2]
      obtain ⟨z, q1, q2, q3⟩ := ih (by omega) n m k (5 * (i : Int) + -5) (8 * (i : Int) + -8) φ χ (by omega) (by omega) (by omega) (by omega) hl (by omega)
      exact ⟨z, q1, by omega, q3⟩
    · rw [if_neg (show ¬ d = 0 by omega), if_neg z2, z3, bnv_e rfl, bnv_e rfl, show 97 + d - 1 = d + 96 by omega]
      obtain ⟨z, q1, q2, q3⟩ := ih (by omega) n m (k + 1) (5 * (i : Int) + -5) (8 * (i : Int) + -8) _ _ (by omega) (by omega) (by omega) (by omega) (adb (d + 96) hl (by omega)) (by omega)
      exact ⟨z, by omega, by omega, q3⟩
theorem nam_e {c k : Int} {φ0 χ0 φ χ : hf_F} (h : VW c) (hl : LNS k φ0 χ0 φ χ) (hk : k + 7 ≤ 32) : ∃ z : Int, k ≤ z ∧ z ≤ k + 7 ∧ LNS z φ0 χ0 (F_Line_addName_189 φ c) (F_RideLawsModel_spells_192 χ (G8 c)) := by
  have e : F_RideLawsModel_spells_192 χ (G8 c) = F_RideLawsModel_spells_192_l3 64 χ (G8 c) (56 + -8) := by
    show F_RideLawsModel_spells_192_l3 (64 + 1) χ (G8 c) 56 = _
    rw [F_RideLawsModel_spells_192_l3_s, if_neg (show ¬ (56 : Int) < 0 by decide), if_pos (ltr_7 h)]
  rw [e]
  exact nam_l h 7 (by decide) 36 64 k 30 (56 + -8) φ χ (by decide) (by decide) (by decide) (by decide) hl hk
theorem spl_z {n : Nat} {χ : hf_F} {w k : Int} (h : ¬ k < 0) (h2 : jm_cmp (hb_land (hb_lshr w k) 255) 0 = 0) : F_RideLawsModel_spells_192_l3 (n + 1) χ w k = F_RideLawsModel_spells_192_l3 n χ w (k + -8) := by
  rw [F_RideLawsModel_spells_192_l3_s, if_neg h, if_pos h2]
theorem spl_n {n : Nat} {χ : hf_F} {w k x : Int} (h : ¬ k < 0) (h2 : ¬ jm_cmp (hb_land (hb_lshr w k) 255) 0 = 0) (h3 : hb_l2i (hb_land (hb_lshr w k) 255) = x) : F_RideLawsModel_spells_192_l3 (n + 1) χ w k = F_RideLawsModel_spells_192_l3 n (F_RideLawsModel_lays_192 χ x) w (k + -8) := by
  rw [F_RideLawsModel_spells_192_l3_s, if_neg h, if_neg h2, h3, bnv_e rfl]
theorem spl_f {n : Nat} {χ : hf_F} {w k : Int} (h : k < 0) : F_RideLawsModel_spells_192_l3 (n + 1) χ w k = χ := by
  rw [F_RideLawsModel_spells_192_l3_s, if_pos h]
theorem lit_on (χ : hf_F) : F_RideLawsModel_spells_192 χ 28526 = F_RideLawsModel_lays_192 (F_RideLawsModel_lays_192 χ 111) 110 := by
  show F_RideLawsModel_spells_192_l3 65 χ 28526 56 = _
  have e0 : F_RideLawsModel_spells_192_l3 65 (χ) 28526 56 = F_RideLawsModel_spells_192_l3 64 (χ) 28526 (48) := spl_z (by decide) (by decide)
  rw [e0]
  have e1 : F_RideLawsModel_spells_192_l3 64 (χ) 28526 48 = F_RideLawsModel_spells_192_l3 63 (χ) 28526 (40) := spl_z (by decide) (by decide)
  rw [e1]
  have e2 : F_RideLawsModel_spells_192_l3 63 (χ) 28526 40 = F_RideLawsModel_spells_192_l3 62 (χ) 28526 (32) := spl_z (by decide) (by decide)
  rw [e2]
  have e3 : F_RideLawsModel_spells_192_l3 62 (χ) 28526 32 = F_RideLawsModel_spells_192_l3 61 (χ) 28526 (24) := spl_z (by decide) (by decide)
  rw [e3]
  have e4 : F_RideLawsModel_spells_192_l3 61 (χ) 28526 24 = F_RideLawsModel_spells_192_l3 60 (χ) 28526 (16) := spl_z (by decide) (by decide)
  rw [e4]
  have e5 : F_RideLawsModel_spells_192_l3 60 (χ) 28526 16 = F_RideLawsModel_spells_192_l3 59 (χ) 28526 (8) := spl_z (by decide) (by decide)
  rw [e5]
  have e6 : F_RideLawsModel_spells_192_l3 59 (χ) 28526 8 = F_RideLawsModel_spells_192_l3 58 (F_RideLawsModel_lays_192 (χ) 111) 28526 (0) := spl_n (by decide) (by decide) (by decide)
  rw [e6]
  have e7 : F_RideLawsModel_spells_192_l3 58 (F_RideLawsModel_lays_192 (χ) 111) 28526 0 = F_RideLawsModel_spells_192_l3 57 (F_RideLawsModel_lays_192 (F_RideLawsModel_lays_192 (χ) 111) 110) 28526 (-8) := spl_n (by decide) (by decide) (by decide)
  rw [e7]
  exact spl_f (by decide)
theorem lit_off (χ : hf_F) : F_RideLawsModel_spells_192 χ 7300710 = F_RideLawsModel_lays_192 (F_RideLawsModel_lays_192 (F_RideLawsModel_lays_192 χ 111) 102) 102 := by
  show F_RideLawsModel_spells_192_l3 65 χ 7300710 56 = _
  have e0 : F_RideLawsModel_spells_192_l3 65 (χ) 7300710 56 = F_RideLawsModel_spells_192_l3 64 (χ) 7300710 (48) := spl_z (by decide) (by decide)
  rw [e0]
  have e1 : F_RideLawsModel_spells_192_l3 64 (χ) 7300710 48 = F_RideLawsModel_spells_192_l3 63 (χ) 7300710 (40) := spl_z (by decide) (by decide)
  rw [e1]
  have e2 : F_RideLawsModel_spells_192_l3 63 (χ) 7300710 40 = F_RideLawsModel_spells_192_l3 62 (χ) 7300710 (32) := spl_z (by decide) (by decide)
  rw [e2]
  have e3 : F_RideLawsModel_spells_192_l3 62 (χ) 7300710 32 = F_RideLawsModel_spells_192_l3 61 (χ) 7300710 (24) := spl_z (by decide) (by decide)
  rw [e3]
  have e4 : F_RideLawsModel_spells_192_l3 61 (χ) 7300710 24 = F_RideLawsModel_spells_192_l3 60 (χ) 7300710 (16) := spl_z (by decide) (by decide)
  rw [e4]
  have e5 : F_RideLawsModel_spells_192_l3 60 (χ) 7300710 16 = F_RideLawsModel_spells_192_l3 59 (F_RideLawsModel_lays_192 (χ) 111) 7300710 (8) := spl_n (by decide) (by decide) (by decide)
  rw [e5]
  have e6 : F_RideLawsModel_spells_192_l3 59 (F_RideLawsModel_lays_192 (χ) 111) 7300710 8 = F_RideLawsModel_spells_192_l3 58 (F_RideLawsModel_lays_192 (F_RideLawsModel_lays_192 (χ) 111) 102) 7300710 (0) := spl_n (by decide) (by decide) (by decide)
  rw [e6]
  have e7 : F_RideLawsModel_spells_192_l3 58 (F_RideLawsModel_lays_192 (F_RideLawsModel_lays_192 (χ) 111) 102) 7300710 0 = F_RideLawsModel_spells_192_l3 57 (F_RideLawsModel_lays_192 (F_RideLawsModel_lays_192 (F_RideLawsModel_lays_192 (χ) 111) 102) 102) 7300710 (-8) := spl_n (by decide) (by decide) (by decide)
  rw [e7]
  exact spl_f (by decide)
theorem lit_next (χ : hf_F) : F_RideLawsModel_spells_192 χ 1852143732 = F_RideLawsModel_lays_192 (F_RideLawsModel_lays_192 (F_RideLawsModel_lays_192 (F_RideLawsModel_lays_192 χ 110) 101) 120) 116 := by
  show F_RideLawsModel_spells_192_l3 65 χ 1852143732 56 = _
  have e0 : F_RideLawsModel_spells_192_l3 65 (χ) 1852143732 56 = F_RideLawsModel_spells_192_l3 64 (χ) 1852143732 (48) := spl_z (by decide) (by decide)
  rw [e0]
  have e1 : F_RideLawsModel_spells_192_l3 64 (χ) 1852143732 48 = F_RideLawsModel_spells_192_l3 63 (χ) 1852143732 (40) := spl_z (by decide) (by decide)
  rw [e1]
  have e2 : F_RideLawsModel_spells_192_l3 63 (χ) 1852143732 40 = F_RideLawsModel_spells_192_l3 62 (χ) 1852143732 (32) := spl_z (by decide) (by decide)
  rw [e2]
  have e3 : F_RideLawsModel_spells_192_l3 62 (χ) 1852143732 32 = F_RideLawsModel_spells_192_l3 61 (χ) 1852143732 (24) := spl_z (by decide) (by decide)
  rw [e3]
  have e4 : F_RideLawsModel_spells_192_l3 61 (χ) 1852143732 24 = F_RideLawsModel_spells_192_l3 60 (F_RideLawsModel_lays_192 (χ) 110) 1852143732 (16) := spl_n (by decide) (by decide) (by decide)
  rw [e4]
  have e5 : F_RideLawsModel_spells_192_l3 60 (F_RideLawsModel_lays_192 (χ) 110) 1852143732 16 = F_RideLawsModel_spells_192_l3 59 (F_RideLawsModel_lays_192 (F_RideLawsModel_lays_192 (χ) 110) 101) 1852143732 (8) := spl_n (by decide) (by decide) (by decide)
  rw [e5]
  have e6 : F_RideLawsModel_spells_192_l3 59 (F_RideLawsModel_lays_192 (F_RideLawsModel_lays_192 (χ) 110) 101) 1852143732 8 = F_RideLawsModel_spells_192_l3 58 (F_RideLawsModel_lays_192 (F_RideLawsModel_lays_192 (F_RideLawsModel_lays_192 (χ) 110) 101) 120) 1852143732 (0) := spl_n (by decide) (by decide) (by decide)
  rw [e6]
  have e7 : F_RideLawsModel_spells_192_l3 58 (F_RideLawsModel_lays_192 (F_RideLawsModel_lays_192 (F_RideLawsModel_lays_192 (χ) 110) 101) 120) 1852143732 0 = F_RideLawsModel_spells_192_l3 57 (F_RideLawsModel_lays_192 (F_RideLawsModel_lays_192 (F_RideLawsModel_lays_192 (F_RideLawsModel_lays_192 (χ) 110) 101) 120) 116) 1852143732 (-8) := spl_n (by decide) (by decide) (by decide)
  rw [e7]
  exact spl_f (by decide)
theorem lit_mute (χ : hf_F) : F_RideLawsModel_spells_192 χ 1836414053 = F_RideLawsModel_lays_192 (F_RideLawsModel_lays_192 (F_RideLawsModel_lays_192 (F_RideLawsModel_lays_192 χ 109) 117) 116) 101 := by
  show F_RideLawsModel_spells_192_l3 65 χ 1836414053 56 = _
  have e0 : F_RideLawsModel_spells_192_l3 65 (χ) 1836414053 56 = F_RideLawsModel_spells_192_l3 64 (χ) 1836414053 (48) := spl_z (by decide) (by decide)
  rw [e0]
  have e1 : F_RideLawsModel_spells_192_l3 64 (χ) 1836414053 48 = F_RideLawsModel_spells_192_l3 63 (χ) 1836414053 (40) := spl_z (by decide) (by decide)
  rw [e1]
  have e2 : F_RideLawsModel_spells_192_l3 63 (χ) 1836414053 40 = F_RideLawsModel_spells_192_l3 62 (χ) 1836414053 (32) := spl_z (by decide) (by decide)
  rw [e2]
  have e3 : F_RideLawsModel_spells_192_l3 62 (χ) 1836414053 32 = F_RideLawsModel_spells_192_l3 61 (χ) 1836414053 (24) := spl_z (by decide) (by decide)
  rw [e3]
  have e4 : F_RideLawsModel_spells_192_l3 61 (χ) 1836414053 24 = F_RideLawsModel_spells_192_l3 60 (F_RideLawsModel_lays_192 (χ) 109) 1836414053 (16) := spl_n (by decide) (by decide) (by decide)
  rw [e4]
  have e5 : F_RideLawsModel_spells_192_l3 60 (F_RideLawsModel_lays_192 (χ) 109) 1836414053 16 = F_RideLawsModel_spells_192_l3 59 (F_RideLawsModel_lays_192 (F_RideLawsModel_lays_192 (χ) 109) 117) 1836414053 (8) := spl_n (by decide) (by decide) (by decide)
  rw [e5]
  have e6 : F_RideLawsModel_spells_192_l3 59 (F_RideLawsModel_lays_192 (F_RideLawsModel_lays_192 (χ) 109) 117) 1836414053 8 = F_RideLawsModel_spells_192_l3 58 (F_RideLawsModel_lays_192 (F_RideLawsModel_lays_192 (F_RideLawsModel_lays_192 (χ) 109) 117) 116) 1836414053 (0) := spl_n (by decide) (by decide) (by decide)
  rw [e6]
  have e7 : F_RideLawsModel_spells_192_l3 58 (F_RideLawsModel_lays_192 (F_RideLawsModel_lays_192 (F_RideLawsModel_lays_192 (χ) 109) 117) 116) 1836414053 0 = F_RideLawsModel_spells_192_l3 57 (F_RideLawsModel_lays_192 (F_RideLawsModel_lays_192 (F_RideLawsModel_lays_192 (F_RideLawsModel_lays_192 (χ) 109) 117) 116) 101) 1836414053 (-8) := spl_n (by decide) (by decide) (by decide)
  rw [e7]
  exact spl_f (by decide)
theorem says_e (χ : hf_F) (w : Int) : F_RideLawsModel_says_192 χ w = F_RideLawsModel_spells_192 (F_RideLawsModel_lays_192 χ 32) w := rfl
theorem at_off (φ : hf_F) : F_Line_addText_189_100012 φ = F_Line_addByte_189 (F_Line_addByte_189 (F_Line_addByte_189 (F_Line_addByte_189 φ 32) 111) 102) 102 := rfl
theorem at_on (φ : hf_F) : F_Line_addText_189_100014 φ = F_Line_addByte_189 (F_Line_addByte_189 (F_Line_addByte_189 (F_Line_addByte_189 φ 32) 111) 110) 32 := rfl
theorem at_mute (φ : hf_F) : F_Line_addText_189_100016 φ = F_Line_addByte_189 (F_Line_addByte_189 (F_Line_addByte_189 (F_Line_addByte_189 (F_Line_addByte_189 φ 32) 109) 117) 116) 101 := rfl
theorem at_next (φ : hf_F) : F_Line_addText_189_100018 φ = F_Line_addByte_189 (F_Line_addByte_189 (F_Line_addByte_189 (F_Line_addByte_189 (F_Line_addByte_189 (F_Line_addByte_189 φ 32) 110) 101) 120) 116) 32 := rfl
theorem tx_off {k : Int} {φ0 χ0 φ χ : hf_F} (hl : LNS k φ0 χ0 φ χ) (hk : k + 4 ≤ 32) : LNS (k + 4) φ0 χ0 (F_Line_addText_189_100012 φ) (F_RideLawsModel_says_192 χ 7300710) := by
  rw [at_off, says_e, lit_off]
  have h0 := hl
  have h1 := adb 32 h0 (by omega)
  have h2 := adb 111 h1 (by omega)
  have h3 := adb 102 h2 (by omega)
  have h4 := adb 102 h3 (by omega)
  rw [show k + 4 = k + 1 + 1 + 1 + 1 by omega]
  exact h4
theorem tx_mute {k : Int} {φ0 χ0 φ χ : hf_F} (hl : LNS k φ0 χ0 φ χ) (hk : k + 5 ≤ 32) : LNS (k + 5) φ0 χ0 (F_Line_addText_189_100016 φ) (F_RideLawsModel_says_192 χ 1836414053) := by
  rw [at_mute, says_e, lit_mute]
  have h0 := hl
  have h1 := adb 32 h0 (by omega)
  have h2 := adb 109 h1 (by omega)
  have h3 := adb 117 h2 (by omega)
  have h4 := adb 116 h3 (by omega)
  have h5 := adb 101 h4 (by omega)
  rw [show k + 5 = k + 1 + 1 + 1 + 1 + 1 by omega]
  exact h5
theorem tx_on {k c : Int} {φ0 χ0 φ χ : hf_F} (hv : VW c) (hl : LNS k φ0 χ0 φ χ) (hk : k + 11 ≤ 32) : ∃ z : Int, k ≤ z ∧ z ≤ k + 11 ∧ LNS z φ0 χ0 (F_Line_addName_189 (F_Line_addText_189_100014 φ) c) (F_RideLawsModel_says_192 (F_RideLawsModel_says_192 χ 28526) (G8 c)) := by
  rw [at_on, says_e, says_e, lit_on]
  have h0 := hl
  have h1 := adb 32 h0 (by omega)
  have h2 := adb 111 h1 (by omega)
  have h3 := adb 110 h2 (by omega)
  have h4 := adb 32 h3 (by omega)
  obtain ⟨z, q1, q2, q3⟩ := nam_e hv h4 (by omega)
  exact ⟨z, by omega, by omega, q3⟩
theorem tx_next {k c : Int} {φ0 χ0 φ χ : hf_F} (hv : VW c) (hl : LNS k φ0 χ0 φ χ) (hk : k + 13 ≤ 32) : ∃ z : Int, k ≤ z ∧ z ≤ k + 13 ∧ LNS z φ0 χ0 (F_Line_addName_189 (F_Line_addText_189_100018 φ) c) (F_RideLawsModel_says_192 (F_RideLawsModel_says_192 χ 1852143732) (G8 c)) := by
  rw [at_next, says_e, says_e, lit_next]
  have h0 := hl
  have h1 := adb 32 h0 (by omega)
  have h2 := adb 110 h1 (by omega)
  have h3 := adb 101 h2 (by omega)
  have h4 := adb 120 h3 (by omega)
  have h5 := adb 116 h4 (by omega)
  have h6 := adb 32 h5 (by omega)
  obtain ⟨z, q1, q2, q3⟩ := nam_e hv h6 (by omega)
  exact ⟨z, by omega, by omega, q3⟩
/-- the LINE told last -/
noncomputable def LNR (φ χ : hf_F) : Prop := ∃ k : Int, LN k φ χ
theorem line_x {k : Int} {φ0 χ0 φ χ ψ ξ : hf_F} {v : Int} {r s : Int} (hS : STG 17 φ0 (χ0 194) (χ0 194)) (hN : NMF (fun q => φ0 7 q) (χ0 197) 16 11 (χ0 194 2)) (h0 : 0 ≤ v) (h6 : v < 6) (hc : χ0 194 2 ≤ 8) (hl : LNS k φ0 χ0 φ χ) (hk : k + 13 ≤ 32)
    (e1 : bnp (F_State_nextWord_17 φ v) (fun z10 => (if ¬ z10 = (-1 : Int) then (bnv (F_Line_addText_189_100018 φ) (fun ψ12 => (bnp (F_Plan_nameOf_5 ψ12 2 z10) (fun z13 => (bnv (F_Line_addName_189 ψ12 z13) (fun ψ14 => (ψ14 189 1, ψ14))))))) else (bnv (F_Line_addText_189_100016 φ) (fun ψ16 => (ψ16 189 1, ψ16))))) = (r, ψ))
    (e2 : (if ¬ (χ 194 ((118 + v).toNat)) = 0 then (bnv (F_RideLawsModel_says_192 χ 1852143732) (fun ψ10 => (bnp (F_RideLawsModel_nextWord_192 ψ10 v) (fun z11 => (bnv (F_RideLawsModel_says_192 ψ10 (ψ10 197 ((11 + z11).toNat))) (fun ψ13 => (ψ13 192 28, ψ13))))))) else (bnv (F_RideLawsModel_says_192 χ 1836414053) (fun ψ15 => (ψ15 192 28, ψ15)))) = (s, ξ)) : r = s ∧ LNR ψ ξ := by
  obtain ⟨hln, hf, hg⟩ := hl
  have hS2 : STG 17 φ (χ 194) (χ 194) := by
    have e : χ 194 = χ0 194 := funext (fun q => hg 194 q (by omega) (by omega))
    rw [e]
    obtain ⟨⟨s1, s2, s3, s4⟩, s5⟩ := hS
    have u : ∀ a q : Nat, 17 ≤ a → a ≤ 25 → φ a q = φ0 a q := fun a q q1 q2 => hf a q (by omega) (by omega)
    refine ⟨⟨?_, fun a ha => ?_, fun a ha => ?_, fun a ha => ?_⟩, fun a ha => ?_⟩
    · unfold STF at s1 ⊢
      rw [u 17 0 (by decide) (by decide), u 17 1 (by decide) (by decide), u 17 2 (by decide) (by decide), u 17 3 (by decide) (by decide), u 17 4 (by decide) (by decide), u 17 5 (by decide) (by decide)]
      exact s1
    · rw [show φ (17 + 2) a = φ0 (17 + 2) a from u 19 a (by decide) (by decide)]
      exact s2 a ha
    · have := s3 a ha
      unfold ROL at this ⊢
      rw [show φ (17 + 3) a = φ0 (17 + 3) a from u 20 a (by decide) (by decide), show φ (17 + 4) a = φ0 (17 + 4) a from u 21 a (by decide) (by decide), show φ (17 + 6) a = φ0 (17 + 6) a from u 23 a (by decide) (by decide), show φ (17 + 7) a = φ0 (17 + 7) a from u 24 a (by decide) (by decide)]
      refine ⟨this.1, this.2.1, this.2.2.1, this.2.2.2.1, this.2.2.2.2.1, this.2.2.2.2.2.1, this.2.2.2.2.2.2.1, this.2.2.2.2.2.2.2.1, fun q hq => ?_⟩
      rw [show φ (17 + 5) (6 * a + q) = φ0 (17 + 5) (6 * a + q) from u 22 _ (by decide) (by decide)]
      exact this.2.2.2.2.2.2.2.2 q hq
    · rw [show φ (17 + 8) a = φ0 (17 + 8) a from u 25 a (by decide) (by decide)]
      exact s4 a ha
    · rw [show φ (17 + 1) a = φ0 (17 + 1) a from u 18 a (by decide) (by decide)]
      exact s5 a ha
  have hnw := nxw_e hS2 v h0 h6
  obtain ⟨_, _, _, _, _, _, x3, x5, x4⟩ := hS2.1.2.2.1 v.toNat (by omega)
  have ec2 : χ0 194 2 = χ 194 2 := (hg 194 2 (by decide) (by decide)).symm
  rw [bnp_e hnw] at e1
  rw [show (118 + v).toNat = 118 + v.toNat by omega] at e2
  by_cases c : χ 194 (118 + v.toNat) = 0
  · have hz : F_RideLawsModel_nextWord_192 χ v = -1 := by
      unfold F_RideLawsModel_nextWord_192
      rw [show (118 + v).toNat = 118 + v.toNat by omega, if_neg (show ¬ ¬ χ 194 (118 + v.toNat) = 0 from fun q => q c)]
    rw [hz, if_neg (fun q => q rfl), bnv_e rfl] at e1
    rw [if_neg (fun q => q c), bnv_e rfl] at e2
    have ht := tx_mute ⟨hln, hf, hg⟩ (by omega)
    cases e1
    cases e2
    exact ⟨ht.1.1.trans ht.1.2.1.symm, k + 5, ht.1⟩
  · have hpl : 0 ≤ χ 194 (160 + v.toNat) ∧ χ 194 (160 + v.toNat) < χ 194 (118 + v.toNat) := by omega
    obtain ⟨_, w1, w2⟩ := x4 (χ 194 (160 + v.toNat)).toNat (by omega)
    have hz : F_RideLawsModel_nextWord_192 χ v = χ 194 (124 + 6 * v.toNat + (χ 194 (160 + v.toNat)).toNat) := by
      unfold F_RideLawsModel_nextWord_192
      rw [show (118 + v).toNat = 118 + v.toNat by omega, if_pos (show ¬ χ 194 (118 + v.toNat) = 0 from c), show (160 + v).toNat = 160 + v.toNat by omega, show (124 + 6 * v + χ 194 (160 + v.toNat)).toNat = 124 + 6 * v.toNat + (χ 194 (160 + v.toNat)).toNat by omega]
    rw [hz] at e1
    generalize hwd : χ 194 (124 + 6 * v.toNat + (χ 194 (160 + v.toNat)).toNat) = wd at w1 w2 hz e1
    rw [if_pos (show ¬ wd = -1 by omega), bnv_e rfl, bnp_e rfl, bnv_e rfl] at e1
    rw [if_pos (show ¬ χ 194 (118 + v.toNat) = 0 from c), bnv_e rfl] at e2
    have hsy : FRN χ (F_RideLawsModel_says_192 χ 1852143732) := by
      intro a q q1 q2
      unfold F_RideLawsModel_says_192
      rw [bnv_e rfl, bnv_e (lit_next _)]
      simp only [lay_f q1 q2]
    have hnx : F_RideLawsModel_nextWord_192 (F_RideLawsModel_says_192 χ 1852143732) v = wd := by
      rw [← hz]
      unfold F_RideLawsModel_nextWord_192
      rw [hsy 194 _ (by decide) (by omega), hsy 194 _ (by decide) (by omega), hsy 194 _ (by decide) (by omega)]
    rw [bnp_e hnx, hsy 197 _ (by decide) (by omega), hg 197 _ (by decide) (by omega), bnv_e rfl] at e2
    have hnm : VW (φ0 7 (16 + wd.toNat)) ∧ χ0 197 (11 + wd.toNat) = G8 (φ0 7 (16 + wd.toNat)) := hN wd.toNat (by omega)
    have htx : ∀ q : Nat, F_Line_addText_189_100018 φ 7 q = φ0 7 q := by
      intro q
      rw [← hf 7 q (by decide) (by omega)]
      simp only [F_Line_addText_189_100018, bnv, adb_7]
    have hno : F_Plan_nameOf_5 (F_Line_addText_189_100018 φ) 2 wd = φ0 7 (16 + wd.toNat) := by
      unfold F_Plan_nameOf_5
      rw [htx, show (2 * 8 + wd).toNat = 16 + wd.toNat by omega]
    rw [hno] at e1
    rw [show (11 + wd).toNat = 11 + wd.toNat by omega, hnm.2] at e2
    obtain ⟨z, q1, q2, q3⟩ := tx_next hnm.1 ⟨hln, hf, hg⟩ (by omega)
    cases e1
    cases e2
    exact ⟨q3.1.1.trans q3.1.2.1.symm, z, q3.1⟩
theorem line_rr {φ χ ψ ξ : hf_F} {v r s : Int} (hI : Inv χ) (h : SCR φ χ) (hL : LNR φ χ) (e1 : F_RideLaws_line_0 φ v = (r, ψ)) (e2 : F_RideLawsModel_line_192 χ v = (s, ξ)) : r = s ∧ LNR ψ ξ := by
  have h0 := scr_0 (cb_i hI) h
  have hI0 := inv_0 hI
  have hL0 : LNR φ (hf_up χ 192 0 0) := by
    obtain ⟨k, l1, l2, l3, l4⟩ := hL
    exact ⟨k, l1, l2, l3, l4⟩
  unfold F_RideLaws_line_0 at e1
  unfold F_RideLawsModel_line_192 at e2
  have x97 : ∀ k, χ 197 k = hf_up χ 192 0 0 197 k := fun _ => rfl
  generalize hf_up χ 192 0 0 = χ0 at e2 h0 hI0 hL0 x97
  have hbb := cb_i hI0
  unfold CB at hbb
  have k3 : φ 6 3 = χ0 194 3 := h0.1.1.2.2.2.1
  rw [bnp_e (has_e3 φ v), k3] at e1
  rw [bnp_e (isrider_e _ v)] at e2
  by_cases c : 0 ≤ v ∧ v < χ0 194 3
  · rw [if_pos c, if_pos (by decide), bnp_e rfl, bnv_e rfl] at e1
    rw [if_pos (show 0 ≤ v ∧ v ≤ χ0 194 3 - 1 by omega), if_pos (by decide), bnv_e rfl] at e2
    obtain ⟨_, n1, n2, n3, _⟩ := h0.1.2.1
    have hn1 : VW (φ 7 (24 + v.toNat)) ∧ χ0 197 (19 + v.toNat) = G8 (φ 7 (24 + v.toNat)) := n3 v.toNat (by omega)
    have hl0 : LNS 0 φ χ0 (hf_up φ 189 1 0) (hf_up χ0 192 28 0) := ⟨⟨hf_up_eq, hf_up_eq, by decide, fun j hj => by omega⟩, fun a q q1 q2 => hf_up_ne (fun w => q2 w), fun a q q1 q2 => hf_up_ne (fun w => q2 w)⟩
    have hno : F_Plan_nameOf_5 (hf_up φ 189 1 0) 3 v = φ 7 (24 + v.toNat) := by
      unfold F_Plan_nameOf_5
      rw [show (3 * 8 + v).toNat = 24 + v.toNat by omega]
      exact hf_up_ne (fun w => absurd w.1 (by decide))
    rw [hno] at e1
    rw [show (19 + v).toNat = 19 + v.toNat by omega, x97, hn1.2] at e2
    obtain ⟨z, z1, z2, hl⟩ := nam_e hn1.1 hl0 (by decide)
    generalize F_Line_addName_189 (hf_up φ 189 1 0) (φ 7 (24 + v.toNat)) = φ4 at e1 hl
    generalize F_RideLawsModel_spells_192 (hf_up χ0 192 28 0) (G8 (φ 7 (24 + v.toNat))) = χ4 at e2 hl
    obtain ⟨hln, hf, hg⟩ := hl
    have e20 : φ4 20 v.toNat = χ0 194 (112 + v.toNat) - 1 := (hf 20 _ (by decide) (by omega)).trans (h0.2.1.1.2.2.1 v.toNat (by omega)).1
    have e112 : χ4 194 (112 + v.toNat) = χ0 194 (112 + v.toNat) := hg 194 _ (by decide) (by omega)
    have r112 : 0 ≤ χ0 194 (112 + v.toNat) ∧ χ0 194 (112 + v.toNat) ≤ χ0 194 1 := (h0.2.1.1.2.2.1 v.toNat (by omega)).2.2.2.2.2.1
    rw [e20] at e1
    rw [show (112 + v).toNat = 112 + v.toNat by omega, e112] at e2
    by_cases c2 : χ0 194 (112 + v.toNat) = 0
    · rw [if_neg (show ¬ ¬ χ0 194 (112 + v.toNat) - 1 = -1 by omega), bnv_e rfl] at e1
      rw [if_pos (show χ0 194 (112 + v.toNat) ≤ 0 by omega), bnv_e rfl] at e2
      have ht := tx_off ⟨hln, hf, hg⟩ (by omega)
      exact line_x h0.2.1 n2 c.1 (by omega) (by omega) ht (by omega) e1 e2
    · rw [if_pos (show ¬ χ0 194 (112 + v.toNat) - 1 = -1 by omega), bnv_e rfl, bnp_e rfl, bnv_e rfl] at e1
      rw [if_neg (show ¬ χ0 194 (112 + v.toNat) ≤ 0 by omega), bnv_e rfl] at e2
      have hn2 : VW (φ 7 (8 + (χ0 194 (112 + v.toNat) - 1).toNat)) ∧ χ0 197 (3 + (χ0 194 (112 + v.toNat) - 1).toNat) = G8 (φ 7 (8 + (χ0 194 (112 + v.toNat) - 1).toNat)) := n1 (χ0 194 (112 + v.toNat) - 1).toNat (by omega)
      have hsy : FRN χ4 (F_RideLawsModel_says_192 χ4 28526) := by
        intro a q q1 q2
        unfold F_RideLawsModel_says_192
        rw [bnv_e rfl, bnv_e (lit_on _)]
        simp only [lay_f q1 q2]
      have htx : ∀ q : Nat, F_Line_addText_189_100014 φ4 7 q = φ 7 q := by
        intro q
        rw [← hf 7 q (by decide) (by omega)]
        simp only [F_Line_addText_189_100014, bnv, adb_7]
      have hno2 : F_Plan_nameOf_5 (F_Line_addText_189_100014 φ4) 1 (χ0 194 (112 + v.toNat) - 1) = φ 7 (8 + (χ0 194 (112 + v.toNat) - 1).toNat) := by
        unfold F_Plan_nameOf_5
        rw [htx, show (1 * 8 + (χ0 194 (112 + v.toNat) - 1)).toNat = 8 + (χ0 194 (112 + v.toNat) - 1).toNat by omega]
      rw [hno2] at e1
      rw [hsy 194 _ (by decide) (by omega), e112, hsy 197 _ (by decide) (by omega), hg 197 _ (by decide) (by omega), show (3 + χ0 194 (112 + v.toNat) - 1).toNat = 3 + (χ0 194 (112 + v.toNat) - 1).toNat by omega, hn2.2, bnv_e rfl] at e2
      obtain ⟨z5, z6, z7, hl5⟩ := tx_on hn2.1 ⟨hln, hf, hg⟩ (by omega)
      exact line_x h0.2.1 n2 c.1 (by omega) (by omega) hl5 (by omega) e1 e2
  · rw [if_neg c, if_neg (fun q => q rfl)] at e1
    rw [if_neg (show ¬ (0 ≤ v ∧ v ≤ χ0 194 3 - 1) by omega), if_neg (fun q => q rfl)] at e2
    cases e1
    cases e2
    exact ⟨rfl, hL0⟩
theorem byte_q {φ χ ξ : hf_F} {v r s : Int} (h : LNR φ χ) (e1 : F_RideLaws_byteAt_0 φ v = r) (e2 : F_RideLawsModel_byteAt_192 χ v = (s, ξ)) : r = s := by
  obtain ⟨k, l1, l2, l3, l4⟩ := h
  unfold F_RideLaws_byteAt_0 at e1
  unfold F_RideLawsModel_byteAt_192 at e2
  rw [bnp_e (isin_e _ v _ _), l2] at e2
  rw [l1] at e1
  by_cases c : 0 ≤ v ∧ v < k
  · rw [if_neg (show ¬ v < 0 by omega), if_neg (show ¬ k ≤ v by omega)] at e1
    rw [if_pos (show 0 ≤ v ∧ v ≤ k - 1 by omega), if_neg (by decide)] at e2
    cases e2
    rw [← e1]
    exact l4 v.toNat (by omega)
  · rw [if_neg (show ¬ (0 ≤ v ∧ v ≤ k - 1) by omega), if_pos rfl] at e2
    cases e2
    by_cases c1 : v < 0
    · rw [if_pos c1] at e1; exact e1.symm
    · rw [if_neg c1, if_pos (show k ≤ v by omega)] at e1; exact e1.symm
theorem lnr_f {φ χ φ' χ' : hf_F} (h : LNR φ χ) (h1 : φ' 189 1 = φ 189 1) (h2 : ∀ k, φ' 190 k = φ 190 k) (h3 : χ' 192 28 = χ 192 28) (h4 : ∀ k, χ' 201 k = χ 201 k) : LNR φ' χ' := by
  obtain ⟨k, l1, l2, l3, l4⟩ := h
  exact ⟨k, h1.trans l1, h3.trans l2, l3, fun j hj => by rw [h2, h4]; exact l4 j hj⟩
