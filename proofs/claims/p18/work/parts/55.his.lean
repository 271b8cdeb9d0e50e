/-! acts kept and undone -/
noncomputable def SU (m : Nat → Int) : Int := m 166 + m 167 + m 168 + m 169 + m 170 + m 171
noncomputable def TKB (m : Nat → Int) : Prop := 0 ≤ m 99 ∧ m 99 ≤ 1000 ∧ (∀ k : Nat, 166 ≤ k → k < 172 → 0 ≤ m k) ∧ SU m ≤ 8 * m 99
theorem tkb_g {m m' : Nat → Int} (h : TKB m) (e : ∀ k : Nat, k = 99 ∨ (166 ≤ k ∧ k < 172) → m' k = m k) : TKB m' := by
  unfold TKB SU at h ⊢
  obtain ⟨h1, h2, h3, h4⟩ := h
  rw [e 99 (by omega), e 166 (by omega), e 167 (by omega), e 168 (by omega), e 169 (by omega), e 170 (by omega), e 171 (by omega)]
  exact ⟨h1, h2, fun k a b => by rw [e k (Or.inr ⟨a, b⟩)]; exact h3 k a b, h4⟩
noncomputable def HIS (φ χ : hf_F) : Prop := φ 108 1 = χ 192 22 ∧ (0 ≤ χ 192 22 ∧ χ 192 22 ≤ 8) ∧ (∀ i : Nat, i < 8 → Bf1 (φ 109 i)) ∧ (∀ i j : Nat, i < 8 → j < 8 → φ 109 i = φ 109 j → i = j) ∧
  ∀ j : Nat, (j : Int) < χ 192 22 → STG (φ 109 j).toNat φ (χ 194) (fun k => χ 199 (81 * j + (k - 99))) ∧ TKB (fun k => χ 199 (81 * j + (k - 99)))
noncomputable def KCH (φ : hf_F) : hf_F := (if φ 109 (φ 108 1).toNat = 110 then (bnv (F_State_copyFrom_110_17 φ) (fun ψ3 => hf_up ψ3 108 1 (ψ3 108 1 + 1))) else (if φ 109 (φ 108 1).toNat = 119 then (bnv (F_State_copyFrom_119_17 φ) (fun ψ3 => hf_up ψ3 108 1 (ψ3 108 1 + 1))) else (if φ 109 (φ 108 1).toNat = 128 then (bnv (F_State_copyFrom_128_17 φ) (fun ψ3 => hf_up ψ3 108 1 (ψ3 108 1 + 1))) else (if φ 109 (φ 108 1).toNat = 137 then (bnv (F_State_copyFrom_137_17 φ) (fun ψ3 => hf_up ψ3 108 1 (ψ3 108 1 + 1))) else (if φ 109 (φ 108 1).toNat = 146 then (bnv (F_State_copyFrom_146_17 φ) (fun ψ3 => hf_up ψ3 108 1 (ψ3 108 1 + 1))) else (if φ 109 (φ 108 1).toNat = 155 then (bnv (F_State_copyFrom_155_17 φ) (fun ψ3 => hf_up ψ3 108 1 (ψ3 108 1 + 1))) else (if φ 109 (φ 108 1).toNat = 164 then (bnv (F_State_copyFrom_164_17 φ) (fun ψ3 => hf_up ψ3 108 1 (ψ3 108 1 + 1))) else (bnv (F_State_copyFrom_173_17 φ) (fun ψ3 => hf_up ψ3 108 1 (ψ3 108 1 + 1))))))))))
noncomputable def GCH (φ : hf_F) : Int × hf_F := (if φ 109 (φ 108 1 - 1).toNat = 110 then (bnv (F_State_copyFrom_17_110 (hf_up φ 108 1 (φ 108 1 - 1))) (fun ψ3 => ((1 : Int), ψ3))) else (if φ 109 (φ 108 1 - 1).toNat = 119 then (bnv (F_State_copyFrom_17_119 (hf_up φ 108 1 (φ 108 1 - 1))) (fun ψ3 => ((1 : Int), ψ3))) else (if φ 109 (φ 108 1 - 1).toNat = 128 then (bnv (F_State_copyFrom_17_128 (hf_up φ 108 1 (φ 108 1 - 1))) (fun ψ3 => ((1 : Int), ψ3))) else (if φ 109 (φ 108 1 - 1).toNat = 137 then (bnv (F_State_copyFrom_17_137 (hf_up φ 108 1 (φ 108 1 - 1))) (fun ψ3 => ((1 : Int), ψ3))) else (if φ 109 (φ 108 1 - 1).toNat = 146 then (bnv (F_State_copyFrom_17_146 (hf_up φ 108 1 (φ 108 1 - 1))) (fun ψ3 => ((1 : Int), ψ3))) else (if φ 109 (φ 108 1 - 1).toNat = 155 then (bnv (F_State_copyFrom_17_155 (hf_up φ 108 1 (φ 108 1 - 1))) (fun ψ3 => ((1 : Int), ψ3))) else (if φ 109 (φ 108 1 - 1).toNat = 164 then (bnv (F_State_copyFrom_17_164 (hf_up φ 108 1 (φ 108 1 - 1))) (fun ψ3 => ((1 : Int), ψ3))) else (bnv (F_State_copyFrom_17_173 (hf_up φ 108 1 (φ 108 1 - 1))) (fun ψ3 => ((1 : Int), ψ3))))))))))
theorem keep_e (φ : hf_F) : F_History_keep_108_17 φ = if φ 108 1 < 8 then KCH φ else KCH (F_History_dropOldest_108 φ) := rfl
theorem give_e (φ : hf_F) : F_History_giveBack_108_17 φ = if 0 < φ 108 1 then GCH φ else (0, φ) := rfl
theorem kch_f {φ : hf_F} (h : Bf1 (φ 109 (φ 108 1).toNat)) : ∃ (b : Nat) (ψ : hf_F), φ 109 (φ 108 1).toNat = (b : Int) ∧ CPY b 17 φ ψ ∧ KCH φ = hf_up ψ 108 1 (ψ 108 1 + 1) := by
  unfold KCH
  unfold Bf1 at h
  rcases h with h | h | h | h | h | h | h | h
  · rw [if_pos h]
    exact ⟨110, _, h, cpy_110_17 φ, rfl⟩
  · rw [if_neg (by rw [h]; decide), if_pos h]
    exact ⟨119, _, h, cpy_119_17 φ, rfl⟩
  · rw [if_neg (by rw [h]; decide), if_neg (by rw [h]; decide), if_pos h]
    exact ⟨128, _, h, cpy_128_17 φ, rfl⟩
  · rw [if_neg (by rw [h]; decide), if_neg (by rw [h]; decide), if_neg (by rw [h]; decide), if_pos h]
    exact ⟨137, _, h, cpy_137_17 φ, rfl⟩
  · rw [if_neg (by rw [h]; decide), if_neg (by rw [h]; decide), if_neg (by rw [h]; decide), if_neg (by rw [h]; decide), if_pos h]
    exact ⟨146, _, h, cpy_146_17 φ, rfl⟩
  · rw [if_neg (by rw [h]; decide), if_neg (by rw [h]; decide), if_neg (by rw [h]; decide), if_neg (by rw [h]; decide), if_neg (by rw [h]; decide), if_pos h]
    exact ⟨155, _, h, cpy_155_17 φ, rfl⟩
  · rw [if_neg (by rw [h]; decide), if_neg (by rw [h]; decide), if_neg (by rw [h]; decide), if_neg (by rw [h]; decide), if_neg (by rw [h]; decide), if_neg (by rw [h]; decide), if_pos h]
    exact ⟨164, _, h, cpy_164_17 φ, rfl⟩
  · rw [if_neg (by rw [h]; decide), if_neg (by rw [h]; decide), if_neg (by rw [h]; decide), if_neg (by rw [h]; decide), if_neg (by rw [h]; decide), if_neg (by rw [h]; decide), if_neg (by rw [h]; decide)]
    exact ⟨173, _, h, cpy_173_17 φ, rfl⟩
theorem gch_f {φ : hf_F} (h : Bf1 (φ 109 (φ 108 1 - 1).toNat)) : ∃ (b : Nat) (ψ : hf_F), φ 109 (φ 108 1 - 1).toNat = (b : Int) ∧ CPY 17 b (hf_up φ 108 1 (φ 108 1 - 1)) ψ ∧ GCH φ = (1, ψ) := by
  unfold GCH
  unfold Bf1 at h
  rcases h with h | h | h | h | h | h | h | h
  · rw [if_pos h]
    exact ⟨110, _, h, cpy_17_110 _, rfl⟩
  · rw [if_neg (by rw [h]; decide), if_pos h]
    exact ⟨119, _, h, cpy_17_119 _, rfl⟩
  · rw [if_neg (by rw [h]; decide), if_neg (by rw [h]; decide), if_pos h]
    exact ⟨128, _, h, cpy_17_128 _, rfl⟩
  · rw [if_neg (by rw [h]; decide), if_neg (by rw [h]; decide), if_neg (by rw [h]; decide), if_pos h]
    exact ⟨137, _, h, cpy_17_137 _, rfl⟩
  · rw [if_neg (by rw [h]; decide), if_neg (by rw [h]; decide), if_neg (by rw [h]; decide), if_neg (by rw [h]; decide), if_pos h]
    exact ⟨146, _, h, cpy_17_146 _, rfl⟩
  · rw [if_neg (by rw [h]; decide), if_neg (by rw [h]; decide), if_neg (by rw [h]; decide), if_neg (by rw [h]; decide), if_neg (by rw [h]; decide), if_pos h]
    exact ⟨155, _, h, cpy_17_155 _, rfl⟩
  · rw [if_neg (by rw [h]; decide), if_neg (by rw [h]; decide), if_neg (by rw [h]; decide), if_neg (by rw [h]; decide), if_neg (by rw [h]; decide), if_neg (by rw [h]; decide), if_pos h]
    exact ⟨164, _, h, cpy_17_164 _, rfl⟩
  · rw [if_neg (by rw [h]; decide), if_neg (by rw [h]; decide), if_neg (by rw [h]; decide), if_neg (by rw [h]; decide), if_neg (by rw [h]; decide), if_neg (by rw [h]; decide), if_neg (by rw [h]; decide)]
    exact ⟨173, _, h, cpy_17_173 _, rfl⟩
theorem bf_sep {v w : Int} (h1 : Bf1 v) (h2 : Bf1 w) (h : ¬ v = w) : v + 9 ≤ w ∨ w + 9 ≤ v := by
  unfold Bf1 at h1 h2
  omega
theorem bf_rng {v : Int} (h : Bf1 v) : 110 ≤ v ∧ v ≤ 173 := by
  unfold Bf1 at h
  omega
noncomputable def APP (χ : hf_F) : hf_F := hf_up (hf_mp χ 199 (81 * χ 192 22).toNat 81 (fun j => χ 194 (99 + j))) 192 22 (χ 192 22 + 1)
/-- the ring of a seat -/
noncomputable def SRB (m : Nat → Int) : Prop := ∀ i : Nat, (i : Int) < m 1 → 0 ≤ m (11 + i) ∧ m (11 + i) ≤ 2
theorem srb_s {c : Nat} {φ : hf_F} {m : Nat → Int} (hb : CB m) (h : SEG c φ m) : SRB m := fun i hi => by
  unfold CB at hb
  obtain ⟨_, g, g1, g2, _⟩ := h i hi
  omega
theorem app_rel {φ χ : hf_F} (hb : CB (χ 194)) (hr : SRB (χ 194)) (h : HIS φ χ) (hs : STG 17 φ (χ 194) (χ 194)) (ht : TKB (χ 194)) (hn : χ 192 22 < 8) :
    HIS (KCH φ) (APP χ) ∧ (∀ a k : Nat, ¬ (a = 108 ∧ k = 1) → ¬ (110 ≤ a ∧ a ≤ 181) → KCH φ a k = φ a k) ∧ (∀ a k : Nat, ¬ a = 199 → ¬ (a = 192 ∧ k = 22) → APP χ a k = χ a k) ∧ APP χ 192 22 = χ 192 22 + 1 := by
  obtain ⟨h1, h2, h3, h4, h5⟩ := h
  have hbf := h3 (φ 108 1).toNat (by omega)
  obtain ⟨b, ψ, k1, k2, k3⟩ := kch_f hbf
  have hbr := bf_rng hbf
  have kO : ∀ a k : Nat, ¬ (b ≤ a ∧ a ≤ b + 8) → ψ a k = φ a k := k2.2.2.2.2.2.2.2.2.2
  rw [k3]
  have p1 : ψ 108 1 = φ 108 1 := kO 108 1 (by omega)
  have kC : ∀ a k : Nat, ¬ (a = 108 ∧ k = 1) → hf_up ψ 108 1 (ψ 108 1 + 1) a k = ψ a k := fun a k q => hf_up_ne q
  have mO : ∀ a k : Nat, ¬ a = 199 → ¬ (a = 192 ∧ k = 22) → APP χ a k = χ a k := fun a k q1 q2 => by
    unfold APP
    rw [hf_up_ne q2, hf_mp_ne (fun w => q1 w.1)]
  have m22 : APP χ 192 22 = χ 192 22 + 1 := hf_up_eq
  refine ⟨⟨?_, ?_, fun i hi => ?_, fun i j hi hj hij => ?_, fun j hj => ?_⟩, fun a k q1 q2 => (kC a k q1).trans (kO a k (by omega)), mO, m22⟩
  · rw [hf_up_eq, m22, p1, h1]
  · rw [m22]; omega
  · rw [kC 109 i (by omega), kO 109 i (by omega)]; exact h3 i hi
  · rw [kC 109 i (by omega), kO 109 i (by omega), kC 109 j (by omega), kO 109 j (by omega)] at hij
    exact h4 i j hi hj hij
  · rw [m22] at hj
    rw [kC 109 j (by omega), kO 109 j (by omega)]
    have e194 : ∀ k, APP χ 194 k = χ 194 k := fun k => mO 194 k (by omega) (by omega)
    by_cases hc : (j : Int) < χ 192 22
    · obtain ⟨a1, a2⟩ := h5 j hc
      have hne : ¬ φ 109 j = (b : Int) := fun w => by
        have := h4 j (φ 108 1).toNat (by omega) (by omega) (w.trans k1.symm)
        omega
      have hbj := h3 j (by omega)
      have hsep := bf_sep hbj hbf (by rw [k1]; exact hne)
      rw [k1] at hsep
      have hjr := bf_rng hbj
      have e199 : ∀ t : Nat, t < 81 → APP χ 199 (81 * j + t) = χ 199 (81 * j + t) := fun t ht2 => by
        unfold APP
        rw [hf_up_ne (fun w => absurd w.1 (by decide)), hf_mp_ne (fun w => by omega)]
      refine ⟨stg_o a1 hb (fun a k q => (kC a k (by omega)).trans (kO a k (by omega))) (fun k _ => e194 k) (fun k q1 q2 => e199 (k - 99) (by omega)) hr, ?_⟩
      exact tkb_g a2 (fun k q => e199 (k - 99) (by omega))
    · have hjn : j = (φ 108 1).toNat := by omega
      have hj2 : φ 109 j = (b : Int) := by rw [hjn]; exact k1
      rw [hj2]
      have e199 : ∀ t : Nat, t < 81 → APP χ 199 (81 * j + t) = χ 194 (99 + t) := fun t ht2 => by
        unfold APP
        rw [hf_up_ne (fun w => absurd w.1 (by decide)), hf_mp_in (by omega) (by omega), show 99 + (81 * j + t - (81 * χ 192 22).toNat) = 99 + t by omega]
      unfold CB at hb
      refine ⟨stg_o (stg_c (by omega) k2 hs) hb (fun a k q => kC a k (by omega)) (fun k _ => e194 k) (fun k q1 q2 => ?_) hr, ?_⟩
      · show APP χ 199 (81 * j + (k - 99)) = χ 194 k
        rw [e199 (k - 99) (by omega), show 99 + (k - 99) = k by omega]
      · refine tkb_g ht (fun k q => ?_)
        show APP χ 199 (81 * j + (k - 99)) = χ 194 k
        rw [e199 (k - 99) (by omega), show 99 + (k - 99) = k by omega]
theorem drop_f : ∀ (n : Nat) (φ : hf_F) (v l : Int), 8 - l < n → 1 ≤ l → l ≤ 8 → (∀ j : Nat, (j : Int) + 1 < l → F_History_dropOldest_108_l9 n φ v l 109 j = φ 109 j) ∧ (∀ j : Nat, l ≤ (j : Int) + 1 → j < 7 → F_History_dropOldest_108_l9 n φ v l 109 j = φ 109 (j + 1)) ∧ F_History_dropOldest_108_l9 n φ v l 109 7 = v ∧ F_History_dropOldest_108_l9 n φ v l 108 1 = 7 ∧
    ∀ a k : Nat, ¬ a = 109 → ¬ (a = 108 ∧ k = 1) → F_History_dropOldest_108_l9 n φ v l a k = φ a k := by
  intro n
  induction n with
  | zero => intro φ v l h1 h2 h3; omega
  | succ n ih =>
    intro φ v l h1 h2 h3
    rw [F_History_dropOldest_108_l9_s]
    by_cases c : 8 ≤ l
    · rw [if_pos c]
      refine ⟨fun j hj => ?_, fun j hj hj2 => by omega, rfl, rfl, fun a k q1 q2 => ?_⟩
      · rw [hf_up_ne (fun w => absurd w.1 (by decide)), hf_up_ne (fun w => by omega)]
      · rw [hf_up_ne q2, hf_up_ne (fun w => q1 w.1)]
    · rw [if_neg c]
      obtain ⟨i1, i2, i3, i4, i5⟩ := ih (hf_up φ 109 (l - 1).toNat (φ 109 l.toNat)) v (l + 1) (by omega) (by omega) (by omega)
      refine ⟨fun j hj => ?_, fun j hj hj2 => ?_, i3, i4, fun a k q1 q2 => ?_⟩
      · rw [i1 j (by omega), hf_up_ne (fun w => by omega)]
      · by_cases he : (j : Int) + 1 = l
        · rw [i1 j (by omega), show j = (l - 1).toNat by omega, hf_up_eq, show (l - 1).toNat + 1 = l.toNat by omega]
        · rw [i2 j (by omega) hj2, hf_up_ne (fun w => by omega)]
      · rw [i5 a k q1 q2, hf_up_ne (fun w => q1 w.1)]
theorem keep_rel {φ χ : hf_F} (hb : CB (χ 194)) (hr : SRB (χ 194)) (h : HIS φ χ) (hs : STG 17 φ (χ 194) (χ 194)) (ht : TKB (χ 194)) :
    HIS (F_History_keep_108_17 φ) (F_RideLawsModel_keep_192 χ) ∧ (∀ a k : Nat, ¬ a = 109 → ¬ (a = 108 ∧ k = 1) → ¬ (110 ≤ a ∧ a ≤ 181) → F_History_keep_108_17 φ a k = φ a k) ∧ (∀ a k : Nat, ¬ a = 199 → ¬ (a = 192 ∧ k = 22) → F_RideLawsModel_keep_192 χ a k = χ a k) ∧ 1 ≤ F_RideLawsModel_keep_192 χ 192 22 := by
  rw [keep_e]
  obtain ⟨h1, h2, h3, h4, h5⟩ := h
  by_cases c : χ 192 22 < 8
  · have e : F_RideLawsModel_keep_192 χ = APP χ := by
      unfold F_RideLawsModel_keep_192
      rw [if_pos (by omega)]
      rfl
    rw [if_pos (by omega), e]
    obtain ⟨a1, a2, a3, a4⟩ := app_rel hb hr ⟨h1, h2, h3, h4, h5⟩ hs ht c
    exact ⟨a1, fun a k q1 q2 q3 => a2 a k q2 q3, a3, by omega⟩
  · have hn : χ 192 22 = 8 := by omega
    have e : F_RideLawsModel_keep_192 χ = APP (hf_up (hf_mp χ 199 0 567 (fun j => χ 199 (81 + j))) 192 22 7) := by
      unfold F_RideLawsModel_keep_192
      rw [if_neg (by omega)]
      rfl
    rw [if_neg (by omega), e]
    obtain ⟨i1, i2, i3, i4, i5⟩ := drop_f 8 φ (φ 109 0) 1 (by decide) (by decide) (by decide)
    have hd : F_History_dropOldest_108 φ = F_History_dropOldest_108_l9 8 φ (φ 109 0) 1 := rfl
    rw [hd]
    generalize F_History_dropOldest_108_l9 8 φ (φ 109 0) 1 = ψ at i1 i2 i3 i4 i5
    have i2' : ∀ j : Nat, j < 7 → ψ 109 j = φ 109 (j + 1) := fun j hj => i2 j (by omega) hj
    have mO : ∀ a k : Nat, ¬ a = 199 → ¬ (a = 192 ∧ k = 22) → hf_up (hf_mp χ 199 0 567 (fun j => χ 199 (81 + j))) 192 22 7 a k = χ a k := fun a k q1 q2 => by
      rw [hf_up_ne q2, hf_mp_ne (fun w => q1 w.1)]
    have m22 : hf_up (hf_mp χ 199 0 567 (fun j => χ 199 (81 + j))) 192 22 7 192 22 = 7 := rfl
    have m199 : ∀ k : Nat, k < 567 → hf_up (hf_mp χ 199 0 567 (fun j => χ 199 (81 + j))) 192 22 7 199 k = χ 199 (81 + k) := fun k hk => by
      rw [hf_up_ne (fun w => absurd w.1 (by decide)), hf_mp_in (by omega) (by omega)]
      rfl
    have m194 : hf_up (hf_mp χ 199 0 567 (fun j => χ 199 (81 + j))) 192 22 7 194 = χ 194 := funext (fun k => mO 194 k (by omega) (by omega))
    generalize hf_up (hf_mp χ 199 0 567 (fun j => χ 199 (81 + j))) 192 22 7 = χ' at mO m22 m199 m194
    have hHIS : HIS ψ χ' := by
      refine ⟨by rw [i4, m22], by rw [m22]; decide, fun i hi => ?_, fun i j hi hj hij => ?_, fun j hj => ?_⟩
      · by_cases h7 : i = 7
        · rw [h7, i3]; exact h3 0 (by decide)
        · rw [i2' i (by omega)]; exact h3 (i + 1) (by omega)
      · by_cases a7 : i = 7
        · by_cases b7 : j = 7
          · omega
          · rw [a7, i3, i2' j (by omega)] at hij
            have := h4 0 (j + 1) (by decide) (by omega) hij
            omega
        · by_cases b7 : j = 7
          · rw [b7, i3, i2' i (by omega)] at hij
            have := h4 (i + 1) 0 (by omega) (by decide) hij
            omega
          · rw [i2' i (by omega), i2' j (by omega)] at hij
            have := h4 (i + 1) (j + 1) (by omega) (by omega) hij
            omega
      · rw [m22] at hj
        rw [i2' j (by omega), m194]
        obtain ⟨a1, a2⟩ := h5 (j + 1) (by omega)
        have hjr := bf_rng (h3 (j + 1) (by omega))
        have hq : ∀ t : Nat, t < 81 → χ' 199 (81 * j + t) = χ 199 (81 * (j + 1) + t) := fun t ht2 => by
          rw [m199 (81 * j + t) (by omega), show 81 + (81 * j + t) = 81 * (j + 1) + t by omega]
        refine ⟨stg_o a1 hb (fun a k q => i5 a k (by omega) (by omega)) (fun _ _ => rfl) (fun k q1 q2 => hq (k - 99) (by omega)) hr, ?_⟩
        exact tkb_g a2 (fun k q => hq (k - 99) (by omega))
    have hs' : STG 17 ψ (χ' 194) (χ' 194) := by
      rw [m194]
      exact stg_o hs hb (fun a k q => i5 a k (by omega) (by omega)) (fun _ _ => rfl) (fun _ _ _ => rfl) hr
    obtain ⟨a1, a2, a3, a4⟩ := app_rel (φ := ψ) (χ := χ') (by rw [m194]; exact hb) (by rw [m194]; exact hr) hHIS hs' (by rw [m194]; exact ht) (by rw [m22]; decide)
    exact ⟨a1, fun a k q1 q2 q3 => (a2 a k q2 q3).trans (i5 a k q1 q2), fun a k q1 q2 => (a3 a k q1 q2).trans (mO a k q1 q2), by rw [a4, m22]; decide⟩
theorem undo_rel {φ χ ψ ξ : hf_F} {r s : Int} (hb : CB (χ 194)) (hr : SRB (χ 194)) (h : HIS φ χ) (e1 : F_RideLaws_undo_0 φ = (r, ψ)) (e2 : F_RideLawsModel_undo_192 χ = (s, ξ)) :
    r = s ∧ HIS ψ ξ ∧ (∀ a k : Nat, ¬ (a = 108 ∧ k = 1) → ¬ (17 ≤ a ∧ a ≤ 25) → ψ a k = φ a k) ∧ (∀ a k : Nat, ¬ (a = 194 ∧ 99 ≤ k ∧ k < 180) → ¬ (a = 192 ∧ (k = 22 ∨ k = 0)) → ξ a k = χ a k) ∧ ((ψ = φ ∧ ∀ k, ξ 194 k = χ 194 k) ∨ (STG 17 ψ (χ 194) (ξ 194) ∧ TKB (ξ 194))) := by
  obtain ⟨h1, h2, h3, h4, h5⟩ := h
  unfold F_RideLaws_undo_0 at e1
  unfold F_RideLawsModel_undo_192 at e2
  by_cases c : χ 192 22 = 0
  · have hg : F_History_giveBack_108_17 φ = (0, φ) := by rw [give_e, if_neg (by omega)]
    rw [bnd_e hg, if_neg (fun q => q rfl)] at e1
    rw [if_neg (fun q => q c)] at e2
    cases e1
    cases e2
    have mO : ∀ a k : Nat, ¬ (a = 192 ∧ k = 0) → hf_up χ 192 0 0 a k = χ a k := fun a k q => hf_up_ne q
    refine ⟨rfl, ⟨h1, h2, h3, h4, fun j hj => ?_⟩, fun _ _ _ _ => rfl, fun a k q1 q2 => mO a k (fun w => q2 ⟨w.1, Or.inr w.2⟩), Or.inl ⟨rfl, fun k => rfl⟩⟩
    exact h5 j hj
  · obtain ⟨b, ψ1, k1, k2, k3⟩ := gch_f (h3 (φ 108 1 - 1).toNat (by omega))
    have hg : F_History_giveBack_108_17 φ = (1, ψ1) := by rw [give_e, if_pos (by omega), k3]
    rw [bnd_e hg, if_pos (by decide)] at e1
    rw [if_pos c] at e2
    have hbf := h3 (φ 108 1 - 1).toNat (by omega)
    have hbr := bf_rng hbf
    have kO : ∀ a k : Nat, ¬ (17 ≤ a ∧ a ≤ 25) → ψ1 a k = hf_up φ 108 1 (φ 108 1 - 1) a k := k2.2.2.2.2.2.2.2.2.2
    have kC : ∀ a k : Nat, ¬ (a = 108 ∧ k = 1) → hf_up φ 108 1 (φ 108 1 - 1) a k = φ a k := fun a k q => hf_up_ne q
    have p1 : ψ1 108 1 = φ 108 1 - 1 := (kO 108 1 (by omega)).trans hf_up_eq
    have kA : ∀ a k : Nat, ¬ (a = 108 ∧ k = 1) → ¬ (17 ≤ a ∧ a ≤ 25) → ψ1 a k = φ a k := fun a k q1 q2 => (kO a k q2).trans (kC a k q1)
    have eo : (81 * hf_up (hf_up χ 192 0 0) 192 22 (χ 192 22 - 1) 192 22).toNat = 81 * (χ 192 22 - 1).toNat := by
      rw [hf_up_eq]; omega
    rw [eo] at e2
    have mO : ∀ a k : Nat, ¬ (a = 194 ∧ 99 ≤ k ∧ k < 180) → ¬ (a = 192 ∧ (k = 22 ∨ k = 0)) → hf_mp (hf_up (hf_up χ 192 0 0) 192 22 (χ 192 22 - 1)) 194 99 81 (fun j => hf_up (hf_up χ 192 0 0) 192 22 (χ 192 22 - 1) 199 (81 * (χ 192 22 - 1).toNat + j)) a k = χ a k := fun a k q1 q2 => by
      rw [hf_mp_ne (fun w => q1 (by omega)), hf_up_ne (fun w => q2 (by omega)), hf_up_ne (fun w => q2 (by omega))]
    have m22 : hf_mp (hf_up (hf_up χ 192 0 0) 192 22 (χ 192 22 - 1)) 194 99 81 (fun j => hf_up (hf_up χ 192 0 0) 192 22 (χ 192 22 - 1) 199 (81 * (χ 192 22 - 1).toNat + j)) 192 22 = χ 192 22 - 1 := by
      rw [hf_mp_ne (fun w => absurd w.1 (by decide)), hf_up_eq]
    have mI : ∀ t : Nat, t < 81 → hf_mp (hf_up (hf_up χ 192 0 0) 192 22 (χ 192 22 - 1)) 194 99 81 (fun j => hf_up (hf_up χ 192 0 0) 192 22 (χ 192 22 - 1) 199 (81 * (χ 192 22 - 1).toNat + j)) 194 (99 + t) = χ 199 (81 * (χ 192 22 - 1).toNat + t) := fun t ht => by
      rw [hf_mp_in (by omega) (by omega), show 99 + t - 99 = t by omega]
      rfl
    generalize hf_mp (hf_up (hf_up χ 192 0 0) 192 22 (χ 192 22 - 1)) 194 99 81 (fun j => hf_up (hf_up χ 192 0 0) 192 22 (χ 192 22 - 1) 199 (81 * (χ 192 22 - 1).toNat + j)) = ξ1 at e2 mO m22 mI
    cases e1
    cases e2
    obtain ⟨a1, a2⟩ := h5 (χ 192 22 - 1).toNat (by omega)
    have hb110 : 110 ≤ b ∧ b ≤ 173 := by rw [k1] at hbr; omega
    rw [h1] at k1
    rw [k1] at a1
    refine ⟨by rw [p1, h1], ⟨?_, ?_, fun i hi => ?_, fun i j hi hj hij => ?_, fun j hj => ?_⟩, kA, mO, Or.inr ⟨?_, ?_⟩⟩
    · rw [p1, m22, h1]
    · rw [m22]; omega
    · rw [kA 109 i (by omega) (by omega)]; exact h3 i hi
    · rw [kA 109 i (by omega) (by omega), kA 109 j (by omega) (by omega)] at hij
      exact h4 i j hi hj hij
    · rw [m22] at hj
      rw [kA 109 j (by omega) (by omega)]
      obtain ⟨b1, b2⟩ := h5 j (by omega)
      have hjr := bf_rng (h3 j (by omega))
      have e199 : ∀ k, ξ 199 k = χ 199 k := fun k => mO 199 k (by omega) (by omega)
      refine ⟨stg_o b1 hb (fun a k q => kA a k (by omega) (by omega)) (fun k hk => mO 194 k (by omega) (by omega)) (fun k q1 q2 => e199 _) hr, ?_⟩
      exact tkb_g b2 (fun k q => e199 _)
    · unfold CB at hb
      refine stg_o (stg_c (c := χ 194) (m := fun k => χ 199 (81 * (χ 192 22 - 1).toNat + (k - 99))) (by omega) k2 (stg_o a1 hb (fun a k q => kC a k (by omega)) (fun _ _ => rfl) (fun _ _ _ => rfl) hr)) hb (fun _ _ _ => rfl) (fun _ _ => rfl) (fun k q1 q2 => ?_) hr
      have := mI (k - 99) (by omega)
      rw [show 99 + (k - 99) = k by omega] at this
      exact this
    · refine tkb_g a2 (fun k q => ?_)
      have := mI (k - 99) (by omega)
      rw [show 99 + (k - 99) = k by omega] at this
      exact this
