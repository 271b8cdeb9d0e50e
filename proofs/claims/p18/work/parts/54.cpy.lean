/-! states that are copied -/
noncomputable def CPY (b d : Nat) (φ ψ : hf_F) : Prop := (∀ k, k < 6 → ψ b k = φ d k) ∧ (∀ k, k < 8 → ψ (b + 1) k = φ (d + 1) k) ∧ (∀ k, k < 8 → ψ (b + 2) k = φ (d + 2) k) ∧ (∀ k, k < 6 → ψ (b + 3) k = φ (d + 3) k) ∧ (∀ k, k < 6 → ψ (b + 4) k = φ (d + 4) k) ∧ (∀ k, k < 36 → ψ (b + 5) k = φ (d + 5) k) ∧ (∀ k, k < 6 → ψ (b + 6) k = φ (d + 6) k) ∧ (∀ k, k < 6 → ψ (b + 7) k = φ (d + 7) k) ∧ (∀ k, k < 8 → ψ (b + 8) k = φ (d + 8) k) ∧ ∀ a k, ¬ (b ≤ a ∧ a ≤ b + 8) → ψ a k = φ a k
theorem stg_c {b d : Nat} {φ ψ : hf_F} {c m : Nat → Int} (hc : c 1 ≤ 8) (h : CPY b d φ ψ) (hs : STG d φ c m) : STG b ψ c m := by
  obtain ⟨c0, c1, c2, c3, c4, c5, c6, c7, c8, _⟩ := h
  obtain ⟨⟨⟨s1, s2, s3, s4, s5, s6, s7, s8⟩, hsit, hrol, hhof⟩, hat⟩ := hs
  refine ⟨⟨⟨?_, ?_, ?_, ?_, ?_, ?_, s7, s8⟩, fun v hv => ?_, fun q hq => ?_, fun l hl => ?_⟩, fun i hi => ?_⟩
  · rw [c0 0 (by decide)]; exact s1
  · rw [c0 1 (by decide)]; exact s2
  · rw [c0 2 (by decide)]; exact s3
  · rw [c0 3 (by decide)]; exact s4
  · rw [c0 5 (by decide)]; exact s5
  · rw [c0 4 (by decide)]; exact s6
  · rw [c2 v hv]; exact hsit v hv
  · obtain ⟨t1, t2, t3, t4, t5, t6, t7, t8, t9⟩ := hrol q hq
    unfold ROL
    rw [c3 q hq, c4 q hq, c6 q hq, c7 q hq]
    refine ⟨t1, t2, t3, t4, t5, t6, t7, t8, fun k hk => ?_⟩
    rw [c5 _ (by omega)]
    exact t9 k hk
  · rw [c8 l hl]; exact hhof l hl
  · rw [c1 i (by omega)]; exact hat i hi
/-- a state that other heaps leave as it is -/
theorem stg_o {b : Nat} {φ ψ : hf_F} {c c' m m' : Nat → Int} (h : STG b φ c m) (hb : CB c) (h1 : ∀ a k, (b ≤ a ∧ a ≤ b + 8) → ψ a k = φ a k) (h2 : ∀ k, k < 99 → c' k = c k) (h3 : ∀ k, 99 ≤ k → k < 180 → m' k = m k) (hr : ∀ i : Nat, (i : Int) < c 1 → 0 ≤ c (11 + i) ∧ c (11 + i) ≤ 2) : STG b ψ c' m' := by
  unfold CB at hb
  refine ⟨stn_f h.1 (fun a k q => h1 a k (by omega)) h2 (fun k q => h3 k (by omega) (by omega)), fun i hi => ?_⟩
  rw [h2 1 (by omega)] at hi
  have := hr i hi
  rw [h1 (b + 1) i (by omega), h3 (104 + i) (by omega) (by omega), h2 (11 + i) (by omega), h2 (5 + (c (11 + i)).toNat) (by omega)]
  exact h.2 i hi
theorem cpy_17_43 (φ : hf_F) : CPY 17 43 φ (F_State_copyFrom_17_43 φ) := by
  unfold F_State_copyFrom_17_43
  refine ⟨fun k hk => ?_, fun k hk => ?_, fun k hk => ?_, fun k hk => ?_, fun k hk => ?_, fun k hk => ?_, fun k hk => ?_, fun k hk => ?_, fun k hk => ?_, fun a k ha => ?_⟩
  · rw [hf_cp_ne (fun q => absurd q.1 (by decide)), hf_cp_ne (fun q => absurd q.1 (by decide)), hf_cp_ne (fun q => absurd q.1 (by decide)), hf_cp_ne (fun q => absurd q.1 (by decide)), hf_cp_ne (fun q => absurd q.1 (by decide)), hf_cp_ne (fun q => absurd q.1 (by decide)), hf_cp_ne (fun q => absurd q.1 (by decide)), hf_cp_ne (fun q => absurd q.1 (by decide))]
    have h : k = 0 ∨ k = 1 ∨ k = 2 ∨ k = 3 ∨ k = 4 ∨ k = 5 := by omega
    rcases h with rfl | rfl | rfl | rfl | rfl | rfl <;> rfl
  · rw [hf_cp_ne (fun q => absurd q.1 (by decide)), hf_cp_ne (fun q => absurd q.1 (by decide)), hf_cp_ne (fun q => absurd q.1 (by decide)), hf_cp_ne (fun q => absurd q.1 (by decide)), hf_cp_ne (fun q => absurd q.1 (by decide)), hf_cp_ne (fun q => absurd q.1 (by decide)), hf_cp_ne (fun q => absurd q.1 (by decide)), hf_cp_eq hk]
    rfl
  · rw [hf_cp_ne (fun q => absurd q.1 (by decide)), hf_cp_ne (fun q => absurd q.1 (by decide)), hf_cp_ne (fun q => absurd q.1 (by decide)), hf_cp_ne (fun q => absurd q.1 (by decide)), hf_cp_ne (fun q => absurd q.1 (by decide)), hf_cp_ne (fun q => absurd q.1 (by decide)), hf_cp_eq hk]
    rfl
  · rw [hf_cp_ne (fun q => absurd q.1 (by decide)), hf_cp_ne (fun q => absurd q.1 (by decide)), hf_cp_ne (fun q => absurd q.1 (by decide)), hf_cp_ne (fun q => absurd q.1 (by decide)), hf_cp_ne (fun q => absurd q.1 (by decide)), hf_cp_eq hk]
    rfl
  · rw [hf_cp_ne (fun q => absurd q.1 (by decide)), hf_cp_ne (fun q => absurd q.1 (by decide)), hf_cp_ne (fun q => absurd q.1 (by decide)), hf_cp_ne (fun q => absurd q.1 (by decide)), hf_cp_eq hk]
    rfl
  · rw [hf_cp_ne (fun q => absurd q.1 (by decide)), hf_cp_ne (fun q => absurd q.1 (by decide)), hf_cp_ne (fun q => absurd q.1 (by decide)), hf_cp_eq hk]
    rfl
  · rw [hf_cp_ne (fun q => absurd q.1 (by decide)), hf_cp_ne (fun q => absurd q.1 (by decide)), hf_cp_eq hk]
    rfl
  · rw [hf_cp_ne (fun q => absurd q.1 (by decide)), hf_cp_eq hk]
    rfl
  · rw [hf_cp_eq hk]
    rfl
  · rw [hf_cp_ne (fun q => by omega), hf_cp_ne (fun q => by omega), hf_cp_ne (fun q => by omega), hf_cp_ne (fun q => by omega), hf_cp_ne (fun q => by omega), hf_cp_ne (fun q => by omega), hf_cp_ne (fun q => by omega), hf_cp_ne (fun q => by omega), up_a (fun q => by omega), up_a (fun q => by omega), up_a (fun q => by omega), up_a (fun q => by omega), up_a (fun q => by omega), up_a (fun q => by omega)]
theorem cpy_17_95 (φ : hf_F) : CPY 17 95 φ (F_State_copyFrom_17_95 φ) := by
  unfold F_State_copyFrom_17_95
  refine ⟨fun k hk => ?_, fun k hk => ?_, fun k hk => ?_, fun k hk => ?_, fun k hk => ?_, fun k hk => ?_, fun k hk => ?_, fun k hk => ?_, fun k hk => ?_, fun a k ha => ?_⟩
  · rw [hf_cp_ne (fun q => absurd q.1 (by decide)), hf_cp_ne (fun q => absurd q.1 (by decide)), hf_cp_ne (fun q => absurd q.1 (by decide)), hf_cp_ne (fun q => absurd q.1 (by decide)), hf_cp_ne (fun q => absurd q.1 (by decide)), hf_cp_ne (fun q => absurd q.1 (by decide)), hf_cp_ne (fun q => absurd q.1 (by decide)), hf_cp_ne (fun q => absurd q.1 (by decide))]
    have h : k = 0 ∨ k = 1 ∨ k = 2 ∨ k = 3 ∨ k = 4 ∨ k = 5 := by omega
    rcases h with rfl | rfl | rfl | rfl | rfl | rfl <;> rfl
  · rw [hf_cp_ne (fun q => absurd q.1 (by decide)), hf_cp_ne (fun q => absurd q.1 (by decide)), hf_cp_ne (fun q => absurd q.1 (by decide)), hf_cp_ne (fun q => absurd q.1 (by decide)), hf_cp_ne (fun q => absurd q.1 (by decide)), hf_cp_ne (fun q => absurd q.1 (by decide)), hf_cp_ne (fun q => absurd q.1 (by decide)), hf_cp_eq hk]
    rfl
  · rw [hf_cp_ne (fun q => absurd q.1 (by decide)), hf_cp_ne (fun q => absurd q.1 (by decide)), hf_cp_ne (fun q => absurd q.1 (by decide)), hf_cp_ne (fun q => absurd q.1 (by decide)), hf_cp_ne (fun q => absurd q.1 (by decide)), hf_cp_ne (fun q => absurd q.1 (by decide)), hf_cp_eq hk]
    rfl
  · rw [hf_cp_ne (fun q => absurd q.1 (by decide)), hf_cp_ne (fun q => absurd q.1 (by decide)), hf_cp_ne (fun q => absurd q.1 (by decide)), hf_cp_ne (fun q => absurd q.1 (by decide)), hf_cp_ne (fun q => absurd q.1 (by decide)), hf_cp_eq hk]
    rfl
  · rw [hf_cp_ne (fun q => absurd q.1 (by decide)), hf_cp_ne (fun q => absurd q.1 (by decide)), hf_cp_ne (fun q => absurd q.1 (by decide)), hf_cp_ne (fun q => absurd q.1 (by decide)), hf_cp_eq hk]
    rfl
  · rw [hf_cp_ne (fun q => absurd q.1 (by decide)), hf_cp_ne (fun q => absurd q.1 (by decide)), hf_cp_ne (fun q => absurd q.1 (by decide)), hf_cp_eq hk]
    rfl
  · rw [hf_cp_ne (fun q => absurd q.1 (by decide)), hf_cp_ne (fun q => absurd q.1 (by decide)), hf_cp_eq hk]
    rfl
  · rw [hf_cp_ne (fun q => absurd q.1 (by decide)), hf_cp_eq hk]
    rfl
  · rw [hf_cp_eq hk]
    rfl
  · rw [hf_cp_ne (fun q => by omega), hf_cp_ne (fun q => by omega), hf_cp_ne (fun q => by omega), hf_cp_ne (fun q => by omega), hf_cp_ne (fun q => by omega), hf_cp_ne (fun q => by omega), hf_cp_ne (fun q => by omega), hf_cp_ne (fun q => by omega), up_a (fun q => by omega), up_a (fun q => by omega), up_a (fun q => by omega), up_a (fun q => by omega), up_a (fun q => by omega), up_a (fun q => by omega)]
theorem cpy_17_69 (φ : hf_F) : CPY 17 69 φ (F_State_copyFrom_17_69 φ) := by
  unfold F_State_copyFrom_17_69
  refine ⟨fun k hk => ?_, fun k hk => ?_, fun k hk => ?_, fun k hk => ?_, fun k hk => ?_, fun k hk => ?_, fun k hk => ?_, fun k hk => ?_, fun k hk => ?_, fun a k ha => ?_⟩
  · rw [hf_cp_ne (fun q => absurd q.1 (by decide)), hf_cp_ne (fun q => absurd q.1 (by decide)), hf_cp_ne (fun q => absurd q.1 (by decide)), hf_cp_ne (fun q => absurd q.1 (by decide)), hf_cp_ne (fun q => absurd q.1 (by decide)), hf_cp_ne (fun q => absurd q.1 (by decide)), hf_cp_ne (fun q => absurd q.1 (by decide)), hf_cp_ne (fun q => absurd q.1 (by decide))]
    have h : k = 0 ∨ k = 1 ∨ k = 2 ∨ k = 3 ∨ k = 4 ∨ k = 5 := by omega
    rcases h with rfl | rfl | rfl | rfl | rfl | rfl <;> rfl
  · rw [hf_cp_ne (fun q => absurd q.1 (by decide)), hf_cp_ne (fun q => absurd q.1 (by decide)), hf_cp_ne (fun q => absurd q.1 (by decide)), hf_cp_ne (fun q => absurd q.1 (by decide)), hf_cp_ne (fun q => absurd q.1 (by decide)), hf_cp_ne (fun q => absurd q.1 (by decide)), hf_cp_ne (fun q => absurd q.1 (by decide)), hf_cp_eq hk]
    rfl
  · rw [hf_cp_ne (fun q => absurd q.1 (by decide)), hf_cp_ne (fun q => absurd q.1 (by decide)), hf_cp_ne (fun q => absurd q.1 (by decide)), hf_cp_ne (fun q => absurd q.1 (by decide)), hf_cp_ne (fun q => absurd q.1 (by decide)), hf_cp_ne (fun q => absurd q.1 (by decide)), hf_cp_eq hk]
    rfl
  · rw [hf_cp_ne (fun q => absurd q.1 (by decide)), hf_cp_ne (fun q => absurd q.1 (by decide)), hf_cp_ne (fun q => absurd q.1 (by decide)), hf_cp_ne (fun q => absurd q.1 (by decide)), hf_cp_ne (fun q => absurd q.1 (by decide)), hf_cp_eq hk]
    rfl
  · rw [hf_cp_ne (fun q => absurd q.1 (by decide)), hf_cp_ne (fun q => absurd q.1 (by decide)), hf_cp_ne (fun q => absurd q.1 (by decide)), hf_cp_ne (fun q => absurd q.1 (by decide)), hf_cp_eq hk]
    rfl
  · rw [hf_cp_ne (fun q => absurd q.1 (by decide)), hf_cp_ne (fun q => absurd q.1 (by decide)), hf_cp_ne (fun q => absurd q.1 (by decide)), hf_cp_eq hk]
    rfl
  · rw [hf_cp_ne (fun q => absurd q.1 (by decide)), hf_cp_ne (fun q => absurd q.1 (by decide)), hf_cp_eq hk]
    rfl
  · rw [hf_cp_ne (fun q => absurd q.1 (by decide)), hf_cp_eq hk]
    rfl
  · rw [hf_cp_eq hk]
    rfl
  · rw [hf_cp_ne (fun q => by omega), hf_cp_ne (fun q => by omega), hf_cp_ne (fun q => by omega), hf_cp_ne (fun q => by omega), hf_cp_ne (fun q => by omega), hf_cp_ne (fun q => by omega), hf_cp_ne (fun q => by omega), hf_cp_ne (fun q => by omega), up_a (fun q => by omega), up_a (fun q => by omega), up_a (fun q => by omega), up_a (fun q => by omega), up_a (fun q => by omega), up_a (fun q => by omega)]
theorem cpy_43_17 (φ : hf_F) : CPY 43 17 φ (F_State_copyFrom_43_17 φ) := by
  unfold F_State_copyFrom_43_17
  refine ⟨fun k hk => ?_, fun k hk => ?_, fun k hk => ?_, fun k hk => ?_, fun k hk => ?_, fun k hk => ?_, fun k hk => ?_, fun k hk => ?_, fun k hk => ?_, fun a k ha => ?_⟩
  · rw [hf_cp_ne (fun q => absurd q.1 (by decide)), hf_cp_ne (fun q => absurd q.1 (by decide)), hf_cp_ne (fun q => absurd q.1 (by decide)), hf_cp_ne (fun q => absurd q.1 (by decide)), hf_cp_ne (fun q => absurd q.1 (by decide)), hf_cp_ne (fun q => absurd q.1 (by decide)), hf_cp_ne (fun q => absurd q.1 (by decide)), hf_cp_ne (fun q => absurd q.1 (by decide))]
    have h : k = 0 ∨ k = 1 ∨ k = 2 ∨ k = 3 ∨ k = 4 ∨ k = 5 := by omega
    rcases h with rfl | rfl | rfl | rfl | rfl | rfl <;> rfl
  · rw [hf_cp_ne (fun q => absurd q.1 (by decide)), hf_cp_ne (fun q => absurd q.1 (by decide)), hf_cp_ne (fun q => absurd q.1 (by decide)), hf_cp_ne (fun q => absurd q.1 (by decide)), hf_cp_ne (fun q => absurd q.1 (by decide)), hf_cp_ne (fun q => absurd q.1 (by decide)), hf_cp_ne (fun q => absurd q.1 (by decide)), hf_cp_eq hk]
    rfl
  · rw [hf_cp_ne (fun q => absurd q.1 (by decide)), hf_cp_ne (fun q => absurd q.1 (by decide)), hf_cp_ne (fun q => absurd q.1 (by decide)), hf_cp_ne (fun q => absurd q.1 (by decide)), hf_cp_ne (fun q => absurd q.1 (by decide)), hf_cp_ne (fun q => absurd q.1 (by decide)), hf_cp_eq hk]
    rfl
  · rw [hf_cp_ne (fun q => absurd q.1 (by decide)), hf_cp_ne (fun q => absurd q.1 (by decide)), hf_cp_ne (fun q => absurd q.1 (by decide)), hf_cp_ne (fun q => absurd q.1 (by decide)), hf_cp_ne (fun q => absurd q.1 (by decide)), hf_cp_eq hk]
    rfl
  · rw [hf_cp_ne (fun q => absurd q.1 (by decide)), hf_cp_ne (fun q => absurd q.1 (by decide)), hf_cp_ne (fun q => absurd q.1 (by decide)), hf_cp_ne (fun q => absurd q.1 (by decide)), hf_cp_eq hk]
    rfl
  · rw [hf_cp_ne (fun q => absurd q.1 (by decide)), hf_cp_ne (fun q => absurd q.1 (by decide)), hf_cp_ne (fun q => absurd q.1 (by decide)), hf_cp_eq hk]
    rfl
  · rw [hf_cp_ne (fun q => absurd q.1 (by decide)), hf_cp_ne (fun q => absurd q.1 (by decide)), hf_cp_eq hk]
    rfl
  · rw [hf_cp_ne (fun q => absurd q.1 (by decide)), hf_cp_eq hk]
    rfl
  · rw [hf_cp_eq hk]
    rfl
  · rw [hf_cp_ne (fun q => by omega), hf_cp_ne (fun q => by omega), hf_cp_ne (fun q => by omega), hf_cp_ne (fun q => by omega), hf_cp_ne (fun q => by omega), hf_cp_ne (fun q => by omega), hf_cp_ne (fun q => by omega), hf_cp_ne (fun q => by omega), up_a (fun q => by omega), up_a (fun q => by omega), up_a (fun q => by omega), up_a (fun q => by omega), up_a (fun q => by omega), up_a (fun q => by omega)]
theorem cpy_95_17 (φ : hf_F) : CPY 95 17 φ (F_State_copyFrom_95_17 φ) := by
  unfold F_State_copyFrom_95_17
  refine ⟨fun k hk => ?_, fun k hk => ?_, fun k hk => ?_, fun k hk => ?_, fun k hk => ?_, fun k hk => ?_, fun k hk => ?_, fun k hk => ?_, fun k hk => ?_, fun a k ha => ?_⟩
  · rw [hf_cp_ne (fun q => absurd q.1 (by decide)), hf_cp_ne (fun q => absurd q.1 (by decide)), hf_cp_ne (fun q => absurd q.1 (by decide)), hf_cp_ne (fun q => absurd q.1 (by decide)), hf_cp_ne (fun q => absurd q.1 (by decide)), hf_cp_ne (fun q => absurd q.1 (by decide)), hf_cp_ne (fun q => absurd q.1 (by decide)), hf_cp_ne (fun q => absurd q.1 (by decide))]
    have h : k = 0 ∨ k = 1 ∨ k = 2 ∨ k = 3 ∨ k = 4 ∨ k = 5 := by omega
    rcases h with rfl | rfl | rfl | rfl | rfl | rfl <;> rfl
  · rw [hf_cp_ne (fun q => absurd q.1 (by decide)), hf_cp_ne (fun q => absurd q.1 (by decide)), hf_cp_ne (fun q => absurd q.1 (by decide)), hf_cp_ne (fun q => absurd q.1 (by decide)), hf_cp_ne (fun q => absurd q.1 (by decide)), hf_cp_ne (fun q => absurd q.1 (by decide)), hf_cp_ne (fun q => absurd q.1 (by decide)), hf_cp_eq hk]
    rfl
  · rw [hf_cp_ne (fun q => absurd q.1 (by decide)), hf_cp_ne (fun q => absurd q.1 (by decide)), hf_cp_ne (fun q => absurd q.1 (by decide)), hf_cp_ne (fun q => absurd q.1 (by decide)), hf_cp_ne (fun q => absurd q.1 (by decide)), hf_cp_ne (fun q => absurd q.1 (by decide)), hf_cp_eq hk]
    rfl
  · rw [hf_cp_ne (fun q => absurd q.1 (by decide)), hf_cp_ne (fun q => absurd q.1 (by decide)), hf_cp_ne (fun q => absurd q.1 (by decide)), hf_cp_ne (fun q => absurd q.1 (by decide)), hf_cp_ne (fun q => absurd q.1 (by decide)), hf_cp_eq hk]
    rfl
  · rw [hf_cp_ne (fun q => absurd q.1 (by decide)), hf_cp_ne (fun q => absurd q.1 (by decide)), hf_cp_ne (fun q => absurd q.1 (by decide)), hf_cp_ne (fun q => absurd q.1 (by decide)), hf_cp_eq hk]
    rfl
  · rw [hf_cp_ne (fun q => absurd q.1 (by decide)), hf_cp_ne (fun q => absurd q.1 (by decide)), hf_cp_ne (fun q => absurd q.1 (by decide)), hf_cp_eq hk]
    rfl
  · rw [hf_cp_ne (fun q => absurd q.1 (by decide)), hf_cp_ne (fun q => absurd q.1 (by decide)), hf_cp_eq hk]
    rfl
  · rw [hf_cp_ne (fun q => absurd q.1 (by decide)), hf_cp_eq hk]
    rfl
  · rw [hf_cp_eq hk]
    rfl
  · rw [hf_cp_ne (fun q => by omega), hf_cp_ne (fun q => by omega), hf_cp_ne (fun q => by omega), hf_cp_ne (fun q => by omega), hf_cp_ne (fun q => by omega), hf_cp_ne (fun q => by omega), hf_cp_ne (fun q => by omega), hf_cp_ne (fun q => by omega), up_a (fun q => by omega), up_a (fun q => by omega), up_a (fun q => by omega), up_a (fun q => by omega), up_a (fun q => by omega), up_a (fun q => by omega)]
theorem cpy_69_17 (φ : hf_F) : CPY 69 17 φ (F_State_copyFrom_69_17 φ) := by
  unfold F_State_copyFrom_69_17
  refine ⟨fun k hk => ?_, fun k hk => ?_, fun k hk => ?_, fun k hk => ?_, fun k hk => ?_, fun k hk => ?_, fun k hk => ?_, fun k hk => ?_, fun k hk => ?_, fun a k ha => ?_⟩
  · rw [hf_cp_ne (fun q => absurd q.1 (by decide)), hf_cp_ne (fun q => absurd q.1 (by decide)), hf_cp_ne (fun q => absurd q.1 (by decide)), hf_cp_ne (fun q => absurd q.1 (by decide)), hf_cp_ne (fun q => absurd q.1 (by decide)), hf_cp_ne (fun q => absurd q.1 (by decide)), hf_cp_ne (fun q => absurd q.1 (by decide)), hf_cp_ne (fun q => absurd q.1 (by decide))]
    have h : k = 0 ∨ k = 1 ∨ k = 2 ∨ k = 3 ∨ k = 4 ∨ k = 5 := by omega
    rcases h with rfl | rfl | rfl | rfl | rfl | rfl <;> rfl
  · rw [hf_cp_ne (fun q => absurd q.1 (by decide)), hf_cp_ne (fun q => absurd q.1 (by decide)), hf_cp_ne (fun q => absurd q.1 (by decide)), hf_cp_ne (fun q => absurd q.1 (by decide)), hf_cp_ne (fun q => absurd q.1 (by decide)), hf_cp_ne (fun q => absurd q.1 (by decide)), hf_cp_ne (fun q => absurd q.1 (by decide)), hf_cp_eq hk]
    rfl
  · rw [hf_cp_ne (fun q => absurd q.1 (by decide)), hf_cp_ne (fun q => absurd q.1 (by decide)), hf_cp_ne (fun q => absurd q.1 (by decide)), hf_cp_ne (fun q => absurd q.1 (by decide)), hf_cp_ne (fun q => absurd q.1 (by decide)), hf_cp_ne (fun q => absurd q.1 (by decide)), hf_cp_eq hk]
    rfl
  · rw [hf_cp_ne (fun q => absurd q.1 (by decide)), hf_cp_ne (fun q => absurd q.1 (by decide)), hf_cp_ne (fun q => absurd q.1 (by decide)), hf_cp_ne (fun q => absurd q.1 (by decide)), hf_cp_ne (fun q => absurd q.1 (by decide)), hf_cp_eq hk]
    rfl
  · rw [hf_cp_ne (fun q => absurd q.1 (by decide)), hf_cp_ne (fun q => absurd q.1 (by decide)), hf_cp_ne (fun q => absurd q.1 (by decide)), hf_cp_ne (fun q => absurd q.1 (by decide)), hf_cp_eq hk]
    rfl
  · rw [hf_cp_ne (fun q => absurd q.1 (by decide)), hf_cp_ne (fun q => absurd q.1 (by decide)), hf_cp_ne (fun q => absurd q.1 (by decide)), hf_cp_eq hk]
    rfl
  · rw [hf_cp_ne (fun q => absurd q.1 (by decide)), hf_cp_ne (fun q => absurd q.1 (by decide)), hf_cp_eq hk]
    rfl
  · rw [hf_cp_ne (fun q => absurd q.1 (by decide)), hf_cp_eq hk]
    rfl
  · rw [hf_cp_eq hk]
    rfl
  · rw [hf_cp_ne (fun q => by omega), hf_cp_ne (fun q => by omega), hf_cp_ne (fun q => by omega), hf_cp_ne (fun q => by omega), hf_cp_ne (fun q => by omega), hf_cp_ne (fun q => by omega), hf_cp_ne (fun q => by omega), hf_cp_ne (fun q => by omega), up_a (fun q => by omega), up_a (fun q => by omega), up_a (fun q => by omega), up_a (fun q => by omega), up_a (fun q => by omega), up_a (fun q => by omega)]
theorem cpy_110_17 (φ : hf_F) : CPY 110 17 φ (F_State_copyFrom_110_17 φ) := by
  unfold F_State_copyFrom_110_17
  refine ⟨fun k hk => ?_, fun k hk => ?_, fun k hk => ?_, fun k hk => ?_, fun k hk => ?_, fun k hk => ?_, fun k hk => ?_, fun k hk => ?_, fun k hk => ?_, fun a k ha => ?_⟩
  · rw [hf_cp_ne (fun q => absurd q.1 (by decide)), hf_cp_ne (fun q => absurd q.1 (by decide)), hf_cp_ne (fun q => absurd q.1 (by decide)), hf_cp_ne (fun q => absurd q.1 (by decide)), hf_cp_ne (fun q => absurd q.1 (by decide)), hf_cp_ne (fun q => absurd q.1 (by decide)), hf_cp_ne (fun q => absurd q.1 (by decide)), hf_cp_ne (fun q => absurd q.1 (by decide))]
    have h : k = 0 ∨ k = 1 ∨ k = 2 ∨ k = 3 ∨ k = 4 ∨ k = 5 := by omega
    rcases h with rfl | rfl | rfl | rfl | rfl | rfl <;> rfl
  · rw [hf_cp_ne (fun q => absurd q.1 (by decide)), hf_cp_ne (fun q => absurd q.1 (by decide)), hf_cp_ne (fun q => absurd q.1 (by decide)), hf_cp_ne (fun q => absurd q.1 (by decide)), hf_cp_ne (fun q => absurd q.1 (by decide)), hf_cp_ne (fun q => absurd q.1 (by decide)), hf_cp_ne (fun q => absurd q.1 (by decide)), hf_cp_eq hk]
    rfl
  · rw [hf_cp_ne (fun q => absurd q.1 (by decide)), hf_cp_ne (fun q => absurd q.1 (by decide)), hf_cp_ne (fun q => absurd q.1 (by decide)), hf_cp_ne (fun q => absurd q.1 (by decide)), hf_cp_ne (fun q => absurd q.1 (by decide)), hf_cp_ne (fun q => absurd q.1 (by decide)), hf_cp_eq hk]
    rfl
  · rw [hf_cp_ne (fun q => absurd q.1 (by decide)), hf_cp_ne (fun q => absurd q.1 (by decide)), hf_cp_ne (fun q => absurd q.1 (by decide)), hf_cp_ne (fun q => absurd q.1 (by decide)), hf_cp_ne (fun q => absurd q.1 (by decide)), hf_cp_eq hk]
    rfl
  · rw [hf_cp_ne (fun q => absurd q.1 (by decide)), hf_cp_ne (fun q => absurd q.1 (by decide)), hf_cp_ne (fun q => absurd q.1 (by decide)), hf_cp_ne (fun q => absurd q.1 (by decide)), hf_cp_eq hk]
    rfl
  · rw [hf_cp_ne (fun q => absurd q.1 (by decide)), hf_cp_ne (fun q => absurd q.1 (by decide)), hf_cp_ne (fun q => absurd q.1 (by decide)), hf_cp_eq hk]
    rfl
  · rw [hf_cp_ne (fun q => absurd q.1 (by decide)), hf_cp_ne (fun q => absurd q.1 (by decide)), hf_cp_eq hk]
    rfl
  · rw [hf_cp_ne (fun q => absurd q.1 (by decide)), hf_cp_eq hk]
    rfl
  · rw [hf_cp_eq hk]
    rfl
  · rw [hf_cp_ne (fun q => by omega), hf_cp_ne (fun q => by omega), hf_cp_ne (fun q => by omega), hf_cp_ne (fun q => by omega), hf_cp_ne (fun q => by omega), hf_cp_ne (fun q => by omega), hf_cp_ne (fun q => by omega), hf_cp_ne (fun q => by omega), up_a (fun q => by omega), up_a (fun q => by omega), up_a (fun q => by omega), up_a (fun q => by omega), up_a (fun q => by omega), up_a (fun q => by omega)]
theorem cpy_119_17 (φ : hf_F) : CPY 119 17 φ (F_State_copyFrom_119_17 φ) := by
  unfold F_State_copyFrom_119_17
  refine ⟨fun k hk => ?_, fun k hk => ?_, fun k hk => ?_, fun k hk => ?_, fun k hk => ?_, fun k hk => ?_, fun k hk => ?_, fun k hk => ?_, fun k hk => ?_, fun a k ha => ?_⟩
  · rw [hf_cp_ne (fun q => absurd q.1 (by decide)), hf_cp_ne (fun q => absurd q.1 (by decide)), hf_cp_ne (fun q => absurd q.1 (by decide)), hf_cp_ne (fun q => absurd q.1 (by decide)), hf_cp_ne (fun q => absurd q.1 (by decide)), hf_cp_ne (fun q => absurd q.1 (by decide)), hf_cp_ne (fun q => absurd q.1 (by decide)), hf_cp_ne (fun q => absurd q.1 (by decide))]
    have h : k = 0 ∨ k = 1 ∨ k = 2 ∨ k = 3 ∨ k = 4 ∨ k = 5 := by omega
    rcases h with rfl | rfl | rfl | rfl | rfl | rfl <;> rfl
  · rw [hf_cp_ne (fun q => absurd q.1 (by decide)), hf_cp_ne (fun q => absurd q.1 (by decide)), hf_cp_ne (fun q => absurd q.1 (by decide)), hf_cp_ne (fun q => absurd q.1 (by decide)), hf_cp_ne (fun q => absurd q.1 (by decide)), hf_cp_ne (fun q => absurd q.1 (by decide)), hf_cp_ne (fun q => absurd q.1 (by decide)), hf_cp_eq hk]
    rfl
  · rw [hf_cp_ne (fun q => absurd q.1 (by decide)), hf_cp_ne (fun q => absurd q.1 (by decide)), hf_cp_ne (fun q => absurd q.1 (by decide)), hf_cp_ne (fun q => absurd q.1 (by decide)), hf_cp_ne (fun q => absurd q.1 (by decide)), hf_cp_ne (fun q => absurd q.1 (by decide)), hf_cp_eq hk]
    rfl
  · rw [hf_cp_ne (fun q => absurd q.1 (by decide)), hf_cp_ne (fun q => absurd q.1 (by decide)), hf_cp_ne (fun q => absurd q.1 (by decide)), hf_cp_ne (fun q => absurd q.1 (by decide)), hf_cp_ne (fun q => absurd q.1 (by decide)), hf_cp_eq hk]
    rfl
  · rw [hf_cp_ne (fun q => absurd q.1 (by decide)), hf_cp_ne (fun q => absurd q.1 (by decide)), hf_cp_ne (fun q => absurd q.1 (by decide)), hf_cp_ne (fun q => absurd q.1 (by decide)), hf_cp_eq hk]
    rfl
  · rw [hf_cp_ne (fun q => absurd q.1 (by decide)), hf_cp_ne (fun q => absurd q.1 (by decide)), hf_cp_ne (fun q => absurd q.1 (by decide)), hf_cp_eq hk]
    rfl
  · rw [hf_cp_ne (fun q => absurd q.1 (by decide)), hf_cp_ne (fun q => absurd q.1 (by decide)), hf_cp_eq hk]
    rfl
  · rw [hf_cp_ne (fun q => absurd q.1 (by decide)), hf_cp_eq hk]
    rfl
  · rw [hf_cp_eq hk]
    rfl
  · rw [hf_cp_ne (fun q => by omega), hf_cp_ne (fun q => by omega), hf_cp_ne (fun q => by omega), hf_cp_ne (fun q => by omega), hf_cp_ne (fun q => by omega), hf_cp_ne (fun q => by omega), hf_cp_ne (fun q => by omega), hf_cp_ne (fun q => by omega), up_a (fun q => by omega), up_a (fun q => by omega), up_a (fun q => by omega), up_a (fun q => by omega), up_a (fun q => by omega), up_a (fun q => by omega)]
theorem cpy_128_17 (φ : hf_F) : CPY 128 17 φ (F_State_copyFrom_128_17 φ) := by
  unfold F_State_copyFrom_128_17
  refine ⟨fun k hk => ?_, fun k hk => ?_, fun k hk => ?_, fun k hk => ?_, fun k hk => ?_, fun k hk => ?_, fun k hk => ?_, fun k hk => ?_, fun k hk => ?_, fun a k ha => ?_⟩
  · rw [hf_cp_ne (fun q => absurd q.1 (by decide)), hf_cp_ne (fun q => absurd q.1 (by decide)), hf_cp_ne (fun q => absurd q.1 (by decide)), hf_cp_ne (fun q => absurd q.1 (by decide)), hf_cp_ne (fun q => absurd q.1 (by decide)), hf_cp_ne (fun q => absurd q.1 (by decide)), hf_cp_ne (fun q => absurd q.1 (by decide)), hf_cp_ne (fun q => absurd q.1 (by decide))]
    have h : k = 0 ∨ k = 1 ∨ k = 2 ∨ k = 3 ∨ k = 4 ∨ k = 5 := by omega
    rcases h with rfl | rfl | rfl | rfl | rfl | rfl <;> rfl
  · rw [hf_cp_ne (fun q => absurd q.1 (by decide)), hf_cp_ne (fun q => absurd q.1 (by decide)), hf_cp_ne (fun q => absurd q.1 (by decide)), hf_cp_ne (fun q => absurd q.1 (by decide)), hf_cp_ne (fun q => absurd q.1 (by decide)), hf_cp_ne (fun q => absurd q.1 (by decide)), hf_cp_ne (fun q => absurd q.1 (by decide)), hf_cp_eq hk]
    rfl
  · rw [hf_cp_ne (fun q => absurd q.1 (by decide)), hf_cp_ne (fun q => absurd q.1 (by decide)), hf_cp_ne (fun q => absurd q.1 (by decide)), hf_cp_ne (fun q => absurd q.1 (by decide)), hf_cp_ne (fun q => absurd q.1 (by decide)), hf_cp_ne (fun q => absurd q.1 (by decide)), hf_cp_eq hk]
    rfl
  · rw [hf_cp_ne (fun q => absurd q.1 (by decide)), hf_cp_ne (fun q => absurd q.1 (by decide)), hf_cp_ne (fun q => absurd q.1 (by decide)), hf_cp_ne (fun q => absurd q.1 (by decide)), hf_cp_ne (fun q => absurd q.1 (by decide)), hf_cp_eq hk]
    rfl
  · rw [hf_cp_ne (fun q => absurd q.1 (by decide)), hf_cp_ne (fun q => absurd q.1 (by decide)), hf_cp_ne (fun q => absurd q.1 (by decide)), hf_cp_ne (fun q => absurd q.1 (by decide)), hf_cp_eq hk]
    rfl
  · rw [hf_cp_ne (fun q => absurd q.1 (by decide)), hf_cp_ne (fun q => absurd q.1 (by decide)), hf_cp_ne (fun q => absurd q.1 (by decide)), hf_cp_eq hk]
    rfl
  · rw [hf_cp_ne (fun q => absurd q.1 (by decide)), hf_cp_ne (fun q => absurd q.1 (by decide)), hf_cp_eq hk]
    rfl
  · rw [hf_cp_ne (fun q => absurd q.1 (by decide)), hf_cp_eq hk]
    rfl
  · rw [hf_cp_eq hk]
    rfl
  · rw [hf_cp_ne (fun q => by omega), hf_cp_ne (fun q => by omega), hf_cp_ne (fun q => by omega), hf_cp_ne (fun q => by omega), hf_cp_ne (fun q => by omega), hf_cp_ne (fun q => by omega), hf_cp_ne (fun q => by omega), hf_cp_ne (fun q => by omega), up_a (fun q => by omega), up_a (fun q => by omega), up_a (fun q => by omega), up_a (fun q => by omega), up_a (fun q => by omega), up_a (fun q => by omega)]
theorem cpy_137_17 (φ : hf_F) : CPY 137 17 φ (F_State_copyFrom_137_17 φ) := by
  unfold F_State_copyFrom_137_17
  refine ⟨fun k hk => ?_, fun k hk => ?_, fun k hk => ?_, fun k hk => ?_, fun k hk => ?_, fun k hk => ?_, fun k hk => ?_, fun k hk => ?_, fun k hk => ?_, fun a k ha => ?_⟩
  · rw [hf_cp_ne (fun q => absurd q.1 (by decide)), hf_cp_ne (fun q => absurd q.1 (by decide)), hf_cp_ne (fun q => absurd q.1 (by decide)), hf_cp_ne (fun q => absurd q.1 (by decide)), hf_cp_ne (fun q => absurd q.1 (by decide)), hf_cp_ne (fun q => absurd q.1 (by decide)), hf_cp_ne (fun q => absurd q.1 (by decide)), hf_cp_ne (fun q => absurd q.1 (by decide))]
    have h : k = 0 ∨ k = 1 ∨ k = 2 ∨ k = 3 ∨ k = 4 ∨ k = 5 := by omega
    rcases h with rfl | rfl | rfl | rfl | rfl | rfl <;> rfl
  · rw [hf_cp_ne (fun q => absurd q.1 (by decide)), hf_cp_ne (fun q => absurd q.1 (by decide)), hf_cp_ne (fun q => absurd q.1 (by decide)), hf_cp_ne (fun q => absurd q.1 (by decide)), hf_cp_ne (fun q => absurd q.1 (by decide)), hf_cp_ne (fun q => absurd q.1 (by decide)), hf_cp_ne (fun q => absurd q.1 (by decide)), hf_cp_eq hk]
    rfl
  · rw [hf_cp_ne (fun q => absurd q.1 (by decide)), hf_cp_ne (fun q => absurd q.1 (by decide)), hf_cp_ne (fun q => absurd q.1 (by decide)), hf_cp_ne (fun q => absurd q.1 (by decide)), hf_cp_ne (fun q => absurd q.1 (by decide)), hf_cp_ne (fun q => absurd q.1 (by decide)), hf_cp_eq hk]
    rfl
  · rw [hf_cp_ne (fun q => absurd q.1 (by decide)), hf_cp_ne (fun q => absurd q.1 (by decide)), hf_cp_ne (fun q => absurd q.1 (by decide)), hf_cp_ne (fun q => absurd q.1 (by decide)), hf_cp_ne (fun q => absurd q.1 (by decide)), hf_cp_eq hk]
    rfl
  · rw [hf_cp_ne (fun q => absurd q.1 (by decide)), hf_cp_ne (fun q => absurd q.1 (by decide)), hf_cp_ne (fun q => absurd q.1 (by decide)), hf_cp_ne (fun q => absurd q.1 (by decide)), hf_cp_eq hk]
    rfl
  · rw [hf_cp_ne (fun q => absurd q.1 (by decide)), hf_cp_ne (fun q => absurd q.1 (by decide)), hf_cp_ne (fun q => absurd q.1 (by decide)), hf_cp_eq hk]
    rfl
  · rw [hf_cp_ne (fun q => absurd q.1 (by decide)), hf_cp_ne (fun q => absurd q.1 (by decide)), hf_cp_eq hk]
    rfl
  · rw [hf_cp_ne (fun q => absurd q.1 (by decide)), hf_cp_eq hk]
    rfl
  · rw [hf_cp_eq hk]
    rfl
  · rw [hf_cp_ne (fun q => by omega), hf_cp_ne (fun q => by omega), hf_cp_ne (fun q => by omega), hf_cp_ne (fun q => by omega), hf_cp_ne (fun q => by omega), hf_cp_ne (fun q => by omega), hf_cp_ne (fun q => by omega), hf_cp_ne (fun q => by omega), up_a (fun q => by omega), up_a (fun q => by omega), up_a (fun q => by omega), up_a (fun q => by omega), up_a (fun q => by omega), up_a (fun q => by omega)]
theorem cpy_146_17 (φ : hf_F) : CPY 146 17 φ (F_State_copyFrom_146_17 φ) := by
  unfold F_State_copyFrom_146_17
  refine ⟨fun k hk => ?_, fun k hk => ?_, fun k hk => ?_, fun k hk => ?_, fun k hk => ?_, fun k hk => ?_, fun k hk => ?_, fun k hk => ?_, fun k hk => ?_, fun a k ha => ?_⟩
  · rw [hf_cp_ne (fun q => absurd q.1 (by decide)), hf_cp_ne (fun q => absurd q.1 (by decide)), hf_cp_ne (fun q => absurd q.1 (by decide)), hf_cp_ne (fun q => absurd q.1 (by decide)), hf_cp_ne (fun q => absurd q.1 (by decide)), hf_cp_ne (fun q => absurd q.1 (by decide)), hf_cp_ne (fun q => absurd q.1 (by decide)), hf_cp_ne (fun q => absurd q.1 (by decide))]
    have h : k = 0 ∨ k = 1 ∨ k = 2 ∨ k = 3 ∨ k = 4 ∨ k = 5 := by omega
    rcases h with rfl | rfl | rfl | rfl | rfl | rfl <;> rfl
  · rw [hf_cp_ne (fun q => absurd q.1 (by decide)), hf_cp_ne (fun q => absurd q.1 (by decide)), hf_cp_ne (fun q => absurd q.1 (by decide)), hf_cp_ne (fun q => absurd q.1 (by decide)), hf_cp_ne (fun q => absurd q.1 (by decide)), hf_cp_ne (fun q => absurd q.1 (by decide)), hf_cp_ne (fun q => absurd q.1 (by decide)), hf_cp_eq hk]
    rfl
  · rw [hf_cp_ne (fun q => absurd q.1 (by decide)), hf_cp_ne (fun q => absurd q.1 (by decide)), hf_cp_ne (fun q => absurd q.1 (by decide)), hf_cp_ne (fun q => absurd q.1 (by decide)), hf_cp_ne (fun q => absurd q.1 (by decide)), hf_cp_ne (fun q => absurd q.1 (by decide)), hf_cp_eq hk]
    rfl
  · rw [hf_cp_ne (fun q => absurd q.1 (by decide)), hf_cp_ne (fun q => absurd q.1 (by decide)), hf_cp_ne (fun q => absurd q.1 (by decide)), hf_cp_ne (fun q => absurd q.1 (by decide)), hf_cp_ne (fun q => absurd q.1 (by decide)), hf_cp_eq hk]
    rfl
  · rw [hf_cp_ne (fun q => absurd q.1 (by decide)), hf_cp_ne (fun q => absurd q.1 (by decide)), hf_cp_ne (fun q => absurd q.1 (by decide)), hf_cp_ne (fun q => absurd q.1 (by decide)), hf_cp_eq hk]
    rfl
  · rw [hf_cp_ne (fun q => absurd q.1 (by decide)), hf_cp_ne (fun q => absurd q.1 (by decide)), hf_cp_ne (fun q => absurd q.1 (by decide)), hf_cp_eq hk]
    rfl
  · rw [hf_cp_ne (fun q => absurd q.1 (by decide)), hf_cp_ne (fun q => absurd q.1 (by decide)), hf_cp_eq hk]
    rfl
  · rw [hf_cp_ne (fun q => absurd q.1 (by decide)), hf_cp_eq hk]
    rfl
  · rw [hf_cp_eq hk]
    rfl
  · rw [hf_cp_ne (fun q => by omega), hf_cp_ne (fun q => by omega), hf_cp_ne (fun q => by omega), hf_cp_ne (fun q => by omega), hf_cp_ne (fun q => by omega), hf_cp_ne (fun q => by omega), hf_cp_ne (fun q => by omega), hf_cp_ne (fun q => by omega), up_a (fun q => by omega), up_a (fun q => by omega), up_a (fun q => by omega), up_a (fun q => by omega), up_a (fun q => by omega), up_a (fun q => by omega)]
theorem cpy_155_17 (φ : hf_F) : CPY 155 17 φ (F_State_copyFrom_155_17 φ) := by
  unfold F_State_copyFrom_155_17
  refine ⟨fun k hk => ?_, fun k hk => ?_, fun k hk => ?_, fun k hk => ?_, fun k hk => ?_, fun k hk => ?_, fun k hk => ?_, fun k hk => ?_, fun k hk => ?_, fun a k ha => ?_⟩
  · rw [hf_cp_ne (fun q => absurd q.1 (by decide)), hf_cp_ne (fun q => absurd q.1 (by decide)), hf_cp_ne (fun q => absurd q.1 (by decide)), hf_cp_ne (fun q => absurd q.1 (by decide)), hf_cp_ne (fun q => absurd q.1 (by decide)), hf_cp_ne (fun q => absurd q.1 (by decide)), hf_cp_ne (fun q => absurd q.1 (by decide)), hf_cp_ne (fun q => absurd q.1 (by decide))]
    have h : k = 0 ∨ k = 1 ∨ k = 2 ∨ k = 3 ∨ k = 4 ∨ k = 5 := by omega
    rcases h with rfl | rfl | rfl | rfl | rfl | rfl <;> rfl
  · rw [hf_cp_ne (fun q => absurd q.1 (by decide)), hf_cp_ne (fun q => absurd q.1 (by decide)), hf_cp_ne (fun q => absurd q.1 (by decide)), hf_cp_ne (fun q => absurd q.1 (by decide)), hf_cp_ne (fun q => absurd q.1 (by decide)), hf_cp_ne (fun q => absurd q.1 (by decide)), hf_cp_ne (fun q => absurd q.1 (by decide)), hf_cp_eq hk]
    rfl
  · rw [hf_cp_ne (fun q => absurd q.1 (by decide)), hf_cp_ne (fun q => absurd q.1 (by decide)), hf_cp_ne (fun q => absurd q.1 (by decide)), hf_cp_ne (fun q => absurd q.1 (by decide)), hf_cp_ne (fun q => absurd q.1 (by decide)), hf_cp_ne (fun q => absurd q.1 (by decide)), hf_cp_eq hk]
    rfl
  · rw [hf_cp_ne (fun q => absurd q.1 (by decide)), hf_cp_ne (fun q => absurd q.1 (by decide)), hf_cp_ne (fun q => absurd q.1 (by decide)), hf_cp_ne (fun q => absurd q.1 (by decide)), hf_cp_ne (fun q => absurd q.1 (by decide)), hf_cp_eq hk]
    rfl
  · rw [hf_cp_ne (fun q => absurd q.1 (by decide)), hf_cp_ne (fun q => absurd q.1 (by decide)), hf_cp_ne (fun q => absurd q.1 (by decide)), hf_cp_ne (fun q => absurd q.1 (by decide)), hf_cp_eq hk]
    rfl
  · rw [hf_cp_ne (fun q => absurd q.1 (by decide)), hf_cp_ne (fun q => absurd q.1 (by decide)), hf_cp_ne (fun q => absurd q.1 (by decide)), hf_cp_eq hk]
    rfl
  · rw [hf_cp_ne (fun q => absurd q.1 (by decide)), hf_cp_ne (fun q => absurd q.1 (by decide)), hf_cp_eq hk]
    rfl
  · rw [hf_cp_ne (fun q => absurd q.1 (by decide)), hf_cp_eq hk]
    rfl
  · rw [hf_cp_eq hk]
    rfl
  · rw [hf_cp_ne (fun q => by omega), hf_cp_ne (fun q => by omega), hf_cp_ne (fun q => by omega), hf_cp_ne (fun q => by omega), hf_cp_ne (fun q => by omega), hf_cp_ne (fun q => by omega), hf_cp_ne (fun q => by omega), hf_cp_ne (fun q => by omega), up_a (fun q => by omega), up_a (fun q => by omega), up_a (fun q => by omega), up_a (fun q => by omega), up_a (fun q => by omega), up_a (fun q => by omega)]
theorem cpy_164_17 (φ : hf_F) : CPY 164 17 φ (F_State_copyFrom_164_17 φ) := by
  unfold F_State_copyFrom_164_17
  refine ⟨fun k hk => ?_, fun k hk => ?_, fun k hk => ?_, fun k hk => ?_, fun k hk => ?_, fun k hk => ?_, fun k hk => ?_, fun k hk => ?_, fun k hk => ?_, fun a k ha => ?_⟩
  · rw [hf_cp_ne (fun q => absurd q.1 (by decide)), hf_cp_ne (fun q => absurd q.1 (by decide)), hf_cp_ne (fun q => absurd q.1 (by decide)), hf_cp_ne (fun q => absurd q.1 (by decide)), hf_cp_ne (fun q => absurd q.1 (by decide)), hf_cp_ne (fun q => absurd q.1 (by decide)), hf_cp_ne (fun q => absurd q.1 (by decide)), hf_cp_ne (fun q => absurd q.1 (by decide))]
    have h : k = 0 ∨ k = 1 ∨ k = 2 ∨ k = 3 ∨ k = 4 ∨ k = 5 := by omega
    rcases h with rfl | rfl | rfl | rfl | rfl | rfl <;> rfl
  · rw [hf_cp_ne (fun q => absurd q.1 (by decide)), hf_cp_ne (fun q => absurd q.1 (by decide)), hf_cp_ne (fun q => absurd q.1 (by decide)), hf_cp_ne (fun q => absurd q.1 (by decide)), hf_cp_ne (fun q => absurd q.1 (by decide)), hf_cp_ne (fun q => absurd q.1 (by decide)), hf_cp_ne (fun q => absurd q.1 (by decide)), hf_cp_eq hk]
    rfl
  · rw [hf_cp_ne (fun q => absurd q.1 (by decide)), hf_cp_ne (fun q => absurd q.1 (by decide)), hf_cp_ne (fun q => absurd q.1 (by decide)), hf_cp_ne (fun q => absurd q.1 (by decide)), hf_cp_ne (fun q => absurd q.1 (by decide)), hf_cp_ne (fun q => absurd q.1 (by decide)), hf_cp_eq hk]
    rfl
  · rw [hf_cp_ne (fun q => absurd q.1 (by decide)), hf_cp_ne (fun q => absurd q.1 (by decide)), hf_cp_ne (fun q => absurd q.1 (by decide)), hf_cp_ne (fun q => absurd q.1 (by decide)), hf_cp_ne (fun q => absurd q.1 (by decide)), hf_cp_eq hk]
    rfl
  · rw [hf_cp_ne (fun q => absurd q.1 (by decide)), hf_cp_ne (fun q => absurd q.1 (by decide)), hf_cp_ne (fun q => absurd q.1 (by decide)), hf_cp_ne (fun q => absurd q.1 (by decide)), hf_cp_eq hk]
    rfl
  · rw [hf_cp_ne (fun q => absurd q.1 (by decide)), hf_cp_ne (fun q => absurd q.1 (by decide)), hf_cp_ne (fun q => absurd q.1 (by decide)), hf_cp_eq hk]
    rfl
  · rw [hf_cp_ne (fun q => absurd q.1 (by decide)), hf_cp_ne (fun q => absurd q.1 (by decide)), hf_cp_eq hk]
    rfl
  · rw [hf_cp_ne (fun q => absurd q.1 (by decide)), hf_cp_eq hk]
    rfl
  · rw [hf_cp_eq hk]
    rfl
  · rw [hf_cp_ne (fun q => by omega), hf_cp_ne (fun q => by omega), hf_cp_ne (fun q => by omega), hf_cp_ne (fun q => by omega), hf_cp_ne (fun q => by omega), hf_cp_ne (fun q => by omega), hf_cp_ne (fun q => by omega), hf_cp_ne (fun q => by omega), up_a (fun q => by omega), up_a (fun q => by omega), up_a (fun q => by omega), up_a (fun q => by omega), up_a (fun q => by omega), up_a (fun q => by omega)]
theorem cpy_173_17 (φ : hf_F) : CPY 173 17 φ (F_State_copyFrom_173_17 φ) := by
  unfold F_State_copyFrom_173_17
  refine ⟨fun k hk => ?_, fun k hk => ?_, fun k hk => ?_, fun k hk => ?_, fun k hk => ?_, fun k hk => ?_, fun k hk => ?_, fun k hk => ?_, fun k hk => ?_, fun a k ha => ?_⟩
  · rw [hf_cp_ne (fun q => absurd q.1 (by decide)), hf_cp_ne (fun q => absurd q.1 (by decide)), hf_cp_ne (fun q => absurd q.1 (by decide)), hf_cp_ne (fun q => absurd q.1 (by decide)), hf_cp_ne (fun q => absurd q.1 (by decide)), hf_cp_ne (fun q => absurd q.1 (by decide)), hf_cp_ne (fun q => absurd q.1 (by decide)), hf_cp_ne (fun q => absurd q.1 (by decide))]
    have h : k = 0 ∨ k = 1 ∨ k = 2 ∨ k = 3 ∨ k = 4 ∨ k = 5 := by omega
    rcases h with rfl | rfl | rfl | rfl | rfl | rfl <;> rfl
  · rw [hf_cp_ne (fun q => absurd q.1 (by decide)), hf_cp_ne (fun q => absurd q.1 (by decide)), hf_cp_ne (fun q => absurd q.1 (by decide)), hf_cp_ne (fun q => absurd q.1 (by decide)), hf_cp_ne (fun q => absurd q.1 (by decide)), hf_cp_ne (fun q => absurd q.1 (by decide)), hf_cp_ne (fun q => absurd q.1 (by decide)), hf_cp_eq hk]
    rfl
  · rw [hf_cp_ne (fun q => absurd q.1 (by decide)), hf_cp_ne (fun q => absurd q.1 (by decide)), hf_cp_ne (fun q => absurd q.1 (by decide)), hf_cp_ne (fun q => absurd q.1 (by decide)), hf_cp_ne (fun q => absurd q.1 (by decide)), hf_cp_ne (fun q => absurd q.1 (by decide)), hf_cp_eq hk]
    rfl
  · rw [hf_cp_ne (fun q => absurd q.1 (by decide)), hf_cp_ne (fun q => absurd q.1 (by decide)), hf_cp_ne (fun q => absurd q.1 (by decide)), hf_cp_ne (fun q => absurd q.1 (by decide)), hf_cp_ne (fun q => absurd q.1 (by decide)), hf_cp_eq hk]
    rfl
  · rw [hf_cp_ne (fun q => absurd q.1 (by decide)), hf_cp_ne (fun q => absurd q.1 (by decide)), hf_cp_ne (fun q => absurd q.1 (by decide)), hf_cp_ne (fun q => absurd q.1 (by decide)), hf_cp_eq hk]
    rfl
  · rw [hf_cp_ne (fun q => absurd q.1 (by decide)), hf_cp_ne (fun q => absurd q.1 (by decide)), hf_cp_ne (fun q => absurd q.1 (by decide)), hf_cp_eq hk]
    rfl
  · rw [hf_cp_ne (fun q => absurd q.1 (by decide)), hf_cp_ne (fun q => absurd q.1 (by decide)), hf_cp_eq hk]
    rfl
  · rw [hf_cp_ne (fun q => absurd q.1 (by decide)), hf_cp_eq hk]
    rfl
  · rw [hf_cp_eq hk]
    rfl
  · rw [hf_cp_ne (fun q => by omega), hf_cp_ne (fun q => by omega), hf_cp_ne (fun q => by omega), hf_cp_ne (fun q => by omega), hf_cp_ne (fun q => by omega), hf_cp_ne (fun q => by omega), hf_cp_ne (fun q => by omega), hf_cp_ne (fun q => by omega), up_a (fun q => by omega), up_a (fun q => by omega), up_a (fun q => by omega), up_a (fun q => by omega), up_a (fun q => by omega), up_a (fun q => by omega)]
theorem cpy_17_110 (φ : hf_F) : CPY 17 110 φ (F_State_copyFrom_17_110 φ) := by
  unfold F_State_copyFrom_17_110
  refine ⟨fun k hk => ?_, fun k hk => ?_, fun k hk => ?_, fun k hk => ?_, fun k hk => ?_, fun k hk => ?_, fun k hk => ?_, fun k hk => ?_, fun k hk => ?_, fun a k ha => ?_⟩
  · rw [hf_cp_ne (fun q => absurd q.1 (by decide)), hf_cp_ne (fun q => absurd q.1 (by decide)), hf_cp_ne (fun q => absurd q.1 (by decide)), hf_cp_ne (fun q => absurd q.1 (by decide)), hf_cp_ne (fun q => absurd q.1 (by decide)), hf_cp_ne (fun q => absurd q.1 (by decide)), hf_cp_ne (fun q => absurd q.1 (by decide)), hf_cp_ne (fun q => absurd q.1 (by decide))]
    have h : k = 0 ∨ k = 1 ∨ k = 2 ∨ k = 3 ∨ k = 4 ∨ k = 5 := by omega
    rcases h with rfl | rfl | rfl | rfl | rfl | rfl <;> rfl
  · rw [hf_cp_ne (fun q => absurd q.1 (by decide)), hf_cp_ne (fun q => absurd q.1 (by decide)), hf_cp_ne (fun q => absurd q.1 (by decide)), hf_cp_ne (fun q => absurd q.1 (by decide)), hf_cp_ne (fun q => absurd q.1 (by decide)), hf_cp_ne (fun q => absurd q.1 (by decide)), hf_cp_ne (fun q => absurd q.1 (by decide)), hf_cp_eq hk]
    rfl
  · rw [hf_cp_ne (fun q => absurd q.1 (by decide)), hf_cp_ne (fun q => absurd q.1 (by decide)), hf_cp_ne (fun q => absurd q.1 (by decide)), hf_cp_ne (fun q => absurd q.1 (by decide)), hf_cp_ne (fun q => absurd q.1 (by decide)), hf_cp_ne (fun q => absurd q.1 (by decide)), hf_cp_eq hk]
    rfl
  · rw [hf_cp_ne (fun q => absurd q.1 (by decide)), hf_cp_ne (fun q => absurd q.1 (by decide)), hf_cp_ne (fun q => absurd q.1 (by decide)), hf_cp_ne (fun q => absurd q.1 (by decide)), hf_cp_ne (fun q => absurd q.1 (by decide)), hf_cp_eq hk]
    rfl
  · rw [hf_cp_ne (fun q => absurd q.1 (by decide)), hf_cp_ne (fun q => absurd q.1 (by decide)), hf_cp_ne (fun q => absurd q.1 (by decide)), hf_cp_ne (fun q => absurd q.1 (by decide)), hf_cp_eq hk]
    rfl
  · rw [hf_cp_ne (fun q => absurd q.1 (by decide)), hf_cp_ne (fun q => absurd q.1 (by decide)), hf_cp_ne (fun q => absurd q.1 (by decide)), hf_cp_eq hk]
    rfl
  · rw [hf_cp_ne (fun q => absurd q.1 (by decide)), hf_cp_ne (fun q => absurd q.1 (by decide)), hf_cp_eq hk]
    rfl
  · rw [hf_cp_ne (fun q => absurd q.1 (by decide)), hf_cp_eq hk]
    rfl
  · rw [hf_cp_eq hk]
    rfl
  · rw [hf_cp_ne (fun q => by omega), hf_cp_ne (fun q => by omega), hf_cp_ne (fun q => by omega), hf_cp_ne (fun q => by omega), hf_cp_ne (fun q => by omega), hf_cp_ne (fun q => by omega), hf_cp_ne (fun q => by omega), hf_cp_ne (fun q => by omega), up_a (fun q => by omega), up_a (fun q => by omega), up_a (fun q => by omega), up_a (fun q => by omega), up_a (fun q => by omega), up_a (fun q => by omega)]
theorem cpy_17_119 (φ : hf_F) : CPY 17 119 φ (F_State_copyFrom_17_119 φ) := by
  unfold F_State_copyFrom_17_119
  refine ⟨fun k hk => ?_, fun k hk => ?_, fun k hk => ?_, fun k hk => ?_, fun k hk => ?_, fun k hk => ?_, fun k hk => ?_, fun k hk => ?_, fun k hk => ?_, fun a k ha => ?_⟩
  · rw [hf_cp_ne (fun q => absurd q.1 (by decide)), hf_cp_ne (fun q => absurd q.1 (by decide)), hf_cp_ne (fun q => absurd q.1 (by decide)), hf_cp_ne (fun q => absurd q.1 (by decide)), hf_cp_ne (fun q => absurd q.1 (by decide)), hf_cp_ne (fun q => absurd q.1 (by decide)), hf_cp_ne (fun q => absurd q.1 (by decide)), hf_cp_ne (fun q => absurd q.1 (by decide))]
    have h : k = 0 ∨ k = 1 ∨ k = 2 ∨ k = 3 ∨ k = 4 ∨ k = 5 := by omega
    rcases h with rfl | rfl | rfl | rfl | rfl | rfl <;> rfl
  · rw [hf_cp_ne (fun q => absurd q.1 (by decide)), hf_cp_ne (fun q => absurd q.1 (by decide)), hf_cp_ne (fun q => absurd q.1 (by decide)), hf_cp_ne (fun q => absurd q.1 (by decide)), hf_cp_ne (fun q => absurd q.1 (by decide)), hf_cp_ne (fun q => absurd q.1 (by decide)), hf_cp_ne (fun q => absurd q.1 (by decide)), hf_cp_eq hk]
    rfl
  · rw [hf_cp_ne (fun q => absurd q.1 (by decide)), hf_cp_ne (fun q => absurd q.1 (by decide)), hf_cp_ne (fun q => absurd q.1 (by decide)), hf_cp_ne (fun q => absurd q.1 (by decide)), hf_cp_ne (fun q => absurd q.1 (by decide)), hf_cp_ne (fun q => absurd q.1 (by decide)), hf_cp_eq hk]
    rfl
  · rw [hf_cp_ne (fun q => absurd q.1 (by decide)), hf_cp_ne (fun q => absurd q.1 (by decide)), hf_cp_ne (fun q => absurd q.1 (by decide)), hf_cp_ne (fun q => absurd q.1 (by decide)), hf_cp_ne (fun q => absurd q.1 (by decide)), hf_cp_eq hk]
    rfl
  · rw [hf_cp_ne (fun q => absurd q.1 (by decide)), hf_cp_ne (fun q => absurd q.1 (by decide)), hf_cp_ne (fun q => absurd q.1 (by decide)), hf_cp_ne (fun q => absurd q.1 (by decide)), hf_cp_eq hk]
    rfl
  · rw [hf_cp_ne (fun q => absurd q.1 (by decide)), hf_cp_ne (fun q => absurd q.1 (by decide)), hf_cp_ne (fun q => absurd q.1 (by decide)), hf_cp_eq hk]
    rfl
  · rw [hf_cp_ne (fun q => absurd q.1 (by decide)), hf_cp_ne (fun q => absurd q.1 (by decide)), hf_cp_eq hk]
    rfl
  · rw [hf_cp_ne (fun q => absurd q.1 (by decide)), hf_cp_eq hk]
    rfl
  · rw [hf_cp_eq hk]
    rfl
  · rw [hf_cp_ne (fun q => by omega), hf_cp_ne (fun q => by omega), hf_cp_ne (fun q => by omega), hf_cp_ne (fun q => by omega), hf_cp_ne (fun q => by omega), hf_cp_ne (fun q => by omega), hf_cp_ne (fun q => by omega), hf_cp_ne (fun q => by omega), up_a (fun q => by omega), up_a (fun q => by omega), up_a (fun q => by omega), up_a (fun q => by omega), up_a (fun q => by omega), up_a (fun q => by omega)]
theorem cpy_17_128 (φ : hf_F) : CPY 17 128 φ (F_State_copyFrom_17_128 φ) := by
  unfold F_State_copyFrom_17_128
  refine ⟨fun k hk => ?_, fun k hk => ?_, fun k hk => ?_, fun k hk => ?_, fun k hk => ?_, fun k hk => ?_, fun k hk => ?_, fun k hk => ?_, fun k hk => ?_, fun a k ha => ?_⟩
  · rw [hf_cp_ne (fun q => absurd q.1 (by decide)), hf_cp_ne (fun q => absurd q.1 (by decide)), hf_cp_ne (fun q => absurd q.1 (by decide)), hf_cp_ne (fun q => absurd q.1 (by decide)), hf_cp_ne (fun q => absurd q.1 (by decide)), hf_cp_ne (fun q => absurd q.1 (by decide)), hf_cp_ne (fun q => absurd q.1 (by decide)), hf_cp_ne (fun q => absurd q.1 (by decide))]
    have h : k = 0 ∨ k = 1 ∨ k = 2 ∨ k = 3 ∨ k = 4 ∨ k = 5 := by omega
    rcases h with rfl | rfl | rfl | rfl | rfl | rfl <;> rfl
  · rw [hf_cp_ne (fun q => absurd q.1 (by decide)), hf_cp_ne (fun q => absurd q.1 (by decide)), hf_cp_ne (fun q => absurd q.1 (by decide)), hf_cp_ne (fun q => absurd q.1 (by decide)), hf_cp_ne (fun q => absurd q.1 (by decide)), hf_cp_ne (fun q => absurd q.1 (by decide)), hf_cp_ne (fun q => absurd q.1 (by decide)), hf_cp_eq hk]
    rfl
  · rw [hf_cp_ne (fun q => absurd q.1 (by decide)), hf_cp_ne (fun q => absurd q.1 (by decide)), hf_cp_ne (fun q => absurd q.1 (by decide)), hf_cp_ne (fun q => absurd q.1 (by decide)), hf_cp_ne (fun q => absurd q.1 (by decide)), hf_cp_ne (fun q => absurd q.1 (by decide)), hf_cp_eq hk]
    rfl
  · rw [hf_cp_ne (fun q => absurd q.1 (by decide)), hf_cp_ne (fun q => absurd q.1 (by decide)), hf_cp_ne (fun q => absurd q.1 (by decide)), hf_cp_ne (fun q => absurd q.1 (by decide)), hf_cp_ne (fun q => absurd q.1 (by decide)), hf_cp_eq hk]
    rfl
  · rw [hf_cp_ne (fun q => absurd q.1 (by decide)), hf_cp_ne (fun q => absurd q.1 (by decide)), hf_cp_ne (fun q => absurd q.1 (by decide)), hf_cp_ne (fun q => absurd q.1 (by decide)), hf_cp_eq hk]
    rfl
  · rw [hf_cp_ne (fun q => absurd q.1 (by decide)), hf_cp_ne (fun q => absurd q.1 (by decide)), hf_cp_ne (fun q => absurd q.1 (by decide)), hf_cp_eq hk]
    rfl
  · rw [hf_cp_ne (fun q => absurd q.1 (by decide)), hf_cp_ne (fun q => absurd q.1 (by decide)), hf_cp_eq hk]
    rfl
  · rw [hf_cp_ne (fun q => absurd q.1 (by decide)), hf_cp_eq hk]
    rfl
  · rw [hf_cp_eq hk]
    rfl
  · rw [hf_cp_ne (fun q => by omega), hf_cp_ne (fun q => by omega), hf_cp_ne (fun q => by omega), hf_cp_ne (fun q => by omega), hf_cp_ne (fun q => by omega), hf_cp_ne (fun q => by omega), hf_cp_ne (fun q => by omega), hf_cp_ne (fun q => by omega), up_a (fun q => by omega), up_a (fun q => by omega), up_a (fun q => by omega), up_a (fun q => by omega), up_a (fun q => by omega), up_a (fun q => by omega)]
theorem cpy_17_137 (φ : hf_F) : CPY 17 137 φ (F_State_copyFrom_17_137 φ) := by
  unfold F_State_copyFrom_17_137
  refine ⟨fun k hk => ?_, fun k hk => ?_, fun k hk => ?_, fun k hk => ?_, fun k hk => ?_, fun k hk => ?_, fun k hk => ?_, fun k hk => ?_, fun k hk => ?_, fun a k ha => ?_⟩
  · rw [hf_cp_ne (fun q => absurd q.1 (by decide)), hf_cp_ne (fun q => absurd q.1 (by decide)), hf_cp_ne (fun q => absurd q.1 (by decide)), hf_cp_ne (fun q => absurd q.1 (by decide)), hf_cp_ne (fun q => absurd q.1 (by decide)), hf_cp_ne (fun q => absurd q.1 (by decide)), hf_cp_ne (fun q => absurd q.1 (by decide)), hf_cp_ne (fun q => absurd q.1 (by decide))]
    have h : k = 0 ∨ k = 1 ∨ k = 2 ∨ k = 3 ∨ k = 4 ∨ k = 5 := by omega
    rcases h with rfl | rfl | rfl | rfl | rfl | rfl <;> rfl
  · rw [hf_cp_ne (fun q => absurd q.1 (by decide)), hf_cp_ne (fun q => absurd q.1 (by decide)), hf_cp_ne (fun q => absurd q.1 (by decide)), hf_cp_ne (fun q => absurd q.1 (by decide)), hf_cp_ne (fun q => absurd q.1 (by decide)), hf_cp_ne (fun q => absurd q.1 (by decide)), hf_cp_ne (fun q => absurd q.1 (by decide)), hf_cp_eq hk]
    rfl
  · rw [hf_cp_ne (fun q => absurd q.1 (by decide)), hf_cp_ne (fun q => absurd q.1 (by decide)), hf_cp_ne (fun q => absurd q.1 (by decide)), hf_cp_ne (fun q => absurd q.1 (by decide)), hf_cp_ne (fun q => absurd q.1 (by decide)), hf_cp_ne (fun q => absurd q.1 (by decide)), hf_cp_eq hk]
    rfl
  · rw [hf_cp_ne (fun q => absurd q.1 (by decide)), hf_cp_ne (fun q => absurd q.1 (by decide)), hf_cp_ne (fun q => absurd q.1 (by decide)), hf_cp_ne (fun q => absurd q.1 (by decide)), hf_cp_ne (fun q => absurd q.1 (by decide)), hf_cp_eq hk]
    rfl
  · rw [hf_cp_ne (fun q => absurd q.1 (by decide)), hf_cp_ne (fun q => absurd q.1 (by decide)), hf_cp_ne (fun q => absurd q.1 (by decide)), hf_cp_ne (fun q => absurd q.1 (by decide)), hf_cp_eq hk]
    rfl
  · rw [hf_cp_ne (fun q => absurd q.1 (by decide)), hf_cp_ne (fun q => absurd q.1 (by decide)), hf_cp_ne (fun q => absurd q.1 (by decide)), hf_cp_eq hk]
    rfl
  · rw [hf_cp_ne (fun q => absurd q.1 (by decide)), hf_cp_ne (fun q => absurd q.1 (by decide)), hf_cp_eq hk]
    rfl
  · rw [hf_cp_ne (fun q => absurd q.1 (by decide)), hf_cp_eq hk]
    rfl
  · rw [hf_cp_eq hk]
    rfl
  · rw [hf_cp_ne (fun q => by omega), hf_cp_ne (fun q => by omega), hf_cp_ne (fun q => by omega), hf_cp_ne (fun q => by omega), hf_cp_ne (fun q => by omega), hf_cp_ne (fun q => by omega), hf_cp_ne (fun q => by omega), hf_cp_ne (fun q => by omega), up_a (fun q => by omega), up_a (fun q => by omega), up_a (fun q => by omega), up_a (fun q => by omega), up_a (fun q => by omega), up_a (fun q => by omega)]
theorem cpy_17_146 (φ : hf_F) : CPY 17 146 φ (F_State_copyFrom_17_146 φ) := by
  unfold F_State_copyFrom_17_146
  refine ⟨fun k hk => ?_, fun k hk => ?_, fun k hk => ?_, fun k hk => ?_, fun k hk => ?_, fun k hk => ?_, fun k hk => ?_, fun k hk => ?_, fun k hk => ?_, fun a k ha => ?_⟩
  · rw [hf_cp_ne (fun q => absurd q.1 (by decide)), hf_cp_ne (fun q => absurd q.1 (by decide)), hf_cp_ne (fun q => absurd q.1 (by decide)), hf_cp_ne (fun q => absurd q.1 (by decide)), hf_cp_ne (fun q => absurd q.1 (by decide)), hf_cp_ne (fun q => absurd q.1 (by decide)), hf_cp_ne (fun q => absurd q.1 (by decide)), hf_cp_ne (fun q => absurd q.1 (by decide))]
    have h : k = 0 ∨ k = 1 ∨ k = 2 ∨ k = 3 ∨ k = 4 ∨ k = 5 := by omega
    rcases h with rfl | rfl | rfl | rfl | rfl | rfl <;> rfl
  · rw [hf_cp_ne (fun q => absurd q.1 (by decide)), hf_cp_ne (fun q => absurd q.1 (by decide)), hf_cp_ne (fun q => absurd q.1 (by decide)), hf_cp_ne (fun q => absurd q.1 (by decide)), hf_cp_ne (fun q => absurd q.1 (by decide)), hf_cp_ne (fun q => absurd q.1 (by decide)), hf_cp_ne (fun q => absurd q.1 (by decide)), hf_cp_eq hk]
    rfl
  · rw [hf_cp_ne (fun q => absurd q.1 (by decide)), hf_cp_ne (fun q => absurd q.1 (by decide)), hf_cp_ne (fun q => absurd q.1 (by decide)), hf_cp_ne (fun q => absurd q.1 (by decide)), hf_cp_ne (fun q => absurd q.1 (by decide)), hf_cp_ne (fun q => absurd q.1 (by decide)), hf_cp_eq hk]
    rfl
  · rw [hf_cp_ne (fun q => absurd q.1 (by decide)), hf_cp_ne (fun q => absurd q.1 (by decide)), hf_cp_ne (fun q => absurd q.1 (by decide)), hf_cp_ne (fun q => absurd q.1 (by decide)), hf_cp_ne (fun q => absurd q.1 (by decide)), hf_cp_eq hk]
    rfl
  · rw [hf_cp_ne (fun q => absurd q.1 (by decide)), hf_cp_ne (fun q => absurd q.1 (by decide)), hf_cp_ne (fun q => absurd q.1 (by decide)), hf_cp_ne (fun q => absurd q.1 (by decide)), hf_cp_eq hk]
    rfl
  · rw [hf_cp_ne (fun q => absurd q.1 (by decide)), hf_cp_ne (fun q => absurd q.1 (by decide)), hf_cp_ne (fun q => absurd q.1 (by decide)), hf_cp_eq hk]
    rfl
  · rw [hf_cp_ne (fun q => absurd q.1 (by decide)), hf_cp_ne (fun q => absurd q.1 (by decide)), hf_cp_eq hk]
    rfl
  · rw [hf_cp_ne (fun q => absurd q.1 (by decide)), hf_cp_eq hk]
    rfl
  · rw [hf_cp_eq hk]
    rfl
  · rw [hf_cp_ne (fun q => by omega), hf_cp_ne (fun q => by omega), hf_cp_ne (fun q => by omega), hf_cp_ne (fun q => by omega), hf_cp_ne (fun q => by omega), hf_cp_ne (fun q => by omega), hf_cp_ne (fun q => by omega), hf_cp_ne (fun q => by omega), up_a (fun q => by omega), up_a (fun q => by omega), up_a (fun q => by omega), up_a (fun q => by omega), up_a (fun q => by omega), up_a (fun q => by omega)]
theorem cpy_17_155 (φ : hf_F) : CPY 17 155 φ (F_State_copyFrom_17_155 φ) := by
  unfold F_State_copyFrom_17_155
  refine ⟨fun k hk => ?_, fun k hk => ?_, fun k hk => ?_, fun k hk => ?_, fun k hk => ?_, fun k hk => ?_, fun k hk => ?_, fun k hk => ?_, fun k hk => ?_, fun a k ha => ?_⟩
  · rw [hf_cp_ne (fun q => absurd q.1 (by decide)), hf_cp_ne (fun q => absurd q.1 (by decide)), hf_cp_ne (fun q => absurd q.1 (by decide)), hf_cp_ne (fun q => absurd q.1 (by decide)), hf_cp_ne (fun q => absurd q.1 (by decide)), hf_cp_ne (fun q => absurd q.1 (by decide)), hf_cp_ne (fun q => absurd q.1 (by decide)), hf_cp_ne (fun q => absurd q.1 (by decide))]
    have h : k = 0 ∨ k = 1 ∨ k = 2 ∨ k = 3 ∨ k = 4 ∨ k = 5 := by omega
    rcases h with rfl | rfl | rfl | rfl | rfl | rfl <;> rfl
  · rw [hf_cp_ne (fun q => absurd q.1 (by decide)), hf_cp_ne (fun q => absurd q.1 (by decide)), hf_cp_ne (fun q => absurd q.1 (by decide)), hf_cp_ne (fun q => absurd q.1 (by decide)), hf_cp_ne (fun q => absurd q.1 (by decide)), hf_cp_ne (fun q => absurd q.1 (by decide)), hf_cp_ne (fun q => absurd q.1 (by decide)), hf_cp_eq hk]
    rfl
  · rw [hf_cp_ne (fun q => absurd q.1 (by decide)), hf_cp_ne (fun q => absurd q.1 (by decide)), hf_cp_ne (fun q => absurd q.1 (by decide)), hf_cp_ne (fun q => absurd q.1 (by decide)), hf_cp_ne (fun q => absurd q.1 (by decide)), hf_cp_ne (fun q => absurd q.1 (by decide)), hf_cp_eq hk]
    rfl
  · rw [hf_cp_ne (fun q => absurd q.1 (by decide)), hf_cp_ne (fun q => absurd q.1 (by decide)), hf_cp_ne (fun q => absurd q.1 (by decide)), hf_cp_ne (fun q => absurd q.1 (by decide)), hf_cp_ne (fun q => absurd q.1 (by decide)), hf_cp_eq hk]
    rfl
  · rw [hf_cp_ne (fun q => absurd q.1 (by decide)), hf_cp_ne (fun q => absurd q.1 (by decide)), hf_cp_ne (fun q => absurd q.1 (by decide)), hf_cp_ne (fun q => absurd q.1 (by decide)), hf_cp_eq hk]
    rfl
  · rw [hf_cp_ne (fun q => absurd q.1 (by decide)), hf_cp_ne (fun q => absurd q.1 (by decide)), hf_cp_ne (fun q => absurd q.1 (by decide)), hf_cp_eq hk]
    rfl
  · rw [hf_cp_ne (fun q => absurd q.1 (by decide)), hf_cp_ne (fun q => absurd q.1 (by decide)), hf_cp_eq hk]
    rfl
  · rw [hf_cp_ne (fun q => absurd q.1 (by decide)), hf_cp_eq hk]
    rfl
  · rw [hf_cp_eq hk]
    rfl
  · rw [hf_cp_ne (fun q => by omega), hf_cp_ne (fun q => by omega), hf_cp_ne (fun q => by omega), hf_cp_ne (fun q => by omega), hf_cp_ne (fun q => by omega), hf_cp_ne (fun q => by omega), hf_cp_ne (fun q => by omega), hf_cp_ne (fun q => by omega), up_a (fun q => by omega), up_a (fun q => by omega), up_a (fun q => by omega), up_a (fun q => by omega), up_a (fun q => by omega), up_a (fun q => by omega)]
theorem cpy_17_164 (φ : hf_F) : CPY 17 164 φ (F_State_copyFrom_17_164 φ) := by
  unfold F_State_copyFrom_17_164
  refine ⟨fun k hk => ?_, fun k hk => ?_, fun k hk => ?_, fun k hk => ?_, fun k hk => ?_, fun k hk => ?_, fun k hk => ?_, fun k hk => ?_, fun k hk => ?_, fun a k ha => ?_⟩
  · rw [hf_cp_ne (fun q => absurd q.1 (by decide)), hf_cp_ne (fun q => absurd q.1 (by decide)), hf_cp_ne (fun q => absurd q.1 (by decide)), hf_cp_ne (fun q => absurd q.1 (by decide)), hf_cp_ne (fun q => absurd q.1 (by decide)), hf_cp_ne (fun q => absurd q.1 (by decide)), hf_cp_ne (fun q => absurd q.1 (by decide)), hf_cp_ne (fun q => absurd q.1 (by decide))]
    have h : k = 0 ∨ k = 1 ∨ k = 2 ∨ k = 3 ∨ k = 4 ∨ k = 5 := by omega
    rcases h with rfl | rfl | rfl | rfl | rfl | rfl <;> rfl
  · rw [hf_cp_ne (fun q => absurd q.1 (by decide)), hf_cp_ne (fun q => absurd q.1 (by decide)), hf_cp_ne (fun q => absurd q.1 (by decide)), hf_cp_ne (fun q => absurd q.1 (by decide)), hf_cp_ne (fun q => absurd q.1 (by decide)), hf_cp_ne (fun q => absurd q.1 (by decide)), hf_cp_ne (fun q => absurd q.1 (by decide)), hf_cp_eq hk]
    rfl
  · rw [hf_cp_ne (fun q => absurd q.1 (by decide)), hf_cp_ne (fun q => absurd q.1 (by decide)), hf_cp_ne (fun q => absurd q.1 (by decide)), hf_cp_ne (fun q => absurd q.1 (by decide)), hf_cp_ne (fun q => absurd q.1 (by decide)), hf_cp_ne (fun q => absurd q.1 (by decide)), hf_cp_eq hk]
    rfl
  · rw [hf_cp_ne (fun q => absurd q.1 (by decide)), hf_cp_ne (fun q => absurd q.1 (by decide)), hf_cp_ne (fun q => absurd q.1 (by decide)), hf_cp_ne (fun q => absurd q.1 (by decide)), hf_cp_ne (fun q => absurd q.1 (by decide)), hf_cp_eq hk]
    rfl
  · rw [hf_cp_ne (fun q => absurd q.1 (by decide)), hf_cp_ne (fun q => absurd q.1 (by decide)), hf_cp_ne (fun q => absurd q.1 (by decide)), hf_cp_ne (fun q => absurd q.1 (by decide)), hf_cp_eq hk]
    rfl
  · rw [hf_cp_ne (fun q => absurd q.1 (by decide)), hf_cp_ne (fun q => absurd q.1 (by decide)), hf_cp_ne (fun q => absurd q.1 (by decide)), hf_cp_eq hk]
    rfl
  · rw [hf_cp_ne (fun q => absurd q.1 (by decide)), hf_cp_ne (fun q => absurd q.1 (by decide)), hf_cp_eq hk]
    rfl
  · rw [hf_cp_ne (fun q => absurd q.1 (by decide)), hf_cp_eq hk]
    rfl
  · rw [hf_cp_eq hk]
    rfl
  · rw [hf_cp_ne (fun q => by omega), hf_cp_ne (fun q => by omega), hf_cp_ne (fun q => by omega), hf_cp_ne (fun q => by omega), hf_cp_ne (fun q => by omega), hf_cp_ne (fun q => by omega), hf_cp_ne (fun q => by omega), hf_cp_ne (fun q => by omega), up_a (fun q => by omega), up_a (fun q => by omega), up_a (fun q => by omega), up_a (fun q => by omega), up_a (fun q => by omega), up_a (fun q => by omega)]
theorem cpy_17_173 (φ : hf_F) : CPY 17 173 φ (F_State_copyFrom_17_173 φ) := by
  unfold F_State_copyFrom_17_173
  refine ⟨fun k hk => ?_, fun k hk => ?_, fun k hk => ?_, fun k hk => ?_, fun k hk => ?_, fun k hk => ?_, fun k hk => ?_, fun k hk => ?_, fun k hk => ?_, fun a k ha => ?_⟩
  · rw [hf_cp_ne (fun q => absurd q.1 (by decide)), hf_cp_ne (fun q => absurd q.1 (by decide)), hf_cp_ne (fun q => absurd q.1 (by decide)), hf_cp_ne (fun q => absurd q.1 (by decide)), hf_cp_ne (fun q => absurd q.1 (by decide)), hf_cp_ne (fun q => absurd q.1 (by decide)), hf_cp_ne (fun q => absurd q.1 (by decide)), hf_cp_ne (fun q => absurd q.1 (by decide))]
    have h : k = 0 ∨ k = 1 ∨ k = 2 ∨ k = 3 ∨ k = 4 ∨ k = 5 := by omega
    rcases h with rfl | rfl | rfl | rfl | rfl | rfl <;> rfl
  · rw [hf_cp_ne (fun q => absurd q.1 (by decide)), hf_cp_ne (fun q => absurd q.1 (by decide)), hf_cp_ne (fun q => absurd q.1 (by decide)), hf_cp_ne (fun q => absurd q.1 (by decide)), hf_cp_ne (fun q => absurd q.1 (by decide)), hf_cp_ne (fun q => absurd q.1 (by decide)), hf_cp_ne (fun q => absurd q.1 (by decide)), hf_cp_eq hk]
    rfl
  · rw [hf_cp_ne (fun q => absurd q.1 (by decide)), hf_cp_ne (fun q => absurd q.1 (by decide)), hf_cp_ne (fun q => absurd q.1 (by decide)), hf_cp_ne (fun q => absurd q.1 (by decide)), hf_cp_ne (fun q => absurd q.1 (by decide)), hf_cp_ne (fun q => absurd q.1 (by decide)), hf_cp_eq hk]
    rfl
  · rw [hf_cp_ne (fun q => absurd q.1 (by decide)), hf_cp_ne (fun q => absurd q.1 (by decide)), hf_cp_ne (fun q => absurd q.1 (by decide)), hf_cp_ne (fun q => absurd q.1 (by decide)), hf_cp_ne (fun q => absurd q.1 (by decide)), hf_cp_eq hk]
    rfl
  · rw [hf_cp_ne (fun q => absurd q.1 (by decide)), hf_cp_ne (fun q => absurd q.1 (by decide)), hf_cp_ne (fun q => absurd q.1 (by decide)), hf_cp_ne (fun q => absurd q.1 (by decide)), hf_cp_eq hk]
    rfl
  · rw [hf_cp_ne (fun q => absurd q.1 (by decide)), hf_cp_ne (fun q => absurd q.1 (by decide)), hf_cp_ne (fun q => absurd q.1 (by decide)), hf_cp_eq hk]
    rfl
  · rw [hf_cp_ne (fun q => absurd q.1 (by decide)), hf_cp_ne (fun q => absurd q.1 (by decide)), hf_cp_eq hk]
    rfl
  · rw [hf_cp_ne (fun q => absurd q.1 (by decide)), hf_cp_eq hk]
    rfl
  · rw [hf_cp_eq hk]
    rfl
  · rw [hf_cp_ne (fun q => by omega), hf_cp_ne (fun q => by omega), hf_cp_ne (fun q => by omega), hf_cp_ne (fun q => by omega), hf_cp_ne (fun q => by omega), hf_cp_ne (fun q => by omega), hf_cp_ne (fun q => by omega), hf_cp_ne (fun q => by omega), up_a (fun q => by omega), up_a (fun q => by omega), up_a (fun q => by omega), up_a (fun q => by omega), up_a (fun q => by omega), up_a (fun q => by omega)]
