/-! plans and sentences that are copied -/
noncomputable def PCY (p d : Nat) (φ ψ : hf_F) : Prop := (∀ k, k < 5 → ψ (p + 1) k = φ (d + 1) k) ∧ (∀ k, k < 40 → ψ (p + 2) k = φ (d + 2) k) ∧ (∀ k, k < 3 → ψ (p + 3) k = φ (d + 3) k) ∧ (∀ k, k < 3 → ψ (p + 4) k = φ (d + 4) k) ∧ (∀ k, k < 8 → ψ (p + 5) k = φ (d + 5) k) ∧ (∀ k, k < 8 → ψ (p + 6) k = φ (d + 6) k) ∧ (∀ k, k < 8 → ψ (p + 7) k = φ (d + 7) k) ∧ (∀ k, k < 8 → ψ (p + 8) k = φ (d + 8) k) ∧ (∀ k, k < 8 → ψ (p + 9) k = φ (d + 9) k) ∧ (∀ k, k < 8 → ψ (p + 10) k = φ (d + 10) k) ∧ (∀ k, k < 64 → ψ (p + 11) k = φ (d + 11) k) ∧ ∀ a k, ¬ (p < a ∧ a ≤ p + 11) → ψ a k = φ a k
noncomputable def SNC (b d : Nat) (φ ψ : hf_F) : Prop := (∀ k, 3 ≤ k → k < 6 → ψ b k = φ d k) ∧ (∀ k, k < 40 → ψ (b + 1) k = φ (d + 1) k) ∧ (∀ k, k < 40 → ψ (b + 2) k = φ (d + 2) k) ∧ (∀ k, k < 40 → ψ (b + 3) k = φ (d + 3) k) ∧ ∀ a k, ¬ (b ≤ a ∧ a ≤ b + 3) → ψ a k = φ a k
theorem nmf_g {f f' g : Nat → Int} {oa ob : Nat} {n : Int} (h : NMF f g oa ob n) (h1 : ∀ i : Nat, (i : Int) < n → f' (oa + i) = f (oa + i)) : NMF f' g oa ob n := by
  intro i hi
  rw [h1 i hi]
  exact h i hi
theorem plg_c {p d : Nat} {φ ψ : hf_F} {m nm : Nat → Int} (hb : CB m) (h : PCY p d φ ψ) (hP : PLG d φ m nm) : PLG p ψ m nm := by
  unfold CB at hb
  obtain ⟨c1, c2, c3, c4, c5, c6, c7, c8, c9, c10, c11, _⟩ := h
  obtain ⟨⟨a1, a2, a3, a4, a5⟩, ⟨n1, n2, n3, n4, n5⟩, r1, s1, l1, o1, k1⟩ := hP
  refine ⟨⟨?_, ?_, ?_, ?_, ?_⟩, ⟨nmf_g n1 (fun i hi => c2 _ (by omega)), nmf_g n2 (fun i hi => c2 _ (by omega)), nmf_g n3 (fun i hi => c2 _ (by omega)), nmf_g n4 (fun i hi => c2 _ (by omega)), nmf_g n5 (fun i hi => c2 _ (by omega))⟩, fun i hi => ?_, fun i hi => ?_, fun i hi => ?_, fun a b ha hb' => ?_, fun i hi => ?_⟩
  · rw [c1 0 (by decide)]; exact a1
  · rw [c1 1 (by decide)]; exact a2
  · rw [c1 2 (by decide)]; exact a3
  · rw [c1 3 (by decide)]; exact a4
  · rw [c1 4 (by decide)]; exact a5
  · rw [c3 i (by omega), c4 i (by omega)]; exact r1 i hi
  · rw [c5 i (by omega), c6 i (by omega), c7 i (by omega)]; exact s1 i hi
  · rw [c8 i (by omega), c9 i (by omega)]; exact l1 i hi
  · rw [c11 _ (by omega)]; exact o1 a b ha hb'
  · rw [c10 i hi]; exact k1 i hi
theorem pcy_5_31 (φ : hf_F) : PCY 5 31 φ (F_Plan_copyFrom_5_31 φ) := by
  unfold F_Plan_copyFrom_5_31
  refine ⟨fun k hk => ?_, fun k hk => ?_, fun k hk => ?_, fun k hk => ?_, fun k hk => ?_, fun k hk => ?_, fun k hk => ?_, fun k hk => ?_, fun k hk => ?_, fun k hk => ?_, fun k hk => ?_, fun a k ha => ?_⟩
  · rw [hf_cp_ne (fun q => absurd q.1 (by decide)), hf_cp_ne (fun q => absurd q.1 (by decide)), hf_cp_ne (fun q => absurd q.1 (by decide)), hf_cp_ne (fun q => absurd q.1 (by decide)), hf_cp_ne (fun q => absurd q.1 (by decide)), hf_cp_ne (fun q => absurd q.1 (by decide)), hf_cp_ne (fun q => absurd q.1 (by decide)), hf_cp_ne (fun q => absurd q.1 (by decide)), hf_cp_ne (fun q => absurd q.1 (by decide)), hf_cp_ne (fun q => absurd q.1 (by decide)), hf_cp_eq hk]
  · rw [hf_cp_ne (fun q => absurd q.1 (by decide)), hf_cp_ne (fun q => absurd q.1 (by decide)), hf_cp_ne (fun q => absurd q.1 (by decide)), hf_cp_ne (fun q => absurd q.1 (by decide)), hf_cp_ne (fun q => absurd q.1 (by decide)), hf_cp_ne (fun q => absurd q.1 (by decide)), hf_cp_ne (fun q => absurd q.1 (by decide)), hf_cp_ne (fun q => absurd q.1 (by decide)), hf_cp_ne (fun q => absurd q.1 (by decide)), hf_cp_eq hk]
    rfl
  · rw [hf_cp_ne (fun q => absurd q.1 (by decide)), hf_cp_ne (fun q => absurd q.1 (by decide)), hf_cp_ne (fun q => absurd q.1 (by decide)), hf_cp_ne (fun q => absurd q.1 (by decide)), hf_cp_ne (fun q => absurd q.1 (by decide)), hf_cp_ne (fun q => absurd q.1 (by decide)), hf_cp_ne (fun q => absurd q.1 (by decide)), hf_cp_ne (fun q => absurd q.1 (by decide)), hf_cp_eq hk]
    rfl
  · rw [hf_cp_ne (fun q => absurd q.1 (by decide)), hf_cp_ne (fun q => absurd q.1 (by decide)), hf_cp_ne (fun q => absurd q.1 (by decide)), hf_cp_ne (fun q => absurd q.1 (by decide)), hf_cp_ne (fun q => absurd q.1 (by decide)), hf_cp_ne (fun q => absurd q.1 (by decide)), hf_cp_ne (fun q => absurd q.1 (by decide)), hf_cp_eq hk]
    rfl
  · rw [hf_cp_ne (fun q => absurd q.1 (by decide)), hf_cp_ne (fun q => absurd q.1 (by decide)), hf_cp_ne (fun q => absurd q.1 (by decide)), hf_cp_ne (fun q => absurd q.1 (by decide)), hf_cp_ne (fun q => absurd q.1 (by decide)), hf_cp_ne (fun q => absurd q.1 (by decide)), hf_cp_eq hk]
    rfl
  · rw [hf_cp_ne (fun q => absurd q.1 (by decide)), hf_cp_ne (fun q => absurd q.1 (by decide)), hf_cp_ne (fun q => absurd q.1 (by decide)), hf_cp_ne (fun q => absurd q.1 (by decide)), hf_cp_ne (fun q => absurd q.1 (by decide)), hf_cp_eq hk]
    rfl
  · rw [hf_cp_ne (fun q => absurd q.1 (by decide)), hf_cp_ne (fun q => absurd q.1 (by decide)), hf_cp_ne (fun q => absurd q.1 (by decide)), hf_cp_ne (fun q => absurd q.1 (by decide)), hf_cp_eq hk]
    rfl
  · rw [hf_cp_ne (fun q => absurd q.1 (by decide)), hf_cp_ne (fun q => absurd q.1 (by decide)), hf_cp_ne (fun q => absurd q.1 (by decide)), hf_cp_eq hk]
    rfl
  · rw [hf_cp_ne (fun q => absurd q.1 (by decide)), hf_cp_ne (fun q => absurd q.1 (by decide)), hf_cp_eq hk]
    rfl
  · rw [hf_cp_ne (fun q => absurd q.1 (by decide)), hf_cp_eq hk]
    rfl
  · rw [hf_cp_eq hk]
    rfl
  · rw [hf_cp_ne (fun q => by omega), hf_cp_ne (fun q => by omega), hf_cp_ne (fun q => by omega), hf_cp_ne (fun q => by omega), hf_cp_ne (fun q => by omega), hf_cp_ne (fun q => by omega), hf_cp_ne (fun q => by omega), hf_cp_ne (fun q => by omega), hf_cp_ne (fun q => by omega), hf_cp_ne (fun q => by omega), hf_cp_ne (fun q => by omega)]
theorem pcy_5_57 (φ : hf_F) : PCY 5 57 φ (F_Plan_copyFrom_5_57 φ) := by
  unfold F_Plan_copyFrom_5_57
  refine ⟨fun k hk => ?_, fun k hk => ?_, fun k hk => ?_, fun k hk => ?_, fun k hk => ?_, fun k hk => ?_, fun k hk => ?_, fun k hk => ?_, fun k hk => ?_, fun k hk => ?_, fun k hk => ?_, fun a k ha => ?_⟩
  · rw [hf_cp_ne (fun q => absurd q.1 (by decide)), hf_cp_ne (fun q => absurd q.1 (by decide)), hf_cp_ne (fun q => absurd q.1 (by decide)), hf_cp_ne (fun q => absurd q.1 (by decide)), hf_cp_ne (fun q => absurd q.1 (by decide)), hf_cp_ne (fun q => absurd q.1 (by decide)), hf_cp_ne (fun q => absurd q.1 (by decide)), hf_cp_ne (fun q => absurd q.1 (by decide)), hf_cp_ne (fun q => absurd q.1 (by decide)), hf_cp_ne (fun q => absurd q.1 (by decide)), hf_cp_eq hk]
  · rw [hf_cp_ne (fun q => absurd q.1 (by decide)), hf_cp_ne (fun q => absurd q.1 (by decide)), hf_cp_ne (fun q => absurd q.1 (by decide)), hf_cp_ne (fun q => absurd q.1 (by decide)), hf_cp_ne (fun q => absurd q.1 (by decide)), hf_cp_ne (fun q => absurd q.1 (by decide)), hf_cp_ne (fun q => absurd q.1 (by decide)), hf_cp_ne (fun q => absurd q.1 (by decide)), hf_cp_ne (fun q => absurd q.1 (by decide)), hf_cp_eq hk]
    rfl
  · rw [hf_cp_ne (fun q => absurd q.1 (by decide)), hf_cp_ne (fun q => absurd q.1 (by decide)), hf_cp_ne (fun q => absurd q.1 (by decide)), hf_cp_ne (fun q => absurd q.1 (by decide)), hf_cp_ne (fun q => absurd q.1 (by decide)), hf_cp_ne (fun q => absurd q.1 (by decide)), hf_cp_ne (fun q => absurd q.1 (by decide)), hf_cp_ne (fun q => absurd q.1 (by decide)), hf_cp_eq hk]
    rfl
  · rw [hf_cp_ne (fun q => absurd q.1 (by decide)), hf_cp_ne (fun q => absurd q.1 (by decide)), hf_cp_ne (fun q => absurd q.1 (by decide)), hf_cp_ne (fun q => absurd q.1 (by decide)), hf_cp_ne (fun q => absurd q.1 (by decide)), hf_cp_ne (fun q => absurd q.1 (by decide)), hf_cp_ne (fun q => absurd q.1 (by decide)), hf_cp_eq hk]
    rfl
  · rw [hf_cp_ne (fun q => absurd q.1 (by decide)), hf_cp_ne (fun q => absurd q.1 (by decide)), hf_cp_ne (fun q => absurd q.1 (by decide)), hf_cp_ne (fun q => absurd q.1 (by decide)), hf_cp_ne (fun q => absurd q.1 (by decide)), hf_cp_ne (fun q => absurd q.1 (by decide)), hf_cp_eq hk]
    rfl
  · rw [hf_cp_ne (fun q => absurd q.1 (by decide)), hf_cp_ne (fun q => absurd q.1 (by decide)), hf_cp_ne (fun q => absurd q.1 (by decide)), hf_cp_ne (fun q => absurd q.1 (by decide)), hf_cp_ne (fun q => absurd q.1 (by decide)), hf_cp_eq hk]
    rfl
  · rw [hf_cp_ne (fun q => absurd q.1 (by decide)), hf_cp_ne (fun q => absurd q.1 (by decide)), hf_cp_ne (fun q => absurd q.1 (by decide)), hf_cp_ne (fun q => absurd q.1 (by decide)), hf_cp_eq hk]
    rfl
  · rw [hf_cp_ne (fun q => absurd q.1 (by decide)), hf_cp_ne (fun q => absurd q.1 (by decide)), hf_cp_ne (fun q => absurd q.1 (by decide)), hf_cp_eq hk]
    rfl
  · rw [hf_cp_ne (fun q => absurd q.1 (by decide)), hf_cp_ne (fun q => absurd q.1 (by decide)), hf_cp_eq hk]
    rfl
  · rw [hf_cp_ne (fun q => absurd q.1 (by decide)), hf_cp_eq hk]
    rfl
  · rw [hf_cp_eq hk]
    rfl
  · rw [hf_cp_ne (fun q => by omega), hf_cp_ne (fun q => by omega), hf_cp_ne (fun q => by omega), hf_cp_ne (fun q => by omega), hf_cp_ne (fun q => by omega), hf_cp_ne (fun q => by omega), hf_cp_ne (fun q => by omega), hf_cp_ne (fun q => by omega), hf_cp_ne (fun q => by omega), hf_cp_ne (fun q => by omega), hf_cp_ne (fun q => by omega)]
theorem pcy_5_83 (φ : hf_F) : PCY 5 83 φ (F_Plan_copyFrom_5_83 φ) := by
  unfold F_Plan_copyFrom_5_83
  refine ⟨fun k hk => ?_, fun k hk => ?_, fun k hk => ?_, fun k hk => ?_, fun k hk => ?_, fun k hk => ?_, fun k hk => ?_, fun k hk => ?_, fun k hk => ?_, fun k hk => ?_, fun k hk => ?_, fun a k ha => ?_⟩
  · rw [hf_cp_ne (fun q => absurd q.1 (by decide)), hf_cp_ne (fun q => absurd q.1 (by decide)), hf_cp_ne (fun q => absurd q.1 (by decide)), hf_cp_ne (fun q => absurd q.1 (by decide)), hf_cp_ne (fun q => absurd q.1 (by decide)), hf_cp_ne (fun q => absurd q.1 (by decide)), hf_cp_ne (fun q => absurd q.1 (by decide)), hf_cp_ne (fun q => absurd q.1 (by decide)), hf_cp_ne (fun q => absurd q.1 (by decide)), hf_cp_ne (fun q => absurd q.1 (by decide)), hf_cp_eq hk]
  · rw [hf_cp_ne (fun q => absurd q.1 (by decide)), hf_cp_ne (fun q => absurd q.1 (by decide)), hf_cp_ne (fun q => absurd q.1 (by decide)), hf_cp_ne (fun q => absurd q.1 (by decide)), hf_cp_ne (fun q => absurd q.1 (by decide)), hf_cp_ne (fun q => absurd q.1 (by decide)), hf_cp_ne (fun q => absurd q.1 (by decide)), hf_cp_ne (fun q => absurd q.1 (by decide)), hf_cp_ne (fun q => absurd q.1 (by decide)), hf_cp_eq hk]
    rfl
  · rw [hf_cp_ne (fun q => absurd q.1 (by decide)), hf_cp_ne (fun q => absurd q.1 (by decide)), hf_cp_ne (fun q => absurd q.1 (by decide)), hf_cp_ne (fun q => absurd q.1 (by decide)), hf_cp_ne (fun q => absurd q.1 (by decide)), hf_cp_ne (fun q => absurd q.1 (by decide)), hf_cp_ne (fun q => absurd q.1 (by decide)), hf_cp_ne (fun q => absurd q.1 (by decide)), hf_cp_eq hk]
    rfl
  · rw [hf_cp_ne (fun q => absurd q.1 (by decide)), hf_cp_ne (fun q => absurd q.1 (by decide)), hf_cp_ne (fun q => absurd q.1 (by decide)), hf_cp_ne (fun q => absurd q.1 (by decide)), hf_cp_ne (fun q => absurd q.1 (by decide)), hf_cp_ne (fun q => absurd q.1 (by decide)), hf_cp_ne (fun q => absurd q.1 (by decide)), hf_cp_eq hk]
    rfl
  · rw [hf_cp_ne (fun q => absurd q.1 (by decide)), hf_cp_ne (fun q => absurd q.1 (by decide)), hf_cp_ne (fun q => absurd q.1 (by decide)), hf_cp_ne (fun q => absurd q.1 (by decide)), hf_cp_ne (fun q => absurd q.1 (by decide)), hf_cp_ne (fun q => absurd q.1 (by decide)), hf_cp_eq hk]
    rfl
  · rw [hf_cp_ne (fun q => absurd q.1 (by decide)), hf_cp_ne (fun q => absurd q.1 (by decide)), hf_cp_ne (fun q => absurd q.1 (by decide)), hf_cp_ne (fun q => absurd q.1 (by decide)), hf_cp_ne (fun q => absurd q.1 (by decide)), hf_cp_eq hk]
    rfl
  · rw [hf_cp_ne (fun q => absurd q.1 (by decide)), hf_cp_ne (fun q => absurd q.1 (by decide)), hf_cp_ne (fun q => absurd q.1 (by decide)), hf_cp_ne (fun q => absurd q.1 (by decide)), hf_cp_eq hk]
    rfl
  · rw [hf_cp_ne (fun q => absurd q.1 (by decide)), hf_cp_ne (fun q => absurd q.1 (by decide)), hf_cp_ne (fun q => absurd q.1 (by decide)), hf_cp_eq hk]
    rfl
  · rw [hf_cp_ne (fun q => absurd q.1 (by decide)), hf_cp_ne (fun q => absurd q.1 (by decide)), hf_cp_eq hk]
    rfl
  · rw [hf_cp_ne (fun q => absurd q.1 (by decide)), hf_cp_eq hk]
    rfl
  · rw [hf_cp_eq hk]
    rfl
  · rw [hf_cp_ne (fun q => by omega), hf_cp_ne (fun q => by omega), hf_cp_ne (fun q => by omega), hf_cp_ne (fun q => by omega), hf_cp_ne (fun q => by omega), hf_cp_ne (fun q => by omega), hf_cp_ne (fun q => by omega), hf_cp_ne (fun q => by omega), hf_cp_ne (fun q => by omega), hf_cp_ne (fun q => by omega), hf_cp_ne (fun q => by omega)]
theorem pcy_57_5 (φ : hf_F) : PCY 57 5 φ (F_Plan_copyFrom_57_5 φ) := by
  unfold F_Plan_copyFrom_57_5
  refine ⟨fun k hk => ?_, fun k hk => ?_, fun k hk => ?_, fun k hk => ?_, fun k hk => ?_, fun k hk => ?_, fun k hk => ?_, fun k hk => ?_, fun k hk => ?_, fun k hk => ?_, fun k hk => ?_, fun a k ha => ?_⟩
  · rw [hf_cp_ne (fun q => absurd q.1 (by decide)), hf_cp_ne (fun q => absurd q.1 (by decide)), hf_cp_ne (fun q => absurd q.1 (by decide)), hf_cp_ne (fun q => absurd q.1 (by decide)), hf_cp_ne (fun q => absurd q.1 (by decide)), hf_cp_ne (fun q => absurd q.1 (by decide)), hf_cp_ne (fun q => absurd q.1 (by decide)), hf_cp_ne (fun q => absurd q.1 (by decide)), hf_cp_ne (fun q => absurd q.1 (by decide)), hf_cp_ne (fun q => absurd q.1 (by decide)), hf_cp_eq hk]
  · rw [hf_cp_ne (fun q => absurd q.1 (by decide)), hf_cp_ne (fun q => absurd q.1 (by decide)), hf_cp_ne (fun q => absurd q.1 (by decide)), hf_cp_ne (fun q => absurd q.1 (by decide)), hf_cp_ne (fun q => absurd q.1 (by decide)), hf_cp_ne (fun q => absurd q.1 (by decide)), hf_cp_ne (fun q => absurd q.1 (by decide)), hf_cp_ne (fun q => absurd q.1 (by decide)), hf_cp_ne (fun q => absurd q.1 (by decide)), hf_cp_eq hk]
    rfl
  · rw [hf_cp_ne (fun q => absurd q.1 (by decide)), hf_cp_ne (fun q => absurd q.1 (by decide)), hf_cp_ne (fun q => absurd q.1 (by decide)), hf_cp_ne (fun q => absurd q.1 (by decide)), hf_cp_ne (fun q => absurd q.1 (by decide)), hf_cp_ne (fun q => absurd q.1 (by decide)), hf_cp_ne (fun q => absurd q.1 (by decide)), hf_cp_ne (fun q => absurd q.1 (by decide)), hf_cp_eq hk]
    rfl
  · rw [hf_cp_ne (fun q => absurd q.1 (by decide)), hf_cp_ne (fun q => absurd q.1 (by decide)), hf_cp_ne (fun q => absurd q.1 (by decide)), hf_cp_ne (fun q => absurd q.1 (by decide)), hf_cp_ne (fun q => absurd q.1 (by decide)), hf_cp_ne (fun q => absurd q.1 (by decide)), hf_cp_ne (fun q => absurd q.1 (by decide)), hf_cp_eq hk]
    rfl
  · rw [hf_cp_ne (fun q => absurd q.1 (by decide)), hf_cp_ne (fun q => absurd q.1 (by decide)), hf_cp_ne (fun q => absurd q.1 (by decide)), hf_cp_ne (fun q => absurd q.1 (by decide)), hf_cp_ne (fun q => absurd q.1 (by decide)), hf_cp_ne (fun q => absurd q.1 (by decide)), hf_cp_eq hk]
    rfl
  · rw [hf_cp_ne (fun q => absurd q.1 (by decide)), hf_cp_ne (fun q => absurd q.1 (by decide)), hf_cp_ne (fun q => absurd q.1 (by decide)), hf_cp_ne (fun q => absurd q.1 (by decide)), hf_cp_ne (fun q => absurd q.1 (by decide)), hf_cp_eq hk]
    rfl
  · rw [hf_cp_ne (fun q => absurd q.1 (by decide)), hf_cp_ne (fun q => absurd q.1 (by decide)), hf_cp_ne (fun q => absurd q.1 (by decide)), hf_cp_ne (fun q => absurd q.1 (by decide)), hf_cp_eq hk]
    rfl
  · rw [hf_cp_ne (fun q => absurd q.1 (by decide)), hf_cp_ne (fun q => absurd q.1 (by decide)), hf_cp_ne (fun q => absurd q.1 (by decide)), hf_cp_eq hk]
    rfl
  · rw [hf_cp_ne (fun q => absurd q.1 (by decide)), hf_cp_ne (fun q => absurd q.1 (by decide)), hf_cp_eq hk]
    rfl
  · rw [hf_cp_ne (fun q => absurd q.1 (by decide)), hf_cp_eq hk]
    rfl
  · rw [hf_cp_eq hk]
    rfl
  · rw [hf_cp_ne (fun q => by omega), hf_cp_ne (fun q => by omega), hf_cp_ne (fun q => by omega), hf_cp_ne (fun q => by omega), hf_cp_ne (fun q => by omega), hf_cp_ne (fun q => by omega), hf_cp_ne (fun q => by omega), hf_cp_ne (fun q => by omega), hf_cp_ne (fun q => by omega), hf_cp_ne (fun q => by omega), hf_cp_ne (fun q => by omega)]
theorem pcy_83_5 (φ : hf_F) : PCY 83 5 φ (F_Plan_copyFrom_83_5 φ) := by
  unfold F_Plan_copyFrom_83_5
  refine ⟨fun k hk => ?_, fun k hk => ?_, fun k hk => ?_, fun k hk => ?_, fun k hk => ?_, fun k hk => ?_, fun k hk => ?_, fun k hk => ?_, fun k hk => ?_, fun k hk => ?_, fun k hk => ?_, fun a k ha => ?_⟩
  · rw [hf_cp_ne (fun q => absurd q.1 (by decide)), hf_cp_ne (fun q => absurd q.1 (by decide)), hf_cp_ne (fun q => absurd q.1 (by decide)), hf_cp_ne (fun q => absurd q.1 (by decide)), hf_cp_ne (fun q => absurd q.1 (by decide)), hf_cp_ne (fun q => absurd q.1 (by decide)), hf_cp_ne (fun q => absurd q.1 (by decide)), hf_cp_ne (fun q => absurd q.1 (by decide)), hf_cp_ne (fun q => absurd q.1 (by decide)), hf_cp_ne (fun q => absurd q.1 (by decide)), hf_cp_eq hk]
  · rw [hf_cp_ne (fun q => absurd q.1 (by decide)), hf_cp_ne (fun q => absurd q.1 (by decide)), hf_cp_ne (fun q => absurd q.1 (by decide)), hf_cp_ne (fun q => absurd q.1 (by decide)), hf_cp_ne (fun q => absurd q.1 (by decide)), hf_cp_ne (fun q => absurd q.1 (by decide)), hf_cp_ne (fun q => absurd q.1 (by decide)), hf_cp_ne (fun q => absurd q.1 (by decide)), hf_cp_ne (fun q => absurd q.1 (by decide)), hf_cp_eq hk]
    rfl
  · rw [hf_cp_ne (fun q => absurd q.1 (by decide)), hf_cp_ne (fun q => absurd q.1 (by decide)), hf_cp_ne (fun q => absurd q.1 (by decide)), hf_cp_ne (fun q => absurd q.1 (by decide)), hf_cp_ne (fun q => absurd q.1 (by decide)), hf_cp_ne (fun q => absurd q.1 (by decide)), hf_cp_ne (fun q => absurd q.1 (by decide)), hf_cp_ne (fun q => absurd q.1 (by decide)), hf_cp_eq hk]
    rfl
  · rw [hf_cp_ne (fun q => absurd q.1 (by decide)), hf_cp_ne (fun q => absurd q.1 (by decide)), hf_cp_ne (fun q => absurd q.1 (by decide)), hf_cp_ne (fun q => absurd q.1 (by decide)), hf_cp_ne (fun q => absurd q.1 (by decide)), hf_cp_ne (fun q => absurd q.1 (by decide)), hf_cp_ne (fun q => absurd q.1 (by decide)), hf_cp_eq hk]
    rfl
  · rw [hf_cp_ne (fun q => absurd q.1 (by decide)), hf_cp_ne (fun q => absurd q.1 (by decide)), hf_cp_ne (fun q => absurd q.1 (by decide)), hf_cp_ne (fun q => absurd q.1 (by decide)), hf_cp_ne (fun q => absurd q.1 (by decide)), hf_cp_ne (fun q => absurd q.1 (by decide)), hf_cp_eq hk]
    rfl
  · rw [hf_cp_ne (fun q => absurd q.1 (by decide)), hf_cp_ne (fun q => absurd q.1 (by decide)), hf_cp_ne (fun q => absurd q.1 (by decide)), hf_cp_ne (fun q => absurd q.1 (by decide)), hf_cp_ne (fun q => absurd q.1 (by decide)), hf_cp_eq hk]
    rfl
  · rw [hf_cp_ne (fun q => absurd q.1 (by decide)), hf_cp_ne (fun q => absurd q.1 (by decide)), hf_cp_ne (fun q => absurd q.1 (by decide)), hf_cp_ne (fun q => absurd q.1 (by decide)), hf_cp_eq hk]
    rfl
  · rw [hf_cp_ne (fun q => absurd q.1 (by decide)), hf_cp_ne (fun q => absurd q.1 (by decide)), hf_cp_ne (fun q => absurd q.1 (by decide)), hf_cp_eq hk]
    rfl
  · rw [hf_cp_ne (fun q => absurd q.1 (by decide)), hf_cp_ne (fun q => absurd q.1 (by decide)), hf_cp_eq hk]
    rfl
  · rw [hf_cp_ne (fun q => absurd q.1 (by decide)), hf_cp_eq hk]
    rfl
  · rw [hf_cp_eq hk]
    rfl
  · rw [hf_cp_ne (fun q => by omega), hf_cp_ne (fun q => by omega), hf_cp_ne (fun q => by omega), hf_cp_ne (fun q => by omega), hf_cp_ne (fun q => by omega), hf_cp_ne (fun q => by omega), hf_cp_ne (fun q => by omega), hf_cp_ne (fun q => by omega), hf_cp_ne (fun q => by omega), hf_cp_ne (fun q => by omega), hf_cp_ne (fun q => by omega)]
theorem snc_26_52 (φ : hf_F) : SNC 26 52 φ (F_Sentence_copyFrom_26_52 φ) := by
  unfold F_Sentence_copyFrom_26_52
  refine ⟨fun k h3 hk => ?_, fun k hk => ?_, fun k hk => ?_, fun k hk => ?_, fun a k ha => ?_⟩
  · have h : k = 3 ∨ k = 4 ∨ k = 5 := by omega
    rcases h with rfl | rfl | rfl <;> rfl
  · rw [up_a (by decide), up_a (by decide), up_a (by decide), hf_cp_ne (fun q => absurd q.1 (by decide)), hf_cp_ne (fun q => absurd q.1 (by decide)), hf_cp_eq hk]
  · rw [up_a (by decide), up_a (by decide), up_a (by decide), hf_cp_ne (fun q => absurd q.1 (by decide)), hf_cp_eq hk]
    rfl
  · rw [up_a (by decide), up_a (by decide), up_a (by decide), hf_cp_eq hk]
    rfl
  · rw [up_a (fun q => by omega), up_a (fun q => by omega), up_a (fun q => by omega), hf_cp_ne (fun q => by omega), hf_cp_ne (fun q => by omega), hf_cp_ne (fun q => by omega)]
theorem snc_26_78 (φ : hf_F) : SNC 26 78 φ (F_Sentence_copyFrom_26_78 φ) := by
  unfold F_Sentence_copyFrom_26_78
  refine ⟨fun k h3 hk => ?_, fun k hk => ?_, fun k hk => ?_, fun k hk => ?_, fun a k ha => ?_⟩
  · have h : k = 3 ∨ k = 4 ∨ k = 5 := by omega
    rcases h with rfl | rfl | rfl <;> rfl
  · rw [up_a (by decide), up_a (by decide), up_a (by decide), hf_cp_ne (fun q => absurd q.1 (by decide)), hf_cp_ne (fun q => absurd q.1 (by decide)), hf_cp_eq hk]
  · rw [up_a (by decide), up_a (by decide), up_a (by decide), hf_cp_ne (fun q => absurd q.1 (by decide)), hf_cp_eq hk]
    rfl
  · rw [up_a (by decide), up_a (by decide), up_a (by decide), hf_cp_eq hk]
    rfl
  · rw [up_a (fun q => by omega), up_a (fun q => by omega), up_a (fun q => by omega), hf_cp_ne (fun q => by omega), hf_cp_ne (fun q => by omega), hf_cp_ne (fun q => by omega)]
theorem snc_26_104 (φ : hf_F) : SNC 26 104 φ (F_Sentence_copyFrom_26_104 φ) := by
  unfold F_Sentence_copyFrom_26_104
  refine ⟨fun k h3 hk => ?_, fun k hk => ?_, fun k hk => ?_, fun k hk => ?_, fun a k ha => ?_⟩
  · have h : k = 3 ∨ k = 4 ∨ k = 5 := by omega
    rcases h with rfl | rfl | rfl <;> rfl
  · rw [up_a (by decide), up_a (by decide), up_a (by decide), hf_cp_ne (fun q => absurd q.1 (by decide)), hf_cp_ne (fun q => absurd q.1 (by decide)), hf_cp_eq hk]
  · rw [up_a (by decide), up_a (by decide), up_a (by decide), hf_cp_ne (fun q => absurd q.1 (by decide)), hf_cp_eq hk]
    rfl
  · rw [up_a (by decide), up_a (by decide), up_a (by decide), hf_cp_eq hk]
    rfl
  · rw [up_a (fun q => by omega), up_a (fun q => by omega), up_a (fun q => by omega), hf_cp_ne (fun q => by omega), hf_cp_ne (fun q => by omega), hf_cp_ne (fun q => by omega)]
theorem snc_78_26 (φ : hf_F) : SNC 78 26 φ (F_Sentence_copyFrom_78_26 φ) := by
  unfold F_Sentence_copyFrom_78_26
  refine ⟨fun k h3 hk => ?_, fun k hk => ?_, fun k hk => ?_, fun k hk => ?_, fun a k ha => ?_⟩
  · have h : k = 3 ∨ k = 4 ∨ k = 5 := by omega
    rcases h with rfl | rfl | rfl <;> rfl
  · rw [up_a (by decide), up_a (by decide), up_a (by decide), hf_cp_ne (fun q => absurd q.1 (by decide)), hf_cp_ne (fun q => absurd q.1 (by decide)), hf_cp_eq hk]
  · rw [up_a (by decide), up_a (by decide), up_a (by decide), hf_cp_ne (fun q => absurd q.1 (by decide)), hf_cp_eq hk]
    rfl
  · rw [up_a (by decide), up_a (by decide), up_a (by decide), hf_cp_eq hk]
    rfl
  · rw [up_a (fun q => by omega), up_a (fun q => by omega), up_a (fun q => by omega), hf_cp_ne (fun q => by omega), hf_cp_ne (fun q => by omega), hf_cp_ne (fun q => by omega)]
theorem snc_104_26 (φ : hf_F) : SNC 104 26 φ (F_Sentence_copyFrom_104_26 φ) := by
  unfold F_Sentence_copyFrom_104_26
  refine ⟨fun k h3 hk => ?_, fun k hk => ?_, fun k hk => ?_, fun k hk => ?_, fun a k ha => ?_⟩
  · have h : k = 3 ∨ k = 4 ∨ k = 5 := by omega
    rcases h with rfl | rfl | rfl <;> rfl
  · rw [up_a (by decide), up_a (by decide), up_a (by decide), hf_cp_ne (fun q => absurd q.1 (by decide)), hf_cp_ne (fun q => absurd q.1 (by decide)), hf_cp_eq hk]
  · rw [up_a (by decide), up_a (by decide), up_a (by decide), hf_cp_ne (fun q => absurd q.1 (by decide)), hf_cp_eq hk]
    rfl
  · rw [up_a (by decide), up_a (by decide), up_a (by decide), hf_cp_eq hk]
    rfl
  · rw [up_a (fun q => by omega), up_a (fun q => by omega), up_a (fun q => by omega), hf_cp_ne (fun q => by omega), hf_cp_ne (fun q => by omega), hf_cp_ne (fun q => by omega)]
theorem scn_4_30 (φ : hf_F) : ∃ ψ1 ψ2 : hf_F, PCY 5 31 φ ψ1 ∧ CPY 17 43 ψ1 ψ2 ∧ SNC 26 52 ψ2 (F_Scene_copyFrom_4_30 φ) := ⟨_, _, pcy_5_31 φ, cpy_17_43 _, snc_26_52 _⟩
theorem scn_4_56 (φ : hf_F) : ∃ ψ1 ψ2 : hf_F, PCY 5 57 φ ψ1 ∧ CPY 17 69 ψ1 ψ2 ∧ SNC 26 78 ψ2 (F_Scene_copyFrom_4_56 φ) := ⟨_, _, pcy_5_57 φ, cpy_17_69 _, snc_26_78 _⟩
theorem scn_4_82 (φ : hf_F) : ∃ ψ1 ψ2 : hf_F, PCY 5 83 φ ψ1 ∧ CPY 17 95 ψ1 ψ2 ∧ SNC 26 104 ψ2 (F_Scene_copyFrom_4_82 φ) := ⟨_, _, pcy_5_83 φ, cpy_17_95 _, snc_26_104 _⟩
theorem scn_56_4 (φ : hf_F) : ∃ ψ1 ψ2 : hf_F, PCY 57 5 φ ψ1 ∧ CPY 69 17 ψ1 ψ2 ∧ SNC 78 26 ψ2 (F_Scene_copyFrom_56_4 φ) := ⟨_, _, pcy_57_5 φ, cpy_69_17 _, snc_78_26 _⟩
theorem scn_82_4 (φ : hf_F) : ∃ ψ1 ψ2 : hf_F, PCY 83 5 φ ψ1 ∧ CPY 95 17 ψ1 ψ2 ∧ SNC 104 26 ψ2 (F_Scene_copyFrom_82_4 φ) := ⟨_, _, pcy_83_5 φ, cpy_95_17 _, snc_104_26 _⟩
