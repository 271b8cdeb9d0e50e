/-! class and model in one heap -/
noncomputable def CKI (φ ψ : hf_F) : Prop := ∀ a k : Nat, k < 1000 → (57 ≤ a ∧ a ≤ 77) ∨ (83 ≤ a ∧ a ≤ 103) ∨ (a = 56 ∧ k = 3) ∨ (a = 82 ∧ k = 3) → ψ a k = φ a k
noncomputable def cki (c : Nat) : Bool := if c < 1000 then !((decide (57 ≤ c) && decide (c ≤ 77)) || (decide (83 ≤ c) && decide (c ≤ 103)) || decide (c = 56) || decide (c = 82)) else !((decide (57 ≤ c / 1000 - 1) && decide (c / 1000 - 1 ≤ 77)) || (decide (83 ≤ c / 1000 - 1) && decide (c / 1000 - 1 ≤ 103)) || (decide (c / 1000 - 1 = 56) && decide (c % 1000 = 3)) || (decide (c / 1000 - 1 = 82) && decide (c % 1000 = 3)))
theorem fr_ci {ms : List Nat} {φ ψ : hf_F} (h : Fr ms φ ψ) (ck : ms.all cki = true) : CKI φ ψ := by
  intro a k hk hq
  refine h a k ?_
  cases hm : ms.contains (vc a k) with
  | false => rfl
  | true =>
    exfalso
    have h2 := List.all_eq_true.mp ck (vc a k) (by simpa using hm)
    unfold vc at h2
    cases ho : g_obl.contains a with
    | false =>
      rw [ho, if_neg (by decide)] at h2
      unfold cki at h2
      rw [if_pos (by omega)] at h2
      simp only [Bool.not_eq_true', Bool.or_eq_false_iff, Bool.and_eq_false_iff, decide_eq_false_iff_not] at h2
      omega
    | true =>
      rw [ho, if_pos rfl] at h2
      unfold cki at h2
      rw [if_neg (by omega), show (1000 * (a + 1) + k) / 1000 - 1 = a by omega, show (1000 * (a + 1) + k) % 1000 = k by omega] at h2
      simp only [Bool.not_eq_true', Bool.or_eq_false_iff, Bool.and_eq_false_iff, decide_eq_false_iff_not] at h2
      omega
theorem img_w {φ ψ χ : hf_F} (h : IMG φ χ) (hc : CKI φ ψ) : IMG ψ χ := by
  obtain ⟨⟨g1, g2⟩, g3, g4⟩ := h
  refine ⟨⟨?_, ?_⟩, fun q => imo_f (g3 q) (fun a k q1 q2 => hc a k q1 (by omega)) (fun _ _ => rfl) (fun _ _ => rfl), fun q => imo_f (g4 q) (fun a k q1 q2 => hc a k q1 (by omega)) (fun _ _ => rfl) (fun _ _ => rfl)⟩
  · rw [hc 56 3 (by decide) (by omega)]; exact g1
  · rw [hc 82 3 (by decide) (by omega)]; exact g2
noncomputable def CKJ (χ ξ : hf_F) : Prop := (∀ k, ξ 205 k = χ 205 k) ∧ (∀ k, ξ 206 k = χ 206 k) ∧ ∀ k, ξ 207 k = χ 207 k
theorem img_m {φ χ ξ : hf_F} (h : IMG φ χ) (hc : CKJ χ ξ) : IMG φ ξ := by
  obtain ⟨⟨g1, g2⟩, g3, g4⟩ := h
  obtain ⟨c1, c2, c3⟩ := hc
  refine ⟨⟨by rw [c3]; exact g1, by rw [c3]; exact g2⟩, fun q => imo_f (g3 (by rw [c3] at q; exact q)) (fun _ _ _ _ => rfl) (fun k _ => c1 _) (fun k _ => c2 _), fun q => imo_f (g4 (by rw [c3] at q; exact q)) (fun _ _ _ _ => rfl) (fun k _ => c1 _) (fun k _ => c2 _)⟩
noncomputable def ckm (ms : List Nat) : Bool := ms.all (fun c => !(c = 194 || c = 197 || c = 199 || c = 193022))
noncomputable def ckj (ms : List Nat) : Bool := ms.all (fun c => !(c = 205 || c = 206 || c = 207))
theorem ck_no {ms : List Nat} {p : Nat → Bool} (h : ms.all p = true) {c : Nat} (hc : p c = false) : ms.contains c = false := by
  cases hm : ms.contains c with
  | false => rfl
  | true =>
    have := List.all_eq_true.mp h c (by simpa using hm)
    rw [hc] at this
    cases this
theorem fr_cm {ms : List Nat} {χ ξ : hf_F} (h : Fr ms χ ξ) (ck : ckm ms = true) : CKM χ ξ := by
  refine ⟨fun k _ => h 194 k ?_, fun k _ => h 197 k ?_, fun k => h 199 k ?_, h 192 22 ?_⟩
  · rw [vc_ar (by decide)]; exact ck_no ck (by decide)
  · rw [vc_ar (by decide)]; exact ck_no ck (by decide)
  · rw [vc_ar (by decide)]; exact ck_no ck (by decide)
  · exact ck_no ck (by decide)
theorem fr_cj {ms : List Nat} {χ ξ : hf_F} (h : Fr ms χ ξ) (ck : ckj ms = true) : CKJ χ ξ := by
  refine ⟨fun k => h 205 k ?_, fun k => h 206 k ?_, fun k => h 207 k ?_⟩
  · rw [vc_ar (by decide)]; exact ck_no ck (by decide)
  · rw [vc_ar (by decide)]; exact ck_no ck (by decide)
  · rw [vc_ar (by decide)]; exact ck_no ck (by decide)
/-- behind a call of the class: the model's cells are as they were -/
theorem sci_l {ms : List Nat} {φ ψ : hf_F} (hI : Inv φ) (h : SCI φ φ) (hF : Fr ms φ ψ) (c1 : ckm ms = true) (c2 : ckj ms = true) : SCI φ ψ := ⟨scr_m (cb_i hI) h.1 (fr_cm hF c1), img_m h.2 (fr_cj hF c2)⟩
/-- behind a call of the model: the class's cells are as they were -/
theorem sci_r {ms : List Nat} {ψ ξ : hf_F} (hI : Inv ξ) (h : SCI ψ ξ) (hF : Fr ms ψ ξ) (c1 : ms.all ckc = true) (c2 : ms.all cki = true) : SCI ξ ξ := ⟨scr_w (cb_i hI) h.1 (fr_ck hF c1), img_w h.2 (fr_ci hF c2)⟩
/-- a call of the class that leaves all of it, a call of the model that leaves all of it -/
theorem sci_c {ms : List Nat} {φ ψ χ : hf_F} (hI : Inv χ) (h : SCI φ χ) (hF : Fr ms φ ψ) (c1 : ms.all ckc = true) (c2 : ms.all cki = true) : SCI ψ χ := ⟨scr_w (cb_i hI) h.1 (fr_ck hF c1), img_w h.2 (fr_ci hF c2)⟩
theorem sci_m {ms : List Nat} {φ χ ξ : hf_F} (hI : Inv χ) (h : SCI φ χ) (hF : Fr ms χ ξ) (c1 : ckm ms = true) (c2 : ckj ms = true) : SCI φ ξ := ⟨scr_m (cb_i hI) h.1 (fr_cm hF c1), img_m h.2 (fr_cj hF c2)⟩
/-- an act that keeps SCR keeps the images -/
theorem sci_i {ms ns : List Nat} {φ ψ χ ξ : hf_F} (h : IMG φ χ) (hs : SCR ψ ξ) (hF : Fr ms φ ψ) (hG : Fr ns χ ξ) (c1 : ms.all cki = true) (c2 : ckj ns = true) : SCI ψ ξ := ⟨hs, img_m (img_w h (fr_ci hF c1)) (fr_cj hG c2)⟩
