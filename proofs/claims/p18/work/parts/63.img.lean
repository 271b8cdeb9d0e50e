/-! images -/
noncomputable def IMO (φ χ : hf_F) (p b i : Nat) : Prop := PLG p φ (fun k => χ 205 (361 * i + k)) (fun k => χ 206 (33 * i + k)) ∧ STG b φ (fun k => χ 205 (361 * i + k)) (fun k => χ 205 (361 * i + k)) ∧ TKB (fun k => χ 205 (361 * i + k)) ∧ CB (fun k => χ 205 (361 * i + k))
noncomputable def IMG (φ χ : hf_F) : Prop := (φ 56 3 = χ 207 0 ∧ φ 82 3 = χ 207 1) ∧ (¬ χ 207 0 = 0 → IMO φ χ 57 69 0) ∧ (¬ χ 207 1 = 0 → IMO φ χ 83 95 1)
theorem imo_f {φ χ φ' χ' : hf_F} {p b i : Nat} (h : IMO φ χ p b i) (h1 : ∀ a k : Nat, k < 1000 → (p < a ∧ a ≤ p + 11) ∨ (b ≤ a ∧ a ≤ b + 8) → φ' a k = φ a k) (h2 : ∀ k, k < 361 → χ' 205 (361 * i + k) = χ 205 (361 * i + k)) (h3 : ∀ k, k < 33 → χ' 206 (33 * i + k) = χ 206 (33 * i + k)) : IMO φ' χ' p b i := by
  obtain ⟨hP, hS, hT, hb⟩ := h
  have hr : SRB (fun k => χ 205 (361 * i + k)) := srb_s hb hP.2.2.2.1
  have hbb := hb
  unfold CB at hbb
  dsimp only at hbb
  refine ⟨plg_f (plg_w hb (fun a k q1 q2 q3 => h1 a k q1 (by omega)) hP) hb (fun _ _ _ => rfl) (fun k hk => h2 k (by omega)) h3, stg_o (stg_w hbb.2.1.2 (fun a k q1 q2 q3 => h1 a k q1 (by omega)) hS) hb (fun _ _ _ => rfl) (fun k hk => h2 k (by omega)) (fun k _ hk => h2 k (by omega)) hr, ?_, ?_⟩
  · exact tkb_g hT (fun k q => h2 k (by omega))
  · have k0 := h2 0 (by decide)
    have k1 := h2 1 (by decide)
    have k2 := h2 2 (by decide)
    have k3 := h2 3 (by decide)
    have k4 := h2 4 (by decide)
    unfold CB at hb ⊢
    dsimp only at hb ⊢
    rw [k0, k1, k2, k3, k4]; exact hb
theorem img_0 {φ χ : hf_F} (hb : CB (χ 194)) (h : SCR φ χ) {ξ : hf_F} (e1 : ∀ k, k < 361 → ξ 205 (361 * 0 + k) = χ 194 k) (e2 : ∀ k, k < 33 → ξ 206 (33 * 0 + k) = χ 197 k) : IMO (hf_up (F_Scene_copyFrom_56_4 φ) 56 3 1) ξ 57 69 0 := by
  have hr := scr_srb hb h
  obtain ⟨ψ1, ψ2, q1, q2, q3⟩ := scn_56_4 φ
  have o1 : ∀ a k, ¬ (57 < a ∧ a ≤ 57 + 11) → ψ1 a k = φ a k := q1.2.2.2.2.2.2.2.2.2.2.2
  have o2 : ∀ a k, ¬ (69 ≤ a ∧ a ≤ 69 + 8) → ψ2 a k = ψ1 a k := q2.2.2.2.2.2.2.2.2.2
  have o3 : ∀ a k, ¬ (78 ≤ a ∧ a ≤ 78 + 3) → F_Scene_copyFrom_56_4 φ a k = ψ2 a k := q3.2.2.2.2
  have o4 : ∀ a k, ¬ (78 ≤ a ∧ a ≤ 78 + 3) → ¬ a = 56 → hf_up (F_Scene_copyFrom_56_4 φ) 56 3 1 a k = ψ2 a k := fun a k h1 h2 => by rw [up_a h2, o3 a k h1]
  have hbb := hb
  unfold CB at hbb
  have c1 : ∀ k, k < 99 → ξ 205 (361 * 0 + k) = χ 194 k := fun k hk => e1 k (by omega)
  have c3 : ∀ k, 99 ≤ k → k < 180 → ξ 205 (361 * 0 + k) = χ 194 k := fun k _ hk => e1 k (by omega)
  have hS1 : STG 69 ψ2 (χ 194) (χ 194) := stg_c (by omega) q2 (stg_o h.2.1 hb (fun a k q => o1 a k (by omega)) (fun _ _ => rfl) (fun _ _ _ => rfl) hr)
  refine ⟨plg_f (plg_c hb q1 h.1) hb (fun a k q => (o4 a k (by omega) (by omega)).trans (o2 a k (by omega))) c1 e2, stg_o hS1 hb (fun a k q => o4 a k (by omega) (by omega)) c1 c3 hr, ?_, ?_⟩
  · exact tkb_g h.2.2.2 (fun k q => c3 k (by omega) (by omega))
  · have k0 := c1 0 (by decide)
    have k1 := c1 1 (by decide)
    have k2 := c1 2 (by decide)
    have k3 := c1 3 (by decide)
    have k4 := c1 4 (by decide)
    unfold CB at hb ⊢
    rw [← k0, ← k1, ← k2, ← k3, ← k4] at hb
    exact hb
theorem imf_0 {φ : hf_F} {a k : Nat} (h : ¬ (56 ≤ a ∧ a ≤ 56 + 25)) : hf_up (F_Scene_copyFrom_56_4 φ) 56 3 1 a k = φ a k := by
  obtain ⟨ψ1, ψ2, q1, q2, q3⟩ := scn_56_4 φ
  have o1 : ∀ a k, ¬ (57 < a ∧ a ≤ 57 + 11) → ψ1 a k = φ a k := q1.2.2.2.2.2.2.2.2.2.2.2
  have o2 : ∀ a k, ¬ (69 ≤ a ∧ a ≤ 69 + 8) → ψ2 a k = ψ1 a k := q2.2.2.2.2.2.2.2.2.2
  have o3 : ∀ a k, ¬ (78 ≤ a ∧ a ≤ 78 + 3) → F_Scene_copyFrom_56_4 φ a k = ψ2 a k := q3.2.2.2.2
  rw [up_a (by omega), o3 a k (by omega), o2 a k (by omega), o1 a k (by omega)]
theorem rst_0 {φ χ ξ : hf_F} (hh : HRW φ) (h : IMO φ χ 57 69 0) (e1 : ∀ k, k < 361 → ξ 194 k = χ 205 (361 * 0 + k)) (e2 : ∀ k, k < 33 → ξ 197 k = χ 206 (33 * 0 + k)) (e3 : ξ 192 22 = 0) : SCR (hf_up (F_Scene_copyFrom_4_56 φ) 108 1 0) ξ ∧ CB (ξ 194) := by
  obtain ⟨hP, hS, hT, hb⟩ := h
  obtain ⟨ψ1, ψ2, q1, q2, q3⟩ := scn_4_56 φ
  have o1 : ∀ a k, ¬ (5 < a ∧ a ≤ 5 + 11) → ψ1 a k = φ a k := q1.2.2.2.2.2.2.2.2.2.2.2
  have o2 : ∀ a k, ¬ (17 ≤ a ∧ a ≤ 17 + 8) → ψ2 a k = ψ1 a k := q2.2.2.2.2.2.2.2.2.2
  have o3 : ∀ a k, ¬ (26 ≤ a ∧ a ≤ 26 + 3) → F_Scene_copyFrom_4_56 φ a k = ψ2 a k := q3.2.2.2.2
  have o4 : ∀ a k, ¬ (26 ≤ a ∧ a ≤ 29) → ¬ a = 108 → hf_up (F_Scene_copyFrom_4_56 φ) 108 1 0 a k = ψ2 a k := fun a k h1 h2 => by rw [up_a h2, o3 a k (by omega)]
  have o5 : ∀ k, hf_up (F_Scene_copyFrom_4_56 φ) 108 1 0 109 k = φ 109 k := fun k => by rw [o4 _ _ (by omega) (by omega), o2 _ _ (by omega), o1 _ _ (by omega)]
  have hr : SRB (fun k => χ 205 (361 * 0 + k)) := srb_s hb hP.2.2.2.1
  have hbb := hb
  unfold CB at hbb
  dsimp only at hbb
  have c1 : ∀ k, k < 99 → ξ 194 k = χ 205 (361 * 0 + k) := fun k hk => e1 k (by omega)
  have c3 : ∀ k, 99 ≤ k → k < 180 → ξ 194 k = χ 205 (361 * 0 + k) := fun k _ hk => e1 k (by omega)
  have hS1 : STG 17 ψ2 (fun k => χ 205 (361 * 0 + k)) (fun k => χ 205 (361 * 0 + k)) := stg_c hbb.2.1.2 q2 (stg_o hS hb (fun a k q => o1 a k (by omega)) (fun _ _ => rfl) (fun _ _ _ => rfl) hr)
  refine ⟨⟨plg_f (plg_c hb q1 hP) hb (fun a k q => (o4 a k (by omega) (by omega)).trans (o2 a k (by omega))) c1 e2, stg_o hS1 hb (fun a k q => o4 a k (by omega) (by omega)) c1 c3 hr, his_0 ⟨fun i hi => ?_, fun i j hi hj hij => ?_⟩ hf_up_eq e3, ?_⟩, ?_⟩
  · rw [o5]; exact hh.1 i hi
  · rw [o5, o5] at hij; exact hh.2 i j hi hj hij
  · exact tkb_g hT (fun k q => c3 k (by omega) (by omega))
  · unfold CB
    rw [c1 0 (by decide), c1 1 (by decide), c1 2 (by decide), c1 3 (by decide), c1 4 (by decide)]
    exact hb
theorem rsf_0 {φ : hf_F} {a k : Nat} (h : ¬ (5 ≤ a ∧ a ≤ 29)) (h2 : ¬ (a = 108 ∧ k = 1)) : hf_up (F_Scene_copyFrom_4_56 φ) 108 1 0 a k = φ a k := by
  obtain ⟨ψ1, ψ2, q1, q2, q3⟩ := scn_4_56 φ
  have o1 : ∀ a k, ¬ (5 < a ∧ a ≤ 5 + 11) → ψ1 a k = φ a k := q1.2.2.2.2.2.2.2.2.2.2.2
  have o2 : ∀ a k, ¬ (17 ≤ a ∧ a ≤ 17 + 8) → ψ2 a k = ψ1 a k := q2.2.2.2.2.2.2.2.2.2
  have o3 : ∀ a k, ¬ (26 ≤ a ∧ a ≤ 26 + 3) → F_Scene_copyFrom_4_56 φ a k = ψ2 a k := q3.2.2.2.2
  rw [hf_up_ne h2, o3 a k (by omega), o2 a k (by omega), o1 a k (by omega)]
theorem img_1 {φ χ : hf_F} (hb : CB (χ 194)) (h : SCR φ χ) {ξ : hf_F} (e1 : ∀ k, k < 361 → ξ 205 (361 * 1 + k) = χ 194 k) (e2 : ∀ k, k < 33 → ξ 206 (33 * 1 + k) = χ 197 k) : IMO (hf_up (F_Scene_copyFrom_82_4 φ) 82 3 1) ξ 83 95 1 := by
  have hr := scr_srb hb h
  obtain ⟨ψ1, ψ2, q1, q2, q3⟩ := scn_82_4 φ
  have o1 : ∀ a k, ¬ (83 < a ∧ a ≤ 83 + 11) → ψ1 a k = φ a k := q1.2.2.2.2.2.2.2.2.2.2.2
  have o2 : ∀ a k, ¬ (95 ≤ a ∧ a ≤ 95 + 8) → ψ2 a k = ψ1 a k := q2.2.2.2.2.2.2.2.2.2
  have o3 : ∀ a k, ¬ (104 ≤ a ∧ a ≤ 104 + 3) → F_Scene_copyFrom_82_4 φ a k = ψ2 a k := q3.2.2.2.2
  have o4 : ∀ a k, ¬ (104 ≤ a ∧ a ≤ 104 + 3) → ¬ a = 82 → hf_up (F_Scene_copyFrom_82_4 φ) 82 3 1 a k = ψ2 a k := fun a k h1 h2 => by rw [up_a h2, o3 a k h1]
  have hbb := hb
  unfold CB at hbb
  have c1 : ∀ k, k < 99 → ξ 205 (361 * 1 + k) = χ 194 k := fun k hk => e1 k (by omega)
  have c3 : ∀ k, 99 ≤ k → k < 180 → ξ 205 (361 * 1 + k) = χ 194 k := fun k _ hk => e1 k (by omega)
  have hS1 : STG 95 ψ2 (χ 194) (χ 194) := stg_c (by omega) q2 (stg_o h.2.1 hb (fun a k q => o1 a k (by omega)) (fun _ _ => rfl) (fun _ _ _ => rfl) hr)
  refine ⟨plg_f (plg_c hb q1 h.1) hb (fun a k q => (o4 a k (by omega) (by omega)).trans (o2 a k (by omega))) c1 e2, stg_o hS1 hb (fun a k q => o4 a k (by omega) (by omega)) c1 c3 hr, ?_, ?_⟩
  · exact tkb_g h.2.2.2 (fun k q => c3 k (by omega) (by omega))
  · have k0 := c1 0 (by decide)
    have k1 := c1 1 (by decide)
    have k2 := c1 2 (by decide)
    have k3 := c1 3 (by decide)
    have k4 := c1 4 (by decide)
    unfold CB at hb ⊢
    rw [← k0, ← k1, ← k2, ← k3, ← k4] at hb
    exact hb
theorem imf_1 {φ : hf_F} {a k : Nat} (h : ¬ (82 ≤ a ∧ a ≤ 82 + 25)) : hf_up (F_Scene_copyFrom_82_4 φ) 82 3 1 a k = φ a k := by
  obtain ⟨ψ1, ψ2, q1, q2, q3⟩ := scn_82_4 φ
  have o1 : ∀ a k, ¬ (83 < a ∧ a ≤ 83 + 11) → ψ1 a k = φ a k := q1.2.2.2.2.2.2.2.2.2.2.2
  have o2 : ∀ a k, ¬ (95 ≤ a ∧ a ≤ 95 + 8) → ψ2 a k = ψ1 a k := q2.2.2.2.2.2.2.2.2.2
  have o3 : ∀ a k, ¬ (104 ≤ a ∧ a ≤ 104 + 3) → F_Scene_copyFrom_82_4 φ a k = ψ2 a k := q3.2.2.2.2
  rw [up_a (by omega), o3 a k (by omega), o2 a k (by omega), o1 a k (by omega)]
theorem rst_1 {φ χ ξ : hf_F} (hh : HRW φ) (h : IMO φ χ 83 95 1) (e1 : ∀ k, k < 361 → ξ 194 k = χ 205 (361 * 1 + k)) (e2 : ∀ k, k < 33 → ξ 197 k = χ 206 (33 * 1 + k)) (e3 : ξ 192 22 = 0) : SCR (hf_up (F_Scene_copyFrom_4_82 φ) 108 1 0) ξ ∧ CB (ξ 194) := by
  obtain ⟨hP, hS, hT, hb⟩ := h
  obtain ⟨ψ1, ψ2, q1, q2, q3⟩ := scn_4_82 φ
  have o1 : ∀ a k, ¬ (5 < a ∧ a ≤ 5 + 11) → ψ1 a k = φ a k := q1.2.2.2.2.2.2.2.2.2.2.2
  have o2 : ∀ a k, ¬ (17 ≤ a ∧ a ≤ 17 + 8) → ψ2 a k = ψ1 a k := q2.2.2.2.2.2.2.2.2.2
  have o3 : ∀ a k, ¬ (26 ≤ a ∧ a ≤ 26 + 3) → F_Scene_copyFrom_4_82 φ a k = ψ2 a k := q3.2.2.2.2
  have o4 : ∀ a k, ¬ (26 ≤ a ∧ a ≤ 29) → ¬ a = 108 → hf_up (F_Scene_copyFrom_4_82 φ) 108 1 0 a k = ψ2 a k := fun a k h1 h2 => by rw [up_a h2, o3 a k (by omega)]
  have o5 : ∀ k, hf_up (F_Scene_copyFrom_4_82 φ) 108 1 0 109 k = φ 109 k := fun k => by rw [o4 _ _ (by omega) (by omega), o2 _ _ (by omega), o1 _ _ (by omega)]
  have hr : SRB (fun k => χ 205 (361 * 1 + k)) := srb_s hb hP.2.2.2.1
  have hbb := hb
  unfold CB at hbb
  dsimp only at hbb
  have c1 : ∀ k, k < 99 → ξ 194 k = χ 205 (361 * 1 + k) := fun k hk => e1 k (by omega)
  have c3 : ∀ k, 99 ≤ k → k < 180 → ξ 194 k = χ 205 (361 * 1 + k) := fun k _ hk => e1 k (by omega)
  have hS1 : STG 17 ψ2 (fun k => χ 205 (361 * 1 + k)) (fun k => χ 205 (361 * 1 + k)) := stg_c hbb.2.1.2 q2 (stg_o hS hb (fun a k q => o1 a k (by omega)) (fun _ _ => rfl) (fun _ _ _ => rfl) hr)
  refine ⟨⟨plg_f (plg_c hb q1 hP) hb (fun a k q => (o4 a k (by omega) (by omega)).trans (o2 a k (by omega))) c1 e2, stg_o hS1 hb (fun a k q => o4 a k (by omega) (by omega)) c1 c3 hr, his_0 ⟨fun i hi => ?_, fun i j hi hj hij => ?_⟩ hf_up_eq e3, ?_⟩, ?_⟩
  · rw [o5]; exact hh.1 i hi
  · rw [o5, o5] at hij; exact hh.2 i j hi hj hij
  · exact tkb_g hT (fun k q => c3 k (by omega) (by omega))
  · unfold CB
    rw [c1 0 (by decide), c1 1 (by decide), c1 2 (by decide), c1 3 (by decide), c1 4 (by decide)]
    exact hb
theorem rsf_1 {φ : hf_F} {a k : Nat} (h : ¬ (5 ≤ a ∧ a ≤ 29)) (h2 : ¬ (a = 108 ∧ k = 1)) : hf_up (F_Scene_copyFrom_4_82 φ) 108 1 0 a k = φ a k := by
  obtain ⟨ψ1, ψ2, q1, q2, q3⟩ := scn_4_82 φ
  have o1 : ∀ a k, ¬ (5 < a ∧ a ≤ 5 + 11) → ψ1 a k = φ a k := q1.2.2.2.2.2.2.2.2.2.2.2
  have o2 : ∀ a k, ¬ (17 ≤ a ∧ a ≤ 17 + 8) → ψ2 a k = ψ1 a k := q2.2.2.2.2.2.2.2.2.2
  have o3 : ∀ a k, ¬ (26 ≤ a ∧ a ≤ 26 + 3) → F_Scene_copyFrom_4_82 φ a k = ψ2 a k := q3.2.2.2.2
  rw [hf_up_ne h2, o3 a k (by omega), o2 a k (by omega), o1 a k (by omega)]
noncomputable def SCI (φ χ : hf_F) : Prop := SCR φ χ ∧ IMG φ χ
theorem image_rel {φ χ ψ ξ : hf_F} {v r s : Int} (hI : Inv χ) (h : SCI φ χ) (e1 : F_RideLaws_image_0 φ v = (r, ψ)) (e2 : F_RideLawsModel_image_192 χ v = (s, ξ)) : r = s ∧ SCI ψ ξ := by
  have hb := cb_i hI
  obtain ⟨h1, ⟨g1, g2⟩, g3, g4⟩ := h
  unfold F_RideLaws_image_0 at e1
  unfold F_RideLawsModel_image_192 at e2
  rw [bnp_e (isin_e _ v _ _)] at e2
  by_cases c0 : v = 0
  · subst c0
    rw [if_pos rfl, if_neg (fun q => q rfl), bnv_e rfl] at e1
    rw [show (if (0 : Int) ≤ 0 ∧ (0 : Int) ≤ 1 then (1 : Int) else 0) = 1 from by decide, if_pos (by decide), show (361 * 0 : Int).toNat = 0 from rfl, show (33 * 0 : Int).toNat = 0 from rfl, show (0 : Int).toNat = 0 from rfl] at e2
    cases e1
    have m1 : ∀ k, k < 361 → hf_mp (hf_up χ 192 0 0) 205 0 361 (fun j => hf_up χ 192 0 0 194 (0 + j)) 205 k = χ 194 k := fun k hk => by
      rw [hf_mp_in (by omega) (by omega), show 0 + (k - 0) = k by omega]; rfl
    have m2 : ∀ a k, ¬ (a = 192 ∧ k = 0) → ¬ (a = 205 ∧ k < 361) → hf_mp (hf_up χ 192 0 0) 205 0 361 (fun j => hf_up χ 192 0 0 194 (0 + j)) a k = χ a k := fun a k q1 q2 => by
      rw [hf_mp_ne (fun w => q2 (by omega)), hf_up_ne q1]
    generalize hf_mp (hf_up χ 192 0 0) 205 0 361 (fun j => hf_up χ 192 0 0 194 (0 + j)) = χ1 at e2 m1 m2
    have m3 : ∀ k, k < 33 → hf_mp χ1 206 0 33 (fun j => χ1 197 (0 + j)) 206 k = χ 197 k := fun k hk => by
      rw [hf_mp_in (by omega) (by omega), show 0 + (k - 0) = k by omega, m2 _ _ (by omega) (by omega)]
    have m4 : ∀ a k, ¬ (a = 206 ∧ k < 33) → hf_mp χ1 206 0 33 (fun j => χ1 197 (0 + j)) a k = χ1 a k := fun a k q1 => hf_mp_ne (fun w => q1 (by omega))
    generalize hf_mp χ1 206 0 33 (fun j => χ1 197 (0 + j)) = χ2 at e2 m3 m4
    cases e2
    have m5 : ∀ a k, ¬ (a = 207 ∧ k = 0) → ¬ (a = 206 ∧ k < 33) → ¬ (a = 205 ∧ k < 361) → ¬ (a = 192 ∧ k = 0) → hf_up χ2 207 0 (jm_z 1) a k = χ a k := fun a k q1 q2 q3 q4 => by
      rw [hf_up_ne q1, m4 a k q2, m2 a k q4 q3]
    refine ⟨rfl, scr_f hb h1 (fun a k q => imf_0 (by omega)) (m5 192 22 (by omega) (by omega) (by omega) (by omega)) (fun k => m5 199 k (by omega) (by omega) (by omega) (by omega)) (fun k _ => m5 194 k (by omega) (by omega) (by omega) (by omega)) (fun k _ => m5 197 k (by omega) (by omega) (by omega) (by omega)), ⟨?_, ?_⟩, fun _ => img_0 hb h1 (fun k hk => ?_) (fun k hk => ?_), fun q => imo_f (g4 ?_) (fun a k q1 q2 => imf_0 (by omega)) (fun k hk => ?_) (fun k hk => ?_)⟩
    · rw [hf_up_eq, hf_up_eq]; decide
    · rw [imf_0 (by omega), m5 207 1 (by omega) (by omega) (by omega) (by omega)]; exact g2
    · rw [show 361 * 0 + k = k by omega, up_a (by decide), m4 _ _ (by omega), m1 k hk]
    · rw [show 33 * 0 + k = k by omega, up_a (by decide), m3 k hk]
    · rw [m5 207 1 (by omega) (by omega) (by omega) (by omega)] at q; exact q
    · exact m5 205 _ (by omega) (by omega) (by omega) (by omega)
    · exact m5 206 _ (by omega) (by omega) (by omega) (by omega)
  · by_cases c1 : v = 1
    · subst c1
      rw [if_neg (by decide), if_pos rfl, if_pos (by decide), bnv_e rfl] at e1
      rw [show (if (0 : Int) ≤ 1 ∧ (1 : Int) ≤ 1 then (1 : Int) else 0) = 1 from by decide, if_pos (by decide), show (361 * 1 : Int).toNat = 361 from rfl, show (33 * 1 : Int).toNat = 33 from rfl, show (1 : Int).toNat = 1 from rfl] at e2
      cases e1
      have m1 : ∀ k, k < 361 → hf_mp (hf_up χ 192 0 0) 205 361 361 (fun j => hf_up χ 192 0 0 194 (0 + j)) 205 (361 + k) = χ 194 k := fun k hk => by
        rw [hf_mp_in (by omega) (by omega), show 0 + (361 + k - 361) = k by omega]; rfl
      have m2 : ∀ a k, ¬ (a = 192 ∧ k = 0) → ¬ (a = 205 ∧ 361 ≤ k) → hf_mp (hf_up χ 192 0 0) 205 361 361 (fun j => hf_up χ 192 0 0 194 (0 + j)) a k = χ a k := fun a k q1 q2 => by
        rw [hf_mp_ne (fun w => q2 (by omega)), hf_up_ne q1]
      generalize hf_mp (hf_up χ 192 0 0) 205 361 361 (fun j => hf_up χ 192 0 0 194 (0 + j)) = χ1 at e2 m1 m2
      have m3 : ∀ k, k < 33 → hf_mp χ1 206 33 33 (fun j => χ1 197 (0 + j)) 206 (33 + k) = χ 197 k := fun k hk => by
        rw [hf_mp_in (by omega) (by omega), show 0 + (33 + k - 33) = k by omega, m2 _ _ (by omega) (by omega)]
      have m4 : ∀ a k, ¬ (a = 206 ∧ 33 ≤ k) → hf_mp χ1 206 33 33 (fun j => χ1 197 (0 + j)) a k = χ1 a k := fun a k q1 => hf_mp_ne (fun w => q1 (by omega))
      generalize hf_mp χ1 206 33 33 (fun j => χ1 197 (0 + j)) = χ2 at e2 m3 m4
      cases e2
      have m5 : ∀ a k, ¬ (a = 207 ∧ k = 1) → ¬ (a = 206 ∧ 33 ≤ k) → ¬ (a = 205 ∧ 361 ≤ k) → ¬ (a = 192 ∧ k = 0) → hf_up χ2 207 1 (jm_z 1) a k = χ a k := fun a k q1 q2 q3 q4 => by
        rw [hf_up_ne q1, m4 a k q2, m2 a k q4 q3]
      refine ⟨rfl, scr_f hb h1 (fun a k q => imf_1 (by omega)) (m5 192 22 (by omega) (by omega) (by omega) (by omega)) (fun k => m5 199 k (by omega) (by omega) (by omega) (by omega)) (fun k _ => m5 194 k (by omega) (by omega) (by omega) (by omega)) (fun k _ => m5 197 k (by omega) (by omega) (by omega) (by omega)), ⟨?_, ?_⟩, fun q => imo_f (g3 ?_) (fun a k q1 q2 => imf_1 (by omega)) (fun k hk => ?_) (fun k hk => ?_), fun _ => img_1 hb h1 (fun k hk => ?_) (fun k hk => ?_)⟩
      · rw [imf_1 (by omega), m5 207 0 (by omega) (by omega) (by omega) (by omega)]; exact g1
      · rw [hf_up_eq, hf_up_eq]; decide
      · rw [m5 207 0 (by omega) (by omega) (by omega) (by omega)] at q; exact q
      · exact m5 205 _ (by omega) (by omega) (by omega) (by omega)
      · exact m5 206 _ (by omega) (by omega) (by omega) (by omega)
      · rw [show 361 * 1 + k = 361 + k by omega, up_a (by decide), m4 _ _ (by omega), m1 k hk]
      · rw [show 33 * 1 + k = 33 + k by omega, up_a (by decide), m3 k hk]
    · rw [if_neg c0, if_neg c1] at e1
      rw [if_neg (show ¬ (0 ≤ v ∧ v ≤ 1) by omega), if_neg (by decide)] at e2
      cases e1
      cases e2
      exact ⟨rfl, scr_0 hb h1, ⟨g1, g2⟩, fun q => g3 q, fun q => g4 q⟩
theorem restore_rel {φ χ ψ ξ : hf_F} {v r s : Int} (hI : Inv χ) (h : SCI φ χ) (e1 : F_RideLaws_restore_0 φ v = (r, ψ)) (e2 : F_RideLawsModel_restore_192 χ v = (s, ξ)) : r = s ∧ SCI ψ ξ := by
  have hb := cb_i hI
  obtain ⟨h1, ⟨g1, g2⟩, g3, g4⟩ := h
  have hno : SCI φ (hf_up χ 192 0 0) := ⟨scr_0 hb h1, ⟨g1, g2⟩, fun q => g3 q, fun q => g4 q⟩
  unfold F_RideLaws_restore_0 at e1
  unfold F_RideLawsModel_restore_192 at e2
  rw [bnp_e (isin_e _ v _ _)] at e2
  by_cases c0 : v = 0
  · subst c0
    rw [if_pos rfl, if_neg (fun q => q rfl), g1] at e1
    rw [show (if (0 : Int) ≤ 0 ∧ (0 : Int) ≤ 1 then (1 : Int) else 0) = 1 from by decide, if_neg (by decide), show (361 * 0 : Int).toNat = 0 from rfl, show (33 * 0 : Int).toNat = 0 from rfl, show (0 : Int).toNat = 0 from rfl] at e2
    by_cases c2 : χ 207 0 = 0
    · rw [if_neg (fun q => q c2)] at e1 e2
      cases e1
      cases e2
      exact ⟨rfl, hno⟩
    · rw [if_pos c2, bnv_e rfl] at e1
      rw [if_pos c2] at e2
      cases e1
      have m1 : ∀ k, k < 361 → hf_mp (hf_up χ 192 0 0) 194 0 361 (fun j => hf_up χ 192 0 0 205 (0 + j)) 194 k = χ 205 (361 * 0 + k) := fun k hk => by
        rw [hf_mp_in (by omega) (by omega), show 0 + (k - 0) = 361 * 0 + k by omega]; rfl
      have m2 : ∀ a k, ¬ (a = 192 ∧ k = 0) → ¬ (a = 194) → hf_mp (hf_up χ 192 0 0) 194 0 361 (fun j => hf_up χ 192 0 0 205 (0 + j)) a k = χ a k := fun a k q1 q2 => by
        rw [hf_mp_ne (fun w => q2 (by omega)), hf_up_ne q1]
      generalize hf_mp (hf_up χ 192 0 0) 194 0 361 (fun j => hf_up χ 192 0 0 205 (0 + j)) = χ1 at e2 m1 m2
      have m3 : ∀ k, k < 33 → hf_mp χ1 197 0 33 (fun j => χ1 206 (0 + j)) 197 k = χ 206 (33 * 0 + k) := fun k hk => by
        rw [hf_mp_in (by omega) (by omega), show 0 + (k - 0) = 33 * 0 + k by omega, m2 _ _ (by omega) (by omega)]
      have m4 : ∀ a k, ¬ (a = 197) → hf_mp χ1 197 0 33 (fun j => χ1 206 (0 + j)) a k = χ1 a k := fun a k q1 => hf_mp_ne (fun w => q1 (by omega))
      generalize hf_mp χ1 197 0 33 (fun j => χ1 206 (0 + j)) = χ2 at e2 m3 m4
      cases e2
      have m5 : ∀ a k, ¬ (a = 197) → ¬ (a = 194) → ¬ (a = 192) → hf_up χ2 192 22 0 a k = χ a k := fun a k q1 q2 q3 => by
        rw [up_a q3, m4 a k q1, m2 a k (by omega) q2]
      have hx := rst_0 (hrw_h h1.2.2.1) (g3 c2) (ξ := hf_up χ2 192 22 0) (fun k hk => by rw [up_a (by decide), m4 _ _ (by decide), m1 k hk]) (fun k hk => by rw [up_a (by decide), m3 k hk]) hf_up_eq
      refine ⟨rfl, hx.1, ⟨?_, ?_⟩, fun q => imo_f (g3 ?_) (fun a k q1 q2 => rsf_0 (by omega) (by omega)) (fun k hk => m5 205 _ (by decide) (by decide) (by decide)) (fun k hk => m5 206 _ (by decide) (by decide) (by decide)), fun q => imo_f (g4 ?_) (fun a k q1 q2 => rsf_0 (by omega) (by omega)) (fun k hk => m5 205 _ (by decide) (by decide) (by decide)) (fun k hk => m5 206 _ (by decide) (by decide) (by decide))⟩
      · rw [rsf_0 (by omega) (by omega), m5 207 0 (by decide) (by decide) (by decide)]; exact g1
      · rw [rsf_0 (by omega) (by omega), m5 207 1 (by decide) (by decide) (by decide)]; exact g2
      · rw [m5 207 0 (by decide) (by decide) (by decide)] at q; exact q
      · rw [m5 207 1 (by decide) (by decide) (by decide)] at q; exact q
  · by_cases c1 : v = 1
    · subst c1
      rw [if_neg (by decide), if_pos rfl, if_pos (by decide), g2] at e1
      rw [show (if (0 : Int) ≤ 1 ∧ (1 : Int) ≤ 1 then (1 : Int) else 0) = 1 from by decide, if_neg (by decide), show (361 * 1 : Int).toNat = 361 from rfl, show (33 * 1 : Int).toNat = 33 from rfl, show (1 : Int).toNat = 1 from rfl] at e2
      by_cases c2 : χ 207 1 = 0
      · rw [if_neg (fun q => q c2)] at e1 e2
        cases e1
        cases e2
        exact ⟨rfl, hno⟩
      · rw [if_pos c2, bnv_e rfl] at e1
        rw [if_pos c2] at e2
        cases e1
        have m1 : ∀ k, k < 361 → hf_mp (hf_up χ 192 0 0) 194 0 361 (fun j => hf_up χ 192 0 0 205 (361 + j)) 194 k = χ 205 (361 * 1 + k) := fun k hk => by
          rw [hf_mp_in (by omega) (by omega), show 361 + (k - 0) = 361 * 1 + k by omega]; rfl
        have m2 : ∀ a k, ¬ (a = 192 ∧ k = 0) → ¬ (a = 194) → hf_mp (hf_up χ 192 0 0) 194 0 361 (fun j => hf_up χ 192 0 0 205 (361 + j)) a k = χ a k := fun a k q1 q2 => by
          rw [hf_mp_ne (fun w => q2 (by omega)), hf_up_ne q1]
        generalize hf_mp (hf_up χ 192 0 0) 194 0 361 (fun j => hf_up χ 192 0 0 205 (361 + j)) = χ1 at e2 m1 m2
        have m3 : ∀ k, k < 33 → hf_mp χ1 197 0 33 (fun j => χ1 206 (33 + j)) 197 k = χ 206 (33 * 1 + k) := fun k hk => by
          rw [hf_mp_in (by omega) (by omega), show 33 + (k - 0) = 33 * 1 + k by omega, m2 _ _ (by omega) (by omega)]
        have m4 : ∀ a k, ¬ (a = 197) → hf_mp χ1 197 0 33 (fun j => χ1 206 (33 + j)) a k = χ1 a k := fun a k q1 => hf_mp_ne (fun w => q1 (by omega))
        generalize hf_mp χ1 197 0 33 (fun j => χ1 206 (33 + j)) = χ2 at e2 m3 m4
        cases e2
        have m5 : ∀ a k, ¬ (a = 197) → ¬ (a = 194) → ¬ (a = 192) → hf_up χ2 192 22 0 a k = χ a k := fun a k q1 q2 q3 => by
          rw [up_a q3, m4 a k q1, m2 a k (by omega) q2]
        have hx := rst_1 (hrw_h h1.2.2.1) (g4 c2) (ξ := hf_up χ2 192 22 0) (fun k hk => by rw [up_a (by decide), m4 _ _ (by decide), m1 k hk]) (fun k hk => by rw [up_a (by decide), m3 k hk]) hf_up_eq
        refine ⟨rfl, hx.1, ⟨?_, ?_⟩, fun q => imo_f (g3 ?_) (fun a k q1 q2 => rsf_1 (by omega) (by omega)) (fun k hk => m5 205 _ (by decide) (by decide) (by decide)) (fun k hk => m5 206 _ (by decide) (by decide) (by decide)), fun q => imo_f (g4 ?_) (fun a k q1 q2 => rsf_1 (by omega) (by omega)) (fun k hk => m5 205 _ (by decide) (by decide) (by decide)) (fun k hk => m5 206 _ (by decide) (by decide) (by decide))⟩
        · rw [rsf_1 (by omega) (by omega), m5 207 0 (by decide) (by decide) (by decide)]; exact g1
        · rw [rsf_1 (by omega) (by omega), m5 207 1 (by decide) (by decide) (by decide)]; exact g2
        · rw [m5 207 0 (by decide) (by decide) (by decide)] at q; exact q
        · rw [m5 207 1 (by decide) (by decide) (by decide)] at q; exact q
    · rw [if_neg c0, if_neg c1] at e1
      rw [if_neg (show ¬ (0 ≤ v ∧ v ≤ 1) by omega), if_pos rfl] at e2
      cases e1
      cases e2
      exact ⟨rfl, hno⟩
