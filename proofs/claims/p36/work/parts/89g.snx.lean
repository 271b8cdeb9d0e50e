/-! the SENTENCE that is so: of the RIDE and of its images -/
noncomputable def SNX (a b o : Nat) (φ χ : hf_F) : Prop := (φ a 5 = 0 ∧ χ b o = 0) ∨ (φ a 5 = 1 ∧ 1 ≤ χ b o ∧ χ b o ≤ 40 ∧ φ a 3 = χ b o ∧ cd χ b o (χ b o).toNat = 1 ∧ ∀ i : Nat, (i : Int) < χ b o → χ b (o + (1 + 3 * i)) = SKM (φ (a + 1) i) ∧ χ b (o + (2 + 3 * i)) = φ (a + 2) i ∧ χ b (o + (3 + 3 * i)) = φ (a + 3) i)
theorem snx_f {a b o a' b' o' : Nat} {φ χ φ' χ' : hf_F} (h : SNX a b o φ χ) (h1 : φ' a' 3 = φ a 3) (h2 : φ' a' 5 = φ a 5) (h3 : ∀ k, k < 40 → φ' (a' + 1) k = φ (a + 1) k ∧ φ' (a' + 2) k = φ (a + 2) k ∧ φ' (a' + 3) k = φ (a + 3) k) (h4 : ∀ k, k < 181 → χ' b' (o' + k) = χ b (o + k)) : SNX a' b' o' φ' χ' := by
  have e0 : χ' b' o' = χ b o := h4 0 (by decide)
  rcases h with ⟨a1, a2⟩ | ⟨a1, a2, a3, a4, a5, a6⟩
  · exact Or.inl ⟨h2.trans a1, e0.trans a2⟩
  · refine Or.inr ⟨h2.trans a1, by omega, by omega, by omega, ?_, fun i hi => ?_⟩
    · rw [e0]
      refine (cd_congr _ (fun j hj => ?_)).trans a5
      have := h4 (1 + 3 * j) (by omega)
      rw [show o' + 1 + 3 * j = o' + (1 + 3 * j) by omega, show o + 1 + 3 * j = o + (1 + 3 * j) by omega]
      exact this
    · obtain ⟨q1, q2, q3⟩ := h3 i (by omega)
      rw [h4 (1 + 3 * i) (by omega), h4 (2 + 3 * i) (by omega), h4 (3 + 3 * i) (by omega), q1, q2, q3]
      exact a6 i (by omega)
theorem snr_x {φ χ : hf_F} (h : SNX 26 194 180 φ χ) : SNR φ χ := by
  rcases h with ⟨a1, a2⟩ | ⟨a1, a2, a3, a4, a5, a6⟩
  · exact Or.inl ⟨a1, a2⟩
  · refine Or.inr ⟨a1, a2, a4, a5, fun i hi => ?_⟩
    obtain ⟨q1, q2, q3⟩ := a6 i hi
    rw [show 181 + 3 * i + 1 = 180 + (2 + 3 * i) by omega, show 181 + 3 * i + 2 = 180 + (3 + 3 * i) by omega, show 181 + 3 * i = 180 + (1 + 3 * i) by omega]
    exact ⟨q1, q2, q3⟩
theorem snx_r {φ χ : hf_F} (hJ : Inv φ) (h : SNR φ χ) : SNX 26 194 180 φ χ := by
  have o3 := iv_at (a := 26) (k := 3) (lo := 0) (u := 40) hJ (by decide +kernel)
  rcases h with ⟨a1, a2⟩ | ⟨a1, a2, a3, a4, a5⟩
  · exact Or.inl ⟨a1, a2⟩
  · refine Or.inr ⟨a1, a2, by omega, a3, a4, fun i hi => ?_⟩
    obtain ⟨q1, q2, q3⟩ := a5 i hi
    rw [show 180 + (1 + 3 * i) = 181 + 3 * i by omega, show 180 + (2 + 3 * i) = 181 + 3 * i + 1 by omega, show 180 + (3 + 3 * i) = 181 + 3 * i + 2 by omega]
    exact ⟨q1, q2, q3⟩
noncomputable def SNV (φ χ : hf_F) : Prop := SNX 26 194 180 φ χ ∧ (¬ χ 207 0 = 0 → SNX 78 205 180 φ χ) ∧ (¬ χ 207 1 = 0 → SNX 104 205 541 φ χ)
noncomputable def ckr (ms : List Nat) (a : Nat) : Bool := !(g_obl.contains a) && !(ms.contains a)
noncomputable def ckf (ms : List Nat) (a k : Nat) : Bool := !(ms.contains (vc a k))
noncomputable def cks (ms : List Nat) (a : Nat) : Bool := ckf ms a 3 && (ckf ms a 5 && (ckr ms (a + 1) && (ckr ms (a + 2) && ckr ms (a + 3))))
theorem ckf_f {ms : List Nat} {a k : Nat} (h : ckf ms a k = true) : ms.contains (vc a k) = false := by
  unfold ckf at h
  rw [Bool.not_eq_true'] at h
  exact h
theorem snx_w {ms : List Nat} {a b o : Nat} {φ ψ χ : hf_F} (h : SNX a b o φ χ) (F : Fr ms φ ψ) (c : cks ms a = true) : SNX a b o ψ χ := by
  unfold cks at c
  simp only [Bool.and_eq_true] at c
  obtain ⟨c1, c2, c3, c4, c5⟩ := c
  exact snx_f h (fr_fd F a 3 (ckf_f c1)) (fr_fd F a 5 (ckf_f c2)) (fun k _ => ⟨fr_at F (a + 1) c3 k, fr_at F (a + 2) c4 k, fr_at F (a + 3) c5 k⟩) (fun _ _ => rfl)
theorem snv_w {ms : List Nat} {φ ψ χ : hf_F} (h : SNV φ χ) (F : Fr ms φ ψ) (c : (cks ms 26 && (cks ms 78 && cks ms 104)) = true) : SNV ψ χ := by
  simp only [Bool.and_eq_true] at c
  exact ⟨snx_w h.1 F c.1, fun q => snx_w (h.2.1 q) F c.2.1, fun q => snx_w (h.2.2 q) F c.2.2⟩
theorem snv_n {ms : List Nat} {φ χ ξ : hf_F} (h : SNV φ χ) (h2 : C18 χ ξ) (F : Fr ms χ ξ) (c : (ckr ms 205 && ckr ms 207) = true) : SNV φ ξ := by
  simp only [Bool.and_eq_true] at c
  have e0 := fr_at F 207 c.2 0
  have e1 := fr_at F 207 c.2 1
  refine ⟨snx_f h.1 rfl rfl (fun _ _ => ⟨rfl, rfl, rfl⟩) (fun k _ => h2 _ (by omega)), fun q => snx_f (h.2.1 (by rw [e0] at q; exact q)) rfl rfl (fun _ _ => ⟨rfl, rfl, rfl⟩) (fun k _ => fr_at F 205 c.1 _), fun q => snx_f (h.2.2 (by rw [e1] at q; exact q)) rfl rfl (fun _ _ => ⟨rfl, rfl, rfl⟩) (fun k _ => fr_at F 205 c.1 _)⟩
theorem snv_m {ms : List Nat} {φ χ ξ : hf_F} (h : SNV φ χ) (F : Fr ms χ ξ) (c : (ckr ms 194 && (ckr ms 205 && ckr ms 207)) = true) : SNV φ ξ := by
  simp only [Bool.and_eq_true] at c
  exact snv_n h (fun k _ => fr_at F 194 c.1 k) F (by rw [c.2.1, c.2.2]; rfl)
theorem snv_a {ms ns : List Nat} {φ χ ψ ξ : hf_F} (h : SNV φ χ) (F : Fr ms φ ψ) (c : (cks ms 78 && cks ms 104) = true) (G : Fr ns χ ξ) (c2 : (ckr ns 205 && ckr ns 207) = true) (hx : SNX 26 194 180 ψ ξ) : SNV ψ ξ := by
  simp only [Bool.and_eq_true] at c c2
  have e0 := fr_at G 207 c2.2 0
  have e1 := fr_at G 207 c2.2 1
  exact ⟨hx, fun q => snx_f (snx_w (h.2.1 (by rw [e0] at q; exact q)) F c.1) rfl rfl (fun _ _ => ⟨rfl, rfl, rfl⟩) (fun k _ => fr_at G 205 c2.1 _), fun q => snx_f (snx_w (h.2.2 (by rw [e1] at q; exact q)) F c.2) rfl rfl (fun _ _ => ⟨rfl, rfl, rfl⟩) (fun k _ => fr_at G 205 c2.1 _)⟩
theorem sent_snx {φ χ ψ ξ : hf_F} (hJ : Inv ψ) (h : SNX 26 194 180 φ χ) (hx : (SNQ φ ψ ∧ ∀ k, ξ 194 k = χ 194 k) ∨ SNR ψ ξ) : SNX 26 194 180 ψ ξ := by
  rcases hx with ⟨⟨q1, q2, q3, q4, q5⟩, h2⟩ | hx
  · exact snx_f h q1 q2 (fun k _ => ⟨q3 k, q4 k, q5 k⟩) (fun k _ => h2 _)
  · exact snx_r hJ hx
theorem ride_snx {φ χ ψ ξ : hf_F} {r s : Int} (i1 : Inv φ) (i2 : Inv χ) (hz : φ 1 2 = χ 192 2) (hk : KWR φ χ) (ht : TPR φ χ) (e1 : F_RideLaws_ride_0 φ = (r, ψ)) (e2 : F_RideLawsModel_ride_192 χ = (s, ξ)) (h : SNX 26 194 180 φ χ) : SNX 26 194 180 ψ ξ := by
  obtain ⟨a1, a2, a3⟩ := ride_rel i1 i2 hz hk ht e1 e2
  rcases a3 with ⟨b1, ψ', b2, b3⟩ | ⟨b1, ψ', χ', b2, b3, b4, b5, b6⟩
  · rcases ridem i2 e2 with ⟨n1, n2, n3, n4⟩ | ⟨n1, _⟩
    · have kr := K_F_RideText_readAll_182 i1 b2
      have ec := (cls_f ψ').2.2
      refine snx_f h ?_ ?_ (fun k _ => ⟨?_, ?_, ?_⟩) (fun k _ => n1 _)
      · rw [b3, ec 26 3 (by decide) (by decide)]; exact fr_fd kr.2.1 26 3 (by decide)
      · rw [b3, ec 26 5 (by decide) (by decide)]; exact fr_fd kr.2.1 26 5 (by decide)
      · rw [b3, ec (26 + 1) k (by decide) (by decide)]; exact fr_at kr.2.1 27 (by decide) k
      · rw [b3, ec (26 + 2) k (by decide) (by decide)]; exact fr_at kr.2.1 28 (by decide) k
      · rw [b3, ec (26 + 3) k (by decide) (by decide)]; exact fr_at kr.2.1 29 (by decide) k
    · omega
  · obtain ⟨p1, p2, q1, q2, q3⟩ := scn_4_30 (F_Sentence_forget_52 (F_RideLaws_closeText_0 ψ'))
    have o1 : ∀ a k, ¬ (5 < a ∧ a ≤ 5 + 11) → p1 a k = F_Sentence_forget_52 (F_RideLaws_closeText_0 ψ') a k := q1.2.2.2.2.2.2.2.2.2.2.2
    have o2 : ∀ a k, ¬ (17 ≤ a ∧ a ≤ 17 + 8) → p2 a k = p1 a k := q2.2.2.2.2.2.2.2.2.2
    refine Or.inl ⟨?_, ?_⟩
    · rw [b5, up_a (by decide), q3.1 5 (by decide) (by decide), o2 52 5 (by omega), o1 52 5 (by omega)]
      unfold F_Sentence_forget_52
      exact hf_up_eq
    · rw [b6]
      exact (rfin_f χ').2.2.2.1 180 (by decide) (by decide)
theorem rsx_0 {φ χ ξ : hf_F} (h : SNX 78 205 180 φ χ) (e1 : ∀ k, k < 361 → ξ 194 k = χ 205 (361 * 0 + k)) : SNX 26 194 180 (hf_up (F_Scene_copyFrom_4_56 φ) 108 1 0) ξ := by
  obtain ⟨ψ1, ψ2, q1, q2, q3⟩ := scn_4_56 φ
  have o1 : ∀ a k, ¬ (5 < a ∧ a ≤ 5 + 11) → ψ1 a k = φ a k := q1.2.2.2.2.2.2.2.2.2.2.2
  have o2 : ∀ a k, ¬ (17 ≤ a ∧ a ≤ 17 + 8) → ψ2 a k = ψ1 a k := q2.2.2.2.2.2.2.2.2.2
  refine snx_f h ?_ ?_ (fun k hk => ⟨?_, ?_, ?_⟩) (fun k hk => ?_)
  · rw [up_a (by decide), q3.1 3 (by decide) (by decide), o2 78 3 (by omega), o1 78 3 (by omega)]
  · rw [up_a (by decide), q3.1 5 (by decide) (by decide), o2 78 5 (by omega), o1 78 5 (by omega)]
  · rw [up_a (by decide), q3.2.1 k hk, o2 (78 + 1) k (by omega), o1 (78 + 1) k (by omega)]
  · rw [up_a (by decide), q3.2.2.1 k hk, o2 (78 + 2) k (by omega), o1 (78 + 2) k (by omega)]
  · rw [up_a (by decide), q3.2.2.2.1 k hk, o2 (78 + 3) k (by omega), o1 (78 + 3) k (by omega)]
  · rw [e1 (180 + k) (by omega), show 361 * 0 + (180 + k) = 180 + k by omega]
theorem imx_0 {φ χ ξ : hf_F} (h : SNX 26 194 180 φ χ) (e1 : ∀ k, k < 361 → ξ 205 (361 * 0 + k) = χ 194 k) : SNX 78 205 180 (hf_up (F_Scene_copyFrom_56_4 φ) 56 3 1) ξ := by
  obtain ⟨ψ1, ψ2, q1, q2, q3⟩ := scn_56_4 φ
  have o1 : ∀ a k, ¬ (57 < a ∧ a ≤ 57 + 11) → ψ1 a k = φ a k := q1.2.2.2.2.2.2.2.2.2.2.2
  have o2 : ∀ a k, ¬ (69 ≤ a ∧ a ≤ 69 + 8) → ψ2 a k = ψ1 a k := q2.2.2.2.2.2.2.2.2.2
  refine snx_f h ?_ ?_ (fun k hk => ⟨?_, ?_, ?_⟩) (fun k hk => ?_)
  · rw [up_a (by decide), q3.1 3 (by decide) (by decide), o2 26 3 (by omega), o1 26 3 (by omega)]
  · rw [up_a (by decide), q3.1 5 (by decide) (by decide), o2 26 5 (by omega), o1 26 5 (by omega)]
  · rw [up_a (by decide), q3.2.1 k hk, o2 (26 + 1) k (by omega), o1 (26 + 1) k (by omega)]
  · rw [up_a (by decide), q3.2.2.1 k hk, o2 (26 + 2) k (by omega), o1 (26 + 2) k (by omega)]
  · rw [up_a (by decide), q3.2.2.2.1 k hk, o2 (26 + 3) k (by omega), o1 (26 + 3) k (by omega)]
  · have := e1 (180 + k) (by omega)
    rw [show 361 * 0 + (180 + k) = 180 + k by omega] at this
    exact this
theorem rsx_1 {φ χ ξ : hf_F} (h : SNX 104 205 541 φ χ) (e1 : ∀ k, k < 361 → ξ 194 k = χ 205 (361 * 1 + k)) : SNX 26 194 180 (hf_up (F_Scene_copyFrom_4_82 φ) 108 1 0) ξ := by
  obtain ⟨ψ1, ψ2, q1, q2, q3⟩ := scn_4_82 φ
  have o1 : ∀ a k, ¬ (5 < a ∧ a ≤ 5 + 11) → ψ1 a k = φ a k := q1.2.2.2.2.2.2.2.2.2.2.2
  have o2 : ∀ a k, ¬ (17 ≤ a ∧ a ≤ 17 + 8) → ψ2 a k = ψ1 a k := q2.2.2.2.2.2.2.2.2.2
  refine snx_f h ?_ ?_ (fun k hk => ⟨?_, ?_, ?_⟩) (fun k hk => ?_)
  · rw [up_a (by decide), q3.1 3 (by decide) (by decide), o2 104 3 (by omega), o1 104 3 (by omega)]
  · rw [up_a (by decide), q3.1 5 (by decide) (by decide), o2 104 5 (by omega), o1 104 5 (by omega)]
  · rw [up_a (by decide), q3.2.1 k hk, o2 (104 + 1) k (by omega), o1 (104 + 1) k (by omega)]
  · rw [up_a (by decide), q3.2.2.1 k hk, o2 (104 + 2) k (by omega), o1 (104 + 2) k (by omega)]
  · rw [up_a (by decide), q3.2.2.2.1 k hk, o2 (104 + 3) k (by omega), o1 (104 + 3) k (by omega)]
  · rw [e1 (180 + k) (by omega), show 361 * 1 + (180 + k) = 541 + k by omega]
theorem imx_1 {φ χ ξ : hf_F} (h : SNX 26 194 180 φ χ) (e1 : ∀ k, k < 361 → ξ 205 (361 * 1 + k) = χ 194 k) : SNX 104 205 541 (hf_up (F_Scene_copyFrom_82_4 φ) 82 3 1) ξ := by
  obtain ⟨ψ1, ψ2, q1, q2, q3⟩ := scn_82_4 φ
  have o1 : ∀ a k, ¬ (83 < a ∧ a ≤ 83 + 11) → ψ1 a k = φ a k := q1.2.2.2.2.2.2.2.2.2.2.2
  have o2 : ∀ a k, ¬ (95 ≤ a ∧ a ≤ 95 + 8) → ψ2 a k = ψ1 a k := q2.2.2.2.2.2.2.2.2.2
  refine snx_f h ?_ ?_ (fun k hk => ⟨?_, ?_, ?_⟩) (fun k hk => ?_)
  · rw [up_a (by decide), q3.1 3 (by decide) (by decide), o2 26 3 (by omega), o1 26 3 (by omega)]
  · rw [up_a (by decide), q3.1 5 (by decide) (by decide), o2 26 5 (by omega), o1 26 5 (by omega)]
  · rw [up_a (by decide), q3.2.1 k hk, o2 (26 + 1) k (by omega), o1 (26 + 1) k (by omega)]
  · rw [up_a (by decide), q3.2.2.1 k hk, o2 (26 + 2) k (by omega), o1 (26 + 2) k (by omega)]
  · rw [up_a (by decide), q3.2.2.2.1 k hk, o2 (26 + 3) k (by omega), o1 (26 + 3) k (by omega)]
  · have := e1 (180 + k) (by omega)
    rw [show 361 * 1 + (180 + k) = 541 + k by omega] at this
    exact this
theorem imag_snv {φ χ ψ ξ : hf_F} {v r s : Int} (h : SNV φ χ) (e1 : F_RideLaws_image_0 φ v = (r, ψ)) (e2 : F_RideLawsModel_image_192 χ v = (s, ξ)) : SNV ψ ξ := by
  unfold F_RideLaws_image_0 at e1
  unfold F_RideLawsModel_image_192 at e2
  rw [bnp_e (isin_e _ v _ _)] at e2
  by_cases c0 : v = 0
  · subst c0
    rw [if_pos rfl, if_neg (fun q => q rfl), bnv_e rfl] at e1
    rw [show (if (0 : Int) ≤ 0 ∧ (0 : Int) ≤ 1 then (1 : Int) else 0) = 1 from by decide, if_pos (by decide), show (361 * 0 : Int).toNat = 0 from rfl, show (33 * 0 : Int).toNat = 0 from rfl, show (0 : Int).toNat = 0 from rfl] at e2
    cases e1
    have m1 : ∀ k, k < 361 → hf_mp (hf_up χ 192 0 0) 205 0 361 (fun j => hf_up χ 192 0 0 194 (0 + j)) 205 k = χ 194 k := fun k hk => by
      rw [hf_mp_in (by omega) (by omega), show 0 + (k - 0) = k by omega]; rfl
    have m2 : ∀ a k, ¬ (a = 192 ∧ k = 0) → ¬ (a = 205 ∧ k < 361) → hf_mp (hf_up χ 192 0 0) 205 0 361 (fun j => hf_up χ 192 0 0 194 (0 + j)) a k = χ a k := fun a k q1 q2 => by
      rw [hf_mp_ne (fun w => q2 (by omega)), hf_up_ne q1]
    generalize hf_mp (hf_up χ 192 0 0) 205 0 361 (fun j => hf_up χ 192 0 0 194 (0 + j)) = χ1 at e2 m1 m2
    have m4 : ∀ a k, ¬ (a = 206 ∧ k < 33) → hf_mp χ1 206 0 33 (fun j => χ1 197 (0 + j)) a k = χ1 a k := fun a k q1 => hf_mp_ne (fun w => q1 (by omega))
    generalize hf_mp χ1 206 0 33 (fun j => χ1 197 (0 + j)) = χ2 at e2 m4
    cases e2
    have m5 : ∀ a k, ¬ (a = 207 ∧ k = 0) → ¬ (a = 206 ∧ k < 33) → ¬ (a = 205 ∧ k < 361) → ¬ (a = 192 ∧ k = 0) → hf_up χ2 207 0 (jm_z 1) a k = χ a k := fun a k q1 q2 q3 q4 => by
      rw [hf_up_ne q1, m4 a k q2, m2 a k q4 q3]
    refine ⟨snx_f h.1 (imf_0 (by omega)) (imf_0 (by omega)) (fun k _ => ⟨imf_0 (by omega), imf_0 (by omega), imf_0 (by omega)⟩) (fun k _ => m5 194 _ (by omega) (by omega) (by omega) (by omega)), fun _ => imx_0 h.1 (fun k hk => ?_), fun q => snx_f (h.2.2 ?_) (imf_0 (by omega)) (imf_0 (by omega)) (fun k _ => ⟨imf_0 (by omega), imf_0 (by omega), imf_0 (by omega)⟩) (fun k _ => m5 205 _ (by omega) (by omega) (by omega) (by omega))⟩
    · rw [show 361 * 0 + k = k by omega, up_a (by decide), m4 _ _ (by omega), m1 k hk]
    · rw [m5 207 1 (by omega) (by omega) (by omega) (by omega)] at q; exact q
  · by_cases c1 : v = 1
    · subst c1
      rw [if_neg (by decide), if_pos rfl, if_pos (by decide), bnv_e rfl] at e1
      rw [show (if (0 : Int) ≤ 1 ∧ (1 : Int) ≤ 1 then (1 : Int) else 0) = 1 from by decide, if_pos (by decide), show (361 * 1 : Int).toNat = 361 from rfl, show (33 * 1 : Int).toNat = 33 from rfl, show (1 : Int).toNat = 1 from rfl] at e2
      cases e1
      have m1 : ∀ k, k < 361 → hf_mp (hf_up χ 192 0 0) 205 361 361 (fun j => hf_up χ 192 0 0 194 (0 + j)) 205 (361 + k) = χ 194 k := fun k hk => by
        rw [hf_mp_in (by omega) (by omega), show 0 + (361 + k - 361) = k by omega]; rfl
      have m2 : ∀ a k, ¬ (a = 192 ∧ k = 0) → ¬ (a = 205 ∧ 361 ≤ k) → hf_mp (hf_up χ 192 0 0) 205 361 361 (fun j => hf_up χ 192 0 0 194 (0 + j)) a k = χ a k := fun a k q1 q2 => by
        rw [hf_mp_ne (fun w => q2 (by omega)), hf_up_ne q1]
      generalize hf_mp (hf_up χ 192 0 0) 205 361 361 (fun j => hf_up χ 192 0 0 194 (0 + j)) = χ1 at e2 m1 m2
      have m4 : ∀ a k, ¬ (a = 206 ∧ 33 ≤ k) → hf_mp χ1 206 33 33 (fun j => χ1 197 (0 + j)) a k = χ1 a k := fun a k q1 => hf_mp_ne (fun w => q1 (by omega))
      generalize hf_mp χ1 206 33 33 (fun j => χ1 197 (0 + j)) = χ2 at e2 m4
      cases e2
      have m5 : ∀ a k, ¬ (a = 207 ∧ k = 1) → ¬ (a = 206 ∧ 33 ≤ k) → ¬ (a = 205 ∧ 361 ≤ k) → ¬ (a = 192 ∧ k = 0) → hf_up χ2 207 1 (jm_z 1) a k = χ a k := fun a k q1 q2 q3 q4 => by
        rw [hf_up_ne q1, m4 a k q2, m2 a k q4 q3]
      refine ⟨snx_f h.1 (imf_1 (by omega)) (imf_1 (by omega)) (fun k _ => ⟨imf_1 (by omega), imf_1 (by omega), imf_1 (by omega)⟩) (fun k _ => m5 194 _ (by omega) (by omega) (by omega) (by omega)), fun q => snx_f (h.2.1 ?_) (imf_1 (by omega)) (imf_1 (by omega)) (fun k _ => ⟨imf_1 (by omega), imf_1 (by omega), imf_1 (by omega)⟩) (fun k _ => m5 205 _ (by omega) (by omega) (by omega) (by omega)), fun _ => imx_1 h.1 (fun k hk => ?_)⟩
      · rw [m5 207 0 (by omega) (by omega) (by omega) (by omega)] at q; exact q
      · rw [show 361 * 1 + k = 361 + k by omega, up_a (by decide), m4 _ _ (by omega), m1 k hk]
    · rw [if_neg c0, if_neg c1] at e1
      rw [if_neg (show ¬ (0 ≤ v ∧ v ≤ 1) by omega), if_neg (fun q => q rfl)] at e2
      cases e1
      cases e2
      exact ⟨snx_f h.1 rfl rfl (fun _ _ => ⟨rfl, rfl, rfl⟩) (fun _ _ => rfl), fun q => snx_f (h.2.1 q) rfl rfl (fun _ _ => ⟨rfl, rfl, rfl⟩) (fun _ _ => rfl), fun q => snx_f (h.2.2 q) rfl rfl (fun _ _ => ⟨rfl, rfl, rfl⟩) (fun _ _ => rfl)⟩
theorem rest_snx {φ χ ψ ξ : hf_F} {v r s : Int} (g1 : φ 56 3 = χ 207 0) (g2 : φ 82 3 = χ 207 1) (h : SNV φ χ) (e1 : F_RideLaws_restore_0 φ v = (r, ψ)) (e2 : F_RideLawsModel_restore_192 χ v = (s, ξ)) : SNX 26 194 180 ψ ξ := by
  have hno : SNX 26 194 180 φ (hf_up χ 192 0 0) := snx_f h.1 rfl rfl (fun _ _ => ⟨rfl, rfl, rfl⟩) (fun _ _ => rfl)
  unfold F_RideLaws_restore_0 at e1
  unfold F_RideLawsModel_restore_192 at e2
  rw [bnp_e (isin_e _ v _ _)] at e2
  by_cases c0 : v = 0
  · subst c0
    rw [if_pos rfl, if_neg (fun q => q rfl), g1] at e1
    rw [show (if (0 : Int) ≤ 0 ∧ (0 : Int) ≤ 1 then (1 : Int) else 0) = 1 from by decide, if_neg (by decide), show (361 * 0 : Int).toNat = 0 from rfl, show (33 * 0 : Int).toNat = 0 from rfl, show (0 : Int).toNat = 0 from rfl] at e2
    by_cases c2 : χ 207 0 = 0
    · rw [if_neg (fun q => q c2)] at e1 e2
      cases e1
      cases e2
      exact hno
    · rw [if_pos c2, bnv_e rfl] at e1
      rw [if_pos c2] at e2
      cases e1
      have m1 : ∀ k, k < 361 → hf_mp (hf_up χ 192 0 0) 194 0 361 (fun j => hf_up χ 192 0 0 205 (0 + j)) 194 k = χ 205 (361 * 0 + k) := fun k hk => by
        rw [hf_mp_in (by omega) (by omega), show 0 + (k - 0) = 361 * 0 + k by omega]; rfl
      generalize hf_mp (hf_up χ 192 0 0) 194 0 361 (fun j => hf_up χ 192 0 0 205 (0 + j)) = χ1 at e2 m1
      have m4 : ∀ a k, ¬ (a = 197) → hf_mp χ1 197 0 33 (fun j => χ1 206 (0 + j)) a k = χ1 a k := fun a k q1 => hf_mp_ne (fun w => q1 (by omega))
      generalize hf_mp χ1 197 0 33 (fun j => χ1 206 (0 + j)) = χ2 at e2 m4
      cases e2
      exact rsx_0 (h.2.1 c2) (fun k hk => by rw [up_a (by decide), m4 _ _ (by decide), m1 k hk])
  · by_cases c1 : v = 1
    · subst c1
      rw [if_neg (by decide), if_pos rfl, if_pos (by decide), g2] at e1
      rw [show (if (0 : Int) ≤ 1 ∧ (1 : Int) ≤ 1 then (1 : Int) else 0) = 1 from by decide, if_neg (by decide), show (361 * 1 : Int).toNat = 361 from rfl, show (33 * 1 : Int).toNat = 33 from rfl, show (1 : Int).toNat = 1 from rfl] at e2
      by_cases c2 : χ 207 1 = 0
      · rw [if_neg (fun q => q c2)] at e1 e2
        cases e1
        cases e2
        exact hno
      · rw [if_pos c2, bnv_e rfl] at e1
        rw [if_pos c2] at e2
        cases e1
        have m1 : ∀ k, k < 361 → hf_mp (hf_up χ 192 0 0) 194 0 361 (fun j => hf_up χ 192 0 0 205 (361 + j)) 194 k = χ 205 (361 * 1 + k) := fun k hk => by
          rw [hf_mp_in (by omega) (by omega), show 361 + (k - 0) = 361 * 1 + k by omega]; rfl
        generalize hf_mp (hf_up χ 192 0 0) 194 0 361 (fun j => hf_up χ 192 0 0 205 (361 + j)) = χ1 at e2 m1
        have m4 : ∀ a k, ¬ (a = 197) → hf_mp χ1 197 0 33 (fun j => χ1 206 (33 + j)) a k = χ1 a k := fun a k q1 => hf_mp_ne (fun w => q1 (by omega))
        generalize hf_mp χ1 197 0 33 (fun j => χ1 206 (33 + j)) = χ2 at e2 m4
        cases e2
        exact rsx_1 (h.2.2 c2) (fun k hk => by rw [up_a (by decide), m4 _ _ (by decide), m1 k hk])
    · rw [if_neg c0, if_neg c1] at e1
      rw [if_neg (show ¬ (0 ≤ v ∧ v ≤ 1) by omega), if_pos rfl] at e2
      cases e1
      cases e2
      exact hno
