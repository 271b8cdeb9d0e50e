/-! a RIDE that was read is the one that is -/
theorem rfin_f (χ : hf_F) : (∀ k, k < 99 → RFIN χ 194 k = χ 195 k) ∧ (∀ k, 99 ≤ k → k < 104 → RFIN χ 194 k = 0) ∧ (∀ k, 104 ≤ k → k < 160 → RFIN χ 194 k = χ 195 (k - 85)) ∧ (∀ k, 160 ≤ k → k < 361 → RFIN χ 194 k = 0) ∧ (∀ k, k < 33 → RFIN χ 197 k = χ 197 (33 + k)) ∧ RFIN χ 192 22 = 0 ∧
    ∀ a k, ¬ a = 194 → ¬ (a = 197 ∧ k < 33) → ¬ (a = 192 ∧ k = 22) → RFIN χ a k = χ a k := by
  have e1 : ∀ k, k < 361 → hf_mp χ 194 0 361 (fun j => if j < 99 then χ 195 j else 0) 194 k = if k < 99 then χ 195 k else 0 := fun k hk => by
    rw [hf_mp_in (by omega) (by omega), show k - 0 = k from rfl]
  have e2 : ∀ a k, ¬ a = 194 → hf_mp χ 194 0 361 (fun j => if j < 99 then χ 195 j else 0) a k = χ a k := fun a k ha => hf_mp_ne (fun q => ha q.1)
  unfold RFIN
  generalize hf_mp χ 194 0 361 (fun j => if j < 99 then χ 195 j else 0) = χ1 at e1 e2 ⊢
  have e3 : ∀ a k, ¬ a = 197 → hf_mp χ1 197 0 33 (fun j => χ1 197 (33 + j)) a k = χ1 a k := fun a k ha => hf_mp_ne (fun q => ha q.1)
  have e4 : ∀ k, k < 33 → hf_mp χ1 197 0 33 (fun j => χ1 197 (33 + j)) 197 k = χ 197 (33 + k) := fun k hk => by
    rw [hf_mp_in (by omega) (by omega), show k - 0 = k from rfl, e2 _ _ (by decide)]
  have e5 : ∀ k, 33 ≤ k → hf_mp χ1 197 0 33 (fun j => χ1 197 (33 + j)) 197 k = χ 197 k := fun k hk => by
    rw [hf_mp_ne (fun q => by omega), e2 _ _ (by decide)]
  generalize hf_mp χ1 197 0 33 (fun j => χ1 197 (33 + j)) = χ2 at e3 e4 e5 ⊢
  have e6 : ∀ a k, ¬ (a = 194 ∧ 104 ≤ k ∧ k < 112) → hf_mp χ2 194 104 8 (fun j => χ2 194 (19 + j)) a k = χ2 a k := fun a k ha => hf_mp_ne (fun q => ha (by omega))
  have e7 : ∀ k, 104 ≤ k → k < 112 → hf_mp χ2 194 104 8 (fun j => χ2 194 (19 + j)) 194 k = χ 195 (k - 85) := fun k h1 h2 => by
    rw [hf_mp_in (by omega) (by omega), show 19 + (k - 104) = k - 85 by omega, e3 _ _ (by decide), e1 _ (by omega), if_pos (by omega)]
  generalize hf_mp χ2 194 104 8 (fun j => χ2 194 (19 + j)) = χ3 at e6 e7 ⊢
  have e8 : ∀ a k, ¬ (a = 194 ∧ 112 ≤ k ∧ k < 160) → hf_mp χ3 194 112 48 (fun j => χ3 194 (27 + j)) a k = χ3 a k := fun a k ha => hf_mp_ne (fun q => ha (by omega))
  have e9 : ∀ k, 112 ≤ k → k < 160 → hf_mp χ3 194 112 48 (fun j => χ3 194 (27 + j)) 194 k = χ 195 (k - 85) := fun k h1 h2 => by
    rw [hf_mp_in (by omega) (by omega), show 27 + (k - 112) = k - 85 by omega, e6 _ _ (by omega), e3 _ _ (by decide), e1 _ (by omega), if_pos (by omega)]
  generalize hf_mp χ3 194 112 48 (fun j => χ3 194 (27 + j)) = χ4 at e8 e9 ⊢
  have e0 : ∀ a k, ¬ (a = 192 ∧ k = 22) → hf_up χ4 192 22 0 a k = χ4 a k := fun a k q => hf_up_ne q
  refine ⟨fun k hk => ?_, fun k h1 h2 => ?_, fun k h1 h2 => ?_, fun k h1 h2 => ?_, fun k hk => ?_, rfl, fun a k h1 h2 h3 => ?_⟩
  · rw [e0 _ _ (by omega), e8 _ _ (by omega), e6 _ _ (by omega), e3 _ _ (by omega), e1 _ (by omega), if_pos hk]
  · rw [e0 _ _ (by omega), e8 _ _ (by omega), e6 _ _ (by omega), e3 _ _ (by omega), e1 _ (by omega), if_neg (by omega)]
  · rw [e0 _ _ (by omega)]
    by_cases c : k < 112
    · rw [e8 _ _ (by omega), e7 _ h1 c]
    · exact e9 _ (by omega) h2
  · rw [e0 _ _ (by omega), e8 _ _ (by omega), e6 _ _ (by omega), e3 _ _ (by omega), e1 _ (by omega), if_neg (by omega)]
  · rw [e0 _ _ (by omega), e8 _ _ (by omega), e6 _ _ (by omega), e4 _ hk]
  · rw [e0 _ _ h3, e8 _ _ (by omega), e6 _ _ (by omega)]
    by_cases c : a = 197
    · rw [c, e5 k (by omega)]
    · rw [e3 _ _ c, e2 _ _ h1]
theorem dr_plg {φ χ : hf_F} (hI : Inv χ) (h : DR φ χ) : PLG 31 φ (RFIN χ 194) (RFIN χ 197) := by
  obtain ⟨f1, f2, f3, f4, f5, f6, f7⟩ := rfin_f χ
  obtain ⟨c1, c2, c3, c4, c5⟩ := ctb hI
  obtain ⟨⟨a1, a2, a3, a4, a5⟩, ⟨n1, n2, n3, n4, n5⟩, r1, s1, d1, t1, l1, o1, k1⟩ := h
  have nm : ∀ (oa ob : Nat) (n : Int), ob + 33 < 99 → NMR φ χ 33 oa 197 (33 + ob) n → n ≤ 33 - ob → NMF (fun k => φ 33 k) (RFIN χ 197) oa ob n := fun oa ob n hx q hn i hi => by
    obtain ⟨q1, q2⟩ := q i hi
    refine ⟨q1, ?_⟩
    rw [f5 _ (by omega), show 33 + (ob + i) = 33 + ob + i by omega]
    exact q2
  have g0 := f1 0 (by decide)
  have g1 := f1 1 (by decide)
  have g2 := f1 2 (by decide)
  have g3 := f1 3 (by decide)
  have g4 := f1 4 (by decide)
  refine ⟨⟨?_, ?_, ?_, ?_, ?_⟩, ⟨?_, ?_, ?_, ?_, ?_⟩, fun i hi => ?_, fun i hi => ?_, fun i hi => ?_, fun a b ha hb => ?_, fun i hi => ?_⟩
  · rw [g0]; exact a1
  · rw [g1]; exact a2
  · rw [g2]; exact a3
  · rw [g3]; exact a4
  · rw [g4]; exact a5
  · rw [g0]; exact nm 0 0 _ (by decide) n1 (by omega)
  · rw [g1]; exact nm 8 3 _ (by decide) n2 (by omega)
  · rw [g2]; exact nm 16 11 _ (by decide) n3 (by omega)
  · rw [g3]; exact nm 24 19 _ (by decide) n4 (by omega)
  · rw [g4]; exact nm 32 25 _ (by decide) n5 (by omega)
  · rw [g0] at hi
    rw [f1 (5 + i) (by omega), f1 (8 + i) (by omega)]
    exact r1 i hi
  · rw [g1] at hi
    obtain ⟨q1, q2, g, q3, q4, q5, q6, q7, q8⟩ := s1 i hi
    refine ⟨?_, g, ?_, ?_, ?_, ?_, ?_⟩
    · rw [f1 (11 + i) (by omega)]; exact q1
    · rw [g0]; exact q3
    · rw [f1 (11 + i) (by omega)]; exact q4
    · rw [f1 (5 + g) (by omega)]; exact q5
    · rw [f1 (5 + g) (by omega), f1 (8 + g) (by omega)]; exact q6
    · rw [f1 (5 + g) (by omega)]; omega
  · rw [g4] at hi
    rw [f1 (75 + i) (by omega), f1 (83 + i) (by omega), g2]
    exact l1 i hi
  · rw [g4]
    rcases o1 a b ha hb with ⟨x1, x2⟩ | ⟨i, x1, x2, x3, x4, x5⟩
    · refine Or.inl ⟨x1, fun i hi q => x2 i hi ?_⟩
      rw [f1 (75 + i) (by omega), f1 (83 + i) (by omega)] at q
      exact q
    · refine Or.inr ⟨i, x1, x2, ?_, ?_, fun q y1 y2 y3 => x5 q y1 ?_ ?_⟩
      · rw [f1 (75 + i) (by omega)]; exact x3
      · rw [f1 (83 + i) (by omega)]; exact x4
      · rw [f1 (75 + q) (by omega)] at y2; exact y2
      · rw [f1 (83 + q) (by omega)] at y3; exact y3
  · rw [f1 (91 + i) (by omega)]
    exact k1 i hi
theorem rol_b {χ : hf_F} (hI : Inv χ) (r : Nat) (hr : r < 6) : (0 ≤ χ 195 (33 + r) ∧ χ 195 (33 + r) ≤ 6) ∧ ∀ k : Nat, k < 6 → 0 ≤ χ 195 (39 + 6 * r + k) := by
  refine ⟨?_, fun k hk => ?_⟩
  · have := iv_ar (a := 195) (s := 33) (t := 39) (lo := 0) (u := 6) (z := ((33 + r : Nat) : Int)) hI (by decide +kernel) (by omega) (by omega)
    exact this
  · have := iv_ar (a := 195) (s := 39) (t := 75) (lo := 0) (u := 7) (z := ((39 + 6 * r + k : Nat) : Int)) hI (by decide +kernel) (by omega) (by omega)
    exact this.1
theorem dr_stg {φ χ : hf_F} (hI : Inv χ) (h : DR φ χ) (h0 : FR0 φ) : STG 43 φ (RFIN χ 194) (RFIN χ 194) := by
  obtain ⟨f1, f2, f3, f4, f5, f6, f7⟩ := rfin_f χ
  obtain ⟨c1, c2, c3, c4, c5⟩ := ctb hI
  obtain ⟨⟨a1, a2, a3, a4, a5⟩, _, r1, s1, d1, t1, l1, o1, k1⟩ := h
  obtain ⟨z1, z2, z3, z4, z5, z6, z7, z8⟩ := h0
  have g0 := f1 0 (by decide)
  have g1 := f1 1 (by decide)
  have g2 := f1 2 (by decide)
  have g3 := f1 3 (by decide)
  have p112 : ∀ r : Nat, r < 6 → RFIN χ 194 (112 + r) = χ 195 (27 + r) := fun r hr => by rw [f3 (112 + r) (by omega) (by omega), show 112 + r - 85 = 27 + r by omega]
  have p118 : ∀ r : Nat, r < 6 → RFIN χ 194 (118 + r) = χ 195 (33 + r) := fun r hr => by rw [f3 (118 + r) (by omega) (by omega), show 118 + r - 85 = 33 + r by omega]
  refine ⟨⟨⟨?_, ?_, ?_, ?_, ?_, ?_, ?_, ?_⟩, fun s hs => ?_, fun r hr => ?_, fun l hl => ?_⟩, fun i hi => ?_⟩
  · rw [f2 99 (by decide) (by decide)]; exact z3
  · rw [f2 100 (by decide) (by decide)]; exact z4
  · rw [f2 101 (by decide) (by decide)]; exact z5
  · rw [f2 102 (by decide) (by decide)]; exact z6
  · rw [f2 103 (by decide) (by decide)]; exact z8
  · rw [f4 166 (by decide) (by decide), f4 167 (by decide) (by decide), f4 168 (by decide) (by decide), f4 169 (by decide) (by decide), f4 170 (by decide) (by decide), f4 171 (by decide) (by decide)]; exact z7
  · rw [f2 100 (by decide) (by decide), g2]; omega
  · rw [f2 101 (by decide) (by decide), g3]; omega
  · rcases t1 s hs with ⟨x1, x2⟩ | ⟨r, x1, x2, x3, x4⟩
    · exact Or.inl ⟨x1, fun r hr => by rw [p112 r hr]; exact x2 r hr⟩
    · exact Or.inr ⟨r, x1, x2, by rw [p112 r x1]; exact x3, fun q hq => by rw [p112 q hq]; exact x4 q hq⟩
  · obtain ⟨x1, x2, x3, x4, x5⟩ := d1 r hr
    obtain ⟨b1, b2⟩ := rol_b hI r hr
    unfold ROL
    rw [p112 r hr, p118 r hr, f4 (160 + r) (by omega) (by omega), f4 (166 + r) (by omega) (by omega), g1, g2, g3]
    refine ⟨x1, x2, (z1 r hr).1, (z1 r hr).2, fun q => ⟨(x3 q).1, (x3 q).2, rfl⟩, x4, b1, ⟨by omega, by omega⟩, fun k hk => ?_⟩
    rw [f3 (124 + 6 * r + k) (by omega) (by omega), show 124 + 6 * r + k - 85 = 39 + 6 * r + k by omega]
    exact ⟨(x5 k hk).1, b2 k (by omega), (x5 k hk).2⟩
  · rw [f4 (172 + l) (by omega) (by omega)]; exact z2 l hl
  · rw [g1] at hi
    obtain ⟨q1, q2, g, q3, q4, q5, q6, q7, q8⟩ := s1 i hi
    rw [f3 (104 + i) (by omega) (by omega), show 104 + i - 85 = 19 + i by omega, f1 (11 + i) (by omega), q4, show ((g : Int)).toNat = g by omega, f1 (5 + g) (by omega)]
    exact ⟨q2, q7, q8⟩
theorem rfin_cb {χ : hf_F} (hI : Inv χ) : CB (RFIN χ 194) := by
  obtain ⟨f1, _⟩ := rfin_f χ
  unfold CB
  rw [f1 0 (by decide), f1 1 (by decide), f1 2 (by decide), f1 3 (by decide), f1 4 (by decide)]
  exact ctb hI
/-- rows of the history -/
noncomputable def HRW (φ : hf_F) : Prop := (∀ i : Nat, i < 8 → Bf1 (φ 109 i)) ∧ ∀ i j : Nat, i < 8 → j < 8 → φ 109 i = φ 109 j → i = j
theorem hrw_h {φ χ : hf_F} (h : HIS φ χ) : HRW φ := ⟨h.2.2.1, h.2.2.2.1⟩
theorem his_0 {φ χ : hf_F} (h : HRW φ) (h1 : φ 108 1 = 0) (h2 : χ 192 22 = 0) : HIS φ χ := ⟨by rw [h1, h2], by rw [h2]; omega, h.1, h.2, fun j hj => by rw [h2] at hj; omega⟩
theorem ride_new {φ χ : hf_F} (h : DRP φ χ) (h0 : FR0 φ) (hh : HRW φ) : SCR (hf_up (F_Scene_copyFrom_4_30 (F_Sentence_forget_52 (F_RideLaws_closeText_0 φ))) 108 1 0) (RFIN χ) := by
  have hI : Inv χ := h.1.1.2
  have hb := rfin_cb hI
  have e0 : ∀ a k, 32 ≤ a → ¬ a = 52 → F_Sentence_forget_52 (F_RideLaws_closeText_0 φ) a k = φ a k := fun a k h1 h2 => by
    unfold F_Sentence_forget_52 F_RideLaws_closeText_0
    rw [up_a h2, up_a h2, up_a h2, up_a (by omega), up_a (by omega)]
  have hP := dr_plg hI h.2
  have hS := dr_stg hI h.2 h0
  have hr : SRB (RFIN χ 194) := srb_s hb hP.2.2.2.1
  obtain ⟨ψ1, ψ2, q1, q2, q3⟩ := scn_4_30 (F_Sentence_forget_52 (F_RideLaws_closeText_0 φ))
  have hP0 : PLG 31 (F_Sentence_forget_52 (F_RideLaws_closeText_0 φ)) (RFIN χ 194) (RFIN χ 197) := plg_f hP hb (fun a k q => e0 a k (by omega) (by omega)) (fun _ _ => rfl) (fun _ _ => rfl)
  have hS0 : STG 43 (F_Sentence_forget_52 (F_RideLaws_closeText_0 φ)) (RFIN χ 194) (RFIN χ 194) := stg_o hS hb (fun a k q => e0 a k (by omega) (by omega)) (fun _ _ => rfl) (fun _ _ _ => rfl) hr
  have hP1 := plg_c hb q1 hP0
  have o1 : ∀ a k, ¬ (5 < a ∧ a ≤ 16) → ψ1 a k = F_Sentence_forget_52 (F_RideLaws_closeText_0 φ) a k := q1.2.2.2.2.2.2.2.2.2.2.2
  have o2 : ∀ a k, ¬ (17 ≤ a ∧ a ≤ 25) → ψ2 a k = ψ1 a k := q2.2.2.2.2.2.2.2.2.2
  have o3 : ∀ a k, ¬ (26 ≤ a ∧ a ≤ 29) → F_Scene_copyFrom_4_30 (F_Sentence_forget_52 (F_RideLaws_closeText_0 φ)) a k = ψ2 a k := q3.2.2.2.2
  have hS1 : STG 17 ψ2 (RFIN χ 194) (RFIN χ 194) := stg_c (by unfold CB at hb; omega) q2 (stg_o hS0 hb (fun a k q => o1 a k (by omega)) (fun _ _ => rfl) (fun _ _ _ => rfl) hr)
  have o4 : ∀ a k, ¬ (26 ≤ a ∧ a ≤ 29) → ¬ a = 108 → hf_up (F_Scene_copyFrom_4_30 (F_Sentence_forget_52 (F_RideLaws_closeText_0 φ))) 108 1 0 a k = ψ2 a k := fun a k h1 h2 => by rw [up_a h2, o3 a k h1]
  have o5 : ∀ k, hf_up (F_Scene_copyFrom_4_30 (F_Sentence_forget_52 (F_RideLaws_closeText_0 φ))) 108 1 0 109 k = φ 109 k := fun k => by rw [o4 _ _ (by omega) (by omega), o2 _ _ (by omega), o1 _ _ (by omega), e0 _ _ (by omega) (by omega)]
  refine ⟨plg_f hP1 hb (fun a k q => (o4 a k (by omega) (by omega)).trans (o2 a k (by omega))) (fun _ _ => rfl) (fun _ _ => rfl), stg_o hS1 hb (fun a k q => o4 a k (by omega) (by omega)) (fun _ _ => rfl) (fun _ _ _ => rfl) hr, his_0 ⟨fun i hi => ?_, fun i j hi hj hij => ?_⟩ hf_up_eq (rfin_f χ).2.2.2.2.2.1, ?_⟩
  · rw [o5]; exact hh.1 i hi
  · rw [o5, o5] at hij; exact hh.2 i j hi hj hij
  · have e := (rfin_f χ).2.2.2.1
    unfold TKB SU
    rw [(rfin_f χ).2.1 99 (by decide) (by decide), e 166 (by decide) (by decide), e 167 (by decide) (by decide), e 168 (by decide) (by decide), e 169 (by decide) (by decide), e 170 (by decide) (by decide), e 171 (by decide) (by decide)]
    exact ⟨by decide, by decide, fun k a b => by rw [e k (by omega) (by omega)]; decide, by decide⟩
