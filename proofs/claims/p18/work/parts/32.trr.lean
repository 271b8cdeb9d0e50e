/-! the two readers hold the same token -/
noncomputable def KWR (φ χ : hf_F) : Prop := ∀ k : Nat, k < 23 → φ 3 k = kwt k ∧ χ 198 k = rst k
noncomputable def TPR (φ χ : hf_F) : Prop := ∀ k : Nat, k < 940 → φ 2 k = χ 193 k ∧ -128 ≤ φ 2 k ∧ φ 2 k ≤ 127
noncomputable def TSR (φ χ : hf_F) : Prop := φ 1 2 = χ 192 3 ∧ φ 1 3 = χ 192 5 ∧ φ 1 4 = χ 192 4 ∧ 0 ≤ φ 1 4 ∧ φ 1 4 ≤ φ 1 2 ∧ φ 1 2 ≤ 940 ∧ φ 1 9 = χ 192 15
noncomputable def TKR (φ χ : hf_F) : Prop := φ 1 6 = χ 192 12 ∧
  ((φ 1 5 = 0 ∧ χ 192 11 = 0) ∨ (φ 1 5 = 1 ∧ χ 192 11 = 4) ∨
   (φ 1 5 = 4 ∧ χ 192 11 = 2 ∧ φ 1 7 = χ 192 14) ∨ (φ 1 5 = 5 ∧ χ 192 11 = 3 ∧ φ 1 7 = χ 192 14) ∨
   (χ 192 11 = 1 ∧ VW (φ 1 8) ∧ 1 ≤ φ 1 8 ∧ χ 192 17 = G8 (φ 1 8) ∧
     ((φ 1 5 = 2 ∧ ∀ k : Nat, k < 23 → ¬ kwt k = φ 1 8) ∨ (φ 1 5 = 3 ∧ 0 ≤ φ 1 7 ∧ φ 1 7 < 23 ∧ kwt (φ 1 7).toNat = φ 1 8))))
theorem and255 {x : Int} (h1 : -128 ≤ x) (h2 : x ≤ 127) : hb_and x 255 = if x < 0 then x + 256 else x := by
  have hh : ∀ i : Fin 256, hb_and ((i.1 : Int) - 128) 255 = if (i.1 : Int) - 128 < 0 then (i.1 : Int) - 128 + 256 else (i.1 : Int) - 128 := by decide +kernel
  have := hh ⟨(x + 128).toNat, by omega⟩
  dsimp only at this
  rw [show (((x + 128).toNat : Nat) : Int) - 128 = x by omega] at this
  exact this
theorem a01 {a b s : Int} : (if a = 0 then (0 : Int) else if b = s then 1 else 0) = 0 ∨ (if a = 0 then (0 : Int) else if b = s then 1 else 0) = 1 := by
  by_cases h1 : a = 0
  · rw [if_pos h1]; exact Or.inl rfl
  · rw [if_neg h1]
    by_cases h2 : b = s
    · rw [if_pos h2]; exact Or.inr rfl
    · rw [if_neg h2]; exact Or.inl rfl
theorem pk_cb {φ χ : hf_F} (ht : TPR φ χ) (hs : TSR φ χ) : (φ 1 4 < φ 1 2 → (0 ≤ cb φ → pk χ = cb φ) ∧ (cb φ < 0 → pk χ = cb φ + 256) ∧ -128 ≤ cb φ ∧ cb φ ≤ 127) ∧ (¬ φ 1 4 < φ 1 2 → pk χ = -1) := by
  obtain ⟨s1, s2, s3, s4, s5, s6⟩ := hs
  unfold cb
  constructor
  · intro h
    have hb := ht (φ 1 4).toNat (by omega)
    have e : pk χ = hb_and (φ 2 (φ 1 4).toNat) 255 := by
      unfold pk
      rw [if_pos (by omega), ← s3, ← hb.1]
    rw [e, and255 hb.2.1 hb.2.2]
    refine ⟨fun q => if_neg (by omega), fun q => if_pos q, hb.2⟩
  · intro h
    unfold pk
    rw [if_neg (by omega)]
theorem tw_e : ∀ (n : Nat) (φ : hf_F) (c l3 : Int), 23 - l3 < n → 0 ≤ l3 → l3 ≤ 23 → (∀ k : Nat, k < 23 → φ 3 k = kwt k) → 0 ≤ c → c < 34359738368 →
    (F_Reader_takeWord_1_l12 n φ c l3 = φ ∧ ∀ k : Nat, l3 ≤ (k : Int) → k < 23 → ¬ kwt k = c) ∨
    (∃ v : Int, 0 ≤ v ∧ v < 23 ∧ kwt v.toNat = c ∧ F_Reader_takeWord_1_l12 n φ c l3 1 5 = 3 ∧ F_Reader_takeWord_1_l12 n φ c l3 1 7 = v ∧ ∀ a k : Nat, ¬ (a = 1 ∧ (k = 5 ∨ k = 7)) → F_Reader_takeWord_1_l12 n φ c l3 a k = φ a k) := by
  intro n
  induction n with
  | zero => intro φ c l3 h1 h2 h3; omega
  | succ n ih =>
    intro φ c l3 h1 h2 h3 hk hc1 hc2
    rw [F_Reader_takeWord_1_l12_s]
    by_cases h4 : 23 ≤ l3
    · rw [if_pos h4]
      exact Or.inl ⟨rfl, fun k q1 q2 => by omega⟩
    · rw [if_neg h4]
      have hb := kwt_b l3.toNat
      have hcm := hr_cmpe (φ 3 l3.toNat) c ⟨by rw [hk _ (by omega)]; omega, by rw [hk _ (by omega)]; omega⟩ ⟨by omega, by omega⟩
      rw [hk _ (by omega)] at hcm
      by_cases h5 : jm_cmp (φ 3 l3.toNat) c = 0
      · rw [if_neg (fun q => q h5)]
        rw [hk _ (by omega)] at h5
        have e := hcm.1 h5
        have := ih (hf_up (hf_up φ 1 5 3) 1 7 l3) c (l3 + 1) (by omega) (by omega) (by omega) (fun k q => hk k q) hc1 hc2
        rcases this with ⟨i1, i2⟩ | ⟨v, i1, i2, i3, i4, i5, i6⟩
        · rw [i1]
          refine Or.inr ⟨l3, h2, by omega, e, rfl, rfl, fun a k q => ?_⟩
          rw [hf_up_ne (fun w => q ⟨w.1, Or.inr w.2⟩), hf_up_ne (fun w => q ⟨w.1, Or.inl w.2⟩)]
        · refine Or.inr ⟨v, i1, i2, i3, i4, i5, fun a k q => ?_⟩
          rw [i6 a k q, hf_up_ne (fun w => q ⟨w.1, Or.inr w.2⟩), hf_up_ne (fun w => q ⟨w.1, Or.inl w.2⟩)]
      · rw [if_pos h5]
        rw [hk _ (by omega)] at h5
        have e := hcm.2 h5
        have := ih φ c (l3 + 1) (by omega) (by omega) (by omega) hk hc1 hc2
        rcases this with ⟨i1, i2⟩ | i
        · refine Or.inl ⟨i1, fun k q1 q2 => ?_⟩
          by_cases hk3 : (k : Int) = l3
          · rw [← hk3] at e
            exact e
          · exact i2 k (by omega) q2
        · exact Or.inr i
noncomputable def JR (φ χ : hf_F) (l1 l2 l3 l4 s a : Int) : Prop :=
  (0 ≤ l1 ∧ 0 ≤ l2 ∧ χ 192 13 = l1 + l2 ∧ (s = 0 ∨ s = 1) ∧ (a = 0 ∨ a = 1)) ∧
  (l1 + l2 = 0 → φ 1 4 < φ 1 2 ∧ ((s = 1 ∧ 97 ≤ cb φ ∧ cb φ ≤ 122) ∨ (s = 0 ∧ 48 ≤ cb φ ∧ cb φ ≤ 57))) ∧
  (0 < l1 + l2 → (s = 1 → 1 ≤ l1) ∧ (s = 0 → 1 ≤ l2)) ∧
  (a = 1 ↔ ((s = 1 → l2 = 0) ∧ (s = 0 → l1 = 0))) ∧
  (l2 = 0 → l1 ≤ 7 → VW l4 ∧ l4 < 32 ^ l1.toNat ∧ (1 ≤ l1 → 1 ≤ l4) ∧ χ 192 17 = G8 l4) ∧
  (l1 = 0 → l2 ≤ 3 → χ 192 14 = l3)
theorem G8_b6 (c : Int) (h : c < 1073741824) : G8 c < 281474976710656 := by
  have e : G8 c = G8n 7 c := G8n_m 7 c (by show c < 34359738368; omega)
  have e2 : G8n 7 c = G8n 6 c := G8n_m 6 c (by show c < 1073741824; exact h)
  rw [e, e2]
  exact (G8n_b 6 c).2
theorem MU_f {χ : hf_F} : MU χ 192 4 = χ 192 4 + 1 ∧ MU χ 192 13 = χ 192 13 + 1 ∧ MU χ 192 12 = χ 192 12 ∧ MU χ 192 3 = χ 192 3 ∧ (MU χ 192 5 = χ 192 5 ∧ MU χ 192 15 = χ 192 15) ∧
    (MU χ 192 17 = if χ 192 13 < 7 then hb_lor (hb_lshl (χ 192 17) 8) (hb_i2l (pk χ)) else χ 192 17) ∧ (MU χ 192 14 = if χ 192 13 < 3 then 10 * χ 192 14 + pk χ - 48 else χ 192 14) ∧
    ∀ a k : Nat, ¬ a = 192 → MU χ a k = χ a k := by
  unfold MU MN MW
  by_cases h1 : χ 192 13 < 7 <;> by_cases h2 : χ 192 13 < 3
  · rw [if_pos h1, if_pos h2, if_pos h1, if_pos h2]
    exact ⟨rfl, rfl, rfl, rfl, ⟨rfl, rfl⟩, rfl, rfl, fun a k q => by rw [hf_up_ne (fun w => q w.1), hf_up_ne (fun w => q w.1), hf_up_ne (fun w => q w.1), hf_up_ne (fun w => q w.1)]⟩
  · rw [if_pos h1, if_neg h2, if_pos h1, if_neg h2]
    exact ⟨rfl, rfl, rfl, rfl, ⟨rfl, rfl⟩, rfl, rfl, fun a k q => by rw [hf_up_ne (fun w => q w.1), hf_up_ne (fun w => q w.1), hf_up_ne (fun w => q w.1)]⟩
  · rw [if_neg h1, if_pos h2, if_neg h1, if_pos h2]
    exact ⟨rfl, rfl, rfl, rfl, ⟨rfl, rfl⟩, rfl, rfl, fun a k q => by rw [hf_up_ne (fun w => q w.1), hf_up_ne (fun w => q w.1), hf_up_ne (fun w => q w.1)]⟩
  · rw [if_neg h1, if_neg h2, if_neg h1, if_neg h2]
    exact ⟨rfl, rfl, rfl, rfl, ⟨rfl, rfl⟩, rfl, rfl, fun a k q => by rw [hf_up_ne (fun w => q w.1), hf_up_ne (fun w => q w.1)]⟩
theorem rd_rel {φ χ : hf_F} {l1 l2 l3 l4 s a : Int} (hk : KWR φ χ) (hs : TSR φ χ) (h6 : φ 1 6 = χ 192 12) (hj : JR φ χ l1 l2 l3 l4 s a) (h0 : 0 < l1 + l2) :
    TKR (RD φ l1 l2 l3 l4) (hf_up χ 192 11 (if a = 0 then 4 else if s = 0 then (if χ 192 13 ≤ 3 then 2 else 4) else (if χ 192 13 ≤ 7 then 1 else 4))) ∧
    TSR (RD φ l1 l2 l3 l4) (hf_up χ 192 11 (if a = 0 then 4 else if s = 0 then (if χ 192 13 ≤ 3 then 2 else 4) else (if χ 192 13 ≤ 7 then 1 else 4))) := by
  obtain ⟨j1, j2, j3, j4, j5⟩ := hj.1
  have j7 := hj.2.2.1 h0
  unfold RD
  by_cases c1 : l2 = 0 ∧ l1 ≤ 7
  · rw [if_pos c1]
    have hs1 : s = 1 := by omega
    have ha : a = 1 := hj.2.2.2.1.mpr ⟨fun _ => c1.1, fun q => by omega⟩
    rw [if_neg (by omega), if_neg (by omega), if_pos (by omega)]
    obtain ⟨v1, v2, v3, v4⟩ := hj.2.2.2.2.1 c1.1 c1.2
    have tw := tw_e 24 (hf_up (hf_up φ 1 8 l4) 1 5 2) l4 0 (by decide) (by decide) (by decide) (fun k q => (hk k q).1) v1.1 v1.2.1
    show TKR (F_Reader_takeWord_1_l12 24 (hf_up (hf_up φ 1 8 l4) 1 5 2) l4 0) _ ∧ TSR (F_Reader_takeWord_1_l12 24 (hf_up (hf_up φ 1 8 l4) 1 5 2) l4 0) _
    generalize F_Reader_takeWord_1_l12 24 (hf_up (hf_up φ 1 8 l4) 1 5 2) l4 0 = ψ at tw
    rcases tw with ⟨t1, t2⟩ | ⟨v, t1, t2, t3, t4, t5, t6⟩
    · subst t1
      refine ⟨⟨h6, Or.inr (Or.inr (Or.inr (Or.inr ⟨rfl, v1, v3 (by omega), v4, Or.inl ⟨rfl, fun k q => t2 k (by omega) q⟩⟩)))⟩, hs⟩
    · have e8 : ψ 1 8 = l4 := t6 1 8 (by decide)
      have e6 : ψ 1 6 = φ 1 6 := t6 1 6 (by decide)
      refine ⟨⟨e6.trans h6, Or.inr (Or.inr (Or.inr (Or.inr ⟨rfl, by rw [e8]; exact v1, by rw [e8]; exact v3 (by omega), by rw [e8]; exact v4, Or.inr ⟨t4, by rw [t5]; exact t1, by rw [t5]; exact t2, by rw [t5, e8]; exact t3⟩⟩)))⟩, ?_⟩
      have e2 : ψ 1 2 = φ 1 2 := t6 1 2 (by decide)
      have e3 : ψ 1 3 = φ 1 3 := t6 1 3 (by decide)
      have e4 : ψ 1 4 = φ 1 4 := t6 1 4 (by decide)
      unfold TSR
      have e9 : ψ 1 9 = φ 1 9 := t6 1 9 (by decide)
      rw [e2, e3, e4, e9]
      exact hs
  · rw [if_neg c1]
    by_cases c2 : l1 = 0 ∧ l2 ≤ 3
    · rw [if_pos c2]
      have hs0 : s = 0 := by omega
      have ha : a = 1 := hj.2.2.2.1.mpr ⟨fun q => by omega, fun _ => c2.1⟩
      rw [if_neg (by omega), if_pos hs0, if_pos (by omega)]
      exact ⟨⟨h6, Or.inr (Or.inr (Or.inl ⟨rfl, rfl, (hj.2.2.2.2.2 c2.1 c2.2).symm⟩))⟩, hs⟩
    · rw [if_neg c2]
      have hv : (if a = 0 then (4 : Int) else if s = 0 then (if χ 192 13 ≤ 3 then 2 else 4) else (if χ 192 13 ≤ 7 then 1 else 4)) = 4 := by
        by_cases ha : a = 0
        · rw [if_pos ha]
        · rw [if_neg ha]
          have h8 := hj.2.2.2.1.mp (by omega)
          by_cases hs0 : s = 0
          · rw [if_pos hs0, if_neg (by have := h8.2 hs0; omega)]
          · rw [if_neg hs0, if_neg (by have := h8.1 (by omega); omega)]
      rw [hv]
      exact ⟨⟨h6, Or.inr (Or.inl ⟨rfl, rfl⟩)⟩, hs⟩
theorem run_rel : ∀ (n m : Nat) (φ χ : hf_F) (l1 l2 l3 l4 c s a : Int), 940 - φ 1 4 < n → 940 - χ 192 4 < m → KWR φ χ → TPR φ χ → TSR φ χ → φ 1 6 = χ 192 12 → JR φ χ l1 l2 l3 l4 s a →
    TKR (F_Reader_readRun_1_l9 n φ l1 l2 l3 l4) (F_RideLawsModel_next_192_l181 m χ c s a) ∧ TSR (F_Reader_readRun_1_l9 n φ l1 l2 l3 l4) (F_RideLawsModel_next_192_l181 m χ c s a) := by
  intro n
  induction n with
  | zero => intro m φ χ l1 l2 l3 l4 c s a h1 h2 _ _ hs; unfold TSR at hs; omega
  | succ n ih =>
    intro m φ χ l1 l2 l3 l4 c s a h1 h2 hk ht hs h6 hj
    cases m with
    | zero => unfold TSR at hs; omega
    | succ m =>
      have hs' := hs
      unfold TSR at hs'
      have f1 := (MU_f (χ := χ)).1
      have f2 := (MU_f (χ := χ)).2.1
      have f3 := (MU_f (χ := χ)).2.2.1
      have f4 := (MU_f (χ := χ)).2.2.2.1
      have f5 := (MU_f (χ := χ)).2.2.2.2.1
      obtain ⟨j1, j2, j3, j4, j5⟩ := hj.1
      rw [run_s, mrun_s]
      by_cases cl : φ 1 4 < φ 1 2 ∧ (97 ≤ cb φ ∧ cb φ ≤ 122)
      · obtain ⟨p1, p2, p3, p4⟩ := (pk_cb ht hs).1 cl.1
        have p1 := p1 (by omega)
        rw [if_pos cl, if_pos (by omega)]
        have hsm : F_RideLawsModel_isSmall χ (pk χ) = 1 := by
          unfold F_RideLawsModel_isSmall
          rw [if_neg (by omega), if_neg (by omega)]
        rw [hsm]
        have hi2 : hb_i2l ((cb φ - 97) + 1) = cb φ - 96 := (hr_i2l _ (by omega) (by omega)).trans (by omega)
        rw [hi2]
        refine ih m _ _ _ _ _ _ _ _ _ ?_ ?_ ?_ ?_ ?_ ?_ ?_
        · show 940 - (φ 1 4 + 1) < (n : Int); omega
        · rw [f1]; omega
        · exact fun k q => ⟨(hk k q).1, ((MU_f (χ := χ)).2.2.2.2.2.2.2 198 k (by decide)).trans (hk k q).2⟩
        · exact fun k q => ⟨(ht k q).1.trans ((MU_f (χ := χ)).2.2.2.2.2.2.2 193 k (by decide)).symm, (ht k q).2⟩
        · show φ 1 2 = MU χ 192 3 ∧ φ 1 3 = MU χ 192 5 ∧ φ 1 4 + 1 = MU χ 192 4 ∧ 0 ≤ φ 1 4 + 1 ∧ φ 1 4 + 1 ≤ φ 1 2 ∧ φ 1 2 ≤ 940 ∧ φ 1 9 = MU χ 192 15
          omega
        · exact h6.trans f3.symm
        · refine ⟨⟨by omega, j2, by omega, j4, a01⟩, fun q => by omega, fun _ => ⟨fun _ => by omega, fun q => ?_⟩, ?_, fun q1 q2 => ?_, fun q => by omega⟩
          · by_cases h0 : 0 < l1 + l2
            · exact (hj.2.2.1 h0).2 q
            · have := hj.2.1 (by omega); omega
          · by_cases ha : a = 0
            · rw [if_pos ha]
              have : ¬ ((s = 1 → l2 = 0) ∧ (s = 0 → l1 = 0)) := fun w => by have := hj.2.2.2.1.mpr w; omega
              constructor
              · intro q; omega
              · intro q; exact absurd ⟨q.1, fun w => by have := q.2 w; omega⟩ this
            · rw [if_neg ha]
              have h8 := hj.2.2.2.1.mp (by omega)
              by_cases hs1 : (1 : Int) = s
              · rw [if_pos hs1]
                exact ⟨fun _ => ⟨h8.1, fun w => by omega⟩, fun _ => rfl⟩
              · rw [if_neg hs1]
                exact ⟨fun w => by omega, fun w => by have := w.2 (by omega); omega⟩
          · obtain ⟨v1, v2, v3, v4⟩ := hj.2.2.2.2.1 q1 (by omega)
            have v5 : l4 < 1073741824 := by
              have := p32_6 (show l1.toNat ≤ 6 by omega)
              omega
            have v6 := G8_b6 l4 v5
            have v7 := (G8_b l4 (by omega)).1
            have e17 : MU χ 192 17 = χ 192 17 * 256 + cb φ := by
              rw [(MU_f (χ := χ)).2.2.2.2.2.1, if_pos (by omega), hr_sh8 _ _ (by omega) (by omega) (by omega) (by omega), p1]
            have g := G8_s l4 (cb φ) v1.1 v5 (by omega) (by omega)
            refine ⟨VW_s _ _ v1 v5 (by omega) (by omega), ?_, fun _ => by have := v1.1; omega, ?_⟩
            · rw [show (l1 + 1).toNat = l1.toNat + 1 by omega, Int.pow_succ]
              omega
            · rw [e17, g, v4]
      · rw [if_neg cl]
        by_cases cd : φ 1 4 < φ 1 2 ∧ (48 ≤ cb φ ∧ cb φ ≤ 57)
        · obtain ⟨p1, p2, p3, p4⟩ := (pk_cb ht hs).1 cd.1
          have p1 := p1 (by omega)
          rw [if_pos cd, if_pos (by omega)]
          have hsm : F_RideLawsModel_isSmall χ (pk χ) = 0 := by
            rw [ism_z]; omega
          rw [hsm]
          refine ih m _ _ _ _ _ _ _ _ _ ?_ ?_ ?_ ?_ ?_ ?_ ?_
          · show 940 - (φ 1 4 + 1) < (n : Int); omega
          · rw [f1]; omega
          · exact fun k q => ⟨(hk k q).1, ((MU_f (χ := χ)).2.2.2.2.2.2.2 198 k (by decide)).trans (hk k q).2⟩
          · exact fun k q => ⟨(ht k q).1.trans ((MU_f (χ := χ)).2.2.2.2.2.2.2 193 k (by decide)).symm, (ht k q).2⟩
          · show φ 1 2 = MU χ 192 3 ∧ φ 1 3 = MU χ 192 5 ∧ φ 1 4 + 1 = MU χ 192 4 ∧ 0 ≤ φ 1 4 + 1 ∧ φ 1 4 + 1 ≤ φ 1 2 ∧ φ 1 2 ≤ 940 ∧ φ 1 9 = MU χ 192 15
            omega
          · exact h6.trans f3.symm
          · refine ⟨⟨j1, by omega, by omega, j4, a01⟩, fun q => by omega, fun _ => ⟨fun q => ?_, fun _ => by omega⟩, ?_, fun q => by omega, fun q1 q2 => ?_⟩
            · by_cases h0 : 0 < l1 + l2
              · exact (hj.2.2.1 h0).1 q
              · have := hj.2.1 (by omega); omega
            · by_cases ha : a = 0
              · rw [if_pos ha]
                have : ¬ ((s = 1 → l2 = 0) ∧ (s = 0 → l1 = 0)) := fun w => by have := hj.2.2.2.1.mpr w; omega
                constructor
                · intro q; omega
                · intro q; exact absurd ⟨fun w => by have := q.1 w; omega, q.2⟩ this
              · rw [if_neg ha]
                have h8 := hj.2.2.2.1.mp (by omega)
                by_cases hs1 : (0 : Int) = s
                · rw [if_pos hs1]
                  exact ⟨fun _ => ⟨fun w => by omega, h8.2⟩, fun _ => rfl⟩
                · rw [if_neg hs1]
                  exact ⟨fun w => by omega, fun w => by have := w.1 (by omega); omega⟩
            · have := hj.2.2.2.2.2 q1 (by omega)
              rw [(MU_f (χ := χ)).2.2.2.2.2.2.1, if_pos (by omega), this, p1]
              omega
        · rw [if_neg cd]
          have hn : ¬ ((97 ≤ pk χ ∧ pk χ ≤ 122) ∨ (48 ≤ pk χ ∧ pk χ ≤ 57)) := by
            by_cases h : φ 1 4 < φ 1 2
            · obtain ⟨p1, p2, p3, p4⟩ := (pk_cb ht hs).1 h
              by_cases h0 : 0 ≤ cb φ
              · have := p1 h0; omega
              · have := p2 (by omega); omega
            · have := (pk_cb ht hs).2 h; omega
          rw [if_neg hn]
          have h0 : 0 < l1 + l2 := by
            by_cases h0 : 0 < l1 + l2
            · exact h0
            · have := hj.2.1 (by omega); omega
          exact rd_rel hk hs h6 hj h0
