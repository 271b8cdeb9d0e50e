/-! the next token -/
theorem ism_v {φ : hf_F} {v : Int} : F_RideLawsModel_isSmall φ v = if 97 ≤ v ∧ v ≤ 122 then 1 else 0 := by
  unfold F_RideLawsModel_isSmall
  repeat' split
  all_goals first | rfl | omega
noncomputable def NX (χ : hf_F) : hf_F :=
  if χ 192 5 < χ 192 3 ∧ χ 192 5 ≤ χ 192 4 then hf_up (hf_up (hf_up (hf_up χ 192 12 (χ 192 4)) 192 13 0) 192 12 (χ 192 5)) 192 11 4
  else if pk χ < 0 then hf_up (hf_up (hf_up χ 192 12 (χ 192 4)) 192 13 0) 192 11 0
  else if (97 ≤ pk χ ∧ pk χ ≤ 122) ∨ (48 ≤ pk χ ∧ pk χ ≤ 57) then F_RideLawsModel_next_192_l181 ((940 - χ 192 4 : Int).toNat + 1) (hf_up (hf_up (hf_up (hf_up χ 192 12 (χ 192 4)) 192 13 0) 192 17 0) 192 14 0) (pk χ) (if 97 ≤ pk χ ∧ pk χ ≤ 122 then 1 else 0) 1
  else if SGN (pk χ) then hf_up (hf_up (hf_up (hf_up (hf_up χ 192 12 (χ 192 4)) 192 13 0) 192 11 3) 192 14 (pk χ)) 192 4 (χ 192 4 + 1)
  else hf_up (hf_up (hf_up (hf_up (hf_up χ 192 12 (χ 192 4)) 192 13 0) 192 11 4) 192 14 (pk χ)) 192 4 (χ 192 4 + 1)
theorem next_s {χ : hf_F} (n : Nat) : F_RideLawsModel_next_192_l0 (n + 1) χ = if pk χ = 32 ∨ pk χ = 10 then F_RideLawsModel_next_192_l0 n (hf_up χ 192 4 (χ 192 4 + 1)) else NX χ := by
  rw [F_RideLawsModel_next_192_l0_s]
  unfold NX
  simp only [bnp, bnv, ism_z, imd_z, peek_e, pk_up (χ := hf_up χ 192 12 (χ 192 4)) (show ¬ 13 = 3 ∧ ¬ 13 = 4 by decide), pk_up (χ := χ) (show ¬ 12 = 3 ∧ ¬ 12 = 4 by decide)]
  simp only [ism_v]
  by_cases b1 : pk χ = 32
  · rw [if_pos b1, if_pos (Or.inl b1)]
  · by_cases b2 : pk χ = 10
    · rw [if_neg b1, if_neg (show ¬ ¬ pk χ = 10 from fun q => q b2), if_pos (show pk χ = 32 ∨ pk χ = 10 from Or.inr b2)]
    · rw [if_neg b1, if_pos b2, if_neg (show ¬ (pk χ = 32 ∨ pk χ = 10) from fun q => q.elim b1 b2)]
      simp only [Classical.not_not,
        show (pk χ < 0) = ¬ (0 ≤ pk χ) from propext ⟨fun h => by omega, fun h => by omega⟩,
        show (χ 192 5 < χ 192 3) = ¬ (χ 192 3 ≤ χ 192 5) from propext ⟨fun h => by omega, fun h => by omega⟩,
        show (χ 192 5 ≤ χ 192 4) = ¬ (χ 192 4 < χ 192 5) from propext ⟨fun h => by omega, fun h => by omega⟩]
      by_cases n0 : 0 ≤ pk χ
      · simp only [eq_true n0, if_true, if_false, not_true]
        by_cases l : 97 ≤ pk χ ∧ pk χ ≤ 122
        · simp only [eq_true l, if_true, true_or]
          exact ite_qr
        · simp only [eq_false l, if_false, false_or]
          by_cases g : 48 ≤ pk χ ∧ pk χ ≤ 57
          · simp only [eq_true g, if_true]
            exact ite_qr
          · simp only [eq_false g, if_false]
            by_cases s1 : pk χ = 59
            · simp only [eq_true s1, show SGN (pk χ) = True from eq_true (Or.inl s1), if_true]
              exact ite_qr
            · by_cases s2 : pk χ = 40
              · simp only [eq_false s1, eq_true s2, show SGN (pk χ) = True from eq_true (Or.inr (Or.inl s2)), if_true, if_false]
                exact ite_qr
              · by_cases s3 : pk χ = 41
                · simp only [eq_false s1, eq_false s2, eq_true s3, show SGN (pk χ) = True from eq_true (Or.inr (Or.inr (Or.inl s3))), if_true, if_false]
                  exact ite_qr
                · by_cases s4 : pk χ < 60
                  · simp only [eq_false s1, eq_false s2, eq_false s3, eq_true s4, show SGN (pk χ) = False from eq_false (fun w => by unfold SGN at w; omega), if_true, if_false]
                    exact ite_qr
                  · by_cases s5 : 62 < pk χ
                    · simp only [eq_false s1, eq_false s2, eq_false s3, eq_false s4, eq_true s5, show SGN (pk χ) = False from eq_false (fun w => by unfold SGN at w; omega), if_true, if_false]
                      exact ite_qr
                    · simp only [eq_false s1, eq_false s2, eq_false s3, eq_false s4, eq_false s5, show SGN (pk χ) = True from eq_true (by unfold SGN; omega), if_true, if_false]
                      exact ite_qr
      · simp only [eq_false n0, if_true, if_false, not_false_iff]
        exact ite_qr
theorem next_0 {χ : hf_F} : F_RideLawsModel_next_192 χ = F_RideLawsModel_next_192_l0 ((940 - (hf_up χ 192 4 ((χ 192 4) + 1)) 192 4 : Int).toNat + 1 + 1) χ := rfl
theorem vw_0 : VW 0 := ⟨by decide, by decide, by decide, by decide⟩
theorem nx_rel {φ χ : hf_F} (hk : KWR φ χ) (ht : TPR φ χ) (hs : TSR φ χ) : TKR (AD φ) (NX χ) ∧ TSR (AD φ) (NX χ) := by
  have hpc := pk_cb ht hs
  have hs' := hs
  unfold TSR at hs'
  unfold AD NX
  by_cases c1 : φ 1 3 < φ 1 2 ∧ φ 1 3 ≤ φ 1 4
  · rw [if_pos c1, if_pos (show χ 192 5 < χ 192 3 ∧ χ 192 5 ≤ χ 192 4 by omega)]
    exact ⟨⟨hs.2.1, Or.inr (Or.inl ⟨rfl, rfl⟩)⟩, hs⟩
  · rw [if_neg c1, if_neg (show ¬ (χ 192 5 < χ 192 3 ∧ χ 192 5 ≤ χ 192 4) by omega)]
    by_cases c2 : φ 1 2 ≤ φ 1 4
    · have := hpc.2 (by omega)
      rw [if_pos c2, if_pos (show pk χ < 0 by omega)]
      exact ⟨⟨hs.2.2.1, Or.inl ⟨rfl, rfl⟩⟩, hs⟩
    · obtain ⟨p1, p2, p3, p4⟩ := hpc.1 (by omega)
      rw [if_neg c2, if_neg (show ¬ pk χ < 0 by omega)]
      have hL : (97 ≤ cb φ ∧ cb φ ≤ 122) ↔ (97 ≤ pk χ ∧ pk χ ≤ 122) := by omega
      have hD : (48 ≤ cb φ ∧ cb φ ≤ 57) ↔ (48 ≤ pk χ ∧ pk χ ≤ 57) := by omega
      by_cases c3 : (97 ≤ cb φ ∧ cb φ ≤ 122) ∨ (48 ≤ cb φ ∧ cb φ ≤ 57)
      · rw [if_pos c3, if_pos (show (97 ≤ pk χ ∧ pk χ ≤ 122) ∨ (48 ≤ pk χ ∧ pk χ ≤ 57) by omega)]
        have p1 := p1 (by omega)
        refine run_rel _ _ (hf_up φ 1 6 (φ 1 4)) (hf_up (hf_up (hf_up (hf_up χ 192 12 (χ 192 4)) 192 13 0) 192 17 0) 192 14 0) 0 0 0 0 (pk χ) (if 97 ≤ pk χ ∧ pk χ ≤ 122 then 1 else 0) 1 ?_ ?_ hk ht hs hs.2.2.1 ?_
        · show 940 - φ 1 4 < (((940 - φ 1 4 : Int).toNat + 1 : Nat) : Int); omega
        · show 940 - χ 192 4 < (((940 - χ 192 4 : Int).toNat + 1 : Nat) : Int); omega
        · refine ⟨⟨by decide, by decide, rfl, ?_, Or.inr rfl⟩, fun _ => ⟨by show φ 1 4 < φ 1 2; omega, ?_⟩, fun q => absurd q (by decide), ⟨fun _ => ⟨fun _ => rfl, fun _ => rfl⟩, fun _ => rfl⟩, fun _ _ => ⟨vw_0, by decide, fun q => absurd q (by decide), by show (0 : Int) = G8 0; decide⟩, fun _ _ => rfl⟩
          · split
            · exact Or.inr rfl
            · exact Or.inl rfl
          · show (_ = 1 ∧ 97 ≤ cb φ ∧ cb φ ≤ 122) ∨ (_ = 0 ∧ 48 ≤ cb φ ∧ cb φ ≤ 57)
            by_cases c4 : 97 ≤ pk χ ∧ pk χ ≤ 122
            · rw [if_pos c4]; exact Or.inl ⟨rfl, hL.mpr c4⟩
            · rw [if_neg c4]; exact Or.inr ⟨rfl, by omega⟩
      · rw [if_neg c3, if_neg (show ¬ ((97 ≤ pk χ ∧ pk χ ≤ 122) ∨ (48 ≤ pk χ ∧ pk χ ≤ 57)) by omega)]
        have hts : ∀ ψ ξ : hf_F, ψ 1 2 = φ 1 2 → ψ 1 3 = φ 1 3 → ψ 1 4 = φ 1 4 + 1 → ξ 192 3 = χ 192 3 → ξ 192 5 = χ 192 5 → ξ 192 4 = χ 192 4 + 1 → ψ 1 9 = φ 1 9 → ξ 192 15 = χ 192 15 → TSR ψ ξ := by
          intro ψ ξ h1 h2 h3 h4 h5 h6 h7 h8
          unfold TSR
          rw [h1, h2, h3, h4, h5, h6, h7, h8]
          omega
        by_cases c4 : SGN (cb φ)
        · have p1 := p1 (by unfold SGN at c4; omega)
          rw [if_pos c4, if_pos (by rw [p1]; exact c4)]
          exact ⟨⟨hs.2.2.1, Or.inr (Or.inr (Or.inr (Or.inl ⟨rfl, rfl, p1.symm⟩)))⟩, hts _ _ rfl rfl rfl rfl rfl rfl rfl rfl⟩
        · have : ¬ SGN (pk χ) := by unfold SGN at c4 ⊢; omega
          rw [if_neg c4, if_neg this]
          exact ⟨⟨hs.2.2.1, Or.inr (Or.inl ⟨rfl, rfl⟩)⟩, hts _ _ rfl rfl rfl rfl rfl rfl rfl rfl⟩
theorem adv_r : ∀ (n m : Nat) (φ χ : hf_F), 940 - φ 1 4 < n → 940 - χ 192 4 < m → KWR φ χ → TPR φ χ → TSR φ χ →
    TKR (F_Reader_advance_1_l0 n φ) (F_RideLawsModel_next_192_l0 m χ) ∧ TSR (F_Reader_advance_1_l0 n φ) (F_RideLawsModel_next_192_l0 m χ) := by
  intro n
  induction n with
  | zero => intro m φ χ h1 h2 _ _ hs; unfold TSR at hs; omega
  | succ n ih =>
    intro m φ χ h1 h2 hk ht hs
    have hs' := hs
    unfold TSR at hs'
    cases m with
    | zero => omega
    | succ m =>
      rw [adv_s, next_s]
      have hpc := pk_cb ht hs
      by_cases c1 : φ 1 4 < φ 1 2 ∧ (cb φ = 32 ∨ cb φ = 10)
      · obtain ⟨p1, p2, p3, p4⟩ := hpc.1 c1.1
        have p1 := p1 (by omega)
        rw [if_pos c1, if_pos (show pk χ = 32 ∨ pk χ = 10 by omega)]
        refine ih m _ _ ?_ ?_ hk ht ?_
        · show 940 - (φ 1 4 + 1) < (n : Int); omega
        · show 940 - (χ 192 4 + 1) < (m : Int); omega
        · show φ 1 2 = χ 192 3 ∧ φ 1 3 = χ 192 5 ∧ φ 1 4 + 1 = χ 192 4 + 1 ∧ 0 ≤ φ 1 4 + 1 ∧ φ 1 4 + 1 ≤ φ 1 2 ∧ φ 1 2 ≤ 940 ∧ φ 1 9 = χ 192 15
          omega
      · rw [if_neg c1]
        have hn : ¬ (pk χ = 32 ∨ pk χ = 10) := by
          by_cases h : φ 1 4 < φ 1 2
          · obtain ⟨p1, p2, p3, p4⟩ := hpc.1 h
            by_cases h0 : 0 ≤ cb φ
            · have := p1 h0; omega
            · have := p2 (by omega); omega
          · have := hpc.2 h; omega
        rw [if_neg hn]
        exact nx_rel hk ht hs
theorem adv_rel {φ χ : hf_F} (hk : KWR φ χ) (ht : TPR φ χ) (hs : TSR φ χ) : TKR (F_Reader_advance_1 φ) (F_RideLawsModel_next_192 χ) ∧ TSR (F_Reader_advance_1 φ) (F_RideLawsModel_next_192 χ) := by
  rw [adv_0, next_0]
  have hs' := hs
  unfold TSR at hs'
  refine adv_r _ _ _ _ ?_ ?_ hk ht hs
  · show 940 - φ 1 4 < (((940 - (φ 1 4 + 1) : Int).toNat + 1 + 1 : Nat) : Int); omega
  · show 940 - χ 192 4 < (((940 - (χ 192 4 + 1) : Int).toNat + 1 + 1 : Nat) : Int); omega
/-- both readers, in one place -/
noncomputable def RP (φ χ : hf_F) : Prop := (Inv φ ∧ Inv χ) ∧ KWR φ χ ∧ TPR φ χ ∧ TSR φ χ ∧ TKR φ χ
theorem kwr_f {φ χ φ' χ' : hf_F} (h : KWR φ χ) (h1 : ∀ k, φ' 3 k = φ 3 k) (h2 : ∀ k, χ' 198 k = χ 198 k) : KWR φ' χ' := fun k q => ⟨(h1 k).trans (h k q).1, (h2 k).trans (h k q).2⟩
theorem tpr_f {φ χ φ' χ' : hf_F} (h : TPR φ χ) (h1 : ∀ k, φ' 2 k = φ 2 k) (h2 : ∀ k, χ' 193 k = χ 193 k) : TPR φ' χ' := fun k q => by rw [h1, h2]; exact h k q
theorem rp_adv0 {φ χ ψ ξ : hf_F} (i1 : Inv φ) (i2 : Inv χ) (hk : KWR φ χ) (ht : TPR φ χ) (hs : TSR φ χ) (e1 : F_Reader_advance_1 φ = ψ) (e2 : F_RideLawsModel_next_192 χ = ξ) :
    RP ψ ξ ∧ Fr [2004, 2005, 2006, 2007, 2008] φ ψ ∧ Fr [193004, 193011, 193012, 193013, 193014, 193017] χ ξ := by
  have k1 := K_F_Reader_advance_1 i1 e1
  have k2 := K_F_RideLawsModel_next_192 i2 e2
  have r := adv_rel hk ht hs
  rw [e1, e2] at r
  exact ⟨⟨⟨k1.1, k2.1⟩, kwr_f hk (fun k => fr_at k1.2 3 (by decide) k) (fun k => fr_at k2.2.1 198 (by decide) k), tpr_f ht (fun k => fr_at k1.2 2 (by decide) k) (fun k => fr_at k2.2.1 193 (by decide) k), r.2, r.1⟩, k1.2, k2.2.1⟩
theorem rp_adv {φ χ ψ ξ : hf_F} (h : RP φ χ) (e1 : F_Reader_advance_1 φ = ψ) (e2 : F_RideLawsModel_next_192 χ = ξ) :
    RP ψ ξ ∧ Fr [2004, 2005, 2006, 2007, 2008] φ ψ ∧ Fr [193004, 193011, 193012, 193013, 193014, 193017] χ ξ := by
  exact rp_adv0 h.1.1 h.1.2 h.2.1 h.2.2.1 h.2.2.2.1 e1 e2
/-- the pair goes on where neither the tape nor the reader's place and token change -/
theorem rp_f {φ χ φ' χ' : hf_F} (h : RP φ χ) (i1 : Inv φ') (i2 : Inv χ') (h1 : ∀ k, k < 11 → φ' 1 k = φ 1 k) (h2 : ∀ k, k < 18 → χ' 192 k = χ 192 k) (h3 : ∀ k, φ' 3 k = φ 3 k) (h4 : ∀ k, χ' 198 k = χ 198 k) (h5 : ∀ k, φ' 2 k = φ 2 k) (h6 : ∀ k, χ' 193 k = χ 193 k) : RP φ' χ' := by
  obtain ⟨_, hk, ht, hs, hx⟩ := h
  refine ⟨⟨i1, i2⟩, kwr_f hk h3 h4, tpr_f ht h5 h6, ?_, ?_⟩
  · unfold TSR at hs ⊢
    rw [h1 2 (by decide), h1 3 (by decide), h1 4 (by decide), h2 3 (by decide), h2 4 (by decide), h2 5 (by decide), h1 9 (by decide), h2 15 (by decide)]
    exact hs
  · unfold TKR at hx ⊢
    rw [h1 5 (by decide), h1 6 (by decide), h1 7 (by decide), h1 8 (by decide), h2 11 (by decide), h2 12 (by decide), h2 14 (by decide), h2 17 (by decide)]
    exact hx
theorem kw_f : ∀ k : Nat, k < 23 → rst k = G8 (kwt k) ∧ VW (kwt k) ∧ 0 ≤ rst k ∧ rst k < 72057594037927936 := by
  have hh : ∀ k : Fin 23, rst k.1 = G8 (kwt k.1) ∧ ((0 ≤ kwt k.1 ∧ kwt k.1 < 34359738368 ∧ U5n 8 (G8 (kwt k.1)) = kwt k.1 ∧ DGn 8 (kwt k.1) = true)) ∧ 0 ≤ rst k.1 ∧ rst k.1 < 72057594037927936 := by decide +kernel
  exact fun k q => hh ⟨k, q⟩
theorem kw_i {i j : Nat} (hi : i < 23) (hj : j < 23) (h : kwt i = kwt j) : i = j := by
  have hh : ∀ i j : Fin 23, kwt i.1 = kwt j.1 → i.1 = j.1 := by decide +kernel
  exact hh ⟨i, hi⟩ ⟨j, hj⟩ h
theorem cmp_e {a b : Int} (h1 : 0 ≤ a) (h2 : a < 72057594037927936) (h3 : 0 ≤ b) (h4 : b < 72057594037927936) : (jm_cmp a b = 0) = (a = b) := by
  have := hr_cmpe a b ⟨by omega, by omega⟩ ⟨by omega, by omega⟩
  apply propext
  constructor
  · exact this.1
  · intro h
    exact Classical.byContradiction (fun q => this.2 q h)
theorem cmp_0 {c : Int} (h : VW c) : (jm_cmp c 0 = 0) = (c = 0) := cmp_e h.1 (by have := h.2.1; omega) (by decide) (by decide)
theorem isw_z {φ χ : hf_F} (h : RP φ χ) {k : Nat} (hk : k < 23) {w : Int} (hw : rst k = w) : (F_RideLawsModel_isWord_192 χ w = 0) = ¬ (φ 1 5 = 3 ∧ φ 1 7 = (k : Int)) := by
  obtain ⟨_, _, _, _, _, hx⟩ := h
  subst hw
  unfold F_RideLawsModel_isWord_192
  have hn : (¬ χ 192 11 = 1) → ¬ φ 1 5 = 3 → ((if ¬ χ 192 11 = 1 then (0 : Int) else if ¬ jm_cmp (χ 192 17) (rst k) = 0 then 0 else 1) = 0) = ¬ (φ 1 5 = 3 ∧ φ 1 7 = (k : Int)) := by
    intro h1 h2
    rw [if_pos h1]
    exact propext ⟨fun _ q => h2 q.1, fun _ => rfl⟩
  obtain ⟨q1, q2, q3, q4⟩ := kw_f k hk
  rcases hx with ⟨x1, x2⟩ | ⟨x1, x2⟩ | ⟨x1, x2, x3⟩ | ⟨x1, x2, x3⟩ | ⟨x1, x2, x3, x4, x5⟩
  · exact hn (by omega) (by omega)
  · exact hn (by omega) (by omega)
  · exact hn (by omega) (by omega)
  · exact hn (by omega) (by omega)
  · have hb := G8_b _ x2.2.1
    rw [if_neg (fun q => q x1), x4]
    simp only [cmp_e hb.1 hb.2 q3 q4]
    have he : (G8 (φ 1 8) = rst k) = (kwt k = φ 1 8) := propext ⟨fun q => (VW_i x2 q2 (q.trans q1)).symm, fun q => by rw [q1, q]⟩
    simp only [he]
    rcases x5 with ⟨y1, y2⟩ | ⟨y1, y2, y3, y4⟩
    · rw [if_pos (y2 k hk)]
      exact propext ⟨fun _ q => by omega, fun _ => rfl⟩
    · by_cases hc : kwt k = φ 1 8
      · rw [if_neg (fun q => q hc)]
        have := kw_i hk (show (φ 1 7).toNat < 23 by omega) (hc.trans y4.symm)
        exact propext ⟨fun q => absurd q (by decide), fun q => absurd ⟨y1, by omega⟩ q⟩
      · rw [if_pos hc]
        refine propext ⟨fun _ q => hc ?_, fun _ => rfl⟩
        rw [← y4, q.2]
        rfl
theorem isnm_l : ∀ (n : Nat) (χ : hf_F) (l1 l2 : Int), 23 - l2 < n → 0 ≤ l2 → l2 ≤ 23 → (l1 = 0 ∨ l1 = 1) → (∀ k : Nat, k < 23 → χ 198 k = rst k) → 0 ≤ χ 192 17 → χ 192 17 < 72057594037927936 →
    (F_RideLawsModel_isName_192_l16 n χ l1 l2 = 0) = ¬ (l1 = 1 ∧ ∀ k : Nat, l2 ≤ (k : Int) → k < 23 → ¬ χ 192 17 = rst k) := by
  intro n
  induction n with
  | zero => intro χ l1 l2 h1 h2 h3; omega
  | succ n ih =>
    intro χ l1 l2 h1 h2 h3 h4 h5 h6 h7
    rw [F_RideLawsModel_isName_192_l16_s]
    by_cases c1 : 23 ≤ l2
    · rw [if_pos c1]
      refine propext ⟨fun q w => by omega, fun q => ?_⟩
      rcases h4 with h4 | h4
      · exact h4
      · exact absurd ⟨h4, fun k q1 q2 => by omega⟩ q
    · rw [if_neg c1]
      by_cases c2 : l1 = 0
      · rw [if_pos c2, ih χ 0 (l2 + 1) (by omega) (by omega) (by omega) (Or.inl rfl) h5 h6 h7]
        exact propext ⟨fun _ w => by omega, fun _ w => by have := w.1; omega⟩
      · rw [if_neg c2, h5 l2.toNat (by omega)]
        simp only [cmp_e h6 h7 (kw_f l2.toNat (by omega)).2.2.1 (kw_f l2.toNat (by omega)).2.2.2]
        by_cases c3 : χ 192 17 = rst l2.toNat
        · rw [if_pos c3, ih χ 0 (l2 + 1) (by omega) (by omega) (by omega) (Or.inl rfl) h5 h6 h7]
          exact propext ⟨fun _ w => w.2 l2.toNat (by omega) (by omega) c3, fun _ w => by have := w.1; omega⟩
        · rw [if_neg c3, ih χ 1 (l2 + 1) (by omega) (by omega) (by omega) (Or.inr rfl) h5 h6 h7]
          refine propext ⟨fun q w => q ⟨rfl, fun k q1 q2 => w.2 k (by omega) q2⟩, fun q w => q ⟨by omega, fun k q1 q2 => ?_⟩⟩
          by_cases hk3 : (k : Int) = l2
          · rw [show k = l2.toNat by omega]; exact c3
          · exact w.2 k (by omega) q2
theorem isnm_z {φ χ : hf_F} (h : RP φ χ) : (F_RideLawsModel_isName_192 χ = 0) = ¬ φ 1 5 = 2 := by
  obtain ⟨_, hk, _, _, _, hx⟩ := h
  unfold F_RideLawsModel_isName_192
  show ((if ¬ χ 192 11 = 1 then F_RideLawsModel_isName_192_l16 24 χ 0 0 else F_RideLawsModel_isName_192_l16 24 χ 1 0) = 0) = _
  have k5 : ∀ k : Nat, k < 23 → χ 198 k = rst k := fun k q => (hk k q).2
  by_cases hc : χ 192 11 = 1
  · rcases hx with ⟨x1, x2⟩ | ⟨x1, x2⟩ | ⟨x1, x2, x3⟩ | ⟨x1, x2, x3⟩ | ⟨x1, x2, x3, x4, x5⟩
    · omega
    · omega
    · omega
    · omega
    have hb := G8_b _ x2.2.1
    rw [if_neg (fun q => q hc), isnm_l 24 χ 1 0 (by decide) (by decide) (by decide) (Or.inr rfl) k5 (by omega) (by omega)]
    rcases x5 with ⟨y1, y2⟩ | ⟨y1, y2, y3, y4⟩
    · refine propext ⟨fun q w => q ⟨rfl, fun k q1 q2 e => y2 k q2 ?_⟩, fun q w => q y1⟩
      rw [x4, (kw_f k q2).1] at e
      exact (VW_i x2 (kw_f k q2).2.1 e).symm
    · refine propext ⟨fun _ w => by omega, fun _ w => w.2 (φ 1 7).toNat (by omega) (by omega) ?_⟩
      rw [x4, (kw_f _ (by omega)).1, y4]
  · have hd : ¬ φ 1 5 = 2 := by omega
    rw [if_pos hc]
    have e : F_RideLawsModel_isName_192_l16 24 χ 0 0 = 0 := by
      have : ∀ n : Nat, ∀ l2 : Int, F_RideLawsModel_isName_192_l16 n χ 0 l2 = 0 := by
        intro n
        induction n with
        | zero => intro l2; rfl
        | succ n ih =>
          intro l2
          rw [F_RideLawsModel_isName_192_l16_s, if_pos (rfl : (0 : Int) = 0), ih]
          split <;> rfl
      exact this 24 0
    exact propext ⟨fun _ => hd, fun _ => e⟩
