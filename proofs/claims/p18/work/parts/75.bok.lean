/-! book -/
/-- what was told of the latest BOOK -/
noncomputable def TDR (φ χ : hf_F) : Prop := (χ 192 32 = 0 ∧ ∀ k : Nat, k < 4 → φ 191 k = -1) ∨ (¬ χ 192 32 = 0 ∧ ∀ k : Nat, k < 4 → φ 191 k = χ 202 k)
theorem tdr_f {φ χ φ' χ' : hf_F} (h : TDR φ χ) (h1 : ∀ k, φ' 191 k = φ 191 k) (h2 : χ' 192 32 = χ 192 32) (h3 : ∀ k, χ' 202 k = χ 202 k) : TDR φ' χ' := by
  unfold TDR at h ⊢
  rw [h2]
  rcases h with ⟨a, b⟩ | ⟨a, b⟩
  · exact Or.inl ⟨a, fun k hk => by rw [h1]; exact b k hk⟩
  · exact Or.inr ⟨a, fun k hk => by rw [h1, h3]; exact b k hk⟩
theorem bk_tl {ψ6 ξ6 : hf_F} {w : Int} (h : LIV ψ6 ξ6) (h1 : ψ6 183 6 = ξ6 202 1) (h2 : ξ6 202 0 = w) : ∀ k : Nat, k < 4 → TDE ψ6 w 191 k = CHE ξ6 202 k := by
  obtain ⟨_, ⟨⟨⟨s0, _, _, s3, _⟩, _⟩, _⟩, _⟩ := h
  intro k hk
  have hk4 : k = 0 ∨ k = 1 ∨ k = 2 ∨ k = 3 := by omega
  unfold TDE CHE
  rcases hk4 with rfl | rfl | rfl | rfl
  · show w = ξ6 202 0
    exact h2.symm
  · show ψ6 183 6 = ξ6 202 1
    exact h1
  · show ψ6 43 0 = ξ6 194 99
    exact s0
  · show ψ6 43 3 = ξ6 194 102
    exact s3
theorem che_h (ξ6 : hf_F) : ¬ CHE ξ6 192 32 = 0 := by
  unfold CHE
  rw [hf_up_eq]
  decide
theorem book_rel {φ χ ψ ξ : hf_F} {v r s : Int} (i1 : Inv φ) (i2 : Inv χ) (h : SCR φ χ) (hT : TDR φ χ) (hz : φ 1 2 = χ 192 2) (hk : KWR φ χ) (ht : TPR φ χ) (e1 : F_RideLaws_book_0 φ v = (r, ψ)) (e2 : F_RideLawsModel_book_192 χ v = (s, ξ)) : r = s ∧ SCR ψ ξ ∧ (φ 0 12 = χ 192 15 → ψ 0 12 = ξ 192 15) ∧ TDR ψ ξ ∧ C18 χ ξ := by
  have hb := cb_i i2
  by_cases hv : v = 0 ∨ v = 1
  · unfold F_RideLawsModel_book_192 at e2
    rw [bnp_e (isin_e _ v _ _), if_pos (show 0 ≤ v ∧ v ≤ 1 by omega), if_pos (by decide)] at e2
    obtain ⟨z, ψ2, g⟩ : ∃ a b, F_BookText_readAll_183 φ = (a, b) := ⟨_, _, rfl⟩
    have kr := K_F_BookText_readAll_183 i1 g
    have hck : CKW φ ψ2 := fr_ck kr.2.1 (by decide)
    have hS2 : SCR ψ2 χ := scr_w hb h hck
    have hct : ∀ a k, ¬ a = 0 → ¬ (a = 1 ∧ k = 2) → F_RideLaws_closeText_0 ψ2 a k = ψ2 a k := fun a k q1 q2 => by
      unfold F_RideLaws_closeText_0
      rw [hf_up_ne q2, up_a q1]
    have hcf : F_RideLaws_closeText_0 ψ2 0 12 = ψ2 1 9 := by
      unfold F_RideLaws_closeText_0
      rw [hf_up_ne (fun q => absurd q.1 (by decide)), hf_up_eq]
    have hS3 : SCR (F_RideLaws_closeText_0 ψ2) χ := scr_f hb hS2 (fun a k q => hct a k (by omega) (by omega)) rfl (fun _ => rfl) (fun _ _ => rfl) (fun _ _ => rfl)
    have e1c : (if ¬ z = 0 then (bnv (F_State_copyFrom_43_17 (F_RideLaws_closeText_0 ψ2)) (fun ψ5 => (bnd (F_BookText_liveOn_183_43 ψ5) (fun z6 ψ6 => (if ¬ v = 1 then (if ¬ (jm_n z6) = 0 then (ψ6 183 6, TDE ψ6 z6) else ((-1 : Int), TDE ψ6 z6)) else (if (ψ6 183 6) ≤ 0 then (if ¬ (jm_n z6) = 0 then (ψ6 183 6, TDE ψ6 z6) else ((-1 : Int), TDE ψ6 z6)) else (bnv (F_History_keep_108_17 (TDE ψ6 z6)) (fun ψ15 => (bnv (F_State_copyFrom_17_43 ψ15) (fun ψ16 => (if ¬ (jm_n z6) = 0 then (ψ16 183 6, ψ16) else ((-1 : Int), ψ16)))))))))))) else ((-2 : Int) - (F_RideLaws_closeText_0 ψ2 1 10), F_RideLaws_closeText_0 ψ2)) = (r, ψ) := by
      rw [← e1]
      unfold F_RideLaws_book_0
      rcases hv with rfl | rfl
      · rw [if_pos rfl, bnd_e g, bnv_e rfl]
        rfl
      · rw [if_neg (show ¬ (1 : Int) = 0 by decide), if_pos rfl, bnd_e g, bnv_e rfl]
        rfl
    rcases book_parse i1 i2 hz hk ht h.1 g e2 with ⟨y1, y2, y3, y4⟩ | ⟨y1, χ', y2, y3, y4, y5, y6⟩
    · rw [if_neg (fun q => q y1)] at e1c
      cases e1c
      refine ⟨?_, scr_m hb hS3 ⟨fun k _ => y4.1 194 k (by omega), fun k _ => y4.1 197 k (by omega), fun k => y4.1 199 k (by omega), y4.2.1⟩, fun _ => ?_, tdr_f hT (fun k => ?_) y4.2.2 (fun k => y4.1 202 k (by omega)), fun k _ => y4.1 194 k (by omega)⟩
      · rw [y2, hct 1 10 (by decide) (by decide), y3.2]
      · rw [hcf]; exact y3.1
      · rw [hct 191 k (by decide) (by omega)]; exact fr_at kr.2.1 191 (by decide) k
    · rw [if_pos (show ¬ z = 0 by omega), bnv_e rfl] at e1c
      have d4 : ∀ k, χ' 194 k = χ 194 k := fun k => y5.1 194 k (by omega)
      have hS4 : SCR (F_RideLaws_closeText_0 ψ2) χ' := scr_m hb hS3 ⟨fun k _ => d4 k, fun k _ => y5.1 197 k (by omega), fun k => y5.1 199 k (by omega), y5.2.1⟩
      have hb' := cb_i y2.1.2
      have hr' := scr_srb hb' hS4
      obtain ⟨t1, t2⟩ := tri_c hb' hS4
      have hIt : Inv (hf_mp (F_RideLawsModel_tries_192 χ') 202 0 4 (fun _ => 0)) := iv_mpk (K_F_RideLawsModel_tries_192 y2.1.2 rfl).1 (by decide +kernel) (by decide +kernel)
      have u2 : ∀ k, k < 81 → hf_mp (F_RideLawsModel_tries_192 χ') 202 0 4 (fun _ => 0) 200 k = χ' 194 (99 + k) := fun k hk => by
        rw [hf_mp_ne (fun q => absurd q.1 (by decide))]
        unfold F_RideLawsModel_tries_192
        rw [hf_mp_in (by omega) (by omega), show 99 + (k - 0) = 99 + k by omega]
      have u3 : ∀ a k, ¬ a = 202 → ¬ a = 200 → hf_mp (F_RideLawsModel_tries_192 χ') 202 0 4 (fun _ => 0) a k = χ' a k := fun a k q1 q2 => by
        rw [hf_mp_ne (fun q => q1 q.1)]
        unfold F_RideLawsModel_tries_192
        rw [hf_mp_ne (fun q => q2 q.1)]
      have u4 : ∀ k, k < 4 → hf_mp (F_RideLawsModel_tries_192 χ') 202 0 4 (fun _ => 0) 202 k = 0 := fun k hk => by
        rw [hf_mp_in (by omega) (by omega)]
      generalize hf_mp (F_RideLawsModel_tries_192 χ') 202 0 4 (fun _ => 0) = χt at y6 hIt u2 u3 u4
      generalize F_State_copyFrom_43_17 (F_RideLaws_closeText_0 ψ2) = ψ5 at e1c t1 t2
      have p6 : ∀ a k, ¬ (a = 183 ∧ k = 6) → hf_up ψ5 183 6 0 a k = ψ5 a k := fun a k q => hf_up_ne q
      have hL : LIV (hf_up ψ5 183 6 0) χt := liv_o y2.1.2 ⟨t1.1, t1.2, hS4.2.2.2⟩ (fun a k q => p6 a k (by omega)) (fun k _ => u3 194 k (by decide) (by decide)) (fun k _ => u3 197 k (by decide) (by decide))
      have q5 : ∀ a k, 183 ≤ a → a ≤ 186 → ¬ (a = 183 ∧ k = 6) → hf_up ψ5 183 6 0 a k = ψ2 a k := fun a k h1 h2 h3 => by rw [p6 a k h3, t2 a k (by omega), hct a k (by omega) (by omega)]
      have hBt : BKR (hf_up ψ5 183 6 0) χt := by
        refine ⟨?_, ?_, fun j hj => ?_⟩
        · rw [q5 183 5 (by omega) (by omega) (by omega), u3 192 30 (by decide) (by decide)]; exact y4.1
        · rw [u3 192 30 (by decide) (by decide)]; exact y4.2.1
        · rw [u3 192 30 (by decide) (by decide)] at hj
          have := y4.2.2 j hj
          unfold BLN at this ⊢
          rw [u3 196 _ (by decide) (by decide), u3 196 (3 * j + 1) (by decide) (by decide), u3 196 (3 * j + 2) (by decide) (by decide), u3 194 3 (by decide) (by decide), u3 194 1 (by decide) (by decide), u3 194 2 (by decide) (by decide), q5 184 j (by omega) (by omega) (by omega), q5 185 j (by omega) (by omega) (by omega), q5 186 j (by omega) (by omega) (by omega)]
          exact this
      obtain ⟨w, l2, i', ψ6, ξ6, x1, x2, x3, x4, x5, x6, x7, x8, x9, x0⟩ := lon_l v ((40 - 0 : Int).toNat + 1) ((40 - 0 : Int).toNat + 1) (hf_up ψ5 183 6 0) χt 0 (-1) 0 (by decide) (by decide) (by decide) (by decide) hIt hL hBt ⟨by rw [hf_up_eq, u4 1 (by decide)], u4 0 (by decide), Or.inl ⟨rfl, rfl, u4 1 (by decide)⟩⟩
      have x1' : F_BookText_liveOn_183_43 ψ5 = (w, ψ6) := x1
      rw [bnd_e x1'] at e1c
      rw [x2] at y6
      rw [u4 1 (by decide)] at x9 x0
      obtain ⟨z1, z2, z3⟩ := x6
      have o6 : ∀ a k, ¬ (43 ≤ a ∧ a ≤ 51) → ¬ (a = 183 ∧ k = 6) → ψ6 a k = F_RideLaws_closeText_0 ψ2 a k := fun a k h1 h2 => by rw [x4 a k h1 h2, p6 a k h2, t2 a k h1]
      have hBK : BKL φ χ ψ6 ξ6 w l2 := by
        refine ⟨scr_f hb hS3 (fun a k q => ?_) rfl (fun _ => rfl) (fun _ _ => rfl) (fun _ _ => rfl), x3, by omega, z1, by omega, by omega, fun k hk => ?_, fun k hk => ?_, fun k => ?_, fun k => ?_, ?_, fun q k => ?_⟩
        · rw [tde_o (by omega), o6 a k (by omega) (by omega)]
        · rw [x5 200 k (by omega) (by omega), u2 k hk, d4]
        · rw [x5 194 k (by omega) (by omega), u3 194 k (by decide) (by decide), d4]
        · rw [x5 197 k (by omega) (by omega), u3 197 k (by decide) (by decide), y5.1 197 k (by omega)]
        · rw [x5 199 k (by omega) (by omega), u3 199 k (by decide) (by decide), y5.1 199 k (by omega)]
        · rw [x5 192 22 (by omega) (by omega), u3 192 22 (by decide) (by decide), y5.2.1]
        · rw [x0 q k, u3 194 k (by decide) (by decide), d4]
      have c15 : ∀ a k, ¬ a = 191 → ¬ (17 ≤ a ∧ a ≤ 25) → ¬ (43 ≤ a ∧ a ≤ 51) → ¬ (108 ≤ a ∧ a ≤ 183) → TDE ψ6 w a k = F_RideLaws_closeText_0 ψ2 a k := fun a k h1 h2 h3 h4 => by rw [tde_o h1, o6 a k h3 (by omega)]
      have m15 : CHE ξ6 192 15 = χ' 192 15 := by rw [che_o (by decide) (by omega), x5 192 15 (by omega) (by omega), u3 192 15 (by decide) (by decide)]
      have hfl : TDE ψ6 w 0 12 = CHE ξ6 192 15 := by
        rw [c15 0 12 (by decide) (by omega) (by omega) (by omega), hcf, m15]
        exact y2.2.2.2.1.2.2.2.2.2.2
      have htl := bk_tl x3 z1 z2
      have m18 : ∀ k, 180 ≤ k → CHE ξ6 194 k = χ 194 k := fun k hk => by rw [che_o (by decide) (by omega), x5 194 k (by omega) (by omega), u3 194 k (by decide) (by decide), d4]
      have hw : jm_n w = w := hi_n (by unfold hi; omega)
      have h21 : jm_n (CHE ξ6 202 1) = ξ6 202 1 := by
        have : CHE ξ6 202 1 = ξ6 202 1 := rfl
        rw [this]
        exact hi_n (by have := hBK.2.2.2.2.1; unfold hi; omega)
      rw [hw] at e1c
      have hans : (if ¬ w = 0 then (ψ6 183 6, TDE ψ6 w) else ((-1 : Int), TDE ψ6 w)) = (l2, TDE ψ6 w) := by
        by_cases c : w = 0
        · rw [if_neg (fun q => q c), show l2 = -1 by omega]
        · rw [if_pos c, show ψ6 183 6 = l2 by omega]
      have hbnd : BND ξ6 v l2 = (if ¬ v = 1 then (if ¬ v = 0 then (l2, CHE ξ6) else (l2, F_RideLawsModel_back_192 (CHE ξ6))) else (if jm_n (ξ6 202 1) ≤ 0 then (if ¬ v = 0 then (l2, CHE ξ6) else (l2, F_RideLawsModel_back_192 (CHE ξ6))) else (if ¬ v = 0 then (l2, KPO (CHE ξ6)) else (l2, F_RideLawsModel_back_192 (KPO (CHE ξ6)))))) := rfl
      rw [hbnd] at y6
      rcases hv with rfl | rfl
      · rw [if_pos (show ¬ (0 : Int) = 1 by decide), hans] at e1c
        rw [if_pos (show ¬ (0 : Int) = 1 by decide), if_neg (show ¬ ¬ (0 : Int) = 0 by decide)] at y6
        cases e1c
        cases y6
        exact ⟨rfl, bok_0 hb hBK, fun _ => hfl.trans (back_o _ 192 15 (by omega)).symm, Or.inr ⟨by rw [back_o _ 192 32 (by omega)]; exact che_h ξ6, fun k hk => (htl k hk).trans (back_o _ 202 k (by omega)).symm⟩, fun k hk => (back_o _ 194 k (by omega)).trans (m18 k hk)⟩
      · rw [if_neg (show ¬ ¬ (1 : Int) = 1 by decide), hans] at e1c
        have h21' : jm_n (ξ6 202 1) = ξ6 202 1 := h21
        rw [if_neg (show ¬ ¬ (1 : Int) = 1 by decide), h21', if_pos (show ¬ (1 : Int) = 0 by decide), if_pos (show ¬ (1 : Int) = 0 by decide)] at y6
        by_cases c : ξ6 202 1 ≤ 0
        · rw [if_pos (show ψ6 183 6 ≤ 0 by omega)] at e1c
          rw [if_pos c] at y6
          cases e1c
          cases y6
          exact ⟨rfl, bok_z hb hBK (by omega), fun _ => hfl, Or.inr ⟨che_h ξ6, htl⟩, m18⟩
        · rw [if_neg (show ¬ ψ6 183 6 ≤ 0 by omega), bnv_e rfl, bnv_e rfl] at e1c
          rw [if_neg c] at y6
          have hx := bok_1 hb hBK
          have hks := (keep_s (χ := χ) hb hBK.1).2.1
          have hc := cpy_17_43 (F_History_keep_108_17 (TDE ψ6 w))
          have e83 : F_State_copyFrom_17_43 (F_History_keep_108_17 (TDE ψ6 w)) 183 6 = ψ6 183 6 := by
            rw [hc.2.2.2.2.2.2.2.2.2 183 6 (by omega), hks 183 6 (by omega) (by omega) (by omega) (by omega), tde_o (by decide)]
          rw [e83] at e1c
          have hans2 : (if ¬ w = 0 then (ψ6 183 6, F_State_copyFrom_17_43 (F_History_keep_108_17 (TDE ψ6 w))) else ((-1 : Int), F_State_copyFrom_17_43 (F_History_keep_108_17 (TDE ψ6 w)))) = (l2, F_State_copyFrom_17_43 (F_History_keep_108_17 (TDE ψ6 w))) := by
            by_cases c2 : w = 0
            · rw [if_neg (fun q => q c2), show l2 = -1 by omega]
            · rw [if_pos c2, show ψ6 183 6 = l2 by omega]
          rw [hans2] at e1c
          cases e1c
          cases y6
          have h22 : 0 ≤ CHE ξ6 192 22 ∧ CHE ξ6 192 22 ≤ 8 := by
            rw [che_o (by decide) (by omega), hBK.2.2.2.2.2.2.2.2.2.2.1]; exact h.2.2.1.2.1
          obtain ⟨_, _, kp3⟩ := kp_o h22
          have cc : ∀ a k, ¬ (17 ≤ a ∧ a ≤ 25) → ¬ (108 ≤ a ∧ a ≤ 181) → F_State_copyFrom_17_43 (F_History_keep_108_17 (TDE ψ6 w)) a k = TDE ψ6 w a k := fun a k h1 h2 => by rw [hc.2.2.2.2.2.2.2.2.2 a k (by omega), hks a k (by omega) (by omega) (by omega) (by omega)]
          refine ⟨rfl, hx, fun _ => ?_, Or.inr ⟨?_, fun k hk => ?_⟩, fun k hk => (kp3 194 k (by decide) (by omega)).trans (m18 k hk)⟩
          · rw [cc 0 12 (by omega) (by omega), kp3 192 15 (by decide) (by omega)]; exact hfl
          · rw [kp3 192 32 (by decide) (by omega)]; exact che_h ξ6
          · rw [cc 191 k (by omega) (by omega), kp3 202 k (by decide) (by omega)]; exact htl k hk
  · unfold F_RideLaws_book_0 at e1
    unfold F_RideLawsModel_book_192 at e2
    rw [if_neg (fun q => hv (Or.inl q)), if_neg (fun q => hv (Or.inr q))] at e1
    rw [bnp_e (isin_e _ v _ _), if_neg (show ¬ (0 ≤ v ∧ v ≤ 1) by omega), if_neg (by decide)] at e2
    cases e1
    cases e2
    exact ⟨rfl, scr_0 hb h, fun q => q, tdr_f hT (fun _ => rfl) rfl (fun _ => rfl), fun _ _ => rfl⟩
theorem told_q {φ χ ξ : hf_F} {v r s : Int} (h : TDR φ χ) (e1 : F_RideLaws_told_0 φ v = r) (e2 : F_RideLawsModel_told_192 χ v = (s, ξ)) : r = s := by
  unfold F_RideLaws_told_0 at e1
  unfold F_RideLawsModel_told_192 at e2
  rcases h with ⟨h1, h2⟩ | ⟨h1, h2⟩
  · rw [if_pos h1] at e2
    cases e2
    by_cases c : v < 0
    · rw [if_pos c] at e1; exact e1.symm
    · rw [if_neg c] at e1
      by_cases c2 : 4 ≤ v
      · rw [if_pos c2] at e1; exact e1.symm
      · rw [if_neg c2, h2 v.toNat (by omega)] at e1; exact e1.symm
  · rw [if_neg h1, bnp_e (isin_e _ v _ _)] at e2
    by_cases c : 0 ≤ v ∧ v ≤ 3
    · rw [if_neg (show ¬ v < 0 by omega), if_neg (show ¬ 4 ≤ v by omega), h2 v.toNat (by omega)] at e1
      rw [if_pos c, if_neg (by decide)] at e2
      cases e2
      exact e1.symm
    · rw [if_neg c, if_pos rfl] at e2
      cases e2
      by_cases c1 : v < 0
      · rw [if_pos c1] at e1; exact e1.symm
      · rw [if_neg c1, if_pos (show 4 ≤ v by omega)] at e1; exact e1.symm
theorem fault_q {φ χ ξ : hf_F} {r s : Int} (h : φ 0 12 = χ 192 15) (e1 : F_RideLaws_fault_0 φ = r) (e2 : F_RideLawsModel_fault_192 χ = (s, ξ)) : r = s := by
  unfold F_RideLaws_fault_0 at e1
  unfold F_RideLawsModel_fault_192 at e2
  cases e2
  omega
