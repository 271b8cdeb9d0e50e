/-! book -/
theorem book_rel {φ χ ψ ξ : hf_F} {v r s : Int} (i1 : Inv φ) (i2 : Inv χ) (h : SCR φ χ) (hz : φ 1 2 = χ 192 2) (hk : KWR φ χ) (ht : TPR φ χ) (e1 : F_RideLaws_book_0 φ v = (r, ψ)) (e2 : F_RideLawsModel_book_192 χ v = (s, ξ)) : r = s ∧ SCR ψ ξ := by
  have hb := cb_i i2
  by_cases hv : v = 0 ∨ v = 1
  · unfold F_RideLawsModel_book_192 at e2
    rw [bnp_e (isin_e _ v _ _), if_pos (show 0 ≤ v ∧ v ≤ 1 by omega), if_pos (by decide)] at e2
    obtain ⟨z, ψ2, g⟩ : ∃ a b, F_BookText_readAll_183 φ = (a, b) := ⟨_, _, rfl⟩
    have kr := K_F_BookText_readAll_183 i1 g
    have hck : CKW φ ψ2 := fr_ck kr.2.1 (by decide)
    have hS2 : SCR ψ2 χ := scr_w hb h hck
    have hct : ∀ a k, ¬ a = 0 → ¬ (a = 1 ∧ k = 2) → F_RideLaws_closeText_0 ψ2 a k = ψ2 a k := fun a k q1 q2 => by
      unfold F_RideLaws_closeText_0
      rw [hf_up_ne q2, up_a q1]
    have hS3 : SCR (F_RideLaws_closeText_0 ψ2) χ := scr_f hb hS2 (fun a k q => hct a k (by omega) (by omega)) rfl (fun _ => rfl) (fun _ _ => rfl) (fun _ _ => rfl)
    have e1c : (if ¬ z = 0 then (bnv (F_State_copyFrom_43_17 (F_RideLaws_closeText_0 ψ2)) (fun ψ5 => (bnd (F_BookText_liveOn_183_43 ψ5) (fun z6 ψ6 => (if ¬ v = 1 then (if ¬ (jm_n z6) = 0 then (ψ6 183 6, TDE ψ6 z6) else ((-1 : Int), TDE ψ6 z6)) else (if (ψ6 183 6) ≤ 0 then (if ¬ (jm_n z6) = 0 then (ψ6 183 6, TDE ψ6 z6) else ((-1 : Int), TDE ψ6 z6)) else (bnv (F_History_keep_108_17 (TDE ψ6 z6)) (fun ψ15 => (bnv (F_State_copyFrom_17_43 ψ15) (fun ψ16 => (if ¬ (jm_n z6) = 0 then (ψ16 183 6, ψ16) else ((-1 : Int), ψ16)))))))))))) else ((-2 : Int) - (F_RideLaws_closeText_0 ψ2 1 10), F_RideLaws_closeText_0 ψ2)) = (r, ψ) := by
      rw [← e1]
      unfold F_RideLaws_book_0
      rcases hv with rfl | rfl
      · rw [if_pos rfl, bnd_e g, bnv_e rfl]
        rfl
      · rw [if_neg (show ¬ (1 : Int) = 0 by decide), if_pos rfl, bnd_e g, bnv_e rfl]
        rfl
    rcases book_parse i1 i2 hz hk ht h.1 g e2 with ⟨y1, y2, y3, y4⟩ | ⟨y1, χ', y2, y3, y4, y5, y6⟩
    · rw [if_neg (fun q => q y1)] at e1c
      cases e1c
      refine ⟨?_, scr_m hb hS3 ⟨fun k _ => y4.1 194 k (by omega), fun k _ => y4.1 197 k (by omega), fun k => y4.1 199 k (by omega), y4.2.1⟩⟩
      rw [y2, hct 1 10 (by decide) (by decide), y3.2]
    · rw [if_pos (show ¬ z = 0 by omega), bnv_e rfl] at e1c
      have d4 : ∀ k, χ' 194 k = χ 194 k := fun k => y5.1 194 k (by omega)
      have hS4 : SCR (F_RideLaws_closeText_0 ψ2) χ' := scr_m hb hS3 ⟨fun k _ => d4 k, fun k _ => y5.1 197 k (by omega), fun k => y5.1 199 k (by omega), y5.2.1⟩
      have hb' := cb_i y2.1.2
      have hr' := scr_srb hb' hS4
      obtain ⟨t1, t2⟩ := tri_c hb' hS4
      have hIt : Inv (hf_mp (F_RideLawsModel_tries_192 χ') 202 0 4 (fun _ => 0)) := iv_mpk (K_F_RideLawsModel_tries_192 y2.1.2 rfl).1 (by decide +kernel) (by decide +kernel)
      have u2 : ∀ k, k < 81 → hf_mp (F_RideLawsModel_tries_192 χ') 202 0 4 (fun _ => 0) 200 k = χ' 194 (99 + k) := fun k hk => by
        rw [hf_mp_ne (fun q => absurd q.1 (by decide))]
        unfold F_RideLawsModel_tries_192
        rw [hf_mp_in (by omega) (by omega), show 99 + (k - 0) = 99 + k by omega]
      have u3 : ∀ a k, ¬ a = 202 → ¬ a = 200 → hf_mp (F_RideLawsModel_tries_192 χ') 202 0 4 (fun _ => 0) a k = χ' a k := fun a k q1 q2 => by
        rw [hf_mp_ne (fun q => q1 q.1)]
        unfold F_RideLawsModel_tries_192
        rw [hf_mp_ne (fun q => q2 q.1)]
      have u4 : ∀ k, k < 4 → hf_mp (F_RideLawsModel_tries_192 χ') 202 0 4 (fun _ => 0) 202 k = 0 := fun k hk => by
        rw [hf_mp_in (by omega) (by omega)]
      generalize hf_mp (F_RideLawsModel_tries_192 χ') 202 0 4 (fun _ => 0) = χt at y6 hIt u2 u3 u4
      generalize F_State_copyFrom_43_17 (F_RideLaws_closeText_0 ψ2) = ψ5 at e1c t1 t2
      have p6 : ∀ a k, ¬ (a = 183 ∧ k = 6) → hf_up ψ5 183 6 0 a k = ψ5 a k := fun a k q => hf_up_ne q
      have hL : LIV (hf_up ψ5 183 6 0) χt := liv_o y2.1.2 ⟨t1.1, t1.2, hS4.2.2.2⟩ (fun a k q => p6 a k (by omega)) (fun k _ => u3 194 k (by decide) (by decide)) (fun k _ => u3 197 k (by decide) (by decide))
      have q5 : ∀ a k, 183 ≤ a → a ≤ 186 → ¬ (a = 183 ∧ k = 6) → hf_up ψ5 183 6 0 a k = ψ2 a k := fun a k h1 h2 h3 => by rw [p6 a k h3, t2 a k (by omega), hct a k (by omega) (by omega)]
      have hBt : BKR (hf_up ψ5 183 6 0) χt := by
        refine ⟨?_, ?_, fun j hj => ?_⟩
        · rw [q5 183 5 (by omega) (by omega) (by omega), u3 192 30 (by decide) (by decide)]; exact y4.1
        · rw [u3 192 30 (by decide) (by decide)]; exact y4.2.1
        · rw [u3 192 30 (by decide) (by decide)] at hj
          have := y4.2.2 j hj
          unfold BLN at this ⊢
          rw [u3 196 _ (by decide) (by decide), u3 196 (3 * j + 1) (by decide) (by decide), u3 196 (3 * j + 2) (by decide) (by decide), u3 194 3 (by decide) (by decide), u3 194 1 (by decide) (by decide), u3 194 2 (by decide) (by decide), q5 184 j (by omega) (by omega) (by omega), q5 185 j (by omega) (by omega) (by omega), q5 186 j (by omega) (by omega) (by omega)]
          exact this
      obtain ⟨w, l2, i', ψ6, ξ6, x1, x2, x3, x4, x5, x6, x7, x8, x9, x0⟩ := lon_l v ((40 - 0 : Int).toNat + 1) ((40 - 0 : Int).toNat + 1) (hf_up ψ5 183 6 0) χt 0 (-1) 0 (by decide) (by decide) (by decide) (by decide) hIt hL hBt ⟨by rw [hf_up_eq, u4 1 (by decide)], u4 0 (by decide), Or.inl ⟨rfl, rfl, u4 1 (by decide)⟩⟩
      have x1' : F_BookText_liveOn_183_43 ψ5 = (w, ψ6) := x1
      rw [bnd_e x1'] at e1c
      rw [x2] at y6
      rw [u4 1 (by decide)] at x9 x0
      obtain ⟨z1, z2, z3⟩ := x6
      have o6 : ∀ a k, ¬ (43 ≤ a ∧ a ≤ 51) → ¬ (a = 183 ∧ k = 6) → ψ6 a k = F_RideLaws_closeText_0 ψ2 a k := fun a k h1 h2 => by rw [x4 a k h1 h2, p6 a k h2, t2 a k h1]
      have hBK : BKL φ χ ψ6 ξ6 w l2 := by
        refine ⟨scr_f hb hS3 (fun a k q => ?_) rfl (fun _ => rfl) (fun _ _ => rfl) (fun _ _ => rfl), x3, by omega, z1, by omega, by omega, fun k hk => ?_, fun k hk => ?_, fun k => ?_, fun k => ?_, ?_, fun q k => ?_⟩
        · rw [tde_o (by omega), o6 a k (by omega) (by omega)]
        · rw [x5 200 k (by omega) (by omega), u2 k hk, d4]
        · rw [x5 194 k (by omega) (by omega), u3 194 k (by decide) (by decide), d4]
        · rw [x5 197 k (by omega) (by omega), u3 197 k (by decide) (by decide), y5.1 197 k (by omega)]
        · rw [x5 199 k (by omega) (by omega), u3 199 k (by decide) (by decide), y5.1 199 k (by omega)]
        · rw [x5 192 22 (by omega) (by omega), u3 192 22 (by decide) (by decide), y5.2.1]
        · rw [x0 q k, u3 194 k (by decide) (by decide), d4]
      have hw : jm_n w = w := hi_n (by unfold hi; omega)
      have h21 : jm_n (CHE ξ6 202 1) = ξ6 202 1 := by
        have : CHE ξ6 202 1 = ξ6 202 1 := rfl
        rw [this]
        exact hi_n (by have := hBK.2.2.2.2.1; unfold hi; omega)
      rw [hw] at e1c
      have hans : (if ¬ w = 0 then (ψ6 183 6, TDE ψ6 w) else ((-1 : Int), TDE ψ6 w)) = (l2, TDE ψ6 w) := by
        by_cases c : w = 0
        · rw [if_neg (fun q => q c), show l2 = -1 by omega]
        · rw [if_pos c, show ψ6 183 6 = l2 by omega]
      have hbnd : BND ξ6 v l2 = (if ¬ v = 1 then (if ¬ v = 0 then (l2, CHE ξ6) else (l2, F_RideLawsModel_back_192 (CHE ξ6))) else (if jm_n (ξ6 202 1) ≤ 0 then (if ¬ v = 0 then (l2, CHE ξ6) else (l2, F_RideLawsModel_back_192 (CHE ξ6))) else (if ¬ v = 0 then (l2, KPO (CHE ξ6)) else (l2, F_RideLawsModel_back_192 (KPO (CHE ξ6)))))) := rfl
      rw [hbnd] at y6
      rcases hv with rfl | rfl
      · rw [if_pos (show ¬ (0 : Int) = 1 by decide), hans] at e1c
        rw [if_pos (show ¬ (0 : Int) = 1 by decide), if_neg (show ¬ ¬ (0 : Int) = 0 by decide)] at y6
        cases e1c
        cases y6
        exact ⟨rfl, bok_0 hb hBK⟩
      · rw [if_neg (show ¬ ¬ (1 : Int) = 1 by decide), hans] at e1c
        have h21' : jm_n (ξ6 202 1) = ξ6 202 1 := h21
        rw [if_neg (show ¬ ¬ (1 : Int) = 1 by decide), h21', if_pos (show ¬ (1 : Int) = 0 by decide), if_pos (show ¬ (1 : Int) = 0 by decide)] at y6
        by_cases c : ξ6 202 1 ≤ 0
        · rw [if_pos (show ψ6 183 6 ≤ 0 by omega)] at e1c
          rw [if_pos c] at y6
          cases e1c
          cases y6
          exact ⟨rfl, bok_z hb hBK (by omega)⟩
        · rw [if_neg (show ¬ ψ6 183 6 ≤ 0 by omega), bnv_e rfl, bnv_e rfl] at e1c
          rw [if_neg c] at y6
          have hx := bok_1 hb hBK
          have hks := (keep_s (χ := χ) hb hBK.1).2.1
          have hc := cpy_17_43 (F_History_keep_108_17 (TDE ψ6 w))
          have e83 : F_State_copyFrom_17_43 (F_History_keep_108_17 (TDE ψ6 w)) 183 6 = ψ6 183 6 := by
            rw [hc.2.2.2.2.2.2.2.2.2 183 6 (by omega), hks 183 6 (by omega) (by omega) (by omega) (by omega), tde_o (by decide)]
          rw [e83] at e1c
          have hans2 : (if ¬ w = 0 then (ψ6 183 6, F_State_copyFrom_17_43 (F_History_keep_108_17 (TDE ψ6 w))) else ((-1 : Int), F_State_copyFrom_17_43 (F_History_keep_108_17 (TDE ψ6 w)))) = (l2, F_State_copyFrom_17_43 (F_History_keep_108_17 (TDE ψ6 w))) := by
            by_cases c2 : w = 0
            · rw [if_neg (fun q => q c2), show l2 = -1 by omega]
            · rw [if_pos c2, show ψ6 183 6 = l2 by omega]
          rw [hans2] at e1c
          cases e1c
          cases y6
          exact ⟨rfl, hx⟩
  · unfold F_RideLaws_book_0 at e1
    unfold F_RideLawsModel_book_192 at e2
    rw [if_neg (fun q => hv (Or.inl q)), if_neg (fun q => hv (Or.inr q))] at e1
    rw [bnp_e (isin_e _ v _ _), if_neg (show ¬ (0 ≤ v ∧ v ≤ 1) by omega), if_neg (by decide)] at e2
    cases e1
    cases e2
    exact ⟨rfl, scr_0 hb h⟩
