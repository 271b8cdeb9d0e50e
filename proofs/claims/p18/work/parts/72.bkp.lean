/-! the lines of a BOOK -/
noncomputable def FQ (χ ξ : hf_F) : Prop := (∀ a k, a = 194 ∨ a = 197 ∨ a = 199 ∨ a = 202 → ξ a k = χ a k) ∧ ξ 192 22 = χ 192 22 ∧ ξ 192 32 = χ 192 32
theorem fq_t {φ χ ξ : hf_F} (h : FQ φ χ) (h2 : FQ χ ξ) : FQ φ ξ := ⟨fun a k q => (h2.1 a k q).trans (h.1 a k q), h2.2.1.trans h.2.1, h2.2.2.trans h.2.2⟩
theorem bookp_l (lv : Int) : ∀ (n m : Nat) (φ χ ψ ξ : hf_F) (l1 z s : Int), 41 - l1 < n → 40 - l1 < m → 0 ≤ l1 → l1 = χ 192 30 → RP φ χ → PLG 5 φ (χ 194) (χ 197) → BKR φ χ → F_BookText_readAll_183_l17 n φ l1 = (z, ψ) → F_RideLawsModel_book_192_l39 m χ lv = (s, ξ) →
    (z = 0 ∧ s = -2 - ξ 192 16 ∧ FP ψ ξ ∧ FQ χ ξ) ∨ (z = 1 ∧ ∃ χ' : hf_F, RP ψ χ' ∧ PLG 5 ψ (χ' 194) (χ' 197) ∧ BKR ψ χ' ∧ FQ χ χ' ∧ (s, ξ) = F_RideLawsModel_book_192_l111 ((40 - 0 : Int).toNat + 1) (hf_mp (F_RideLawsModel_tries_192 χ') 202 0 4 (fun _ => 0)) lv (-1) 0) := by
  intro n
  induction n with
  | zero => intro m φ χ ψ ξ l1 z s h1 h2 h3 h4 h5 h6 h7; have := h7.2.1; omega
  | succ n ih =>
    intro m φ χ ψ ξ l1 z s h1 h2 h3 h4 h hP hB e1 e2
    have hB2 := hB.2.1
    obtain ⟨m, rfl⟩ : ∃ j, m = j + 1 := ⟨m - 1, by omega⟩
    rw [F_BookText_readAll_183_l17_s, if_neg (show ¬ 40 < l1 by omega)] at e1
    rw [F_RideLawsModel_book_192_l39_s] at e2
    have hx := h.2.2.2.2.2
    by_cases c1 : φ 1 5 = 0
    · have c2 : χ 192 11 = 0 := by
        rcases hx with ⟨x1, x2⟩ | ⟨x1, x2⟩ | ⟨x1, x2, x3⟩ | ⟨x1, x2, x3⟩ | ⟨x1, x2, x3, x4, ⟨x5, _⟩ | ⟨x5, _⟩⟩ <;> omega
      rw [if_pos c1] at e1
      rw [if_pos c2, bnv_e rfl] at e2
      cases e1
      exact Or.inr ⟨rfl, χ, h, hP, hB, ⟨fun _ _ _ => rfl, rfl, rfl⟩, e2.symm⟩
    · have c2 : ¬ χ 192 11 = 0 := by
        rcases hx with ⟨x1, x2⟩ | ⟨x1, x2⟩ | ⟨x1, x2, x3⟩ | ⟨x1, x2, x3⟩ | ⟨x1, x2, x3, x4, ⟨x5, _⟩ | ⟨x5, _⟩⟩ <;> omega
      rw [if_neg c1] at e1
      rw [if_neg c2] at e2
      obtain ⟨z5, ψ5, g5⟩ : ∃ a b, F_BookText_readLine_183 φ = (a, b) := ⟨_, _, rfl⟩
      obtain ⟨z7, ξ7, g7⟩ : ∃ a b, F_RideLawsModel_bookLine_192 χ = (a, b) := ⟨_, _, rfl⟩
      rw [bnd_e g5] at e1
      rw [bnd_e g7] at e2
      have kl := K_F_RideLawsModel_bookLine_192 h.1.2 g7
      have f7 : FQ χ ξ7 := ⟨fun a k q => by
        rcases q with rfl | rfl | rfl | rfl
        · exact fr_at kl.2.1 194 (by decide) k
        · exact fr_at kl.2.1 197 (by decide) k
        · exact fr_at kl.2.1 199 (by decide) k
        · exact fr_at kl.2.1 202 (by decide) k, fr_fd kl.2.1 192 22 (by decide), fr_fd kl.2.1 192 32 (by decide)⟩
      rcases bookline_rel h hP hB g5 g7 with ⟨q1, q2, q3, q4, q5⟩ | ⟨q1, q2, q3⟩
      · rw [if_neg (show ¬ z5 = 0 by omega)] at e1
        rw [if_neg (show ¬ z7 = 0 by omega)] at e2
        obtain ⟨z8, ψ8, g8⟩ : ∃ a b, F_Reader_takeSign_1 ψ5 59 = (a, b) := ⟨_, _, rfl⟩
        obtain ⟨z10, ξ10, g10⟩ : ∃ a b, F_RideLawsModel_sign_192 ξ7 59 = (a, b) := ⟨_, _, rfl⟩
        rw [bnd_e g8] at e1
        rw [bnd_e g10] at e2
        have kg := K_F_RideLawsModel_sign_192 kl.1 (by decide) (by decide) g10
        have f10 : FQ ξ7 ξ10 := ⟨fun a k q => by have := sign_a (show ¬ a = 192 by omega) ξ7 59 k; rw [g10] at this; exact this, fr_fd kg.2.1 192 22 (by decide), fr_fd kg.2.1 192 32 (by decide)⟩
        rcases sgn_rel q3 g8 g10 with ⟨t1, t2, t3, t4, t5⟩ | ⟨t1, t2, t3⟩
        · rw [if_pos (show ¬ z8 = 0 by omega)] at e1
          rw [if_pos (show ¬ z10 = 0 by omega)] at e2
          have ra := rp_adv q3 t4.symm t5.symm
          have T1 : TCF ψ5 ψ8 := by rw [t4]; exact tcf_a q3
          have T2 : TMF ξ7 ξ10 ∧ ∀ k, ξ10 196 k = ξ7 196 k := by rw [t5]; exact tmf_n q3.1.2
          have e30 : ξ7 192 30 = χ 192 30 := kl.2.2.2.2.1
          have h39 := q5.2.1
          have i30 : Inv (hf_up ξ10 192 30 (ξ10 192 30 + 1)) := iv_up (lo := 0) (u := 40) ra.1.1.2 (by decide +kernel) (by rw [T2.1.1]; omega) (by rw [T2.1.1]; omega)
          have r2 : RP ψ8 (hf_up ξ10 192 30 (ξ10 192 30 + 1)) := rp_f ra.1 ra.1.1.1 i30 (fun _ _ => rfl) (fun k hk => hf_up_ne (by omega)) (fun _ => rfl) (fun k => up_a (by decide)) (fun _ => rfl) (fun k => up_a (by decide))
          have hP2 : PLG 5 ψ8 (hf_up ξ10 192 30 (ξ10 192 30 + 1) 194) (hf_up ξ10 192 30 (ξ10 192 30 + 1) 197) := plg_f q4 (cb_i q3.1.2) (fun a k q => T1.2.2 a k q.1 (by omega)) (fun k _ => T2.1.2.1 k) (fun k _ => T2.1.2.2 k)
          have hB3 : BKR ψ8 (hf_up ξ10 192 30 (ξ10 192 30 + 1)) := by
            refine ⟨?_, ?_, fun i hi => ?_⟩
            · rw [hf_up_eq, T1.2.1, T2.1.1]; exact q5.1
            · rw [hf_up_eq, T2.1.1]; omega
            · rw [hf_up_eq, T2.1.1] at hi
              have := q5.2.2 i hi
              have y6 : ∀ k, hf_up ξ10 192 30 (ξ10 192 30 + 1) 196 k = ξ7 196 k := fun k => T2.2 k
              have y4 : ∀ k, hf_up ξ10 192 30 (ξ10 192 30 + 1) 194 k = ξ7 194 k := fun k => T2.1.2.1 k
              unfold BLN at this ⊢
              rw [y6, y6, y6, y4, y4, y4, T1.1 184 i (by decide) (by decide), T1.1 185 i (by decide) (by decide), T1.1 186 i (by decide) (by decide)]
              exact this
          have fq : FQ χ (hf_up ξ10 192 30 (ξ10 192 30 + 1)) := fq_t (fq_t f7 f10) ⟨fun a k q => up_a (by omega), hf_up_ne (by decide), hf_up_ne (by decide)⟩
          rcases ih m ψ8 _ ψ ξ (l1 + 1) z s (by omega) (by omega) (by omega) (by rw [hf_up_eq, T2.1.1, e30, h4]) r2 hP2 hB3 e1 e2 with ⟨y1, y2, y3, y4⟩ | ⟨y1, χ', y2, y3, y4, y5, y6⟩
          · exact Or.inl ⟨y1, y2, y3, fq_t fq y4⟩
          · exact Or.inr ⟨y1, χ', y2, y3, y4, fq_t fq y5, y6⟩
        · rw [if_neg (show ¬ ¬ z8 = 0 from fun q => q t1)] at e1
          rw [if_neg (show ¬ ¬ z10 = 0 from fun q => q t2)] at e2
          cases e1
          cases e2
          exact Or.inl ⟨rfl, rfl, t3, fq_t f7 f10⟩
      · rw [if_pos q1] at e1
        rw [if_pos q2] at e2
        cases e1
        cases e2
        exact Or.inl ⟨rfl, rfl, q3, f7⟩
