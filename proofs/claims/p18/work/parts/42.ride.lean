/-! a line with its sign, the lines, the RIDE -/
theorem bnd_id {p : Int × hf_F} : bnd p (fun z ψ => (z, ψ)) = p := rfl
theorem sgn_rel {φ χ ψ ξ : hf_F} {w r s : Int} (h : RP φ χ) (e1 : F_Reader_takeSign_1 φ w = (r, ψ)) (e2 : F_RideLawsModel_sign_192 χ w = (s, ξ)) :
    (r = 1 ∧ s = 1 ∧ χ 192 11 = 3 ∧ ψ = F_Reader_advance_1 φ ∧ ξ = F_RideLawsModel_next_192 χ) ∨ (r = 0 ∧ s = 0 ∧ FP ψ ξ) := by
  unfold F_Reader_takeSign_1 F_Reader_isSignOf_1 at e1
  unfold F_RideLawsModel_sign_192 F_RideLawsModel_isSign_192 at e2
  rw [bnp_e rfl, bnd_id] at e1 e2
  have hx := h.2.2.2.2.2
  have hb := rf_bad h (show F_Reader_refuse_1 φ 1 = (_, _) from rfl) (show F_RideLawsModel_bad_192 χ 1 = (_, _) from rfl)
  by_cases c1 : φ 1 5 = 5 ∧ φ 1 7 = w
  · have c2 : χ 192 11 = 3 ∧ χ 192 14 = w := by
      rcases hx with ⟨x1, x2⟩ | ⟨x1, x2⟩ | ⟨x1, x2, x3⟩ | ⟨x1, x2, x3⟩ | ⟨x1, x2, x3, x4, ⟨x5, _⟩ | ⟨x5, _⟩⟩ <;> omega
    rw [if_neg (show ¬ ¬ φ 1 5 = 5 from fun q => q c1.1), if_neg (show ¬ ¬ φ 1 7 = w from fun q => q c1.2), if_pos (by decide), bnv_e rfl] at e1
    rw [if_neg (show ¬ ¬ χ 192 11 = 3 from fun q => q c2.1), if_neg (show ¬ ¬ χ 192 14 = w from fun q => q c2.2), if_pos (by decide), bnv_e rfl] at e2
    cases e1
    cases e2
    exact Or.inl ⟨rfl, rfl, c2.1, rfl, rfl⟩
  · have e1' : F_Reader_refuse_1 φ 1 = (r, ψ) := by
      by_cases c2 : φ 1 5 = 5
      · rw [if_neg (show ¬ ¬ φ 1 5 = 5 from fun q => q c2), if_pos (show ¬ φ 1 7 = w from fun q => c1 ⟨c2, q⟩), if_neg (fun q => q rfl)] at e1
        exact e1
      · rw [if_pos c2, if_neg (fun q => q rfl)] at e1
        exact e1
    have e2' : F_RideLawsModel_bad_192 χ 1 = (s, ξ) := by
      by_cases c2 : χ 192 11 = 3
      · have c3 : ¬ χ 192 14 = w := by
          rcases hx with ⟨x1, x2⟩ | ⟨x1, x2⟩ | ⟨x1, x2, x3⟩ | ⟨x1, x2, x3⟩ | ⟨x1, x2, x3, x4, ⟨x5, _⟩ | ⟨x5, _⟩⟩ <;> omega
        rw [if_neg (show ¬ ¬ χ 192 11 = 3 from fun q => q c2), if_pos c3, if_neg (fun q => q rfl)] at e2
        exact e2
      · rw [if_pos c2, if_neg (fun q => q rfl)] at e2
        exact e2
    exact Or.inr (rf_bad h e1' e2')
theorem line_rel {φ χ ψ ξ : hf_F} {r s : Int} (h : DRP φ χ) (e1 : F_RideText_readLine_182 φ = (r, ψ)) (e2 : F_RideLawsModel_readLine_192 χ = (s, ξ)) : LX r s ψ ξ ∧ (¬ s = 0 → P2 χ ξ) := by
  unfold F_RideText_readLine_182 at e1
  unfold F_RideLawsModel_readLine_192 at e2
  simp only [bnd_id] at e1 e2
  have w0 := isw_z h.1 (k := 0) (by decide) (w := 1919512167) rfl
  have w1 := isw_z h.1 (k := 1) (by decide) (w := 1936023924) rfl
  have w2 := isw_z h.1 (k := 2) (by decide) (w := 2003792484) rfl
  have w3 := isw_z h.1 (k := 3) (by decide) (w := 491394458994) rfl
  have w4 := isw_z h.1 (k := 4) (by decide) (w := 1935767923) rfl
  have w5 := isw_z h.1 (k := 5) (by decide) (w := 7102839) rfl
  have w6 := isw_z h.1 (k := 6) (by decide) (w := 427020088168) rfl
  by_cases c : φ 1 5 = 3
  · rw [if_pos c] at e1
    by_cases c0 : φ 1 7 = 0
    · rw [if_pos c0] at e1
      rw [bnp_e rfl, if_neg (show ¬ F_RideLawsModel_isWord_192 χ 1919512167 = 0 by rw [w0]; exact fun q => q ⟨c, c0⟩)] at e2
      exact ⟨Or.inl (ring_rel h e1 e2), ring_p h.1.1.2 e2⟩
    · skip
      by_cases c1 : φ 1 7 = 1
      · rw [if_neg c0, if_pos c1] at e1
        rw [bnp_e rfl, if_pos (show F_RideLawsModel_isWord_192 χ 1919512167 = 0 by rw [w0]; exact fun q => c0 q.2), bnp_e rfl, if_neg (show ¬ F_RideLawsModel_isWord_192 χ 1936023924 = 0 by rw [w1]; exact fun q => q ⟨c, c1⟩)] at e2
        exact ⟨Or.inl (seat_rel h e1 e2), seat_p h.1.1.2 e2⟩
      · skip
        by_cases c2 : φ 1 7 = 2
        · rw [if_neg c0, if_neg c1, if_pos c2] at e1
          rw [bnp_e rfl, if_pos (show F_RideLawsModel_isWord_192 χ 1919512167 = 0 by rw [w0]; exact fun q => c0 q.2), bnp_e rfl, if_pos (show F_RideLawsModel_isWord_192 χ 1936023924 = 0 by rw [w1]; exact fun q => c1 q.2), bnp_e rfl, if_neg (show ¬ F_RideLawsModel_isWord_192 χ 2003792484 = 0 by rw [w2]; exact fun q => q ⟨c, c2⟩)] at e2
          exact ⟨Or.inl (word_rel h e1 e2), wd_p h.1.1.2 e2⟩
        · skip
          by_cases c3 : φ 1 7 = 3
          · rw [if_neg c0, if_neg c1, if_neg c2, if_pos c3] at e1
            rw [bnp_e rfl, if_pos (show F_RideLawsModel_isWord_192 χ 1919512167 = 0 by rw [w0]; exact fun q => c0 q.2), bnp_e rfl, if_pos (show F_RideLawsModel_isWord_192 χ 1936023924 = 0 by rw [w1]; exact fun q => c1 q.2), bnp_e rfl, if_pos (show F_RideLawsModel_isWord_192 χ 2003792484 = 0 by rw [w2]; exact fun q => c2 q.2), bnp_e rfl, if_neg (show ¬ F_RideLawsModel_isWord_192 χ 491394458994 = 0 by rw [w3]; exact fun q => q ⟨c, c3⟩)] at e2
            exact ⟨rider_rel h e1 e2, rid_p h.1.1.2 e2⟩
          · skip
            by_cases c4 : φ 1 7 = 4
            · rw [if_neg c0, if_neg c1, if_neg c2, if_neg c3, if_pos c4] at e1
              rw [bnp_e rfl, if_pos (show F_RideLawsModel_isWord_192 χ 1919512167 = 0 by rw [w0]; exact fun q => c0 q.2), bnp_e rfl, if_pos (show F_RideLawsModel_isWord_192 χ 1936023924 = 0 by rw [w1]; exact fun q => c1 q.2), bnp_e rfl, if_pos (show F_RideLawsModel_isWord_192 χ 2003792484 = 0 by rw [w2]; exact fun q => c2 q.2), bnp_e rfl, if_pos (show F_RideLawsModel_isWord_192 χ 491394458994 = 0 by rw [w3]; exact fun q => c3 q.2), bnp_e rfl, if_neg (show ¬ F_RideLawsModel_isWord_192 χ 1935767923 = 0 by rw [w4]; exact fun q => q ⟨c, c4⟩)] at e2
              exact ⟨Or.inl (says_rel h e1 e2), says_p h.1.1.2 e2⟩
            · skip
              by_cases c5 : φ 1 7 = 5
              · rw [if_neg c0, if_neg c1, if_neg c2, if_neg c3, if_neg c4, if_pos c5] at e1
                rw [bnp_e rfl, if_pos (show F_RideLawsModel_isWord_192 χ 1919512167 = 0 by rw [w0]; exact fun q => c0 q.2), bnp_e rfl, if_pos (show F_RideLawsModel_isWord_192 χ 1936023924 = 0 by rw [w1]; exact fun q => c1 q.2), bnp_e rfl, if_pos (show F_RideLawsModel_isWord_192 χ 2003792484 = 0 by rw [w2]; exact fun q => c2 q.2), bnp_e rfl, if_pos (show F_RideLawsModel_isWord_192 χ 491394458994 = 0 by rw [w3]; exact fun q => c3 q.2), bnp_e rfl, if_pos (show F_RideLawsModel_isWord_192 χ 1935767923 = 0 by rw [w4]; exact fun q => c4 q.2), bnp_e rfl, if_neg (show ¬ F_RideLawsModel_isWord_192 χ 7102839 = 0 by rw [w5]; exact fun q => q ⟨c, c5⟩)] at e2
                exact ⟨Or.inl (law_rel h e1 e2), law_p h.1.1.2 e2⟩
              · skip
                by_cases c6 : φ 1 7 = 6
                · rw [if_neg c0, if_neg c1, if_neg c2, if_neg c3, if_neg c4, if_neg c5, if_pos c6] at e1
                  rw [bnp_e rfl, if_pos (show F_RideLawsModel_isWord_192 χ 1919512167 = 0 by rw [w0]; exact fun q => c0 q.2), bnp_e rfl, if_pos (show F_RideLawsModel_isWord_192 χ 1936023924 = 0 by rw [w1]; exact fun q => c1 q.2), bnp_e rfl, if_pos (show F_RideLawsModel_isWord_192 χ 2003792484 = 0 by rw [w2]; exact fun q => c2 q.2), bnp_e rfl, if_pos (show F_RideLawsModel_isWord_192 χ 491394458994 = 0 by rw [w3]; exact fun q => c3 q.2), bnp_e rfl, if_pos (show F_RideLawsModel_isWord_192 χ 1935767923 = 0 by rw [w4]; exact fun q => c4 q.2), bnp_e rfl, if_pos (show F_RideLawsModel_isWord_192 χ 7102839 = 0 by rw [w5]; exact fun q => c5 q.2), bnp_e rfl, if_neg (show ¬ F_RideLawsModel_isWord_192 χ 427020088168 = 0 by rw [w6]; exact fun q => q ⟨c, c6⟩)] at e2
                  exact ⟨Or.inl (clash_rel h e1 e2), clash_p h.1.1.2 e2⟩
                · rw [if_neg c0, if_neg c1, if_neg c2, if_neg c3, if_neg c4, if_neg c5, if_neg c6] at e1
                  rw [bnp_e rfl, if_pos (show F_RideLawsModel_isWord_192 χ 1919512167 = 0 by rw [w0]; exact fun q => c0 q.2), bnp_e rfl, if_pos (show F_RideLawsModel_isWord_192 χ 1936023924 = 0 by rw [w1]; exact fun q => c1 q.2), bnp_e rfl, if_pos (show F_RideLawsModel_isWord_192 χ 2003792484 = 0 by rw [w2]; exact fun q => c2 q.2), bnp_e rfl, if_pos (show F_RideLawsModel_isWord_192 χ 491394458994 = 0 by rw [w3]; exact fun q => c3 q.2), bnp_e rfl, if_pos (show F_RideLawsModel_isWord_192 χ 1935767923 = 0 by rw [w4]; exact fun q => c4 q.2), bnp_e rfl, if_pos (show F_RideLawsModel_isWord_192 χ 7102839 = 0 by rw [w5]; exact fun q => c5 q.2), bnp_e rfl, if_pos (show F_RideLawsModel_isWord_192 χ 427020088168 = 0 by rw [w6]; exact fun q => c6 q.2)] at e2
                  have := rf_bad h.1 e1 e2
                  exact ⟨Or.inl (Or.inr this), fun q => absurd this.2.1 q⟩
  · rw [if_neg c] at e1
    rw [bnp_e rfl, if_pos (show F_RideLawsModel_isWord_192 χ 1919512167 = 0 by rw [w0]; exact fun q => c q.1), bnp_e rfl, if_pos (show F_RideLawsModel_isWord_192 χ 1936023924 = 0 by rw [w1]; exact fun q => c q.1), bnp_e rfl, if_pos (show F_RideLawsModel_isWord_192 χ 2003792484 = 0 by rw [w2]; exact fun q => c q.1), bnp_e rfl, if_pos (show F_RideLawsModel_isWord_192 χ 491394458994 = 0 by rw [w3]; exact fun q => c q.1), bnp_e rfl, if_pos (show F_RideLawsModel_isWord_192 χ 1935767923 = 0 by rw [w4]; exact fun q => c q.1), bnp_e rfl, if_pos (show F_RideLawsModel_isWord_192 χ 7102839 = 0 by rw [w5]; exact fun q => c q.1), bnp_e rfl, if_pos (show F_RideLawsModel_isWord_192 χ 427020088168 = 0 by rw [w6]; exact fun q => c q.1)] at e2
    have := rf_bad h.1 e1 e2
    exact ⟨Or.inl (Or.inr this), fun q => absurd this.2.1 q⟩
/-- the model's end of ride -/
noncomputable def RFIN (χ : hf_F) : hf_F := (hf_up (hf_mp (hf_mp (hf_mp (hf_mp χ 194 0 361 (fun j => if j < 99 then χ 195 j else 0)) 197 0 33 (fun j => (hf_mp χ 194 0 361 (fun j => if j < 99 then χ 195 j else 0)) 197 (33 + j))) 194 104 8 (fun j => (hf_mp (hf_mp χ 194 0 361 (fun j => if j < 99 then χ 195 j else 0)) 197 0 33 (fun j => (hf_mp χ 194 0 361 (fun j => if j < 99 then χ 195 j else 0)) 197 (33 + j))) 194 (19 + j))) 194 112 48 (fun j => (hf_mp (hf_mp (hf_mp χ 194 0 361 (fun j => if j < 99 then χ 195 j else 0)) 197 0 33 (fun j => (hf_mp χ 194 0 361 (fun j => if j < 99 then χ 195 j else 0)) 197 (33 + j))) 194 104 8 (fun j => (hf_mp (hf_mp χ 194 0 361 (fun j => if j < 99 then χ 195 j else 0)) 197 0 33 (fun j => (hf_mp χ 194 0 361 (fun j => if j < 99 then χ 195 j else 0)) 197 (33 + j))) 194 (19 + j))) 194 (27 + j))) 192 22 0)
/-- what the lines of a RIDE leave -/
noncomputable def S43 (φ ψ : hf_F) : Prop := (∀ k, ψ 49 k = φ 49 k) ∧ (∀ k, ψ 50 k = φ 50 k) ∧ (∀ k, ψ 51 k = φ 51 k) ∧ ψ 43 0 = φ 43 0 ∧ ψ 43 1 = φ 43 1 ∧ ψ 43 2 = φ 43 2 ∧ ψ 43 3 = φ 43 3 ∧ ψ 43 4 = φ 43 4 ∧ ψ 43 5 = φ 43 5
theorem s43_t {φ ψ χ : hf_F} (h : S43 φ ψ) (h2 : S43 ψ χ) : S43 φ χ := by
  obtain ⟨a1, a2, a3, a4, a5, a6, a7, a8, a9⟩ := h
  obtain ⟨b1, b2, b3, b4, b5, b6, b7, b8, b9⟩ := h2
  exact ⟨fun k => (b1 k).trans (a1 k), fun k => (b2 k).trans (a2 k), fun k => (b3 k).trans (a3 k), b4.trans a4, b5.trans a5, b6.trans a6, b7.trans a7, b8.trans a8, b9.trans a9⟩
theorem ride_l : ∀ (n m : Nat) (φ χ ψ ξ : hf_F) (l1 z s : Int), 940 - l1 < n → 940 - χ 192 4 < m → 0 ≤ l1 → 2 * l1 ≤ χ 192 4 → χ 192 19 = l1 → DRP φ χ →
    F_RideText_readAll_182_l26 n φ l1 = (z, ψ) → F_RideLawsModel_ride_192_l30 m χ = (s, ξ) →
    (z = -1 ∧ s = -1 - ξ 192 16 ∧ FP ψ ξ) ∨ (0 ≤ z ∧ s = z ∧ S43 φ ψ ∧ ∃ χ' : hf_F, DRP ψ χ' ∧ ξ = RFIN χ') := by
  intro n
  induction n with
  | zero => intro m φ χ ψ ξ l1 z s h1 h2 h3 h4 h5 h; have := iv_at (a := 192) (k := 4) (lo := 0) (u := 940) h.1.1.2 (by decide +kernel); omega
  | succ n ih =>
    intro m φ χ ψ ξ l1 z s h1 h2 h3 h4 h5 h e1 e2
    have p4 := iv_at (a := 192) (k := 4) (lo := 0) (u := 940) h.1.1.2 (by decide +kernel)
    cases m with
    | zero => omega
    | succ m =>
      rw [F_RideText_readAll_182_l26_s, if_neg (show ¬ 940 ≤ l1 by omega)] at e1
      rw [F_RideLawsModel_ride_192_l30_s] at e2
      have hx := h.1.2.2.2.2.2
      by_cases c1 : φ 1 5 = 0
      · have c2 : χ 192 11 = 0 := by
          rcases hx with ⟨x1, x2⟩ | ⟨x1, x2⟩ | ⟨x1, x2, x3⟩ | ⟨x1, x2, x3⟩ | ⟨x1, x2, x3, x4, ⟨x5, _⟩ | ⟨x5, _⟩⟩ <;> omega
        rw [if_pos c1] at e1
        rw [if_pos c2] at e2
        cases e1
        cases e2
        exact Or.inr ⟨h3, h5, ⟨fun _ => rfl, fun _ => rfl, fun _ => rfl, rfl, rfl, rfl, rfl, rfl, rfl⟩, χ, h, rfl⟩
      · have c2 : ¬ χ 192 11 = 0 := by
          rcases hx with ⟨x1, x2⟩ | ⟨x1, x2⟩ | ⟨x1, x2, x3⟩ | ⟨x1, x2, x3⟩ | ⟨x1, x2, x3, x4, ⟨x5, _⟩ | ⟨x5, _⟩⟩ <;> omega
        rw [if_neg c1] at e1
        rw [if_neg c2] at e2
        obtain ⟨z5, ψ5, g5⟩ : ∃ a b, F_RideText_readLine_182 φ = (a, b) := ⟨_, _, rfl⟩
        obtain ⟨z7, ξ7, g7⟩ : ∃ a b, F_RideLawsModel_readLine_192 χ = (a, b) := ⟨_, _, rfl⟩
        rw [bnd_e g5] at e1
        rw [bnd_e g7] at e2
        have kl := K_F_RideLawsModel_readLine_192 h.1.1.2 g7
        obtain ⟨lx, lp⟩ := line_rel h g5 g7
        rcases lx with (⟨q1, q2, q3⟩ | ⟨q1, q2, q3⟩) | ⟨q1, q2, q3, q4, q5⟩
        · rw [if_neg (show ¬ z5 = 0 by omega)] at e1
          rw [if_neg (show ¬ z7 = 0 by omega)] at e2
          obtain ⟨z8, ψ8, g8⟩ : ∃ a b, F_Reader_takeSign_1 ψ5 59 = (a, b) := ⟨_, _, rfl⟩
          obtain ⟨z10, ξ10, g10⟩ : ∃ a b, F_RideLawsModel_sign_192 ξ7 59 = (a, b) := ⟨_, _, rfl⟩
          rw [bnd_e g8] at e1
          rw [bnd_e g10] at e2
          rcases sgn_rel q3.1 g8 g10 with ⟨t1, t2, t3, t4, t5⟩ | ⟨t1, t2, t3⟩
          · rw [if_pos (show ¬ z8 = 0 by omega)] at e1
            rw [if_pos (show ¬ z10 = 0 by omega)] at e2
            have ra := drp_adv q3 t4.symm t5.symm
            have i19 : Inv (hf_up ξ10 192 19 (ξ10 192 19 + 1)) := iv_upn ra.1.1.1.2 (by decide) (by decide) (by decide +kernel)
            have rb := drp_up ra.1 i19 (by decide)
            have n1 := next_p q3.1.1.2 t5.symm
            have n2 := lp (by omega) t3
            have k19 : ξ10 192 19 = l1 := by rw [fr_fd ra.2.2 192 19 (by decide), fr_fd kl.2.1 192 19 (by decide)]; exact h5
            have kc := K_F_RideText_readLine_182 h.1.1.1 g5
            have sa : S43 φ ψ5 := ⟨fun k => fr_at kc.2.1 49 (by decide) k, fun k => fr_at kc.2.1 50 (by decide) k, fun k => fr_at kc.2.1 51 (by decide) k, fr_fd kc.2.1 43 0 (by decide), fr_fd kc.2.1 43 1 (by decide), fr_fd kc.2.1 43 2 (by decide), fr_fd kc.2.1 43 3 (by decide), fr_fd kc.2.1 43 4 (by decide), fr_fd kc.2.1 43 5 (by decide)⟩
            have sb : S43 ψ5 ψ8 := ⟨fun k => fr_at ra.2.1 49 (by decide) k, fun k => fr_at ra.2.1 50 (by decide) k, fun k => fr_at ra.2.1 51 (by decide) k, fr_fd ra.2.1 43 0 (by decide), fr_fd ra.2.1 43 1 (by decide), fr_fd ra.2.1 43 2 (by decide), fr_fd ra.2.1 43 3 (by decide), fr_fd ra.2.1 43 4 (by decide), fr_fd ra.2.1 43 5 (by decide)⟩
            have hi := ih m ψ8 (hf_up ξ10 192 19 (ξ10 192 19 + 1)) ψ ξ (l1 + 1) z s (by omega) (show 940 - ξ10 192 4 < (m : Int) by omega) (by omega) (show 2 * (l1 + 1) ≤ ξ10 192 4 by omega) (by rw [hf_up_eq, k19]) rb e1 e2
            rcases hi with hi | ⟨a1, a2, a3, a4⟩
            · exact Or.inl hi
            · exact Or.inr ⟨a1, a2, s43_t (s43_t sa sb) a3, a4⟩
          · rw [if_neg (fun q => q t1)] at e1
            rw [if_neg (fun q => q t2)] at e2
            cases e1
            cases e2
            exact Or.inl ⟨rfl, rfl, t3⟩
        · rw [if_pos q1] at e1
          rw [if_pos q2] at e2
          cases e1
          cases e2
          exact Or.inl ⟨rfl, rfl, q3⟩
        · rw [if_neg (show ¬ z5 = 0 by omega)] at e1
          rw [if_pos q2] at e2
          obtain ⟨z8, ψ8, g8⟩ : ∃ a b, F_Reader_takeSign_1 ψ5 59 = (a, b) := ⟨_, _, rfl⟩
          rw [bnd_e g8] at e1
          unfold F_Reader_takeSign_1 F_Reader_isSignOf_1 at g8
          rw [bnp_e rfl, if_pos (show ¬ ψ5 1 5 = 5 by omega), if_neg (fun q => q rfl), bnd_id] at g8
          unfold F_Reader_refuse_1 at g8
          cases g8
          rw [if_neg (fun q => q rfl)] at e1
          cases e1
          cases e2
          exact Or.inl ⟨rfl, rfl, q4.symm, q5⟩
theorem fil_32 (φ : hf_F) (a k : Nat) : F_java_util_Arrays_fill_32_k1_0 φ a k = if a = 32 ∧ k < 5 then (0 : Int) else φ a k := by
  have hh : ∀ (m : Nat) (φ : hf_F) (l : Int), 5 - l < m → 0 ≤ l → l ≤ 5 → F_java_util_Arrays_fill_32_k1_0_l5 m φ l a k = if a = 32 ∧ l ≤ (k : Int) ∧ k < 5 then (0 : Int) else φ a k := by
    intro m
    induction m with
    | zero => intro φ l h1 h2 h3; omega
    | succ m ih =>
      intro φ l h1 h2 h3
      rw [F_java_util_Arrays_fill_32_k1_0_l5_s]
      by_cases c1 : 5 ≤ l
      · rw [if_pos c1, if_neg (by omega)]
      · rw [if_neg c1, ih _ (l + 1) (by omega) (by omega) (by omega)]
        by_cases c2 : a = 32 ∧ l + 1 ≤ (k : Int) ∧ k < 5
        · rw [if_pos c2, if_pos (by omega)]
        · rw [if_neg c2]
          by_cases c3 : a = 32 ∧ k = l.toNat
          · rw [if_pos (show a = 32 ∧ l ≤ (k : Int) ∧ k < 5 by omega)]
            obtain ⟨rfl, rfl⟩ := c3
            exact hf_up_eq
          · rw [hf_up_ne c3, if_neg (by omega)]
  have h := hh 6 φ 0 (by decide) (by decide) (by decide)
  show F_java_util_Arrays_fill_32_k1_0_l5 6 φ 0 a k = _
  rw [h]
  by_cases c1 : a = 32 ∧ k < 5
  · rw [if_pos c1, if_pos (by omega)]
  · rw [if_neg c1, if_neg (by omega)]
theorem fil_41 (φ : hf_F) (a k : Nat) : F_java_util_Arrays_fill_41_k1_0 φ a k = if a = 41 ∧ k < 8 then (0 : Int) else φ a k := by
  have hh : ∀ (m : Nat) (φ : hf_F) (l : Int), 8 - l < m → 0 ≤ l → l ≤ 8 → F_java_util_Arrays_fill_41_k1_0_l5 m φ l a k = if a = 41 ∧ l ≤ (k : Int) ∧ k < 8 then (0 : Int) else φ a k := by
    intro m
    induction m with
    | zero => intro φ l h1 h2 h3; omega
    | succ m ih =>
      intro φ l h1 h2 h3
      rw [F_java_util_Arrays_fill_41_k1_0_l5_s]
      by_cases c1 : 8 ≤ l
      · rw [if_pos c1, if_neg (by omega)]
      · rw [if_neg c1, ih _ (l + 1) (by omega) (by omega) (by omega)]
        by_cases c2 : a = 41 ∧ l + 1 ≤ (k : Int) ∧ k < 8
        · rw [if_pos c2, if_pos (by omega)]
        · rw [if_neg c2]
          by_cases c3 : a = 41 ∧ k = l.toNat
          · rw [if_pos (show a = 41 ∧ l ≤ (k : Int) ∧ k < 8 by omega)]
            obtain ⟨rfl, rfl⟩ := c3
            exact hf_up_eq
          · rw [hf_up_ne c3, if_neg (by omega)]
  have h := hh 9 φ 0 (by decide) (by decide) (by decide)
  show F_java_util_Arrays_fill_41_k1_0_l5 9 φ 0 a k = _
  rw [h]
  by_cases c1 : a = 41 ∧ k < 8
  · rw [if_pos c1, if_pos (by omega)]
  · rw [if_neg c1, if_neg (by omega)]
theorem fil_42 (φ : hf_F) (a k : Nat) : F_java_util_Arrays_fill_42_k1_m1 φ a k = if a = 42 ∧ k < 64 then (-1 : Int) else φ a k := by
  have hh : ∀ (m : Nat) (φ : hf_F) (l : Int), 64 - l < m → 0 ≤ l → l ≤ 64 → F_java_util_Arrays_fill_42_k1_m1_l5 m φ l a k = if a = 42 ∧ l ≤ (k : Int) ∧ k < 64 then (-1 : Int) else φ a k := by
    intro m
    induction m with
    | zero => intro φ l h1 h2 h3; omega
    | succ m ih =>
      intro φ l h1 h2 h3
      rw [F_java_util_Arrays_fill_42_k1_m1_l5_s]
      by_cases c1 : 64 ≤ l
      · rw [if_pos c1, if_neg (by omega)]
      · rw [if_neg c1, ih _ (l + 1) (by omega) (by omega) (by omega)]
        by_cases c2 : a = 42 ∧ l + 1 ≤ (k : Int) ∧ k < 64
        · rw [if_pos c2, if_pos (by omega)]
        · rw [if_neg c2]
          by_cases c3 : a = 42 ∧ k = l.toNat
          · rw [if_pos (show a = 42 ∧ l ≤ (k : Int) ∧ k < 64 by omega)]
            obtain ⟨rfl, rfl⟩ := c3
            exact hf_up_eq
          · rw [hf_up_ne c3, if_neg (by omega)]
  have h := hh 65 φ 0 (by decide) (by decide) (by decide)
  show F_java_util_Arrays_fill_42_k1_m1_l5 65 φ 0 a k = _
  rw [h]
  by_cases c1 : a = 42 ∧ k < 64
  · rw [if_pos c1, if_pos (by omega)]
  · rw [if_neg c1, if_neg (by omega)]
theorem fil_45 (φ : hf_F) (a k : Nat) : F_java_util_Arrays_fill_45_k1_m1 φ a k = if a = 45 ∧ k < 8 then (-1 : Int) else φ a k := by
  have hh : ∀ (m : Nat) (φ : hf_F) (l : Int), 8 - l < m → 0 ≤ l → l ≤ 8 → F_java_util_Arrays_fill_45_k1_m1_l5 m φ l a k = if a = 45 ∧ l ≤ (k : Int) ∧ k < 8 then (-1 : Int) else φ a k := by
    intro m
    induction m with
    | zero => intro φ l h1 h2 h3; omega
    | succ m ih =>
      intro φ l h1 h2 h3
      rw [F_java_util_Arrays_fill_45_k1_m1_l5_s]
      by_cases c1 : 8 ≤ l
      · rw [if_pos c1, if_neg (by omega)]
      · rw [if_neg c1, ih _ (l + 1) (by omega) (by omega) (by omega)]
        by_cases c2 : a = 45 ∧ l + 1 ≤ (k : Int) ∧ k < 8
        · rw [if_pos c2, if_pos (by omega)]
        · rw [if_neg c2]
          by_cases c3 : a = 45 ∧ k = l.toNat
          · rw [if_pos (show a = 45 ∧ l ≤ (k : Int) ∧ k < 8 by omega)]
            obtain ⟨rfl, rfl⟩ := c3
            exact hf_up_eq
          · rw [hf_up_ne c3, if_neg (by omega)]
  have h := hh 9 φ 0 (by decide) (by decide) (by decide)
  show F_java_util_Arrays_fill_45_k1_m1_l5 9 φ 0 a k = _
  rw [h]
  by_cases c1 : a = 45 ∧ k < 8
  · rw [if_pos c1, if_pos (by omega)]
  · rw [if_neg c1, if_neg (by omega)]
theorem fil_46 (φ : hf_F) (a k : Nat) : F_java_util_Arrays_fill_46_k1_m1 φ a k = if a = 46 ∧ k < 6 then (-1 : Int) else φ a k := by
  have hh : ∀ (m : Nat) (φ : hf_F) (l : Int), 6 - l < m → 0 ≤ l → l ≤ 6 → F_java_util_Arrays_fill_46_k1_m1_l5 m φ l a k = if a = 46 ∧ l ≤ (k : Int) ∧ k < 6 then (-1 : Int) else φ a k := by
    intro m
    induction m with
    | zero => intro φ l h1 h2 h3; omega
    | succ m ih =>
      intro φ l h1 h2 h3
      rw [F_java_util_Arrays_fill_46_k1_m1_l5_s]
      by_cases c1 : 6 ≤ l
      · rw [if_pos c1, if_neg (by omega)]
      · rw [if_neg c1, ih _ (l + 1) (by omega) (by omega) (by omega)]
        by_cases c2 : a = 46 ∧ l + 1 ≤ (k : Int) ∧ k < 6
        · rw [if_pos c2, if_pos (by omega)]
        · rw [if_neg c2]
          by_cases c3 : a = 46 ∧ k = l.toNat
          · rw [if_pos (show a = 46 ∧ l ≤ (k : Int) ∧ k < 6 by omega)]
            obtain ⟨rfl, rfl⟩ := c3
            exact hf_up_eq
          · rw [hf_up_ne c3, if_neg (by omega)]
  have h := hh 7 φ 0 (by decide) (by decide) (by decide)
  show F_java_util_Arrays_fill_46_k1_m1_l5 7 φ 0 a k = _
  rw [h]
  by_cases c1 : a = 46 ∧ k < 6
  · rw [if_pos c1, if_pos (by omega)]
  · rw [if_neg c1, if_neg (by omega)]
theorem fil_47 (φ : hf_F) (a k : Nat) : F_java_util_Arrays_fill_47_k1_0 φ a k = if a = 47 ∧ k < 6 then (0 : Int) else φ a k := by
  have hh : ∀ (m : Nat) (φ : hf_F) (l : Int), 6 - l < m → 0 ≤ l → l ≤ 6 → F_java_util_Arrays_fill_47_k1_0_l5 m φ l a k = if a = 47 ∧ l ≤ (k : Int) ∧ k < 6 then (0 : Int) else φ a k := by
    intro m
    induction m with
    | zero => intro φ l h1 h2 h3; omega
    | succ m ih =>
      intro φ l h1 h2 h3
      rw [F_java_util_Arrays_fill_47_k1_0_l5_s]
      by_cases c1 : 6 ≤ l
      · rw [if_pos c1, if_neg (by omega)]
      · rw [if_neg c1, ih _ (l + 1) (by omega) (by omega) (by omega)]
        by_cases c2 : a = 47 ∧ l + 1 ≤ (k : Int) ∧ k < 6
        · rw [if_pos c2, if_pos (by omega)]
        · rw [if_neg c2]
          by_cases c3 : a = 47 ∧ k = l.toNat
          · rw [if_pos (show a = 47 ∧ l ≤ (k : Int) ∧ k < 6 by omega)]
            obtain ⟨rfl, rfl⟩ := c3
            exact hf_up_eq
          · rw [hf_up_ne c3, if_neg (by omega)]
  have h := hh 7 φ 0 (by decide) (by decide) (by decide)
  show F_java_util_Arrays_fill_47_k1_0_l5 7 φ 0 a k = _
  rw [h]
  by_cases c1 : a = 47 ∧ k < 6
  · rw [if_pos c1, if_pos (by omega)]
  · rw [if_neg c1, if_neg (by omega)]
theorem fil_49 (φ : hf_F) (a k : Nat) : F_java_util_Arrays_fill_49_k1_0 φ a k = if a = 49 ∧ k < 6 then (0 : Int) else φ a k := by
  have hh : ∀ (m : Nat) (φ : hf_F) (l : Int), 6 - l < m → 0 ≤ l → l ≤ 6 → F_java_util_Arrays_fill_49_k1_0_l5 m φ l a k = if a = 49 ∧ l ≤ (k : Int) ∧ k < 6 then (0 : Int) else φ a k := by
    intro m
    induction m with
    | zero => intro φ l h1 h2 h3; omega
    | succ m ih =>
      intro φ l h1 h2 h3
      rw [F_java_util_Arrays_fill_49_k1_0_l5_s]
      by_cases c1 : 6 ≤ l
      · rw [if_pos c1, if_neg (by omega)]
      · rw [if_neg c1, ih _ (l + 1) (by omega) (by omega) (by omega)]
        by_cases c2 : a = 49 ∧ l + 1 ≤ (k : Int) ∧ k < 6
        · rw [if_pos c2, if_pos (by omega)]
        · rw [if_neg c2]
          by_cases c3 : a = 49 ∧ k = l.toNat
          · rw [if_pos (show a = 49 ∧ l ≤ (k : Int) ∧ k < 6 by omega)]
            obtain ⟨rfl, rfl⟩ := c3
            exact hf_up_eq
          · rw [hf_up_ne c3, if_neg (by omega)]
  have h := hh 7 φ 0 (by decide) (by decide) (by decide)
  show F_java_util_Arrays_fill_49_k1_0_l5 7 φ 0 a k = _
  rw [h]
  by_cases c1 : a = 49 ∧ k < 6
  · rw [if_pos c1, if_pos (by omega)]
  · rw [if_neg c1, if_neg (by omega)]
theorem fil_50 (φ : hf_F) (a k : Nat) : F_java_util_Arrays_fill_50_k1_0 φ a k = if a = 50 ∧ k < 6 then (0 : Int) else φ a k := by
  have hh : ∀ (m : Nat) (φ : hf_F) (l : Int), 6 - l < m → 0 ≤ l → l ≤ 6 → F_java_util_Arrays_fill_50_k1_0_l5 m φ l a k = if a = 50 ∧ l ≤ (k : Int) ∧ k < 6 then (0 : Int) else φ a k := by
    intro m
    induction m with
    | zero => intro φ l h1 h2 h3; omega
    | succ m ih =>
      intro φ l h1 h2 h3
      rw [F_java_util_Arrays_fill_50_k1_0_l5_s]
      by_cases c1 : 6 ≤ l
      · rw [if_pos c1, if_neg (by omega)]
      · rw [if_neg c1, ih _ (l + 1) (by omega) (by omega) (by omega)]
        by_cases c2 : a = 50 ∧ l + 1 ≤ (k : Int) ∧ k < 6
        · rw [if_pos c2, if_pos (by omega)]
        · rw [if_neg c2]
          by_cases c3 : a = 50 ∧ k = l.toNat
          · rw [if_pos (show a = 50 ∧ l ≤ (k : Int) ∧ k < 6 by omega)]
            obtain ⟨rfl, rfl⟩ := c3
            exact hf_up_eq
          · rw [hf_up_ne c3, if_neg (by omega)]
  have h := hh 7 φ 0 (by decide) (by decide) (by decide)
  show F_java_util_Arrays_fill_50_k1_0_l5 7 φ 0 a k = _
  rw [h]
  by_cases c1 : a = 50 ∧ k < 6
  · rw [if_pos c1, if_pos (by omega)]
  · rw [if_neg c1, if_neg (by omega)]
theorem fil_51 (φ : hf_F) (a k : Nat) : F_java_util_Arrays_fill_51_k1_0 φ a k = if a = 51 ∧ k < 8 then (0 : Int) else φ a k := by
  have hh : ∀ (m : Nat) (φ : hf_F) (l : Int), 8 - l < m → 0 ≤ l → l ≤ 8 → F_java_util_Arrays_fill_51_k1_0_l5 m φ l a k = if a = 51 ∧ l ≤ (k : Int) ∧ k < 8 then (0 : Int) else φ a k := by
    intro m
    induction m with
    | zero => intro φ l h1 h2 h3; omega
    | succ m ih =>
      intro φ l h1 h2 h3
      rw [F_java_util_Arrays_fill_51_k1_0_l5_s]
      by_cases c1 : 8 ≤ l
      · rw [if_pos c1, if_neg (by omega)]
      · rw [if_neg c1, ih _ (l + 1) (by omega) (by omega) (by omega)]
        by_cases c2 : a = 51 ∧ l + 1 ≤ (k : Int) ∧ k < 8
        · rw [if_pos c2, if_pos (by omega)]
        · rw [if_neg c2]
          by_cases c3 : a = 51 ∧ k = l.toNat
          · rw [if_pos (show a = 51 ∧ l ≤ (k : Int) ∧ k < 8 by omega)]
            obtain ⟨rfl, rfl⟩ := c3
            exact hf_up_eq
          · rw [hf_up_ne c3, if_neg (by omega)]
  have h := hh 9 φ 0 (by decide) (by decide) (by decide)
  show F_java_util_Arrays_fill_51_k1_0_l5 9 φ 0 a k = _
  rw [h]
  by_cases c1 : a = 51 ∧ k < 8
  · rw [if_pos c1, if_pos (by omega)]
  · rw [if_neg c1, if_neg (by omega)]
theorem fil_23 (φ : hf_F) (a k : Nat) : F_java_util_Arrays_fill_23_k1_0 φ a k = if a = 23 ∧ k < 6 then (0 : Int) else φ a k := by
  have hh : ∀ (m : Nat) (φ : hf_F) (l : Int), 6 - l < m → 0 ≤ l → l ≤ 6 → F_java_util_Arrays_fill_23_k1_0_l5 m φ l a k = if a = 23 ∧ l ≤ (k : Int) ∧ k < 6 then (0 : Int) else φ a k := by
    intro m
    induction m with
    | zero => intro φ l h1 h2 h3; omega
    | succ m ih =>
      intro φ l h1 h2 h3
      rw [F_java_util_Arrays_fill_23_k1_0_l5_s]
      by_cases c1 : 6 ≤ l
      · rw [if_pos c1, if_neg (by omega)]
      · rw [if_neg c1, ih _ (l + 1) (by omega) (by omega) (by omega)]
        by_cases c2 : a = 23 ∧ l + 1 ≤ (k : Int) ∧ k < 6
        · rw [if_pos c2, if_pos (by omega)]
        · rw [if_neg c2]
          by_cases c3 : a = 23 ∧ k = l.toNat
          · rw [if_pos (show a = 23 ∧ l ≤ (k : Int) ∧ k < 6 by omega)]
            obtain ⟨rfl, rfl⟩ := c3
            exact hf_up_eq
          · rw [hf_up_ne c3, if_neg (by omega)]
  have h := hh 7 φ 0 (by decide) (by decide) (by decide)
  show F_java_util_Arrays_fill_23_k1_0_l5 7 φ 0 a k = _
  rw [h]
  by_cases c1 : a = 23 ∧ k < 6
  · rw [if_pos c1, if_pos (by omega)]
  · rw [if_neg c1, if_neg (by omega)]
