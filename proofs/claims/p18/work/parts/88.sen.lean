/-! a SENTENCE: an operand, of both -/
theorem sg_z {φ χ : hf_F} (h : RP φ χ) (c : Int) : F_RideLawsModel_isSign_192 χ c = if φ 1 5 = 5 ∧ φ 1 7 = c then 1 else 0 := by
  have hx := h.2.2.2.2.2
  unfold F_RideLawsModel_isSign_192
  by_cases q : φ 1 5 = 5 ∧ φ 1 7 = c
  · have q2 : χ 192 11 = 3 ∧ χ 192 14 = c := by
      rcases hx with ⟨x1, x2⟩ | ⟨x1, x2⟩ | ⟨x1, x2, x3⟩ | ⟨x1, x2, x3⟩ | ⟨x1, x2, x3, x4, ⟨x5, _⟩ | ⟨x5, _⟩⟩ <;> omega
    rw [if_neg (show ¬ ¬ χ 192 11 = 3 from fun z => z q2.1), if_neg (show ¬ ¬ χ 192 14 = c from fun z => z q2.2), if_pos q]
  · rw [if_neg q]
    by_cases q1 : χ 192 11 = 3
    · rw [if_neg (show ¬ ¬ χ 192 11 = 3 from fun z => z q1), if_pos (show ¬ χ 192 14 = c from fun z => q (by
        rcases hx with ⟨x1, x2⟩ | ⟨x1, x2⟩ | ⟨x1, x2, x3⟩ | ⟨x1, x2, x3⟩ | ⟨x1, x2, x3, x4, ⟨x5, _⟩ | ⟨x5, _⟩⟩ <;> omega))]
    · rw [if_pos (show ¬ χ 192 11 = 3 from q1)]
theorem leaf_e {φ χ : hf_F} (h : RP φ χ) : F_RideLawsModel_leafOf_192 χ = if φ 1 5 = 3 ∧ 15 ≤ φ 1 7 ∧ φ 1 7 ≤ 22 then φ 1 7 - 15 else -1 := by
  have w0 := isw_z h (k := 15) (by decide) (w := 30064) rfl
  have w1 := isw_z h (k := 16) (by decide) (w := 1836414053) rfl
  have w2 := isw_z h (k := 17) (by decide) (w := 119165820433268) rfl
  have w3 := isw_z h (k := 18) (by decide) (w := 28526) rfl
  have w4 := isw_z h (k := 19) (by decide) (w := 461414299507) rfl
  have w5 := isw_z h (k := 20) (by decide) (w := 1935763812) rfl
  have w6 := isw_z h (k := 21) (by decide) (w := 1919904876) rfl
  have w7 := isw_z h (k := 22) (by decide) (w := 121450625394034) rfl
  unfold F_RideLawsModel_leafOf_192
  simp only [bnp]
  by_cases c : φ 1 5 = 3 ∧ 15 ≤ φ 1 7 ∧ φ 1 7 ≤ 22
  · rw [if_pos c]
    have hk : φ 1 7 = 15 ∨ φ 1 7 = 16 ∨ φ 1 7 = 17 ∨ φ 1 7 = 18 ∨ φ 1 7 = 19 ∨ φ 1 7 = 20 ∨ φ 1 7 = 21 ∨ φ 1 7 = 22 := by omega
    rcases hk with q | q | q | q | q | q | q | q
    · have b : ¬ F_RideLawsModel_isWord_192 χ 30064 = 0 := by
        rw [w0]; exact fun z => z ⟨c.1, by omega⟩
      rw [if_neg b]
      omega
    · have a0 : F_RideLawsModel_isWord_192 χ 30064 = 0 := by
        rw [w0]; intro z; have := z.2; omega
      have b : ¬ F_RideLawsModel_isWord_192 χ 1836414053 = 0 := by
        rw [w1]; exact fun z => z ⟨c.1, by omega⟩
      rw [if_pos a0, if_neg b]
      omega
    · have a0 : F_RideLawsModel_isWord_192 χ 30064 = 0 := by
        rw [w0]; intro z; have := z.2; omega
      have a1 : F_RideLawsModel_isWord_192 χ 1836414053 = 0 := by
        rw [w1]; intro z; have := z.2; omega
      have b : ¬ F_RideLawsModel_isWord_192 χ 119165820433268 = 0 := by
        rw [w2]; exact fun z => z ⟨c.1, by omega⟩
      rw [if_pos a0, if_pos a1, if_neg b]
      omega
    · have a0 : F_RideLawsModel_isWord_192 χ 30064 = 0 := by
        rw [w0]; intro z; have := z.2; omega
      have a1 : F_RideLawsModel_isWord_192 χ 1836414053 = 0 := by
        rw [w1]; intro z; have := z.2; omega
      have a2 : F_RideLawsModel_isWord_192 χ 119165820433268 = 0 := by
        rw [w2]; intro z; have := z.2; omega
      have b : ¬ F_RideLawsModel_isWord_192 χ 28526 = 0 := by
        rw [w3]; exact fun z => z ⟨c.1, by omega⟩
      rw [if_pos a0, if_pos a1, if_pos a2, if_neg b]
      omega
    · have a0 : F_RideLawsModel_isWord_192 χ 30064 = 0 := by
        rw [w0]; intro z; have := z.2; omega
      have a1 : F_RideLawsModel_isWord_192 χ 1836414053 = 0 := by
        rw [w1]; intro z; have := z.2; omega
      have a2 : F_RideLawsModel_isWord_192 χ 119165820433268 = 0 := by
        rw [w2]; intro z; have := z.2; omega
      have a3 : F_RideLawsModel_isWord_192 χ 28526 = 0 := by
        rw [w3]; intro z; have := z.2; omega
      have b : ¬ F_RideLawsModel_isWord_192 χ 461414299507 = 0 := by
        rw [w4]; exact fun z => z ⟨c.1, by omega⟩
      rw [if_pos a0, if_pos a1, if_pos a2, if_pos a3, if_neg b]
      omega
    · have a0 : F_RideLawsModel_isWord_192 χ 30064 = 0 := by
        rw [w0]; intro z; have := z.2; omega
      have a1 : F_RideLawsModel_isWord_192 χ 1836414053 = 0 := by
        rw [w1]; intro z; have := z.2; omega
      have a2 : F_RideLawsModel_isWord_192 χ 119165820433268 = 0 := by
        rw [w2]; intro z; have := z.2; omega
      have a3 : F_RideLawsModel_isWord_192 χ 28526 = 0 := by
        rw [w3]; intro z; have := z.2; omega
      have a4 : F_RideLawsModel_isWord_192 χ 461414299507 = 0 := by
        rw [w4]; intro z; have := z.2; omega
      have b : ¬ F_RideLawsModel_isWord_192 χ 1935763812 = 0 := by
        rw [w5]; exact fun z => z ⟨c.1, by omega⟩
      rw [if_pos a0, if_pos a1, if_pos a2, if_pos a3, if_pos a4, if_neg b]
      omega
    · have a0 : F_RideLawsModel_isWord_192 χ 30064 = 0 := by
        rw [w0]; intro z; have := z.2; omega
      have a1 : F_RideLawsModel_isWord_192 χ 1836414053 = 0 := by
        rw [w1]; intro z; have := z.2; omega
      have a2 : F_RideLawsModel_isWord_192 χ 119165820433268 = 0 := by
        rw [w2]; intro z; have := z.2; omega
      have a3 : F_RideLawsModel_isWord_192 χ 28526 = 0 := by
        rw [w3]; intro z; have := z.2; omega
      have a4 : F_RideLawsModel_isWord_192 χ 461414299507 = 0 := by
        rw [w4]; intro z; have := z.2; omega
      have a5 : F_RideLawsModel_isWord_192 χ 1935763812 = 0 := by
        rw [w5]; intro z; have := z.2; omega
      have b : ¬ F_RideLawsModel_isWord_192 χ 1919904876 = 0 := by
        rw [w6]; exact fun z => z ⟨c.1, by omega⟩
      rw [if_pos a0, if_pos a1, if_pos a2, if_pos a3, if_pos a4, if_pos a5, if_neg b]
      omega
    · have a0 : F_RideLawsModel_isWord_192 χ 30064 = 0 := by
        rw [w0]; intro z; have := z.2; omega
      have a1 : F_RideLawsModel_isWord_192 χ 1836414053 = 0 := by
        rw [w1]; intro z; have := z.2; omega
      have a2 : F_RideLawsModel_isWord_192 χ 119165820433268 = 0 := by
        rw [w2]; intro z; have := z.2; omega
      have a3 : F_RideLawsModel_isWord_192 χ 28526 = 0 := by
        rw [w3]; intro z; have := z.2; omega
      have a4 : F_RideLawsModel_isWord_192 χ 461414299507 = 0 := by
        rw [w4]; intro z; have := z.2; omega
      have a5 : F_RideLawsModel_isWord_192 χ 1935763812 = 0 := by
        rw [w5]; intro z; have := z.2; omega
      have a6 : F_RideLawsModel_isWord_192 χ 1919904876 = 0 := by
        rw [w6]; intro z; have := z.2; omega
      have b : ¬ F_RideLawsModel_isWord_192 χ 121450625394034 = 0 := by
        rw [w7]; exact fun z => z ⟨c.1, by omega⟩
      rw [if_pos a0, if_pos a1, if_pos a2, if_pos a3, if_pos a4, if_pos a5, if_pos a6, if_neg b]
      omega
  · rw [if_neg c, if_pos (show F_RideLawsModel_isWord_192 χ 30064 = 0 by rw [w0]; intro z; exact c ⟨z.1, by have := z.2; omega, by have := z.2; omega⟩), if_pos (show F_RideLawsModel_isWord_192 χ 1836414053 = 0 by rw [w1]; intro z; exact c ⟨z.1, by have := z.2; omega, by have := z.2; omega⟩), if_pos (show F_RideLawsModel_isWord_192 χ 119165820433268 = 0 by rw [w2]; intro z; exact c ⟨z.1, by have := z.2; omega, by have := z.2; omega⟩), if_pos (show F_RideLawsModel_isWord_192 χ 28526 = 0 by rw [w3]; intro z; exact c ⟨z.1, by have := z.2; omega, by have := z.2; omega⟩), if_pos (show F_RideLawsModel_isWord_192 χ 461414299507 = 0 by rw [w4]; intro z; exact c ⟨z.1, by have := z.2; omega, by have := z.2; omega⟩), if_pos (show F_RideLawsModel_isWord_192 χ 1935763812 = 0 by rw [w5]; intro z; exact c ⟨z.1, by have := z.2; omega, by have := z.2; omega⟩), if_pos (show F_RideLawsModel_isWord_192 χ 1919904876 = 0 by rw [w6]; intro z; exact c ⟨z.1, by have := z.2; omega, by have := z.2; omega⟩), if_pos (show F_RideLawsModel_isWord_192 χ 121450625394034 = 0 by rw [w7]; intro z; exact c ⟨z.1, by have := z.2; omega, by have := z.2; omega⟩)]
noncomputable def PSH (c : Int) (ζ : hf_F) : hf_F := hf_up (hf_up (hf_up ζ 203 ((ζ 192 36).toNat) c) 192 36 ((ζ 192 36) + 1)) 192 37 ((ζ 192 37) + 1)
noncomputable def LEF (z3 : Int) (ζ : hf_F) : Int × hf_F := if 3 ≤ z3 then (if 5 ≤ z3 then (if ¬ (ζ 192 11) = 3 then F_RideLawsModel_bad_192 (hf_up ζ 192 38 1) 1 else (if (ζ 192 14) < 60 then F_RideLawsModel_bad_192 (hf_up ζ 192 38 1) 1 else (if (ζ 192 14) ≤ 62 then (if (F_RideLawsModel_next_192 (hf_up ζ 192 38 1) 192 11) = 2 then (1, F_RideLawsModel_next_192 (F_RideLawsModel_code_192 (F_RideLawsModel_next_192 (hf_up ζ 192 38 1)) z3 (ζ 192 14) (F_RideLawsModel_next_192 (hf_up ζ 192 38 1) 192 14))) else F_RideLawsModel_bad_192 (F_RideLawsModel_next_192 (hf_up ζ 192 38 1)) 1) else F_RideLawsModel_bad_192 (hf_up ζ 192 38 1) 1))) else (if ¬ z3 = 3 then (bnd (F_RideLawsModel_looksAt_192 (hf_up ζ 192 38 1) 11 (ζ 194 2)) (fun z ξ => (if ¬ z = 0 then (1, F_RideLawsModel_next_192 (F_RideLawsModel_code_192 ξ z3 0 (ξ 192 18))) else (0, ξ)))) else (bnd (F_RideLawsModel_looksAt_192 (hf_up ζ 192 38 1) 3 (ζ 194 1)) (fun z ξ => (if ¬ z = 0 then (1, F_RideLawsModel_next_192 (F_RideLawsModel_code_192 ξ z3 0 (ξ 192 18))) else (0, ξ)))))) else (1, F_RideLawsModel_code_192 (hf_up ζ 192 38 1) z3 0 0)
theorem opn_c {χ : hf_F} (h1 : F_RideLawsModel_isWord_192 χ 7237492 = 0) (h2 : F_RideLawsModel_isSign_192 χ 40 = 1) : F_RideLawsModel_operand_192 χ = if χ 192 35 = 20 then F_RideLawsModel_bad_192 χ 4 else if jm_n (χ 192 37) ≤ 8 then (1, PSH 23 (F_RideLawsModel_next_192 (hf_up χ 192 35 (χ 192 35 + 1)))) else F_RideLawsModel_bad_192 χ 4 := by
  unfold F_RideLawsModel_operand_192 PSH
  simp only [bnp, bnv, bnd_id, h1, h2]
  simp only [e10, e00, not_false_eq_true, not_true_eq_false, if_true, if_false]
theorem opn_n {χ : hf_F} (h1 : ¬ F_RideLawsModel_isWord_192 χ 7237492 = 0) : F_RideLawsModel_operand_192 χ = if χ 192 35 = 20 then F_RideLawsModel_bad_192 χ 4 else if jm_n (χ 192 37) ≤ 8 then (1, PSH 20 (F_RideLawsModel_next_192 (hf_up χ 192 35 (χ 192 35 + 1)))) else F_RideLawsModel_bad_192 χ 4 := by
  unfold F_RideLawsModel_operand_192 PSH
  simp only [bnp, bnv, bnd_id, eq_false h1]
  simp only [e10, e00, not_false_eq_true, not_true_eq_false, if_true, if_false]
theorem opn_l {χ : hf_F} {z3 : Int} (h1 : F_RideLawsModel_isWord_192 χ 7237492 = 0) (h2 : F_RideLawsModel_isSign_192 χ 40 = 0) (h3 : F_RideLawsModel_leafOf_192 χ = z3) (h4 : 0 ≤ z3) : F_RideLawsModel_operand_192 χ = if χ 192 35 = 20 then F_RideLawsModel_bad_192 χ 4 else if jm_n (χ 192 37) ≤ 8 then LEF z3 (F_RideLawsModel_next_192 (hf_up χ 192 35 (χ 192 35 + 1))) else F_RideLawsModel_bad_192 χ 4 := by
  unfold F_RideLawsModel_operand_192 LEF
  simp only [bnp, bnv, bnd_id, h1, h2, h3]
  simp only [e10, e00, eq_true h4, not_false_eq_true, not_true_eq_false, if_true, if_false]
theorem opn_b {χ : hf_F} {z3 : Int} (h1 : F_RideLawsModel_isWord_192 χ 7237492 = 0) (h2 : F_RideLawsModel_isSign_192 χ 40 = 0) (h3 : F_RideLawsModel_leafOf_192 χ = z3) (h4 : ¬ 0 ≤ z3) : F_RideLawsModel_operand_192 χ = F_RideLawsModel_bad_192 χ 1 := by
  unfold F_RideLawsModel_operand_192
  simp only [bnp, bnv, bnd_id, h1, h2, h3]
  simp only [e10, e00, eq_false h4, not_false_eq_true, not_true_eq_false, if_true, if_false]
/-- one ONE more, the next token -/
theorem opn_0 {φ χ : hf_F} {T : Nat} {d : Int} (h : SEX φ χ T d) (h20 : χ 192 35 < 20) : ∃ φ2 ζ : hf_F, F_Reader_advance_1 (hf_up φ 52 4 (φ 52 4 + 1)) = φ2 ∧ F_RideLawsModel_next_192 (hf_up χ 192 35 (χ 192 35 + 1)) = ζ ∧ RP φ2 ζ ∧ PLG 5 φ2 (ζ 194) (ζ 197) ∧ SIw ζ 0 ∧ ζ 192 34 = χ 192 34 ∧ ζ 192 35 = χ 192 35 + 1 ∧ ζ 192 36 = (T : Int) ∧ ζ 192 37 = d ∧ ζ 192 38 = 0 ∧ φ2 52 4 = χ 192 35 + 1 ∧ SCD φ2 ζ 0 0 0 ∧ (∀ j, ζ 203 j = χ 203 j) ∧ χ 192 34 + (T : Int) ≤ 2 * χ 192 35 := by
  obtain ⟨h1, h2, ⟨h3, h3b⟩, h4, h5, h6, h7, h8⟩ := h
  have o35 := iv_at (a := 192) (k := 35) (lo := 0) (u := 20) h1.1.2 (by decide +kernel)
  have i1 : Inv (hf_up φ 52 4 (φ 52 4 + 1)) := iv_up (lo := 0) (u := 20) h1.1.1 (by decide +kernel) (by omega) (by omega)
  have i2 : Inv (hf_up χ 192 35 (χ 192 35 + 1)) := iv_up (lo := 0) (u := 20) h1.1.2 (by decide +kernel) (by omega) (by omega)
  have s2 : SIw (hf_up χ 192 35 (χ 192 35 + 1)) 0 := by
    rw [h4] at h3
    exact si_up h3 (by omega)
  have hR : RP (hf_up φ 52 4 (φ 52 4 + 1)) (hf_up χ 192 35 (χ 192 35 + 1)) := rp_f h1 i1 i2 (fun q _ => up_a (by decide)) (fun q hq => hf_up_ne (by omega)) (fun q => up_a (by decide)) (fun q => up_a (by decide)) (fun q => up_a (by decide)) (fun q => up_a (by decide))
  have ra := rp_adv hR rfl rfl
  obtain ⟨_, _, _, n30, n34, n35, n36, n38⟩ := (K_F_RideLawsModel_next_192 i2 rfl).2.2
  have n37 : F_RideLawsModel_next_192 (hf_up χ 192 35 (χ 192 35 + 1)) 192 37 = hf_up χ 192 35 (χ 192 35 + 1) 192 37 := fr_fd ra.2.2 192 37 (by decide)
  have hP : PLG 5 (hf_up φ 52 4 (φ 52 4 + 1)) (hf_up χ 192 35 (χ 192 35 + 1) 194) (hf_up χ 192 35 (χ 192 35 + 1) 197) := plg_f h2 (cb_i h1.1.2) (fun a k q => up_a (by omega)) (fun k _ => up_a (by decide)) (fun k _ => up_a (by decide))
  have hS : SCD (hf_up φ 52 4 (φ 52 4 + 1)) (hf_up χ 192 35 (χ 192 35 + 1)) 0 0 0 := scd_f h8 (fun q => up_a (by decide)) (fun q => up_a (by decide)) (fun q => up_a (by decide)) (hf_up_ne (by omega)) (fun q => up_a (by decide)) (hf_up_ne (by omega))
  have c4 : F_Reader_advance_1 (hf_up φ 52 4 (φ 52 4 + 1)) 52 4 = φ 52 4 + 1 := (fr_fd ra.2.1 52 4 (by decide)).trans hf_up_eq
  refine ⟨_, _, rfl, rfl, ra.1, plg_t i2 hP (tcf_a hR) ⟨n30, fun q => next_a (by decide) _ q, fun q => next_a (by decide) _ q⟩, si_fr s2 ra.2.2 (by decide) n34 n36, n34.trans (hf_up_ne (by omega)), n35.trans hf_up_eq, n36.trans ((hf_up_ne (by omega)).trans h5), n37.trans ((hf_up_ne (by omega)).trans h6), n38.trans ((hf_up_ne (by omega)).trans h4), by omega, scd_f hS (fun q => fr_at ra.2.1 53 (by decide) q) (fun q => fr_at ra.2.1 54 (by decide) q) (fun q => fr_at ra.2.1 55 (by decide) q) (fr_fd ra.2.1 52 3 (by decide)) (fun q => next_a (by decide) _ q) n34, fun j => (next_a (by decide) _ j).trans (up_a (by decide)), by omega⟩
/-- 'not' and the bracket are laid on the stack -/
theorem sex_op {χ φ2 ζ : hf_F} {T : Nat} {d c : Int} (hR : RP φ2 ζ) (hP : PLG 5 φ2 (ζ 194) (ζ 197)) (hs : SIw ζ 0) (e34 : ζ 192 34 = χ 192 34) (e35 : ζ 192 35 = χ 192 35 + 1) (e36 : ζ 192 36 = (T : Int)) (e37 : ζ 192 37 = d) (e38 : ζ 192 38 = 0) (f4 : φ2 52 4 = χ 192 35 + 1) (hS : SCD φ2 ζ 0 0 0) (e203 : ∀ j, ζ 203 j = χ 203 j) (hb : χ 192 34 + (T : Int) ≤ 2 * χ 192 35) (hc : c = 20 ∨ c = 23) :
    SEX φ2 (PSH c ζ) (T + 1) (d + 1) ∧ PSH c ζ 203 T = c ∧ SLW χ (PSH c ζ) T ∧ PSH c ζ 192 35 = χ 192 35 + 1 := by
  have hI := hR.1.2
  have o35 := iv_at (a := 192) (k := 35) (lo := 0) (u := 20) hI (by decide +kernel)
  have h34 := hS.2.1
  have i1 : Inv (hf_up ζ 203 (ζ 192 36).toNat c) := iv_upI (s := 0) (t := 45) (lo := 0) (u := 23) hI (by decide +kernel) (by omega) (by omega) (by omega) (by omega)
  have i2 : Inv (hf_up (hf_up ζ 203 (ζ 192 36).toNat c) 192 36 (ζ 192 36 + 1)) := iv_up (lo := 0) (u := 45) i1 (by decide +kernel) (by omega) (by omega)
  have i3 : Inv (PSH c ζ) := iv_upn i2 (by decide) (by decide) (by decide +kernel)
  have s2 : SIw (hf_up (hf_up ζ 203 (ζ 192 36).toNat c) 192 36 (ζ 192 36 + 1)) 0 := si_push hs (by omega) (fun q => by omega) (fun _ => rfl)
  have s3 : SIw (PSH c ζ) 0 := si_up s2 (by omega)
  have p34 : PSH c ζ 192 34 = ζ 192 34 := by unfold PSH; rw [hf_up_ne (by omega), hf_up_ne (by omega), up_a (by decide)]
  have p35 : PSH c ζ 192 35 = ζ 192 35 := by unfold PSH; rw [hf_up_ne (by omega), hf_up_ne (by omega), up_a (by decide)]
  have p36 : PSH c ζ 192 36 = ζ 192 36 + 1 := by unfold PSH; rw [hf_up_ne (by omega), hf_up_eq]
  have p37 : PSH c ζ 192 37 = ζ 192 37 + 1 := by unfold PSH; rw [hf_up_eq]
  have p38 : PSH c ζ 192 38 = ζ 192 38 := by unfold PSH; rw [hf_up_ne (by omega), hf_up_ne (by omega), up_a (by decide)]
  have p18 : ∀ q : Nat, q < 18 → PSH c ζ 192 q = ζ 192 q := fun q hq => by unfold PSH; rw [hf_up_ne (by omega), hf_up_ne (by omega), up_a (by decide)]
  have po : ∀ b q : Nat, ¬ b = 192 → ¬ b = 203 → PSH c ζ b q = ζ b q := fun b q g1 g2 => by unfold PSH; rw [up_a g1, up_a g1, up_a g2]
  have pt : PSH c ζ 203 T = c := by unfold PSH; rw [up_a (by decide), up_a (by decide), show (ζ 192 36).toNat = T by omega, hf_up_eq]
  have pl : ∀ j : Nat, j < T → PSH c ζ 203 j = ζ 203 j := fun j hj => by unfold PSH; rw [up_a (by decide), up_a (by decide), up_k (by omega)]
  generalize PSH c ζ = ξ at i3 s3 p34 p35 p36 p37 p38 p18 po pt pl ⊢
  have e94 : ξ 194 = ζ 194 := funext (fun q => po 194 q (by decide) (by decide))
  have e97 : ξ 197 = ζ 197 := funext (fun q => po 197 q (by decide) (by decide))
  exact ⟨⟨rp_f hR hR.1.1 i3 (fun _ _ => rfl) p18 (fun _ => rfl) (fun q => po 198 q (by decide) (by decide)) (fun _ => rfl) (fun q => po 193 q (by decide) (by decide)), by rw [e94, e97]; exact hP, ⟨by rw [p38, e38]; exact s3, by omega⟩, p38.trans e38, by omega, by omega, by omega, scd_f hS (fun _ => rfl) (fun _ => rfl) (fun _ => rfl) rfl (fun q => po 196 q (by decide) (by decide)) p34⟩, pt, fun j hj => (pl j hj).trans (e203 j), by omega⟩
theorem sfl_1 {χ ξ ψ : hf_F} {m : Nat} (h38 : χ 192 38 = 0) (ho : F_RideLawsModel_operand_192 χ = (0, ξ)) (hf : FP ψ ξ) : SFL ψ χ (m + 1) := ⟨ξ, by rw [l48_o h38, bnd_e ho, if_neg (show ¬ ¬ (0 : Int) = 0 by decide)], hf⟩
theorem ref_bad {φ χ : hf_F} (h : RP φ χ) (k : Int) : ∃ ψ ξ : hf_F, F_Reader_refuse_1 φ k = (0, ψ) ∧ F_RideLawsModel_bad_192 χ k = (0, ξ) ∧ FP ψ ξ := ⟨_, _, rfl, rfl, (rf_bad h rfl rfl).2.2⟩
/-- an operand that is all there -/
theorem sap_fin {φ χ ψ ξ : hf_F} {T m : Nat} {d : Int} (h : SEX φ χ T d) (ho : F_RideLawsModel_operand_192 χ = (1, ξ)) (hm : SMM χ + 1 < ((m + 1 : Nat) : Int)) (hR : Inv ξ → RP ψ ξ) (hP : PLG 5 ψ (ξ 194) (ξ 197)) (e38 : ξ 192 38 = 1) (e36 : ξ 192 36 = (T : Int)) (e37 : ξ 192 37 = d) (f4 : ψ 52 4 = χ 192 35 + 1) (hS : SCD ψ ξ 0 0 0) (e203 : ∀ j, ξ 203 j = χ 203 j) :
    ∃ (k m' : Nat) (χ' : hf_F), F_RideLawsModel_sentence_192_l48 (m + 1) χ 1 = F_RideLawsModel_sentence_192_l48 m' χ' 1 ∧ SMM χ' + 1 < (m' : Int) ∧ SDN ψ χ' T 0 0 k 0 d ∧ SLW χ χ' T ∧ χ 192 35 + 1 ≤ χ' 192 35 := by
  obtain ⟨h1, h2, ⟨h3, h3b⟩, h4, h5, h6, h7, h8⟩ := h
  rw [h4] at h3
  have kk := K_F_RideLawsModel_operand_192 h1.1.2 h3 h4 (by omega) ho
  obtain ⟨k1, _, _, _, k4, k5⟩ := kk
  have k4 := k4 rfl
  have k5 := k5 rfl
  refine ⟨0, m, ξ, ?_, ?_, ⟨hR k1, hP, ⟨k4, k5.2.1⟩, e38, by omega, by omega, by omega, hS, fun q => by omega, fun q => by omega, fun j hj => by omega⟩, fun j _ => e203 j, by omega⟩
  · rw [l48_o h4, bnd_e ho, if_pos (show ¬ (1 : Int) = 0 by decide)]
  · unfold SMM at hm ⊢
    omega
theorem rp_sav {φ χ : hf_F} {c s v : Int} (h : RP φ χ) (hc : 0 ≤ c ∧ c ≤ 22) (hs : 0 ≤ s ∧ s ≤ 62) (hv : 0 ≤ v ∧ v ≤ 999) (h4 : φ 52 3 < 40) : RP (SAD φ c s v) χ := by
  have k := K_F_Sentence_add_52 h.1.1 hc.1 hc.2 hs.1 hs.2 hv.1 hv.2 (sad_e h4)
  exact rp_f h k.1 h.1.2 (fun q hq => sad_o (by omega)) (fun _ _ => rfl) (fun q => sad_o (by omega)) (fun _ => rfl) (fun q => sad_o (by omega)) (fun _ => rfl)
theorem sav_4 {φ : hf_F} {c s v : Int} : SAD φ c s v 52 4 = φ 52 4 := (sad_f φ c s v).2.2.2.2 52 4 (by omega) (by omega)
