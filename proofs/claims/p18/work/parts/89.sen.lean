/-! a SENTENCE: what the class's readOne reads, the model's loop reads, too -/
theorem bo_e (φ : hf_F) : F_Sentence_beginsOne_1 φ = if φ 1 5 = 3 ∧ 14 ≤ φ 1 7 ∧ φ 1 7 ≤ 22 then 1 else 0 := by
  unfold F_Sentence_beginsOne_1
  by_cases c : φ 1 5 = 3
  · rw [if_neg (show ¬ ¬ φ 1 5 = 3 from fun q => q c)]
    by_cases c1 : φ 1 7 < 14
    · rw [if_pos c1, if_neg (fun q => by omega)]
    · rw [if_neg c1]
      by_cases c2 : 22 < φ 1 7
      · rw [if_pos c2, if_neg (fun q => by omega)]
      · rw [if_neg c2, if_pos ⟨c, by omega, by omega⟩]
  · rw [if_pos (show ¬ φ 1 5 = 3 from c), if_neg (fun q => c q.1)]
theorem cod_o {χ : hf_F} {u v w : Int} {a k : Nat} (h1 : ¬ a = 196) (h2 : ¬ (a = 192 ∧ k = 34)) : F_RideLawsModel_code_192 χ u v w a k = χ a k := by
  unfold F_RideLawsModel_code_192
  rw [hf_up_ne h2, up_a h1, up_a h1, up_a h1]
theorem skm_k {K : Int} (h : 15 ≤ K) : K - 15 = SKM K := by unfold SKM; rw [if_pos h]
/-- a code of an operand, by both, then the next token or none -/
theorem leaf_0 {φ χ : hf_F} {K s v : Int} (hR : RP φ χ) (hP : PLG 5 φ (χ 194) (χ 197)) (hS : SCD φ χ 0 0 0) (hn : χ 192 34 ≤ 39) (hK : 15 ≤ K ∧ K ≤ 22) (hs : 0 ≤ s ∧ s ≤ 62) (hv : 0 ≤ v ∧ v ≤ 999) :
    RP (SAD φ K s v) (F_RideLawsModel_code_192 χ (K - 15) s v) ∧ PLG 5 (SAD φ K s v) (F_RideLawsModel_code_192 χ (K - 15) s v 194) (F_RideLawsModel_code_192 χ (K - 15) s v 197) ∧ SCD (SAD φ K s v) (F_RideLawsModel_code_192 χ (K - 15) s v) 0 0 0 ∧ SAD φ K s v 52 4 = φ 52 4 := by
  have h34 := hS.2.1
  have h3 := hS.1
  have hI := (K_F_RideLawsModel_code_192 (v1 := K - 15) (v2 := s) (v3 := v) hR.1.2 (by omega) (by omega) hs.1 (by omega) hv.1 (by omega) (by omega) rfl).1
  have hR2 : RP φ (F_RideLawsModel_code_192 χ (K - 15) s v) := rp_f hR hR.1.1 hI (fun _ _ => rfl) (fun q hq => cod_o (by decide) (by omega)) (fun _ => rfl) (fun q => cod_o (by decide) (by omega)) (fun _ => rfl) (fun q => cod_o (by decide) (by omega))
  have e94 : F_RideLawsModel_code_192 χ (K - 15) s v 194 = χ 194 := funext (fun q => cod_o (by decide) (by omega))
  have e97 : F_RideLawsModel_code_192 χ (K - 15) s v 197 = χ 197 := funext (fun q => cod_o (by decide) (by omega))
  refine ⟨rp_sav hR2 (by omega) hs hv (by omega), ?_, scd_leaf hS (skm_k hK.1), sav_4⟩
  rw [e94, e97]
  exact plg_sad (cb_i hR.1.2) hP
theorem leaf_n {φ χ : hf_F} {K s v : Int} (hR : RP φ χ) (hP : PLG 5 φ (χ 194) (χ 197)) (hS : SCD φ χ 0 0 0) (hn : χ 192 34 ≤ 39) (hK : 15 ≤ K ∧ K ≤ 22) (hs : 0 ≤ s ∧ s ≤ 62) (hv : 0 ≤ v ∧ v ≤ 999) :
    RP (SAD (F_Reader_advance_1 φ) K s v) (F_RideLawsModel_next_192 (F_RideLawsModel_code_192 χ (K - 15) s v)) ∧ PLG 5 (SAD (F_Reader_advance_1 φ) K s v) (F_RideLawsModel_next_192 (F_RideLawsModel_code_192 χ (K - 15) s v) 194) (F_RideLawsModel_next_192 (F_RideLawsModel_code_192 χ (K - 15) s v) 197) ∧ SCD (SAD (F_Reader_advance_1 φ) K s v) (F_RideLawsModel_next_192 (F_RideLawsModel_code_192 χ (K - 15) s v)) 0 0 0 ∧ SAD (F_Reader_advance_1 φ) K s v 52 4 = φ 52 4 ∧
    F_RideLawsModel_next_192 (F_RideLawsModel_code_192 χ (K - 15) s v) 192 36 = χ 192 36 ∧ F_RideLawsModel_next_192 (F_RideLawsModel_code_192 χ (K - 15) s v) 192 37 = χ 192 37 ∧ F_RideLawsModel_next_192 (F_RideLawsModel_code_192 χ (K - 15) s v) 192 38 = χ 192 38 ∧ (∀ j, F_RideLawsModel_next_192 (F_RideLawsModel_code_192 χ (K - 15) s v) 203 j = χ 203 j) := by
  have h34 := hS.2.1
  have h3 := hS.1
  have hI := (K_F_RideLawsModel_code_192 (v1 := K - 15) (v2 := s) (v3 := v) hR.1.2 (by omega) (by omega) hs.1 (by omega) hv.1 (by omega) (by omega) rfl).1
  have hR2 : RP φ (F_RideLawsModel_code_192 χ (K - 15) s v) := rp_f hR hR.1.1 hI (fun _ _ => rfl) (fun q hq => cod_o (by decide) (by omega)) (fun _ => rfl) (fun q => cod_o (by decide) (by omega)) (fun _ => rfl) (fun q => cod_o (by decide) (by omega))
  have e94 : F_RideLawsModel_code_192 χ (K - 15) s v 194 = χ 194 := funext (fun q => cod_o (by decide) (by omega))
  have e97 : F_RideLawsModel_code_192 χ (K - 15) s v 197 = χ 197 := funext (fun q => cod_o (by decide) (by omega))
  have ra := rp_adv hR2 rfl rfl
  have hc3 : F_Reader_advance_1 φ 52 3 = φ 52 3 := fr_fd ra.2.1 52 3 (by decide)
  obtain ⟨_, _, _, n30, n34, n35, n36, n38⟩ := (K_F_RideLawsModel_next_192 hI rfl).2.2
  have n37 : F_RideLawsModel_next_192 (F_RideLawsModel_code_192 χ (K - 15) s v) 192 37 = F_RideLawsModel_code_192 χ (K - 15) s v 192 37 := fr_fd ra.2.2 192 37 (by decide)
  have hS2 : SCD (F_Reader_advance_1 φ) χ 0 0 0 := scd_f hS (fun q => fr_at ra.2.1 53 (by decide) q) (fun q => fr_at ra.2.1 54 (by decide) q) (fun q => fr_at ra.2.1 55 (by decide) q) hc3 (fun _ => rfl) rfl
  have hS3 := scd_leaf (c := K) (s := s) (v := v) hS2 (skm_k hK.1)
  have hP2 : PLG 5 φ (F_RideLawsModel_code_192 χ (K - 15) s v 194) (F_RideLawsModel_code_192 χ (K - 15) s v 197) := by rw [e94, e97]; exact hP
  have hP3 := plg_t hI hP2 (tcf_a hR2) ⟨n30, fun q => next_a (by decide) _ q, fun q => next_a (by decide) _ q⟩
  refine ⟨rp_sav ra.1 (by omega) hs hv (by omega), plg_sad (cb_i ra.1.1.2) hP3, scd_f hS3 (fun _ => rfl) (fun _ => rfl) (fun _ => rfl) rfl (fun q => next_a (by decide) _ q) n34, sav_4.trans (fr_fd ra.2.1 52 4 (by decide)), n36.trans (cod_o (by decide) (by omega)), n37.trans (cod_o (by decide) (by omega)), n38.trans (cod_o (by decide) (by omega)), fun j => (next_a (by decide) _ j).trans (cod_o (by decide) (by omega))⟩
/-- the bracket is closed -/
theorem sdn_cl {ψ η : hf_F} {T : Nat} {d : Int} (h : SDN ψ η (T + 1) 0 0 0 0 (d + 1)) (ht : η 203 T = 23) :
    SDN (F_Reader_advance_1 ψ) (F_RideLawsModel_next_192 (hf_up (hf_up η 192 36 (η 192 36 - 1)) 192 37 (η 192 37 - 1))) T 0 0 0 0 d ∧ (∀ j, F_RideLawsModel_next_192 (hf_up (hf_up η 192 36 (η 192 36 - 1)) 192 37 (η 192 37 - 1)) 203 j = η 203 j) ∧ F_RideLawsModel_next_192 (hf_up (hf_up η 192 36 (η 192 36 - 1)) 192 37 (η 192 37 - 1)) 192 35 = η 192 35 := by
  obtain ⟨h1, h2, ⟨h3, h3b⟩, h4, h5, h6, h7, h8, h9, h10, h11⟩ := h
  have hI := h1.1.2
  have o36 := iv_at (a := 192) (k := 36) (lo := 0) (u := 45) hI (by decide +kernel)
  have i1 : Inv (hf_up η 192 36 (η 192 36 - 1)) := iv_up (lo := 0) (u := 45) hI (by decide +kernel) (by omega) (by omega)
  have i2 : Inv (hf_up (hf_up η 192 36 (η 192 36 - 1)) 192 37 (η 192 37 - 1)) := iv_upn i1 (by decide) (by decide) (by decide +kernel)
  rw [h4] at h3
  have s1 : SIw (hf_up η 192 36 (η 192 36 - 1)) 1 := si_pop h3 (by omega) (by rw [show (η 192 36 - 1).toNat = T by omega, ht]; decide)
  have s2 : SIw (hf_up (hf_up η 192 36 (η 192 36 - 1)) 192 37 (η 192 37 - 1)) 1 := si_up s1 (by omega)
  have e36 : hf_up (hf_up η 192 36 (η 192 36 - 1)) 192 37 (η 192 37 - 1) 192 36 = η 192 36 - 1 := by rw [hf_up_ne (by omega), hf_up_eq]
  have e37 : hf_up (hf_up η 192 36 (η 192 36 - 1)) 192 37 (η 192 37 - 1) 192 37 = η 192 37 - 1 := hf_up_eq
  have eo : ∀ b q : Nat, ¬ (b = 192 ∧ (q = 36 ∨ q = 37)) → hf_up (hf_up η 192 36 (η 192 36 - 1)) 192 37 (η 192 37 - 1) b q = η b q := fun b q g => by rw [hf_up_ne (by omega), hf_up_ne (by omega)]
  generalize hf_up (hf_up η 192 36 (η 192 36 - 1)) 192 37 (η 192 37 - 1) = χ1 at i2 s2 e36 e37 eo ⊢
  have hR1 : RP ψ χ1 := rp_f h1 h1.1.1 i2 (fun _ _ => rfl) (fun q hq => eo 192 q (by omega)) (fun _ => rfl) (fun q => eo 198 q (by omega)) (fun _ => rfl) (fun q => eo 193 q (by omega))
  have ra := rp_adv hR1 rfl rfl
  obtain ⟨_, _, _, n30, n34, n35, n36, n38⟩ := (K_F_RideLawsModel_next_192 i2 rfl).2.2
  have n37 : F_RideLawsModel_next_192 χ1 192 37 = χ1 192 37 := fr_fd ra.2.2 192 37 (by decide)
  have z30 := eo 192 30 (by omega)
  have z34 := eo 192 34 (by omega)
  have z35 := eo 192 35 (by omega)
  have z38 := eo 192 38 (by omega)
  have c4 : F_Reader_advance_1 ψ 52 4 = ψ 52 4 := fr_fd ra.2.1 52 4 (by decide)
  refine ⟨⟨ra.1, plg_t hI h2 (tcf_a h1) ⟨n30.trans z30, fun q => (next_a (by decide) χ1 q).trans (eo 194 q (by omega)), fun q => (next_a (by decide) χ1 q).trans (eo 197 q (by omega))⟩, ⟨?_, by omega⟩, n38.trans (z38.trans h4), by omega, by omega, by omega, scd_f h8 (fun q => fr_at ra.2.1 53 (by decide) q) (fun q => fr_at ra.2.1 54 (by decide) q) (fun q => fr_at ra.2.1 55 (by decide) q) (fr_fd ra.2.1 52 3 (by decide)) (fun q => (next_a (by decide) χ1 q).trans (eo 196 q (by omega))) (n34.trans z34), fun q => by omega, fun q => by omega, fun j hj => by omega⟩, fun j => (next_a (by decide) χ1 j).trans (eo 203 j (by omega)), n35.trans z35⟩
  rw [n38, z38, h4]
  exact si_fr s2 ra.2.2 (by decide) n34 n36
/-- 'not' is all there -/
theorem sdn_not {ψ χ : hf_F} {T k : Nat} {d : Int} (h : SDN ψ χ (T + 1) 0 0 k 0 (d + 1)) (h1 : χ 203 T = 20) : SDN (SAD ψ 14 0 0) χ T 0 0 (k + 1) 0 d := by
  have hroom := sdn_room h
  obtain ⟨a1, a2, a3, a4, a5, a6, a7, a8, a9, a10, a11⟩ := h
  refine ⟨rp_sad a1 (by decide) hroom, plg_sad (cb_i a1.1.2) a2, a3, a4, by omega, by omega, sav_4.trans a7, scd_add_n a8, fun q => by omega, fun q => by omega, fun j hj => ?_⟩
  by_cases c : j = 0
  · rw [show T + 0 + 0 + j = T by omega]; exact h1
  · have := a11 (j - 1) (by omega)
    rw [show T + 1 + 0 + 0 + (j - 1) = T + 0 + 0 + j by omega] at this
    exact this
theorem tks_1 {ψ : hf_F} (h : ψ 1 5 = 5 ∧ ψ 1 7 = 41) : F_Reader_takeSign_1 ψ 41 = (1, F_Reader_advance_1 ψ) := by
  unfold F_Reader_takeSign_1
  rw [bnp_e (sgo_e ψ 41), if_pos h, if_pos (show ¬ (1 : Int) = 0 by decide), bnv_e rfl]
theorem tks_0 {ψ : hf_F} (h : ¬ (ψ 1 5 = 5 ∧ ψ 1 7 = 41)) : F_Reader_takeSign_1 ψ 41 = F_Reader_refuse_1 ψ 1 := by
  unfold F_Reader_takeSign_1
  rw [bnp_e (sgo_e ψ 41), if_neg h, if_neg (show ¬ ¬ (0 : Int) = 0 by decide)]
  rfl
/-- a bracket: what is behind its COND -/
theorem cl_x {χ ψ1 χ2 : hf_F} {T m m2 w a k : Nat} {d : Int} {r : Int} {ψ : hf_F} (q2 : F_RideLawsModel_sentence_192_l48 m χ 1 = F_RideLawsModel_sentence_192_l48 m2 χ2 1) (q3 : SMM χ2 + 1 < (m2 : Int)) (q4 : SDN ψ1 χ2 (T + 1) w a k w (d + 1)) (ht : χ2 203 T = 23) (q6 : w ≤ 1) (q7 : a ≤ 1) (q8 : ¬ (ψ1 1 5 = 3 ∧ ψ1 1 7 = 13)) (q9 : ¬ (ψ1 1 5 = 3 ∧ ψ1 1 7 = 12))
    (e : bnd (F_Reader_takeSign_1 ψ1 41) (fun z ψ => if z = 0 then ((0 : Int), ψ) else (1, ψ)) = (r, ψ)) :
    (r = 0 ∧ SFL ψ χ m) ∨ (r = 1 ∧ ∃ (k m' : Nat) (χ' : hf_F), F_RideLawsModel_sentence_192_l48 m χ 1 = F_RideLawsModel_sentence_192_l48 m' χ' 1 ∧ SMM χ' + 1 < (m' : Int) ∧ SDN ψ χ' T 0 0 k 0 d ∧ SLW χ2 χ' T ∧ χ2 192 35 ≤ χ' 192 35) := by
  obtain ⟨m2, rfl⟩ := smm_1 q4.1.1.2 q3
  have hBT : SBT χ2 (T + 1) := Or.inr (by rw [show T + 1 - 1 = T by omega]; exact ht)
  obtain ⟨η, u1, u2, u3, u4, u5⟩ := beh_e q4 hBT q6 q7 q8 q9
  have hs2 := sg_z u1.1 41
  have c38 := q4.2.2.2.1
  have x36 := u1.2.2.2.2.1
  by_cases ts : ψ1 1 5 = 5 ∧ ψ1 1 7 = 41
  · rw [bnd_e (tks_1 ts), if_neg (show ¬ (1 : Int) = 0 by decide)] at e
    cases e
    right
    have t11 : ¬ χ2 192 11 = 0 := by
      have hx := q4.1.2.2.2.2.2
      rcases hx with ⟨x1, x2⟩ | ⟨x1, x2⟩ | ⟨x1, x2, x3⟩ | ⟨x1, x2, x3⟩ | ⟨x1, x2, x3, x4, ⟨x5, _⟩ | ⟨x5, _⟩⟩ <;> omega
    rw [if_pos ts] at hs2
    rw [bnp_e hs2, if_neg (show ¬ (1 : Int) = 0 by decide), if_pos (show ¬ η 192 36 = 0 by omega), bnv_e rfl] at u5
    obtain ⟨v1, v2, v3⟩ := sdn_cl u1 ((u2 T (by omega)).trans ht)
    refine ⟨rfl, 0, m2, _, q2.trans ?_, ?_, v1, fun j hj => (v2 j).trans (u2 j (by omega)), by omega⟩
    · rw [l48_w c38 t11, bnd_e u5, if_pos (show ¬ (1 : Int) = 0 by decide)]
    · have y36 := v1.2.2.2.2.1
      have y38 := v1.2.2.2.1
      have z36 := q4.2.2.2.2.1
      unfold SMM at q3 ⊢
      omega
  · rw [tks_0 ts] at e
    rw [if_neg ts] at hs2
    obtain ⟨ψ5, ξ5, r1, r2, r3⟩ := ref_bad u1.1 1
    rw [bnd_e r1, if_pos rfl] at e
    cases e
    left
    refine ⟨rfl, ξ5, q2.trans ?_, r3⟩
    by_cases t0 : χ2 192 11 = 0
    · rw [l48_e c38 t0, ← u4, if_neg (show ¬ η 192 36 ≤ 0 by omega), r2]
    · rw [bnp_e hs2, if_pos rfl, bnd_id, r2] at u5
      rw [l48_w c38 t0, bnd_e u5, if_neg (show ¬ ¬ (0 : Int) = 0 by decide)]
theorem lef_a {z3 : Int} {ζ : hf_F} (h : z3 < 3) : LEF z3 ζ = (1, F_RideLawsModel_code_192 (hf_up ζ 192 38 1) z3 0 0) := by
  unfold LEF
  rw [if_neg (show ¬ 3 ≤ z3 by omega)]
theorem lef_s {ζ : hf_F} : LEF 3 ζ = bnd (F_RideLawsModel_looksAt_192 (hf_up ζ 192 38 1) 3 (ζ 194 1)) (fun z ξ => (if ¬ z = 0 then (1, F_RideLawsModel_next_192 (F_RideLawsModel_code_192 ξ 3 0 (ξ 192 18))) else (0, ξ))) := by
  unfold LEF
  rw [if_pos (show (3 : Int) ≤ 3 by decide), if_neg (show ¬ (5 : Int) ≤ 3 by decide), if_neg (show ¬ ¬ (3 : Int) = 3 by decide)]
theorem lef_w {ζ : hf_F} : LEF 4 ζ = bnd (F_RideLawsModel_looksAt_192 (hf_up ζ 192 38 1) 11 (ζ 194 2)) (fun z ξ => (if ¬ z = 0 then (1, F_RideLawsModel_next_192 (F_RideLawsModel_code_192 ξ 4 0 (ξ 192 18))) else (0, ξ))) := by
  unfold LEF
  rw [if_pos (show (3 : Int) ≤ 4 by decide), if_neg (show ¬ (5 : Int) ≤ 4 by decide), if_pos (show ¬ (4 : Int) = 3 by decide)]
theorem lef_n {z3 : Int} {ζ : hf_F} (h : 5 ≤ z3) (h2 : ¬ (ζ 192 11 = 3 ∧ 60 ≤ ζ 192 14 ∧ ζ 192 14 ≤ 62)) : LEF z3 ζ = F_RideLawsModel_bad_192 (hf_up ζ 192 38 1) 1 := by
  unfold LEF
  rw [if_pos (show 3 ≤ z3 by omega), if_pos h]
  by_cases c : ζ 192 11 = 3
  · rw [if_neg (show ¬ ¬ ζ 192 11 = 3 from fun q => q c)]
    by_cases c1 : ζ 192 14 < 60
    · rw [if_pos c1]
    · rw [if_neg c1, if_neg (show ¬ ζ 192 14 ≤ 62 from fun q => h2 ⟨c, by omega, q⟩)]
  · rw [if_pos (show ¬ ζ 192 11 = 3 from c)]
theorem lef_c {z3 : Int} {ζ : hf_F} (h : 5 ≤ z3) (h2 : ζ 192 11 = 3 ∧ 60 ≤ ζ 192 14 ∧ ζ 192 14 ≤ 62) : LEF z3 ζ = if (F_RideLawsModel_next_192 (hf_up ζ 192 38 1) 192 11) = 2 then (1, F_RideLawsModel_next_192 (F_RideLawsModel_code_192 (F_RideLawsModel_next_192 (hf_up ζ 192 38 1)) z3 (ζ 192 14) (F_RideLawsModel_next_192 (hf_up ζ 192 38 1) 192 14))) else F_RideLawsModel_bad_192 (F_RideLawsModel_next_192 (hf_up ζ 192 38 1)) 1 := by
  unfold LEF
  rw [if_pos (show 3 ≤ z3 by omega), if_pos h, if_neg (show ¬ ¬ ζ 192 11 = 3 from fun q => q h2.1), if_neg (show ¬ ζ 192 14 < 60 by omega), if_pos h2.2.2]
theorem cmp_1 {φ : hf_F} {K : Int} (h : φ 1 5 = 5 ∧ 60 ≤ φ 1 7 ∧ φ 1 7 ≤ 62) : F_Sentence_readCompared_52_1 φ K = bnd (F_Reader_peekNumber_1 (F_Reader_advance_1 φ) 0 999) (fun z4 ψ4 => (if ¬ z4 = (-1 : Int) then F_Sentence_add_52 (F_Reader_advance_1 ψ4) K (φ 1 7) z4 else (0, ψ4))) := by
  unfold F_Sentence_readCompared_52_1
  simp only [bnp, bnv, bnd_id]
  rw [sgo_e, sgo_e, sgo_e]
  by_cases c0 : φ 1 7 = 60
  · rw [if_pos (show φ 1 5 = 5 ∧ φ 1 7 = 60 from ⟨h.1, c0⟩), if_pos (show ¬ (1 : Int) = 0 by decide)]
  · rw [if_neg (show ¬ (φ 1 5 = 5 ∧ φ 1 7 = 60) from fun q => c0 q.2), if_neg (show ¬ ¬ (0 : Int) = 0 by decide)]
    by_cases c1 : φ 1 7 = 61
    · rw [if_pos (show φ 1 5 = 5 ∧ φ 1 7 = 61 from ⟨h.1, c1⟩), if_pos (show ¬ (1 : Int) = 0 by decide)]
    · rw [if_neg (show ¬ (φ 1 5 = 5 ∧ φ 1 7 = 61) from fun q => c1 q.2), if_neg (show ¬ ¬ (0 : Int) = 0 by decide), if_pos (show φ 1 5 = 5 ∧ φ 1 7 = 62 from ⟨h.1, by omega⟩), if_pos (show ¬ (1 : Int) = 0 by decide)]
theorem cmp_n {φ : hf_F} {K : Int} (h : ¬ (φ 1 5 = 5 ∧ 60 ≤ φ 1 7 ∧ φ 1 7 ≤ 62)) : F_Sentence_readCompared_52_1 φ K = F_Reader_refuse_1 φ 1 := by
  unfold F_Sentence_readCompared_52_1
  simp only [bnp, bnv, bnd_id]
  rw [sgo_e, sgo_e, sgo_e, if_neg (show ¬ (φ 1 5 = 5 ∧ φ 1 7 = 60) from fun q => h ⟨q.1, by omega, by omega⟩), if_neg (show ¬ ¬ (0 : Int) = 0 by decide), if_neg (show ¬ (φ 1 5 = 5 ∧ φ 1 7 = 61) from fun q => h ⟨q.1, by omega, by omega⟩), if_neg (show ¬ ¬ (0 : Int) = 0 by decide), if_neg (show ¬ (φ 1 5 = 5 ∧ φ 1 7 = 62) from fun q => h ⟨q.1, by omega, by omega⟩), if_neg (show ¬ ¬ (0 : Int) = 0 by decide)]
theorem pnu_1 {φ : hf_F} (h : φ 1 5 = 4) (h1 : 0 ≤ φ 1 7) (h2 : φ 1 7 ≤ 999) : F_Reader_peekNumber_1 φ 0 999 = (φ 1 7, φ) := by
  unfold F_Reader_peekNumber_1
  rw [if_pos h, if_neg (show ¬ φ 1 7 < 0 by omega), if_pos h2]
theorem pnu_0 {φ : hf_F} (h : ¬ φ 1 5 = 4) : F_Reader_peekNumber_1 φ 0 999 = (-1, (F_Reader_refuse_1 φ 1).2) := by
  unfold F_Reader_peekNumber_1
  rw [if_neg h]
  rfl
