/-! what is asked: rider, now -/
theorem knb_l {φ χ : hf_F} {r : Nat} (hr : r < 6) (e : φ 21 r = χ 194 (118 + r)) (h6 : χ 194 (118 + r) ≤ 6) (hk : ∀ k : Nat, (k : Int) < χ 194 (118 + r) → φ 22 (6 * r + k) = χ 194 (124 + 6 * r + k)) :
    ∀ (n m : Nat) (b k : Int), 6 - k < n → 6 - k < m → 0 ≤ k → k ≤ 6 → F_State_knownBy_17_l4 n φ (r : Int) b k = F_RideLawsModel_knownTo_192_l4 m χ (r : Int) b k := by
  intro n
  induction n with
  | zero => intro m b k h1 h2 h3 h4; omega
  | succ n ih =>
    intro m b k h1 h2 h3 h4
    obtain ⟨m, rfl⟩ : ∃ j, m = j + 1 := ⟨m - 1, by omega⟩
    rw [F_State_knownBy_17_l4_s, F_RideLawsModel_knownTo_192_l4_s, show ((r : Int)).toNat = r by omega, show (118 + (r : Int)).toNat = 118 + r by omega, e]
    by_cases c : χ 194 (118 + r) ≤ k
    · rw [if_pos c, if_pos c]
    · rw [if_neg c, if_neg c]
      have hw : F_State_rollWord_17 φ (r : Int) k = χ 194 (((124 + (6 * (r : Int))) + k).toNat) := by
        unfold F_State_rollWord_17
        rw [show ((r : Int) * 6 + k).toNat = 6 * r + k.toNat by omega, show (124 + 6 * (r : Int) + k).toNat = 124 + 6 * r + k.toNat by omega]
        exact hk k.toNat (by omega)
      rw [bnp_e hw]
      exact ih m _ (k + 1) (by omega) (by omega) (by omega) (by omega)
theorem knb_e {φ χ : hf_F} (h : STG 17 φ (χ 194) (χ 194)) (r : Nat) (hr : r < 6) : F_State_knownBy_17 φ (r : Int) = F_RideLawsModel_knownTo_192 χ (r : Int) := by
  obtain ⟨_, x2, _, _, _, _, x3, _, x4⟩ := h.1.2.2.1 r hr
  exact knb_l hr x2 x3.2 (fun k hk => (x4 k hk).1) _ _ 0 0 (by decide) (by decide) (by decide) (by decide)
theorem knb_i {φ χ : hf_F} (h : STG 17 φ (χ 194) (χ 194)) (r : Int) (h0 : 0 ≤ r) (hr : r < 6) : F_State_knownBy_17 φ r = F_RideLawsModel_knownTo_192 χ r := by
  have := knb_e h r.toNat (by omega)
  rw [show ((r.toNat : Nat) : Int) = r by omega] at this
  exact this
theorem nxw_e {φ χ : hf_F} (h : STG 17 φ (χ 194) (χ 194)) (r : Int) (h0 : 0 ≤ r) (hr : r < 6) : F_State_nextWord_17 φ r = F_RideLawsModel_nextWord_192 χ r := by
  obtain ⟨_, x2, x23, _, _, _, x3, x5, x4⟩ := h.1.2.2.1 r.toNat (by omega)
  have x2' : φ 21 r.toNat = χ 194 (118 + r.toNat) := x2
  have x23' : φ 23 r.toNat = χ 194 (160 + r.toNat) := x23
  unfold F_State_nextWord_17 F_RideLawsModel_nextWord_192
  rw [show (118 + r).toNat = 118 + r.toNat by omega, show (160 + r).toNat = 160 + r.toNat by omega, x2', x23']
  by_cases c : χ 194 (118 + r.toNat) = 0
  · rw [if_neg (fun q => q c), if_neg (fun q => q c)]
  · rw [if_pos c, if_pos c, bnp_e rfl]
    unfold F_State_rollWord_17
    have := (x4 (χ 194 (160 + r.toNat)).toNat (by omega)).1
    rw [show (r * 6 + χ 194 (160 + r.toNat)).toNat = 6 * r.toNat + (χ 194 (160 + r.toNat)).toNat by omega, show (124 + 6 * r + χ 194 (160 + r.toNat)).toNat = 124 + 6 * r.toNat + (χ 194 (160 + r.toNat)).toNat by omega]
    exact this
theorem rider_q {φ χ ξ : hf_F} {v w s : Int} {o : Option Int} (hI : Inv χ) (h : SCR φ χ) (e1 : F_RideLaws_rider_0 φ v w = o) (e2 : F_RideLawsModel_rider_192 χ v w = (s, ξ)) : (o = none ∧ ξ 192 0 = 1) ∨ (o = some s ∧ ξ 192 0 = 0) := by
  have h0 := scr_0 (cb_i hI) h
  have hbb := cb_i hI
  unfold CB at hbb
  have k3 : φ 6 3 = χ 194 3 := h.1.1.2.2.2.1
  have t1 : F_RideLawsModel_throwsIf_192 χ 1 = (1, hf_up χ 192 0 1) := if_neg (by decide)
  have t0 : F_RideLawsModel_throwsIf_192 χ 0 = (0, hf_up χ 192 0 0) := if_pos rfl
  unfold F_RideLaws_rider_0 at e1
  unfold F_RideLawsModel_rider_192 at e2
  rw [bnp_e (has_e3 φ v), k3] at e1
  rw [bnp_e (isrider_e _ v)] at e2
  by_cases c : 0 ≤ v ∧ v < χ 194 3
  · rw [if_pos c, if_neg (by decide)] at e1
    rw [if_pos (show 0 ≤ v ∧ v ≤ χ 194 3 - 1 by omega), if_neg (by decide), bnp_e (isin_e _ w _ _)] at e2
    by_cases c1 : 0 ≤ w ∧ w ≤ 4
    · rw [if_neg (show ¬ w < 0 by omega), if_pos c1.2] at e1
      rw [if_pos c1, if_pos (by decide), bnd_e t0, if_pos rfl] at e2
      right
      obtain ⟨x1, x2, x23, x24, _, _, x3, _, x4⟩ := h0.2.1.1.2.2.1 v.toNat (by omega)
      by_cases w0 : w = 0
      · rw [if_pos w0] at e1 e2
        cases e2
        refine ⟨?_, hf_up_eq⟩
        rw [← e1, show (112 + v).toNat = 112 + v.toNat by omega]
        exact congrArg some x1
      · rw [if_neg w0] at e1 e2
        by_cases w1 : w = 1
        · rw [if_pos w1] at e1 e2
          cases e2
          refine ⟨?_, hf_up_eq⟩
          rw [← e1, show (118 + v).toNat = 118 + v.toNat by omega]
          exact congrArg some x2
        · rw [if_neg w1] at e1 e2
          by_cases w2 : w = 2
          · rw [if_pos w2, bnp_e (nxw_e h0.2.1 v (by omega) (by omega))] at e1
            rw [if_pos w2, bnp_e rfl] at e2
            cases e2
            exact ⟨e1.symm, hf_up_eq⟩
          · rw [if_neg w2] at e1 e2
            by_cases w3 : w = 3
            · rw [if_pos w3] at e1 e2
              cases e2
              refine ⟨?_, hf_up_eq⟩
              rw [← e1, show (166 + v).toNat = 166 + v.toNat by omega]
              exact congrArg some x24
            · rw [if_neg w3, bnp_e (knb_i h0.2.1 v (by omega) (by omega))] at e1
              rw [if_neg w3, bnp_e rfl] at e2
              cases e2
              exact ⟨e1.symm, hf_up_eq⟩
    · left
      rw [if_neg c1, if_neg (fun q => q rfl), bnd_e t1, if_neg (by decide)] at e2
      cases e2
      refine ⟨?_, hf_up_eq⟩
      by_cases c2 : w < 0
      · rw [if_pos c2] at e1; exact e1.symm
      · rw [if_neg c2, if_neg (show ¬ w ≤ 4 by omega)] at e1; exact e1.symm
  · left
    rw [if_neg c, if_pos rfl] at e1
    rw [if_neg (show ¬ (0 ≤ v ∧ v ≤ χ 194 3 - 1) by omega), if_pos rfl, bnd_e t1, if_neg (by decide)] at e2
    cases e2
    exact ⟨e1.symm, hf_up_eq⟩
theorem sia_6 {χ : hf_F} (h3 : χ 194 3 ≤ 6) (hz : ∀ r : Nat, r < 6 → χ 194 3 ≤ (r : Int) → χ 194 (166 + r) = 0) (n : Nat) (a : Int) : F_RideLawsModel_saidInAll_192_l4 (n + 1) χ a 6 = a := by
  rw [show n + 1 = (n + 0) + 1 from rfl, F_RideLawsModel_saidInAll_192_l4_s]
  rw [if_pos h3]
theorem sia_5 {χ : hf_F} (h3 : χ 194 3 ≤ 6) (hz : ∀ r : Nat, r < 6 → χ 194 3 ≤ (r : Int) → χ 194 (166 + r) = 0) (n : Nat) (a : Int) : F_RideLawsModel_saidInAll_192_l4 (n + 2) χ a 5 = a + χ 194 171 := by
  rw [show n + 2 = (n + 1) + 1 from rfl, F_RideLawsModel_saidInAll_192_l4_s]
  by_cases c : χ 194 3 ≤ 5
  · rw [if_pos c]
    have z5 : χ 194 171 = 0 := hz 5 (by decide) (by omega)
    omega
  · rw [if_neg c, show (166 + (5 : Int)).toNat = 171 from rfl, show (5 : Int) + 1 = 6 from rfl, sia_6 h3 hz]
theorem sia_4 {χ : hf_F} (h3 : χ 194 3 ≤ 6) (hz : ∀ r : Nat, r < 6 → χ 194 3 ≤ (r : Int) → χ 194 (166 + r) = 0) (n : Nat) (a : Int) : F_RideLawsModel_saidInAll_192_l4 (n + 3) χ a 4 = a + χ 194 170 + χ 194 171 := by
  rw [show n + 3 = (n + 2) + 1 from rfl, F_RideLawsModel_saidInAll_192_l4_s]
  by_cases c : χ 194 3 ≤ 4
  · rw [if_pos c]
    have z4 : χ 194 170 = 0 := hz 4 (by decide) (by omega)
    have z5 : χ 194 171 = 0 := hz 5 (by decide) (by omega)
    omega
  · rw [if_neg c, show (166 + (4 : Int)).toNat = 170 from rfl, show (4 : Int) + 1 = 5 from rfl, sia_5 h3 hz]
theorem sia_3 {χ : hf_F} (h3 : χ 194 3 ≤ 6) (hz : ∀ r : Nat, r < 6 → χ 194 3 ≤ (r : Int) → χ 194 (166 + r) = 0) (n : Nat) (a : Int) : F_RideLawsModel_saidInAll_192_l4 (n + 4) χ a 3 = a + χ 194 169 + χ 194 170 + χ 194 171 := by
  rw [show n + 4 = (n + 3) + 1 from rfl, F_RideLawsModel_saidInAll_192_l4_s]
  by_cases c : χ 194 3 ≤ 3
  · rw [if_pos c]
    have z3 : χ 194 169 = 0 := hz 3 (by decide) (by omega)
    have z4 : χ 194 170 = 0 := hz 4 (by decide) (by omega)
    have z5 : χ 194 171 = 0 := hz 5 (by decide) (by omega)
    omega
  · rw [if_neg c, show (166 + (3 : Int)).toNat = 169 from rfl, show (3 : Int) + 1 = 4 from rfl, sia_4 h3 hz]
theorem sia_2 {χ : hf_F} (h3 : χ 194 3 ≤ 6) (hz : ∀ r : Nat, r < 6 → χ 194 3 ≤ (r : Int) → χ 194 (166 + r) = 0) (n : Nat) (a : Int) : F_RideLawsModel_saidInAll_192_l4 (n + 5) χ a 2 = a + χ 194 168 + χ 194 169 + χ 194 170 + χ 194 171 := by
  rw [show n + 5 = (n + 4) + 1 from rfl, F_RideLawsModel_saidInAll_192_l4_s]
  by_cases c : χ 194 3 ≤ 2
  · rw [if_pos c]
    have z2 : χ 194 168 = 0 := hz 2 (by decide) (by omega)
    have z3 : χ 194 169 = 0 := hz 3 (by decide) (by omega)
    have z4 : χ 194 170 = 0 := hz 4 (by decide) (by omega)
    have z5 : χ 194 171 = 0 := hz 5 (by decide) (by omega)
    omega
  · rw [if_neg c, show (166 + (2 : Int)).toNat = 168 from rfl, show (2 : Int) + 1 = 3 from rfl, sia_3 h3 hz]
theorem sia_1 {χ : hf_F} (h3 : χ 194 3 ≤ 6) (hz : ∀ r : Nat, r < 6 → χ 194 3 ≤ (r : Int) → χ 194 (166 + r) = 0) (n : Nat) (a : Int) : F_RideLawsModel_saidInAll_192_l4 (n + 6) χ a 1 = a + χ 194 167 + χ 194 168 + χ 194 169 + χ 194 170 + χ 194 171 := by
  rw [show n + 6 = (n + 5) + 1 from rfl, F_RideLawsModel_saidInAll_192_l4_s]
  by_cases c : χ 194 3 ≤ 1
  · rw [if_pos c]
    have z1 : χ 194 167 = 0 := hz 1 (by decide) (by omega)
    have z2 : χ 194 168 = 0 := hz 2 (by decide) (by omega)
    have z3 : χ 194 169 = 0 := hz 3 (by decide) (by omega)
    have z4 : χ 194 170 = 0 := hz 4 (by decide) (by omega)
    have z5 : χ 194 171 = 0 := hz 5 (by decide) (by omega)
    omega
  · rw [if_neg c, show (166 + (1 : Int)).toNat = 167 from rfl, show (1 : Int) + 1 = 2 from rfl, sia_2 h3 hz]
theorem sia_0 {χ : hf_F} (h3 : χ 194 3 ≤ 6) (hz : ∀ r : Nat, r < 6 → χ 194 3 ≤ (r : Int) → χ 194 (166 + r) = 0) (n : Nat) (a : Int) : F_RideLawsModel_saidInAll_192_l4 (n + 7) χ a 0 = a + χ 194 166 + χ 194 167 + χ 194 168 + χ 194 169 + χ 194 170 + χ 194 171 := by
  rw [show n + 7 = (n + 6) + 1 from rfl, F_RideLawsModel_saidInAll_192_l4_s]
  by_cases c : χ 194 3 ≤ 0
  · rw [if_pos c]
    have z0 : χ 194 166 = 0 := hz 0 (by decide) (by omega)
    have z1 : χ 194 167 = 0 := hz 1 (by decide) (by omega)
    have z2 : χ 194 168 = 0 := hz 2 (by decide) (by omega)
    have z3 : χ 194 169 = 0 := hz 3 (by decide) (by omega)
    have z4 : χ 194 170 = 0 := hz 4 (by decide) (by omega)
    have z5 : χ 194 171 = 0 := hz 5 (by decide) (by omega)
    omega
  · rw [if_neg c, show (166 + (0 : Int)).toNat = 166 from rfl, show (0 : Int) + 1 = 1 from rfl, sia_1 h3 hz]
theorem sia_e {φ χ : hf_F} (hI : Inv χ) (h : STG 17 φ (χ 194) (χ 194)) : F_RideLawsModel_saidInAll_192 χ = φ 17 4 := by
  have hbb := cb_i hI
  unfold CB at hbb
  have e := sia_0 (χ := χ) (by omega) (fun r hr q => ((h.1.2.2.1 r hr).2.2.2.2.1 q).2.2) 0 0
  have e4 : φ 17 4 = χ 194 166 + χ 194 167 + χ 194 168 + χ 194 169 + χ 194 170 + χ 194 171 := h.1.1.2.2.2.2.2.1
  have e5 : F_RideLawsModel_saidInAll_192 χ = F_RideLawsModel_saidInAll_192_l4 (0 + 7) χ 0 0 := rfl
  rw [e5, e, e4]
  omega
noncomputable def NOW (φ χ : hf_F) (w b t : Int) : Int := if w = 0 then χ 194 99 else if w = 1 then χ 194 100 - 1 else if w = 2 then χ 194 101 - 1 else if w = 3 then χ 194 102 else if w = 4 then F_RideLawsModel_saidInAll_192 χ else if w = 5 then b else if w = 6 then t else if w = 7 then χ 194 103 else -1
theorem now_f (χ : hf_F) (φ : hf_F) (w b t : Int) : (if w = 0 then (χ 194 99, χ) else (if w = 1 then ((χ 194 100) - 1, χ) else (if w = 2 then ((χ 194 101) - 1, χ) else (if w = 3 then (χ 194 102, χ) else (if w = 4 then (bnp (F_RideLawsModel_saidInAll_192 χ) (fun z7 => (z7, χ))) else (if w = 5 then (b, χ) else (if w = 6 then (t, χ) else (if w = 7 then (χ 194 103, χ) else ((-1 : Int), χ))))))))) = (NOW φ χ w b t, χ) := by
  unfold NOW bnp
  repeat' split
  all_goals first | rfl | (exfalso; omega)
theorem now_l {φ χ : hf_F} (e61 : φ 6 1 = χ 194 1) (h1 : χ 194 1 ≤ 8) (hat : ∀ i : Nat, (i : Int) < χ 194 1 → φ 18 i = χ 194 (104 + i) ∧ hi (χ 194 (104 + i))) (hron : ∀ i : Nat, i < 8 → F_RideLawsModel_riderOn_192 χ (i : Int) = φ 19 i ∧ -1 ≤ φ 19 i) (w : Int) :
    ∀ (n n1 n2 : Nat) (b t k : Int), 8 - k < n → 8 - k < n1 → 8 - k < n2 → 0 ≤ k → k ≤ 8 → hi b → hi t → F_RideLawsModel_now_192_l12 n χ w b t k = (NOW φ χ w (F_RideLaws_seatsAtBox_0_l4 n1 φ b k) (F_RideLaws_seatsTaken_0_l4 n2 φ t k), χ) := by
  intro n
  induction n with
  | zero => intro n1 n2 b t k a1 a2 a3 a4 a5; omega
  | succ n ih =>
    intro n1 n2 b t k a1 a2 a3 a4 a5 hb ht
    obtain ⟨n1, rfl⟩ : ∃ j, n1 = j + 1 := ⟨n1 - 1, by omega⟩
    obtain ⟨n2, rfl⟩ : ∃ j, n2 = j + 1 := ⟨n2 - 1, by omega⟩
    rw [F_RideLawsModel_now_192_l12_s, F_RideLaws_seatsAtBox_0_l4_s, F_RideLaws_seatsTaken_0_l4_s, e61]
    by_cases c : χ 194 1 ≤ k
    · rw [if_pos c, if_pos c, if_pos c]
      exact now_f χ φ w b t
    · rw [if_neg c, if_neg c, if_neg c, show (104 + k).toNat = 104 + k.toNat by omega]
      obtain ⟨q1, q2⟩ := hat k.toNat (by omega)
      obtain ⟨q3, q4⟩ := hron k.toNat (by omega)
      rw [show ((k.toNat : Nat) : Int) = k by omega] at q3
      rw [q1, show jm_n (χ 194 (104 + k.toNat)) = χ 194 (104 + k.toNat) from hi_n q2, bnp_e q3, bnp_e q3, or0 hb, or0 ht]
      have hs : hi (hb_or b (hb_shl 1 k)) := hr_or _ _
      have hs2 : hi (hb_or t (hb_shl 1 k)) := hr_or _ _
      by_cases c1 : χ 194 (104 + k.toNat) = 0
      · rw [if_neg (show ¬ ¬ χ 194 (104 + k.toNat) = 0 from fun q => q c1), if_neg (show ¬ ¬ χ 194 (104 + k.toNat) = 0 from fun q => q c1)]
        by_cases c2 : φ 19 k.toNat = -1
        · rw [if_pos (show φ 19 k.toNat < 0 by omega), if_pos c2]
          exact ih n1 n2 _ _ (k + 1) (by omega) (by omega) (by omega) (by omega) (by omega) hs ht
        · rw [if_neg (show ¬ φ 19 k.toNat < 0 by omega), if_neg c2]
          exact ih n1 n2 _ _ (k + 1) (by omega) (by omega) (by omega) (by omega) (by omega) hs hs2
      · rw [if_pos c1, if_pos c1]
        by_cases c2 : φ 19 k.toNat = -1
        · rw [if_pos (show φ 19 k.toNat < 0 by omega), if_pos c2]
          exact ih n1 n2 _ _ (k + 1) (by omega) (by omega) (by omega) (by omega) (by omega) hb ht
        · rw [if_neg (show ¬ φ 19 k.toNat < 0 by omega), if_neg c2]
          exact ih n1 n2 _ _ (k + 1) (by omega) (by omega) (by omega) (by omega) (by omega) hb hs2
theorem now_q {φ χ ξ : hf_F} {w r s : Int} (hI : Inv χ) (h : SCR φ χ) (e1 : F_RideLaws_now_0 φ w = r) (e2 : F_RideLawsModel_now_192 χ w = (s, ξ)) : r = s := by
  have h0 := scr_0 (cb_i hI) h
  have hI0 := inv_0 hI
  unfold F_RideLawsModel_now_192 at e2
  generalize hf_up χ 192 0 0 = χ0 at e2 h0 hI0
  have hbb := cb_i hI0
  unfold CB at hbb
  have hrb := rb_i hI0
  have hl := now_l (φ := φ) (χ := χ0) h0.1.1.2.1 (by omega) (fun i hi2 => by
      obtain ⟨b1, b2, b3⟩ := h0.2.1.2 i hi2
      obtain ⟨_, g, g1, g2, _, _, _⟩ := h0.1.2.2.2.1 i hi2
      have hg := hrb g (by omega)
      rw [g2, show ((g : Int)).toNat = g by omega] at b3
      exact ⟨b1, by unfold hi; omega⟩) (fun i hi2 => ⟨ron_17 (by omega) h0.2.1.1.2.1 (rol_z h0.2.1) i hi2, by
      rcases h0.2.1.1.2.1 i hi2 with ⟨q, _⟩ | ⟨g, _, q, _⟩
      · have q : φ 19 i = -1 := q
        omega
      · have q : φ 19 i = (g : Int) := q
        omega⟩) w ((8 - 0 : Int).toNat + 1) ((8 - 0 : Int).toNat + 1) ((8 - 0 : Int).toNat + 1) 0 0 0 (by decide) (by decide) (by decide) (by decide) (by decide) (by unfold hi; decide) (by unfold hi; decide)
  rw [e2] at hl
  have hs := congrArg Prod.fst hl
  dsimp only at hs
  rw [hs, ← e1]
  obtain ⟨s0, s1, s2, s3, s5, _⟩ := h0.2.1.1.1
  have s4 := sia_e hI0 h0.2.1
  unfold F_RideLaws_now_0 NOW
  rw [s0, s1, s2, s3, s5, ← s4, bnp_e rfl, bnp_e rfl]
  rfl
