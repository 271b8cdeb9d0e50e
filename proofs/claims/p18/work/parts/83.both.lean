/-! both -/
theorem md_pr2 {a v n p i : Int} (hn : 1 ≤ n) (ha : 0 ≤ a) (hv : 0 ≤ v) (hp : 0 ≤ p) (hi2 : n * p ≤ i) : (a + i * v).tmod n = (a + (i - n * p) * v).tmod n := by
  have h0 : 0 ≤ n * p := Int.mul_nonneg (by omega) hp
  have h1 : 0 ≤ i * v := Int.mul_nonneg (by omega) hv
  have h2 : 0 ≤ (i - n * p) * v := Int.mul_nonneg (by omega) hv
  rw [Int.tmod_eq_emod_of_nonneg (by omega), Int.tmod_eq_emod_of_nonneg (by omega)]
  have e : i * v = (i - n * p) * v + n * (p * v) := by
    rw [Int.sub_mul, Int.mul_assoc n p v]
    omega
  rw [e, ← Int.add_assoc]
  exact Int.add_mul_emod_self_left _ _ _
theorem stp_on {φ : hf_F} {q : Nat} {n v a i : Int} (hn : 1 ≤ n) (hn3 : n ≤ 30) (ha : 0 ≤ a) (hv : 0 ≤ v ∧ v ≤ 9) (h0 : 0 ≤ i) (f1 : φ 12 q = n) (f2 : φ 11 q = v.tmod n) : F_Plan_stepOn_5 φ (q : Int) ((a + i * v).tmod n) = (a + (i + 1) * v).tmod n := by
  have hiv : 0 ≤ i * v := Int.mul_nonneg h0 hv.1
  have hb1 : 0 ≤ (a + i * v).tmod n := Int.tmod_nonneg _ (by omega)
  have hb2 : (a + i * v).tmod n < n := Int.tmod_lt_of_pos _ (by omega)
  unfold F_Plan_stepOn_5
  obtain ⟨s1, s2, s3, s4, s5⟩ := step_e (n := n) (v := v) (a := (a + i * v).tmod n) hn hn3 hv.1 hv.2 hb1 hb2
  rw [show ((q : Int)).toNat = q by omega, f1, f2, show jm_n ((a + i * v).tmod n + v.tmod n) = (a + i * v).tmod n + v.tmod n from hi_n (by unfold hi; omega), s1]
  exact md_stp hn ha hv.1 h0
/-- the place of a seat behind j ticks -/
noncomputable def PLJ (χ : hf_F) (q : Int) (a v n : Int) : Prop := ∀ j : Int, 0 ≤ j → j ≤ 900 → F_RideLawsModel_stepIn_192 χ q j = (a + j * v).tmod n
noncomputable def TGT (a v n b w p i : Int) : Prop := (a + i * v).tmod n = 0 ∧ (b + i * w).tmod p = 0
theorem tmz_b {a v n i : Int} (hn : 1 ≤ n) (hn3 : n ≤ 30) (ha : 0 ≤ a) (hv : 0 ≤ v) (h0 : 0 ≤ i) : jm_n ((a + i * v).tmod n) = (a + i * v).tmod n := by
  have hiv : 0 ≤ i * v := Int.mul_nonneg h0 hv
  have hb1 : 0 ≤ (a + i * v).tmod n := Int.tmod_nonneg _ (by omega)
  have hb2 : (a + i * v).tmod n < n := Int.tmod_lt_of_pos _ (by omega)
  exact hi_n (by unfold hi; omega)
theorem bth_s {χ : hf_F} {q t a v n b w p : Int} (hn : 1 ≤ n) (hn3 : n ≤ 30) (ha : 0 ≤ a) (hv : 0 ≤ v) (hp : 1 ≤ p) (hp3 : p ≤ 30) (hb : 0 ≤ b) (hw : 0 ≤ w) (h1 : PLJ χ q a v n) (h2 : PLJ χ t b w p) {i : Int} (h0 : 0 ≤ i) (h9 : i < 900) (m : Nat) :
    F_RideLawsModel_both_192_l30 (m + 1) χ q t i = if (a + i * v).tmod n = 0 ∧ (b + i * w).tmod p = 0 then (i, χ) else F_RideLawsModel_both_192_l30 m χ q t (i + 1) := by
  rw [F_RideLawsModel_both_192_l30_s, if_neg (show ¬ 900 ≤ i by omega), bnp_e (h1 i h0 (by omega)), tmz_b hn hn3 ha hv h0, bnp_e (h2 i h0 (by omega)), tmz_b hp hp3 hb hw h0]
  by_cases c : (a + i * v).tmod n = 0
  · rw [if_neg (show ¬ ¬ (a + i * v).tmod n = 0 from fun q => q c)]
    by_cases c2 : (b + i * w).tmod p = 0
    · rw [if_neg (show ¬ ¬ (b + i * w).tmod p = 0 from fun q => q c2), if_pos ⟨c, c2⟩]
    · rw [if_pos (show ¬ (b + i * w).tmod p = 0 from c2), if_neg (fun q => c2 q.2)]
  · rw [if_pos (show ¬ (a + i * v).tmod n = 0 from c), if_neg (fun q => c q.1)]
theorem bth_n {χ : hf_F} {q t a v n b w p : Int} (hn : 1 ≤ n) (hn3 : n ≤ 30) (ha : 0 ≤ a) (hv : 0 ≤ v) (hp : 1 ≤ p) (hp3 : p ≤ 30) (hb : 0 ≤ b) (hw : 0 ≤ w) (h1 : PLJ χ q a v n) (h2 : PLJ χ t b w p) :
    ∀ (m : Nat) (i : Int), 900 - i < m → n * p ≤ i → i ≤ 900 → (∀ j : Int, 0 ≤ j → j < i → ¬ TGT a v n b w p j) → F_RideLawsModel_both_192_l30 m χ q t i = (-1, χ) := by
  have hnp : 1 ≤ n * p := by
    have := Int.mul_le_mul hn hp (by decide) (by omega : (0 : Int) ≤ n)
    omega
  intro m
  induction m with
  | zero => intro i g1 g2 g3; omega
  | succ m ih =>
    intro i g1 g2 g3 g4
    by_cases c : 900 ≤ i
    · rw [F_RideLawsModel_both_192_l30_s, if_pos c]
    · rw [bth_s hn hn3 ha hv hp hp3 hb hw h1 h2 (by omega) (by omega) m]
      have hz : ¬ TGT a v n b w p i := by
        have h := g4 (i - n * p) (by omega) (by omega)
        unfold TGT at h ⊢
        rw [md_pr2 hn ha hv (by omega) g2, md_pr2 (p := n) hp hb hw (by omega) (by rw [Int.mul_comm]; exact g2), Int.mul_comm p n]
        exact h
      rw [if_neg (show ¬ ((a + i * v).tmod n = 0 ∧ (b + i * w).tmod p = 0) from hz)]
      refine ih (i + 1) (by omega) (by omega) (by omega) (fun j j1 j2 => ?_)
      by_cases cj : j = i
      · rw [cj]; exact hz
      · exact g4 j j1 (by omega)
theorem bth_l {φ χ : hf_F} {q t : Nat} {a v n b w p : Int} (hn : 1 ≤ n) (hn3 : n ≤ 30) (ha : 0 ≤ a) (hv : 0 ≤ v ∧ v ≤ 9) (hp : 1 ≤ p) (hp3 : p ≤ 30) (hb : 0 ≤ b) (hw : 0 ≤ w ∧ w ≤ 9) (f1 : φ 12 q = n) (f2 : φ 11 q = v.tmod n) (f3 : φ 12 t = p) (f4 : φ 11 t = w.tmod p)
    (h1 : PLJ χ (q : Int) a v n) (h2 : PLJ χ (t : Int) b w p) :
    ∀ (k m : Nat) (i : Int), 900 - i < k → 900 - i < m → 0 ≤ i → i ≤ n * p → (∀ j : Int, 0 ≤ j → j < i → ¬ TGT a v n b w p j) →
      F_RideLawsModel_both_192_l30 m χ (q : Int) (t : Int) i = (F_Outlook_ticksToMeet_187_l45 k φ (q : Int) (t : Int) ((a + i * v).tmod n) ((b + i * w).tmod p) (n * p) i, χ) := by
  have hnp : n * p ≤ 30 * 30 := Int.mul_le_mul hn3 hp3 (by omega) (by decide)
  intro k
  induction k with
  | zero => intro m i g1 g2 g3 g4; omega
  | succ k ih =>
    intro m i g1 g2 g3 g4 g5
    rw [F_Outlook_ticksToMeet_187_l45_s]
    by_cases c : n * p ≤ i
    · rw [if_pos c]
      exact bth_n hn hn3 ha hv.1 hp hp3 hb hw.1 h1 h2 m i g2 c (by omega) g5
    · obtain ⟨m, rfl⟩ : ∃ j, m = j + 1 := ⟨m - 1, by omega⟩
      rw [if_neg c, bth_s hn hn3 ha hv.1 hp hp3 hb hw.1 h1 h2 g3 (by omega) m, tmz_b hn hn3 ha hv.1 g3, tmz_b hp hp3 hb hw.1 g3, bnp_e (stp_on hn hn3 ha hv g3 f1 f2), bnp_e (stp_on hp hp3 hb hw g3 f3 f4)]
      by_cases c2 : TGT a v n b w p i
      · rw [if_pos (show (a + i * v).tmod n = 0 ∧ (b + i * w).tmod p = 0 from c2), if_neg (show ¬ ¬ (a + i * v).tmod n = 0 from fun q => q c2.1), if_neg (show ¬ ¬ (b + i * w).tmod p = 0 from fun q => q c2.2)]
      · have hr := ih m (i + 1) (by omega) (by omega) (by omega) (by omega) (fun j j1 j2 => by
          by_cases cj : j = i
          · rw [cj]; exact c2
          · exact g5 j j1 (by omega))
        rw [if_neg (show ¬ ((a + i * v).tmod n = 0 ∧ (b + i * w).tmod p = 0) from c2), hr]
        by_cases c3 : (a + i * v).tmod n = 0
        · rw [if_neg (show ¬ ¬ (a + i * v).tmod n = 0 from fun q => q c3), if_pos (show ¬ (b + i * w).tmod p = 0 from fun q => c2 ⟨c3, q⟩)]
        · rw [if_pos (show ¬ (a + i * v).tmod n = 0 from c3)]
theorem both_q {φ χ ξ : hf_F} {v u r s : Int} (hI : Inv χ) (h : SCR φ χ) (e1 : F_RideLaws_both_0 φ v u = r) (e2 : F_RideLawsModel_both_192 χ v u = (s, ξ)) : r = s := by
  have h0 := scr_0 (cb_i hI) h
  have hI0 := inv_0 hI
  unfold F_RideLaws_both_0 at e1
  unfold F_RideLawsModel_both_192 at e2
  generalize hf_up χ 192 0 0 = χ0 at e2 h0 hI0
  have hbb := cb_i hI0
  unfold CB at hbb
  have k1 : φ 6 1 = χ0 194 1 := h0.1.1.2.1
  rw [bnp_e (has_e1 φ v), k1] at e1
  rw [bnp_e (isseat_e _ v)] at e2
  by_cases c : 0 ≤ v ∧ v < χ0 194 1
  · rw [if_pos c, if_neg (by decide), bnp_e (has_e1 φ u), k1] at e1
    rw [if_pos (show 0 ≤ v ∧ v ≤ χ0 194 1 - 1 by omega), if_neg (by decide), bnp_e (isseat_e _ u)] at e2
    by_cases c2 : 0 ≤ u ∧ u < χ0 194 1
    · rw [if_pos c2, if_neg (by decide)] at e1
      rw [if_pos (show 0 ≤ u ∧ u ≤ χ0 194 1 - 1 by omega), if_neg (by decide)] at e2
      by_cases c3 : v = u
      · rw [if_neg (show ¬ ¬ v = u from fun q => q c3)] at e1 e2
        cases e2
        exact e1.symm
      · rw [if_pos (show ¬ v = u from c3), bnp_e rfl] at e1
        rw [if_pos (show ¬ v = u from c3)] at e2
        obtain ⟨n, w, a, n1, n2, n3, n4, n5, n6, n7⟩ := stepin_e (q := v.toNat) (i := 0) hI0 h0 (by omega) (by decide) (by decide)
        obtain ⟨p, x, b, p1, p2, p3, p4, p5, p6, p7⟩ := stepin_e (q := u.toNat) (i := 0) hI0 h0 (by omega) (by decide) (by decide)
        have hl := bth_l (φ := φ) (χ := χ0) n1.1 n1.2 n3.1 n2 p1.1 p1.2 p3.1 p2 n4 n5 p4 p5 n7 p7 ((900 - 0 : Int).toNat + 1) ((900 - 0 : Int).toNat + 1) 0 (by decide) (by decide) (by decide) (Int.mul_nonneg (by omega) (by omega)) (fun j j1 j2 => by omega)
        rw [show ((v.toNat : Nat) : Int) = v by omega, show ((u.toNat : Nat) : Int) = u by omega, e2, show a + 0 * w = a by omega, show b + 0 * x = b by omega, Int.tmod_eq_of_lt n3.1 n3.2, Int.tmod_eq_of_lt p3.1 p3.2] at hl
        have hs := congrArg Prod.fst hl
        dsimp only at hs
        rw [hs, ← e1]
        unfold F_Outlook_ticksToMeet_187
        rw [n4, p4, n6, p6]
    · rw [if_neg c2, if_pos rfl] at e1
      rw [if_neg (show ¬ (0 ≤ u ∧ u ≤ χ0 194 1 - 1) by omega), if_pos rfl] at e2
      cases e2
      exact e1.symm
  · rw [if_neg c, if_pos rfl] at e1
    rw [if_neg (show ¬ (0 ≤ v ∧ v ≤ χ0 194 1 - 1) by omega), if_pos rfl] at e2
    cases e2
    exact e1.symm
