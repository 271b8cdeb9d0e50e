/-! the law: its script, its tried calls -/
section
variable {sc : List Int} {d m pc : Nat} {L : jm_L} {S : List jm_V} {φ : hf_F} {x : Nat} {Q : Option jm_V → hf_F → Nat → Prop}
theorem hw_scl {a0 : Int} {e : Nat} (hc : jm_cq m pc 22 a0 2 e = true) (h : hw sc d m (pc + 1) L ((0, (sc.length : Int)) :: S) φ x Q) : hw sc d m pc L ((4, 2) :: S) φ x Q := by
  refine hw_stp hc (by decide) (by decide) ?_ h
  show (if ((4, 2) : jm_V) = (4, 2) then some (pc + 1, L, (0, (sc.length : Int)) :: S, hf_h φ x) else none) = _
  exact if_pos rfl
theorem hw_sce {a0 j : Int} {e : Nat} (hc : jm_cq m pc 22 a0 1 e = true) (h0 : 0 ≤ j) (h1 : j < sc.length) (hL : sc.length ≤ 3072) (h : hw sc d m (pc + 1) L ((0, sc.getD j.toNat 0) :: S) φ x Q) : hw sc d m pc L ((0, j) :: (4, 2) :: S) φ x Q := by
  refine hw_stp hc (by decide) (by decide) ?_ h
  show (if ((0, j) : jm_V).1 = 0 ∧ ((4, 2) : jm_V) = (4, 2) then (jm_ix j sc.length).map (fun n => (pc + 1, L, (0, sc.getD n 0) :: S, hf_h φ x)) else none) = _
  rw [if_pos ⟨rfl, rfl⟩, hf_ix h0 h1 (by omega)]
  rfl
theorem hw_callw {b e : Nat} (hc : jm_cq m pc 32 (-1) b e = true) (hcc : e ≤ S.length ∧ jm_cat (S.drop e) ≤ 8 ∧ jm_cat (S.take e) ≤ (g_m b).2.2.1)
    (h : hw sc d b 0 (jm_args 0 (S.take e).reverse) [] φ x (fun r ψ y => ¬ r = some (9, 0) ∧ hw sc (d + 1) m (pc + 3) L (r.toList ++ S.drop e) ψ y Q)) : hw sc (d + 1) m pc L S φ x Q := by
  obtain ⟨r, ψ, y, h1, h2, r2, ψ2, y2, h3, h4⟩ := h
  refine ⟨r2, ψ2, y2, jm_R_call (jm_cqe hc) (Or.inr (Or.inr rfl)) ⟨hcc.1, hcc.2.1, hcc.2.2, ?_⟩ h1 h2 h3, h4⟩
  rw [if_neg (show ¬ (32 : Nat) = 31 by decide)]
  cases (S.take e).reverse with
  | nil => rfl
  | cons v w => rfl
theorem hr_callw {b e nl : Nat} {As R : List jm_V} (ck : (decide (g_code m pc = some (32, -1, b, e)) && decide ((g_m b).2.2.1 = nl)) = true) (hS : S = As.reverse ++ R) (he : As.length = e) (h8 : jm_cat R ≤ 8) (hl : jm_cat As ≤ nl)
    (h : hw sc d b 0 (jm_args 0 As) [] φ x (fun r ψ y => ¬ r = some (9, 0) ∧ hw sc (d + 1) m (pc + 3) L (r.toList ++ R) ψ y Q)) : hw sc (d + 1) m pc L S φ x Q := by
  simp only [Bool.and_eq_true, decide_eq_true_eq] at ck
  obtain ⟨hc, c5⟩ := ck
  have ht : S.take e = As.reverse := by rw [hS, ← he, List.take_append, List.length_reverse, Nat.sub_self, List.take_of_length_le (by rw [List.length_reverse]; omega)]; simp
  have hd : S.drop e = R := by rw [hS, ← he, List.drop_append, List.length_reverse, Nat.sub_self, List.drop_of_length_le (by rw [List.length_reverse]; omega)]; rfl
  have hrv : (S.take e).reverse = As := by rw [ht, List.reverse_reverse]
  refine hw_callw (jm_cqm hc) ⟨?_, by rw [hd]; exact h8, ?_⟩ ?_
  · rw [hS, List.length_append, List.length_reverse]; omega
  · have hq : jm_cat (S.take e) = jm_cat (S.take e).reverse := by unfold jm_cat; rw [List.map_reverse, List.sum_reverse]
    rw [hq, hrv, c5]
    exact hl
  · rw [hrv, hd]
    exact h
noncomputable def ck_ct (m pc : Nat) (a0 : Int) (b e o nl q : Nat) : Bool := decide (g_code m pc = some (31, a0, b, e)) && (decide ((g_lnk m pc).getD 6 0 = q) && (decide (o < 209) && (decide ((hf_k o : Int) = 10 + ((g_lnk m pc).getD 5 0 : Int)) && decide ((g_m b).2.2.1 = nl))))
/-- a tried call -/
theorem hr_try {a0 : Int} {b e nl q : Nat} {z : Int} {As R : List jm_V} (o : Nat) (hz : z = (o : Int)) (ck : ck_ct m pc a0 b e o nl q = true) (hS : S = As.reverse ++ (2, z) :: R) (he : As.length + 1 = e) (h8 : jm_cat R ≤ 8) (hl : jm_cat As + 1 ≤ nl)
    (h : hw sc d b 0 (jm_args 0 ((2, z) :: As)) [] φ x (fun r ψ y => (r = some (9, 0) → hw sc (d + 1) m a0.toNat (jm_drop L q) [] ψ y Q) ∧ (¬ r = some (9, 0) → hw sc (d + 1) m (pc + 3) L (r.toList ++ R) ψ y Q))) : hw sc (d + 1) m pc L S φ x Q := by
  unfold ck_ct at ck
  simp only [Bool.and_eq_true, decide_eq_true_eq] at ck
  obtain ⟨c1, c2, c3, c4, c5⟩ := ck
  have ht : S.take e = As.reverse ++ [(2, z)] := by
    rw [hS, ← he, List.take_append, List.length_reverse, Nat.add_sub_cancel_left, List.take_of_length_le (by rw [List.length_reverse]; omega)]
    rfl
  have hd : S.drop e = R := by
    rw [hS, ← he, List.drop_append, List.length_reverse, Nat.add_sub_cancel_left, List.drop_of_length_le (by rw [List.length_reverse]; omega)]
    rfl
  have hrv : (S.take e).reverse = (2, z) :: As := by rw [ht, List.reverse_append, List.reverse_reverse]; rfl
  have hcc : jm_cc m pc (31, a0, b, e) S (hf_h φ x) := by
    refine ⟨?_, by rw [hd]; exact h8, ?_, ?_⟩
    · show e ≤ _
      rw [hS, List.length_append, List.length_reverse, List.length_cons]; omega
    · have hq : jm_cat (S.take e) = jm_cat (S.take e).reverse := by unfold jm_cat; rw [List.map_reverse, List.sum_reverse]
      show jm_cat (S.take e) ≤ (g_m b).2.2.1
      rw [hq, hrv]
      show (((2, z) :: As).map (fun v : jm_V => if v.1 = 1 then 2 else 1)).sum ≤ _
      rw [List.map_cons, List.sum_cons]
      show 1 + jm_cat As ≤ _
      rw [c5]
      omega
    · show jm_rcv (if (31 : Nat) = 31 then 10 + ((g_lnk m pc).getD 5 0 : Int) else a0) (S.take e).reverse (hf_h φ x) = true
      rw [hrv, if_pos rfl]
      subst hz
      have hk : (0 : Int) ≤ ((g_lnk m pc).getD 5 0 : Int) := Int.natCast_nonneg _
      generalize ((g_lnk m pc).getD 5 0 : Int) = k at c4 hk
      show (if 10 + k = -1 then true else if 10 + k = -2 ∨ 10 + k = -3 then _ else if 10 + k = 5 then _ else match (2 : Nat), jm_cell (hf_h φ x) (o : Int) with
          | 2, some c => decide ((c.1 : Int) = 10 + k)
          | _, _ => false) = true
      rw [if_neg (by omega), if_neg (by omega), if_neg (by omega), hf_cell c3]
      show decide ((hf_k o : Int) = 10 + k) = true
      exact decide_eq_true c4
  obtain ⟨r, ψ, y, h1, h2⟩ := h
  have h1' : jm_R sc d b 0 (jm_args 0 (S.take e).reverse) [] (hf_h φ x) r (hf_h ψ y) := by rw [hrv]; exact h1
  by_cases hr : r = some (9, 0)
  · obtain ⟨r2, ψ2, y2, h3, h4⟩ := h2.1 hr
    subst hr
    exact ⟨r2, ψ2, y2, jm_R_try c1 rfl hcc h1' (by show jm_R sc (d + 1) m a0.toNat (jm_drop L ((g_lnk m pc).getD 6 0)) [] _ _ _; rw [c2]; exact h3), h4⟩
  · obtain ⟨r2, ψ2, y2, h3, h4⟩ := h2.2 hr
    exact ⟨r2, ψ2, y2, jm_R_call c1 (Or.inr (Or.inl rfl)) hcc h1' hr (by show jm_R sc (d + 1) m (pc + 3) L (r.toList ++ S.drop e) _ _ _; rw [hd]; exact h3), h4⟩
end
noncomputable def SCP (sc : List Int) : Prop := ∀ k : Nat, -2147483648 ≤ sc.getD k 0 ∧ sc.getD k 0 ≤ 2147483647
noncomputable def KR (φ : hf_F) : Prop := φ 56 3 = φ 207 0 ∧ φ 82 3 = φ 207 1
