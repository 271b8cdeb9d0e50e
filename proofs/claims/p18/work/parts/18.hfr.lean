/-! the rules once more, each with one check that the kernel decides -/
theorem tg0 {z : Int} : ¬ ((0, z) : jm_V).1 = 1 := fun q => nomatch q
theorem tg2 {z : Int} : ¬ ((2, z) : jm_V).1 = 1 := fun q => nomatch q
theorem get_st1e {L : jm_L} {b : Nat} {v : jm_V} : jm_get (jm_st1 L b v) b = some v := by
  unfold jm_get jm_st1
  rw [List.find?_cons, beq_self_eq_true]
  rfl
theorem get_st2e {L : jm_L} {b : Nat} {v : jm_V} : jm_get (jm_st2 L b v) b = some v := by
  unfold jm_get jm_st2
  rw [List.find?_cons, beq_self_eq_true]
  rfl
theorem get_fil {k : Nat} {w : jm_V} (P : Nat × jm_V → Bool) (hP : P (k, w) = true) : ∀ {L : jm_L}, jm_get L k = some w → jm_get (L.filter P) k = some w
  | [], h => by simp [jm_get] at h
  | q :: L, h => by
    unfold jm_get at h
    rw [List.find?_cons] at h
    cases hq : (q.1 == k) with
    | true =>
      rw [hq] at h
      cases h
      have e : q.1 = k := by simpa using hq
      have hP2 : P q = true := by
        rw [← e] at hP
        exact hP
      unfold jm_get
      rw [List.filter_cons, if_pos hP2, List.find?_cons, hq]
      rfl
    | false =>
      rw [hq] at h
      have ih := get_fil P hP (L := L) h
      rw [List.filter_cons]
      split
      · unfold jm_get at ih ⊢
        rw [List.find?_cons, hq]
        exact ih
      · exact ih
theorem get_st1 {L : jm_L} {b k : Nat} {v w : jm_V} (h : jm_get L k = some w) (hk : ¬ k = b) (ht : ¬ (k + 1 = b ∧ w.1 = 1)) : jm_get (jm_st1 L b v) k = some w := by
  have h1 := get_fil (fun q => !(q.1 == b) && !(q.1 + 1 == b && q.2.1 == 1)) (by
    dsimp only
    rw [beq_eq_false_iff_ne.mpr hk]
    cases hb : (k + 1 == b && w.1 == 1) with
    | false => rfl
    | true =>
      obtain ⟨h2, h3⟩ := Bool.and_eq_true_iff.mp hb
      exact absurd ⟨by simpa using h2, by simpa using h3⟩ ht) h
  unfold jm_get jm_st1 at *
  rw [List.find?_cons, beq_eq_false_iff_ne.mpr (fun q : b = k => hk q.symm)]
  exact h1
theorem get_st2 {L : jm_L} {b k : Nat} {v w : jm_V} (h : jm_get L k = some w) (hk : ¬ k = b) (hk2 : ¬ k = b + 1) (ht : ¬ (k + 1 = b ∧ w.1 = 1)) : jm_get (jm_st2 L b v) k = some w := by
  have h1 := get_fil (fun q => !(q.1 == b) && (!(q.1 == b + 1) && !(q.1 + 1 == b && q.2.1 == 1))) (by
    dsimp only
    rw [beq_eq_false_iff_ne.mpr hk, beq_eq_false_iff_ne.mpr hk2]
    cases hb : (k + 1 == b && w.1 == 1) with
    | false => rfl
    | true =>
      obtain ⟨h2, h3⟩ := Bool.and_eq_true_iff.mp hb
      exact absurd ⟨by simpa using h2, by simpa using h3⟩ ht) h
  unfold jm_get jm_st2 at *
  rw [List.find?_cons, beq_eq_false_iff_ne.mpr (fun q : b = k => hk q.symm)]
  exact h1
noncomputable def hb_and (z y : Int) : Int := (Int32.ofInt z &&& Int32.ofInt y).toInt
noncomputable def hb_or (z y : Int) : Int := (Int32.ofInt z ||| Int32.ofInt y).toInt
noncomputable def hb_xor (z y : Int) : Int := (Int32.ofInt z ^^^ Int32.ofInt y).toInt
noncomputable def hb_shl (z y : Int) : Int := (Int32.ofInt z <<< (Int32.ofInt y &&& 31)).toInt
noncomputable def hb_shr (z y : Int) : Int := (Int32.ofInt z >>> (Int32.ofInt y &&& 31)).toInt
noncomputable def hb_ushr (z y : Int) : Int := (((Int32.ofInt z).toUInt32 >>> ((Int32.ofInt y).toUInt32 &&& Int32.toUInt32 31)).toInt32).toInt
noncomputable def hb_land (z y : Int) : Int := (Int64.ofInt z &&& Int64.ofInt y).toInt
noncomputable def hb_lor (z y : Int) : Int := (Int64.ofInt z ||| Int64.ofInt y).toInt
noncomputable def hb_lshl (z y : Int) : Int := (Int64.ofInt z <<< ((Int32.ofInt y).toInt64 &&& 63)).toInt
noncomputable def hb_lshr (z y : Int) : Int := (Int64.ofInt z >>> ((Int32.ofInt y).toInt64 &&& 63)).toInt
noncomputable def hb_i2l (z : Int) : Int := (Int32.ofInt z).toInt64.toInt
noncomputable def hb_l2i (z : Int) : Int := (Int64.ofInt z).toInt32.toInt
noncomputable def hb_i2b (z : Int) : Int := (Int32.ofInt z).toInt8.toInt32.toInt
noncomputable def hb_i2c (z : Int) : Int := ((Int32.ofInt z).toUInt32 % 65536).toInt32.toInt
theorem hb_div {z y : Int} (hz : hi z) (hy : hi y) (h : ¬ y = 0) : jm_bin 9 z y = some (z.tdiv y) := by
  show (if jm_n y = 0 then none else some ((jm_n z).tdiv (jm_n y))) = _
  rw [hi_n hz, hi_n hy, if_neg h]
theorem hb_rem {z y : Int} (hz : hi z) (hy : hi y) (h : ¬ y = 0) : jm_bin 10 z y = some (z.tmod y) := by
  show (if jm_n y = 0 then none else some ((jm_n z).tmod (jm_n y))) = _
  rw [hi_n hz, hi_n hy, if_neg h]
theorem hf_c_r {φ : hf_F} {a k : Nat} {w : Int} (h : hf_r a k = some w) : hf_c φ a k = w := by unfold hf_c; rw [h]; rfl
theorem hf_c_n {φ : hf_F} {a k : Nat} (h : hf_r a k = none) : hf_c φ a k = φ a k := by unfold hf_c; rw [h]; rfl
/-- a cell without references -/
noncomputable def hf_pl (a : Nat) : Bool := (jm_n2 g_rfc a []).isEmpty
theorem hf_pl_r {a : Nat} (h : hf_pl a = true) (k : Nat) : hf_r a k = none := by
  unfold hf_r
  rw [List.isEmpty_iff.mp h]
  rfl
noncomputable def ck_gr (m pc a b e : Nat) (w : Int) : Bool := decide (g_code m pc = some (13, 2, b, e)) && (decide (a < 209) && (decide (hf_k a = 10 + b) && (decide (e < hf_n a) && decide (hf_r a e = some w))))
noncomputable def ck_gi (m pc a : Nat) (t : Int) (b e : Nat) : Bool := decide (g_code m pc = some (13, t, b, e)) && (decide (a < 209) && (decide (hf_k a = 10 + b) && (decide (e < hf_n a) && decide (hf_r a e = none))))
noncomputable def ck_pi (m pc a : Nat) (t : Int) (b e : Nat) : Bool := decide (g_code m pc = some (14, t, b, e)) && (decide (a < 209) && (decide (hf_k a = 10 + b) && (decide (e < hf_n a) && decide (hf_r a e = none))))
noncomputable def ck_al (m pc a : Nat) (a0 : Int) (b e n : Nat) : Bool := decide (g_code m pc = some (15, a0, b, e)) && (decide (a < 209) && (decide ((b = 0 ∧ hf_k a = 0) ∨ (b = 1 ∧ (hf_k a = 1 ∨ hf_k a = 3)) ∨ (b = 2 ∧ hf_k a = 2) ∨ (b = 3 ∧ hf_k a = 4)) && (decide (hf_n a = n) && (decide (n ≤ 100000) && hf_pl a))))
noncomputable def ck_as (m pc a : Nat) (a0 : Int) (b e n k : Nat) : Bool := decide (g_code m pc = some (16, a0, b, e)) && (decide (a < 209) && (decide (hf_k a = k) && (decide (hf_n a = n) && (decide (n ≤ 100000) && hf_pl a))))
noncomputable def ck_len (m pc a : Nat) (a0 : Int) (b e n : Nat) : Bool := decide (g_code m pc = some (25, a0, b, e)) && (decide (a < 209) && (decide (hf_k a < 5) && decide (hf_n a = n)))
section
variable {sc : List Int} {d m pc : Nat} {L L' : jm_L} {S : List jm_V} {φ : hf_F} {x : Nat} {Q : Option jm_V → hf_F → Nat → Prop}
theorem hr_gr {b e : Nat} {z w : Int} (a : Nat) (hz : z = (a : Int)) (ck : ck_gr m pc a b e w = true) (h : hw sc d m (pc + 3) L ((2, w) :: S) φ x Q) : hw sc d m pc L ((2, z) :: S) φ x Q := by
  unfold ck_gr at ck
  simp only [Bool.and_eq_true, decide_eq_true_eq] at ck
  obtain ⟨c1, c2, c3, c4, c5⟩ := ck
  exact hw_getf a (jm_cqm c1) hz c2 c3 c4 rfl (hf_c_r c5) h
theorem hr_gi {b e : Nat} {z w : Int} (a : Nat) (hz : z = (a : Int)) (ck : ck_gi m pc a 0 b e = true) (hw0 : φ a e = w) (h : hw sc d m (pc + 3) L ((0, w) :: S) φ x Q) : hw sc d m pc L ((2, z) :: S) φ x Q := by
  unfold ck_gi at ck
  simp only [Bool.and_eq_true, decide_eq_true_eq] at ck
  obtain ⟨c1, c2, c3, c4, c5⟩ := ck
  exact hw_getf a (jm_cqm c1) hz c2 c3 c4 rfl ((hf_c_n c5).trans hw0) h
theorem hr_gz {b e : Nat} {z w : Int} (a : Nat) (hz : z = (a : Int)) (ck : ck_gi m pc a 3 b e = true) (hw0 : φ a e = w) (h : hw sc d m (pc + 3) L ((0, w) :: S) φ x Q) : hw sc d m pc L ((2, z) :: S) φ x Q := by
  unfold ck_gi at ck
  simp only [Bool.and_eq_true, decide_eq_true_eq] at ck
  obtain ⟨c1, c2, c3, c4, c5⟩ := ck
  exact hw_getf a (jm_cqm c1) hz c2 c3 c4 rfl ((hf_c_n c5).trans hw0) h
theorem hr_gl {b e : Nat} {z w : Int} (a : Nat) (hz : z = (a : Int)) (ck : ck_gi m pc a 1 b e = true) (hw0 : φ a e = w) (h : hw sc d m (pc + 3) L ((1, w) :: S) φ x Q) : hw sc d m pc L ((2, z) :: S) φ x Q := by
  unfold ck_gi at ck
  simp only [Bool.and_eq_true, decide_eq_true_eq] at ck
  obtain ⟨c1, c2, c3, c4, c5⟩ := ck
  exact hw_getf a (jm_cqm c1) hz c2 c3 c4 rfl ((hf_c_n c5).trans hw0) h
theorem hr_pi {b e : Nat} {z w : Int} (a : Nat) (hz : z = (a : Int)) (ck : ck_pi m pc a 0 b e = true) (h : hw sc d m (pc + 3) L S (hf_up φ a e w) x Q) : hw sc d m pc L ((0, w) :: (2, z) :: S) φ x Q := by
  unfold ck_pi at ck
  simp only [Bool.and_eq_true, decide_eq_true_eq] at ck
  obtain ⟨c1, c2, c3, c4, c5⟩ := ck
  exact hw_putf a (jm_cqm c1) hz c2 c3 c4 c5 (decide_eq_true (Or.inl ⟨rfl, rfl⟩)) h
theorem hr_pl {b e : Nat} {z w : Int} (a : Nat) (hz : z = (a : Int)) (ck : ck_pi m pc a 1 b e = true) (h : hw sc d m (pc + 3) L S (hf_up φ a e w) x Q) : hw sc d m pc L ((1, w) :: (2, z) :: S) φ x Q := by
  unfold ck_pi at ck
  simp only [Bool.and_eq_true, decide_eq_true_eq] at ck
  obtain ⟨c1, c2, c3, c4, c5⟩ := ck
  exact hw_putf a (jm_cqm c1) hz c2 c3 c4 c5 (decide_eq_true (Or.inr (Or.inl ⟨rfl, rfl⟩))) h
theorem hr_pz {b e : Nat} {z w : Int} (a : Nat) (hz : z = (a : Int)) (ck : ck_pi m pc a 3 b e = true) (h01 : w = 0 ∨ w = 1) (h : hw sc d m (pc + 3) L S (hf_up φ a e w) x Q) : hw sc d m pc L ((0, w) :: (2, z) :: S) φ x Q := by
  unfold ck_pi at ck
  simp only [Bool.and_eq_true, decide_eq_true_eq] at ck
  obtain ⟨c1, c2, c3, c4, c5⟩ := ck
  refine hw_putf a (jm_cqm c1) hz c2 c3 c4 c5 (decide_eq_true (Or.inr (Or.inr (Or.inr ⟨rfl, rfl, ?_⟩)))) h
  rcases h01 with rfl | rfl
  · exact Or.inl (by decide)
  · exact Or.inr (by decide)
theorem hr_al {a0 : Int} {b e n : Nat} {z j : Int} (a : Nat) (hz : z = (a : Int)) (ck : ck_al m pc a a0 b e n = true) (hb : b < 2) (h0 : 0 ≤ j) (h1 : j < n) {w : Int} (hw0 : φ a j.toNat = w) (h : hw sc d m (pc + 1) L ((0, w) :: S) φ x Q) : hw sc d m pc L ((0, j) :: (2, z) :: S) φ x Q := by
  unfold ck_al at ck
  simp only [Bool.and_eq_true, decide_eq_true_eq] at ck
  obtain ⟨c1, c2, c3, c4, c5, c6⟩ := ck
  subst c4
  exact hw_iald a (jm_cqm c1) hz c2 c3 c5 (by rw [if_neg (by omega), if_neg (by omega)]) h0 h1 ((hf_c_n (hf_pl_r c6 _)).trans hw0) h
theorem hr_all {a0 : Int} {e n : Nat} {z j : Int} (a : Nat) (hz : z = (a : Int)) (ck : ck_al m pc a a0 2 e n = true) (h0 : 0 ≤ j) (h1 : j < n) {w : Int} (hw0 : φ a j.toNat = w) (h : hw sc d m (pc + 1) L ((1, w) :: S) φ x Q) : hw sc d m pc L ((0, j) :: (2, z) :: S) φ x Q := by
  unfold ck_al at ck
  simp only [Bool.and_eq_true, decide_eq_true_eq] at ck
  obtain ⟨c1, c2, c3, c4, c5, c6⟩ := ck
  subst c4
  exact hw_iald a (jm_cqm c1) hz c2 (by simpa using c3) c5 rfl h0 h1 ((hf_c_n (hf_pl_r c6 _)).trans hw0) h
theorem hr_ala {a0 : Int} {e n : Nat} {z j : Int} (a : Nat) (hz : z = (a : Int)) (ck : ck_al m pc a a0 3 e n = true) (h0 : 0 ≤ j) (h1 : j < n) {w : Int} (hw0 : φ a j.toNat = w) (h : hw sc d m (pc + 1) L ((2, w) :: S) φ x Q) : hw sc d m pc L ((0, j) :: (2, z) :: S) φ x Q := by
  unfold ck_al at ck
  simp only [Bool.and_eq_true, decide_eq_true_eq] at ck
  obtain ⟨c1, c2, c3, c4, c5, c6⟩ := ck
  subst c4
  exact hw_iald a (jm_cqm c1) hz c2 (by simpa using c3) c5 rfl h0 h1 ((hf_c_n (hf_pl_r c6 _)).trans hw0) h
theorem hr_as {a0 : Int} {e n : Nat} {z j w : Int} (a : Nat) (hz : z = (a : Int)) (ck : ck_as m pc a a0 0 e n 0 = true) (h0 : 0 ≤ j) (h1 : j < n) (h : hw sc d m (pc + 1) L S (hf_up φ a j.toNat w) x Q) : hw sc d m pc L ((0, w) :: (0, j) :: (2, z) :: S) φ x Q := by
  unfold ck_as at ck
  simp only [Bool.and_eq_true, decide_eq_true_eq] at ck
  obtain ⟨c1, c2, c3, c4, c5, c6⟩ := ck
  subst c4
  exact hw_iast a (jm_cqm c1) hz c2 (Or.inl ⟨rfl, c3, rfl, rfl⟩) c5 h0 h1 (hf_pl_r c6 _) h
theorem hr_asb {a0 : Int} {e n : Nat} {z j w : Int} (a : Nat) (hz : z = (a : Int)) (ck : ck_as m pc a a0 1 e n 1 = true) (h0 : 0 ≤ j) (h1 : j < n) (h : hw sc d m (pc + 1) L S (hf_up φ a j.toNat (jm_b w)) x Q) : hw sc d m pc L ((0, w) :: (0, j) :: (2, z) :: S) φ x Q := by
  unfold ck_as at ck
  simp only [Bool.and_eq_true, decide_eq_true_eq] at ck
  obtain ⟨c1, c2, c3, c4, c5, c6⟩ := ck
  subst c4
  exact hw_iast a (jm_cqm c1) hz c2 (Or.inr (Or.inl ⟨rfl, c3, rfl, rfl⟩)) c5 h0 h1 (hf_pl_r c6 _) h
theorem hr_asz {a0 : Int} {e n : Nat} {z j w : Int} (a : Nat) (hz : z = (a : Int)) (ck : ck_as m pc a a0 1 e n 3 = true) (h0 : 0 ≤ j) (h1 : j < n) (h : hw sc d m (pc + 1) L S (hf_up φ a j.toNat (jm_z w)) x Q) : hw sc d m pc L ((0, w) :: (0, j) :: (2, z) :: S) φ x Q := by
  unfold ck_as at ck
  simp only [Bool.and_eq_true, decide_eq_true_eq] at ck
  obtain ⟨c1, c2, c3, c4, c5, c6⟩ := ck
  subst c4
  exact hw_iast a (jm_cqm c1) hz c2 (Or.inr (Or.inr (Or.inl ⟨rfl, c3, rfl, rfl⟩))) c5 h0 h1 (hf_pl_r c6 _) h
theorem hr_asl {a0 : Int} {e n : Nat} {z j w : Int} (a : Nat) (hz : z = (a : Int)) (ck : ck_as m pc a a0 2 e n 2 = true) (h0 : 0 ≤ j) (h1 : j < n) (h : hw sc d m (pc + 1) L S (hf_up φ a j.toNat w) x Q) : hw sc d m pc L ((1, w) :: (0, j) :: (2, z) :: S) φ x Q := by
  unfold ck_as at ck
  simp only [Bool.and_eq_true, decide_eq_true_eq] at ck
  obtain ⟨c1, c2, c3, c4, c5, c6⟩ := ck
  subst c4
  exact hw_iast a (jm_cqm c1) hz c2 (Or.inr (Or.inr (Or.inr ⟨rfl, c3, rfl, rfl⟩))) c5 h0 h1 (hf_pl_r c6 _) h
theorem hr_len {a0 : Int} {b e n : Nat} {z : Int} (a : Nat) (hz : z = (a : Int)) (ck : ck_len m pc a a0 b e n = true) (h : hw sc d m (pc + 1) L ((0, (n : Int)) :: S) φ x Q) : hw sc d m pc L ((2, z) :: S) φ x Q := by
  unfold ck_len at ck
  simp only [Bool.and_eq_true, decide_eq_true_eq] at ck
  obtain ⟨c1, c2, c3, c4⟩ := ck
  exact hw_alen a (jm_cqm c1) hz c2 c3 (by rw [c4]) h
/-- a call on a cell of the class that it names -/
noncomputable def ck_cv (m pc : Nat) (a0 : Int) (b e : Nat) (o nl : Nat) : Bool := decide (g_code m pc = some (30, a0, b, e)) && (decide (10 ≤ a0) && (decide (o < 209) && (decide ((hf_k o : Int) = a0) && decide ((g_m b).2.2.1 = nl))))
theorem hr_call {a0 : Int} {b e nl : Nat} {z : Int} {As R : List jm_V} (o : Nat) (hz : z = (o : Int)) (ck : ck_cv m pc a0 b e o nl = true) (hS : S = As.reverse ++ (2, z) :: R) (he : As.length + 1 = e) (h8 : jm_cat R ≤ 8) (hl : jm_cat As + 1 ≤ nl)
    (h : hw sc d b 0 (jm_args 0 ((2, z) :: As)) [] φ x (fun r ψ y => ¬ r = some (9, 0) ∧ hw sc (d + 1) m (pc + 3) L (r.toList ++ R) ψ y Q)) : hw sc (d + 1) m pc L S φ x Q := by
  unfold ck_cv at ck
  simp only [Bool.and_eq_true, decide_eq_true_eq] at ck
  obtain ⟨c1, c2, c3, c4, c5⟩ := ck
  have ht : S.take e = As.reverse ++ [(2, z)] := by
    rw [hS, ← he, List.take_append, List.length_reverse, Nat.add_sub_cancel_left, List.take_of_length_le (by rw [List.length_reverse]; omega)]
    rfl
  have hd : S.drop e = R := by
    rw [hS, ← he, List.drop_append, List.length_reverse, Nat.add_sub_cancel_left, List.drop_of_length_le (by rw [List.length_reverse]; omega)]
    rfl
  have hrv : (S.take e).reverse = (2, z) :: As := by rw [ht, List.reverse_append, List.reverse_reverse]; rfl
  refine hw_call (jm_cqm c1) ⟨?_, by rw [hd]; exact h8, ?_, ?_⟩ ?_
  · rw [hS, List.length_append, List.length_reverse, List.length_cons]; omega
  · have hq : jm_cat (S.take e) = jm_cat (S.take e).reverse := by unfold jm_cat; rw [List.map_reverse, List.sum_reverse]
    rw [hq, hrv]
    show (((2, z) :: As).map (fun v : jm_V => if v.1 = 1 then 2 else 1)).sum ≤ _
    rw [List.map_cons, List.sum_cons]
    show 1 + jm_cat As ≤ _
    rw [c5]
    omega
  · rw [hrv]
    subst hz
    show (if a0 = -1 then true else if a0 = -2 ∨ a0 = -3 then _ else if a0 = 5 then _ else match (2 : Nat), jm_cell (hf_h φ x) (o : Int) with
        | 2, some c => decide ((c.1 : Int) = a0)
        | _, _ => false) = true
    rw [if_neg (by omega), if_neg (by omega), if_neg (by omega), hf_cell c3]
    show decide ((hf_k o : Int) = a0) = true
    exact decide_eq_true c4
  · rw [hrv, hd]
    exact h
/-- a static call -/
noncomputable def ck_cs (m pc b e nl : Nat) : Bool := decide (g_code m pc = some (30, -1, b, e)) && decide ((g_m b).2.2.1 = nl)
theorem hr_calls {b e nl : Nat} {As R : List jm_V} (ck : ck_cs m pc b e nl = true) (hS : S = As.reverse ++ R) (he : As.length = e) (h8 : jm_cat R ≤ 8) (hl : jm_cat As ≤ nl)
    (h : hw sc d b 0 (jm_args 0 As) [] φ x (fun r ψ y => ¬ r = some (9, 0) ∧ hw sc (d + 1) m (pc + 3) L (r.toList ++ R) ψ y Q)) : hw sc (d + 1) m pc L S φ x Q := by
  unfold ck_cs at ck
  simp only [Bool.and_eq_true, decide_eq_true_eq] at ck
  obtain ⟨hc, c5⟩ := ck
  have ht : S.take e = As.reverse := by rw [hS, ← he, List.take_append, List.length_reverse, Nat.sub_self, List.take_of_length_le (by rw [List.length_reverse]; omega)]; simp
  have hd : S.drop e = R := by rw [hS, ← he, List.drop_append, List.length_reverse, Nat.sub_self, List.drop_of_length_le (by rw [List.length_reverse]; omega)]; rfl
  have hrv : (S.take e).reverse = As := by rw [ht, List.reverse_reverse]
  refine hw_call (jm_cqm hc) ⟨?_, by rw [hd]; exact h8, ?_, ?_⟩ ?_
  · rw [hS, List.length_append, List.length_reverse]; omega
  · have hq : jm_cat (S.take e) = jm_cat (S.take e).reverse := by unfold jm_cat; rw [List.map_reverse, List.sum_reverse]
    rw [hq, hrv, c5]
    exact hl
  · rw [hrv]
    cases As with
    | nil => rfl
    | cons o r => rfl
  · rw [hrv, hd]
    exact h
noncomputable def ck_tsw (m pc : Nat) (lo : Int) (b e : Nat) (T : List Nat) : Bool := decide (g_code m pc = some (20, lo, b, e)) && decide (g_sw.getD e [] = T)
theorem hr_tsw {lo nn : Int} {b e : Nat} {T : List Nat} {z : Int} (ck : ck_tsw m pc lo b e T = true) (hn : lo + (T.length : Int) = nn) (hz : hi z) (hd : (z < lo ∨ nn ≤ z) → hw sc d m b L S φ x Q) (hk : ∀ (k t : Nat), T[k]? = some t → z = lo + (k : Int) → hw sc d m t L S φ x Q) : hw sc d m pc L ((0, z) :: S) φ x Q := by
  unfold ck_tsw at ck
  simp only [Bool.and_eq_true, decide_eq_true_eq] at ck
  obtain ⟨c1, c2⟩ := ck
  have key : ∀ t, jm_tsw (20, lo, b, e) L ((0, z) :: S) (hf_h φ x) = some (t, L, S, hf_h φ x) → hw sc d m t L S φ x Q → hw sc d m pc L ((0, z) :: S) φ x Q := fun t h1 h2 => hw_stp (jm_cqm c1) (by decide) (by decide) h1 h2
  have e1 := hi_n hz
  by_cases hc : z < lo ∨ nn ≤ z
  · refine key b ?_ (hd hc)
    show (if (0 : Nat) = 0 then (if jm_n z < lo ∨ lo + ((g_sw.getD e []).length : Int) ≤ jm_n z then some (b, L, S, hf_h φ x) else _) else none) = _
    rw [if_pos rfl, e1, c2, if_pos (by rw [hn]; exact hc)]
  · have hlt : (z - lo).toNat < T.length := by omega
    refine key T[(z - lo).toNat] ?_ (hk (z - lo).toNat _ (List.getElem?_eq_getElem hlt) (by omega))
    show (if (0 : Nat) = 0 then (if jm_n z < lo ∨ lo + ((g_sw.getD e []).length : Int) ≤ jm_n z then some (b, L, S, hf_h φ x) else (match (g_sw.getD e [])[(jm_n z - lo).toNat]? with
         | some t => some (t, L, S, hf_h φ x)
         | none => none)) else none) = _
    rw [if_pos rfl, e1, c2, if_neg (by rw [hn]; exact hc), List.getElem?_eq_getElem hlt]
theorem hw_gm {a0 : Int} {e : Nat} (hc : jm_cq m pc 21 a0 2 e = true) (h : hw sc d m (pc + 3) L ((4, 1) :: S) φ x Q) : hw sc d m pc L S φ x Q := hw_stp hc (by decide) (by decide) rfl h
theorem hw_mo {a0 : Int} {e n : Nat} {j w : Int} (hc : jm_cq m pc 22 a0 0 e = true) (hj : jm_ix j g_most.length = some n) (hw0 : g_most.getD n 0 = w) (h : hw sc d m (pc + 1) L ((0, w) :: S) φ x Q) : hw sc d m pc L ((0, j) :: (4, 1) :: S) φ x Q := by
  refine hw_stp hc (by decide) (by decide) ?_ h
  show (if (0 : Nat) = 0 ∧ ((4, 1) : jm_V) = (4, 1) then (jm_ix j g_most.length).map (fun n => (pc + 1, L, (0, g_most.getD n 0) :: S, hf_h φ x)) else none) = _
  rw [if_pos ⟨rfl, rfl⟩, hj, ← hw0]
  rfl
theorem hne0 {z : Int} : ¬ (some ((0, z) : jm_V) = some (9, 0)) := by simp
theorem hne1 {z : Int} : ¬ (some ((1, z) : jm_V) = some (9, 0)) := by simp
theorem hnen : ¬ ((none : Option jm_V) = some (9, 0)) := by simp
theorem hw_max {a0 : Int} {e : Nat} {y z : Int} (hc : jm_cq m pc 26 a0 0 e = true) (h8 : jm_cat S ≤ 8) (hz : hi z) (hy : hi y) (h : hw sc d m (pc + 3) L ((0, if z < y then y else z) :: S) φ x Q) : hw sc d m pc L ((0, y) :: (0, z) :: S) φ x Q := by
  refine hw_stp hc (by decide) (by decide) ?_ h
  show (if (0 : Nat) = 0 ∧ (0 : Nat) = 0 ∧ jm_cat S ≤ 8 then some (pc + 3, L, (0, if (0 : Nat) = 0 then (if jm_n z < jm_n y then y else z) else _) :: S, hf_h φ x) else none) = _
  rw [if_pos ⟨rfl, rfl, h8⟩, if_pos rfl, hi_n hz, hi_n hy]
theorem hw_min {a0 : Int} {e : Nat} {y z : Int} (hc : jm_cq m pc 26 a0 1 e = true) (h8 : jm_cat S ≤ 8) (hz : hi z) (hy : hi y) (h : hw sc d m (pc + 3) L ((0, if y < z then y else z) :: S) φ x Q) : hw sc d m pc L ((0, y) :: (0, z) :: S) φ x Q := by
  refine hw_stp hc (by decide) (by decide) ?_ h
  show (if (0 : Nat) = 0 ∧ (0 : Nat) = 0 ∧ jm_cat S ≤ 8 then some (pc + 3, L, (0, if (1 : Nat) = 0 then _ else (if jm_n y < jm_n z then y else z)) :: S, hf_h φ x) else none) = _
  rw [if_pos ⟨rfl, rfl, h8⟩, if_neg (by decide), hi_n hz, hi_n hy]
theorem hw_lcmp {a0 : Int} {b e : Nat} {y z w : Int} (hc : jm_cq m pc 12 a0 b e = true) (hw0 : jm_cmp z y = w) (h : hw sc d m (pc + 1) L ((0, w) :: S) φ x Q) : hw sc d m pc L ((1, y) :: (1, z) :: S) φ x Q := by
  refine hw_stp hc (by decide) (by decide) ?_ h
  rw [← hw0]
  rfl
/-- a row copied from its first place on -/
noncomputable def hf_cp (φ : hf_F) (a b n : Nat) : hf_F := fun c j => if c = b ∧ j < n then φ a j else φ c j
theorem hf_cp_eq {a b n j : Nat} (h : j < n) : hf_cp φ a b n b j = φ a j := if_pos ⟨rfl, h⟩
theorem hf_cp_ne {a b n c j : Nat} (h : ¬ (c = b ∧ j < n)) : hf_cp φ a b n c j = φ c j := if_neg h
theorem hf_cp_l {a b n : Nat} (hb : hf_pl b = true) (ha : hf_pl a = true) (h1 : n ≤ hf_n a) (h2 : n ≤ hf_n b) : jm_cpy (hf_l φ a) (hf_l φ b) 0 0 n = hf_l (hf_cp φ a b n) b := by
  apply List.ext_getElem?
  intro j
  unfold jm_cpy hf_l
  rw [List.take_zero, List.nil_append, List.drop_zero, Nat.zero_add, List.getElem?_append, List.length_take, List.length_map, List.length_range, Nat.min_eq_left h1, List.getElem?_take, List.getElem?_drop]
  by_cases hj : j < n
  · rw [if_pos hj, if_pos hj, List.getElem?_map, List.getElem?_range (by omega), List.getElem?_map, List.getElem?_range (by omega)]
    show some (hf_c φ a j) = some (hf_c (hf_cp φ a b n) b j)
    rw [hf_c_n (hf_pl_r ha j), hf_c_n (hf_pl_r hb j)]
    unfold hf_cp
    rw [if_pos ⟨rfl, hj⟩]
  · rw [if_neg hj, show n + (j - n) = j by omega, List.getElem?_map, List.getElem?_map]
    cases hr : (List.range (hf_n b))[j]? with
    | none => rfl
    | some i =>
      have hi : i = j := by
        obtain ⟨h3, h4⟩ := List.getElem?_eq_some_iff.mp hr
        rw [List.getElem_range] at h4
        exact h4.symm
      subst hi
      show some (hf_c φ b i) = some (hf_c (hf_cp φ a b n) b i)
      rw [hf_c_n (hf_pl_r hb i), hf_c_n (hf_pl_r hb i)]
      unfold hf_cp
      rw [if_neg (fun q => hj q.2)]
noncomputable def ck_cp (m pc : Nat) (a0 : Int) (b0 e a b n : Nat) : Bool := decide (g_code m pc = some (24, a0, b0, e)) && (decide (a < 209) && (decide (b < 209) && (hf_pl a && (hf_pl b && (decide (hf_k a = hf_k b) && (decide (hf_k a = 0 ∨ hf_k a = 2) && (decide (n ≤ hf_n a) && (decide (n ≤ hf_n b) && decide (n ≤ 100000)))))))))
theorem hr_cp {a0 : Int} {b0 e : Nat} {z w n0 : Int} (a b n : Nat) (hz : z = (a : Int)) (hw0 : w = (b : Int)) (hn0 : n0 = (n : Int)) (ck : ck_cp m pc a0 b0 e a b n = true) (h8 : jm_cat S ≤ 8) (h : hw sc d m (pc + 3) L S (hf_cp φ a b n) x Q) : hw sc d m pc L ((0, n0) :: (0, 0) :: (2, w) :: (0, 0) :: (2, z) :: S) φ x Q := by
  unfold ck_cp at ck
  simp only [Bool.and_eq_true, decide_eq_true_eq] at ck
  obtain ⟨c1, c2, c3, c4, c5, c6, c7, c8, c9, c10⟩ := ck
  refine hw_stp (jm_cqm c1) (by decide) (by decide) ?_ h
  subst hz; subst hw0; subst hn0
  have e1 : jm_n (n : Int) = (n : Int) := hi_n (show hi (n : Int) by unfold hi; omega)
  have e0 : jm_n 0 = 0 := by decide
  show jm_acpy pc L ((0, (n : Int)) :: (0, 0) :: (2, (b : Int)) :: (0, 0) :: (2, (a : Int)) :: S) (hf_h φ x) = _
  unfold jm_acpy
  dsimp only
  rw [if_pos ⟨rfl, rfl, rfl, rfl, rfl, by rw [e1]; omega, by rw [e0]; omega, by rw [e0]; omega, h8⟩, hf_cell c2, hf_cell c3]
  dsimp only
  rw [e1, e0, show ((n : Int)).toNat = n from rfl, show ((0 : Int)).toNat = 0 from rfl, show ((b : Int)).toNat = b from rfl, if_pos ⟨c6, c7, by rw [hf_len]; omega, by rw [hf_len]; omega⟩, hf_cp_l c5 c4 c8 c9]
  rw [hf_hset rfl (fun c hc => ?_)]
  unfold hf_l
  congr 1
  funext j
  unfold hf_c hf_cp
  rw [if_neg (fun q => hc q.1)]
end
