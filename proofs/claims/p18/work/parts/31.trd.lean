/-! TOKENS of the two readers: what a step of each loop does -/
theorem isl_z {φ : hf_F} {v : Int} : (F_Reader_isLetter φ v = 0) = ¬ (97 ≤ v ∧ v ≤ 122) := by
  unfold F_Reader_isLetter
  apply propext
  split
  · constructor <;> intro h <;> omega
  · split
    · constructor <;> intro h <;> omega
    · constructor
      · intro h; cases h
      · intro h; omega
theorem isd_z {φ : hf_F} {v : Int} : (F_Reader_isDigit φ v = 0) = ¬ (48 ≤ v ∧ v ≤ 57) := by
  unfold F_Reader_isDigit
  apply propext
  split
  · constructor <;> intro h <;> omega
  · split
    · constructor <;> intro h <;> omega
    · constructor
      · intro h; cases h
      · intro h; omega
theorem isb_z {φ : hf_F} {v : Int} : (F_Reader_isBlank φ v = 0) = ¬ (v = 32 ∨ v = 10) := by
  unfold F_Reader_isBlank
  apply propext
  split
  · constructor
    · intro h; cases h
    · intro h; omega
  · split
    · constructor <;> intro h <;> omega
    · constructor
      · intro h; cases h
      · intro h; omega
abbrev SGN (v : Int) : Prop := v = 59 ∨ v = 40 ∨ v = 41 ∨ (60 ≤ v ∧ v ≤ 62)
theorem iss_z {φ : hf_F} {v : Int} : (F_Reader_isSign φ v = 0) = ¬ SGN v := by
  unfold F_Reader_isSign SGN
  apply propext
  repeat' split
  all_goals first
    | (constructor <;> intro h <;> omega)
    | (constructor
       · intro h; cases h
       · intro h; omega)
theorem ism_z {φ : hf_F} {v : Int} : (F_RideLawsModel_isSmall φ v = 0) = ¬ (97 ≤ v ∧ v ≤ 122) := by
  unfold F_RideLawsModel_isSmall
  apply propext
  split
  · constructor <;> intro h <;> omega
  · split
    · constructor <;> intro h <;> omega
    · constructor
      · intro h; cases h
      · intro h; omega
theorem imd_z {φ : hf_F} {v : Int} : (F_RideLawsModel_isDigit φ v = 0) = ¬ (48 ≤ v ∧ v ≤ 57) := by
  unfold F_RideLawsModel_isDigit
  apply propext
  split
  · constructor <;> intro h <;> omega
  · split
    · constructor <;> intro h <;> omega
    · constructor
      · intro h; cases h
      · intro h; omega
theorem peek_e {χ : hf_F} : F_RideLawsModel_peek_192 χ = pk χ := by
  unfold F_RideLawsModel_peek_192 pk
  repeat' split
  all_goals first | rfl | omega
/-- the byte at which the class's reader stands -/
abbrev cb (φ : hf_F) : Int := φ 2 (φ 1 4).toNat
noncomputable def AD (φ : hf_F) : hf_F :=
  if φ 1 3 < φ 1 2 ∧ φ 1 3 ≤ φ 1 4 then hf_up (hf_up (hf_up φ 1 6 (φ 1 4)) 1 6 (φ 1 3)) 1 5 1
  else if φ 1 2 ≤ φ 1 4 then hf_up (hf_up φ 1 6 (φ 1 4)) 1 5 0
  else if (97 ≤ cb φ ∧ cb φ ≤ 122) ∨ (48 ≤ cb φ ∧ cb φ ≤ 57) then F_Reader_readRun_1 (hf_up φ 1 6 (φ 1 4))
  else if SGN (cb φ) then hf_up (hf_up (hf_up (hf_up φ 1 6 (φ 1 4)) 1 7 (cb φ)) 1 5 5) 1 4 (φ 1 4 + 1)
  else hf_up (hf_up (hf_up (hf_up φ 1 6 (φ 1 4)) 1 7 (cb φ)) 1 5 1) 1 4 (φ 1 4 + 1)
theorem ite_qr {α : Type} {q r : Prop} [Decidable q] [Decidable r] {X A : α} : (if q then X else if r then X else A) = (if ¬ q ∧ ¬ r then A else X) := by
  by_cases a : q
  · rw [if_pos a, if_neg (show ¬ (¬ q ∧ ¬ r) from fun w => w.1 a)]
  · by_cases b : r
    · rw [if_neg a, if_pos b, if_neg (show ¬ (¬ q ∧ ¬ r) from fun w => w.2 b)]
    · rw [if_neg a, if_neg b, if_pos (show ¬ q ∧ ¬ r from ⟨a, b⟩)]
theorem adv_s {φ : hf_F} (n : Nat) : F_Reader_advance_1_l0 (n + 1) φ = if φ 1 4 < φ 1 2 ∧ (cb φ = 32 ∨ cb φ = 10) then F_Reader_advance_1_l0 n (hf_up φ 1 4 (φ 1 4 + 1)) else AD φ := by
  rw [F_Reader_advance_1_l0_s]
  unfold AD cb
  simp only [bnp, bnv, isl_z, isd_z, isb_z, iss_z, Classical.not_not,
    show (φ 1 4 < φ 1 2) = ¬ (φ 1 2 ≤ φ 1 4) from propext ⟨fun h => by omega, fun h => by omega⟩,
    show (φ 1 3 < φ 1 2) = ¬ (φ 1 2 ≤ φ 1 3) from propext ⟨fun h => by omega, fun h => by omega⟩,
    show (φ 1 3 ≤ φ 1 4) = ¬ (φ 1 4 < φ 1 3) from propext ⟨fun h => by omega, fun h => by omega⟩]
  by_cases p : φ 1 2 ≤ φ 1 4
  · simp only [eq_true p, if_true, if_false, not_true, false_and]
    exact ite_qr
  · simp only [eq_false p, if_true, if_false, not_false_iff, true_and]
    by_cases b : φ 2 (φ 1 4).toNat = 32 ∨ φ 2 (φ 1 4).toNat = 10
    · simp only [eq_true b, if_true, if_false, not_true]
    · simp only [eq_false b, if_true, if_false, not_false_iff]
      by_cases l : 97 ≤ φ 2 (φ 1 4).toNat ∧ φ 2 (φ 1 4).toNat ≤ 122
      · simp only [eq_true l, if_true, if_false, not_true, true_or]
        exact ite_qr
      · simp only [eq_false l, if_true, if_false, not_false_iff, false_or]
        by_cases g : 48 ≤ φ 2 (φ 1 4).toNat ∧ φ 2 (φ 1 4).toNat ≤ 57
        · simp only [eq_true g, if_true, if_false, not_true]
          exact ite_qr
        · simp only [eq_false g, if_true, if_false, not_false_iff]
          by_cases t : SGN (φ 2 (φ 1 4).toNat)
          · simp only [eq_true t, if_true, if_false, not_true]
            exact ite_qr
          · simp only [eq_false t, if_true, if_false, not_false_iff]
            exact ite_qr
theorem adv_0 {φ : hf_F} : F_Reader_advance_1 φ = F_Reader_advance_1_l0 ((940 - (hf_up φ 1 4 ((φ 1 4) + 1)) 1 4 : Int).toNat + 1 + 1) φ := rfl
noncomputable def RD (φ : hf_F) (l1 l2 l3 l4 : Int) : hf_F :=
  if l2 = 0 ∧ l1 ≤ 7 then F_Reader_takeWord_1 φ l4 else if l1 = 0 ∧ l2 ≤ 3 then hf_up (hf_up φ 1 5 4) 1 7 l3 else hf_up φ 1 5 1
theorem rd_e {φ : hf_F} {l1 l2 l3 l4 : Int} : (if ¬ l2 = 0 then (if ¬ l1 = 0 then (hf_up φ 1 5 1) else (if 3 < l2 then (hf_up φ 1 5 1) else (hf_up (hf_up φ 1 5 4) 1 7 l3))) else (if 7 < l1 then (if ¬ l1 = 0 then (hf_up φ 1 5 1) else (if 3 < l2 then (hf_up φ 1 5 1) else (hf_up (hf_up φ 1 5 4) 1 7 l3))) else F_Reader_takeWord_1 φ l4)) = RD φ l1 l2 l3 l4 := by
  unfold RD
  by_cases a : l2 = 0
  · rw [if_neg (show ¬ ¬ l2 = 0 from fun q => q a)]
    by_cases b : 7 < l1
    · rw [if_pos b, if_pos (show ¬ l1 = 0 by omega), if_neg (show ¬ (l2 = 0 ∧ l1 ≤ 7) by omega), if_neg (show ¬ (l1 = 0 ∧ l2 ≤ 3) by omega)]
    · rw [if_neg b, if_pos (show l2 = 0 ∧ l1 ≤ 7 by omega)]
  · rw [if_pos (show ¬ l2 = 0 from a), if_neg (show ¬ (l2 = 0 ∧ l1 ≤ 7) by omega)]
    by_cases b : l1 = 0
    · rw [if_neg (show ¬ ¬ l1 = 0 from fun q => q b)]
      by_cases c : 3 < l2
      · rw [if_pos c, if_neg (show ¬ (l1 = 0 ∧ l2 ≤ 3) by omega)]
      · rw [if_neg c, if_pos (show l1 = 0 ∧ l2 ≤ 3 by omega)]
    · rw [if_pos (show ¬ l1 = 0 from b), if_neg (show ¬ (l1 = 0 ∧ l2 ≤ 3) by omega)]
theorem run_s {φ : hf_F} {l1 l2 l3 l4 : Int} (n : Nat) : F_Reader_readRun_1_l9 (n + 1) φ l1 l2 l3 l4 =
    if φ 1 4 < φ 1 2 ∧ (97 ≤ cb φ ∧ cb φ ≤ 122) then F_Reader_readRun_1_l9 n (hf_up φ 1 4 (φ 1 4 + 1)) (l1 + 1) l2 l3 (l4 * 32 + hb_i2l ((cb φ - 97) + 1))
    else if φ 1 4 < φ 1 2 ∧ (48 ≤ cb φ ∧ cb φ ≤ 57) then F_Reader_readRun_1_l9 n (hf_up φ 1 4 (φ 1 4 + 1)) l1 (l2 + 1) (l3 * 10 + (cb φ - 48)) l4
    else RD φ l1 l2 l3 l4 := by
  rw [F_Reader_readRun_1_l9_s]
  unfold cb
  simp only [bnp, bnv, isl_z, isd_z, F_Reader_packed, Classical.not_not,
    show (φ 1 4 < φ 1 2) = ¬ (φ 1 2 ≤ φ 1 4) from propext ⟨fun h => by omega, fun h => by omega⟩]
  by_cases p : φ 1 2 ≤ φ 1 4
  · simp only [eq_true p, if_true, if_false, not_true, false_and]
    exact rd_e
  · simp only [eq_false p, if_true, if_false, not_false_iff, true_and]
    by_cases l : 97 ≤ φ 2 (φ 1 4).toNat ∧ φ 2 (φ 1 4).toNat ≤ 122
    · simp only [eq_true l, if_true, if_false, not_true]
    · simp only [eq_false l, if_true, if_false, not_false_iff]
      by_cases g : 48 ≤ φ 2 (φ 1 4).toNat ∧ φ 2 (φ 1 4).toNat ≤ 57
      · simp only [eq_true g, if_true, if_false, not_true]
      · simp only [eq_false g, if_true, if_false, not_false_iff]
        exact rd_e
/-- the model's reader -/
noncomputable def MW (χ : hf_F) : hf_F := if χ 192 13 < 7 then hf_up χ 192 17 (hb_lor (hb_lshl (χ 192 17) 8) (hb_i2l (pk χ))) else χ
noncomputable def MN (χ : hf_F) : hf_F := if χ 192 13 < 3 then hf_up (MW χ) 192 14 (10 * χ 192 14 + pk χ - 48) else MW χ
noncomputable def MU (χ : hf_F) : hf_F := hf_up (hf_up (MN χ) 192 13 (χ 192 13 + 1)) 192 4 (χ 192 4 + 1)
theorem pk_up {χ : hf_F} {k : Nat} {v : Int} (h : ¬ k = 3 ∧ ¬ k = 4) : pk (hf_up χ 192 k v) = pk χ := by
  unfold pk
  rw [hf_up_ne (fun q => h.2 q.2.symm), hf_up_ne (fun q => h.1 q.2.symm), hf_up_ne (fun q => absurd q.1 (by decide))]
theorem mu_e {χ : hf_F} {n : Nat} {c s k : Int} : (if 7 ≤ χ 192 13 then (if 3 ≤ χ 192 13 then F_RideLawsModel_next_192_l181 n (hf_up (hf_up χ 192 13 (χ 192 13 + 1)) 192 4 (χ 192 4 + 1)) c s k else F_RideLawsModel_next_192_l181 n (hf_up (hf_up (hf_up χ 192 14 (10 * χ 192 14 + pk χ - 48)) 192 13 (χ 192 13 + 1)) 192 4 (χ 192 4 + 1)) c s k)
    else (if 3 ≤ χ 192 13 then F_RideLawsModel_next_192_l181 n (hf_up (hf_up (hf_up χ 192 17 (hb_lor (hb_lshl (χ 192 17) 8) (hb_i2l (pk χ)))) 192 13 (χ 192 13 + 1)) 192 4 (χ 192 4 + 1)) c s k else F_RideLawsModel_next_192_l181 n (hf_up (hf_up (hf_up (hf_up χ 192 17 (hb_lor (hb_lshl (χ 192 17) 8) (hb_i2l (pk χ)))) 192 14 (10 * χ 192 14 + pk χ - 48)) 192 13 (χ 192 13 + 1)) 192 4 (χ 192 4 + 1)) c s k)) = F_RideLawsModel_next_192_l181 n (MU χ) c s k := by
  unfold MU MN MW
  by_cases a : 7 ≤ χ 192 13
  · rw [if_pos a, if_pos (show 3 ≤ χ 192 13 by omega), if_neg (show ¬ χ 192 13 < 3 by omega), if_neg (show ¬ χ 192 13 < 7 by omega)]
  · by_cases b : 3 ≤ χ 192 13
    · rw [if_neg a, if_pos b, if_neg (show ¬ χ 192 13 < 3 by omega), if_pos (show χ 192 13 < 7 by omega)]
    · rw [if_neg a, if_neg b, if_pos (show χ 192 13 < 3 by omega), if_pos (show χ 192 13 < 7 by omega)]
theorem mrun_s {χ : hf_F} {c s a : Int} (n : Nat) : F_RideLawsModel_next_192_l181 (n + 1) χ c s a =
    if (97 ≤ pk χ ∧ pk χ ≤ 122) ∨ (48 ≤ pk χ ∧ pk χ ≤ 57) then F_RideLawsModel_next_192_l181 n (MU χ) c s (if a = 0 then 0 else if F_RideLawsModel_isSmall χ (pk χ) = s then 1 else 0)
    else hf_up χ 192 11 (if a = 0 then 4 else if s = 0 then (if χ 192 13 ≤ 3 then 2 else 4) else (if χ 192 13 ≤ 7 then 1 else 4)) := by
  rw [F_RideLawsModel_next_192_l181_s]
  simp only [bnp, bnv, ism_z, imd_z, peek_e, pk_up (χ := χ) (show ¬ 17 = 3 ∧ ¬ 17 = 4 by decide)]
  by_cases l : 97 ≤ pk χ ∧ pk χ ≤ 122
  · simp only [eq_true l, not_true, not_false_iff, if_true, true_or]
    by_cases e : a = 0
    · simp only [eq_true e, if_true]
      exact mu_e
    · simp only [eq_false e, if_false]
      by_cases f : F_RideLawsModel_isSmall χ (pk χ) = s
      · simp only [eq_true f, if_true, if_false, not_true]
        exact mu_e
      · simp only [eq_false f, if_true, if_false, not_false_iff]
        exact mu_e
  · simp only [eq_false l, not_true, not_false_iff, if_true, if_false, false_or]
    by_cases g : 48 ≤ pk χ ∧ pk χ ≤ 57
    · simp only [eq_true g, not_true, not_false_iff, if_true, if_false]
      by_cases e : a = 0
      · simp only [eq_true e, if_true]
        exact mu_e
      · simp only [eq_false e, if_false]
        by_cases f : F_RideLawsModel_isSmall χ (pk χ) = s
        · simp only [eq_true f, if_true, if_false, not_true]
          exact mu_e
        · simp only [eq_false f, if_true, if_false, not_false_iff]
          exact mu_e
    · simp only [eq_false g, not_true, not_false_iff, if_true, if_false]
      by_cases e : a = 0
      · simp only [eq_true e, if_true]
      · simp only [eq_false e, if_false]
        by_cases h : s = 0
        · simp only [eq_true h, if_true]
          by_cases k : χ 192 13 ≤ 3
          · simp only [eq_true k, if_true]
          · simp only [eq_false k, if_false]
        · simp only [eq_false h, if_false]
          by_cases k : χ 192 13 ≤ 7
          · simp only [eq_true k, if_true]
          · simp only [eq_false k, if_false]
