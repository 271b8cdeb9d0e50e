/-! TOKENS of the two readers: what a step of each loop does -/
theorem isl_z {φ : hf_F} {v : Int} : (F_Reader_isLetter φ v = 0) = ¬ (97 ≤ v ∧ v ≤ 122) := by
  unfold F_Reader_isLetter
  apply propext
  split
  · constructor <;> intro h <;> omega
  · split
    · constructor <;> intro h <;> omega
    · constructor
      · intro h; cases h
      · intro h; omega
theorem isd_z {φ : hf_F} {v : Int} : (F_Reader_isDigit φ v = 0) = ¬ (48 ≤ v ∧ v ≤ 57) := by
  unfold F_Reader_isDigit
  apply propext
  split
  · constructor <;> intro h <;> omega
  · split
    · constructor <;> intro h <;> omega
    · constructor
      · intro h; cases h
      · intro h; omega
theorem isb_z {φ : hf_F} {v : Int} : (F_Reader_isBlank φ v = 0) = ¬ (v = 32 ∨ v = 10) := by
  unfold F_Reader_isBlank
  apply propext
  split
  · constructor
    · intro h; cases h
    · intro h; omega
  · split
    · constructor <;> intro h <;> omega
    · constructor
      · intro h; cases h
      · intro h; omega
abbrev SGN (v : Int) : Prop := v = 59 ∨ v = 40 ∨ v = 41 ∨ (60 ≤ v ∧ v ≤ 62)
theorem iss_z {φ : hf_F} {v : Int} : (F_Reader_isSign φ v = 0) = ¬ SGN v := by
  unfold F_Reader_isSign SGN
  apply propext
  repeat' split
  all_goals first
    | (constructor <;> intro h <;> omega)
    | (constructor
       · intro h; cases h
       · intro h; omega)
theorem ism_z {φ : hf_F} {v : Int} : (F_RideLawsModel_isSmall φ v = 0) = ¬ (97 ≤ v ∧ v ≤ 122) := by
  unfold F_RideLawsModel_isSmall
  apply propext
  split
  · constructor <;> intro h <;> omega
  · split
    · constructor <;> intro h <;> omega
    · constructor
      · intro h; cases h
      · intro h; omega
theorem imd_z {φ : hf_F} {v : Int} : (F_RideLawsModel_isDigit φ v = 0) = ¬ (48 ≤ v ∧ v ≤ 57) := by
  unfold F_RideLawsModel_isDigit
  apply propext
  split
  · constructor <;> intro h <;> omega
  · split
    · constructor <;> intro h <;> omega
    · constructor
      · intro h; cases h
      · intro h; omega
theorem peek_e {χ : hf_F} : F_RideLawsModel_peek_192 χ = pk χ := by
  unfold F_RideLawsModel_peek_192 pk
  repeat' split
  all_goals first | rfl | omega
/-- the byte at which the class's reader stands -/
abbrev cb (φ : hf_F) : Int := φ 2 (φ 1 4).toNat
noncomputable def AD (φ : hf_F) : hf_F :=
  if φ 1 3 < φ 1 2 ∧ φ 1 3 ≤ φ 1 4 then hf_up (hf_up (hf_up φ 1 6 (φ 1 4)) 1 6 (φ 1 3)) 1 5 1
  else if φ 1 2 ≤ φ 1 4 then hf_up (hf_up φ 1 6 (φ 1 4)) 1 5 0
  else if (97 ≤ cb φ ∧ cb φ ≤ 122) ∨ (48 ≤ cb φ ∧ cb φ ≤ 57) then F_Reader_readRun_1 (hf_up φ 1 6 (φ 1 4))
  else if SGN (cb φ) then hf_up (hf_up (hf_up (hf_up φ 1 6 (φ 1 4)) 1 7 (cb φ)) 1 5 5) 1 4 (φ 1 4 + 1)
  else hf_up (hf_up (hf_up (hf_up φ 1 6 (φ 1 4)) 1 7 (cb φ)) 1 5 1) 1 4 (φ 1 4 + 1)
theorem adv_s {φ : hf_F} (n : Nat) : F_Reader_advance_1_l0 (n + 1) φ = if φ 1 4 < φ 1 2 ∧ (cb φ = 32 ∨ cb φ = 10) then F_Reader_advance_1_l0 n (hf_up φ 1 4 (φ 1 4 + 1)) else AD φ := by
  rw [F_Reader_advance_1_l0_s]
  unfold AD cb
  simp only [bnp, bnv, isl_z, isd_z, isb_z, iss_z]
  by_cases a1 : φ 1 2 ≤ φ 1 4 <;> by_cases a2 : φ 1 2 ≤ φ 1 3 <;> by_cases a3 : φ 1 4 < φ 1 3
  all_goals repeat' split
  all_goals first | rfl | omega
theorem adv_0 {φ : hf_F} : F_Reader_advance_1 φ = F_Reader_advance_1_l0 ((940 - (hf_up φ 1 4 ((φ 1 4) + 1)) 1 4 : Int).toNat + 1 + 1) φ := rfl
noncomputable def RD (φ : hf_F) (l1 l2 l3 l4 : Int) : hf_F :=
  if l2 = 0 ∧ l1 ≤ 7 then F_Reader_takeWord_1 φ l4 else if l1 = 0 ∧ l2 ≤ 3 then hf_up (hf_up φ 1 5 4) 1 7 l3 else hf_up φ 1 5 1
theorem run_s {φ : hf_F} {l1 l2 l3 l4 : Int} (n : Nat) : F_Reader_readRun_1_l9 (n + 1) φ l1 l2 l3 l4 =
    if φ 1 4 < φ 1 2 ∧ (97 ≤ cb φ ∧ cb φ ≤ 122) then F_Reader_readRun_1_l9 n (hf_up φ 1 4 (φ 1 4 + 1)) (l1 + 1) l2 l3 (l4 * 32 + hb_i2l ((cb φ - 97) + 1))
    else if φ 1 4 < φ 1 2 ∧ (48 ≤ cb φ ∧ cb φ ≤ 57) then F_Reader_readRun_1_l9 n (hf_up φ 1 4 (φ 1 4 + 1)) l1 (l2 + 1) (l3 * 10 + (cb φ - 48)) l4
    else RD φ l1 l2 l3 l4 := by
  rw [F_Reader_readRun_1_l9_s]
  unfold RD cb
  simp only [bnp, bnv, isl_z, isd_z, F_Reader_packed]
  by_cases a1 : φ 1 2 ≤ φ 1 4 <;> by_cases a2 : l2 = 0 <;> by_cases a3 : l1 = 0
  all_goals repeat' split
  all_goals first | rfl | omega
/-- the model's reader -/
noncomputable def MW (χ : hf_F) : hf_F := if χ 192 13 < 7 then hf_up χ 192 17 (hb_lor (hb_lshl (χ 192 17) 8) (hb_i2l (pk χ))) else χ
noncomputable def MN (χ : hf_F) : hf_F := if χ 192 13 < 3 then hf_up (MW χ) 192 14 (10 * χ 192 14 + pk χ - 48) else MW χ
noncomputable def MU (χ : hf_F) : hf_F := hf_up (hf_up (MN χ) 192 13 (χ 192 13 + 1)) 192 4 (χ 192 4 + 1)
theorem pk_up {χ : hf_F} {k : Nat} {v : Int} (h : ¬ k = 3 ∧ ¬ k = 4) : pk (hf_up χ 192 k v) = pk χ := by
  unfold pk
  rw [hf_up_ne (fun q => h.2 q.2.symm), hf_up_ne (fun q => h.1 q.2.symm), hf_up_ne (fun q => absurd q.1 (by decide))]
theorem mrun_s {χ : hf_F} {c s a : Int} (n : Nat) : F_RideLawsModel_next_192_l181 (n + 1) χ c s a =
    if (97 ≤ pk χ ∧ pk χ ≤ 122) ∨ (48 ≤ pk χ ∧ pk χ ≤ 57) then F_RideLawsModel_next_192_l181 n (MU χ) c s (if a = 0 then 0 else if F_RideLawsModel_isSmall χ (pk χ) = s then 1 else 0)
    else hf_up χ 192 11 (if a = 0 then 4 else if s = 0 then (if χ 192 13 ≤ 3 then 2 else 4) else (if χ 192 13 ≤ 7 then 1 else 4)) := by
  rw [F_RideLawsModel_next_192_l181_s]
  simp only [bnp, bnv, ism_z, imd_z, peek_e, pk_up (χ := χ) (show ¬ 17 = 3 ∧ ¬ 17 = 4 by decide)]
  by_cases a1 : (97 ≤ pk χ ∧ pk χ ≤ 122) <;> by_cases a2 : (48 ≤ pk χ ∧ pk χ ≤ 57) <;> by_cases a3 : a = 0 <;> by_cases a4 : F_RideLawsModel_isSmall χ (pk χ) = s <;> by_cases a5 : χ 192 13 < 7 <;> by_cases a6 : χ 192 13 < 3 <;> by_cases a7 : s = 0
  all_goals first
    | (exfalso; omega)
    | (have b5 : (7 ≤ χ 192 13) = ¬ (χ 192 13 < 7) := propext (by constructor <;> intro h <;> omega)
       have b6 : (3 ≤ χ 192 13) = ¬ (χ 192 13 < 3) := propext (by constructor <;> intro h <;> omega)
       simp only [MU, MN, MW, b5, b6, a1, a2, a3, a4, a5, a6, a7, if_true, if_false, not_true, not_false_iff, or_true, true_or, or_false, or_self, and_self]
       repeat' split
       all_goals first | rfl | omega)
