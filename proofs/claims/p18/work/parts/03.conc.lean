/-! what the Int machine's values, cells and locals are in the Java machine -/
noncomputable def jm_cv (ad : Nat → Nat) (fmt : Value) (v : jm_V) : Value := match v.1 with
  | 0 => .int (Int32.ofInt v.2)
  | 1 => .long (Int64.ofInt v.2)
  | 2 => if v.2 < 0 then .null else .ref (ad 0 + v.2.toNat)
  | 3 => fmt
  | _ => .ref (ad v.2.toNat)
noncomputable def jm_tg (t : Nat) : Nat := if t = 3 then 0 else t
noncomputable def jm_ce (aC : Nat → ClassId) (ad : Nat → Nat) (fmt : Value) (c : jm_C) : va_E := match c.1 with
  | 0 => .inl (aC 0, c.2.length, .inl (fun j => Int32.ofInt (c.2.getD j 0)))
  | 1 => .inl (aC 1, c.2.length, .inl (fun j => Int32.ofInt (c.2.getD j 0)))
  | 2 => .inl (aC 2, c.2.length, .inr (.inl (fun j => Int64.ofInt (c.2.getD j 0))))
  | 3 => .inl (aC 3, c.2.length, .inl (fun j => Int32.ofInt (c.2.getD j 0)))
  | 4 => .inl (aC 4, c.2.length, .inr (.inr (.inr (.inr (fun j => if c.2.getD j 0 < 0 then none else some (ad 0 + (c.2.getD j 0).toNat))))))
  | k => .inr (k - 10, List.zipWith (fun t z => jm_cv ad fmt (jm_tg t, z)) (g_ft.getD (k - 10) []) c.2)
noncomputable def jm_ws (aC : Nat → ClassId) (ad : Nat → Nat) (fmt : Value) (cs : List jm_C) : va_W := cs.zipIdx.map (fun q => (ad 0 + q.2, jm_ce aC ad fmt q.1))
noncomputable def jm_ls (ad : Nat → Nat) (fmt : Value) (L : jm_L) : List (Nat × Value) := L.map (fun q => (q.1, jm_cv ad fmt q.2))
noncomputable def jm_A (ad : Nat → Nat) : Nat → Prop := fun q => ad 0 ≤ q
noncomputable def jm_tys (aC : Nat → ClassId) : List (ClassId × FieldType) := [(aC 0, .int), (aC 1, .byte), (aC 2, .long), (aC 3, .boolean), (aC 4, .object "RideLaws$State")]
noncomputable def jm_cn (h : jm_H) : Nat := h.1.length + h.2
noncomputable def jm_sl (h : jm_H) : Nat := (h.1.map (fun c => c.2.length)).sum + 6 * h.2
section
variable {aC : Nat → ClassId} {ad : Nat → Nat} {fmt : Value}
theorem jm_cv0 {v : jm_V} (h : v.1 = 0) : jm_cv ad fmt v = .int (Int32.ofInt v.2) := by obtain ⟨t, z⟩ := v; cases h; rfl
theorem jm_cv1 {v : jm_V} (h : v.1 = 1) : jm_cv ad fmt v = .long (Int64.ofInt v.2) := by obtain ⟨t, z⟩ := v; cases h; rfl
theorem jm_cv2 {v : jm_V} (h : v.1 = 2) (h2 : 0 ≤ v.2) : jm_cv ad fmt v = .ref (ad 0 + v.2.toNat) := by
  obtain ⟨t, z⟩ := v; cases h; exact if_neg (by dsimp at h2; omega)
theorem jm_cv3 {v : jm_V} (h : v.1 = 3) : jm_cv ad fmt v = fmt := by obtain ⟨t, z⟩ := v; cases h; rfl
theorem jm_cv4 {v : jm_V} (h : v.1 = 4) : jm_cv ad fmt v = .ref (ad v.2.toNat) := by obtain ⟨t, z⟩ := v; cases h; rfl
theorem jm_cvc (hf : fmt.category = 1) (v : jm_V) : (jm_cv ad fmt v).category = if v.1 = 1 then 2 else 1 := by
  obtain ⟨t, z⟩ := v
  match t with
  | 0 => rfl
  | 1 => rfl
  | 2 => show (if z < 0 then Value.null else Value.ref _).category = _; split <;> rfl
  | 3 => exact hf
  | t + 4 => rfl
theorem jm_wsg (cs : List jm_C) (i : Nat) : (jm_ws aC ad fmt cs)[i]? = (cs[i]?).map (fun c => (ad 0 + i, jm_ce aC ad fmt c)) := by
  unfold jm_ws
  rw [List.getElem?_map, List.getElem?_zipIdx]
  cases cs[i]? <;> simp
theorem jm_wsset (cs : List jm_C) (i : Nat) (c : jm_C) : jm_ws aC ad fmt (cs.set i c) = (jm_ws aC ad fmt cs).set i (ad 0 + i, jm_ce aC ad fmt c) := by
  apply List.ext_getElem?
  intro j
  rw [jm_wsg, List.getElem?_set, List.getElem?_set, jm_wsg]
  by_cases h : i = j
  · subst h
    have hl : (jm_ws aC ad fmt cs).length = cs.length := by simp [jm_ws]
    simp only [if_true, hl]
    split <;> rfl
  · simp [h]
theorem jm_wsapp (cs : List jm_C) (c : jm_C) : jm_ws aC ad fmt (cs ++ [c]) = jm_ws aC ad fmt cs ++ [(ad 0 + cs.length, jm_ce aC ad fmt c)] := by
  simp [jm_ws, List.zipIdx_append]
theorem jm_wsD (cs : List jm_C) : va_D (jm_A ad) (jm_ws aC ad fmt cs) := by
  refine ⟨fun i j p q hi hj hpq => ?_, fun k q hk => ?_⟩
  · rw [jm_wsg] at hi hj
    cases h1 : cs[i]? with
    | none => rw [h1] at hi; cases hi
    | some x =>
      cases h2 : cs[j]? with
      | none => rw [h2] at hj; cases hj
      | some y =>
        rw [h1] at hi; rw [h2] at hj
        cases hi; cases hj
        dsimp at hpq
        omega
  · rw [jm_wsg] at hk
    cases h1 : cs[k]? with
    | none => rw [h1] at hk; cases hk
    | some x => rw [h1] at hk; cases hk; exact Nat.le_add_right _ _
theorem jm_cellw {h : jm_H} {a : Int} {c : jm_C} (hc : jm_cell h a = some c) : 0 ≤ a ∧ h.1[a.toNat]? = some c ∧ (jm_ws aC ad fmt h.1)[a.toNat]? = some (ad 0 + a.toNat, jm_ce aC ad fmt c) := by
  unfold jm_cell at hc
  split at hc
  · cases hc
  · exact ⟨by omega, hc, by rw [jm_wsg, hc]; rfl⟩
theorem jm_nl_in {i : Int} {n k : Nat} (h : jm_ix i n = some k) : vp_in (Int32.ofInt i) n ∧ (Int32.ofInt i).toNatClampNeg = k ∧ k < n := by
  unfold jm_ix at h
  split at h
  · rename_i h1
    cases h
    refine ⟨fun q => ?_, rfl, h1.2⟩
    rcases q with q | q
    · have := Int32.lt_iff_toInt_lt.mp q
      have h2 := h1.1
      unfold jm_n at h2
      rw [show (0 : Int32).toInt = 0 from rfl] at this
      omega
    · have h2 := h1.2
      unfold jm_n at h2
      exact absurd h2 (Nat.not_lt.mpr q)
  · cases h
theorem jm_getl {L : jm_L} {i : Nat} {v : jm_V} (h : jm_get L i = some v) : ∃ k : Nat, (jm_ls ad fmt L)[k]? = some (i, jm_cv ad fmt v) := by
  unfold jm_get at h
  cases h1 : L.find? (fun q => q.1 == i) with
  | none => rw [h1] at h; cases h
  | some q =>
    rw [h1] at h
    cases h
    have h2 := List.mem_of_find?_eq_some h1
    have h3 := List.find?_some h1
    obtain ⟨k, hk⟩ := List.getElem?_of_mem h2
    refine ⟨k, ?_⟩
    unfold jm_ls
    rw [List.getElem?_map, hk]
    simp at h3
    simp [h3]
theorem jm_lst1 (hf : fmt.category = 1) (L : jm_L) (i : Nat) (v : jm_V) : (i, jm_cv ad fmt v) :: (jm_ls ad fmt L).filter (fun q => !(q.1 == i) && !(q.1 + 1 == i && q.2.category == 2)) = jm_ls ad fmt (jm_st1 L i v) := by
  unfold jm_ls jm_st1
  rw [List.map_cons, List.filter_map]
  congr 2
  apply List.filter_congr
  intro q _
  have := jm_cvc (ad := ad) hf q.2
  by_cases h1 : q.2.1 = 1 <;> simp [this, h1]
theorem jm_lst2 (hf : fmt.category = 1) (L : jm_L) (i : Nat) (v : jm_V) : (i, jm_cv ad fmt v) :: (jm_ls ad fmt L).filter (fun q => !(q.1 == i) && (!(q.1 == i + 1) && !(q.1 + 1 == i && q.2.category == 2))) = jm_ls ad fmt (jm_st2 L i v) := by
  unfold jm_ls jm_st2
  rw [List.map_cons, List.filter_map]
  congr 2
  apply List.filter_congr
  intro q _
  have := jm_cvc (ad := ad) hf q.2
  by_cases h1 : q.2.1 = 1
  · simp [this, h1]
  · have h2 : (q.2.1 == 1) = false := by simp [h1]
    simp [this, h1, h2]
theorem jm_slset {cs : List jm_C} {i : Nat} {c c' : jm_C} (h : cs[i]? = some c) (hl : c'.2.length = c.2.length) : ((cs.set i c').map (fun c => c.2.length)).sum = (cs.map (fun c => c.2.length)).sum := by
  have : (cs.set i c').map (fun c => c.2.length) = cs.map (fun c => c.2.length) := by
    apply List.ext_getElem?
    intro j
    rw [List.getElem?_map, List.getElem?_map, List.getElem?_set]
    by_cases hj : i = j
    · subst hj
      have hlt := (List.getElem?_eq_some_iff.mp h).1
      rw [if_pos rfl, if_pos hlt, h]
      simp [hl]
    · simp [hj]
  rw [this]
end
