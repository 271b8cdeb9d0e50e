/-! what is asked: able, power, part -/
theorem need_e {φ χ : hf_F} (hI : Inv χ) (h : SCR φ χ) (l : Int) (h0 : 0 ≤ l) (hl : l < χ 194 4) : F_Outlook_needs_187 φ l = F_RideLawsModel_needOf_192 χ l := by
  obtain ⟨l1, l2, _⟩ := h.1.2.2.2.2.1 l.toNat (by omega)
  have l1' : φ 13 l.toNat = χ 194 (75 + l.toNat) := l1
  have l2' : φ 14 l.toNat = χ 194 (83 + l.toNat) := l2
  unfold F_Outlook_needs_187 F_RideLawsModel_needOf_192
  rw [show (75 + l).toNat = 75 + l.toNat by omega, show (83 + l).toNat = 83 + l.toNat by omega, l1', l2']
theorem able_l {φ χ : hf_F} {l : Int} (e3 : φ 6 3 = χ 194 3) (h3 : χ 194 3 ≤ 6) (hk : ∀ r : Int, 0 ≤ r → r < 6 → F_State_knownBy_17 φ r = F_RideLawsModel_knownTo_192 χ r) (hn : F_Outlook_needs_187 φ l = F_RideLawsModel_needOf_192 χ l) :
    ∀ (n m : Nat) (b k : Int), 6 - k < n → 6 - k < m → 0 ≤ k → k ≤ 6 → hi b → F_RideLawsModel_able_192_l19 m χ l b k = (F_Outlook_ridersAble_187_l4 n φ l b k, χ) := by
  intro n
  induction n with
  | zero => intro m b k h1 h2 h3 h4; omega
  | succ n ih =>
    intro m b k h1 h2 h4 h5 hb
    obtain ⟨m, rfl⟩ : ∃ j, m = j + 1 := ⟨m - 1, by omega⟩
    rw [F_Outlook_ridersAble_187_l4_s, F_RideLawsModel_able_192_l19_s, e3]
    by_cases c : χ 194 3 ≤ k
    · rw [if_pos c, if_pos c]
    · rw [if_neg c, if_neg c, bnp_e (hk k h4 (by omega)), bnp_e rfl, bnp_e hn, bnp_e rfl, or0 hb]
      by_cases c2 : hb_and (F_RideLawsModel_knownTo_192 χ k) (F_RideLawsModel_needOf_192 χ l) = 0
      · rw [if_pos c2, if_pos c2]
        exact ih m b (k + 1) (by omega) (by omega) (by omega) (by omega) hb
      · rw [if_neg c2, if_neg c2]
        exact ih m _ (k + 1) (by omega) (by omega) (by omega) (by omega) (hr_or _ _)
theorem able_q {φ χ ξ : hf_F} {v r s : Int} (hI : Inv χ) (h : SCR φ χ) (e1 : F_RideLaws_able_0 φ v = r) (e2 : F_RideLawsModel_able_192 χ v = (s, ξ)) : r = s := by
  have h0 := scr_0 (cb_i hI) h
  have hI0 := inv_0 hI
  unfold F_RideLaws_able_0 at e1
  unfold F_RideLawsModel_able_192 at e2
  generalize hf_up χ 192 0 0 = χ0 at e2 h0 hI0
  have hbb := cb_i hI0
  unfold CB at hbb
  have k4 : φ 6 4 = χ0 194 4 := h0.1.1.2.2.2.2
  rw [bnp_e (has_e4 φ v), k4] at e1
  rw [bnp_e (islaw_e _ v)] at e2
  by_cases c : 0 ≤ v ∧ v < χ0 194 4
  · rw [if_pos c, if_neg (by decide), bnp_e rfl] at e1
    rw [if_pos (show 0 ≤ v ∧ v ≤ χ0 194 4 - 1 by omega), if_pos (by decide)] at e2
    have hl := able_l (φ := φ) (χ := χ0) (l := v) h0.1.1.2.2.2.1 (by omega) (fun q q1 q2 => knb_i h0.2.1 q q1 q2) (need_e hI0 h0 v c.1 c.2) ((6 - 0 : Int).toNat + 1) ((6 - 0 : Int).toNat + 1) 0 0 (by decide) (by decide) (by decide) (by decide) (by unfold hi; decide)
    rw [e2] at hl
    have hs := congrArg Prod.fst hl
    dsimp only at hs
    rw [hs, ← e1]
    rfl
  · rw [if_neg c, if_pos rfl] at e1
    rw [if_neg (show ¬ (0 ≤ v ∧ v ≤ χ0 194 4 - 1) by omega), if_neg (fun q => q rfl)] at e2
    cases e2
    exact e1.symm
/-! sets -/
theorem bv_sub (a b : BitVec 32) : a &&& b = b ↔ b &&& (a ^^^ BitVec.allOnes 32) = 0#32 := by
  constructor
  · intro h
    apply BitVec.eq_of_getLsbD_eq
    intro i hi2
    have h2 : (a &&& b).getLsbD i = b.getLsbD i := congrArg (fun x : BitVec 32 => x.getLsbD i) h
    rw [BitVec.getLsbD_and] at h2
    rw [BitVec.getLsbD_and, BitVec.getLsbD_xor, BitVec.getLsbD_allOnes, BitVec.getLsbD_zero, decide_eq_true hi2]
    cases ha : a.getLsbD i <;> cases hb2 : b.getLsbD i <;> rw [ha, hb2] at h2 <;> revert h2 <;> decide
  · intro h
    apply BitVec.eq_of_getLsbD_eq
    intro i hi2
    have h2 : (b &&& (a ^^^ BitVec.allOnes 32)).getLsbD i = (0#32).getLsbD i := congrArg (fun x : BitVec 32 => x.getLsbD i) h
    rw [BitVec.getLsbD_and, BitVec.getLsbD_xor, BitVec.getLsbD_allOnes, BitVec.getLsbD_zero, decide_eq_true hi2] at h2
    rw [BitVec.getLsbD_and]
    cases ha : a.getLsbD i <;> cases hb2 : b.getLsbD i <;> rw [ha, hb2] at h2 <;> revert h2 <;> decide
theorem and_all (z n : Int) : hb_and z n = jm_n n ↔ hb_and n (hb_xor z (-1)) = 0 := by
  unfold hb_and hb_xor jm_n
  rw [Int32.ofInt_toInt, Int32.toInt_inj, show (0 : Int) = (0 : Int32).toInt from rfl, Int32.toInt_inj, ← Int32.toBitVec_inj, ← Int32.toBitVec_inj, Int32.toBitVec_and, Int32.toBitVec_and, Int32.toBitVec_xor]
  rw [show (Int32.ofInt (-1)).toBitVec = BitVec.allOnes 32 by decide, show (0 : Int32).toBitVec = 0#32 from rfl]
  exact bv_sub _ _
theorem or_as (a b c : Int) : hb_or (hb_or a b) c = hb_or a (hb_or b c) := by
  unfold hb_or
  rw [Int32.ofInt_toInt, Int32.ofInt_toInt, Int32.or_assoc]
theorem or_co (a b : Int) : hb_or a b = hb_or b a := by
  unfold hb_or
  rw [Int32.or_comm]
theorem or_sw (a b c : Int) : hb_or (hb_or a b) c = hb_or (hb_or a c) b := by
  rw [or_as, or_as, or_co b c]
theorem bit_ins0 : ∀ (s : Fin 64) (r i : Fin 6), hb_and (hb_shr (hb_or (s.1 : Int) (hb_shl 1 (r.1 : Int))) (i.1 : Int)) 1 = if i.1 = r.1 then 1 else hb_and (hb_shr (s.1 : Int) (i.1 : Int)) 1 := by decide +kernel
theorem bit_ins {s r i : Int} (hs : 0 ≤ s ∧ s < 64) (hr : 0 ≤ r ∧ r < 6) (hi2 : 0 ≤ i ∧ i < 6) : hb_and (hb_shr (hb_or s (hb_shl 1 r)) i) 1 = if i = r then 1 else hb_and (hb_shr s i) 1 := by
  have := bit_ins0 ⟨s.toNat, by omega⟩ ⟨r.toNat, by omega⟩ ⟨i.toNat, by omega⟩
  dsimp only at this
  rw [show ((s.toNat : Nat) : Int) = s by omega, show ((r.toNat : Nat) : Int) = r by omega, show ((i.toNat : Nat) : Int) = i by omega] at this
  rw [this]
  by_cases c : i = r
  · rw [if_pos c, if_pos (by omega)]
  · rw [if_neg c, if_neg (by omega)]
/-- what a set knows, with one more in it -/
theorem kna_l {χ : hf_F} (h3 : χ 194 3 ≤ 6) {s t r : Int} (hr : 0 ≤ r) (hr3 : r < χ 194 3) (hb1 : ∀ i : Int, 0 ≤ i → i < 6 → hb_and (hb_shr t i) 1 = if i = r then 1 else hb_and (hb_shr s i) 1) (hb0 : hb_and (hb_shr s r) 1 = 0) :
    ∀ (n m : Nat) (b c k : Int), 6 - k < n → 6 - k < m → 0 ≤ k → k ≤ 6 → hi b → hi c → ((k ≤ r ∧ c = b) ∨ (r < k ∧ c = hb_or b (F_RideLawsModel_knownTo_192 χ r))) → F_RideLawsModel_knownToAll_192_l4 n χ t c k = hb_or (F_RideLawsModel_knownToAll_192_l4 m χ s b k) (F_RideLawsModel_knownTo_192 χ r) := by
  intro n
  induction n with
  | zero => intro m b c k h1 h2 h3 h4; omega
  | succ n ih =>
    intro m b c k h1 h2 h4 h5 hb hc hh
    obtain ⟨m, rfl⟩ : ∃ j, m = j + 1 := ⟨m - 1, by omega⟩
    rw [F_RideLawsModel_knownToAll_192_l4_s, F_RideLawsModel_knownToAll_192_l4_s]
    by_cases c1 : χ 194 3 ≤ k
    · rw [if_pos c1, if_pos c1]
      rcases hh with ⟨q, _⟩ | ⟨_, q⟩
      · omega
      · exact q
    · have hbk := hb1 k h4 (by omega)
      have bt := bit_e (φ := χ) (v := t) (k := k)
      have bs := bit_e (φ := χ) (v := s) (k := k)
      rw [if_neg c1, if_neg c1, bnp_e rfl, bnp_e rfl, bnp_e rfl, bnp_e rfl, or0 hb, or0 hc]
      by_cases ck : k = r
      · rw [if_pos ck] at hbk
        rw [if_neg (show ¬ F_RideLawsModel_bitOf χ t k = 0 by rw [bt, hbk]; decide), if_pos (show F_RideLawsModel_bitOf χ s k = 0 by rw [bs, ck]; exact hb0)]
        refine ih m _ _ (k + 1) (by omega) (by omega) (by omega) (by omega) hb (hr_or _ _) (Or.inr ⟨by omega, ?_⟩)
        rcases hh with ⟨_, q⟩ | ⟨q, _⟩
        · rw [q, ck]
        · omega
      · rw [if_neg ck] at hbk
        by_cases c2 : hb_and (hb_shr s k) 1 = 0
        · rw [if_pos (show F_RideLawsModel_bitOf χ t k = 0 by rw [bt, hbk]; exact c2), if_pos (show F_RideLawsModel_bitOf χ s k = 0 by rw [bs]; exact c2)]
          refine ih m _ _ (k + 1) (by omega) (by omega) (by omega) (by omega) hb hc ?_
          rcases hh with ⟨q1, q2⟩ | ⟨q1, q2⟩
          · exact Or.inl ⟨by omega, q2⟩
          · exact Or.inr ⟨by omega, q2⟩
        · rw [if_neg (show ¬ F_RideLawsModel_bitOf χ t k = 0 by rw [bt, hbk]; exact c2), if_neg (show ¬ F_RideLawsModel_bitOf χ s k = 0 by rw [bs]; exact c2)]
          refine ih m _ _ (k + 1) (by omega) (by omega) (by omega) (by omega) (hr_or _ _) (hr_or _ _) ?_
          rcases hh with ⟨q1, q2⟩ | ⟨q1, q2⟩
          · exact Or.inl ⟨by omega, by rw [q2]⟩
          · exact Or.inr ⟨by omega, by rw [q2, or_sw]⟩
theorem kno_l {φ χ : hf_F} (e3 : φ 6 3 = χ 194 3) (h3 : χ 194 3 ≤ 6) (hk : ∀ r : Int, 0 ≤ r → r < 6 → F_State_knownBy_17 φ r = F_RideLawsModel_knownTo_192 χ r) (s : Int) :
    ∀ (n m : Nat) (b k : Int), 6 - k < n → 6 - k < m → 0 ≤ k → k ≤ 6 → hi b → F_Outlook_knownTo_187_l4 n φ s b k = F_RideLawsModel_knownToAll_192_l4 m χ s b k := by
  intro n
  induction n with
  | zero => intro m b k h1 h2 h3 h4; omega
  | succ n ih =>
    intro m b k h1 h2 h4 h5 hb
    obtain ⟨m, rfl⟩ : ∃ j, m = j + 1 := ⟨m - 1, by omega⟩
    have bs := bit_e (φ := χ) (v := s) (k := k)
    rw [F_Outlook_knownTo_187_l4_s, F_RideLawsModel_knownToAll_192_l4_s, e3]
    by_cases c : χ 194 3 ≤ k
    · rw [if_pos c, if_pos c]
    · rw [if_neg c, if_neg c, bnp_e (hk k h4 (by omega)), bnp_e rfl, bnp_e rfl, or0 hb]
      by_cases c2 : hb_and (hb_shr s k) 1 = 0
      · rw [if_pos c2, if_pos (show F_RideLawsModel_bitOf χ s k = 0 by rw [bs]; exact c2)]
        exact ih m b (k + 1) (by omega) (by omega) (by omega) (by omega) hb
      · rw [if_neg c2, if_neg (show ¬ F_RideLawsModel_bitOf χ s k = 0 by rw [bs]; exact c2)]
        exact ih m _ (k + 1) (by omega) (by omega) (by omega) (by omega) (hr_or _ _)
noncomputable def CNT (r : Int) (k : Nat) : Int := Nat.rec (motive := fun _ => Int) 0 (fun i c => if hb_and (hb_shr (i : Int) r) 1 = 0 then c + 1 else c) k
theorem cnt_s (r : Int) (k : Nat) : CNT r (k + 1) = if hb_and (hb_shr (k : Int) r) 1 = 0 then CNT r k + 1 else CNT r k := rfl
theorem cnt_0 : ∀ (n : Fin 7) (r : Fin 6), r.1 < n.1 → CNT (r.1 : Int) ((hb_shl 1 (n.1 : Int)).toNat) = hb_shl 1 ((n.1 : Int) - 1) := by decide +kernel
theorem cnt_e {n r : Int} (hn : n ≤ 6) (hr : 0 ≤ r) (hrn : r < n) : CNT r ((hb_shl 1 n).toNat) = hb_shl 1 (n - 1) := by
  have := cnt_0 ⟨n.toNat, by omega⟩ ⟨r.toNat, by omega⟩ (by show r.toNat < n.toNat; omega)
  dsimp only at this
  rw [show ((n.toNat : Nat) : Int) = n by omega, show ((r.toNat : Nat) : Int) = r by omega] at this
  exact this
theorem shl_r0 : ∀ n : Fin 7, 1 ≤ hb_shl 1 (n.1 : Int) ∧ hb_shl 1 (n.1 : Int) ≤ 64 := by decide +kernel
theorem shl_r {n : Int} (h0 : 0 ≤ n) (h6 : n ≤ 6) : 1 ≤ hb_shl 1 n ∧ hb_shl 1 n ≤ 64 := by
  have := shl_r0 ⟨n.toNat, by omega⟩
  dsimp only at this
  rw [show ((n.toNat : Nat) : Int) = n by omega] at this
  exact this
noncomputable def PFIN (χ : hf_F) (w a b : Int) : Int × hf_F := (if ¬ w = 0 then (bnp (F_RideLawsModel_common χ a b) (fun z3 => ((jm_n a).tdiv (jm_n z3), χ))) else (bnp (F_RideLawsModel_common χ a b) (fun z6 => ((jm_n b).tdiv (jm_n z6), χ))))
theorem pow_l {φ χ : hf_F} {r l w nd hs : Int} (e3 : φ 6 3 = χ 194 3) (h3 : χ 194 3 ≤ 6) (hr : 0 ≤ r) (hr3 : r < χ 194 3) (hnd : F_RideLawsModel_needOf_192 χ l = nd) (hhs : F_RideLawsModel_knownTo_192 χ r = hs)
    (hk : ∀ r : Int, 0 ≤ r → r < 6 → F_State_knownBy_17 φ r = F_RideLawsModel_knownTo_192 χ r) :
    ∀ (n m : Nat) (t i : Int), 256 - i < n → 256 - i < m → 0 ≤ i → i ≤ hb_shl 1 (χ 194 3) → F_RideLawsModel_power_192_l48 m χ r l w (CNT r i.toNat) t i = PFIN χ w (CNT r (hb_shl 1 (χ 194 3)).toNat) (F_Outlook_setsTurned_187_l22 n φ r l nd hs t i) := by
  have hsh := shl_r (n := χ 194 3) (by omega) h3
  intro n
  induction n with
  | zero => intro m t i h1 h2 h4 h5; omega
  | succ n ih =>
    intro m t i h1 h2 h4 h5
    obtain ⟨m, rfl⟩ : ∃ j, m = j + 1 := ⟨m - 1, by omega⟩
    have bs := bit_e (φ := χ) (v := i) (k := r)
    rw [F_Outlook_setsTurned_187_l22_s, F_RideLawsModel_power_192_l48_s, e3]
    by_cases c : hb_shl 1 (χ 194 3) ≤ i
    · rw [if_pos c, if_pos c, show i = hb_shl 1 (χ 194 3) by omega]
      rfl
    · have hcn : CNT r ((i + 1).toNat) = if hb_and (hb_shr i r) 1 = 0 then CNT r i.toNat + 1 else CNT r i.toNat := by
        rw [show (i + 1).toNat = i.toNat + 1 by omega, cnt_s, show ((i.toNat : Nat) : Int) = i by omega]
      rw [if_neg c, if_neg c, bnp_e rfl]
      by_cases c2 : hb_and (hb_shr i r) 1 = 0
      · rw [if_pos c2] at hcn
        have hkn : F_Outlook_knownTo_187 φ i = F_RideLawsModel_knownToAll_192 χ i := kno_l e3 h3 hk i _ _ 0 0 (by decide) (by decide) (by decide) (by decide) (by unfold hi; decide)
        have hkx : F_RideLawsModel_knownToAll_192 χ (hb_or i (hb_shl 1 r)) = hb_or (F_RideLawsModel_knownToAll_192 χ i) hs := by
          rw [← hhs]
          exact kna_l h3 hr hr3 (fun q q1 q2 => bit_ins ⟨h4, by omega⟩ ⟨hr, by omega⟩ ⟨q1, q2⟩) c2 _ _ 0 0 0 (by decide) (by decide) (by decide) (by decide) (by unfold hi; decide) (by unfold hi; decide) (Or.inl ⟨hr, rfl⟩)
        rw [if_neg (show ¬ ¬ hb_and (hb_shr i r) 1 = 0 from fun q => q c2), if_pos (show F_RideLawsModel_bitOf χ i r = 0 by rw [bs]; exact c2), bnp_e hkn, bnp_e hnd, bnp_e rfl, bnp_e hnd, bnp_e hkx]
        have a1 := and_all (F_RideLawsModel_knownToAll_192 χ i) nd
        have a2 := and_all (hb_or (F_RideLawsModel_knownToAll_192 χ i) hs) nd
        by_cases c3 : hb_and (F_RideLawsModel_knownToAll_192 χ i) nd = jm_n nd
        · rw [if_pos c3, if_pos (show hb_and nd (hb_xor (F_RideLawsModel_knownToAll_192 χ i) (-1)) = 0 from a1.mp c3), ← hcn]
          exact ih m t (i + 1) (by omega) (by omega) (by omega) (by omega)
        · rw [if_neg c3, if_neg (show ¬ hb_and nd (hb_xor (F_RideLawsModel_knownToAll_192 χ i) (-1)) = 0 from fun q => c3 (a1.mpr q))]
          by_cases c4 : hb_and (hb_or (F_RideLawsModel_knownToAll_192 χ i) hs) nd = jm_n nd
          · rw [if_neg (show ¬ ¬ hb_and (hb_or (F_RideLawsModel_knownToAll_192 χ i) hs) nd = jm_n nd from fun q => q c4), if_neg (show ¬ ¬ hb_and nd (hb_xor (hb_or (F_RideLawsModel_knownToAll_192 χ i) hs) (-1)) = 0 from fun q => q (a2.mp c4)), ← hcn]
            exact ih m (t + 1) (i + 1) (by omega) (by omega) (by omega) (by omega)
          · rw [if_pos (show ¬ hb_and (hb_or (F_RideLawsModel_knownToAll_192 χ i) hs) nd = jm_n nd from c4), if_pos (show ¬ hb_and nd (hb_xor (hb_or (F_RideLawsModel_knownToAll_192 χ i) hs) (-1)) = 0 from fun q => c4 (a2.mpr q)), ← hcn]
            exact ih m t (i + 1) (by omega) (by omega) (by omega) (by omega)
      · rw [if_neg c2] at hcn
        rw [if_pos c2, if_neg (show ¬ F_RideLawsModel_bitOf χ i r = 0 by rw [bs]; exact c2), ← hcn]
        exact ih m t (i + 1) (by omega) (by omega) (by omega) (by omega)
/-! least terms -/
theorem tm_b (a b : Int) (hb : ¬ b = 0) : (a.tmod b).natAbs < b.natAbs := by
  rw [Int.natAbs_tmod]
  exact Nat.mod_lt _ (by omega)
theorem tm_h (a b : Int) (hb : ¬ b = 0) (h1 : ¬ a.tmod b = 0) : 2 * (b.tmod (a.tmod b)).natAbs < b.natAbs := by
  have k1 := tm_b a b hb
  have k2 := tm_b b (a.tmod b) h1
  generalize a.tmod b = q at k1 k2 h1
  rw [Int.natAbs_tmod] at k2 ⊢
  have k3 := Nat.div_add_mod b.natAbs q.natAbs
  have k4 : 0 < b.natAbs / q.natAbs := Nat.div_pos (by omega) (by omega)
  have k5 : q.natAbs * 1 ≤ q.natAbs * (b.natAbs / q.natAbs) := Nat.mul_le_mul_left _ k4
  generalize q.natAbs * (b.natAbs / q.natAbs) = p at k3 k5
  omega
theorem jn_hi (z : Int) : hi (jm_n z) := hb_r32 (Int32.ofInt z)
theorem jn_tm (a b : Int) (hb : ¬ jm_n b = 0) : jm_n ((jm_n a).tmod (jm_n b)) = (jm_n a).tmod (jm_n b) := by
  apply hi_n
  have ha := jn_hi a
  generalize jm_n a = x at ha
  generalize jm_n b = y at hb
  unfold hi at *
  have h1 : (x.tmod y).natAbs ≤ x.natAbs := by rw [Int.natAbs_tmod]; exact Nat.mod_le _ _
  by_cases c : 0 ≤ x
  · have := Int.tmod_nonneg y c
    omega
  · have h3 : 0 ≤ (-x).tmod y := Int.tmod_nonneg y (by omega)
    rw [Int.neg_tmod] at h3
    omega
theorem lst_l {φ χ : hf_F} {v0 v1 v2 x y : Int} : ∀ (j : Nat) (a b i : Int) (n m : Nat), (jm_n b).natAbs < 2 ^ j → 2 * (j : Int) ≤ 64 - i → 64 - i < n → (jm_n b).natAbs < m → (¬ jm_n a = 0 ∨ ¬ jm_n b = 0) → 0 ≤ i →
    F_RideLaws_inLeastTerms_l8 n φ v0 v1 v2 a b i = (jm_n (if ¬ v2 = 0 then v1 else v0)).tdiv (jm_n (F_RideLawsModel_common_l4 m χ x y a b)) := by
  have fin : ∀ (a b i : Int) (n m : Nat), jm_n b = 0 → ¬ jm_n a = 0 → i ≤ 64 → 64 - i < n → 0 < m → F_RideLaws_inLeastTerms_l8 n φ v0 v1 v2 a b i = (jm_n (if ¬ v2 = 0 then v1 else v0)).tdiv (jm_n (F_RideLawsModel_common_l4 m χ x y a b)) := by
    intro a b i n m hb0 h0 hi6 hn hm
    obtain ⟨n, rfl⟩ : ∃ j, n = j + 1 := ⟨n - 1, by omega⟩
    obtain ⟨m, rfl⟩ : ∃ j, m = j + 1 := ⟨m - 1, by omega⟩
    rw [F_RideLaws_inLeastTerms_l8_s, F_RideLawsModel_common_l4_s, if_pos (show jm_n b = 0 from hb0), if_pos (show jm_n b = 0 from hb0), if_pos (show ¬ jm_n a = 0 from h0)]
    by_cases c : v2 = 0
    · rw [if_neg (show ¬ ¬ v2 = 0 from fun q => q c), if_neg (show ¬ ¬ v2 = 0 from fun q => q c)]
      split <;> rfl
    · rw [if_pos (show ¬ v2 = 0 from c), if_pos (show ¬ v2 = 0 from c)]
      split <;> rfl
  intro j
  induction j with
  | zero =>
    intro a b i n m h1 h2 h3 h4 h5 h6
    have hb0 : jm_n b = 0 := by rw [Nat.pow_zero] at h1; omega
    exact fin a b i n m hb0 (by rcases h5 with q | q; exact q; exact absurd hb0 q) (by omega) h3 (by omega)
  | succ j ih =>
    intro a b i n m h1 h2 h3 h4 h5 h6
    by_cases c : jm_n b = 0
    · exact fin a b i n m c (by rcases h5 with q | q; exact q; exact absurd c q) (by omega) h3 (by omega)
    · obtain ⟨n, rfl⟩ : ∃ j, n = j + 1 := ⟨n - 1, by omega⟩
      obtain ⟨m, rfl⟩ : ∃ j, m = j + 1 := ⟨m - 1, by omega⟩
      have k1 := tm_b (jm_n a) (jm_n b) c
      have g1 := jn_tm a b c
      rw [F_RideLaws_inLeastTerms_l8_s, F_RideLawsModel_common_l4_s, if_neg (show ¬ jm_n b = 0 from c), if_neg (show ¬ jm_n b = 0 from c), if_neg (show ¬ 64 ≤ i by omega)]
      by_cases c2 : (jm_n a).tmod (jm_n b) = 0
      · exact fin b _ (i + 1) n m (g1.trans c2) c (by omega) (by omega) (by omega)
      · obtain ⟨n, rfl⟩ : ∃ j, n = j + 1 := ⟨n - 1, by omega⟩
        obtain ⟨m, rfl⟩ : ∃ j, m = j + 1 := ⟨m - 1, by omega⟩
        have k2 := tm_h (jm_n a) (jm_n b) c c2
        have k3 := tm_b (jm_n b) ((jm_n a).tmod (jm_n b)) c2
        have c3 : ¬ jm_n ((jm_n a).tmod (jm_n b)) = 0 := by rw [g1]; exact c2
        have g2 := jn_tm b ((jm_n a).tmod (jm_n b)) c3
        rw [g1] at g2
        have hp : (2 : Nat) ^ (j + 1) = 2 * 2 ^ j := by rw [Nat.pow_succ, Nat.mul_comm]
        rw [F_RideLaws_inLeastTerms_l8_s, F_RideLawsModel_common_l4_s, if_neg c3, if_neg c3, if_neg (show ¬ 64 ≤ i + 1 by omega), g1]
        exact ih ((jm_n a).tmod (jm_n b)) ((jm_n b).tmod ((jm_n a).tmod (jm_n b))) (i + 1 + 1) n m (by rw [g2]; omega) (by omega) (by omega) (by rw [g2]; omega) (Or.inl (by rw [g1]; exact c2)) (by omega)
theorem lst_e {φ χ : hf_F} {v0 v1 v2 : Int} (hz : ¬ jm_n v1 = 0 ∨ ¬ jm_n v0 = 0) : F_RideLaws_inLeastTerms φ v0 v1 v2 = (jm_n (if ¬ v2 = 0 then v1 else v0)).tdiv (jm_n (F_RideLawsModel_common χ v1 v0)) := by
  have hv0 : (jm_n v0).natAbs < 2 ^ 32 := by
    have h0 := jn_hi v0
    unfold hi at h0
    rw [show (2 : Nat) ^ 32 = 4294967296 by decide]
    omega
  exact lst_l (φ := φ) (χ := χ) (v0 := v0) (v1 := v1) (v2 := v2) (x := v1) (y := v0) 32 v1 v0 0 ((64 - 0 : Int).toNat + 1) ((((jm_n v0).natAbs : Int) : Int).toNat + 1) hv0 (by decide) (by decide) (by omega) hz (by decide)
theorem pfin_e {φ χ : hf_F} {w a b : Int} (hz : ¬ jm_n a = 0 ∨ ¬ jm_n b = 0) : PFIN χ w a b = (F_RideLaws_inLeastTerms φ b a w, χ) := by
  unfold PFIN
  rw [lst_e (χ := χ) hz]
  by_cases c : w = 0
  · rw [if_neg (show ¬ ¬ w = 0 from fun q => q c), if_neg (show ¬ ¬ w = 0 from fun q => q c), bnp_e rfl]
  · rw [if_pos (show ¬ w = 0 from c), if_pos (show ¬ w = 0 from c), bnp_e rfl]
theorem power_q {φ χ ξ : hf_F} {v l w s : Int} {o : Option Int} (hJ : Inv φ) (hI : Inv χ) (h : SCR φ χ) (e1 : F_RideLaws_power_0 φ v l w = o) (e2 : F_RideLawsModel_power_192 χ v l w = (s, ξ)) : (o = none ∧ ξ 192 0 = 1) ∨ (o = some s ∧ ξ 192 0 = 0) := by
  have h0 := scr_0 (cb_i hI) h
  have hI0 := inv_0 hI
  have hbb := cb_i hI
  unfold CB at hbb
  have k3 : φ 6 3 = χ 194 3 := h.1.1.2.2.2.1
  have k4 : φ 6 4 = χ 194 4 := h.1.1.2.2.2.2
  have t1 : F_RideLawsModel_throwsIf_192 χ 1 = (1, hf_up χ 192 0 1) := if_neg (by decide)
  have t0 : F_RideLawsModel_throwsIf_192 χ 0 = (0, hf_up χ 192 0 0) := if_pos rfl
  unfold F_RideLaws_power_0 at e1
  unfold F_RideLawsModel_power_192 at e2
  rw [bnp_e (has_e3 φ v), k3] at e1
  rw [bnp_e (isrider_e _ v)] at e2
  by_cases c : 0 ≤ v ∧ v < χ 194 3
  · rw [if_pos c, if_neg (by decide), bnp_e (has_e4 φ l), k4] at e1
    rw [if_pos (show 0 ≤ v ∧ v ≤ χ 194 3 - 1 by omega), if_neg (by decide), bnp_e (islaw_e _ l)] at e2
    by_cases c4 : 0 ≤ l ∧ l < χ 194 4
    · rw [if_pos c4, if_neg (by decide)] at e1
      rw [if_pos (show 0 ≤ l ∧ l ≤ χ 194 4 - 1 by omega), if_neg (by decide), bnp_e (isin_e _ w _ _)] at e2
      by_cases c1 : 0 ≤ w ∧ w ≤ 1
      · rw [if_neg (show ¬ w < 0 by omega), if_pos c1.2, bnp_e rfl, bnp_e rfl] at e1
        rw [if_pos c1, if_pos (by decide), bnd_e t0, if_pos rfl] at e2
        right
        have e3 : φ 6 3 = hf_up χ 192 0 0 194 3 := k3
        have hx3 : hf_up χ 192 0 0 194 3 = χ 194 3 := rfl
        have hx4 : hf_up χ 192 0 0 194 4 = χ 194 4 := rfl
        have hup : hf_up χ 192 0 0 192 0 = 0 := hf_up_eq
        generalize hf_up χ 192 0 0 = χ0 at e2 h0 hI0 e3 hx3 hx4 hup
        have hkk : ∀ q : Int, 0 ≤ q → q < 6 → F_State_knownBy_17 φ q = F_RideLawsModel_knownTo_192 χ0 q := fun q q1 q2 => knb_i h0.2.1 q q1 q2
        have hne := need_e hI0 h0 l c4.1 (by omega)
        have hl := pow_l (φ := φ) (χ := χ0) (r := v) (l := l) (w := w) (nd := F_Outlook_needs_187 φ l) (hs := F_State_knownBy_17 φ v) e3 (by omega) c.1 (by omega) hne.symm (hkk v c.1 (by omega)).symm hkk ((256 - 0 : Int).toNat + 1) ((256 - 0 : Int).toNat + 1) 0 0 (by decide) (by decide) (by decide) (by have := shl_r (n := χ0 194 3) (by omega) (by omega); omega)
        have hst : F_Outlook_setsTurned_187 φ v l = F_Outlook_setsTurned_187_l22 ((256 - 0 : Int).toNat + 1) φ v l (F_Outlook_needs_187 φ l) (F_State_knownBy_17 φ v) 0 0 := rfl
        rw [show CNT v (0 : Int).toNat = 0 from rfl, ← hst, cnt_e (by omega) c.1 (by omega), hx3] at hl
        have hrg := K_F_Outlook_setsTurned_187 (r := F_Outlook_setsTurned_187 φ v l) hJ (by omega) (by omega) (by omega) (by omega) rfl
        have hsh := shl_r (n := χ 194 3 - 1) (by omega) (by omega)
        rw [pfin_e (φ := φ) (Or.inl (by rw [hi_n (by unfold hi; omega)]; omega)), e2] at hl
        cases hl
        exact ⟨e1.symm, hup⟩
      · left
        rw [if_neg c1, if_neg (fun q => q rfl), bnd_e t1, if_neg (by decide)] at e2
        cases e2
        refine ⟨?_, hf_up_eq⟩
        by_cases c2 : w < 0
        · rw [if_pos c2] at e1; exact e1.symm
        · rw [if_neg c2, if_neg (show ¬ w ≤ 1 by omega)] at e1; exact e1.symm
    · left
      rw [if_neg c4, if_pos rfl] at e1
      rw [if_neg (show ¬ (0 ≤ l ∧ l ≤ χ 194 4 - 1) by omega), if_pos rfl, bnd_e t1, if_neg (by decide)] at e2
      cases e2
      exact ⟨e1.symm, hf_up_eq⟩
  · left
    rw [if_neg c, if_pos rfl] at e1
    rw [if_neg (show ¬ (0 ≤ v ∧ v ≤ χ 194 3 - 1) by omega), if_pos rfl, bnd_e t1, if_neg (by decide)] at e2
    cases e2
    exact ⟨e1.symm, hf_up_eq⟩
theorem part_q {φ χ ξ : hf_F} {v w s : Int} {o : Option Int} (hI : Inv χ) (h : SCR φ χ) (e1 : F_RideLaws_part_0 φ v w = o) (e2 : F_RideLawsModel_part_192 χ v w = (s, ξ)) : (o = none ∧ ξ 192 0 = 1) ∨ (o = some s ∧ ξ 192 0 = 0) := by
  have h0 := scr_0 (cb_i hI) h
  have hI0 := inv_0 hI
  have hbb := cb_i hI
  unfold CB at hbb
  have k3 : φ 6 3 = χ 194 3 := h.1.1.2.2.2.1
  have t1 : F_RideLawsModel_throwsIf_192 χ 1 = (1, hf_up χ 192 0 1) := if_neg (by decide)
  have t0 : F_RideLawsModel_throwsIf_192 χ 0 = (0, hf_up χ 192 0 0) := if_pos rfl
  have hsa := sia_e hI h.2.1
  have hsb := sia_e hI0 h0.2.1
  unfold F_RideLaws_part_0 at e1
  unfold F_RideLawsModel_part_192 at e2
  rw [bnp_e (has_e3 φ v), k3] at e1
  rw [bnp_e (isrider_e _ v)] at e2
  by_cases c : 0 ≤ v ∧ v < χ 194 3
  · rw [if_pos c, if_neg (by decide)] at e1
    rw [if_pos (show 0 ≤ v ∧ v ≤ χ 194 3 - 1 by omega), if_neg (by decide), bnp_e (isin_e _ w _ _)] at e2
    by_cases c1 : 0 ≤ w ∧ w ≤ 1
    · rw [if_pos c1, if_neg (by decide), bnp_e hsa] at e2
      by_cases c2 : jm_n (φ 17 4) = 0
      · left
        rw [if_pos c2] at e1
        rw [if_neg (show ¬ ¬ jm_n (φ 17 4) = 0 from fun q => q c2), bnd_e t1, if_neg (by decide)] at e2
        cases e2
        exact ⟨e1.symm, hf_up_eq⟩
      · right
        rw [if_neg c2, if_neg (show ¬ w < 0 by omega), if_pos c1.2, bnp_e rfl, lst_e (χ := hf_up χ 192 0 0) (Or.inl c2)] at e1
        rw [if_pos (show ¬ jm_n (φ 17 4) = 0 from c2), bnd_e t0, if_pos rfl] at e2
        have hup : hf_up χ 192 0 0 192 0 = 0 := hf_up_eq
        have x24 : φ 24 v.toNat = hf_up χ 192 0 0 194 (166 + v.toNat) := (h0.2.1.1.2.2.1 v.toNat (by omega)).2.2.2.1
        generalize hf_up χ 192 0 0 = χ0 at e1 e2 h0 hI0 hsb hup x24
        rw [x24] at e1
        rw [show (166 + v).toNat = 166 + v.toNat by omega] at e2
        by_cases c3 : w = 0
        · rw [if_neg (show ¬ ¬ w = 0 from fun q => q c3), bnp_e hsb, bnp_e rfl] at e2
          rw [if_neg (show ¬ ¬ w = 0 from fun q => q c3)] at e1
          cases e2
          exact ⟨e1.symm, hup⟩
        · rw [if_pos (show ¬ w = 0 from c3), bnp_e hsb, bnp_e hsb, bnp_e rfl] at e2
          rw [if_pos (show ¬ w = 0 from c3)] at e1
          cases e2
          exact ⟨e1.symm, hup⟩
    · left
      rw [if_neg c1, if_pos rfl, bnd_e t1, if_neg (by decide)] at e2
      cases e2
      refine ⟨?_, hf_up_eq⟩
      by_cases c2 : jm_n (φ 17 4) = 0
      · rw [if_pos c2] at e1; exact e1.symm
      · rw [if_neg c2] at e1
        by_cases c3 : w < 0
        · rw [if_pos c3] at e1; exact e1.symm
        · rw [if_neg c3, if_neg (show ¬ w ≤ 1 by omega)] at e1; exact e1.symm
  · left
    rw [if_neg c, if_pos rfl] at e1
    rw [if_neg (show ¬ (0 ≤ v ∧ v ≤ χ 194 3 - 1) by omega), if_pos rfl, bnd_e t1, if_neg (by decide)] at e2
    cases e2
    exact ⟨e1.symm, hf_up_eq⟩
