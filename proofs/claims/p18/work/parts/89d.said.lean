/-! said: bits of an int, a stack of truths -/
theorem ns_r {n k : Nat} {y : Int} (h : n < 2147483648) (hk : ((Int32.ofInt y &&& 31).toBitVec.smod 32).toNat = k) : hb_shr (n : Int) y = ((n / 2 ^ k : Nat) : Int) := by
  unfold hb_shr
  show (Int32.ofInt (n : Int) >>> (Int32.ofInt y &&& 31)).toBitVec.toInt = _
  rw [Int32.toBitVec_shiftRight, BitVec.sshiftRight_eq', hk, BitVec.toInt_sshiftRight]
  have e : (Int32.ofInt (n : Int)).toBitVec.toInt = (n : Int) := hi_n (by unfold hi; omega)
  rw [e, ← Nat.shiftRight_eq_div_pow]
  rfl
theorem ns_and {n m : Nat} (h : n < 2147483648) (h2 : m < 2147483648) : hb_and (n : Int) (m : Int) = ((n &&& m : Nat) : Int) := by
  unfold hb_and
  show ((Int32.ofInt (n : Int)).toBitVec &&& (Int32.ofInt (m : Int)).toBitVec).toInt = _
  have e : ((Int32.ofInt (n : Int)).toBitVec &&& (Int32.ofInt (m : Int)).toBitVec).toNat = n &&& m := by
    rw [BitVec.toNat_and]
    show (BitVec.ofNat 32 n).toNat &&& (BitVec.ofNat 32 m).toNat = _
    rw [BitVec.toNat_ofNat, BitVec.toNat_ofNat, Nat.mod_eq_of_lt (show n < 2 ^ 32 by omega), Nat.mod_eq_of_lt (show m < 2 ^ 32 by omega)]
  have hl : n &&& m ≤ n := Nat.and_le_left
  rw [BitVec.toInt_eq_toNat_of_lt (by rw [e]; omega), e]
theorem ns_or {n m : Nat} (h : n < 2147483648) (h2 : m < 2147483648) : hb_or (n : Int) (m : Int) = ((n ||| m : Nat) : Int) := by
  unfold hb_or
  show ((Int32.ofInt (n : Int)).toBitVec ||| (Int32.ofInt (m : Int)).toBitVec).toInt = _
  have e : ((Int32.ofInt (n : Int)).toBitVec ||| (Int32.ofInt (m : Int)).toBitVec).toNat = n ||| m := by
    rw [BitVec.toNat_or]
    show (BitVec.ofNat 32 n).toNat ||| (BitVec.ofNat 32 m).toNat = _
    rw [BitVec.toNat_ofNat, BitVec.toNat_ofNat, Nat.mod_eq_of_lt (show n < 2 ^ 32 by omega), Nat.mod_eq_of_lt (show m < 2 ^ 32 by omega)]
  have hl : n ||| m < 2 ^ 31 := Nat.or_lt_two_pow (by omega) (by omega)
  rw [BitVec.toInt_eq_toNat_of_lt (by rw [e]; omega), e]
theorem ns_xor {n m : Nat} (h : n < 2147483648) (h2 : m < 2147483648) : hb_xor (n : Int) (m : Int) = ((n ^^^ m : Nat) : Int) := by
  unfold hb_xor
  show ((Int32.ofInt (n : Int)).toBitVec ^^^ (Int32.ofInt (m : Int)).toBitVec).toInt = _
  have e : ((Int32.ofInt (n : Int)).toBitVec ^^^ (Int32.ofInt (m : Int)).toBitVec).toNat = n ^^^ m := by
    rw [BitVec.toNat_xor]
    show (BitVec.ofNat 32 n).toNat ^^^ (BitVec.ofNat 32 m).toNat = _
    rw [BitVec.toNat_ofNat, BitVec.toNat_ofNat, Nat.mod_eq_of_lt (show n < 2 ^ 32 by omega), Nat.mod_eq_of_lt (show m < 2 ^ 32 by omega)]
  have hl : n ^^^ m < 2 ^ 31 := Nat.xor_lt_two_pow (by omega) (by omega)
  rw [BitVec.toInt_eq_toNat_of_lt (by rw [e]; omega), e]
theorem ns_l {n : Nat} (h : n < 1073741824) : hb_shl (n : Int) 1 = ((2 * n : Nat) : Int) := by
  unfold hb_shl
  rw [show (Int32.ofInt 1 &&& 31) = 1 by decide]
  show (Int32.ofInt (n : Int) <<< (1 : Int32)).toBitVec.toInt = _
  have e : (Int32.ofInt (n : Int) <<< (1 : Int32)).toBitVec = BitVec.ofNat 32 n <<< 1 := by
    rw [Int32.toBitVec_shiftLeft]
    rfl
  have e2 : (BitVec.ofNat 32 n <<< 1).toNat = 2 * n := by
    rw [BitVec.toNat_shiftLeft, BitVec.toNat_ofNat, Nat.mod_eq_of_lt (show n < 2 ^ 32 by omega), Nat.shiftLeft_eq, Nat.mod_eq_of_lt (show n * 2 ^ 1 < 2 ^ 32 by omega)]
    omega
  rw [e, BitVec.toInt_eq_toNat_of_lt (by rw [e2]; omega), e2]
theorem or_bit {n t : Nat} (ht : t < 2) : 2 * n ||| t = 2 * n + t := by
  have h := Nat.shiftLeft_add_eq_or_of_lt (show t < 2 ^ 1 by omega) n
  rw [Nat.shiftLeft_eq, show n * 2 ^ 1 = 2 * n by omega] at h
  exact h.symm
theorem st_lf {a t : Nat} (h : a < 536870912) (ht : t < 2) : hb_or (hb_shl (a : Int) 1) (t : Int) = ((2 * a + t : Nat) : Int) := by
  rw [ns_l (by omega), ns_or (by omega) (by omega), or_bit ht]
theorem st_nt {a : Nat} (h : a < 536870912) : hb_xor (a : Int) 1 = ((2 * (a / 2) + (1 - a % 2) : Nat) : Int) := by
  rw [show (1 : Int) = ((1 : Nat) : Int) from rfl, ns_xor (by omega) (by omega)]
  have h1 : (a ^^^ 1) / 2 ^ 1 = a / 2 ^ 1 ^^^ 1 / 2 ^ 1 := Nat.xor_div_two_pow
  have h2 : (a ^^^ 1) % 2 ^ 1 = a % 2 ^ 1 ^^^ 1 % 2 ^ 1 := Nat.xor_mod_two_pow
  rw [show (2 : Nat) ^ 1 = 2 from rfl, show 1 / 2 = 0 from rfl, Nat.xor_zero] at h1
  rw [show (2 : Nat) ^ 1 = 2 from rfl, show 1 % 2 = 1 from rfl] at h2
  have h3 : a % 2 = 0 ∨ a % 2 = 1 := by omega
  congr 1
  generalize a ^^^ 1 = x at h1 h2
  rcases h3 with q | q
  · rw [q, show 0 ^^^ 1 = 1 from rfl] at h2
    omega
  · rw [q, show 1 ^^^ 1 = 0 from rfl] at h2
    omega
theorem st_an {a : Nat} (h : a < 536870912) : hb_or (hb_shl (hb_shr (a : Int) 2) 1) (hb_and (hb_and (hb_shr (a : Int) 1) (a : Int)) 1) = ((2 * (a / 4) + (if a / 2 % 2 = 1 ∧ a % 2 = 1 then 1 else 0) : Nat) : Int) := by
  rw [ns_r (k := 2) (by omega) (by decide), ns_r (k := 1) (by omega) (by decide), ns_l (by omega), show (1 : Int) = ((1 : Nat) : Int) from rfl]
  have hle : a / 2 ^ 1 &&& a ≤ a / 2 ^ 1 := Nat.and_le_left
  rw [ns_and (by omega) (by omega), ns_and (by omega) (by omega)]
  have h1 : (a / 2 ^ 1 &&& a) &&& 1 = (if a / 2 % 2 = 1 ∧ a % 2 = 1 then 1 else 0) := by
    have g := Nat.and_two_pow_sub_one_eq_mod (a / 2 ^ 1 &&& a) 1
    rw [show (2 : Nat) ^ 1 - 1 = 1 from rfl] at g
    rw [g, Nat.and_mod_two_pow, show (2 : Nat) ^ 1 = 2 from rfl]
    have q1 : a / 2 % 2 = 0 ∨ a / 2 % 2 = 1 := by omega
    have q2 : a % 2 = 0 ∨ a % 2 = 1 := by omega
    rcases q1 with q1 | q1 <;> rcases q2 with q2 | q2 <;> rw [q1, q2] <;> rfl
  rw [h1]
  have ht : (if a / 2 % 2 = 1 ∧ a % 2 = 1 then 1 else 0) < 2 := by split <;> omega
  rw [ns_or (by omega) (by omega), or_bit ht, show (2 : Nat) ^ 2 = 4 from rfl]
theorem st_or {a : Nat} (h : a < 536870912) : hb_or (hb_shl (hb_shr (a : Int) 2) 1) (hb_and (hb_or (hb_shr (a : Int) 1) (a : Int)) 1) = ((2 * (a / 4) + (if a / 2 % 2 = 1 ∨ a % 2 = 1 then 1 else 0) : Nat) : Int) := by
  rw [ns_r (k := 2) (by omega) (by decide), ns_r (k := 1) (by omega) (by decide), ns_l (by omega), show (1 : Int) = ((1 : Nat) : Int) from rfl]
  have hle : a / 2 ^ 1 ||| a < 2 ^ 30 := Nat.or_lt_two_pow (by omega) (by omega)
  rw [ns_or (by omega) (by omega), ns_and (by omega) (by omega)]
  have h1 : (a / 2 ^ 1 ||| a) &&& 1 = (if a / 2 % 2 = 1 ∨ a % 2 = 1 then 1 else 0) := by
    have g := Nat.and_two_pow_sub_one_eq_mod (a / 2 ^ 1 ||| a) 1
    rw [show (2 : Nat) ^ 1 - 1 = 1 from rfl] at g
    rw [g, Nat.or_mod_two_pow, show (2 : Nat) ^ 1 = 2 from rfl]
    have q1 : a / 2 % 2 = 0 ∨ a / 2 % 2 = 1 := by omega
    have q2 : a % 2 = 0 ∨ a % 2 = 1 := by omega
    rcases q1 with q1 | q1 <;> rcases q2 with q2 | q2 <;> rw [q1, q2] <;> rfl
  rw [h1]
  have ht : (if a / 2 % 2 = 1 ∨ a % 2 = 1 then 1 else 0) < 2 := by split <;> omega
  rw [ns_or (by omega) (by omega), or_bit ht, show (2 : Nat) ^ 2 = 4 from rfl]
/-- the truths so far as bits, the latest lowest -/
noncomputable def AVL (χ : hf_F) : Nat → Nat
  | 0 => 0
  | n + 1 => 2 * AVL χ n + (χ 204 n).toNat
noncomputable def ATR (χ : hf_F) (n : Nat) : Prop := ∀ j : Nat, j < n → χ 204 j = 0 ∨ χ 204 j = 1
theorem avl_b (χ : hf_F) : ∀ n : Nat, ATR χ n → AVL χ n < 2 ^ n := by
  intro n
  induction n with
  | zero => intro _; exact Nat.one_pos
  | succ n ih =>
    intro h
    have i := ih (fun j hj => h j (by omega))
    have q := h n (by omega)
    show 2 * AVL χ n + (χ 204 n).toNat < 2 ^ (n + 1)
    rw [Nat.pow_succ]
    omega
theorem avl_c {χ ξ : hf_F} : ∀ n : Nat, (∀ j : Nat, j < n → ξ 204 j = χ 204 j) → AVL ξ n = AVL χ n := by
  intro n
  induction n with
  | zero => intro _; rfl
  | succ n ih =>
    intro h
    show 2 * AVL ξ n + (ξ 204 n).toNat = 2 * AVL χ n + (χ 204 n).toNat
    rw [ih (fun j hj => h j (by omega)), h n (by omega)]
theorem cd_up (χ : hf_F) (i : Nat) : cd χ 194 180 (i + 1) ≤ cd χ 194 180 i + 1 ∧ cd χ 194 180 i ≤ cd χ 194 180 (i + 1) + 1 := by
  show (if χ 194 (180 + 1 + 3 * i) = 20 then cd χ 194 180 i else if χ 194 (180 + 1 + 3 * i) = 21 ∨ χ 194 (180 + 1 + 3 * i) = 22 then cd χ 194 180 i - 1 else cd χ 194 180 i + 1) ≤ _ ∧ cd χ 194 180 i ≤ (if χ 194 (180 + 1 + 3 * i) = 20 then cd χ 194 180 i else if χ 194 (180 + 1 + 3 * i) = 21 ∨ χ 194 (180 + 1 + 3 * i) = 22 then cd χ 194 180 i - 1 else cd χ 194 180 i + 1) + 1
  split
  · omega
  · split <;> omega
theorem cd_le (χ : hf_F) : ∀ i : Nat, cd χ 194 180 i ≤ (i : Int) := by
  intro i
  induction i with
  | zero => exact Int.le_refl _
  | succ i ih => have := cd_up χ i; omega
theorem cd_ge (χ : hf_F) : ∀ (d i : Nat), cd χ 194 180 i ≤ cd χ 194 180 (i + d) + (d : Int) := by
  intro d
  induction d with
  | zero => intro i; show cd χ 194 180 i ≤ cd χ 194 180 i + 0; omega
  | succ d ih =>
    intro i
    have h1 := ih i
    have h2 := (cd_up χ (i + d)).2
    rw [show i + (d + 1) = i + d + 1 from rfl]
    omega
theorem so_e {φ : hf_F} {v s n : Int} : F_Sentence_isSo φ v s n = (if ¬ s = 60 then (if ¬ s = 61 then (if (jm_n v) ≤ n then 0 else 1) else (if ¬ (jm_n v) = n then 0 else 1)) else (if n ≤ (jm_n v) then 0 else 1)) := rfl
/-- an operand, of a RIDER -/
theorem lf_e {φ χ : hf_F} {i r : Nat} (h : STG 17 φ (χ 194) (χ 194)) (hr : r < 6) (hk : 0 ≤ φ 27 i ∧ φ 27 i ≤ 22) (h12 : ¬ φ 27 i = 12) (h13 : ¬ φ 27 i = 13) (h14 : ¬ φ 27 i = 14) : F_Sentence_isTrue_26_17 φ (i : Int) (r : Int) = F_RideLawsModel_isLeaf_192 χ (r : Int) (SKM (φ 27 i)) (φ 28 i) (φ 29 i) := by
  obtain ⟨x20, x21, x23, x24, _, x112, x118, _, _⟩ := h.1.2.2.1 r hr
  have x20' : φ 20 r = χ 194 (112 + r) - 1 := x20
  have x21' : φ 21 r = χ 194 (118 + r) := x21
  have x24' : φ 24 r = χ 194 (166 + r) := x24
  have x2 : φ 17 2 = χ 194 101 - 1 := h.1.1.2.2.1
  have hkn := knb_e h r hr
  have hjr : jm_n (r : Int) = (r : Int) := hi_n (by unfold hi; omega)
  have hj18 : jm_n (χ 194 (118 + r)) = χ 194 (118 + r) := hi_n (by unfold hi; omega)
  unfold F_Sentence_isTrue_26_17 F_RideLawsModel_isLeaf_192 SKM
  simp only [bnp]
  rw [show ((i : Int)).toNat = i by omega, show ((r : Int)).toNat = r by omega, show (112 + (r : Int)).toNat = 112 + r by omega, show (118 + (r : Int)).toNat = 118 + r by omega, show (166 + (r : Int)).toNat = 166 + r by omega, x20', x21', x24', x2, hkn]
  generalize φ 27 i = K at hk h12 h13 h14
  by_cases k15 : K = 15
  · rw [if_pos k15, if_pos (show 15 ≤ K by omega), if_pos (show K - 15 = 0 by omega)]
    by_cases c : χ 194 (112 + r) = 0
    · rw [if_pos (show χ 194 (112 + r) - 1 = -1 by omega), if_pos (show χ 194 (112 + r) ≤ 0 by omega)]
    · rw [if_neg (show ¬ χ 194 (112 + r) - 1 = -1 by omega), if_neg (show ¬ χ 194 (112 + r) ≤ 0 by omega)]
  · rw [if_neg k15]
    by_cases k16 : K = 16
    · rw [if_pos k16, if_pos (show 15 ≤ K by omega), if_neg (show ¬ K - 15 = 0 by omega), if_pos (show K - 15 = 1 by omega)]
    · rw [if_neg k16]
      by_cases k17 : K = 17
      · rw [if_pos k17, if_pos (show 15 ≤ K by omega), if_neg (show ¬ K - 15 = 0 by omega), if_neg (show ¬ K - 15 = 1 by omega), if_pos (show K - 15 = 2 by omega)]
        by_cases c : χ 194 101 = (r : Int) + 1
        · rw [if_neg (show ¬ ¬ χ 194 101 - 1 = (r : Int) by omega), if_neg (show ¬ ¬ χ 194 101 = (r : Int) + 1 by omega)]
        · rw [if_pos (show ¬ χ 194 101 - 1 = (r : Int) by omega), if_pos (show ¬ χ 194 101 = (r : Int) + 1 by omega)]
      · rw [if_neg k17]
        by_cases k18 : K = 18
        · rw [if_pos k18, if_pos (show 15 ≤ K by omega), if_neg (show ¬ K - 15 = 0 by omega), if_neg (show ¬ K - 15 = 1 by omega), if_neg (show ¬ K - 15 = 2 by omega), if_pos (show K - 15 = 3 by omega)]
          by_cases c : χ 194 (112 + r) = φ 29 i + 1
          · rw [if_neg (show ¬ ¬ χ 194 (112 + r) - 1 = φ 29 i by omega), if_neg (show ¬ ¬ χ 194 (112 + r) = φ 29 i + 1 by omega)]
          · rw [if_pos (show ¬ χ 194 (112 + r) - 1 = φ 29 i by omega), if_pos (show ¬ χ 194 (112 + r) = φ 29 i + 1 by omega)]
        · rw [if_neg k18]
          by_cases k19 : K = 19
          · rw [if_pos k19, if_pos (show 15 ≤ K by omega), if_neg (show ¬ K - 15 = 0 by omega), if_neg (show ¬ K - 15 = 1 by omega), if_neg (show ¬ K - 15 = 2 by omega), if_neg (show ¬ K - 15 = 3 by omega), if_pos (show K - 15 = 4 by omega)]
            unfold F_RideLawsModel_bitOf
            have hx := hr_and1 (hb_shr (F_RideLawsModel_knownTo_192 χ (r : Int)) (φ 29 i))
            by_cases c : hb_and (hb_shr (F_RideLawsModel_knownTo_192 χ (r : Int)) (φ 29 i)) 1 = 0
            · rw [if_pos c, if_pos (show ¬ hb_and (hb_shr (F_RideLawsModel_knownTo_192 χ (r : Int)) (φ 29 i)) 1 = 1 by omega)]
            · rw [if_neg c, if_neg (show ¬ ¬ hb_and (hb_shr (F_RideLawsModel_knownTo_192 χ (r : Int)) (φ 29 i)) 1 = 1 by omega)]
          · rw [if_neg k19]
            by_cases k20 : K = 20
            · rw [if_pos k20, so_e, if_pos (show 15 ≤ K by omega), if_neg (show ¬ K - 15 = 0 by omega), if_neg (show ¬ K - 15 = 1 by omega), if_neg (show ¬ K - 15 = 2 by omega), if_neg (show ¬ K - 15 = 3 by omega), if_neg (show ¬ K - 15 = 4 by omega), if_neg (show ¬ ¬ K - 15 = 5 by omega)]
            · rw [if_neg k20]
              by_cases k21 : K = 21
              · rw [if_pos k21, so_e, if_pos (show 15 ≤ K by omega), if_neg (show ¬ K - 15 = 0 by omega), if_neg (show ¬ K - 15 = 1 by omega), if_neg (show ¬ K - 15 = 2 by omega), if_neg (show ¬ K - 15 = 3 by omega), if_neg (show ¬ K - 15 = 4 by omega), if_pos (show ¬ K - 15 = 5 by omega), if_neg (show ¬ ¬ K - 15 = 6 by omega), hj18]
              · rw [if_neg k21, so_e, hjr]
                generalize hz : (if 15 ≤ K then K - 15 else 34 - K) = z
                have hz7 : z = 7 ∨ 23 ≤ z := by
                  by_cases c : 15 ≤ K
                  · rw [if_pos c] at hz; omega
                  · rw [if_neg c] at hz; omega
                rw [if_neg (show ¬ z = 0 by omega), if_neg (show ¬ z = 1 by omega), if_neg (show ¬ z = 2 by omega), if_neg (show ¬ z = 3 by omega), if_neg (show ¬ z = 4 by omega), if_pos (show ¬ z = 5 by omega), if_pos (show ¬ z = 6 by omega)]
