/-! said: of both -/
theorem i01 {c : Prop} [Decidable c] {a b : Int} (ha : a = 0 ∨ a = 1) (hb : b = 0 ∨ b = 1) : (if c then a else b) = 0 ∨ (if c then a else b) = 1 := by
  by_cases h : c
  · rw [if_pos h]; exact ha
  · rw [if_neg h]; exact hb
theorem lf_01 (χ : hf_F) (a b c d : Int) : F_RideLawsModel_isLeaf_192 χ a b c d = 0 ∨ F_RideLawsModel_isLeaf_192 χ a b c d = 1 := by
  unfold F_RideLawsModel_isLeaf_192
  simp only [bnp]
  unfold F_RideLawsModel_bitOf
  repeat' refine i01 ?_ ?_
  all_goals first | exact Or.inl rfl | exact Or.inr rfl
theorem jz_1 : jm_z 1 = 1 := by decide
theorem jz_0 : jm_z 0 = 0 := by decide
/-- a truth is laid -/
theorem av_up {χ : hf_F} {n : Nat} {v : Int} (h : ATR χ n) (hv : v = 0 ∨ v = 1) : ATR (hf_up χ 204 n v) (n + 1) ∧ AVL (hf_up χ 204 n v) (n + 1) = 2 * AVL χ n + v.toNat := by
  refine ⟨fun j hj => ?_, ?_⟩
  · by_cases c : j = n
    · rw [c, hf_up_eq]; exact hv
    · rw [up_k c]; exact h j (by omega)
  · show 2 * AVL (hf_up χ 204 n v) n + (hf_up χ 204 n v 204 n).toNat = _
    rw [avl_c (χ := χ) n (fun j hj => up_k (by omega)), hf_up_eq]
theorem p20 {n : Nat} (h : n ≤ 20) : 2 ^ n ≤ 1048576 := Nat.le_trans (Nat.pow_le_pow_right (by decide) h) (by decide)
theorem sai_l {φ χ0 : hf_F} {r : Nat} (hr : r < 6) (hS : STG 17 φ (χ0 194) (χ0 194)) (hN : φ 26 3 = χ0 194 180) (h40 : χ0 194 180 ≤ 40)
    (hC : ∀ i : Nat, (i : Int) < χ0 194 180 → χ0 194 (181 + 3 * i) = SKM (φ 27 i) ∧ χ0 194 (181 + 3 * i + 1) = φ 28 i ∧ χ0 194 (181 + 3 * i + 2) = φ 29 i) (hK : ∀ i : Nat, i < 40 → 0 ≤ φ 27 i ∧ φ 27 i ≤ 22) (hW : WF χ0 194 180) (hD : cd χ0 194 180 (χ0 194 180).toNat = 1) :
    ∀ (k m i n : Nat) (χ : hf_F), 40 - (i : Int) < (k : Int) → 45 - (i : Int) < (m : Int) → (i : Int) ≤ χ0 194 180 → (n : Int) = cd χ0 194 180 i → ATR χ n → (∀ b q : Nat, ¬ b = 204 → χ b q = χ0 b q) →
      ∃ ξ : hf_F, F_RideLawsModel_isSaid_192_l4 m χ (r : Int) (n : Int) (i : Int) = (F_Sentence_fits_26_17_l5 k φ (r : Int) ((AVL χ n : Nat) : Int) (i : Int), ξ) ∧ ∀ b q : Nat, ¬ b = 204 → ξ b q = χ0 b q := by
  intro k
  induction k with
  | zero => intro m i n χ h1 h2 h3; omega
  | succ k ih =>
    intro m i n χ h1 h2 h3 hn hA hf
    obtain ⟨m, rfl⟩ : ∃ j, m = j + 1 := ⟨m - 1, by omega⟩
    rw [F_Sentence_fits_26_17_l5_s, F_RideLawsModel_isSaid_192_l4_s, hN, hf 194 180 (by decide)]
    by_cases c : χ0 194 180 ≤ (i : Int)
    · rw [if_pos c, if_pos c]
      have hi2 : (χ0 194 180).toNat = i := by omega
      rw [hi2] at hD
      have n1 : n = 1 := by omega
      subst n1
      refine ⟨χ, ?_, hf⟩
      have e : AVL χ 1 = (χ 204 0).toNat := by show 2 * 0 + (χ 204 0).toNat = _; omega
      rw [e]
      rcases hA 0 (by decide) with q | q
      · rw [q]; rfl
      · rw [q]; rfl
    · rw [if_neg c, if_neg c]
      obtain ⟨c1, c2, c3⟩ := hC i (by omega)
      have g1 := cd_le χ0 i
      have g2 := cd_ge χ0 ((χ0 194 180).toNat - i) i
      rw [show i + ((χ0 194 180).toNat - i) = (χ0 194 180).toNat by omega, hD] at g2
      have hn20 : n ≤ 20 := by omega
      have hb := avl_b χ n hA
      have hp := p20 hn20
      have hwf := hW i (by omega) (by omega)
      have hcs : cd χ0 194 180 (i + 1) = if χ0 194 (180 + 1 + 3 * i) = 20 then cd χ0 194 180 i else if χ0 194 (180 + 1 + 3 * i) = 21 ∨ χ0 194 (180 + 1 + 3 * i) = 22 then cd χ0 194 180 i - 1 else cd χ0 194 180 i + 1 := rfl
      rw [show 180 + 1 + 3 * i = 181 + 3 * i by omega] at hwf hcs
      have hk22 := hK i (by omega)
      rw [show ((i : Int)).toNat = i by omega, show (181 + 3 * (i : Int)).toNat = 181 + 3 * i by omega, show (181 + 3 * (i : Int) + 1).toNat = 181 + 3 * i + 1 by omega, show (181 + 3 * (i : Int) + 2).toNat = 181 + 3 * i + 2 by omega, hf 194 _ (by decide), hf 194 (181 + 3 * i + 1) (by decide), hf 194 (181 + 3 * i + 2) (by decide), c1, c2, c3]
      rw [c1] at hwf hcs
      have ei : (i : Int) + 1 = ((i + 1 : Nat) : Int) := by omega
      by_cases k12 : φ 27 i = 12
      · have sk : SKM (φ 27 i) = 22 := by rw [k12]; decide
        rw [sk] at hwf hcs ⊢
        rw [if_neg (by decide), if_pos (Or.inr rfl)] at hcs
        have hn2 := hwf.2 (Or.inr rfl)
        obtain ⟨u, rfl⟩ : ∃ u, n = u + 2 := ⟨n - 2, by omega⟩
        rw [if_pos k12, if_pos (show ¬ (22 : Int) = 20 by decide), if_neg (show ¬ (22 : Int) = 21 by decide), if_neg (show ¬ ¬ (22 : Int) = 22 by decide), if_pos (show ¬ (22 : Int) = 21 by decide), show (((u + 2 : Nat) : Int) + (-1 : Int) - 1).toNat = u by omega, show (((u + 2 : Nat) : Int) + (-1 : Int)).toNat = u + 1 by omega, show ((u + 2 : Nat) : Int) + (-1 : Int) = ((u + 1 : Nat) : Int) by omega, jz_1, jz_0, st_or (by omega), ei]
        have ea : AVL χ (u + 2) = 2 * (2 * AVL χ u + (χ 204 u).toNat) + (χ 204 (u + 1)).toNat := rfl
        have hAu : ATR χ u := fun j hj => hA j (by omega)
        rcases hA u (by omega) with x | x <;> rcases hA (u + 1) (by omega) with y | y
        · rw [if_neg (show ¬ ¬ χ 204 u = 0 by omega), if_pos y]
          obtain ⟨v1, v2⟩ := av_up (v := 0) hAu (Or.inl rfl)
          rw [x, y] at ea
          rw [show 2 * (AVL χ (u + 2) / 4) + (if AVL χ (u + 2) / 2 % 2 = 1 ∨ AVL χ (u + 2) % 2 = 1 then 1 else 0) = AVL (hf_up χ 204 u 0) (u + 1) by rw [v2, if_neg (by omega)]; omega]
          exact ih m (i + 1) (u + 1) (hf_up χ 204 u 0) (by omega) (by omega) (by omega) (by omega) v1 (fun b q g => (up_a g).trans (hf b q g))
        · rw [if_neg (show ¬ ¬ χ 204 u = 0 by omega), if_neg (show ¬ χ 204 (u + 1) = 0 by omega)]
          obtain ⟨v1, v2⟩ := av_up (v := 1) hAu (Or.inr rfl)
          rw [x, y] at ea
          rw [show 2 * (AVL χ (u + 2) / 4) + (if AVL χ (u + 2) / 2 % 2 = 1 ∨ AVL χ (u + 2) % 2 = 1 then 1 else 0) = AVL (hf_up χ 204 u 1) (u + 1) by rw [v2, if_pos (by omega)]; omega]
          exact ih m (i + 1) (u + 1) (hf_up χ 204 u 1) (by omega) (by omega) (by omega) (by omega) v1 (fun b q g => (up_a g).trans (hf b q g))
        · rw [if_pos (show ¬ χ 204 u = 0 by omega)]
          obtain ⟨v1, v2⟩ := av_up (v := 1) hAu (Or.inr rfl)
          rw [x, y] at ea
          rw [show 2 * (AVL χ (u + 2) / 4) + (if AVL χ (u + 2) / 2 % 2 = 1 ∨ AVL χ (u + 2) % 2 = 1 then 1 else 0) = AVL (hf_up χ 204 u 1) (u + 1) by rw [v2, if_pos (by omega)]; omega]
          exact ih m (i + 1) (u + 1) (hf_up χ 204 u 1) (by omega) (by omega) (by omega) (by omega) v1 (fun b q g => (up_a g).trans (hf b q g))
        · rw [if_pos (show ¬ χ 204 u = 0 by omega)]
          obtain ⟨v1, v2⟩ := av_up (v := 1) hAu (Or.inr rfl)
          rw [x, y] at ea
          rw [show 2 * (AVL χ (u + 2) / 4) + (if AVL χ (u + 2) / 2 % 2 = 1 ∨ AVL χ (u + 2) % 2 = 1 then 1 else 0) = AVL (hf_up χ 204 u 1) (u + 1) by rw [v2, if_pos (by omega)]; omega]
          exact ih m (i + 1) (u + 1) (hf_up χ 204 u 1) (by omega) (by omega) (by omega) (by omega) v1 (fun b q g => (up_a g).trans (hf b q g))
      · by_cases k13 : φ 27 i = 13
        · have sk : SKM (φ 27 i) = 21 := by rw [k13]; decide
          rw [sk] at hwf hcs ⊢
          rw [if_neg (by decide), if_pos (Or.inl rfl)] at hcs
          have hn2 := hwf.2 (Or.inl rfl)
          obtain ⟨u, rfl⟩ : ∃ u, n = u + 2 := ⟨n - 2, by omega⟩
          rw [if_neg k12, if_pos k13, if_pos (show ¬ (21 : Int) = 20 by decide), if_pos (show (21 : Int) = 21 from rfl), if_neg (show ¬ ¬ (21 : Int) = 21 by decide), show (((u + 2 : Nat) : Int) + (-1 : Int) - 1).toNat = u by omega, show (((u + 2 : Nat) : Int) + (-1 : Int)).toNat = u + 1 by omega, show ((u + 2 : Nat) : Int) + (-1 : Int) = ((u + 1 : Nat) : Int) by omega, jz_1, jz_0, st_an (by omega), ei]
          have ea : AVL χ (u + 2) = 2 * (2 * AVL χ u + (χ 204 u).toNat) + (χ 204 (u + 1)).toNat := rfl
          have hAu : ATR χ u := fun j hj => hA j (by omega)
          rcases hA u (by omega) with x | x <;> rcases hA (u + 1) (by omega) with y | y
          · rw [if_pos x]
            obtain ⟨v1, v2⟩ := av_up (v := 0) hAu (Or.inl rfl)
            rw [x, y] at ea
            rw [show 2 * (AVL χ (u + 2) / 4) + (if AVL χ (u + 2) / 2 % 2 = 1 ∧ AVL χ (u + 2) % 2 = 1 then 1 else 0) = AVL (hf_up χ 204 u 0) (u + 1) by rw [v2, if_neg (by omega)]; omega]
            exact ih m (i + 1) (u + 1) (hf_up χ 204 u 0) (by omega) (by omega) (by omega) (by omega) v1 (fun b q g => (up_a g).trans (hf b q g))
          · rw [if_pos x]
            obtain ⟨v1, v2⟩ := av_up (v := 0) hAu (Or.inl rfl)
            rw [x, y] at ea
            rw [show 2 * (AVL χ (u + 2) / 4) + (if AVL χ (u + 2) / 2 % 2 = 1 ∧ AVL χ (u + 2) % 2 = 1 then 1 else 0) = AVL (hf_up χ 204 u 0) (u + 1) by rw [v2, if_neg (by omega)]; omega]
            exact ih m (i + 1) (u + 1) (hf_up χ 204 u 0) (by omega) (by omega) (by omega) (by omega) v1 (fun b q g => (up_a g).trans (hf b q g))
          · rw [if_neg (show ¬ χ 204 u = 0 by omega), if_pos y]
            obtain ⟨v1, v2⟩ := av_up (v := 0) hAu (Or.inl rfl)
            rw [x, y] at ea
            rw [show 2 * (AVL χ (u + 2) / 4) + (if AVL χ (u + 2) / 2 % 2 = 1 ∧ AVL χ (u + 2) % 2 = 1 then 1 else 0) = AVL (hf_up χ 204 u 0) (u + 1) by rw [v2, if_neg (by omega)]; omega]
            exact ih m (i + 1) (u + 1) (hf_up χ 204 u 0) (by omega) (by omega) (by omega) (by omega) v1 (fun b q g => (up_a g).trans (hf b q g))
          · rw [if_neg (show ¬ χ 204 u = 0 by omega), if_neg (show ¬ χ 204 (u + 1) = 0 by omega)]
            obtain ⟨v1, v2⟩ := av_up (v := 1) hAu (Or.inr rfl)
            rw [x, y] at ea
            rw [show 2 * (AVL χ (u + 2) / 4) + (if AVL χ (u + 2) / 2 % 2 = 1 ∧ AVL χ (u + 2) % 2 = 1 then 1 else 0) = AVL (hf_up χ 204 u 1) (u + 1) by rw [v2, if_pos (by omega)]; omega]
            exact ih m (i + 1) (u + 1) (hf_up χ 204 u 1) (by omega) (by omega) (by omega) (by omega) v1 (fun b q g => (up_a g).trans (hf b q g))
        · by_cases k14 : φ 27 i = 14
          · have sk : SKM (φ 27 i) = 20 := by rw [k14]; decide
            rw [sk] at hwf hcs ⊢
            rw [if_pos rfl] at hcs
            have hn1 := hwf.1 rfl
            obtain ⟨u, rfl⟩ : ∃ u, n = u + 1 := ⟨n - 1, by omega⟩
            rw [if_neg k12, if_neg k13, if_pos k14, if_neg (show ¬ ¬ (20 : Int) = 20 by decide), show (((u + 1 : Nat) : Int) - 1).toNat = u by omega, jz_1, jz_0, st_nt (by omega), ei]
            have ea : AVL χ (u + 1) = 2 * AVL χ u + (χ 204 u).toNat := rfl
            have hAu : ATR χ u := fun j hj => hA j (by omega)
            rcases hA u (by omega) with x | x
            · rw [if_neg (show ¬ ¬ χ 204 u = 0 by omega)]
              obtain ⟨v1, v2⟩ := av_up (v := 1) hAu (Or.inr rfl)
              rw [x] at ea
              rw [show 2 * (AVL χ (u + 1) / 2) + (1 - AVL χ (u + 1) % 2) = AVL (hf_up χ 204 u 1) (u + 1) by rw [v2]; omega]
              exact ih m (i + 1) (u + 1) (hf_up χ 204 u 1) (by omega) (by omega) (by omega) (by omega) v1 (fun b q g => (up_a g).trans (hf b q g))
            · rw [if_pos (show ¬ χ 204 u = 0 by omega)]
              obtain ⟨v1, v2⟩ := av_up (v := 0) hAu (Or.inl rfl)
              rw [x] at ea
              rw [show 2 * (AVL χ (u + 1) / 2) + (1 - AVL χ (u + 1) % 2) = AVL (hf_up χ 204 u 0) (u + 1) by rw [v2]; omega]
              exact ih m (i + 1) (u + 1) (hf_up χ 204 u 0) (by omega) (by omega) (by omega) (by omega) v1 (fun b q g => (up_a g).trans (hf b q g))
          · have skn : ¬ SKM (φ 27 i) = 20 ∧ ¬ SKM (φ 27 i) = 21 ∧ ¬ SKM (φ 27 i) = 22 := by
              unfold SKM
              split <;> omega
            rw [if_neg skn.1, if_neg (fun q => q.elim skn.2.1 skn.2.2)] at hcs
            have e94 : χ 194 = χ0 194 := funext (fun q => hf 194 q (by decide))
            have hS2 : STG 17 φ (χ 194) (χ 194) := by rw [e94]; exact hS
            have hl := lf_e (i := i) hS2 hr hk22 k12 k13 k14
            rw [if_neg k12, if_neg k13, if_neg k14, if_pos (show ¬ SKM (φ 27 i) = 20 from skn.1), if_neg skn.2.1, if_pos (show ¬ SKM (φ 27 i) = 22 from skn.2.2), bnp_e hl, bnp_e rfl, show ((n : Int)).toNat = n by omega, ei, show (n : Int) + 1 = ((n + 1 : Nat) : Int) by omega]
            rcases lf_01 χ (r : Int) (SKM (φ 27 i)) (φ 28 i) (φ 29 i) with z | z
            · rw [z, if_pos rfl, jz_0, show (0 : Int) = ((0 : Nat) : Int) from rfl, st_lf (by omega) (by decide)]
              obtain ⟨v1, v2⟩ := av_up (v := 0) hA (Or.inl rfl)
              rw [show 2 * AVL χ n + 0 = AVL (hf_up χ 204 n 0) (n + 1) by rw [v2]; rfl]
              exact ih m (i + 1) (n + 1) (hf_up χ 204 n 0) (by omega) (by omega) (by omega) (by omega) v1 (fun b q g => (up_a g).trans (hf b q g))
            · rw [z, if_neg (show ¬ (1 : Int) = 0 by decide), jz_1, show hb_or (hb_shl ((AVL χ n : Nat) : Int) 1) 1 = hb_or (hb_shl ((AVL χ n : Nat) : Int) 1) ((1 : Nat) : Int) from rfl, st_lf (by omega) (by decide)]
              obtain ⟨v1, v2⟩ := av_up (v := 1) hA (Or.inr rfl)
              rw [show 2 * AVL χ n + 1 = AVL (hf_up χ 204 n 1) (n + 1) by rw [v2]; rfl]
              exact ih m (i + 1) (n + 1) (hf_up χ 204 n 1) (by omega) (by omega) (by omega) (by omega) v1 (fun b q g => (up_a g).trans (hf b q g))
