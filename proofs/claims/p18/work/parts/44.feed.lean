/-! feed of both -/
theorem sh_e {x : Int} {k : Int} (hk : k = 24 ∨ k = 16 ∨ k = 8 ∨ k = 0) : hb_i2b (hb_ushr x k) = hb_i2b (hb_shr x k) := by
  unfold hb_i2b hb_ushr hb_shr
  rw [Int32.ofInt_toInt, Int32.ofInt_toInt]
  congr 1
  congr 1
  rcases hk with rfl | rfl | rfl | rfl
  · apply Int8.toBitVec_inj.mp
    apply BitVec.eq_of_getLsbD_eq
    intro i hi
    have e : (BitVec.signExtend 8 (BitVec.ofInt 32 x >>> 24)).getLsbD i = (BitVec.signExtend 8 ((BitVec.ofInt 32 x).sshiftRight 24)).getLsbD i := by
      rw [BitVec.getLsbD_signExtend, BitVec.getLsbD_signExtend, BitVec.getLsbD_ushiftRight, BitVec.getLsbD_sshiftRight]
      simp [show i < 32 by omega, show ¬ 32 ≤ i by omega, show 24 + i < 32 by omega]
    simpa using e
  · apply Int8.toBitVec_inj.mp
    apply BitVec.eq_of_getLsbD_eq
    intro i hi
    have e : (BitVec.signExtend 8 (BitVec.ofInt 32 x >>> 16)).getLsbD i = (BitVec.signExtend 8 ((BitVec.ofInt 32 x).sshiftRight 16)).getLsbD i := by
      rw [BitVec.getLsbD_signExtend, BitVec.getLsbD_signExtend, BitVec.getLsbD_ushiftRight, BitVec.getLsbD_sshiftRight]
      simp [show i < 32 by omega, show ¬ 32 ≤ i by omega, show 16 + i < 32 by omega]
    simpa using e
  · apply Int8.toBitVec_inj.mp
    apply BitVec.eq_of_getLsbD_eq
    intro i hi
    have e : (BitVec.signExtend 8 (BitVec.ofInt 32 x >>> 8)).getLsbD i = (BitVec.signExtend 8 ((BitVec.ofInt 32 x).sshiftRight 8)).getLsbD i := by
      rw [BitVec.getLsbD_signExtend, BitVec.getLsbD_signExtend, BitVec.getLsbD_ushiftRight, BitVec.getLsbD_sshiftRight]
      simp [show i < 32 by omega, show ¬ 32 ≤ i by omega, show 8 + i < 32 by omega]
    simpa using e
  · show ((Int32.ofInt x).toUInt32 >>> (0 : UInt32)).toInt32.toInt8 = (Int32.ofInt x >>> (0 : Int32)).toInt8
    simp
/-- a byte more on both tapes -/
noncomputable def PB (φ χ : hf_F) : Prop := φ 1 2 = χ 192 2 ∧ TPR φ χ
theorem pb_s {φ χ : hf_F} {v w : Int} (h : PB φ χ) (h0 : 0 ≤ φ 1 2) (h1 : φ 1 2 < 940) (hv : v = w) (hb : -128 ≤ v ∧ v ≤ 127) : PB (hf_up (hf_up φ 2 (φ 1 2).toNat v) 1 2 (φ 1 2 + 1)) (hf_up (hf_up χ 193 (χ 192 2).toNat w) 192 2 (χ 192 2 + 1)) := by
  subst hv
  refine ⟨by show φ 1 2 + 1 = χ 192 2 + 1; rw [h.1], fun k hk => ?_⟩
  show hf_up φ 2 (φ 1 2).toNat v 2 k = hf_up χ 193 (χ 192 2).toNat v 193 k ∧ -128 ≤ hf_up φ 2 (φ 1 2).toNat v 2 k ∧ hf_up φ 2 (φ 1 2).toNat v 2 k ≤ 127
  by_cases hc : k = (φ 1 2).toNat
  · rw [hc, hf_up_eq, h.1, hf_up_eq]
    exact ⟨rfl, hb⟩
  · rw [hf_up_ne (fun q => hc q.2), hf_up_ne (fun q => hc (by rw [h.1]; exact q.2))]
    exact h.2 k hk
theorem put_rel : ∀ (n m : Nat) (φ χ : hf_F) (x k : Int), k + 8 < n → k + 8 < m → (k = 24 ∨ k = 16 ∨ k = 8 ∨ k = 0 ∨ k = -8) → PB φ χ → 0 ≤ φ 1 2 → φ 1 2 + (k + 8) / 8 ≤ 940 →
    PB (F_Reader_put_1_l3 n φ x k) (F_RideLawsModel_four_192_l3 m χ x k) ∧ F_Reader_put_1_l3 n φ x k 1 2 = φ 1 2 + (k + 8) / 8 := by
  intro n
  induction n with
  | zero => intro m φ χ x k h1 h2 h3; omega
  | succ n ih =>
    intro m φ χ x k h1 h2 h3 h h0 h9
    cases m with
    | zero => omega
    | succ m =>
      rw [F_Reader_put_1_l3_s, F_RideLawsModel_four_192_l3_s]
      by_cases c1 : k < 0
      · rw [if_pos c1, if_pos c1]
        exact ⟨h, by omega⟩
      · rw [if_neg c1, if_neg c1, if_neg (show ¬ 940 ≤ φ 1 2 by omega)]
        have hs := pb_s (v := jm_b (hb_i2b (hb_ushr x k))) (w := jm_b (hb_i2b (hb_shr x k))) h h0 (by omega) (by rw [sh_e (by omega)]) (hr_jmb _)
        have hi := ih m _ _ x (k + (-8 : Int)) (by omega) (by omega) (by omega) hs (by show 0 ≤ φ 1 2 + 1; omega) (by show φ 1 2 + 1 + (k + (-8 : Int) + 8) / 8 ≤ 940; omega)
        refine ⟨hi.1, hi.2.trans ?_⟩
        show φ 1 2 + 1 + (k + (-8 : Int) + 8) / 8 = φ 1 2 + (k + 8) / 8
        omega
theorem put4 {φ χ : hf_F} (x : Int) (h : PB φ χ) (h0 : 0 ≤ φ 1 2) (h9 : φ 1 2 ≤ 936) : PB (F_Reader_put_1 φ x) (F_RideLawsModel_four_192 χ x) ∧ F_Reader_put_1 φ x 1 2 = φ 1 2 + 4 := by
  have := put_rel 33 33 φ χ x 24 (by decide) (by decide) (Or.inl rfl) h h0 (by omega)
  exact ⟨this.1, this.2.trans (by omega)⟩
theorem feed_rel {φ χ ψ ξ : hf_F} {a b c d e r s : Int} (i1 : Inv φ) (h : PB φ χ) (e1 : F_RideLaws_feed_0 φ a b c d e = (r, ψ)) (e2 : F_RideLawsModel_feed_192 χ a b c d e = (s, ξ)) : r = s ∧ PB ψ ξ := by
  have b1 := iv_at (a := 1) (k := 2) (lo := 0) (u := 940) i1 (by decide +kernel)
  unfold F_RideLaws_feed_0 at e1
  unfold F_RideLawsModel_feed_192 at e2
  have hz := h.1
  have h' : PB φ (hf_up χ 192 0 0) := h
  by_cases c1 : φ 1 2 + 20 ≤ 940
  · rw [if_pos c1, bnv_e rfl, bnv_e rfl, bnv_e rfl, bnv_e rfl, bnv_e rfl] at e1
    rw [if_pos (show χ 192 2 + 20 ≤ 940 by omega), bnv_e rfl, bnv_e rfl, bnv_e rfl, bnv_e rfl, bnv_e rfl] at e2
    have p1 := put4 a h' (by omega) (by omega)
    have p2 := put4 b p1.1 (by omega) (by omega)
    have p3 := put4 c p2.1 (by omega) (by omega)
    have p4 := put4 d p3.1 (by omega) (by omega)
    have p5 := put4 e p4.1 (by omega) (by omega)
    cases e1
    cases e2
    exact ⟨p5.1.1, p5.1⟩
  · rw [if_neg c1] at e1
    rw [if_neg (show ¬ χ 192 2 + 20 ≤ 940 by omega)] at e2
    cases e1
    cases e2
    exact ⟨rfl, h'⟩
