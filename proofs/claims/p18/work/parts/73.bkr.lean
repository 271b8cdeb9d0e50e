/-! a BOOK read -/
theorem book_parse {φ χ ψ ξ : hf_F} {z s lv : Int} (i1 : Inv φ) (i2 : Inv χ) (hz : φ 1 2 = χ 192 2) (hk : KWR φ χ) (ht : TPR φ χ) (hP : PLG 5 φ (χ 194) (χ 197)) (e1 : F_BookText_readAll_183 φ = (z, ψ))
    (e2 : bnv (F_RideLawsModel_taken_192 (hf_up χ 192 0 0) 400) (fun ψ3 => bnv (F_RideLawsModel_next_192 (hf_up (hf_up ψ3 192 15 0) 192 30 0)) (fun ψ4 => F_RideLawsModel_book_192_l39 ((40 - ψ4 192 30 : Int).toNat + 1) ψ4 lv)) = (s, ξ)) :
    (z = 0 ∧ s = -2 - ξ 192 16 ∧ FP ψ ξ ∧ FQ χ ξ) ∨ (z = 1 ∧ ∃ χ' : hf_F, RP ψ χ' ∧ PLG 5 ψ (χ' 194) (χ' 197) ∧ BKR ψ χ' ∧ FQ χ χ' ∧ (s, ξ) = F_RideLawsModel_book_192_l111 ((40 - 0 : Int).toNat + 1) (hf_mp (F_RideLawsModel_tries_192 χ') 202 0 4 (fun _ => 0)) lv (-1) 0) := by
  unfold F_BookText_readAll_183 F_Reader_begin_1 at e1
  rw [bnv_e (bnv_e rfl)] at e1
  rw [bnv_e rfl, bnv_e rfl] at e2
  have j1 : Inv (hf_up φ 183 5 0) := iv_bk0 i1
  have j2 : Inv (hf_up (hf_up (hf_up (hf_up (hf_up φ 183 5 0) 1 3 400) 1 4 0) 1 9 0) 1 10 0) :=
    iv_up (lo := 0) (u := 940) (iv_up (lo := 0) (u := 4) (iv_up (lo := 0) (u := 940) (iv_up (lo := 0) (u := 940) j1 (by decide +kernel) (by decide) (by decide)) (by decide +kernel) (by decide) (by decide)) (by decide +kernel) (by decide) (by decide)) (by decide +kernel) (by decide) (by decide)
  have k0 := inv_0 i2
  have kt := K_F_RideLawsModel_taken_192 k0 (v1 := 400) (by decide) (by decide) rfl
  have c1 : F_RideLawsModel_taken_192 (hf_up χ 192 0 0) 400 192 3 = χ 192 2 := rfl
  have c2 : F_RideLawsModel_taken_192 (hf_up χ 192 0 0) 400 192 4 = 0 := rfl
  have c3 : F_RideLawsModel_taken_192 (hf_up χ 192 0 0) 400 192 5 = 400 := rfl
  have c4 : F_RideLawsModel_taken_192 (hf_up χ 192 0 0) 400 192 22 = χ 192 22 := rfl
  have c5 : F_RideLawsModel_taken_192 (hf_up χ 192 0 0) 400 192 32 = χ 192 32 := rfl
  have c6 : ∀ a k, ¬ a = 192 → F_RideLawsModel_taken_192 (hf_up χ 192 0 0) 400 a k = χ a k := fun a k ha => by
    unfold F_RideLawsModel_taken_192
    simp only [up_a ha]
  generalize F_RideLawsModel_taken_192 (hf_up χ 192 0 0) 400 = χ1 at e2 kt c1 c2 c3 c4 c5 c6
  have k2 : Inv (hf_up (hf_up χ1 192 15 0) 192 30 0) := iv_up (lo := 0) (u := 40) (iv_up (lo := 0) (u := 4) kt.1 (by decide +kernel) (by decide) (by decide)) (by decide +kernel) (by decide) (by decide)
  have b1 := iv_at (a := 1) (k := 2) (lo := 0) (u := 940) i1 (by decide +kernel)
  have hk2 : KWR (hf_up (hf_up (hf_up (hf_up (hf_up φ 183 5 0) 1 3 400) 1 4 0) 1 9 0) 1 10 0) (hf_up (hf_up χ1 192 15 0) 192 30 0) := kwr_f hk (fun _ => rfl) (fun k => c6 198 k (by decide))
  have ht2 : TPR (hf_up (hf_up (hf_up (hf_up (hf_up φ 183 5 0) 1 3 400) 1 4 0) 1 9 0) 1 10 0) (hf_up (hf_up χ1 192 15 0) 192 30 0) := tpr_f ht (fun _ => rfl) (fun k => c6 193 k (by decide))
  have hs2 : TSR (hf_up (hf_up (hf_up (hf_up (hf_up φ 183 5 0) 1 3 400) 1 4 0) 1 9 0) 1 10 0) (hf_up (hf_up χ1 192 15 0) 192 30 0) := by
    unfold TSR
    show φ 1 2 = χ1 192 3 ∧ (400 : Int) = χ1 192 5 ∧ (0 : Int) = χ1 192 4 ∧ (0 : Int) ≤ 0 ∧ (0 : Int) ≤ φ 1 2 ∧ φ 1 2 ≤ 940 ∧ (0 : Int) = 0
    omega
  have ra := rp_adv0 j2 k2 hk2 ht2 hs2 rfl rfl
  have ka := K_F_Reader_advance_1 j2 rfl
  obtain ⟨n1, n2⟩ := tmf_n k2
  have n22 : F_RideLawsModel_next_192 (hf_up (hf_up χ1 192 15 0) 192 30 0) 192 22 = χ 192 22 := (fr_fd ra.2.2 192 22 (by decide)).trans c4
  have n32 : F_RideLawsModel_next_192 (hf_up (hf_up χ1 192 15 0) 192 30 0) 192 32 = χ 192 32 := (fr_fd ra.2.2 192 32 (by decide)).trans c5
  have na : ∀ a k, ¬ a = 192 → F_RideLawsModel_next_192 (hf_up (hf_up χ1 192 15 0) 192 30 0) a k = χ a k := fun a k ha => by
    rw [next_a ha, up_a ha, up_a ha, c6 a k ha]
  have n30 : F_RideLawsModel_next_192 (hf_up (hf_up χ1 192 15 0) 192 30 0) 192 30 = 0 := n1.1.trans rfl
  have p5 : F_Reader_advance_1 (hf_up (hf_up (hf_up (hf_up (hf_up φ 183 5 0) 1 3 400) 1 4 0) 1 9 0) 1 10 0) 183 5 = 0 := (fr_fd ka.2 183 5 (by decide)).trans rfl
  have pr : ∀ u k, 5 < u → u ≤ 16 → F_Reader_advance_1 (hf_up (hf_up (hf_up (hf_up (hf_up φ 183 5 0) 1 3 400) 1 4 0) 1 9 0) 1 10 0) u k = φ u k := fun u k h1 h2 => by
    rw [fr_hi ka.2 (by decide) (by
      have : u = 6 ∨ u = 7 ∨ u = 8 ∨ u = 9 ∨ u = 10 ∨ u = 11 ∨ u = 12 ∨ u = 13 ∨ u = 14 ∨ u = 15 ∨ u = 16 := by omega
      rcases this with rfl | rfl | rfl | rfl | rfl | rfl | rfl | rfl | rfl | rfl | rfl <;> decide) (by omega) k, up_a (by omega), up_a (by omega), up_a (by omega), up_a (by omega), up_a (by omega)]
  generalize F_Reader_advance_1 (hf_up (hf_up (hf_up (hf_up (hf_up φ 183 5 0) 1 3 400) 1 4 0) 1 9 0) 1 10 0) = φ2 at e1 ra p5 pr
  generalize F_RideLawsModel_next_192 (hf_up (hf_up χ1 192 15 0) 192 30 0) = χ2 at e2 ra n22 n32 na n30
  have fq : FQ χ χ2 := ⟨fun a k q => na a k (by omega), n22, n32⟩
  have hP2 : PLG 5 φ2 (χ2 194) (χ2 197) := plg_f hP (cb_i i2) (fun a k q => pr a k q.1 (by omega)) (fun k _ => na 194 k (by decide)) (fun k _ => na 197 k (by decide))
  rw [n30] at e2
  rcases bookp_l lv ((41 - 0 : Int).toNat + 1) ((40 - 0 : Int).toNat + 1) φ2 χ2 ψ ξ 0 z s (by decide) (by decide) (by decide) n30.symm ra.1 hP2 ⟨by rw [p5, n30], by rw [n30]; omega, fun i hi => by rw [n30] at hi; omega⟩ e1 e2 with ⟨y1, y2, y3, y4⟩ | ⟨y1, χ', y2, y3, y4, y5, y6⟩
  · exact Or.inl ⟨y1, y2, y3, fq_t fq y4⟩
  · exact Or.inr ⟨y1, χ', y2, y3, y4, fq_t fq y5, y6⟩
