/-! a BOOK lived -/
noncomputable def BLN (φ χ : hf_F) (i : Nat) : Prop :=
  (χ 196 (3 * i) = 0 ∧ φ 184 i = 7 ∧ φ 185 i = χ 196 (3 * i + 1) ∧ (0 ≤ χ 196 (3 * i + 1) ∧ χ 196 (3 * i + 1) < χ 194 3) ∧ φ 186 i = χ 196 (3 * i + 2) ∧ (0 ≤ χ 196 (3 * i + 2) ∧ χ 196 (3 * i + 2) < χ 194 1)) ∨
  (χ 196 (3 * i) = 1 ∧ φ 184 i = 8 ∧ φ 185 i = χ 196 (3 * i + 1) ∧ (0 ≤ χ 196 (3 * i + 1) ∧ χ 196 (3 * i + 1) < χ 194 3)) ∨
  (χ 196 (3 * i) = 2 ∧ φ 184 i = 9 ∧ φ 185 i = χ 196 (3 * i + 1) ∧ (0 ≤ χ 196 (3 * i + 1) ∧ χ 196 (3 * i + 1) < χ 194 3) ∧ φ 186 i = χ 196 (3 * i + 2) ∧ (0 ≤ χ 196 (3 * i + 2) ∧ χ 196 (3 * i + 2) < χ 194 2)) ∨
  (χ 196 (3 * i) = 3 ∧ φ 184 i = 10) ∨
  (χ 196 (3 * i) = 4 ∧ φ 184 i = 11 ∧ φ 186 i = χ 196 (3 * i + 1) ∧ (1 ≤ χ 196 (3 * i + 1) ∧ χ 196 (3 * i + 1) ≤ 60))
noncomputable def BKR (φ χ : hf_F) : Prop := φ 183 5 = χ 192 30 ∧ (0 ≤ χ 192 30 ∧ χ 192 30 ≤ 40) ∧ ∀ i : Nat, (i : Int) < χ 192 30 → BLN φ χ i
theorem line_lv {φ χ : hf_F} {i : Nat} (hI : Inv χ) (h : LIV φ χ) (hB : BLN φ χ i) : LST φ χ (F_BookText_liveLine_183_43 φ (i : Int)) (F_RideLawsModel_does_192 χ (χ 196 (3 * i)) (χ 196 (3 * i + 1)) (χ 196 (3 * i + 2))) := by
  unfold F_BookText_liveLine_183_43
  rw [show ((i : Int)).toNat = i by omega]
  rcases hB with ⟨a1, a2, a3, a4, a5, a6⟩ | ⟨a1, a2, a3, a4⟩ | ⟨a1, a2, a3, a4, a5, a6⟩ | ⟨a1, a2⟩ | ⟨a1, a2, a3, a4⟩
  · rw [a1, a2, if_pos rfl, a3, a5]
    have := does_0 (r := (χ 196 (3 * i + 1)).toNat) (s := (χ 196 (3 * i + 2)).toNat) hI h (by omega) (by omega)
    rw [show (((χ 196 (3 * i + 1)).toNat : Nat) : Int) = χ 196 (3 * i + 1) by omega, show (((χ 196 (3 * i + 2)).toNat : Nat) : Int) = χ 196 (3 * i + 2) by omega] at this
    exact this
  · rw [a1, a2, if_neg (show ¬ (8 : Int) = 7 by decide), if_pos rfl, a3]
    have := does_1 (r := (χ 196 (3 * i + 1)).toNat) (w := χ 196 (3 * i + 2)) hI h (by omega)
    rw [show (((χ 196 (3 * i + 1)).toNat : Nat) : Int) = χ 196 (3 * i + 1) by omega] at this
    exact this
  · rw [a1, a2, if_neg (show ¬ (9 : Int) = 7 by decide), if_neg (show ¬ (9 : Int) = 8 by decide), if_pos rfl, a3, a5]
    have := does_2 (r := (χ 196 (3 * i + 1)).toNat) (w := (χ 196 (3 * i + 2)).toNat) hI h (by omega) (by omega)
    rw [show (((χ 196 (3 * i + 1)).toNat : Nat) : Int) = χ 196 (3 * i + 1) by omega, show (((χ 196 (3 * i + 2)).toNat : Nat) : Int) = χ 196 (3 * i + 2) by omega] at this
    exact this
  · rw [a1, a2, if_neg (show ¬ (10 : Int) = 7 by decide), if_neg (show ¬ (10 : Int) = 8 by decide), if_neg (show ¬ (10 : Int) = 9 by decide), if_pos rfl]
    exact does_3 hI h
  · rw [a1, a2, if_neg (show ¬ (11 : Int) = 7 by decide), if_neg (show ¬ (11 : Int) = 8 by decide), if_neg (show ¬ (11 : Int) = 9 by decide), if_neg (show ¬ (11 : Int) = 10 by decide), a3]
    exact does_4 hI h a4.1 a4.2
theorem liv_o {φ χ ψ ξ : hf_F} (hI : Inv χ) (h : LIV φ χ) (h1 : ∀ a k, (5 < a ∧ a ≤ 16) ∨ (43 ≤ a ∧ a ≤ 51) → ψ a k = φ a k) (h2 : ∀ k, k < 180 → ξ 194 k = χ 194 k) (h3 : ∀ k, k < 33 → ξ 197 k = χ 197 k) : LIV ψ ξ := by
  have hb := cb_i hI
  have hr : SRB (χ 194) := srb_s hb h.1.2.2.2.1
  refine ⟨plg_f h.1 hb (fun a k q => h1 a k (by omega)) (fun k q => h2 k (by omega)) h3, stg_o h.2.1 hb (fun a k q => h1 a k (by omega)) (fun k q => h2 k (by omega)) (fun k _ q => h2 k q) hr, ?_⟩
  exact tkb_g h.2.2 (fun k q => h2 k (by omega))
/-- how far a BOOK is lived -/
noncomputable def LVE (φ χ : hf_F) (w l2 i : Int) : Prop := φ 183 6 = χ 202 1 ∧ χ 202 0 = w ∧ ((l2 = -1 ∧ w = 0 ∧ χ 202 1 = i) ∨ (l2 = χ 202 1 ∧ 0 ≤ l2 ∧ 1 ≤ w ∧ w ≤ 50 ∧ l2 + 1 = i))
noncomputable def BND (χ : hf_F) (l1 l2 : Int) : Int × hf_F := (if ¬ l1 = 1 then (if ¬ l1 = 0 then (l2, (hf_up (hf_up (hf_up χ 202 2 (χ 194 99)) 202 3 (χ 194 102)) 192 32 1)) else (bnv (F_RideLawsModel_back_192 (hf_up (hf_up (hf_up χ 202 2 (χ 194 99)) 202 3 (χ 194 102)) 192 32 1)) (fun ψ5 => (l2, ψ5)))) else (if (jm_n (χ 202 1)) ≤ 0 then (if ¬ l1 = 0 then (l2, (hf_up (hf_up (hf_up χ 202 2 (χ 194 99)) 202 3 (χ 194 102)) 192 32 1)) else (bnv (F_RideLawsModel_back_192 (hf_up (hf_up (hf_up χ 202 2 (χ 194 99)) 202 3 (χ 194 102)) 192 32 1)) (fun ψ10 => (l2, ψ10)))) else (bnv (F_RideLawsModel_keep_192 (hf_up (hf_up (hf_up χ 202 2 (χ 194 99)) 202 3 (χ 194 102)) 192 32 1)) (fun ψ12 => (if ¬ l1 = 0 then (l2, (hf_mp ψ12 199 ((81 * (ψ12 192 22 - 1)).toNat) 81 (fun j => ψ12 200 (0 + j)))) else (bnv (F_RideLawsModel_back_192 (hf_mp ψ12 199 ((81 * (ψ12 192 22 - 1)).toNat) 81 (fun j => ψ12 200 (0 + j)))) (fun ψ16 => (l2, ψ16))))))))
noncomputable def FB (φ ψ : hf_F) : Prop := ∀ a k : Nat, ¬ (43 ≤ a ∧ a ≤ 51) → ¬ (a = 183 ∧ k = 6) → ψ a k = φ a k
noncomputable def FBM (χ ξ : hf_F) : Prop := ∀ a k : Nat, ¬ (a = 194 ∧ 99 ≤ k ∧ k < 180) → ¬ (a = 202 ∧ k < 2) → ξ a k = χ a k
theorem lon_l (l1 : Int) : ∀ (n m : Nat) (φ χ : hf_F) (w l2 i : Int), 40 - i < n → 40 - i < m → 0 ≤ i → i ≤ 40 → Inv χ → LIV φ χ → BKR φ χ → LVE φ χ w l2 i →
    ∃ (w' l2' i' : Int) (ψ ξ : hf_F), F_BookText_liveOn_183_43_l9 n φ w i = (w', ψ) ∧ F_RideLawsModel_book_192_l111 m χ l1 l2 i = BND ξ l1 l2' ∧ LIV ψ ξ ∧ FB φ ψ ∧ FBM χ ξ ∧ LVE ψ ξ w' l2' i' ∧ Inv ξ ∧ i' ≤ 40 ∧ χ 202 1 ≤ ξ 202 1 ∧ (ξ 202 1 = χ 202 1 → ∀ k, ξ 194 k = χ 194 k) := by
  intro n
  induction n with
  | zero => intro m φ χ w l2 i h1 h2 h3 h4; omega
  | succ n ih =>
    intro m φ χ w l2 i h1 h2 h3 h4 hI h hB hE
    obtain ⟨m, rfl⟩ : ∃ j, m = j + 1 := ⟨m - 1, by omega⟩
    rw [F_BookText_liveOn_183_43_l9_s, F_RideLawsModel_book_192_l111_s, hB.1]
    obtain ⟨e1, e2, e3⟩ := hE
    have hB40 := hB.2.1
    have hn : jm_n w = w := hi_n (by unfold hi; omega)
    by_cases c : χ 192 30 ≤ i
    · rw [if_pos c, if_pos c]
      exact ⟨w, l2, i, φ, χ, rfl, rfl, h, fun _ _ _ _ => rfl, fun _ _ _ _ => rfl, ⟨e1, e2, e3⟩, hI, h4, Int.le_refl _, fun _ _ => rfl⟩
    · rw [if_neg c, if_neg c, hn]
      by_cases c2 : w = 0
      · rw [if_neg (fun q => q c2), if_neg (show ¬ 0 ≤ l2 by omega)]
        have hx := line_lv (i := i.toNat) hI h (hB.2.2 i.toNat (by omega))
        rw [show ((i.toNat : Nat) : Int) = i by omega] at hx
        rw [show (3 * i).toNat = 3 * i.toNat by omega, show (3 * i + 1).toNat = 3 * i.toNat + 1 by omega, show (3 * i + 2).toNat = 3 * i.toNat + 2 by omega]
        generalize F_BookText_liveLine_183_43 φ i = p at hx ⊢
        generalize F_RideLawsModel_does_192 χ (χ 196 (3 * i.toNat)) (χ 196 (3 * i.toNat + 1)) (χ 196 (3 * i.toNat + 2)) = q at hx ⊢
        obtain ⟨z, ψ⟩ := p
        obtain ⟨z', ξ⟩ := q
        obtain ⟨x1, x2, x3, x4, x5, x6, x7⟩ := hx
        dsimp only at x1 x2 x3 x4 x5 x6 x7
        subst x1
        rw [bnd_e rfl, bnd_e rfl, show jm_n z = z from hi_n (by unfold hi; omega)]
        have y1 : ψ 183 6 = φ 183 6 := x3 183 6 (by omega)
        have y2 : ξ 202 1 = χ 202 1 := x4 202 1 (by omega)
        have yB : ∀ (ψ' ξ' : hf_F), (∀ a k, ¬ (a = 183 ∧ k = 6) → ψ' a k = ψ a k) → (∀ a k, ¬ (a = 202 ∧ k < 2) → ξ' a k = ξ a k) → BKR ψ' ξ' := fun ψ' ξ' g1 g2 => by
          have t1 : ∀ a k, a = 196 ∨ (a = 194 ∧ k < 99) ∨ (a = 192 ∧ k = 30) → ξ' a k = χ a k := fun a k q => (g2 a k (by omega)).trans (x4 a k (by omega))
          have t2 : ∀ a k, (183 ≤ a ∧ a ≤ 186) → ¬ (a = 183 ∧ k = 6) → ψ' a k = φ a k := fun a k q1 q2 => (g1 a k q2).trans (x3 a k (by omega))
          refine ⟨?_, ?_, fun j hj => ?_⟩
          · rw [t2 183 5 (by omega) (by omega), t1 192 30 (by omega)]; exact hB.1
          · rw [t1 192 30 (by omega)]; exact hB.2.1
          · rw [t1 192 30 (by omega)] at hj
            have := hB.2.2 j hj
            unfold BLN at this ⊢
            rw [t1 196 _ (by omega), t1 196 (3 * j + 1) (by omega), t1 196 (3 * j + 2) (by omega), t2 184 j (by omega) (by omega), t2 185 j (by omega) (by omega), t2 186 j (by omega) (by omega), t1 194 3 (by omega), t1 194 1 (by omega), t1 194 2 (by omega)]
            exact this
        by_cases c3 : z = 0
        · rw [if_neg (fun q => q c3), if_pos (show z ≤ 0 by omega)]
          have g1 : ∀ a k, ¬ (a = 183 ∧ k = 6) → hf_up ψ 183 6 (ψ 183 6 + 1) a k = ψ a k := fun a k q => hf_up_ne q
          have g2 : ∀ a k, ¬ (a = 202 ∧ k < 2) → hf_up (hf_up ξ 202 0 z) 202 1 (ξ 202 1 + 1) a k = ξ a k := fun a k q => by rw [hf_up_ne (by omega), hf_up_ne (by omega)]
          have hI2 : Inv (hf_up (hf_up ξ 202 0 z) 202 1 (ξ 202 1 + 1)) := iv_upIn (iv_upIn x6 (by decide) (by decide +kernel)) (by decide) (by decide +kernel)
          obtain ⟨w', l2', i', ψ2, ξ2, i1, i2, i3, i4, i5, i6, i7, i8, i9, i0⟩ := ih m _ _ z l2 (i + 1) (by omega) (by omega) (by omega) (by omega) hI2 (liv_o x6 x2 (fun a k q => g1 a k (by omega)) (fun k _ => g2 194 k (by omega)) (fun k _ => g2 197 k (by omega))) (yB _ _ g1 g2) ⟨by rw [hf_up_eq, hf_up_eq, y1, y2, e1], by rw [up_k (by decide), hf_up_eq], Or.inl ⟨by omega, c3, by rw [hf_up_eq, y2]; omega⟩⟩
          have w1 : hf_up (hf_up ξ 202 0 z) 202 1 (ξ 202 1 + 1) 202 1 = ξ 202 1 + 1 := hf_up_eq
          exact ⟨w', l2', i', ψ2, ξ2, i1, i2, i3, fun a k q1 q2 => (i4 a k q1 q2).trans ((g1 a k q2).trans (x3 a k q1)), fun a k q1 q2 => (i5 a k q1 q2).trans ((g2 a k q2).trans (x4 a k q1)), i6, i7, i8, by omega, fun q => absurd q (by omega)⟩
        · rw [if_pos c3, if_neg (show ¬ z ≤ 0 by omega)]
          have g2 : ∀ a k, ¬ (a = 202 ∧ k < 2) → hf_up ξ 202 0 z a k = ξ a k := fun a k q => hf_up_ne (by omega)
          have hI2 : Inv (hf_up ξ 202 0 z) := iv_upIn x6 (by decide) (by decide +kernel)
          obtain ⟨w', l2', i', ψ2, ξ2, i1, i2, i3, i4, i5, i6, i7, i8, i9, i0⟩ := ih m _ _ z i (i + 1) (by omega) (by omega) (by omega) (by omega) hI2 (liv_o x6 x2 (fun _ _ _ => rfl) (fun k _ => g2 194 k (by omega)) (fun k _ => g2 197 k (by omega))) (yB _ _ (fun _ _ _ => rfl) g2) ⟨by rw [up_k (by decide), y1, y2, e1], hf_up_eq, Or.inr ⟨by rw [up_k (by decide), y2]; omega, by omega, by omega, by omega, rfl⟩⟩
          have w1 : hf_up ξ 202 0 z 202 1 = ξ 202 1 := up_k (by decide)
          exact ⟨w', l2', i', ψ2, ξ2, i1, i2, i3, fun a k q1 q2 => (i4 a k q1 q2).trans (x3 a k q1), fun a k q1 q2 => (i5 a k q1 q2).trans ((g2 a k q2).trans (x4 a k q1)), i6, i7, i8, by omega, fun q k => by rw [i0 (by omega) k, up_a (by decide), x7 c3]⟩
      · rw [if_pos c2, if_pos (show 0 ≤ l2 by omega)]
        exact ⟨w, l2, i, φ, χ, rfl, rfl, h, fun _ _ _ _ => rfl, fun _ _ _ _ => rfl, ⟨e1, e2, e3⟩, hI, h4, Int.le_refl _, fun _ _ => rfl⟩
