/-! the model's book: its lines in read (196), by threes -/
noncomputable def EN (φ : hf_F) (z : Int) : Prop := (φ 196 (3 * z).toNat = 0 → 0 ≤ φ 196 (3 * z + 1).toNat ∧ φ 196 (3 * z + 1).toNat ≤ 5 ∧ 0 ≤ φ 196 (3 * z + 2).toNat ∧ φ 196 (3 * z + 2).toNat ≤ 7) ∧ (φ 196 (3 * z).toNat = 1 → 0 ≤ φ 196 (3 * z + 1).toNat ∧ φ 196 (3 * z + 1).toNat ≤ 5) ∧ (φ 196 (3 * z).toNat = 2 → 0 ≤ φ 196 (3 * z + 1).toNat ∧ φ 196 (3 * z + 1).toNat ≤ 5 ∧ 0 ≤ φ 196 (3 * z + 2).toNat ∧ φ 196 (3 * z + 2).toNat ≤ 7)
noncomputable def BM (φ : hf_F) : Prop := ∀ z : Int, 0 ≤ z → z < φ 192 30 → EN φ z
noncomputable def Kf (n : Int) (φ ψ : hf_F) : Prop := ∀ j : Nat, (j : Int) < n → ψ 196 j = φ 196 j
section
variable {φ ψ χ : hf_F} {a k b ob m : Nat} {n v z : Int} {ms : List Nat} {f : Nat → Int}
theorem kf_rf : Kf n φ φ := fun _ _ => rfl
theorem kf_up (h : Kf n φ ψ) (h0 : 0 ≤ z) (hz : n ≤ z) : Kf n φ (hf_up ψ 196 z.toNat v) := by
  intro j hj
  rw [hf_up_ne (fun q => by omega)]
  exact h j hj
theorem kf_upn (h : Kf n φ ψ) (ha : ¬ a = 196) : Kf n φ (hf_up ψ a k v) := by
  intro j hj
  rw [hf_up_ne (fun q => ha q.1.symm)]
  exact h j hj
theorem kf_fr (h : Kf n φ ψ) (hF : Fr ms ψ χ) (hm : (!(g_obl.contains 196) && !(ms.contains 196)) = true) : Kf n φ χ := by
  intro j hj
  rw [fr_at hF 196 hm]
  exact h j hj
theorem en_fr (h : EN φ z) (hF : Fr ms φ ψ) (hm : (!(g_obl.contains 196) && !(ms.contains 196)) = true) : EN ψ z := by
  unfold EN at h ⊢
  rw [fr_at hF 196 hm, fr_at hF 196 hm, fr_at hF 196 hm]
  exact h
theorem en_c (h : EN φ z) (h0 : 0 ≤ z) (hk : Kf n φ ψ) (hn : 3 * z + 3 ≤ n) : EN ψ z := by
  unfold EN at h ⊢
  rw [hk _ (by omega), hk _ (by omega), hk _ (by omega)]
  exact h
theorem bm_0 : BM (hf_up φ 192 30 0) := by
  intro z h0 h1
  rw [hf_up_eq] at h1
  omega
theorem bm_up (h : BM φ) (h1 : ¬ a = 196) (h2 : ¬ (a = 192 ∧ k = 30)) : BM (hf_up φ a k v) := by
  intro z h0 h3
  rw [hf_up_ne (fun q => h2 ⟨q.1.symm, q.2.symm⟩)] at h3
  have h4 := h z h0 h3
  unfold EN at h4 ⊢
  rw [hf_up_ne (fun q => h1 q.1.symm), hf_up_ne (fun q => h1 q.1.symm), hf_up_ne (fun q => h1 q.1.symm)]
  exact h4
theorem bm_mp (h : BM φ) (h1 : ¬ b = 196) (h2 : ¬ b = 192) : BM (hf_mp φ b ob m f) := by
  intro z h0 h3
  rw [hf_mp_ne (fun q => h2 q.1.symm)] at h3
  have h4 := h z h0 h3
  unfold EN at h4 ⊢
  rw [hf_mp_ne (fun q => h1 q.1.symm), hf_mp_ne (fun q => h1 q.1.symm), hf_mp_ne (fun q => h1 q.1.symm)]
  exact h4
theorem bm_fr (h : BM φ) (hF : Fr ms φ ψ) (hm : (!(g_obl.contains 196) && !(ms.contains 196)) = true) (ht : ψ 192 30 = φ 192 30) : BM ψ := by
  intro z h0 h3
  rw [ht] at h3
  exact en_fr (h z h0 h3) hF hm
theorem bm_kf (h : BM φ) (hk : Kf (3 * φ 192 30) φ ψ) (ht : ψ 192 30 = φ 192 30) : BM ψ := by
  intro z h0 h3
  rw [ht] at h3
  exact en_c (h z h0 h3) h0 hk (by omega)
theorem bm_s {t : Int} (h : BM φ) (he : EN φ t) (ht : φ 192 30 = t) (hv : v = t + 1) : BM (hf_up φ 192 30 v) := by
  intro z h0 h3
  rw [hf_up_eq] at h3
  have h4 : EN φ z := by
    by_cases hz : z < t
    · exact h z h0 (by rw [ht]; exact hz)
    · rw [show z = t by omega]; exact he
  unfold EN at h4 ⊢
  rw [hf_up_ne (fun q => absurd q.1 (by decide)), hf_up_ne (fun q => absurd q.1 (by decide)), hf_up_ne (fun q => absurd q.1 (by decide))]
  exact h4
theorem bm_f (h : BM φ) (z : Int) : 0 ≤ z → z < φ 192 30 → (φ 196 (3 * z).toNat = 0 → 0 ≤ φ 196 (3 * z + 1).toNat ∧ φ 196 (3 * z + 1).toNat ≤ 5 ∧ 0 ≤ φ 196 (3 * z + 2).toNat ∧ φ 196 (3 * z + 2).toNat ≤ 7) ∧ (φ 196 (3 * z).toNat = 1 → 0 ≤ φ 196 (3 * z + 1).toNat ∧ φ 196 (3 * z + 1).toNat ≤ 5) ∧ (φ 196 (3 * z).toNat = 2 → 0 ≤ φ 196 (3 * z + 1).toNat ∧ φ 196 (3 * z + 1).toNat ≤ 5 ∧ 0 ≤ φ 196 (3 * z + 2).toNat ∧ φ 196 (3 * z + 2).toNat ≤ 7) := fun h0 h1 => h z h0 h1
end
/-! the model's sentence: what its codes leave (cdr) and how many joining words wait (nbn) -/
noncomputable def cdr (φ : hf_F) : Nat → Int
  | 0 => 0
  | i + 1 => if φ 196 (3 * i) = 20 then cdr φ i else if φ 196 (3 * i) = 21 ∨ φ 196 (3 * i) = 22 then cdr φ i - 1 else cdr φ i + 1
noncomputable def nbn (φ : hf_F) : Nat → Int
  | 0 => 0
  | i + 1 => nbn φ i + (if φ 203 i = 21 ∨ φ 203 i = 22 then 1 else 0)
noncomputable def WR (φ : hf_F) (n : Int) : Prop := ∀ i : Nat, (i : Int) < n → (φ 196 (3 * i) = 20 → 1 ≤ cdr φ i) ∧ ((φ 196 (3 * i) = 21 ∨ φ 196 (3 * i) = 22) → 2 ≤ cdr φ i)
noncomputable def SIw (φ : hf_F) (w : Int) : Prop := WR φ (φ 192 34) ∧ cdr φ (φ 192 34).toNat = nbn φ (φ 192 36).toNat + w
section
variable {φ φ2 ψ : hf_F} {a k : Nat} {v w c t d : Int} {ms : List Nat}
theorem nbn_nn (φ : hf_F) : ∀ n : Nat, 0 ≤ nbn φ n
  | 0 => Int.le_refl _
  | n + 1 => by
    have h := nbn_nn φ n
    unfold nbn
    split <;> omega
theorem nbn_c : ∀ n : Nat, (∀ j : Nat, j < n → ψ 203 j = φ 203 j) → nbn ψ n = nbn φ n
  | 0, _ => rfl
  | n + 1, h => by
    unfold nbn
    rw [nbn_c n (fun j hj => h j (by omega)), h n (by omega)]
theorem cdr_c : ∀ n : Nat, (∀ j : Nat, j < n → ψ 196 (3 * j) = φ 196 (3 * j)) → cdr ψ n = cdr φ n
  | 0, _ => rfl
  | n + 1, h => by
    unfold cdr
    rw [cdr_c n (fun j hj => h j (by omega)), h n (by omega)]
theorem nbn_pop (φ : hf_F) (z : Int) : 0 < z → ((φ 203 (z - 1).toNat = 21 ∨ φ 203 (z - 1).toNat = 22) → nbn φ z.toNat = nbn φ (z - 1).toNat + 1) ∧ (¬ (φ 203 (z - 1).toNat = 21 ∨ φ 203 (z - 1).toNat = 22) → nbn φ z.toNat = nbn φ (z - 1).toNat) := by
  intro h
  have e : z.toNat = (z - 1).toNat + 1 := by omega
  rw [e]
  refine ⟨fun q => ?_, fun q => ?_⟩
  · show nbn φ (z - 1).toNat + (if φ 203 (z - 1).toNat = 21 ∨ φ 203 (z - 1).toNat = 22 then 1 else 0) = _
    rw [if_pos q]
  · show nbn φ (z - 1).toNat + (if φ 203 (z - 1).toNat = 21 ∨ φ 203 (z - 1).toNat = 22 then 1 else 0) = _
    rw [if_neg q, Int.add_zero]
theorem si_w (h : SIw φ w) (e : w = v) : SIw φ v := by rw [← e]; exact h
/-- nothing of it changed -/
theorem si_sm (h : SIw φ w) (h4 : ψ 192 34 = φ 192 34) (h6 : ψ 192 36 = φ 192 36) (e6 : ∀ j, ψ 196 j = φ 196 j) (e3 : ∀ j, ψ 203 j = φ 203 j) : SIw ψ w := by
  obtain ⟨h1, h2⟩ := h
  refine ⟨fun i hi => ?_, ?_⟩
  · rw [h4] at hi
    rw [e6, cdr_c i (fun j _ => e6 _)]
    exact h1 i hi
  · rw [h4, h6, cdr_c _ (fun j _ => e6 _), nbn_c _ (fun j _ => e3 _)]
    exact h2
theorem si_fr (h : SIw φ w) (hF : Fr ms φ ψ) (hm : ((!(g_obl.contains 196) && !(ms.contains 196)) && (!(g_obl.contains 203) && !(ms.contains 203))) = true) (h4 : ψ 192 34 = φ 192 34) (h6 : ψ 192 36 = φ 192 36) : SIw ψ w := by
  obtain ⟨m1, m2⟩ := Bool.and_eq_true_iff.mp hm
  exact si_sm h h4 h6 (fun j => fr_at hF 196 m1 j) (fun j => fr_at hF 203 m2 j)
theorem si_up (h : SIw φ w) (hn : ¬ (a = 196 ∨ a = 203 ∨ (a = 192 ∧ (k = 34 ∨ k = 36)))) : SIw (hf_up φ a k v) w :=
  si_sm h (hf_up_ne (by omega)) (hf_up_ne (by omega)) (fun j => hf_up_ne (by omega)) (fun j => hf_up_ne (by omega))
theorem si_0 (h4 : ψ 192 34 = 0) (h6 : ψ 192 36 = 0) : SIw ψ 0 := by
  refine ⟨fun i hi => ?_, ?_⟩
  · rw [h4] at hi; omega
  · rw [h4, h6]; rfl
/-- a code is put -/
theorem si_code (h : SIw φ d) (e196 : ∀ j, φ2 196 j = φ 196 j) (e34 : φ2 192 34 = φ 192 34) (hk : Kf (3 * φ2 192 34) φ2 ψ) (hv : ψ 196 (3 * φ2 192 34).toNat = c) (hc : ψ 192 34 = φ2 192 34 + 1) (h0 : 0 ≤ φ 192 34) (hs : ∀ j, ψ 203 j = φ 203 j) (ht : ψ 192 36 = t)
    (hw1 : c = 20 → 1 ≤ nbn φ (φ 192 36).toNat + d) (hw2 : (c = 21 ∨ c = 22) → 2 ≤ nbn φ (φ 192 36).toNat + d)
    (hb1 : c = 20 → nbn φ t.toNat + w = nbn φ (φ 192 36).toNat + d) (hb2 : (c = 21 ∨ c = 22) → nbn φ t.toNat + w = nbn φ (φ 192 36).toNat + d - 1) (hb3 : (¬ c = 20 ∧ ¬ c = 21 ∧ ¬ c = 22) → nbn φ t.toNat + w = nbn φ (φ 192 36).toNat + d + 1) : SIw ψ w := by
  obtain ⟨h1, h2⟩ := h
  rw [e34] at hk hv hc
  have hk2 : ∀ j : Nat, (j : Int) < 3 * φ 192 34 → ψ 196 j = φ 196 j := fun j hj => (hk j hj).trans (e196 j)
  have hcd : ∀ i : Nat, (i : Int) ≤ φ 192 34 → cdr ψ i = cdr φ i := fun i hi => cdr_c i (fun j hj => hk2 _ (by omega))
  have hN : (3 * φ 192 34).toNat = 3 * (φ 192 34).toNat := by omega
  rw [hN] at hv
  refine ⟨fun i hi => ?_, ?_⟩
  · rw [hc] at hi
    by_cases hlt : (i : Int) < φ 192 34
    · rw [hk2 _ (by omega), hcd i (by omega)]
      exact h1 i hlt
    · have e : i = (φ 192 34).toNat := by omega
      subst e
      rw [hv, hcd _ (by omega), h2]
      exact ⟨hw1, hw2⟩
  · rw [hc, ht, nbn_c _ (fun j _ => hs j), show (φ 192 34 + 1).toNat = (φ 192 34).toNat + 1 by omega]
    show (if ψ 196 (3 * (φ 192 34).toNat) = 20 then cdr ψ (φ 192 34).toNat else if ψ 196 (3 * (φ 192 34).toNat) = 21 ∨ ψ 196 (3 * (φ 192 34).toNat) = 22 then cdr ψ (φ 192 34).toNat - 1 else cdr ψ (φ 192 34).toNat + 1) = _
    rw [hv, hcd _ (by omega), h2]
    by_cases q1 : c = 20
    · rw [if_pos q1]; have := hb1 q1; omega
    · rw [if_neg q1]
      by_cases q2 : c = 21 ∨ c = 22
      · rw [if_pos q2]; have := hb2 q2; omega
      · rw [if_neg q2]; have := hb3 ⟨q1, fun e => q2 (Or.inl e), fun e => q2 (Or.inr e)⟩; omega
/-- only the stack changed: at and above its old top -/
theorem si_st (h : SIw φ d) (h4 : ψ 192 34 = φ 192 34) (e6 : ∀ j, ψ 196 j = φ 196 j) (hb : nbn ψ (ψ 192 36).toNat + w = nbn φ (φ 192 36).toNat + d) : SIw ψ w := by
  obtain ⟨h1, h2⟩ := h
  refine ⟨fun i hi => ?_, ?_⟩
  · rw [h4] at hi
    rw [e6, cdr_c i (fun j _ => e6 _)]
    exact h1 i hi
  · rw [h4, cdr_c _ (fun j _ => e6 _), h2]
    exact hb.symm
/-- a word is laid on the stack -/
theorem si_push (h : SIw φ d) (h0 : 0 ≤ φ 192 36) (hc : (c = 21 ∨ c = 22) → w = d - 1) (hc2 : ¬ (c = 21 ∨ c = 22) → w = d) : SIw (hf_up (hf_up φ 203 (φ 192 36).toNat c) 192 36 (φ 192 36 + 1)) w := by
  refine si_st h (by rw [hf_up_ne (by omega), hf_up_ne (by omega)]) (fun j => by rw [hf_up_ne (by omega), hf_up_ne (by omega)]) ?_
  rw [hf_up_eq, show (φ 192 36 + 1).toNat = (φ 192 36).toNat + 1 by omega]
  show nbn _ (φ 192 36).toNat + (if hf_up (hf_up φ 203 (φ 192 36).toNat c) 192 36 (φ 192 36 + 1) 203 (φ 192 36).toNat = 21 ∨ hf_up (hf_up φ 203 (φ 192 36).toNat c) 192 36 (φ 192 36 + 1) 203 (φ 192 36).toNat = 22 then 1 else 0) + w = _
  rw [hf_up_ne (by omega), hf_up_eq, nbn_c (φ := φ) (φ 192 36).toNat (fun j hj => by rw [hf_up_ne (by omega), hf_up_ne (by omega)])]
  by_cases q : c = 21 ∨ c = 22
  · rw [if_pos q]; have := hc q; omega
  · rw [if_neg q]; have := hc2 q; omega
/-- a bracket is taken from it -/
theorem si_pop (h : SIw φ d) (h0 : 0 < φ 192 36) (hc : ¬ (φ 203 (φ 192 36 - 1).toNat = 21 ∨ φ 203 (φ 192 36 - 1).toNat = 22)) : SIw (hf_up φ 192 36 (φ 192 36 - 1)) d := by
  refine si_st h (hf_up_ne (by omega)) (fun j => hf_up_ne (by omega)) ?_
  have h1 := (nbn_pop φ (φ 192 36) h0).2 hc
  rw [hf_up_eq, nbn_c (φ := φ) _ (fun j hj => hf_up_ne (by omega)), h1]
end
theorem iv_sent {φ : hf_F} (hI : Inv φ) (hW : WR φ (φ 192 34)) (h0 : 0 ≤ φ 192 34) (h1 : φ 192 34 ≤ 45) : Inv (hf_mp (hf_up φ 194 180 (φ 192 34)) 194 181 (3 * (hf_up φ 194 180 (φ 192 34)) 192 34).toNat (fun j => (hf_up φ 194 180 (φ 192 34)) 196 (0 + j))) := by
  have e0 : (hf_up φ 194 180 (φ 192 34)) 192 34 = φ 192 34 := hf_up_ne (by omega)
  rw [e0]
  generalize hP : hf_up φ 194 180 (φ 192 34) = P
  have eP : ∀ c j, ¬ (c = 194 ∧ j = 180) → P c j = φ c j := fun c j h => by rw [← hP]; exact hf_up_ne h
  have eP0 : P 194 180 = φ 192 34 := by rw [← hP]; exact hf_up_eq
  generalize hψ : hf_mp P 194 181 (3 * φ 192 34).toNat (fun j => P 196 (0 + j)) = ψ
  have eψ : ∀ c j, ¬ (c = 194 ∧ 181 ≤ j ∧ j < 181 + (3 * φ 192 34).toNat) → ψ c j = P c j := fun c j h => by rw [← hψ]; exact hf_mp_ne h
  have eψi : ∀ j, j < (3 * φ 192 34).toNat → ψ 194 (181 + j) = φ 196 j := fun j h => by
    rw [← hψ, hf_mp_eq h, Nat.zero_add]; exact eP _ _ (by omega)
  have en : ∀ c j, ¬ c = 194 → ψ c j = φ c j := fun c j h => (eψ c j (by omega)).trans (eP c j (by omega))
  have e4 : ∀ j, j < 180 → ψ 194 j = φ 194 j := fun j h => (eψ _ j (by omega)).trans (eP _ j (by omega))
  obtain ⟨hV, ⟨r1, r2, r3, r4⟩, w1, w2, w3, wb⟩ := hI
  refine ⟨?_, ⟨?_, ?_, ?_, ?_⟩, ?_, ?_, ?_, ?_⟩
  · have hVP : Iv P := by
      rw [← hP]
      refine iv0_ups hV (by decide) (fun q hq => ?_)
      rw [show g_iv 194 180 = some (0, 45) by decide +kernel] at hq
      cases hq
      exact ⟨h0, h1⟩
    rw [← hψ]
    refine iv0_mp hVP (by decide) (fun j hj q hq => ?_)
    have hg := ck_iv_at (a := 194) (s := 181) (t := 316) (lo := -1) (u := 8214) (z := ((181 + j : Nat) : Int)) (by decide +kernel) (by omega) (by omega)
    rw [Int.toNat_natCast] at hg
    rw [hg] at hq
    cases hq
    have hr := ck_iv_at (a := 196) (s := 0) (t := 135) (lo := -1) (u := 8214) (z := ((j : Nat) : Int)) (by decide +kernel) (by omega) (by omega)
    rw [Int.toNat_natCast] at hr
    have h5 := hVP.1 196 j _ hr
    show -1 ≤ P 196 (0 + j) ∧ P 196 (0 + j) ≤ 8214
    rw [Nat.zero_add]
    exact h5
  · exact rs_congr (e4 _ (by omega)) (fun k hk => e4 _ (by omega)) (fun k hk => e4 _ (by omega)) r1
  · exact rs_congr (en _ _ (by decide)) (fun _ _ => en _ _ (by decide)) (fun _ _ => en _ _ (by decide)) r2
  · exact rs_congr (en _ _ (by decide)) (fun _ _ => en _ _ (by decide)) (fun _ _ => en _ _ (by decide)) r3
  · exact rs_congr (en _ _ (by decide)) (fun _ _ => en _ _ (by decide)) (fun _ _ => en _ _ (by decide)) r4
  · have hcd : ∀ i : Nat, (i : Int) ≤ φ 192 34 → cd ψ 194 180 i = cdr φ i := by
      intro i
      induction i with
      | zero => intro _; rfl
      | succ i ih =>
        intro hi
        show (if ψ 194 (180 + 1 + 3 * i) = 20 then cd ψ 194 180 i else if ψ 194 (180 + 1 + 3 * i) = 21 ∨ ψ 194 (180 + 1 + 3 * i) = 22 then cd ψ 194 180 i - 1 else cd ψ 194 180 i + 1) = (if φ 196 (3 * i) = 20 then cdr φ i else if φ 196 (3 * i) = 21 ∨ φ 196 (3 * i) = 22 then cdr φ i - 1 else cdr φ i + 1)
        rw [show 180 + 1 + 3 * i = 181 + 3 * i by omega, eψi _ (by omega), ih (by omega)]
    intro i hi h2
    rw [eψ _ _ (by omega), eP0] at h2
    rw [show 180 + 1 + 3 * i = 181 + 3 * i by omega, eψi _ (by omega), hcd i (by omega)]
    exact hW i h2
  · exact wf_congr (en _ _ (by decide)) (fun _ _ => en _ _ (by decide)) w2
  · exact wf_congr (en _ _ (by decide)) (fun _ _ => en _ _ (by decide)) w3
  · exact bk_congr (en _ _ (by decide)) (fun _ => en _ _ (by decide)) (fun _ => en _ _ (by decide)) (fun _ => en _ _ (by decide)) wb
section
variable {φ : hf_F}
theorem wf_f (hI : Inv φ) (k : Int) : 0 ≤ k → k < φ 194 180 → (φ 194 (181 + 3 * k).toNat = 20 → 1 ≤ cd φ 194 180 k.toNat) ∧ ((φ 194 (181 + 3 * k).toNat = 21 ∨ φ 194 (181 + 3 * k).toNat = 22) → 2 ≤ cd φ 194 180 k.toNat) := by
  intro h0 h1
  have h2 := iv_at (a := 194) (k := 180) (lo := 0) (u := 45) hI (by decide +kernel)
  have h := hI.2.2.1 k.toNat (by omega) (by omega)
  rw [show 180 + 1 + 3 * k.toNat = (181 + 3 * k).toNat by omega] at h
  exact h
theorem cd_s (φ : hf_F) (z : Int) (h : 0 ≤ z) : (φ 194 (181 + 3 * z).toNat = 20 → cd φ 194 180 (z + 1).toNat = cd φ 194 180 z.toNat) ∧ ((φ 194 (181 + 3 * z).toNat = 21 ∨ φ 194 (181 + 3 * z).toNat = 22) → cd φ 194 180 (z + 1).toNat = cd φ 194 180 z.toNat - 1) ∧ ((¬ φ 194 (181 + 3 * z).toNat = 20 ∧ ¬ φ 194 (181 + 3 * z).toNat = 21 ∧ ¬ φ 194 (181 + 3 * z).toNat = 22) → cd φ 194 180 (z + 1).toNat = cd φ 194 180 z.toNat + 1) := by
  have e : cd φ 194 180 (z + 1).toNat = (if φ 194 (181 + 3 * z).toNat = 20 then cd φ 194 180 z.toNat else if φ 194 (181 + 3 * z).toNat = 21 ∨ φ 194 (181 + 3 * z).toNat = 22 then cd φ 194 180 z.toNat - 1 else cd φ 194 180 z.toNat + 1) := by
    rw [show (z + 1).toNat = z.toNat + 1 by omega, show (181 + 3 * z).toNat = 180 + 1 + 3 * z.toNat by omega]
    rfl
  rw [e]
  refine ⟨fun q => by rw [if_pos q], fun q => ?_, fun q => ?_⟩
  · rw [if_neg (by omega), if_pos q]
  · rw [if_neg q.1, if_neg (by omega)]
theorem cd_0 (φ : hf_F) : cd φ 194 180 ((0 : Int)).toNat = 0 := rfl
theorem cd_u {a k n : Nat} {v : Int} (ha : ¬ a = 194) : cd (hf_up φ a k v) 194 180 n = cd φ 194 180 n := cd_congr n (fun j _ => hf_up_ne (fun q => ha q.1.symm))
end
