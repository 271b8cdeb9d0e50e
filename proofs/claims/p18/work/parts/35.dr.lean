/-! what the two parsers of a RIDE have read so far -/
theorem fr_hi {ms : List Nat} {φ ψ : hf_F} (h : Fr ms φ ψ) (ck : ms.all (fun c => decide (2000 ≤ c)) = true) {a : Nat} (ha : g_obl.contains a = false) (h2 : a < 2000) (k : Nat) : ψ a k = φ a k := by
  refine h a k ?_
  rw [vc_ar ha]
  cases hq : ms.contains a with
  | false => rfl
  | true =>
    have := List.all_eq_true.mp ck a (by simpa using hq)
    have := of_decide_eq_true this
    omega
theorem nmr_f {φ χ φ' χ' : hf_F} {a oa b ob : Nat} {n n' : Int} (h : NMR φ χ a oa b ob n) (h0 : n' = n) (h1 : ∀ k, φ' a k = φ a k) (h2 : ∀ k, χ' b k = χ b k) : NMR φ' χ' a oa b ob n' := by
  intro i hi
  rw [h1, h2]
  exact h i (by omega)
noncomputable def CTR (φ χ : hf_F) : Prop := φ 32 0 = χ 195 0 ∧ φ 32 1 = χ 195 1 ∧ φ 32 2 = χ 195 2 ∧ φ 32 3 = χ 195 3 ∧ φ 32 4 = χ 195 4
noncomputable def CTB (χ : hf_F) : Prop := (0 ≤ χ 195 0 ∧ χ 195 0 ≤ 3) ∧ (0 ≤ χ 195 1 ∧ χ 195 1 ≤ 8) ∧ (0 ≤ χ 195 2 ∧ χ 195 2 ≤ 8) ∧ (0 ≤ χ 195 3 ∧ χ 195 3 ≤ 6) ∧ (0 ≤ χ 195 4 ∧ χ 195 4 ≤ 8)
theorem ctb {χ : hf_F} (hI : Inv χ) : CTB χ := ⟨iv_at hI (by decide +kernel), iv_at hI (by decide +kernel), iv_at hI (by decide +kernel), iv_at hI (by decide +kernel), iv_at hI (by decide +kernel)⟩
noncomputable def NAR (φ χ : hf_F) : Prop := NMR φ χ 33 0 197 33 (χ 195 0) ∧ NMR φ χ 33 8 197 36 (χ 195 1) ∧ NMR φ χ 33 16 197 44 (χ 195 2) ∧ NMR φ χ 33 24 197 52 (χ 195 3) ∧ NMR φ χ 33 32 197 58 (χ 195 4)
/-- rings, seats, riders and rolls, laws, clashes -/
noncomputable def RGR (φ χ : hf_F) : Prop := ∀ i : Nat, (i : Int) < χ 195 0 → φ 34 i = χ 195 (5 + i) ∧ φ 35 i = χ 195 (8 + i)
noncomputable def SER (φ χ : hf_F) : Prop := ∀ i : Nat, (i : Int) < χ 195 1 → φ 36 i = χ 195 (11 + i) ∧ φ 44 i = χ 195 (19 + i) ∧ ∃ g : Nat, (g : Int) < χ 195 0 ∧ χ 195 (11 + i) = g ∧ φ 38 i = χ 195 (5 + g) ∧ φ 37 i = (χ 195 (8 + g)).tmod (χ 195 (5 + g)) ∧ 0 ≤ χ 195 (19 + i) ∧ χ 195 (19 + i) < χ 195 (5 + g)
noncomputable def RDR (φ χ : hf_F) : Prop := ∀ r : Nat, r < 6 → φ 46 r = χ 195 (27 + r) - 1 ∧ φ 47 r = χ 195 (33 + r) ∧ (χ 195 3 ≤ (r : Int) → χ 195 (27 + r) = 0 ∧ χ 195 (33 + r) = 0) ∧ (0 ≤ χ 195 (27 + r) ∧ χ 195 (27 + r) ≤ χ 195 1) ∧ ∀ k : Nat, (k : Int) < χ 195 (33 + r) → φ 48 (6 * r + k) = χ 195 (39 + 6 * r + k) ∧ χ 195 (39 + 6 * r + k) < χ 195 2
noncomputable def STR (φ χ : hf_F) : Prop := ∀ s : Nat, s < 8 → (φ 45 s = -1 ∧ ∀ r : Nat, r < 6 → ¬ χ 195 (27 + r) = (s : Int) + 1) ∨ (∃ r : Nat, r < 6 ∧ φ 45 s = (r : Int) ∧ χ 195 (27 + r) = (s : Int) + 1 ∧ ∀ q : Nat, q < 6 → χ 195 (27 + q) = (s : Int) + 1 → q = r)
noncomputable def LWR (φ χ : hf_F) : Prop := ∀ i : Nat, (i : Int) < χ 195 4 → φ 39 i = χ 195 (75 + i) ∧ φ 40 i = χ 195 (83 + i) ∧ χ 195 (75 + i) < χ 195 2 ∧ χ 195 (83 + i) < χ 195 2
noncomputable def LOR (φ χ : hf_F) : Prop := ∀ a b : Nat, a < 8 → b < 8 → (φ 42 (8 * a + b) = -1 ∧ ∀ i : Nat, (i : Int) < χ 195 4 → ¬ (χ 195 (75 + i) = (a : Int) ∧ χ 195 (83 + i) = (b : Int))) ∨ (∃ i : Nat, (i : Int) < χ 195 4 ∧ φ 42 (8 * a + b) = (i : Int) ∧ χ 195 (75 + i) = (a : Int) ∧ χ 195 (83 + i) = (b : Int) ∧ ∀ q : Nat, (q : Int) < χ 195 4 → χ 195 (75 + q) = (a : Int) → χ 195 (83 + q) = (b : Int) → q = i)
noncomputable def CLR (φ χ : hf_F) : Prop := ∀ i : Nat, i < 8 → φ 41 i = χ 195 (91 + i)
noncomputable def DR (φ χ : hf_F) : Prop := CTR φ χ ∧ NAR φ χ ∧ RGR φ χ ∧ SER φ χ ∧ RDR φ χ ∧ STR φ χ ∧ LWR φ χ ∧ LOR φ χ ∧ CLR φ χ
section
variable {φ χ φ' χ' : hf_F}
theorem ctr_f (h : CTR φ χ) (h1 : ∀ k, k < 5 → φ' 32 k = φ 32 k) (h2 : ∀ j, j < 5 → χ' 195 j = χ 195 j) : CTR φ' χ' := by
  unfold CTR at *
  rw [h1 0 (by decide), h1 1 (by decide), h1 2 (by decide), h1 3 (by decide), h1 4 (by decide), h2 0 (by decide), h2 1 (by decide), h2 2 (by decide), h2 3 (by decide), h2 4 (by decide)]
  exact h
theorem nar_f (h : NAR φ χ) (h1 : ∀ k, φ' 33 k = φ 33 k) (h2 : ∀ k, χ' 197 k = χ 197 k) (h3 : ∀ j, j < 5 → χ' 195 j = χ 195 j) : NAR φ' χ' :=
  ⟨nmr_f h.1 (h3 0 (by decide)) h1 h2, nmr_f h.2.1 (h3 1 (by decide)) h1 h2, nmr_f h.2.2.1 (h3 2 (by decide)) h1 h2, nmr_f h.2.2.2.1 (h3 3 (by decide)) h1 h2, nmr_f h.2.2.2.2 (h3 4 (by decide)) h1 h2⟩
theorem rgr_f (h : RGR φ χ) (h1 : ∀ k, φ' 34 k = φ 34 k) (h2 : ∀ k, φ' 35 k = φ 35 k) (h3 : ∀ j, (j = 0 ∨ (5 ≤ j ∧ j < 11)) → χ' 195 j = χ 195 j) (h0 : χ 195 0 ≤ 3) : RGR φ' χ' := by
  intro i hi
  rw [h3 0 (by omega)] at hi
  rw [h1, h2, h3 (5 + i) (by omega), h3 (8 + i) (by omega)]
  exact h i hi
theorem ser_f (h : SER φ χ) (h1 : ∀ k, φ' 36 k = φ 36 k) (h2 : ∀ k, φ' 37 k = φ 37 k) (h3 : ∀ k, φ' 38 k = φ 38 k) (h4 : ∀ k, φ' 44 k = φ 44 k) (h5 : ∀ j, (j = 0 ∨ j = 1 ∨ (5 ≤ j ∧ j < 27)) → χ' 195 j = χ 195 j) (h0 : χ 195 0 ≤ 3 ∧ χ 195 1 ≤ 8) : SER φ' χ' := by
  intro i hi
  rw [h5 1 (by omega)] at hi
  obtain ⟨q1, q2, g, q3, q4, q5, q6, q7, q8⟩ := h i hi
  rw [h1, h2, h3, h4, h5 (11 + i) (by omega), h5 (19 + i) (by omega)]
  refine ⟨q1, q2, g, ?_, q4, ?_, ?_, q7, ?_⟩
  · rw [h5 0 (by omega)]; exact q3
  · rw [h5 (5 + g) (by omega)]; exact q5
  · rw [h5 (5 + g) (by omega), h5 (8 + g) (by omega)]; exact q6
  · rw [h5 (5 + g) (by omega)]; exact q8
theorem rdr_f (h : RDR φ χ) (h1 : ∀ k, φ' 46 k = φ 46 k) (h2 : ∀ k, φ' 47 k = φ 47 k) (h3 : ∀ k, φ' 48 k = φ 48 k) (h5 : ∀ j, (j = 3 ∨ (27 ≤ j ∧ j < 75)) → χ' 195 j = χ 195 j) (h6 : χ 195 1 ≤ χ' 195 1) (h7 : χ 195 2 ≤ χ' 195 2) (hl : ∀ r : Nat, r < 6 → χ 195 (33 + r) ≤ 6) : RDR φ' χ' := by
  intro r hr
  obtain ⟨q1, q2, q3, q4, q5⟩ := h r hr
  rw [h1, h2, h5 (27 + r) (by omega), h5 (33 + r) (by omega), h5 3 (by omega)]
  refine ⟨q1, q2, q3, by omega, fun k hk => ?_⟩
  have := hl r hr
  rw [h3, h5 (39 + 6 * r + k) (by omega)]
  have := q5 k hk
  omega
theorem str_f (h : STR φ χ) (h1 : ∀ k, φ' 45 k = φ 45 k) (h5 : ∀ j, (27 ≤ j ∧ j < 33) → χ' 195 j = χ 195 j) : STR φ' χ' := by
  intro s hs
  rw [h1]
  rcases h s hs with ⟨q1, q2⟩ | ⟨r, q1, q2, q3, q4⟩
  · exact Or.inl ⟨q1, fun r hr => by rw [h5 (27 + r) (by omega)]; exact q2 r hr⟩
  · exact Or.inr ⟨r, q1, q2, by rw [h5 (27 + r) (by omega)]; exact q3, fun q hq => by rw [h5 (27 + q) (by omega)]; exact q4 q hq⟩
theorem lwr_f (h : LWR φ χ) (h1 : ∀ k, φ' 39 k = φ 39 k) (h2 : ∀ k, φ' 40 k = φ 40 k) (h5 : ∀ j, (j = 4 ∨ (75 ≤ j ∧ j < 91)) → χ' 195 j = χ 195 j) (h7 : χ 195 2 ≤ χ' 195 2) (h0 : χ 195 4 ≤ 8) : LWR φ' χ' := by
  intro i hi
  rw [h5 4 (by omega)] at hi
  obtain ⟨q1, q2, q3, q4⟩ := h i hi
  rw [h1, h2, h5 (75 + i) (by omega), h5 (83 + i) (by omega)]
  exact ⟨q1, q2, by omega, by omega⟩
theorem lor_f (h : LOR φ χ) (h1 : ∀ k, φ' 42 k = φ 42 k) (h5 : ∀ j, (j = 4 ∨ (75 ≤ j ∧ j < 91)) → χ' 195 j = χ 195 j) (h0 : χ 195 4 ≤ 8) : LOR φ' χ' := by
  intro a b ha hb
  rw [h1, h5 4 (by omega)]
  rcases h a b ha hb with ⟨q1, q2⟩ | ⟨i, q1, q2, q3, q4, q5⟩
  · exact Or.inl ⟨q1, fun i hi => by rw [h5 (75 + i) (by omega), h5 (83 + i) (by omega)]; exact q2 i hi⟩
  · exact Or.inr ⟨i, q1, q2, by rw [h5 (75 + i) (by omega)]; exact q3, by rw [h5 (83 + i) (by omega)]; exact q4, fun q hq => by rw [h5 (75 + q) (by omega), h5 (83 + q) (by omega)]; exact q5 q hq⟩
theorem clr_f (h : CLR φ χ) (h1 : ∀ k, φ' 41 k = φ 41 k) (h5 : ∀ j, (91 ≤ j ∧ j < 99) → χ' 195 j = χ 195 j) : CLR φ' χ' := by
  intro i hi
  rw [h1, h5 (91 + i) (by omega)]
  exact h i hi
theorem lng_b (hI : Inv χ) : ∀ r : Nat, r < 6 → χ 195 (33 + r) ≤ 6 := by
  intro r hr
  have := iv_ar (a := 195) (s := 33) (t := 39) (lo := 0) (u := 6) (z := ((33 + r : Nat) : Int)) hI (by decide +kernel) (by omega) (by omega)
  rw [show ((33 + r : Nat) : Int).toNat = 33 + r from rfl] at this
  exact this.2
theorem dr_f (h : DR φ χ) (hI : Inv χ) (h1 : ∀ a k, (32 ≤ a ∧ a ≤ 48 ∧ ¬ a = 43) → φ' a k = φ a k) (h2 : ∀ k, χ' 195 k = χ 195 k) (h3 : ∀ k, χ' 197 k = χ 197 k) : DR φ' χ' := by
  obtain ⟨d1, d2, d3, d4, d5, d6, d7, d8, d9⟩ := h
  have b := ctb hI
  unfold CTB at b
  exact ⟨ctr_f d1 (fun k _ => h1 32 k (by decide)) (fun k _ => h2 k), nar_f d2 (fun k => h1 33 k (by decide)) h3 (fun k _ => h2 k), rgr_f d3 (fun k => h1 34 k (by decide)) (fun k => h1 35 k (by decide)) (fun k _ => h2 k) (by omega),
    ser_f d4 (fun k => h1 36 k (by decide)) (fun k => h1 37 k (by decide)) (fun k => h1 38 k (by decide)) (fun k => h1 44 k (by decide)) (fun k _ => h2 k) (by omega),
    rdr_f d5 (fun k => h1 46 k (by decide)) (fun k => h1 47 k (by decide)) (fun k => h1 48 k (by decide)) (fun k _ => h2 k) (by rw [h2]; omega) (by rw [h2]; omega) (lng_b hI),
    str_f d6 (fun k => h1 45 k (by decide)) (fun k _ => h2 k), lwr_f d7 (fun k => h1 39 k (by decide)) (fun k => h1 40 k (by decide)) (fun k _ => h2 k) (by rw [h2]; omega) (by omega),
    lor_f d8 (fun k => h1 42 k (by decide)) (fun k _ => h2 k) (by omega), clr_f d9 (fun k => h1 41 k (by decide)) (fun k _ => h2 k)⟩
end
noncomputable def DRP (φ χ : hf_F) : Prop := RP φ χ ∧ DR φ χ
theorem obl_d {a : Nat} (h : 32 ≤ a ∧ a ≤ 48 ∧ ¬ a = 43) : g_obl.contains a = false := by
  have hh : ∀ i : Fin 49, 32 ≤ i.1 → ¬ i.1 = 43 → g_obl.contains i.1 = false := by decide +kernel
  exact hh ⟨a, by omega⟩ h.1 h.2.2
/-- one token on -/
theorem drp_adv {φ χ ψ ξ : hf_F} (h : DRP φ χ) (e1 : F_Reader_advance_1 φ = ψ) (e2 : F_RideLawsModel_next_192 χ = ξ) :
    DRP ψ ξ ∧ Fr [2004, 2005, 2006, 2007, 2008] φ ψ ∧ Fr [193004, 193011, 193012, 193013, 193014, 193017] χ ξ := by
  have r := rp_adv h.1 e1 e2
  exact ⟨⟨r.1, dr_f h.2 h.1.1.2 (fun a k q => fr_hi r.2.1 (by decide) (obl_d q) (by omega) k) (fun k => fr_hi r.2.2 (by decide) (by decide) (by decide) k) (fun k => fr_hi r.2.2 (by decide) (by decide) (by decide) k)⟩, r.2.1, r.2.2⟩
/-- a field of the model's object alone -/
theorem drp_up {φ χ : hf_F} (h : DRP φ χ) {k : Nat} {v : Int} (hI : Inv (hf_up χ 192 k v)) (hk : 18 ≤ k) : DRP φ (hf_up χ 192 k v) :=
  ⟨rp_f h.1 h.1.1.1 hI (fun _ _ => rfl) (fun j hj => hf_up_ne (fun q => by omega)) (fun _ => rfl) (fun j => hf_up_ne (fun q => absurd q.1 (by decide))) (fun _ => rfl) (fun j => hf_up_ne (fun q => absurd q.1 (by decide))),
   dr_f h.2 h.1.1.2 (fun _ _ _ => rfl) (fun j => hf_up_ne (fun q => absurd q.1 (by decide))) (fun j => hf_up_ne (fun q => absurd q.1 (by decide)))⟩
theorem drp_got {φ χ : hf_F} (h : DRP φ χ) {v : Int} (h1 : -1 ≤ v) (h2 : v ≤ 999) : DRP φ (hf_up χ 192 18 v) := drp_up h (iv_up (lo := -1) (u := 999) h.1.1.2 (by decide +kernel) h1 h2) (by decide)
theorem seeks {φ χ : hf_F} (h : DRP φ χ) (h2 : φ 1 5 = 2) : F_RideLawsModel_seek_192 χ 33 (χ 195 0) = F_Plan_numberOf_31_k1_0 φ (φ 1 8) ∧ F_RideLawsModel_seek_192 χ 36 (χ 195 1) = F_Plan_numberOf_31_k1_1 φ (φ 1 8) ∧ F_RideLawsModel_seek_192 χ 44 (χ 195 2) = F_Plan_numberOf_31_k1_2 φ (φ 1 8) ∧ F_RideLawsModel_seek_192 χ 52 (χ 195 3) = F_Plan_numberOf_31_k1_3 φ (φ 1 8) ∧ F_RideLawsModel_seek_192 χ 58 (χ 195 4) = F_Plan_numberOf_31_k1_4 φ (φ 1 8) := by
  have w := rp_w h.1 h2
  obtain ⟨hr, hc, hn, _⟩ := h
  have b := ctb hr.1.2
  unfold CTB at b
  have hc' := hc
  unfold CTR at hc'
  exact ⟨nof_31_0 9 9 φ χ (φ 1 8) 0 (by decide) (by decide) (by decide) hc.1 (by omega) hn.1 w.1 w.2.2.1, nof_31_1 9 9 φ χ (φ 1 8) 0 (by decide) (by decide) (by decide) hc.2.1 (by omega) hn.2.1 w.1 w.2.2.1, nof_31_2 9 9 φ χ (φ 1 8) 0 (by decide) (by decide) (by decide) hc.2.2.1 (by omega) hn.2.2.1 w.1 w.2.2.1, nof_31_3 9 9 φ χ (φ 1 8) 0 (by decide) (by decide) (by decide) hc.2.2.2.1 (by omega) hn.2.2.2.1 w.1 w.2.2.1, nof_31_4 9 9 φ χ (φ 1 8) 0 (by decide) (by decide) (by decide) hc.2.2.2.2 (by omega) hn.2.2.2.2 w.1 w.2.2.1⟩
theorem fresh_rel {φ χ ψ ξ : hf_F} {v r : Int} (h : DRP φ χ) (hv1 : 33 ≤ v) (hv2 : v ≤ 65) (e2 : F_RideLawsModel_fresh_192 χ v = (r, ξ)) (e1 : F_Reader_advance_1 φ = ψ) :
    (¬ φ 1 5 = 2 ∧ r = 0 ∧ FP (F_Reader_refuse_1 φ 1).2 ξ) ∨ (φ 1 5 = 2 ∧ ¬ F_Plan_isTold_31 φ (φ 1 8) = 0 ∧ r = 0 ∧ FP (F_Reader_refuse_1 φ 3).2 ξ) ∨
    (φ 1 5 = 2 ∧ F_Plan_isTold_31 φ (φ 1 8) = 0 ∧ r = 1 ∧ RP ψ ξ ∧ VW (φ 1 8) ∧ ¬ φ 1 8 = 0 ∧ ξ 197 v.toNat = G8 (φ 1 8) ∧ (∀ k : Nat, ¬ k = v.toNat → ξ 197 k = χ 197 k) ∧ (∀ k, ξ 195 k = χ 195 k) ∧ (∀ a k, (32 ≤ a ∧ a ≤ 48 ∧ ¬ a = 43) → ψ a k = φ a k)) := by
  unfold F_RideLawsModel_fresh_192 at e2
  have hz := isnm_z h.1
  by_cases c1 : φ 1 5 = 2
  · have hnz : ¬ F_RideLawsModel_isName_192 χ = 0 := by rw [hz]; exact fun q => q c1
    obtain ⟨s0, s1, s2, s3, s4⟩ := seeks h c1
    have w := rp_w h.1 c1
    have ht := told_e φ (φ 1 8)
    rw [bnp_e rfl, if_pos hnz, bnp_e s0] at e2
    have n0 := K_F_Plan_numberOf_31_k1_0 (v2 := φ 1 8) h.1.1.1 rfl
    have n1 := K_F_Plan_numberOf_31_k1_1 (v2 := φ 1 8) h.1.1.1 rfl
    have n2 := K_F_Plan_numberOf_31_k1_2 (v2 := φ 1 8) h.1.1.1 rfl
    have n3 := K_F_Plan_numberOf_31_k1_3 (v2 := φ 1 8) h.1.1.1 rfl
    have n4 := K_F_Plan_numberOf_31_k1_4 (v2 := φ 1 8) h.1.1.1 rfl
    have hbad : ∀ (r : Int) (ξ : hf_F), bnd (F_RideLawsModel_bad_192 χ 3) (fun z ψ => (z, ψ)) = (r, ξ) → r = 0 ∧ FP (F_Reader_refuse_1 φ 3).2 ξ := by
      intro r ξ e
      obtain ⟨z6, ψ6, h6'⟩ : ∃ a b, F_RideLawsModel_bad_192 χ 3 = (a, b) := ⟨_, _, rfl⟩
      rw [bnd_e h6'] at e
      have := rf_bad h.1 (show F_Reader_refuse_1 φ 3 = (_, _) from rfl) h6'
      cases e
      exact this.2
    have hno : ∀ (z : Int), ¬ z = -1 → -1 ≤ z → 0 ≤ z := fun z a b => by omega
    by_cases q0 : F_Plan_numberOf_31_k1_0 φ (φ 1 8) = -1
    · rw [if_neg (show ¬ 0 ≤ F_Plan_numberOf_31_k1_0 φ (φ 1 8) by omega), bnp_e s1] at e2
      by_cases q1 : F_Plan_numberOf_31_k1_1 φ (φ 1 8) = -1
      · rw [if_neg (show ¬ 0 ≤ F_Plan_numberOf_31_k1_1 φ (φ 1 8) by omega), bnp_e s2] at e2
        by_cases q2 : F_Plan_numberOf_31_k1_2 φ (φ 1 8) = -1
        · rw [if_neg (show ¬ 0 ≤ F_Plan_numberOf_31_k1_2 φ (φ 1 8) by omega), bnp_e s3] at e2
          by_cases q3 : F_Plan_numberOf_31_k1_3 φ (φ 1 8) = -1
          · rw [if_neg (show ¬ 0 ≤ F_Plan_numberOf_31_k1_3 φ (φ 1 8) by omega), bnp_e s4] at e2
            by_cases q4 : F_Plan_numberOf_31_k1_4 φ (φ 1 8) = -1
            · rw [if_pos (show F_Plan_numberOf_31_k1_4 φ (φ 1 8) < 0 by omega), bnv_e rfl] at e2
              have i2 : Inv (hf_up χ 197 v.toNat (χ 192 17)) := iv_upIn h.1.1.2 (by decide) (by decide +kernel)
              have h' : RP φ (hf_up χ 197 v.toNat (χ 192 17)) := rp_f h.1 h.1.1.1 i2 (fun _ _ => rfl) (fun j hj => hf_up_ne (fun q => absurd q.1 (by decide))) (fun _ => rfl) (fun j => hf_up_ne (fun q => absurd q.1 (by decide))) (fun _ => rfl) (fun j => hf_up_ne (fun q => absurd q.1 (by decide)))
              have ra := rp_adv h' e1 rfl
              have ht0 : F_Plan_isTold_31 φ (φ 1 8) = 0 := by rw [ht]; exact ⟨q0, q1, q2, q3, q4⟩
              cases e2
              refine Or.inr (Or.inr ⟨c1, ht0, rfl, ra.1, w.1, by omega, ?_, fun k hk => ?_, fun k => ?_, fun a k q => fr_hi ra.2.1 (by decide) (obl_d q) (by omega) k⟩)
              · rw [fr_at ra.2.2 197 (by decide), hf_up_eq]
                exact w.2.2.1
              · rw [fr_at ra.2.2 197 (by decide), hf_up_ne (fun q => hk q.2)]
              · rw [fr_at ra.2.2 195 (by decide), hf_up_ne (fun q => absurd q.1 (by decide))]
            · rw [if_neg (show ¬ F_Plan_numberOf_31_k1_4 φ (φ 1 8) < 0 by omega)] at e2
              exact Or.inr (Or.inl ⟨c1, by rw [ht]; exact fun q => q4 q.2.2.2.2, hbad _ _ e2⟩)
          · rw [if_pos (hno _ q3 n3.1)] at e2
            exact Or.inr (Or.inl ⟨c1, by rw [ht]; exact fun q => q3 q.2.2.2.1, hbad _ _ e2⟩)
        · rw [if_pos (hno _ q2 n2.1)] at e2
          exact Or.inr (Or.inl ⟨c1, by rw [ht]; exact fun q => q2 q.2.2.1, hbad _ _ e2⟩)
      · rw [if_pos (hno _ q1 n1.1)] at e2
        exact Or.inr (Or.inl ⟨c1, by rw [ht]; exact fun q => q1 q.2.1, hbad _ _ e2⟩)
    · rw [if_pos (hno _ q0 n0.1)] at e2
      exact Or.inr (Or.inl ⟨c1, by rw [ht]; exact fun q => q0 q.1, hbad _ _ e2⟩)
  · have hnz : F_RideLawsModel_isName_192 χ = 0 := by rw [hz]; exact c1
    rw [bnp_e rfl, if_neg (fun q => q hnz)] at e2
    obtain ⟨z6, ψ6, h6'⟩ : ∃ a b, F_RideLawsModel_bad_192 χ 1 = (a, b) := ⟨_, _, rfl⟩
    rw [bnd_e h6'] at e2
    have := rf_bad h.1 (show F_Reader_refuse_1 φ 1 = (_, _) from rfl) h6'
    cases e2
    exact Or.inl ⟨c1, this.2⟩
theorem new_0 {φ χ ψ : hf_F} {z : Int} (h : DRP φ χ) (e1 : F_RideText_readNew_182_k1_0 φ = (z, ψ)) :
    (χ 195 0 = 3 ∧ z = 0 ∧ FP ψ (F_RideLawsModel_bad_192 χ 4).2) ∨
    (χ 195 0 < 3 ∧ ∀ (ξ2 ξ : hf_F) (r : Int), F_RideLawsModel_next_192 χ = ξ2 → F_RideLawsModel_fresh_192 ξ2 (33 + χ 195 0) = (r, ξ) → (z = 0 ∧ r = 0 ∧ FP ψ ξ) ∨
      (¬ z = 0 ∧ r = 1 ∧ VW z ∧ RP ψ ξ ∧ ξ 197 (33 + χ 195 0).toNat = G8 z ∧ (∀ k : Nat, ¬ k = (33 + χ 195 0).toNat → ξ 197 k = χ 197 k) ∧ (∀ k, ξ 195 k = χ 195 k) ∧ (∀ a k, (32 ≤ a ∧ a ≤ 48 ∧ ¬ a = 43) → ψ a k = φ a k))) := by
  have hc := h.2.1
  have b := ctb h.1.1.2
  unfold CTB at b
  unfold CTR at hc
  unfold F_RideText_readNew_182_k1_0 at e1
  by_cases c1 : φ 32 0 < 3
  · have hf : F_Plan_isFull_31_k1_0 φ = 0 := by unfold F_Plan_isFull_31_k1_0; rw [if_pos c1]
    rw [bnp_e rfl, if_pos hf, bnv_e rfl] at e1
    refine Or.inr ⟨by omega, fun ξ2 ξ r e2 e3 => ?_⟩
    have ra := drp_adv h rfl e2
    have hfr := fresh_rel ra.1 (by omega) (by omega) e3 rfl
    have k95 : ∀ k, ξ2 195 k = χ 195 k := fun k => fr_at ra.2.2 195 (by decide) k
    have k97 : ∀ k, ξ2 197 k = χ 197 k := fun k => fr_at ra.2.2 197 (by decide) k
    generalize F_Reader_advance_1 φ = ψ3 at e1 ra hfr
    have kd : ∀ a k, (32 ≤ a ∧ a ≤ 48 ∧ ¬ a = 43) → ψ3 a k = φ a k := fun a k q => fr_hi ra.2.1 (by decide) (obl_d q) (by omega) k
    rcases hfr with ⟨c2, c3, c4⟩ | ⟨c2, c2b, c3, c4⟩ | ⟨c2, c2b, c3, c4, c5, c6, c7, c8, c9, c10⟩
    · rw [if_neg c2] at e1
      cases e1
      exact Or.inl ⟨rfl, c3, c4⟩
    · rw [if_pos c2, bnp_e rfl, if_neg c2b] at e1
      cases e1
      exact Or.inl ⟨rfl, c3, c4⟩
    · rw [if_pos c2, bnp_e rfl, if_pos c2b, bnv_e rfl] at e1
      cases e1
      exact Or.inr ⟨c6, c3, c5, c4, c7, fun k hk => (c8 k hk).trans (k97 k), fun k => (c9 k).trans (k95 k), fun a k q => (c10 a k q).trans (kd a k q)⟩
  · have hf : ¬ F_Plan_isFull_31_k1_0 φ = 0 := by unfold F_Plan_isFull_31_k1_0; rw [if_neg c1]; decide
    rw [bnp_e rfl, if_neg hf] at e1
    cases e1
    exact Or.inl ⟨by omega, rfl, (rf_bad h.1 (show F_Reader_refuse_1 φ 4 = (_, _) from rfl) (show F_RideLawsModel_bad_192 χ 4 = (_, _) from rfl)).2.2⟩
theorem new_1 {φ χ ψ : hf_F} {z : Int} (h : DRP φ χ) (e1 : F_RideText_readNew_182_k1_1 φ = (z, ψ)) :
    (χ 195 1 = 8 ∧ z = 0 ∧ FP ψ (F_RideLawsModel_bad_192 χ 4).2) ∨
    (χ 195 1 < 8 ∧ ∀ (ξ2 ξ : hf_F) (r : Int), F_RideLawsModel_next_192 χ = ξ2 → F_RideLawsModel_fresh_192 ξ2 (36 + χ 195 1) = (r, ξ) → (z = 0 ∧ r = 0 ∧ FP ψ ξ) ∨
      (¬ z = 0 ∧ r = 1 ∧ VW z ∧ RP ψ ξ ∧ ξ 197 (36 + χ 195 1).toNat = G8 z ∧ (∀ k : Nat, ¬ k = (36 + χ 195 1).toNat → ξ 197 k = χ 197 k) ∧ (∀ k, ξ 195 k = χ 195 k) ∧ (∀ a k, (32 ≤ a ∧ a ≤ 48 ∧ ¬ a = 43) → ψ a k = φ a k))) := by
  have hc := h.2.1
  have b := ctb h.1.1.2
  unfold CTB at b
  unfold CTR at hc
  unfold F_RideText_readNew_182_k1_1 at e1
  by_cases c1 : φ 32 1 < 8
  · have hf : F_Plan_isFull_31_k1_1 φ = 0 := by unfold F_Plan_isFull_31_k1_1; rw [if_pos c1]
    rw [bnp_e rfl, if_pos hf, bnv_e rfl] at e1
    refine Or.inr ⟨by omega, fun ξ2 ξ r e2 e3 => ?_⟩
    have ra := drp_adv h rfl e2
    have hfr := fresh_rel ra.1 (by omega) (by omega) e3 rfl
    have k95 : ∀ k, ξ2 195 k = χ 195 k := fun k => fr_at ra.2.2 195 (by decide) k
    have k97 : ∀ k, ξ2 197 k = χ 197 k := fun k => fr_at ra.2.2 197 (by decide) k
    generalize F_Reader_advance_1 φ = ψ3 at e1 ra hfr
    have kd : ∀ a k, (32 ≤ a ∧ a ≤ 48 ∧ ¬ a = 43) → ψ3 a k = φ a k := fun a k q => fr_hi ra.2.1 (by decide) (obl_d q) (by omega) k
    rcases hfr with ⟨c2, c3, c4⟩ | ⟨c2, c2b, c3, c4⟩ | ⟨c2, c2b, c3, c4, c5, c6, c7, c8, c9, c10⟩
    · rw [if_neg c2] at e1
      cases e1
      exact Or.inl ⟨rfl, c3, c4⟩
    · rw [if_pos c2, bnp_e rfl, if_neg c2b] at e1
      cases e1
      exact Or.inl ⟨rfl, c3, c4⟩
    · rw [if_pos c2, bnp_e rfl, if_pos c2b, bnv_e rfl] at e1
      cases e1
      exact Or.inr ⟨c6, c3, c5, c4, c7, fun k hk => (c8 k hk).trans (k97 k), fun k => (c9 k).trans (k95 k), fun a k q => (c10 a k q).trans (kd a k q)⟩
  · have hf : ¬ F_Plan_isFull_31_k1_1 φ = 0 := by unfold F_Plan_isFull_31_k1_1; rw [if_neg c1]; decide
    rw [bnp_e rfl, if_neg hf] at e1
    cases e1
    exact Or.inl ⟨by omega, rfl, (rf_bad h.1 (show F_Reader_refuse_1 φ 4 = (_, _) from rfl) (show F_RideLawsModel_bad_192 χ 4 = (_, _) from rfl)).2.2⟩
theorem new_2 {φ χ ψ : hf_F} {z : Int} (h : DRP φ χ) (e1 : F_RideText_readNew_182_k1_2 φ = (z, ψ)) :
    (χ 195 2 = 8 ∧ z = 0 ∧ FP ψ (F_RideLawsModel_bad_192 χ 4).2) ∨
    (χ 195 2 < 8 ∧ ∀ (ξ2 ξ : hf_F) (r : Int), F_RideLawsModel_next_192 χ = ξ2 → F_RideLawsModel_fresh_192 ξ2 (44 + χ 195 2) = (r, ξ) → (z = 0 ∧ r = 0 ∧ FP ψ ξ) ∨
      (¬ z = 0 ∧ r = 1 ∧ VW z ∧ RP ψ ξ ∧ ξ 197 (44 + χ 195 2).toNat = G8 z ∧ (∀ k : Nat, ¬ k = (44 + χ 195 2).toNat → ξ 197 k = χ 197 k) ∧ (∀ k, ξ 195 k = χ 195 k) ∧ (∀ a k, (32 ≤ a ∧ a ≤ 48 ∧ ¬ a = 43) → ψ a k = φ a k))) := by
  have hc := h.2.1
  have b := ctb h.1.1.2
  unfold CTB at b
  unfold CTR at hc
  unfold F_RideText_readNew_182_k1_2 at e1
  by_cases c1 : φ 32 2 < 8
  · have hf : F_Plan_isFull_31_k1_2 φ = 0 := by unfold F_Plan_isFull_31_k1_2; rw [if_pos c1]
    rw [bnp_e rfl, if_pos hf, bnv_e rfl] at e1
    refine Or.inr ⟨by omega, fun ξ2 ξ r e2 e3 => ?_⟩
    have ra := drp_adv h rfl e2
    have hfr := fresh_rel ra.1 (by omega) (by omega) e3 rfl
    have k95 : ∀ k, ξ2 195 k = χ 195 k := fun k => fr_at ra.2.2 195 (by decide) k
    have k97 : ∀ k, ξ2 197 k = χ 197 k := fun k => fr_at ra.2.2 197 (by decide) k
    generalize F_Reader_advance_1 φ = ψ3 at e1 ra hfr
    have kd : ∀ a k, (32 ≤ a ∧ a ≤ 48 ∧ ¬ a = 43) → ψ3 a k = φ a k := fun a k q => fr_hi ra.2.1 (by decide) (obl_d q) (by omega) k
    rcases hfr with ⟨c2, c3, c4⟩ | ⟨c2, c2b, c3, c4⟩ | ⟨c2, c2b, c3, c4, c5, c6, c7, c8, c9, c10⟩
    · rw [if_neg c2] at e1
      cases e1
      exact Or.inl ⟨rfl, c3, c4⟩
    · rw [if_pos c2, bnp_e rfl, if_neg c2b] at e1
      cases e1
      exact Or.inl ⟨rfl, c3, c4⟩
    · rw [if_pos c2, bnp_e rfl, if_pos c2b, bnv_e rfl] at e1
      cases e1
      exact Or.inr ⟨c6, c3, c5, c4, c7, fun k hk => (c8 k hk).trans (k97 k), fun k => (c9 k).trans (k95 k), fun a k q => (c10 a k q).trans (kd a k q)⟩
  · have hf : ¬ F_Plan_isFull_31_k1_2 φ = 0 := by unfold F_Plan_isFull_31_k1_2; rw [if_neg c1]; decide
    rw [bnp_e rfl, if_neg hf] at e1
    cases e1
    exact Or.inl ⟨by omega, rfl, (rf_bad h.1 (show F_Reader_refuse_1 φ 4 = (_, _) from rfl) (show F_RideLawsModel_bad_192 χ 4 = (_, _) from rfl)).2.2⟩
theorem new_3 {φ χ ψ : hf_F} {z : Int} (h : DRP φ χ) (e1 : F_RideText_readNew_182_k1_3 φ = (z, ψ)) :
    (χ 195 3 = 6 ∧ z = 0 ∧ FP ψ (F_RideLawsModel_bad_192 χ 4).2) ∨
    (χ 195 3 < 6 ∧ ∀ (ξ2 ξ : hf_F) (r : Int), F_RideLawsModel_next_192 χ = ξ2 → F_RideLawsModel_fresh_192 ξ2 (52 + χ 195 3) = (r, ξ) → (z = 0 ∧ r = 0 ∧ FP ψ ξ) ∨
      (¬ z = 0 ∧ r = 1 ∧ VW z ∧ RP ψ ξ ∧ ξ 197 (52 + χ 195 3).toNat = G8 z ∧ (∀ k : Nat, ¬ k = (52 + χ 195 3).toNat → ξ 197 k = χ 197 k) ∧ (∀ k, ξ 195 k = χ 195 k) ∧ (∀ a k, (32 ≤ a ∧ a ≤ 48 ∧ ¬ a = 43) → ψ a k = φ a k))) := by
  have hc := h.2.1
  have b := ctb h.1.1.2
  unfold CTB at b
  unfold CTR at hc
  unfold F_RideText_readNew_182_k1_3 at e1
  by_cases c1 : φ 32 3 < 6
  · have hf : F_Plan_isFull_31_k1_3 φ = 0 := by unfold F_Plan_isFull_31_k1_3; rw [if_pos c1]
    rw [bnp_e rfl, if_pos hf, bnv_e rfl] at e1
    refine Or.inr ⟨by omega, fun ξ2 ξ r e2 e3 => ?_⟩
    have ra := drp_adv h rfl e2
    have hfr := fresh_rel ra.1 (by omega) (by omega) e3 rfl
    have k95 : ∀ k, ξ2 195 k = χ 195 k := fun k => fr_at ra.2.2 195 (by decide) k
    have k97 : ∀ k, ξ2 197 k = χ 197 k := fun k => fr_at ra.2.2 197 (by decide) k
    generalize F_Reader_advance_1 φ = ψ3 at e1 ra hfr
    have kd : ∀ a k, (32 ≤ a ∧ a ≤ 48 ∧ ¬ a = 43) → ψ3 a k = φ a k := fun a k q => fr_hi ra.2.1 (by decide) (obl_d q) (by omega) k
    rcases hfr with ⟨c2, c3, c4⟩ | ⟨c2, c2b, c3, c4⟩ | ⟨c2, c2b, c3, c4, c5, c6, c7, c8, c9, c10⟩
    · rw [if_neg c2] at e1
      cases e1
      exact Or.inl ⟨rfl, c3, c4⟩
    · rw [if_pos c2, bnp_e rfl, if_neg c2b] at e1
      cases e1
      exact Or.inl ⟨rfl, c3, c4⟩
    · rw [if_pos c2, bnp_e rfl, if_pos c2b, bnv_e rfl] at e1
      cases e1
      exact Or.inr ⟨c6, c3, c5, c4, c7, fun k hk => (c8 k hk).trans (k97 k), fun k => (c9 k).trans (k95 k), fun a k q => (c10 a k q).trans (kd a k q)⟩
  · have hf : ¬ F_Plan_isFull_31_k1_3 φ = 0 := by unfold F_Plan_isFull_31_k1_3; rw [if_neg c1]; decide
    rw [bnp_e rfl, if_neg hf] at e1
    cases e1
    exact Or.inl ⟨by omega, rfl, (rf_bad h.1 (show F_Reader_refuse_1 φ 4 = (_, _) from rfl) (show F_RideLawsModel_bad_192 χ 4 = (_, _) from rfl)).2.2⟩
theorem new_4 {φ χ ψ : hf_F} {z : Int} (h : DRP φ χ) (e1 : F_RideText_readNew_182_k1_4 φ = (z, ψ)) :
    (χ 195 4 = 8 ∧ z = 0 ∧ FP ψ (F_RideLawsModel_bad_192 χ 4).2) ∨
    (χ 195 4 < 8 ∧ ∀ (ξ2 ξ : hf_F) (r : Int), F_RideLawsModel_next_192 χ = ξ2 → F_RideLawsModel_fresh_192 ξ2 (58 + χ 195 4) = (r, ξ) → (z = 0 ∧ r = 0 ∧ FP ψ ξ) ∨
      (¬ z = 0 ∧ r = 1 ∧ VW z ∧ RP ψ ξ ∧ ξ 197 (58 + χ 195 4).toNat = G8 z ∧ (∀ k : Nat, ¬ k = (58 + χ 195 4).toNat → ξ 197 k = χ 197 k) ∧ (∀ k, ξ 195 k = χ 195 k) ∧ (∀ a k, (32 ≤ a ∧ a ≤ 48 ∧ ¬ a = 43) → ψ a k = φ a k))) := by
  have hc := h.2.1
  have b := ctb h.1.1.2
  unfold CTB at b
  unfold CTR at hc
  unfold F_RideText_readNew_182_k1_4 at e1
  by_cases c1 : φ 32 4 < 8
  · have hf : F_Plan_isFull_31_k1_4 φ = 0 := by unfold F_Plan_isFull_31_k1_4; rw [if_pos c1]
    rw [bnp_e rfl, if_pos hf, bnv_e rfl] at e1
    refine Or.inr ⟨by omega, fun ξ2 ξ r e2 e3 => ?_⟩
    have ra := drp_adv h rfl e2
    have hfr := fresh_rel ra.1 (by omega) (by omega) e3 rfl
    have k95 : ∀ k, ξ2 195 k = χ 195 k := fun k => fr_at ra.2.2 195 (by decide) k
    have k97 : ∀ k, ξ2 197 k = χ 197 k := fun k => fr_at ra.2.2 197 (by decide) k
    generalize F_Reader_advance_1 φ = ψ3 at e1 ra hfr
    have kd : ∀ a k, (32 ≤ a ∧ a ≤ 48 ∧ ¬ a = 43) → ψ3 a k = φ a k := fun a k q => fr_hi ra.2.1 (by decide) (obl_d q) (by omega) k
    rcases hfr with ⟨c2, c3, c4⟩ | ⟨c2, c2b, c3, c4⟩ | ⟨c2, c2b, c3, c4, c5, c6, c7, c8, c9, c10⟩
    · rw [if_neg c2] at e1
      cases e1
      exact Or.inl ⟨rfl, c3, c4⟩
    · rw [if_pos c2, bnp_e rfl, if_neg c2b] at e1
      cases e1
      exact Or.inl ⟨rfl, c3, c4⟩
    · rw [if_pos c2, bnp_e rfl, if_pos c2b, bnv_e rfl] at e1
      cases e1
      exact Or.inr ⟨c6, c3, c5, c4, c7, fun k hk => (c8 k hk).trans (k97 k), fun k => (c9 k).trans (k95 k), fun a k q => (c10 a k q).trans (kd a k q)⟩
  · have hf : ¬ F_Plan_isFull_31_k1_4 φ = 0 := by unfold F_Plan_isFull_31_k1_4; rw [if_neg c1]; decide
    rw [bnp_e rfl, if_neg hf] at e1
    cases e1
    exact Or.inl ⟨by omega, rfl, (rf_bad h.1 (show F_Reader_refuse_1 φ 4 = (_, _) from rfl) (show F_RideLawsModel_bad_192 χ 4 = (_, _) from rfl)).2.2⟩
