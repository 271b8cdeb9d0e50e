/-! a line of a BOOK -/
noncomputable def BKM (φ χ : hf_F) : Prop := φ 183 5 = χ 192 30 + 1 ∧ (0 ≤ χ 192 30 ∧ χ 192 30 ≤ 39) ∧ ∀ i : Nat, (i : Int) < χ 192 30 + 1 → BLN φ χ i
noncomputable def BLX (r s : Int) (ψ ξ : hf_F) : Prop := (r = 1 ∧ s = 1 ∧ RP ψ ξ ∧ PLG 5 ψ (ξ 194) (ξ 197) ∧ BKM ψ ξ) ∨ (r = 0 ∧ s = 0 ∧ FP ψ ξ)
theorem iskw_e (φ : hf_F) (k : Int) : F_Reader_isKeyword_1 φ k = if φ 1 5 = 3 ∧ φ 1 7 = k then 1 else 0 := by
  unfold F_Reader_isKeyword_1
  by_cases c : φ 1 5 = 3
  · rw [if_neg (show ¬ ¬ φ 1 5 = 3 from fun q => q c)]
    by_cases c2 : φ 1 7 = k
    · rw [if_neg (show ¬ ¬ φ 1 7 = k from fun q => q c2), if_pos ⟨c, c2⟩]
    · rw [if_pos (show ¬ φ 1 7 = k from c2), if_neg (fun q => c2 q.2)]
  · rw [if_pos (show ¬ φ 1 5 = 3 from c), if_neg (fun q => c q.1)]
theorem rp_196 {φ χ : hf_F} {z v : Int} (h : RP φ χ) (h1 : 0 ≤ z) (h2 : z < 135) (h3 : -1 ≤ v) (h4 : v ≤ 8214) : RP φ (hf_up χ 196 z.toNat v) :=
  rp_f h h.1.1 (iv_upI (s := 0) (t := 135) (lo := (-1 : Int)) (u := 8214) (z := z) h.1.2 (by decide +kernel) (by omega) (by omega) h3 h4) (fun _ _ => rfl) (fun _ _ => rfl) (fun _ => rfl) (fun _ => rfl) (fun _ => rfl) (fun _ => rfl)
theorem bk_fin {φ χ φ' ξ : hf_F} {a b c : Int} (hB : BKR φ χ) (hn : χ 192 30 < 40) (f1 : ∀ u k, 184 ≤ u → u ≤ 186 → φ' u k = φ u k) (f2 : φ' 183 5 = φ 183 5) (g1 : ∀ k : Nat, (k : Int) < 3 * χ 192 30 → ξ 196 k = χ 196 k) (g2 : ξ 192 30 = χ 192 30) (g3 : ∀ k, k < 99 → ξ 194 k = χ 194 k) (hR : RP φ' ξ) (hP : PLG 5 φ' (ξ 194) (ξ 197))
    (hL : ∀ ψ : hf_F, ψ 184 (χ 192 30).toNat = a → ψ 185 (χ 192 30).toNat = b → ψ 186 (χ 192 30).toNat = c → BLN ψ ξ (χ 192 30).toNat) (hI : Inv (F_BookText_add_183 φ' a b c).2) : BLX (F_BookText_add_183 φ' a b c).1 1 (F_BookText_add_183 φ' a b c).2 ξ := by
  have e : F_BookText_add_183 φ' a b c = (1, (hf_up (hf_up (hf_up (hf_up φ' 184 (χ 192 30).toNat a) 185 (χ 192 30).toNat b) 186 (χ 192 30).toNat c) 183 5 (χ 192 30 + 1))) := by
    unfold F_BookText_add_183
    have := hB.1
    rw [f2, this, if_neg (show ¬ 40 ≤ χ 192 30 by omega)]
  rw [e] at hI ⊢
  dsimp only at hI ⊢
  have hb := cb_i hR.1.2
  have hB2 := hB.2.1
  refine Or.inl ⟨rfl, rfl, rp_f hR hI hR.1.2 (fun _ _ => rfl) (fun _ _ => rfl) (fun _ => rfl) (fun _ => rfl) (fun _ => rfl) (fun _ => rfl), plg_f hP hb (fun u k q => ?_) (fun _ _ => rfl) (fun _ _ => rfl), ?_, ?_, fun i hi => ?_⟩
  · rw [up_a (by omega), up_a (by omega), up_a (by omega), up_a (by omega)]
  · rw [hf_up_eq, g2]
  · rw [g2]; omega
  · rw [g2] at hi
    by_cases ci : i = (χ 192 30).toNat
    · rw [ci]
      exact hL _ (by rw [up_a (by decide), up_a (by decide), up_a (by decide), hf_up_eq]) (by rw [up_a (by decide), up_a (by decide), hf_up_eq]) (by rw [up_a (by decide), hf_up_eq])
    · have hx := hB.2.2 i (by omega)
      unfold BLN at hx ⊢
      rw [up_a (by decide), up_a (by decide), up_a (by decide), up_k ci, f1 184 i (by decide) (by decide)]
      rw [up_a (by decide), up_a (by decide), up_k ci, up_a (by decide), f1 185 i (by decide) (by decide)]
      rw [up_a (by decide), up_k ci, up_a (by decide), up_a (by decide), f1 186 i (by decide) (by decide)]
      rw [g1 _ (by omega), g1 (3 * i + 1) (by omega), g1 (3 * i + 2) (by omega), g3 3 (by decide), g3 1 (by decide), g3 2 (by decide)]
      exact hx
/-- the class's and the model's cells that a token leaves -/
noncomputable def TCF (φ ψ : hf_F) : Prop := (∀ u k, 184 ≤ u → u ≤ 186 → ψ u k = φ u k) ∧ ψ 183 5 = φ 183 5 ∧ ∀ u k, 5 < u → u ≤ 16 → ψ u k = φ u k
noncomputable def TMF (χ ξ : hf_F) : Prop := ξ 192 30 = χ 192 30 ∧ (∀ k, ξ 194 k = χ 194 k) ∧ (∀ k, ξ 197 k = χ 197 k)
theorem tcf_a {φ χ : hf_F} (h : RP φ χ) : TCF φ (F_Reader_advance_1 φ) := by
  have k1 := K_F_Reader_advance_1 h.1.1 rfl
  refine ⟨fun u k h1 h2 => ?_, fr_fd k1.2 183 5 (by decide), fun u k h1 h2 => ?_⟩
  · have : u = 184 ∨ u = 185 ∨ u = 186 := by omega
    rcases this with rfl | rfl | rfl
    · exact fr_at k1.2 184 (by decide) k
    · exact fr_at k1.2 185 (by decide) k
    · exact fr_at k1.2 186 (by decide) k
  · refine fr_hi k1.2 (by decide) ?_ (by omega) k
    have : u = 6 ∨ u = 7 ∨ u = 8 ∨ u = 9 ∨ u = 10 ∨ u = 11 ∨ u = 12 ∨ u = 13 ∨ u = 14 ∨ u = 15 ∨ u = 16 := by omega
    rcases this with rfl | rfl | rfl | rfl | rfl | rfl | rfl | rfl | rfl | rfl | rfl <;> decide
theorem tcf_t {φ ψ ζ : hf_F} (h : TCF φ ψ) (h2 : TCF ψ ζ) : TCF φ ζ := ⟨fun u k q1 q2 => (h2.1 u k q1 q2).trans (h.1 u k q1 q2), h2.2.1.trans h.2.1, fun u k q1 q2 => (h2.2.2 u k q1 q2).trans (h.2.2 u k q1 q2)⟩
theorem tmf_n {χ : hf_F} (hI : Inv χ) : TMF χ (F_RideLawsModel_next_192 χ) ∧ ∀ k, F_RideLawsModel_next_192 χ 196 k = χ 196 k := by
  have k1 := K_F_RideLawsModel_next_192 hI rfl
  exact ⟨⟨fr_fd k1.2.1 192 30 (by decide), fun k => next_a (by decide) χ k, fun k => next_a (by decide) χ k⟩, fun k => next_a (by decide) χ k⟩
theorem tmf_t {φ ψ ζ : hf_F} (h : TMF φ ψ) (h2 : TMF ψ ζ) : TMF φ ζ := ⟨h2.1.trans h.1, fun k => (h2.2.1 k).trans (h.2.1 k), fun k => (h2.2.2 k).trans (h.2.2 k)⟩
theorem tmf_u (χ : hf_F) (k : Nat) (v : Int) : TMF χ (hf_up χ 196 k v) := ⟨rfl, fun _ => rfl, fun _ => rfl⟩
theorem tmf_g (χ : hf_F) (v : Int) : TMF χ (hf_up χ 192 18 v) := ⟨rfl, fun _ => rfl, fun _ => rfl⟩
theorem plg_t {φ ψ χ ξ : hf_F} (hI : Inv χ) (h : PLG 5 φ (χ 194) (χ 197)) (h1 : TCF φ ψ) (h2 : TMF χ ξ) : PLG 5 ψ (ξ 194) (ξ 197) := plg_f h (cb_i hI) (fun a k q => h1.2.2 a k q.1 (by omega)) (fun k _ => h2.2.1 k) (fun k _ => h2.2.2 k)
/-- a whistle -/
theorem bk_w {φ χ : hf_F} (h : RP φ χ) (hP : PLG 5 φ (χ 194) (χ 197)) (hB : BKR φ χ) (hn : χ 192 30 < 40) : BLX (F_BookText_add_183 (F_Reader_advance_1 φ) 10 (-1) 0).1 1 (F_BookText_add_183 (F_Reader_advance_1 φ) 10 (-1) 0).2 (hf_up (F_RideLawsModel_next_192 χ) 196 (3 * χ 192 30).toNat 3) := by
  have ra := rp_adv h rfl rfl
  have t1 := tcf_a h
  obtain ⟨t2, t3⟩ := tmf_n h.1.2
  have hB2 := hB.2.1
  refine bk_fin hB hn t1.1 t1.2.1 (fun k hk => ?_) t2.1 (fun k _ => t2.2.1 k) (rp_196 ra.1 (by omega) (by omega) (by decide) (by decide)) (plg_t h.1.2 hP t1 (tmf_t t2 (tmf_u _ _ _))) (fun ψ q1 q2 q3 => Or.inr (Or.inr (Or.inr (Or.inl ⟨?_, q1⟩)))) (K_F_BookText_add_183 ra.1.1.1 (by decide) (by decide) (by decide) (by decide) (by decide) (by decide) (by decide) (by decide) rfl).1
  · rw [up_k (by omega), t3]
  · rw [show 3 * (χ 192 30).toNat = (3 * χ 192 30).toNat by omega, hf_up_eq]
/-- ticks -/
theorem bk_t {φ χ ψ ξ : hf_F} {r s : Int} (h : RP φ χ) (hP : PLG 5 φ (χ 194) (χ 197)) (hB : BKR φ χ) (hn : χ 192 30 < 40) (e1 : F_BookText_readTicks_183 (F_Reader_advance_1 φ) = (r, ψ))
    (e2 : bnd (F_RideLawsModel_takes_192 (hf_up (F_RideLawsModel_next_192 χ) 196 (3 * χ 192 30).toNat 4) 1 60) (fun z175 ψ175 => (if ¬ z175 = 0 then (1, (hf_up ψ175 196 (((3 * (χ 192 30)) + 1).toNat) (ψ175 192 18))) else (0, ψ175))) = (s, ξ)) : BLX r s ψ ξ := by
  have ra := rp_adv h rfl rfl
  have t1 := tcf_a h
  obtain ⟨t2, t3⟩ := tmf_n h.1.2
  have hB2 := hB.2.1
  unfold F_BookText_readTicks_183 at e1
  have ra2 := rp_196 (z := 3 * χ 192 30) (v := 4) ra.1 (by omega) (by omega) (by decide) (by decide)
  obtain ⟨z1, ψ1, g1⟩ : ∃ a b, F_Reader_peekNumber_1 (F_Reader_advance_1 φ) 1 60 = (a, b) := ⟨_, _, rfl⟩
  obtain ⟨z2, ξ1, g2⟩ : ∃ a b, F_RideLawsModel_takes_192 (hf_up (F_RideLawsModel_next_192 χ) 196 (3 * χ 192 30).toNat 4) 1 60 = (a, b) := ⟨_, _, rfl⟩
  rw [bnd_e g1] at e1
  rw [bnd_e g2] at e2
  rcases num_rel ra2 (by decide) g1 g2 with ⟨x1, x2, x3⟩ | ⟨x1, x2, x3, x4, x5, x6⟩
  · rw [if_neg (show ¬ ¬ z1 = -1 from fun q => q x1)] at e1
    rw [if_neg (show ¬ ¬ z2 = 0 from fun q => q x2)] at e2
    cases e1
    cases e2
    exact Or.inr ⟨rfl, rfl, x3⟩
  · rw [if_pos (show ¬ z1 = -1 by omega), bnv_e rfl, bnd_id, x3] at e1
    rw [if_pos (show ¬ z2 = 0 by omega), x6] at e2
    cases e2
    have rb := rp_adv (rp_got ra2 (show -1 ≤ z1 by omega) (show z1 ≤ 999 by omega)) rfl rfl
    have t4 := tcf_a ra2
    obtain ⟨t5, t6⟩ := tmf_n (rp_got ra2 (show -1 ≤ z1 by omega) (show z1 ≤ 999 by omega)).1.2
    have e18 : F_RideLawsModel_next_192 (hf_up (hf_up (F_RideLawsModel_next_192 χ) 196 (3 * χ 192 30).toNat 4) 192 18 z1) 192 18 = z1 := by
      rw [fr_fd rb.2.2 192 18 (by decide), hf_up_eq]
    rw [e18]
    have T1 := tcf_t t1 t4
    have T2 : TMF χ (F_RideLawsModel_next_192 (hf_up (hf_up (F_RideLawsModel_next_192 χ) 196 (3 * χ 192 30).toNat 4) 192 18 z1)) := tmf_t (tmf_t t2 (tmf_t (tmf_u _ _ _) (tmf_g _ _))) t5
    have hf := bk_fin (φ' := F_Reader_advance_1 (F_Reader_advance_1 φ)) (ξ := hf_up (F_RideLawsModel_next_192 (hf_up (hf_up (F_RideLawsModel_next_192 χ) 196 (3 * χ 192 30).toNat 4) 192 18 z1)) 196 (3 * χ 192 30 + 1).toNat z1) (a := 11) (b := -1) (c := z1) hB hn T1.1 T1.2.1 (fun k hk => by
        rw [up_k (by omega), t6, up_a (by decide), up_k (by omega), t3]) T2.1 (fun k _ => T2.2.1 k) (rp_196 rb.1 (by omega) (by omega) (by omega) (by omega)) (plg_t h.1.2 hP T1 (tmf_t T2 (tmf_u _ _ _))) (fun ψ q1 q2 q3 => Or.inr (Or.inr (Or.inr (Or.inr ⟨by
        rw [up_k (by omega), t6, up_a (by decide), show 3 * (χ 192 30).toNat = (3 * χ 192 30).toNat by omega, hf_up_eq], q1, by
        rw [q3, show 3 * (χ 192 30).toNat + 1 = (3 * χ 192 30 + 1).toNat by omega, hf_up_eq], by
        rw [show 3 * (χ 192 30).toNat + 1 = (3 * χ 192 30 + 1).toNat by omega, hf_up_eq]; omega⟩)))) (K_F_BookText_add_183 rb.1.1.1 (by decide) (by decide) (by decide) (by decide) (by omega) (by omega) (fun q => by omega) (fun q => by omega) rfl).1
    rw [e1] at hf
    exact hf
/-- mounts, alights, learns -/
noncomputable def MAC (χ : hf_F) (n who : Int) : Int × hf_F := (bnp (F_RideLawsModel_isWord_192 χ 120325478970483) (fun z => (if z = 0 then (bnp (F_RideLawsModel_isWord_192 χ 27422272703198323) (fun z => (if z = 0 then (bnp (F_RideLawsModel_isWord_192 χ 119182682386035) (fun z => (if z = 0 then (bnd (F_RideLawsModel_bad_192 χ 1) (fun za ψa => (za, ψa))) else (bnv (F_RideLawsModel_next_192 χ) (fun ψa => (bnd (F_RideLawsModel_takesName_192 (hf_up (hf_up ψa 196 ((3 * n).toNat) 2) 196 (((3 * n) + 1).toNat) who) 11 (ψa 194 2)) (fun zb ψb => (zb, (hf_up ψb 196 (((3 * n) + 2).toNat) (ψb 192 18)))))))))) else (bnv (F_RideLawsModel_next_192 χ) (fun ψa => (1, (hf_up (hf_up ψa 196 ((3 * n).toNat) 1) 196 (((3 * n) + 1).toNat) who))))))) else (bnv (F_RideLawsModel_next_192 χ) (fun ψa => (bnd (F_RideLawsModel_takesName_192 (hf_up (hf_up ψa 196 ((3 * n).toNat) 0) 196 (((3 * n) + 1).toNat) who) 3 (ψa 194 1)) (fun zb ψb => (zb, (hf_up ψb 196 (((3 * n) + 2).toNat) (ψb 192 18))))))))))
theorem pn3 {φ χ : hf_F} (hI : Inv χ) (hP : PLG 5 φ (χ 194) (χ 197)) : (φ 6 1 = χ 194 1 ∧ φ 6 1 ≤ 8 ∧ NMR φ χ 7 8 197 3 (χ 194 1)) ∧ (φ 6 2 = χ 194 2 ∧ φ 6 2 ≤ 8 ∧ NMR φ χ 7 16 197 11 (χ 194 2)) ∧ (φ 6 3 = χ 194 3 ∧ φ 6 3 ≤ 8 ∧ NMR φ χ 7 24 197 19 (χ 194 3)) := by
  have hbb := cb_i hI
  unfold CB at hbb
  have e1 : φ 6 1 = χ 194 1 := hP.1.2.1
  have e2 : φ 6 2 = χ 194 2 := hP.1.2.2.1
  have e3 : φ 6 3 = χ 194 3 := hP.1.2.2.2.1
  exact ⟨⟨e1, by omega, hP.2.1.2.1⟩, ⟨e2, by omega, hP.2.1.2.2.1⟩, ⟨e3, by omega, hP.2.1.2.2.2.1⟩⟩
theorem bk_m {φ χ φ1 χ1 ψ ξ : hf_F} {who r s : Int} (h : RP φ1 χ1) (hw : 0 ≤ who ∧ who < χ 194 3) (hI : Inv χ) (hP : PLG 5 φ (χ 194) (χ 197)) (hB : BKR φ χ) (hn : χ 192 30 < 40) (t1 : TCF φ φ1) (t2 : TMF χ χ1) (t3 : ∀ k : Nat, (k : Int) < 3 * χ 192 30 → χ1 196 k = χ 196 k)
    (e1 : bnd (F_Reader_peekNamed_1_5_k2_1 (F_Reader_advance_1 φ1)) (fun z ψa => (if ¬ z = (-1 : Int) then (bnv (F_Reader_advance_1 ψa) (fun ψb => F_BookText_add_183 ψb 7 who z)) else (0, ψa))) = (r, ψ))
    (e2 : bnd (F_RideLawsModel_takesName_192 (hf_up (hf_up (F_RideLawsModel_next_192 χ1) 196 ((3 * χ 192 30).toNat) 0) 196 (((3 * χ 192 30) + 1).toNat) who) 3 ((F_RideLawsModel_next_192 χ1) 194 1)) (fun zb ψb => (zb, (hf_up ψb 196 (((3 * χ 192 30) + 2).toNat) (ψb 192 18)))) = (s, ξ)) : BLX r s ψ ξ := by
  have hB2 := hB.2.1
  have hb := cb_i hI
  have hbb := hb
  unfold CB at hbb
  have ra := rp_adv h rfl rfl
  have t4 := tcf_a h
  obtain ⟨t5, t6⟩ := tmf_n h.1.2
  have N1 : (3 * χ 192 30).toNat = 3 * (χ 192 30).toNat := by omega
  have N2 : (3 * χ 192 30 + 1).toNat = 3 * (χ 192 30).toNat + 1 := by omega
  have N3 : (3 * χ 192 30 + 2).toNat = 3 * (χ 192 30).toNat + 2 := by omega
  have r1 := rp_196 (z := 3 * χ 192 30) (v := 0) ra.1 (by omega) (by omega) (by decide) (by decide)
  have r2 := rp_196 (z := 3 * χ 192 30 + 1) (v := who) r1 (by omega) (by omega) (by omega) (by omega)
  have T1 := tcf_t t1 t4
  have T2 := tmf_t (tmf_t t2 t5) (tmf_t (tmf_u _ (3 * χ 192 30).toNat 0) (tmf_u _ (3 * χ 192 30 + 1).toNat who))
  have v0 : hf_up (hf_up (F_RideLawsModel_next_192 χ1) 196 (3 * χ 192 30).toNat 0) 196 (3 * χ 192 30 + 1).toNat who 196 (3 * (χ 192 30).toNat) = 0 := by rw [N1, N2, up_k (by omega), hf_up_eq]
  have v1 : hf_up (hf_up (F_RideLawsModel_next_192 χ1) 196 (3 * χ 192 30).toNat 0) 196 (3 * χ 192 30 + 1).toNat who 196 (3 * (χ 192 30).toNat + 1) = who := by rw [N1, N2, hf_up_eq]
  have v2 : ∀ k : Nat, (k : Int) < 3 * χ 192 30 → hf_up (hf_up (F_RideLawsModel_next_192 χ1) 196 (3 * χ 192 30).toNat 0) 196 (3 * χ 192 30 + 1).toNat who 196 k = χ 196 k := fun k hk => by rw [up_k (by omega), up_k (by omega), t6]; exact t3 k hk
  rw [show F_RideLawsModel_next_192 χ1 194 1 = hf_up (hf_up (F_RideLawsModel_next_192 χ1) 196 (3 * χ 192 30).toNat 0) 196 (3 * χ 192 30 + 1).toNat who 194 1 from rfl] at e2
  generalize hf_up (hf_up (F_RideLawsModel_next_192 χ1) 196 (3 * χ 192 30).toNat 0) 196 (3 * χ 192 30 + 1).toNat who = χ2 at e2 r2 T2 v0 v1 v2
  have hP2 : PLG 5 (F_Reader_advance_1 φ1) (χ2 194) (χ2 197) := plg_t hI hP T1 T2
  obtain ⟨p1, p2, p3⟩ := pn3 r2.1.2 hP2
  obtain ⟨z1, ψ1, g1⟩ : ∃ a b, F_Reader_peekNamed_1_5_k2_1 (F_Reader_advance_1 φ1) = (a, b) := ⟨_, _, rfl⟩
  obtain ⟨z2, ξ1, g2⟩ : ∃ a b, F_RideLawsModel_takesName_192 χ2 3 (χ2 194 1) = (a, b) := ⟨_, _, rfl⟩
  rw [bnd_e g1] at e1
  rw [bnd_e g2] at e2
  rcases tn_5_1 r2 p1.1 p1.2.1 p1.2.2 g1 g2 with ⟨x1, x2, x3, x4, x5⟩ | ⟨x1, x2, x3⟩
  · rw [if_pos (show ¬ z1 = -1 by omega), bnv_e rfl, x4] at e1
    rw [x1, x5] at e2
    cases e2
    have hc := T2.2.1 1
    have rb := rp_adv (rp_got r2 (show -1 ≤ z1 by omega) (show z1 ≤ 999 by omega)) rfl rfl
    have t7 := tcf_a ra.1
    obtain ⟨t8, t9⟩ := tmf_n (rp_got r2 (show -1 ≤ z1 by omega) (show z1 ≤ 999 by omega)).1.2
    have e18 : F_RideLawsModel_next_192 (hf_up χ2 192 18 z1) 192 18 = z1 := by
      rw [fr_fd rb.2.2 192 18 (by decide), hf_up_eq]
    rw [e18]
    have T3 := tcf_t T1 t7
    have T4 : TMF χ (F_RideLawsModel_next_192 (hf_up χ2 192 18 z1)) := tmf_t T2 (tmf_t (tmf_g _ _) t8)
    have y : ∀ k, F_RideLawsModel_next_192 (hf_up χ2 192 18 z1) 196 k = χ2 196 k := fun k => by rw [t9, up_a (by decide)]
    generalize F_RideLawsModel_next_192 (hf_up χ2 192 18 z1) = χ3 at rb T4 y ⊢
    have T5 := tmf_t T4 (tmf_u χ3 (3 * χ 192 30 + 2).toNat z1)
    have hf := bk_fin (φ' := F_Reader_advance_1 (F_Reader_advance_1 φ1)) (ξ := hf_up χ3 196 (3 * χ 192 30 + 2).toNat z1) (a := 7) (b := who) (c := z1) hB hn T3.1 T3.2.1 (fun k hk => by
        rw [up_k (by omega), y]; exact v2 k hk) T5.1 (fun k _ => T5.2.1 k) (rp_196 rb.1 (by omega) (by omega) (by omega) (by omega)) (plg_t hI hP T3 T5) (fun ψ q1 q2 q3 => Or.inl ( ⟨by
        rw [N3, up_k (by omega), y, v0], q1, by rw [q2, N3, up_k (by omega), y, v1], by rw [T5.2.1 3, N3, up_k (by omega), y, v1]; exact hw, by rw [q3, N3, hf_up_eq], by rw [T5.2.1 1, N3, hf_up_eq]; omega⟩)) (K_F_BookText_add_183 rb.1.1.1 (by decide) (by decide) (by omega) (by omega) (by omega) (by omega) (fun q => by omega) (fun q => by omega) rfl).1
    rw [e1] at hf
    exact hf
  · rw [if_neg (show ¬ ¬ z1 = -1 from fun q => q x2)] at e1
    rw [x1] at e2
    cases e1
    cases e2
    exact Or.inr ⟨rfl, rfl, x3⟩
theorem bk_l {φ χ φ1 χ1 ψ ξ : hf_F} {who r s : Int} (h : RP φ1 χ1) (hw : 0 ≤ who ∧ who < χ 194 3) (hI : Inv χ) (hP : PLG 5 φ (χ 194) (χ 197)) (hB : BKR φ χ) (hn : χ 192 30 < 40) (t1 : TCF φ φ1) (t2 : TMF χ χ1) (t3 : ∀ k : Nat, (k : Int) < 3 * χ 192 30 → χ1 196 k = χ 196 k)
    (e1 : bnd (F_Reader_peekNamed_1_5_k2_2 (F_Reader_advance_1 φ1)) (fun z ψa => (if ¬ z = (-1 : Int) then (bnv (F_Reader_advance_1 ψa) (fun ψb => F_BookText_add_183 ψb 9 who z)) else (0, ψa))) = (r, ψ))
    (e2 : bnd (F_RideLawsModel_takesName_192 (hf_up (hf_up (F_RideLawsModel_next_192 χ1) 196 ((3 * χ 192 30).toNat) 2) 196 (((3 * χ 192 30) + 1).toNat) who) 11 ((F_RideLawsModel_next_192 χ1) 194 2)) (fun zb ψb => (zb, (hf_up ψb 196 (((3 * χ 192 30) + 2).toNat) (ψb 192 18)))) = (s, ξ)) : BLX r s ψ ξ := by
  have hB2 := hB.2.1
  have hb := cb_i hI
  have hbb := hb
  unfold CB at hbb
  have ra := rp_adv h rfl rfl
  have t4 := tcf_a h
  obtain ⟨t5, t6⟩ := tmf_n h.1.2
  have N1 : (3 * χ 192 30).toNat = 3 * (χ 192 30).toNat := by omega
  have N2 : (3 * χ 192 30 + 1).toNat = 3 * (χ 192 30).toNat + 1 := by omega
  have N3 : (3 * χ 192 30 + 2).toNat = 3 * (χ 192 30).toNat + 2 := by omega
  have r1 := rp_196 (z := 3 * χ 192 30) (v := 2) ra.1 (by omega) (by omega) (by decide) (by decide)
  have r2 := rp_196 (z := 3 * χ 192 30 + 1) (v := who) r1 (by omega) (by omega) (by omega) (by omega)
  have T1 := tcf_t t1 t4
  have T2 := tmf_t (tmf_t t2 t5) (tmf_t (tmf_u _ (3 * χ 192 30).toNat 2) (tmf_u _ (3 * χ 192 30 + 1).toNat who))
  have v0 : hf_up (hf_up (F_RideLawsModel_next_192 χ1) 196 (3 * χ 192 30).toNat 2) 196 (3 * χ 192 30 + 1).toNat who 196 (3 * (χ 192 30).toNat) = 2 := by rw [N1, N2, up_k (by omega), hf_up_eq]
  have v1 : hf_up (hf_up (F_RideLawsModel_next_192 χ1) 196 (3 * χ 192 30).toNat 2) 196 (3 * χ 192 30 + 1).toNat who 196 (3 * (χ 192 30).toNat + 1) = who := by rw [N1, N2, hf_up_eq]
  have v2 : ∀ k : Nat, (k : Int) < 3 * χ 192 30 → hf_up (hf_up (F_RideLawsModel_next_192 χ1) 196 (3 * χ 192 30).toNat 2) 196 (3 * χ 192 30 + 1).toNat who 196 k = χ 196 k := fun k hk => by rw [up_k (by omega), up_k (by omega), t6]; exact t3 k hk
  rw [show F_RideLawsModel_next_192 χ1 194 2 = hf_up (hf_up (F_RideLawsModel_next_192 χ1) 196 (3 * χ 192 30).toNat 2) 196 (3 * χ 192 30 + 1).toNat who 194 2 from rfl] at e2
  generalize hf_up (hf_up (F_RideLawsModel_next_192 χ1) 196 (3 * χ 192 30).toNat 2) 196 (3 * χ 192 30 + 1).toNat who = χ2 at e2 r2 T2 v0 v1 v2
  have hP2 : PLG 5 (F_Reader_advance_1 φ1) (χ2 194) (χ2 197) := plg_t hI hP T1 T2
  obtain ⟨p1, p2, p3⟩ := pn3 r2.1.2 hP2
  obtain ⟨z1, ψ1, g1⟩ : ∃ a b, F_Reader_peekNamed_1_5_k2_2 (F_Reader_advance_1 φ1) = (a, b) := ⟨_, _, rfl⟩
  obtain ⟨z2, ξ1, g2⟩ : ∃ a b, F_RideLawsModel_takesName_192 χ2 11 (χ2 194 2) = (a, b) := ⟨_, _, rfl⟩
  rw [bnd_e g1] at e1
  rw [bnd_e g2] at e2
  rcases tn_5_2 r2 p2.1 p2.2.1 p2.2.2 g1 g2 with ⟨x1, x2, x3, x4, x5⟩ | ⟨x1, x2, x3⟩
  · rw [if_pos (show ¬ z1 = -1 by omega), bnv_e rfl, x4] at e1
    rw [x1, x5] at e2
    cases e2
    have hc := T2.2.1 2
    have rb := rp_adv (rp_got r2 (show -1 ≤ z1 by omega) (show z1 ≤ 999 by omega)) rfl rfl
    have t7 := tcf_a ra.1
    obtain ⟨t8, t9⟩ := tmf_n (rp_got r2 (show -1 ≤ z1 by omega) (show z1 ≤ 999 by omega)).1.2
    have e18 : F_RideLawsModel_next_192 (hf_up χ2 192 18 z1) 192 18 = z1 := by
      rw [fr_fd rb.2.2 192 18 (by decide), hf_up_eq]
    rw [e18]
    have T3 := tcf_t T1 t7
    have T4 : TMF χ (F_RideLawsModel_next_192 (hf_up χ2 192 18 z1)) := tmf_t T2 (tmf_t (tmf_g _ _) t8)
    have y : ∀ k, F_RideLawsModel_next_192 (hf_up χ2 192 18 z1) 196 k = χ2 196 k := fun k => by rw [t9, up_a (by decide)]
    generalize F_RideLawsModel_next_192 (hf_up χ2 192 18 z1) = χ3 at rb T4 y ⊢
    have T5 := tmf_t T4 (tmf_u χ3 (3 * χ 192 30 + 2).toNat z1)
    have hf := bk_fin (φ' := F_Reader_advance_1 (F_Reader_advance_1 φ1)) (ξ := hf_up χ3 196 (3 * χ 192 30 + 2).toNat z1) (a := 9) (b := who) (c := z1) hB hn T3.1 T3.2.1 (fun k hk => by
        rw [up_k (by omega), y]; exact v2 k hk) T5.1 (fun k _ => T5.2.1 k) (rp_196 rb.1 (by omega) (by omega) (by omega) (by omega)) (plg_t hI hP T3 T5) (fun ψ q1 q2 q3 => Or.inr (Or.inr (Or.inl ( ⟨by
        rw [N3, up_k (by omega), y, v0], q1, by rw [q2, N3, up_k (by omega), y, v1], by rw [T5.2.1 3, N3, up_k (by omega), y, v1]; exact hw, by rw [q3, N3, hf_up_eq], by rw [T5.2.1 2, N3, hf_up_eq]; omega⟩)))) (K_F_BookText_add_183 rb.1.1.1 (by decide) (by decide) (by omega) (by omega) (by omega) (by omega) (fun q => by omega) (fun q => by omega) rfl).1
    rw [e1] at hf
    exact hf
  · rw [if_neg (show ¬ ¬ z1 = -1 from fun q => q x2)] at e1
    rw [x1] at e2
    cases e1
    cases e2
    exact Or.inr ⟨rfl, rfl, x3⟩
theorem bk_a {φ χ φ1 χ1 ψ ξ : hf_F} {who r s : Int} (h : RP φ1 χ1) (hw : 0 ≤ who ∧ who < χ 194 3) (hI : Inv χ) (hP : PLG 5 φ (χ 194) (χ 197)) (hB : BKR φ χ) (hn : χ 192 30 < 40) (t1 : TCF φ φ1) (t2 : TMF χ χ1) (t3 : ∀ k : Nat, (k : Int) < 3 * χ 192 30 → χ1 196 k = χ 196 k)
    (e1 : F_BookText_readAct_183 φ1 who = (r, ψ)) (e2 : MAC χ1 (χ 192 30) who = (s, ξ)) : BLX r s ψ ξ := by
  have hB2 := hB.2.1
  have hb := cb_i hI
  have hbb := hb
  unfold CB at hbb
  have w7 := isw_z h (k := 7) (by decide) (w := 120325478970483) rfl
  have w8 := isw_z h (k := 8) (by decide) (w := 27422272703198323) rfl
  have w9 := isw_z h (k := 9) (by decide) (w := 119182682386035) rfl
  have ra := rp_adv h rfl rfl
  have t4 := tcf_a h
  obtain ⟨t5, t6⟩ := tmf_n h.1.2
  have T1 := tcf_t t1 t4
  have T2 := tmf_t t2 t5
  have N1 : (3 * χ 192 30).toNat = 3 * (χ 192 30).toNat := by omega
  have N2 : (3 * χ 192 30 + 1).toNat = 3 * (χ 192 30).toNat + 1 := by omega
  have N3 : (3 * χ 192 30 + 2).toNat = 3 * (χ 192 30).toNat + 2 := by omega
  have kw : ∀ k : Int, (φ1 1 5 = 3 ∧ φ1 1 7 = k → F_Reader_isKeyword_1 φ1 k = 1) ∧ (¬ (φ1 1 5 = 3 ∧ φ1 1 7 = k) → F_Reader_isKeyword_1 φ1 k = 0) := fun k => ⟨fun q => by rw [iskw_e, if_pos q], fun q => by rw [iskw_e, if_neg q]⟩
  unfold F_BookText_readAct_183 at e1
  simp only [bnd_id] at e1
  unfold MAC at e2
  by_cases c8 : φ1 1 5 = 3 ∧ φ1 1 7 = 8
  · rw [bnp_e ((kw 8).1 c8), if_neg (show ¬ (1 : Int) = 0 by decide), bnv_e rfl] at e1
    rw [bnp_e rfl, if_pos (show F_RideLawsModel_isWord_192 χ1 120325478970483 = 0 by rw [w7]; exact fun q => absurd q.2 (by omega)), bnp_e rfl, if_neg (show ¬ F_RideLawsModel_isWord_192 χ1 27422272703198323 = 0 by rw [w8]; exact fun q => q c8), bnv_e rfl] at e2
    cases e2
    have r1 := rp_196 (z := 3 * χ 192 30) (v := 1) ra.1 (by omega) (by omega) (by decide) (by decide)
    have r2 := rp_196 (z := 3 * χ 192 30 + 1) (v := who) r1 (by omega) (by omega) (by omega) (by omega)
    have T3 := tmf_t T2 (tmf_t (tmf_u _ (3 * χ 192 30).toNat 1) (tmf_u _ (3 * χ 192 30 + 1).toNat who))
    have hf := bk_fin (φ' := F_Reader_advance_1 φ1) (a := 8) (b := who) (c := 0) hB hn T1.1 T1.2.1 (fun k hk => by
        rw [up_k (by omega), up_k (by omega), t6]; exact t3 k hk) T3.1 (fun k _ => T3.2.1 k) r2 (plg_t hI hP T1 T3) (fun ψ q1 q2 q3 => Or.inr (Or.inl ⟨by
        rw [N1, N2, up_k (by omega), hf_up_eq], q1, by rw [q2, N1, N2, hf_up_eq], by rw [T3.2.1 3, N1, N2, hf_up_eq]; exact hw⟩)) (K_F_BookText_add_183 ra.1.1.1 (by decide) (by decide) (by omega) (by omega) (by decide) (by decide) (fun q => by omega) (fun q => by omega) rfl).1
    rw [e1] at hf
    exact hf
  · rw [bnp_e ((kw 8).2 c8), if_pos rfl] at e1
    by_cases c7 : φ1 1 5 = 3 ∧ φ1 1 7 = 7
    · rw [bnp_e ((kw 7).1 c7), if_pos (show ¬ (1 : Int) = 0 by decide), bnv_e rfl] at e1
      simp only [show ¬ (1 : Int) = 0 by decide, if_false] at e1
      rw [bnp_e rfl, if_neg (show ¬ F_RideLawsModel_isWord_192 χ1 120325478970483 = 0 by rw [w7]; exact fun q => q c7), bnv_e rfl] at e2
      exact bk_m h hw hI hP hB hn t1 t2 t3 e1 e2
    · rw [bnp_e ((kw 7).2 c7), if_neg (fun q => q rfl)] at e1
      by_cases c9 : φ1 1 5 = 3 ∧ φ1 1 7 = 9
      · rw [bnp_e ((kw 9).1 c9), if_pos (show ¬ (1 : Int) = 0 by decide), bnv_e rfl] at e1
        simp only [if_true] at e1
        rw [bnp_e rfl, if_pos (show F_RideLawsModel_isWord_192 χ1 120325478970483 = 0 by rw [w7]; exact c7), bnp_e rfl, if_pos (show F_RideLawsModel_isWord_192 χ1 27422272703198323 = 0 by rw [w8]; exact c8), bnp_e rfl, if_neg (show ¬ F_RideLawsModel_isWord_192 χ1 119182682386035 = 0 by rw [w9]; exact fun q => q c9), bnv_e rfl] at e2
        exact bk_l h hw hI hP hB hn t1 t2 t3 e1 e2
      · rw [bnp_e ((kw 9).2 c9), if_neg (fun q => q rfl)] at e1
        rw [bnp_e rfl, if_pos (show F_RideLawsModel_isWord_192 χ1 120325478970483 = 0 by rw [w7]; exact c7), bnp_e rfl, if_pos (show F_RideLawsModel_isWord_192 χ1 27422272703198323 = 0 by rw [w8]; exact c8), bnp_e rfl, if_pos (show F_RideLawsModel_isWord_192 χ1 119182682386035 = 0 by rw [w9]; exact c9), bnd_id] at e2
        exact Or.inr (rf_bad h e1 e2)
