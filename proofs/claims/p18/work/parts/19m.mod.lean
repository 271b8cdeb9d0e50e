/-! what is kept of the model's rows over its copies -/
section
variable {φ : hf_F} {a b k s t n ob oa j c o : Nat} {v z g : Int} {f : Nat → Int}
theorem rs_mpn (hc : ¬ c = b) (h : RS φ c o) : RS (hf_mp φ b ob n f) c o :=
  rs_congr (hf_mp_ne (fun q => hc q.1)) (fun _ _ => hf_mp_ne (fun q => hc q.1)) (fun _ _ => hf_mp_ne (fun q => hc q.1)) h
theorem wf_mpn (hc : ¬ c = b) (h : WF φ c o) : WF (hf_mp φ b ob n f) c o :=
  wf_congr (hf_mp_ne (fun q => hc q.1)) (fun _ _ => hf_mp_ne (fun q => hc q.1)) h
theorem bk_mpn (hc : ¬ (b = 183 ∨ b = 184 ∨ b = 185 ∨ b = 186)) (h : BK φ) : BK (hf_mp φ b ob n f) :=
  bk_congr (hf_mp_ne (fun q => by omega)) (fun _ => hf_mp_ne (fun q => by omega)) (fun _ => hf_mp_ne (fun q => by omega)) (fun _ => hf_mp_ne (fun q => by omega)) h
theorem rs_mpf (h1 : o + 19 ≤ ob ∨ ob + n ≤ o) (h : RS φ c o) : RS (hf_mp φ b ob n f) c o :=
  rs_congr (hf_mp_ne (fun q => by omega)) (fun _ _ => hf_mp_ne (fun q => by omega)) (fun _ _ => hf_mp_ne (fun q => by omega)) h
theorem wf_mpf (h1 : o + 136 ≤ ob ∨ ob + n ≤ o) (h : WF φ c o) : WF (hf_mp φ b ob n f) c o :=
  wf_congr (hf_mp_ne (fun q => by omega)) (fun _ _ => hf_mp_ne (fun q => by omega)) h
theorem rs_mpi (hf : ∀ j, j < n → f j = φ a (oa + j)) (ho : ob + 0 = o) (hn : 19 ≤ n) (h : RS φ a oa) : RS (hf_mp φ b ob n f) b o := by
  subst ho
  refine rs_congr ?_ (fun k hk => ?_) (fun k hk => ?_) h
  · rw [show ob + 0 + 1 = ob + 1 by omega, hf_mp_eq (by omega), hf 1 (by omega)]
  · rw [show ob + 0 + 11 + k = ob + (11 + k) by omega, hf_mp_eq (by omega), hf (11 + k) (by omega), Nat.add_assoc]
  · rw [show ob + 0 + 5 + k = ob + (5 + k) by omega, hf_mp_eq (by omega), hf (5 + k) (by omega), Nat.add_assoc]
theorem wf_mpi (hf : ∀ j, j < n → f j = φ a (oa + j)) (ho : ob + 180 = o) (hn : 316 ≤ n) (h : WF φ a (oa + 180)) : WF (hf_mp φ b ob n f) b o := by
  subst ho
  refine wf_congr ?_ (fun k hk => ?_) h
  · rw [hf_mp_eq (by omega), hf 180 (by omega)]
  · rw [show ob + 180 + 1 + 3 * k = ob + (181 + 3 * k) by omega, hf_mp_eq (by omega), hf _ (by omega)]
    congr 1
    omega
theorem iv_clear (hI : Inv φ) : Inv (hf_mp φ 195 0 99 (fun _ => 0)) := by
  obtain ⟨hV, ⟨r1, r2, r3, r4⟩, w1, w2, w3, wb⟩ := hI
  refine ⟨iv0_mpk hV (by decide +kernel), ⟨rs_mpn (by decide) r1, ?_, rs_mpn (by decide) r3, rs_mpn (by decide) r4⟩, wf_mpn (by decide) w1, wf_mpn (by decide) w2, wf_mpn (by decide) w3, bk_mpn (by decide) wb⟩
  intro k hk g hg h1 h2
  exfalso
  rw [show hf_mp φ 195 0 99 (fun _ => 0) 195 (0 + 1) = 0 from hf_mp_eq (by decide)] at h1
  omega
theorem iv_image (hI : Inv φ) (h0 : 0 ≤ z) (h1 : z ≤ 1) : Inv (hf_mp φ 205 (361 * z).toNat 361 (fun j => φ 194 (0 + j))) := by
  obtain ⟨hV, ⟨r1, r2, r3, r4⟩, w1, w2, w3, wb⟩ := hI
  have hz : z = 0 ∨ z = 1 := by omega
  rcases hz with rfl | rfl
  · show Inv (hf_mp φ 205 0 361 (fun j => φ 194 (0 + j)))
    exact ⟨iv0_mpc hV (by decide +kernel), ⟨rs_mpn (by decide) r1, rs_mpn (by decide) r2, rs_mpi (fun _ _ => rfl) (by decide) (by decide) r1, rs_mpf (by decide) r4⟩, wf_mpn (by decide) w1, wf_mpi (fun _ _ => rfl) (by decide) (by decide) w1, wf_mpf (by decide) w3, bk_mpn (by decide) wb⟩
  · show Inv (hf_mp φ 205 361 361 (fun j => φ 194 (0 + j)))
    exact ⟨iv0_mpc hV (by decide +kernel), ⟨rs_mpn (by decide) r1, rs_mpn (by decide) r2, rs_mpf (by decide) r3, rs_mpi (fun _ _ => rfl) (by decide) (by decide) r1⟩, wf_mpn (by decide) w1, wf_mpf (by decide) w2, wf_mpi (fun _ _ => rfl) (by decide) (by decide) w1, bk_mpn (by decide) wb⟩
theorem iv_rest (hI : Inv φ) (h0 : 0 ≤ z) (h1 : z ≤ 1) : Inv (hf_mp φ 194 0 361 (fun j => φ 205 ((361 * z).toNat + j))) := by
  obtain ⟨hV, ⟨r1, r2, r3, r4⟩, w1, w2, w3, wb⟩ := hI
  have hz : z = 0 ∨ z = 1 := by omega
  rcases hz with rfl | rfl
  · show Inv (hf_mp φ 194 0 361 (fun j => φ 205 (0 + j)))
    exact ⟨iv0_mpc hV (by decide +kernel), ⟨rs_mpi (fun _ _ => rfl) (by decide) (by decide) r3, rs_mpn (by decide) r2, rs_mpn (by decide) r3, rs_mpn (by decide) r4⟩, wf_mpi (fun _ _ => rfl) (by decide) (by decide) w2, wf_mpn (by decide) w2, wf_mpn (by decide) w3, bk_mpn (by decide) wb⟩
  · show Inv (hf_mp φ 194 0 361 (fun j => φ 205 (361 + j)))
    exact ⟨iv0_mpc hV (by decide +kernel), ⟨rs_mpi (fun _ _ => rfl) (by decide) (by decide) r4, rs_mpn (by decide) r2, rs_mpn (by decide) r3, rs_mpn (by decide) r4⟩, wf_mpi (fun _ _ => rfl) (by decide) (by decide) w3, wf_mpn (by decide) w2, wf_mpn (by decide) w3, bk_mpn (by decide) wb⟩
noncomputable def ck_ride : Bool := (List.range 361).all (fun j => if j < 99 then decide (g_iv 194 (0 + j) = g_iv 195 j) || decide (g_iv 194 (0 + j) = none) else match g_iv 194 (0 + j) with | some q => decide (q.1 ≤ 0 ∧ 0 ≤ q.2) | none => true)
theorem ck_ride_t : ck_ride = true := by decide +kernel
theorem iv_ride (hI : Inv φ) : Inv (hf_mp φ 194 0 361 (fun j => if j < 99 then φ 195 j else 0)) := by
  obtain ⟨hV, ⟨r1, r2, r3, r4⟩, w1, w2, w3, wb⟩ := hI
  refine ⟨iv0_mp hV (by decide) (fun j hj q hq => ?_), ⟨?_, rs_mpn (by decide) r2, rs_mpn (by decide) r3, rs_mpn (by decide) r4⟩, ?_, wf_mpn (by decide) w2, wf_mpn (by decide) w3, bk_mpn (by decide) wb⟩
  · have h := List.all_eq_true.mp ck_ride_t j (List.mem_range.mpr hj)
    try dsimp only at h
    show q.1 ≤ (if j < 99 then φ 195 j else 0) ∧ (if j < 99 then φ 195 j else 0) ≤ q.2
    by_cases h9 : j < 99
    · rw [if_pos h9] at h ⊢
      rcases Bool.or_eq_true_iff.mp h with h | h
      · exact hV.1 195 j q ((of_decide_eq_true h).symm.trans hq)
      · rw [of_decide_eq_true h] at hq
        cases hq
    · rw [if_neg h9] at h ⊢
      rw [hq] at h
      exact of_decide_eq_true h
  · refine rs_congr ?_ (fun k hk => ?_) (fun k hk => ?_) r2
    · rw [hf_mp_eq (by decide), if_pos (by decide)]
    · rw [show 0 + 11 + k = 0 + (11 + k) by omega, hf_mp_eq (by omega), if_pos (by omega), Nat.zero_add]
    · rw [show 0 + 5 + k = 0 + (5 + k) by omega, hf_mp_eq (by omega), if_pos (by omega), Nat.zero_add]
  · intro i hi h1
    exfalso
    rw [show hf_mp φ 194 0 361 (fun j => if j < 99 then φ 195 j else 0) 194 180 = 0 by rw [show (180 : Nat) = 0 + 180 by decide, hf_mp_eq (by decide), if_neg (by decide)]] at h1
    omega
theorem iv_mpn (hI : Inv φ) (ck : (decide (¬ (b = 109 ∨ b = 183 ∨ b = 184 ∨ b = 185 ∨ b = 186 ∨ b = 194 ∨ b = 195 ∨ b = 205)) && decide (jm_n2 g_ivc b [] = [])) = true) : Inv (hf_mp φ b ob n f) := by
  obtain ⟨c1, c2⟩ := Bool.and_eq_true_iff.mp ck
  have c1 := of_decide_eq_true c1
  have c2 := of_decide_eq_true c2
  exact ⟨iv0_mp hI.1 (fun q => c1 (Or.inl q)) (fun j hj q hq => by unfold g_iv at hq; rw [c2] at hq; cases hq), rx_mp hI.2 (fun j hj q => by omega)⟩
end
section
variable {φ : hf_F} {a b k s t n ob oa j c o : Nat} {v z g : Int} {f : Nat → Int}
theorem rx_195 (hI : Inv φ) (h5 : RS (hf_up φ 195 k v) 195 0) : Rx (hf_up φ 195 k v) := by
  obtain ⟨hV, ⟨r1, r2, r3, r4⟩, w1, w2, w3, wb⟩ := hI
  have e : ∀ c j, ¬ c = 195 → hf_up φ 195 k v c j = φ c j := fun c j hc => hf_up_ne (fun q => hc q.1)
  exact ⟨⟨rs_congr (e _ _ (by decide)) (fun _ _ => e _ _ (by decide)) (fun _ _ => e _ _ (by decide)) r1, h5, rs_congr (e _ _ (by decide)) (fun _ _ => e _ _ (by decide)) (fun _ _ => e _ _ (by decide)) r3, rs_congr (e _ _ (by decide)) (fun _ _ => e _ _ (by decide)) (fun _ _ => e _ _ (by decide)) r4⟩, wf_congr (e _ _ (by decide)) (fun _ _ => e _ _ (by decide)) w1, wf_congr (e _ _ (by decide)) (fun _ _ => e _ _ (by decide)) w2, wf_congr (e _ _ (by decide)) (fun _ _ => e _ _ (by decide)) w3, bk_congr (e _ _ (by decide)) (fun _ => e _ _ (by decide)) (fun _ => e _ _ (by decide)) (fun _ => e _ _ (by decide)) wb⟩
theorem iv_steps (hI : Inv φ) (h0 : 5 ≤ z) (h1 : z < 8) (h2 : 1 ≤ v) (h3 : v ≤ 30) : Inv (hf_up φ 195 z.toNat v) := by
  refine ⟨iv0_ups hI.1 (by decide) (fun q hq => ?_), rx_195 hI ?_⟩
  · rw [ck_iv_at (a := 195) (s := 5) (t := 8) (lo := 0) (u := 30) (z := z) (by decide +kernel) (by omega) (by omega)] at hq
    cases hq
    exact ⟨by omega, h3⟩
  · intro k hk g hg h4 h5
    rw [hf_up_ne (fun q => by omega)] at h4 h5
    by_cases hz : 0 + 5 + g = z.toNat
    · rw [hz, hf_up_eq]
      exact h2
    · rw [hf_up_ne (fun q => hz q.2)]
      exact hI.2.1.2.1 k hk g hg h4 h5
theorem iv_seat1 (hI : Inv φ) (hz : z = 11 + φ 195 1) (h7 : φ 195 1 ≤ 7) (h1 : 0 ≤ v) (h2 : v ≤ 2) : Inv (hf_up φ 195 z.toNat v) := by
  have h3 := iv_at (a := 195) (k := 1) (lo := 0) (u := 8) hI (by decide +kernel)
  refine ⟨iv0_ups hI.1 (by decide) (fun q hq => ?_), rx_195 hI ?_⟩
  · rw [ck_iv_at (a := 195) (s := 11) (t := 19) (lo := 0) (u := 2) (z := z) (by decide +kernel) (by omega) (by omega)] at hq
    cases hq
    exact ⟨by omega, h2⟩
  · intro k hk g hg h4 h5
    rw [hf_up_ne (fun q => by omega)] at h4
    have h6 : (k : Int) < φ 195 1 := h4
    rw [hf_up_ne (fun q => by omega)] at h5
    rw [hf_up_ne (fun q => by omega)]
    exact hI.2.1.2.1 k hk g hg h4 h5
theorem iv_seat2 (hI : Inv φ) {k g : Int} (h0 : 0 ≤ k) (hk : φ 195 1 = k) (h7 : k ≤ 7) (hr : φ 195 (11 + k).toNat = g) (hs : 1 ≤ φ 195 (5 + g).toNat) (hv : v = k + 1) : Inv (hf_up φ 195 1 v) := by
  have h9 := iv_ar (a := 195) (s := 11) (t := 19) (lo := 0) (u := 2) (z := 11 + k) hI (by decide +kernel) (by omega) (by omega)
  refine ⟨iv0_ups hI.1 (by decide) (fun q hq => ?_), rx_195 hI ?_⟩
  · rw [show g_iv 195 1 = some (0, 8) by decide +kernel] at hq
    cases hq
    exact ⟨by omega, by omega⟩
  · intro i hi j hj h4 h5
    rw [hf_up_eq] at h4
    rw [hf_up_ne (fun q => by omega)] at h5 ⊢
    by_cases hik : (i : Int) < k
    · exact hI.2.1.2.1 i hi j hj (by rw [hk]; exact hik) h5
    · have e1 : (11 + k).toNat = 0 + 11 + i := by omega
      rw [e1] at hr h9
      have e2 : (5 + g).toNat = 0 + 5 + j := by omega
      rw [e2] at hs
      exact hs
theorem rs_f (hI : Inv φ) (k : Int) : 0 ≤ k → k < φ 194 1 → 1 ≤ φ 194 (5 + φ 194 (11 + k).toNat).toNat := by
  intro h0 h1
  have h3 := iv_at (a := 194) (k := 1) (lo := 0) (u := 8) hI (by decide +kernel)
  have h9 := iv_ar (a := 194) (s := 11) (t := 19) (lo := 0) (u := 2) (z := 11 + k) hI (by decide +kernel) (by omega) (by omega)
  have h := hI.2.1.1 k.toNat (by omega) (φ 194 (11 + k).toNat).toNat (by omega) (by rw [show 0 + 1 = 1 by decide]; omega) (by rw [show 0 + 11 + k.toNat = (11 + k).toNat by omega]; omega)
  rw [show 0 + 5 + (φ 194 (11 + k).toNat).toNat = (5 + φ 194 (11 + k).toNat).toNat by omega] at h
  exact h
end
noncomputable def pk (φ : hf_F) : Int := if φ 192 4 < φ 192 3 then hb_and (φ 193 (φ 192 4).toNat) 255 else -1
theorem pk_t {φ : hf_F} (h : φ 192 4 < φ 192 3) : hb_and (φ 193 (φ 192 4).toNat) 255 = pk φ := by unfold pk; rw [if_pos h]
theorem pk_f {φ : hf_F} (h : ¬ φ 192 4 < φ 192 3) : -1 = pk φ := by unfold pk; rw [if_neg h]
theorem pk_b (φ : hf_F) : (0 ≤ pk φ → φ 192 4 < φ 192 3) ∧ -1 ≤ pk φ ∧ pk φ ≤ 255 := by
  have h := hr_and255 (φ 193 (φ 192 4).toNat)
  by_cases hc : φ 192 4 < φ 192 3
  · rw [← pk_t hc]; omega
  · rw [← pk_f hc]; omega
noncomputable def sxi (φ : hf_F) : Nat → Int
  | 0 => 0
  | n + 1 => sxi φ n + φ 194 (166 + n)
theorem sxi_0 (φ : hf_F) : sxi φ ((0 : Int)).toNat = 0 := rfl
theorem sxi_s (φ : hf_F) (z : Int) (h : 0 ≤ z) : sxi φ (z + 1).toNat = sxi φ z.toNat + φ 194 (166 + z).toNat := by
  rw [show (z + 1).toNat = z.toNat + 1 by omega, show (166 + z).toNat = 166 + z.toNat by omega]
  rfl
theorem hr_andd (v : Int) : 0 < v → v ≤ 256 → 0 ≤ hb_and v (v - 1) ∧ hb_and v (v - 1) < v := by
  intro h1 h2
  have h : ∀ n : Fin 257, 0 < n.val → 0 ≤ hb_and (n.val : Int) ((n.val : Int) - 1) ∧ hb_and (n.val : Int) ((n.val : Int) - 1) < (n.val : Int) := by decide +kernel
  have h3 := h ⟨v.toNat, by omega⟩ (by show 0 < v.toNat; omega)
  rw [show (((⟨v.toNat, by omega⟩ : Fin 257).val : Nat) : Int) = v from Int.toNat_of_nonneg (by omega)] at h3
  exact h3
theorem hr_mul (a b : Int) : 0 ≤ a → a ≤ 30 → 0 ≤ b → b ≤ 30 → 0 ≤ a * b ∧ a * b ≤ 900 := by
  intro h1 h2 h3 h4
  exact ⟨Int.mul_nonneg h1 h3, Int.mul_le_mul h2 h4 h3 (by decide)⟩
theorem hw_txt {sc : List Int} {d m pc : Nat} {L : jm_L} {S : List jm_V} {φ : hf_F} {x : Nat} {Q : Option jm_V → hf_F → Nat → Prop} {a0 v : Int} {b e : Nat} (hc : jm_cq m pc 19 a0 b e = true) (hv : 10 + 2 * (b : Int) = v) (h : hw sc d m (pc + 2 + e) L ((4, v) :: S) φ x Q) : hw sc d m pc L S φ x Q := by
  subst hv
  exact hw_stp hc (by decide) (by decide) rfl h
theorem hw_tld {sc : List Int} {d m pc : Nat} {L : jm_L} {S : List jm_V} {φ : hf_F} {x : Nat} {Q : Option jm_V → hf_F → Nat → Prop} {b e : Nat} {z : Int} (hc : jm_cq m pc 2 2 b e = true) (hv : jm_get L b = some (4, z)) (h : hw sc d m (pc + 1 + e) L ((4, z) :: S) φ x Q) : hw sc d m pc L S φ x Q := by
  refine hw_stp hc (by decide) (by decide) ?_ h
  show jm_load (2, 2, b, e) pc L S (hf_h φ x) = _
  unfold jm_load
  dsimp only
  rw [hv]
  dsimp only
  rw [if_pos (Or.inr (Or.inr ⟨rfl, Or.inr (Or.inr rfl)⟩))]
theorem hw_txc {sc : List Int} {d m pc : Nat} {L : jm_L} {S : List jm_V} {φ : hf_F} {x : Nat} {Q : Option jm_V → hf_F → Nat → Prop} {b e nl : Nat} {v z : Int} {As R : List jm_V} (ck : (decide (g_code m pc = some (30, 5, b, e)) && (decide ((g_m b).2.2.1 = nl) && decide (10 ≤ v ∧ v < 10 + 2 * (g_str.length : Int) ∧ v % 2 = 0))) = true) (hS : S = As.reverse ++ (4, v) :: R) (he : As.length + 1 = e) (h8 : jm_cat R ≤ 8) (hl : jm_cat As + 1 ≤ nl)
    (hx : ∀ h : jm_H, jm_exec sc 60 d b 0 (jm_args 0 ((4, v) :: As)) [] h = some (some (0, z), h)) (h : hw sc (d + 1) m (pc + 3) L ((0, z) :: R) φ x Q) : hw sc (d + 1) m pc L S φ x Q := by
  simp only [Bool.and_eq_true, decide_eq_true_eq] at ck
  obtain ⟨c1, c5, c6⟩ := ck
  have ht : S.take e = As.reverse ++ [(4, v)] := by
    rw [hS, ← he, List.take_append, List.length_reverse, Nat.add_sub_cancel_left, List.take_of_length_le (by rw [List.length_reverse]; omega)]
    rfl
  have hd : S.drop e = R := by
    rw [hS, ← he, List.drop_append, List.length_reverse, Nat.add_sub_cancel_left, List.drop_of_length_le (by rw [List.length_reverse]; omega)]
    rfl
  have hrv : (S.take e).reverse = (4, v) :: As := by rw [ht, List.reverse_append, List.reverse_reverse]; rfl
  refine hw_call (jm_cqm c1) ⟨?_, by rw [hd]; exact h8, ?_, ?_⟩ ?_
  · rw [hS, List.length_append, List.length_reverse, List.length_cons]; omega
  · have hq : jm_cat (S.take e) = jm_cat (S.take e).reverse := by unfold jm_cat; rw [List.map_reverse, List.sum_reverse]
    rw [hq, hrv]
    show (((4, v) :: As).map (fun v : jm_V => if v.1 = 1 then 2 else 1)).sum ≤ _
    rw [List.map_cons, List.sum_cons]
    show 1 + jm_cat As ≤ _
    rw [c5]
    omega
  · rw [hrv]
    show decide ((4 : Nat) = 4 ∧ 10 ≤ v ∧ v < 10 + 2 * (g_str.length : Int) ∧ v % 2 = 0) = true
    exact decide_eq_true ⟨rfl, c6⟩
  · rw [hrv, hd]
    exact ⟨some (0, z), φ, x, ⟨60, hx _⟩, hne0, h⟩
theorem pk_c {φ ψ : hf_F} (h4 : ψ 192 4 = φ 192 4) (h3 : ψ 192 3 = φ 192 3) (h9 : ∀ k, ψ 193 k = φ 193 k) : pk ψ = pk φ := by
  unfold pk
  rw [h4, h3, h9]
theorem hr_jmz {w : Int} (h : w = 0 ∨ w = 1) : jm_z w = w := by
  rcases h with rfl | rfl <;> decide
theorem tg4 {z : Int} : ¬ ((4, z) : jm_V).1 = 1 := fun q => nomatch q
section
variable {φ : hf_F} {k : Nat} {v z : Int}
theorem rx_bk (hI : Inv φ) {a : Nat} (ha : a = 183 ∨ a = 184 ∨ a = 185 ∨ a = 186) (hb : BK (hf_up φ a k v)) : Rx (hf_up φ a k v) := by
  obtain ⟨hV, ⟨r1, r2, r3, r4⟩, w1, w2, w3, wb⟩ := hI
  have e : ∀ c j, ¬ c = a → hf_up φ a k v c j = φ c j := fun c j hc => hf_up_ne (fun q => hc q.1)
  exact ⟨⟨rs_congr (e _ _ (by omega)) (fun _ _ => e _ _ (by omega)) (fun _ _ => e _ _ (by omega)) r1, rs_congr (e _ _ (by omega)) (fun _ _ => e _ _ (by omega)) (fun _ _ => e _ _ (by omega)) r2, rs_congr (e _ _ (by omega)) (fun _ _ => e _ _ (by omega)) (fun _ _ => e _ _ (by omega)) r3, rs_congr (e _ _ (by omega)) (fun _ _ => e _ _ (by omega)) (fun _ _ => e _ _ (by omega)) r4⟩, wf_congr (e _ _ (by omega)) (fun _ _ => e _ _ (by omega)) w1, wf_congr (e _ _ (by omega)) (fun _ _ => e _ _ (by omega)) w2, wf_congr (e _ _ (by omega)) (fun _ _ => e _ _ (by omega)) w3, hb⟩
theorem iv_bk0 (hI : Inv φ) : Inv (hf_up φ 183 5 0) := by
  refine ⟨iv0_ups hI.1 (by decide) (fun q hq => ?_), rx_bk hI (by decide) ?_⟩
  · rw [show g_iv 183 5 = some (0, 40) by decide +kernel] at hq
    cases hq
    exact ⟨by decide, by decide⟩
  · intro i hi h
    rw [hf_up_eq] at h
    omega
theorem iv_bk1 (hI : Inv φ) {a : Nat} {lo u : Int} (ha : a = 184 ∨ a = 185 ∨ a = 186) (ck : ck_iv a 0 40 lo u = true) (hz : z = φ 183 5) (h40 : φ 183 5 < 40) (h1 : lo ≤ v) (h2 : v ≤ u) : Inv (hf_up φ a z.toNat v) := by
  have h3 := iv_at (a := 183) (k := 5) (lo := 0) (u := 40) hI (by decide +kernel)
  refine ⟨iv0_ups hI.1 (by omega) (fun q hq => ?_), rx_bk hI (by omega) ?_⟩
  · rw [ck_iv_at ck (by omega) (by omega)] at hq
    cases hq
    exact ⟨h1, h2⟩
  · intro i hi h
    rw [hf_up_ne (fun q => by omega)] at h
    rw [hf_up_ne (fun q => by omega), hf_up_ne (fun q => by omega), hf_up_ne (fun q => by omega)]
    exact hI.2.2.2.2.2 i hi h
theorem iv_bk2 (hI : Inv φ) {k p q r : Int} (hk : φ 183 5 = k) (h40 : k < 40) (h4 : φ 184 k.toNat = p) (h5 : φ 185 k.toNat = q) (h6 : φ 186 k.toNat = r) (hp : (p = 7 ∨ p = 9) → 0 ≤ q ∧ 0 ≤ r ∧ r ≤ 7) (hq : p = 8 → 0 ≤ q) (hv : v = k + 1) : Inv (hf_up φ 183 5 v) := by
  have h3 := iv_at (a := 183) (k := 5) (lo := 0) (u := 40) hI (by decide +kernel)
  refine ⟨iv0_ups hI.1 (by decide) (fun q hq => ?_), rx_bk hI (by decide) ?_⟩
  · rw [show g_iv 183 5 = some (0, 40) by decide +kernel] at hq
    cases hq
    exact ⟨by omega, by omega⟩
  · intro i hi h
    rw [hf_up_eq] at h
    rw [hf_up_ne (fun q => by omega), hf_up_ne (fun q => by omega), hf_up_ne (fun q => by omega)]
    by_cases hik : (i : Int) < k
    · exact hI.2.2.2.2.2 i hi (by rw [hk]; exact hik)
    · have e : k.toNat = i := by omega
      rw [e] at h4 h5 h6
      rw [h4, h5, h6]
      exact ⟨hp, hq⟩
theorem bk_f (hI : Inv φ) (k : Int) : 0 ≤ k → k < φ 183 5 → ((φ 184 k.toNat = 7 ∨ φ 184 k.toNat = 9) → 0 ≤ φ 185 k.toNat ∧ 0 ≤ φ 186 k.toNat ∧ φ 186 k.toNat ≤ 7) ∧ (φ 184 k.toNat = 8 → 0 ≤ φ 185 k.toNat) := by
  intro h0 h1
  have h3 := iv_at (a := 183) (k := 5) (lo := 0) (u := 40) hI (by decide +kernel)
  exact hI.2.2.2.2.2 k.toNat (by omega) (by omega)
end
/-- which image is kept -/
noncomputable def KP (z r : Int) (φ ψ : hf_F) : Prop := (r = 1 ∧ (z = 0 ∨ z = 1) ∧ ψ 207 z.toNat = 1 ∧ ∀ k : Nat, k ≠ z.toNat → ψ 207 k = φ 207 k) ∨ (r = 0 ∧ ¬ (z = 0 ∨ z = 1) ∧ ∀ k : Nat, ψ 207 k = φ 207 k)
noncomputable def KQ (z r : Int) (φ : hf_F) : Prop := (r = 1 ∧ (z = 0 ∨ z = 1) ∧ φ 207 z.toNat = 1) ∨ (r = 0 ∧ (¬ (z = 0 ∨ z = 1) ∨ φ 207 z.toNat = 0))
