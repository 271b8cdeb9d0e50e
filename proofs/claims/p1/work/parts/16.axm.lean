/-! triples of the box machine, and how they are put together -/
def ax_wk (c e : jm_C) : Bool := decide (e = c) || (decide (c.1 < 1000) && decide (e = (1000 + c.2.length, [])))
def ax_wkl : List jm_C → List jm_C → Bool
  | [], [] => true
  | c :: r, e :: s => ax_wk c e && ax_wkl r s
  | _, _ => false
def ax_wkh (h k : jm_H) : Bool := decide (h.2 = k.2) && ax_wkl h.1 k.1
theorem ax_wk_c {c e x : jm_C} (h : ax_wk c e = true) (hc : ax_c c x) : ax_c e x := by
  rcases Bool.or_eq_true_iff.mp h with h | h
  · rw [of_decide_eq_true h]; exact hc
  · obtain ⟨h1, h2⟩ := Bool.and_eq_true_iff.mp h
    have h1 := of_decide_eq_true h1
    rw [of_decide_eq_true h2]
    have := (ax_c_k hc h1).2.1
    refine Or.inl ⟨Nat.le_add_right _ _, ?_⟩
    show x.2.length + 1000 = 1000 + c.2.length
    omega
theorem ax_wkl_len : ∀ {l k : List jm_C}, ax_wkl l k = true → l.length = k.length
  | [], [], _ => rfl
  | _ :: _, _ :: _, h => congrArg (· + 1) (ax_wkl_len (Bool.and_eq_true_iff.mp h).2)
theorem ax_wkl_at : ∀ {l k : List jm_C} (i : Nat) {e : jm_C}, ax_wkl l k = true → k[i]? = some e → ∃ c, l[i]? = some c ∧ ax_wk c e = true
  | [], [], i, e, _, hk => by simp at hk
  | c :: l, e' :: k, 0, e, h, hk => by
    cases hk
    exact ⟨c, rfl, (Bool.and_eq_true_iff.mp h).1⟩
  | c :: l, e' :: k, i + 1, e, h, hk => by
    rw [List.getElem?_cons_succ] at hk ⊢
    exact ax_wkl_at i (Bool.and_eq_true_iff.mp h).2 hk
theorem ax_wkh_ok {h k g : jm_H} (hw : ax_wkh h k = true) (hh : ax_h h g) : ax_h k g := by
  obtain ⟨h1, h2⟩ := Bool.and_eq_true_iff.mp hw
  refine ⟨(of_decide_eq_true h1).symm.trans hh.1, (ax_wkl_len h2).symm.trans hh.2.1, fun i e hk => ?_⟩
  obtain ⟨c, hc, hce⟩ := ax_wkl_at i h2 hk
  obtain ⟨x, hx, hcx⟩ := hh.2.2 i c hc
  exact ⟨x, hx, ax_wk_c hce hcx⟩
def ax_M (σ : Nat → Int) (sc : List Int) (d m pc : Nat) (L : jm_L) (S : List jm_V) (h : jm_H) (r : Option jm_V) (k : jm_H) : Prop :=
  ∀ (M : jm_L) (U : List jm_V) (g : jm_H), ax_l σ L M → ax_s σ S U → ax_h h g → ∃ (r' : Option jm_V) (g' : jm_H), jm_R sc d m pc M U g r' g' ∧ ax_r σ r r' ∧ ax_h k g'
def ax_fin (bx : ax_B) (jn : List (Nat × Nat × Nat)) (n d m pc : Nat) (L : jm_L) (S : List jm_V) (h : jm_H) (r : Option jm_V) (k : jm_H) : Bool :=
  match ax bx jn n false 1000000 d m pc L S h with
  | some (some r', T) => decide (r' = r) && ax_wkh T.2.2.2 k
  | _ => false
def ax_seg (bx : ax_B) (jn : List (Nat × Nat × Nat)) (n stop d m pc : Nat) (L : jm_L) (S : List jm_V) (h : jm_H) (L1 : jm_L) (S1 : List jm_V) (k : jm_H) : Bool :=
  match ax bx jn n false stop d m pc L S h with
  | some (none, T) => decide (T.1 = stop) && (decide (T.2.1 = L1) && (decide (T.2.2.1 = S1) && ax_wkh T.2.2.2 k))
  | _ => false
def ax_ccl (m pc : Nat) (i : jm_I) (S : List jm_V) (h : jm_H) : Bool := decide (g_code m pc = some i) && (decide (i.1 = 30) && (decide (i.2.1 < 1000) && (decide (i.2.2.2 ≤ S.length) && (decide (jm_cat (S.drop i.2.2.2) ≤ 8) && (decide (jm_cat (S.take i.2.2.2) ≤ (g_m i.2.2.1).2.2.1) && jm_rcv i.2.1 (S.take i.2.2.2).reverse h)))))
section
variable {σ : Nat → Int} {sc : List Int} {bx : ax_B} {jn : List (Nat × Nat × Nat)} {n stop d m pc : Nat} {L L1 : jm_L} {S S1 : List jm_V} {h k k1 : jm_H} {r r1 : Option jm_V}
theorem ax_M_fin (hc : ax_fin bx jn n d m pc L S h r k = true) (hH : ax_H bx σ sc) : ax_M σ sc d m pc L S h r k := by
  intro M U g hL hS hh
  unfold ax_fin at hc
  split at hc
  · rename_i r' T hx
    obtain ⟨h1, h2⟩ := Bool.and_eq_true_iff.mp hc
    have e := of_decide_eq_true h1
    subst e
    obtain ⟨r2, g2, h3, h4, h5⟩ := ax_ok hH n hx hL hS hh
    exact ⟨r2, g2, h3, h4, ax_wkh_ok h2 h5⟩
  · cases hc
theorem ax_M_seg (hc : ax_seg bx jn n stop d m pc L S h L1 S1 k1 = true) (hH : ax_H bx σ sc) (hM : ax_M σ sc d m stop L1 S1 k1 r k) : ax_M σ sc d m pc L S h r k := by
  intro M U g hL hS hh
  unfold ax_seg at hc
  split at hc
  · rename_i T hx
    obtain ⟨h1, hc⟩ := Bool.and_eq_true_iff.mp hc
    obtain ⟨h2, hc⟩ := Bool.and_eq_true_iff.mp hc
    obtain ⟨h3, h4⟩ := Bool.and_eq_true_iff.mp hc
    obtain ⟨M2, U2, g2, q1, q2, q3, q4⟩ := ax_ok hH n hx hL hS hh
    rw [of_decide_eq_true h2] at q1
    rw [of_decide_eq_true h3] at q2
    rw [of_decide_eq_true h1] at q4
    obtain ⟨r', g', w1, w2⟩ := hM M2 U2 g2 q1 q2 (ax_wkh_ok h4 q3)
    exact ⟨r', g', q4 _ _ w1, w2⟩
  · cases hc
theorem ax_M_call {i : jm_I} (hc : ax_ccl m pc i S h = true) (hr : ¬ r1 = some (9, 0)) (hM1 : ax_M σ sc d i.2.2.1 0 (jm_args 0 (S.take i.2.2.2).reverse) [] h r1 k1) (hM2 : ax_M σ sc (d + 1) m (pc + 3) L (r1.toList ++ S.drop i.2.2.2) k1 r k) : ax_M σ sc (d + 1) m pc L S h r k := by
  intro M U g hL hS hh
  unfold ax_ccl at hc
  simp only [Bool.and_eq_true, decide_eq_true_eq] at hc
  obtain ⟨c1, c2, c3, c4, c5, c6, c7⟩ := hc
  obtain ⟨r', g', w1, w2, w3⟩ := hM1 _ [] g (ax_sargs 0 (ax_srev (ax_stake i.2.2.2 hS))) trivial hh
  obtain ⟨r2, g2, x1, x2⟩ := hM2 M (r'.toList ++ U.drop i.2.2.2) g' hL (ax_sapp w2 (ax_sdrop _ hS)) w3
  refine ⟨r2, g2, jm_R_call c1 (Or.inl c2) ⟨by rw [← ax_slen hS]; exact c4, by rw [← ax_scat (ax_sdrop _ hS)]; exact c5, by rw [← ax_scat (ax_stake _ hS)]; exact c6, ?_⟩ w1 (fun e => hr ((ax_r9 w2).mp e)) x1, x2⟩
  rw [if_neg (by omega)]
  exact ax_rcv (ax_srev (ax_stake _ hS)) hh c3 c7
theorem ax_M_res {r2 : Option jm_V} (hr : ∀ q, ax_r σ r1 q → ax_r σ r2 q) (hM : ax_M σ sc d m pc L S h r1 k) : ax_M σ sc d m pc L S h r2 k := by
  intro M U g hL hS hh
  obtain ⟨r', g', w1, w2, w3⟩ := hM M U g hL hS hh
  exact ⟨r', g', w1, hr _ w2, w3⟩
theorem ax_loop {Lf : Nat → jm_L} {Wf : Nat → jm_H} {rf : Nat → Option jm_V} {bs be : Nat → ax_B} {N : Nat} (hN : N ≤ 60)
    (hs : (List.range 60).all (fun i => ax_seg (bs i) jn n stop d m stop (Lf i) [] (Wf i) (Lf (i + 1)) [] (Wf (i + 1))) = true)
    (he : (List.range 61).all (fun i => ax_fin (be i) jn n d m stop (Lf i) [] (Wf i) (rf i) k) = true) (hHs : ∀ i, i < N → ax_H (bs i) σ sc) (hHe : ax_H (be N) σ sc) : ∀ j, j ≤ N → ax_M σ sc d m stop (Lf (N - j)) [] (Wf (N - j)) (rf N) k
  | 0, _ => ax_M_fin (List.all_eq_true.mp he N (List.mem_range.mpr (by omega))) hHe
  | j + 1, hj => by
    have h1 := List.all_eq_true.mp hs (N - (j + 1)) (List.mem_range.mpr (by omega))
    refine ax_M_seg h1 (hHs _ (by omega)) ?_
    rw [show N - (j + 1) + 1 = N - j by omega]
    exact ax_loop hN hs he hHs hHe j (by omega)
end
theorem ax_h_rf {h : jm_H} (hk : h.1.all (fun c => decide (c.1 < 1000)) = true) : ax_h h h :=
  ⟨rfl, rfl, fun k c hc => ⟨c, hc, Or.inr ⟨of_decide_eq_true (List.all_eq_true.mp hk c (List.mem_of_getElem? hc)), rfl, rfl, fun _ => Or.inr rfl⟩⟩⟩
def ax_sz (l : List jm_C) : Nat := (l.map (fun c => if 1000 ≤ c.1 then c.1 - 1000 else c.2.length)).sum
theorem ax_h_sz {h g : jm_H} (hh : ax_h h g) : jm_cn g = h.1.length + h.2 ∧ jm_sl g = ax_sz h.1 + 6 * h.2 := by
  have e : g.1.map (fun c => c.2.length) = h.1.map (fun c => if 1000 ≤ c.1 then c.1 - 1000 else c.2.length) := by
    apply List.ext_getElem?
    intro i
    rw [List.getElem?_map, List.getElem?_map]
    cases hc : h.1[i]? with
    | none =>
      have h1 := List.getElem?_eq_none_iff.mp hc
      rw [List.getElem?_eq_none (by rw [← hh.2.1]; exact h1)]
      rfl
    | some c =>
      obtain ⟨x, hx, hcx⟩ := hh.2.2 i c hc
      rw [hx]
      show some x.2.length = some (if 1000 ≤ c.1 then c.1 - 1000 else c.2.length)
      rcases hcx with ⟨h1, h2⟩ | ⟨h1, h2, h3⟩
      · rw [if_pos h1, show x.2.length = c.1 - 1000 by omega]
      · rw [if_neg (by omega), h3.1]
  unfold jm_cn jm_sl ax_sz
  rw [e, hh.1, hh.2.1]
  exact ⟨rfl, rfl⟩
