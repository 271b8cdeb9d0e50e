/-! runs of the box machine are runs of the Int machine -/
def ax_nx (bx : ax_B) (jn : List (Nat × Nat × Nat)) (n : Nat) (ro : Bool) (stop d m pc : Nat) (L : jm_L) (S : List jm_V) (h : jm_H) : Option (Option (Option jm_V) × jm_T) := if pc = stop then some (none, (pc, L, S, h)) else ax bx jn n ro stop d m pc L S h
section
variable {bx : ax_B} {jn : List (Nat × Nat × Nat)} {n : Nat} {ro : Bool} {stop d m pc : Nat} {L : jm_L} {S : List jm_V} {h : jm_H} {q : Option (Option jm_V)} {T : jm_T}
theorem ax_inv (hx : ax bx jn (n + 1) ro stop d m pc L S h = some (q, T)) : ∃ i : jm_I, g_code m pc = some i ∧
    ((i.1 = 40 ∧ ∃ r, ax_ret i S = some r ∧ q = some r ∧ T.2.2.2 = h) ∨
     (i.1 = 41 ∧ ro = false ∧ 10 ≤ d ∧ jm_cat S ≤ 8 ∧ q = some (some (9, 0)) ∧ T.2.2.2 = (h.1, h.2 + 1)) ∨
     ((i.1 = 30 ∨ i.1 = 31 ∨ i.1 = 32) ∧ ∃ (d' : Nat) (r : Option jm_V) (T1 : jm_T), d = d' + 1 ∧ jm_cc m pc i S h ∧ (10 + ((g_lnk m pc).getD 5 0 : Int)) < 1000 ∧ i.2.1 < 1000 ∧ ax bx jn n ro 1000000 d' i.2.2.1 0 (jm_args 0 (S.take i.2.2.2).reverse) [] h = some (some r, T1) ∧
        ((r = some (9, 0) ∧ i.1 = 31 ∧ ax_nx bx jn n ro stop (d' + 1) m i.2.1.toNat (jm_drop L ((g_lnk m pc).getD 6 0)) [] T1.2.2.2 = some (q, T)) ∨ (¬ r = some (9, 0) ∧ ax_nx bx jn n ro stop (d' + 1) m (pc + 3) L (r.toList ++ S.drop i.2.2.2) T1.2.2.2 = some (q, T)))) ∨
     ((i.1 = 14 ∨ i.1 = 16 ∨ i.1 = 24) ∧ ro = false ∧ ∃ (p1 : Nat) (L1 : jm_L) (S1 : List jm_V) (h1 : jm_H), ax_mod i pc L S h = some (p1, L1, S1, h1) ∧ ax_nx bx jn n ro stop d m p1 L1 S1 h1 = some (q, T)) ∨
     (¬ i.1 = 40 ∧ ¬ (i.1 = 30 ∨ i.1 = 31 ∨ i.1 = 32) ∧ ∃ (p1 : Nat) (L1 : jm_L) (S1 : List jm_V), ax_pur bx i pc L S h = some (p1, L1, S1) ∧ ax_nx bx jn n ro stop d m p1 L1 S1 h = some (q, T)) ∨
     (¬ i.1 = 40 ∧ ¬ (i.1 = 30 ∨ i.1 = 31 ∨ i.1 = 32) ∧ ∃ (j : Nat) (r : List jm_V) (L1 : jm_L) (S1 : List jm_V) (h1 h2 : jm_H), ax_pop i S = some r ∧ ax_nx bx jn n true j d m i.2.2.2 L r h = some (none, (j, L1, S1, h1)) ∧ ax_nx bx jn n true j d m (pc + 3) L r h = some (none, (j, L1, S1, h2)) ∧ ax_nx bx jn n ro stop d m j L1 S1 h = some (q, T))) := by
  unfold ax at hx
  cases hc : g_code m pc with
  | none => rw [hc] at hx; cases hx
  | some i =>
    rw [hc] at hx
    dsimp only at hx
    refine ⟨i, rfl, ?_⟩
    by_cases h40 : i.1 = 40
    · rw [if_pos h40] at hx
      obtain ⟨r, hr, e⟩ := Option.map_eq_some_iff.mp hx
      cases e
      exact Or.inl ⟨h40, r, hr, rfl, rfl⟩
    · rw [if_neg h40] at hx
      by_cases h41 : i.1 = 41
      · rw [if_pos h41] at hx
        split at hx
        · rename_i hk
          cases hx
          exact Or.inr (Or.inl ⟨h41, hk.1, hk.2.1, hk.2.2, rfl, rfl⟩)
        · cases hx
      · rw [if_neg h41] at hx
        by_cases h30 : i.1 = 30 ∨ i.1 = 31 ∨ i.1 = 32
        · rw [if_pos h30] at hx
          refine Or.inr (Or.inr (Or.inl ⟨h30, ?_⟩))
          match d, hx with
          | 0, hx => cases hx
          | d' + 1, hx =>
            dsimp only at hx
            by_cases hcc : i.2.2.2 ≤ S.length ∧ jm_cat (S.drop i.2.2.2) ≤ 8 ∧ jm_cat (S.take i.2.2.2) ≤ (g_m i.2.2.1).2.2.1 ∧ jm_rcv (if i.1 = 31 then 10 + ((g_lnk m pc).getD 5 0 : Int) else i.2.1) (S.take i.2.2.2).reverse h = true ∧ (10 + ((g_lnk m pc).getD 5 0 : Int)) < 1000 ∧ i.2.1 < 1000
            · rw [if_pos hcc] at hx
              obtain ⟨k1, k2, k3, k4, k5, k6⟩ := hcc
              cases hy : ax bx jn n ro 1000000 d' i.2.2.1 0 (jm_args 0 (S.take i.2.2.2).reverse) [] h with
              | none => rw [hy] at hx; cases hx
              | some z =>
                obtain ⟨z1, T1⟩ := z
                rw [hy] at hx
                cases z1 with
                | none => cases hx
                | some r =>
                  dsimp only at hx
                  refine ⟨d', r, T1, rfl, ⟨k1, k2, k3, k4⟩, k5, k6, hy, ?_⟩
                  by_cases hr : r = some (9, 0)
                  · rw [if_pos hr] at hx
                    by_cases h31 : i.1 = 31
                    · rw [if_pos h31] at hx
                      exact Or.inl ⟨hr, h31, hx⟩
                    · rw [if_neg h31] at hx
                      cases hx
                  · rw [if_neg hr] at hx
                    exact Or.inr ⟨hr, hx⟩
            · rw [if_neg hcc] at hx
              cases hx
        · rw [if_neg h30] at hx
          by_cases h14 : i.1 = 14 ∨ i.1 = 16 ∨ i.1 = 24
          · rw [if_pos h14] at hx
            refine Or.inr (Or.inr (Or.inr (Or.inl ⟨h14, ?_⟩)))
            cases ro with
            | true => cases hx
            | false =>
              rw [if_neg (by decide)] at hx
              refine ⟨rfl, ?_⟩
              cases hm : ax_mod i pc L S h with
              | none => rw [hm] at hx; cases hx
              | some z =>
                obtain ⟨p1, L1, S1, h1⟩ := z
                rw [hm] at hx
                exact ⟨p1, L1, S1, h1, rfl, hx⟩
          · rw [if_neg h14] at hx
            cases hp : ax_pur bx i pc L S h with
            | some z =>
              obtain ⟨p1, L1, S1⟩ := z
              rw [hp] at hx
              exact Or.inr (Or.inr (Or.inr (Or.inr (Or.inl ⟨h40, h30, p1, L1, S1, rfl, hx⟩))))
            | none =>
              rw [hp] at hx
              dsimp only at hx
              refine Or.inr (Or.inr (Or.inr (Or.inr (Or.inr ⟨h40, h30, ?_⟩))))
              cases hj : ax_jn jn m pc with
              | none => rw [hj] at hx; cases hx
              | some j =>
                cases hpp : ax_pop i S with
                | none => rw [hj, hpp] at hx; cases hx
                | some r =>
                  rw [hj, hpp] at hx
                  dsimp only at hx
                  split at hx
                  · rename_i p1 L1 S1 h1 p2 L2 S2 h2 hx1 hx2
                    split at hx
                    · rename_i hk
                      obtain ⟨e1, e2, e3, e4⟩ := hk
                      subst e1; subst e2; subst e3; subst e4
                      exact ⟨_, r, L1, S1, h1, h2, rfl, hx1, hx2, hx⟩
                    · cases hx
                  · cases hx
end
theorem ax_ro {bx : ax_B} {jn : List (Nat × Nat × Nat)} : ∀ (n : Nat) {stop d m pc : Nat} {L : jm_L} {S : List jm_V} {h : jm_H} {q : Option (Option jm_V)} {T : jm_T}, ax bx jn n true stop d m pc L S h = some (q, T) → T.2.2.2 = h
  | 0, stop, d, m, pc, L, S, h, q, T, hx => by cases hx
  | n + 1, stop, d, m, pc, L, S, h, q, T, hx => by
    have nx : ∀ {p1 : Nat} {L1 : jm_L} {S1 : List jm_V} {h1 : jm_H} {stop d : Nat} {q : Option (Option jm_V)} {T : jm_T}, ax_nx bx jn n true stop d m p1 L1 S1 h1 = some (q, T) → T.2.2.2 = h1 := by
      intro p1 L1 S1 h1 stop d q T hy
      unfold ax_nx at hy
      split at hy
      · cases hy; rfl
      · exact ax_ro n hy
    obtain ⟨i, hc, hcase⟩ := ax_inv hx
    rcases hcase with ⟨-, r, -, -, hT⟩ | ⟨-, hr, -⟩ | ⟨-, d', r, T1, -, -, -, -, hy, hz⟩ | ⟨-, hr, -⟩ | ⟨-, -, p1, L1, S1, -, hy⟩ | ⟨-, -, j, r, L1, S1, h1, h2, -, -, -, hy⟩
    · exact hT
    · cases hr
    · have h1 := ax_ro n hy
      rcases hz with ⟨-, -, hz⟩ | ⟨-, hz⟩
      · rw [nx hz]; exact h1
      · rw [nx hz]; exact h1
    · cases hr
    · exact nx hy
    · exact nx hy
def ax_Q (σ : Nat → Int) (sc : List Int) (d m : Nat) (q : Option (Option jm_V)) (T : jm_T) (P : Option jm_V → jm_H → Prop) : Prop :=
  match q with
  | some r => ∃ (r' : Option jm_V) (g : jm_H), P r' g ∧ ax_r σ r r' ∧ ax_h T.2.2.2 g
  | none => ∃ (M : jm_L) (U : List jm_V) (g : jm_H), ax_l σ T.2.1 M ∧ ax_s σ T.2.2.1 U ∧ ax_h T.2.2.2 g ∧ ∀ r' g', jm_R sc d m T.1 M U g r' g' → P r' g'
theorem ax_Q_mono {σ : Nat → Int} {sc : List Int} {d m : Nat} {q : Option (Option jm_V)} {T : jm_T} {P P' : Option jm_V → jm_H → Prop} (hP : ∀ r g, P r g → P' r g) (h : ax_Q σ sc d m q T P) : ax_Q σ sc d m q T P' := by
  cases q with
  | some r =>
    obtain ⟨r', g, h1, h2⟩ := h
    exact ⟨r', g, hP _ _ h1, h2⟩
  | none =>
    obtain ⟨M, U, g, h1, h2, h3, h4⟩ := h
    exact ⟨M, U, g, h1, h2, h3, fun r' g' hr => hP _ _ (h4 r' g' hr)⟩
theorem ax_pop_ok {σ : Nat → Int} {i : jm_I} {S T r : List jm_V} {sc : List Int} {pc : Nat} {M : jm_L} {g : jm_H} (h : ax_pop i S = some r) (hS : ax_s σ S T) : ∃ U, ax_s σ r U ∧ (jm_stp sc i pc M T g = some (i.2.2.2, M, U, g) ∨ jm_stp sc i pc M T g = some (pc + 3, M, U, g)) := by
  obtain ⟨op, a, b, d⟩ := i
  unfold ax_pop at h
  split at h
  · rename_i y r1
    obtain ⟨y', U, rfl, hy, hr⟩ := ax_sc hS
    split at h
    · rename_i hy0
      have y0 := ax_v0 hy hy0
      split at h
      · rename_i h9
        dsimp only at h9
        subst h9
        cases h
        refine ⟨U, hr, ?_⟩
        show jm_if (9, a, b, d) pc M (y' :: U) g = _ ∨ jm_if (9, a, b, d) pc M (y' :: U) g = _
        unfold jm_if
        dsimp only
        rw [if_pos y0]
        cases jm_cnd b y'.2 0
        · exact Or.inr rfl
        · exact Or.inl rfl
      · split at h
        · rename_i x r2
          obtain ⟨x', V, rfl, hx, hr2⟩ := ax_sc hr
          split at h
          · rename_i h10
            obtain ⟨h10, hx0⟩ := h10
            dsimp only at h10
            subst h10
            cases h
            have x0 := ax_v0 hx hx0
            refine ⟨V, hr2, ?_⟩
            show jm_if2 (10, a, b, d) pc M (y' :: x' :: V) g = _ ∨ jm_if2 (10, a, b, d) pc M (y' :: x' :: V) g = _
            unfold jm_if2
            dsimp only
            rw [if_pos ⟨y0, x0⟩]
            cases jm_cnd b x'.2 y'.2
            · exact Or.inr rfl
            · exact Or.inl rfl
          · cases h
        · cases h
    · cases h
  · cases h
theorem ax_r9 {σ : Nat → Int} {r r' : Option jm_V} (h : ax_r σ r r') : r' = some (9, 0) ↔ r = some (9, 0) := by
  cases r with
  | none =>
    cases r' with
    | none => exact Iff.rfl
    | some w => exact h.elim
  | some v =>
    cases r' with
    | none => exact h.elim
    | some w =>
      have hv : ax_v σ v w := h.1
      rcases hv with ⟨-, e⟩ | ⟨h1, h2, -⟩
      · rw [e]
      · constructor
        · intro e
          rw [Option.some.inj e] at h2
          cases h2
        · intro e
          rw [Option.some.inj e] at h1
          exact absurd h1 (by decide)
theorem ax_ok {σ : Nat → Int} {sc : List Int} {bx : ax_B} {jn : List (Nat × Nat × Nat)} (hH : ax_H bx σ sc) : ∀ (n : Nat) {ro : Bool} {stop d m pc : Nat} {L : jm_L} {S : List jm_V} {h : jm_H} {q : Option (Option jm_V)} {T : jm_T} {M : jm_L} {U : List jm_V} {g : jm_H}, ax bx jn n ro stop d m pc L S h = some (q, T) → ax_l σ L M → ax_s σ S U → ax_h h g → ax_Q σ sc d m q T (jm_R sc d m pc M U g)
  | 0, ro, stop, d, m, pc, L, S, h, q, T, M, U, g, hx, hL, hS, hh => by cases hx
  | n + 1, ro, stop, d, m, pc, L, S, h, q, T, M, U, g, hx, hL, hS, hh => by
    have nx : ∀ {ro : Bool} {p1 : Nat} {L1 : jm_L} {S1 : List jm_V} {h1 : jm_H} {stop : Nat} {q : Option (Option jm_V)} {T : jm_T} {M : jm_L} {U : List jm_V} {g : jm_H}, ax_nx bx jn n ro stop d m p1 L1 S1 h1 = some (q, T) → ax_l σ L1 M → ax_s σ S1 U → ax_h h1 g → ax_Q σ sc d m q T (jm_R sc d m p1 M U g) := by
      intro ro p1 L1 S1 h1 stop q T M U g hy hL hS hh
      unfold ax_nx at hy
      split at hy
      · cases hy
        exact ⟨M, U, g, hL, hS, hh, fun r' g' hr => hr⟩
      · exact ax_ok hH n hy hL hS hh
    obtain ⟨i, hc, hcase⟩ := ax_inv hx
    rcases hcase with ⟨h40, r, hr, rfl, hT⟩ | ⟨h41, -, hd, hcat, rfl, hT⟩ | ⟨h30, d', r, T1, rfl, hcc, hk1, hk2, hy, hz⟩ | ⟨h14, -, p1, L1, S1, h1, hm, hy⟩ | ⟨h40, h30, p1, L1, S1, hp, hy⟩ | ⟨h40, h30, j, r, L1, S1, h1, h2, hpp, hy1, hy2, hy⟩
    · obtain ⟨r', hr', hrr, -⟩ := ax_ret_ok (g := g) hr hS
      exact ⟨r', g, jm_R_ret hc h40 hr', hrr, by rw [hT]; exact hh⟩
    · exact ⟨some (9, 0), (g.1, g.2 + 1), jm_R_thr hc h41 hd (by rw [← ax_scat hS]; exact hcat), ⟨ax_vx (by decide), trivial⟩, by rw [hT]; exact ax_h_thr hh⟩
    · obtain ⟨k1, k2, k3, k4⟩ := hcc
      have hcc' : jm_cc m pc i U g := by
        refine ⟨by rw [← ax_slen hS]; exact k1, by rw [← ax_scat (ax_sdrop _ hS)]; exact k2, by rw [← ax_scat (ax_stake _ hS)]; exact k3, ax_rcv (ax_srev (ax_stake _ hS)) hh ?_ k4⟩
        split
        · exact hk1
        · exact hk2
      obtain ⟨r', g1, hrun, hrr, hg1⟩ := ax_ok hH n hy (ax_sargs 0 (ax_srev (ax_stake _ hS))) (show ax_s σ [] [] from trivial) hh
      rcases hz with ⟨hr9, h31, hz⟩ | ⟨hr9, hz⟩
      · have e := (ax_r9 hrr).mpr hr9
        subst e
        exact ax_Q_mono (fun r2 g2 h2 => jm_R_try hc h31 hcc' hrun h2) (nx hz (ax_drop hL) (show ax_s σ [] [] from trivial) hg1)
      · exact ax_Q_mono (fun r2 g2 h2 => jm_R_call hc h30 hcc' hrun (fun e => hr9 ((ax_r9 hrr).mp e)) h2) (nx hz hL (ax_sapp hrr (ax_sdrop _ hS)) hg1)
    · obtain ⟨M1, U1, g1, hs, hL1, hS1, hh1⟩ := ax_mod_ok (sc := sc) hm hL hS hh
      exact ax_Q_mono (fun r2 g2 h2 => jm_R_stp hc (by omega) (by omega) hs h2) (nx hy hL1 hS1 hh1)
    · obtain ⟨M1, U1, hs, hL1, hS1⟩ := ax_pur_ok (g := g) hH hp hL hS hh
      exact ax_Q_mono (fun r2 g2 h2 => jm_R_stp hc h40 h30 hs h2) (nx hy hL1 hS1 hh)
    · obtain ⟨V, hV, hs⟩ := ax_pop_ok (sc := sc) (pc := pc) (M := M) (g := g) hpp hS
      have e1 : h1 = h := by
        unfold ax_nx at hy1
        split at hy1
        · cases hy1; rfl
        · exact ax_ro n hy1
      have e2 : h2 = h := by
        unfold ax_nx at hy2
        split at hy2
        · cases hy2; rfl
        · exact ax_ro n hy2
      subst e1
      subst e2
      rcases hs with hs | hs
      · obtain ⟨M1, U1, g1, hL1, hS1, hh1, hk⟩ := nx hy1 hL hV hh
        exact ax_Q_mono (fun r2 g2 h2 => jm_R_stp hc h40 h30 hs (hk r2 g2 h2)) (nx hy hL1 hS1 hh1)
      · obtain ⟨M1, U1, g1, hL1, hS1, hh1, hk⟩ := nx hy2 hL hV hh
        exact ax_Q_mono (fun r2 g2 h2 => jm_R_stp hc h40 h30 hs (hk r2 g2 h2)) (nx hy hL1 hS1 hh1)
