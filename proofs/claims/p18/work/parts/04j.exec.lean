/-! a run of the Int machine, taken apart -/
section
variable {sc : List Int} {n dd m pc : Nat} {L : jm_L} {S : List jm_V} {h h' : jm_H} {r : Option jm_V}
noncomputable def jm_cc (m pc : Nat) (i : jm_I) (S : List jm_V) (h : jm_H) : Prop := i.2.2.2 ≤ S.length ∧ jm_cat (S.drop i.2.2.2) ≤ 8 ∧ jm_cat (S.take i.2.2.2) ≤ (g_m i.2.2.1).2.2.1 ∧ jm_rcv (if i.1 = 31 then 10 + ((g_lnk m pc).getD 5 0 : Int) else i.2.1) (S.take i.2.2.2).reverse h = true
theorem jm_exec_inv (hex : jm_exec sc (n + 1) dd m pc L S h = some (r, h')) : ∃ i : jm_I, g_code m pc = some i ∧
    ((i.1 = 40 ∧ jm_ret i S h = some (r, h')) ∨ (i.1 = 41 ∧ 10 ≤ dd ∧ jm_cat S ≤ 8 ∧ r = some (9, 0) ∧ h' = (h.1, h.2 + 1)) ∨
     ((i.1 = 30 ∨ i.1 = 31 ∨ i.1 = 32) ∧ ∃ (d' : Nat) (r1 : Option jm_V) (h1 : jm_H), dd = d' + 1 ∧ jm_cc m pc i S h ∧ jm_exec sc n d' i.2.2.1 0 (jm_args 0 (S.take i.2.2.2).reverse) [] h = some (r1, h1) ∧
        ((r1 = some (9, 0) ∧ i.1 = 31 ∧ jm_exec sc n (d' + 1) m i.2.1.toNat (jm_drop L ((g_lnk m pc).getD 6 0)) [] h1 = some (r, h')) ∨ (¬ r1 = some (9, 0) ∧ jm_exec sc n (d' + 1) m (pc + 3) L (r1.toList ++ S.drop i.2.2.2) h1 = some (r, h')))) ∨
     (¬ i.1 = 40 ∧ ¬ (i.1 = 30 ∨ i.1 = 31 ∨ i.1 = 32) ∧ ∃ (pc' : Nat) (L' : jm_L) (S' : List jm_V) (h1 : jm_H), jm_stp sc i pc L S h = some (pc', L', S', h1) ∧ jm_exec sc n dd m pc' L' S' h1 = some (r, h'))) := by
  unfold jm_exec at hex
  cases hc : g_code m pc with
  | none => rw [hc] at hex; cases hex
  | some i =>
    rw [hc] at hex
    dsimp only at hex
    refine ⟨i, rfl, ?_⟩
    split at hex
    · rename_i h40
      exact Or.inl ⟨h40, hex⟩
    · rename_i h40
      split at hex
      · rename_i h41
        split at hex
        · rename_i hd
          cases hex
          exact Or.inr (Or.inl ⟨h41, hd.1, hd.2, rfl, rfl⟩)
        · cases hex
      · rename_i h41
        split at hex
        · rename_i h30
          refine Or.inr (Or.inr (Or.inl ⟨h30, ?_⟩))
          match dd, hex with
          | 0, hex => cases hex
          | d' + 1, hex =>
            dsimp only at hex
            by_cases hcc : i.2.2.2 ≤ S.length ∧ jm_cat (S.drop i.2.2.2) ≤ 8 ∧ jm_cat (S.take i.2.2.2) ≤ (g_m i.2.2.1).2.2.1 ∧ jm_rcv (if i.1 = 31 then 10 + ((g_lnk m pc).getD 5 0 : Int) else i.2.1) (S.take i.2.2.2).reverse h = true
            · rw [if_pos hcc] at hex
              cases hx : jm_exec sc n d' i.2.2.1 0 (jm_args 0 (S.take i.2.2.2).reverse) [] h with
              | none => rw [hx] at hex; cases hex
              | some q =>
                obtain ⟨r1, h1⟩ := q
                rw [hx] at hex
                dsimp only at hex
                refine ⟨d', r1, h1, rfl, hcc, hx, ?_⟩
                by_cases hr1 : r1 = some (9, 0)
                · rw [if_pos hr1] at hex
                  by_cases h31 : i.1 = 31
                  · rw [if_pos h31] at hex
                    exact Or.inl ⟨hr1, h31, hex⟩
                  · rw [if_neg h31] at hex
                    cases hex
                · rw [if_neg hr1] at hex
                  exact Or.inr ⟨hr1, hex⟩
            · rw [if_neg hcc] at hex
              cases hex
        · rename_i h30
          refine Or.inr (Or.inr (Or.inr ⟨h40, h30, ?_⟩))
          cases hs : jm_stp sc i pc L S h with
          | none => rw [hs] at hex; cases hex
          | some q =>
            obtain ⟨pc', L', S', h1⟩ := q
            rw [hs] at hex
            exact ⟨pc', L', S', h1, rfl, hex⟩
theorem jm_ret_h {i : jm_I} (hr : jm_ret i S h = some (r, h')) : h' = h := by
  unfold jm_ret at hr
  split at hr
  · split at hr
    · cases hr; rfl
    · cases hr
  · split at hr
    · cases hr; rfl
    · cases hr
  · cases hr; rfl
  · cases hr
end
theorem jm_exec_le {sc : List Int} : ∀ (n : Nat) {dd m pc : Nat} {L : jm_L} {S : List jm_V} {h h' : jm_H} {r : Option jm_V}, jm_exec sc n dd m pc L S h = some (r, h') → jm_le h h'
  | 0, dd, m, pc, L, S, h, h', r, hex => by cases hex
  | n + 1, dd, m, pc, L, S, h, h', r, hex => by
    obtain ⟨i, hc, hcase⟩ := jm_exec_inv hex
    rcases hcase with ⟨-, hr⟩ | ⟨-, -, -, -, rfl⟩ | ⟨-, d', r1, h1, rfl, -, hx, hy⟩ | ⟨-, -, pc', L', S', h1, hs, hx⟩
    · rw [jm_ret_h hr]; exact jm_le_rf _
    · exact ⟨Nat.le_refl _, Nat.le_refl _, Nat.le_succ _⟩
    · rcases hy with ⟨-, -, hy⟩ | ⟨-, hy⟩
      · exact jm_le_tr (jm_exec_le n hx) (jm_exec_le n hy)
      · exact jm_le_tr (jm_exec_le n hx) (jm_exec_le n hy)
    · exact jm_le_tr (jm_stp_le hs) (jm_exec_le n hx)
section
variable {D : va_G} {aC : Nat → ClassId} {ad : Nat → Nat} {fmt : Value} {sc : List Int}
theorem jm_G_at {s U : State} {H : Heap} {locs : List Loc} (hG : jm_G D aC ad fmt sc s s.heap) (hS : va_S (jm_A ad) s.heap H locs) (hW : s.WarmedH U.vm) (hU : U.heap = H) : jm_G D aC ad fmt sc U U.heap := by
  obtain ⟨g1, g2, g3, g4, g5, g6, g7, g8, g9, g10, g11, g12, g13⟩ := hG
  rw [hU]
  have ha := hW.alike
  exact ⟨g1.moved ha, (g2.kept hS.2.1).moved ha, fun k hk => vk_R.warm hW (g3 k hk), (g4.kept hS.2.1).moved ha, (g5.kept hS.2.1).moved ha, (g6.kept hS.2.1).moved ha, (g7.kept hS.2.1).moved ha,
    (g8.kept (hS.2.1 _ (by omega) (by unfold jm_A; omega))).moved ha, g9, Nat.le_trans g10 hS.1, fun a k y b hm => va_Nw.warmM hW (g11 a k y b hm), ⟨g12.1.moved ha, (g12.2.1.kept hS.2.1).moved ha, (g12.2.2.1.kept hS.2.1).moved ha, fun a b hm => va_Nw.warmC hW (g12.2.2.2.1 a b hm), fun x hm => va_Nw.warmD hW (g12.2.2.2.2 x hm)⟩, g13⟩
/-- what a callee finds -/
noncomputable def jm_PU (D : va_G) (aC : Nat → ClassId) (ad : Nat → Nat) (fmt : Value) (sc : List Int) (h : jm_H) (U : State) : Prop := jm_G D aC ad fmt sc U U.heap ∧ va_P D g_cl (jm_ws aC ad fmt h.1) U.heap ∧ (h.2 = 0 → U.heap.size = ad 0 + h.1.length)
theorem jm_blind {as : List Value} {h : jm_H} : FrameBlind (va_Pc as (jm_PU D aC ad fmt sc h)) := by
  intro a U g mk q
  obtain ⟨q1, q2, q3, q4⟩ := q
  exact ⟨q1, jm_G_at (s := U) (U := U.calling g mk a) (H := U.heap) (locs := []) q2 va_S.rf (State.WarmedH.refl U) rfl, q3, q4⟩
/-- what a callee that returns leaves -/
noncomputable def jm_QQ (D : va_G) (aC : Nat → ClassId) (ad : Nat → Nat) (fmt : Value) (r : Option jm_V) (h' : jm_H) : Array Value → State → Outcome → State → Prop := match r with
  | none => va_Qv (fun _ : Unit => True) (fun _ t => va_P D g_cl (jm_ws aC ad fmt h'.1) t.heap) (jm_A ad)
  | some (0, z) => va_Qi (fun q (_ : Unit) => q = Int32.ofInt z) (fun _ t => va_P D g_cl (jm_ws aC ad fmt h'.1) t.heap) (jm_A ad)
  | some (_, z) => va_Ql (fun q (_ : Unit) => q = Int64.ofInt z) (fun _ t => va_P D g_cl (jm_ws aC ad fmt h'.1) t.heap) (jm_A ad)
noncomputable def jm_wsm (m : Nat) : List Cond := Cond.code (g_m m).1 (g_m m).2.1 (g_m m).2.2.1 (g_m m).2.2.2 :: jm_W
noncomputable def jm_rm (d mc ms : Nat) : Room := { frames := d + 2, cells := mc, slots := ms, locals := (d + 2) * 60 }
theorem jm_lvargs (hf : fmt.category = 1) : ∀ (as : List jm_V) (i : Nat), lv_args i (as.map (jm_cv ad fmt)) = jm_ls ad fmt (jm_args i as)
  | [], i => rfl
  | v :: vs, i => by
    show (i, jm_cv ad fmt v) :: lv_args (if (jm_cv ad fmt v).category = 2 then i + 2 else i + 1) (vs.map (jm_cv ad fmt)) = (i, jm_cv ad fmt v) :: jm_ls ad fmt (jm_args (if v.1 = 1 then i + 2 else i + 1) vs)
    rw [jm_lvargs hf vs, jm_cvc hf]
    by_cases h1 : v.1 = 1
    · rw [if_pos h1, if_pos h1, if_pos rfl]
    · rw [if_neg h1, if_neg h1, if_neg (by decide)]
theorem jm_lgsl (hf : fmt.category = 1) (as : List jm_V) : (lg_sl (as.map (jm_cv ad fmt))).length = jm_cat as := by
  unfold lg_sl jm_cat
  induction as with
  | nil => rfl
  | cons v vs ih =>
    rw [List.map_cons, List.flatMap_cons, List.length_append, ih, List.map_cons, List.sum_cons, jm_cvc hf]
    by_cases h1 : v.1 = 1
    · rw [if_pos h1, if_pos rfl]; rfl
    · rw [if_neg h1, if_neg (by decide)]; rfl
end
