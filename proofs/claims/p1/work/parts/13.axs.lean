/-! what the box machine's states stand for, and that it is sound -/
def ax_v (σ : Nat → Int) (v w : jm_V) : Prop := (v.1 < 19 ∧ w = v) ∨ (19 ≤ v.1 ∧ w.1 = 0 ∧ (v.1 = 19 ∨ w.2 = σ (v.1 - 20)))
def ax_s (σ : Nat → Int) : List jm_V → List jm_V → Prop
  | [], [] => True
  | v :: S, w :: T => ax_v σ v w ∧ ax_s σ S T
  | _, _ => False
def ax_l (σ : Nat → Int) : jm_L → jm_L → Prop
  | [], [] => True
  | q :: L, r :: M => q.1 = r.1 ∧ ax_v σ q.2 r.2 ∧ ax_l σ L M
  | _, _ => False
def ax_z (f g : List Int) : Prop := f.length = g.length ∧ ∀ k : Nat, f[k]? = some ax_U ∨ g[k]? = f[k]?
def ax_c (c e : jm_C) : Prop := (1000 ≤ c.1 ∧ e.2.length + 1000 = c.1) ∨ (c.1 < 1000 ∧ e.1 = c.1 ∧ ax_z c.2 e.2)
def ax_h (h g : jm_H) : Prop := h.2 = g.2 ∧ h.1.length = g.1.length ∧ ∀ (k : Nat) (c : jm_C), h.1[k]? = some c → ∃ e, g.1[k]? = some e ∧ ax_c c e
def ax_r (σ : Nat → Int) (r q : Option jm_V) : Prop := ax_s σ r.toList q.toList
/-- what is known of the symbols and of the script -/
def ax_H (bx : ax_B) (σ : Nat → Int) (sc : List Int) : Prop := (∀ k : Nat, (bx.getD k ax_top).1 ≤ jm_n (σ k) ∧ jm_n (σ k) ≤ (bx.getD k ax_top).2) ∧ sc.length = 6 ∧ (∀ n : Nat, n < 6 → sc.getD n 0 = σ n) ∧ (∀ n : Nat, n < 7 → jm_n (σ n) = σ n) ∧ jm_bin 3 (σ 0) 63 = some (σ 6)
section
variable {σ : Nat → Int} {bx : ax_B} {sc : List Int}
theorem ax_ve {v w : jm_V} (h : ax_v σ v w) (hv : v.1 < 19) : w = v := by
  rcases h with h | h
  · exact h.2
  · omega
theorem ax_vu {v w : jm_V} (h : ax_v σ v w) (hv : 19 ≤ v.1) : w.1 = 0 ∧ (v.1 = 19 ∨ w.2 = σ (v.1 - 20)) := by
  rcases h with h | h
  · omega
  · exact h.2
theorem ax_vx {t : Nat} {z : Int} (h : t < 19) : ax_v σ (t, z) (t, z) := Or.inl ⟨h, rfl⟩
theorem ax_v19 {w : jm_V} (h : w.1 = 0) : ax_v σ (19, 0) w := Or.inr ⟨Nat.le_refl _, h, Or.inl rfl⟩
theorem ax_v0 {v w : jm_V} (h : ax_v σ v w) (hv : v.1 = 0 ∨ 19 ≤ v.1) : w.1 = 0 := by
  rcases hv with hv | hv
  · rw [ax_ve h (by omega)]; exact hv
  · exact (ax_vu h hv).1
theorem ax_vt {v w : jm_V} (h : ax_v σ v w) : w.1 = 1 ↔ v.1 = 1 := by
  rcases h with h | h
  · rw [h.2]
  · omega
theorem ax_vl {v w : jm_V} (h : ax_v σ v w) : w.1 < 19 := by
  rcases h with h | h
  · rw [h.2]; exact h.1
  · omega
theorem ax_sc {v : jm_V} {S T : List jm_V} (h : ax_s σ (v :: S) T) : ∃ w U, T = w :: U ∧ ax_v σ v w ∧ ax_s σ S U := by
  match T, h with
  | w :: U, h => exact ⟨w, U, rfl, h.1, h.2⟩
theorem ax_sn {T : List jm_V} (h : ax_s σ [] T) : T = [] := by
  match T, h with
  | [], _ => rfl
theorem ax_slen : ∀ {S T : List jm_V}, ax_s σ S T → S.length = T.length
  | [], [], _ => rfl
  | _ :: _, _ :: _, h => congrArg (· + 1) (ax_slen h.2)
theorem ax_stake : ∀ (k : Nat) {S T : List jm_V}, ax_s σ S T → ax_s σ (S.take k) (T.take k)
  | 0, _, _, _ => trivial
  | _ + 1, [], [], _ => trivial
  | k + 1, _ :: _, _ :: _, h => ⟨h.1, ax_stake k h.2⟩
theorem ax_sdrop : ∀ (k : Nat) {S T : List jm_V}, ax_s σ S T → ax_s σ (S.drop k) (T.drop k)
  | 0, _, _, h => h
  | _ + 1, [], [], _ => trivial
  | k + 1, _ :: _, _ :: _, h => ax_sdrop k h.2
theorem ax_sapp : ∀ {S T U V : List jm_V}, ax_s σ S T → ax_s σ U V → ax_s σ (S ++ U) (T ++ V)
  | [], [], _, _, _, h => h
  | _ :: _, _ :: _, _, _, h, h2 => ⟨h.1, ax_sapp h.2 h2⟩
theorem ax_srev : ∀ {S T : List jm_V}, ax_s σ S T → ax_s σ S.reverse T.reverse
  | [], [], _ => trivial
  | v :: S, w :: T, h => by
    rw [List.reverse_cons, List.reverse_cons]
    exact ax_sapp (ax_srev h.2) ⟨h.1, trivial⟩
theorem ax_scat : ∀ {S T : List jm_V}, ax_s σ S T → jm_cat S = jm_cat T
  | [], [], _ => rfl
  | v :: S, w :: T, h => by
    have h1 := ax_scat h.2
    have h2 := ax_vt h.1
    unfold jm_cat at h1 ⊢
    rw [List.map_cons, List.map_cons, List.sum_cons, List.sum_cons, h1]
    by_cases hv : v.1 = 1
    · rw [if_pos hv, if_pos (h2.mpr hv)]
    · rw [if_neg hv, if_neg (fun q => hv (h2.mp q))]
theorem ax_sargs : ∀ {S T : List jm_V} (i : Nat), ax_s σ S T → ax_l σ (jm_args i S) (jm_args i T)
  | [], [], _, _ => trivial
  | v :: S, w :: T, i, h => by
    have h2 := ax_vt h.1
    unfold jm_args
    refine ⟨rfl, h.1, ?_⟩
    by_cases hv : v.1 = 1
    · rw [if_pos hv, if_pos (h2.mpr hv)]; exact ax_sargs _ h.2
    · rw [if_neg hv, if_neg (fun q => hv (h2.mp q))]; exact ax_sargs _ h.2
theorem ax_get : ∀ {L M : jm_L} {i : Nat} {v : jm_V}, ax_l σ L M → jm_get L i = some v → ∃ w, jm_get M i = some w ∧ ax_v σ v w
  | [], _, _, _, _, h => by simp [jm_get] at h
  | q :: L, r :: M, i, v, h, hg => by
    obtain ⟨h1, h2, h3⟩ := h
    unfold jm_get at hg ⊢
    rw [List.find?_cons] at hg ⊢
    rw [← h1]
    cases hq : (q.1 == i) with
    | true =>
      rw [hq] at hg
      cases hg
      exact ⟨_, rfl, h2⟩
    | false =>
      rw [hq] at hg
      exact ax_get (L := L) (M := M) h3 hg
theorem ax_fil (P : Nat × jm_V → Bool) (hP : ∀ q r : Nat × jm_V, q.1 = r.1 → ax_v σ q.2 r.2 → P q = P r) : ∀ {L M : jm_L}, ax_l σ L M → ax_l σ (L.filter P) (M.filter P)
  | [], [], _ => trivial
  | q :: L, r :: M, h => by
    have h1 := hP q r h.1 h.2.1
    rw [List.filter_cons, List.filter_cons, ← h1]
    cases hq : P q with
    | true => exact ⟨h.1, h.2.1, ax_fil P hP h.2.2⟩
    | false => exact ax_fil P hP h.2.2
theorem ax_tag1 {q r : Nat × jm_V} (h : ax_v σ q.2 r.2) : (q.2.1 == 1) = (r.2.1 == 1) := by
  have h2 := ax_vt h
  by_cases hv : q.2.1 = 1
  · rw [hv, h2.mpr hv]
  · rw [beq_eq_false_iff_ne.mpr hv, beq_eq_false_iff_ne.mpr (fun x => hv (h2.mp x))]
theorem ax_st1 {L M : jm_L} {i : Nat} {v w : jm_V} (h : ax_l σ L M) (hv : ax_v σ v w) : ax_l σ (jm_st1 L i v) (jm_st1 M i w) :=
  ⟨rfl, hv, ax_fil _ (fun q r h1 h2 => by rw [h1, ax_tag1 h2]) h⟩
theorem ax_drop {L M : jm_L} {i : Nat} (h : ax_l σ L M) : ax_l σ (jm_drop L i) (jm_drop M i) := ax_fil _ (fun q r h1 h2 => by rw [h1, ax_tag1 h2]) h
theorem ax_rng (z : Int) : -2147483648 ≤ jm_n z ∧ jm_n z ≤ 2147483647 := by
  have h1 := Int32.le_toInt (Int32.ofInt z)
  have h2 := Int32.toInt_lt (Int32.ofInt z)
  unfold jm_n
  omega
theorem ax_box_ok {v w : jm_V} (hH : ax_H bx σ sc) (h : ax_v σ v w) (hv : 19 ≤ v.1) : (ax_box bx v.1).1 ≤ jm_n w.2 ∧ jm_n w.2 ≤ (ax_box bx v.1).2 := by
  unfold ax_box
  split
  · exact ax_rng _
  · rename_i h19
    rcases (ax_vu h hv).2 with h2 | h2
    · exact absurd h2 h19
    · rw [h2]; exact hH.1 _
theorem ax_sym_ok {k : Nat} (hH : ax_H bx σ sc) (hk : k < 7) : ax_v σ (ax_sym bx k) (0, σ k) := by
  unfold ax_sym
  split
  · rename_i he
    have h1 := hH.1 k
    have h2 := hH.2.2.2.1 k hk
    refine Or.inl ⟨Nat.lt_of_lt_of_le (Nat.zero_lt_succ 0) (by decide), ?_⟩
    rw [Prod.mk.injEq]
    exact ⟨rfl, by omega⟩
  · exact Or.inr ⟨Nat.le_trans (by decide) (Nat.le_add_right 20 k), rfl, Or.inr (by show σ k = σ (20 + k - 20); rw [Nat.add_sub_cancel_left])⟩
theorem ax_cnd_ok {b : Nat} {q : Int × Int} {x y : Int} {t : Bool} (h : ax_cnd b q (jm_n y) = some t) (h1 : q.1 ≤ jm_n x) (h2 : jm_n x ≤ q.2) : jm_cnd b x y = t := by
  unfold ax_cnd at h
  split at h
  all_goals (repeat' split at h)
  all_goals first
    | (cases h; done)
    | (cases h; simp only [jm_cnd, decide_eq_true_eq, decide_eq_false_iff_not]; omega)
theorem ax_cnd_fl {b : Nat} {q : Int × Int} {x y : Int} {t : Bool} (h : ax_cnd (ax_flip b) q (jm_n x) = some t) (h1 : q.1 ≤ jm_n y) (h2 : jm_n y ≤ q.2) : jm_cnd b x y = t := by
  have h3 := ax_cnd_ok h h1 h2
  rw [← h3]
  match b, h with
  | 0, _ => simp only [ax_flip, jm_cnd]; exact decide_eq_decide.mpr ⟨Eq.symm, Eq.symm⟩
  | 1, _ => simp only [ax_flip, jm_cnd]; exact decide_eq_decide.mpr ⟨fun a b => a b.symm, fun a b => a b.symm⟩
  | 2, _ => rfl
  | 3, _ => rfl
  | 4, _ => rfl
  | 5, _ => rfl
  | b + 6, h => cases h
theorem ax_cmp_ok {b : Nat} {x y x' y' : jm_V} {t : Bool} (hH : ax_H bx σ sc) (h : ax_cmp bx b x y = some t) (hx : ax_v σ x x') (hy : ax_v σ y y') : x'.1 = 0 ∧ y'.1 = 0 ∧ jm_cnd b x'.2 y'.2 = t := by
  unfold ax_cmp at h
  split at h
  · rename_i hc
    cases h
    rw [ax_ve hx (by omega), ax_ve hy (by omega)]
    exact ⟨hc.1, hc.2, rfl⟩
  · split at h
    · rename_i hc
      have hb := ax_box_ok hH hx hc.1
      rw [ax_ve hy (by omega)]
      exact ⟨(ax_vu hx hc.1).1, hc.2, ax_cnd_ok h hb.1 hb.2⟩
    · split at h
      · rename_i hc
        have hb := ax_box_ok hH hy hc.2
        rw [ax_ve hx (by omega)]
        exact ⟨hc.1, (ax_vu hy hc.2).1, ax_cnd_fl h hb.1 hb.2⟩
      · split at h
        · rename_i hc
          obtain ⟨c1, c2, c3⟩ := hc
          cases h
          have hx2 := ax_vu hx (by omega)
          have hy2 := ax_vu hy (by omega)
          have e : x'.2 = y'.2 := by
            rw [hx2.2.resolve_left (by omega), hy2.2.resolve_left (by omega), c1]
          refine ⟨hx2.1, hy2.1, ?_⟩
          rw [e]
          match b, c3 with
          | 0, _ => simp [jm_cnd]
          | 1, _ => simp [jm_cnd]
          | b + 2, c3 => omega
        · cases h
/-! heaps -/
theorem ax_z_set {f g : List Int} {n : Nat} {z : Int} (h : ax_z f g) : ax_z (f.set n z) (g.set n z) := by
  refine ⟨by rw [List.length_set, List.length_set, h.1], fun k => ?_⟩
  rw [List.getElem?_set, List.getElem?_set, h.1]
  by_cases hk : n = k
  · right; rw [if_pos hk, if_pos hk]
  · rw [if_neg hk, if_neg hk]; exact h.2 k
theorem ax_z_setU {f g : List Int} {n : Nat} {z : Int} (h : ax_z f g) : ax_z (f.set n ax_U) (g.set n z) := by
  refine ⟨by rw [List.length_set, List.length_set, h.1], fun k => ?_⟩
  rw [List.getElem?_set, List.getElem?_set, h.1]
  by_cases hk : n = k
  · rw [if_pos hk, if_pos hk]
    by_cases hl : k < g.length
    · rw [hk, if_pos hl]; exact Or.inl rfl
    · rw [hk, if_neg hl]
      rw [if_neg hl]
      exact Or.inr rfl
  · rw [if_neg hk, if_neg hk]; exact h.2 k
theorem ax_z_take {f g : List Int} (n : Nat) (h : ax_z f g) : ax_z (f.take n) (g.take n) := by
  refine ⟨by rw [List.length_take, List.length_take, h.1], fun k => ?_⟩
  rw [List.getElem?_take, List.getElem?_take]
  by_cases hk : k < n
  · rw [if_pos hk, if_pos hk]; exact h.2 k
  · rw [if_neg hk, if_neg hk]; exact Or.inr rfl
theorem ax_z_drop {f g : List Int} (n : Nat) (h : ax_z f g) : ax_z (f.drop n) (g.drop n) := by
  refine ⟨by rw [List.length_drop, List.length_drop, h.1], fun k => ?_⟩
  rw [List.getElem?_drop, List.getElem?_drop]
  exact h.2 _
theorem ax_z_app {f g f' g' : List Int} (h : ax_z f g) (h2 : ax_z f' g') : ax_z (f ++ f') (g ++ g') := by
  refine ⟨by rw [List.length_append, List.length_append, h.1, h2.1], fun k => ?_⟩
  rw [List.getElem?_append, List.getElem?_append, h.1]
  by_cases hk : k < g.length
  · rw [if_pos hk, if_pos hk]; exact h.2 k
  · rw [if_neg hk, if_neg hk]; exact h2.2 _
theorem ax_z_cpy {f g f' g' : List Int} {sp dp n : Nat} (h : ax_z f f') (h2 : ax_z g g') : ax_z (jm_cpy f g sp dp n) (jm_cpy f' g' sp dp n) :=
  ax_z_app (ax_z_take _ h2) (ax_z_app (ax_z_take _ (ax_z_drop _ h)) (ax_z_drop _ h2))
theorem ax_c_k {c e : jm_C} (h : ax_c c e) (hc : c.1 < 1000) : e.1 = c.1 ∧ ax_z c.2 e.2 := by
  rcases h with h | h
  · omega
  · exact h.2
theorem ax_cell {h g : jm_H} {a : Int} {c : jm_C} (hh : ax_h h g) (hc : jm_cell h a = some c) : ∃ e, jm_cell g a = some e ∧ ax_c c e := by
  unfold jm_cell at hc ⊢
  split at hc
  · cases hc
  · rename_i ha
    rw [if_neg ha]
    exact hh.2.2 _ _ hc
theorem ax_h_set {h g : jm_H} {a : Nat} {c e : jm_C} (hh : ax_h h g) (hc : ax_c c e) : ax_h (h.1.set a c, h.2) (g.1.set a e, g.2) := by
  refine ⟨hh.1, by rw [List.length_set, List.length_set]; exact hh.2.1, fun k c' hk => ?_⟩
  rw [List.getElem?_set] at hk ⊢
  rw [← hh.2.1]
  by_cases hak : a = k
  · rw [if_pos hak] at hk ⊢
    split at hk
    · rename_i hl
      rw [if_pos hl]
      cases hk
      exact ⟨e, rfl, hc⟩
    · cases hk
  · rw [if_neg hak] at hk ⊢
    exact hh.2.2 k c' hk
theorem ax_h_thr {h g : jm_H} (hh : ax_h h g) : ax_h (h.1, h.2 + 1) (g.1, g.2 + 1) := ⟨congrArg (· + 1) hh.1, hh.2⟩
theorem ax_rcv {a : Int} {S T : List jm_V} {h g : jm_H} (hS : ax_s σ S T) (hh : ax_h h g) (ha : a < 1000) (hr : jm_rcv a S h = true) : jm_rcv a T g = true := by
  match S, T, hS with
  | [], [], _ => exact hr
  | o :: S', o' :: T', hS =>
    have hr2 : (if a = -1 then true else if a = -2 ∨ a = -3 then decide (o.1 = 2 ∧ 0 ≤ o.2) else if a = 5 then decide (o.1 = 4 ∧ 10 ≤ o.2 ∧ o.2 < 10 + 2 * g_str.length ∧ o.2 % 2 = 0) else match o.1, jm_cell h o.2 with
        | 2, some c => decide ((c.1 : Int) = a)
        | _, _ => false) = true := hr
    show (if a = -1 then true else if a = -2 ∨ a = -3 then decide (o'.1 = 2 ∧ 0 ≤ o'.2) else if a = 5 then decide (o'.1 = 4 ∧ 10 ≤ o'.2 ∧ o'.2 < 10 + 2 * g_str.length ∧ o'.2 % 2 = 0) else match o'.1, jm_cell g o'.2 with
        | 2, some c => decide ((c.1 : Int) = a)
        | _, _ => false) = true
    by_cases h1 : a = -1
    · rw [if_pos h1]
    · rw [if_neg h1] at hr2 ⊢
      by_cases h2 : a = -2 ∨ a = -3
      · rw [if_pos h2] at hr2 ⊢
        have := of_decide_eq_true hr2
        rw [ax_ve hS.1 (by omega)]
        exact hr2
      · rw [if_neg h2] at hr2 ⊢
        by_cases h3 : a = 5
        · rw [if_pos h3] at hr2 ⊢
          have := of_decide_eq_true hr2
          rw [ax_ve hS.1 (by omega)]
          exact hr2
        · rw [if_neg h3] at hr2 ⊢
          split at hr2
          · rename_i c ho hc
            rw [ax_ve hS.1 (by omega)]
            obtain ⟨e, he, hce⟩ := ax_cell hh hc
            have hk := of_decide_eq_true hr2
            rw [ho, he]
            show decide ((e.1 : Int) = a) = true
            rw [(ax_c_k hce (by omega)).1]
            exact hr2
          · cases hr2
end
