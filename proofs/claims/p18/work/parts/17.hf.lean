/-! THE HEAP AS A FUNCTION: behind the constructors the heap's shape and the references in it stay: φ a k is what lies in cell a at place k (references apart: g_rf) -/
noncomputable def jm_cq (m pc op : Nat) (a : Int) (b e : Nat) : Bool := decide (g_code m pc = some (op, a, b, e))
theorem jm_cqe {m pc op : Nat} {a : Int} {b e : Nat} (h : jm_cq m pc op a b e = true) : g_code m pc = some (op, a, b, e) := of_decide_eq_true h
theorem jm_cqm {m pc op : Nat} {a : Int} {b e : Nat} (h : g_code m pc = some (op, a, b, e)) : jm_cq m pc op a b e = true := decide_eq_true h
abbrev hf_F : Type := Nat → Nat → Int
noncomputable def hf_k (a : Nat) : Nat := (jm_n2 g_klc a (0, 0)).1
theorem hf_k_e (a : Nat) : hf_k a = (g_kl.getD a (0, 0)).1 := by
  unfold hf_k
  rw [jm_n2_e _ _ _ (by decide +kernel)]
  rfl
noncomputable def hf_n (a : Nat) : Nat := (jm_n2 g_klc a (0, 0)).2
theorem hf_n_e (a : Nat) : hf_n a = (g_kl.getD a (0, 0)).2 := by
  unfold hf_n
  rw [jm_n2_e _ _ _ (by decide +kernel)]
  rfl
noncomputable def hf_r (a k : Nat) : Option Int := ((jm_n2 g_rfc a []).find? (fun q => q.1 == k)).map (fun q => q.2)
noncomputable def hf_c (φ : hf_F) (a : Nat) : Nat → Int := fun k => (hf_r a k).getD (φ a k)
noncomputable def hf_l (φ : hf_F) (a : Nat) : List Int := (List.range (hf_n a)).map (hf_c φ a)
noncomputable def hf_h (φ : hf_F) (x : Nat) : jm_H := ((List.range 209).map (fun a => (hf_k a, hf_l φ a)), x)
noncomputable def hf_up (φ : hf_F) (a k : Nat) (v : Int) : hf_F := fun b j => if b = a ∧ j = k then v else φ b j
section
variable {φ : hf_F} {x : Nat} {a k : Nat} {v z : Int}
theorem hf_up_eq : hf_up φ a k v a k = v := if_pos ⟨rfl, rfl⟩
theorem hf_up_ne {b j : Nat} (h : ¬ (b = a ∧ j = k)) : hf_up φ a k v b j = φ b j := if_neg h
theorem hf_len : (hf_l φ a).length = hf_n a := by unfold hf_l; rw [List.length_map, List.length_range]
theorem hf_at (hk : k < hf_n a) : (hf_l φ a)[k]? = some (hf_c φ a k) := by
  unfold hf_l
  rw [List.getElem?_map, List.getElem?_range hk]
  rfl
theorem hf_getD (hk : k < hf_n a) : (hf_l φ a).getD k 0 = hf_c φ a k := by
  rw [List.getD_eq_getElem?_getD, hf_at hk]
  rfl
theorem hf_cellN (ha : a < 209) : (hf_h φ x).1[a]? = some (hf_k a, hf_l φ a) := by
  show ((List.range 209).map (fun a => (hf_k a, hf_l φ a)))[a]? = _
  rw [List.getElem?_map, List.getElem?_range ha]
  rfl
theorem hf_cell (ha : a < 209) : jm_cell (hf_h φ x) (a : Int) = some (hf_k a, hf_l φ a) := by
  unfold jm_cell
  rw [if_neg (by omega), show ((a : Int)).toNat = a from rfl]
  exact hf_cellN ha
theorem hf_set (hk : hf_r a k = none) : (hf_l φ a).set k v = hf_l (hf_up φ a k v) a := by
  apply List.ext_getElem?
  intro j
  unfold hf_l
  rw [List.getElem?_set, List.getElem?_map, List.getElem?_map, List.length_map, List.length_range]
  by_cases hj : k = j
  · subst hj
    rw [if_pos rfl]
    by_cases hl : k < hf_n a
    · rw [if_pos hl, List.getElem?_range hl]
      show some v = some (hf_c (hf_up φ a k v) a k)
      unfold hf_c
      rw [hk]
      show some v = some (hf_up φ a k v a k)
      rw [hf_up_eq]
    · rw [if_neg hl, List.getElem?_eq_none (by rw [List.length_range]; omega)]
      rfl
  · rw [if_neg hj]
    cases hr : (List.range (hf_n a))[j]? with
    | none => rfl
    | some i =>
      have hi : i = j := by
        obtain ⟨h1, h2⟩ := List.getElem?_eq_some_iff.mp hr
        rw [List.getElem_range] at h2
        exact h2.symm
      subst hi
      show some (hf_c φ a i) = some (hf_c (hf_up φ a k v) a i)
      unfold hf_c
      rw [hf_up_ne (fun q => hj q.2.symm)]
theorem hf_hset {l : List Int} {ψ : hf_F} (hl : l = hf_l ψ a) (ho : ∀ b, ¬ b = a → hf_l φ b = hf_l ψ b) : ((hf_h φ x).1.set a (hf_k a, l), (hf_h φ x).2) = hf_h ψ x := by
  unfold hf_h
  rw [Prod.mk.injEq]
  refine ⟨?_, rfl⟩
  apply List.ext_getElem?
  intro j
  dsimp only
  rw [List.getElem?_set, List.getElem?_map, List.getElem?_map, List.length_map, List.length_range]
  by_cases hj : a = j
  · subst hj
    rw [if_pos rfl]
    by_cases ha : a < 209
    · rw [if_pos ha, List.getElem?_range ha, hl]
      rfl
    · rw [if_neg ha, List.getElem?_eq_none (by rw [List.length_range]; omega)]
      rfl
  · rw [if_neg hj]
    cases hr : (List.range 209)[j]? with
    | none => rfl
    | some i =>
      have hi : i = j := by
        obtain ⟨h1, h2⟩ := List.getElem?_eq_some_iff.mp hr
        rw [List.getElem_range] at h2
        exact h2.symm
      subst hi
      show some (hf_k i, hf_l φ i) = some (hf_k i, hf_l ψ i)
      rw [ho i (fun q => hj q.symm)]
theorem hf_lup {b : Nat} (h : ¬ b = a) : hf_l φ b = hf_l (hf_up φ a k v) b := by
  unfold hf_l
  congr 1
  funext j
  unfold hf_c
  rw [hf_up_ne (fun q => h q.1)]
theorem hf_put (hk : hf_r a k = none) : ((hf_h φ x).1.set a (hf_k a, (hf_l φ a).set k v), (hf_h φ x).2) = hf_h (hf_up φ a k v) x := hf_hset (hf_set hk) (fun _ h => hf_lup h)
end
/-- the run's weakest precondition -/
noncomputable def hw (sc : List Int) (d m pc : Nat) (L : jm_L) (S : List jm_V) (φ : hf_F) (x : Nat) (Q : Option jm_V → hf_F → Nat → Prop) : Prop := ∃ (r : Option jm_V) (ψ : hf_F) (y : Nat), jm_R sc d m pc L S (hf_h φ x) r (hf_h ψ y) ∧ Q r ψ y
noncomputable def hi (z : Int) : Prop := -2147483648 ≤ z ∧ z ≤ 2147483647
theorem hi_n {z : Int} (h : hi z) : jm_n z = z := by
  unfold jm_n
  unfold hi at h
  rw [Int32.toInt_ofInt]
  exact Int.bmod_eq_of_le (by show -(4294967296 / 2) ≤ z; omega) (by show z < (4294967296 + 1) / 2; omega)
section
variable {sc : List Int} {d m pc : Nat} {L L' : jm_L} {S : List jm_V} {φ : hf_F} {x : Nat} {Q : Option jm_V → hf_F → Nat → Prop}
theorem hw_stp {op : Nat} {a0 : Int} {b e : Nat} {pc' : Nat} {S' : List jm_V} {ψ : hf_F} (hc : jm_cq m pc op a0 b e = true) (h40 : ¬ op = 40) (h30 : ¬ (op = 30 ∨ op = 31 ∨ op = 32)) (hs : jm_stp sc (op, a0, b, e) pc L S (hf_h φ x) = some (pc', L', S', hf_h ψ x)) (h : hw sc d m pc' L' S' ψ x Q) : hw sc d m pc L S φ x Q := by
  obtain ⟨r, ψ', y, h1, h2⟩ := h
  exact ⟨r, ψ', y, jm_R_stp (jm_cqe hc) h40 h30 hs h1, h2⟩
theorem hw_mono {Q' : Option jm_V → hf_F → Nat → Prop} (h : hw sc d m pc L S φ x Q) (hq : ∀ r ψ y, Q r ψ y → Q' r ψ y) : hw sc d m pc L S φ x Q' := by
  obtain ⟨r, ψ, y, h1, h2⟩ := h
  exact ⟨r, ψ, y, h1, hq _ _ _ h2⟩
theorem hw_k {c : Int} {b e : Nat} (hc : jm_cq m pc 0 c b e = true) (h : hw sc d m (pc + e) L ((0, c) :: S) φ x Q) : hw sc d m pc L S φ x Q := hw_stp hc (by decide) (by decide) rfl h
theorem hw_lk {c : Int} {b e : Nat} (hc : jm_cq m pc 1 c b e = true) (h : hw sc d m (pc + e) L ((1, c) :: S) φ x Q) : hw sc d m pc L S φ x Q := hw_stp hc (by decide) (by decide) rfl h
theorem hw_ld {b e : Nat} {z : Int} (hc : jm_cq m pc 2 0 b e = true) (hv : jm_get L b = some (0, z)) (h : hw sc d m (pc + 1 + e) L ((0, z) :: S) φ x Q) : hw sc d m pc L S φ x Q := by
  refine hw_stp hc (by decide) (by decide) ?_ h
  show jm_load (2, 0, b, e) pc L S (hf_h φ x) = _
  unfold jm_load
  dsimp only
  rw [hv]
  rfl
theorem hw_lld {b e : Nat} {z : Int} (hc : jm_cq m pc 2 1 b e = true) (hv : jm_get L b = some (1, z)) (h : hw sc d m (pc + 1 + e) L ((1, z) :: S) φ x Q) : hw sc d m pc L S φ x Q := by
  refine hw_stp hc (by decide) (by decide) ?_ h
  show jm_load (2, 1, b, e) pc L S (hf_h φ x) = _
  unfold jm_load
  dsimp only
  rw [hv]
  rfl
theorem hw_ald {b e : Nat} {z : Int} (hc : jm_cq m pc 2 2 b e = true) (hv : jm_get L b = some (2, z)) (hz : 0 ≤ z) (h : hw sc d m (pc + 1 + e) L ((2, z) :: S) φ x Q) : hw sc d m pc L S φ x Q := by
  refine hw_stp hc (by decide) (by decide) ?_ h
  show jm_load (2, 2, b, e) pc L S (hf_h φ x) = _
  unfold jm_load
  dsimp only
  rw [hv]
  dsimp only
  rw [if_pos (Or.inr (Or.inr ⟨rfl, Or.inl ⟨rfl, hz⟩⟩))]
theorem hw_st {b e : Nat} {z : Int} (hc : jm_cq m pc 3 0 b e = true) (hL : jm_st1 L b (0, z) = L') (h : hw sc d m (pc + 1 + e) L' S φ x Q) : hw sc d m pc L ((0, z) :: S) φ x Q := by
  refine hw_stp hc (by decide) (by decide) ?_ h
  rw [← hL]
  rfl
theorem hw_ast {b e : Nat} {z : Int} (hc : jm_cq m pc 3 2 b e = true) (hL : jm_st1 L b (2, z) = L') (hz : 0 ≤ z) (h : hw sc d m (pc + 1 + e) L' S φ x Q) : hw sc d m pc L ((2, z) :: S) φ x Q := by
  refine hw_stp hc (by decide) (by decide) ?_ h
  show jm_store (3, 2, b, e) pc L ((2, z) :: S) (hf_h φ x) = _
  unfold jm_store
  dsimp only
  rw [if_neg (by decide), if_neg (by decide), if_pos ⟨rfl, rfl, hz⟩, hL]
theorem hw_lst {b e : Nat} {z : Int} (hc : jm_cq m pc 3 1 b e = true) (hL : jm_st2 L b (1, z) = L') (h : hw sc d m (pc + 1 + e) L' S φ x Q) : hw sc d m pc L ((1, z) :: S) φ x Q := by
  refine hw_stp hc (by decide) (by decide) ?_ h
  rw [← hL]
  rfl
theorem hw_inc {b e : Nat} {c z : Int} (hc : jm_cq m pc 4 c b e = true) (hv : jm_get L b = some (0, z)) (hL : jm_st1 L b (0, z + c) = L') (h : hw sc d m (pc + 3) L' S φ x Q) : hw sc d m pc L S φ x Q := by
  refine hw_stp hc (by decide) (by decide) ?_ h
  show jm_inc (4, c, b, e) pc L S (hf_h φ x) = _
  unfold jm_inc
  dsimp only
  rw [hv]
  dsimp only
  rw [if_pos rfl, hL]
theorem hw_bin {a0 : Int} {b e : Nat} {y z w : Int} (hc : jm_cq m pc 5 a0 b e = true) (hw0 : jm_bin b z y = some w) (h : hw sc d m (pc + 1) L ((0, w) :: S) φ x Q) : hw sc d m pc L ((0, y) :: (0, z) :: S) φ x Q := by
  refine hw_stp hc (by decide) (by decide) ?_ h
  show (if (0 : Nat) = 0 ∧ (0 : Nat) = 0 then (jm_bin b z y).map (fun z => (pc + 1, L, (0, z) :: S, hf_h φ x)) else none) = _
  rw [if_pos ⟨rfl, rfl⟩, hw0]
  rfl
theorem hw_lbin {a0 : Int} {b e : Nat} {y z w : Int} (hc : jm_cq m pc 6 a0 b e = true) (hw0 : jm_lbin b z y = some w) (h : hw sc d m (pc + 1) L ((1, w) :: S) φ x Q) : hw sc d m pc L ((1, y) :: (1, z) :: S) φ x Q := by
  refine hw_stp hc (by decide) (by decide) ?_ h
  show jm_larith (6, a0, b, e) pc L ((1, y) :: (1, z) :: S) (hf_h φ x) = _
  unfold jm_larith
  dsimp only
  rw [if_pos ⟨rfl, rfl⟩, hw0]
  rfl
theorem hw_lsh {a0 : Int} {b e : Nat} {y z w : Int} (hc : jm_cq m pc 6 a0 b e = true) (hw0 : jm_lsh b z y = some w) (h : hw sc d m (pc + 1) L ((1, w) :: S) φ x Q) : hw sc d m pc L ((0, y) :: (1, z) :: S) φ x Q := by
  refine hw_stp hc (by decide) (by decide) ?_ h
  show jm_larith (6, a0, b, e) pc L ((0, y) :: (1, z) :: S) (hf_h φ x) = _
  unfold jm_larith
  dsimp only
  rw [if_neg (fun q => absurd q.2 (by decide)), if_pos ⟨rfl, rfl⟩, hw0]
  rfl
theorem hw_conv {a0 : Int} {b e t t' : Nat} {z w : Int} (hc : jm_cq m pc 7 a0 b e = true) (hs : jm_conv (7, a0, b, e) pc L ((t, z) :: S) (hf_h φ x) = some (pc + 1, L, (t', w) :: S, hf_h φ x)) (h : hw sc d m (pc + 1) L ((t', w) :: S) φ x Q) : hw sc d m pc L ((t, z) :: S) φ x Q := hw_stp hc (by decide) (by decide) hs h
theorem hw_dup {a0 : Int} {e t : Nat} {z : Int} (hc : jm_cq m pc 8 a0 0 e = true) (ht : ¬ t = 1) (h : hw sc d m (pc + 1) L ((t, z) :: (t, z) :: S) φ x Q) : hw sc d m pc L ((t, z) :: S) φ x Q := by
  refine hw_stp hc (by decide) (by decide) ?_ h
  show (if t = 1 then none else if (0 : Nat) = 0 then _ else _) = _
  rw [if_neg ht, if_pos rfl]
theorem hw_pop {a0 : Int} {e t : Nat} {z : Int} (hc : jm_cq m pc 8 a0 1 e = true) (ht : ¬ t = 1) (h : hw sc d m (pc + 1) L S φ x Q) : hw sc d m pc L ((t, z) :: S) φ x Q := by
  refine hw_stp hc (by decide) (by decide) ?_ h
  show (if t = 1 then none else if (1 : Nat) = 0 then _ else if (1 : Nat) = 1 then _ else _) = _
  rw [if_neg ht, if_neg (by decide), if_pos rfl]
theorem hw_dup2 {a0 : Int} {e t u : Nat} {z w : Int} (hc : jm_cq m pc 8 a0 2 e = true) (ht : ¬ t = 1) (hu : ¬ u = 1) (h : hw sc d m (pc + 1) L ((t, z) :: (u, w) :: (t, z) :: (u, w) :: S) φ x Q) : hw sc d m pc L ((t, z) :: (u, w) :: S) φ x Q := by
  refine hw_stp hc (by decide) (by decide) ?_ h
  show (if t = 1 then none else if (2 : Nat) = 0 then _ else if (2 : Nat) = 1 then _ else if u = 1 then none else _) = _
  rw [if_neg ht, if_neg (by decide), if_neg (by decide), if_neg hu]
/-- what a compare asks -/
noncomputable def hcnd (b : Nat) (z w : Int) : Prop := match b with
  | 0 => z = w
  | 1 => ¬ z = w
  | 2 => z < w
  | 3 => w ≤ z
  | 4 => w < z
  | _ => z ≤ w
theorem hcnd_t {b : Nat} {z w : Int} (hz : hi z) (hw0 : hi w) : (jm_cnd b z w = true ↔ hcnd b z w) := by
  have e1 := hi_n hz
  have e2 := hi_n hw0
  match b with
  | 0 => show decide (jm_n z = jm_n w) = true ↔ z = w; rw [e1, e2, decide_eq_true_iff]
  | 1 => show decide (¬ jm_n z = jm_n w) = true ↔ ¬ z = w; rw [e1, e2, decide_eq_true_iff]
  | 2 => show decide (jm_n z < jm_n w) = true ↔ z < w; rw [e1, e2, decide_eq_true_iff]
  | 3 => show decide (jm_n w ≤ jm_n z) = true ↔ w ≤ z; rw [e1, e2, decide_eq_true_iff]
  | 4 => show decide (jm_n w < jm_n z) = true ↔ w < z; rw [e1, e2, decide_eq_true_iff]
  | b + 5 => show decide (jm_n z ≤ jm_n w) = true ↔ z ≤ w; rw [e1, e2, decide_eq_true_iff]
theorem hw_if {a0 : Int} {b e : Nat} {z : Int} (hc : jm_cq m pc 9 a0 b e = true) (hz : hi z) (h1 : hcnd b z 0 → hw sc d m e L S φ x Q) (h2 : ¬ hcnd b z 0 → hw sc d m (pc + 3) L S φ x Q) : hw sc d m pc L ((0, z) :: S) φ x Q := by
  have ht := hcnd_t (b := b) hz (show hi 0 by unfold hi; omega)
  cases hb : jm_cnd b z 0 with
  | true =>
    refine hw_stp (pc' := e) hc (by decide) (by decide) ?_ (h1 (ht.mp hb))
    show (if (0 : Nat) = 0 then some (if jm_cnd b z 0 then e else pc + 3, L, S, hf_h φ x) else none) = _
    rw [if_pos rfl, hb]
    rfl
  | false =>
    refine hw_stp (pc' := pc + 3) hc (by decide) (by decide) ?_ (h2 (fun q => by rw [ht.mpr q] at hb; cases hb))
    show (if (0 : Nat) = 0 then some (if jm_cnd b z 0 then e else pc + 3, L, S, hf_h φ x) else none) = _
    rw [if_pos rfl, hb]
    rfl
theorem hw_if2 {a0 : Int} {b e : Nat} {y z : Int} (hc : jm_cq m pc 10 a0 b e = true) (hz : hi z) (hy : hi y) (h1 : hcnd b z y → hw sc d m e L S φ x Q) (h2 : ¬ hcnd b z y → hw sc d m (pc + 3) L S φ x Q) : hw sc d m pc L ((0, y) :: (0, z) :: S) φ x Q := by
  have ht := hcnd_t (b := b) hz hy
  cases hb : jm_cnd b z y with
  | true =>
    refine hw_stp (pc' := e) hc (by decide) (by decide) ?_ (h1 (ht.mp hb))
    show (if (0 : Nat) = 0 ∧ (0 : Nat) = 0 then some (if jm_cnd b z y then e else pc + 3, L, S, hf_h φ x) else none) = _
    rw [if_pos ⟨rfl, rfl⟩, hb]
    rfl
  | false =>
    refine hw_stp (pc' := pc + 3) hc (by decide) (by decide) ?_ (h2 (fun q => by rw [ht.mpr q] at hb; cases hb))
    show (if (0 : Nat) = 0 ∧ (0 : Nat) = 0 then some (if jm_cnd b z y then e else pc + 3, L, S, hf_h φ x) else none) = _
    rw [if_pos ⟨rfl, rfl⟩, hb]
    rfl
theorem hw_goto {a0 : Int} {b e : Nat} (hc : jm_cq m pc 11 a0 b e = true) (h : hw sc d m e L S φ x Q) : hw sc d m pc L S φ x Q := hw_stp hc (by decide) (by decide) rfl h
/-- a field: what it holds (w: by hf_c) -/
theorem hw_getf {t : Int} {b e : Nat} {z w : Int} {u : Nat} (a : Nat) (hc : jm_cq m pc 13 t b e = true) (hz : z = (a : Int)) (ha : a < 209) (hk : hf_k a = 10 + b) (hn : e < hf_n a) (hu : (if t = 3 then 0 else t.toNat) = u) (hw0 : hf_c φ a e = w) (h : hw sc d m (pc + 3) L ((u, w) :: S) φ x Q) : hw sc d m pc L ((2, z) :: S) φ x Q := by
  refine hw_stp hc (by decide) (by decide) ?_ h
  subst hz
  show jm_getf (13, t, b, e) pc L ((2, (a : Int)) :: S) (hf_h φ x) = _
  unfold jm_getf
  dsimp only
  rw [if_pos rfl, hf_cell ha]
  dsimp only
  rw [if_pos hk, hf_at hn, hw0, hu]
theorem hw_putf {t : Int} {b e : Nat} {z w : Int} {u : Nat} (a : Nat) (hc : jm_cq m pc 14 t b e = true) (hz : z = (a : Int)) (ha : a < 209) (hk : hf_k a = 10 + b) (hn : e < hf_n a) (hr : hf_r a e = none) (hf : jm_fok t (u, w) = true) (h : hw sc d m (pc + 3) L S (hf_up φ a e w) x Q) : hw sc d m pc L ((u, w) :: (2, z) :: S) φ x Q := by
  refine hw_stp hc (by decide) (by decide) ?_ h
  subst hz
  show jm_putf (14, t, b, e) pc L ((u, w) :: (2, (a : Int)) :: S) (hf_h φ x) = _
  unfold jm_putf
  dsimp only
  rw [if_pos ⟨rfl, hf⟩, hf_cell ha]
  dsimp only
  rw [if_pos ⟨hk, by rw [hf_len]; exact hn⟩]
  show some (pc + 3, L, S, ((hf_h φ x).1.set ((a : Int)).toNat (hf_k a, (hf_l φ a).set e w), (hf_h φ x).2)) = _
  rw [show ((a : Int)).toNat = a from rfl, hf_put hr]
theorem hf_ix {j : Int} {n : Nat} (h0 : 0 ≤ j) (h1 : j < n) (hn : n ≤ 100000) : jm_ix j n = some j.toNat := by
  unfold jm_ix
  rw [hi_n (show hi j by unfold hi; omega), if_pos ⟨h0, by omega⟩]
/-- a row's element (u: 0 int, byte, boolean; 1 long; 2 State) -/
theorem hw_iald {a0 : Int} {b e : Nat} {z j w : Int} {u : Nat} (a : Nat) (hc : jm_cq m pc 15 a0 b e = true) (hz : z = (a : Int)) (ha : a < 209) (hk : (b = 0 ∧ hf_k a = 0) ∨ (b = 1 ∧ (hf_k a = 1 ∨ hf_k a = 3)) ∨ (b = 2 ∧ hf_k a = 2) ∨ (b = 3 ∧ hf_k a = 4)) (hn : hf_n a ≤ 100000) (hu : (if b = 2 then 1 else if b = 3 then 2 else 0) = u) (h0 : 0 ≤ j) (h1 : j < hf_n a) (hw0 : hf_c φ a j.toNat = w) (h : hw sc d m (pc + 1) L ((u, w) :: S) φ x Q) : hw sc d m pc L ((0, j) :: (2, z) :: S) φ x Q := by
  refine hw_stp hc (by decide) (by decide) ?_ h
  subst hz
  show jm_ald (15, a0, b, e) pc L ((0, j) :: (2, (a : Int)) :: S) (hf_h φ x) = _
  unfold jm_ald
  dsimp only
  rw [if_pos ⟨rfl, rfl⟩, hf_cell ha]
  dsimp only
  rw [if_pos hk, hf_len, hf_ix h0 h1 hn]
  show some (pc + 1, L, (_, (hf_l φ a).getD j.toNat 0) :: S, hf_h φ x) = _
  rw [hf_getD (by omega), hw0, hu]
theorem hw_iast {a0 : Int} {b e : Nat} {z j w v : Int} {u : Nat} (a : Nat) (hc : jm_cq m pc 16 a0 b e = true) (hz : z = (a : Int)) (ha : a < 209) (hk : (b = 0 ∧ hf_k a = 0 ∧ u = 0 ∧ v = w) ∨ (b = 1 ∧ hf_k a = 1 ∧ u = 0 ∧ v = jm_b w) ∨ (b = 1 ∧ hf_k a = 3 ∧ u = 0 ∧ v = jm_z w) ∨ (b = 2 ∧ hf_k a = 2 ∧ u = 1 ∧ v = w)) (hn : hf_n a ≤ 100000) (h0 : 0 ≤ j) (h1 : j < hf_n a) (hr : hf_r a j.toNat = none) (h : hw sc d m (pc + 1) L S (hf_up φ a j.toNat v) x Q) : hw sc d m pc L ((u, w) :: (0, j) :: (2, z) :: S) φ x Q := by
  refine hw_stp hc (by decide) (by decide) ?_ h
  subst hz
  show jm_ast (16, a0, b, e) pc L ((u, w) :: (0, j) :: (2, (a : Int)) :: S) (hf_h φ x) = _
  unfold jm_ast
  dsimp only
  rw [if_pos ⟨rfl, rfl⟩, hf_cell ha]
  dsimp only
  rw [hf_len, hf_ix h0 h1 hn]
  dsimp only
  rcases hk with ⟨k1, k2, k3, k4⟩ | ⟨k1, k2, k3, k4⟩ | ⟨k1, k2, k3, k4⟩ | ⟨k1, k2, k3, k4⟩
  · rw [if_pos ⟨k1, k2, k3⟩, k4, show ((a : Int)).toNat = a from rfl, hf_put hr]
  · rw [if_neg (by omega), if_pos ⟨k1, k2, k3⟩, k4, show ((a : Int)).toNat = a from rfl, hf_put hr]
  · rw [if_neg (by omega), if_neg (by omega), if_pos ⟨k1, k2, k3⟩, k4, show ((a : Int)).toNat = a from rfl, hf_put hr]
  · rw [if_neg (by omega), if_neg (by omega), if_neg (by omega), if_pos ⟨k1, k2, k3⟩, k4, show ((a : Int)).toNat = a from rfl, hf_put hr]
theorem hw_alen {a0 : Int} {b e : Nat} {z w : Int} (a : Nat) (hc : jm_cq m pc 25 a0 b e = true) (hz : z = (a : Int)) (ha : a < 209) (hk : hf_k a < 5) (hw0 : (hf_n a : Int) = w) (h : hw sc d m (pc + 1) L ((0, w) :: S) φ x Q) : hw sc d m pc L ((2, z) :: S) φ x Q := by
  refine hw_stp hc (by decide) (by decide) ?_ h
  subst hz
  show jm_alen pc L ((2, (a : Int)) :: S) (hf_h φ x) = _
  unfold jm_alen
  dsimp only
  rw [if_pos rfl, hf_cell ha]
  dsimp only
  rw [if_pos hk, hf_len, hw0]
theorem hw_call {a0 : Int} {b e : Nat} (hc : jm_cq m pc 30 a0 b e = true) (hcc : e ≤ S.length ∧ jm_cat (S.drop e) ≤ 8 ∧ jm_cat (S.take e) ≤ (g_m b).2.2.1 ∧ jm_rcv a0 (S.take e).reverse (hf_h φ x) = true)
    (h : hw sc d b 0 (jm_args 0 (S.take e).reverse) [] φ x (fun r ψ y => ¬ r = some (9, 0) ∧ hw sc (d + 1) m (pc + 3) L (r.toList ++ S.drop e) ψ y Q)) : hw sc (d + 1) m pc L S φ x Q := by
  obtain ⟨r, ψ, y, h1, h2, r2, ψ2, y2, h3, h4⟩ := h
  refine ⟨r2, ψ2, y2, jm_R_call (jm_cqe hc) (Or.inl rfl) ⟨hcc.1, hcc.2.1, hcc.2.2.1, ?_⟩ h1 h2 h3, h4⟩
  rw [if_neg (show ¬ (30 : Nat) = 31 by decide)]
  exact hcc.2.2.2
theorem hw_ret {a0 : Int} {e : Nat} {z : Int} (hc : jm_cq m pc 40 a0 0 e = true) (he : (e = 0) ∨ (e = 1 ∧ (z = 0 ∨ z = 1))) (h : Q (some (0, z)) φ x) : hw sc d m pc L [(0, z)] φ x Q := by
  refine ⟨_, φ, x, jm_R_ret (jm_cqe hc) rfl ?_, h⟩
  show (if (0 : Nat) = 0 ∧ ((e = 0) ∨ (e = 1 ∧ (jm_n z = 0 ∨ jm_n z = 1)) ∨ (e = 2 ∧ 0 ≤ jm_n z ∧ jm_n z < 65536) ∨ (e = 3 ∧ jm_n z = 0)) then some (some (0, z), hf_h φ x) else none) = _
  rw [if_pos]
  refine ⟨rfl, ?_⟩
  rcases he with he | ⟨he, hz⟩
  · exact Or.inl he
  · refine Or.inr (Or.inl ⟨he, ?_⟩)
    rcases hz with rfl | rfl
    · exact Or.inl (by decide)
    · exact Or.inr (by decide)
theorem hw_lret {a0 : Int} {e : Nat} {z : Int} (hc : jm_cq m pc 40 a0 1 e = true) (h : Q (some (1, z)) φ x) : hw sc d m pc L [(1, z)] φ x Q := ⟨_, φ, x, jm_R_ret (jm_cqe hc) rfl rfl, h⟩
theorem hw_vret {a0 : Int} {e : Nat} (hc : jm_cq m pc 40 a0 2 e = true) (h : Q none φ x) : hw sc d m pc L [] φ x Q := ⟨_, φ, x, jm_R_ret (jm_cqe hc) rfl rfl, h⟩
theorem hw_thr {a0 : Int} {b e : Nat} (hc : jm_cq m pc 41 a0 b e = true) (hd : 10 ≤ d) (hS : jm_cat S ≤ 8) (h : Q (some (9, 0)) φ (x + 1)) : hw sc d m pc L S φ x Q := ⟨_, φ, x + 1, jm_R_thr (jm_cqe hc) rfl hd hS, h⟩
end
