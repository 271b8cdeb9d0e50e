def g_ivt : List (List (Nat × Nat × Int × Int)) := [[(12, 13, 0, 4), (13, 14, -1, 7), (14, 15, -2147483648, 2147483647)], [(2, 3, 0, 940), (3, 4, 0, 940), (4, 5, 0, 940), (5, 6, 0, 5), (6, 7, 0, 940), (7, 8, -128, 999), (9, 10, 0, 4), (10, 11, 0, 940)], [(0, 940, -128, 127)], [], [(3, 4, 0, 1)], [], [(0, 1, 0, 3), (1, 2, 0, 8), (2, 3, 0, 8), (3, 4, 0, 6), (4, 5, 0, 8)], [], [(0, 3, 0, 30)], [(0, 3, 0, 9)], [(0, 8, 0, 2)], [(0, 8, 0, 29)], [(0, 8, 0, 30)], [(0, 8, 0, 7)], [(0, 8, 0, 7)], [(0, 8, -2147483648, 2147483647)], [(0, 64, -1, 7)], [(1, 2, -1, 7), (2, 3, -1, 5), (3, 4, -2147483648, 2147483647)], [(0, 8, 0, 29)], [(0, 8, -1, 5)], [(0, 6, -1, 7)], [(0, 6, 0, 6)], [(0, 36, 0, 7)], [(0, 6, 0, 5)], [], [], [(3, 4, 0, 40), (4, 5, 0, 20), (5, 6, 0, 1)], [(0, 40, 0, 22)], [(0, 40, 0, 62)], [(0, 40, 0, 999)], [(3, 4, 0, 1)], [], [(0, 1, 0, 3), (1, 2, 0, 8), (2, 3, 0, 8), (3, 4, 0, 6), (4, 5, 0, 8)], [], [(0, 3, 0, 30)], [(0, 3, 0, 9)], [(0, 8, 0, 2)], [(0, 8, 0, 29)], [(0, 8, 0, 30)], [(0, 8, 0, 7)], [(0, 8, 0, 7)], [(0, 8, -2147483648, 2147483647)], [(0, 64, -1, 7)], [(1, 2, -1, 7), (2, 3, -1, 5), (3, 4, -2147483648, 2147483647)], [(0, 8, 0, 29)], [(0, 8, -1, 5)], [(0, 6, -1, 7)], [(0, 6, 0, 6)], [(0, 36, 0, 7)], [(0, 6, 0, 5)], [], [], [(3, 4, 0, 40), (4, 5, 0, 20), (5, 6, 0, 1)], [(0, 40, 0, 22)], [(0, 40, 0, 62)], [(0, 40, 0, 999)], [(3, 4, 0, 1)], [], [(0, 1, 0, 3), (1, 2, 0, 8), (2, 3, 0, 8), (3, 4, 0, 6), (4, 5, 0, 8)], [], [(0, 3, 0, 30)], [(0, 3, 0, 9)], [(0, 8, 0, 2)], [(0, 8, 0, 29)], [(0, 8, 0, 30)], [(0, 8, 0, 7)], [(0, 8, 0, 7)], [(0, 8, -2147483648, 2147483647)], [(0, 64, -1, 7)], [(1, 2, -1, 7), (2, 3, -1, 5), (3, 4, -2147483648, 2147483647)], [(0, 8, 0, 29)], [(0, 8, -1, 5)], [(0, 6, -1, 7)], [(0, 6, 0, 6)], [(0, 36, 0, 7)], [(0, 6, 0, 5)], [], [], [(3, 4, 0, 40), (4, 5, 0, 20), (5, 6, 0, 1)], [(0, 40, 0, 22)], [(0, 40, 0, 62)], [(0, 40, 0, 999)], [(3, 4, 0, 1)], [], [(0, 1, 0, 3), (1, 2, 0, 8), (2, 3, 0, 8), (3, 4, 0, 6), (4, 5, 0, 8)], [], [(0, 3, 0, 30)], [(0, 3, 0, 9)], [(0, 8, 0, 2)], [(0, 8, 0, 29)], [(0, 8, 0, 30)], [(0, 8, 0, 7)], [(0, 8, 0, 7)], [(0, 8, -2147483648, 2147483647)], [(0, 64, -1, 7)], [(1, 2, -1, 7), (2, 3, -1, 5), (3, 4, -2147483648, 2147483647)], [(0, 8, 0, 29)], [(0, 8, -1, 5)], [(0, 6, -1, 7)], [(0, 6, 0, 6)], [(0, 36, 0, 7)], [(0, 6, 0, 5)], [], [], [(3, 4, 0, 40), (4, 5, 0, 20), (5, 6, 0, 1)], [(0, 40, 0, 22)], [(0, 40, 0, 62)], [(0, 40, 0, 999)], [(1, 2, 0, 8)], [], [(1, 2, -1, 7), (2, 3, -1, 5), (3, 4, -2147483648, 2147483647)], [(0, 8, 0, 29)], [(0, 8, -1, 5)], [(0, 6, -1, 7)], [(0, 6, 0, 6)], [(0, 36, 0, 7)], [(0, 6, 0, 5)], [], [], [(1, 2, -1, 7), (2, 3, -1, 5), (3, 4, -2147483648, 2147483647)], [(0, 8, 0, 29)], [(0, 8, -1, 5)], [(0, 6, -1, 7)], [(0, 6, 0, 6)], [(0, 36, 0, 7)], [(0, 6, 0, 5)], [], [], [(1, 2, -1, 7), (2, 3, -1, 5), (3, 4, -2147483648, 2147483647)], [(0, 8, 0, 29)], [(0, 8, -1, 5)], [(0, 6, -1, 7)], [(0, 6, 0, 6)], [(0, 36, 0, 7)], [(0, 6, 0, 5)], [], [], [(1, 2, -1, 7), (2, 3, -1, 5), (3, 4, -2147483648, 2147483647)], [(0, 8, 0, 29)], [(0, 8, -1, 5)], [(0, 6, -1, 7)], [(0, 6, 0, 6)], [(0, 36, 0, 7)], [(0, 6, 0, 5)], [], [], [(1, 2, -1, 7), (2, 3, -1, 5), (3, 4, -2147483648, 2147483647)], [(0, 8, 0, 29)], [(0, 8, -1, 5)], [(0, 6, -1, 7)], [(0, 6, 0, 6)], [(0, 36, 0, 7)], [(0, 6, 0, 5)], [], [], [(1, 2, -1, 7), (2, 3, -1, 5), (3, 4, -2147483648, 2147483647)], [(0, 8, 0, 29)], [(0, 8, -1, 5)], [(0, 6, -1, 7)], [(0, 6, 0, 6)], [(0, 36, 0, 7)], [(0, 6, 0, 5)], [], [], [(1, 2, -1, 7), (2, 3, -1, 5), (3, 4, -2147483648, 2147483647)], [(0, 8, 0, 29)], [(0, 8, -1, 5)], [(0, 6, -1, 7)], [(0, 6, 0, 6)], [(0, 36, 0, 7)], [(0, 6, 0, 5)], [], [], [(1, 2, -1, 7), (2, 3, -1, 5), (3, 4, -2147483648, 2147483647)], [(0, 8, 0, 29)], [(0, 8, -1, 5)], [(0, 6, -1, 7)], [(0, 6, 0, 6)], [(0, 36, 0, 7)], [(0, 6, 0, 5)], [], [], [], [(5, 6, 0, 40), (6, 7, 0, 40)], [(0, 40, 0, 22)], [(0, 40, -1, 5)], [(0, 40, -1, 60)], [], [], [(1, 2, 0, 32)], [(0, 32, -128, 127)], [(0, 4, -2147483648, 2147483647)], [(0, 1, 0, 1), (2, 3, 0, 940), (3, 4, 0, 940), (4, 5, 0, 940), (5, 6, 0, 940), (11, 12, 0, 4), (12, 13, 0, 940), (13, 14, 0, 940), (14, 15, 0, 8214), (15, 16, 0, 4), (16, 17, 0, 940), (18, 19, -1, 999), (22, 23, 0, 8), (23, 24, 0, 7), (24, 25, 0, 1), (25, 26, -2147483648, 2147483647), (26, 27, 0, 1), (28, 29, 0, 48), (30, 31, 0, 40), (32, 33, 0, 1), (34, 35, 0, 45), (35, 36, 0, 20), (36, 37, 0, 45), (38, 39, 0, 1)], [(0, 940, -128, 127)], [(0, 1, 0, 3), (1, 2, 0, 8), (2, 3, 0, 8), (3, 4, 0, 6), (4, 5, 0, 8), (5, 8, 0, 30), (8, 11, 0, 9), (11, 19, 0, 2), (19, 27, 0, 29), (27, 33, 0, 8), (33, 39, 0, 6), (39, 75, 0, 7), (75, 83, 0, 7), (83, 91, 0, 7), (91, 99, -2147483648, 2147483647), (100, 101, 0, 8), (101, 102, 0, 6), (102, 103, -2147483648, 2147483647), (104, 112, 0, 29), (112, 118, 0, 8), (118, 124, 0, 6), (124, 160, 0, 7), (160, 166, 0, 5), (180, 181, 0, 45), (181, 316, 0, 8214)], [(0, 1, 0, 3), (1, 2, 0, 8), (2, 3, 0, 8), (3, 4, 0, 6), (4, 5, 0, 8), (5, 8, 0, 30), (8, 11, 0, 9), (11, 19, 0, 2), (19, 27, 0, 29), (27, 33, 0, 8), (33, 39, 0, 6), (39, 75, 0, 7), (75, 83, 0, 7), (83, 91, 0, 7), (91, 99, -2147483648, 2147483647)], [(0, 135, -1, 8214)], [], [], [(1, 2, 0, 8), (2, 3, 0, 6), (3, 4, -2147483648, 2147483647), (5, 13, 0, 29), (13, 19, 0, 8), (19, 25, 0, 6), (25, 61, 0, 7), (61, 67, 0, 5), (82, 83, 0, 8), (83, 84, 0, 6), (84, 85, -2147483648, 2147483647), (86, 94, 0, 29), (94, 100, 0, 8), (100, 106, 0, 6), (106, 142, 0, 7), (142, 148, 0, 5), (163, 164, 0, 8), (164, 165, 0, 6), (165, 166, -2147483648, 2147483647), (167, 175, 0, 29), (175, 181, 0, 8), (181, 187, 0, 6), (187, 223, 0, 7), (223, 229, 0, 5), (244, 245, 0, 8), (245, 246, 0, 6), (246, 247, -2147483648, 2147483647), (248, 256, 0, 29), (256, 262, 0, 8), (262, 268, 0, 6), (268, 304, 0, 7), (304, 310, 0, 5), (325, 326, 0, 8), (326, 327, 0, 6), (327, 328, -2147483648, 2147483647), (329, 337, 0, 29), (337, 343, 0, 8), (343, 349, 0, 6), (349, 385, 0, 7), (385, 391, 0, 5), (406, 407, 0, 8), (407, 408, 0, 6), (408, 409, -2147483648, 2147483647), (410, 418, 0, 29), (418, 424, 0, 8), (424, 430, 0, 6), (430, 466, 0, 7), (466, 472, 0, 5), (487, 488, 0, 8), (488, 489, 0, 6), (489, 490, -2147483648, 2147483647), (491, 499, 0, 29), (499, 505, 0, 8), (505, 511, 0, 6), (511, 547, 0, 7), (547, 553, 0, 5), (568, 569, 0, 8), (569, 570, 0, 6), (570, 571, -2147483648, 2147483647), (572, 580, 0, 29), (580, 586, 0, 8), (586, 592, 0, 6), (592, 628, 0, 7), (628, 634, 0, 5)], [(1, 2, 0, 8), (2, 3, 0, 6), (3, 4, -2147483648, 2147483647), (5, 13, 0, 29), (13, 19, 0, 8), (19, 25, 0, 6), (25, 61, 0, 7), (61, 67, 0, 5)], [(0, 48, -128, 127)], [(0, 4, -2147483648, 2147483647)], [(0, 45, 0, 23)], [(0, 45, 0, 1)], [(0, 1, 0, 3), (1, 2, 0, 8), (2, 3, 0, 8), (3, 4, 0, 6), (4, 5, 0, 8), (5, 8, 0, 30), (8, 11, 0, 9), (11, 19, 0, 2), (19, 27, 0, 29), (27, 33, 0, 8), (33, 39, 0, 6), (39, 75, 0, 7), (75, 83, 0, 7), (83, 91, 0, 7), (91, 99, -2147483648, 2147483647), (100, 101, 0, 8), (101, 102, 0, 6), (102, 103, -2147483648, 2147483647), (104, 112, 0, 29), (112, 118, 0, 8), (118, 124, 0, 6), (124, 160, 0, 7), (160, 166, 0, 5), (180, 181, 0, 45), (181, 316, 0, 8214), (361, 362, 0, 3), (362, 363, 0, 8), (363, 364, 0, 8), (364, 365, 0, 6), (365, 366, 0, 8), (366, 369, 0, 30), (369, 372, 0, 9), (372, 380, 0, 2), (380, 388, 0, 29), (388, 394, 0, 8), (394, 400, 0, 6), (400, 436, 0, 7), (436, 444, 0, 7), (444, 452, 0, 7), (452, 460, -2147483648, 2147483647), (461, 462, 0, 8), (462, 463, 0, 6), (463, 464, -2147483648, 2147483647), (465, 473, 0, 29), (473, 479, 0, 8), (479, 485, 0, 6), (485, 521, 0, 7), (521, 527, 0, 5), (541, 542, 0, 45), (542, 677, 0, 8214)], [], [(0, 2, 0, 1)], []]
/-! ranges of what lies in the heap, and frames -/
def g_iv (a k : Nat) : Option (Int × Int) := ((g_ivt.getD a []).find? (fun s => decide (s.1 ≤ k) && decide (k < s.2.1))).map (fun s => s.2.2)
def Bf1 (v : Int) : Prop := v = 110 ∨ v = 119 ∨ v = 128 ∨ v = 137 ∨ v = 146 ∨ v = 155 ∨ v = 164 ∨ v = 173
def Inv (φ : hf_F) : Prop := (∀ (a k : Nat) (q : Int × Int), g_iv a k = some q → q.1 ≤ φ a k ∧ φ a k ≤ q.2) ∧ (∀ k : Nat, k < 8 → Bf1 (φ 109 k))
theorem g_iv9 (k : Nat) : g_iv 109 k = none := by
  have h : g_ivt.getD 109 [] = [] := by decide +kernel
  unfold g_iv
  rw [h]
  rfl
def ck_iv (a s t : Nat) (lo u : Int) : Bool := (List.range (t - s)).all (fun j => decide (g_iv a (s + j) = some (lo, u)))
def ck_ivh (a s t : Nat) (lo u : Int) : Bool := (List.range (t - s)).all (fun j => match g_iv a (s + j) with | some q => decide (lo ≤ q.1 ∧ q.2 ≤ u) | none => false)
def Fr (ms : List Nat) (φ ψ : hf_F) : Prop := ∀ a : Nat, ms.contains a = false → ∀ k : Nat, ψ a k = φ a k
def ck_ivcp (a b n : Nat) : Bool := (List.range n).all (fun j => decide (g_iv b j = g_iv a j) || decide (g_iv b j = none))
section
variable {φ ψ χ : hf_F} {a b k s t n : Nat} {lo u v z : Int} {ms ms' : List Nat}
theorem iv_at (hI : Inv φ) (h : g_iv a k = some (lo, u)) : lo ≤ φ a k ∧ φ a k ≤ u := hI.1 a k _ h
theorem ck_iv_at (ck : ck_iv a s t lo u = true) (h1 : (s : Int) ≤ z) (h2 : z < (t : Int)) : g_iv a z.toNat = some (lo, u) := by
  have h := List.all_eq_true.mp ck (z.toNat - s) (List.mem_range.mpr (by omega))
  rw [show s + (z.toNat - s) = z.toNat by omega] at h
  exact of_decide_eq_true h
theorem iv_ar (hI : Inv φ) (ck : ck_iv a s t lo u = true) (h1 : (s : Int) ≤ z) (h2 : z < (t : Int)) : lo ≤ φ a z.toNat ∧ φ a z.toNat ≤ u := hI.1 a _ _ (ck_iv_at ck h1 h2)
theorem iv_arh (hI : Inv φ) (ck : ck_ivh a s t lo u = true) (h1 : (s : Int) ≤ z) (h2 : z < (t : Int)) : lo ≤ φ a z.toNat ∧ φ a z.toNat ≤ u := by
  have h := List.all_eq_true.mp ck (z.toNat - s) (List.mem_range.mpr (by omega))
  rw [show s + (z.toNat - s) = z.toNat by omega] at h
  cases hg : g_iv a z.toNat with
  | none => rw [hg] at h; cases h
  | some q =>
    rw [hg] at h
    have h3 := of_decide_eq_true h
    have h4 := hI.1 a _ q hg
    omega
theorem iv_ups (hI : Inv φ) (h9 : ¬ a = 109) (h : ∀ q, g_iv a k = some q → q.1 ≤ v ∧ v ≤ q.2) : Inv (hf_up φ a k v) := by
  refine ⟨fun c j q hq => ?_, fun j hj => ?_⟩
  · by_cases hc : c = a ∧ j = k
    · obtain ⟨rfl, rfl⟩ := hc
      rw [hf_up_eq]
      exact h q hq
    · rw [hf_up_ne hc]
      exact hI.1 c j q hq
  · rw [hf_up_ne (fun q => h9 q.1.symm)]
    exact hI.2 j hj
theorem iv_up (hI : Inv φ) (h : g_iv a k = some (lo, u)) (h1 : lo ≤ v) (h2 : v ≤ u) : Inv (hf_up φ a k v) :=
  iv_ups hI (fun q => by rw [q, g_iv9] at h; cases h) (fun q hq => by rw [h] at hq; cases hq; exact ⟨h1, h2⟩)
theorem iv_upn (hI : Inv φ) (h9 : ¬ a = 109) (h : g_iv a k = none) : Inv (hf_up φ a k v) := iv_ups hI h9 (fun q hq => by rw [h] at hq; cases hq)
theorem iv_upI (hI : Inv φ) (ck : ck_iv a s t lo u = true) (h1 : (s : Int) ≤ z) (h2 : z < (t : Int)) (h3 : lo ≤ v) (h4 : v ≤ u) : Inv (hf_up φ a z.toNat v) := iv_up hI (ck_iv_at ck h1 h2) h3 h4
theorem iv_upIn (hI : Inv φ) (h9 : ¬ a = 109) (h : g_ivt.getD a [] = []) : Inv (hf_up φ a k v) := iv_upn hI h9 (by unfold g_iv; rw [h]; rfl)
def ck_ivs (a s t : Nat) (v : Int) : Bool := (List.range (t - s)).all (fun j => match g_iv a (s + j) with | some q => decide (q.1 ≤ v ∧ v ≤ q.2) | none => true)
theorem iv_upS (hI : Inv φ) (h9 : ¬ a = 109) (ck : ck_ivs a s t v = true) (h1 : (s : Int) ≤ z) (h2 : z < (t : Int)) : Inv (hf_up φ a z.toNat v) := by
  refine iv_ups hI h9 (fun q hq => ?_)
  have h := List.all_eq_true.mp ck (z.toNat - s) (List.mem_range.mpr (by omega))
  rw [show s + (z.toNat - s) = z.toNat by omega, hq] at h
  exact of_decide_eq_true h
theorem iv_up9 (hI : Inv φ) (hv : Bf1 v) : Inv (hf_up φ 109 k v) := by
  refine ⟨fun c j q hq => ?_, fun j hj => ?_⟩
  · by_cases hc : c = 109 ∧ j = k
    · rw [hc.1, g_iv9] at hq
      cases hq
    · rw [hf_up_ne hc]
      exact hI.1 c j q hq
  · by_cases hc : j = k
    · rw [hc, hf_up_eq]; exact hv
    · rw [hf_up_ne (fun q => hc q.2)]; exact hI.2 j hj
theorem iv_cp (hI : Inv φ) (h9 : ¬ b = 109) (ck : ck_ivcp a b n = true) : Inv (hf_cp φ a b n) := by
  refine ⟨fun c j q hq => ?_, fun j hj => ?_⟩
  · by_cases hc : c = b ∧ j < n
    · obtain ⟨rfl, hj⟩ := hc
      rw [hf_cp_eq hj]
      have h := List.all_eq_true.mp ck j (List.mem_range.mpr hj)
      rcases Bool.or_eq_true_iff.mp h with h | h
      · exact hI.1 a j q ((of_decide_eq_true h).symm.trans hq)
      · rw [of_decide_eq_true h] at hq
        cases hq
    · rw [hf_cp_ne hc]
      exact hI.1 c j q hq
  · rw [hf_cp_ne (fun q => h9 q.1.symm)]
    exact hI.2 j hj
theorem iv_bf (hI : Inv φ) (h1 : 0 ≤ z) (h2 : z < 8) : Bf1 (φ 109 z.toNat) := hI.2 _ (by omega)
theorem fr_rf : Fr ms φ φ := fun _ _ _ => rfl
theorem fr_up (h : Fr ms φ ψ) (ha : ms.contains a = true) : Fr ms φ (hf_up ψ a k v) := by
  intro c hc j
  rw [hf_up_ne (fun q => by rw [q.1, ha] at hc; cases hc)]
  exact h c hc j
theorem fr_cp (h : Fr ms φ ψ) (ha : ms.contains b = true) : Fr ms φ (hf_cp ψ a b n) := by
  intro c hc j
  rw [hf_cp_ne (fun q => by rw [q.1, ha] at hc; cases hc)]
  exact h c hc j
theorem fr_tr (h : Fr ms φ ψ) (h2 : Fr ms' ψ χ) (hs : ms'.all (fun c => ms.contains c) = true) : Fr ms φ χ := by
  intro c hc j
  have hc2 : ms'.contains c = false := by
    cases hq : ms'.contains c with
    | false => rfl
    | true =>
      have := List.all_eq_true.mp hs c (by simpa using hq)
      rw [hc] at this
      cases this
  exact (h2 c hc2 j).trans (h c hc j)
end
theorem hb_r32 (w : Int32) : -2147483648 ≤ w.toInt ∧ w.toInt ≤ 2147483647 := by
  have h1 := Int32.le_toInt w
  have h2 := Int32.toInt_lt w
  omega
theorem hr_and (z y : Int) : -2147483648 ≤ hb_and z y ∧ hb_and z y ≤ 2147483647 := hb_r32 _
theorem hr_or (z y : Int) : -2147483648 ≤ hb_or z y ∧ hb_or z y ≤ 2147483647 := hb_r32 _
theorem hr_xor (z y : Int) : -2147483648 ≤ hb_xor z y ∧ hb_xor z y ≤ 2147483647 := hb_r32 _
theorem hr_shl (z y : Int) : -2147483648 ≤ hb_shl z y ∧ hb_shl z y ≤ 2147483647 := hb_r32 _
theorem hr_shr (z y : Int) : -2147483648 ≤ hb_shr z y ∧ hb_shr z y ≤ 2147483647 := hb_r32 _
theorem hr_ushr (z y : Int) : -2147483648 ≤ hb_ushr z y ∧ hb_ushr z y ≤ 2147483647 := hb_r32 _
theorem hr_l2i (z : Int) : -2147483648 ≤ hb_l2i z ∧ hb_l2i z ≤ 2147483647 := hb_r32 _
theorem hr_jmb (z : Int) : -128 ≤ jm_b z ∧ jm_b z ≤ 127 := by
  show -128 ≤ (vp_nar .byte (Int32.ofInt z)).toInt ∧ (vp_nar .byte (Int32.ofInt z)).toInt ≤ 127
  have h1 := Int8.le_toInt (Int32.ofInt z).toInt8
  have h2 := Int8.toInt_lt (Int32.ofInt z).toInt8
  have e : (vp_nar .byte (Int32.ofInt z)).toInt = (Int32.ofInt z).toInt8.toInt := by
    show (Int32.ofInt z).toInt8.toInt32.toInt = _
    rw [Int8.toInt_toInt32]
  omega
theorem hr_i2b (z : Int) : -128 ≤ hb_i2b z ∧ hb_i2b z ≤ 127 := by
  have h1 := Int8.le_toInt (Int32.ofInt z).toInt8
  have h2 := Int8.toInt_lt (Int32.ofInt z).toInt8
  have e : hb_i2b z = (Int32.ofInt z).toInt8.toInt := by
    show (Int32.ofInt z).toInt8.toInt32.toInt = _
    rw [Int8.toInt_toInt32]
  omega
theorem hr_cmp (z y : Int) : -1 ≤ jm_cmp z y ∧ jm_cmp z y ≤ 1 := by
  unfold jm_cmp
  split
  · omega
  · split <;> omega
theorem hr_max (z y : Int) : (if z < y then y else z) = z ∨ (if z < y then y else z) = y := by split <;> simp
theorem hr_min (z y : Int) : (if y < z then y else z) = z ∨ (if y < z then y else z) = y := by split <;> simp
theorem hr_tmod {z y : Int} (hz : 0 ≤ z) (hy : 0 < y) : 0 ≤ z.tmod y ∧ z.tmod y < y := ⟨Int.tmod_nonneg _ hz, Int.tmod_lt_of_pos _ hy⟩
theorem hr_tdiv {z y : Int} (hz : 0 ≤ z) (hy : 0 < y) : 0 ≤ z.tdiv y ∧ z.tdiv y ≤ z := by
  rw [Int.tdiv_eq_ediv_of_nonneg hz]
  exact ⟨Int.ediv_nonneg hz (by omega), Int.ediv_le_self _ hz⟩
theorem hr_ushr8 (z : Int) : 0 ≤ hb_ushr z 8 ∧ hb_ushr z 8 ≤ 16777215 := by
  have h := pk_ushr (Int32.ofInt z) (Int32.ofInt 8) 8 (by decide)
  have h2 : (Int32.ofInt z).toBitVec.toNat < 2 ^ 32 := (Int32.ofInt z).toBitVec.isLt
  have h3 : hb_ushr z 8 = (((Int32.ofInt z).toUInt32 >>> ((Int32.ofInt 8).toUInt32 &&& Int32.toUInt32 31)).toInt32).toBitVec.toInt := rfl
  rw [h3, BitVec.toInt_eq_toNat_cond, h]
  split <;> omega
theorem hr_asa {sc : List Int} {d m pc : Nat} {L : jm_L} {S : List jm_V} {φ : hf_F} {x : Nat} {Q : Option jm_V → hf_F → Nat → Prop} {a0 : Int} {j w : Int} (hc : g_code m pc = some (16, a0, 3, 4)) (hb : Bf1 w) (h0 : 0 ≤ j) (h1 : j < 8) (h : hw sc d m (pc + 1) L S (hf_up φ 109 j.toNat w) x Q) : hw sc d m pc L ((2, w) :: (0, j) :: (2, 109) :: S) φ x Q := by
  have hk9 : hf_k 109 = 4 ∧ hf_n 109 = 8 := by decide +kernel
  have hpl : hf_pl 109 = true := by decide +kernel
  have hkw : ∃ o : Nat, w = (o : Int) ∧ o < 209 ∧ hf_k o = 14 := by
    rcases hb with rfl | rfl | rfl | rfl | rfl | rfl | rfl | rfl
    · exact ⟨110, rfl, by decide, by decide +kernel⟩
    · exact ⟨119, rfl, by decide, by decide +kernel⟩
    · exact ⟨128, rfl, by decide, by decide +kernel⟩
    · exact ⟨137, rfl, by decide, by decide +kernel⟩
    · exact ⟨146, rfl, by decide, by decide +kernel⟩
    · exact ⟨155, rfl, by decide, by decide +kernel⟩
    · exact ⟨164, rfl, by decide, by decide +kernel⟩
    · exact ⟨173, rfl, by decide, by decide +kernel⟩
  obtain ⟨o, ho, ho2, ho3⟩ := hkw
  refine hw_stp hc (by decide) (by decide) ?_ h
  show jm_ast (16, a0, 3, 4) pc L ((2, w) :: (0, j) :: (2, ((109 : Nat) : Int)) :: S) (hf_h φ x) = _
  unfold jm_ast
  dsimp only
  rw [if_pos ⟨rfl, rfl⟩, hf_cell (show 109 < 209 by decide)]
  dsimp only
  rw [hf_len, hf_ix h0 (by rw [hk9.2]; exact h1) (by rw [hk9.2]; decide)]
  dsimp only
  rw [if_neg (fun q => absurd q.1 (by decide)), if_neg (fun q => absurd q.1 (by decide)), if_neg (fun q => absurd q.1 (by decide)), if_neg (fun q => absurd q.1 (by decide)), if_pos ⟨rfl, hk9.1, rfl⟩, ho, hf_cell ho2]
  dsimp only
  rw [if_pos ho3, ← ho, show (((109 : Nat) : Int)).toNat = 109 from rfl, hf_put (hf_pl_r hpl _)]
theorem hr_and1 (z : Int) : 0 ≤ hb_and z 1 ∧ hb_and z 1 ≤ 1 := by
  obtain ⟨j, hj, e⟩ := pk_andE (Int32.ofInt z) (m := Int32.ofInt 1) 1 (by decide)
  have h : hb_and z 1 = (j : Int) := by
    show (Int32.ofInt z &&& Int32.ofInt 1).toInt = _
    rw [e, nI_toInt (by omega)]
  omega
theorem hr_and255 (z : Int) : 0 ≤ hb_and z 255 ∧ hb_and z 255 ≤ 255 := by
  obtain ⟨j, hj, e⟩ := pk_andE (Int32.ofInt z) (m := Int32.ofInt 255) 8 (by decide)
  have h : hb_and z 255 = (j : Int) := by
    show (Int32.ofInt z &&& Int32.ofInt 255).toInt = _
    rw [e, nI_toInt (by omega)]
  omega
theorem hr_cmp0 (z : Int) : z = 0 → jm_cmp z 0 = 0 := by
  intro h
  rw [h]
  decide
theorem bf_nn {v : Int} (h : Bf1 v) : 0 ≤ v := by unfold Bf1 at h; omega
