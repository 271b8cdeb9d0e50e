noncomputable def g_ivc : List (List (List (Nat × Nat × Int × Int))) := [[[(12, 13, 0, 4), (13, 14, -1, 7), (14, 15, -2147483648, 2147483647)], [(2, 3, 0, 940), (3, 4, 0, 940), (4, 5, 0, 940), (5, 6, 0, 5), (6, 7, 0, 940), (7, 8, -128, 999), (9, 10, 0, 4), (10, 11, 0, 940)], [(0, 940, -128, 127)], [], [(3, 4, 0, 1)], [], [(0, 1, 0, 3), (1, 2, 0, 8), (2, 3, 0, 8), (3, 4, 0, 6), (4, 5, 0, 8)], [], [(0, 3, 0, 30)], [(0, 3, 0, 9)], [(0, 8, 0, 2)], [(0, 8, 0, 29)], [(0, 8, 0, 30)], [(0, 8, 0, 7)], [(0, 8, 0, 7)], [(0, 8, -2147483648, 2147483647)]], [[(0, 64, -1, 7)], [(1, 2, -1, 7), (2, 3, -1, 5), (3, 4, -2147483648, 2147483647)], [], [(0, 8, -1, 5)], [(0, 6, -1, 7)], [(0, 6, 0, 6)], [(0, 36, 0, 7)], [(0, 6, 0, 5)], [], [], [(3, 4, 0, 40), (4, 5, 0, 20), (5, 6, 0, 1)], [(0, 40, 0, 22)], [(0, 40, 0, 62)], [(0, 40, 0, 999)], [(3, 4, 0, 1)], []], [[(0, 1, 0, 3), (1, 2, 0, 8), (2, 3, 0, 8), (3, 4, 0, 6), (4, 5, 0, 8)], [], [(0, 3, 0, 30)], [(0, 3, 0, 9)], [(0, 8, 0, 2)], [(0, 8, 0, 29)], [(0, 8, 0, 30)], [(0, 8, 0, 7)], [(0, 8, 0, 7)], [(0, 8, -2147483648, 2147483647)], [(0, 64, -1, 7)], [(1, 2, -1, 7), (2, 3, -1, 5), (3, 4, -2147483648, 2147483647)], [], [(0, 8, -1, 5)], [(0, 6, -1, 7)], [(0, 6, 0, 6)]], [[(0, 36, 0, 7)], [(0, 6, 0, 5)], [], [], [(3, 4, 0, 40), (4, 5, 0, 20), (5, 6, 0, 1)], [(0, 40, 0, 22)], [(0, 40, 0, 62)], [(0, 40, 0, 999)], [(3, 4, 0, 1)], [], [(0, 1, 0, 3), (1, 2, 0, 8), (2, 3, 0, 8), (3, 4, 0, 6), (4, 5, 0, 8)], [], [(0, 3, 0, 30)], [(0, 3, 0, 9)], [(0, 8, 0, 2)], [(0, 8, 0, 29)]], [[(0, 8, 0, 30)], [(0, 8, 0, 7)], [(0, 8, 0, 7)], [(0, 8, -2147483648, 2147483647)], [(0, 64, -1, 7)], [(1, 2, -1, 7), (2, 3, -1, 5), (3, 4, -2147483648, 2147483647)], [], [(0, 8, -1, 5)], [(0, 6, -1, 7)], [(0, 6, 0, 6)], [(0, 36, 0, 7)], [(0, 6, 0, 5)], [], [], [(3, 4, 0, 40), (4, 5, 0, 20), (5, 6, 0, 1)], [(0, 40, 0, 22)]], [[(0, 40, 0, 62)], [(0, 40, 0, 999)], [(3, 4, 0, 1)], [], [(0, 1, 0, 3), (1, 2, 0, 8), (2, 3, 0, 8), (3, 4, 0, 6), (4, 5, 0, 8)], [], [(0, 3, 0, 30)], [(0, 3, 0, 9)], [(0, 8, 0, 2)], [(0, 8, 0, 29)], [(0, 8, 0, 30)], [(0, 8, 0, 7)], [(0, 8, 0, 7)], [(0, 8, -2147483648, 2147483647)], [(0, 64, -1, 7)], [(1, 2, -1, 7), (2, 3, -1, 5), (3, 4, -2147483648, 2147483647)]], [[], [(0, 8, -1, 5)], [(0, 6, -1, 7)], [(0, 6, 0, 6)], [(0, 36, 0, 7)], [(0, 6, 0, 5)], [], [], [(3, 4, 0, 40), (4, 5, 0, 20), (5, 6, 0, 1)], [(0, 40, 0, 22)], [(0, 40, 0, 62)], [(0, 40, 0, 999)], [(1, 2, 0, 8)], [], [(1, 2, -1, 7), (2, 3, -1, 5), (3, 4, -2147483648, 2147483647)], []], [[(0, 8, -1, 5)], [(0, 6, -1, 7)], [(0, 6, 0, 6)], [(0, 36, 0, 7)], [(0, 6, 0, 5)], [], [], [(1, 2, -1, 7), (2, 3, -1, 5), (3, 4, -2147483648, 2147483647)], [], [(0, 8, -1, 5)], [(0, 6, -1, 7)], [(0, 6, 0, 6)], [(0, 36, 0, 7)], [(0, 6, 0, 5)], [], []], [[(1, 2, -1, 7), (2, 3, -1, 5), (3, 4, -2147483648, 2147483647)], [], [(0, 8, -1, 5)], [(0, 6, -1, 7)], [(0, 6, 0, 6)], [(0, 36, 0, 7)], [(0, 6, 0, 5)], [], [], [(1, 2, -1, 7), (2, 3, -1, 5), (3, 4, -2147483648, 2147483647)], [], [(0, 8, -1, 5)], [(0, 6, -1, 7)], [(0, 6, 0, 6)], [(0, 36, 0, 7)], [(0, 6, 0, 5)]], [[], [], [(1, 2, -1, 7), (2, 3, -1, 5), (3, 4, -2147483648, 2147483647)], [], [(0, 8, -1, 5)], [(0, 6, -1, 7)], [(0, 6, 0, 6)], [(0, 36, 0, 7)], [(0, 6, 0, 5)], [], [], [(1, 2, -1, 7), (2, 3, -1, 5), (3, 4, -2147483648, 2147483647)], [], [(0, 8, -1, 5)], [(0, 6, -1, 7)], [(0, 6, 0, 6)]], [[(0, 36, 0, 7)], [(0, 6, 0, 5)], [], [], [(1, 2, -1, 7), (2, 3, -1, 5), (3, 4, -2147483648, 2147483647)], [], [(0, 8, -1, 5)], [(0, 6, -1, 7)], [(0, 6, 0, 6)], [(0, 36, 0, 7)], [(0, 6, 0, 5)], [], [], [(1, 2, -1, 7), (2, 3, -1, 5), (3, 4, -2147483648, 2147483647)], [], [(0, 8, -1, 5)]], [[(0, 6, -1, 7)], [(0, 6, 0, 6)], [(0, 36, 0, 7)], [(0, 6, 0, 5)], [], [], [], [(5, 6, 0, 40), (6, 7, 0, 40)], [(0, 40, 0, 22)], [(0, 40, -1, 5)], [(0, 40, -1, 60)], [], [], [(1, 2, 0, 32)], [(0, 32, -128, 127)], []], [[(0, 1, 0, 1), (2, 3, 0, 940), (3, 4, 0, 940), (4, 5, 0, 940), (5, 6, 0, 940), (11, 12, 0, 4), (12, 13, 0, 940), (13, 14, 0, 940), (14, 15, 0, 8214), (15, 16, 0, 4), (16, 17, 0, 940), (18, 19, -1, 999), (22, 23, 0, 8), (23, 24, 0, 7), (24, 25, 0, 1), (25, 26, -2147483648, 2147483647), (26, 27, 0, 1), (28, 29, 0, 48), (30, 31, 0, 40), (32, 33, 0, 1), (34, 35, 0, 45), (35, 36, 0, 20), (36, 37, 0, 45), (38, 39, 0, 1)], [(0, 940, -128, 127)], [(0, 1, 0, 3), (1, 2, 0, 8), (2, 3, 0, 8), (3, 4, 0, 6), (4, 5, 0, 8), (5, 8, 0, 30), (8, 11, 0, 9), (11, 19, 0, 2), (19, 27, 0, 29), (27, 33, 0, 8), (33, 39, 0, 6), (39, 75, 0, 7), (75, 83, 0, 7), (83, 91, 0, 7), (91, 99, -2147483648, 2147483647), (100, 101, 0, 8), (101, 102, 0, 6), (102, 103, -2147483648, 2147483647), (104, 112, 0, 29), (112, 118, 0, 8), (118, 124, 0, 6), (124, 160, 0, 7), (160, 166, 0, 5), (180, 181, 0, 45), (181, 316, -1, 8214)], [(0, 1, 0, 3), (1, 2, 0, 8), (2, 3, 0, 8), (3, 4, 0, 6), (4, 5, 0, 8), (5, 8, 0, 30), (8, 11, 0, 9), (11, 19, 0, 2), (19, 27, 0, 29), (27, 33, 0, 8), (33, 39, 0, 6), (39, 75, 0, 7), (75, 83, 0, 7), (83, 91, 0, 7), (91, 99, -2147483648, 2147483647)], [(0, 135, -1, 8214)], [], [], [(1, 2, 0, 8), (2, 3, 0, 6), (3, 4, -2147483648, 2147483647), (5, 13, 0, 29), (13, 19, 0, 8), (19, 25, 0, 6), (25, 61, 0, 7), (61, 67, 0, 5), (82, 83, 0, 8), (83, 84, 0, 6), (84, 85, -2147483648, 2147483647), (86, 94, 0, 29), (94, 100, 0, 8), (100, 106, 0, 6), (106, 142, 0, 7), (142, 148, 0, 5), (163, 164, 0, 8), (164, 165, 0, 6), (165, 166, -2147483648, 2147483647), (167, 175, 0, 29), (175, 181, 0, 8), (181, 187, 0, 6), (187, 223, 0, 7), (223, 229, 0, 5), (244, 245, 0, 8), (245, 246, 0, 6), (246, 247, -2147483648, 2147483647), (248, 256, 0, 29), (256, 262, 0, 8), (262, 268, 0, 6), (268, 304, 0, 7), (304, 310, 0, 5), (325, 326, 0, 8), (326, 327, 0, 6), (327, 328, -2147483648, 2147483647), (329, 337, 0, 29), (337, 343, 0, 8), (343, 349, 0, 6), (349, 385, 0, 7), (385, 391, 0, 5), (406, 407, 0, 8), (407, 408, 0, 6), (408, 409, -2147483648, 2147483647), (410, 418, 0, 29), (418, 424, 0, 8), (424, 430, 0, 6), (430, 466, 0, 7), (466, 472, 0, 5), (487, 488, 0, 8), (488, 489, 0, 6), (489, 490, -2147483648, 2147483647), (491, 499, 0, 29), (499, 505, 0, 8), (505, 511, 0, 6), (511, 547, 0, 7), (547, 553, 0, 5), (568, 569, 0, 8), (569, 570, 0, 6), (570, 571, -2147483648, 2147483647), (572, 580, 0, 29), (580, 586, 0, 8), (586, 592, 0, 6), (592, 628, 0, 7), (628, 634, 0, 5)], [(1, 2, 0, 8), (2, 3, 0, 6), (3, 4, -2147483648, 2147483647), (5, 13, 0, 29), (13, 19, 0, 8), (19, 25, 0, 6), (25, 61, 0, 7), (61, 67, 0, 5)], [(0, 48, -128, 127)], [], [(0, 45, 0, 23)], [(0, 45, 0, 1)], [(0, 1, 0, 3), (1, 2, 0, 8), (2, 3, 0, 8), (3, 4, 0, 6), (4, 5, 0, 8), (5, 8, 0, 30), (8, 11, 0, 9), (11, 19, 0, 2), (19, 27, 0, 29), (27, 33, 0, 8), (33, 39, 0, 6), (39, 75, 0, 7), (75, 83, 0, 7), (83, 91, 0, 7), (91, 99, -2147483648, 2147483647), (100, 101, 0, 8), (101, 102, 0, 6), (102, 103, -2147483648, 2147483647), (104, 112, 0, 29), (112, 118, 0, 8), (118, 124, 0, 6), (124, 160, 0, 7), (160, 166, 0, 5), (180, 181, 0, 45), (181, 316, -1, 8214), (361, 362, 0, 3), (362, 363, 0, 8), (363, 364, 0, 8), (364, 365, 0, 6), (365, 366, 0, 8), (366, 369, 0, 30), (369, 372, 0, 9), (372, 380, 0, 2), (380, 388, 0, 29), (388, 394, 0, 8), (394, 400, 0, 6), (400, 436, 0, 7), (436, 444, 0, 7), (444, 452, 0, 7), (452, 460, -2147483648, 2147483647), (461, 462, 0, 8), (462, 463, 0, 6), (463, 464, -2147483648, 2147483647), (465, 473, 0, 29), (473, 479, 0, 8), (479, 485, 0, 6), (485, 521, 0, 7), (521, 527, 0, 5), (541, 542, 0, 45), (542, 677, -1, 8214)], [], [(0, 2, 0, 1)]], [[]]]
noncomputable def g_ivt : List (List (Nat × Nat × Int × Int)) := g_ivc.flatten
/-! ranges of what lies in the heap, and frames -/
noncomputable def jm_fnd (l : List (Nat × Nat × Int × Int)) (k : Nat) : Option (Int × Int) := List.rec (motive := fun _ => Option (Int × Int)) none (fun s _ ih => Bool.rec (motive := fun _ => Option (Int × Int)) ih (Bool.rec (motive := fun _ => Option (Int × Int)) ih (some s.2.2) (Nat.blt k s.2.1)) (Nat.ble s.1 k)) l
theorem jm_fnd_e (k : Nat) : ∀ l : List (Nat × Nat × Int × Int), jm_fnd l k = (l.find? (fun s => decide (s.1 ≤ k) && decide (k < s.2.1))).map (fun s => s.2.2)
  | [] => rfl
  | s :: l => by
    show Bool.rec (motive := fun _ => Option (Int × Int)) (jm_fnd l k) (Bool.rec (motive := fun _ => Option (Int × Int)) (jm_fnd l k) (some s.2.2) (Nat.blt k s.2.1)) (Nat.ble s.1 k) = _
    rw [List.find?_cons, jm_fnd_e k l]
    by_cases h1 : s.1 ≤ k
    · by_cases h2 : k < s.2.1
      · rw [Nat.ble_eq_true_of_le h1, show Nat.blt k s.2.1 = true from Nat.ble_eq_true_of_le h2, show (decide (s.1 ≤ k) && decide (k < s.2.1)) = true from by simp [h1, h2]]
        rfl
      · rw [Nat.ble_eq_true_of_le h1, show Nat.blt k s.2.1 = false from Bool.eq_false_iff.mpr (fun q => h2 (Nat.le_of_ble_eq_true q)), show (decide (s.1 ≤ k) && decide (k < s.2.1)) = false from by simp [h2]]
    · rw [show Nat.ble s.1 k = false from Bool.eq_false_iff.mpr (fun q => h1 (Nat.le_of_ble_eq_true q)), show (decide (s.1 ≤ k) && decide (k < s.2.1)) = false from by simp [h1]]
noncomputable def g_iv (a k : Nat) : Option (Int × Int) := jm_fnd (jm_n2 g_ivc a []) k
theorem g_iv_e (a k : Nat) : g_iv a k = ((g_ivt.getD a []).find? (fun s => decide (s.1 ≤ k) && decide (k < s.2.1))).map (fun s => s.2.2) := by
  unfold g_iv
  rw [jm_n2_e _ _ _ (by decide +kernel), jm_fnd_e]
  rfl
noncomputable def Bf1 (v : Int) : Prop := v = 110 ∨ v = 119 ∨ v = 128 ∨ v = 137 ∨ v = 146 ∨ v = 155 ∨ v = 164 ∨ v = 173
/-- the seats' rings have steps; the codes of a sentence find what they join -/
noncomputable def RS (φ : hf_F) (c o : Nat) : Prop := ∀ k : Nat, k < 8 → ∀ g : Nat, g < 3 → (k : Int) < φ c (o + 1) → φ c (o + 11 + k) = (g : Int) → 1 ≤ φ c (o + 5 + g)
noncomputable def cd (φ : hf_F) (c o : Nat) : Nat → Int
  | 0 => 0
  | i + 1 => if φ c (o + 1 + 3 * i) = 20 then cd φ c o i else if φ c (o + 1 + 3 * i) = 21 ∨ φ c (o + 1 + 3 * i) = 22 then cd φ c o i - 1 else cd φ c o i + 1
noncomputable def WF (φ : hf_F) (c o : Nat) : Prop := ∀ i : Nat, i < 45 → (i : Int) < φ c o → (φ c (o + 1 + 3 * i) = 20 → 1 ≤ cd φ c o i) ∧ ((φ c (o + 1 + 3 * i) = 21 ∨ φ c (o + 1 + 3 * i) = 22) → 2 ≤ cd φ c o i)
abbrev nfr (a k : Nat) : Prop := ((a = 183 ∧ k = 5) ∨ a = 184 ∨ a = 185 ∨ a = 186) ∨ (a = 194 ∨ a = 195 ∨ a = 205) ∧ (k = 1 ∨ (5 ≤ k ∧ k < 8) ∨ (11 ≤ k ∧ k < 19) ∨ (180 ≤ k ∧ k < 316) ∨ k = 362 ∨ (366 ≤ k ∧ k < 369) ∨ (372 ≤ k ∧ k < 380) ∨ (541 ≤ k ∧ k < 677))
/-- a book's lines: who mounts and learns is a rider, what he mounts or learns is there -/
noncomputable def BK (φ : hf_F) : Prop := ∀ i : Nat, i < 40 → (i : Int) < φ 183 5 → ((φ 184 i = 7 ∨ φ 184 i = 9) → 0 ≤ φ 185 i ∧ 0 ≤ φ 186 i ∧ φ 186 i ≤ 7) ∧ (φ 184 i = 8 → 0 ≤ φ 185 i)
noncomputable def Rx (φ : hf_F) : Prop := (RS φ 194 0 ∧ RS φ 195 0 ∧ RS φ 205 0 ∧ RS φ 205 361) ∧ (WF φ 194 180 ∧ WF φ 205 180 ∧ WF φ 205 541 ∧ BK φ)
noncomputable def Iv (φ : hf_F) : Prop := (∀ (a k : Nat) (q : Int × Int), g_iv a k = some q → q.1 ≤ φ a k ∧ φ a k ≤ q.2) ∧ (∀ k : Nat, k < 8 → Bf1 (φ 109 k))
noncomputable def Inv (φ : hf_F) : Prop := Iv φ ∧ Rx φ
theorem rs_congr {φ ψ : hf_F} {c o c' o' : Nat} (h1 : ψ c' (o' + 1) = φ c (o + 1)) (h2 : ∀ k, k < 8 → ψ c' (o' + 11 + k) = φ c (o + 11 + k)) (h3 : ∀ g, g < 3 → ψ c' (o' + 5 + g) = φ c (o + 5 + g)) (h : RS φ c o) : RS ψ c' o' := by
  intro k hk g hg h4 h5
  rw [h3 g hg]
  exact h k hk g hg (by rw [← h1]; exact h4) (by rw [← h2 k hk]; exact h5)
theorem cd_congr {φ ψ : hf_F} {c o c' o' : Nat} : ∀ i : Nat, (∀ j, j < i → ψ c' (o' + 1 + 3 * j) = φ c (o + 1 + 3 * j)) → cd ψ c' o' i = cd φ c o i
  | 0, _ => rfl
  | i + 1, h => by
    unfold cd
    rw [cd_congr i (fun j hj => h j (by omega)), h i (by omega)]
theorem wf_congr {φ ψ : hf_F} {c o c' o' : Nat} (h1 : ψ c' o' = φ c o) (h2 : ∀ i, i < 45 → ψ c' (o' + 1 + 3 * i) = φ c (o + 1 + 3 * i)) (h : WF φ c o) : WF ψ c' o' := by
  intro i hi h3
  rw [h2 i hi, cd_congr i (fun j hj => h2 j (by omega))]
  exact h i hi (by rw [← h1]; exact h3)
theorem bk_congr {φ ψ : hf_F} (h0 : ψ 183 5 = φ 183 5) (h1 : ∀ k, ψ 184 k = φ 184 k) (h2 : ∀ k, ψ 185 k = φ 185 k) (h3 : ∀ k, ψ 186 k = φ 186 k) (h : BK φ) : BK ψ := by
  intro i hi h4
  rw [h1, h2, h3]
  exact h i hi (by rw [← h0]; exact h4)
theorem rx_congr {φ ψ : hf_F} (h : ∀ a k, nfr a k → ψ a k = φ a k) (hr : Rx φ) : Rx ψ := by
  obtain ⟨⟨r1, r2, r3, r4⟩, w1, w2, w3, wb⟩ := hr
  refine ⟨⟨?_, ?_, ?_, ?_⟩, ?_, ?_, ?_, ?_⟩
  · exact rs_congr (h _ _ (by decide)) (fun k hk => h _ _ (Or.inr ⟨by decide, by omega⟩)) (fun k hk => h _ _ (Or.inr ⟨by decide, by omega⟩)) r1
  · exact rs_congr (h _ _ (by decide)) (fun k hk => h _ _ (Or.inr ⟨by decide, by omega⟩)) (fun k hk => h _ _ (Or.inr ⟨by decide, by omega⟩)) r2
  · exact rs_congr (h _ _ (by decide)) (fun k hk => h _ _ (Or.inr ⟨by decide, by omega⟩)) (fun k hk => h _ _ (Or.inr ⟨by decide, by omega⟩)) r3
  · exact rs_congr (h _ _ (by decide)) (fun k hk => h _ _ (Or.inr ⟨by decide, by omega⟩)) (fun k hk => h _ _ (Or.inr ⟨by decide, by omega⟩)) r4
  · exact wf_congr (h _ _ (by decide)) (fun k hk => h _ _ (Or.inr ⟨by decide, by omega⟩)) w1
  · exact wf_congr (h _ _ (by decide)) (fun k hk => h _ _ (Or.inr ⟨by decide, by omega⟩)) w2
  · exact wf_congr (h _ _ (by decide)) (fun k hk => h _ _ (Or.inr ⟨by decide, by omega⟩)) w3
  · exact bk_congr (h _ _ (by decide)) (fun k => h _ _ (Or.inl (Or.inr (Or.inl rfl)))) (fun k => h _ _ (Or.inl (Or.inr (Or.inr (Or.inl rfl))))) (fun k => h _ _ (Or.inl (Or.inr (Or.inr (Or.inr rfl))))) wb
theorem g_iv9 (k : Nat) : g_iv 109 k = none := by
  have h : jm_n2 g_ivc 109 [] = [] := by decide +kernel
  unfold g_iv
  rw [h]
  rfl
noncomputable def ck_iv (a s t : Nat) (lo u : Int) : Bool := (List.range (t - s)).all (fun j => decide (g_iv a (s + j) = some (lo, u)))
noncomputable def ck_ivh (a s t : Nat) (lo u : Int) : Bool := (List.range (t - s)).all (fun j => match g_iv a (s + j) with | some q => decide (lo ≤ q.1 ∧ q.2 ≤ u) | none => false)
/-- objects, whose fields are told apart: the field k of the object a goes by 1000 (a + 1) + k -/
noncomputable def g_obl : List Nat := [0, 1, 4, 17, 26, 30, 43, 52, 56, 69, 78, 82, 95, 104, 108, 110, 119, 128, 137, 146, 155, 164, 173, 183, 188, 189, 192]
noncomputable def vc (a k : Nat) : Nat := if g_obl.contains a = true then 1000 * (a + 1) + k else a
noncomputable def Fr (ms : List Nat) (φ ψ : hf_F) : Prop := ∀ a k : Nat, ms.contains (vc a k) = false → ψ a k = φ a k
noncomputable def ck_ivcp (a b n : Nat) : Bool := decide (¬ (b = 183 ∨ b = 184 ∨ b = 185 ∨ b = 186 ∨ b = 194 ∨ b = 195 ∨ b = 205)) && (List.range n).all (fun j => decide (g_iv b j = g_iv a j) || decide (g_iv b j = none))
noncomputable def g_ivf (a k : Nat) : Option (Int × Int) := if nfr a k then none else g_iv a k
noncomputable def ck_ivf (a s t : Nat) (lo u : Int) : Bool := (List.range (t - s)).all (fun j => decide (g_ivf a (s + j) = some (lo, u)))
section
variable {φ ψ χ : hf_F} {a b k s t n : Nat} {lo u v z : Int} {ms ms' : List Nat}
theorem iv_at (hI : Inv φ) (h : g_iv a k = some (lo, u)) : lo ≤ φ a k ∧ φ a k ≤ u := hI.1.1 a k _ h
theorem ck_iv_at (ck : ck_iv a s t lo u = true) (h1 : (s : Int) ≤ z) (h2 : z < (t : Int)) : g_iv a z.toNat = some (lo, u) := by
  have h := List.all_eq_true.mp ck (z.toNat - s) (List.mem_range.mpr (by omega))
  rw [show s + (z.toNat - s) = z.toNat by omega] at h
  exact of_decide_eq_true h
theorem ck_ivf_at (ck : ck_ivf a s t lo u = true) (h1 : (s : Int) ≤ z) (h2 : z < (t : Int)) : g_ivf a z.toNat = some (lo, u) := by
  have h := List.all_eq_true.mp ck (z.toNat - s) (List.mem_range.mpr (by omega))
  rw [show s + (z.toNat - s) = z.toNat by omega] at h
  exact of_decide_eq_true h
theorem iv_ar (hI : Inv φ) (ck : ck_iv a s t lo u = true) (h1 : (s : Int) ≤ z) (h2 : z < (t : Int)) : lo ≤ φ a z.toNat ∧ φ a z.toNat ≤ u := hI.1.1 a _ _ (ck_iv_at ck h1 h2)
theorem iv_arh (hI : Inv φ) (ck : ck_ivh a s t lo u = true) (h1 : (s : Int) ≤ z) (h2 : z < (t : Int)) : lo ≤ φ a z.toNat ∧ φ a z.toNat ≤ u := by
  have h := List.all_eq_true.mp ck (z.toNat - s) (List.mem_range.mpr (by omega))
  rw [show s + (z.toNat - s) = z.toNat by omega] at h
  cases hg : g_iv a z.toNat with
  | none => rw [hg] at h; cases h
  | some q =>
    rw [hg] at h
    have h3 := of_decide_eq_true h
    have h4 := hI.1.1 a _ q hg
    omega
/-- a store: ranges alone -/
theorem iv0_ups (hI : Iv φ) (h9 : ¬ a = 109) (h : ∀ q, g_iv a k = some q → q.1 ≤ v ∧ v ≤ q.2) : Iv (hf_up φ a k v) := by
  refine ⟨fun c j q hq => ?_, fun j hj => ?_⟩
  · by_cases hc : c = a ∧ j = k
    · obtain ⟨rfl, rfl⟩ := hc
      rw [hf_up_eq]
      exact h q hq
    · rw [hf_up_ne hc]
      exact hI.1 c j q hq
  · rw [hf_up_ne (fun q => h9 q.1.symm)]
    exact hI.2 j hj
theorem rx_up (hR : Rx φ) (hn : ¬ nfr a k) : Rx (hf_up φ a k v) := rx_congr (fun c j hc => hf_up_ne (fun q => hn (by rw [← q.1, ← q.2]; exact hc))) hR
theorem iv_ups (hI : Inv φ) (hn : ¬ nfr a k) (h9 : ¬ a = 109) (h : ∀ q, g_iv a k = some q → q.1 ≤ v ∧ v ≤ q.2) : Inv (hf_up φ a k v) := ⟨iv0_ups hI.1 h9 h, rx_up hI.2 hn⟩
theorem g_ivf_n (h : g_ivf a k = some (lo, u)) : ¬ nfr a k ∧ g_iv a k = some (lo, u) := by
  unfold g_ivf at h
  by_cases hn : nfr a k
  · rw [if_pos hn] at h; cases h
  · rw [if_neg hn] at h; exact ⟨hn, h⟩
theorem iv_up (hI : Inv φ) (h : g_ivf a k = some (lo, u)) (h1 : lo ≤ v) (h2 : v ≤ u) : Inv (hf_up φ a k v) :=
  iv_ups hI (g_ivf_n h).1 (fun q => by rw [q, show g_ivf 109 k = g_iv 109 k from if_neg (fun e => by omega), g_iv9] at h; cases h) (fun q hq => by rw [(g_ivf_n h).2] at hq; cases hq; exact ⟨h1, h2⟩)
theorem iv_upn (hI : Inv φ) (h9 : ¬ a = 109) (hn : ¬ nfr a k) (h : g_iv a k = none) : Inv (hf_up φ a k v) := iv_ups hI hn h9 (fun q hq => by rw [h] at hq; cases hq)
theorem iv_upI (hI : Inv φ) (ck : ck_ivf a s t lo u = true) (h1 : (s : Int) ≤ z) (h2 : z < (t : Int)) (h3 : lo ≤ v) (h4 : v ≤ u) : Inv (hf_up φ a z.toNat v) := iv_up hI (ck_ivf_at ck h1 h2) h3 h4
theorem iv_upIn (hI : Inv φ) (h9 : ¬ (a = 109 ∨ a = 183 ∨ a = 184 ∨ a = 185 ∨ a = 186 ∨ a = 194 ∨ a = 195 ∨ a = 205)) (h : jm_n2 g_ivc a [] = []) : Inv (hf_up φ a k v) := iv_upn hI (fun q => h9 (Or.inl q)) (fun q => by omega) (by unfold g_iv; rw [h]; rfl)
/-- a store at a place of which no range is kept -/
noncomputable def ck_ivn (a s t : Nat) : Bool := decide (¬ a = 109) && (List.range (t - s)).all (fun j => decide (g_iv a (s + j) = none) && decide (¬ nfr a (s + j)))
theorem iv_upN (hI : Inv φ) (ck : ck_ivn a s t = true) (h1 : (s : Int) ≤ z) (h2 : z < (t : Int)) : Inv (hf_up φ a z.toNat v) := by
  obtain ⟨c1, c2⟩ := Bool.and_eq_true_iff.mp ck
  have h := List.all_eq_true.mp c2 (z.toNat - s) (List.mem_range.mpr (by omega))
  rw [show s + (z.toNat - s) = z.toNat by omega] at h
  obtain ⟨h3, h4⟩ := Bool.and_eq_true_iff.mp h
  exact iv_upn hI (of_decide_eq_true c1) (of_decide_eq_true h4) (of_decide_eq_true h3)
noncomputable def ck_ivs (a s t : Nat) (v : Int) : Bool := decide (¬ (a = 109 ∨ a = 183 ∨ a = 184 ∨ a = 185 ∨ a = 186 ∨ a = 194 ∨ a = 195 ∨ a = 205)) && (List.range (t - s)).all (fun j => match g_iv a (s + j) with | some q => decide (q.1 ≤ v ∧ v ≤ q.2) | none => true)
theorem iv_upS (hI : Inv φ) (ck : ck_ivs a s t v = true) (h1 : (s : Int) ≤ z) (h2 : z < (t : Int)) : Inv (hf_up φ a z.toNat v) := by
  obtain ⟨c1, c2⟩ := Bool.and_eq_true_iff.mp ck
  have c1 := of_decide_eq_true c1
  refine iv_ups hI (fun q => by omega) (fun q => c1 (Or.inl q)) (fun q hq => ?_)
  have h := List.all_eq_true.mp c2 (z.toNat - s) (List.mem_range.mpr (by omega))
  rw [show s + (z.toNat - s) = z.toNat by omega, hq] at h
  exact of_decide_eq_true h
theorem iv_up9 (hI : Inv φ) (hv : Bf1 v) : Inv (hf_up φ 109 k v) := by
  refine ⟨⟨fun c j q hq => ?_, fun j hj => ?_⟩, rx_up hI.2 (fun q => by omega)⟩
  · by_cases hc : c = 109 ∧ j = k
    · rw [hc.1, g_iv9] at hq
      cases hq
    · rw [hf_up_ne hc]
      exact hI.1.1 c j q hq
  · by_cases hc : j = k
    · rw [hc, hf_up_eq]; exact hv
    · rw [hf_up_ne (fun q => hc q.2)]; exact hI.1.2 j hj
theorem iv_cp (hI : Inv φ) (h9 : ¬ b = 109) (ck : ck_ivcp a b n = true) : Inv (hf_cp φ a b n) := by
  obtain ⟨c1, ck⟩ := Bool.and_eq_true_iff.mp ck
  have c1 := of_decide_eq_true c1
  refine ⟨⟨fun c j q hq => ?_, fun j hj => ?_⟩, rx_congr (fun c j hc => hf_cp_ne (fun q => by rw [q.1] at hc; omega)) hI.2⟩
  · by_cases hc : c = b ∧ j < n
    · obtain ⟨rfl, hj⟩ := hc
      rw [hf_cp_eq hj]
      have h := List.all_eq_true.mp ck j (List.mem_range.mpr hj)
      rcases Bool.or_eq_true_iff.mp h with h | h
      · exact hI.1.1 a j q ((of_decide_eq_true h).symm.trans hq)
      · rw [of_decide_eq_true h] at hq
        cases hq
    · rw [hf_cp_ne hc]
      exact hI.1.1 c j q hq
  · rw [hf_cp_ne (fun q => h9 q.1.symm)]
    exact hI.1.2 j hj
theorem iv_bf (hI : Inv φ) (h1 : 0 ≤ z) (h2 : z < 8) : Bf1 (φ 109 z.toNat) := hI.1.2 _ (by omega)
theorem fr_rf : Fr ms φ φ := fun _ _ _ => rfl
theorem vc_ar (ha : g_obl.contains a = false) : vc a k = a := by unfold vc; rw [ha]; exact if_neg (by decide)
/-- a row that is not changed -/
theorem fr_at (h : Fr ms φ ψ) (a : Nat) (ck : (!(g_obl.contains a) && !(ms.contains a)) = true) (k : Nat) : ψ a k = φ a k := by
  obtain ⟨c1, c2⟩ := Bool.and_eq_true_iff.mp ck
  exact h a k (by rw [vc_ar (by simpa using c1)]; simpa using c2)
/-- a field that is not changed -/
theorem fr_fd (h : Fr ms φ ψ) (a k : Nat) (ck : ms.contains (vc a k) = false) : ψ a k = φ a k := h a k ck
theorem fr_up (h : Fr ms φ ψ) (ha : ms.contains (vc a k) = true) : Fr ms φ (hf_up ψ a k v) := by
  intro c j hc
  rw [hf_up_ne (fun q => by rw [q.1, q.2, ha] at hc; cases hc)]
  exact h c j hc
theorem fr_upa (h : Fr ms φ ψ) (ck : (!(g_obl.contains a) && ms.contains a) = true) : Fr ms φ (hf_up ψ a k v) := by
  obtain ⟨c1, c2⟩ := Bool.and_eq_true_iff.mp ck
  exact fr_up h (by rw [vc_ar (by simpa using c1)]; exact c2)
theorem fr_cp (h : Fr ms φ ψ) (ck : (!(g_obl.contains b) && ms.contains b) = true) : Fr ms φ (hf_cp ψ a b n) := by
  obtain ⟨c1, c2⟩ := Bool.and_eq_true_iff.mp ck
  intro c j hc
  rw [hf_cp_ne (fun q => by rw [q.1, vc_ar (by simpa using c1), c2] at hc; cases hc)]
  exact h c j hc
theorem fr_tr (h : Fr ms φ ψ) (h2 : Fr ms' ψ χ) (hs : ms'.all (fun c => ms.contains c) = true) : Fr ms φ χ := by
  intro c j hc
  have hc2 : ms'.contains (vc c j) = false := by
    cases hq : ms'.contains (vc c j) with
    | false => rfl
    | true =>
      have := List.all_eq_true.mp hs (vc c j) (by simpa using hq)
      rw [hc] at this
      cases this
  exact (h2 c j hc2).trans (h c j hc)
end
theorem hb_r32 (w : Int32) : -2147483648 ≤ w.toInt ∧ w.toInt ≤ 2147483647 := by
  have h1 := Int32.le_toInt w
  have h2 := Int32.toInt_lt w
  omega
theorem hr_and (z y : Int) : -2147483648 ≤ hb_and z y ∧ hb_and z y ≤ 2147483647 := hb_r32 _
theorem hr_or (z y : Int) : -2147483648 ≤ hb_or z y ∧ hb_or z y ≤ 2147483647 := hb_r32 _
theorem hr_xor (z y : Int) : -2147483648 ≤ hb_xor z y ∧ hb_xor z y ≤ 2147483647 := hb_r32 _
theorem hr_shl (z y : Int) : -2147483648 ≤ hb_shl z y ∧ hb_shl z y ≤ 2147483647 := hb_r32 _
theorem hr_shr (z y : Int) : -2147483648 ≤ hb_shr z y ∧ hb_shr z y ≤ 2147483647 := hb_r32 _
theorem hr_ushr (z y : Int) : -2147483648 ≤ hb_ushr z y ∧ hb_ushr z y ≤ 2147483647 := hb_r32 _
theorem hr_l2i (z : Int) : -2147483648 ≤ hb_l2i z ∧ hb_l2i z ≤ 2147483647 := hb_r32 _
theorem hr_jmb (z : Int) : -128 ≤ jm_b z ∧ jm_b z ≤ 127 := by
  show -128 ≤ (vp_nar .byte (Int32.ofInt z)).toInt ∧ (vp_nar .byte (Int32.ofInt z)).toInt ≤ 127
  have h1 := Int8.le_toInt (Int32.ofInt z).toInt8
  have h2 := Int8.toInt_lt (Int32.ofInt z).toInt8
  have e : (vp_nar .byte (Int32.ofInt z)).toInt = (Int32.ofInt z).toInt8.toInt := by
    show (Int32.ofInt z).toInt8.toInt32.toInt = _
    rw [Int8.toInt_toInt32]
  omega
theorem hr_i2b (z : Int) : -128 ≤ hb_i2b z ∧ hb_i2b z ≤ 127 := by
  have h1 := Int8.le_toInt (Int32.ofInt z).toInt8
  have h2 := Int8.toInt_lt (Int32.ofInt z).toInt8
  have e : hb_i2b z = (Int32.ofInt z).toInt8.toInt := by
    show (Int32.ofInt z).toInt8.toInt32.toInt = _
    rw [Int8.toInt_toInt32]
  omega
theorem hr_cmp (z y : Int) : -1 ≤ jm_cmp z y ∧ jm_cmp z y ≤ 1 := by
  unfold jm_cmp
  split
  · omega
  · split <;> omega
theorem hr_max (z y : Int) : (if z < y then y else z) = z ∨ (if z < y then y else z) = y := by split <;> simp
theorem hr_min (z y : Int) : (if y < z then y else z) = z ∨ (if y < z then y else z) = y := by split <;> simp
theorem hr_tmod {z y : Int} (hz : 0 ≤ z) (hy : 0 < y) : 0 ≤ z.tmod y ∧ z.tmod y < y := ⟨Int.tmod_nonneg _ hz, Int.tmod_lt_of_pos _ hy⟩
theorem hr_tdiv {z y : Int} (hz : 0 ≤ z) (hy : 0 < y) : 0 ≤ z.tdiv y ∧ z.tdiv y ≤ z := by
  rw [Int.tdiv_eq_ediv_of_nonneg hz]
  exact ⟨Int.ediv_nonneg hz (by omega), Int.ediv_le_self _ hz⟩
theorem hr_ushr8 (z : Int) : 0 ≤ hb_ushr z 8 ∧ hb_ushr z 8 ≤ 16777215 := by
  have h := pk_ushr (Int32.ofInt z) (Int32.ofInt 8) 8 (by decide)
  have h2 : (Int32.ofInt z).toBitVec.toNat < 2 ^ 32 := (Int32.ofInt z).toBitVec.isLt
  have h3 : hb_ushr z 8 = (((Int32.ofInt z).toUInt32 >>> ((Int32.ofInt 8).toUInt32 &&& Int32.toUInt32 31)).toInt32).toBitVec.toInt := rfl
  rw [h3, BitVec.toInt_eq_toNat_cond, h]
  split <;> omega
theorem hr_asa {sc : List Int} {d m pc : Nat} {L : jm_L} {S : List jm_V} {φ : hf_F} {x : Nat} {Q : Option jm_V → hf_F → Nat → Prop} {a0 : Int} {j w : Int} (hc : jm_cq m pc 16 a0 3 4 = true) (hb : Bf1 w) (h0 : 0 ≤ j) (h1 : j < 8) (h : hw sc d m (pc + 1) L S (hf_up φ 109 j.toNat w) x Q) : hw sc d m pc L ((2, w) :: (0, j) :: (2, 109) :: S) φ x Q := by
  have hk9 : hf_k 109 = 4 ∧ hf_n 109 = 8 := by decide +kernel
  have hpl : hf_pl 109 = true := by decide +kernel
  have hkw : ∃ o : Nat, w = (o : Int) ∧ o < 209 ∧ hf_k o = 14 := by
    rcases hb with rfl | rfl | rfl | rfl | rfl | rfl | rfl | rfl
    · exact ⟨110, rfl, by decide, by decide +kernel⟩
    · exact ⟨119, rfl, by decide, by decide +kernel⟩
    · exact ⟨128, rfl, by decide, by decide +kernel⟩
    · exact ⟨137, rfl, by decide, by decide +kernel⟩
    · exact ⟨146, rfl, by decide, by decide +kernel⟩
    · exact ⟨155, rfl, by decide, by decide +kernel⟩
    · exact ⟨164, rfl, by decide, by decide +kernel⟩
    · exact ⟨173, rfl, by decide, by decide +kernel⟩
  obtain ⟨o, ho, ho2, ho3⟩ := hkw
  refine hw_stp hc (by decide) (by decide) ?_ h
  show jm_ast (16, a0, 3, 4) pc L ((2, w) :: (0, j) :: (2, ((109 : Nat) : Int)) :: S) (hf_h φ x) = _
  unfold jm_ast
  dsimp only
  rw [if_pos ⟨rfl, rfl⟩, hf_cell (show 109 < 209 by decide)]
  dsimp only
  rw [hf_len, hf_ix h0 (by rw [hk9.2]; exact h1) (by rw [hk9.2]; decide)]
  dsimp only
  rw [if_neg (fun q => absurd q.1 (by decide)), if_neg (fun q => absurd q.1 (by decide)), if_neg (fun q => absurd q.1 (by decide)), if_neg (fun q => absurd q.1 (by decide)), if_pos ⟨rfl, hk9.1, rfl⟩, ho, hf_cell ho2]
  dsimp only
  rw [if_pos ho3, ← ho, show (((109 : Nat) : Int)).toNat = 109 from rfl, hf_put (hf_pl_r hpl _)]
theorem hr_and1 (z : Int) : 0 ≤ hb_and z 1 ∧ hb_and z 1 ≤ 1 := by
  obtain ⟨j, hj, e⟩ := pk_andE (Int32.ofInt z) (m := Int32.ofInt 1) 1 (by decide)
  have h : hb_and z 1 = (j : Int) := by
    show (Int32.ofInt z &&& Int32.ofInt 1).toInt = _
    rw [e, nI_toInt (by omega)]
  omega
theorem hr_and255 (z : Int) : 0 ≤ hb_and z 255 ∧ hb_and z 255 ≤ 255 := by
  obtain ⟨j, hj, e⟩ := pk_andE (Int32.ofInt z) (m := Int32.ofInt 255) 8 (by decide)
  have h : hb_and z 255 = (j : Int) := by
    show (Int32.ofInt z &&& Int32.ofInt 255).toInt = _
    rw [e, nI_toInt (by omega)]
  omega
theorem hr_cmp0 (z : Int) : z = 0 → jm_cmp z 0 = 0 := by
  intro h
  rw [h]
  decide
theorem bf_nn {v : Int} (h : Bf1 v) : 0 ≤ v := by unfold Bf1 at h; omega

/-! values of which no range is kept -/
theorem hr_n (z : Int) : -2147483648 ≤ jm_n z ∧ jm_n z ≤ 2147483647 := hb_r32 _
theorem hb_divn {z y : Int} (h : ¬ jm_n y = 0) : jm_bin 9 z y = some ((jm_n z).tdiv (jm_n y)) := by
  show (if jm_n y = 0 then none else some ((jm_n z).tdiv (jm_n y))) = _
  rw [if_neg h]
theorem hb_remn {z y : Int} (h : ¬ jm_n y = 0) : jm_bin 10 z y = some ((jm_n z).tmod (jm_n y)) := by
  show (if jm_n y = 0 then none else some ((jm_n z).tmod (jm_n y))) = _
  rw [if_neg h]
theorem hr_tmodn (z y : Int) (h : ¬ jm_n y = 0) : jm_n ((jm_n z).tmod (jm_n y)) = (jm_n z).tmod (jm_n y) ∧ (0 < jm_n y → - jm_n y < (jm_n z).tmod (jm_n y) ∧ (jm_n z).tmod (jm_n y) < jm_n y) ∧ (jm_n y < 0 → jm_n y < (jm_n z).tmod (jm_n y) ∧ (jm_n z).tmod (jm_n y) < - jm_n y) := by
  have h1 : ((jm_n z).tmod (jm_n y)).natAbs < (jm_n y).natAbs := by
    rw [Int.natAbs_tmod]
    exact Nat.mod_lt _ (by omega)
  have h2 := hr_n y
  refine ⟨hi_n (by unfold hi; omega), fun q => by omega, fun q => by omega⟩
theorem hcnd_tn {b : Nat} {z w : Int} : (jm_cnd b z w = true ↔ hcnd b (jm_n z) (jm_n w)) := by
  match b with
  | 0 => exact decide_eq_true_iff
  | 1 => exact decide_eq_true_iff
  | 2 => exact decide_eq_true_iff
  | 3 => exact decide_eq_true_iff
  | 4 => exact decide_eq_true_iff
  | b + 5 => exact decide_eq_true_iff
section
variable {sc : List Int} {d m pc : Nat} {L L' : jm_L} {S : List jm_V} {φ : hf_F} {x : Nat} {Q : Option jm_V → hf_F → Nat → Prop}
theorem hw_if2n {a0 : Int} {b e : Nat} {y z : Int} (hc : jm_cq m pc 10 a0 b e = true) (h1 : hcnd b (jm_n z) (jm_n y) → hw sc d m e L S φ x Q) (h2 : ¬ hcnd b (jm_n z) (jm_n y) → hw sc d m (pc + 3) L S φ x Q) : hw sc d m pc L ((0, y) :: (0, z) :: S) φ x Q := by
  have ht := hcnd_tn (b := b) (z := z) (w := y)
  cases hb : jm_cnd b z y with
  | true =>
    refine hw_stp (pc' := e) hc (by decide) (by decide) ?_ (h1 (ht.mp hb))
    show (if (0 : Nat) = 0 ∧ (0 : Nat) = 0 then some (if jm_cnd b z y then e else pc + 3, L, S, hf_h φ x) else none) = _
    rw [if_pos ⟨rfl, rfl⟩, hb]
    rfl
  | false =>
    refine hw_stp (pc' := pc + 3) hc (by decide) (by decide) ?_ (h2 (fun q => by rw [ht.mpr q] at hb; cases hb))
    show (if (0 : Nat) = 0 ∧ (0 : Nat) = 0 then some (if jm_cnd b z y then e else pc + 3, L, S, hf_h φ x) else none) = _
    rw [if_pos ⟨rfl, rfl⟩, hb]
    rfl
theorem hw_if2l {a0 : Int} {b e : Nat} {y z : Int} (hc : jm_cq m pc 10 a0 b e = true) (hy : hi y) (h1 : hcnd b (jm_n z) y → hw sc d m e L S φ x Q) (h2 : ¬ hcnd b (jm_n z) y → hw sc d m (pc + 3) L S φ x Q) : hw sc d m pc L ((0, y) :: (0, z) :: S) φ x Q :=
  hw_if2n hc (by rw [hi_n hy]; exact h1) (by rw [hi_n hy]; exact h2)
theorem hw_if2r {a0 : Int} {b e : Nat} {y z : Int} (hc : jm_cq m pc 10 a0 b e = true) (hz : hi z) (h1 : hcnd b z (jm_n y) → hw sc d m e L S φ x Q) (h2 : ¬ hcnd b z (jm_n y) → hw sc d m (pc + 3) L S φ x Q) : hw sc d m pc L ((0, y) :: (0, z) :: S) φ x Q :=
  hw_if2n hc (by rw [hi_n hz]; exact h1) (by rw [hi_n hz]; exact h2)
theorem hw_ifn {a0 : Int} {b e : Nat} {z : Int} (hc : jm_cq m pc 9 a0 b e = true) (h1 : hcnd b (jm_n z) 0 → hw sc d m e L S φ x Q) (h2 : ¬ hcnd b (jm_n z) 0 → hw sc d m (pc + 3) L S φ x Q) : hw sc d m pc L ((0, z) :: S) φ x Q := by
  have ht := hcnd_tn (b := b) (z := z) (w := 0)
  rw [show jm_n 0 = 0 by decide] at ht
  cases hb : jm_cnd b z 0 with
  | true =>
    refine hw_stp (pc' := e) hc (by decide) (by decide) ?_ (h1 (ht.mp hb))
    show (if (0 : Nat) = 0 then some (if jm_cnd b z 0 then e else pc + 3, L, S, hf_h φ x) else none) = _
    rw [if_pos rfl, hb]
    rfl
  | false =>
    refine hw_stp (pc' := pc + 3) hc (by decide) (by decide) ?_ (h2 (fun q => by rw [ht.mpr q] at hb; cases hb))
    show (if (0 : Nat) = 0 then some (if jm_cnd b z 0 then e else pc + 3, L, S, hf_h φ x) else none) = _
    rw [if_pos rfl, hb]
    rfl
theorem hw_maxn {a0 : Int} {e : Nat} {y z : Int} (hc : jm_cq m pc 26 a0 0 e = true) (h8 : jm_cat S ≤ 8) (h : hw sc d m (pc + 3) L ((0, if jm_n z < jm_n y then y else z) :: S) φ x Q) : hw sc d m pc L ((0, y) :: (0, z) :: S) φ x Q := by
  refine hw_stp hc (by decide) (by decide) ?_ h
  show (if (0 : Nat) = 0 ∧ (0 : Nat) = 0 ∧ jm_cat S ≤ 8 then some (pc + 3, L, (0, if (0 : Nat) = 0 then (if jm_n z < jm_n y then y else z) else _) :: S, hf_h φ x) else none) = _
  rw [if_pos ⟨rfl, rfl, h8⟩, if_pos rfl]
theorem hw_minn {a0 : Int} {e : Nat} {y z : Int} (hc : jm_cq m pc 26 a0 1 e = true) (h8 : jm_cat S ≤ 8) (h : hw sc d m (pc + 3) L ((0, if jm_n y < jm_n z then y else z) :: S) φ x Q) : hw sc d m pc L ((0, y) :: (0, z) :: S) φ x Q := by
  refine hw_stp hc (by decide) (by decide) ?_ h
  show (if (0 : Nat) = 0 ∧ (0 : Nat) = 0 ∧ jm_cat S ≤ 8 then some (pc + 3, L, (0, if (1 : Nat) = 0 then _ else (if jm_n y < jm_n z then y else z)) :: S, hf_h φ x) else none) = _
  rw [if_pos ⟨rfl, rfl, h8⟩, if_neg (by decide)]
end
theorem hr_maxn (z y : Int) : jm_n z ≤ jm_n (if jm_n z < jm_n y then y else z) ∧ jm_n y ≤ jm_n (if jm_n z < jm_n y then y else z) := by split <;> omega
theorem hr_minn (z y : Int) : jm_n (if jm_n y < jm_n z then y else z) ≤ jm_n z ∧ jm_n (if jm_n y < jm_n z then y else z) ≤ jm_n y := by split <;> omega
theorem hr_shl1 (k : Int) : 0 ≤ k → k ≤ 8 → 1 ≤ hb_shl 1 k ∧ hb_shl 1 k ≤ 256 := by
  intro h1 h2
  have h : k = 0 ∨ k = 1 ∨ k = 2 ∨ k = 3 ∨ k = 4 ∨ k = 5 ∨ k = 6 ∨ k = 7 ∨ k = 8 := by omega
  rcases h with rfl | rfl | rfl | rfl | rfl | rfl | rfl | rfl | rfl <;> decide
theorem hr_and0 (z y : Int) : z = 0 → hb_and z y = 0 := by
  intro h
  subst h
  show (Int32.ofInt 0 &&& Int32.ofInt y).toInt = 0
  rw [show Int32.ofInt 0 = 0 from rfl, Int32.zero_and]
  rfl
theorem hr_shr0 (z y : Int) : z = 0 → hb_shr z y = 0 := by
  intro h
  subst h
  show (Int32.ofInt 0 >>> (Int32.ofInt y &&& 31)).toInt = 0
  rw [show Int32.ofInt 0 = 0 from rfl, Int32.zero_shiftRight]
  rfl
/-! a row written place by place -/
noncomputable def hf_mp (φ : hf_F) (b ob n : Nat) (f : Nat → Int) : hf_F := fun c j => if c = b ∧ ob ≤ j ∧ j < ob + n then f (j - ob) else φ c j
section
variable {φ ψ : hf_F} {a b c k s t n ob oa j : Nat} {v z : Int} {ms : List Nat} {f : Nat → Int}
theorem hf_mp_ne (h : ¬ (c = b ∧ ob ≤ j ∧ j < ob + n)) : hf_mp φ b ob n f c j = φ c j := if_neg h
theorem hf_mp_in (h1 : ob ≤ j) (h2 : j < ob + n) : hf_mp φ b ob n f b j = f (j - ob) := if_pos ⟨rfl, h1, h2⟩
theorem hf_mp_eq (h : j < n) : hf_mp φ b ob n f b (ob + j) = f j := by
  rw [hf_mp_in (by omega) (by omega), Nat.add_sub_cancel_left]
theorem hf_mp_0 : hf_mp φ b ob 0 f = φ := by
  funext c j
  exact hf_mp_ne (by omega)
theorem hf_mp_s (hk : k = ob + n) (hv : v = f n) : hf_up (hf_mp φ b ob n f) b k v = hf_mp φ b ob (n + 1) f := by
  funext c j
  subst hk
  subst hv
  by_cases h : c = b ∧ j = ob + n
  · obtain ⟨rfl, rfl⟩ := h
    rw [hf_up_eq, hf_mp_eq (by omega)]
  · rw [hf_up_ne h]
    by_cases h2 : c = b ∧ ob ≤ j ∧ j < ob + n
    · obtain ⟨rfl, h3, h4⟩ := h2
      rw [hf_mp_in h3 h4, hf_mp_in h3 (by omega)]
    · rw [hf_mp_ne h2, hf_mp_ne (fun q => by
        have : ¬ j = ob + n := fun e => h ⟨q.1, e⟩
        exact h2 ⟨q.1, q.2.1, by omega⟩)]
theorem fr_mp (h : Fr ms φ ψ) (ck : (!(g_obl.contains b) && ms.contains b) = true) : Fr ms φ (hf_mp ψ b ob n f) := by
  obtain ⟨c1, c2⟩ := Bool.and_eq_true_iff.mp ck
  intro c j hc
  rw [hf_mp_ne (fun q => by rw [q.1, vc_ar (by simpa using c1), c2] at hc; cases hc)]
  exact h c j hc
theorem iv0_mp (hI : Iv φ) (h9 : ¬ b = 109) (h : ∀ j, j < n → ∀ q, g_iv b (ob + j) = some q → q.1 ≤ f j ∧ f j ≤ q.2) : Iv (hf_mp φ b ob n f) := by
  refine ⟨fun c j q hq => ?_, fun j hj => ?_⟩
  · by_cases hc : c = b ∧ ob ≤ j ∧ j < ob + n
    · obtain ⟨rfl, h1, h2⟩ := hc
      rw [hf_mp_in h1 h2]
      exact h (j - ob) (by omega) q (by rw [show ob + (j - ob) = j by omega]; exact hq)
    · rw [hf_mp_ne hc]
      exact hI.1 c j q hq
  · rw [hf_mp_ne (fun q => h9 q.1.symm)]
    exact hI.2 j hj
theorem rx_mp (hR : Rx φ) (h : ∀ j, j < n → ¬ nfr b (ob + j)) : Rx (hf_mp φ b ob n f) :=
  rx_congr (fun c j hc => hf_mp_ne (fun q => h (j - ob) (by omega) (by rw [show ob + (j - ob) = j by omega, ← q.1]; exact hc))) hR
noncomputable def ck_mp0 (a oa b ob n : Nat) : Bool := decide (¬ b = 109) && (List.range n).all (fun j => decide (g_iv b (ob + j) = g_iv a (oa + j)) || decide (g_iv b (ob + j) = none))
noncomputable def ck_mpf (b ob n : Nat) : Bool := (List.range n).all (fun j => decide (¬ nfr b (ob + j)))
theorem iv0_mpc (hI : Iv φ) (ck : ck_mp0 a oa b ob n = true) : Iv (hf_mp φ b ob n (fun j => φ a (oa + j))) := by
  obtain ⟨c1, c2⟩ := Bool.and_eq_true_iff.mp ck
  refine iv0_mp hI (of_decide_eq_true c1) (fun j hj q hq => ?_)
  rcases Bool.or_eq_true_iff.mp (List.all_eq_true.mp c2 j (List.mem_range.mpr hj)) with h | h
  · exact hI.1 a (oa + j) q ((of_decide_eq_true h).symm.trans hq)
  · rw [of_decide_eq_true h] at hq
    cases hq
theorem iv_mpc (hI : Inv φ) (ck : ck_mp0 a oa b ob n = true) (ck2 : ck_mpf b ob n = true) : Inv (hf_mp φ b ob n (fun j => φ a (oa + j))) :=
  ⟨iv0_mpc hI.1 ck, rx_mp hI.2 (fun j hj => of_decide_eq_true (List.all_eq_true.mp ck2 j (List.mem_range.mpr hj)))⟩
noncomputable def ck_mpk (b ob n : Nat) (v : Int) : Bool := decide (¬ b = 109) && (List.range n).all (fun j => match g_iv b (ob + j) with | some q => decide (q.1 ≤ v ∧ v ≤ q.2) | none => true)
theorem iv0_mpk (hI : Iv φ) (ck : ck_mpk b ob n v = true) : Iv (hf_mp φ b ob n (fun _ => v)) := by
  obtain ⟨c1, c2⟩ := Bool.and_eq_true_iff.mp ck
  refine iv0_mp hI (of_decide_eq_true c1) (fun j hj q hq => ?_)
  have h := List.all_eq_true.mp c2 j (List.mem_range.mpr hj)
  rw [hq] at h
  exact of_decide_eq_true h
theorem iv_mpk (hI : Inv φ) (ck : ck_mpk b ob n v = true) (ck2 : ck_mpf b ob n = true) : Inv (hf_mp φ b ob n (fun _ => v)) :=
  ⟨iv0_mpk hI.1 ck, rx_mp hI.2 (fun j hj => of_decide_eq_true (List.all_eq_true.mp ck2 j (List.mem_range.mpr hj)))⟩
/-- one of the eight kept states (199) from s, back to s, from before -/
noncomputable def ck_mpU (a oa b ob st n m : Nat) : Bool := (List.range m).all (fun u => ck_mp0 a oa b (ob + st * u) n && ck_mpf b (ob + st * u) n)
noncomputable def ck_mpV (a oa st b ob n m : Nat) : Bool := (List.range m).all (fun u => ck_mp0 a (oa + st * u) b ob n && ck_mpf b ob n)
theorem iv_mpU {st m : Nat} (hI : Inv φ) (ck : ck_mpU a oa b 0 st n m = true) (h1 : 0 ≤ z) (h2 : z < (m : Int)) : Inv (hf_mp φ b ((st : Int) * z).toNat n (fun j => φ a (oa + j))) := by
  have h := List.all_eq_true.mp ck z.toNat (List.mem_range.mpr (by omega))
  obtain ⟨c1, c2⟩ := Bool.and_eq_true_iff.mp h
  have e : ((st : Int) * z).toNat = 0 + st * z.toNat := by
    have : (z.toNat : Int) = z := Int.toNat_of_nonneg h1
    rw [Nat.zero_add, ← this, ← Int.natCast_mul, Int.toNat_natCast, this]
  rw [e]
  exact iv_mpc hI c1 c2
theorem iv_mpV {st m : Nat} (hI : Inv φ) (ck : ck_mpV a 0 st b ob n m = true) (h1 : 0 ≤ z) (h2 : z < (m : Int)) : Inv (hf_mp φ b ob n (fun j => φ a (((st : Int) * z).toNat + j))) := by
  have h := List.all_eq_true.mp ck z.toNat (List.mem_range.mpr (by omega))
  obtain ⟨c1, c2⟩ := Bool.and_eq_true_iff.mp h
  have e : ((st : Int) * z).toNat = 0 + st * z.toNat := by
    have : (z.toNat : Int) = z := Int.toNat_of_nonneg h1
    rw [Nat.zero_add, ← this, ← Int.natCast_mul, Int.toNat_natCast, this]
  rw [e]
  exact iv_mpc hI c1 c2
end
