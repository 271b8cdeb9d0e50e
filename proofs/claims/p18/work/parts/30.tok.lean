/-! TOKENS: what a token is, as a function of the tape t, its size n, the bytes allowed M and the place p -/
noncomputable def SKn (t : Nat → Int) (n : Int) : Nat → Int → Int
  | 0, p => p
  | f + 1, p => if p < n ∧ (t p.toNat = 32 ∨ t p.toNat = 10) then SKn t n f (p + 1) else p
noncomputable def SK (t : Nat → Int) (n p : Int) : Int := SKn t n (n - p).toNat p
noncomputable def REn (t : Nat → Int) (n : Int) : Nat → Int → Int
  | 0, p => p
  | f + 1, p => if p < n ∧ ((97 ≤ t p.toNat ∧ t p.toNat ≤ 122) ∨ (48 ≤ t p.toNat ∧ t p.toNat ≤ 57)) then REn t n f (p + 1) else p
noncomputable def RE (t : Nat → Int) (n p : Int) : Int := REn t n (n - p).toNat p
noncomputable def LCn (t : Nat → Int) (b : Int) : Nat → Int
  | 0 => 0
  | k + 1 => if 97 ≤ t (b + k).toNat ∧ t (b + k).toNat ≤ 122 then LCn t b k + 1 else LCn t b k
noncomputable def C5n (t : Nat → Int) (b : Int) : Nat → Int
  | 0 => 0
  | k + 1 => if 97 ≤ t (b + k).toNat ∧ t (b + k).toNat ≤ 122 then C5n t b k * 32 + (t (b + k).toNat - 96) else C5n t b k
noncomputable def NVn (t : Nat → Int) (b : Int) : Nat → Int
  | 0 => 0
  | k + 1 => if 97 ≤ t (b + k).toNat ∧ t (b + k).toNat ≤ 122 then NVn t b k else NVn t b k * 10 + (t (b + k).toNat - 48)
noncomputable def LC (t : Nat → Int) (b e : Int) : Int := LCn t b (e - b).toNat
noncomputable def C5 (t : Nat → Int) (b e : Int) : Int := C5n t b (e - b).toNat
noncomputable def NV (t : Nat → Int) (b e : Int) : Int := NVn t b (e - b).toNat
theorem SK_s (t : Nat → Int) (n p : Int) : (p < n ∧ (t p.toNat = 32 ∨ t p.toNat = 10)) → SK t n p = SK t n (p + 1) := by
  intro h
  unfold SK
  have e : (n - p).toNat = (n - (p + 1)).toNat + 1 := by omega
  rw [e, SKn, if_pos h]
theorem SK_e (t : Nat → Int) (n p : Int) : ¬ (p < n ∧ (t p.toNat = 32 ∨ t p.toNat = 10)) → SK t n p = p := by
  intro h
  unfold SK
  cases (n - p).toNat with
  | zero => rfl
  | succ f => rw [SKn, if_neg h]
theorem RE_s (t : Nat → Int) (n p : Int) : (p < n ∧ ((97 ≤ t p.toNat ∧ t p.toNat ≤ 122) ∨ (48 ≤ t p.toNat ∧ t p.toNat ≤ 57))) → RE t n p = RE t n (p + 1) := by
  intro h
  unfold RE
  have e : (n - p).toNat = (n - (p + 1)).toNat + 1 := by omega
  rw [e, REn, if_pos h]
theorem RE_e (t : Nat → Int) (n p : Int) : ¬ (p < n ∧ ((97 ≤ t p.toNat ∧ t p.toNat ≤ 122) ∨ (48 ≤ t p.toNat ∧ t p.toNat ≤ 57))) → RE t n p = p := by
  intro h
  unfold RE
  cases (n - p).toNat with
  | zero => rfl
  | succ f => rw [REn, if_neg h]
theorem REn_ge (t : Nat → Int) (n : Int) : ∀ (f : Nat) (p : Int), p ≤ REn t n f p := by
  intro f
  induction f with
  | zero => intro p; exact Int.le_refl _
  | succ f ih =>
    intro p
    rw [REn]
    split
    · have := ih (p + 1); omega
    · exact Int.le_refl _
theorem RE_ge (t : Nat → Int) (n p : Int) : p ≤ RE t n p := REn_ge t n _ p
theorem LC_0 (t : Nat → Int) (b : Int) : LC t b b = 0 ∧ C5 t b b = 0 ∧ NV t b b = 0 := by
  unfold LC C5 NV
  rw [show (b - b).toNat = 0 by omega]
  exact ⟨rfl, rfl, rfl⟩
theorem LC_s (t : Nat → Int) (b e : Int) : b ≤ e → ((97 ≤ t e.toNat ∧ t e.toNat ≤ 122) → LC t b (e + 1) = LC t b e + 1 ∧ C5 t b (e + 1) = C5 t b e * 32 + (t e.toNat - 96) ∧ NV t b (e + 1) = NV t b e) ∧ (¬ (97 ≤ t e.toNat ∧ t e.toNat ≤ 122) → LC t b (e + 1) = LC t b e ∧ C5 t b (e + 1) = C5 t b e ∧ NV t b (e + 1) = NV t b e * 10 + (t e.toNat - 48)) := by
  intro h
  unfold LC C5 NV
  rw [show (e + 1 - b).toNat = (e - b).toNat + 1 by omega, LCn, C5n, NVn, show (b + ((e - b).toNat : Int)).toNat = e.toNat by omega]
  constructor
  · intro q; rw [if_pos q, if_pos q, if_pos q]; exact ⟨rfl, rfl, rfl⟩
  · intro q; rw [if_neg q, if_neg q, if_neg q]; exact ⟨rfl, rfl, rfl⟩
theorem LC_b (t : Nat → Int) (b e : Int) : b ≤ e → 0 ≤ LC t b e ∧ LC t b e ≤ e - b := by
  intro h
  have hh : ∀ k : Nat, 0 ≤ LCn t b k ∧ LCn t b k ≤ k := by
    intro k
    induction k with
    | zero => exact ⟨Int.le_refl _, Int.le_refl _⟩
    | succ k ih => rw [LCn]; split <;> omega
  have := hh (e - b).toNat
  unfold LC
  omega
/-- the word in bytes out of the word in letters -/
noncomputable def G8n : Nat → Int → Int
  | 0, _ => 0
  | f + 1, c => if c ≤ 0 then 0 else G8n f (c / 32) * 256 + (c % 32 + 96)
noncomputable def G8 (c : Int) : Int := G8n 8 c
noncomputable def U5n : Nat → Int → Int
  | 0, _ => 0
  | f + 1, w => if w ≤ 0 then 0 else U5n f (w / 256) * 32 + (w % 256 - 96)
/-- each letter is one -/
noncomputable def DGn : Nat → Int → Bool
  | 0, _ => true
  | f + 1, c => decide (c ≤ 0) || (decide (1 ≤ c % 32) && decide (c % 32 ≤ 26) && DGn f (c / 32))
noncomputable def VW (c : Int) : Prop := 0 ≤ c ∧ c < 34359738368 ∧ U5n 8 (G8 c) = c ∧ DGn 8 c = true
theorem DGn_m : ∀ (f : Nat) (c : Int), DGn (f + 1) c = true → DGn f c = true := by
  intro f
  induction f with
  | zero => intro c _; rfl
  | succ f ih =>
    intro c h
    rw [DGn] at h ⊢
    simp only [Bool.or_eq_true, Bool.and_eq_true, decide_eq_true_eq] at h ⊢
    rcases h with h | ⟨h1, h2⟩
    · exact Or.inl h
    · exact Or.inr ⟨h1, ih _ h2⟩
theorem G8n_m : ∀ (f : Nat) (c : Int), c < 32 ^ f → G8n (f + 1) c = G8n f c := by
  intro f
  induction f with
  | zero => intro c h; show (if c ≤ 0 then 0 else _) = (0 : Int); rw [if_pos (by have : c < 1 := h; omega)]
  | succ f ih =>
    intro c h
    rw [G8n]
    conv => rhs; rw [G8n]
    split
    · rfl
    · rw [ih (c / 32) (by rw [Int.pow_succ] at h; omega)]
theorem U5n_m : ∀ (f : Nat) (c : Int), c < 256 ^ f → U5n (f + 1) c = U5n f c := by
  intro f
  induction f with
  | zero => intro c h; show (if c ≤ 0 then 0 else _) = (0 : Int); rw [if_pos (by have : c < 1 := h; omega)]
  | succ f ih =>
    intro c h
    rw [U5n]
    conv => rhs; rw [U5n]
    split
    · rfl
    · rw [ih (c / 256) (by rw [Int.pow_succ] at h; omega)]
theorem G8n_b : ∀ (f : Nat) (c : Int), 0 ≤ G8n f c ∧ G8n f c < 256 ^ f := by
  intro f
  induction f with
  | zero => intro c; exact ⟨Int.le_refl _, (by decide : (0 : Int) < 1)⟩
  | succ f ih =>
    intro c
    rw [G8n]
    have h0 : (0 : Int) < 256 ^ f := Int.pow_pos (by decide)
    split
    · rw [Int.pow_succ]; omega
    · have := ih (c / 32); rw [Int.pow_succ]; omega
theorem G8_b (c : Int) : c < 34359738368 → 0 ≤ G8 c ∧ G8 c < 72057594037927936 := by
  intro h
  have e : G8 c = G8n 7 c := G8n_m 7 c (by show c < 34359738368; exact h)
  rw [e]
  exact G8n_b 7 c
theorem G8_s (c x : Int) : 0 ≤ c → c < 1073741824 → 97 ≤ x → x ≤ 122 → G8 (c * 32 + (x - 96)) = G8 c * 256 + x := by
  intro h1 h2 h3 h4
  have e : G8 c = G8n 7 c := G8n_m 7 c (by show c < 34359738368; omega)
  rw [e]
  show G8n 8 _ = _
  rw [G8n, if_neg (by omega), show (c * 32 + (x - 96)) / 32 = c by omega, show (c * 32 + (x - 96)) % 32 + 96 = x by omega]
theorem U5_s (w x : Int) : 0 ≤ w → w < 281474976710656 → 97 ≤ x → x ≤ 122 → U5n 8 (w * 256 + x) = U5n 8 w * 32 + (x - 96) := by
  intro h1 h2 h3 h4
  rw [U5n_m 7 w (by show w < 72057594037927936; omega)]
  rw [U5n, if_neg (by omega), show (w * 256 + x) / 256 = w by omega, show (w * 256 + x) % 256 - 96 = x - 96 by omega]
theorem VW_i {c d : Int} (h1 : VW c) (h2 : VW d) : G8 c = G8 d → c = d := by
  intro h
  have := h1.2.2.1
  rw [h, h2.2.2.1] at this
  exact this.symm
theorem VW_s (c x : Int) : VW c → c < 1073741824 → 97 ≤ x → x ≤ 122 → VW (c * 32 + (x - 96)) := by
  intro h h2 h3 h4
  refine ⟨by have := h.1; omega, by omega, ?_, ?_⟩
  have hb : 0 ≤ G8 c ∧ G8 c < 281474976710656 := by
    have e : G8 c = G8n 7 c := G8n_m 7 c (by show c < 34359738368; omega)
    have e2 : G8n 7 c = G8n 6 c := G8n_m 6 c (by show c < 1073741824; omega)
    rw [e, e2]
    exact G8n_b 6 c
  rw [G8_s c x h.1 h2 h3 h4, U5_s (G8 c) x hb.1 hb.2 h3 h4, h.2.2.1]
  have h0 := h.1
  rw [DGn]
  simp only [Bool.or_eq_true, Bool.and_eq_true, decide_eq_true_eq]
  refine Or.inr ⟨⟨by omega, by omega⟩, ?_⟩
  rw [show (c * 32 + (x - 96)) / 32 = c by omega]
  exact DGn_m 7 c h.2.2.2
theorem p32_6 {a : Nat} (h : a ≤ 6) : (32 : Int) ^ a ≤ 1073741824 := by
  have h : a = 0 ∨ a = 1 ∨ a = 2 ∨ a = 3 ∨ a = 4 ∨ a = 5 ∨ a = 6 := by omega
  rcases h with rfl | rfl | rfl | rfl | rfl | rfl | rfl <;> decide
theorem C5_b (t : Nat → Int) (b e : Int) : LC t b e ≤ 7 → VW (C5 t b e) ∧ 0 ≤ C5 t b e ∧ C5 t b e < 34359738368 ∧ (LC t b e ≤ 6 → C5 t b e < 1073741824) ∧ (1 ≤ LC t b e → 1 ≤ C5 t b e) := by
  have hh : ∀ k : Nat, 0 ≤ LCn t b k ∧ (LCn t b k ≤ 7 → VW (C5n t b k) ∧ C5n t b k < 32 ^ (LCn t b k).toNat ∧ (1 ≤ LCn t b k → 1 ≤ C5n t b k)) := by
    intro k
    induction k with
    | zero => exact ⟨Int.le_refl _, fun _ => ⟨(by decide : (0 : Int) ≤ 0 ∧ (0 : Int) < 34359738368 ∧ U5n 8 (G8 0) = 0 ∧ DGn 8 0 = true), (by decide : (0 : Int) < 1), fun q => absurd q (by decide : ¬ (1 : Int) ≤ 0)⟩⟩
    | succ k ih =>
      rw [LCn, C5n]
      split
      · rename_i hq
        refine ⟨by omega, fun h7 => ?_⟩
        obtain ⟨i1, i2, i3⟩ := ih.2 (by omega)
        have e6 : C5n t b k < 1073741824 := by
          have h6 : (LCn t b k).toNat ≤ 6 := by omega
          have := p32_6 h6
          omega
        refine ⟨VW_s _ _ i1 e6 hq.1 hq.2, ?_, fun _ => by have := i1.1; omega⟩
        rw [show (LCn t b k + 1).toNat = (LCn t b k).toNat + 1 by omega, Int.pow_succ]
        omega
      · exact ⟨ih.1, ih.2⟩
  intro h
  obtain ⟨i0, i⟩ := hh (e - b).toNat
  obtain ⟨i1, i2, i3⟩ := i h
  refine ⟨i1, i1.1, i1.2.1, fun h6 => ?_, i3⟩
  have h6' : (LCn t b (e - b).toNat).toNat ≤ 6 := by unfold LC at h6; omega
  have := p32_6 h6'
  show C5n t b _ < 1073741824
  omega
noncomputable def kwl : List Int := [599495, 627764, 769604, 19173554, 624435, 12343, 3540584, 452639379, 1486070419, 407947731, 24974578053, 664683, 498, 1476, 14836, 688, 448133, 404362868, 494, 12009203, 623908, 605580, 492210354]
noncomputable def kwt (k : Nat) : Int := kwl.getD k 0
noncomputable def rst (k : Nat) : Int := ([1919512167, 1936023924, 2003792484, 491394458994, 1935767923, 7102839, 427020088168, 120325478970483, 27422272703198323, 119182682386035, 33610324346432613, 1953063787, 28530, 6385252, 7237492, 30064, 1836414053, 119165820433268, 28526, 461414299507, 1935763812, 1919904876, 121450625394034] : List Int).getD k 0
noncomputable def KFn (c : Int) : Nat → Nat → Int
  | 0, _ => -1
  | f + 1, l => if 0 ≤ KFn c f (l + 1) then KFn c f (l + 1) else if kwt l = c then (l : Int) else -1
/-- the last keyword from l on that is c, or -1 -/
noncomputable def KF (c l : Int) : Int := KFn c (23 - l).toNat l.toNat
theorem KF_e (c l : Int) : 23 ≤ l → KF c l = -1 := by
  intro h
  unfold KF
  rw [show (23 - l).toNat = 0 by omega]
  rfl
theorem KF_s (c l : Int) : 0 ≤ l → l < 23 → (0 ≤ KF c (l + 1) → KF c l = KF c (l + 1)) ∧ (¬ 0 ≤ KF c (l + 1) → (kwt l.toNat = c → KF c l = l) ∧ (¬ kwt l.toNat = c → KF c l = -1)) := by
  intro h0 h
  unfold KF
  rw [show (23 - l).toNat = (23 - (l + 1)).toNat + 1 by omega, KFn, show l.toNat + 1 = (l + 1).toNat by omega]
  refine ⟨fun q => by rw [if_pos q], fun q => ⟨fun r => ?_, fun r => ?_⟩⟩
  · rw [if_neg q, if_pos r]; omega
  · rw [if_neg q, if_neg r]
theorem KF_b (c l : Int) : 0 ≤ l → -1 ≤ KF c l ∧ KF c l ≤ 22 := by
  intro h0
  unfold KF
  have hh : ∀ (f l : Nat), f + l = 23 → -1 ≤ KFn c f l ∧ KFn c f l ≤ 22 := by
    intro f
    induction f with
    | zero => intro l _; exact (by decide : (-1 : Int) ≤ -1 ∧ (-1 : Int) ≤ 22)
    | succ f ih =>
      intro l hl
      have := ih (l + 1) (by omega)
      rw [KFn]
      split
      · exact this
      · split <;> omega
  by_cases h : l ≤ 23
  · exact hh _ _ (by omega)
  · rw [show (23 - l).toNat = 0 by omega]; exact (by decide : (-1 : Int) ≤ -1 ∧ (-1 : Int) ≤ 22)
/-- what a run is that began at b and is read up to p: its sort, its word, which keyword it is, its number, its word in bytes -/
noncomputable def RT (t : Nat → Int) (n b p : Int) : Int := if LC t b (RE t n p) = RE t n p - b ∧ RE t n p - b ≤ 7 then 2 else if LC t b (RE t n p) = 0 ∧ RE t n p - b ≤ 3 then 4 else 1
noncomputable def RC (t : Nat → Int) (n b p : Int) : Int := C5 t b (RE t n p)
noncomputable def RK (t : Nat → Int) (n b p : Int) : Int := KF (C5 t b (RE t n p)) 0
noncomputable def RV (t : Nat → Int) (n b p : Int) : Int := NV t b (RE t n p)
noncomputable def GL (t : Nat → Int) (b e : Int) : Int := G8 (C5 t b e)
noncomputable def RG (t : Nat → Int) (n b p : Int) : Int := GL t b (RE t n p)
theorem rt_b (t : Nat → Int) (n b p : Int) : RT t n b p = 1 ∨ RT t n b p = 2 ∨ RT t n b p = 4 := by
  unfold RT
  split
  · exact Or.inr (Or.inl rfl)
  · split
    · exact Or.inr (Or.inr rfl)
    · exact Or.inl rfl
theorem GL_0 (t : Nat → Int) (b : Int) : GL t b b = 0 := by
  unfold GL
  rw [(LC_0 t b).2.1]
  decide
theorem GL_s (t : Nat → Int) (b p : Int) : b ≤ p → LC t b p ≤ 6 → (97 ≤ t p.toNat ∧ t p.toNat ≤ 122) → GL t b (p + 1) = GL t b p * 256 + t p.toNat := by
  intro h1 h2 h3
  unfold GL
  have hb := C5_b t b p (by omega)
  rw [((LC_s t b p h1).1 h3).2.1, G8_s _ _ hb.2.1 (hb.2.2.2.1 h2) h3.1 h3.2]
theorem GL_b (t : Nat → Int) (b p : Int) : LC t b p ≤ 7 → 0 ≤ GL t b p ∧ GL t b p < 72057594037927936 ∧ (LC t b p ≤ 6 → GL t b p < 281474976710656) := by
  intro h
  unfold GL
  have hb := C5_b t b p h
  refine ⟨(G8_b _ hb.2.2.1).1, (G8_b _ hb.2.2.1).2, fun h6 => ?_⟩
  have e : G8 (C5 t b p) = G8n 7 (C5 t b p) := G8n_m 7 _ (by show _ < 34359738368; omega)
  have e2 : G8n 7 (C5 t b p) = G8n 6 (C5 t b p) := G8n_m 6 _ (by show _ < 1073741824; exact hb.2.2.2.1 h6)
  rw [e, e2]
  exact (G8n_b 6 _).2
theorem LC_f (t : Nat → Int) (b e : Int) : b < e → ((97 ≤ t b.toNat ∧ t b.toNat ≤ 122) → 1 ≤ LC t b e) ∧ (¬ (97 ≤ t b.toNat ∧ t b.toNat ≤ 122) → LC t b e ≤ e - b - 1) := by
  intro h
  have hh : ∀ k : Nat, ((97 ≤ t b.toNat ∧ t b.toNat ≤ 122) → 1 ≤ LCn t b (k + 1)) ∧ (¬ (97 ≤ t b.toNat ∧ t b.toNat ≤ 122) → LCn t b (k + 1) ≤ k) := by
    intro k
    induction k with
    | zero =>
      rw [LCn, LCn, show (b + ((0 : Nat) : Int)).toNat = b.toNat by simp]
      exact ⟨fun q => by rw [if_pos q]; decide, fun q => by rw [if_neg q]; decide⟩
    | succ k ih =>
      rw [LCn]
      constructor
      · intro q; have := ih.1 q; split <;> omega
      · intro q; have := ih.2 q; split <;> omega
  have := hh (e - b - 1).toNat
  unfold LC
  rw [show (e - b).toNat = (e - b - 1).toNat + 1 by omega]
  constructor
  · exact this.1
  · intro q; have := this.2 q; omega
noncomputable def TAG (t : Nat → Int) (n M p : Int) : Int :=
  if M < n ∧ M ≤ SK t n p then 1 else if n ≤ SK t n p then 0
  else if (97 ≤ t (SK t n p).toNat ∧ t (SK t n p).toNat ≤ 122) ∨ (48 ≤ t (SK t n p).toNat ∧ t (SK t n p).toNat ≤ 57) then RT t n (SK t n p) (SK t n p)
  else if t (SK t n p).toNat = 59 ∨ t (SK t n p).toNat = 40 ∨ t (SK t n p).toNat = 41 ∨ (60 ≤ t (SK t n p).toNat ∧ t (SK t n p).toNat ≤ 62) then 5 else 1
noncomputable def POS (t : Nat → Int) (n M p : Int) : Int := if M < n ∧ M ≤ SK t n p then M else SK t n p
noncomputable def NXT (t : Nat → Int) (n M p : Int) : Int :=
  if M < n ∧ M ≤ SK t n p then SK t n p else if n ≤ SK t n p then SK t n p
  else if (97 ≤ t (SK t n p).toNat ∧ t (SK t n p).toNat ≤ 122) ∨ (48 ≤ t (SK t n p).toNat ∧ t (SK t n p).toNat ≤ 57) then RE t n (SK t n p) else SK t n p + 1
noncomputable def COD (t : Nat → Int) (n _M p : Int) : Int := RC t n (SK t n p) (SK t n p)
noncomputable def KY (t : Nat → Int) (n _M p : Int) : Int := RK t n (SK t n p) (SK t n p)
noncomputable def GC (t : Nat → Int) (n _M p : Int) : Int := RG t n (SK t n p) (SK t n p)
noncomputable def VAL (t : Nat → Int) (n _M p : Int) : Int := if (97 ≤ t (SK t n p).toNat ∧ t (SK t n p).toNat ≤ 122) ∨ (48 ≤ t (SK t n p).toNat ∧ t (SK t n p).toNat ≤ 57) then RV t n (SK t n p) (SK t n p) else t (SK t n p).toNat
theorem kwt_b (k : Nat) : 0 ≤ kwt k ∧ kwt k < 34359738368 := by
  by_cases h : k < 23
  · have hh : ∀ k : Fin 23, 0 ≤ kwt k.1 ∧ kwt k.1 < 34359738368 := by decide
    exact hh ⟨k, h⟩
  · have : kwt k = 0 := by
      unfold kwt
      rw [List.getD_eq_getElem?_getD, List.getElem?_eq_none (by show kwl.length ≤ k; have : kwl.length = 23 := rfl; omega)]
      rfl
    rw [this]
    decide
theorem hl_n {z : Int} (h : -9223372036854775808 ≤ z) (h2 : z ≤ 9223372036854775807) : jm_nl z = z := by
  unfold jm_nl
  rw [Int64.toInt_ofInt]
  exact Int.bmod_eq_of_le (by show -(18446744073709551616 / 2) ≤ z; omega) (by show z < (18446744073709551616 + 1) / 2; omega)
theorem hr_cmpe (z y : Int) : -9223372036854775808 ≤ z ∧ z ≤ 9223372036854775807 → -9223372036854775808 ≤ y ∧ y ≤ 9223372036854775807 → (jm_cmp z y = 0 → z = y) ∧ (¬ jm_cmp z y = 0 → ¬ z = y) := by
  intro h1 h2
  unfold jm_cmp
  rw [hl_n h1.1 h1.2, hl_n h2.1 h2.2]
  by_cases a : y < z
  · rw [if_pos a]; exact ⟨fun q => absurd q (by decide), fun _ => by omega⟩
  · rw [if_neg a]
    by_cases b : z = y
    · rw [if_pos b]; exact ⟨fun _ => b, fun q => absurd rfl q⟩
    · rw [if_neg b]; exact ⟨fun q => absurd q (by decide), fun _ => b⟩
theorem hr_i2l (z : Int) : -2147483648 ≤ z → z ≤ 2147483647 → hb_i2l z = z := by
  intro h1 h2
  unfold hb_i2l
  rw [Int32.toInt_toInt64, Int32.toInt_ofInt]
  exact Int.bmod_eq_of_le (by show -(4294967296 / 2) ≤ z; omega) (by show z < (4294967296 + 1) / 2; omega)
theorem hr_sh8 (w c : Int) : 0 ≤ w → w < 281474976710656 → 0 ≤ c → c ≤ 255 → hb_lor (hb_lshl w 8) (hb_i2l c) = w * 256 + c := by
  intro h1 h2 h3 h4
  rw [hr_i2l c (by omega) (by omega)]
  obtain ⟨n, rfl⟩ := Int.eq_ofNat_of_zero_le h1
  obtain ⟨m, rfl⟩ := Int.eq_ofNat_of_zero_le h3
  unfold hb_lor hb_lshl
  rw [Int64.ofInt_toInt, show ((Int32.ofInt 8).toInt64 &&& 63) = 8 by decide]
  have hb : (Int64.ofInt (n : Int) <<< (8 : Int64) ||| Int64.ofInt (m : Int)).toBitVec = BitVec.ofNat 64 (n * 256 + m) := by
    apply BitVec.eq_of_toNat_eq
    have e1 : (Int64.ofInt (n : Int) <<< (8 : Int64)).toBitVec = BitVec.ofNat 64 n <<< 8 := by
      rw [Int64.toBitVec_shiftLeft]
      rfl
    rw [Int64.toBitVec_or, e1]
    show (BitVec.ofNat 64 n <<< 8 ||| BitVec.ofNat 64 m).toNat = _
    rw [BitVec.toNat_or, BitVec.toNat_shiftLeft, BitVec.toNat_ofNat, BitVec.toNat_ofNat, BitVec.toNat_ofNat]
    rw [Nat.mod_eq_of_lt (show n < 2 ^ 64 by omega), Nat.mod_eq_of_lt (show m < 2 ^ 64 by omega), Nat.mod_eq_of_lt (show n * 256 + m < 2 ^ 64 by omega), Nat.shiftLeft_eq, Nat.mod_eq_of_lt (show n * 2 ^ 8 < 2 ^ 64 by omega)]
    have := Nat.shiftLeft_add_eq_or_of_lt (show m < 2 ^ 8 by omega) n
    rw [Nat.shiftLeft_eq] at this
    rw [← this]
  show (Int64.ofInt (n : Int) <<< (8 : Int64) ||| Int64.ofInt (m : Int)).toBitVec.toInt = _
  rw [hb, BitVec.toInt_eq_toNat_of_lt (by rw [BitVec.toNat_ofNat]; omega), BitVec.toNat_ofNat, Nat.mod_eq_of_lt (show n * 256 + m < 2 ^ 64 by omega)]
  omega
theorem rn_x (t : Nat → Int) (n b e : Int) (h : RE t n b = e) : RC t n b b = C5 t b e ∧ RK t n b b = KF (C5 t b e) 0 ∧ RV t n b b = NV t b e ∧ RG t n b b = GL t b e ∧
    ((LC t b e = e - b ∧ e - b ≤ 7 ∧ RT t n b b = 2) ∨ (¬ (LC t b e = e - b ∧ e - b ≤ 7) ∧ LC t b e = 0 ∧ e - b ≤ 3 ∧ RT t n b b = 4) ∨ (¬ (LC t b e = e - b ∧ e - b ≤ 7) ∧ ¬ (LC t b e = 0 ∧ e - b ≤ 3) ∧ RT t n b b = 1)) := by
  unfold RT RC RK RV RG
  rw [h]
  refine ⟨rfl, rfl, rfl, rfl, ?_⟩
  by_cases h4 : LC t b e = e - b ∧ e - b ≤ 7
  · left; rw [if_pos h4]; exact ⟨h4.1, h4.2, rfl⟩
  · right
    rw [if_neg h4]
    by_cases h5 : LC t b e = 0 ∧ e - b ≤ 3
    · left; rw [if_pos h5]; exact ⟨h4, h5.1, h5.2, rfl⟩
    · right; rw [if_neg h5]; exact ⟨h4, h5, rfl⟩
theorem tk_x (t : Nat → Int) (n M p b : Int) (h : SK t n p = b) :
    (M < n ∧ M ≤ b ∧ TAG t n M p = 1 ∧ POS t n M p = M ∧ NXT t n M p = b) ∨
    (¬ (M < n ∧ M ≤ b) ∧ POS t n M p = b ∧
     ((n ≤ b ∧ TAG t n M p = 0 ∧ NXT t n M p = b) ∨
      (b < n ∧ ((97 ≤ t b.toNat ∧ t b.toNat ≤ 122) ∨ (48 ≤ t b.toNat ∧ t b.toNat ≤ 57)) ∧ NXT t n M p = RE t n b ∧ TAG t n M p = RT t n b b ∧ COD t n M p = RC t n b b ∧ KY t n M p = RK t n b b ∧ GC t n M p = RG t n b b ∧ VAL t n M p = RV t n b b) ∨
      (b < n ∧ ¬ ((97 ≤ t b.toNat ∧ t b.toNat ≤ 122) ∨ (48 ≤ t b.toNat ∧ t b.toNat ≤ 57)) ∧ NXT t n M p = b + 1 ∧ VAL t n M p = t b.toNat ∧
        (((t b.toNat = 59 ∨ t b.toNat = 40 ∨ t b.toNat = 41 ∨ (60 ≤ t b.toNat ∧ t b.toNat ≤ 62)) ∧ TAG t n M p = 5) ∨
         (¬ (t b.toNat = 59 ∨ t b.toNat = 40 ∨ t b.toNat = 41 ∨ (60 ≤ t b.toNat ∧ t b.toNat ≤ 62)) ∧ TAG t n M p = 1))))) := by
  unfold TAG POS NXT COD KY GC VAL
  rw [h]
  by_cases h1 : M < n ∧ M ≤ b
  · left
    rw [if_pos h1, if_pos h1, if_pos h1]
    exact ⟨h1.1, h1.2, rfl, rfl, rfl⟩
  · right
    rw [if_neg h1, if_neg h1, if_neg h1]
    refine ⟨h1, rfl, ?_⟩
    by_cases h2 : n ≤ b
    · left
      rw [if_pos h2, if_pos h2]
      exact ⟨h2, rfl, rfl⟩
    · right
      rw [if_neg h2, if_neg h2]
      by_cases h3 : (97 ≤ t b.toNat ∧ t b.toNat ≤ 122) ∨ (48 ≤ t b.toNat ∧ t b.toNat ≤ 57)
      · left
        rw [if_pos h3, if_pos h3, if_pos h3]
        exact ⟨by omega, h3, rfl, rfl, rfl, rfl, rfl, rfl⟩
      · right
        rw [if_neg h3, if_neg h3, if_neg h3]
        refine ⟨by omega, h3, rfl, rfl, ?_⟩
        by_cases h4 : t b.toNat = 59 ∨ t b.toNat = 40 ∨ t b.toNat = 41 ∨ (60 ≤ t b.toNat ∧ t b.toNat ≤ 62)
        · left; rw [if_pos h4]; exact ⟨h4, rfl⟩
        · right; rw [if_neg h4]; exact ⟨h4, rfl⟩
