/-! a TICK of both -/
section
variable {b : Nat} {φ φ' : hf_F} {c c' m m' nm nm' : Nat → Int}
theorem stn_f (h : STN b φ c m) (h1 : ∀ a k, (a = b ∨ (b + 2 ≤ a ∧ a ≤ b + 8)) → φ' a k = φ a k) (h2 : ∀ k, k < 99 → c' k = c k) (h3 : ∀ k, (99 ≤ k ∧ k < 104) ∨ (112 ≤ k ∧ k < 180) → m' k = m k) : STN b φ' c' m' := by
  obtain ⟨⟨s1, s2, s3, s4, s5, s6, s7, s8⟩, hsit, hrol, hhof⟩ := h
  refine ⟨⟨?_, ?_, ?_, ?_, ?_, ?_, ?_, ?_⟩, fun s hs => ?_, fun r hr => ?_, fun l hl => ?_⟩
  · rw [h1 b 0 (Or.inl rfl), h3 99 (by omega)]; exact s1
  · rw [h1 b 1 (Or.inl rfl), h3 100 (by omega)]; exact s2
  · rw [h1 b 2 (Or.inl rfl), h3 101 (by omega)]; exact s3
  · rw [h1 b 3 (Or.inl rfl), h3 102 (by omega)]; exact s4
  · rw [h1 b 5 (Or.inl rfl), h3 103 (by omega)]; exact s5
  · rw [h1 b 4 (Or.inl rfl), h3 166 (by omega), h3 167 (by omega), h3 168 (by omega), h3 169 (by omega), h3 170 (by omega), h3 171 (by omega)]; exact s6
  · rw [h3 100 (by omega), h2 2 (by omega)]; exact s7
  · rw [h3 101 (by omega), h2 3 (by omega)]; exact s8
  · rw [h1 (b + 2) s (Or.inr ⟨by omega, by omega⟩)]
    rcases hsit s hs with ⟨q1, q2⟩ | ⟨q, q1, q2, q3, q4⟩
    · exact Or.inl ⟨q1, fun q hq => by rw [h3 (112 + q) (by omega)]; exact q2 q hq⟩
    · exact Or.inr ⟨q, q1, q2, by rw [h3 (112 + q) (by omega)]; exact q3, fun p hp => by rw [h3 (112 + p) (by omega)]; exact q4 p hp⟩
  · obtain ⟨t1, t2, t3, t4, t5, t6, t7, t8, t9⟩ := hrol r hr
    unfold ROL
    rw [h1 (b + 3) r (Or.inr ⟨by omega, by omega⟩), h1 (b + 4) r (Or.inr ⟨by omega, by omega⟩), h1 (b + 6) r (Or.inr ⟨by omega, by omega⟩), h1 (b + 7) r (Or.inr ⟨by omega, by omega⟩), h3 (112 + r) (by omega), h3 (118 + r) (by omega), h3 (160 + r) (by omega), h3 (166 + r) (by omega), h2 1 (by omega), h2 2 (by omega), h2 3 (by omega)]
    refine ⟨t1, t2, t3, t4, t5, t6, t7, t8, fun k hk => ?_⟩
    rw [h1 (b + 5) (6 * r + k) (Or.inr ⟨by omega, by omega⟩), h3 (124 + 6 * r + k) (by omega)]
    exact t9 k hk
  · rw [h1 (b + 8) l (Or.inr ⟨by omega, by omega⟩), h3 (172 + l) (by omega)]
    exact hhof l hl
theorem log_f {p : Nat} (h : LOG p φ m) (hb : m 4 ≤ 8) (h1 : ∀ k, φ' (p + 11) k = φ (p + 11) k) (h2 : ∀ k, k < 99 → m' k = m k) : LOG p φ' m' := by
  intro a b ha hb2
  rw [h1, h2 4 (by omega)]
  rcases h a b ha hb2 with ⟨q1, q2⟩ | ⟨i, q1, q2, q3, q4, q5⟩
  · exact Or.inl ⟨q1, fun i hi => by rw [h2 (75 + i) (by omega), h2 (83 + i) (by omega)]; exact q2 i hi⟩
  · exact Or.inr ⟨i, q1, q2, by rw [h2 (75 + i) (by omega)]; exact q3, by rw [h2 (83 + i) (by omega)]; exact q4, fun q hq => by rw [h2 (75 + q) (by omega), h2 (83 + q) (by omega)]; exact q5 q hq⟩
theorem clg_f {p : Nat} (h : CLG p φ m) (h1 : ∀ k, φ' (p + 10) k = φ (p + 10) k) (h2 : ∀ k, k < 99 → m' k = m k) : CLG p φ' m' := by
  intro i hi
  rw [h1, h2 (91 + i) (by omega)]
  exact h i hi
theorem seg_f {p : Nat} (h : SEG p φ m) (hb : m 0 ≤ 3 ∧ m 1 ≤ 8) (h1 : ∀ a k, (p + 5 ≤ a ∧ a ≤ p + 7) → φ' a k = φ a k) (h2 : ∀ k, k < 99 → m' k = m k) : SEG p φ' m' := by
  intro i hi
  rw [h2 1 (by omega)] at hi
  obtain ⟨q1, g, q2, q3, q4, q5, q6⟩ := h i hi
  rw [h1 (p + 5) i ⟨by omega, by omega⟩, h1 (p + 6) i ⟨by omega, by omega⟩, h1 (p + 7) i ⟨by omega, by omega⟩, h2 (11 + i) (by omega)]
  exact ⟨q1, g, by rw [h2 0 (by omega)]; exact q2, q3, by rw [h2 (5 + g) (by omega)]; exact q4, by rw [h2 (5 + g) (by omega), h2 (8 + g) (by omega)]; exact q5, by rw [h2 (5 + g) (by omega)]; exact q6⟩
theorem plg_f {p : Nat} (h : PLG p φ m nm) (hb : CB m) (h1 : ∀ a k, (p < a ∧ a ≤ p + 11) → φ' a k = φ a k) (h2 : ∀ k, k < 99 → m' k = m k) (h3 : ∀ k, k < 33 → nm' k = nm k) : PLG p φ' m' nm' := by
  obtain ⟨p1, ⟨n1, n2, n3, n4, n5⟩, p3, p4, p5, p6, p7⟩ := h
  unfold CB at hb
  have hn : ∀ (oa ob : Nat) (n n' : Int), n' = n → (n + ob ≤ 33) → NMF (fun k => φ (p + 2) k) nm oa ob n → NMF (fun k => φ' (p + 2) k) nm' oa ob n' := by
    intro oa ob n n' e1 e2 hN i hi
    show VW (φ' (p + 2) (oa + i)) ∧ nm' (ob + i) = G8 (φ' (p + 2) (oa + i))
    rw [h1 (p + 2) (oa + i) ⟨by omega, by omega⟩, h3 (ob + i) (by omega)]
    exact hN i (by omega)
  refine ⟨?_, ⟨hn 0 0 _ _ (h2 0 (by omega)) (by omega) n1, hn 8 3 _ _ (h2 1 (by omega)) (by omega) n2, hn 16 11 _ _ (h2 2 (by omega)) (by omega) n3, hn 24 19 _ _ (h2 3 (by omega)) (by omega) n4, hn 32 25 _ _ (h2 4 (by omega)) (by omega) n5⟩, fun i hi => ?_, seg_f p4 (by omega) (fun a k q => h1 a k ⟨by omega, by omega⟩) h2, fun i hi => ?_, log_f p6 (by omega) (fun k => h1 (p + 11) k ⟨by omega, by omega⟩) h2, clg_f p7 (fun k => h1 (p + 10) k ⟨by omega, by omega⟩) h2⟩
  · unfold CTG at *
    rw [h1 (p + 1) 0 ⟨by omega, by omega⟩, h1 (p + 1) 1 ⟨by omega, by omega⟩, h1 (p + 1) 2 ⟨by omega, by omega⟩, h1 (p + 1) 3 ⟨by omega, by omega⟩, h1 (p + 1) 4 ⟨by omega, by omega⟩, h2 0 (by omega), h2 1 (by omega), h2 2 (by omega), h2 3 (by omega), h2 4 (by omega)]
    exact p1
  · rw [h2 0 (by omega)] at hi
    rw [h1 (p + 3) i ⟨by omega, by omega⟩, h1 (p + 4) i ⟨by omega, by omega⟩, h2 (5 + i) (by omega), h2 (8 + i) (by omega)]
    exact p3 i hi
  · rw [h2 4 (by omega)] at hi
    rw [h1 (p + 8) i ⟨by omega, by omega⟩, h1 (p + 9) i ⟨by omega, by omega⟩, h2 (75 + i) (by omega), h2 (83 + i) (by omega), h2 2 (by omega)]
    exact p5 i hi
end
/-- ranges of steps and speeds -/
noncomputable def RB (m : Nat → Int) : Prop := ∀ g : Nat, g < 3 → (0 ≤ m (5 + g) ∧ m (5 + g) ≤ 30) ∧ (0 ≤ m (8 + g) ∧ m (8 + g) ≤ 9)
theorem rb_i {χ : hf_F} (hI : Inv χ) : RB (χ 194) := by
  intro g hg
  have a := iv_ar (a := 194) (s := 5) (t := 8) (lo := 0) (u := 30) (z := ((5 + g : Nat) : Int)) hI (by decide +kernel) (by omega) (by omega)
  have b := iv_ar (a := 194) (s := 8) (t := 11) (lo := 0) (u := 9) (z := ((8 + g : Nat) : Int)) hI (by decide +kernel) (by omega) (by omega)
  exact ⟨a, b⟩
theorem tick_1 : ∀ (n : Nat) (χ : hf_F) (l : Int), 8 - l < n → 0 ≤ l → l ≤ 8 → χ 194 1 ≤ 8 → (∀ i : Nat, (i : Int) < χ 194 1 → 0 ≤ χ 194 (11 + i) ∧ χ 194 (11 + i) ≤ 2) →
    ∃ ξ : hf_F, F_RideLawsModel_tick_192_l2 n χ l = F_RideLawsModel_tick_192_l73 9 ξ 0 ∧ (∀ i : Nat, l ≤ (i : Int) → (i : Int) < χ 194 1 → ξ 194 (104 + i) = (χ 194 (104 + i) + χ 194 (8 + (χ 194 (11 + i)).toNat)).tmod (χ 194 (5 + (χ 194 (11 + i)).toNat))) ∧
      (∀ k : Nat, ¬ (104 + l ≤ (k : Int) ∧ (k : Int) < 104 + χ 194 1) → ξ 194 k = χ 194 k) ∧ ∀ a k : Nat, ¬ a = 194 → ξ a k = χ a k := by
  intro n
  induction n with
  | zero => intro χ l h1 h2 h3; omega
  | succ n ih =>
    intro χ l h1 h2 h3 h4 h5
    rw [F_RideLawsModel_tick_192_l2_s]
    by_cases c : χ 194 1 ≤ l
    · rw [if_pos c]
      exact ⟨χ, rfl, fun i a1 a2 => by omega, fun _ _ => rfl, fun _ _ _ => rfl⟩
    · rw [if_neg c, show (104 + l).toNat = 104 + l.toNat by omega, show (11 + l).toNat = 11 + l.toNat by omega]
      have hr := h5 l.toNat (by omega)
      rw [show (8 + χ 194 (11 + l.toNat)).toNat = 8 + (χ 194 (11 + l.toNat)).toNat by omega, show (5 + χ 194 (11 + l.toNat)).toNat = 5 + (χ 194 (11 + l.toNat)).toNat by omega]
      generalize hv : (χ 194 (104 + l.toNat) + χ 194 (8 + (χ 194 (11 + l.toNat)).toNat)).tmod (χ 194 (5 + (χ 194 (11 + l.toNat)).toNat)) = v
      have hk : ∀ k : Nat, ¬ k = 104 + l.toNat → hf_up χ 194 (104 + l.toNat) v 194 k = χ 194 k := fun k hk => hf_up_ne (fun z => hk z.2)
      obtain ⟨ξ, i1, i2, i3, i4⟩ := ih (hf_up χ 194 (104 + l.toNat) v) (l + 1) (by omega) (by omega) (by omega) (by rw [hk 1 (by omega)]; exact h4) (fun i hi => by rw [hk 1 (by omega)] at hi; rw [hk (11 + i) (by omega)]; exact h5 i hi)
      rw [hk 1 (by omega)] at i2 i3
      refine ⟨ξ, i1, fun i a1 a2 => ?_, fun k hk2 => ?_, fun a k ha => (i4 a k ha).trans (hf_up_ne (fun z => ha z.1))⟩
      · have hri := h5 i a2
        by_cases he : (i : Int) = l
        · rw [i3 (104 + i) (by omega), show 104 + i = 104 + l.toNat by omega, hf_up_eq, ← hv, show 11 + i = 11 + l.toNat by omega]
        · rw [i2 i (by omega) a2, hk (104 + i) (by omega), hk (11 + i) (by omega), hk (8 + (χ 194 (11 + i)).toNat) (by omega), hk (5 + (χ 194 (11 + i)).toNat) (by omega)]
      · rw [i3 k (by omega), hk k (by omega)]
theorem ron_17 {φ χ : hf_F} (hc : χ 194 3 ≤ 6) (h : SIT 17 φ (χ 194)) (hz : ∀ r : Nat, r < 6 → χ 194 3 ≤ (r : Int) → χ 194 (112 + r) = 0) (s : Nat) (hs : s < 8) : F_RideLawsModel_riderOn_192 χ (s : Int) = φ 19 s := by
  have hh : ∀ (n : Nat) (l : Int), 6 - l < n → 0 ≤ l → l ≤ 6 → (F_RideLawsModel_riderOn_192_l2 n χ (s : Int) l = -1 ∧ ∀ r : Nat, l ≤ (r : Int) → (r : Int) < χ 194 3 → ¬ χ 194 (112 + r) = (s : Int) + 1) ∨ (∃ r : Nat, F_RideLawsModel_riderOn_192_l2 n χ (s : Int) l = (r : Int) ∧ (r : Int) < χ 194 3 ∧ χ 194 (112 + r) = (s : Int) + 1) := by
    intro n
    induction n with
    | zero => intro l h1 h2 h3; omega
    | succ n ih =>
      intro l h1 h2 h3
      rw [F_RideLawsModel_riderOn_192_l2_s]
      by_cases c : χ 194 3 ≤ l
      · rw [if_pos c]
        exact Or.inl ⟨rfl, fun r a1 a2 => by omega⟩
      · rw [if_neg c, show (112 + l).toNat = 112 + l.toNat by omega]
        by_cases c2 : χ 194 (112 + l.toNat) = (s : Int) + 1
        · rw [if_neg (fun q => q c2)]
          exact Or.inr ⟨l.toNat, by omega, by omega, c2⟩
        · rw [if_pos c2]
          rcases ih (l + 1) (by omega) (by omega) (by omega) with ⟨i1, i2⟩ | i
          · refine Or.inl ⟨i1, fun r a1 a2 => ?_⟩
            by_cases he : (r : Int) = l
            · rw [show r = l.toNat by omega]; exact c2
            · exact i2 r (by omega) a2
          · exact Or.inr i
  have e : F_RideLawsModel_riderOn_192 χ (s : Int) = F_RideLawsModel_riderOn_192_l2 7 χ (s : Int) 0 := rfl
  rw [e]
  rcases hh 7 0 (by decide) (by decide) (by decide) with ⟨i1, i2⟩ | ⟨r, i1, i2, i3⟩
  · rw [i1]
    rcases h s hs with ⟨q1, q2⟩ | ⟨q, q1, q2, q3, q4⟩
    · exact q1.symm
    · exfalso
      by_cases hq : (q : Int) < χ 194 3
      · exact i2 q (by omega) hq q3
      · have := hz q q1 (by omega); omega
  · rw [i1]
    rcases h s hs with ⟨q1, q2⟩ | ⟨q, q1, q2, q3, q4⟩
    · exact absurd i3 (q2 r (by omega))
    · rw [q4 r (by omega) i3]; exact q2.symm
/-- the seats' steps in the midst of a TICK -/
noncomputable def MA_17 (φ : hf_F) (m : Nat → Int) (l : Int) : Prop := ∀ i : Nat, (i : Int) < m 1 → (0 ≤ m (104 + i) ∧ m (104 + i) < m (5 + (m (11 + i)).toNat)) ∧ ((i : Int) < l → φ 18 i = m (104 + i)) ∧ (l ≤ (i : Int) → 0 ≤ φ 18 i ∧ φ 18 i < m (5 + (m (11 + i)).toNat) ∧ m (104 + i) = (φ 18 i + m (8 + (m (11 + i)).toNat)).tmod (m (5 + (m (11 + i)).toNat)))
theorem turn_l_17 : ∀ (n : Nat) (k : Nat) (φ χ : hf_F) (l : Int), 8 - l < n → 8 - l < k → 0 ≤ l → l ≤ 8 → LB (χ 194) → RB (χ 194) → LOG 5 φ (χ 194) → CLG 5 φ (χ 194) → SEG 5 φ (χ 194) → STN 17 φ (χ 194) (χ 194) → MA_17 φ (χ 194) l →
    STG 17 (F_State_turn_17_5_l9 n φ (χ 194 1) l) (F_RideLawsModel_tick_192_l73 k χ l 194) (F_RideLawsModel_tick_192_l73 k χ l 194) ∧ (∀ j : Nat, (j < 99 ∨ 180 ≤ j) → F_RideLawsModel_tick_192_l73 k χ l 194 j = χ 194 j) ∧ (∀ a j : Nat, ¬ a = 194 → F_RideLawsModel_tick_192_l73 k χ l a j = χ a j) ∧
    (∀ a j : Nat, ¬ (a = 17 ∨ a = 18 ∨ a = 23 ∨ a = 24 ∨ a = 25) → F_State_turn_17_5_l9 n φ (χ 194 1) l a j = φ a j) ∧ F_RideLawsModel_tick_192_l73 k χ l 194 99 = χ 194 99 + 1 := by
  intro n
  induction n with
  | zero => intro k φ χ l h1 h2 h3 h4; omega
  | succ n ih =>
    intro k φ χ l h1 h2 h3 h4 hb hrb hlo hcl hse hst hma
    cases k with
    | zero => omega
    | succ k =>
      rw [F_State_turn_17_5_l9_s, F_RideLawsModel_tick_192_l73_s]
      have cb := hb.1
      unfold CB at cb
      by_cases c : χ 194 1 ≤ l
      · rw [if_pos c, if_pos c]
        obtain ⟨⟨s1, s2, s3, s4, s5, s6, s7, s8⟩, hsit, hrol, hhof⟩ := hst
        have hk : ∀ j : Nat, ¬ j = 99 → hf_up χ 194 99 (χ 194 99 + 1) 194 j = χ 194 j := fun j hj => hf_up_ne (fun z => hj z.2)
        have st0 : STN 17 φ (χ 194) (hf_up (fun a j => if a = 194 ∧ j = 99 then χ 194 99 else χ a j) 194 99 (χ 194 99) 194) := by
          refine stn_f ⟨⟨s1, s2, s3, s4, s5, s6, s7, s8⟩, hsit, hrol, hhof⟩ (fun _ _ _ => rfl) (fun _ _ => rfl) (fun j _ => ?_)
          by_cases hj : j = 99
          · subst hj; rw [hf_up_eq]
          · rw [hf_up_ne (fun z => hj z.2)]; exact if_neg (fun z => hj z.2)
        refine ⟨⟨⟨⟨?_, ?_, ?_, ?_, ?_, ?_, ?_, ?_⟩, ?_, ?_, ?_⟩, ?_⟩, fun j hj => hk j (by omega), fun a j ha => hf_up_ne (fun z => ha z.1), fun a j ha => hf_up_ne (fun z => ha (Or.inl z.1)), hf_up_eq⟩
        · rw [hf_up_eq, hf_up_eq, s1]
        · rw [hk 100 (by decide)]; exact (hf_up_ne (fun z => absurd z.2 (by decide))).trans s2
        · rw [hk 101 (by decide)]; exact (hf_up_ne (fun z => absurd z.2 (by decide))).trans s3
        · rw [hk 102 (by decide)]; exact (hf_up_ne (fun z => absurd z.2 (by decide))).trans s4
        · rw [hk 103 (by decide)]; exact (hf_up_ne (fun z => absurd z.2 (by decide))).trans s5
        · rw [hk 166 (by decide), hk 167 (by decide), hk 168 (by decide), hk 169 (by decide), hk 170 (by decide), hk 171 (by decide)]; exact (hf_up_ne (fun z => absurd z.2 (by decide))).trans s6
        · rw [hk 100 (by decide), hk 2 (by decide)]; exact s7
        · rw [hk 101 (by decide), hk 3 (by decide)]; exact s8
        · intro v hv
          rw [show hf_up φ 17 0 (φ 17 0 + 1) (17 + 2) v = φ (17 + 2) v from hf_up_ne (fun z => absurd z.1 (by decide))]
          rcases hsit v hv with ⟨q1, q2⟩ | ⟨q, q1, q2, q3, q4⟩
          · exact Or.inl ⟨q1, fun q hq => by rw [hk (112 + q) (by omega)]; exact q2 q hq⟩
          · exact Or.inr ⟨q, q1, q2, by rw [hk (112 + q) (by omega)]; exact q3, fun p hp => by rw [hk (112 + p) (by omega)]; exact q4 p hp⟩
        · intro q hq
          obtain ⟨t1, t2, t3, t4, t5, t6, t7, t8, t9⟩ := hrol q hq
          have u : ∀ a j : Nat, ¬ a = 17 → hf_up φ 17 0 (φ 17 0 + 1) a j = φ a j := fun a j ha => hf_up_ne (fun z => ha z.1)
          unfold ROL
          rw [u (17 + 3) q (by decide), u (17 + 4) q (by decide), u (17 + 6) q (by decide), u (17 + 7) q (by decide), hk (112 + q) (by omega), hk (118 + q) (by omega), hk (160 + q) (by omega), hk (166 + q) (by omega), hk 1 (by decide), hk 2 (by decide), hk 3 (by decide)]
          refine ⟨t1, t2, t3, t4, t5, t6, t7, t8, fun j hj => ?_⟩
          rw [u (17 + 5) _ (by decide), hk (124 + 6 * q + j) (by omega)]
          exact t9 j hj
        · intro v hv
          rw [show hf_up φ 17 0 (φ 17 0 + 1) (17 + 8) v = φ (17 + 8) v from hf_up_ne (fun z => absurd z.1 (by decide)), hk (172 + v) (by omega)]
          exact hhof v hv
        · intro i hi
          rw [hk 1 (by decide)] at hi
          obtain ⟨m1, m2, m3⟩ := hma i hi
          obtain ⟨_, g, g1, g2, _⟩ := hse i hi
          rw [show hf_up φ 17 0 (φ 17 0 + 1) (17 + 1) i = φ 18 i from hf_up_ne (fun z => absurd z.1 (by decide)), hk (104 + i) (by omega), hk (11 + i) (by omega), hk (5 + (χ 194 (11 + i)).toNat) (by omega)]
          exact ⟨m2 (by omega), m1.1, m1.2⟩
      · rw [if_neg c, if_neg c, show (104 + l).toNat = 104 + l.toNat by omega]
        obtain ⟨m1, m2, m3⟩ := hma l.toNat (by omega)
        have m3 := m3 (by omega)
        obtain ⟨g0, g, g1, g2, g3, g4, g5⟩ := hse l.toNat (by omega)
        have hg := hrb g (by omega)
        have hgn : (χ 194 (11 + l.toNat)).toNat = g := by omega
        rw [hgn] at m1 m3
        have hstep : F_Plan_stepOn_5 φ l (φ 18 l.toNat) = χ 194 (104 + l.toNat) := by
          obtain ⟨e1, e2, e3, e4, e5⟩ := step_e (n := χ 194 (5 + g)) (v := χ 194 (8 + g)) (a := φ 18 l.toNat) g5 hg.1.2 hg.2.1 hg.2.2 m3.1 m3.2.1
          unfold F_Plan_stepOn_5
          have g3' : φ 12 l.toNat = χ 194 (5 + g) := g3
          have g4' : φ 11 l.toNat = (χ 194 (8 + g)).tmod (χ 194 (5 + g)) := g4
          rw [g3', g4', hi_n (z := φ 18 l.toNat + (χ 194 (8 + g)).tmod (χ 194 (5 + g))) (by unfold hi; omega), e1]
          exact m3.2.2.symm
        rw [bnp_e hstep, hi_n (z := χ 194 (104 + l.toNat)) (by unfold hi; omega)]
        have hu : ∀ a j : Nat, ¬ a = 18 → hf_up φ 18 l.toNat (χ 194 (104 + l.toNat)) a j = φ a j := fun a j ha => hf_up_ne (fun z => ha z.1)
        have st1 : STN 17 (hf_up φ 18 l.toNat (χ 194 (104 + l.toNat))) (χ 194) (χ 194) := stn_f hst (fun a j ha => hu a j (by omega)) (fun _ _ => rfl) (fun _ _ => rfl)
        have ma1 : MA_17 (hf_up φ 18 l.toNat (χ 194 (104 + l.toNat))) (χ 194) (l + 1) := by
          intro i hi
          obtain ⟨a1, a2, a3⟩ := hma i hi
          by_cases he : i = l.toNat
          · subst he
            exact ⟨a1, fun _ => hf_up_eq, fun z => by omega⟩
          · rw [hf_up_ne (fun z => he z.2)]
            exact ⟨a1, fun z => a2 (by omega), fun z => a3 (by omega)⟩
        have lo1 : LOG 5 (hf_up φ 18 l.toNat (χ 194 (104 + l.toNat))) (χ 194) := log_f hlo (by omega) (fun j => hu _ j (by decide)) (fun _ _ => rfl)
        have cl1 : CLG 5 (hf_up φ 18 l.toNat (χ 194 (104 + l.toNat))) (χ 194) := clg_f hcl (fun j => hu _ j (by decide)) (fun _ _ => rfl)
        have se1 : SEG 5 (hf_up φ 18 l.toNat (χ 194 (104 + l.toNat))) (χ 194) := seg_f hse (by omega) (fun a j ha => hu a j (by omega)) (fun _ _ => rfl)
        have go : STG 17 (F_State_turn_17_5_l9 n (hf_up φ 18 l.toNat (χ 194 (104 + l.toNat))) (χ 194 1) (l + 1)) (F_RideLawsModel_tick_192_l73 k χ (l + 1) 194) (F_RideLawsModel_tick_192_l73 k χ (l + 1) 194) ∧ (∀ j : Nat, (j < 99 ∨ 180 ≤ j) → F_RideLawsModel_tick_192_l73 k χ (l + 1) 194 j = χ 194 j) ∧ (∀ a j : Nat, ¬ a = 194 → F_RideLawsModel_tick_192_l73 k χ (l + 1) a j = χ a j) ∧
            (∀ a j : Nat, ¬ (a = 17 ∨ a = 18 ∨ a = 23 ∨ a = 24 ∨ a = 25) → F_State_turn_17_5_l9 n (hf_up φ 18 l.toNat (χ 194 (104 + l.toNat))) (χ 194 1) (l + 1) a j = φ a j) ∧ F_RideLawsModel_tick_192_l73 k χ (l + 1) 194 99 = χ 194 99 + 1 := by
          obtain ⟨i1, i2, i3, i4, i5⟩ := ih k (hf_up φ 18 l.toNat (χ 194 (104 + l.toNat))) χ (l + 1) (by omega) (by omega) (by omega) (by omega) hb hrb lo1 cl1 se1 st1 ma1
          exact ⟨i1, i2, i3, fun a j ha => (i4 a j ha).trans (hu a j (fun z => ha (Or.inr (Or.inl z)))), i5⟩
        by_cases c1 : χ 194 (104 + l.toNat) = 0
        · rw [if_neg (show ¬ ¬ χ 194 (104 + l.toNat) = 0 from fun q => q c1), if_neg (show ¬ ¬ χ 194 (104 + l.toNat) = 0 from fun q => q c1)]
          have hro := ron_17 (φ := φ) (χ := χ) (by omega) hst.2.1 (fun r hr hr3 => ((hst.2.2.1 r hr).2.2.2.2.1 hr3).1) l.toNat (by omega)
          rw [show ((l.toNat : Nat) : Int) = l by omega] at hro
          rw [bnp_e hro]
          by_cases c2 : φ 19 l.toNat = -1
          · rw [if_pos c2, if_pos (show φ 19 l.toNat < 0 by omega)]
            exact go
          · have hsr := hst.2.1 l.toNat (by omega)
            have hr0 : ∃ r : Nat, r < 6 ∧ φ 19 l.toNat = (r : Int) ∧ χ 194 (112 + r) = ((l.toNat : Nat) : Int) + 1 := by
              rcases hsr with ⟨q1, _⟩ | ⟨q, q1, q2, q3, _⟩
              · exact absurd q1 c2
              · exact ⟨q, q1, q2, q3⟩
            obtain ⟨r, r1, r2, r3⟩ := hr0
            rw [if_neg c2, if_neg (show ¬ φ 19 l.toNat < 0 by omega), r2, show ((r : Int)).toNat = r from rfl, show (118 + (r : Int)).toNat = 118 + r by omega]
            have hrl : φ 21 r = χ 194 (118 + r) := (hst.2.2.1 r r1).2.1
            rw [hrl]
            by_cases c3 : χ 194 (118 + r) ≤ 0
            · rw [if_pos c3, if_pos c3]
              exact go
            · rw [if_neg c3, if_neg c3, bnv_e rfl, bnv_e rfl]
              have hr3 : (r : Int) < χ 194 3 := by
                by_cases hh : (r : Int) < χ 194 3
                · exact hh
                · have := ((hst.2.2.1 r r1).2.2.2.2.1 (by omega)).1
                  omega
              obtain ⟨p1, p2, p3, p4⟩ := spk_17 r1 hb lo1 cl1 st1 (by omega) hr3
              generalize F_State_speak_17_5 (hf_up φ 18 l.toNat (χ 194 (104 + l.toNat))) (r : Int) = ψ at p1 p4
              generalize F_RideLawsModel_saysOne_192 χ (r : Int) = ξ at p1 p2 p3
              have q99 : ∀ j : Nat, j < 99 → ξ 194 j = χ 194 j := fun j hj => p2 j (by omega)
              have hb' : LB (ξ 194) := by
                refine ⟨?_, fun i hi => ?_⟩
                · unfold CB
                  rw [q99 0 (by decide), q99 1 (by decide), q99 2 (by decide), q99 3 (by decide), q99 4 (by decide)]
                  exact hb.1
                · rw [q99 (75 + i) (by omega), q99 (83 + i) (by omega)]
                  exact hb.2 i hi
              have hrb' : RB (ξ 194) := fun i hi => by rw [q99 (5 + i) (by omega), q99 (8 + i) (by omega)]; exact hrb i hi
              have pA : ∀ a j : Nat, ¬ (a = 17 ∨ a = 18 ∨ a = 23 ∨ a = 24 ∨ a = 25) → ψ a j = φ a j := fun a j ha => (p4 a j (by omega)).trans (hu a j (by omega))
              have ma' : MA_17 ψ (ξ 194) (l + 1) := by
                intro i hi
                rw [q99 1 (by decide)] at hi
                obtain ⟨a1, a2, a3⟩ := ma1 i hi
                obtain ⟨_, gi, gi1, gi2, _⟩ := hse i hi
                rw [q99 (11 + i) (by omega), q99 (5 + (χ 194 (11 + i)).toNat) (by omega), q99 (8 + (χ 194 (11 + i)).toNat) (by omega), p2 (104 + i) (by omega), p4 18 i (by decide)]
                exact ⟨a1, a2, a3⟩
              obtain ⟨i1, i2, i3, i4, i5⟩ := ih k ψ ξ (l + 1) (by omega) (by omega) (by omega) (by omega) hb' hrb' (log_f lo1 (by omega) (fun j => p4 _ j (by decide)) q99) (clg_f cl1 (fun j => p4 _ j (by decide)) q99) (seg_f se1 (by omega) (fun a j ha => p4 a j (by omega)) q99) (stn_f p1 (fun _ _ _ => rfl) q99 (fun _ _ => rfl)) ma'
              rw [q99 1 (by decide)] at i1 i4
              exact ⟨i1, fun j hj => (i2 j hj).trans (p2 j (by omega)), fun a j ha => (i3 a j ha).trans (p3 a j ha), fun a j ha => (i4 a j ha).trans (pA a j ha), i5.trans (by rw [p2 99 (by omega)])⟩
        · rw [if_pos c1, if_pos c1]
          exact go
theorem turn_17 {φ χ : hf_F} (hI : Inv χ) (hP : PLG 5 φ (χ 194) (χ 197)) (h : STG 17 φ (χ 194) (χ 194)) :
    STG 17 (F_State_turn_17_5 φ) (F_RideLawsModel_tick_192 χ 194) (F_RideLawsModel_tick_192 χ 194) ∧ (∀ j : Nat, (j < 99 ∨ 180 ≤ j) → F_RideLawsModel_tick_192 χ 194 j = χ 194 j) ∧ (∀ a j : Nat, ¬ a = 194 → F_RideLawsModel_tick_192 χ a j = χ a j) ∧
    (∀ a j : Nat, ¬ (a = 17 ∨ a = 18 ∨ a = 23 ∨ a = 24 ∨ a = 25) → F_State_turn_17_5 φ a j = φ a j) ∧ F_RideLawsModel_tick_192 χ 194 99 = χ 194 99 + 1 := by
  obtain ⟨p1, p2, p3, p4, p5, p6, p7⟩ := hP
  have hb := lb_i hI
  have cb := hb.1
  unfold CB at cb
  have e1 : F_State_turn_17_5 φ = F_State_turn_17_5_l9 9 φ (χ 194 1) 0 := by
    unfold F_State_turn_17_5
    rw [show φ 6 1 = χ 194 1 from p1.2.1]
    rfl
  have hrg : ∀ i : Nat, (i : Int) < χ 194 1 → 0 ≤ χ 194 (11 + i) ∧ χ 194 (11 + i) ≤ 2 := fun i hi => by
    obtain ⟨_, g, g1, g2, _⟩ := p4 i hi
    omega
  obtain ⟨ξ, t1, t2, t3, t4⟩ := tick_1 9 χ 0 (by decide) (by decide) (by decide) (by omega) hrg
  have e2 : F_RideLawsModel_tick_192 χ = F_RideLawsModel_tick_192_l73 9 ξ 0 := t1
  rw [e1, e2]
  have q99 : ∀ j : Nat, ¬ (104 ≤ j ∧ j < 112) → ξ 194 j = χ 194 j := fun j hj => t3 j (by omega)
  have hb' : LB (ξ 194) := by
    refine ⟨?_, fun i hi => ?_⟩
    · unfold CB
      rw [q99 0 (by decide), q99 1 (by decide), q99 2 (by decide), q99 3 (by decide), q99 4 (by decide)]
      exact hb.1
    · rw [q99 (75 + i) (by omega), q99 (83 + i) (by omega)]
      exact hb.2 i hi
  have hrb := rb_i hI
  have hrb' : RB (ξ 194) := fun i hi => by rw [q99 (5 + i) (by omega), q99 (8 + i) (by omega)]; exact hrb i hi
  have qk : ∀ k, k < 99 → ξ 194 k = χ 194 k := fun k hk => q99 k (by omega)
  have hma : MA_17 φ (ξ 194) 0 := by
    intro i hi
    rw [qk 1 (by decide)] at hi
    obtain ⟨_, g, g1, g2, g3, g4, g5⟩ := p4 i hi
    obtain ⟨a1, a2, a3⟩ := h.2 i hi
    have hg := hrb g (by omega)
    have hgn : (χ 194 (11 + i)).toNat = g := by omega
    have a1' : φ 18 i = χ 194 (104 + i) := a1
    have ht := t2 i (by omega) hi
    rw [hgn] at a3 ht
    obtain ⟨_, e2, e3, _⟩ := step_e (n := χ 194 (5 + g)) (v := χ 194 (8 + g)) (a := χ 194 (104 + i)) g5 hg.1.2 hg.2.1 hg.2.2 a2 a3
    rw [qk (11 + i) (by omega), hgn, qk (5 + g) (by omega), qk (8 + g) (by omega), ht, a1']
    exact ⟨⟨e2, e3⟩, fun z => by omega, fun _ => ⟨a2, a3, rfl⟩⟩
  obtain ⟨i1, i2, i3, i4, i5⟩ := turn_l_17 9 9 φ ξ 0 (by decide) (by decide) (by decide) (by decide) hb' hrb' (log_f p6 (by omega) (fun _ => rfl) qk) (clg_f p7 (fun _ => rfl) qk) (seg_f p4 (by omega) (fun _ _ _ => rfl) qk) (stn_f h.1 (fun _ _ _ => rfl) qk (fun k hk => q99 k (by omega))) hma
  rw [qk 1 (by decide)] at i1 i4
  exact ⟨i1, fun j hj => (i2 j hj).trans (q99 j (by omega)), fun a j ha => (i3 a j ha).trans (t4 a j ha), i4, i5.trans (by rw [q99 99 (by omega)])⟩
theorem ron_43 {φ χ : hf_F} (hc : χ 194 3 ≤ 6) (h : SIT 43 φ (χ 194)) (hz : ∀ r : Nat, r < 6 → χ 194 3 ≤ (r : Int) → χ 194 (112 + r) = 0) (s : Nat) (hs : s < 8) : F_RideLawsModel_riderOn_192 χ (s : Int) = φ 45 s := by
  have hh : ∀ (n : Nat) (l : Int), 6 - l < n → 0 ≤ l → l ≤ 6 → (F_RideLawsModel_riderOn_192_l2 n χ (s : Int) l = -1 ∧ ∀ r : Nat, l ≤ (r : Int) → (r : Int) < χ 194 3 → ¬ χ 194 (112 + r) = (s : Int) + 1) ∨ (∃ r : Nat, F_RideLawsModel_riderOn_192_l2 n χ (s : Int) l = (r : Int) ∧ (r : Int) < χ 194 3 ∧ χ 194 (112 + r) = (s : Int) + 1) := by
    intro n
    induction n with
    | zero => intro l h1 h2 h3; omega
    | succ n ih =>
      intro l h1 h2 h3
      rw [F_RideLawsModel_riderOn_192_l2_s]
      by_cases c : χ 194 3 ≤ l
      · rw [if_pos c]
        exact Or.inl ⟨rfl, fun r a1 a2 => by omega⟩
      · rw [if_neg c, show (112 + l).toNat = 112 + l.toNat by omega]
        by_cases c2 : χ 194 (112 + l.toNat) = (s : Int) + 1
        · rw [if_neg (fun q => q c2)]
          exact Or.inr ⟨l.toNat, by omega, by omega, c2⟩
        · rw [if_pos c2]
          rcases ih (l + 1) (by omega) (by omega) (by omega) with ⟨i1, i2⟩ | i
          · refine Or.inl ⟨i1, fun r a1 a2 => ?_⟩
            by_cases he : (r : Int) = l
            · rw [show r = l.toNat by omega]; exact c2
            · exact i2 r (by omega) a2
          · exact Or.inr i
  have e : F_RideLawsModel_riderOn_192 χ (s : Int) = F_RideLawsModel_riderOn_192_l2 7 χ (s : Int) 0 := rfl
  rw [e]
  rcases hh 7 0 (by decide) (by decide) (by decide) with ⟨i1, i2⟩ | ⟨r, i1, i2, i3⟩
  · rw [i1]
    rcases h s hs with ⟨q1, q2⟩ | ⟨q, q1, q2, q3, q4⟩
    · exact q1.symm
    · exfalso
      by_cases hq : (q : Int) < χ 194 3
      · exact i2 q (by omega) hq q3
      · have := hz q q1 (by omega); omega
  · rw [i1]
    rcases h s hs with ⟨q1, q2⟩ | ⟨q, q1, q2, q3, q4⟩
    · exact absurd i3 (q2 r (by omega))
    · rw [q4 r (by omega) i3]; exact q2.symm
/-- the seats' steps in the midst of a TICK -/
noncomputable def MA_43 (φ : hf_F) (m : Nat → Int) (l : Int) : Prop := ∀ i : Nat, (i : Int) < m 1 → (0 ≤ m (104 + i) ∧ m (104 + i) < m (5 + (m (11 + i)).toNat)) ∧ ((i : Int) < l → φ 44 i = m (104 + i)) ∧ (l ≤ (i : Int) → 0 ≤ φ 44 i ∧ φ 44 i < m (5 + (m (11 + i)).toNat) ∧ m (104 + i) = (φ 44 i + m (8 + (m (11 + i)).toNat)).tmod (m (5 + (m (11 + i)).toNat)))
theorem turn_l_43 : ∀ (n : Nat) (k : Nat) (φ χ : hf_F) (l : Int), 8 - l < n → 8 - l < k → 0 ≤ l → l ≤ 8 → LB (χ 194) → RB (χ 194) → LOG 5 φ (χ 194) → CLG 5 φ (χ 194) → SEG 5 φ (χ 194) → STN 43 φ (χ 194) (χ 194) → MA_43 φ (χ 194) l →
    STG 43 (F_State_turn_43_5_l9 n φ (χ 194 1) l) (F_RideLawsModel_tick_192_l73 k χ l 194) (F_RideLawsModel_tick_192_l73 k χ l 194) ∧ (∀ j : Nat, (j < 99 ∨ 180 ≤ j) → F_RideLawsModel_tick_192_l73 k χ l 194 j = χ 194 j) ∧ (∀ a j : Nat, ¬ a = 194 → F_RideLawsModel_tick_192_l73 k χ l a j = χ a j) ∧
    (∀ a j : Nat, ¬ (a = 43 ∨ a = 44 ∨ a = 49 ∨ a = 50 ∨ a = 51) → F_State_turn_43_5_l9 n φ (χ 194 1) l a j = φ a j) ∧ F_RideLawsModel_tick_192_l73 k χ l 194 99 = χ 194 99 + 1 := by
  intro n
  induction n with
  | zero => intro k φ χ l h1 h2 h3 h4; omega
  | succ n ih =>
    intro k φ χ l h1 h2 h3 h4 hb hrb hlo hcl hse hst hma
    cases k with
    | zero => omega
    | succ k =>
      rw [F_State_turn_43_5_l9_s, F_RideLawsModel_tick_192_l73_s]
      have cb := hb.1
      unfold CB at cb
      by_cases c : χ 194 1 ≤ l
      · rw [if_pos c, if_pos c]
        obtain ⟨⟨s1, s2, s3, s4, s5, s6, s7, s8⟩, hsit, hrol, hhof⟩ := hst
        have hk : ∀ j : Nat, ¬ j = 99 → hf_up χ 194 99 (χ 194 99 + 1) 194 j = χ 194 j := fun j hj => hf_up_ne (fun z => hj z.2)
        have st0 : STN 43 φ (χ 194) (hf_up (fun a j => if a = 194 ∧ j = 99 then χ 194 99 else χ a j) 194 99 (χ 194 99) 194) := by
          refine stn_f ⟨⟨s1, s2, s3, s4, s5, s6, s7, s8⟩, hsit, hrol, hhof⟩ (fun _ _ _ => rfl) (fun _ _ => rfl) (fun j _ => ?_)
          by_cases hj : j = 99
          · subst hj; rw [hf_up_eq]
          · rw [hf_up_ne (fun z => hj z.2)]; exact if_neg (fun z => hj z.2)
        refine ⟨⟨⟨⟨?_, ?_, ?_, ?_, ?_, ?_, ?_, ?_⟩, ?_, ?_, ?_⟩, ?_⟩, fun j hj => hk j (by omega), fun a j ha => hf_up_ne (fun z => ha z.1), fun a j ha => hf_up_ne (fun z => ha (Or.inl z.1)), hf_up_eq⟩
        · rw [hf_up_eq, hf_up_eq, s1]
        · rw [hk 100 (by decide)]; exact (hf_up_ne (fun z => absurd z.2 (by decide))).trans s2
        · rw [hk 101 (by decide)]; exact (hf_up_ne (fun z => absurd z.2 (by decide))).trans s3
        · rw [hk 102 (by decide)]; exact (hf_up_ne (fun z => absurd z.2 (by decide))).trans s4
        · rw [hk 103 (by decide)]; exact (hf_up_ne (fun z => absurd z.2 (by decide))).trans s5
        · rw [hk 166 (by decide), hk 167 (by decide), hk 168 (by decide), hk 169 (by decide), hk 170 (by decide), hk 171 (by decide)]; exact (hf_up_ne (fun z => absurd z.2 (by decide))).trans s6
        · rw [hk 100 (by decide), hk 2 (by decide)]; exact s7
        · rw [hk 101 (by decide), hk 3 (by decide)]; exact s8
        · intro v hv
          rw [show hf_up φ 43 0 (φ 43 0 + 1) (43 + 2) v = φ (43 + 2) v from hf_up_ne (fun z => absurd z.1 (by decide))]
          rcases hsit v hv with ⟨q1, q2⟩ | ⟨q, q1, q2, q3, q4⟩
          · exact Or.inl ⟨q1, fun q hq => by rw [hk (112 + q) (by omega)]; exact q2 q hq⟩
          · exact Or.inr ⟨q, q1, q2, by rw [hk (112 + q) (by omega)]; exact q3, fun p hp => by rw [hk (112 + p) (by omega)]; exact q4 p hp⟩
        · intro q hq
          obtain ⟨t1, t2, t3, t4, t5, t6, t7, t8, t9⟩ := hrol q hq
          have u : ∀ a j : Nat, ¬ a = 43 → hf_up φ 43 0 (φ 43 0 + 1) a j = φ a j := fun a j ha => hf_up_ne (fun z => ha z.1)
          unfold ROL
          rw [u (43 + 3) q (by decide), u (43 + 4) q (by decide), u (43 + 6) q (by decide), u (43 + 7) q (by decide), hk (112 + q) (by omega), hk (118 + q) (by omega), hk (160 + q) (by omega), hk (166 + q) (by omega), hk 1 (by decide), hk 2 (by decide), hk 3 (by decide)]
          refine ⟨t1, t2, t3, t4, t5, t6, t7, t8, fun j hj => ?_⟩
          rw [u (43 + 5) _ (by decide), hk (124 + 6 * q + j) (by omega)]
          exact t9 j hj
        · intro v hv
          rw [show hf_up φ 43 0 (φ 43 0 + 1) (43 + 8) v = φ (43 + 8) v from hf_up_ne (fun z => absurd z.1 (by decide)), hk (172 + v) (by omega)]
          exact hhof v hv
        · intro i hi
          rw [hk 1 (by decide)] at hi
          obtain ⟨m1, m2, m3⟩ := hma i hi
          obtain ⟨_, g, g1, g2, _⟩ := hse i hi
          rw [show hf_up φ 43 0 (φ 43 0 + 1) (43 + 1) i = φ 44 i from hf_up_ne (fun z => absurd z.1 (by decide)), hk (104 + i) (by omega), hk (11 + i) (by omega), hk (5 + (χ 194 (11 + i)).toNat) (by omega)]
          exact ⟨m2 (by omega), m1.1, m1.2⟩
      · rw [if_neg c, if_neg c, show (104 + l).toNat = 104 + l.toNat by omega]
        obtain ⟨m1, m2, m3⟩ := hma l.toNat (by omega)
        have m3 := m3 (by omega)
        obtain ⟨g0, g, g1, g2, g3, g4, g5⟩ := hse l.toNat (by omega)
        have hg := hrb g (by omega)
        have hgn : (χ 194 (11 + l.toNat)).toNat = g := by omega
        rw [hgn] at m1 m3
        have hstep : F_Plan_stepOn_5 φ l (φ 44 l.toNat) = χ 194 (104 + l.toNat) := by
          obtain ⟨e1, e2, e3, e4, e5⟩ := step_e (n := χ 194 (5 + g)) (v := χ 194 (8 + g)) (a := φ 44 l.toNat) g5 hg.1.2 hg.2.1 hg.2.2 m3.1 m3.2.1
          unfold F_Plan_stepOn_5
          have g3' : φ 12 l.toNat = χ 194 (5 + g) := g3
          have g4' : φ 11 l.toNat = (χ 194 (8 + g)).tmod (χ 194 (5 + g)) := g4
          rw [g3', g4', hi_n (z := φ 44 l.toNat + (χ 194 (8 + g)).tmod (χ 194 (5 + g))) (by unfold hi; omega), e1]
          exact m3.2.2.symm
        rw [bnp_e hstep, hi_n (z := χ 194 (104 + l.toNat)) (by unfold hi; omega)]
        have hu : ∀ a j : Nat, ¬ a = 44 → hf_up φ 44 l.toNat (χ 194 (104 + l.toNat)) a j = φ a j := fun a j ha => hf_up_ne (fun z => ha z.1)
        have st1 : STN 43 (hf_up φ 44 l.toNat (χ 194 (104 + l.toNat))) (χ 194) (χ 194) := stn_f hst (fun a j ha => hu a j (by omega)) (fun _ _ => rfl) (fun _ _ => rfl)
        have ma1 : MA_43 (hf_up φ 44 l.toNat (χ 194 (104 + l.toNat))) (χ 194) (l + 1) := by
          intro i hi
          obtain ⟨a1, a2, a3⟩ := hma i hi
          by_cases he : i = l.toNat
          · subst he
            exact ⟨a1, fun _ => hf_up_eq, fun z => by omega⟩
          · rw [hf_up_ne (fun z => he z.2)]
            exact ⟨a1, fun z => a2 (by omega), fun z => a3 (by omega)⟩
        have lo1 : LOG 5 (hf_up φ 44 l.toNat (χ 194 (104 + l.toNat))) (χ 194) := log_f hlo (by omega) (fun j => hu _ j (by decide)) (fun _ _ => rfl)
        have cl1 : CLG 5 (hf_up φ 44 l.toNat (χ 194 (104 + l.toNat))) (χ 194) := clg_f hcl (fun j => hu _ j (by decide)) (fun _ _ => rfl)
        have se1 : SEG 5 (hf_up φ 44 l.toNat (χ 194 (104 + l.toNat))) (χ 194) := seg_f hse (by omega) (fun a j ha => hu a j (by omega)) (fun _ _ => rfl)
        have go : STG 43 (F_State_turn_43_5_l9 n (hf_up φ 44 l.toNat (χ 194 (104 + l.toNat))) (χ 194 1) (l + 1)) (F_RideLawsModel_tick_192_l73 k χ (l + 1) 194) (F_RideLawsModel_tick_192_l73 k χ (l + 1) 194) ∧ (∀ j : Nat, (j < 99 ∨ 180 ≤ j) → F_RideLawsModel_tick_192_l73 k χ (l + 1) 194 j = χ 194 j) ∧ (∀ a j : Nat, ¬ a = 194 → F_RideLawsModel_tick_192_l73 k χ (l + 1) a j = χ a j) ∧
            (∀ a j : Nat, ¬ (a = 43 ∨ a = 44 ∨ a = 49 ∨ a = 50 ∨ a = 51) → F_State_turn_43_5_l9 n (hf_up φ 44 l.toNat (χ 194 (104 + l.toNat))) (χ 194 1) (l + 1) a j = φ a j) ∧ F_RideLawsModel_tick_192_l73 k χ (l + 1) 194 99 = χ 194 99 + 1 := by
          obtain ⟨i1, i2, i3, i4, i5⟩ := ih k (hf_up φ 44 l.toNat (χ 194 (104 + l.toNat))) χ (l + 1) (by omega) (by omega) (by omega) (by omega) hb hrb lo1 cl1 se1 st1 ma1
          exact ⟨i1, i2, i3, fun a j ha => (i4 a j ha).trans (hu a j (fun z => ha (Or.inr (Or.inl z)))), i5⟩
        by_cases c1 : χ 194 (104 + l.toNat) = 0
        · rw [if_neg (show ¬ ¬ χ 194 (104 + l.toNat) = 0 from fun q => q c1), if_neg (show ¬ ¬ χ 194 (104 + l.toNat) = 0 from fun q => q c1)]
          have hro := ron_43 (φ := φ) (χ := χ) (by omega) hst.2.1 (fun r hr hr3 => ((hst.2.2.1 r hr).2.2.2.2.1 hr3).1) l.toNat (by omega)
          rw [show ((l.toNat : Nat) : Int) = l by omega] at hro
          rw [bnp_e hro]
          by_cases c2 : φ 45 l.toNat = -1
          · rw [if_pos c2, if_pos (show φ 45 l.toNat < 0 by omega)]
            exact go
          · have hsr := hst.2.1 l.toNat (by omega)
            have hr0 : ∃ r : Nat, r < 6 ∧ φ 45 l.toNat = (r : Int) ∧ χ 194 (112 + r) = ((l.toNat : Nat) : Int) + 1 := by
              rcases hsr with ⟨q1, _⟩ | ⟨q, q1, q2, q3, _⟩
              · exact absurd q1 c2
              · exact ⟨q, q1, q2, q3⟩
            obtain ⟨r, r1, r2, r3⟩ := hr0
            rw [if_neg c2, if_neg (show ¬ φ 45 l.toNat < 0 by omega), r2, show ((r : Int)).toNat = r from rfl, show (118 + (r : Int)).toNat = 118 + r by omega]
            have hrl : φ 47 r = χ 194 (118 + r) := (hst.2.2.1 r r1).2.1
            rw [hrl]
            by_cases c3 : χ 194 (118 + r) ≤ 0
            · rw [if_pos c3, if_pos c3]
              exact go
            · rw [if_neg c3, if_neg c3, bnv_e rfl, bnv_e rfl]
              have hr3 : (r : Int) < χ 194 3 := by
                by_cases hh : (r : Int) < χ 194 3
                · exact hh
                · have := ((hst.2.2.1 r r1).2.2.2.2.1 (by omega)).1
                  omega
              obtain ⟨p1, p2, p3, p4⟩ := spk_43 r1 hb lo1 cl1 st1 (by omega) hr3
              generalize F_State_speak_43_5 (hf_up φ 44 l.toNat (χ 194 (104 + l.toNat))) (r : Int) = ψ at p1 p4
              generalize F_RideLawsModel_saysOne_192 χ (r : Int) = ξ at p1 p2 p3
              have q99 : ∀ j : Nat, j < 99 → ξ 194 j = χ 194 j := fun j hj => p2 j (by omega)
              have hb' : LB (ξ 194) := by
                refine ⟨?_, fun i hi => ?_⟩
                · unfold CB
                  rw [q99 0 (by decide), q99 1 (by decide), q99 2 (by decide), q99 3 (by decide), q99 4 (by decide)]
                  exact hb.1
                · rw [q99 (75 + i) (by omega), q99 (83 + i) (by omega)]
                  exact hb.2 i hi
              have hrb' : RB (ξ 194) := fun i hi => by rw [q99 (5 + i) (by omega), q99 (8 + i) (by omega)]; exact hrb i hi
              have pA : ∀ a j : Nat, ¬ (a = 43 ∨ a = 44 ∨ a = 49 ∨ a = 50 ∨ a = 51) → ψ a j = φ a j := fun a j ha => (p4 a j (by omega)).trans (hu a j (by omega))
              have ma' : MA_43 ψ (ξ 194) (l + 1) := by
                intro i hi
                rw [q99 1 (by decide)] at hi
                obtain ⟨a1, a2, a3⟩ := ma1 i hi
                obtain ⟨_, gi, gi1, gi2, _⟩ := hse i hi
                rw [q99 (11 + i) (by omega), q99 (5 + (χ 194 (11 + i)).toNat) (by omega), q99 (8 + (χ 194 (11 + i)).toNat) (by omega), p2 (104 + i) (by omega), p4 44 i (by decide)]
                exact ⟨a1, a2, a3⟩
              obtain ⟨i1, i2, i3, i4, i5⟩ := ih k ψ ξ (l + 1) (by omega) (by omega) (by omega) (by omega) hb' hrb' (log_f lo1 (by omega) (fun j => p4 _ j (by decide)) q99) (clg_f cl1 (fun j => p4 _ j (by decide)) q99) (seg_f se1 (by omega) (fun a j ha => p4 a j (by omega)) q99) (stn_f p1 (fun _ _ _ => rfl) q99 (fun _ _ => rfl)) ma'
              rw [q99 1 (by decide)] at i1 i4
              exact ⟨i1, fun j hj => (i2 j hj).trans (p2 j (by omega)), fun a j ha => (i3 a j ha).trans (p3 a j ha), fun a j ha => (i4 a j ha).trans (pA a j ha), i5.trans (by rw [p2 99 (by omega)])⟩
        · rw [if_pos c1, if_pos c1]
          exact go
theorem turn_43 {φ χ : hf_F} (hI : Inv χ) (hP : PLG 5 φ (χ 194) (χ 197)) (h : STG 43 φ (χ 194) (χ 194)) :
    STG 43 (F_State_turn_43_5 φ) (F_RideLawsModel_tick_192 χ 194) (F_RideLawsModel_tick_192 χ 194) ∧ (∀ j : Nat, (j < 99 ∨ 180 ≤ j) → F_RideLawsModel_tick_192 χ 194 j = χ 194 j) ∧ (∀ a j : Nat, ¬ a = 194 → F_RideLawsModel_tick_192 χ a j = χ a j) ∧
    (∀ a j : Nat, ¬ (a = 43 ∨ a = 44 ∨ a = 49 ∨ a = 50 ∨ a = 51) → F_State_turn_43_5 φ a j = φ a j) ∧ F_RideLawsModel_tick_192 χ 194 99 = χ 194 99 + 1 := by
  obtain ⟨p1, p2, p3, p4, p5, p6, p7⟩ := hP
  have hb := lb_i hI
  have cb := hb.1
  unfold CB at cb
  have e1 : F_State_turn_43_5 φ = F_State_turn_43_5_l9 9 φ (χ 194 1) 0 := by
    unfold F_State_turn_43_5
    rw [show φ 6 1 = χ 194 1 from p1.2.1]
    rfl
  have hrg : ∀ i : Nat, (i : Int) < χ 194 1 → 0 ≤ χ 194 (11 + i) ∧ χ 194 (11 + i) ≤ 2 := fun i hi => by
    obtain ⟨_, g, g1, g2, _⟩ := p4 i hi
    omega
  obtain ⟨ξ, t1, t2, t3, t4⟩ := tick_1 9 χ 0 (by decide) (by decide) (by decide) (by omega) hrg
  have e2 : F_RideLawsModel_tick_192 χ = F_RideLawsModel_tick_192_l73 9 ξ 0 := t1
  rw [e1, e2]
  have q99 : ∀ j : Nat, ¬ (104 ≤ j ∧ j < 112) → ξ 194 j = χ 194 j := fun j hj => t3 j (by omega)
  have hb' : LB (ξ 194) := by
    refine ⟨?_, fun i hi => ?_⟩
    · unfold CB
      rw [q99 0 (by decide), q99 1 (by decide), q99 2 (by decide), q99 3 (by decide), q99 4 (by decide)]
      exact hb.1
    · rw [q99 (75 + i) (by omega), q99 (83 + i) (by omega)]
      exact hb.2 i hi
  have hrb := rb_i hI
  have hrb' : RB (ξ 194) := fun i hi => by rw [q99 (5 + i) (by omega), q99 (8 + i) (by omega)]; exact hrb i hi
  have qk : ∀ k, k < 99 → ξ 194 k = χ 194 k := fun k hk => q99 k (by omega)
  have hma : MA_43 φ (ξ 194) 0 := by
    intro i hi
    rw [qk 1 (by decide)] at hi
    obtain ⟨_, g, g1, g2, g3, g4, g5⟩ := p4 i hi
    obtain ⟨a1, a2, a3⟩ := h.2 i hi
    have hg := hrb g (by omega)
    have hgn : (χ 194 (11 + i)).toNat = g := by omega
    have a1' : φ 44 i = χ 194 (104 + i) := a1
    have ht := t2 i (by omega) hi
    rw [hgn] at a3 ht
    obtain ⟨_, e2, e3, _⟩ := step_e (n := χ 194 (5 + g)) (v := χ 194 (8 + g)) (a := χ 194 (104 + i)) g5 hg.1.2 hg.2.1 hg.2.2 a2 a3
    rw [qk (11 + i) (by omega), hgn, qk (5 + g) (by omega), qk (8 + g) (by omega), ht, a1']
    exact ⟨⟨e2, e3⟩, fun z => by omega, fun _ => ⟨a2, a3, rfl⟩⟩
  obtain ⟨i1, i2, i3, i4, i5⟩ := turn_l_43 9 9 φ ξ 0 (by decide) (by decide) (by decide) (by decide) hb' hrb' (log_f p6 (by omega) (fun _ => rfl) qk) (clg_f p7 (fun _ => rfl) qk) (seg_f p4 (by omega) (fun _ _ _ => rfl) qk) (stn_f h.1 (fun _ _ _ => rfl) qk (fun k hk => q99 k (by omega))) hma
  rw [qk 1 (by decide)] at i1 i4
  exact ⟨i1, fun j hj => (i2 j hj).trans (q99 j (by omega)), fun a j ha => (i3 a j ha).trans (t4 a j ha), i4, i5.trans (by rw [q99 99 (by omega)])⟩
