/-! the state of a RIDE: class and model; a TICK -/
noncomputable def CTG (c : Nat) (φ : hf_F) (m : Nat → Int) : Prop := φ (c + 1) 0 = m 0 ∧ φ (c + 1) 1 = m 1 ∧ φ (c + 1) 2 = m 2 ∧ φ (c + 1) 3 = m 3 ∧ φ (c + 1) 4 = m 4
noncomputable def NMF (f g : Nat → Int) (oa ob : Nat) (n : Int) : Prop := ∀ i : Nat, (i : Int) < n → VW (f (oa + i)) ∧ g (ob + i) = G8 (f (oa + i))
noncomputable def NMG (c : Nat) (φ : hf_F) (m nm : Nat → Int) : Prop := NMF (fun k => φ (c + 2) k) nm 0 0 (m 0) ∧ NMF (fun k => φ (c + 2) k) nm 8 3 (m 1) ∧ NMF (fun k => φ (c + 2) k) nm 16 11 (m 2) ∧ NMF (fun k => φ (c + 2) k) nm 24 19 (m 3) ∧ NMF (fun k => φ (c + 2) k) nm 32 25 (m 4)
noncomputable def RGG (c : Nat) (φ : hf_F) (m : Nat → Int) : Prop := ∀ i : Nat, (i : Int) < m 0 → φ (c + 3) i = m (5 + i) ∧ φ (c + 4) i = m (8 + i)
noncomputable def SEG (c : Nat) (φ : hf_F) (m : Nat → Int) : Prop := ∀ i : Nat, (i : Int) < m 1 → φ (c + 5) i = m (11 + i) ∧ ∃ g : Nat, (g : Int) < m 0 ∧ m (11 + i) = (g : Int) ∧ φ (c + 7) i = m (5 + g) ∧ φ (c + 6) i = (m (8 + g)).tmod (m (5 + g)) ∧ 1 ≤ m (5 + g)
noncomputable def LWG (c : Nat) (φ : hf_F) (m : Nat → Int) : Prop := ∀ i : Nat, (i : Int) < m 4 → φ (c + 8) i = m (75 + i) ∧ φ (c + 9) i = m (83 + i) ∧ m (75 + i) < m 2 ∧ m (83 + i) < m 2
noncomputable def LOG (c : Nat) (φ : hf_F) (m : Nat → Int) : Prop := ∀ a b : Nat, a < 8 → b < 8 → (φ (c + 11) (8 * a + b) = -1 ∧ ∀ i : Nat, (i : Int) < m 4 → ¬ (m (75 + i) = (a : Int) ∧ m (83 + i) = (b : Int))) ∨ (∃ i : Nat, (i : Int) < m 4 ∧ φ (c + 11) (8 * a + b) = (i : Int) ∧ m (75 + i) = (a : Int) ∧ m (83 + i) = (b : Int) ∧ ∀ q : Nat, (q : Int) < m 4 → m (75 + q) = (a : Int) → m (83 + q) = (b : Int) → q = i)
noncomputable def CLG (c : Nat) (φ : hf_F) (m : Nat → Int) : Prop := ∀ i : Nat, i < 8 → φ (c + 10) i = m (91 + i)
noncomputable def PLG (c : Nat) (φ : hf_F) (m nm : Nat → Int) : Prop := CTG c φ m ∧ NMG c φ m nm ∧ RGG c φ m ∧ SEG c φ m ∧ LWG c φ m ∧ LOG c φ m ∧ CLG c φ m
/-- the state but for the steps AT which the seats are; c: the RIDE's row -/
noncomputable def ROL (b : Nat) (φ : hf_F) (c m : Nat → Int) (r : Nat) : Prop := φ (b + 3) r = m (112 + r) - 1 ∧ φ (b + 4) r = m (118 + r) ∧ φ (b + 6) r = m (160 + r) ∧ φ (b + 7) r = m (166 + r) ∧ (c 3 ≤ (r : Int) → m (112 + r) = 0 ∧ m (118 + r) = 0 ∧ m (166 + r) = 0) ∧ (0 ≤ m (112 + r) ∧ m (112 + r) ≤ c 1) ∧ (0 ≤ m (118 + r) ∧ m (118 + r) ≤ 6) ∧
    (0 ≤ m (160 + r) ∧ (m (160 + r) < m (118 + r) ∨ m (160 + r) = 0)) ∧ ∀ k : Nat, (k : Int) < m (118 + r) → φ (b + 5) (6 * r + k) = m (124 + 6 * r + k) ∧ 0 ≤ m (124 + 6 * r + k) ∧ m (124 + 6 * r + k) < c 2
noncomputable def SIT (b : Nat) (φ : hf_F) (m : Nat → Int) : Prop := ∀ s : Nat, s < 8 → (φ (b + 2) s = -1 ∧ ∀ r : Nat, r < 6 → ¬ m (112 + r) = (s : Int) + 1) ∨ (∃ r : Nat, r < 6 ∧ φ (b + 2) s = (r : Int) ∧ m (112 + r) = (s : Int) + 1 ∧ ∀ q : Nat, q < 6 → m (112 + q) = (s : Int) + 1 → q = r)
noncomputable def STF (b : Nat) (φ : hf_F) (c m : Nat → Int) : Prop := φ b 0 = m 99 ∧ φ b 1 = m 100 - 1 ∧ φ b 2 = m 101 - 1 ∧ φ b 3 = m 102 ∧ φ b 5 = m 103 ∧ φ b 4 = m 166 + m 167 + m 168 + m 169 + m 170 + m 171 ∧ (0 ≤ m 100 ∧ m 100 ≤ c 2) ∧ (0 ≤ m 101 ∧ m 101 ≤ c 3)
noncomputable def HOF (b : Nat) (φ : hf_F) (m : Nat → Int) : Prop := ∀ l : Nat, l < 8 → φ (b + 8) l = m (172 + l)
noncomputable def STN (b : Nat) (φ : hf_F) (c m : Nat → Int) : Prop := STF b φ c m ∧ SIT b φ m ∧ (∀ r : Nat, r < 6 → ROL b φ c m r) ∧ HOF b φ m
noncomputable def ATG (b : Nat) (φ : hf_F) (c m : Nat → Int) : Prop := ∀ i : Nat, (i : Int) < c 1 → φ (b + 1) i = m (104 + i) ∧ 0 ≤ m (104 + i) ∧ m (104 + i) < c (5 + (c (11 + i)).toNat)
noncomputable def STG (b : Nat) (φ : hf_F) (c m : Nat → Int) : Prop := STN b φ c m ∧ ATG b φ c m
/-- the ranges of a RIDE's row -/
noncomputable def CB (m : Nat → Int) : Prop := (0 ≤ m 0 ∧ m 0 ≤ 3) ∧ (0 ≤ m 1 ∧ m 1 ≤ 8) ∧ (0 ≤ m 2 ∧ m 2 ≤ 8) ∧ (0 ≤ m 3 ∧ m 3 ≤ 6) ∧ (0 ≤ m 4 ∧ m 4 ≤ 8)
theorem cb_i {χ : hf_F} (hI : Inv χ) : CB (χ 194) := ⟨iv_at hI (by decide +kernel), iv_at hI (by decide +kernel), iv_at hI (by decide +kernel), iv_at hI (by decide +kernel), iv_at hI (by decide +kernel)⟩
theorem step_e {n v a : Int} (h1 : 1 ≤ n) (h2 : n ≤ 30) (h3 : 0 ≤ v) (h4 : v ≤ 9) (h5 : 0 ≤ a) (h6 : a < n) : (if a + v.tmod n < n then a + v.tmod n else a + v.tmod n - n) = (a + v).tmod n ∧ 0 ≤ (a + v).tmod n ∧ (a + v).tmod n < n ∧ 0 ≤ v.tmod n ∧ v.tmod n < n := by
  have hh : ∀ (n : Fin 31) (v : Fin 10) (a : Fin 30), 1 ≤ (n.1 : Int) → (a.1 : Int) < n.1 → (if (a.1 : Int) + (v.1 : Int).tmod n.1 < n.1 then (a.1 : Int) + (v.1 : Int).tmod n.1 else (a.1 : Int) + (v.1 : Int).tmod n.1 - n.1) = ((a.1 : Int) + v.1).tmod n.1 := by decide +kernel
  have := hh ⟨n.toNat, by omega⟩ ⟨v.toNat, by omega⟩ ⟨a.toNat, by omega⟩ (by show 1 ≤ ((n.toNat : Nat) : Int); omega) (by show ((a.toNat : Nat) : Int) < ((n.toNat : Nat) : Int); omega)
  dsimp only at this
  rw [show ((n.toNat : Nat) : Int) = n by omega, show ((v.toNat : Nat) : Int) = v by omega, show ((a.toNat : Nat) : Int) = a by omega] at this
  exact ⟨this, Int.tmod_nonneg _ (by omega), Int.tmod_lt_of_pos _ (by omega), Int.tmod_nonneg _ h3, Int.tmod_lt_of_pos _ (by omega)⟩
theorem plc_e {p n : Int} (h1 : 0 ≤ p) (h2 : p < n) (h3 : n ≤ 6) : (p + 1).tmod n = if n ≤ p + 1 then 0 else p + 1 := by
  have hh : ∀ (n : Fin 7) (p : Fin 6), (p.1 : Int) < n.1 → ((p.1 : Int) + 1).tmod n.1 = if (n.1 : Int) ≤ (p.1 : Int) + 1 then 0 else (p.1 : Int) + 1 := by decide +kernel
  have := hh ⟨n.toNat, by omega⟩ ⟨p.toNat, by omega⟩ (by show ((p.toNat : Nat) : Int) < ((n.toNat : Nat) : Int); omega)
  dsimp only at this
  rw [show ((n.toNat : Nat) : Int) = n by omega, show ((p.toNat : Nat) : Int) = p by omega] at this
  exact this
/-- what the model's rider says: its end -/
noncomputable def SFIN (χ : hf_F) (r w : Int) : hf_F := (hf_up (hf_up (hf_up (hf_up χ 194 100 (w + 1)) 194 101 (r + 1)) 194 ((166 + r).toNat) (((hf_up (hf_up χ 194 100 (w + 1)) 194 101 (r + 1)) 194 ((166 + r).toNat)) + 1)) 194 ((160 + r).toNat) ((((hf_up (hf_up (hf_up χ 194 100 (w + 1)) 194 101 (r + 1)) 194 ((166 + r).toNat) (((hf_up (hf_up χ 194 100 (w + 1)) 194 101 (r + 1)) 194 ((166 + r).toNat)) + 1)) 194 ((160 + r).toNat)) + 1).tmod ((hf_up (hf_up (hf_up χ 194 100 (w + 1)) 194 101 (r + 1)) 194 ((166 + r).toNat) (((hf_up (hf_up χ 194 100 (w + 1)) 194 101 (r + 1)) 194 ((166 + r).toNat)) + 1)) 194 ((118 + r).toNat))))
noncomputable def SLAW (χ : hf_F) (l : Nat) : hf_F := hf_up (hf_up χ 194 102 (hb_and (hb_or (χ 194 102) (hb_shl 1 (l : Int))) (hb_xor (χ 194 (91 + l)) (-1 : Int)))) 194 (172 + l) (χ 194 (172 + l) + 1)
theorem says_l : ∀ (n : Nat) (χ : hf_F) (r w l : Int), 8 - l < n → 0 ≤ l → l ≤ 8 → χ 194 4 ≤ 8 →
    ((∀ i : Nat, l ≤ (i : Int) → (i : Int) < χ 194 4 → ¬ (χ 194 100 = χ 194 (75 + i) + 1 ∧ χ 194 (83 + i) = w)) → F_RideLawsModel_saysOne_192_l8 n χ r w l = SFIN χ r w) ∧
    (∀ q : Nat, l ≤ (q : Int) → (q : Int) < χ 194 4 → χ 194 100 = χ 194 (75 + q) + 1 → χ 194 (83 + q) = w → (∀ i : Nat, l ≤ (i : Int) → (i : Int) < χ 194 4 → χ 194 100 = χ 194 (75 + i) + 1 → χ 194 (83 + i) = w → i = q) → F_RideLawsModel_saysOne_192_l8 n χ r w l = SFIN (SLAW χ q) r w) := by
  intro n
  induction n with
  | zero => intro χ r w l h1 h2 h3; omega
  | succ n ih =>
    intro χ r w l h1 h2 h3 h4
    rw [F_RideLawsModel_saysOne_192_l8_s]
    by_cases c1 : χ 194 4 ≤ l
    · rw [if_pos c1]
      exact ⟨fun _ => rfl, fun q a1 a2 => by omega⟩
    · rw [if_neg c1, show (75 + l).toNat = 75 + l.toNat by omega, show (83 + l).toNat = 83 + l.toNat by omega, show (91 + l).toNat = 91 + l.toNat by omega, show (172 + l).toNat = 172 + l.toNat by omega]
      obtain ⟨i1, i2⟩ := ih χ r w (l + 1) (by omega) (by omega) (by omega) h4
      have step : ¬ (χ 194 100 = χ 194 (75 + l.toNat) + 1 ∧ χ 194 (83 + l.toNat) = w) →
          ((∀ i : Nat, l ≤ (i : Int) → (i : Int) < χ 194 4 → ¬ (χ 194 100 = χ 194 (75 + i) + 1 ∧ χ 194 (83 + i) = w)) → F_RideLawsModel_saysOne_192_l8 n χ r w (l + 1) = SFIN χ r w) ∧
          (∀ q : Nat, l ≤ (q : Int) → (q : Int) < χ 194 4 → χ 194 100 = χ 194 (75 + q) + 1 → χ 194 (83 + q) = w → (∀ i : Nat, l ≤ (i : Int) → (i : Int) < χ 194 4 → χ 194 100 = χ 194 (75 + i) + 1 → χ 194 (83 + i) = w → i = q) → F_RideLawsModel_saysOne_192_l8 n χ r w (l + 1) = SFIN (SLAW χ q) r w) := by
        intro hc
        refine ⟨fun q => i1 (fun i a1 a2 => q i (by omega) a2), fun q a1 a2 a3 a4 a5 => i2 q ?_ a2 a3 a4 (fun i b1 b2 b3 b4 => a5 i (by omega) b2 b3 b4)⟩
        by_cases he : (q : Int) = l
        · exfalso
          rw [show l.toNat = q by omega] at hc
          exact hc ⟨a3, a4⟩
        · omega
      by_cases c2 : χ 194 100 = χ 194 (75 + l.toNat) + 1
      · rw [if_neg (fun q => q c2)]
        by_cases c3 : χ 194 (83 + l.toNat) = w
        · rw [if_pos c3]
          refine ⟨fun q => absurd ⟨c2, c3⟩ (q l.toNat (by omega) (by omega)), fun q a1 a2 a3 a4 a5 => ?_⟩
          have hq : q = l.toNat := (a5 l.toNat (by omega) (by omega) c2 c3).symm
          have e172 : hf_up χ 194 102 (hb_and (hb_or (χ 194 102) (hb_shl 1 l)) (hb_xor (χ 194 (91 + l.toNat)) (-1 : Int))) 194 (172 + l.toNat) = χ 194 (172 + l.toNat) := hf_up_ne (fun z => by omega)
          rw [e172]
          have hS : hf_up (hf_up χ 194 102 (hb_and (hb_or (χ 194 102) (hb_shl 1 l)) (hb_xor (χ 194 (91 + l.toNat)) (-1 : Int)))) 194 (172 + l.toNat) (χ 194 (172 + l.toNat) + 1) = SLAW χ q := by
            rw [hq]
            unfold SLAW
            rw [show ((l.toNat : Nat) : Int) = l by omega]
          rw [hS]
          have hk : ∀ k : Nat, ¬ k = 102 → ¬ k = 172 + q → SLAW χ q 194 k = χ 194 k := fun k k1 k2 => by
            unfold SLAW
            rw [hf_up_ne (fun z => k2 z.2), hf_up_ne (fun z => k1 z.2)]
          refine (ih (SLAW χ q) r w (l + 1) (by omega) (by omega) (by omega) (by rw [hk 4 (by omega) (by omega)]; exact h4)).1 (fun i b1 b2 b3 => ?_)
          rw [hk 4 (by omega) (by omega)] at b2
          rw [hk 100 (by omega) (by omega), hk (75 + i) (by omega) (by omega), hk (83 + i) (by omega) (by omega)] at b3
          have := a5 i (by omega) b2 b3.1 b3.2
          omega
        · rw [if_neg c3]
          exact step (fun q => c3 q.2)
      · rw [if_pos c2]
        exact step (fun q => c2 q.1)
