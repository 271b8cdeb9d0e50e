/-! what changes a state: to mount, to alight, to learn, the whistle -/
theorem up_k {φ : hf_F} {a k j : Nat} {v : Int} (h : ¬ j = k) : hf_up φ a k v a j = φ a j := hf_up_ne (fun q => h q.2)
theorem up_a {φ : hf_F} {a b k j : Nat} {v : Int} (h : ¬ b = a) : hf_up φ a k v b j = φ b j := hf_up_ne (fun q => h q.1)
theorem sit_17 {φ : hf_F} {c m : Nat → Int} {r s : Nat} (hr : r < 6) (hs : s < 8) (hr3 : (r : Int) < c 3) (hs1 : (s : Int) < c 1) (h : STN 17 φ c m) (h0 : φ 20 r = -1) (h1 : φ 19 s = -1) {m' : Nat → Int} (hm : ∀ k, m' k = if k = 112 + r then (s : Int) + 1 else m k) :
    STN 17 (F_State_sitDown_17 φ (r : Int) (s : Int)) c m' ∧ (∀ a k : Nat, ¬ (a = 20 ∨ a = 19) → F_State_sitDown_17 φ (r : Int) (s : Int) a k = φ a k) := by
  have e : F_State_sitDown_17 φ (r : Int) (s : Int) = hf_up (hf_up φ 20 r (s : Int)) 19 s (r : Int) := rfl
  rw [e]
  have hk : ∀ k, ¬ k = 112 + r → m' k = m k := fun k q => by rw [hm, if_neg q]
  have hx : m' (112 + r) = (s : Int) + 1 := by rw [hm, if_pos rfl]
  have hO : ∀ a k : Nat, ¬ (a = 20 ∨ a = 19) → hf_up (hf_up φ 20 r (s : Int)) 19 s (r : Int) a k = φ a k := fun a k q => by rw [up_a (fun w => q (Or.inr w)), up_a (fun w => q (Or.inl w))]
  obtain ⟨⟨s1, s2, s3, s4, s5, s6, s7, s8⟩, hsit, hrol, hhof⟩ := h
  have h112 : m (112 + r) = 0 := by
    have : φ 20 r = m (112 + r) - 1 := (hrol r hr).1
    omega
  refine ⟨⟨⟨?_, ?_, ?_, ?_, ?_, ?_, ?_, ?_⟩, ?_, ?_, ?_⟩, hO⟩
  · rw [hO 17 0 (by decide), hk 99 (by omega)]; exact s1
  · rw [hO 17 1 (by decide), hk 100 (by omega)]; exact s2
  · rw [hO 17 2 (by decide), hk 101 (by omega)]; exact s3
  · rw [hO 17 3 (by decide), hk 102 (by omega)]; exact s4
  · rw [hO 17 5 (by decide), hk 103 (by omega)]; exact s5
  · rw [hO 17 4 (by decide), hk 166 (by omega), hk 167 (by omega), hk 168 (by omega), hk 169 (by omega), hk 170 (by omega), hk 171 (by omega)]; exact s6
  · rw [hk 100 (by omega)]; exact s7
  · rw [hk 101 (by omega)]; exact s8
  · intro v hv
    by_cases c : v = s
    · refine Or.inr ⟨r, hr, ?_, ?_, fun q hq hq2 => ?_⟩
      · rw [c]; exact hf_up_eq
      · rw [hx, c]
      · refine Classical.byContradiction (fun hne => ?_)
        rw [hk (112 + q) (by omega)] at hq2
        rcases hsit s hs with ⟨q1, q2⟩ | ⟨q', q1, q2, q3, _⟩
        · exact q2 q hq (by omega)
        · have : φ 19 s = (q' : Int) := q2
          omega
    · have e2 : hf_up (hf_up φ 20 r (s : Int)) 19 s (r : Int) (17 + 2) v = φ (17 + 2) v := (hf_up_ne (fun w => c w.2)).trans (hf_up_ne (fun w => absurd w.1 (by decide)))
      rw [e2]
      have hne : ∀ q : Nat, q < 6 → m' (112 + q) = (v : Int) + 1 → m (112 + q) = (v : Int) + 1 ∧ ¬ q = r := fun q hq hq2 => by
        by_cases hqr : q = r
        · subst hqr; rw [hx] at hq2; omega
        · rw [hk (112 + q) (by omega)] at hq2; exact ⟨hq2, hqr⟩
      rcases hsit v hv with ⟨q1, q2⟩ | ⟨q, q1, q2, q3, q4⟩
      · exact Or.inl ⟨q1, fun q hq hq2 => q2 q hq (hne q hq hq2).1⟩
      · have hqr : ¬ q = r := fun w => by subst w; omega
        exact Or.inr ⟨q, q1, q2, by rw [hk (112 + q) (by omega)]; exact q3, fun p hp hp2 => q4 p hp (hne p hp hp2).1⟩
  · intro q hq
    obtain ⟨t1, t2, t3, t4, t5, t6, t7, t8, t9⟩ := hrol q hq
    unfold ROL
    rw [hO (17 + 4) q (by decide), hO (17 + 6) q (by decide), hO (17 + 7) q (by decide), hk (118 + q) (by omega), hk (160 + q) (by omega), hk (166 + q) (by omega)]
    have t9' : ∀ k : Nat, (k : Int) < m (118 + q) → hf_up (hf_up φ 20 r (s : Int)) 19 s (r : Int) (17 + 5) (6 * q + k) = m' (124 + 6 * q + k) ∧ 0 ≤ m' (124 + 6 * q + k) ∧ m' (124 + 6 * q + k) < c 2 := fun k hk2 => by
      rw [hO (17 + 5) _ (by decide), hk (124 + 6 * q + k) (by omega)]
      exact t9 k hk2
    by_cases hqr : q = r
    · subst hqr
      rw [hx]
      refine ⟨?_, t2, t3, t4, fun w => by omega, by omega, t7, t8, t9'⟩
      exact ((hf_up_ne (fun w => absurd w.1 (by decide))).trans hf_up_eq).trans (by omega)
    · rw [hk (112 + q) (by omega)]
      exact ⟨((hf_up_ne (fun w => absurd w.1 (by decide))).trans (hf_up_ne (fun w => hqr w.2))).trans t1, t2, t3, t4, t5, t6, t7, t8, t9'⟩
  · intro l hl
    rw [hO (17 + 8) l (by decide), hk (172 + l) (by omega)]
    exact hhof l hl
theorem off_17 {φ : hf_F} {c m : Nat → Int} {r : Nat} (hr : r < 6) (hc1 : c 1 ≤ 8) (h : STN 17 φ c m) (h0 : ¬ φ 20 r = -1) {m' : Nat → Int} (hm : ∀ k, m' k = if k = 112 + r then 0 else m k) :
    STN 17 (F_State_getOff_17 φ (r : Int)) c m' ∧ (∀ a k : Nat, ¬ (a = 20 ∨ a = 19) → F_State_getOff_17 φ (r : Int) a k = φ a k) := by
  have e : F_State_getOff_17 φ (r : Int) = hf_up (hf_up φ 19 (φ 20 r).toNat (-1 : Int)) 20 r (-1 : Int) := by
    unfold F_State_getOff_17
    rw [show ((r : Int)).toNat = r from rfl, if_neg h0]
  rw [e]
  have hk : ∀ k, ¬ k = 112 + r → m' k = m k := fun k q => by rw [hm, if_neg q]
  have hx : m' (112 + r) = 0 := by rw [hm, if_pos rfl]
  have hO : ∀ a k : Nat, ¬ (a = 20 ∨ a = 19) → hf_up (hf_up φ 19 (φ 20 r).toNat (-1 : Int)) 20 r (-1 : Int) a k = φ a k := fun a k q => by rw [up_a (fun w => q (Or.inl w)), up_a (fun w => q (Or.inr w))]
  obtain ⟨⟨s1, s2, s3, s4, s5, s6, s7, s8⟩, hsit, hrol, hhof⟩ := h
  have hso : φ 20 r = m (112 + r) - 1 := (hrol r hr).1
  have hm1 := (hrol r hr).2.2.2.2.2.1
  refine ⟨⟨⟨?_, ?_, ?_, ?_, ?_, ?_, ?_, ?_⟩, ?_, ?_, ?_⟩, hO⟩
  · rw [hO 17 0 (by decide), hk 99 (by omega)]; exact s1
  · rw [hO 17 1 (by decide), hk 100 (by omega)]; exact s2
  · rw [hO 17 2 (by decide), hk 101 (by omega)]; exact s3
  · rw [hO 17 3 (by decide), hk 102 (by omega)]; exact s4
  · rw [hO 17 5 (by decide), hk 103 (by omega)]; exact s5
  · rw [hO 17 4 (by decide), hk 166 (by omega), hk 167 (by omega), hk 168 (by omega), hk 169 (by omega), hk 170 (by omega), hk 171 (by omega)]; exact s6
  · rw [hk 100 (by omega)]; exact s7
  · rw [hk 101 (by omega)]; exact s8
  · intro v hv
    by_cases c : v = (φ 20 r).toNat
    · refine Or.inl ⟨?_, fun q hq hq2 => ?_⟩
      · rw [c]; exact (hf_up_ne (fun w => absurd w.1 (by decide))).trans hf_up_eq
      · by_cases hqr : q = r
        · subst hqr; rw [hx] at hq2; omega
        · rw [hk (112 + q) (by omega)] at hq2
          rcases hsit v hv with ⟨q1, q2⟩ | ⟨p, q1, q2, q3, q4⟩
          · exact q2 q hq hq2
          · have a := q4 q hq hq2
            have b := q4 r hr (by omega)
            omega
    · have e2 : hf_up (hf_up φ 19 (φ 20 r).toNat (-1 : Int)) 20 r (-1 : Int) (17 + 2) v = φ (17 + 2) v := (hf_up_ne (fun w => absurd w.1 (by decide))).trans (hf_up_ne (fun w => c w.2))
      rw [e2]
      have hne : ∀ q : Nat, q < 6 → m' (112 + q) = (v : Int) + 1 → m (112 + q) = (v : Int) + 1 := fun q hq hq2 => by
        by_cases hqr : q = r
        · subst hqr; rw [hx] at hq2; omega
        · rw [hk (112 + q) (by omega)] at hq2; exact hq2
      rcases hsit v hv with ⟨q1, q2⟩ | ⟨q, q1, q2, q3, q4⟩
      · exact Or.inl ⟨q1, fun q hq hq2 => q2 q hq (hne q hq hq2)⟩
      · have hqr : ¬ q = r := fun w => by subst w; omega
        exact Or.inr ⟨q, q1, q2, by rw [hk (112 + q) (by omega)]; exact q3, fun p hp hp2 => q4 p hp (hne p hp hp2)⟩
  · intro q hq
    obtain ⟨t1, t2, t3, t4, t5, t6, t7, t8, t9⟩ := hrol q hq
    unfold ROL
    rw [hO (17 + 4) q (by decide), hO (17 + 6) q (by decide), hO (17 + 7) q (by decide), hk (118 + q) (by omega), hk (160 + q) (by omega), hk (166 + q) (by omega)]
    have t9' : ∀ k : Nat, (k : Int) < m (118 + q) → hf_up (hf_up φ 19 (φ 20 r).toNat (-1 : Int)) 20 r (-1 : Int) (17 + 5) (6 * q + k) = m' (124 + 6 * q + k) ∧ 0 ≤ m' (124 + 6 * q + k) ∧ m' (124 + 6 * q + k) < c 2 := fun k hk2 => by
      rw [hO (17 + 5) _ (by decide), hk (124 + 6 * q + k) (by omega)]
      exact t9 k hk2
    by_cases hqr : q = r
    · subst hqr
      rw [hx]
      exact ⟨hf_up_eq, t2, t3, t4, fun w => ⟨rfl, (t5 w).2⟩, by omega, t7, t8, t9'⟩
    · rw [hk (112 + q) (by omega)]
      exact ⟨((hf_up_ne (fun w => hqr w.2)).trans (hf_up_ne (fun w => absurd w.1 (by decide)))).trans t1, t2, t3, t4, t5, t6, t7, t8, t9'⟩
  · intro l hl
    rw [hO (17 + 8) l (by decide), hk (172 + l) (by omega)]
    exact hhof l hl
theorem lrn_17 {φ : hf_F} {c m : Nat → Int} {r w : Nat} (hr : r < 6) (hr3 : (r : Int) < c 3) (hw : (w : Int) < c 2) (h : STN 17 φ c m) (h0 : m (118 + r) < 6) {m' : Nat → Int} (hm : ∀ k, m' k = if k = 118 + r then m (118 + r) + 1 else if k = 124 + 6 * r + (m (118 + r)).toNat then (w : Int) else m k) :
    STN 17 (F_State_addWord_17 φ (r : Int) (w : Int)) c m' ∧ (∀ a k : Nat, ¬ (a = 22 ∨ a = 21) → F_State_addWord_17 φ (r : Int) (w : Int) a k = φ a k) := by
  obtain ⟨⟨s1, s2, s3, s4, s5, s6, s7, s8⟩, hsit, hrol, hhof⟩ := h
  have hrl : φ 21 r = m (118 + r) := (hrol r hr).2.1
  have hl0 := (hrol r hr).2.2.2.2.2.2.1
  have e : F_State_addWord_17 φ (r : Int) (w : Int) = hf_up (hf_up φ 22 (6 * r + (m (118 + r)).toNat) (w : Int)) 21 r (m (118 + r) + 1) := by
    unfold F_State_addWord_17
    rw [show ((r : Int)).toNat = r from rfl, hrl, show ((r : Int) * 6 + m (118 + r)).toNat = 6 * r + (m (118 + r)).toNat by omega]
  rw [e]
  have hk : ∀ k, ¬ k = 118 + r → ¬ k = 124 + 6 * r + (m (118 + r)).toNat → m' k = m k := fun k q1 q2 => by rw [hm, if_neg q1, if_neg q2]
  have hx : m' (118 + r) = m (118 + r) + 1 := by rw [hm, if_pos rfl]
  have hy : m' (124 + 6 * r + (m (118 + r)).toNat) = (w : Int) := by rw [hm, if_neg (by omega), if_pos rfl]
  have hO : ∀ a k : Nat, ¬ (a = 22 ∨ a = 21) → hf_up (hf_up φ 22 (6 * r + (m (118 + r)).toNat) (w : Int)) 21 r (m (118 + r) + 1) a k = φ a k := fun a k q => by rw [up_a (fun w => q (Or.inr w)), up_a (fun w => q (Or.inl w))]
  refine ⟨⟨⟨?_, ?_, ?_, ?_, ?_, ?_, ?_, ?_⟩, ?_, ?_, ?_⟩, hO⟩
  · rw [hO 17 0 (by decide), hk 99 (by omega) (by omega)]; exact s1
  · rw [hO 17 1 (by decide), hk 100 (by omega) (by omega)]; exact s2
  · rw [hO 17 2 (by decide), hk 101 (by omega) (by omega)]; exact s3
  · rw [hO 17 3 (by decide), hk 102 (by omega) (by omega)]; exact s4
  · rw [hO 17 5 (by decide), hk 103 (by omega) (by omega)]; exact s5
  · rw [hO 17 4 (by decide), hk 166 (by omega) (by omega), hk 167 (by omega) (by omega), hk 168 (by omega) (by omega), hk 169 (by omega) (by omega), hk 170 (by omega) (by omega), hk 171 (by omega) (by omega)]; exact s6
  · rw [hk 100 (by omega) (by omega)]; exact s7
  · rw [hk 101 (by omega) (by omega)]; exact s8
  · intro v hv
    rw [hO (17 + 2) v (by decide)]
    rcases hsit v hv with ⟨q1, q2⟩ | ⟨q, q1, q2, q3, q4⟩
    · exact Or.inl ⟨q1, fun q hq => by rw [hk (112 + q) (by omega) (by omega)]; exact q2 q hq⟩
    · exact Or.inr ⟨q, q1, q2, by rw [hk (112 + q) (by omega) (by omega)]; exact q3, fun p hp => by rw [hk (112 + p) (by omega) (by omega)]; exact q4 p hp⟩
  · intro q hq
    obtain ⟨t1, t2, t3, t4, t5, t6, t7, t8, t9⟩ := hrol q hq
    unfold ROL
    rw [hO (17 + 3) q (by decide), hO (17 + 6) q (by decide), hO (17 + 7) q (by decide), hk (112 + q) (by omega) (by omega), hk (160 + q) (by omega) (by omega), hk (166 + q) (by omega) (by omega)]
    by_cases hqr : q = r
    · subst hqr
      rw [hx]
      refine ⟨t1, hf_up_eq, t3, t4, fun w => by omega, t6, by omega, by omega, fun k hk2 => ?_⟩
      have e5 : ∀ j, hf_up (hf_up φ 22 (6 * q + (m (118 + q)).toNat) (w : Int)) 21 q (m (118 + q) + 1) (17 + 5) j = hf_up φ 22 (6 * q + (m (118 + q)).toNat) (w : Int) 22 j := fun j => hf_up_ne (fun w => absurd w.1 (by decide))
      rw [e5]
      by_cases c2 : k = (m (118 + q)).toNat
      · subst c2
        rw [hf_up_eq, hy]
        exact ⟨rfl, by omega, hw⟩
      · rw [hf_up_ne (fun w => by omega), hk (124 + 6 * q + k) (by omega) (by omega)]
        exact t9 k (by omega)
    · rw [hk (118 + q) (by omega) (by omega)]
      refine ⟨t1, (hf_up_ne (fun w => hqr w.2)).trans ((hf_up_ne (fun w => absurd w.1 (by decide))).trans t2), t3, t4, t5, t6, t7, t8, fun k hk2 => ?_⟩
      rw [hk (124 + 6 * q + k) (by omega) (by omega)]
      have := t9 k hk2
      exact ⟨((hf_up_ne (fun w => absurd w.1 (by decide))).trans (hf_up_ne (fun w => by omega))).trans this.1, this.2⟩
  · intro l hl
    rw [hO (17 + 8) l (by decide), hk (172 + l) (by omega) (by omega)]
    exact hhof l hl
theorem blw_17 {φ : hf_F} {c m : Nat → Int} (hc : 0 ≤ c 2 ∧ 0 ≤ c 3) (h : STN 17 φ c m) {m' : Nat → Int} (hm : ∀ k, m' k = if 160 ≤ k ∧ k < 166 then 0 else if k = 103 then m 103 + 1 else if k = 100 ∨ k = 101 ∨ k = 102 then 0 else m k) :
    STN 17 (F_State_blow_17 φ) c m' ∧ (∀ a k : Nat, ¬ (a = 17 ∨ a = 23) → F_State_blow_17 φ a k = φ a k) := by
  obtain ⟨⟨s1, s2, s3, s4, s5, s6, s7, s8⟩, hsit, hrol, hhof⟩ := h
  have e : ∀ a k, F_State_blow_17 φ a k = if a = 23 ∧ k < 6 then 0 else if a = 17 ∧ k = 5 then φ 17 5 + 1 else hf_up (hf_up (hf_up φ 17 3 0) 17 1 (-1 : Int)) 17 2 (-1 : Int) a k := by
    intro a k
    unfold F_State_blow_17
    rw [bnv_e rfl]
    have e5 : F_java_util_Arrays_fill_23_k1_0 (hf_up (hf_up (hf_up φ 17 3 0) 17 1 (-1 : Int)) 17 2 (-1 : Int)) 17 5 = φ 17 5 := by rw [fil_23, if_neg (by omega)]; rfl
    rw [e5]
    by_cases c1 : a = 17 ∧ k = 5
    · obtain ⟨rfl, rfl⟩ := c1
      rw [hf_up_eq, if_neg (by omega), if_pos ⟨rfl, rfl⟩]
    · rw [hf_up_ne c1, fil_23, if_neg c1]
  have hO : ∀ a k : Nat, ¬ (a = 17 ∨ a = 23) → F_State_blow_17 φ a k = φ a k := fun a k q => by
    rw [e, if_neg (by omega), if_neg (by omega), up_a (fun w => q (Or.inl w)), up_a (fun w => q (Or.inl w)), up_a (fun w => q (Or.inl w))]
  have hk : ∀ k, ¬ (160 ≤ k ∧ k < 166) → ¬ k = 103 → ¬ (k = 100 ∨ k = 101 ∨ k = 102) → m' k = m k := fun k q1 q2 q3 => by rw [hm, if_neg q1, if_neg q2, if_neg q3]
  have z100 : m' 100 = 0 := by rw [hm, if_neg (by omega), if_neg (by omega), if_pos (by omega)]
  have z101 : m' 101 = 0 := by rw [hm, if_neg (by omega), if_neg (by omega), if_pos (by omega)]
  have z102 : m' 102 = 0 := by rw [hm, if_neg (by omega), if_neg (by omega), if_pos (by omega)]
  refine ⟨⟨⟨?_, ?_, ?_, ?_, ?_, ?_, ?_, ?_⟩, ?_, ?_, ?_⟩, hO⟩
  · rw [e, if_neg (by omega), if_neg (by omega), hk 99 (by omega) (by omega) (by omega)]; exact s1
  · rw [e, if_neg (by omega), if_neg (by omega), z100]; rfl
  · rw [e, if_neg (by omega), if_neg (by omega), z101]; rfl
  · rw [e, if_neg (by omega), if_neg (by omega), z102]; rfl
  · rw [e, if_neg (by omega), if_pos ⟨rfl, rfl⟩, hm, if_neg (by omega), if_pos rfl, s5]
  · rw [e, if_neg (by omega), if_neg (by omega), hk 166 (by omega) (by omega) (by omega), hk 167 (by omega) (by omega) (by omega), hk 168 (by omega) (by omega) (by omega), hk 169 (by omega) (by omega) (by omega), hk 170 (by omega) (by omega) (by omega), hk 171 (by omega) (by omega) (by omega)]; exact s6
  · rw [z100]; omega
  · rw [z101]; omega
  · intro v hv
    rw [hO (17 + 2) v (by decide)]
    rcases hsit v hv with ⟨q1, q2⟩ | ⟨q, q1, q2, q3, q4⟩
    · exact Or.inl ⟨q1, fun q hq => by rw [hk (112 + q) (by omega) (by omega) (by omega)]; exact q2 q hq⟩
    · exact Or.inr ⟨q, q1, q2, by rw [hk (112 + q) (by omega) (by omega) (by omega)]; exact q3, fun p hp => by rw [hk (112 + p) (by omega) (by omega) (by omega)]; exact q4 p hp⟩
  · intro q hq
    obtain ⟨t1, t2, t3, t4, t5, t6, t7, t8, t9⟩ := hrol q hq
    have z160 : m' (160 + q) = 0 := by rw [hm, if_pos (by omega)]
    unfold ROL
    rw [hO (17 + 3) q (by decide), hO (17 + 4) q (by decide), hO (17 + 7) q (by decide), hk (112 + q) (by omega) (by omega) (by omega), hk (118 + q) (by omega) (by omega) (by omega), hk (166 + q) (by omega) (by omega) (by omega), z160]
    refine ⟨t1, t2, ?_, t4, t5, t6, t7, ⟨by decide, Or.inr rfl⟩, fun k hk2 => ?_⟩
    · rw [e, if_pos ⟨rfl, hq⟩]
    · rw [hO (17 + 5) _ (by decide), hk (124 + 6 * q + k) (by omega) (by omega) (by omega)]
      exact t9 k hk2
  · intro l hl
    rw [hO (17 + 8) l (by decide), hk (172 + l) (by omega) (by omega) (by omega)]
    exact hhof l hl
theorem sit_43 {φ : hf_F} {c m : Nat → Int} {r s : Nat} (hr : r < 6) (hs : s < 8) (hr3 : (r : Int) < c 3) (hs1 : (s : Int) < c 1) (h : STN 43 φ c m) (h0 : φ 46 r = -1) (h1 : φ 45 s = -1) {m' : Nat → Int} (hm : ∀ k, m' k = if k = 112 + r then (s : Int) + 1 else m k) :
    STN 43 (F_State_sitDown_43 φ (r : Int) (s : Int)) c m' ∧ (∀ a k : Nat, ¬ (a = 46 ∨ a = 45) → F_State_sitDown_43 φ (r : Int) (s : Int) a k = φ a k) := by
  have e : F_State_sitDown_43 φ (r : Int) (s : Int) = hf_up (hf_up φ 46 r (s : Int)) 45 s (r : Int) := rfl
  rw [e]
  have hk : ∀ k, ¬ k = 112 + r → m' k = m k := fun k q => by rw [hm, if_neg q]
  have hx : m' (112 + r) = (s : Int) + 1 := by rw [hm, if_pos rfl]
  have hO : ∀ a k : Nat, ¬ (a = 46 ∨ a = 45) → hf_up (hf_up φ 46 r (s : Int)) 45 s (r : Int) a k = φ a k := fun a k q => by rw [up_a (fun w => q (Or.inr w)), up_a (fun w => q (Or.inl w))]
  obtain ⟨⟨s1, s2, s3, s4, s5, s6, s7, s8⟩, hsit, hrol, hhof⟩ := h
  have h112 : m (112 + r) = 0 := by
    have : φ 46 r = m (112 + r) - 1 := (hrol r hr).1
    omega
  refine ⟨⟨⟨?_, ?_, ?_, ?_, ?_, ?_, ?_, ?_⟩, ?_, ?_, ?_⟩, hO⟩
  · rw [hO 43 0 (by decide), hk 99 (by omega)]; exact s1
  · rw [hO 43 1 (by decide), hk 100 (by omega)]; exact s2
  · rw [hO 43 2 (by decide), hk 101 (by omega)]; exact s3
  · rw [hO 43 3 (by decide), hk 102 (by omega)]; exact s4
  · rw [hO 43 5 (by decide), hk 103 (by omega)]; exact s5
  · rw [hO 43 4 (by decide), hk 166 (by omega), hk 167 (by omega), hk 168 (by omega), hk 169 (by omega), hk 170 (by omega), hk 171 (by omega)]; exact s6
  · rw [hk 100 (by omega)]; exact s7
  · rw [hk 101 (by omega)]; exact s8
  · intro v hv
    by_cases c : v = s
    · refine Or.inr ⟨r, hr, ?_, ?_, fun q hq hq2 => ?_⟩
      · rw [c]; exact hf_up_eq
      · rw [hx, c]
      · refine Classical.byContradiction (fun hne => ?_)
        rw [hk (112 + q) (by omega)] at hq2
        rcases hsit s hs with ⟨q1, q2⟩ | ⟨q', q1, q2, q3, _⟩
        · exact q2 q hq (by omega)
        · have : φ 45 s = (q' : Int) := q2
          omega
    · have e2 : hf_up (hf_up φ 46 r (s : Int)) 45 s (r : Int) (43 + 2) v = φ (43 + 2) v := (hf_up_ne (fun w => c w.2)).trans (hf_up_ne (fun w => absurd w.1 (by decide)))
      rw [e2]
      have hne : ∀ q : Nat, q < 6 → m' (112 + q) = (v : Int) + 1 → m (112 + q) = (v : Int) + 1 ∧ ¬ q = r := fun q hq hq2 => by
        by_cases hqr : q = r
        · subst hqr; rw [hx] at hq2; omega
        · rw [hk (112 + q) (by omega)] at hq2; exact ⟨hq2, hqr⟩
      rcases hsit v hv with ⟨q1, q2⟩ | ⟨q, q1, q2, q3, q4⟩
      · exact Or.inl ⟨q1, fun q hq hq2 => q2 q hq (hne q hq hq2).1⟩
      · have hqr : ¬ q = r := fun w => by subst w; omega
        exact Or.inr ⟨q, q1, q2, by rw [hk (112 + q) (by omega)]; exact q3, fun p hp hp2 => q4 p hp (hne p hp hp2).1⟩
  · intro q hq
    obtain ⟨t1, t2, t3, t4, t5, t6, t7, t8, t9⟩ := hrol q hq
    unfold ROL
    rw [hO (43 + 4) q (by decide), hO (43 + 6) q (by decide), hO (43 + 7) q (by decide), hk (118 + q) (by omega), hk (160 + q) (by omega), hk (166 + q) (by omega)]
    have t9' : ∀ k : Nat, (k : Int) < m (118 + q) → hf_up (hf_up φ 46 r (s : Int)) 45 s (r : Int) (43 + 5) (6 * q + k) = m' (124 + 6 * q + k) ∧ 0 ≤ m' (124 + 6 * q + k) ∧ m' (124 + 6 * q + k) < c 2 := fun k hk2 => by
      rw [hO (43 + 5) _ (by decide), hk (124 + 6 * q + k) (by omega)]
      exact t9 k hk2
    by_cases hqr : q = r
    · subst hqr
      rw [hx]
      refine ⟨?_, t2, t3, t4, fun w => by omega, by omega, t7, t8, t9'⟩
      exact ((hf_up_ne (fun w => absurd w.1 (by decide))).trans hf_up_eq).trans (by omega)
    · rw [hk (112 + q) (by omega)]
      exact ⟨((hf_up_ne (fun w => absurd w.1 (by decide))).trans (hf_up_ne (fun w => hqr w.2))).trans t1, t2, t3, t4, t5, t6, t7, t8, t9'⟩
  · intro l hl
    rw [hO (43 + 8) l (by decide), hk (172 + l) (by omega)]
    exact hhof l hl
theorem off_43 {φ : hf_F} {c m : Nat → Int} {r : Nat} (hr : r < 6) (hc1 : c 1 ≤ 8) (h : STN 43 φ c m) (h0 : ¬ φ 46 r = -1) {m' : Nat → Int} (hm : ∀ k, m' k = if k = 112 + r then 0 else m k) :
    STN 43 (F_State_getOff_43 φ (r : Int)) c m' ∧ (∀ a k : Nat, ¬ (a = 46 ∨ a = 45) → F_State_getOff_43 φ (r : Int) a k = φ a k) := by
  have e : F_State_getOff_43 φ (r : Int) = hf_up (hf_up φ 45 (φ 46 r).toNat (-1 : Int)) 46 r (-1 : Int) := by
    unfold F_State_getOff_43
    rw [show ((r : Int)).toNat = r from rfl, if_neg h0]
  rw [e]
  have hk : ∀ k, ¬ k = 112 + r → m' k = m k := fun k q => by rw [hm, if_neg q]
  have hx : m' (112 + r) = 0 := by rw [hm, if_pos rfl]
  have hO : ∀ a k : Nat, ¬ (a = 46 ∨ a = 45) → hf_up (hf_up φ 45 (φ 46 r).toNat (-1 : Int)) 46 r (-1 : Int) a k = φ a k := fun a k q => by rw [up_a (fun w => q (Or.inl w)), up_a (fun w => q (Or.inr w))]
  obtain ⟨⟨s1, s2, s3, s4, s5, s6, s7, s8⟩, hsit, hrol, hhof⟩ := h
  have hso : φ 46 r = m (112 + r) - 1 := (hrol r hr).1
  have hm1 := (hrol r hr).2.2.2.2.2.1
  refine ⟨⟨⟨?_, ?_, ?_, ?_, ?_, ?_, ?_, ?_⟩, ?_, ?_, ?_⟩, hO⟩
  · rw [hO 43 0 (by decide), hk 99 (by omega)]; exact s1
  · rw [hO 43 1 (by decide), hk 100 (by omega)]; exact s2
  · rw [hO 43 2 (by decide), hk 101 (by omega)]; exact s3
  · rw [hO 43 3 (by decide), hk 102 (by omega)]; exact s4
  · rw [hO 43 5 (by decide), hk 103 (by omega)]; exact s5
  · rw [hO 43 4 (by decide), hk 166 (by omega), hk 167 (by omega), hk 168 (by omega), hk 169 (by omega), hk 170 (by omega), hk 171 (by omega)]; exact s6
  · rw [hk 100 (by omega)]; exact s7
  · rw [hk 101 (by omega)]; exact s8
  · intro v hv
    by_cases c : v = (φ 46 r).toNat
    · refine Or.inl ⟨?_, fun q hq hq2 => ?_⟩
      · rw [c]; exact (hf_up_ne (fun w => absurd w.1 (by decide))).trans hf_up_eq
      · by_cases hqr : q = r
        · subst hqr; rw [hx] at hq2; omega
        · rw [hk (112 + q) (by omega)] at hq2
          rcases hsit v hv with ⟨q1, q2⟩ | ⟨p, q1, q2, q3, q4⟩
          · exact q2 q hq hq2
          · have a := q4 q hq hq2
            have b := q4 r hr (by omega)
            omega
    · have e2 : hf_up (hf_up φ 45 (φ 46 r).toNat (-1 : Int)) 46 r (-1 : Int) (43 + 2) v = φ (43 + 2) v := (hf_up_ne (fun w => absurd w.1 (by decide))).trans (hf_up_ne (fun w => c w.2))
      rw [e2]
      have hne : ∀ q : Nat, q < 6 → m' (112 + q) = (v : Int) + 1 → m (112 + q) = (v : Int) + 1 := fun q hq hq2 => by
        by_cases hqr : q = r
        · subst hqr; rw [hx] at hq2; omega
        · rw [hk (112 + q) (by omega)] at hq2; exact hq2
      rcases hsit v hv with ⟨q1, q2⟩ | ⟨q, q1, q2, q3, q4⟩
      · exact Or.inl ⟨q1, fun q hq hq2 => q2 q hq (hne q hq hq2)⟩
      · have hqr : ¬ q = r := fun w => by subst w; omega
        exact Or.inr ⟨q, q1, q2, by rw [hk (112 + q) (by omega)]; exact q3, fun p hp hp2 => q4 p hp (hne p hp hp2)⟩
  · intro q hq
    obtain ⟨t1, t2, t3, t4, t5, t6, t7, t8, t9⟩ := hrol q hq
    unfold ROL
    rw [hO (43 + 4) q (by decide), hO (43 + 6) q (by decide), hO (43 + 7) q (by decide), hk (118 + q) (by omega), hk (160 + q) (by omega), hk (166 + q) (by omega)]
    have t9' : ∀ k : Nat, (k : Int) < m (118 + q) → hf_up (hf_up φ 45 (φ 46 r).toNat (-1 : Int)) 46 r (-1 : Int) (43 + 5) (6 * q + k) = m' (124 + 6 * q + k) ∧ 0 ≤ m' (124 + 6 * q + k) ∧ m' (124 + 6 * q + k) < c 2 := fun k hk2 => by
      rw [hO (43 + 5) _ (by decide), hk (124 + 6 * q + k) (by omega)]
      exact t9 k hk2
    by_cases hqr : q = r
    · subst hqr
      rw [hx]
      exact ⟨hf_up_eq, t2, t3, t4, fun w => ⟨rfl, (t5 w).2⟩, by omega, t7, t8, t9'⟩
    · rw [hk (112 + q) (by omega)]
      exact ⟨((hf_up_ne (fun w => hqr w.2)).trans (hf_up_ne (fun w => absurd w.1 (by decide)))).trans t1, t2, t3, t4, t5, t6, t7, t8, t9'⟩
  · intro l hl
    rw [hO (43 + 8) l (by decide), hk (172 + l) (by omega)]
    exact hhof l hl
theorem lrn_43 {φ : hf_F} {c m : Nat → Int} {r w : Nat} (hr : r < 6) (hr3 : (r : Int) < c 3) (hw : (w : Int) < c 2) (h : STN 43 φ c m) (h0 : m (118 + r) < 6) {m' : Nat → Int} (hm : ∀ k, m' k = if k = 118 + r then m (118 + r) + 1 else if k = 124 + 6 * r + (m (118 + r)).toNat then (w : Int) else m k) :
    STN 43 (F_State_addWord_43 φ (r : Int) (w : Int)) c m' ∧ (∀ a k : Nat, ¬ (a = 48 ∨ a = 47) → F_State_addWord_43 φ (r : Int) (w : Int) a k = φ a k) := by
  obtain ⟨⟨s1, s2, s3, s4, s5, s6, s7, s8⟩, hsit, hrol, hhof⟩ := h
  have hrl : φ 47 r = m (118 + r) := (hrol r hr).2.1
  have hl0 := (hrol r hr).2.2.2.2.2.2.1
  have e : F_State_addWord_43 φ (r : Int) (w : Int) = hf_up (hf_up φ 48 (6 * r + (m (118 + r)).toNat) (w : Int)) 47 r (m (118 + r) + 1) := by
    unfold F_State_addWord_43
    rw [show ((r : Int)).toNat = r from rfl, hrl, show ((r : Int) * 6 + m (118 + r)).toNat = 6 * r + (m (118 + r)).toNat by omega]
  rw [e]
  have hk : ∀ k, ¬ k = 118 + r → ¬ k = 124 + 6 * r + (m (118 + r)).toNat → m' k = m k := fun k q1 q2 => by rw [hm, if_neg q1, if_neg q2]
  have hx : m' (118 + r) = m (118 + r) + 1 := by rw [hm, if_pos rfl]
  have hy : m' (124 + 6 * r + (m (118 + r)).toNat) = (w : Int) := by rw [hm, if_neg (by omega), if_pos rfl]
  have hO : ∀ a k : Nat, ¬ (a = 48 ∨ a = 47) → hf_up (hf_up φ 48 (6 * r + (m (118 + r)).toNat) (w : Int)) 47 r (m (118 + r) + 1) a k = φ a k := fun a k q => by rw [up_a (fun w => q (Or.inr w)), up_a (fun w => q (Or.inl w))]
  refine ⟨⟨⟨?_, ?_, ?_, ?_, ?_, ?_, ?_, ?_⟩, ?_, ?_, ?_⟩, hO⟩
  · rw [hO 43 0 (by decide), hk 99 (by omega) (by omega)]; exact s1
  · rw [hO 43 1 (by decide), hk 100 (by omega) (by omega)]; exact s2
  · rw [hO 43 2 (by decide), hk 101 (by omega) (by omega)]; exact s3
  · rw [hO 43 3 (by decide), hk 102 (by omega) (by omega)]; exact s4
  · rw [hO 43 5 (by decide), hk 103 (by omega) (by omega)]; exact s5
  · rw [hO 43 4 (by decide), hk 166 (by omega) (by omega), hk 167 (by omega) (by omega), hk 168 (by omega) (by omega), hk 169 (by omega) (by omega), hk 170 (by omega) (by omega), hk 171 (by omega) (by omega)]; exact s6
  · rw [hk 100 (by omega) (by omega)]; exact s7
  · rw [hk 101 (by omega) (by omega)]; exact s8
  · intro v hv
    rw [hO (43 + 2) v (by decide)]
    rcases hsit v hv with ⟨q1, q2⟩ | ⟨q, q1, q2, q3, q4⟩
    · exact Or.inl ⟨q1, fun q hq => by rw [hk (112 + q) (by omega) (by omega)]; exact q2 q hq⟩
    · exact Or.inr ⟨q, q1, q2, by rw [hk (112 + q) (by omega) (by omega)]; exact q3, fun p hp => by rw [hk (112 + p) (by omega) (by omega)]; exact q4 p hp⟩
  · intro q hq
    obtain ⟨t1, t2, t3, t4, t5, t6, t7, t8, t9⟩ := hrol q hq
    unfold ROL
    rw [hO (43 + 3) q (by decide), hO (43 + 6) q (by decide), hO (43 + 7) q (by decide), hk (112 + q) (by omega) (by omega), hk (160 + q) (by omega) (by omega), hk (166 + q) (by omega) (by omega)]
    by_cases hqr : q = r
    · subst hqr
      rw [hx]
      refine ⟨t1, hf_up_eq, t3, t4, fun w => by omega, t6, by omega, by omega, fun k hk2 => ?_⟩
      have e5 : ∀ j, hf_up (hf_up φ 48 (6 * q + (m (118 + q)).toNat) (w : Int)) 47 q (m (118 + q) + 1) (43 + 5) j = hf_up φ 48 (6 * q + (m (118 + q)).toNat) (w : Int) 48 j := fun j => hf_up_ne (fun w => absurd w.1 (by decide))
      rw [e5]
      by_cases c2 : k = (m (118 + q)).toNat
      · subst c2
        rw [hf_up_eq, hy]
        exact ⟨rfl, by omega, hw⟩
      · rw [hf_up_ne (fun w => by omega), hk (124 + 6 * q + k) (by omega) (by omega)]
        exact t9 k (by omega)
    · rw [hk (118 + q) (by omega) (by omega)]
      refine ⟨t1, (hf_up_ne (fun w => hqr w.2)).trans ((hf_up_ne (fun w => absurd w.1 (by decide))).trans t2), t3, t4, t5, t6, t7, t8, fun k hk2 => ?_⟩
      rw [hk (124 + 6 * q + k) (by omega) (by omega)]
      have := t9 k hk2
      exact ⟨((hf_up_ne (fun w => absurd w.1 (by decide))).trans (hf_up_ne (fun w => by omega))).trans this.1, this.2⟩
  · intro l hl
    rw [hO (43 + 8) l (by decide), hk (172 + l) (by omega) (by omega)]
    exact hhof l hl
theorem blw_43 {φ : hf_F} {c m : Nat → Int} (hc : 0 ≤ c 2 ∧ 0 ≤ c 3) (h : STN 43 φ c m) {m' : Nat → Int} (hm : ∀ k, m' k = if 160 ≤ k ∧ k < 166 then 0 else if k = 103 then m 103 + 1 else if k = 100 ∨ k = 101 ∨ k = 102 then 0 else m k) :
    STN 43 (F_State_blow_43 φ) c m' ∧ (∀ a k : Nat, ¬ (a = 43 ∨ a = 49) → F_State_blow_43 φ a k = φ a k) := by
  obtain ⟨⟨s1, s2, s3, s4, s5, s6, s7, s8⟩, hsit, hrol, hhof⟩ := h
  have e : ∀ a k, F_State_blow_43 φ a k = if a = 49 ∧ k < 6 then 0 else if a = 43 ∧ k = 5 then φ 43 5 + 1 else hf_up (hf_up (hf_up φ 43 3 0) 43 1 (-1 : Int)) 43 2 (-1 : Int) a k := by
    intro a k
    unfold F_State_blow_43
    rw [bnv_e rfl]
    have e5 : F_java_util_Arrays_fill_49_k1_0 (hf_up (hf_up (hf_up φ 43 3 0) 43 1 (-1 : Int)) 43 2 (-1 : Int)) 43 5 = φ 43 5 := by rw [fil_49, if_neg (by omega)]; rfl
    rw [e5]
    by_cases c1 : a = 43 ∧ k = 5
    · obtain ⟨rfl, rfl⟩ := c1
      rw [hf_up_eq, if_neg (by omega), if_pos ⟨rfl, rfl⟩]
    · rw [hf_up_ne c1, fil_49, if_neg c1]
  have hO : ∀ a k : Nat, ¬ (a = 43 ∨ a = 49) → F_State_blow_43 φ a k = φ a k := fun a k q => by
    rw [e, if_neg (by omega), if_neg (by omega), up_a (fun w => q (Or.inl w)), up_a (fun w => q (Or.inl w)), up_a (fun w => q (Or.inl w))]
  have hk : ∀ k, ¬ (160 ≤ k ∧ k < 166) → ¬ k = 103 → ¬ (k = 100 ∨ k = 101 ∨ k = 102) → m' k = m k := fun k q1 q2 q3 => by rw [hm, if_neg q1, if_neg q2, if_neg q3]
  have z100 : m' 100 = 0 := by rw [hm, if_neg (by omega), if_neg (by omega), if_pos (by omega)]
  have z101 : m' 101 = 0 := by rw [hm, if_neg (by omega), if_neg (by omega), if_pos (by omega)]
  have z102 : m' 102 = 0 := by rw [hm, if_neg (by omega), if_neg (by omega), if_pos (by omega)]
  refine ⟨⟨⟨?_, ?_, ?_, ?_, ?_, ?_, ?_, ?_⟩, ?_, ?_, ?_⟩, hO⟩
  · rw [e, if_neg (by omega), if_neg (by omega), hk 99 (by omega) (by omega) (by omega)]; exact s1
  · rw [e, if_neg (by omega), if_neg (by omega), z100]; rfl
  · rw [e, if_neg (by omega), if_neg (by omega), z101]; rfl
  · rw [e, if_neg (by omega), if_neg (by omega), z102]; rfl
  · rw [e, if_neg (by omega), if_pos ⟨rfl, rfl⟩, hm, if_neg (by omega), if_pos rfl, s5]
  · rw [e, if_neg (by omega), if_neg (by omega), hk 166 (by omega) (by omega) (by omega), hk 167 (by omega) (by omega) (by omega), hk 168 (by omega) (by omega) (by omega), hk 169 (by omega) (by omega) (by omega), hk 170 (by omega) (by omega) (by omega), hk 171 (by omega) (by omega) (by omega)]; exact s6
  · rw [z100]; omega
  · rw [z101]; omega
  · intro v hv
    rw [hO (43 + 2) v (by decide)]
    rcases hsit v hv with ⟨q1, q2⟩ | ⟨q, q1, q2, q3, q4⟩
    · exact Or.inl ⟨q1, fun q hq => by rw [hk (112 + q) (by omega) (by omega) (by omega)]; exact q2 q hq⟩
    · exact Or.inr ⟨q, q1, q2, by rw [hk (112 + q) (by omega) (by omega) (by omega)]; exact q3, fun p hp => by rw [hk (112 + p) (by omega) (by omega) (by omega)]; exact q4 p hp⟩
  · intro q hq
    obtain ⟨t1, t2, t3, t4, t5, t6, t7, t8, t9⟩ := hrol q hq
    have z160 : m' (160 + q) = 0 := by rw [hm, if_pos (by omega)]
    unfold ROL
    rw [hO (43 + 3) q (by decide), hO (43 + 4) q (by decide), hO (43 + 7) q (by decide), hk (112 + q) (by omega) (by omega) (by omega), hk (118 + q) (by omega) (by omega) (by omega), hk (166 + q) (by omega) (by omega) (by omega), z160]
    refine ⟨t1, t2, ?_, t4, t5, t6, t7, ⟨by decide, Or.inr rfl⟩, fun k hk2 => ?_⟩
    · rw [e, if_pos ⟨rfl, hq⟩]
    · rw [hO (43 + 5) _ (by decide), hk (124 + 6 * q + k) (by omega) (by omega) (by omega)]
      exact t9 k hk2
  · intro l hl
    rw [hO (43 + 8) l (by decide), hk (172 + l) (by omega) (by omega) (by omega)]
    exact hhof l hl
