/-! the fresh heap: all that is kept from call to call holds -/
theorem g_f0_c : g_f0 6 0 = 0 ∧ g_f0 6 1 = 0 ∧ g_f0 6 2 = 0 ∧ g_f0 6 3 = 0 ∧ g_f0 6 4 = 0 ∧ g_f0 194 0 = 0 ∧ g_f0 194 1 = 0 ∧ g_f0 194 2 = 0 ∧ g_f0 194 3 = 0 ∧ g_f0 194 4 = 0 := by decide +kernel
theorem g_f0_lo : (List.range 64).all (fun k => decide (g_f0 16 k = -1)) = true := by decide +kernel
theorem g_f0_cl : (List.range 8).all (fun i => decide (g_f0 15 i = g_f0 194 (91 + i))) = true := by decide +kernel
theorem g_f0_sf : g_f0 17 0 = g_f0 194 99 ∧ g_f0 17 1 = g_f0 194 100 - 1 ∧ g_f0 17 2 = g_f0 194 101 - 1 ∧ g_f0 17 3 = g_f0 194 102 ∧ g_f0 17 5 = g_f0 194 103 ∧ g_f0 17 4 = g_f0 194 166 + g_f0 194 167 + g_f0 194 168 + g_f0 194 169 + g_f0 194 170 + g_f0 194 171 ∧ (0 ≤ g_f0 194 100 ∧ g_f0 194 100 ≤ g_f0 194 2) ∧ (0 ≤ g_f0 194 101 ∧ g_f0 194 101 ≤ g_f0 194 3) := by decide +kernel
theorem g_f0_si : (List.range 8).all (fun s => decide (g_f0 19 s = -1)) = true := by decide +kernel
theorem g_f0_on : (List.range 6).all (fun r => decide (g_f0 194 (112 + r) = 0)) = true := by decide +kernel
theorem g_f0_ro : (List.range 6).all (fun r => decide (g_f0 20 r = g_f0 194 (112 + r) - 1 ∧ g_f0 21 r = g_f0 194 (118 + r) ∧ g_f0 23 r = g_f0 194 (160 + r) ∧ g_f0 24 r = g_f0 194 (166 + r) ∧ g_f0 194 (112 + r) = 0 ∧ g_f0 194 (118 + r) = 0 ∧ g_f0 194 (166 + r) = 0 ∧ g_f0 194 (160 + r) = 0)) = true := by decide +kernel
theorem g_f0_ho : (List.range 8).all (fun l => decide (g_f0 25 l = g_f0 194 (172 + l))) = true := by decide +kernel
theorem g_f0_hi : g_f0 108 1 = g_f0 192 22 ∧ g_f0 192 22 = 0 ∧ g_f0 194 99 = 0 := by decide +kernel
theorem g_f0_hd : (List.range 8).all (fun i => (List.range 8).all (fun j => decide (g_f0 109 i = g_f0 109 j → i = j))) = true := by decide +kernel
theorem g_f0_im : g_f0 56 3 = g_f0 207 0 ∧ g_f0 82 3 = g_f0 207 1 ∧ g_f0 207 0 = 0 ∧ g_f0 207 1 = 0 := by decide +kernel
theorem g_f0_sm : g_f0 0 13 = -1 ∧ g_f0 192 24 = 0 ∧ g_f0 192 26 = 0 ∧ g_f0 0 14 = -1 ∧ g_f0 189 1 = 0 ∧ g_f0 192 28 = 0 := by decide +kernel
theorem g_f0_su : g_f0 194 166 = 0 ∧ g_f0 194 167 = 0 ∧ g_f0 194 168 = 0 ∧ g_f0 194 169 = 0 ∧ g_f0 194 170 = 0 ∧ g_f0 194 171 = 0 := by decide +kernel
theorem all_r {n : Nat} {p : Nat → Bool} (h : (List.range n).all p = true) {k : Nat} (hk : k < n) : p k = true := List.all_eq_true.mp h k (List.mem_range.mpr hk)
theorem g_f0_s : SCR g_f0 g_f0 := by
  obtain ⟨c0, c1, c2, c3, c4, d0, d1, d2, d3, d4⟩ := g_f0_c
  refine ⟨⟨⟨?_, ?_, ?_, ?_, ?_⟩, ⟨?_, ?_, ?_, ?_, ?_⟩, ?_, ?_, ?_, ?_, ?_⟩, ⟨⟨g_f0_sf, ?_, ?_, ?_⟩, ?_⟩, ⟨?_, ?_, ?_, ?_, ?_⟩, ?_⟩
  · exact c0.trans d0.symm
  · exact c1.trans d1.symm
  · exact c2.trans d2.symm
  · exact c3.trans d3.symm
  · exact c4.trans d4.symm
  · intro i hi2; rw [d0] at hi2; omega
  · intro i hi2; rw [d1] at hi2; omega
  · intro i hi2; rw [d2] at hi2; omega
  · intro i hi2; rw [d3] at hi2; omega
  · intro i hi2; rw [d4] at hi2; omega
  · intro i hi2; rw [d0] at hi2; omega
  · intro i hi2; rw [d1] at hi2; omega
  · intro i hi2; rw [d4] at hi2; omega
  · intro a b ha hb
    exact Or.inl ⟨of_decide_eq_true (all_r g_f0_lo (by omega)), fun i hi2 => by rw [d4] at hi2; omega⟩
  · intro i hi2
    exact of_decide_eq_true (all_r g_f0_cl hi2)
  · intro s hs
    refine Or.inl ⟨of_decide_eq_true (all_r g_f0_si hs), fun r hr q => ?_⟩
    have := of_decide_eq_true (all_r g_f0_on hr)
    omega
  · intro r hr
    obtain ⟨r1, r2, r3, r4, r5, r6, r7, r8⟩ := of_decide_eq_true (all_r g_f0_ro hr)
    exact ⟨r1, r2, r3, r4, fun _ => ⟨r5, r6, r7⟩, by omega, by omega, by omega, fun k hk => by omega⟩
  · intro l hl
    exact of_decide_eq_true (all_r g_f0_ho hl)
  · intro i hi2; rw [d1] at hi2; omega
  · exact g_f0_hi.1
  · have := g_f0_hi.2.1; omega
  · intro i hi2
    have h := of_decide_eq_true (List.all_eq_true.mp g_f0_b i (List.mem_range.mpr hi2))
    exact h
  · intro i j hi2 hj hij
    exact of_decide_eq_true (all_r (all_r g_f0_hd hi2) hj) hij
  · intro j hj
    have := g_f0_hi.2.1
    omega
  · have := g_f0_hi.2.2
    obtain ⟨u0, u1, u2, u3, u4, u5⟩ := g_f0_su
    unfold TKB SU
    refine ⟨by omega, by omega, fun k a b => ?_, by omega⟩
    rcases (show k = 166 ∨ k = 167 ∨ k = 168 ∨ k = 169 ∨ k = 170 ∨ k = 171 by omega) with rfl | rfl | rfl | rfl | rfl | rfl <;> omega
theorem g_f0_td : g_f0 192 32 = 0 := by decide +kernel
theorem g_f0_tl : (List.range 4).all (fun k => decide (g_f0 191 k = -1)) = true := by decide +kernel
theorem g_f0_fl : g_f0 0 12 = g_f0 192 15 := by decide +kernel
theorem g_f0_x : RLX g_f0 g_f0 := by
  obtain ⟨m1, m2, m3, m4⟩ := g_f0_im
  obtain ⟨s1, s2, s3, s4, s5, s6⟩ := g_f0_sm
  refine ⟨⟨g_f0_s, ⟨m1, m2⟩, fun q => absurd m3 q, fun q => absurd m4 q⟩, ?_, Or.inl ⟨s3, s4⟩, ⟨0, s5, s6, by decide, fun j hj => by omega⟩, Or.inl ⟨g_f0_td, fun k hk => of_decide_eq_true (all_r g_f0_tl hk)⟩, g_f0_fl⟩
  unfold AIM
  rw [if_pos s2]
  exact s1
