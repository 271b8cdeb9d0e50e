/-! the one call on fresh objects, case by case: the boxes of its first argument, and that the law comes to 1 -/
def g_bx (c : Nat) : List (Int × Int) := match c with
  | 1 => [(-2147483648, -1), (0, 0), (1, 2147483647)]
  | 4 => [(-2147483648, -1), (0, 2147483647)]
  | 5 => [(-2147483648, -1), (0, 2147483647)]
  | 6 => [(-2147483648, -1), (0, 2147483647)]
  | 7 => [(-2147483648, -1), (0, 2147483647)]
  | 8 => [(-2147483648, -1), (0, 0), (1, 1), (2, 2), (3, 3), (4, 4), (5, 5), (6, 6), (7, 7), (8, 2147483647)]
  | 9 => [(-2147483648, -1), (0, 2147483647)]
  | 10 => [(-2147483648, -1), (0, 2147483647)]
  | 11 => [(-2147483648, -1), (0, 2147483647)]
  | 13 => [(-2147483648, 0), (1, 60), (61, 2147483647)]
  | 15 => [(-2147483648, -1), (0, 2147483647)]
  | 16 => [(-2147483648, -1), (0, 2147483647)]
  | 17 => [(-2147483648, -1), (0, 2147483647)]
  | 18 => [(-2147483648, -1), (0, 2147483647)]
  | 20 => [(-2147483648, -1), (0, 2147483647)]
  | 21 => [(-2147483648, -1), (0, 2147483647)]
  | 25 => [(-2147483648, -1), (0, 2147483647)]
  | 27 => [(-2147483648, -1), (0, 2147483647)]
  | 28 => [(-2147483648, -1), (0, 2147483647)]
  | 29 => [(-2147483648, 0), (1, 60), (61, 2147483647)]
  | 30 => [(-2147483648, -1), (0, 2147483647)]
  | 31 => [(-2147483648, -1), (0, 0), (1, 1), (2, 2147483647)]
  | 32 => [(-2147483648, -1), (0, 0), (1, 1), (2, 2), (3, 3), (4, 2147483647)]
  | 35 => [(-2147483648, -1), (0, 0), (1, 1), (2, 2147483647)]
  | 36 => [(-2147483648, -1), (0, 0), (1, 1), (2, 2147483647)]
  | 37 => [(-2147483648, -1), (0, 0), (1, 1), (2, 2), (3, 3), (4, 4), (5, 5), (6, 2147483647)]
  | _ => [ax_top]
def g_cov : Int → List (Int × Int) → Bool
  | lo, [] => decide (2147483647 < lo)
  | lo, q :: r => decide (q.1 ≤ lo) && g_cov (q.2 + 1) r
theorem g_cov_ok : ∀ (l : List (Int × Int)) (lo z : Int), g_cov lo l = true → lo ≤ z → z ≤ 2147483647 → ∃ q ∈ l, q.1 ≤ z ∧ z ≤ q.2
  | [], lo, z, h, h1, h2 => by
    have := of_decide_eq_true h
    omega
  | q :: r, lo, z, h, h1, h2 => by
    obtain ⟨h3, h4⟩ := Bool.and_eq_true_iff.mp h
    have h3 := of_decide_eq_true h3
    by_cases hz : z ≤ q.2
    · exact ⟨q, List.mem_cons_self, by omega, hz⟩
    · obtain ⟨q', hq, hz'⟩ := g_cov_ok r (q.2 + 1) z h4 (by omega) h2
      exact ⟨q', List.mem_cons_of_mem _ hq, hz'⟩
theorem g_cov_t : (List.range 64).all (fun c => g_cov (-2147483648) (g_bx c)) = true := by decide +kernel
def g_bxs (c : Nat) (q : Int × Int) : ax_B := [ax_top, q, ax_top, ax_top, ax_top, ax_top, ((c : Int), (c : Int))]
def g_thr (c : Nat) : Nat := if c = 4 ∨ c = 21 ∨ c = 25 then 1 else 0
def g_sk (c : Nat) (q : Int × Int) : Bool := ((decide (c = 13) || decide (c = 29)) && decide (q = (1, 60))) || (decide (c = 2) || (decide (c = 35) && (decide (q = (0, 0)) || decide (q = (1, 1)))))
def g_ev (c : Nat) : Bool := (g_bx c).all (fun q => g_sk c q || ax_fin (g_bxs c q) [] 30000 100 277 20 g_L0 [] (g_A0, 0) (some (0, 1)) (g_AU, g_thr c))
theorem g_ev_0 : (List.range 2).all (fun k => g_ev (0 + k)) = true := by decide +kernel
theorem g_ev_2 : (List.range 1).all (fun k => g_ev (2 + k)) = true := by decide +kernel
theorem g_ev_3 : (List.range 10).all (fun k => g_ev (3 + k)) = true := by decide +kernel
theorem g_ev_13 : (List.range 11).all (fun k => g_ev (13 + k)) = true := by decide +kernel
theorem g_ev_24 : (List.range 7).all (fun k => g_ev (24 + k)) = true := by decide +kernel
theorem g_ev_31 : (List.range 1).all (fun k => g_ev (31 + k)) = true := by decide +kernel
theorem g_ev_32 : (List.range 3).all (fun k => g_ev (32 + k)) = true := by decide +kernel
theorem g_ev_35 : (List.range 1).all (fun k => g_ev (35 + k)) = true := by decide +kernel
theorem g_ev_36 : (List.range 28).all (fun k => g_ev (36 + k)) = true := by decide +kernel
theorem g_ev_of {c : Nat} (h : c < 64) : g_ev c = true := by
  by_cases h_0 : c < 2
  · have := List.all_eq_true.mp g_ev_0 (c - 0) (List.mem_range.mpr (by omega))
    rwa [show 0 + (c - 0) = c by omega] at this
  by_cases h_2 : c < 3
  · have := List.all_eq_true.mp g_ev_2 (c - 2) (List.mem_range.mpr (by omega))
    rwa [show 2 + (c - 2) = c by omega] at this
  by_cases h_3 : c < 13
  · have := List.all_eq_true.mp g_ev_3 (c - 3) (List.mem_range.mpr (by omega))
    rwa [show 3 + (c - 3) = c by omega] at this
  by_cases h_13 : c < 24
  · have := List.all_eq_true.mp g_ev_13 (c - 13) (List.mem_range.mpr (by omega))
    rwa [show 13 + (c - 13) = c by omega] at this
  by_cases h_24 : c < 31
  · have := List.all_eq_true.mp g_ev_24 (c - 24) (List.mem_range.mpr (by omega))
    rwa [show 24 + (c - 24) = c by omega] at this
  by_cases h_31 : c < 32
  · have := List.all_eq_true.mp g_ev_31 (c - 31) (List.mem_range.mpr (by omega))
    rwa [show 31 + (c - 31) = c by omega] at this
  by_cases h_32 : c < 35
  · have := List.all_eq_true.mp g_ev_32 (c - 32) (List.mem_range.mpr (by omega))
    rwa [show 32 + (c - 32) = c by omega] at this
  by_cases h_35 : c < 36
  · have := List.all_eq_true.mp g_ev_35 (c - 35) (List.mem_range.mpr (by omega))
    rwa [show 35 + (c - 35) = c by omega] at this
  have := List.all_eq_true.mp g_ev_36 (c - 36) (List.mem_range.mpr (by omega))
  rwa [show 36 + (c - 36) = c by omega] at this
