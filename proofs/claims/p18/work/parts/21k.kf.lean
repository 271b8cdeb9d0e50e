/-! what safety tells of the functions F -/
theorem K_F_RideLaws_end_0 {φ : hf_F} {ψ : hf_F} {r : Int} {v1 : Int} (hI : Inv φ) (h1a : (-2147483648 : Int) ≤ v1) (h1b : v1 ≤ 2147483647) (hE : F_RideLaws_end_0 φ v1 = (r, ψ)) : Inv ψ ∧ Fr [2002] φ ψ ∧ (0 ≤ r ∧ r ≤ 1 ∧ ((r = 0 ∧ (v1 < 0 ∨ φ 1 2 < v1) ∧ ψ 1 2 = φ 1 2) ∨ (r = 1 ∧ 0 ≤ v1 ∧ v1 ≤ φ 1 2 ∧ ψ 1 2 = v1))) := by
  have hh : hw [] 0 23 0 [(0, (2, 0)), (1, (0, v1))] [] φ 0 (fun _ _ _ => Inv ψ ∧ Fr [2002] φ ψ ∧ (0 ≤ r ∧ r ≤ 1 ∧ ((r = 0 ∧ (v1 < 0 ∨ φ 1 2 < v1) ∧ ψ 1 2 = φ 1 2) ∨ (r = 1 ∧ 0 ≤ v1 ∧ v1 ≤ φ 1 2 ∧ ψ 1 2 = v1)))) := by
    refine sf_23_0 hI h1a h1b (fun r1 ψ1 hI1 hF1 hp1 hE1 => ?_)
    rw [hE] at hE1
    cases hE1
    exact ⟨hI1, hF1, hp1⟩
  obtain ⟨_, _, _, _, h⟩ := hh
  exact h
theorem K_F_Reader_put_1 {φ : hf_F} {ψ : hf_F} {v1 : Int} (hI : Inv φ) (h1a : (-2147483648 : Int) ≤ v1) (h1b : v1 ≤ 2147483647) (hE : F_Reader_put_1 φ v1 = ψ) : Inv ψ ∧ Fr [2, 2002] φ ψ ∧ ((φ 1 2 ≤ 936 → ψ 1 2 = φ 1 2 + 4)) := by
  have hh : hw [] 0 22 0 [(0, (2, 1)), (1, (0, v1))] [] φ 0 (fun _ _ _ => Inv ψ ∧ Fr [2, 2002] φ ψ ∧ ((φ 1 2 ≤ 936 → ψ 1 2 = φ 1 2 + 4))) := by
    refine sf_22_1 hI h1a h1b (fun ψ1 hI1 hF1 hV1 hE1 => ?_)
    rw [hE] at hE1
    cases hE1
    exact ⟨hI1, hF1, hV1⟩
  obtain ⟨_, _, _, _, h⟩ := hh
  exact h
theorem K_F_RideLaws_feed_0 {φ : hf_F} {ψ : hf_F} {r : Int} {v1 v2 v3 v4 v5 : Int} (hI : Inv φ) (h1a : (-2147483648 : Int) ≤ v1) (h1b : v1 ≤ 2147483647) (h2a : (-2147483648 : Int) ≤ v2) (h2b : v2 ≤ 2147483647) (h3a : (-2147483648 : Int) ≤ v3) (h3b : v3 ≤ 2147483647) (h4a : (-2147483648 : Int) ≤ v4) (h4b : v4 ≤ 2147483647) (h5a : (-2147483648 : Int) ≤ v5) (h5b : v5 ≤ 2147483647) (hE : F_RideLaws_feed_0 φ v1 v2 v3 v4 v5 = (r, ψ)) : Inv ψ ∧ Fr [2, 2002] φ ψ ∧ (True ∧ ((r = -1 ∧ 921 ≤ φ 1 2 ∧ ψ 1 2 = φ 1 2) ∨ (φ 1 2 ≤ 920 ∧ ψ 1 2 = φ 1 2 + 20 ∧ r = φ 1 2 + 20))) := by
  have hh : hw [] (0 + 1) 21 0 [(0, (2, 0)), (1, (0, v1)), (2, (0, v2)), (3, (0, v3)), (4, (0, v4)), (5, (0, v5))] [] φ 0 (fun _ _ _ => Inv ψ ∧ Fr [2, 2002] φ ψ ∧ (True ∧ ((r = -1 ∧ 921 ≤ φ 1 2 ∧ ψ 1 2 = φ 1 2) ∨ (φ 1 2 ≤ 920 ∧ ψ 1 2 = φ 1 2 + 20 ∧ r = φ 1 2 + 20)))) := by
    refine sf_21_0 hI h1a h1b h2a h2b h3a h3b h4a h4b h5a h5b (fun r1 ψ1 hI1 hF1 hp1 hE1 => ?_)
    rw [hE] at hE1
    cases hE1
    exact ⟨hI1, hF1, hp1⟩
  obtain ⟨_, _, _, _, h⟩ := hh
  exact h
theorem K_F_RideLaws_byteAt_0 {φ : hf_F}  {r : Int} {v1 : Int} (hI : Inv φ) (h1a : (-2147483648 : Int) ≤ v1) (h1b : v1 ≤ 2147483647) (hE : F_RideLaws_byteAt_0 φ v1 = r) : True := by
  have hh : hw [] 0 125 0 [(0, (2, 0)), (1, (0, v1))] [] φ 0 (fun _ _ _ => True) := by
    refine sf_125_0 hI h1a h1b (fun r1 hp1 hE1 => ?_)
    rw [hE] at hE1
    cases hE1
    exact hp1
  obtain ⟨_, _, _, _, h⟩ := hh
  exact h
theorem K_F_RideLaws_told_0 {φ : hf_F}  {r : Int} {v1 : Int} (hI : Inv φ) (h1a : (-2147483648 : Int) ≤ v1) (h1b : v1 ≤ 2147483647) (hE : F_RideLaws_told_0 φ v1 = r) : True := by
  have hh : hw [] 0 143 0 [(0, (2, 0)), (1, (0, v1))] [] φ 0 (fun _ _ _ => True) := by
    refine sf_143_0 hI h1a h1b (fun r1 hp1 hE1 => ?_)
    rw [hE] at hE1
    cases hE1
    exact hp1
  obtain ⟨_, _, _, _, h⟩ := hh
  exact h
theorem K_F_RideLaws_count_0 {φ : hf_F}  {r : Int} {v1 : Int} (hI : Inv φ) (h1a : (-2147483648 : Int) ≤ v1) (h1b : v1 ≤ 2147483647) (hE : F_RideLaws_count_0 φ v1 = r) : True := by
  have hh : hw [] 0 158 0 [(0, (2, 0)), (1, (0, v1))] [] φ 0 (fun _ _ _ => True) := by
    refine sf_158_0 hI h1a h1b (fun r1 hp1 hE1 => ?_)
    rw [hE] at hE1
    cases hE1
    exact hp1
  obtain ⟨_, _, _, _, h⟩ := hh
  exact h
theorem K_F_RideLaws_has_0_k1_3 {φ : hf_F}  {r : Int} {v2 : Int} (hI : Inv φ) (h2a : (-2147483648 : Int) ≤ v2) (h2b : v2 ≤ 2147483647) (hE : F_RideLaws_has_0_k1_3 φ v2 = r) : 0 ≤ r ∧ r ≤ 1 ∧ (r = 1 → 0 ≤ v2 ∧ v2 < φ 6 3 ∧ φ 6 3 ≤ 6) := by
  have hh : hw [] 0 70 0 [(0, (2, 0)), (1, (0, 3)), (2, (0, v2))] [] φ 0 (fun _ _ _ => 0 ≤ r ∧ r ≤ 1 ∧ (r = 1 → 0 ≤ v2 ∧ v2 < φ 6 3 ∧ φ 6 3 ≤ 6)) := by
    refine sf_70_0_k1_3 hI h2a h2b (fun r1 hp1 hE1 => ?_)
    rw [hE] at hE1
    cases hE1
    exact hp1
  obtain ⟨_, _, _, _, h⟩ := hh
  exact h
theorem K_F_State_rollWord_17 {φ : hf_F}  {r : Int} {v1 v2 : Int} (hI : Inv φ) (h1a : 0 ≤ v1) (h1b : v1 ≤ 5) (h2a : 0 ≤ v2) (h2b : v2 ≤ 5) (hE : F_State_rollWord_17 φ v1 v2 = r) : 0 ≤ r ∧ r ≤ 7 := by
  have hh : hw [] 0 71 0 [(0, (2, 17)), (1, (0, v1)), (2, (0, v2))] [] φ 0 (fun _ _ _ => 0 ≤ r ∧ r ≤ 7) := by
    refine sf_71_17 hI h1a h1b h2a h2b (fun r1 hp1 hE1 => ?_)
    rw [hE] at hE1
    cases hE1
    exact hp1
  obtain ⟨_, _, _, _, h⟩ := hh
  exact h
theorem K_F_RideLaws_roll_0 {φ : hf_F}  {r : Int} {v1 v2 : Int} (hI : Inv φ) (h1a : (-2147483648 : Int) ≤ v1) (h1b : v1 ≤ 2147483647) (h2a : (-2147483648 : Int) ≤ v2) (h2b : v2 ≤ 2147483647) (hE : F_RideLaws_roll_0 φ v1 v2 = r) : True := by
  have hh : hw [] (0 + 1) 69 0 [(0, (2, 0)), (1, (0, v1)), (2, (0, v2))] [] φ 0 (fun _ _ _ => True) := by
    refine sf_69_0 hI h1a h1b h2a h2b (fun r1 hp1 hE1 => ?_)
    rw [hE] at hE1
    cases hE1
    exact hp1
  obtain ⟨_, _, _, _, h⟩ := hh
  exact h
theorem K_F_RideLaws_has_0_k1_1 {φ : hf_F}  {r : Int} {v2 : Int} (hI : Inv φ) (h2a : (-2147483648 : Int) ≤ v2) (h2b : v2 ≤ 2147483647) (hE : F_RideLaws_has_0_k1_1 φ v2 = r) : 0 ≤ r ∧ r ≤ 1 ∧ (r = 1 → 0 ≤ v2 ∧ v2 < φ 6 1 ∧ φ 6 1 ≤ 8) := by
  have hh : hw [] 0 70 0 [(0, (2, 0)), (1, (0, 1)), (2, (0, v2))] [] φ 0 (fun _ _ _ => 0 ≤ r ∧ r ≤ 1 ∧ (r = 1 → 0 ≤ v2 ∧ v2 < φ 6 1 ∧ φ 6 1 ≤ 8)) := by
    refine sf_70_0_k1_1 hI h2a h2b (fun r1 hp1 hE1 => ?_)
    rw [hE] at hE1
    cases hE1
    exact hp1
  obtain ⟨_, _, _, _, h⟩ := hh
  exact h
theorem K_F_RideLaws_seat_0 {φ : hf_F}  {r : Int} {v1 v2 : Int} (hI : Inv φ) (h1a : (-2147483648 : Int) ≤ v1) (h1b : v1 ≤ 2147483647) (h2a : (-2147483648 : Int) ≤ v2) (h2b : v2 ≤ 2147483647) (hE : F_RideLaws_seat_0 φ v1 v2 = r) : True := by
  have hh : hw [] (0 + 1) 72 0 [(0, (2, 0)), (1, (0, v1)), (2, (0, v2))] [] φ 0 (fun _ _ _ => True) := by
    refine sf_72_0 hI h1a h1b h2a h2b (fun r1 hp1 hE1 => ?_)
    rw [hE] at hE1
    cases hE1
    exact hp1
  obtain ⟨_, _, _, _, h⟩ := hh
  exact h
theorem K_F_RideLaws_has_0_k1_4 {φ : hf_F}  {r : Int} {v2 : Int} (hI : Inv φ) (h2a : (-2147483648 : Int) ≤ v2) (h2b : v2 ≤ 2147483647) (hE : F_RideLaws_has_0_k1_4 φ v2 = r) : 0 ≤ r ∧ r ≤ 1 ∧ (r = 1 → 0 ≤ v2 ∧ v2 < φ 6 4 ∧ φ 6 4 ≤ 8) := by
  have hh : hw [] 0 70 0 [(0, (2, 0)), (1, (0, 4)), (2, (0, v2))] [] φ 0 (fun _ _ _ => 0 ≤ r ∧ r ≤ 1 ∧ (r = 1 → 0 ≤ v2 ∧ v2 < φ 6 4 ∧ φ 6 4 ≤ 8)) := by
    refine sf_70_0_k1_4 hI h2a h2b (fun r1 hp1 hE1 => ?_)
    rw [hE] at hE1
    cases hE1
    exact hp1
  obtain ⟨_, _, _, _, h⟩ := hh
  exact h
theorem K_F_State_isHolding_17 {φ : hf_F}  {r : Int} {v1 : Int} (hI : Inv φ) (h1a : 0 ≤ v1) (h1b : v1 ≤ 7) (hE : F_State_isHolding_17 φ v1 = r) : 0 ≤ r ∧ r ≤ 1 := by
  have hh : hw [] 0 74 0 [(0, (2, 17)), (1, (0, v1))] [] φ 0 (fun _ _ _ => 0 ≤ r ∧ r ≤ 1) := by
    refine sf_74_17 hI h1a h1b (fun r1 hp1 hE1 => ?_)
    rw [hE] at hE1
    cases hE1
    exact hp1
  obtain ⟨_, _, _, _, h⟩ := hh
  exact h
theorem K_F_RideLaws_law_0 {φ : hf_F}  {r : Int} {v1 v2 : Int} (hI : Inv φ) (h1a : (-2147483648 : Int) ≤ v1) (h1b : v1 ≤ 2147483647) (h2a : (-2147483648 : Int) ≤ v2) (h2b : v2 ≤ 2147483647) (hE : F_RideLaws_law_0 φ v1 v2 = r) : True := by
  have hh : hw [] (0 + 1) 73 0 [(0, (2, 0)), (1, (0, v1)), (2, (0, v2))] [] φ 0 (fun _ _ _ => True) := by
    refine sf_73_0 hI h1a h1b h2a h2b (fun r1 hp1 hE1 => ?_)
    rw [hE] at hE1
    cases hE1
    exact hp1
  obtain ⟨_, _, _, _, h⟩ := hh
  exact h
theorem K_F_RideLaws_seatsAtBox_0 {φ : hf_F}  {r : Int}  (hI : Inv φ)  (hE : F_RideLaws_seatsAtBox_0 φ = r) : (-2147483648 : Int) ≤ r ∧ r ≤ 2147483647 := by
  have hh : hw [] 0 76 0 [(0, (2, 0))] [] φ 0 (fun _ _ _ => (-2147483648 : Int) ≤ r ∧ r ≤ 2147483647) := by
    refine sf_76_0 hI  (fun r1 hp1 hE1 => ?_)
    rw [hE] at hE1
    cases hE1
    exact hp1
  obtain ⟨_, _, _, _, h⟩ := hh
  exact h
theorem K_F_RideLaws_seatsTaken_0 {φ : hf_F}  {r : Int}  (hI : Inv φ)  (hE : F_RideLaws_seatsTaken_0 φ = r) : True := by
  have hh : hw [] 0 77 0 [(0, (2, 0))] [] φ 0 (fun _ _ _ => True) := by
    refine sf_77_0 hI  (fun r1 hp1 hE1 => ?_)
    rw [hE] at hE1
    cases hE1
    exact hp1
  obtain ⟨_, _, _, _, h⟩ := hh
  exact h
theorem K_F_RideLaws_now_0 {φ : hf_F}  {r : Int} {v1 : Int} (hI : Inv φ) (h1a : (-2147483648 : Int) ≤ v1) (h1b : v1 ≤ 2147483647) (hE : F_RideLaws_now_0 φ v1 = r) : True := by
  have hh : hw [] (0 + 1) 75 0 [(0, (2, 0)), (1, (0, v1))] [] φ 0 (fun _ _ _ => True) := by
    refine sf_75_0 hI h1a h1b (fun r1 hp1 hE1 => ?_)
    rw [hE] at hE1
    cases hE1
    exact hp1
  obtain ⟨_, _, _, _, h⟩ := hh
  exact h
theorem K_F_State_copyFrom_17_43 {φ : hf_F} {ψ : hf_F}  (hI : Inv φ)  (hE : F_State_copyFrom_17_43 φ = ψ) : Inv ψ ∧ Fr [18, 19, 20, 21, 22, 23, 24, 25, 18000, 18001, 18002, 18003, 18004, 18005] φ ψ := by
  have hh : hw [] 0 66 0 [(0, (2, 17)), (1, (2, 43))] [] φ 0 (fun _ _ _ => Inv ψ ∧ Fr [18, 19, 20, 21, 22, 23, 24, 25, 18000, 18001, 18002, 18003, 18004, 18005] φ ψ) := by
    refine sf_66_17_43 hI  (fun ψ1 hI1 hF1 hE1 => ?_)
    rw [hE] at hE1
    cases hE1
    exact ⟨hI1, hF1⟩
  obtain ⟨_, _, _, _, h⟩ := hh
  exact h
theorem K_F_State_whyNotMount_17 {φ : hf_F}  {r : Int} {v1 v2 : Int} (hI : Inv φ) (h1a : 0 ≤ v1) (h1b : v1 ≤ 5) (h2a : 0 ≤ v2) (h2b : v2 ≤ 7) (hE : F_State_whyNotMount_17 φ v1 v2 = r) : 0 ≤ r ∧ r ≤ 2 := by
  have hh : hw [] 0 79 0 [(0, (2, 17)), (1, (0, v1)), (2, (0, v2))] [] φ 0 (fun _ _ _ => 0 ≤ r ∧ r ≤ 2) := by
    refine sf_79_17 hI h1a h1b h2a h2b (fun r1 hp1 hE1 => ?_)
    rw [hE] at hE1
    cases hE1
    exact hp1
  obtain ⟨_, _, _, _, h⟩ := hh
  exact h
theorem K_F_State_whyNotWhistle_17 {φ : hf_F}  {r : Int}  (hI : Inv φ)  (hE : F_State_whyNotWhistle_17 φ = r) : 0 ≤ r ∧ r ≤ 1 := by
  have hh : hw [] 0 87 0 [(0, (2, 17))] [] φ 0 (fun _ _ _ => 0 ≤ r ∧ r ≤ 1) := by
    refine sf_87_17 hI  (fun r1 hp1 hE1 => ?_)
    rw [hE] at hE1
    cases hE1
    exact hp1
  obtain ⟨_, _, _, _, h⟩ := hh
  exact h
theorem K_F_State_sitDown_17 {φ : hf_F} {ψ : hf_F} {v1 v2 : Int} (hI : Inv φ) (h1a : 0 ≤ v1) (h1b : v1 ≤ 5) (h2a : 0 ≤ v2) (h2b : v2 ≤ 7) (hE : F_State_sitDown_17 φ v1 v2 = ψ) : Inv ψ ∧ Fr [19, 20] φ ψ := by
  have hh : hw [] 0 52 0 [(0, (2, 17)), (1, (0, v1)), (2, (0, v2))] [] φ 0 (fun _ _ _ => Inv ψ ∧ Fr [19, 20] φ ψ) := by
    refine sf_52_17 hI h1a h1b h2a h2b (fun ψ1 hI1 hF1 hE1 => ?_)
    rw [hE] at hE1
    cases hE1
    exact ⟨hI1, hF1⟩
  obtain ⟨_, _, _, _, h⟩ := hh
  exact h
theorem K_F_State_getOff_17 {φ : hf_F} {ψ : hf_F} {v1 : Int} (hI : Inv φ) (h1a : 0 ≤ v1) (h1b : v1 ≤ 5) (hE : F_State_getOff_17 φ v1 = ψ) : Inv ψ ∧ Fr [19, 20] φ ψ := by
  have hh : hw [] 0 84 0 [(0, (2, 17)), (1, (0, v1))] [] φ 0 (fun _ _ _ => Inv ψ ∧ Fr [19, 20] φ ψ) := by
    refine sf_84_17 hI h1a h1b (fun ψ1 hI1 hF1 hE1 => ?_)
    rw [hE] at hE1
    cases hE1
    exact ⟨hI1, hF1⟩
  obtain ⟨_, _, _, _, h⟩ := hh
  exact h
theorem K_F_RideLaws_fault_0 {φ : hf_F}  {r : Int}  (hI : Inv φ)  (hE : F_RideLaws_fault_0 φ = r) : True := by
  have hh : hw [] 0 68 0 [(0, (2, 0))] [] φ 0 (fun _ _ _ => True) := by
    refine sf_68_0 hI  (fun r1 hp1 hE1 => ?_)
    rw [hE] at hE1
    cases hE1
    exact hp1
  obtain ⟨_, _, _, _, h⟩ := hh
  exact h
theorem K_F_RideLaws_aimSeat_0 {φ : hf_F}  {r : Int}  (hI : Inv φ)  (hE : F_RideLaws_aimSeat_0 φ = r) : True := by
  have hh : hw [] 0 105 0 [(0, (2, 0))] [] φ 0 (fun _ _ _ => True) := by
    refine sf_105_0 hI  (fun r1 hp1 hE1 => ?_)
    rw [hE] at hE1
    cases hE1
    exact hp1
  obtain ⟨_, _, _, _, h⟩ := hh
  exact h
theorem K_F_RideLaws_standing_0 {φ : hf_F}  {r : Int}  (hI : Inv φ)  (hE : F_RideLaws_standing_0 φ = r) : True := by
  have hh : hw [] 0 114 0 [(0, (2, 0))] [] φ 0 (fun _ _ _ => True) := by
    refine sf_114_0 hI  (fun r1 hp1 hE1 => ?_)
    rw [hE] at hE1
    cases hE1
    exact hp1
  obtain ⟨_, _, _, _, h⟩ := hh
  exact h
theorem K_F_Reader_isKeyword_1 {φ : hf_F}  {r : Int} {v1 : Int} (hI : Inv φ) (h1a : 0 ≤ v1) (h1b : v1 ≤ 22) (hE : F_Reader_isKeyword_1 φ v1 = r) : 0 ≤ r ∧ r ≤ 1 := by
  have hh : hw [] 0 135 0 [(0, (2, 1)), (1, (0, v1))] [] φ 0 (fun _ _ _ => 0 ≤ r ∧ r ≤ 1) := by
    refine sf_135_1 hI h1a h1b (fun r1 hp1 hE1 => ?_)
    rw [hE] at hE1
    cases hE1
    exact hp1
  obtain ⟨_, _, _, _, h⟩ := hh
  exact h
theorem K_F_Reader_refuse_1 {φ : hf_F} {ψ : hf_F} {r : Int} {v1 : Int} (hI : Inv φ) (h1a : 1 ≤ v1) (h1b : v1 ≤ 4) (hE : F_Reader_refuse_1 φ v1 = (r, ψ)) : Inv ψ ∧ Fr [2009, 2010] φ ψ ∧ (0 ≤ r ∧ r ≤ 1) := by
  have hh : hw [] 0 37 0 [(0, (2, 1)), (1, (0, v1))] [] φ 0 (fun _ _ _ => Inv ψ ∧ Fr [2009, 2010] φ ψ ∧ (0 ≤ r ∧ r ≤ 1)) := by
    refine sf_37_1 hI h1a h1b (fun r1 ψ1 hI1 hF1 hp1 hE1 => ?_)
    rw [hE] at hE1
    cases hE1
    exact ⟨hI1, hF1, hp1⟩
  obtain ⟨_, _, _, _, h⟩ := hh
  exact h
theorem K_F_State_knownBy_17 {φ : hf_F}  {r : Int} {v1 : Int} (hI : Inv φ) (h1a : 0 ≤ v1) (h1b : v1 ≤ 5) (hE : F_State_knownBy_17 φ v1 = r) : True := by
  have hh : hw [] (0 + 1) 108 0 [(0, (2, 17)), (1, (0, v1))] [] φ 0 (fun _ _ _ => True) := by
    refine sf_108_17 hI h1a h1b (fun r1 hp1 hE1 => ?_)
    rw [hE] at hE1
    cases hE1
    exact hp1
  obtain ⟨_, _, _, _, h⟩ := hh
  exact h
theorem K_F_State_addWord_17 {φ : hf_F} {ψ : hf_F} {v1 v2 : Int} (hI : Inv φ) (h1a : 0 ≤ v1) (h1b : v1 ≤ 5) (h2a : 0 ≤ v2) (h2b : v2 ≤ 7) (hx0 : 0 ≤ φ 21 ((v1).toNat) ∧ φ 21 ((v1).toNat) ≤ 5) (hE : F_State_addWord_17 φ v1 v2 = ψ) : Inv ψ ∧ Fr [21, 22] φ ψ := by
  have hh : hw [] 0 55 0 [(0, (2, 17)), (1, (0, v1)), (2, (0, v2))] [] φ 0 (fun _ _ _ => Inv ψ ∧ Fr [21, 22] φ ψ) := by
    refine sf_55_17 hI h1a h1b h2a h2b hx0 (fun ψ1 hI1 hF1 hE1 => ?_)
    rw [hE] at hE1
    cases hE1
    exact ⟨hI1, hF1⟩
  obtain ⟨_, _, _, _, h⟩ := hh
  exact h
theorem K_F_java_util_Arrays_fill_23_k1_0 {φ : hf_F} {ψ : hf_F}  (hI : Inv φ)  (hE : F_java_util_Arrays_fill_23_k1_0 φ = ψ) : Inv ψ ∧ Fr [23] φ ψ := by
  have hh : hw [] 0 12 0 [(0, (2, 23)), (1, (0, 0))] [] φ 0 (fun _ _ _ => Inv ψ ∧ Fr [23] φ ψ) := by
    refine sf_12_23_k1_0 hI  (fun ψ1 hI1 hF1 hE1 => ?_)
    rw [hE] at hE1
    cases hE1
    exact ⟨hI1, hF1⟩
  obtain ⟨_, _, _, _, h⟩ := hh
  exact h
theorem K_F_State_blow_17 {φ : hf_F} {ψ : hf_F}  (hI : Inv φ)  (hE : F_State_blow_17 φ = ψ) : Inv ψ ∧ Fr [23, 18001, 18002, 18003, 18005] φ ψ := by
  have hh : hw [] (0 + 1) 88 0 [(0, (2, 17))] [] φ 0 (fun _ _ _ => Inv ψ ∧ Fr [23, 18001, 18002, 18003, 18005] φ ψ) := by
    refine sf_88_17 hI  (fun ψ1 hI1 hF1 hE1 => ?_)
    rw [hE] at hE1
    cases hE1
    exact ⟨hI1, hF1⟩
  obtain ⟨_, _, _, _, h⟩ := hh
  exact h
theorem K_F_State_speak_17_5 {φ : hf_F} {ψ : hf_F} {v2 : Int} (hI : Inv φ) (h2a : 0 ≤ v2) (h2b : v2 ≤ 5) (hx0 : 1 ≤ φ 21 ((v2).toNat) ∧ φ 21 ((v2).toNat) ≤ 6) (hE : F_State_speak_17_5 φ v2 = ψ) : Inv ψ ∧ Fr [23, 24, 25, 18001, 18002, 18003, 18004] φ ψ := by
  have hh : hw [] (0 + 1) 93 0 [(0, (2, 17)), (1, (2, 5)), (2, (0, v2))] [] φ 0 (fun _ _ _ => Inv ψ ∧ Fr [23, 24, 25, 18001, 18002, 18003, 18004] φ ψ) := by
    refine sf_93_17_5 hI h2a h2b hx0 (fun ψ1 hI1 hF1 hE1 => ?_)
    rw [hE] at hE1
    cases hE1
    exact ⟨hI1, hF1⟩
  obtain ⟨_, _, _, _, h⟩ := hh
  exact h
theorem K_F_Plan_stepOn_5 {φ : hf_F}  {r : Int} {v1 v2 : Int} (hI : Inv φ) (h1a : 0 ≤ v1) (h1b : v1 ≤ 7) (hE : F_Plan_stepOn_5 φ v1 v2 = r) : True := by
  have hh : hw [] 0 92 0 [(0, (2, 5)), (1, (0, v1)), (2, (0, v2))] [] φ 0 (fun _ _ _ => True) := by
    refine sf_92_5 hI h1a h1b (fun r1 hp1 hE1 => ?_)
    rw [hE] at hE1
    cases hE1
    exact hp1
  obtain ⟨_, _, _, _, h⟩ := hh
  exact h
theorem K_F_Plan_copyFrom_5_31 {φ : hf_F} {ψ : hf_F}  (hI : Inv φ)  (hE : F_Plan_copyFrom_5_31 φ = ψ) : Inv ψ ∧ Fr [6, 7, 8, 9, 10, 11, 12, 13, 14, 15, 16] φ ψ := by
  have hh : hw [] 0 65 0 [(0, (2, 5)), (1, (2, 31))] [] φ 0 (fun _ _ _ => Inv ψ ∧ Fr [6, 7, 8, 9, 10, 11, 12, 13, 14, 15, 16] φ ψ) := by
    refine sf_65_5_31 hI  (fun ψ1 hI1 hF1 hE1 => ?_)
    rw [hE] at hE1
    cases hE1
    exact ⟨hI1, hF1⟩
  obtain ⟨_, _, _, _, h⟩ := hh
  exact h
theorem K_F_Sentence_copyFrom_26_52 {φ : hf_F} {ψ : hf_F}  (hI : Inv φ)  (hE : F_Sentence_copyFrom_26_52 φ = ψ) : Inv ψ ∧ Fr [27, 28, 29, 27003, 27004, 27005] φ ψ := by
  have hh : hw [] 0 67 0 [(0, (2, 26)), (1, (2, 52))] [] φ 0 (fun _ _ _ => Inv ψ ∧ Fr [27, 28, 29, 27003, 27004, 27005] φ ψ) := by
    refine sf_67_26_52 hI  (fun ψ1 hI1 hF1 hE1 => ?_)
    rw [hE] at hE1
    cases hE1
    exact ⟨hI1, hF1⟩
  obtain ⟨_, _, _, _, h⟩ := hh
  exact h
theorem K_F_Plan_numberOf_31 {φ : hf_F}  {r : Int} {v1 v2 : Int} (hI : Inv φ) (h1a : 0 ≤ v1) (h1b : v1 ≤ 4) (hE : F_Plan_numberOf_31 φ v1 v2 = r) : (-1 : Int) ≤ r ∧ r ≤ 7 := by
  have hh : hw [] 0 42 0 [(0, (2, 31)), (1, (0, v1)), (2, (1, v2))] [] φ 0 (fun _ _ _ => (-1 : Int) ≤ r ∧ r ≤ 7) := by
    refine sf_42_31 hI h1a h1b (fun r1 hp1 hE1 => ?_)
    rw [hE] at hE1
    cases hE1
    exact hp1
  obtain ⟨_, _, _, _, h⟩ := hh
  exact h
theorem K_F_java_util_Arrays_fill_45_k1_m1 {φ : hf_F} {ψ : hf_F}  (hI : Inv φ)  (hE : F_java_util_Arrays_fill_45_k1_m1 φ = ψ) : Inv ψ ∧ Fr [45] φ ψ := by
  have hh : hw [] 0 12 0 [(0, (2, 45)), (1, (0, (-1 : Int)))] [] φ 0 (fun _ _ _ => Inv ψ ∧ Fr [45] φ ψ) := by
    refine sf_12_45_k1_m1 hI  (fun ψ1 hI1 hF1 hE1 => ?_)
    rw [hE] at hE1
    cases hE1
    exact ⟨hI1, hF1⟩
  obtain ⟨_, _, _, _, h⟩ := hh
  exact h
theorem K_F_java_util_Arrays_fill_46_k1_m1 {φ : hf_F} {ψ : hf_F}  (hI : Inv φ)  (hE : F_java_util_Arrays_fill_46_k1_m1 φ = ψ) : Inv ψ ∧ Fr [46] φ ψ := by
  have hh : hw [] 0 12 0 [(0, (2, 46)), (1, (0, (-1 : Int)))] [] φ 0 (fun _ _ _ => Inv ψ ∧ Fr [46] φ ψ) := by
    refine sf_12_46_k1_m1 hI  (fun ψ1 hI1 hF1 hE1 => ?_)
    rw [hE] at hE1
    cases hE1
    exact ⟨hI1, hF1⟩
  obtain ⟨_, _, _, _, h⟩ := hh
  exact h
theorem K_F_java_util_Arrays_fill_47_k1_0 {φ : hf_F} {ψ : hf_F}  (hI : Inv φ)  (hE : F_java_util_Arrays_fill_47_k1_0 φ = ψ) : Inv ψ ∧ Fr [47] φ ψ := by
  have hh : hw [] 0 12 0 [(0, (2, 47)), (1, (0, 0))] [] φ 0 (fun _ _ _ => Inv ψ ∧ Fr [47] φ ψ) := by
    refine sf_12_47_k1_0 hI  (fun ψ1 hI1 hF1 hE1 => ?_)
    rw [hE] at hE1
    cases hE1
    exact ⟨hI1, hF1⟩
  obtain ⟨_, _, _, _, h⟩ := hh
  exact h
theorem K_F_java_util_Arrays_fill_49_k1_0 {φ : hf_F} {ψ : hf_F}  (hI : Inv φ)  (hE : F_java_util_Arrays_fill_49_k1_0 φ = ψ) : Inv ψ ∧ Fr [49] φ ψ := by
  have hh : hw [] 0 12 0 [(0, (2, 49)), (1, (0, 0))] [] φ 0 (fun _ _ _ => Inv ψ ∧ Fr [49] φ ψ) := by
    refine sf_12_49_k1_0 hI  (fun ψ1 hI1 hF1 hE1 => ?_)
    rw [hE] at hE1
    cases hE1
    exact ⟨hI1, hF1⟩
  obtain ⟨_, _, _, _, h⟩ := hh
  exact h
theorem K_F_java_util_Arrays_fill_50_k1_0 {φ : hf_F} {ψ : hf_F}  (hI : Inv φ)  (hE : F_java_util_Arrays_fill_50_k1_0 φ = ψ) : Inv ψ ∧ Fr [50] φ ψ := by
  have hh : hw [] 0 12 0 [(0, (2, 50)), (1, (0, 0))] [] φ 0 (fun _ _ _ => Inv ψ ∧ Fr [50] φ ψ) := by
    refine sf_12_50_k1_0 hI  (fun ψ1 hI1 hF1 hE1 => ?_)
    rw [hE] at hE1
    cases hE1
    exact ⟨hI1, hF1⟩
  obtain ⟨_, _, _, _, h⟩ := hh
  exact h
theorem K_F_java_util_Arrays_fill_51_k1_0 {φ : hf_F} {ψ : hf_F}  (hI : Inv φ)  (hE : F_java_util_Arrays_fill_51_k1_0 φ = ψ) : Inv ψ ∧ Fr [51] φ ψ := by
  have hh : hw [] 0 12 0 [(0, (2, 51)), (1, (0, 0))] [] φ 0 (fun _ _ _ => Inv ψ ∧ Fr [51] φ ψ) := by
    refine sf_12_51_k1_0 hI  (fun ψ1 hI1 hF1 hE1 => ?_)
    rw [hE] at hE1
    cases hE1
    exact ⟨hI1, hF1⟩
  obtain ⟨_, _, _, _, h⟩ := hh
  exact h
theorem K_F_State_forget_43 {φ : hf_F} {ψ : hf_F}  (hI : Inv φ)  (hE : F_State_forget_43 φ = ψ) : Inv ψ ∧ Fr [45, 46, 47, 49, 50, 51, 44000, 44001, 44002, 44003, 44004, 44005] φ ψ := by
  have hh : hw [] (0 + 1) 27 0 [(0, (2, 43))] [] φ 0 (fun _ _ _ => Inv ψ ∧ Fr [45, 46, 47, 49, 50, 51, 44000, 44001, 44002, 44003, 44004, 44005] φ ψ) := by
    refine sf_27_43 hI  (fun ψ1 hI1 hF1 hE1 => ?_)
    rw [hE] at hE1
    cases hE1
    exact ⟨hI1, hF1⟩
  obtain ⟨_, _, _, _, h⟩ := hh
  exact h
theorem K_F_Plan_nameOf_5 {φ : hf_F}  {r : Int} {v1 v2 : Int} (hI : Inv φ) (h1a : 0 ≤ v1) (h1b : v1 ≤ 4) (h2a : 0 ≤ v2) (h2b : v2 ≤ 7) (hE : F_Plan_nameOf_5 φ v1 v2 = r) : True := by
  have hh : hw [] 0 120 0 [(0, (2, 5)), (1, (0, v1)), (2, (0, v2))] [] φ 0 (fun _ _ _ => True) := by
    refine sf_120_5 hI h1a h1b h2a h2b (fun r1 hp1 hE1 => ?_)
    rw [hE] at hE1
    cases hE1
    exact hp1
  obtain ⟨_, _, _, _, h⟩ := hh
  exact h
theorem K_F_Sentence_forget_52 {φ : hf_F} {ψ : hf_F}  (hI : Inv φ)  (hE : F_Sentence_forget_52 φ = ψ) : Inv ψ ∧ Fr [53003, 53004, 53005] φ ψ := by
  have hh : hw [] 0 63 0 [(0, (2, 52))] [] φ 0 (fun _ _ _ => Inv ψ ∧ Fr [53003, 53004, 53005] φ ψ) := by
    refine sf_63_52 hI  (fun ψ1 hI1 hF1 hE1 => ?_)
    rw [hE] at hE1
    cases hE1
    exact ⟨hI1, hF1⟩
  obtain ⟨_, _, _, _, h⟩ := hh
  exact h
theorem K_F_RideLaws_closeText_0 {φ : hf_F} {ψ : hf_F}  (hI : Inv φ)  (hE : F_RideLaws_closeText_0 φ = ψ) : Inv ψ ∧ Fr [1012, 2002] φ ψ ∧ ((ψ 1 2 = 0)) := by
  have hh : hw [] 0 62 0 [(0, (2, 0))] [] φ 0 (fun _ _ _ => Inv ψ ∧ Fr [1012, 2002] φ ψ ∧ ((ψ 1 2 = 0))) := by
    refine sf_62_0 hI  (fun ψ1 hI1 hF1 hV1 hE1 => ?_)
    rw [hE] at hE1
    cases hE1
    exact ⟨hI1, hF1, hV1⟩
  obtain ⟨_, _, _, _, h⟩ := hh
  exact h
theorem K_F_Reader_takeWord_1 {φ : hf_F} {ψ : hf_F} {v1 : Int} (hI : Inv φ)  (hE : F_Reader_takeWord_1 φ v1 = ψ) : Inv ψ ∧ Fr [2005, 2007, 2008] φ ψ := by
  have hh : hw [] 0 34 0 [(0, (2, 1)), (1, (1, v1))] [] φ 0 (fun _ _ _ => Inv ψ ∧ Fr [2005, 2007, 2008] φ ψ) := by
    refine sf_34_1 hI  (fun ψ1 hI1 hF1 hE1 => ?_)
    rw [hE] at hE1
    cases hE1
    exact ⟨hI1, hF1⟩
  obtain ⟨_, _, _, _, h⟩ := hh
  exact h
theorem K_F_Plan_isTold_31 {φ : hf_F}  {r : Int} {v1 : Int} (hI : Inv φ)  (hE : F_Plan_isTold_31 φ v1 = r) : 0 ≤ r ∧ r ≤ 1 := by
  have hh : hw [] (0 + 1) 41 0 [(0, (2, 31)), (1, (1, v1))] [] φ 0 (fun _ _ _ => 0 ≤ r ∧ r ≤ 1) := by
    refine sf_41_31 hI  (fun r1 hp1 hE1 => ?_)
    rw [hE] at hE1
    cases hE1
    exact hp1
  obtain ⟨_, _, _, _, h⟩ := hh
  exact h
theorem K_F_RideText_isTaken_182 {φ : hf_F}  {r : Int} {v1 v2 : Int} (hI : Inv φ) (h1a : 0 ≤ v1) (h1b : v1 ≤ 2) (h2a : 0 ≤ v2) (h2b : v2 ≤ 29) (hE : F_RideText_isTaken_182 φ v1 v2 = r) : 0 ≤ r ∧ r ≤ 1 := by
  have hh : hw [] 0 48 0 [(0, (2, 182)), (1, (0, v1)), (2, (0, v2))] [] φ 0 (fun _ _ _ => 0 ≤ r ∧ r ≤ 1) := by
    refine sf_48_182 hI h1a h1b h2a h2b (fun r1 hp1 hE1 => ?_)
    rw [hE] at hE1
    cases hE1
    exact hp1
  obtain ⟨_, _, _, _, h⟩ := hh
  exact h
theorem K_F_Outlook_needs_187 {φ : hf_F}  {r : Int} {v1 : Int} (hI : Inv φ) (h1a : 0 ≤ v1) (h1b : v1 ≤ 7) (hE : F_Outlook_needs_187 φ v1 = r) : True := by
  have hh : hw [] 0 109 0 [(0, (2, 187)), (1, (0, v1))] [] φ 0 (fun _ _ _ => True) := by
    refine sf_109_187 hI h1a h1b (fun r1 hp1 hE1 => ?_)
    rw [hE] at hE1
    cases hE1
    exact hp1
  obtain ⟨_, _, _, _, h⟩ := hh
  exact h
theorem K_F_Outlook_ridersAble_187 {φ : hf_F}  {r : Int} {v1 : Int} (hI : Inv φ) (h1a : 0 ≤ v1) (h1b : v1 ≤ 7) (hE : F_Outlook_ridersAble_187 φ v1 = r) : True := by
  have hh : hw [] (0 + 2) 107 0 [(0, (2, 187)), (1, (0, v1))] [] φ 0 (fun _ _ _ => True) := by
    refine sf_107_187 hI h1a h1b (fun r1 hp1 hE1 => ?_)
    rw [hE] at hE1
    cases hE1
    exact hp1
  obtain ⟨_, _, _, _, h⟩ := hh
  exact h
theorem K_F_Outlook_knownTo_187 {φ : hf_F}  {r : Int} {v1 : Int} (hI : Inv φ) (h1a : (-2147483648 : Int) ≤ v1) (h1b : v1 ≤ 2147483647) (hE : F_Outlook_knownTo_187 φ v1 = r) : True := by
  have hh : hw [] (0 + 2) 164 0 [(0, (2, 187)), (1, (0, v1))] [] φ 0 (fun _ _ _ => True) := by
    refine sf_164_187 hI h1a h1b (fun r1 hp1 hE1 => ?_)
    rw [hE] at hE1
    cases hE1
    exact hp1
  obtain ⟨_, _, _, _, h⟩ := hh
  exact h
theorem K_F_Outlook_isPeaceful_187 {φ : hf_F}  {r : Int} {v1 : Int} (hI : Inv φ) (h1a : (-2147483648 : Int) ≤ v1) (h1b : v1 ≤ 2147483647) (hE : F_Outlook_isPeaceful_187 φ v1 = r) : 0 ≤ r ∧ r ≤ 1 := by
  have hh : hw [] 0 113 0 [(0, (2, 187)), (1, (0, v1))] [] φ 0 (fun _ _ _ => 0 ≤ r ∧ r ≤ 1) := by
    refine sf_113_187 hI h1a h1b (fun r1 hp1 hE1 => ?_)
    rw [hE] at hE1
    cases hE1
    exact hp1
  obtain ⟨_, _, _, _, h⟩ := hh
  exact h
theorem K_F_Plan_addNamed_31_k1_4 {φ : hf_F} {ψ : hf_F} {r : Int} {v2 : Int} (hI : Inv φ) (hx0 : 0 ≤ φ 32 4 ∧ φ 32 4 ≤ 7) (hE : F_Plan_addNamed_31_k1_4 φ v2 = (r, ψ)) : Inv ψ ∧ Fr [32, 33] φ ψ ∧ (0 ≤ r ∧ r ≤ 7 ∧ r ≤ 7) := by
  have hh : hw [] 0 45 0 [(0, (2, 31)), (1, (0, 4)), (2, (1, v2))] [] φ 0 (fun _ _ _ => Inv ψ ∧ Fr [32, 33] φ ψ ∧ (0 ≤ r ∧ r ≤ 7 ∧ r ≤ 7)) := by
    refine sf_45_31_k1_4 hI hx0 (fun r1 ψ1 hI1 hF1 hp1 hE1 => ?_)
    rw [hE] at hE1
    cases hE1
    exact ⟨hI1, hF1, hp1⟩
  obtain ⟨_, _, _, _, h⟩ := hh
  exact h
theorem K_F_Plan_addLaw_31 {φ : hf_F} {ψ : hf_F} {v1 v3 v4 : Int} (hI : Inv φ) (h3a : 0 ≤ v3) (h3b : v3 ≤ 7) (h4a : 0 ≤ v4) (h4b : v4 ≤ 7) (hx0 : 0 ≤ φ 32 4 ∧ φ 32 4 ≤ 7) (hE : F_Plan_addLaw_31 φ v1 v3 v4 = ψ) : Inv ψ ∧ Fr [32, 33, 39, 40, 42] φ ψ := by
  have hh : hw [] (0 + 1) 57 0 [(0, (2, 31)), (1, (1, v1)), (3, (0, v3)), (4, (0, v4))] [] φ 0 (fun _ _ _ => Inv ψ ∧ Fr [32, 33, 39, 40, 42] φ ψ) := by
    refine sf_57_31 hI h3a h3b h4a h4b hx0 (fun ψ1 hI1 hF1 hE1 => ?_)
    rw [hE] at hE1
    cases hE1
    exact ⟨hI1, hF1⟩
  obtain ⟨_, _, _, _, h⟩ := hh
  exact h
theorem K_F_Plan_addClash_31 {φ : hf_F} {ψ : hf_F} {v1 v2 : Int} (hI : Inv φ) (h1a : 0 ≤ v1) (h1b : v1 ≤ 7) (h2a : 0 ≤ v2) (h2b : v2 ≤ 7) (hE : F_Plan_addClash_31 φ v1 v2 = ψ) : Inv ψ ∧ Fr [41] φ ψ := by
  have hh : hw [] 0 59 0 [(0, (2, 31)), (1, (0, v1)), (2, (0, v2))] [] φ 0 (fun _ _ _ => Inv ψ ∧ Fr [41] φ ψ) := by
    refine sf_59_31 hI h1a h1b h2a h2b (fun ψ1 hI1 hF1 hE1 => ?_)
    rw [hE] at hE1
    cases hE1
    exact ⟨hI1, hF1⟩
  obtain ⟨_, _, _, _, h⟩ := hh
  exact h
theorem K_F_Plan_copyFrom_5_83 {φ : hf_F} {ψ : hf_F}  (hI : Inv φ)  (hE : F_Plan_copyFrom_5_83 φ = ψ) : Inv ψ ∧ Fr [6, 7, 8, 9, 10, 11, 12, 13, 14, 15, 16] φ ψ := by
  have hh : hw [] 0 65 0 [(0, (2, 5)), (1, (2, 83))] [] φ 0 (fun _ _ _ => Inv ψ ∧ Fr [6, 7, 8, 9, 10, 11, 12, 13, 14, 15, 16] φ ψ) := by
    refine sf_65_5_83 hI  (fun ψ1 hI1 hF1 hE1 => ?_)
    rw [hE] at hE1
    cases hE1
    exact ⟨hI1, hF1⟩
  obtain ⟨_, _, _, _, h⟩ := hh
  exact h
theorem K_F_State_copyFrom_17_95 {φ : hf_F} {ψ : hf_F}  (hI : Inv φ)  (hE : F_State_copyFrom_17_95 φ = ψ) : Inv ψ ∧ Fr [18, 19, 20, 21, 22, 23, 24, 25, 18000, 18001, 18002, 18003, 18004, 18005] φ ψ := by
  have hh : hw [] 0 66 0 [(0, (2, 17)), (1, (2, 95))] [] φ 0 (fun _ _ _ => Inv ψ ∧ Fr [18, 19, 20, 21, 22, 23, 24, 25, 18000, 18001, 18002, 18003, 18004, 18005] φ ψ) := by
    refine sf_66_17_95 hI  (fun ψ1 hI1 hF1 hE1 => ?_)
    rw [hE] at hE1
    cases hE1
    exact ⟨hI1, hF1⟩
  obtain ⟨_, _, _, _, h⟩ := hh
  exact h
theorem K_F_Sentence_copyFrom_26_104 {φ : hf_F} {ψ : hf_F}  (hI : Inv φ)  (hE : F_Sentence_copyFrom_26_104 φ = ψ) : Inv ψ ∧ Fr [27, 28, 29, 27003, 27004, 27005] φ ψ := by
  have hh : hw [] 0 67 0 [(0, (2, 26)), (1, (2, 104))] [] φ 0 (fun _ _ _ => Inv ψ ∧ Fr [27, 28, 29, 27003, 27004, 27005] φ ψ) := by
    refine sf_67_26_104 hI  (fun ψ1 hI1 hF1 hE1 => ?_)
    rw [hE] at hE1
    cases hE1
    exact ⟨hI1, hF1⟩
  obtain ⟨_, _, _, _, h⟩ := hh
  exact h
theorem K_F_Scene_copyFrom_4_82 {φ : hf_F} {ψ : hf_F}  (hI : Inv φ)  (hE : F_Scene_copyFrom_4_82 φ = ψ) : Inv ψ ∧ Fr [6, 7, 8, 9, 10, 11, 12, 13, 14, 15, 16, 18, 19, 20, 21, 22, 23, 24, 25, 27, 28, 29, 18000, 18001, 18002, 18003, 18004, 18005, 27003, 27004, 27005] φ ψ := by
  have hh : hw [] (0 + 1) 64 0 [(0, (2, 4)), (1, (2, 82))] [] φ 0 (fun _ _ _ => Inv ψ ∧ Fr [6, 7, 8, 9, 10, 11, 12, 13, 14, 15, 16, 18, 19, 20, 21, 22, 23, 24, 25, 27, 28, 29, 18000, 18001, 18002, 18003, 18004, 18005, 27003, 27004, 27005] φ ψ) := by
    refine sf_64_4_82 hI  (fun ψ1 hI1 hF1 hE1 => ?_)
    rw [hE] at hE1
    cases hE1
    exact ⟨hI1, hF1⟩
  obtain ⟨_, _, _, _, h⟩ := hh
  exact h
theorem K_F_Plan_copyFrom_5_57 {φ : hf_F} {ψ : hf_F}  (hI : Inv φ)  (hE : F_Plan_copyFrom_5_57 φ = ψ) : Inv ψ ∧ Fr [6, 7, 8, 9, 10, 11, 12, 13, 14, 15, 16] φ ψ := by
  have hh : hw [] 0 65 0 [(0, (2, 5)), (1, (2, 57))] [] φ 0 (fun _ _ _ => Inv ψ ∧ Fr [6, 7, 8, 9, 10, 11, 12, 13, 14, 15, 16] φ ψ) := by
    refine sf_65_5_57 hI  (fun ψ1 hI1 hF1 hE1 => ?_)
    rw [hE] at hE1
    cases hE1
    exact ⟨hI1, hF1⟩
  obtain ⟨_, _, _, _, h⟩ := hh
  exact h
theorem K_F_State_copyFrom_17_69 {φ : hf_F} {ψ : hf_F}  (hI : Inv φ)  (hE : F_State_copyFrom_17_69 φ = ψ) : Inv ψ ∧ Fr [18, 19, 20, 21, 22, 23, 24, 25, 18000, 18001, 18002, 18003, 18004, 18005] φ ψ := by
  have hh : hw [] 0 66 0 [(0, (2, 17)), (1, (2, 69))] [] φ 0 (fun _ _ _ => Inv ψ ∧ Fr [18, 19, 20, 21, 22, 23, 24, 25, 18000, 18001, 18002, 18003, 18004, 18005] φ ψ) := by
    refine sf_66_17_69 hI  (fun ψ1 hI1 hF1 hE1 => ?_)
    rw [hE] at hE1
    cases hE1
    exact ⟨hI1, hF1⟩
  obtain ⟨_, _, _, _, h⟩ := hh
  exact h
theorem K_F_Sentence_copyFrom_26_78 {φ : hf_F} {ψ : hf_F}  (hI : Inv φ)  (hE : F_Sentence_copyFrom_26_78 φ = ψ) : Inv ψ ∧ Fr [27, 28, 29, 27003, 27004, 27005] φ ψ := by
  have hh : hw [] 0 67 0 [(0, (2, 26)), (1, (2, 78))] [] φ 0 (fun _ _ _ => Inv ψ ∧ Fr [27, 28, 29, 27003, 27004, 27005] φ ψ) := by
    refine sf_67_26_78 hI  (fun ψ1 hI1 hF1 hE1 => ?_)
    rw [hE] at hE1
    cases hE1
    exact ⟨hI1, hF1⟩
  obtain ⟨_, _, _, _, h⟩ := hh
  exact h
theorem K_F_Scene_copyFrom_4_56 {φ : hf_F} {ψ : hf_F}  (hI : Inv φ)  (hE : F_Scene_copyFrom_4_56 φ = ψ) : Inv ψ ∧ Fr [6, 7, 8, 9, 10, 11, 12, 13, 14, 15, 16, 18, 19, 20, 21, 22, 23, 24, 25, 27, 28, 29, 18000, 18001, 18002, 18003, 18004, 18005, 27003, 27004, 27005] φ ψ := by
  have hh : hw [] (0 + 1) 64 0 [(0, (2, 4)), (1, (2, 56))] [] φ 0 (fun _ _ _ => Inv ψ ∧ Fr [6, 7, 8, 9, 10, 11, 12, 13, 14, 15, 16, 18, 19, 20, 21, 22, 23, 24, 25, 27, 28, 29, 18000, 18001, 18002, 18003, 18004, 18005, 27003, 27004, 27005] φ ψ) := by
    refine sf_64_4_56 hI  (fun ψ1 hI1 hF1 hE1 => ?_)
    rw [hE] at hE1
    cases hE1
    exact ⟨hI1, hF1⟩
  obtain ⟨_, _, _, _, h⟩ := hh
  exact h
theorem K_F_RideLaws_restore_0 {φ : hf_F} {ψ : hf_F} {r : Int} {v1 : Int} (hI : Inv φ) (h1a : (-2147483648 : Int) ≤ v1) (h1b : v1 ≤ 2147483647) (hE : F_RideLaws_restore_0 φ v1 = (r, ψ)) : Inv ψ ∧ Fr [6, 7, 8, 9, 10, 11, 12, 13, 14, 15, 16, 18, 19, 20, 21, 22, 23, 24, 25, 27, 28, 29, 18000, 18001, 18002, 18003, 18004, 18005, 27003, 27004, 27005, 109001] φ ψ ∧ (0 ≤ r ∧ r ≤ 1 ∧ ((r = 1 ∧ (v1 = 0 ∧ φ 56 3 = 1 ∨ v1 = 1 ∧ φ 82 3 = 1)) ∨ (r = 0 ∧ (¬ (v1 = 0 ∨ v1 = 1) ∨ v1 = 0 ∧ φ 56 3 = 0 ∨ v1 = 1 ∧ φ 82 3 = 0)))) := by
  have hh : hw [] (0 + 2) 157 0 [(0, (2, 0)), (1, (0, v1))] [] φ 0 (fun _ _ _ => Inv ψ ∧ Fr [6, 7, 8, 9, 10, 11, 12, 13, 14, 15, 16, 18, 19, 20, 21, 22, 23, 24, 25, 27, 28, 29, 18000, 18001, 18002, 18003, 18004, 18005, 27003, 27004, 27005, 109001] φ ψ ∧ (0 ≤ r ∧ r ≤ 1 ∧ ((r = 1 ∧ (v1 = 0 ∧ φ 56 3 = 1 ∨ v1 = 1 ∧ φ 82 3 = 1)) ∨ (r = 0 ∧ (¬ (v1 = 0 ∨ v1 = 1) ∨ v1 = 0 ∧ φ 56 3 = 0 ∨ v1 = 1 ∧ φ 82 3 = 0))))) := by
    refine sf_157_0 hI h1a h1b (fun r1 ψ1 hI1 hF1 hp1 hE1 => ?_)
    rw [hE] at hE1
    cases hE1
    exact ⟨hI1, hF1, hp1⟩
  obtain ⟨_, _, _, _, h⟩ := hh
  exact h
theorem K_F_RideLaws_able_0 {φ : hf_F}  {r : Int} {v1 : Int} (hI : Inv φ) (h1a : (-2147483648 : Int) ≤ v1) (h1b : v1 ≤ 2147483647) (hE : F_RideLaws_able_0 φ v1 = r) : True := by
  have hh : hw [] (0 + 3) 106 0 [(0, (2, 0)), (1, (0, v1))] [] φ 0 (fun _ _ _ => True) := by
    refine sf_106_0 hI h1a h1b (fun r1 hp1 hE1 => ?_)
    rw [hE] at hE1
    cases hE1
    exact hp1
  obtain ⟨_, _, _, _, h⟩ := hh
  exact h
theorem K_F_Sentence_add_52 {φ : hf_F} {ψ : hf_F} {r : Int} {v1 v2 v3 : Int} (hI : Inv φ) (h1a : 0 ≤ v1) (h1b : v1 ≤ 22) (h2a : 0 ≤ v2) (h2b : v2 ≤ 62) (h3a : 0 ≤ v3) (h3b : v3 ≤ 999) (hE : F_Sentence_add_52 φ v1 v2 v3 = (r, ψ)) : Inv ψ ∧ Fr [53, 54, 55, 53003] φ ψ ∧ (0 ≤ r ∧ r ≤ 1) := by
  have hh : hw [] 0 149 0 [(0, (2, 52)), (1, (0, v1)), (2, (0, v2)), (3, (0, v3))] [] φ 0 (fun _ _ _ => Inv ψ ∧ Fr [53, 54, 55, 53003] φ ψ ∧ (0 ≤ r ∧ r ≤ 1)) := by
    refine sf_149_52 hI h1a h1b h2a h2b h3a h3b (fun r1 ψ1 hI1 hF1 hp1 hE1 => ?_)
    rw [hE] at hE1
    cases hE1
    exact ⟨hI1, hF1, hp1⟩
  obtain ⟨_, _, _, _, h⟩ := hh
  exact h
theorem K_F_Sentence_isSo {φ : hf_F}  {r : Int} {v0 v1 v2 : Int} (hI : Inv φ) (h1a : 0 ≤ v1) (h1b : v1 ≤ 62) (h2a : 0 ≤ v2) (h2b : v2 ≤ 999) (hE : F_Sentence_isSo φ v0 v1 v2 = r) : 0 ≤ r ∧ r ≤ 1 := by
  have hh : hw [] 0 155 0 [(0, (0, v0)), (1, (0, v1)), (2, (0, v2))] [] φ 0 (fun _ _ _ => 0 ≤ r ∧ r ≤ 1) := by
    refine sf_155 hI h1a h1b h2a h2b (fun r1 hp1 hE1 => ?_)
    rw [hE] at hE1
    cases hE1
    exact hp1
  obtain ⟨_, _, _, _, h⟩ := hh
  exact h
theorem K_F_State_whyNotLearn_17 {φ : hf_F}  {r : Int} {v1 : Int} (hI : Inv φ) (h1a : 0 ≤ v1) (h1b : v1 ≤ 5) (hE : F_State_whyNotLearn_17 φ v1 = r) : 0 ≤ r ∧ r ≤ 1 ∧ (r = 0 → φ 21 ((v1).toNat) ≤ 5) := by
  have hh : hw [] 0 54 0 [(0, (2, 17)), (1, (0, v1))] [] φ 0 (fun _ _ _ => 0 ≤ r ∧ r ≤ 1 ∧ (r = 0 → φ 21 ((v1).toNat) ≤ 5)) := by
    refine sf_54_17 hI h1a h1b (fun r1 hp1 hE1 => ?_)
    rw [hE] at hE1
    cases hE1
    exact hp1
  obtain ⟨_, _, _, _, h⟩ := hh
  exact h
theorem K_F_Draws_below_188 {φ : hf_F} {ψ : hf_F} {r : Int} {v1 : Int} (hI : Inv φ) (h1a : 0 ≤ v1) (h1b : v1 ≤ 12) (hE : F_Draws_below_188 φ v1 = (r, ψ)) : Inv ψ ∧ Fr [189000] φ ψ ∧ (0 ≤ r ∧ r ≤ 11 ∧ (0 < v1 → r < v1)) := by
  have hh : hw [] 0 128 0 [(0, (2, 188)), (1, (0, v1))] [] φ 0 (fun _ _ _ => Inv ψ ∧ Fr [189000] φ ψ ∧ (0 ≤ r ∧ r ≤ 11 ∧ (0 < v1 → r < v1))) := by
    refine sf_128_188 hI h1a h1b (fun r1 ψ1 hI1 hF1 hp1 hE1 => ?_)
    rw [hE] at hE1
    cases hE1
    exact ⟨hI1, hF1, hp1⟩
  obtain ⟨_, _, _, _, h⟩ := hh
  exact h
theorem K_F_Plan_addNamed_31_k1_0 {φ : hf_F} {ψ : hf_F} {r : Int} {v2 : Int} (hI : Inv φ) (hx0 : 0 ≤ φ 32 0 ∧ φ 32 0 ≤ 2) (hE : F_Plan_addNamed_31_k1_0 φ v2 = (r, ψ)) : Inv ψ ∧ Fr [32, 33] φ ψ ∧ (0 ≤ r ∧ r ≤ 7 ∧ r ≤ 2) := by
  have hh : hw [] 0 45 0 [(0, (2, 31)), (1, (0, 0)), (2, (1, v2))] [] φ 0 (fun _ _ _ => Inv ψ ∧ Fr [32, 33] φ ψ ∧ (0 ≤ r ∧ r ≤ 7 ∧ r ≤ 2)) := by
    refine sf_45_31_k1_0 hI hx0 (fun r1 ψ1 hI1 hF1 hp1 hE1 => ?_)
    rw [hE] at hE1
    cases hE1
    exact ⟨hI1, hF1, hp1⟩
  obtain ⟨_, _, _, _, h⟩ := hh
  exact h
theorem K_F_Plan_addRing_31 {φ : hf_F} {ψ : hf_F} {v1 v3 v4 : Int} (hI : Inv φ) (h3a : 2 ≤ v3) (h3b : v3 ≤ 30) (h4a : 1 ≤ v4) (h4b : v4 ≤ 9) (hx0 : 0 ≤ φ 32 0 ∧ φ 32 0 ≤ 2) (hE : F_Plan_addRing_31 φ v1 v3 v4 = ψ) : Inv ψ ∧ Fr [32, 33, 34, 35] φ ψ := by
  have hh : hw [] (0 + 1) 44 0 [(0, (2, 31)), (1, (1, v1)), (3, (0, v3)), (4, (0, v4))] [] φ 0 (fun _ _ _ => Inv ψ ∧ Fr [32, 33, 34, 35] φ ψ) := by
    refine sf_44_31 hI h3a h3b h4a h4b hx0 (fun ψ1 hI1 hF1 hE1 => ?_)
    rw [hE] at hE1
    cases hE1
    exact ⟨hI1, hF1⟩
  obtain ⟨_, _, _, _, h⟩ := hh
  exact h
theorem K_F_Plan_addNamed_31_k1_1 {φ : hf_F} {ψ : hf_F} {r : Int} {v2 : Int} (hI : Inv φ) (hx0 : 0 ≤ φ 32 1 ∧ φ 32 1 ≤ 7) (hE : F_Plan_addNamed_31_k1_1 φ v2 = (r, ψ)) : Inv ψ ∧ Fr [32, 33] φ ψ ∧ (0 ≤ r ∧ r ≤ 7 ∧ r ≤ 7) := by
  have hh : hw [] 0 45 0 [(0, (2, 31)), (1, (0, 1)), (2, (1, v2))] [] φ 0 (fun _ _ _ => Inv ψ ∧ Fr [32, 33] φ ψ ∧ (0 ≤ r ∧ r ≤ 7 ∧ r ≤ 7)) := by
    refine sf_45_31_k1_1 hI hx0 (fun r1 ψ1 hI1 hF1 hp1 hE1 => ?_)
    rw [hE] at hE1
    cases hE1
    exact ⟨hI1, hF1, hp1⟩
  obtain ⟨_, _, _, _, h⟩ := hh
  exact h
theorem K_F_Plan_addSeat_31 {φ : hf_F} {ψ : hf_F} {r : Int} {v1 v3 : Int} (hI : Inv φ) (h3a : 0 ≤ v3) (h3b : v3 ≤ 2) (hx0 : 0 ≤ φ 32 1 ∧ φ 32 1 ≤ 7) (hE : F_Plan_addSeat_31 φ v1 v3 = (r, ψ)) : Inv ψ ∧ Fr [32, 33, 36, 37, 38] φ ψ ∧ (0 ≤ r ∧ r ≤ 7) := by
  have hh : hw [] (0 + 1) 49 0 [(0, (2, 31)), (1, (1, v1)), (3, (0, v3))] [] φ 0 (fun _ _ _ => Inv ψ ∧ Fr [32, 33, 36, 37, 38] φ ψ ∧ (0 ≤ r ∧ r ≤ 7)) := by
    refine sf_49_31 hI h3a h3b hx0 (fun r1 ψ1 hI1 hF1 hp1 hE1 => ?_)
    rw [hE] at hE1
    cases hE1
    exact ⟨hI1, hF1, hp1⟩
  obtain ⟨_, _, _, _, h⟩ := hh
  exact h
theorem K_F_State_copyFrom_17_110 {φ : hf_F} {ψ : hf_F}  (hI : Inv φ)  (hE : F_State_copyFrom_17_110 φ = ψ) : Inv ψ ∧ Fr [18, 19, 20, 21, 22, 23, 24, 25, 18000, 18001, 18002, 18003, 18004, 18005] φ ψ := by
  have hh : hw [] 0 66 0 [(0, (2, 17)), (1, (2, 110))] [] φ 0 (fun _ _ _ => Inv ψ ∧ Fr [18, 19, 20, 21, 22, 23, 24, 25, 18000, 18001, 18002, 18003, 18004, 18005] φ ψ) := by
    refine sf_66_17_110 hI  (fun ψ1 hI1 hF1 hE1 => ?_)
    rw [hE] at hE1
    cases hE1
    exact ⟨hI1, hF1⟩
  obtain ⟨_, _, _, _, h⟩ := hh
  exact h
theorem K_F_State_copyFrom_17_119 {φ : hf_F} {ψ : hf_F}  (hI : Inv φ)  (hE : F_State_copyFrom_17_119 φ = ψ) : Inv ψ ∧ Fr [18, 19, 20, 21, 22, 23, 24, 25, 18000, 18001, 18002, 18003, 18004, 18005] φ ψ := by
  have hh : hw [] 0 66 0 [(0, (2, 17)), (1, (2, 119))] [] φ 0 (fun _ _ _ => Inv ψ ∧ Fr [18, 19, 20, 21, 22, 23, 24, 25, 18000, 18001, 18002, 18003, 18004, 18005] φ ψ) := by
    refine sf_66_17_119 hI  (fun ψ1 hI1 hF1 hE1 => ?_)
    rw [hE] at hE1
    cases hE1
    exact ⟨hI1, hF1⟩
  obtain ⟨_, _, _, _, h⟩ := hh
  exact h
theorem K_F_State_copyFrom_17_128 {φ : hf_F} {ψ : hf_F}  (hI : Inv φ)  (hE : F_State_copyFrom_17_128 φ = ψ) : Inv ψ ∧ Fr [18, 19, 20, 21, 22, 23, 24, 25, 18000, 18001, 18002, 18003, 18004, 18005] φ ψ := by
  have hh : hw [] 0 66 0 [(0, (2, 17)), (1, (2, 128))] [] φ 0 (fun _ _ _ => Inv ψ ∧ Fr [18, 19, 20, 21, 22, 23, 24, 25, 18000, 18001, 18002, 18003, 18004, 18005] φ ψ) := by
    refine sf_66_17_128 hI  (fun ψ1 hI1 hF1 hE1 => ?_)
    rw [hE] at hE1
    cases hE1
    exact ⟨hI1, hF1⟩
  obtain ⟨_, _, _, _, h⟩ := hh
  exact h
theorem K_F_State_copyFrom_17_137 {φ : hf_F} {ψ : hf_F}  (hI : Inv φ)  (hE : F_State_copyFrom_17_137 φ = ψ) : Inv ψ ∧ Fr [18, 19, 20, 21, 22, 23, 24, 25, 18000, 18001, 18002, 18003, 18004, 18005] φ ψ := by
  have hh : hw [] 0 66 0 [(0, (2, 17)), (1, (2, 137))] [] φ 0 (fun _ _ _ => Inv ψ ∧ Fr [18, 19, 20, 21, 22, 23, 24, 25, 18000, 18001, 18002, 18003, 18004, 18005] φ ψ) := by
    refine sf_66_17_137 hI  (fun ψ1 hI1 hF1 hE1 => ?_)
    rw [hE] at hE1
    cases hE1
    exact ⟨hI1, hF1⟩
  obtain ⟨_, _, _, _, h⟩ := hh
  exact h
theorem K_F_State_copyFrom_17_146 {φ : hf_F} {ψ : hf_F}  (hI : Inv φ)  (hE : F_State_copyFrom_17_146 φ = ψ) : Inv ψ ∧ Fr [18, 19, 20, 21, 22, 23, 24, 25, 18000, 18001, 18002, 18003, 18004, 18005] φ ψ := by
  have hh : hw [] 0 66 0 [(0, (2, 17)), (1, (2, 146))] [] φ 0 (fun _ _ _ => Inv ψ ∧ Fr [18, 19, 20, 21, 22, 23, 24, 25, 18000, 18001, 18002, 18003, 18004, 18005] φ ψ) := by
    refine sf_66_17_146 hI  (fun ψ1 hI1 hF1 hE1 => ?_)
    rw [hE] at hE1
    cases hE1
    exact ⟨hI1, hF1⟩
  obtain ⟨_, _, _, _, h⟩ := hh
  exact h
theorem K_F_State_copyFrom_17_155 {φ : hf_F} {ψ : hf_F}  (hI : Inv φ)  (hE : F_State_copyFrom_17_155 φ = ψ) : Inv ψ ∧ Fr [18, 19, 20, 21, 22, 23, 24, 25, 18000, 18001, 18002, 18003, 18004, 18005] φ ψ := by
  have hh : hw [] 0 66 0 [(0, (2, 17)), (1, (2, 155))] [] φ 0 (fun _ _ _ => Inv ψ ∧ Fr [18, 19, 20, 21, 22, 23, 24, 25, 18000, 18001, 18002, 18003, 18004, 18005] φ ψ) := by
    refine sf_66_17_155 hI  (fun ψ1 hI1 hF1 hE1 => ?_)
    rw [hE] at hE1
    cases hE1
    exact ⟨hI1, hF1⟩
  obtain ⟨_, _, _, _, h⟩ := hh
  exact h
theorem K_F_State_copyFrom_17_164 {φ : hf_F} {ψ : hf_F}  (hI : Inv φ)  (hE : F_State_copyFrom_17_164 φ = ψ) : Inv ψ ∧ Fr [18, 19, 20, 21, 22, 23, 24, 25, 18000, 18001, 18002, 18003, 18004, 18005] φ ψ := by
  have hh : hw [] 0 66 0 [(0, (2, 17)), (1, (2, 164))] [] φ 0 (fun _ _ _ => Inv ψ ∧ Fr [18, 19, 20, 21, 22, 23, 24, 25, 18000, 18001, 18002, 18003, 18004, 18005] φ ψ) := by
    refine sf_66_17_164 hI  (fun ψ1 hI1 hF1 hE1 => ?_)
    rw [hE] at hE1
    cases hE1
    exact ⟨hI1, hF1⟩
  obtain ⟨_, _, _, _, h⟩ := hh
  exact h
theorem K_F_State_copyFrom_17_173 {φ : hf_F} {ψ : hf_F}  (hI : Inv φ)  (hE : F_State_copyFrom_17_173 φ = ψ) : Inv ψ ∧ Fr [18, 19, 20, 21, 22, 23, 24, 25, 18000, 18001, 18002, 18003, 18004, 18005] φ ψ := by
  have hh : hw [] 0 66 0 [(0, (2, 17)), (1, (2, 173))] [] φ 0 (fun _ _ _ => Inv ψ ∧ Fr [18, 19, 20, 21, 22, 23, 24, 25, 18000, 18001, 18002, 18003, 18004, 18005] φ ψ) := by
    refine sf_66_17_173 hI  (fun ψ1 hI1 hF1 hE1 => ?_)
    rw [hE] at hE1
    cases hE1
    exact ⟨hI1, hF1⟩
  obtain ⟨_, _, _, _, h⟩ := hh
  exact h
theorem K_F_History_giveBack_108_17 {φ : hf_F} {ψ : hf_F} {r : Int}  (hI : Inv φ)  (hE : F_History_giveBack_108_17 φ = (r, ψ)) : Inv ψ ∧ Fr [18, 19, 20, 21, 22, 23, 24, 25, 18000, 18001, 18002, 18003, 18004, 18005, 109001] φ ψ ∧ (0 ≤ r ∧ r ≤ 1) := by
  have hh : hw [] (0 + 1) 95 0 [(0, (2, 108)), (1, (2, 17))] [] φ 0 (fun _ _ _ => Inv ψ ∧ Fr [18, 19, 20, 21, 22, 23, 24, 25, 18000, 18001, 18002, 18003, 18004, 18005, 109001] φ ψ ∧ (0 ≤ r ∧ r ≤ 1)) := by
    refine sf_95_108_17 hI  (fun r1 ψ1 hI1 hF1 hp1 hE1 => ?_)
    rw [hE] at hE1
    cases hE1
    exact ⟨hI1, hF1, hp1⟩
  obtain ⟨_, _, _, _, h⟩ := hh
  exact h
theorem K_F_RideLaws_undo_0 {φ : hf_F} {ψ : hf_F} {r : Int}  (hI : Inv φ)  (hE : F_RideLaws_undo_0 φ = (r, ψ)) : Inv ψ ∧ Fr [18, 19, 20, 21, 22, 23, 24, 25, 18000, 18001, 18002, 18003, 18004, 18005, 109001] φ ψ ∧ (True) := by
  have hh : hw [] (0 + 2) 94 0 [(0, (2, 0))] [] φ 0 (fun _ _ _ => Inv ψ ∧ Fr [18, 19, 20, 21, 22, 23, 24, 25, 18000, 18001, 18002, 18003, 18004, 18005, 109001] φ ψ ∧ (True)) := by
    refine sf_94_0 hI  (fun r1 ψ1 hI1 hF1 hp1 hE1 => ?_)
    rw [hE] at hE1
    cases hE1
    exact ⟨hI1, hF1, hp1⟩
  obtain ⟨_, _, _, _, h⟩ := hh
  exact h
theorem K_F_Plan_copyFrom_83_5 {φ : hf_F} {ψ : hf_F}  (hI : Inv φ)  (hE : F_Plan_copyFrom_83_5 φ = ψ) : Inv ψ ∧ Fr [84, 85, 86, 87, 88, 89, 90, 91, 92, 93, 94] φ ψ := by
  have hh : hw [] 0 65 0 [(0, (2, 83)), (1, (2, 5))] [] φ 0 (fun _ _ _ => Inv ψ ∧ Fr [84, 85, 86, 87, 88, 89, 90, 91, 92, 93, 94] φ ψ) := by
    refine sf_65_83_5 hI  (fun ψ1 hI1 hF1 hE1 => ?_)
    rw [hE] at hE1
    cases hE1
    exact ⟨hI1, hF1⟩
  obtain ⟨_, _, _, _, h⟩ := hh
  exact h
theorem K_F_State_copyFrom_95_17 {φ : hf_F} {ψ : hf_F}  (hI : Inv φ)  (hE : F_State_copyFrom_95_17 φ = ψ) : Inv ψ ∧ Fr [96, 97, 98, 99, 100, 101, 102, 103, 96000, 96001, 96002, 96003, 96004, 96005] φ ψ := by
  have hh : hw [] 0 66 0 [(0, (2, 95)), (1, (2, 17))] [] φ 0 (fun _ _ _ => Inv ψ ∧ Fr [96, 97, 98, 99, 100, 101, 102, 103, 96000, 96001, 96002, 96003, 96004, 96005] φ ψ) := by
    refine sf_66_95_17 hI  (fun ψ1 hI1 hF1 hE1 => ?_)
    rw [hE] at hE1
    cases hE1
    exact ⟨hI1, hF1⟩
  obtain ⟨_, _, _, _, h⟩ := hh
  exact h
theorem K_F_Sentence_copyFrom_104_26 {φ : hf_F} {ψ : hf_F}  (hI : Inv φ)  (hE : F_Sentence_copyFrom_104_26 φ = ψ) : Inv ψ ∧ Fr [105, 106, 107, 105003, 105004, 105005] φ ψ := by
  have hh : hw [] 0 67 0 [(0, (2, 104)), (1, (2, 26))] [] φ 0 (fun _ _ _ => Inv ψ ∧ Fr [105, 106, 107, 105003, 105004, 105005] φ ψ) := by
    refine sf_67_104_26 hI  (fun ψ1 hI1 hF1 hE1 => ?_)
    rw [hE] at hE1
    cases hE1
    exact ⟨hI1, hF1⟩
  obtain ⟨_, _, _, _, h⟩ := hh
  exact h
theorem K_F_Scene_copyFrom_82_4 {φ : hf_F} {ψ : hf_F}  (hI : Inv φ)  (hE : F_Scene_copyFrom_82_4 φ = ψ) : Inv ψ ∧ Fr [84, 85, 86, 87, 88, 89, 90, 91, 92, 93, 94, 96, 97, 98, 99, 100, 101, 102, 103, 105, 106, 107, 96000, 96001, 96002, 96003, 96004, 96005, 105003, 105004, 105005] φ ψ := by
  have hh : hw [] (0 + 1) 64 0 [(0, (2, 82)), (1, (2, 4))] [] φ 0 (fun _ _ _ => Inv ψ ∧ Fr [84, 85, 86, 87, 88, 89, 90, 91, 92, 93, 94, 96, 97, 98, 99, 100, 101, 102, 103, 105, 106, 107, 96000, 96001, 96002, 96003, 96004, 96005, 105003, 105004, 105005] φ ψ) := by
    refine sf_64_82_4 hI  (fun ψ1 hI1 hF1 hE1 => ?_)
    rw [hE] at hE1
    cases hE1
    exact ⟨hI1, hF1⟩
  obtain ⟨_, _, _, _, h⟩ := hh
  exact h
theorem K_F_Plan_copyFrom_57_5 {φ : hf_F} {ψ : hf_F}  (hI : Inv φ)  (hE : F_Plan_copyFrom_57_5 φ = ψ) : Inv ψ ∧ Fr [58, 59, 60, 61, 62, 63, 64, 65, 66, 67, 68] φ ψ := by
  have hh : hw [] 0 65 0 [(0, (2, 57)), (1, (2, 5))] [] φ 0 (fun _ _ _ => Inv ψ ∧ Fr [58, 59, 60, 61, 62, 63, 64, 65, 66, 67, 68] φ ψ) := by
    refine sf_65_57_5 hI  (fun ψ1 hI1 hF1 hE1 => ?_)
    rw [hE] at hE1
    cases hE1
    exact ⟨hI1, hF1⟩
  obtain ⟨_, _, _, _, h⟩ := hh
  exact h
theorem K_F_State_copyFrom_69_17 {φ : hf_F} {ψ : hf_F}  (hI : Inv φ)  (hE : F_State_copyFrom_69_17 φ = ψ) : Inv ψ ∧ Fr [70, 71, 72, 73, 74, 75, 76, 77, 70000, 70001, 70002, 70003, 70004, 70005] φ ψ := by
  have hh : hw [] 0 66 0 [(0, (2, 69)), (1, (2, 17))] [] φ 0 (fun _ _ _ => Inv ψ ∧ Fr [70, 71, 72, 73, 74, 75, 76, 77, 70000, 70001, 70002, 70003, 70004, 70005] φ ψ) := by
    refine sf_66_69_17 hI  (fun ψ1 hI1 hF1 hE1 => ?_)
    rw [hE] at hE1
    cases hE1
    exact ⟨hI1, hF1⟩
  obtain ⟨_, _, _, _, h⟩ := hh
  exact h
theorem K_F_Sentence_copyFrom_78_26 {φ : hf_F} {ψ : hf_F}  (hI : Inv φ)  (hE : F_Sentence_copyFrom_78_26 φ = ψ) : Inv ψ ∧ Fr [79, 80, 81, 79003, 79004, 79005] φ ψ := by
  have hh : hw [] 0 67 0 [(0, (2, 78)), (1, (2, 26))] [] φ 0 (fun _ _ _ => Inv ψ ∧ Fr [79, 80, 81, 79003, 79004, 79005] φ ψ) := by
    refine sf_67_78_26 hI  (fun ψ1 hI1 hF1 hE1 => ?_)
    rw [hE] at hE1
    cases hE1
    exact ⟨hI1, hF1⟩
  obtain ⟨_, _, _, _, h⟩ := hh
  exact h
theorem K_F_Scene_copyFrom_56_4 {φ : hf_F} {ψ : hf_F}  (hI : Inv φ)  (hE : F_Scene_copyFrom_56_4 φ = ψ) : Inv ψ ∧ Fr [58, 59, 60, 61, 62, 63, 64, 65, 66, 67, 68, 70, 71, 72, 73, 74, 75, 76, 77, 79, 80, 81, 70000, 70001, 70002, 70003, 70004, 70005, 79003, 79004, 79005] φ ψ := by
  have hh : hw [] (0 + 1) 64 0 [(0, (2, 56)), (1, (2, 4))] [] φ 0 (fun _ _ _ => Inv ψ ∧ Fr [58, 59, 60, 61, 62, 63, 64, 65, 66, 67, 68, 70, 71, 72, 73, 74, 75, 76, 77, 79, 80, 81, 70000, 70001, 70002, 70003, 70004, 70005, 79003, 79004, 79005] φ ψ) := by
    refine sf_64_56_4 hI  (fun ψ1 hI1 hF1 hE1 => ?_)
    rw [hE] at hE1
    cases hE1
    exact ⟨hI1, hF1⟩
  obtain ⟨_, _, _, _, h⟩ := hh
  exact h
theorem K_F_RideLaws_image_0 {φ : hf_F} {ψ : hf_F} {r : Int} {v1 : Int} (hI : Inv φ) (h1a : (-2147483648 : Int) ≤ v1) (h1b : v1 ≤ 2147483647) (hE : F_RideLaws_image_0 φ v1 = (r, ψ)) : Inv ψ ∧ Fr [58, 59, 60, 61, 62, 63, 64, 65, 66, 67, 68, 70, 71, 72, 73, 74, 75, 76, 77, 79, 80, 81, 84, 85, 86, 87, 88, 89, 90, 91, 92, 93, 94, 96, 97, 98, 99, 100, 101, 102, 103, 105, 106, 107, 57003, 70000, 70001, 70002, 70003, 70004, 70005, 79003, 79004, 79005, 83003, 96000, 96001, 96002, 96003, 96004, 96005, 105003, 105004, 105005] φ ψ ∧ (0 ≤ r ∧ r ≤ 1 ∧ ((r = 1 ∧ (v1 = 0 ∧ ψ 56 3 = 1 ∧ ψ 82 3 = φ 82 3 ∨ v1 = 1 ∧ ψ 82 3 = 1 ∧ ψ 56 3 = φ 56 3)) ∨ (r = 0 ∧ ¬ (v1 = 0 ∨ v1 = 1) ∧ ψ 56 3 = φ 56 3 ∧ ψ 82 3 = φ 82 3))) := by
  have hh : hw [] (0 + 2) 156 0 [(0, (2, 0)), (1, (0, v1))] [] φ 0 (fun _ _ _ => Inv ψ ∧ Fr [58, 59, 60, 61, 62, 63, 64, 65, 66, 67, 68, 70, 71, 72, 73, 74, 75, 76, 77, 79, 80, 81, 84, 85, 86, 87, 88, 89, 90, 91, 92, 93, 94, 96, 97, 98, 99, 100, 101, 102, 103, 105, 106, 107, 57003, 70000, 70001, 70002, 70003, 70004, 70005, 79003, 79004, 79005, 83003, 96000, 96001, 96002, 96003, 96004, 96005, 105003, 105004, 105005] φ ψ ∧ (0 ≤ r ∧ r ≤ 1 ∧ ((r = 1 ∧ (v1 = 0 ∧ ψ 56 3 = 1 ∧ ψ 82 3 = φ 82 3 ∨ v1 = 1 ∧ ψ 82 3 = 1 ∧ ψ 56 3 = φ 56 3)) ∨ (r = 0 ∧ ¬ (v1 = 0 ∨ v1 = 1) ∧ ψ 56 3 = φ 56 3 ∧ ψ 82 3 = φ 82 3)))) := by
    refine sf_156_0 hI h1a h1b (fun r1 ψ1 hI1 hF1 hp1 hE1 => ?_)
    rw [hE] at hE1
    cases hE1
    exact ⟨hI1, hF1, hp1⟩
  obtain ⟨_, _, _, _, h⟩ := hh
  exact h
theorem K_F_Outlook_ticksToBox_187 {φ : hf_F}  {r : Int} {v1 : Int} (hI : Inv φ) (h1a : 0 ≤ v1) (h1b : v1 ≤ 7) (hE : F_Outlook_ticksToBox_187 φ v1 = r) : True := by
  have hh : hw [] (0 + 1) 97 0 [(0, (2, 187)), (1, (0, v1))] [] φ 0 (fun _ _ _ => True) := by
    refine sf_97_187 hI h1a h1b (fun r1 hp1 hE1 => ?_)
    rw [hE] at hE1
    cases hE1
    exact hp1
  obtain ⟨_, _, _, _, h⟩ := hh
  exact h
theorem K_F_RideLaws_comes_0 {φ : hf_F}  {r : Int} {v1 : Int} (hI : Inv φ) (h1a : (-2147483648 : Int) ≤ v1) (h1b : v1 ≤ 2147483647) (hE : F_RideLaws_comes_0 φ v1 = r) : True := by
  have hh : hw [] (0 + 2) 96 0 [(0, (2, 0)), (1, (0, v1))] [] φ 0 (fun _ _ _ => True) := by
    refine sf_96_0 hI h1a h1b (fun r1 hp1 hE1 => ?_)
    rw [hE] at hE1
    cases hE1
    exact hp1
  obtain ⟨_, _, _, _, h⟩ := hh
  exact h
theorem K_F_java_util_Arrays_fill_32_k1_0 {φ : hf_F} {ψ : hf_F}  (hI : Inv φ)  (hE : F_java_util_Arrays_fill_32_k1_0 φ = ψ) : Inv ψ ∧ Fr [32] φ ψ := by
  have hh : hw [] 0 12 0 [(0, (2, 32)), (1, (0, 0))] [] φ 0 (fun _ _ _ => Inv ψ ∧ Fr [32] φ ψ) := by
    refine sf_12_32_k1_0 hI  (fun ψ1 hI1 hF1 hE1 => ?_)
    rw [hE] at hE1
    cases hE1
    exact ⟨hI1, hF1⟩
  obtain ⟨_, _, _, _, h⟩ := hh
  exact h
theorem K_F_java_util_Arrays_fill_41_k1_0 {φ : hf_F} {ψ : hf_F}  (hI : Inv φ)  (hE : F_java_util_Arrays_fill_41_k1_0 φ = ψ) : Inv ψ ∧ Fr [41] φ ψ := by
  have hh : hw [] 0 12 0 [(0, (2, 41)), (1, (0, 0))] [] φ 0 (fun _ _ _ => Inv ψ ∧ Fr [41] φ ψ) := by
    refine sf_12_41_k1_0 hI  (fun ψ1 hI1 hF1 hE1 => ?_)
    rw [hE] at hE1
    cases hE1
    exact ⟨hI1, hF1⟩
  obtain ⟨_, _, _, _, h⟩ := hh
  exact h
theorem K_F_java_util_Arrays_fill_42_k1_m1 {φ : hf_F} {ψ : hf_F}  (hI : Inv φ)  (hE : F_java_util_Arrays_fill_42_k1_m1 φ = ψ) : Inv ψ ∧ Fr [42] φ ψ := by
  have hh : hw [] 0 12 0 [(0, (2, 42)), (1, (0, (-1 : Int)))] [] φ 0 (fun _ _ _ => Inv ψ ∧ Fr [42] φ ψ) := by
    refine sf_12_42_k1_m1 hI  (fun ψ1 hI1 hF1 hE1 => ?_)
    rw [hE] at hE1
    cases hE1
    exact ⟨hI1, hF1⟩
  obtain ⟨_, _, _, _, h⟩ := hh
  exact h
theorem K_F_Plan_forget_31 {φ : hf_F} {ψ : hf_F}  (hI : Inv φ)  (hE : F_Plan_forget_31 φ = ψ) : Inv ψ ∧ Fr [32, 41, 42] φ ψ := by
  have hh : hw [] (0 + 1) 26 0 [(0, (2, 31))] [] φ 0 (fun _ _ _ => Inv ψ ∧ Fr [32, 41, 42] φ ψ) := by
    refine sf_26_31 hI  (fun ψ1 hI1 hF1 hE1 => ?_)
    rw [hE] at hE1
    cases hE1
    exact ⟨hI1, hF1⟩
  obtain ⟨_, _, _, _, h⟩ := hh
  exact h
theorem K_F_State_nextWord_17 {φ : hf_F}  {r : Int} {v1 : Int} (hI : Inv φ) (h1a : 0 ≤ v1) (h1b : v1 ≤ 5) (hE : F_State_nextWord_17 φ v1 = r) : (-1 : Int) ≤ r ∧ r ≤ 7 := by
  have hh : hw [] (0 + 1) 124 0 [(0, (2, 17)), (1, (0, v1))] [] φ 0 (fun _ _ _ => (-1 : Int) ≤ r ∧ r ≤ 7) := by
    refine sf_124_17 hI h1a h1b (fun r1 hp1 hE1 => ?_)
    rw [hE] at hE1
    cases hE1
    exact hp1
  obtain ⟨_, _, _, _, h⟩ := hh
  exact h
theorem K_F_RideLaws_rider_0 {φ : hf_F} {v1 v2 : Int} (hI : Inv φ) (h1a : (-2147483648 : Int) ≤ v1) (h1b : v1 ≤ 2147483647) (h2a : (-2147483648 : Int) ≤ v2) (h2b : v2 ≤ 2147483647) : F_RideLaws_rider_0 φ v1 v2 = none ∨ ∃ r : Int, F_RideLaws_rider_0 φ v1 v2 = some r ∧ (True) := by
  obtain ⟨_, _, _, _, h⟩ := sf_160_0 (sc := []) (d := 20) (x := 0) (Q := fun _ _ _ => F_RideLaws_rider_0 φ v1 v2 = none ∨ ∃ r : Int, F_RideLaws_rider_0 φ v1 v2 = some r ∧ (True)) hI h1a h1b h2a h2b (by omega) (fun ψ hI1 hF1 hE1 => Or.inl hE1) (fun r1 hp1 hE1 => Or.inr ⟨r1, hE1, hp1⟩)
  exact h
theorem K_F_RideLawsModel_fault_192 {φ : hf_F} {ψ : hf_F} {r : Int}  (hI : Inv φ)  (hE : F_RideLawsModel_fault_192 φ = (r, ψ)) : Inv ψ ∧ Fr [193000] φ ψ ∧ (True) := by
  have hh : hw [] 0 200 0 [(0, (2, 192))] [] φ 0 (fun _ _ _ => Inv ψ ∧ Fr [193000] φ ψ ∧ (True)) := by
    refine sf_200_192 hI  (fun r1 ψ1 hI1 hF1 hp1 hE1 => ?_)
    rw [hE] at hE1
    cases hE1
    exact ⟨hI1, hF1, hp1⟩
  obtain ⟨_, _, _, _, h⟩ := hh
  exact h
theorem K_F_RideLawsModel_end_192 {φ : hf_F} {ψ : hf_F} {r : Int} {v1 : Int} (hI : Inv φ) (h1a : (-2147483648 : Int) ≤ v1) (h1b : v1 ≤ 2147483647) (hE : F_RideLawsModel_end_192 φ v1 = (r, ψ)) : Inv ψ ∧ Fr [193000, 193002] φ ψ ∧ (0 ≤ r ∧ r ≤ 1 ∧ ((r = 0 ∧ (v1 < 0 ∨ φ 192 2 < v1) ∧ ψ 192 2 = φ 192 2) ∨ (r = 1 ∧ 0 ≤ v1 ∧ v1 ≤ φ 192 2 ∧ ψ 192 2 = v1))) := by
  have hh : hw [] 0 170 0 [(0, (2, 192)), (1, (0, v1))] [] φ 0 (fun _ _ _ => Inv ψ ∧ Fr [193000, 193002] φ ψ ∧ (0 ≤ r ∧ r ≤ 1 ∧ ((r = 0 ∧ (v1 < 0 ∨ φ 192 2 < v1) ∧ ψ 192 2 = φ 192 2) ∨ (r = 1 ∧ 0 ≤ v1 ∧ v1 ≤ φ 192 2 ∧ ψ 192 2 = v1)))) := by
    refine sf_170_192 hI h1a h1b (fun r1 ψ1 hI1 hF1 hp1 hE1 => ?_)
    rw [hE] at hE1
    cases hE1
    exact ⟨hI1, hF1, hp1⟩
  obtain ⟨_, _, _, _, h⟩ := hh
  exact h
theorem K_F_RideLawsModel_isIn {φ : hf_F}  {r : Int} {v0 v1 v2 : Int} (hI : Inv φ) (h0a : (-2147483648 : Int) ≤ v0) (h0b : v0 ≤ 2147483647) (h1a : (-2147483648 : Int) ≤ v1) (h1b : v1 ≤ 2147483647) (h2a : (-2147483648 : Int) ≤ v2) (h2b : v2 ≤ 2147483647) (hE : F_RideLawsModel_isIn φ v0 v1 v2 = r) : 0 ≤ r ∧ r ≤ 1 ∧ ((r = 1 → v1 ≤ v0 ∧ v0 ≤ v2) ∧ (r = 0 → v0 < v1 ∨ v2 < v0)) := by
  have hh : hw [] 0 188 0 [(0, (0, v0)), (1, (0, v1)), (2, (0, v2))] [] φ 0 (fun _ _ _ => 0 ≤ r ∧ r ≤ 1 ∧ ((r = 1 → v1 ≤ v0 ∧ v0 ≤ v2) ∧ (r = 0 → v0 < v1 ∨ v2 < v0))) := by
    refine sf_188 hI h0a h0b h1a h1b h2a h2b (fun r1 hp1 hE1 => ?_)
    rw [hE] at hE1
    cases hE1
    exact hp1
  obtain ⟨_, _, _, _, h⟩ := hh
  exact h
theorem K_F_RideLawsModel_told_192 {φ : hf_F} {ψ : hf_F} {r : Int} {v1 : Int} (hI : Inv φ) (h1a : (-2147483648 : Int) ≤ v1) (h1b : v1 ≤ 2147483647) (hE : F_RideLawsModel_told_192 φ v1 = (r, ψ)) : Inv ψ ∧ Fr [193000] φ ψ ∧ (True) := by
  have hh : hw [] (0 + 1) 262 0 [(0, (2, 192)), (1, (0, v1))] [] φ 0 (fun _ _ _ => Inv ψ ∧ Fr [193000] φ ψ ∧ (True)) := by
    refine sf_262_192 hI h1a h1b (fun r1 ψ1 hI1 hF1 hp1 hE1 => ?_)
    rw [hE] at hE1
    cases hE1
    exact ⟨hI1, hF1, hp1⟩
  obtain ⟨_, _, _, _, h⟩ := hh
  exact h
theorem K_F_RideLawsModel_standing_192 {φ : hf_F} {ψ : hf_F} {r : Int}  (hI : Inv φ)  (hE : F_RideLawsModel_standing_192 φ = (r, ψ)) : Inv ψ ∧ Fr [193000] φ ψ ∧ (True) := by
  have hh : hw [] 0 246 0 [(0, (2, 192))] [] φ 0 (fun _ _ _ => Inv ψ ∧ Fr [193000] φ ψ ∧ (True)) := by
    refine sf_246_192 hI  (fun r1 ψ1 hI1 hF1 hp1 hE1 => ?_)
    rw [hE] at hE1
    cases hE1
    exact ⟨hI1, hF1, hp1⟩
  obtain ⟨_, _, _, _, h⟩ := hh
  exact h
theorem K_F_RideLawsModel_byteAt_192 {φ : hf_F} {ψ : hf_F} {r : Int} {v1 : Int} (hI : Inv φ) (h1a : (-2147483648 : Int) ≤ v1) (h1b : v1 ≤ 2147483647) (hE : F_RideLawsModel_byteAt_192 φ v1 = (r, ψ)) : Inv ψ ∧ Fr [193000] φ ψ ∧ (True) := by
  have hh : hw [] (0 + 1) 253 0 [(0, (2, 192)), (1, (0, v1))] [] φ 0 (fun _ _ _ => Inv ψ ∧ Fr [193000] φ ψ ∧ (True)) := by
    refine sf_253_192 hI h1a h1b (fun r1 ψ1 hI1 hF1 hp1 hE1 => ?_)
    rw [hE] at hE1
    cases hE1
    exact ⟨hI1, hF1, hp1⟩
  obtain ⟨_, _, _, _, h⟩ := hh
  exact h
theorem K_F_RideLawsModel_aimSeat_192 {φ : hf_F} {ψ : hf_F} {r : Int}  (hI : Inv φ)  (hE : F_RideLawsModel_aimSeat_192 φ = (r, ψ)) : Inv ψ ∧ Fr [193000] φ ψ ∧ (True) := by
  have hh : hw [] 0 237 0 [(0, (2, 192))] [] φ 0 (fun _ _ _ => Inv ψ ∧ Fr [193000] φ ψ ∧ (True)) := by
    refine sf_237_192 hI  (fun r1 ψ1 hI1 hF1 hp1 hE1 => ?_)
    rw [hE] at hE1
    cases hE1
    exact ⟨hI1, hF1, hp1⟩
  obtain ⟨_, _, _, _, h⟩ := hh
  exact h
theorem K_F_RideLawsModel_taken_192 {φ : hf_F} {ψ : hf_F} {v1 : Int} (hI : Inv φ) (h1a : 0 ≤ v1) (h1b : v1 ≤ 940) (hE : F_RideLawsModel_taken_192 φ v1 = ψ) : Inv ψ ∧ Fr [193002, 193003, 193004, 193005] φ ψ ∧ ((ψ 192 2 = 0)) := by
  have hh : hw [] 0 174 0 [(0, (2, 192)), (1, (0, v1))] [] φ 0 (fun _ _ _ => Inv ψ ∧ Fr [193002, 193003, 193004, 193005] φ ψ ∧ ((ψ 192 2 = 0))) := by
    refine sf_174_192 hI h1a h1b (fun ψ1 hI1 hF1 hV1 hE1 => ?_)
    rw [hE] at hE1
    cases hE1
    exact ⟨hI1, hF1, hV1⟩
  obtain ⟨_, _, _, _, h⟩ := hh
  exact h
theorem K_F_RideLawsModel_peek_192 {φ : hf_F}  {r : Int}  (hI : Inv φ)  (hE : F_RideLawsModel_peek_192 φ = r) : (-1 : Int) ≤ r ∧ r ≤ 255 ∧ r = pk φ := by
  have hh : hw [] 0 176 0 [(0, (2, 192))] [] φ 0 (fun _ _ _ => (-1 : Int) ≤ r ∧ r ≤ 255 ∧ r = pk φ) := by
    refine sf_176_192 hI  (fun r1 hp1 hE1 => ?_)
    rw [hE] at hE1
    cases hE1
    exact hp1
  obtain ⟨_, _, _, _, h⟩ := hh
  exact h
theorem K_F_RideLawsModel_isSmall {φ : hf_F}  {r : Int} {v0 : Int} (hI : Inv φ) (h0a : (-1 : Int) ≤ v0) (h0b : v0 ≤ 255) (hE : F_RideLawsModel_isSmall φ v0 = r) : 0 ≤ r ∧ r ≤ 1 ∧ (r = 1 → 97 ≤ v0 ∧ v0 ≤ 122) := by
  have hh : hw [] 0 177 0 [(0, (0, v0))] [] φ 0 (fun _ _ _ => 0 ≤ r ∧ r ≤ 1 ∧ (r = 1 → 97 ≤ v0 ∧ v0 ≤ 122)) := by
    refine sf_177 hI h0a h0b (fun r1 hp1 hE1 => ?_)
    rw [hE] at hE1
    cases hE1
    exact hp1
  obtain ⟨_, _, _, _, h⟩ := hh
  exact h
theorem K_F_RideLawsModel_isDigit {φ : hf_F}  {r : Int} {v0 : Int} (hI : Inv φ) (h0a : (-1 : Int) ≤ v0) (h0b : v0 ≤ 255) (hE : F_RideLawsModel_isDigit φ v0 = r) : 0 ≤ r ∧ r ≤ 1 ∧ (r = 1 → 48 ≤ v0 ∧ v0 ≤ 57) := by
  have hh : hw [] 0 178 0 [(0, (0, v0))] [] φ 0 (fun _ _ _ => 0 ≤ r ∧ r ≤ 1 ∧ (r = 1 → 48 ≤ v0 ∧ v0 ≤ 57)) := by
    refine sf_178 hI h0a h0b (fun r1 hp1 hE1 => ?_)
    rw [hE] at hE1
    cases hE1
    exact hp1
  obtain ⟨_, _, _, _, h⟩ := hh
  exact h
theorem K_F_RideLawsModel_bad_192 {φ : hf_F} {ψ : hf_F} {r : Int} {v1 : Int} (hI : Inv φ) (h1a : 1 ≤ v1) (h1b : v1 ≤ 4) (hE : F_RideLawsModel_bad_192 φ v1 = (r, ψ)) : Inv ψ ∧ Fr [193015, 193016] φ ψ ∧ (0 ≤ r ∧ r ≤ 1 ∧ ((r = 0 ∧ ψ 192 4 = φ 192 4) ∧ ψ 192 30 = φ 192 30)) := by
  have hh : hw [] 0 182 0 [(0, (2, 192)), (1, (0, v1))] [] φ 0 (fun _ _ _ => Inv ψ ∧ Fr [193015, 193016] φ ψ ∧ (0 ≤ r ∧ r ≤ 1 ∧ ((r = 0 ∧ ψ 192 4 = φ 192 4) ∧ ψ 192 30 = φ 192 30))) := by
    refine sf_182_192 hI h1a h1b (fun r1 ψ1 hI1 hF1 hp1 hE1 => ?_)
    rw [hE] at hE1
    cases hE1
    exact ⟨hI1, hF1, hp1⟩
  obtain ⟨_, _, _, _, h⟩ := hh
  exact h
theorem K_F_RideLawsModel_isWord_192 {φ : hf_F}  {r : Int} {v1 : Int} (hI : Inv φ)  (hE : F_RideLawsModel_isWord_192 φ v1 = r) : 0 ≤ r ∧ r ≤ 1 := by
  have hh : hw [] 0 180 0 [(0, (2, 192)), (1, (1, v1))] [] φ 0 (fun _ _ _ => 0 ≤ r ∧ r ≤ 1) := by
    refine sf_180_192 hI  (fun r1 hp1 hE1 => ?_)
    rw [hE] at hE1
    cases hE1
    exact hp1
  obtain ⟨_, _, _, _, h⟩ := hh
  exact h
theorem K_F_RideLawsModel_isSign_192 {φ : hf_F}  {r : Int} {v1 : Int} (hI : Inv φ) (h1a : 0 ≤ v1) (h1b : v1 ≤ 255) (hE : F_RideLawsModel_isSign_192 φ v1 = r) : 0 ≤ r ∧ r ≤ 1 ∧ (r = 1 → φ 192 11 = 3) := by
  have hh : hw [] 0 199 0 [(0, (2, 192)), (1, (0, v1))] [] φ 0 (fun _ _ _ => 0 ≤ r ∧ r ≤ 1 ∧ (r = 1 → φ 192 11 = 3)) := by
    refine sf_199_192 hI h1a h1b (fun r1 hp1 hE1 => ?_)
    rw [hE] at hE1
    cases hE1
    exact hp1
  obtain ⟨_, _, _, _, h⟩ := hh
  exact h
theorem K_F_RideLawsModel_isRider_192 {φ : hf_F}  {r : Int} {v1 : Int} (hI : Inv φ) (h1a : (-2147483648 : Int) ≤ v1) (h1b : v1 ≤ 2147483647) (hE : F_RideLawsModel_isRider_192 φ v1 = r) : 0 ≤ r ∧ r ≤ 1 ∧ (r = 1 → 0 ≤ v1 ∧ v1 < φ 194 3 ∧ φ 194 3 ≤ 6) := by
  have hh : hw [] (0 + 1) 202 0 [(0, (2, 192)), (1, (0, v1))] [] φ 0 (fun _ _ _ => 0 ≤ r ∧ r ≤ 1 ∧ (r = 1 → 0 ≤ v1 ∧ v1 < φ 194 3 ∧ φ 194 3 ≤ 6)) := by
    refine sf_202_192 hI h1a h1b (fun r1 hp1 hE1 => ?_)
    rw [hE] at hE1
    cases hE1
    exact hp1
  obtain ⟨_, _, _, _, h⟩ := hh
  exact h
theorem K_F_RideLawsModel_isSeat_192 {φ : hf_F}  {r : Int} {v1 : Int} (hI : Inv φ) (h1a : (-2147483648 : Int) ≤ v1) (h1b : v1 ≤ 2147483647) (hE : F_RideLawsModel_isSeat_192 φ v1 = r) : 0 ≤ r ∧ r ≤ 1 ∧ (r = 1 → 0 ≤ v1 ∧ v1 < φ 194 1 ∧ φ 194 1 ≤ 8) := by
  have hh : hw [] (0 + 1) 208 0 [(0, (2, 192)), (1, (0, v1))] [] φ 0 (fun _ _ _ => 0 ≤ r ∧ r ≤ 1 ∧ (r = 1 → 0 ≤ v1 ∧ v1 < φ 194 1 ∧ φ 194 1 ≤ 8)) := by
    refine sf_208_192 hI h1a h1b (fun r1 hp1 hE1 => ?_)
    rw [hE] at hE1
    cases hE1
    exact hp1
  obtain ⟨_, _, _, _, h⟩ := hh
  exact h
theorem K_F_RideLawsModel_isLaw_192 {φ : hf_F}  {r : Int} {v1 : Int} (hI : Inv φ) (h1a : (-2147483648 : Int) ≤ v1) (h1b : v1 ≤ 2147483647) (hE : F_RideLawsModel_isLaw_192 φ v1 = r) : 0 ≤ r ∧ r ≤ 1 ∧ (r = 1 → 0 ≤ v1 ∧ v1 < φ 194 4 ∧ φ 194 4 ≤ 8) := by
  have hh : hw [] (0 + 1) 211 0 [(0, (2, 192)), (1, (0, v1))] [] φ 0 (fun _ _ _ => 0 ≤ r ∧ r ≤ 1 ∧ (r = 1 → 0 ≤ v1 ∧ v1 < φ 194 4 ∧ φ 194 4 ≤ 8)) := by
    refine sf_211_192 hI h1a h1b (fun r1 hp1 hE1 => ?_)
    rw [hE] at hE1
    cases hE1
    exact hp1
  obtain ⟨_, _, _, _, h⟩ := hh
  exact h
theorem K_F_RideLawsModel_riderOn_192 {φ : hf_F}  {r : Int} {v1 : Int} (hI : Inv φ) (h1a : 0 ≤ v1) (h1b : v1 ≤ 7) (hE : F_RideLawsModel_riderOn_192 φ v1 = r) : (-1 : Int) ≤ r ∧ r ≤ 5 := by
  have hh : hw [] 0 209 0 [(0, (2, 192)), (1, (0, v1))] [] φ 0 (fun _ _ _ => (-1 : Int) ≤ r ∧ r ≤ 5) := by
    refine sf_209_192 hI h1a h1b (fun r1 hp1 hE1 => ?_)
    rw [hE] at hE1
    cases hE1
    exact hp1
  obtain ⟨_, _, _, _, h⟩ := hh
  exact h
theorem K_F_RideLawsModel_knownTo_192 {φ : hf_F}  {r : Int} {v1 : Int} (hI : Inv φ) (h1a : 0 ≤ v1) (h1b : v1 ≤ 5) (hE : F_RideLawsModel_knownTo_192 φ v1 = r) : True := by
  have hh : hw [] 0 205 0 [(0, (2, 192)), (1, (0, v1))] [] φ 0 (fun _ _ _ => True) := by
    refine sf_205_192 hI h1a h1b (fun r1 hp1 hE1 => ?_)
    rw [hE] at hE1
    cases hE1
    exact hp1
  obtain ⟨_, _, _, _, h⟩ := hh
  exact h
theorem K_F_RideLawsModel_nextWord_192 {φ : hf_F}  {r : Int} {v1 : Int} (hI : Inv φ) (h1a : 0 ≤ v1) (h1b : v1 ≤ 5) (hE : F_RideLawsModel_nextWord_192 φ v1 = r) : (-1 : Int) ≤ r ∧ r ≤ 7 := by
  have hh : hw [] 0 204 0 [(0, (2, 192)), (1, (0, v1))] [] φ 0 (fun _ _ _ => (-1 : Int) ≤ r ∧ r ≤ 7) := by
    refine sf_204_192 hI h1a h1b (fun r1 hp1 hE1 => ?_)
    rw [hE] at hE1
    cases hE1
    exact hp1
  obtain ⟨_, _, _, _, h⟩ := hh
  exact h
theorem K_F_RideLawsModel_whyMount_192 {φ : hf_F}  {r : Int} {v1 v2 : Int} (hI : Inv φ) (h1a : 0 ≤ v1) (h1b : v1 ≤ 5) (h2a : 0 ≤ v2) (h2b : v2 ≤ 7) (hE : F_RideLawsModel_whyMount_192 φ v1 v2 = r) : 0 ≤ r ∧ r ≤ 2 := by
  have hh : hw [] (0 + 1) 215 0 [(0, (2, 192)), (1, (0, v1)), (2, (0, v2))] [] φ 0 (fun _ _ _ => 0 ≤ r ∧ r ≤ 2) := by
    refine sf_215_192 hI h1a h1b h2a h2b (fun r1 hp1 hE1 => ?_)
    rw [hE] at hE1
    cases hE1
    exact hp1
  obtain ⟨_, _, _, _, h⟩ := hh
  exact h
theorem K_F_RideLawsModel_whyLearn_192 {φ : hf_F}  {r : Int} {v1 : Int} (hI : Inv φ) (h1a : 0 ≤ v1) (h1b : v1 ≤ 5) (hE : F_RideLawsModel_whyLearn_192 φ v1 = r) : 0 ≤ r ∧ r ≤ 1 ∧ (r = 0 → ¬ φ 194 (118 + v1).toNat = 6) := by
  have hh : hw [] 0 219 0 [(0, (2, 192)), (1, (0, v1))] [] φ 0 (fun _ _ _ => 0 ≤ r ∧ r ≤ 1 ∧ (r = 0 → ¬ φ 194 (118 + v1).toNat = 6)) := by
    refine sf_219_192 hI h1a h1b (fun r1 hp1 hE1 => ?_)
    rw [hE] at hE1
    cases hE1
    exact hp1
  obtain ⟨_, _, _, _, h⟩ := hh
  exact h
theorem K_F_RideLawsModel_whyWhistle_192 {φ : hf_F}  {r : Int}  (hI : Inv φ)  (hE : F_RideLawsModel_whyWhistle_192 φ = r) : 0 ≤ r ∧ r ≤ 1 := by
  have hh : hw [] 0 222 0 [(0, (2, 192))] [] φ 0 (fun _ _ _ => 0 ≤ r ∧ r ≤ 1) := by
    refine sf_222_192 hI  (fun r1 hp1 hE1 => ?_)
    rw [hE] at hE1
    cases hE1
    exact hp1
  obtain ⟨_, _, _, _, h⟩ := hh
  exact h
theorem K_F_RideLawsModel_seat_192 {φ : hf_F} {ψ : hf_F} {r : Int} {v1 v2 : Int} (hI : Inv φ) (h1a : (-2147483648 : Int) ≤ v1) (h1b : v1 ≤ 2147483647) (h2a : (-2147483648 : Int) ≤ v2) (h2b : v2 ≤ 2147483647) (hE : F_RideLawsModel_seat_192 φ v1 v2 = (r, ψ)) : Inv ψ ∧ Fr [193000] φ ψ ∧ (True) := by
  have hh : hw [] (0 + 2) 207 0 [(0, (2, 192)), (1, (0, v1)), (2, (0, v2))] [] φ 0 (fun _ _ _ => Inv ψ ∧ Fr [193000] φ ψ ∧ (True)) := by
    refine sf_207_192 hI h1a h1b h2a h2b (fun r1 ψ1 hI1 hF1 hp1 hE1 => ?_)
    rw [hE] at hE1
    cases hE1
    exact ⟨hI1, hF1, hp1⟩
  obtain ⟨_, _, _, _, h⟩ := hh
  exact h
theorem K_F_RideLawsModel_law_192 {φ : hf_F} {ψ : hf_F} {r : Int} {v1 v2 : Int} (hI : Inv φ) (h1a : (-2147483648 : Int) ≤ v1) (h1b : v1 ≤ 2147483647) (h2a : (-2147483648 : Int) ≤ v2) (h2b : v2 ≤ 2147483647) (hE : F_RideLawsModel_law_192 φ v1 v2 = (r, ψ)) : Inv ψ ∧ Fr [193000] φ ψ ∧ (True) := by
  have hh : hw [] (0 + 2) 210 0 [(0, (2, 192)), (1, (0, v1)), (2, (0, v2))] [] φ 0 (fun _ _ _ => Inv ψ ∧ Fr [193000] φ ψ ∧ (True)) := by
    refine sf_210_192 hI h1a h1b h2a h2b (fun r1 ψ1 hI1 hF1 hp1 hE1 => ?_)
    rw [hE] at hE1
    cases hE1
    exact ⟨hI1, hF1, hp1⟩
  obtain ⟨_, _, _, _, h⟩ := hh
  exact h
theorem K_F_RideLawsModel_roll_192 {φ : hf_F} {ψ : hf_F} {r : Int} {v1 v2 : Int} (hI : Inv φ) (h1a : (-2147483648 : Int) ≤ v1) (h1b : v1 ≤ 2147483647) (h2a : (-2147483648 : Int) ≤ v2) (h2b : v2 ≤ 2147483647) (hE : F_RideLawsModel_roll_192 φ v1 v2 = (r, ψ)) : Inv ψ ∧ Fr [193000] φ ψ ∧ (True) := by
  have hh : hw [] (0 + 2) 206 0 [(0, (2, 192)), (1, (0, v1)), (2, (0, v2))] [] φ 0 (fun _ _ _ => Inv ψ ∧ Fr [193000] φ ψ ∧ (True)) := by
    refine sf_206_192 hI h1a h1b h2a h2b (fun r1 ψ1 hI1 hF1 hp1 hE1 => ?_)
    rw [hE] at hE1
    cases hE1
    exact ⟨hI1, hF1, hp1⟩
  obtain ⟨_, _, _, _, h⟩ := hh
  exact h
theorem K_F_RideLawsModel_needOf_192 {φ : hf_F}  {r : Int} {v1 : Int} (hI : Inv φ) (h1a : 0 ≤ v1) (h1b : v1 ≤ 7) (hE : F_RideLawsModel_needOf_192 φ v1 = r) : True := by
  have hh : hw [] 0 240 0 [(0, (2, 192)), (1, (0, v1))] [] φ 0 (fun _ _ _ => True) := by
    refine sf_240_192 hI h1a h1b (fun r1 hp1 hE1 => ?_)
    rw [hE] at hE1
    cases hE1
    exact hp1
  obtain ⟨_, _, _, _, h⟩ := hh
  exact h
theorem K_F_RideLawsModel_able_192 {φ : hf_F} {ψ : hf_F} {r : Int} {v1 : Int} (hI : Inv φ) (h1a : (-2147483648 : Int) ≤ v1) (h1b : v1 ≤ 2147483647) (hE : F_RideLawsModel_able_192 φ v1 = (r, ψ)) : Inv ψ ∧ Fr [193000] φ ψ ∧ (True) := by
  have hh : hw [] (0 + 2) 239 0 [(0, (2, 192)), (1, (0, v1))] [] φ 0 (fun _ _ _ => Inv ψ ∧ Fr [193000] φ ψ ∧ (True)) := by
    refine sf_239_192 hI h1a h1b (fun r1 ψ1 hI1 hF1 hp1 hE1 => ?_)
    rw [hE] at hE1
    cases hE1
    exact ⟨hI1, hF1, hp1⟩
  obtain ⟨_, _, _, _, h⟩ := hh
  exact h
theorem K_F_RideLawsModel_bitOf {φ : hf_F}  {r : Int} {v0 v1 : Int} (hI : Inv φ)  (hE : F_RideLawsModel_bitOf φ v0 v1 = r) : 0 ≤ r ∧ r ≤ 1 ∧ (v0 = 0 → r = 0) := by
  have hh : hw [] 0 197 0 [(0, (0, v0)), (1, (0, v1))] [] φ 0 (fun _ _ _ => 0 ≤ r ∧ r ≤ 1 ∧ (v0 = 0 → r = 0)) := by
    refine sf_197 hI  (fun r1 hp1 hE1 => ?_)
    rw [hE] at hE1
    cases hE1
    exact hp1
  obtain ⟨_, _, _, _, h⟩ := hh
  exact h
theorem K_F_RideLawsModel_knownToAll_192 {φ : hf_F}  {r : Int} {v1 : Int} (hI : Inv φ) (h1a : (-2147483648 : Int) ≤ v1) (h1b : v1 ≤ 2147483647) (hE : F_RideLawsModel_knownToAll_192 φ v1 = r) : True := by
  have hh : hw [] (0 + 1) 242 0 [(0, (2, 192)), (1, (0, v1))] [] φ 0 (fun _ _ _ => True) := by
    refine sf_242_192 hI h1a h1b (fun r1 hp1 hE1 => ?_)
    rw [hE] at hE1
    cases hE1
    exact hp1
  obtain ⟨_, _, _, _, h⟩ := hh
  exact h
theorem K_F_RideLawsModel_count_192 {φ : hf_F} {ψ : hf_F} {r : Int} {v1 : Int} (hI : Inv φ) (h1a : (-2147483648 : Int) ≤ v1) (h1b : v1 ≤ 2147483647) (hE : F_RideLawsModel_count_192 φ v1 = (r, ψ)) : Inv ψ ∧ Fr [193000] φ ψ ∧ (True) := by
  have hh : hw [] (0 + 1) 275 0 [(0, (2, 192)), (1, (0, v1))] [] φ 0 (fun _ _ _ => Inv ψ ∧ Fr [193000] φ ψ ∧ (True)) := by
    refine sf_275_192 hI h1a h1b (fun r1 ψ1 hI1 hF1 hp1 hE1 => ?_)
    rw [hE] at hE1
    cases hE1
    exact ⟨hI1, hF1, hp1⟩
  obtain ⟨_, _, _, _, h⟩ := hh
  exact h
theorem K_F_Reader_isLetter {φ : hf_F}  {r : Int} {v0 : Int} (hI : Inv φ) (h0a : (-128 : Int) ≤ v0) (h0b : v0 ≤ 127) (hE : F_Reader_isLetter φ v0 = r) : 0 ≤ r ∧ r ≤ 1 ∧ ((r = 1 → 97 ≤ v0 ∧ v0 ≤ 122) ∧ (r = 0 → ¬ (97 ≤ v0 ∧ v0 ≤ 122))) := by
  have hh : hw [] 0 31 0 [(0, (0, v0))] [] φ 0 (fun _ _ _ => 0 ≤ r ∧ r ≤ 1 ∧ ((r = 1 → 97 ≤ v0 ∧ v0 ≤ 122) ∧ (r = 0 → ¬ (97 ≤ v0 ∧ v0 ≤ 122)))) := by
    refine sf_31 hI h0a h0b (fun r1 hp1 hE1 => ?_)
    rw [hE] at hE1
    cases hE1
    exact hp1
  obtain ⟨_, _, _, _, h⟩ := hh
  exact h
theorem K_F_Reader_packed {φ : hf_F}  {r : Int} {v0 v2 : Int} (hI : Inv φ) (h2a : (-2147483648 : Int) ≤ v2) (h2b : v2 ≤ 2147483647) (hE : F_Reader_packed φ v0 v2 = r) : True := by
  have hh : hw [] 0 9 0 [(0, (1, v0)), (2, (0, v2))] [] φ 0 (fun _ _ _ => True) := by
    refine sf_9 hI h2a h2b (fun r1 hp1 hE1 => ?_)
    rw [hE] at hE1
    cases hE1
    exact hp1
  obtain ⟨_, _, _, _, h⟩ := hh
  exact h
theorem K_F_Reader_isDigit {φ : hf_F}  {r : Int} {v0 : Int} (hI : Inv φ) (h0a : (-128 : Int) ≤ v0) (h0b : v0 ≤ 127) (hE : F_Reader_isDigit φ v0 = r) : 0 ≤ r ∧ r ≤ 1 ∧ ((r = 1 → 48 ≤ v0 ∧ v0 ≤ 57) ∧ (r = 0 → ¬ (48 ≤ v0 ∧ v0 ≤ 57))) := by
  have hh : hw [] 0 32 0 [(0, (0, v0))] [] φ 0 (fun _ _ _ => 0 ≤ r ∧ r ≤ 1 ∧ ((r = 1 → 48 ≤ v0 ∧ v0 ≤ 57) ∧ (r = 0 → ¬ (48 ≤ v0 ∧ v0 ≤ 57)))) := by
    refine sf_32 hI h0a h0b (fun r1 hp1 hE1 => ?_)
    rw [hE] at hE1
    cases hE1
    exact hp1
  obtain ⟨_, _, _, _, h⟩ := hh
  exact h
theorem K_F_Reader_readRun_1 {φ : hf_F} {ψ : hf_F}  (hI : Inv φ)  (hE : F_Reader_readRun_1 φ = ψ) : Inv ψ ∧ Fr [2004, 2005, 2007, 2008] φ ψ := by
  have hh : hw [] (0 + 1) 33 0 [(0, (2, 1))] [] φ 0 (fun _ _ _ => Inv ψ ∧ Fr [2004, 2005, 2007, 2008] φ ψ) := by
    refine sf_33_1 hI  (fun ψ1 hI1 hF1 hE1 => ?_)
    rw [hE] at hE1
    cases hE1
    exact ⟨hI1, hF1⟩
  obtain ⟨_, _, _, _, h⟩ := hh
  exact h
theorem K_F_Reader_isSign {φ : hf_F}  {r : Int} {v0 : Int} (hI : Inv φ) (h0a : (-128 : Int) ≤ v0) (h0b : v0 ≤ 127) (hE : F_Reader_isSign φ v0 = r) : 0 ≤ r ∧ r ≤ 1 := by
  have hh : hw [] 0 35 0 [(0, (0, v0))] [] φ 0 (fun _ _ _ => 0 ≤ r ∧ r ≤ 1) := by
    refine sf_35 hI h0a h0b (fun r1 hp1 hE1 => ?_)
    rw [hE] at hE1
    cases hE1
    exact hp1
  obtain ⟨_, _, _, _, h⟩ := hh
  exact h
theorem K_F_Reader_isBlank {φ : hf_F}  {r : Int} {v0 : Int} (hI : Inv φ) (h0a : (-128 : Int) ≤ v0) (h0b : v0 ≤ 127) (hE : F_Reader_isBlank φ v0 = r) : 0 ≤ r ∧ r ≤ 1 := by
  have hh : hw [] 0 30 0 [(0, (0, v0))] [] φ 0 (fun _ _ _ => 0 ≤ r ∧ r ≤ 1) := by
    refine sf_30 hI h0a h0b (fun r1 hp1 hE1 => ?_)
    rw [hE] at hE1
    cases hE1
    exact hp1
  obtain ⟨_, _, _, _, h⟩ := hh
  exact h
theorem K_F_Reader_advance_1 {φ : hf_F} {ψ : hf_F}  (hI : Inv φ)  (hE : F_Reader_advance_1 φ = ψ) : Inv ψ ∧ Fr [2004, 2005, 2006, 2007, 2008] φ ψ := by
  have hh : hw [] (0 + 2) 29 0 [(0, (2, 1))] [] φ 0 (fun _ _ _ => Inv ψ ∧ Fr [2004, 2005, 2006, 2007, 2008] φ ψ) := by
    refine sf_29_1 hI  (fun ψ1 hI1 hF1 hE1 => ?_)
    rw [hE] at hE1
    cases hE1
    exact ⟨hI1, hF1⟩
  obtain ⟨_, _, _, _, h⟩ := hh
  exact h
theorem K_F_Reader_begin_1 {φ : hf_F} {ψ : hf_F} {v1 : Int} (hI : Inv φ) (h1a : 0 ≤ v1) (h1b : v1 ≤ 940) (hE : F_Reader_begin_1 φ v1 = ψ) : Inv ψ ∧ Fr [2003, 2004, 2005, 2006, 2007, 2008, 2009, 2010] φ ψ := by
  have hh : hw [] (0 + 3) 28 0 [(0, (2, 1)), (1, (0, v1))] [] φ 0 (fun _ _ _ => Inv ψ ∧ Fr [2003, 2004, 2005, 2006, 2007, 2008, 2009, 2010] φ ψ) := by
    refine sf_28_1 hI h1a h1b (fun ψ1 hI1 hF1 hE1 => ?_)
    rw [hE] at hE1
    cases hE1
    exact ⟨hI1, hF1⟩
  obtain ⟨_, _, _, _, h⟩ := hh
  exact h
theorem K_F_Reader_isSignOf_1 {φ : hf_F}  {r : Int} {v1 : Int} (hI : Inv φ) (h1a : 0 ≤ v1) (h1b : v1 ≤ 127) (hE : F_Reader_isSignOf_1 φ v1 = r) : 0 ≤ r ∧ r ≤ 1 ∧ (r = 1 → φ 1 7 = v1) := by
  have hh : hw [] 0 61 0 [(0, (2, 1)), (1, (0, v1))] [] φ 0 (fun _ _ _ => 0 ≤ r ∧ r ≤ 1 ∧ (r = 1 → φ 1 7 = v1)) := by
    refine sf_61_1 hI h1a h1b (fun r1 hp1 hE1 => ?_)
    rw [hE] at hE1
    cases hE1
    exact hp1
  obtain ⟨_, _, _, _, h⟩ := hh
  exact h
theorem K_F_Reader_takeSign_1 {φ : hf_F} {ψ : hf_F} {r : Int} {v1 : Int} (hI : Inv φ) (h1a : 0 ≤ v1) (h1b : v1 ≤ 127) (hE : F_Reader_takeSign_1 φ v1 = (r, ψ)) : Inv ψ ∧ Fr [2004, 2005, 2006, 2007, 2008, 2009, 2010] φ ψ ∧ (0 ≤ r ∧ r ≤ 1) := by
  have hh : hw [] (0 + 3) 60 0 [(0, (2, 1)), (1, (0, v1))] [] φ 0 (fun _ _ _ => Inv ψ ∧ Fr [2004, 2005, 2006, 2007, 2008, 2009, 2010] φ ψ ∧ (0 ≤ r ∧ r ≤ 1)) := by
    refine sf_60_1 hI h1a h1b (fun r1 ψ1 hI1 hF1 hp1 hE1 => ?_)
    rw [hE] at hE1
    cases hE1
    exact ⟨hI1, hF1, hp1⟩
  obtain ⟨_, _, _, _, h⟩ := hh
  exact h
theorem K_F_Reader_peekNumber_1 {φ : hf_F} {ψ : hf_F} {r : Int} {v1 v2 : Int} (hI : Inv φ) (h1a : 0 ≤ v1) (h1b : v1 ≤ 2) (h2a : (-1 : Int) ≤ v2) (h2b : v2 ≤ 999) (hE : F_Reader_peekNumber_1 φ v1 v2 = (r, ψ)) : Inv ψ ∧ Fr [2009, 2010] φ ψ ∧ ((-1 : Int) ≤ r ∧ r ≤ 999 ∧ (r = -1 ∨ (v1 ≤ r ∧ r ≤ v2))) := by
  have hh : hw [] (0 + 1) 43 0 [(0, (2, 1)), (1, (0, v1)), (2, (0, v2))] [] φ 0 (fun _ _ _ => Inv ψ ∧ Fr [2009, 2010] φ ψ ∧ ((-1 : Int) ≤ r ∧ r ≤ 999 ∧ (r = -1 ∨ (v1 ≤ r ∧ r ≤ v2)))) := by
    refine sf_43_1 hI h1a h1b h2a h2b (fun r1 ψ1 hI1 hF1 hp1 hE1 => ?_)
    rw [hE] at hE1
    cases hE1
    exact ⟨hI1, hF1, hp1⟩
  obtain ⟨_, _, _, _, h⟩ := hh
  exact h
theorem K_F_Plan_isFull_31_k1_0 {φ : hf_F}  {r : Int}  (hI : Inv φ)  (hE : F_Plan_isFull_31_k1_0 φ = r) : 0 ≤ r ∧ r ≤ 1 ∧ (r = 0 → φ 32 0 ≤ 2) := by
  have hh : hw [] 0 40 0 [(0, (2, 31)), (1, (0, 0))] [] φ 0 (fun _ _ _ => 0 ≤ r ∧ r ≤ 1 ∧ (r = 0 → φ 32 0 ≤ 2)) := by
    refine sf_40_31_k1_0 hI  (fun r1 hp1 hE1 => ?_)
    rw [hE] at hE1
    cases hE1
    exact hp1
  obtain ⟨_, _, _, _, h⟩ := hh
  exact h
theorem K_F_RideText_readNew_182_k1_0 {φ : hf_F} {ψ : hf_F} {r : Int}  (hI : Inv φ)  (hE : F_RideText_readNew_182_k1_0 φ = (r, ψ)) : Inv ψ ∧ Fr [2004, 2005, 2006, 2007, 2008, 2009, 2010] φ ψ ∧ (True ∧ (¬ r = 0 → φ 32 0 ≤ 2)) := by
  have hh : hw [] (0 + 3) 39 0 [(0, (2, 182)), (1, (0, 0))] [] φ 0 (fun _ _ _ => Inv ψ ∧ Fr [2004, 2005, 2006, 2007, 2008, 2009, 2010] φ ψ ∧ (True ∧ (¬ r = 0 → φ 32 0 ≤ 2))) := by
    refine sf_39_182_k1_0 hI  (fun r1 ψ1 hI1 hF1 hp1 hE1 => ?_)
    rw [hE] at hE1
    cases hE1
    exact ⟨hI1, hF1, hp1⟩
  obtain ⟨_, _, _, _, h⟩ := hh
  exact h
theorem K_F_RideText_readRing_182 {φ : hf_F} {ψ : hf_F} {r : Int}  (hI : Inv φ)  (hE : F_RideText_readRing_182 φ = (r, ψ)) : Inv ψ ∧ Fr [32, 33, 34, 35, 2004, 2005, 2006, 2007, 2008, 2009, 2010] φ ψ ∧ (0 ≤ r ∧ r ≤ 1) := by
  have hh : hw [] (0 + 4) 38 0 [(0, (2, 182))] [] φ 0 (fun _ _ _ => Inv ψ ∧ Fr [32, 33, 34, 35, 2004, 2005, 2006, 2007, 2008, 2009, 2010] φ ψ ∧ (0 ≤ r ∧ r ≤ 1)) := by
    refine sf_38_182 hI  (fun r1 ψ1 hI1 hF1 hp1 hE1 => ?_)
    rw [hE] at hE1
    cases hE1
    exact ⟨hI1, hF1, hp1⟩
  obtain ⟨_, _, _, _, h⟩ := hh
  exact h
theorem K_F_Plan_isFull_31_k1_2 {φ : hf_F}  {r : Int}  (hI : Inv φ)  (hE : F_Plan_isFull_31_k1_2 φ = r) : 0 ≤ r ∧ r ≤ 1 ∧ (r = 0 → φ 32 2 ≤ 7) := by
  have hh : hw [] 0 40 0 [(0, (2, 31)), (1, (0, 2))] [] φ 0 (fun _ _ _ => 0 ≤ r ∧ r ≤ 1 ∧ (r = 0 → φ 32 2 ≤ 7)) := by
    refine sf_40_31_k1_2 hI  (fun r1 hp1 hE1 => ?_)
    rw [hE] at hE1
    cases hE1
    exact hp1
  obtain ⟨_, _, _, _, h⟩ := hh
  exact h
theorem K_F_RideText_readNew_182_k1_2 {φ : hf_F} {ψ : hf_F} {r : Int}  (hI : Inv φ)  (hE : F_RideText_readNew_182_k1_2 φ = (r, ψ)) : Inv ψ ∧ Fr [2004, 2005, 2006, 2007, 2008, 2009, 2010] φ ψ ∧ (True ∧ (¬ r = 0 → φ 32 2 ≤ 7)) := by
  have hh : hw [] (0 + 3) 39 0 [(0, (2, 182)), (1, (0, 2))] [] φ 0 (fun _ _ _ => Inv ψ ∧ Fr [2004, 2005, 2006, 2007, 2008, 2009, 2010] φ ψ ∧ (True ∧ (¬ r = 0 → φ 32 2 ≤ 7))) := by
    refine sf_39_182_k1_2 hI  (fun r1 ψ1 hI1 hF1 hp1 hE1 => ?_)
    rw [hE] at hE1
    cases hE1
    exact ⟨hI1, hF1, hp1⟩
  obtain ⟨_, _, _, _, h⟩ := hh
  exact h
theorem K_F_Plan_addNamed_31_k1_2 {φ : hf_F} {ψ : hf_F} {r : Int} {v2 : Int} (hI : Inv φ) (hx0 : 0 ≤ φ 32 2 ∧ φ 32 2 ≤ 7) (hE : F_Plan_addNamed_31_k1_2 φ v2 = (r, ψ)) : Inv ψ ∧ Fr [32, 33] φ ψ ∧ (0 ≤ r ∧ r ≤ 7 ∧ r ≤ 7) := by
  have hh : hw [] 0 45 0 [(0, (2, 31)), (1, (0, 2)), (2, (1, v2))] [] φ 0 (fun _ _ _ => Inv ψ ∧ Fr [32, 33] φ ψ ∧ (0 ≤ r ∧ r ≤ 7 ∧ r ≤ 7)) := by
    refine sf_45_31_k1_2 hI hx0 (fun r1 ψ1 hI1 hF1 hp1 hE1 => ?_)
    rw [hE] at hE1
    cases hE1
    exact ⟨hI1, hF1, hp1⟩
  obtain ⟨_, _, _, _, h⟩ := hh
  exact h
theorem K_F_RideText_readWord_182 {φ : hf_F} {ψ : hf_F} {r : Int}  (hI : Inv φ)  (hE : F_RideText_readWord_182 φ = (r, ψ)) : Inv ψ ∧ Fr [32, 33, 2004, 2005, 2006, 2007, 2008, 2009, 2010] φ ψ ∧ (0 ≤ r ∧ r ≤ 1) := by
  have hh : hw [] (0 + 4) 50 0 [(0, (2, 182))] [] φ 0 (fun _ _ _ => Inv ψ ∧ Fr [32, 33, 2004, 2005, 2006, 2007, 2008, 2009, 2010] φ ψ ∧ (0 ≤ r ∧ r ≤ 1)) := by
    refine sf_50_182 hI  (fun r1 ψ1 hI1 hF1 hp1 hE1 => ?_)
    rw [hE] at hE1
    cases hE1
    exact ⟨hI1, hF1, hp1⟩
  obtain ⟨_, _, _, _, h⟩ := hh
  exact h
theorem K_F_Plan_isFull_31_k1_1 {φ : hf_F}  {r : Int}  (hI : Inv φ)  (hE : F_Plan_isFull_31_k1_1 φ = r) : 0 ≤ r ∧ r ≤ 1 ∧ (r = 0 → φ 32 1 ≤ 7) := by
  have hh : hw [] 0 40 0 [(0, (2, 31)), (1, (0, 1))] [] φ 0 (fun _ _ _ => 0 ≤ r ∧ r ≤ 1 ∧ (r = 0 → φ 32 1 ≤ 7)) := by
    refine sf_40_31_k1_1 hI  (fun r1 hp1 hE1 => ?_)
    rw [hE] at hE1
    cases hE1
    exact hp1
  obtain ⟨_, _, _, _, h⟩ := hh
  exact h
theorem K_F_RideText_readNew_182_k1_1 {φ : hf_F} {ψ : hf_F} {r : Int}  (hI : Inv φ)  (hE : F_RideText_readNew_182_k1_1 φ = (r, ψ)) : Inv ψ ∧ Fr [2004, 2005, 2006, 2007, 2008, 2009, 2010] φ ψ ∧ (True ∧ (¬ r = 0 → φ 32 1 ≤ 7)) := by
  have hh : hw [] (0 + 3) 39 0 [(0, (2, 182)), (1, (0, 1))] [] φ 0 (fun _ _ _ => Inv ψ ∧ Fr [2004, 2005, 2006, 2007, 2008, 2009, 2010] φ ψ ∧ (True ∧ (¬ r = 0 → φ 32 1 ≤ 7))) := by
    refine sf_39_182_k1_1 hI  (fun r1 ψ1 hI1 hF1 hp1 hE1 => ?_)
    rw [hE] at hE1
    cases hE1
    exact ⟨hI1, hF1, hp1⟩
  obtain ⟨_, _, _, _, h⟩ := hh
  exact h
theorem K_F_Plan_numberOf_31_k1_0 {φ : hf_F}  {r : Int} {v2 : Int} (hI : Inv φ)  (hE : F_Plan_numberOf_31_k1_0 φ v2 = r) : (-1 : Int) ≤ r ∧ r ≤ 7 ∧ (r = -1 ∨ (0 ≤ r ∧ r < φ 32 0 ∧ φ 32 0 ≤ 3)) := by
  have hh : hw [] 0 42 0 [(0, (2, 31)), (1, (0, 0)), (2, (1, v2))] [] φ 0 (fun _ _ _ => (-1 : Int) ≤ r ∧ r ≤ 7 ∧ (r = -1 ∨ (0 ≤ r ∧ r < φ 32 0 ∧ φ 32 0 ≤ 3))) := by
    refine sf_42_31_k1_0 hI  (fun r1 hp1 hE1 => ?_)
    rw [hE] at hE1
    cases hE1
    exact hp1
  obtain ⟨_, _, _, _, h⟩ := hh
  exact h
theorem K_F_Reader_peekNamed_1_31_k2_0 {φ : hf_F} {ψ : hf_F} {r : Int}  (hI : Inv φ)  (hE : F_Reader_peekNamed_1_31_k2_0 φ = (r, ψ)) : Inv ψ ∧ Fr [2009, 2010] φ ψ ∧ ((-1 : Int) ≤ r ∧ r ≤ 7 ∧ (r = -1 ∨ (0 ≤ r ∧ r < φ 32 0 ∧ φ 32 0 ≤ 3))) := by
  have hh : hw [] (0 + 1) 47 0 [(0, (2, 1)), (1, (2, 31)), (2, (0, 0))] [] φ 0 (fun _ _ _ => Inv ψ ∧ Fr [2009, 2010] φ ψ ∧ ((-1 : Int) ≤ r ∧ r ≤ 7 ∧ (r = -1 ∨ (0 ≤ r ∧ r < φ 32 0 ∧ φ 32 0 ≤ 3)))) := by
    refine sf_47_1_31_k2_0 hI  (fun r1 ψ1 hI1 hF1 hp1 hE1 => ?_)
    rw [hE] at hE1
    cases hE1
    exact ⟨hI1, hF1, hp1⟩
  obtain ⟨_, _, _, _, h⟩ := hh
  exact h
theorem K_F_RideText_readSeat_182 {φ : hf_F} {ψ : hf_F} {r : Int}  (hI : Inv φ)  (hE : F_RideText_readSeat_182 φ = (r, ψ)) : Inv ψ ∧ Fr [32, 33, 36, 37, 38, 44, 2004, 2005, 2006, 2007, 2008, 2009, 2010] φ ψ ∧ (0 ≤ r ∧ r ≤ 1) := by
  have hh : hw [] (0 + 4) 46 0 [(0, (2, 182))] [] φ 0 (fun _ _ _ => Inv ψ ∧ Fr [32, 33, 36, 37, 38, 44, 2004, 2005, 2006, 2007, 2008, 2009, 2010] φ ψ ∧ (0 ≤ r ∧ r ≤ 1)) := by
    refine sf_46_182 hI  (fun r1 ψ1 hI1 hF1 hp1 hE1 => ?_)
    rw [hE] at hE1
    cases hE1
    exact ⟨hI1, hF1, hp1⟩
  obtain ⟨_, _, _, _, h⟩ := hh
  exact h
theorem K_F_Plan_isFull_31_k1_3 {φ : hf_F}  {r : Int}  (hI : Inv φ)  (hE : F_Plan_isFull_31_k1_3 φ = r) : 0 ≤ r ∧ r ≤ 1 ∧ (r = 0 → φ 32 3 ≤ 5) := by
  have hh : hw [] 0 40 0 [(0, (2, 31)), (1, (0, 3))] [] φ 0 (fun _ _ _ => 0 ≤ r ∧ r ≤ 1 ∧ (r = 0 → φ 32 3 ≤ 5)) := by
    refine sf_40_31_k1_3 hI  (fun r1 hp1 hE1 => ?_)
    rw [hE] at hE1
    cases hE1
    exact hp1
  obtain ⟨_, _, _, _, h⟩ := hh
  exact h
theorem K_F_RideText_readNew_182_k1_3 {φ : hf_F} {ψ : hf_F} {r : Int}  (hI : Inv φ)  (hE : F_RideText_readNew_182_k1_3 φ = (r, ψ)) : Inv ψ ∧ Fr [2004, 2005, 2006, 2007, 2008, 2009, 2010] φ ψ ∧ (True ∧ (¬ r = 0 → φ 32 3 ≤ 5)) := by
  have hh : hw [] (0 + 3) 39 0 [(0, (2, 182)), (1, (0, 3))] [] φ 0 (fun _ _ _ => Inv ψ ∧ Fr [2004, 2005, 2006, 2007, 2008, 2009, 2010] φ ψ ∧ (True ∧ (¬ r = 0 → φ 32 3 ≤ 5))) := by
    refine sf_39_182_k1_3 hI  (fun r1 ψ1 hI1 hF1 hp1 hE1 => ?_)
    rw [hE] at hE1
    cases hE1
    exact ⟨hI1, hF1, hp1⟩
  obtain ⟨_, _, _, _, h⟩ := hh
  exact h
theorem K_F_Plan_numberOf_31_k1_1 {φ : hf_F}  {r : Int} {v2 : Int} (hI : Inv φ)  (hE : F_Plan_numberOf_31_k1_1 φ v2 = r) : (-1 : Int) ≤ r ∧ r ≤ 7 ∧ (r = -1 ∨ (0 ≤ r ∧ r < φ 32 1 ∧ φ 32 1 ≤ 8)) := by
  have hh : hw [] 0 42 0 [(0, (2, 31)), (1, (0, 1)), (2, (1, v2))] [] φ 0 (fun _ _ _ => (-1 : Int) ≤ r ∧ r ≤ 7 ∧ (r = -1 ∨ (0 ≤ r ∧ r < φ 32 1 ∧ φ 32 1 ≤ 8))) := by
    refine sf_42_31_k1_1 hI  (fun r1 hp1 hE1 => ?_)
    rw [hE] at hE1
    cases hE1
    exact hp1
  obtain ⟨_, _, _, _, h⟩ := hh
  exact h
theorem K_F_Reader_peekNamed_1_31_k2_1 {φ : hf_F} {ψ : hf_F} {r : Int}  (hI : Inv φ)  (hE : F_Reader_peekNamed_1_31_k2_1 φ = (r, ψ)) : Inv ψ ∧ Fr [2009, 2010] φ ψ ∧ ((-1 : Int) ≤ r ∧ r ≤ 7 ∧ (r = -1 ∨ (0 ≤ r ∧ r < φ 32 1 ∧ φ 32 1 ≤ 8))) := by
  have hh : hw [] (0 + 1) 47 0 [(0, (2, 1)), (1, (2, 31)), (2, (0, 1))] [] φ 0 (fun _ _ _ => Inv ψ ∧ Fr [2009, 2010] φ ψ ∧ ((-1 : Int) ≤ r ∧ r ≤ 7 ∧ (r = -1 ∨ (0 ≤ r ∧ r < φ 32 1 ∧ φ 32 1 ≤ 8)))) := by
    refine sf_47_1_31_k2_1 hI  (fun r1 ψ1 hI1 hF1 hp1 hE1 => ?_)
    rw [hE] at hE1
    cases hE1
    exact ⟨hI1, hF1, hp1⟩
  obtain ⟨_, _, _, _, h⟩ := hh
  exact h
theorem K_F_Plan_addNamed_31_k1_3 {φ : hf_F} {ψ : hf_F} {r : Int} {v2 : Int} (hI : Inv φ) (hx0 : 0 ≤ φ 32 3 ∧ φ 32 3 ≤ 5) (hE : F_Plan_addNamed_31_k1_3 φ v2 = (r, ψ)) : Inv ψ ∧ Fr [32, 33] φ ψ ∧ (0 ≤ r ∧ r ≤ 7 ∧ r ≤ 5) := by
  have hh : hw [] 0 45 0 [(0, (2, 31)), (1, (0, 3)), (2, (1, v2))] [] φ 0 (fun _ _ _ => Inv ψ ∧ Fr [32, 33] φ ψ ∧ (0 ≤ r ∧ r ≤ 7 ∧ r ≤ 5)) := by
    refine sf_45_31_k1_3 hI hx0 (fun r1 ψ1 hI1 hF1 hp1 hE1 => ?_)
    rw [hE] at hE1
    cases hE1
    exact ⟨hI1, hF1, hp1⟩
  obtain ⟨_, _, _, _, h⟩ := hh
  exact h
theorem K_F_State_sitDown_43 {φ : hf_F} {ψ : hf_F} {v1 v2 : Int} (hI : Inv φ) (h1a : 0 ≤ v1) (h1b : v1 ≤ 5) (h2a : 0 ≤ v2) (h2b : v2 ≤ 7) (hE : F_State_sitDown_43 φ v1 v2 = ψ) : Inv ψ ∧ Fr [45, 46] φ ψ := by
  have hh : hw [] 0 52 0 [(0, (2, 43)), (1, (0, v1)), (2, (0, v2))] [] φ 0 (fun _ _ _ => Inv ψ ∧ Fr [45, 46] φ ψ) := by
    refine sf_52_43 hI h1a h1b h2a h2b (fun ψ1 hI1 hF1 hE1 => ?_)
    rw [hE] at hE1
    cases hE1
    exact ⟨hI1, hF1⟩
  obtain ⟨_, _, _, _, h⟩ := hh
  exact h
theorem K_F_RideText_readRider_182 {φ : hf_F} {ψ : hf_F} {r : Int}  (hI : Inv φ)  (hE : F_RideText_readRider_182 φ = (r, ψ)) : Inv ψ ∧ Fr [32, 33, 45, 46, 2004, 2005, 2006, 2007, 2008, 2009, 2010] φ ψ ∧ (0 ≤ r ∧ r ≤ 1) := by
  have hh : hw [] (0 + 4) 51 0 [(0, (2, 182))] [] φ 0 (fun _ _ _ => Inv ψ ∧ Fr [32, 33, 45, 46, 2004, 2005, 2006, 2007, 2008, 2009, 2010] φ ψ ∧ (0 ≤ r ∧ r ≤ 1)) := by
    refine sf_51_182 hI  (fun r1 ψ1 hI1 hF1 hp1 hE1 => ?_)
    rw [hE] at hE1
    cases hE1
    exact ⟨hI1, hF1, hp1⟩
  obtain ⟨_, _, _, _, h⟩ := hh
  exact h
theorem K_F_Plan_numberOf_31_k1_3 {φ : hf_F}  {r : Int} {v2 : Int} (hI : Inv φ)  (hE : F_Plan_numberOf_31_k1_3 φ v2 = r) : (-1 : Int) ≤ r ∧ r ≤ 7 ∧ (r = -1 ∨ (0 ≤ r ∧ r < φ 32 3 ∧ φ 32 3 ≤ 6)) := by
  have hh : hw [] 0 42 0 [(0, (2, 31)), (1, (0, 3)), (2, (1, v2))] [] φ 0 (fun _ _ _ => (-1 : Int) ≤ r ∧ r ≤ 7 ∧ (r = -1 ∨ (0 ≤ r ∧ r < φ 32 3 ∧ φ 32 3 ≤ 6))) := by
    refine sf_42_31_k1_3 hI  (fun r1 hp1 hE1 => ?_)
    rw [hE] at hE1
    cases hE1
    exact hp1
  obtain ⟨_, _, _, _, h⟩ := hh
  exact h
theorem K_F_Reader_peekNamed_1_31_k2_3 {φ : hf_F} {ψ : hf_F} {r : Int}  (hI : Inv φ)  (hE : F_Reader_peekNamed_1_31_k2_3 φ = (r, ψ)) : Inv ψ ∧ Fr [2009, 2010] φ ψ ∧ ((-1 : Int) ≤ r ∧ r ≤ 7 ∧ (r = -1 ∨ (0 ≤ r ∧ r < φ 32 3 ∧ φ 32 3 ≤ 6))) := by
  have hh : hw [] (0 + 1) 47 0 [(0, (2, 1)), (1, (2, 31)), (2, (0, 3))] [] φ 0 (fun _ _ _ => Inv ψ ∧ Fr [2009, 2010] φ ψ ∧ ((-1 : Int) ≤ r ∧ r ≤ 7 ∧ (r = -1 ∨ (0 ≤ r ∧ r < φ 32 3 ∧ φ 32 3 ≤ 6)))) := by
    refine sf_47_1_31_k2_3 hI  (fun r1 ψ1 hI1 hF1 hp1 hE1 => ?_)
    rw [hE] at hE1
    cases hE1
    exact ⟨hI1, hF1, hp1⟩
  obtain ⟨_, _, _, _, h⟩ := hh
  exact h
theorem K_F_State_whyNotLearn_43 {φ : hf_F}  {r : Int} {v1 : Int} (hI : Inv φ) (h1a : 0 ≤ v1) (h1b : v1 ≤ 5) (hE : F_State_whyNotLearn_43 φ v1 = r) : 0 ≤ r ∧ r ≤ 1 ∧ (r = 0 → φ 47 ((v1).toNat) ≤ 5) := by
  have hh : hw [] 0 54 0 [(0, (2, 43)), (1, (0, v1))] [] φ 0 (fun _ _ _ => 0 ≤ r ∧ r ≤ 1 ∧ (r = 0 → φ 47 ((v1).toNat) ≤ 5)) := by
    refine sf_54_43 hI h1a h1b (fun r1 hp1 hE1 => ?_)
    rw [hE] at hE1
    cases hE1
    exact hp1
  obtain ⟨_, _, _, _, h⟩ := hh
  exact h
theorem K_F_Plan_numberOf_31_k1_2 {φ : hf_F}  {r : Int} {v2 : Int} (hI : Inv φ)  (hE : F_Plan_numberOf_31_k1_2 φ v2 = r) : (-1 : Int) ≤ r ∧ r ≤ 7 ∧ (r = -1 ∨ (0 ≤ r ∧ r < φ 32 2 ∧ φ 32 2 ≤ 8)) := by
  have hh : hw [] 0 42 0 [(0, (2, 31)), (1, (0, 2)), (2, (1, v2))] [] φ 0 (fun _ _ _ => (-1 : Int) ≤ r ∧ r ≤ 7 ∧ (r = -1 ∨ (0 ≤ r ∧ r < φ 32 2 ∧ φ 32 2 ≤ 8))) := by
    refine sf_42_31_k1_2 hI  (fun r1 hp1 hE1 => ?_)
    rw [hE] at hE1
    cases hE1
    exact hp1
  obtain ⟨_, _, _, _, h⟩ := hh
  exact h
theorem K_F_Reader_peekNamed_1_31_k2_2 {φ : hf_F} {ψ : hf_F} {r : Int}  (hI : Inv φ)  (hE : F_Reader_peekNamed_1_31_k2_2 φ = (r, ψ)) : Inv ψ ∧ Fr [2009, 2010] φ ψ ∧ ((-1 : Int) ≤ r ∧ r ≤ 7 ∧ (r = -1 ∨ (0 ≤ r ∧ r < φ 32 2 ∧ φ 32 2 ≤ 8))) := by
  have hh : hw [] (0 + 1) 47 0 [(0, (2, 1)), (1, (2, 31)), (2, (0, 2))] [] φ 0 (fun _ _ _ => Inv ψ ∧ Fr [2009, 2010] φ ψ ∧ ((-1 : Int) ≤ r ∧ r ≤ 7 ∧ (r = -1 ∨ (0 ≤ r ∧ r < φ 32 2 ∧ φ 32 2 ≤ 8)))) := by
    refine sf_47_1_31_k2_2 hI  (fun r1 ψ1 hI1 hF1 hp1 hE1 => ?_)
    rw [hE] at hE1
    cases hE1
    exact ⟨hI1, hF1, hp1⟩
  obtain ⟨_, _, _, _, h⟩ := hh
  exact h
theorem K_F_State_addWord_43 {φ : hf_F} {ψ : hf_F} {v1 v2 : Int} (hI : Inv φ) (h1a : 0 ≤ v1) (h1b : v1 ≤ 5) (h2a : 0 ≤ v2) (h2b : v2 ≤ 7) (hx0 : 0 ≤ φ 47 ((v1).toNat) ∧ φ 47 ((v1).toNat) ≤ 5) (hE : F_State_addWord_43 φ v1 v2 = ψ) : Inv ψ ∧ Fr [47, 48] φ ψ := by
  have hh : hw [] 0 55 0 [(0, (2, 43)), (1, (0, v1)), (2, (0, v2))] [] φ 0 (fun _ _ _ => Inv ψ ∧ Fr [47, 48] φ ψ) := by
    refine sf_55_43 hI h1a h1b h2a h2b hx0 (fun ψ1 hI1 hF1 hE1 => ?_)
    rw [hE] at hE1
    cases hE1
    exact ⟨hI1, hF1⟩
  obtain ⟨_, _, _, _, h⟩ := hh
  exact h
theorem K_F_RideText_readSays_182 {φ : hf_F} {ψ : hf_F} {r : Int}  (hI : Inv φ)  (hE : F_RideText_readSays_182 φ = (r, ψ)) : Inv ψ ∧ Fr [47, 48, 2004, 2005, 2006, 2007, 2008, 2009, 2010] φ ψ ∧ (0 ≤ r ∧ r ≤ 1) := by
  have hh : hw [] (0 + 3) 53 0 [(0, (2, 182))] [] φ 0 (fun _ _ _ => Inv ψ ∧ Fr [47, 48, 2004, 2005, 2006, 2007, 2008, 2009, 2010] φ ψ ∧ (0 ≤ r ∧ r ≤ 1)) := by
    refine sf_53_182 hI  (fun r1 ψ1 hI1 hF1 hp1 hE1 => ?_)
    rw [hE] at hE1
    cases hE1
    exact ⟨hI1, hF1, hp1⟩
  obtain ⟨_, _, _, _, h⟩ := hh
  exact h
theorem K_F_Plan_isFull_31_k1_4 {φ : hf_F}  {r : Int}  (hI : Inv φ)  (hE : F_Plan_isFull_31_k1_4 φ = r) : 0 ≤ r ∧ r ≤ 1 ∧ (r = 0 → φ 32 4 ≤ 7) := by
  have hh : hw [] 0 40 0 [(0, (2, 31)), (1, (0, 4))] [] φ 0 (fun _ _ _ => 0 ≤ r ∧ r ≤ 1 ∧ (r = 0 → φ 32 4 ≤ 7)) := by
    refine sf_40_31_k1_4 hI  (fun r1 hp1 hE1 => ?_)
    rw [hE] at hE1
    cases hE1
    exact hp1
  obtain ⟨_, _, _, _, h⟩ := hh
  exact h
theorem K_F_RideText_readNew_182_k1_4 {φ : hf_F} {ψ : hf_F} {r : Int}  (hI : Inv φ)  (hE : F_RideText_readNew_182_k1_4 φ = (r, ψ)) : Inv ψ ∧ Fr [2004, 2005, 2006, 2007, 2008, 2009, 2010] φ ψ ∧ (True ∧ (¬ r = 0 → φ 32 4 ≤ 7)) := by
  have hh : hw [] (0 + 3) 39 0 [(0, (2, 182)), (1, (0, 4))] [] φ 0 (fun _ _ _ => Inv ψ ∧ Fr [2004, 2005, 2006, 2007, 2008, 2009, 2010] φ ψ ∧ (True ∧ (¬ r = 0 → φ 32 4 ≤ 7))) := by
    refine sf_39_182_k1_4 hI  (fun r1 ψ1 hI1 hF1 hp1 hE1 => ?_)
    rw [hE] at hE1
    cases hE1
    exact ⟨hI1, hF1, hp1⟩
  obtain ⟨_, _, _, _, h⟩ := hh
  exact h
theorem K_F_RideText_readLaw_182 {φ : hf_F} {ψ : hf_F} {r : Int}  (hI : Inv φ)  (hE : F_RideText_readLaw_182 φ = (r, ψ)) : Inv ψ ∧ Fr [32, 33, 39, 40, 42, 2004, 2005, 2006, 2007, 2008, 2009, 2010] φ ψ ∧ (0 ≤ r ∧ r ≤ 1) := by
  have hh : hw [] (0 + 4) 56 0 [(0, (2, 182))] [] φ 0 (fun _ _ _ => Inv ψ ∧ Fr [32, 33, 39, 40, 42, 2004, 2005, 2006, 2007, 2008, 2009, 2010] φ ψ ∧ (0 ≤ r ∧ r ≤ 1)) := by
    refine sf_56_182 hI  (fun r1 ψ1 hI1 hF1 hp1 hE1 => ?_)
    rw [hE] at hE1
    cases hE1
    exact ⟨hI1, hF1, hp1⟩
  obtain ⟨_, _, _, _, h⟩ := hh
  exact h
theorem K_F_Plan_numberOf_31_k1_4 {φ : hf_F}  {r : Int} {v2 : Int} (hI : Inv φ)  (hE : F_Plan_numberOf_31_k1_4 φ v2 = r) : (-1 : Int) ≤ r ∧ r ≤ 7 ∧ (r = -1 ∨ (0 ≤ r ∧ r < φ 32 4 ∧ φ 32 4 ≤ 8)) := by
  have hh : hw [] 0 42 0 [(0, (2, 31)), (1, (0, 4)), (2, (1, v2))] [] φ 0 (fun _ _ _ => (-1 : Int) ≤ r ∧ r ≤ 7 ∧ (r = -1 ∨ (0 ≤ r ∧ r < φ 32 4 ∧ φ 32 4 ≤ 8))) := by
    refine sf_42_31_k1_4 hI  (fun r1 hp1 hE1 => ?_)
    rw [hE] at hE1
    cases hE1
    exact hp1
  obtain ⟨_, _, _, _, h⟩ := hh
  exact h
theorem K_F_Reader_peekNamed_1_31_k2_4 {φ : hf_F} {ψ : hf_F} {r : Int}  (hI : Inv φ)  (hE : F_Reader_peekNamed_1_31_k2_4 φ = (r, ψ)) : Inv ψ ∧ Fr [2009, 2010] φ ψ ∧ ((-1 : Int) ≤ r ∧ r ≤ 7 ∧ (r = -1 ∨ (0 ≤ r ∧ r < φ 32 4 ∧ φ 32 4 ≤ 8))) := by
  have hh : hw [] (0 + 1) 47 0 [(0, (2, 1)), (1, (2, 31)), (2, (0, 4))] [] φ 0 (fun _ _ _ => Inv ψ ∧ Fr [2009, 2010] φ ψ ∧ ((-1 : Int) ≤ r ∧ r ≤ 7 ∧ (r = -1 ∨ (0 ≤ r ∧ r < φ 32 4 ∧ φ 32 4 ≤ 8)))) := by
    refine sf_47_1_31_k2_4 hI  (fun r1 ψ1 hI1 hF1 hp1 hE1 => ?_)
    rw [hE] at hE1
    cases hE1
    exact ⟨hI1, hF1, hp1⟩
  obtain ⟨_, _, _, _, h⟩ := hh
  exact h
theorem K_F_RideText_readClash_182 {φ : hf_F} {ψ : hf_F} {r : Int}  (hI : Inv φ)  (hE : F_RideText_readClash_182 φ = (r, ψ)) : Inv ψ ∧ Fr [41, 2004, 2005, 2006, 2007, 2008, 2009, 2010] φ ψ ∧ (0 ≤ r ∧ r ≤ 1) := by
  have hh : hw [] (0 + 3) 58 0 [(0, (2, 182))] [] φ 0 (fun _ _ _ => Inv ψ ∧ Fr [41, 2004, 2005, 2006, 2007, 2008, 2009, 2010] φ ψ ∧ (0 ≤ r ∧ r ≤ 1)) := by
    refine sf_58_182 hI  (fun r1 ψ1 hI1 hF1 hp1 hE1 => ?_)
    rw [hE] at hE1
    cases hE1
    exact ⟨hI1, hF1, hp1⟩
  obtain ⟨_, _, _, _, h⟩ := hh
  exact h
theorem K_F_RideText_readLine_182 {φ : hf_F} {ψ : hf_F} {r : Int}  (hI : Inv φ)  (hE : F_RideText_readLine_182 φ = (r, ψ)) : Inv ψ ∧ Fr [32, 33, 34, 35, 36, 37, 38, 39, 40, 41, 42, 44, 45, 46, 47, 48, 2004, 2005, 2006, 2007, 2008, 2009, 2010] φ ψ ∧ (0 ≤ r ∧ r ≤ 1) := by
  have hh : hw [] (0 + 5) 36 0 [(0, (2, 182))] [] φ 0 (fun _ _ _ => Inv ψ ∧ Fr [32, 33, 34, 35, 36, 37, 38, 39, 40, 41, 42, 44, 45, 46, 47, 48, 2004, 2005, 2006, 2007, 2008, 2009, 2010] φ ψ ∧ (0 ≤ r ∧ r ≤ 1)) := by
    refine sf_36_182 hI  (fun r1 ψ1 hI1 hF1 hp1 hE1 => ?_)
    rw [hE] at hE1
    cases hE1
    exact ⟨hI1, hF1, hp1⟩
  obtain ⟨_, _, _, _, h⟩ := hh
  exact h
theorem K_F_RideText_readAll_182 {φ : hf_F} {ψ : hf_F} {r : Int}  (hI : Inv φ)  (hE : F_RideText_readAll_182 φ = (r, ψ)) : Inv ψ ∧ Fr [32, 33, 34, 35, 36, 37, 38, 39, 40, 41, 42, 44, 45, 46, 47, 48, 49, 50, 51, 2003, 2004, 2005, 2006, 2007, 2008, 2009, 2010, 44000, 44001, 44002, 44003, 44004, 44005] φ ψ ∧ ((-1 : Int) ≤ r ∧ r ≤ 940) := by
  have hh : hw [] (0 + 6) 25 0 [(0, (2, 182))] [] φ 0 (fun _ _ _ => Inv ψ ∧ Fr [32, 33, 34, 35, 36, 37, 38, 39, 40, 41, 42, 44, 45, 46, 47, 48, 49, 50, 51, 2003, 2004, 2005, 2006, 2007, 2008, 2009, 2010, 44000, 44001, 44002, 44003, 44004, 44005] φ ψ ∧ ((-1 : Int) ≤ r ∧ r ≤ 940)) := by
    refine sf_25_182 hI  (fun r1 ψ1 hI1 hF1 hp1 hE1 => ?_)
    rw [hE] at hE1
    cases hE1
    exact ⟨hI1, hF1, hp1⟩
  obtain ⟨_, _, _, _, h⟩ := hh
  exact h
theorem K_F_Scene_copyFrom_4_30 {φ : hf_F} {ψ : hf_F}  (hI : Inv φ)  (hE : F_Scene_copyFrom_4_30 φ = ψ) : Inv ψ ∧ Fr [6, 7, 8, 9, 10, 11, 12, 13, 14, 15, 16, 18, 19, 20, 21, 22, 23, 24, 25, 27, 28, 29, 18000, 18001, 18002, 18003, 18004, 18005, 27003, 27004, 27005] φ ψ := by
  have hh : hw [] (0 + 1) 64 0 [(0, (2, 4)), (1, (2, 30))] [] φ 0 (fun _ _ _ => Inv ψ ∧ Fr [6, 7, 8, 9, 10, 11, 12, 13, 14, 15, 16, 18, 19, 20, 21, 22, 23, 24, 25, 27, 28, 29, 18000, 18001, 18002, 18003, 18004, 18005, 27003, 27004, 27005] φ ψ) := by
    refine sf_64_4_30 hI  (fun ψ1 hI1 hF1 hE1 => ?_)
    rw [hE] at hE1
    cases hE1
    exact ⟨hI1, hF1⟩
  obtain ⟨_, _, _, _, h⟩ := hh
  exact h
theorem K_F_RideLaws_ride_0 {φ : hf_F} {ψ : hf_F} {r : Int}  (hI : Inv φ)  (hE : F_RideLaws_ride_0 φ = (r, ψ)) : Inv ψ ∧ Fr [6, 7, 8, 9, 10, 11, 12, 13, 14, 15, 16, 18, 19, 20, 21, 22, 23, 24, 25, 27, 28, 29, 32, 33, 34, 35, 36, 37, 38, 39, 40, 41, 42, 44, 45, 46, 47, 48, 49, 50, 51, 1012, 2002, 2003, 2004, 2005, 2006, 2007, 2008, 2009, 2010, 18000, 18001, 18002, 18003, 18004, 18005, 27003, 27004, 27005, 44000, 44001, 44002, 44003, 44004, 44005, 53003, 53004, 53005, 109001] φ ψ ∧ (True ∧ (ψ 1 2 = 0)) := by
  have hh : hw [] (0 + 7) 24 0 [(0, (2, 0))] [] φ 0 (fun _ _ _ => Inv ψ ∧ Fr [6, 7, 8, 9, 10, 11, 12, 13, 14, 15, 16, 18, 19, 20, 21, 22, 23, 24, 25, 27, 28, 29, 32, 33, 34, 35, 36, 37, 38, 39, 40, 41, 42, 44, 45, 46, 47, 48, 49, 50, 51, 1012, 2002, 2003, 2004, 2005, 2006, 2007, 2008, 2009, 2010, 18000, 18001, 18002, 18003, 18004, 18005, 27003, 27004, 27005, 44000, 44001, 44002, 44003, 44004, 44005, 53003, 53004, 53005, 109001] φ ψ ∧ (True ∧ (ψ 1 2 = 0))) := by
    refine sf_24_0 hI  (fun r1 ψ1 hI1 hF1 hp1 hE1 => ?_)
    rw [hE] at hE1
    cases hE1
    exact ⟨hI1, hF1, hp1⟩
  obtain ⟨_, _, _, _, h⟩ := hh
  exact h
theorem K_F_History_dropOldest_108 {φ : hf_F} {ψ : hf_F}  (hI : Inv φ)  (hE : F_History_dropOldest_108 φ = ψ) : Inv ψ ∧ Fr [109, 109001] φ ψ ∧ (0 ≤ ψ 108 1 ∧ ψ 108 1 ≤ 7) := by
  have hh : hw [] 0 81 0 [(0, (2, 108))] [] φ 0 (fun _ _ _ => Inv ψ ∧ Fr [109, 109001] φ ψ ∧ (0 ≤ ψ 108 1 ∧ ψ 108 1 ≤ 7)) := by
    refine sf_81_108 hI  (fun ψ1 hI1 hF1 hV1 hE1 => ?_)
    rw [hE] at hE1
    cases hE1
    exact ⟨hI1, hF1, hV1⟩
  obtain ⟨_, _, _, _, h⟩ := hh
  exact h
theorem K_F_State_copyFrom_110_17 {φ : hf_F} {ψ : hf_F}  (hI : Inv φ)  (hE : F_State_copyFrom_110_17 φ = ψ) : Inv ψ ∧ Fr [111, 112, 113, 114, 115, 116, 117, 118, 111000, 111001, 111002, 111003, 111004, 111005] φ ψ := by
  have hh : hw [] 0 66 0 [(0, (2, 110)), (1, (2, 17))] [] φ 0 (fun _ _ _ => Inv ψ ∧ Fr [111, 112, 113, 114, 115, 116, 117, 118, 111000, 111001, 111002, 111003, 111004, 111005] φ ψ) := by
    refine sf_66_110_17 hI  (fun ψ1 hI1 hF1 hE1 => ?_)
    rw [hE] at hE1
    cases hE1
    exact ⟨hI1, hF1⟩
  obtain ⟨_, _, _, _, h⟩ := hh
  exact h
theorem K_F_State_copyFrom_119_17 {φ : hf_F} {ψ : hf_F}  (hI : Inv φ)  (hE : F_State_copyFrom_119_17 φ = ψ) : Inv ψ ∧ Fr [120, 121, 122, 123, 124, 125, 126, 127, 120000, 120001, 120002, 120003, 120004, 120005] φ ψ := by
  have hh : hw [] 0 66 0 [(0, (2, 119)), (1, (2, 17))] [] φ 0 (fun _ _ _ => Inv ψ ∧ Fr [120, 121, 122, 123, 124, 125, 126, 127, 120000, 120001, 120002, 120003, 120004, 120005] φ ψ) := by
    refine sf_66_119_17 hI  (fun ψ1 hI1 hF1 hE1 => ?_)
    rw [hE] at hE1
    cases hE1
    exact ⟨hI1, hF1⟩
  obtain ⟨_, _, _, _, h⟩ := hh
  exact h
theorem K_F_State_copyFrom_128_17 {φ : hf_F} {ψ : hf_F}  (hI : Inv φ)  (hE : F_State_copyFrom_128_17 φ = ψ) : Inv ψ ∧ Fr [129, 130, 131, 132, 133, 134, 135, 136, 129000, 129001, 129002, 129003, 129004, 129005] φ ψ := by
  have hh : hw [] 0 66 0 [(0, (2, 128)), (1, (2, 17))] [] φ 0 (fun _ _ _ => Inv ψ ∧ Fr [129, 130, 131, 132, 133, 134, 135, 136, 129000, 129001, 129002, 129003, 129004, 129005] φ ψ) := by
    refine sf_66_128_17 hI  (fun ψ1 hI1 hF1 hE1 => ?_)
    rw [hE] at hE1
    cases hE1
    exact ⟨hI1, hF1⟩
  obtain ⟨_, _, _, _, h⟩ := hh
  exact h
theorem K_F_State_copyFrom_137_17 {φ : hf_F} {ψ : hf_F}  (hI : Inv φ)  (hE : F_State_copyFrom_137_17 φ = ψ) : Inv ψ ∧ Fr [138, 139, 140, 141, 142, 143, 144, 145, 138000, 138001, 138002, 138003, 138004, 138005] φ ψ := by
  have hh : hw [] 0 66 0 [(0, (2, 137)), (1, (2, 17))] [] φ 0 (fun _ _ _ => Inv ψ ∧ Fr [138, 139, 140, 141, 142, 143, 144, 145, 138000, 138001, 138002, 138003, 138004, 138005] φ ψ) := by
    refine sf_66_137_17 hI  (fun ψ1 hI1 hF1 hE1 => ?_)
    rw [hE] at hE1
    cases hE1
    exact ⟨hI1, hF1⟩
  obtain ⟨_, _, _, _, h⟩ := hh
  exact h
theorem K_F_State_copyFrom_146_17 {φ : hf_F} {ψ : hf_F}  (hI : Inv φ)  (hE : F_State_copyFrom_146_17 φ = ψ) : Inv ψ ∧ Fr [147, 148, 149, 150, 151, 152, 153, 154, 147000, 147001, 147002, 147003, 147004, 147005] φ ψ := by
  have hh : hw [] 0 66 0 [(0, (2, 146)), (1, (2, 17))] [] φ 0 (fun _ _ _ => Inv ψ ∧ Fr [147, 148, 149, 150, 151, 152, 153, 154, 147000, 147001, 147002, 147003, 147004, 147005] φ ψ) := by
    refine sf_66_146_17 hI  (fun ψ1 hI1 hF1 hE1 => ?_)
    rw [hE] at hE1
    cases hE1
    exact ⟨hI1, hF1⟩
  obtain ⟨_, _, _, _, h⟩ := hh
  exact h
theorem K_F_State_copyFrom_155_17 {φ : hf_F} {ψ : hf_F}  (hI : Inv φ)  (hE : F_State_copyFrom_155_17 φ = ψ) : Inv ψ ∧ Fr [156, 157, 158, 159, 160, 161, 162, 163, 156000, 156001, 156002, 156003, 156004, 156005] φ ψ := by
  have hh : hw [] 0 66 0 [(0, (2, 155)), (1, (2, 17))] [] φ 0 (fun _ _ _ => Inv ψ ∧ Fr [156, 157, 158, 159, 160, 161, 162, 163, 156000, 156001, 156002, 156003, 156004, 156005] φ ψ) := by
    refine sf_66_155_17 hI  (fun ψ1 hI1 hF1 hE1 => ?_)
    rw [hE] at hE1
    cases hE1
    exact ⟨hI1, hF1⟩
  obtain ⟨_, _, _, _, h⟩ := hh
  exact h
theorem K_F_State_copyFrom_164_17 {φ : hf_F} {ψ : hf_F}  (hI : Inv φ)  (hE : F_State_copyFrom_164_17 φ = ψ) : Inv ψ ∧ Fr [165, 166, 167, 168, 169, 170, 171, 172, 165000, 165001, 165002, 165003, 165004, 165005] φ ψ := by
  have hh : hw [] 0 66 0 [(0, (2, 164)), (1, (2, 17))] [] φ 0 (fun _ _ _ => Inv ψ ∧ Fr [165, 166, 167, 168, 169, 170, 171, 172, 165000, 165001, 165002, 165003, 165004, 165005] φ ψ) := by
    refine sf_66_164_17 hI  (fun ψ1 hI1 hF1 hE1 => ?_)
    rw [hE] at hE1
    cases hE1
    exact ⟨hI1, hF1⟩
  obtain ⟨_, _, _, _, h⟩ := hh
  exact h
theorem K_F_State_copyFrom_173_17 {φ : hf_F} {ψ : hf_F}  (hI : Inv φ)  (hE : F_State_copyFrom_173_17 φ = ψ) : Inv ψ ∧ Fr [174, 175, 176, 177, 178, 179, 180, 181, 174000, 174001, 174002, 174003, 174004, 174005] φ ψ := by
  have hh : hw [] 0 66 0 [(0, (2, 173)), (1, (2, 17))] [] φ 0 (fun _ _ _ => Inv ψ ∧ Fr [174, 175, 176, 177, 178, 179, 180, 181, 174000, 174001, 174002, 174003, 174004, 174005] φ ψ) := by
    refine sf_66_173_17 hI  (fun ψ1 hI1 hF1 hE1 => ?_)
    rw [hE] at hE1
    cases hE1
    exact ⟨hI1, hF1⟩
  obtain ⟨_, _, _, _, h⟩ := hh
  exact h
theorem K_F_History_keep_108_17 {φ : hf_F} {ψ : hf_F}  (hI : Inv φ)  (hE : F_History_keep_108_17 φ = ψ) : Inv ψ ∧ Fr [109, 111, 112, 113, 114, 115, 116, 117, 118, 120, 121, 122, 123, 124, 125, 126, 127, 129, 130, 131, 132, 133, 134, 135, 136, 138, 139, 140, 141, 142, 143, 144, 145, 147, 148, 149, 150, 151, 152, 153, 154, 156, 157, 158, 159, 160, 161, 162, 163, 165, 166, 167, 168, 169, 170, 171, 172, 174, 175, 176, 177, 178, 179, 180, 181, 109001, 111000, 111001, 111002, 111003, 111004, 111005, 120000, 120001, 120002, 120003, 120004, 120005, 129000, 129001, 129002, 129003, 129004, 129005, 138000, 138001, 138002, 138003, 138004, 138005, 147000, 147001, 147002, 147003, 147004, 147005, 156000, 156001, 156002, 156003, 156004, 156005, 165000, 165001, 165002, 165003, 165004, 165005, 174000, 174001, 174002, 174003, 174004, 174005] φ ψ := by
  have hh : hw [] (0 + 1) 80 0 [(0, (2, 108)), (1, (2, 17))] [] φ 0 (fun _ _ _ => Inv ψ ∧ Fr [109, 111, 112, 113, 114, 115, 116, 117, 118, 120, 121, 122, 123, 124, 125, 126, 127, 129, 130, 131, 132, 133, 134, 135, 136, 138, 139, 140, 141, 142, 143, 144, 145, 147, 148, 149, 150, 151, 152, 153, 154, 156, 157, 158, 159, 160, 161, 162, 163, 165, 166, 167, 168, 169, 170, 171, 172, 174, 175, 176, 177, 178, 179, 180, 181, 109001, 111000, 111001, 111002, 111003, 111004, 111005, 120000, 120001, 120002, 120003, 120004, 120005, 129000, 129001, 129002, 129003, 129004, 129005, 138000, 138001, 138002, 138003, 138004, 138005, 147000, 147001, 147002, 147003, 147004, 147005, 156000, 156001, 156002, 156003, 156004, 156005, 165000, 165001, 165002, 165003, 165004, 165005, 174000, 174001, 174002, 174003, 174004, 174005] φ ψ) := by
    refine sf_80_108_17 hI  (fun ψ1 hI1 hF1 hE1 => ?_)
    rw [hE] at hE1
    cases hE1
    exact ⟨hI1, hF1⟩
  obtain ⟨_, _, _, _, h⟩ := hh
  exact h
theorem K_F_RideLaws_whistle_0 {φ : hf_F} {ψ : hf_F} {r : Int}  (hI : Inv φ)  (hE : F_RideLaws_whistle_0 φ = (r, ψ)) : Inv ψ ∧ Fr [23, 109, 111, 112, 113, 114, 115, 116, 117, 118, 120, 121, 122, 123, 124, 125, 126, 127, 129, 130, 131, 132, 133, 134, 135, 136, 138, 139, 140, 141, 142, 143, 144, 145, 147, 148, 149, 150, 151, 152, 153, 154, 156, 157, 158, 159, 160, 161, 162, 163, 165, 166, 167, 168, 169, 170, 171, 172, 174, 175, 176, 177, 178, 179, 180, 181, 18001, 18002, 18003, 18005, 109001, 111000, 111001, 111002, 111003, 111004, 111005, 120000, 120001, 120002, 120003, 120004, 120005, 129000, 129001, 129002, 129003, 129004, 129005, 138000, 138001, 138002, 138003, 138004, 138005, 147000, 147001, 147002, 147003, 147004, 147005, 156000, 156001, 156002, 156003, 156004, 156005, 165000, 165001, 165002, 165003, 165004, 165005, 174000, 174001, 174002, 174003, 174004, 174005] φ ψ ∧ (True) := by
  have hh : hw [] (0 + 2) 86 0 [(0, (2, 0))] [] φ 0 (fun _ _ _ => Inv ψ ∧ Fr [23, 109, 111, 112, 113, 114, 115, 116, 117, 118, 120, 121, 122, 123, 124, 125, 126, 127, 129, 130, 131, 132, 133, 134, 135, 136, 138, 139, 140, 141, 142, 143, 144, 145, 147, 148, 149, 150, 151, 152, 153, 154, 156, 157, 158, 159, 160, 161, 162, 163, 165, 166, 167, 168, 169, 170, 171, 172, 174, 175, 176, 177, 178, 179, 180, 181, 18001, 18002, 18003, 18005, 109001, 111000, 111001, 111002, 111003, 111004, 111005, 120000, 120001, 120002, 120003, 120004, 120005, 129000, 129001, 129002, 129003, 129004, 129005, 138000, 138001, 138002, 138003, 138004, 138005, 147000, 147001, 147002, 147003, 147004, 147005, 156000, 156001, 156002, 156003, 156004, 156005, 165000, 165001, 165002, 165003, 165004, 165005, 174000, 174001, 174002, 174003, 174004, 174005] φ ψ ∧ (True)) := by
    refine sf_86_0 hI  (fun r1 ψ1 hI1 hF1 hp1 hE1 => ?_)
    rw [hE] at hE1
    cases hE1
    exact ⟨hI1, hF1, hp1⟩
  obtain ⟨_, _, _, _, h⟩ := hh
  exact h
theorem K_F_RideLaws_mount_0 {φ : hf_F} {ψ : hf_F} {r : Int} {v1 v2 : Int} (hI : Inv φ) (h1a : (-2147483648 : Int) ≤ v1) (h1b : v1 ≤ 2147483647) (h2a : (-2147483648 : Int) ≤ v2) (h2b : v2 ≤ 2147483647) (hE : F_RideLaws_mount_0 φ v1 v2 = (r, ψ)) : Inv ψ ∧ Fr [19, 20, 109, 111, 112, 113, 114, 115, 116, 117, 118, 120, 121, 122, 123, 124, 125, 126, 127, 129, 130, 131, 132, 133, 134, 135, 136, 138, 139, 140, 141, 142, 143, 144, 145, 147, 148, 149, 150, 151, 152, 153, 154, 156, 157, 158, 159, 160, 161, 162, 163, 165, 166, 167, 168, 169, 170, 171, 172, 174, 175, 176, 177, 178, 179, 180, 181, 109001, 111000, 111001, 111002, 111003, 111004, 111005, 120000, 120001, 120002, 120003, 120004, 120005, 129000, 129001, 129002, 129003, 129004, 129005, 138000, 138001, 138002, 138003, 138004, 138005, 147000, 147001, 147002, 147003, 147004, 147005, 156000, 156001, 156002, 156003, 156004, 156005, 165000, 165001, 165002, 165003, 165004, 165005, 174000, 174001, 174002, 174003, 174004, 174005] φ ψ ∧ (True) := by
  have hh : hw [] (0 + 2) 78 0 [(0, (2, 0)), (1, (0, v1)), (2, (0, v2))] [] φ 0 (fun _ _ _ => Inv ψ ∧ Fr [19, 20, 109, 111, 112, 113, 114, 115, 116, 117, 118, 120, 121, 122, 123, 124, 125, 126, 127, 129, 130, 131, 132, 133, 134, 135, 136, 138, 139, 140, 141, 142, 143, 144, 145, 147, 148, 149, 150, 151, 152, 153, 154, 156, 157, 158, 159, 160, 161, 162, 163, 165, 166, 167, 168, 169, 170, 171, 172, 174, 175, 176, 177, 178, 179, 180, 181, 109001, 111000, 111001, 111002, 111003, 111004, 111005, 120000, 120001, 120002, 120003, 120004, 120005, 129000, 129001, 129002, 129003, 129004, 129005, 138000, 138001, 138002, 138003, 138004, 138005, 147000, 147001, 147002, 147003, 147004, 147005, 156000, 156001, 156002, 156003, 156004, 156005, 165000, 165001, 165002, 165003, 165004, 165005, 174000, 174001, 174002, 174003, 174004, 174005] φ ψ ∧ (True)) := by
    refine sf_78_0 hI h1a h1b h2a h2b (fun r1 ψ1 hI1 hF1 hp1 hE1 => ?_)
    rw [hE] at hE1
    cases hE1
    exact ⟨hI1, hF1, hp1⟩
  obtain ⟨_, _, _, _, h⟩ := hh
  exact h
theorem K_F_State_whyNotAlight_17 {φ : hf_F}  {r : Int} {v1 : Int} (hI : Inv φ) (h1a : 0 ≤ v1) (h1b : v1 ≤ 5) (hE : F_State_whyNotAlight_17 φ v1 = r) : 0 ≤ r ∧ r ≤ 1 := by
  have hh : hw [] 0 83 0 [(0, (2, 17)), (1, (0, v1))] [] φ 0 (fun _ _ _ => 0 ≤ r ∧ r ≤ 1) := by
    refine sf_83_17 hI h1a h1b (fun r1 hp1 hE1 => ?_)
    rw [hE] at hE1
    cases hE1
    exact hp1
  obtain ⟨_, _, _, _, h⟩ := hh
  exact h
theorem K_F_RideLaws_alight_0 {φ : hf_F} {ψ : hf_F} {r : Int} {v1 : Int} (hI : Inv φ) (h1a : (-2147483648 : Int) ≤ v1) (h1b : v1 ≤ 2147483647) (hE : F_RideLaws_alight_0 φ v1 = (r, ψ)) : Inv ψ ∧ Fr [19, 20, 109, 111, 112, 113, 114, 115, 116, 117, 118, 120, 121, 122, 123, 124, 125, 126, 127, 129, 130, 131, 132, 133, 134, 135, 136, 138, 139, 140, 141, 142, 143, 144, 145, 147, 148, 149, 150, 151, 152, 153, 154, 156, 157, 158, 159, 160, 161, 162, 163, 165, 166, 167, 168, 169, 170, 171, 172, 174, 175, 176, 177, 178, 179, 180, 181, 109001, 111000, 111001, 111002, 111003, 111004, 111005, 120000, 120001, 120002, 120003, 120004, 120005, 129000, 129001, 129002, 129003, 129004, 129005, 138000, 138001, 138002, 138003, 138004, 138005, 147000, 147001, 147002, 147003, 147004, 147005, 156000, 156001, 156002, 156003, 156004, 156005, 165000, 165001, 165002, 165003, 165004, 165005, 174000, 174001, 174002, 174003, 174004, 174005] φ ψ ∧ (True) := by
  have hh : hw [] (0 + 2) 82 0 [(0, (2, 0)), (1, (0, v1))] [] φ 0 (fun _ _ _ => Inv ψ ∧ Fr [19, 20, 109, 111, 112, 113, 114, 115, 116, 117, 118, 120, 121, 122, 123, 124, 125, 126, 127, 129, 130, 131, 132, 133, 134, 135, 136, 138, 139, 140, 141, 142, 143, 144, 145, 147, 148, 149, 150, 151, 152, 153, 154, 156, 157, 158, 159, 160, 161, 162, 163, 165, 166, 167, 168, 169, 170, 171, 172, 174, 175, 176, 177, 178, 179, 180, 181, 109001, 111000, 111001, 111002, 111003, 111004, 111005, 120000, 120001, 120002, 120003, 120004, 120005, 129000, 129001, 129002, 129003, 129004, 129005, 138000, 138001, 138002, 138003, 138004, 138005, 147000, 147001, 147002, 147003, 147004, 147005, 156000, 156001, 156002, 156003, 156004, 156005, 165000, 165001, 165002, 165003, 165004, 165005, 174000, 174001, 174002, 174003, 174004, 174005] φ ψ ∧ (True)) := by
    refine sf_82_0 hI h1a h1b (fun r1 ψ1 hI1 hF1 hp1 hE1 => ?_)
    rw [hE] at hE1
    cases hE1
    exact ⟨hI1, hF1, hp1⟩
  obtain ⟨_, _, _, _, h⟩ := hh
  exact h
theorem K_F_RideLaws_has_0_k1_2 {φ : hf_F}  {r : Int} {v2 : Int} (hI : Inv φ) (h2a : (-2147483648 : Int) ≤ v2) (h2b : v2 ≤ 2147483647) (hE : F_RideLaws_has_0_k1_2 φ v2 = r) : 0 ≤ r ∧ r ≤ 1 ∧ (r = 1 → 0 ≤ v2 ∧ v2 < φ 6 2 ∧ φ 6 2 ≤ 8) := by
  have hh : hw [] 0 70 0 [(0, (2, 0)), (1, (0, 2)), (2, (0, v2))] [] φ 0 (fun _ _ _ => 0 ≤ r ∧ r ≤ 1 ∧ (r = 1 → 0 ≤ v2 ∧ v2 < φ 6 2 ∧ φ 6 2 ≤ 8)) := by
    refine sf_70_0_k1_2 hI h2a h2b (fun r1 hp1 hE1 => ?_)
    rw [hE] at hE1
    cases hE1
    exact hp1
  obtain ⟨_, _, _, _, h⟩ := hh
  exact h
theorem K_F_RideLaws_learn_0 {φ : hf_F} {ψ : hf_F} {r : Int} {v1 v2 : Int} (hI : Inv φ) (h1a : (-2147483648 : Int) ≤ v1) (h1b : v1 ≤ 2147483647) (h2a : (-2147483648 : Int) ≤ v2) (h2b : v2 ≤ 2147483647) (hE : F_RideLaws_learn_0 φ v1 v2 = (r, ψ)) : Inv ψ ∧ Fr [21, 22, 109, 111, 112, 113, 114, 115, 116, 117, 118, 120, 121, 122, 123, 124, 125, 126, 127, 129, 130, 131, 132, 133, 134, 135, 136, 138, 139, 140, 141, 142, 143, 144, 145, 147, 148, 149, 150, 151, 152, 153, 154, 156, 157, 158, 159, 160, 161, 162, 163, 165, 166, 167, 168, 169, 170, 171, 172, 174, 175, 176, 177, 178, 179, 180, 181, 109001, 111000, 111001, 111002, 111003, 111004, 111005, 120000, 120001, 120002, 120003, 120004, 120005, 129000, 129001, 129002, 129003, 129004, 129005, 138000, 138001, 138002, 138003, 138004, 138005, 147000, 147001, 147002, 147003, 147004, 147005, 156000, 156001, 156002, 156003, 156004, 156005, 165000, 165001, 165002, 165003, 165004, 165005, 174000, 174001, 174002, 174003, 174004, 174005] φ ψ ∧ (True) := by
  have hh : hw [] (0 + 2) 85 0 [(0, (2, 0)), (1, (0, v1)), (2, (0, v2))] [] φ 0 (fun _ _ _ => Inv ψ ∧ Fr [21, 22, 109, 111, 112, 113, 114, 115, 116, 117, 118, 120, 121, 122, 123, 124, 125, 126, 127, 129, 130, 131, 132, 133, 134, 135, 136, 138, 139, 140, 141, 142, 143, 144, 145, 147, 148, 149, 150, 151, 152, 153, 154, 156, 157, 158, 159, 160, 161, 162, 163, 165, 166, 167, 168, 169, 170, 171, 172, 174, 175, 176, 177, 178, 179, 180, 181, 109001, 111000, 111001, 111002, 111003, 111004, 111005, 120000, 120001, 120002, 120003, 120004, 120005, 129000, 129001, 129002, 129003, 129004, 129005, 138000, 138001, 138002, 138003, 138004, 138005, 147000, 147001, 147002, 147003, 147004, 147005, 156000, 156001, 156002, 156003, 156004, 156005, 165000, 165001, 165002, 165003, 165004, 165005, 174000, 174001, 174002, 174003, 174004, 174005] φ ψ ∧ (True)) := by
    refine sf_85_0 hI h1a h1b h2a h2b (fun r1 ψ1 hI1 hF1 hp1 hE1 => ?_)
    rw [hE] at hE1
    cases hE1
    exact ⟨hI1, hF1, hp1⟩
  obtain ⟨_, _, _, _, h⟩ := hh
  exact h
theorem K_F_State_turn_17_5 {φ : hf_F} {ψ : hf_F}  (hI : Inv φ)  (hE : F_State_turn_17_5 φ = ψ) : Inv ψ ∧ Fr [18, 23, 24, 25, 18000, 18001, 18002, 18003, 18004] φ ψ := by
  have hh : hw [] (0 + 2) 91 0 [(0, (2, 17)), (1, (2, 5))] [] φ 0 (fun _ _ _ => Inv ψ ∧ Fr [18, 23, 24, 25, 18000, 18001, 18002, 18003, 18004] φ ψ) := by
    refine sf_91_17_5 hI  (fun ψ1 hI1 hF1 hE1 => ?_)
    rw [hE] at hE1
    cases hE1
    exact ⟨hI1, hF1⟩
  obtain ⟨_, _, _, _, h⟩ := hh
  exact h
theorem K_F_State_ticksLeft_17 {φ : hf_F}  {r : Int}  (hI : Inv φ)  (hE : F_State_ticksLeft_17 φ = r) : True := by
  have hh : hw [] 0 90 0 [(0, (2, 17))] [] φ 0 (fun _ _ _ => True) := by
    refine sf_90_17 hI  (fun r1 hp1 hE1 => ?_)
    rw [hE] at hE1
    cases hE1
    exact hp1
  obtain ⟨_, _, _, _, h⟩ := hh
  exact h
theorem K_F_RideLaws_ticks_0 {φ : hf_F} {ψ : hf_F} {r : Int} {v1 : Int} (hI : Inv φ) (h1a : (-2147483648 : Int) ≤ v1) (h1b : v1 ≤ 2147483647) (hE : F_RideLaws_ticks_0 φ v1 = (r, ψ)) : Inv ψ ∧ Fr [18, 23, 24, 25, 109, 111, 112, 113, 114, 115, 116, 117, 118, 120, 121, 122, 123, 124, 125, 126, 127, 129, 130, 131, 132, 133, 134, 135, 136, 138, 139, 140, 141, 142, 143, 144, 145, 147, 148, 149, 150, 151, 152, 153, 154, 156, 157, 158, 159, 160, 161, 162, 163, 165, 166, 167, 168, 169, 170, 171, 172, 174, 175, 176, 177, 178, 179, 180, 181, 18000, 18001, 18002, 18003, 18004, 109001, 111000, 111001, 111002, 111003, 111004, 111005, 120000, 120001, 120002, 120003, 120004, 120005, 129000, 129001, 129002, 129003, 129004, 129005, 138000, 138001, 138002, 138003, 138004, 138005, 147000, 147001, 147002, 147003, 147004, 147005, 156000, 156001, 156002, 156003, 156004, 156005, 165000, 165001, 165002, 165003, 165004, 165005, 174000, 174001, 174002, 174003, 174004, 174005] φ ψ ∧ (True) := by
  have hh : hw [] (0 + 3) 89 0 [(0, (2, 0)), (1, (0, v1))] [] φ 0 (fun _ _ _ => Inv ψ ∧ Fr [18, 23, 24, 25, 109, 111, 112, 113, 114, 115, 116, 117, 118, 120, 121, 122, 123, 124, 125, 126, 127, 129, 130, 131, 132, 133, 134, 135, 136, 138, 139, 140, 141, 142, 143, 144, 145, 147, 148, 149, 150, 151, 152, 153, 154, 156, 157, 158, 159, 160, 161, 162, 163, 165, 166, 167, 168, 169, 170, 171, 172, 174, 175, 176, 177, 178, 179, 180, 181, 18000, 18001, 18002, 18003, 18004, 109001, 111000, 111001, 111002, 111003, 111004, 111005, 120000, 120001, 120002, 120003, 120004, 120005, 129000, 129001, 129002, 129003, 129004, 129005, 138000, 138001, 138002, 138003, 138004, 138005, 147000, 147001, 147002, 147003, 147004, 147005, 156000, 156001, 156002, 156003, 156004, 156005, 165000, 165001, 165002, 165003, 165004, 165005, 174000, 174001, 174002, 174003, 174004, 174005] φ ψ ∧ (True)) := by
    refine sf_89_0 hI h1a h1b (fun r1 ψ1 hI1 hF1 hp1 hE1 => ?_)
    rw [hE] at hE1
    cases hE1
    exact ⟨hI1, hF1, hp1⟩
  obtain ⟨_, _, _, _, h⟩ := hh
  exact h
theorem K_F_State_copyFrom_43_17 {φ : hf_F} {ψ : hf_F}  (hI : Inv φ)  (hE : F_State_copyFrom_43_17 φ = ψ) : Inv ψ ∧ Fr [44, 45, 46, 47, 48, 49, 50, 51, 44000, 44001, 44002, 44003, 44004, 44005] φ ψ := by
  have hh : hw [] 0 66 0 [(0, (2, 43)), (1, (2, 17))] [] φ 0 (fun _ _ _ => Inv ψ ∧ Fr [44, 45, 46, 47, 48, 49, 50, 51, 44000, 44001, 44002, 44003, 44004, 44005] φ ψ) := by
    refine sf_66_43_17 hI  (fun ψ1 hI1 hF1 hE1 => ?_)
    rw [hE] at hE1
    cases hE1
    exact ⟨hI1, hF1⟩
  obtain ⟨_, _, _, _, h⟩ := hh
  exact h
theorem K_F_State_rollWord_43 {φ : hf_F}  {r : Int} {v1 v2 : Int} (hI : Inv φ) (h1a : 0 ≤ v1) (h1b : v1 ≤ 5) (h2a : 0 ≤ v2) (h2b : v2 ≤ 5) (hE : F_State_rollWord_43 φ v1 v2 = r) : 0 ≤ r ∧ r ≤ 7 := by
  have hh : hw [] 0 71 0 [(0, (2, 43)), (1, (0, v1)), (2, (0, v2))] [] φ 0 (fun _ _ _ => 0 ≤ r ∧ r ≤ 7) := by
    refine sf_71_43 hI h1a h1b h2a h2b (fun r1 hp1 hE1 => ?_)
    rw [hE] at hE1
    cases hE1
    exact hp1
  obtain ⟨_, _, _, _, h⟩ := hh
  exact h
theorem K_F_State_speak_43_5 {φ : hf_F} {ψ : hf_F} {v2 : Int} (hI : Inv φ) (h2a : 0 ≤ v2) (h2b : v2 ≤ 5) (hx0 : 1 ≤ φ 47 ((v2).toNat) ∧ φ 47 ((v2).toNat) ≤ 6) (hE : F_State_speak_43_5 φ v2 = ψ) : Inv ψ ∧ Fr [49, 50, 51, 44001, 44002, 44003, 44004] φ ψ := by
  have hh : hw [] (0 + 1) 93 0 [(0, (2, 43)), (1, (2, 5)), (2, (0, v2))] [] φ 0 (fun _ _ _ => Inv ψ ∧ Fr [49, 50, 51, 44001, 44002, 44003, 44004] φ ψ) := by
    refine sf_93_43_5 hI h2a h2b hx0 (fun ψ1 hI1 hF1 hE1 => ?_)
    rw [hE] at hE1
    cases hE1
    exact ⟨hI1, hF1⟩
  obtain ⟨_, _, _, _, h⟩ := hh
  exact h
theorem K_F_State_turn_43_5 {φ : hf_F} {ψ : hf_F}  (hI : Inv φ)  (hE : F_State_turn_43_5 φ = ψ) : Inv ψ ∧ Fr [44, 49, 50, 51, 44000, 44001, 44002, 44003, 44004] φ ψ := by
  have hh : hw [] (0 + 2) 91 0 [(0, (2, 43)), (1, (2, 5))] [] φ 0 (fun _ _ _ => Inv ψ ∧ Fr [44, 49, 50, 51, 44000, 44001, 44002, 44003, 44004] φ ψ) := by
    refine sf_91_43_5 hI  (fun ψ1 hI1 hF1 hE1 => ?_)
    rw [hE] at hE1
    cases hE1
    exact ⟨hI1, hF1⟩
  obtain ⟨_, _, _, _, h⟩ := hh
  exact h
theorem K_F_State_isHolding_43 {φ : hf_F}  {r : Int} {v1 : Int} (hI : Inv φ) (h1a : 0 ≤ v1) (h1b : v1 ≤ 7) (hE : F_State_isHolding_43 φ v1 = r) : 0 ≤ r ∧ r ≤ 1 := by
  have hh : hw [] 0 74 0 [(0, (2, 43)), (1, (0, v1))] [] φ 0 (fun _ _ _ => 0 ≤ r ∧ r ≤ 1) := by
    refine sf_74_43 hI h1a h1b (fun r1 hp1 hE1 => ?_)
    rw [hE] at hE1
    cases hE1
    exact hp1
  obtain ⟨_, _, _, _, h⟩ := hh
  exact h
theorem K_F_Outlook_ticksTillTrialHolds_187 {φ : hf_F} {ψ : hf_F} {r : Int} {v1 v2 : Int} (hI : Inv φ) (h1a : 0 ≤ v1) (h1b : v1 ≤ 7) (h2a : 0 ≤ v2) (h2b : v2 ≤ 300) (hE : F_Outlook_ticksTillTrialHolds_187 φ v1 v2 = (r, ψ)) : Inv ψ ∧ Fr [44, 49, 50, 51, 44000, 44001, 44002, 44003, 44004] φ ψ ∧ ((-1 : Int) ≤ r ∧ r ≤ 300) := by
  have hh : hw [] (0 + 3) 102 0 [(0, (2, 187)), (1, (0, v1)), (2, (0, v2))] [] φ 0 (fun _ _ _ => Inv ψ ∧ Fr [44, 49, 50, 51, 44000, 44001, 44002, 44003, 44004] φ ψ ∧ ((-1 : Int) ≤ r ∧ r ≤ 300)) := by
    refine sf_102_187 hI h1a h1b h2a h2b (fun r1 ψ1 hI1 hF1 hp1 hE1 => ?_)
    rw [hE] at hE1
    cases hE1
    exact ⟨hI1, hF1, hp1⟩
  obtain ⟨_, _, _, _, h⟩ := hh
  exact h
theorem K_F_Outlook_ticksToHold_187 {φ : hf_F} {ψ : hf_F} {r : Int} {v1 : Int} (hI : Inv φ) (h1a : 0 ≤ v1) (h1b : v1 ≤ 7) (hE : F_Outlook_ticksToHold_187 φ v1 = (r, ψ)) : Inv ψ ∧ Fr [44, 45, 46, 47, 48, 49, 50, 51, 44000, 44001, 44002, 44003, 44004, 44005] φ ψ ∧ (True) := by
  have hh : hw [] (0 + 4) 101 0 [(0, (2, 187)), (1, (0, v1))] [] φ 0 (fun _ _ _ => Inv ψ ∧ Fr [44, 45, 46, 47, 48, 49, 50, 51, 44000, 44001, 44002, 44003, 44004, 44005] φ ψ ∧ (True)) := by
    refine sf_101_187 hI h1a h1b (fun r1 ψ1 hI1 hF1 hp1 hE1 => ?_)
    rw [hE] at hE1
    cases hE1
    exact ⟨hI1, hF1, hp1⟩
  obtain ⟨_, _, _, _, h⟩ := hh
  exact h
theorem K_F_RideLaws_holds_0 {φ : hf_F} {ψ : hf_F} {r : Int} {v1 : Int} (hI : Inv φ) (h1a : (-2147483648 : Int) ≤ v1) (h1b : v1 ≤ 2147483647) (hE : F_RideLaws_holds_0 φ v1 = (r, ψ)) : Inv ψ ∧ Fr [44, 45, 46, 47, 48, 49, 50, 51, 44000, 44001, 44002, 44003, 44004, 44005] φ ψ ∧ (True) := by
  have hh : hw [] (0 + 5) 100 0 [(0, (2, 0)), (1, (0, v1))] [] φ 0 (fun _ _ _ => Inv ψ ∧ Fr [44, 45, 46, 47, 48, 49, 50, 51, 44000, 44001, 44002, 44003, 44004, 44005] φ ψ ∧ (True)) := by
    refine sf_100_0 hI h1a h1b (fun r1 ψ1 hI1 hF1 hp1 hE1 => ?_)
    rw [hE] at hE1
    cases hE1
    exact ⟨hI1, hF1, hp1⟩
  obtain ⟨_, _, _, _, h⟩ := hh
  exact h
theorem K_F_Outlook_bestMount_187 {φ : hf_F} {ψ : hf_F} {r : Int} {v1 v2 : Int} (hI : Inv φ) (h1a : 0 ≤ v1) (h1b : v1 ≤ 7) (h2a : 1 ≤ v2) (h2b : v2 ≤ 99) (hE : F_Outlook_bestMount_187 φ v1 v2 = (r, ψ)) : Inv ψ ∧ Fr [44, 45, 46, 47, 48, 49, 50, 51, 44000, 44001, 44002, 44003, 44004, 44005] φ ψ ∧ ((-1 : Int) ≤ r ∧ r ≤ 47) := by
  have hh : hw [] (0 + 4) 104 0 [(0, (2, 187)), (1, (0, v1)), (2, (0, v2))] [] φ 0 (fun _ _ _ => Inv ψ ∧ Fr [44, 45, 46, 47, 48, 49, 50, 51, 44000, 44001, 44002, 44003, 44004, 44005] φ ψ ∧ ((-1 : Int) ≤ r ∧ r ≤ 47)) := by
    refine sf_104_187 hI h1a h1b h2a h2b (fun r1 ψ1 hI1 hF1 hp1 hE1 => ?_)
    rw [hE] at hE1
    cases hE1
    exact ⟨hI1, hF1, hp1⟩
  obtain ⟨_, _, _, _, h⟩ := hh
  exact h
theorem K_F_RideLaws_aim_0 {φ : hf_F} {ψ : hf_F} {r : Int} {v1 v2 : Int} (hI : Inv φ) (h1a : (-2147483648 : Int) ≤ v1) (h1b : v1 ≤ 2147483647) (h2a : (-2147483648 : Int) ≤ v2) (h2b : v2 ≤ 2147483647) (hE : F_RideLaws_aim_0 φ v1 v2 = (r, ψ)) : Inv ψ ∧ Fr [44, 45, 46, 47, 48, 49, 50, 51, 1013, 44000, 44001, 44002, 44003, 44004, 44005] φ ψ ∧ (True) := by
  have hh : hw [] (0 + 5) 103 0 [(0, (2, 0)), (1, (0, v1)), (2, (0, v2))] [] φ 0 (fun _ _ _ => Inv ψ ∧ Fr [44, 45, 46, 47, 48, 49, 50, 51, 1013, 44000, 44001, 44002, 44003, 44004, 44005] φ ψ ∧ (True)) := by
    refine sf_103_0 hI h1a h1b h2a h2b (fun r1 ψ1 hI1 hF1 hp1 hE1 => ?_)
    rw [hE] at hE1
    cases hE1
    exact ⟨hI1, hF1, hp1⟩
  obtain ⟨_, _, _, _, h⟩ := hh
  exact h
theorem K_F_Outlook_setsTurned_187 {φ : hf_F}  {r : Int} {v1 v2 : Int} (hI : Inv φ) (h1a : 0 ≤ v1) (h1b : v1 ≤ 5) (h2a : 0 ≤ v2) (h2b : v2 ≤ 7) (hE : F_Outlook_setsTurned_187 φ v1 v2 = r) : 0 ≤ r ∧ r ≤ 256 := by
  have hh : hw [] (0 + 3) 163 0 [(0, (2, 187)), (1, (0, v1)), (2, (0, v2))] [] φ 0 (fun _ _ _ => 0 ≤ r ∧ r ≤ 256) := by
    refine sf_163_187 hI h1a h1b h2a h2b (fun r1 hp1 hE1 => ?_)
    rw [hE] at hE1
    cases hE1
    exact hp1
  obtain ⟨_, _, _, _, h⟩ := hh
  exact h
theorem K_F_RideLaws_inLeastTerms {φ : hf_F}  {r : Int} {v0 v1 v2 : Int} (hI : Inv φ) (h2a : 0 ≤ v2) (h2b : v2 ≤ 1) (hE : F_RideLaws_inLeastTerms φ v0 v1 v2 = r) : True := by
  have hh : hw [] 0 165 0 [(0, (0, v0)), (1, (0, v1)), (2, (0, v2))] [] φ 0 (fun _ _ _ => True) := by
    refine sf_165 hI h2a h2b (fun r1 hp1 hE1 => ?_)
    rw [hE] at hE1
    cases hE1
    exact hp1
  obtain ⟨_, _, _, _, h⟩ := hh
  exact h
theorem K_F_RideLaws_power_0 {φ : hf_F} {v1 v2 v3 : Int} (hI : Inv φ) (h1a : (-2147483648 : Int) ≤ v1) (h1b : v1 ≤ 2147483647) (h2a : (-2147483648 : Int) ≤ v2) (h2b : v2 ≤ 2147483647) (h3a : (-2147483648 : Int) ≤ v3) (h3b : v3 ≤ 2147483647) : F_RideLaws_power_0 φ v1 v2 v3 = none ∨ ∃ r : Int, F_RideLaws_power_0 φ v1 v2 v3 = some r ∧ (True) := by
  obtain ⟨_, _, _, _, h⟩ := sf_162_0 (sc := []) (d := 20) (x := 0) (Q := fun _ _ _ => F_RideLaws_power_0 φ v1 v2 v3 = none ∨ ∃ r : Int, F_RideLaws_power_0 φ v1 v2 v3 = some r ∧ (True)) hI h1a h1b h2a h2b h3a h3b (by omega) (fun ψ hI1 hF1 hE1 => Or.inl hE1) (fun r1 hp1 hE1 => Or.inr ⟨r1, hE1, hp1⟩)
  exact h
theorem K_F_java_lang_Integer_bitCount {φ : hf_F}  {r : Int} {v0 : Int} (hI : Inv φ) (h0a : (-2147483648 : Int) ≤ v0) (h0b : v0 ≤ 2147483647) (hE : F_java_lang_Integer_bitCount φ v0 = r) : True := by
  have hh : hw [] 0 112 0 [(0, (0, v0))] [] φ 0 (fun _ _ _ => True) := by
    refine sf_112 hI h0a h0b (fun r1 hp1 hE1 => ?_)
    rw [hE] at hE1
    cases hE1
    exact hp1
  obtain ⟨_, _, _, _, h⟩ := hh
  exact h
theorem K_F_Outlook_lawsInPeace_187 {φ : hf_F}  {r : Int}  (hI : Inv φ)  (hE : F_Outlook_lawsInPeace_187 φ = r) : 0 ≤ r ∧ r ≤ 256 := by
  have hh : hw [] (0 + 1) 111 0 [(0, (2, 187))] [] φ 0 (fun _ _ _ => 0 ≤ r ∧ r ≤ 256) := by
    refine sf_111_187 hI  (fun r1 hp1 hE1 => ?_)
    rw [hE] at hE1
    cases hE1
    exact hp1
  obtain ⟨_, _, _, _, h⟩ := hh
  exact h
theorem K_F_RideLaws_stand_0 {φ : hf_F} {ψ : hf_F} {r : Int}  (hI : Inv φ)  (hE : F_RideLaws_stand_0 φ = (r, ψ)) : Inv ψ ∧ Fr [1014] φ ψ ∧ (True) := by
  have hh : hw [] (0 + 2) 110 0 [(0, (2, 0))] [] φ 0 (fun _ _ _ => Inv ψ ∧ Fr [1014] φ ψ ∧ (True)) := by
    refine sf_110_0 hI  (fun r1 ψ1 hI1 hF1 hp1 hE1 => ?_)
    rw [hE] at hE1
    cases hE1
    exact ⟨hI1, hF1, hp1⟩
  obtain ⟨_, _, _, _, h⟩ := hh
  exact h
theorem K_F_Outlook_stillSilent_187 {φ : hf_F}  {r : Int} {v1 : Int} (hI : Inv φ) (h1a : (-2147483648 : Int) ≤ v1) (h1b : v1 ≤ 2147483647) (hE : F_Outlook_stillSilent_187 φ v1 = r) : (-2147483648 : Int) ≤ r ∧ r ≤ 2147483647 := by
  have hh : hw [] 0 117 0 [(0, (2, 187)), (1, (0, v1))] [] φ 0 (fun _ _ _ => (-2147483648 : Int) ≤ r ∧ r ≤ 2147483647) := by
    refine sf_117_187 hI h1a h1b (fun r1 hp1 hE1 => ?_)
    rw [hE] at hE1
    cases hE1
    exact hp1
  obtain ⟨_, _, _, _, h⟩ := hh
  exact h
theorem K_F_Outlook_ticksTillAllSpoke_187 {φ : hf_F} {ψ : hf_F} {r : Int}  (hI : Inv φ)  (hE : F_Outlook_ticksTillAllSpoke_187 φ = (r, ψ)) : Inv ψ ∧ Fr [44, 45, 46, 47, 48, 49, 50, 51, 44000, 44001, 44002, 44003, 44004, 44005] φ ψ ∧ (True) := by
  have hh : hw [] (0 + 3) 116 0 [(0, (2, 187))] [] φ 0 (fun _ _ _ => Inv ψ ∧ Fr [44, 45, 46, 47, 48, 49, 50, 51, 44000, 44001, 44002, 44003, 44004, 44005] φ ψ ∧ (True)) := by
    refine sf_116_187 hI  (fun r1 ψ1 hI1 hF1 hp1 hE1 => ?_)
    rw [hE] at hE1
    cases hE1
    exact ⟨hI1, hF1, hp1⟩
  obtain ⟨_, _, _, _, h⟩ := hh
  exact h
theorem K_F_RideLaws_all_0 {φ : hf_F} {ψ : hf_F} {r : Int}  (hI : Inv φ)  (hE : F_RideLaws_all_0 φ = (r, ψ)) : Inv ψ ∧ Fr [44, 45, 46, 47, 48, 49, 50, 51, 44000, 44001, 44002, 44003, 44004, 44005] φ ψ ∧ (True) := by
  have hh : hw [] (0 + 4) 115 0 [(0, (2, 0))] [] φ 0 (fun _ _ _ => Inv ψ ∧ Fr [44, 45, 46, 47, 48, 49, 50, 51, 44000, 44001, 44002, 44003, 44004, 44005] φ ψ ∧ (True)) := by
    refine sf_115_0 hI  (fun r1 ψ1 hI1 hF1 hp1 hE1 => ?_)
    rw [hE] at hE1
    cases hE1
    exact ⟨hI1, hF1, hp1⟩
  obtain ⟨_, _, _, _, h⟩ := hh
  exact h
theorem K_F_RideLaws_part_0 {φ : hf_F} {v1 v2 : Int} (hI : Inv φ) (h1a : (-2147483648 : Int) ≤ v1) (h1b : v1 ≤ 2147483647) (h2a : (-2147483648 : Int) ≤ v2) (h2b : v2 ≤ 2147483647) : F_RideLaws_part_0 φ v1 v2 = none ∨ ∃ r : Int, F_RideLaws_part_0 φ v1 v2 = some r ∧ (True) := by
  obtain ⟨_, _, _, _, h⟩ := sf_167_0 (sc := []) (d := 20) (x := 0) (Q := fun _ _ _ => F_RideLaws_part_0 φ v1 v2 = none ∨ ∃ r : Int, F_RideLaws_part_0 φ v1 v2 = some r ∧ (True)) hI h1a h1b h2a h2b (by omega) (fun ψ hI1 hF1 hE1 => Or.inl hE1) (fun r1 hp1 hE1 => Or.inr ⟨r1, hE1, hp1⟩)
  exact h
theorem K_F_RideLaws_most_0 {φ : hf_F}  {r : Int}  (hI : Inv φ)  (hE : F_RideLaws_most_0 φ = r) : True := by
  have hh : hw [] 0 118 0 [(0, (2, 0))] [] φ 0 (fun _ _ _ => True) := by
    refine sf_118_0 hI  (fun r1 hp1 hE1 => ?_)
    rw [hE] at hE1
    cases hE1
    exact hp1
  obtain ⟨_, _, _, _, h⟩ := hh
  exact h
theorem K_F_State_mountOrAlight_17 {φ : hf_F} {ψ : hf_F} {v1 v2 : Int} (hI : Inv φ) (h1a : 0 ≤ v1) (h1b : v1 ≤ 5) (h2a : 0 ≤ v2) (h2b : v2 ≤ 7) (hE : F_State_mountOrAlight_17 φ v1 v2 = ψ) : Inv ψ ∧ Fr [19, 20] φ ψ := by
  have hh : hw [] (0 + 1) 129 0 [(0, (2, 17)), (1, (0, v1)), (2, (0, v2))] [] φ 0 (fun _ _ _ => Inv ψ ∧ Fr [19, 20] φ ψ) := by
    refine sf_129_17 hI h1a h1b h2a h2b (fun ψ1 hI1 hF1 hE1 => ?_)
    rw [hE] at hE1
    cases hE1
    exact ⟨hI1, hF1⟩
  obtain ⟨_, _, _, _, h⟩ := hh
  exact h
theorem K_F_State_turnDrawn_17_5_188 {φ : hf_F} {ψ : hf_F}  (hI : Inv φ)  (hE : F_State_turnDrawn_17_5_188 φ = ψ) : Inv ψ ∧ Fr [18, 19, 20, 21, 22, 23, 24, 25, 18000, 18001, 18002, 18003, 18004, 18005, 189000] φ ψ := by
  have hh : hw [] (0 + 3) 127 0 [(0, (2, 17)), (1, (2, 5)), (2, (2, 188))] [] φ 0 (fun _ _ _ => Inv ψ ∧ Fr [18, 19, 20, 21, 22, 23, 24, 25, 18000, 18001, 18002, 18003, 18004, 18005, 189000] φ ψ) := by
    refine sf_127_17_5_188 hI  (fun ψ1 hI1 hF1 hE1 => ?_)
    rw [hE] at hE1
    cases hE1
    exact ⟨hI1, hF1⟩
  obtain ⟨_, _, _, _, h⟩ := hh
  exact h
theorem K_F_RideLaws_drawn_0 {φ : hf_F} {ψ : hf_F} {r : Int} {v1 v2 : Int} (hI : Inv φ) (h1a : (-2147483648 : Int) ≤ v1) (h1b : v1 ≤ 2147483647) (h2a : (-2147483648 : Int) ≤ v2) (h2b : v2 ≤ 2147483647) (hE : F_RideLaws_drawn_0 φ v1 v2 = (r, ψ)) : Inv ψ ∧ Fr [18, 19, 20, 21, 22, 23, 24, 25, 109, 111, 112, 113, 114, 115, 116, 117, 118, 120, 121, 122, 123, 124, 125, 126, 127, 129, 130, 131, 132, 133, 134, 135, 136, 138, 139, 140, 141, 142, 143, 144, 145, 147, 148, 149, 150, 151, 152, 153, 154, 156, 157, 158, 159, 160, 161, 162, 163, 165, 166, 167, 168, 169, 170, 171, 172, 174, 175, 176, 177, 178, 179, 180, 181, 18000, 18001, 18002, 18003, 18004, 18005, 109001, 111000, 111001, 111002, 111003, 111004, 111005, 120000, 120001, 120002, 120003, 120004, 120005, 129000, 129001, 129002, 129003, 129004, 129005, 138000, 138001, 138002, 138003, 138004, 138005, 147000, 147001, 147002, 147003, 147004, 147005, 156000, 156001, 156002, 156003, 156004, 156005, 165000, 165001, 165002, 165003, 165004, 165005, 174000, 174001, 174002, 174003, 174004, 174005, 189000] φ ψ ∧ (True) := by
  have hh : hw [] (0 + 4) 126 0 [(0, (2, 0)), (1, (0, v1)), (2, (0, v2))] [] φ 0 (fun _ _ _ => Inv ψ ∧ Fr [18, 19, 20, 21, 22, 23, 24, 25, 109, 111, 112, 113, 114, 115, 116, 117, 118, 120, 121, 122, 123, 124, 125, 126, 127, 129, 130, 131, 132, 133, 134, 135, 136, 138, 139, 140, 141, 142, 143, 144, 145, 147, 148, 149, 150, 151, 152, 153, 154, 156, 157, 158, 159, 160, 161, 162, 163, 165, 166, 167, 168, 169, 170, 171, 172, 174, 175, 176, 177, 178, 179, 180, 181, 18000, 18001, 18002, 18003, 18004, 18005, 109001, 111000, 111001, 111002, 111003, 111004, 111005, 120000, 120001, 120002, 120003, 120004, 120005, 129000, 129001, 129002, 129003, 129004, 129005, 138000, 138001, 138002, 138003, 138004, 138005, 147000, 147001, 147002, 147003, 147004, 147005, 156000, 156001, 156002, 156003, 156004, 156005, 165000, 165001, 165002, 165003, 165004, 165005, 174000, 174001, 174002, 174003, 174004, 174005, 189000] φ ψ ∧ (True)) := by
    refine sf_126_0 hI h1a h1b h2a h2b (fun r1 ψ1 hI1 hF1 hp1 hE1 => ?_)
    rw [hE] at hE1
    cases hE1
    exact ⟨hI1, hF1, hp1⟩
  obtain ⟨_, _, _, _, h⟩ := hh
  exact h
theorem K_F_State_whyNotWhistle_43 {φ : hf_F}  {r : Int}  (hI : Inv φ)  (hE : F_State_whyNotWhistle_43 φ = r) : 0 ≤ r ∧ r ≤ 1 := by
  have hh : hw [] 0 87 0 [(0, (2, 43))] [] φ 0 (fun _ _ _ => 0 ≤ r ∧ r ≤ 1) := by
    refine sf_87_43 hI  (fun r1 hp1 hE1 => ?_)
    rw [hE] at hE1
    cases hE1
    exact hp1
  obtain ⟨_, _, _, _, h⟩ := hh
  exact h
theorem K_F_State_blow_43 {φ : hf_F} {ψ : hf_F}  (hI : Inv φ)  (hE : F_State_blow_43 φ = ψ) : Inv ψ ∧ Fr [49, 44001, 44002, 44003, 44005] φ ψ := by
  have hh : hw [] (0 + 1) 88 0 [(0, (2, 43))] [] φ 0 (fun _ _ _ => Inv ψ ∧ Fr [49, 44001, 44002, 44003, 44005] φ ψ) := by
    refine sf_88_43 hI  (fun ψ1 hI1 hF1 hE1 => ?_)
    rw [hE] at hE1
    cases hE1
    exact ⟨hI1, hF1⟩
  obtain ⟨_, _, _, _, h⟩ := hh
  exact h
theorem K_F_State_whyNotAlight_43 {φ : hf_F}  {r : Int} {v1 : Int} (hI : Inv φ) (h1a : 0 ≤ v1) (h1b : v1 ≤ 5) (hE : F_State_whyNotAlight_43 φ v1 = r) : 0 ≤ r ∧ r ≤ 1 := by
  have hh : hw [] 0 83 0 [(0, (2, 43)), (1, (0, v1))] [] φ 0 (fun _ _ _ => 0 ≤ r ∧ r ≤ 1) := by
    refine sf_83_43 hI h1a h1b (fun r1 hp1 hE1 => ?_)
    rw [hE] at hE1
    cases hE1
    exact hp1
  obtain ⟨_, _, _, _, h⟩ := hh
  exact h
theorem K_F_State_whyNotMount_43 {φ : hf_F}  {r : Int} {v1 v2 : Int} (hI : Inv φ) (h1a : 0 ≤ v1) (h1b : v1 ≤ 5) (h2a : 0 ≤ v2) (h2b : v2 ≤ 7) (hE : F_State_whyNotMount_43 φ v1 v2 = r) : 0 ≤ r ∧ r ≤ 2 := by
  have hh : hw [] 0 79 0 [(0, (2, 43)), (1, (0, v1)), (2, (0, v2))] [] φ 0 (fun _ _ _ => 0 ≤ r ∧ r ≤ 2) := by
    refine sf_79_43 hI h1a h1b h2a h2b (fun r1 hp1 hE1 => ?_)
    rw [hE] at hE1
    cases hE1
    exact hp1
  obtain ⟨_, _, _, _, h⟩ := hh
  exact h
theorem K_F_State_getOff_43 {φ : hf_F} {ψ : hf_F} {v1 : Int} (hI : Inv φ) (h1a : 0 ≤ v1) (h1b : v1 ≤ 5) (hE : F_State_getOff_43 φ v1 = ψ) : Inv ψ ∧ Fr [45, 46] φ ψ := by
  have hh : hw [] 0 84 0 [(0, (2, 43)), (1, (0, v1))] [] φ 0 (fun _ _ _ => Inv ψ ∧ Fr [45, 46] φ ψ) := by
    refine sf_84_43 hI h1a h1b (fun ψ1 hI1 hF1 hE1 => ?_)
    rw [hE] at hE1
    cases hE1
    exact ⟨hI1, hF1⟩
  obtain ⟨_, _, _, _, h⟩ := hh
  exact h
theorem K_F_State_mountOrAlight_43 {φ : hf_F} {ψ : hf_F} {v1 v2 : Int} (hI : Inv φ) (h1a : 0 ≤ v1) (h1b : v1 ≤ 5) (h2a : 0 ≤ v2) (h2b : v2 ≤ 7) (hE : F_State_mountOrAlight_43 φ v1 v2 = ψ) : Inv ψ ∧ Fr [45, 46] φ ψ := by
  have hh : hw [] (0 + 1) 129 0 [(0, (2, 43)), (1, (0, v1)), (2, (0, v2))] [] φ 0 (fun _ _ _ => Inv ψ ∧ Fr [45, 46] φ ψ) := by
    refine sf_129_43 hI h1a h1b h2a h2b (fun ψ1 hI1 hF1 hE1 => ?_)
    rw [hE] at hE1
    cases hE1
    exact ⟨hI1, hF1⟩
  obtain ⟨_, _, _, _, h⟩ := hh
  exact h
theorem K_F_State_turnDrawn_43_5_188 {φ : hf_F} {ψ : hf_F}  (hI : Inv φ)  (hE : F_State_turnDrawn_43_5_188 φ = ψ) : Inv ψ ∧ Fr [44, 45, 46, 47, 48, 49, 50, 51, 44000, 44001, 44002, 44003, 44004, 44005, 189000] φ ψ := by
  have hh : hw [] (0 + 3) 127 0 [(0, (2, 43)), (1, (2, 5)), (2, (2, 188))] [] φ 0 (fun _ _ _ => Inv ψ ∧ Fr [44, 45, 46, 47, 48, 49, 50, 51, 44000, 44001, 44002, 44003, 44004, 44005, 189000] φ ψ) := by
    refine sf_127_43_5_188 hI  (fun ψ1 hI1 hF1 hE1 => ?_)
    rw [hE] at hE1
    cases hE1
    exact ⟨hI1, hF1⟩
  obtain ⟨_, _, _, _, h⟩ := hh
  exact h
theorem K_F_Outlook_holdsByDraws_187_188 {φ : hf_F} {ψ : hf_F} {r : Int} {v1 : Int} (hI : Inv φ) (h1a : 0 ≤ v1) (h1b : v1 ≤ 7) (hE : F_Outlook_holdsByDraws_187_188 φ v1 = (r, ψ)) : Inv ψ ∧ Fr [44, 45, 46, 47, 48, 49, 50, 51, 44000, 44001, 44002, 44003, 44004, 44005, 189000] φ ψ ∧ (0 ≤ r ∧ r ≤ 1) := by
  have hh : hw [] (0 + 4) 131 0 [(0, (2, 187)), (1, (0, v1)), (2, (2, 188))] [] φ 0 (fun _ _ _ => Inv ψ ∧ Fr [44, 45, 46, 47, 48, 49, 50, 51, 44000, 44001, 44002, 44003, 44004, 44005, 189000] φ ψ ∧ (0 ≤ r ∧ r ≤ 1)) := by
    refine sf_131_187_188 hI h1a h1b (fun r1 ψ1 hI1 hF1 hp1 hE1 => ?_)
    rw [hE] at hE1
    cases hE1
    exact ⟨hI1, hF1, hp1⟩
  obtain ⟨_, _, _, _, h⟩ := hh
  exact h
theorem K_F_RideLaws_odds_0 {φ : hf_F} {ψ : hf_F} {r : Int} {v1 v2 v3 : Int} (hI : Inv φ) (h1a : (-2147483648 : Int) ≤ v1) (h1b : v1 ≤ 2147483647) (h2a : (-2147483648 : Int) ≤ v2) (h2b : v2 ≤ 2147483647) (h3a : (-2147483648 : Int) ≤ v3) (h3b : v3 ≤ 2147483647) (hE : F_RideLaws_odds_0 φ v1 v2 v3 = (r, ψ)) : Inv ψ ∧ Fr [44, 45, 46, 47, 48, 49, 50, 51, 44000, 44001, 44002, 44003, 44004, 44005, 189000] φ ψ ∧ (True) := by
  have hh : hw [] (0 + 5) 130 0 [(0, (2, 0)), (1, (0, v1)), (2, (0, v2)), (3, (0, v3))] [] φ 0 (fun _ _ _ => Inv ψ ∧ Fr [44, 45, 46, 47, 48, 49, 50, 51, 44000, 44001, 44002, 44003, 44004, 44005, 189000] φ ψ ∧ (True)) := by
    refine sf_130_0 hI h1a h1b h2a h2b h3a h3b (fun r1 ψ1 hI1 hF1 hp1 hE1 => ?_)
    rw [hE] at hE1
    cases hE1
    exact ⟨hI1, hF1, hp1⟩
  obtain ⟨_, _, _, _, h⟩ := hh
  exact h
theorem K_F_Outlook_ticksToMeet_187 {φ : hf_F}  {r : Int} {v1 v2 : Int} (hI : Inv φ) (h1a : 0 ≤ v1) (h1b : v1 ≤ 7) (h2a : 0 ≤ v2) (h2b : v2 ≤ 7) (hE : F_Outlook_ticksToMeet_187 φ v1 v2 = r) : True := by
  have hh : hw [] (0 + 1) 99 0 [(0, (2, 187)), (1, (0, v1)), (2, (0, v2))] [] φ 0 (fun _ _ _ => True) := by
    refine sf_99_187 hI h1a h1b h2a h2b (fun r1 hp1 hE1 => ?_)
    rw [hE] at hE1
    cases hE1
    exact hp1
  obtain ⟨_, _, _, _, h⟩ := hh
  exact h
theorem K_F_RideLaws_both_0 {φ : hf_F}  {r : Int} {v1 v2 : Int} (hI : Inv φ) (h1a : (-2147483648 : Int) ≤ v1) (h1b : v1 ≤ 2147483647) (h2a : (-2147483648 : Int) ≤ v2) (h2b : v2 ≤ 2147483647) (hE : F_RideLaws_both_0 φ v1 v2 = r) : True := by
  have hh : hw [] (0 + 2) 98 0 [(0, (2, 0)), (1, (0, v1)), (2, (0, v2))] [] φ 0 (fun _ _ _ => True) := by
    refine sf_98_0 hI h1a h1b h2a h2b (fun r1 hp1 hE1 => ?_)
    rw [hE] at hE1
    cases hE1
    exact hp1
  obtain ⟨_, _, _, _, h⟩ := hh
  exact h
theorem K_F_Sentence_isTrue_26_17 {φ : hf_F}  {r : Int} {v1 v3 : Int} (hI : Inv φ) (h1a : 0 ≤ v1) (h1b : v1 ≤ 39) (h3a : 0 ≤ v3) (h3b : v3 ≤ 5) (hE : F_Sentence_isTrue_26_17 φ v1 v3 = r) : 0 ≤ r ∧ r ≤ 1 := by
  have hh : hw [] (0 + 2) 154 0 [(0, (2, 26)), (1, (0, v1)), (2, (2, 17)), (3, (0, v3))] [] φ 0 (fun _ _ _ => 0 ≤ r ∧ r ≤ 1) := by
    refine sf_154_26_17 hI h1a h1b h3a h3b (fun r1 hp1 hE1 => ?_)
    rw [hE] at hE1
    cases hE1
    exact hp1
  obtain ⟨_, _, _, _, h⟩ := hh
  exact h
theorem K_F_Sentence_fits_26_17 {φ : hf_F}  {r : Int} {v2 : Int} (hI : Inv φ) (h2a : 0 ≤ v2) (h2b : v2 ≤ 5) (hE : F_Sentence_fits_26_17 φ v2 = r) : 0 ≤ r ∧ r ≤ 1 := by
  have hh : hw [] (0 + 3) 153 0 [(0, (2, 26)), (1, (2, 17)), (2, (0, v2))] [] φ 0 (fun _ _ _ => 0 ≤ r ∧ r ≤ 1) := by
    refine sf_153_26_17 hI h2a h2b (fun r1 hp1 hE1 => ?_)
    rw [hE] at hE1
    cases hE1
    exact hp1
  obtain ⟨_, _, _, _, h⟩ := hh
  exact h
theorem K_F_RideLaws_said_0 {φ : hf_F}  {r : Int} {v1 : Int} (hI : Inv φ) (h1a : (-2147483648 : Int) ≤ v1) (h1b : v1 ≤ 2147483647) (hE : F_RideLaws_said_0 φ v1 = r) : True := by
  have hh : hw [] (0 + 4) 152 0 [(0, (2, 0)), (1, (0, v1))] [] φ 0 (fun _ _ _ => True) := by
    refine sf_152_0 hI h1a h1b (fun r1 hp1 hE1 => ?_)
    rw [hE] at hE1
    cases hE1
    exact hp1
  obtain ⟨_, _, _, _, h⟩ := hh
  exact h
theorem K_F_Line_addByte_189 {φ : hf_F} {ψ : hf_F} {v1 : Int} (hI : Inv φ)  (hE : F_Line_addByte_189 φ v1 = ψ) : Inv ψ ∧ Fr [190, 190001] φ ψ := by
  have hh : hw [] 0 122 0 [(0, (2, 189)), (1, (0, v1))] [] φ 0 (fun _ _ _ => Inv ψ ∧ Fr [190, 190001] φ ψ) := by
    refine sf_122_189 hI  (fun ψ1 hI1 hF1 hE1 => ?_)
    rw [hE] at hE1
    cases hE1
    exact ⟨hI1, hF1⟩
  obtain ⟨_, _, _, _, h⟩ := hh
  exact h
theorem K_F_Line_addName_189 {φ : hf_F} {ψ : hf_F} {v1 : Int} (hI : Inv φ)  (hE : F_Line_addName_189 φ v1 = ψ) : Inv ψ ∧ Fr [190, 190001] φ ψ := by
  have hh : hw [] (0 + 1) 121 0 [(0, (2, 189)), (1, (1, v1))] [] φ 0 (fun _ _ _ => Inv ψ ∧ Fr [190, 190001] φ ψ) := by
    refine sf_121_189 hI  (fun ψ1 hI1 hF1 hE1 => ?_)
    rw [hE] at hE1
    cases hE1
    exact ⟨hI1, hF1⟩
  obtain ⟨_, _, _, _, h⟩ := hh
  exact h
theorem K_F_Line_addText_189_100014 {φ : hf_F} {ψ : hf_F}  (hI : Inv φ)  (hE : F_Line_addText_189_100014 φ = ψ) : Inv ψ ∧ Fr [190, 190001] φ ψ := by
  have hh : hw [] (0 + 4) 123 0 [(0, (2, 189)), (1, (4, 14))] [] φ 0 (fun _ _ _ => Inv ψ ∧ Fr [190, 190001] φ ψ) := by
    refine sf_123_189_100014 hI  (fun ψ1 hI1 hF1 hE1 => ?_)
    rw [hE] at hE1
    cases hE1
    exact ⟨hI1, hF1⟩
  obtain ⟨_, _, _, _, h⟩ := hh
  exact h
theorem K_F_Line_addText_189_100018 {φ : hf_F} {ψ : hf_F}  (hI : Inv φ)  (hE : F_Line_addText_189_100018 φ = ψ) : Inv ψ ∧ Fr [190, 190001] φ ψ := by
  have hh : hw [] (0 + 4) 123 0 [(0, (2, 189)), (1, (4, 18))] [] φ 0 (fun _ _ _ => Inv ψ ∧ Fr [190, 190001] φ ψ) := by
    refine sf_123_189_100018 hI  (fun ψ1 hI1 hF1 hE1 => ?_)
    rw [hE] at hE1
    cases hE1
    exact ⟨hI1, hF1⟩
  obtain ⟨_, _, _, _, h⟩ := hh
  exact h
theorem K_F_Line_addText_189_100016 {φ : hf_F} {ψ : hf_F}  (hI : Inv φ)  (hE : F_Line_addText_189_100016 φ = ψ) : Inv ψ ∧ Fr [190, 190001] φ ψ := by
  have hh : hw [] (0 + 4) 123 0 [(0, (2, 189)), (1, (4, 16))] [] φ 0 (fun _ _ _ => Inv ψ ∧ Fr [190, 190001] φ ψ) := by
    refine sf_123_189_100016 hI  (fun ψ1 hI1 hF1 hE1 => ?_)
    rw [hE] at hE1
    cases hE1
    exact ⟨hI1, hF1⟩
  obtain ⟨_, _, _, _, h⟩ := hh
  exact h
theorem K_F_Line_addText_189_100012 {φ : hf_F} {ψ : hf_F}  (hI : Inv φ)  (hE : F_Line_addText_189_100012 φ = ψ) : Inv ψ ∧ Fr [190, 190001] φ ψ := by
  have hh : hw [] (0 + 4) 123 0 [(0, (2, 189)), (1, (4, 12))] [] φ 0 (fun _ _ _ => Inv ψ ∧ Fr [190, 190001] φ ψ) := by
    refine sf_123_189_100012 hI  (fun ψ1 hI1 hF1 hE1 => ?_)
    rw [hE] at hE1
    cases hE1
    exact ⟨hI1, hF1⟩
  obtain ⟨_, _, _, _, h⟩ := hh
  exact h
theorem K_F_RideLaws_line_0 {φ : hf_F} {ψ : hf_F} {r : Int} {v1 : Int} (hI : Inv φ) (h1a : (-2147483648 : Int) ≤ v1) (h1b : v1 ≤ 2147483647) (hE : F_RideLaws_line_0 φ v1 = (r, ψ)) : Inv ψ ∧ Fr [190, 190001] φ ψ ∧ (True) := by
  have hh : hw [] (0 + 5) 119 0 [(0, (2, 0)), (1, (0, v1))] [] φ 0 (fun _ _ _ => Inv ψ ∧ Fr [190, 190001] φ ψ ∧ (True)) := by
    refine sf_119_0 hI h1a h1b (fun r1 ψ1 hI1 hF1 hp1 hE1 => ?_)
    rw [hE] at hE1
    cases hE1
    exact ⟨hI1, hF1, hp1⟩
  obtain ⟨_, _, _, _, h⟩ := hh
  exact h
theorem K_F_RideLawsModel_next_192 {φ : hf_F} {ψ : hf_F}  (hI : Inv φ)  (hE : F_RideLawsModel_next_192 φ = ψ) : Inv ψ ∧ Fr [193004, 193011, 193012, 193013, 193014, 193017] φ ψ ∧ ((φ 192 4 ≤ ψ 192 4 ∧ (ψ 192 11 = 3 → φ 192 4 < ψ 192 4) ∧ ψ 192 18 = φ 192 18 ∧ ψ 192 30 = φ 192 30 ∧ ψ 192 34 = φ 192 34 ∧ ψ 192 35 = φ 192 35 ∧ ψ 192 36 = φ 192 36 ∧ ψ 192 38 = φ 192 38)) := by
  have hh : hw [] (0 + 1) 175 0 [(0, (2, 192))] [] φ 0 (fun _ _ _ => Inv ψ ∧ Fr [193004, 193011, 193012, 193013, 193014, 193017] φ ψ ∧ ((φ 192 4 ≤ ψ 192 4 ∧ (ψ 192 11 = 3 → φ 192 4 < ψ 192 4) ∧ ψ 192 18 = φ 192 18 ∧ ψ 192 30 = φ 192 30 ∧ ψ 192 34 = φ 192 34 ∧ ψ 192 35 = φ 192 35 ∧ ψ 192 36 = φ 192 36 ∧ ψ 192 38 = φ 192 38))) := by
    refine sf_175_192 hI  (fun ψ1 hI1 hF1 hV1 hE1 => ?_)
    rw [hE] at hE1
    cases hE1
    exact ⟨hI1, hF1, hV1⟩
  obtain ⟨_, _, _, _, h⟩ := hh
  exact h
theorem K_F_RideLawsModel_clears_192 {φ : hf_F} {ψ : hf_F}  (hI : Inv φ)  (hE : F_RideLawsModel_clears_192 φ = ψ) : Inv ψ ∧ Fr [195] φ ψ := by
  have hh : hw [] 0 172 0 [(0, (2, 192))] [] φ 0 (fun _ _ _ => Inv ψ ∧ Fr [195] φ ψ) := by
    refine sf_172_192 hI  (fun ψ1 hI1 hF1 hE1 => ?_)
    rw [hE] at hE1
    cases hE1
    exact ⟨hI1, hF1⟩
  obtain ⟨_, _, _, _, h⟩ := hh
  exact h
theorem K_F_RideLawsModel_tries_192 {φ : hf_F} {ψ : hf_F}  (hI : Inv φ)  (hE : F_RideLawsModel_tries_192 φ = ψ) : Inv ψ ∧ Fr [200] φ ψ := by
  have hh : hw [] 0 233 0 [(0, (2, 192))] [] φ 0 (fun _ _ _ => Inv ψ ∧ Fr [200] φ ψ) := by
    refine sf_233_192 hI  (fun ψ1 hI1 hF1 hE1 => ?_)
    rw [hE] at hE1
    cases hE1
    exact ⟨hI1, hF1⟩
  obtain ⟨_, _, _, _, h⟩ := hh
  exact h
theorem K_F_RideLawsModel_back_192 {φ : hf_F} {ψ : hf_F}  (hI : Inv φ)  (hE : F_RideLawsModel_back_192 φ = ψ) : Inv ψ ∧ Fr [194] φ ψ := by
  have hh : hw [] 0 235 0 [(0, (2, 192))] [] φ 0 (fun _ _ _ => Inv ψ ∧ Fr [194] φ ψ) := by
    refine sf_235_192 hI  (fun ψ1 hI1 hF1 hE1 => ?_)
    rw [hE] at hE1
    cases hE1
    exact ⟨hI1, hF1⟩
  obtain ⟨_, _, _, _, h⟩ := hh
  exact h
theorem K_F_RideLawsModel_keep_192 {φ : hf_F} {ψ : hf_F}  (hI : Inv φ)  (hE : F_RideLawsModel_keep_192 φ = ψ) : Inv ψ ∧ Fr [199, 193022] φ ψ ∧ ((1 ≤ ψ 192 22 ∧ ψ 192 22 ≤ 8)) := by
  have hh : hw [] 0 216 0 [(0, (2, 192))] [] φ 0 (fun _ _ _ => Inv ψ ∧ Fr [199, 193022] φ ψ ∧ ((1 ≤ ψ 192 22 ∧ ψ 192 22 ≤ 8))) := by
    refine sf_216_192 hI  (fun ψ1 hI1 hF1 hV1 hE1 => ?_)
    rw [hE] at hE1
    cases hE1
    exact ⟨hI1, hF1, hV1⟩
  obtain ⟨_, _, _, _, h⟩ := hh
  exact h
theorem K_F_RideLawsModel_undo_192 {φ : hf_F} {ψ : hf_F} {r : Int}  (hI : Inv φ)  (hE : F_RideLawsModel_undo_192 φ = (r, ψ)) : Inv ψ ∧ Fr [194, 193000, 193022] φ ψ ∧ (True) := by
  have hh : hw [] 0 228 0 [(0, (2, 192))] [] φ 0 (fun _ _ _ => Inv ψ ∧ Fr [194, 193000, 193022] φ ψ ∧ (True)) := by
    refine sf_228_192 hI  (fun r1 ψ1 hI1 hF1 hp1 hE1 => ?_)
    rw [hE] at hE1
    cases hE1
    exact ⟨hI1, hF1, hp1⟩
  obtain ⟨_, _, _, _, h⟩ := hh
  exact h
theorem K_F_RideLawsModel_blows_192 {φ : hf_F} {ψ : hf_F}  (hI : Inv φ)  (hE : F_RideLawsModel_blows_192 φ = ψ) : Inv ψ ∧ Fr [194] φ ψ := by
  have hh : hw [] 0 223 0 [(0, (2, 192))] [] φ 0 (fun _ _ _ => Inv ψ ∧ Fr [194] φ ψ) := by
    refine sf_223_192 hI  (fun ψ1 hI1 hF1 hE1 => ?_)
    rw [hE] at hE1
    cases hE1
    exact ⟨hI1, hF1⟩
  obtain ⟨_, _, _, _, h⟩ := hh
  exact h
theorem K_F_RideLawsModel_image_192 {φ : hf_F} {ψ : hf_F} {r : Int} {v1 : Int} (hI : Inv φ) (h1a : (-2147483648 : Int) ≤ v1) (h1b : v1 ≤ 2147483647) (hE : F_RideLawsModel_image_192 φ v1 = (r, ψ)) : Inv ψ ∧ Fr [205, 206, 207, 193000] φ ψ ∧ (0 ≤ r ∧ r ≤ 1 ∧ KP v1 r φ ψ) := by
  have hh : hw [] (0 + 1) 273 0 [(0, (2, 192)), (1, (0, v1))] [] φ 0 (fun _ _ _ => Inv ψ ∧ Fr [205, 206, 207, 193000] φ ψ ∧ (0 ≤ r ∧ r ≤ 1 ∧ KP v1 r φ ψ)) := by
    refine sf_273_192 hI h1a h1b (fun r1 ψ1 hI1 hF1 hp1 hE1 => ?_)
    rw [hE] at hE1
    cases hE1
    exact ⟨hI1, hF1, hp1⟩
  obtain ⟨_, _, _, _, h⟩ := hh
  exact h
theorem K_F_RideLawsModel_restore_192 {φ : hf_F} {ψ : hf_F} {r : Int} {v1 : Int} (hI : Inv φ) (h1a : (-2147483648 : Int) ≤ v1) (h1b : v1 ≤ 2147483647) (hE : F_RideLawsModel_restore_192 φ v1 = (r, ψ)) : Inv ψ ∧ Fr [194, 197, 193000, 193022] φ ψ ∧ (0 ≤ r ∧ r ≤ 1 ∧ KQ v1 r φ) := by
  have hh : hw [] (0 + 1) 274 0 [(0, (2, 192)), (1, (0, v1))] [] φ 0 (fun _ _ _ => Inv ψ ∧ Fr [194, 197, 193000, 193022] φ ψ ∧ (0 ≤ r ∧ r ≤ 1 ∧ KQ v1 r φ)) := by
    refine sf_274_192 hI h1a h1b (fun r1 ψ1 hI1 hF1 hp1 hE1 => ?_)
    rw [hE] at hE1
    cases hE1
    exact ⟨hI1, hF1, hp1⟩
  obtain ⟨_, _, _, _, h⟩ := hh
  exact h
theorem K_F_RideLawsModel_sign_192 {φ : hf_F} {ψ : hf_F} {r : Int} {v1 : Int} (hI : Inv φ) (h1a : 0 ≤ v1) (h1b : v1 ≤ 255) (hE : F_RideLawsModel_sign_192 φ v1 = (r, ψ)) : Inv ψ ∧ Fr [193004, 193011, 193012, 193013, 193014, 193015, 193016, 193017] φ ψ ∧ (0 ≤ r ∧ r ≤ 1 ∧ (((r = 1 → φ 192 11 = 3) ∧ φ 192 4 ≤ ψ 192 4) ∧ ψ 192 30 = φ 192 30)) := by
  have hh : hw [] (0 + 2) 198 0 [(0, (2, 192)), (1, (0, v1))] [] φ 0 (fun _ _ _ => Inv ψ ∧ Fr [193004, 193011, 193012, 193013, 193014, 193015, 193016, 193017] φ ψ ∧ (0 ≤ r ∧ r ≤ 1 ∧ (((r = 1 → φ 192 11 = 3) ∧ φ 192 4 ≤ ψ 192 4) ∧ ψ 192 30 = φ 192 30))) := by
    refine sf_198_192 hI h1a h1b (fun r1 ψ1 hI1 hF1 hp1 hE1 => ?_)
    rw [hE] at hE1
    cases hE1
    exact ⟨hI1, hF1, hp1⟩
  obtain ⟨_, _, _, _, h⟩ := hh
  exact h
theorem K_F_RideLawsModel_takes_192 {φ : hf_F} {ψ : hf_F} {r : Int} {v1 v2 : Int} (hI : Inv φ) (h1a : 0 ≤ v1) (h1b : v1 ≤ 2) (h2a : 0 ≤ v2) (h2b : v2 ≤ 999) (hE : F_RideLawsModel_takes_192 φ v1 v2 = (r, ψ)) : Inv ψ ∧ Fr [193004, 193011, 193012, 193013, 193014, 193015, 193016, 193017, 193018] φ ψ ∧ (0 ≤ r ∧ r ≤ 1 ∧ ((φ 192 4 ≤ ψ 192 4 ∧ (r = 1 → (ψ 192 11 = 3 → φ 192 4 < ψ 192 4) ∧ v1 ≤ ψ 192 18 ∧ ψ 192 18 ≤ v2)) ∧ ψ 192 30 = φ 192 30)) := by
  have hh : hw [] (0 + 2) 187 0 [(0, (2, 192)), (1, (0, v1)), (2, (0, v2))] [] φ 0 (fun _ _ _ => Inv ψ ∧ Fr [193004, 193011, 193012, 193013, 193014, 193015, 193016, 193017, 193018] φ ψ ∧ (0 ≤ r ∧ r ≤ 1 ∧ ((φ 192 4 ≤ ψ 192 4 ∧ (r = 1 → (ψ 192 11 = 3 → φ 192 4 < ψ 192 4) ∧ v1 ≤ ψ 192 18 ∧ ψ 192 18 ≤ v2)) ∧ ψ 192 30 = φ 192 30))) := by
    refine sf_187_192 hI h1a h1b h2a h2b (fun r1 ψ1 hI1 hF1 hp1 hE1 => ?_)
    rw [hE] at hE1
    cases hE1
    exact ⟨hI1, hF1, hp1⟩
  obtain ⟨_, _, _, _, h⟩ := hh
  exact h
theorem K_F_RideLawsModel_seek_192 {φ : hf_F}  {r : Int} {v1 v2 : Int} (hI : Inv φ) (h1a : 0 ≤ v1) (h1b : v1 ≤ 58) (h2a : 0 ≤ v2) (h2b : v2 ≤ 8) (hp0 : v1 + v2 ≤ 66) (hE : F_RideLawsModel_seek_192 φ v1 v2 = r) : (-1 : Int) ≤ r ∧ r ≤ 7 ∧ (r = -1 ∨ (0 ≤ r ∧ r < v2)) := by
  have hh : hw [] 0 185 0 [(0, (2, 192)), (1, (0, v1)), (2, (0, v2))] [] φ 0 (fun _ _ _ => (-1 : Int) ≤ r ∧ r ≤ 7 ∧ (r = -1 ∨ (0 ≤ r ∧ r < v2))) := by
    refine sf_185_192 hI h1a h1b h2a h2b hp0 (fun r1 hp1 hE1 => ?_)
    rw [hE] at hE1
    cases hE1
    exact hp1
  obtain ⟨_, _, _, _, h⟩ := hh
  exact h
theorem K_F_RideLawsModel_isName_192 {φ : hf_F}  {r : Int}  (hI : Inv φ)  (hE : F_RideLawsModel_isName_192 φ = r) : 0 ≤ r ∧ r ≤ 1 := by
  have hh : hw [] 0 184 0 [(0, (2, 192))] [] φ 0 (fun _ _ _ => 0 ≤ r ∧ r ≤ 1) := by
    refine sf_184_192 hI  (fun r1 hp1 hE1 => ?_)
    rw [hE] at hE1
    cases hE1
    exact hp1
  obtain ⟨_, _, _, _, h⟩ := hh
  exact h
theorem K_F_RideLawsModel_fresh_192 {φ : hf_F} {ψ : hf_F} {r : Int} {v1 : Int} (hI : Inv φ) (h1a : 33 ≤ v1) (h1b : v1 ≤ 65) (hE : F_RideLawsModel_fresh_192 φ v1 = (r, ψ)) : Inv ψ ∧ Fr [197, 193004, 193011, 193012, 193013, 193014, 193015, 193016, 193017] φ ψ ∧ (0 ≤ r ∧ r ≤ 1 ∧ (φ 192 4 ≤ ψ 192 4 ∧ (r = 1 → ψ 192 11 = 3 → φ 192 4 < ψ 192 4))) := by
  have hh : hw [] (0 + 2) 183 0 [(0, (2, 192)), (1, (0, v1))] [] φ 0 (fun _ _ _ => Inv ψ ∧ Fr [197, 193004, 193011, 193012, 193013, 193014, 193015, 193016, 193017] φ ψ ∧ (0 ≤ r ∧ r ≤ 1 ∧ (φ 192 4 ≤ ψ 192 4 ∧ (r = 1 → ψ 192 11 = 3 → φ 192 4 < ψ 192 4)))) := by
    refine sf_183_192 hI h1a h1b (fun r1 ψ1 hI1 hF1 hp1 hE1 => ?_)
    rw [hE] at hE1
    cases hE1
    exact ⟨hI1, hF1, hp1⟩
  obtain ⟨_, _, _, _, h⟩ := hh
  exact h
theorem K_F_RideLawsModel_looksAt_192 {φ : hf_F} {ψ : hf_F} {r : Int} {v1 v2 : Int} (hI : Inv φ) (h1a : 0 ≤ v1) (h1b : v1 ≤ 58) (h2a : 0 ≤ v2) (h2b : v2 ≤ 8) (hp0 : v1 + v2 ≤ 66) (hE : F_RideLawsModel_looksAt_192 φ v1 v2 = (r, ψ)) : Inv ψ ∧ Fr [193015, 193016, 193018] φ ψ ∧ (0 ≤ r ∧ r ≤ 1 ∧ ((((r = 1 → 0 ≤ ψ 192 18 ∧ ψ 192 18 < v2) ∧ ψ 192 4 = φ 192 4) ∧ ψ 192 30 = φ 192 30) ∧ (r = 1 → ψ 192 34 = φ 192 34 ∧ ψ 192 35 = φ 192 35 ∧ ψ 192 36 = φ 192 36 ∧ ψ 192 38 = φ 192 38))) := by
  have hh : hw [] (0 + 1) 191 0 [(0, (2, 192)), (1, (0, v1)), (2, (0, v2))] [] φ 0 (fun _ _ _ => Inv ψ ∧ Fr [193015, 193016, 193018] φ ψ ∧ (0 ≤ r ∧ r ≤ 1 ∧ ((((r = 1 → 0 ≤ ψ 192 18 ∧ ψ 192 18 < v2) ∧ ψ 192 4 = φ 192 4) ∧ ψ 192 30 = φ 192 30) ∧ (r = 1 → ψ 192 34 = φ 192 34 ∧ ψ 192 35 = φ 192 35 ∧ ψ 192 36 = φ 192 36 ∧ ψ 192 38 = φ 192 38)))) := by
    refine sf_191_192 hI h1a h1b h2a h2b hp0 (fun r1 ψ1 hI1 hF1 hp1 hE1 => ?_)
    rw [hE] at hE1
    cases hE1
    exact ⟨hI1, hF1, hp1⟩
  obtain ⟨_, _, _, _, h⟩ := hh
  exact h
theorem K_F_RideLawsModel_takesName_192 {φ : hf_F} {ψ : hf_F} {r : Int} {v1 v2 : Int} (hI : Inv φ) (h1a : 0 ≤ v1) (h1b : v1 ≤ 58) (h2a : 0 ≤ v2) (h2b : v2 ≤ 8) (hp0 : v1 + v2 ≤ 66) (hE : F_RideLawsModel_takesName_192 φ v1 v2 = (r, ψ)) : Inv ψ ∧ Fr [193004, 193011, 193012, 193013, 193014, 193015, 193016, 193017, 193018] φ ψ ∧ (0 ≤ r ∧ r ≤ 1 ∧ (((r = 1 → 0 ≤ ψ 192 18 ∧ ψ 192 18 < v2 ∧ (ψ 192 11 = 3 → φ 192 4 < ψ 192 4)) ∧ φ 192 4 ≤ ψ 192 4) ∧ ψ 192 30 = φ 192 30)) := by
  have hh : hw [] (0 + 2) 190 0 [(0, (2, 192)), (1, (0, v1)), (2, (0, v2))] [] φ 0 (fun _ _ _ => Inv ψ ∧ Fr [193004, 193011, 193012, 193013, 193014, 193015, 193016, 193017, 193018] φ ψ ∧ (0 ≤ r ∧ r ≤ 1 ∧ (((r = 1 → 0 ≤ ψ 192 18 ∧ ψ 192 18 < v2 ∧ (ψ 192 11 = 3 → φ 192 4 < ψ 192 4)) ∧ φ 192 4 ≤ ψ 192 4) ∧ ψ 192 30 = φ 192 30))) := by
    refine sf_190_192 hI h1a h1b h2a h2b hp0 (fun r1 ψ1 hI1 hF1 hp1 hE1 => ?_)
    rw [hE] at hE1
    cases hE1
    exact ⟨hI1, hF1, hp1⟩
  obtain ⟨_, _, _, _, h⟩ := hh
  exact h
theorem K_F_RideLawsModel_puts_192_k2_2_k3_30 {φ : hf_F} {ψ : hf_F} {r : Int} {v1 : Int} (hI : Inv φ) (h1a : 5 ≤ v1) (h1b : v1 ≤ 7) (hE : F_RideLawsModel_puts_192_k2_2_k3_30 φ v1 = (r, ψ)) : Inv ψ ∧ Fr [195, 193004, 193011, 193012, 193013, 193014, 193015, 193016, 193017, 193018] φ ψ ∧ (0 ≤ r ∧ r ≤ 1 ∧ (φ 192 4 ≤ ψ 192 4 ∧ (r = 1 → ψ 192 11 = 3 → φ 192 4 < ψ 192 4) ∧ ψ 195 0 = φ 195 0)) := by
  have hh : hw [] (0 + 3) 186 0 [(0, (2, 192)), (1, (0, v1)), (2, (0, 2)), (3, (0, 30))] [] φ 0 (fun _ _ _ => Inv ψ ∧ Fr [195, 193004, 193011, 193012, 193013, 193014, 193015, 193016, 193017, 193018] φ ψ ∧ (0 ≤ r ∧ r ≤ 1 ∧ (φ 192 4 ≤ ψ 192 4 ∧ (r = 1 → ψ 192 11 = 3 → φ 192 4 < ψ 192 4) ∧ ψ 195 0 = φ 195 0))) := by
    refine sf_186_192_k2_2_k3_30 hI h1a h1b (fun r1 ψ1 hI1 hF1 hp1 hE1 => ?_)
    rw [hE] at hE1
    cases hE1
    exact ⟨hI1, hF1, hp1⟩
  obtain ⟨_, _, _, _, h⟩ := hh
  exact h
theorem K_F_RideLawsModel_puts_192_k2_1_k3_9 {φ : hf_F} {ψ : hf_F} {r : Int} {v1 : Int} (hI : Inv φ) (h1a : 8 ≤ v1) (h1b : v1 ≤ 10) (hE : F_RideLawsModel_puts_192_k2_1_k3_9 φ v1 = (r, ψ)) : Inv ψ ∧ Fr [195, 193004, 193011, 193012, 193013, 193014, 193015, 193016, 193017, 193018] φ ψ ∧ (0 ≤ r ∧ r ≤ 1 ∧ (φ 192 4 ≤ ψ 192 4 ∧ (r = 1 → ψ 192 11 = 3 → φ 192 4 < ψ 192 4) ∧ ψ 195 0 = φ 195 0)) := by
  have hh : hw [] (0 + 3) 186 0 [(0, (2, 192)), (1, (0, v1)), (2, (0, 1)), (3, (0, 9))] [] φ 0 (fun _ _ _ => Inv ψ ∧ Fr [195, 193004, 193011, 193012, 193013, 193014, 193015, 193016, 193017, 193018] φ ψ ∧ (0 ≤ r ∧ r ≤ 1 ∧ (φ 192 4 ≤ ψ 192 4 ∧ (r = 1 → ψ 192 11 = 3 → φ 192 4 < ψ 192 4) ∧ ψ 195 0 = φ 195 0))) := by
    refine sf_186_192_k2_1_k3_9 hI h1a h1b (fun r1 ψ1 hI1 hF1 hp1 hE1 => ?_)
    rw [hE] at hE1
    cases hE1
    exact ⟨hI1, hF1, hp1⟩
  obtain ⟨_, _, _, _, h⟩ := hh
  exact h
theorem K_F_RideLawsModel_readRing_192 {φ : hf_F} {ψ : hf_F} {r : Int}  (hI : Inv φ)  (hE : F_RideLawsModel_readRing_192 φ = (r, ψ)) : Inv ψ ∧ Fr [195, 197, 193004, 193011, 193012, 193013, 193014, 193015, 193016, 193017, 193018] φ ψ ∧ (0 ≤ r ∧ r ≤ 1 ∧ (φ 192 4 ≤ ψ 192 4 ∧ (r = 1 → ψ 192 11 = 3 → φ 192 4 < ψ 192 4))) := by
  have hh : hw [] (0 + 4) 181 0 [(0, (2, 192))] [] φ 0 (fun _ _ _ => Inv ψ ∧ Fr [195, 197, 193004, 193011, 193012, 193013, 193014, 193015, 193016, 193017, 193018] φ ψ ∧ (0 ≤ r ∧ r ≤ 1 ∧ (φ 192 4 ≤ ψ 192 4 ∧ (r = 1 → ψ 192 11 = 3 → φ 192 4 < ψ 192 4)))) := by
    refine sf_181_192 hI  (fun r1 ψ1 hI1 hF1 hp1 hE1 => ?_)
    rw [hE] at hE1
    cases hE1
    exact ⟨hI1, hF1, hp1⟩
  obtain ⟨_, _, _, _, h⟩ := hh
  exact h
theorem K_F_RideLawsModel_readSeat_192 {φ : hf_F} {ψ : hf_F} {r : Int}  (hI : Inv φ)  (hE : F_RideLawsModel_readSeat_192 φ = (r, ψ)) : Inv ψ ∧ Fr [195, 197, 193004, 193011, 193012, 193013, 193014, 193015, 193016, 193017, 193018] φ ψ ∧ (0 ≤ r ∧ r ≤ 1 ∧ (φ 192 4 ≤ ψ 192 4 ∧ (r = 1 → ψ 192 11 = 3 → φ 192 4 < ψ 192 4))) := by
  have hh : hw [] (0 + 3) 189 0 [(0, (2, 192))] [] φ 0 (fun _ _ _ => Inv ψ ∧ Fr [195, 197, 193004, 193011, 193012, 193013, 193014, 193015, 193016, 193017, 193018] φ ψ ∧ (0 ≤ r ∧ r ≤ 1 ∧ (φ 192 4 ≤ ψ 192 4 ∧ (r = 1 → ψ 192 11 = 3 → φ 192 4 < ψ 192 4)))) := by
    refine sf_189_192 hI  (fun r1 ψ1 hI1 hF1 hp1 hE1 => ?_)
    rw [hE] at hE1
    cases hE1
    exact ⟨hI1, hF1, hp1⟩
  obtain ⟨_, _, _, _, h⟩ := hh
  exact h
theorem K_F_RideLawsModel_readWord_192 {φ : hf_F} {ψ : hf_F} {r : Int}  (hI : Inv φ)  (hE : F_RideLawsModel_readWord_192 φ = (r, ψ)) : Inv ψ ∧ Fr [195, 197, 193004, 193011, 193012, 193013, 193014, 193015, 193016, 193017] φ ψ ∧ (0 ≤ r ∧ r ≤ 1 ∧ (φ 192 4 ≤ ψ 192 4 ∧ (r = 1 → ψ 192 11 = 3 → φ 192 4 < ψ 192 4))) := by
  have hh : hw [] (0 + 3) 192 0 [(0, (2, 192))] [] φ 0 (fun _ _ _ => Inv ψ ∧ Fr [195, 197, 193004, 193011, 193012, 193013, 193014, 193015, 193016, 193017] φ ψ ∧ (0 ≤ r ∧ r ≤ 1 ∧ (φ 192 4 ≤ ψ 192 4 ∧ (r = 1 → ψ 192 11 = 3 → φ 192 4 < ψ 192 4)))) := by
    refine sf_192_192 hI  (fun r1 ψ1 hI1 hF1 hp1 hE1 => ?_)
    rw [hE] at hE1
    cases hE1
    exact ⟨hI1, hF1, hp1⟩
  obtain ⟨_, _, _, _, h⟩ := hh
  exact h
theorem K_F_RideLawsModel_readRider_192 {φ : hf_F} {ψ : hf_F} {r : Int}  (hI : Inv φ)  (hE : F_RideLawsModel_readRider_192 φ = (r, ψ)) : Inv ψ ∧ Fr [195, 197, 193004, 193011, 193012, 193013, 193014, 193015, 193016, 193017, 193018] φ ψ ∧ (0 ≤ r ∧ r ≤ 1 ∧ (φ 192 4 ≤ ψ 192 4 ∧ (r = 1 → ψ 192 11 = 3 → φ 192 4 < ψ 192 4))) := by
  have hh : hw [] (0 + 3) 193 0 [(0, (2, 192))] [] φ 0 (fun _ _ _ => Inv ψ ∧ Fr [195, 197, 193004, 193011, 193012, 193013, 193014, 193015, 193016, 193017, 193018] φ ψ ∧ (0 ≤ r ∧ r ≤ 1 ∧ (φ 192 4 ≤ ψ 192 4 ∧ (r = 1 → ψ 192 11 = 3 → φ 192 4 < ψ 192 4)))) := by
    refine sf_193_192 hI  (fun r1 ψ1 hI1 hF1 hp1 hE1 => ?_)
    rw [hE] at hE1
    cases hE1
    exact ⟨hI1, hF1, hp1⟩
  obtain ⟨_, _, _, _, h⟩ := hh
  exact h
theorem K_F_RideLawsModel_readSays_192 {φ : hf_F} {ψ : hf_F} {r : Int}  (hI : Inv φ)  (hE : F_RideLawsModel_readSays_192 φ = (r, ψ)) : Inv ψ ∧ Fr [195, 193004, 193011, 193012, 193013, 193014, 193015, 193016, 193017, 193018] φ ψ ∧ (0 ≤ r ∧ r ≤ 1 ∧ (φ 192 4 ≤ ψ 192 4 ∧ (r = 1 → ψ 192 11 = 3 → φ 192 4 < ψ 192 4))) := by
  have hh : hw [] (0 + 3) 194 0 [(0, (2, 192))] [] φ 0 (fun _ _ _ => Inv ψ ∧ Fr [195, 193004, 193011, 193012, 193013, 193014, 193015, 193016, 193017, 193018] φ ψ ∧ (0 ≤ r ∧ r ≤ 1 ∧ (φ 192 4 ≤ ψ 192 4 ∧ (r = 1 → ψ 192 11 = 3 → φ 192 4 < ψ 192 4)))) := by
    refine sf_194_192 hI  (fun r1 ψ1 hI1 hF1 hp1 hE1 => ?_)
    rw [hE] at hE1
    cases hE1
    exact ⟨hI1, hF1, hp1⟩
  obtain ⟨_, _, _, _, h⟩ := hh
  exact h
theorem K_F_RideLawsModel_readLaw_192 {φ : hf_F} {ψ : hf_F} {r : Int}  (hI : Inv φ)  (hE : F_RideLawsModel_readLaw_192 φ = (r, ψ)) : Inv ψ ∧ Fr [195, 197, 193004, 193011, 193012, 193013, 193014, 193015, 193016, 193017, 193018] φ ψ ∧ (0 ≤ r ∧ r ≤ 1 ∧ (φ 192 4 ≤ ψ 192 4 ∧ (r = 1 → ψ 192 11 = 3 → φ 192 4 < ψ 192 4))) := by
  have hh : hw [] (0 + 3) 195 0 [(0, (2, 192))] [] φ 0 (fun _ _ _ => Inv ψ ∧ Fr [195, 197, 193004, 193011, 193012, 193013, 193014, 193015, 193016, 193017, 193018] φ ψ ∧ (0 ≤ r ∧ r ≤ 1 ∧ (φ 192 4 ≤ ψ 192 4 ∧ (r = 1 → ψ 192 11 = 3 → φ 192 4 < ψ 192 4)))) := by
    refine sf_195_192 hI  (fun r1 ψ1 hI1 hF1 hp1 hE1 => ?_)
    rw [hE] at hE1
    cases hE1
    exact ⟨hI1, hF1, hp1⟩
  obtain ⟨_, _, _, _, h⟩ := hh
  exact h
theorem K_F_RideLawsModel_readClash_192 {φ : hf_F} {ψ : hf_F} {r : Int}  (hI : Inv φ)  (hE : F_RideLawsModel_readClash_192 φ = (r, ψ)) : Inv ψ ∧ Fr [195, 193004, 193011, 193012, 193013, 193014, 193015, 193016, 193017, 193018] φ ψ ∧ (0 ≤ r ∧ r ≤ 1 ∧ (φ 192 4 ≤ ψ 192 4 ∧ (r = 1 → ψ 192 11 = 3 → φ 192 4 < ψ 192 4))) := by
  have hh : hw [] (0 + 3) 196 0 [(0, (2, 192))] [] φ 0 (fun _ _ _ => Inv ψ ∧ Fr [195, 193004, 193011, 193012, 193013, 193014, 193015, 193016, 193017, 193018] φ ψ ∧ (0 ≤ r ∧ r ≤ 1 ∧ (φ 192 4 ≤ ψ 192 4 ∧ (r = 1 → ψ 192 11 = 3 → φ 192 4 < ψ 192 4)))) := by
    refine sf_196_192 hI  (fun r1 ψ1 hI1 hF1 hp1 hE1 => ?_)
    rw [hE] at hE1
    cases hE1
    exact ⟨hI1, hF1, hp1⟩
  obtain ⟨_, _, _, _, h⟩ := hh
  exact h
theorem K_F_RideLawsModel_readLine_192 {φ : hf_F} {ψ : hf_F} {r : Int}  (hI : Inv φ)  (hE : F_RideLawsModel_readLine_192 φ = (r, ψ)) : Inv ψ ∧ Fr [195, 197, 193004, 193011, 193012, 193013, 193014, 193015, 193016, 193017, 193018] φ ψ ∧ (0 ≤ r ∧ r ≤ 1 ∧ (φ 192 4 ≤ ψ 192 4 ∧ (r = 1 → ψ 192 11 = 3 → φ 192 4 < ψ 192 4))) := by
  have hh : hw [] (0 + 5) 179 0 [(0, (2, 192))] [] φ 0 (fun _ _ _ => Inv ψ ∧ Fr [195, 197, 193004, 193011, 193012, 193013, 193014, 193015, 193016, 193017, 193018] φ ψ ∧ (0 ≤ r ∧ r ≤ 1 ∧ (φ 192 4 ≤ ψ 192 4 ∧ (r = 1 → ψ 192 11 = 3 → φ 192 4 < ψ 192 4)))) := by
    refine sf_179_192 hI  (fun r1 ψ1 hI1 hF1 hp1 hE1 => ?_)
    rw [hE] at hE1
    cases hE1
    exact ⟨hI1, hF1, hp1⟩
  obtain ⟨_, _, _, _, h⟩ := hh
  exact h
theorem K_F_RideLawsModel_ride_192 {φ : hf_F} {ψ : hf_F} {r : Int}  (hI : Inv φ)  (hE : F_RideLawsModel_ride_192 φ = (r, ψ)) : Inv ψ ∧ Fr [194, 195, 197, 193000, 193002, 193003, 193004, 193005, 193011, 193012, 193013, 193014, 193015, 193016, 193017, 193018, 193019, 193022] φ ψ ∧ (True ∧ (ψ 192 2 = 0)) := by
  have hh : hw [] (0 + 6) 173 0 [(0, (2, 192))] [] φ 0 (fun _ _ _ => Inv ψ ∧ Fr [194, 195, 197, 193000, 193002, 193003, 193004, 193005, 193011, 193012, 193013, 193014, 193015, 193016, 193017, 193018, 193019, 193022] φ ψ ∧ (True ∧ (ψ 192 2 = 0))) := by
    refine sf_173_192 hI  (fun r1 ψ1 hI1 hF1 hp1 hE1 => ?_)
    rw [hE] at hE1
    cases hE1
    exact ⟨hI1, hF1, hp1⟩
  obtain ⟨_, _, _, _, h⟩ := hh
  exact h
theorem K_F_RideLawsModel_saidInAll_192 {φ : hf_F}  {r : Int}  (hI : Inv φ)  (hE : F_RideLawsModel_saidInAll_192 φ = r) : True ∧ r = sxa φ := by
  have hh : hw [] 0 213 0 [(0, (2, 192))] [] φ 0 (fun _ _ _ => True ∧ r = sxa φ) := by
    refine sf_213_192 hI  (fun r1 hp1 hE1 => ?_)
    rw [hE] at hE1
    cases hE1
    exact hp1
  obtain ⟨_, _, _, _, h⟩ := hh
  exact h
theorem K_F_RideLawsModel_throwsIf_192 {φ : hf_F} {ψ : hf_F} {r : Int} {v1 : Int} (hI : Inv φ) (h1a : 0 ≤ v1) (h1b : v1 ≤ 1) (hE : F_RideLawsModel_throwsIf_192 φ v1 = (r, ψ)) : Inv ψ ∧ Fr [193000] φ ψ ∧ (0 ≤ r ∧ r ≤ 1 ∧ r = v1) := by
  have hh : hw [] 0 203 0 [(0, (2, 192)), (1, (0, v1))] [] φ 0 (fun _ _ _ => Inv ψ ∧ Fr [193000] φ ψ ∧ (0 ≤ r ∧ r ≤ 1 ∧ r = v1)) := by
    refine sf_203_192 hI h1a h1b (fun r1 ψ1 hI1 hF1 hp1 hE1 => ?_)
    rw [hE] at hE1
    cases hE1
    exact ⟨hI1, hF1, hp1⟩
  obtain ⟨_, _, _, _, h⟩ := hh
  exact h
theorem K_F_RideLawsModel_rider_192 {φ : hf_F} {ψ : hf_F} {r : Int} {v1 v2 : Int} (hI : Inv φ) (h1a : (-2147483648 : Int) ≤ v1) (h1b : v1 ≤ 2147483647) (h2a : (-2147483648 : Int) ≤ v2) (h2b : v2 ≤ 2147483647) (hE : F_RideLawsModel_rider_192 φ v1 v2 = (r, ψ)) : Inv ψ ∧ Fr [193000] φ ψ ∧ (True) := by
  have hh : hw [] (0 + 2) 201 0 [(0, (2, 192)), (1, (0, v1)), (2, (0, v2))] [] φ 0 (fun _ _ _ => Inv ψ ∧ Fr [193000] φ ψ ∧ (True)) := by
    refine sf_201_192 hI h1a h1b h2a h2b (fun r1 ψ1 hI1 hF1 hp1 hE1 => ?_)
    rw [hE] at hE1
    cases hE1
    exact ⟨hI1, hF1, hp1⟩
  obtain ⟨_, _, _, _, h⟩ := hh
  exact h
theorem K_F_RideLawsModel_now_192 {φ : hf_F} {ψ : hf_F} {r : Int} {v1 : Int} (hI : Inv φ) (h1a : (-2147483648 : Int) ≤ v1) (h1b : v1 ≤ 2147483647) (hE : F_RideLawsModel_now_192 φ v1 = (r, ψ)) : Inv ψ ∧ Fr [193000] φ ψ ∧ (True) := by
  have hh : hw [] (0 + 1) 212 0 [(0, (2, 192)), (1, (0, v1))] [] φ 0 (fun _ _ _ => Inv ψ ∧ Fr [193000] φ ψ ∧ (True)) := by
    refine sf_212_192 hI h1a h1b (fun r1 ψ1 hI1 hF1 hp1 hE1 => ?_)
    rw [hE] at hE1
    cases hE1
    exact ⟨hI1, hF1, hp1⟩
  obtain ⟨_, _, _, _, h⟩ := hh
  exact h
theorem K_F_RideLawsModel_mount_192 {φ : hf_F} {ψ : hf_F} {r : Int} {v1 v2 : Int} (hI : Inv φ) (h1a : (-2147483648 : Int) ≤ v1) (h1b : v1 ≤ 2147483647) (h2a : (-2147483648 : Int) ≤ v2) (h2b : v2 ≤ 2147483647) (hE : F_RideLawsModel_mount_192 φ v1 v2 = (r, ψ)) : Inv ψ ∧ Fr [194, 199, 193000, 193022] φ ψ ∧ (True) := by
  have hh : hw [] (0 + 2) 214 0 [(0, (2, 192)), (1, (0, v1)), (2, (0, v2))] [] φ 0 (fun _ _ _ => Inv ψ ∧ Fr [194, 199, 193000, 193022] φ ψ ∧ (True)) := by
    refine sf_214_192 hI h1a h1b h2a h2b (fun r1 ψ1 hI1 hF1 hp1 hE1 => ?_)
    rw [hE] at hE1
    cases hE1
    exact ⟨hI1, hF1, hp1⟩
  obtain ⟨_, _, _, _, h⟩ := hh
  exact h
theorem K_F_RideLawsModel_alight_192 {φ : hf_F} {ψ : hf_F} {r : Int} {v1 : Int} (hI : Inv φ) (h1a : (-2147483648 : Int) ≤ v1) (h1b : v1 ≤ 2147483647) (hE : F_RideLawsModel_alight_192 φ v1 = (r, ψ)) : Inv ψ ∧ Fr [194, 199, 193000, 193022] φ ψ ∧ (True) := by
  have hh : hw [] (0 + 2) 217 0 [(0, (2, 192)), (1, (0, v1))] [] φ 0 (fun _ _ _ => Inv ψ ∧ Fr [194, 199, 193000, 193022] φ ψ ∧ (True)) := by
    refine sf_217_192 hI h1a h1b (fun r1 ψ1 hI1 hF1 hp1 hE1 => ?_)
    rw [hE] at hE1
    cases hE1
    exact ⟨hI1, hF1, hp1⟩
  obtain ⟨_, _, _, _, h⟩ := hh
  exact h
theorem K_F_RideLawsModel_learns_192 {φ : hf_F} {ψ : hf_F} {v1 v2 : Int} (hI : Inv φ) (h1a : 0 ≤ v1) (h1b : v1 ≤ 5) (h2a : 0 ≤ v2) (h2b : v2 ≤ 7) (hp0 : φ 194 (118 + v1).toNat ≤ 5) (hE : F_RideLawsModel_learns_192 φ v1 v2 = ψ) : Inv ψ ∧ Fr [194] φ ψ := by
  have hh : hw [] 0 220 0 [(0, (2, 192)), (1, (0, v1)), (2, (0, v2))] [] φ 0 (fun _ _ _ => Inv ψ ∧ Fr [194] φ ψ) := by
    refine sf_220_192 hI h1a h1b h2a h2b hp0 (fun ψ1 hI1 hF1 hE1 => ?_)
    rw [hE] at hE1
    cases hE1
    exact ⟨hI1, hF1⟩
  obtain ⟨_, _, _, _, h⟩ := hh
  exact h
theorem K_F_RideLawsModel_learn_192 {φ : hf_F} {ψ : hf_F} {r : Int} {v1 v2 : Int} (hI : Inv φ) (h1a : (-2147483648 : Int) ≤ v1) (h1b : v1 ≤ 2147483647) (h2a : (-2147483648 : Int) ≤ v2) (h2b : v2 ≤ 2147483647) (hE : F_RideLawsModel_learn_192 φ v1 v2 = (r, ψ)) : Inv ψ ∧ Fr [194, 199, 193000, 193022] φ ψ ∧ (True) := by
  have hh : hw [] (0 + 2) 218 0 [(0, (2, 192)), (1, (0, v1)), (2, (0, v2))] [] φ 0 (fun _ _ _ => Inv ψ ∧ Fr [194, 199, 193000, 193022] φ ψ ∧ (True)) := by
    refine sf_218_192 hI h1a h1b h2a h2b (fun r1 ψ1 hI1 hF1 hp1 hE1 => ?_)
    rw [hE] at hE1
    cases hE1
    exact ⟨hI1, hF1, hp1⟩
  obtain ⟨_, _, _, _, h⟩ := hh
  exact h
theorem K_F_RideLawsModel_whistle_192 {φ : hf_F} {ψ : hf_F} {r : Int}  (hI : Inv φ)  (hE : F_RideLawsModel_whistle_192 φ = (r, ψ)) : Inv ψ ∧ Fr [194, 199, 193000, 193022] φ ψ ∧ (True) := by
  have hh : hw [] (0 + 1) 221 0 [(0, (2, 192))] [] φ 0 (fun _ _ _ => Inv ψ ∧ Fr [194, 199, 193000, 193022] φ ψ ∧ (True)) := by
    refine sf_221_192 hI  (fun r1 ψ1 hI1 hF1 hp1 hE1 => ?_)
    rw [hE] at hE1
    cases hE1
    exact ⟨hI1, hF1, hp1⟩
  obtain ⟨_, _, _, _, h⟩ := hh
  exact h
theorem K_F_RideLawsModel_saysOne_192 {φ : hf_F} {ψ : hf_F} {v1 : Int} (hI : Inv φ) (h1a : 0 ≤ v1) (h1b : v1 ≤ 5) (hp0 : 1 ≤ φ 194 (118 + v1).toNat) (hE : F_RideLawsModel_saysOne_192 φ v1 = ψ) : Inv ψ ∧ Fr [194] φ ψ := by
  have hh : hw [] (0 + 1) 227 0 [(0, (2, 192)), (1, (0, v1))] [] φ 0 (fun _ _ _ => Inv ψ ∧ Fr [194] φ ψ) := by
    refine sf_227_192 hI h1a h1b hp0 (fun ψ1 hI1 hF1 hE1 => ?_)
    rw [hE] at hE1
    cases hE1
    exact ⟨hI1, hF1⟩
  obtain ⟨_, _, _, _, h⟩ := hh
  exact h
theorem K_F_RideLawsModel_tick_192 {φ : hf_F} {ψ : hf_F}  (hI : Inv φ)  (hE : F_RideLawsModel_tick_192 φ = ψ) : Inv ψ ∧ Fr [194] φ ψ := by
  have hh : hw [] (0 + 2) 226 0 [(0, (2, 192))] [] φ 0 (fun _ _ _ => Inv ψ ∧ Fr [194] φ ψ) := by
    refine sf_226_192 hI  (fun ψ1 hI1 hF1 hE1 => ?_)
    rw [hE] at hE1
    cases hE1
    exact ⟨hI1, hF1⟩
  obtain ⟨_, _, _, _, h⟩ := hh
  exact h
theorem K_F_RideLawsModel_goesOn_192 {φ : hf_F} {ψ : hf_F} {r : Int} {v1 : Int} (hI : Inv φ) (h1a : (-1 : Int) ≤ v1) (h1b : v1 ≤ 8214) (hE : F_RideLawsModel_goesOn_192 φ v1 = (r, ψ)) : Inv ψ ∧ Fr [194] φ ψ ∧ (True) := by
  have hh : hw [] (0 + 3) 225 0 [(0, (2, 192)), (1, (0, v1))] [] φ 0 (fun _ _ _ => Inv ψ ∧ Fr [194] φ ψ ∧ (True)) := by
    refine sf_225_192 hI h1a h1b (fun r1 ψ1 hI1 hF1 hp1 hE1 => ?_)
    rw [hE] at hE1
    cases hE1
    exact ⟨hI1, hF1, hp1⟩
  obtain ⟨_, _, _, _, h⟩ := hh
  exact h
theorem K_F_RideLawsModel_ticks_192 {φ : hf_F} {ψ : hf_F} {r : Int} {v1 : Int} (hI : Inv φ) (h1a : (-2147483648 : Int) ≤ v1) (h1b : v1 ≤ 2147483647) (hE : F_RideLawsModel_ticks_192 φ v1 = (r, ψ)) : Inv ψ ∧ Fr [194, 199, 193000, 193022] φ ψ ∧ (True) := by
  have hh : hw [] (0 + 4) 224 0 [(0, (2, 192)), (1, (0, v1))] [] φ 0 (fun _ _ _ => Inv ψ ∧ Fr [194, 199, 193000, 193022] φ ψ ∧ (True)) := by
    refine sf_224_192 hI h1a h1b (fun r1 ψ1 hI1 hF1 hp1 hE1 => ?_)
    rw [hE] at hE1
    cases hE1
    exact ⟨hI1, hF1, hp1⟩
  obtain ⟨_, _, _, _, h⟩ := hh
  exact h
theorem K_F_RideLawsModel_stepIn_192 {φ : hf_F}  {r : Int} {v1 v2 : Int} (hI : Inv φ) (h1a : 0 ≤ v1) (h1b : v1 ≤ 7) (h2a : 0 ≤ v2) (h2b : v2 ≤ 900) (hp0 : v1 < φ 194 1) (hE : F_RideLawsModel_stepIn_192 φ v1 v2 = r) : True := by
  have hh : hw [] 0 230 0 [(0, (2, 192)), (1, (0, v1)), (2, (0, v2))] [] φ 0 (fun _ _ _ => True) := by
    refine sf_230_192 hI h1a h1b h2a h2b hp0 (fun r1 hp1 hE1 => ?_)
    rw [hE] at hE1
    cases hE1
    exact hp1
  obtain ⟨_, _, _, _, h⟩ := hh
  exact h
theorem K_F_RideLawsModel_comes_192 {φ : hf_F} {ψ : hf_F} {r : Int} {v1 : Int} (hI : Inv φ) (h1a : (-2147483648 : Int) ≤ v1) (h1b : v1 ≤ 2147483647) (hE : F_RideLawsModel_comes_192 φ v1 = (r, ψ)) : Inv ψ ∧ Fr [193000] φ ψ ∧ (True) := by
  have hh : hw [] (0 + 2) 229 0 [(0, (2, 192)), (1, (0, v1))] [] φ 0 (fun _ _ _ => Inv ψ ∧ Fr [193000] φ ψ ∧ (True)) := by
    refine sf_229_192 hI h1a h1b (fun r1 ψ1 hI1 hF1 hp1 hE1 => ?_)
    rw [hE] at hE1
    cases hE1
    exact ⟨hI1, hF1, hp1⟩
  obtain ⟨_, _, _, _, h⟩ := hh
  exact h
theorem K_F_RideLawsModel_both_192 {φ : hf_F} {ψ : hf_F} {r : Int} {v1 v2 : Int} (hI : Inv φ) (h1a : (-2147483648 : Int) ≤ v1) (h1b : v1 ≤ 2147483647) (h2a : (-2147483648 : Int) ≤ v2) (h2b : v2 ≤ 2147483647) (hE : F_RideLawsModel_both_192 φ v1 v2 = (r, ψ)) : Inv ψ ∧ Fr [193000] φ ψ ∧ (True) := by
  have hh : hw [] (0 + 2) 231 0 [(0, (2, 192)), (1, (0, v1)), (2, (0, v2))] [] φ 0 (fun _ _ _ => Inv ψ ∧ Fr [193000] φ ψ ∧ (True)) := by
    refine sf_231_192 hI h1a h1b h2a h2b (fun r1 ψ1 hI1 hF1 hp1 hE1 => ?_)
    rw [hE] at hE1
    cases hE1
    exact ⟨hI1, hF1, hp1⟩
  obtain ⟨_, _, _, _, h⟩ := hh
  exact h
theorem K_F_RideLawsModel_holdsIn_192 {φ : hf_F} {ψ : hf_F} {r : Int} {v1 v2 v3 : Int} (hI : Inv φ) (h1a : 0 ≤ v1) (h1b : v1 ≤ 7) (h2a : 0 ≤ v2) (h2b : v2 ≤ 1) (h3a : 0 ≤ v3) (h3b : v3 ≤ 300) (hE : F_RideLawsModel_holdsIn_192 φ v1 v2 v3 = (r, ψ)) : Inv ψ ∧ Fr [194] φ ψ ∧ ((-1 : Int) ≤ r ∧ r ≤ 300) := by
  have hh : hw [] (0 + 3) 234 0 [(0, (2, 192)), (1, (0, v1)), (2, (0, v2)), (3, (0, v3))] [] φ 0 (fun _ _ _ => Inv ψ ∧ Fr [194] φ ψ ∧ ((-1 : Int) ≤ r ∧ r ≤ 300)) := by
    refine sf_234_192 hI h1a h1b h2a h2b h3a h3b (fun r1 ψ1 hI1 hF1 hp1 hE1 => ?_)
    rw [hE] at hE1
    cases hE1
    exact ⟨hI1, hF1, hp1⟩
  obtain ⟨_, _, _, _, h⟩ := hh
  exact h
theorem K_F_RideLawsModel_holds_192 {φ : hf_F} {ψ : hf_F} {r : Int} {v1 : Int} (hI : Inv φ) (h1a : (-2147483648 : Int) ≤ v1) (h1b : v1 ≤ 2147483647) (hE : F_RideLawsModel_holds_192 φ v1 = (r, ψ)) : Inv ψ ∧ Fr [194, 200, 193000] φ ψ ∧ (True) := by
  have hh : hw [] (0 + 4) 232 0 [(0, (2, 192)), (1, (0, v1))] [] φ 0 (fun _ _ _ => Inv ψ ∧ Fr [194, 200, 193000] φ ψ ∧ (True)) := by
    refine sf_232_192 hI h1a h1b (fun r1 ψ1 hI1 hF1 hp1 hE1 => ?_)
    rw [hE] at hE1
    cases hE1
    exact ⟨hI1, hF1, hp1⟩
  obtain ⟨_, _, _, _, h⟩ := hh
  exact h
theorem K_F_RideLawsModel_aim_192 {φ : hf_F} {ψ : hf_F} {r : Int} {v1 v2 : Int} (hI : Inv φ) (h1a : (-2147483648 : Int) ≤ v1) (h1b : v1 ≤ 2147483647) (h2a : (-2147483648 : Int) ≤ v2) (h2b : v2 ≤ 2147483647) (hE : F_RideLawsModel_aim_192 φ v1 v2 = (r, ψ)) : Inv ψ ∧ Fr [194, 200, 193000, 193023, 193024] φ ψ ∧ (True) := by
  have hh : hw [] (0 + 4) 236 0 [(0, (2, 192)), (1, (0, v1)), (2, (0, v2))] [] φ 0 (fun _ _ _ => Inv ψ ∧ Fr [194, 200, 193000, 193023, 193024] φ ψ ∧ (True)) := by
    refine sf_236_192 hI h1a h1b h2a h2b (fun r1 ψ1 hI1 hF1 hp1 hE1 => ?_)
    rw [hE] at hE1
    cases hE1
    exact ⟨hI1, hF1, hp1⟩
  obtain ⟨_, _, _, _, h⟩ := hh
  exact h
theorem K_F_RideLawsModel_common {φ : hf_F}  {r : Int} {v0 v1 : Int} (hI : Inv φ) (hp0 : ¬ jm_n v0 = 0) (hE : F_RideLawsModel_common φ v0 v1 = r) : True ∧ ¬ jm_n r = 0 := by
  have hh : hw [] 0 243 0 [(0, (0, v0)), (1, (0, v1))] [] φ 0 (fun _ _ _ => True ∧ ¬ jm_n r = 0) := by
    refine sf_243 hI hp0 (fun r1 hp1 hE1 => ?_)
    rw [hE] at hE1
    cases hE1
    exact hp1
  obtain ⟨_, _, _, _, h⟩ := hh
  exact h
theorem K_F_RideLawsModel_power_192 {φ : hf_F} {ψ : hf_F} {r : Int} {v1 v2 v3 : Int} (hI : Inv φ) (h1a : (-2147483648 : Int) ≤ v1) (h1b : v1 ≤ 2147483647) (h2a : (-2147483648 : Int) ≤ v2) (h2b : v2 ≤ 2147483647) (h3a : (-2147483648 : Int) ≤ v3) (h3b : v3 ≤ 2147483647) (hE : F_RideLawsModel_power_192 φ v1 v2 v3 = (r, ψ)) : Inv ψ ∧ Fr [193000] φ ψ ∧ (True) := by
  have hh : hw [] (0 + 2) 241 0 [(0, (2, 192)), (1, (0, v1)), (2, (0, v2)), (3, (0, v3))] [] φ 0 (fun _ _ _ => Inv ψ ∧ Fr [193000] φ ψ ∧ (True)) := by
    refine sf_241_192 hI h1a h1b h2a h2b h3a h3b (fun r1 ψ1 hI1 hF1 hp1 hE1 => ?_)
    rw [hE] at hE1
    cases hE1
    exact ⟨hI1, hF1, hp1⟩
  obtain ⟨_, _, _, _, h⟩ := hh
  exact h
theorem K_F_RideLawsModel_bits {φ : hf_F}  {r : Int} {v0 : Int} (hI : Inv φ) (h0a : 0 ≤ v0) (h0b : v0 ≤ 256) (hE : F_RideLawsModel_bits φ v0 = r) : True := by
  have hh : hw [] 0 245 0 [(0, (0, v0))] [] φ 0 (fun _ _ _ => True) := by
    refine sf_245 hI h0a h0b (fun r1 hp1 hE1 => ?_)
    rw [hE] at hE1
    cases hE1
    exact hp1
  obtain ⟨_, _, _, _, h⟩ := hh
  exact h
theorem K_F_RideLawsModel_stand_192 {φ : hf_F} {ψ : hf_F} {r : Int}  (hI : Inv φ)  (hE : F_RideLawsModel_stand_192 φ = (r, ψ)) : Inv ψ ∧ Fr [193000, 193025, 193026] φ ψ ∧ (True) := by
  have hh : hw [] (0 + 1) 244 0 [(0, (2, 192))] [] φ 0 (fun _ _ _ => Inv ψ ∧ Fr [193000, 193025, 193026] φ ψ ∧ (True)) := by
    refine sf_244_192 hI  (fun r1 ψ1 hI1 hF1 hp1 hE1 => ?_)
    rw [hE] at hE1
    cases hE1
    exact ⟨hI1, hF1, hp1⟩
  obtain ⟨_, _, _, _, h⟩ := hh
  exact h
theorem K_F_RideLawsModel_all_192 {φ : hf_F} {ψ : hf_F} {r : Int}  (hI : Inv φ)  (hE : F_RideLawsModel_all_192 φ = (r, ψ)) : Inv ψ ∧ Fr [194, 200, 193000] φ ψ ∧ (True) := by
  have hh : hw [] (0 + 3) 238 0 [(0, (2, 192))] [] φ 0 (fun _ _ _ => Inv ψ ∧ Fr [194, 200, 193000] φ ψ ∧ (True)) := by
    refine sf_238_192 hI  (fun r1 ψ1 hI1 hF1 hp1 hE1 => ?_)
    rw [hE] at hE1
    cases hE1
    exact ⟨hI1, hF1, hp1⟩
  obtain ⟨_, _, _, _, h⟩ := hh
  exact h
theorem K_F_RideLawsModel_part_192 {φ : hf_F} {ψ : hf_F} {r : Int} {v1 v2 : Int} (hI : Inv φ) (h1a : (-2147483648 : Int) ≤ v1) (h1b : v1 ≤ 2147483647) (h2a : (-2147483648 : Int) ≤ v2) (h2b : v2 ≤ 2147483647) (hE : F_RideLawsModel_part_192 φ v1 v2 = (r, ψ)) : Inv ψ ∧ Fr [193000] φ ψ ∧ (True) := by
  have hh : hw [] (0 + 2) 247 0 [(0, (2, 192)), (1, (0, v1)), (2, (0, v2))] [] φ 0 (fun _ _ _ => Inv ψ ∧ Fr [193000] φ ψ ∧ (True)) := by
    refine sf_247_192 hI h1a h1b h2a h2b (fun r1 ψ1 hI1 hF1 hp1 hE1 => ?_)
    rw [hE] at hE1
    cases hE1
    exact ⟨hI1, hF1, hp1⟩
  obtain ⟨_, _, _, _, h⟩ := hh
  exact h
theorem K_F_RideLawsModel_most_192 {φ : hf_F} {ψ : hf_F} {r : Int}  (hI : Inv φ)  (hE : F_RideLawsModel_most_192 φ = (r, ψ)) : Inv ψ ∧ Fr [193000] φ ψ ∧ (True) := by
  have hh : hw [] 0 248 0 [(0, (2, 192))] [] φ 0 (fun _ _ _ => Inv ψ ∧ Fr [193000] φ ψ ∧ (True)) := by
    refine sf_248_192 hI  (fun r1 ψ1 hI1 hF1 hp1 hE1 => ?_)
    rw [hE] at hE1
    cases hE1
    exact ⟨hI1, hF1, hp1⟩
  obtain ⟨_, _, _, _, h⟩ := hh
  exact h
theorem K_F_RideLawsModel_lays_192 {φ : hf_F} {ψ : hf_F} {v1 : Int} (hI : Inv φ) (hp0 : φ 192 28 ≤ 47) (hE : F_RideLawsModel_lays_192 φ v1 = ψ) : Inv ψ ∧ Fr [201, 193028] φ ψ ∧ (ψ 192 28 = φ 192 28 + 1) := by
  have hh : hw [] 0 251 0 [(0, (2, 192)), (1, (0, v1))] [] φ 0 (fun _ _ _ => Inv ψ ∧ Fr [201, 193028] φ ψ ∧ (ψ 192 28 = φ 192 28 + 1)) := by
    refine sf_251_192 hI hp0 (fun ψ1 hI1 hF1 hV1 hE1 => ?_)
    rw [hE] at hE1
    cases hE1
    exact ⟨hI1, hF1, hV1⟩
  obtain ⟨_, _, _, _, h⟩ := hh
  exact h
theorem K_F_RideLawsModel_spells_192 {φ : hf_F} {ψ : hf_F} {v1 : Int} (hI : Inv φ) (hp0 : φ 192 28 ≤ 40) (hE : F_RideLawsModel_spells_192 φ v1 = ψ) : Inv ψ ∧ Fr [201, 193028] φ ψ ∧ (ψ 192 28 ≤ φ 192 28 + 8) := by
  have hh : hw [] (0 + 1) 250 0 [(0, (2, 192)), (1, (1, v1))] [] φ 0 (fun _ _ _ => Inv ψ ∧ Fr [201, 193028] φ ψ ∧ (ψ 192 28 ≤ φ 192 28 + 8)) := by
    refine sf_250_192 hI hp0 (fun ψ1 hI1 hF1 hV1 hE1 => ?_)
    rw [hE] at hE1
    cases hE1
    exact ⟨hI1, hF1, hV1⟩
  obtain ⟨_, _, _, _, h⟩ := hh
  exact h
theorem K_F_RideLawsModel_says_192 {φ : hf_F} {ψ : hf_F} {v1 : Int} (hI : Inv φ) (hp0 : φ 192 28 ≤ 39) (hE : F_RideLawsModel_says_192 φ v1 = ψ) : Inv ψ ∧ Fr [201, 193028] φ ψ ∧ (ψ 192 28 ≤ φ 192 28 + 9) := by
  have hh : hw [] (0 + 2) 252 0 [(0, (2, 192)), (1, (1, v1))] [] φ 0 (fun _ _ _ => Inv ψ ∧ Fr [201, 193028] φ ψ ∧ (ψ 192 28 ≤ φ 192 28 + 9)) := by
    refine sf_252_192 hI hp0 (fun ψ1 hI1 hF1 hV1 hE1 => ?_)
    rw [hE] at hE1
    cases hE1
    exact ⟨hI1, hF1, hV1⟩
  obtain ⟨_, _, _, _, h⟩ := hh
  exact h
theorem K_F_RideLawsModel_line_192 {φ : hf_F} {ψ : hf_F} {r : Int} {v1 : Int} (hI : Inv φ) (h1a : (-2147483648 : Int) ≤ v1) (h1b : v1 ≤ 2147483647) (hE : F_RideLawsModel_line_192 φ v1 = (r, ψ)) : Inv ψ ∧ Fr [201, 193000, 193028] φ ψ ∧ (True) := by
  have hh : hw [] (0 + 3) 249 0 [(0, (2, 192)), (1, (0, v1))] [] φ 0 (fun _ _ _ => Inv ψ ∧ Fr [201, 193000, 193028] φ ψ ∧ (True)) := by
    refine sf_249_192 hI h1a h1b (fun r1 ψ1 hI1 hF1 hp1 hE1 => ?_)
    rw [hE] at hE1
    cases hE1
    exact ⟨hI1, hF1, hp1⟩
  obtain ⟨_, _, _, _, h⟩ := hh
  exact h
theorem K_F_RideLawsModel_draw_192 {φ : hf_F} {ψ : hf_F} {r : Int} {v1 : Int} (hI : Inv φ) (h1a : 1 ≤ v1) (h1b : v1 ≤ 12) (hE : F_RideLawsModel_draw_192 φ v1 = (r, ψ)) : Inv ψ ∧ Fr [193029] φ ψ ∧ (0 ≤ r ∧ r ≤ 11 ∧ r < v1) := by
  have hh : hw [] 0 257 0 [(0, (2, 192)), (1, (0, v1))] [] φ 0 (fun _ _ _ => Inv ψ ∧ Fr [193029] φ ψ ∧ (0 ≤ r ∧ r ≤ 11 ∧ r < v1)) := by
    refine sf_257_192 hI h1a h1b (fun r1 ψ1 hI1 hF1 hp1 hE1 => ?_)
    rw [hE] at hE1
    cases hE1
    exact ⟨hI1, hF1, hp1⟩
  obtain ⟨_, _, _, _, h⟩ := hh
  exact h
theorem K_F_RideLawsModel_drawTick_192 {φ : hf_F} {ψ : hf_F}  (hI : Inv φ)  (hE : F_RideLawsModel_drawTick_192 φ = ψ) : Inv ψ ∧ Fr [194, 193029] φ ψ := by
  have hh : hw [] (0 + 2) 256 0 [(0, (2, 192))] [] φ 0 (fun _ _ _ => Inv ψ ∧ Fr [194, 193029] φ ψ) := by
    refine sf_256_192 hI  (fun ψ1 hI1 hF1 hE1 => ?_)
    rw [hE] at hE1
    cases hE1
    exact ⟨hI1, hF1⟩
  obtain ⟨_, _, _, _, h⟩ := hh
  exact h
theorem K_F_RideLawsModel_draws_192 {φ : hf_F} {ψ : hf_F} {r : Int} {v1 v2 : Int} (hI : Inv φ) (h1a : 1 ≤ v1) (h1b : v1 ≤ 60) (hE : F_RideLawsModel_draws_192 φ v1 v2 = (r, ψ)) : Inv ψ ∧ Fr [194, 193029] φ ψ ∧ (True) := by
  have hh : hw [] (0 + 3) 255 0 [(0, (2, 192)), (1, (0, v1)), (2, (0, v2))] [] φ 0 (fun _ _ _ => Inv ψ ∧ Fr [194, 193029] φ ψ ∧ (True)) := by
    refine sf_255_192 hI h1a h1b (fun r1 ψ1 hI1 hF1 hp1 hE1 => ?_)
    rw [hE] at hE1
    cases hE1
    exact ⟨hI1, hF1, hp1⟩
  obtain ⟨_, _, _, _, h⟩ := hh
  exact h
theorem K_F_RideLawsModel_drawn_192 {φ : hf_F} {ψ : hf_F} {r : Int} {v1 v2 : Int} (hI : Inv φ) (h1a : (-2147483648 : Int) ≤ v1) (h1b : v1 ≤ 2147483647) (h2a : (-2147483648 : Int) ≤ v2) (h2b : v2 ≤ 2147483647) (hE : F_RideLawsModel_drawn_192 φ v1 v2 = (r, ψ)) : Inv ψ ∧ Fr [194, 199, 193000, 193022, 193029] φ ψ ∧ (True) := by
  have hh : hw [] (0 + 4) 254 0 [(0, (2, 192)), (1, (0, v1)), (2, (0, v2))] [] φ 0 (fun _ _ _ => Inv ψ ∧ Fr [194, 199, 193000, 193022, 193029] φ ψ ∧ (True)) := by
    refine sf_254_192 hI h1a h1b h2a h2b (fun r1 ψ1 hI1 hF1 hp1 hE1 => ?_)
    rw [hE] at hE1
    cases hE1
    exact ⟨hI1, hF1, hp1⟩
  obtain ⟨_, _, _, _, h⟩ := hh
  exact h
theorem K_F_RideLawsModel_odds_192 {φ : hf_F} {ψ : hf_F} {r : Int} {v1 v2 v3 : Int} (hI : Inv φ) (h1a : (-2147483648 : Int) ≤ v1) (h1b : v1 ≤ 2147483647) (h2a : (-2147483648 : Int) ≤ v2) (h2b : v2 ≤ 2147483647) (h3a : (-2147483648 : Int) ≤ v3) (h3b : v3 ≤ 2147483647) (hE : F_RideLawsModel_odds_192 φ v1 v2 v3 = (r, ψ)) : Inv ψ ∧ Fr [194, 200, 193000, 193029] φ ψ ∧ (True) := by
  have hh : hw [] (0 + 4) 258 0 [(0, (2, 192)), (1, (0, v1)), (2, (0, v2)), (3, (0, v3))] [] φ 0 (fun _ _ _ => Inv ψ ∧ Fr [194, 200, 193000, 193029] φ ψ ∧ (True)) := by
    refine sf_258_192 hI h1a h1b h2a h2b h3a h3b (fun r1 ψ1 hI1 hF1 hp1 hE1 => ?_)
    rw [hE] at hE1
    cases hE1
    exact ⟨hI1, hF1, hp1⟩
  obtain ⟨_, _, _, _, h⟩ := hh
  exact h
theorem K_F_RideLawsModel_does_192 {φ : hf_F} {ψ : hf_F} {r : Int} {v1 v2 v3 : Int} (hI : Inv φ) (h1a : (-1 : Int) ≤ v1) (h1b : v1 ≤ 8214) (h2a : (-1 : Int) ≤ v2) (h2b : v2 ≤ 8214) (h3a : (-1 : Int) ≤ v3) (h3b : v3 ≤ 8214) (hp0 : (v1 = 0 → 0 ≤ v2 ∧ v2 ≤ 5 ∧ 0 ≤ v3 ∧ v3 ≤ 7)) (hp1 : (v1 = 1 → 0 ≤ v2 ∧ v2 ≤ 5)) (hp2 : (v1 = 2 → 0 ≤ v2 ∧ v2 ≤ 5 ∧ 0 ≤ v3 ∧ v3 ≤ 7)) (hE : F_RideLawsModel_does_192 φ v1 v2 v3 = (r, ψ)) : Inv ψ ∧ Fr [194] φ ψ ∧ (True) := by
  have hh : hw [] (0 + 4) 261 0 [(0, (2, 192)), (1, (0, v1)), (2, (0, v2)), (3, (0, v3))] [] φ 0 (fun _ _ _ => Inv ψ ∧ Fr [194] φ ψ ∧ (True)) := by
    refine sf_261_192 hI h1a h1b h2a h2b h3a h3b hp0 hp1 hp2 (fun r1 ψ1 hI1 hF1 hp1 hE1 => ?_)
    rw [hE] at hE1
    cases hE1
    exact ⟨hI1, hF1, hp1⟩
  obtain ⟨_, _, _, _, h⟩ := hh
  exact h
theorem K_F_Plan_numberOf_5_k1_2 {φ : hf_F}  {r : Int} {v2 : Int} (hI : Inv φ)  (hE : F_Plan_numberOf_5_k1_2 φ v2 = r) : (-1 : Int) ≤ r ∧ r ≤ 7 ∧ (r = -1 ∨ (0 ≤ r ∧ r < φ 6 2 ∧ φ 6 2 ≤ 8)) := by
  have hh : hw [] 0 42 0 [(0, (2, 5)), (1, (0, 2)), (2, (1, v2))] [] φ 0 (fun _ _ _ => (-1 : Int) ≤ r ∧ r ≤ 7 ∧ (r = -1 ∨ (0 ≤ r ∧ r < φ 6 2 ∧ φ 6 2 ≤ 8))) := by
    refine sf_42_5_k1_2 hI  (fun r1 hp1 hE1 => ?_)
    rw [hE] at hE1
    cases hE1
    exact hp1
  obtain ⟨_, _, _, _, h⟩ := hh
  exact h
theorem K_F_Reader_peekNamed_1_5_k2_2 {φ : hf_F} {ψ : hf_F} {r : Int}  (hI : Inv φ)  (hE : F_Reader_peekNamed_1_5_k2_2 φ = (r, ψ)) : Inv ψ ∧ Fr [2009, 2010] φ ψ ∧ ((-1 : Int) ≤ r ∧ r ≤ 7 ∧ (r = -1 ∨ (0 ≤ r ∧ r < φ 6 2 ∧ φ 6 2 ≤ 8))) := by
  have hh : hw [] (0 + 1) 47 0 [(0, (2, 1)), (1, (2, 5)), (2, (0, 2))] [] φ 0 (fun _ _ _ => Inv ψ ∧ Fr [2009, 2010] φ ψ ∧ ((-1 : Int) ≤ r ∧ r ≤ 7 ∧ (r = -1 ∨ (0 ≤ r ∧ r < φ 6 2 ∧ φ 6 2 ≤ 8)))) := by
    refine sf_47_1_5_k2_2 hI  (fun r1 ψ1 hI1 hF1 hp1 hE1 => ?_)
    rw [hE] at hE1
    cases hE1
    exact ⟨hI1, hF1, hp1⟩
  obtain ⟨_, _, _, _, h⟩ := hh
  exact h
theorem K_F_BookText_add_183 {φ : hf_F} {ψ : hf_F} {r : Int} {v1 v2 v3 : Int} (hI : Inv φ) (h1a : 7 ≤ v1) (h1b : v1 ≤ 11) (h2a : (-1 : Int) ≤ v2) (h2b : v2 ≤ 5) (h3a : (-1 : Int) ≤ v3) (h3b : v3 ≤ 60) (hp0 : ((v1 = 7 ∨ v1 = 9) → 0 ≤ v2 ∧ 0 ≤ v3 ∧ v3 ≤ 7)) (hp1 : (v1 = 8 → 0 ≤ v2)) (hE : F_BookText_add_183 φ v1 v2 v3 = (r, ψ)) : Inv ψ ∧ Fr [184, 185, 186, 184005] φ ψ ∧ (0 ≤ r ∧ r ≤ 1) := by
  have hh : hw [] 0 136 0 [(0, (2, 183)), (1, (0, v1)), (2, (0, v2)), (3, (0, v3))] [] φ 0 (fun _ _ _ => Inv ψ ∧ Fr [184, 185, 186, 184005] φ ψ ∧ (0 ≤ r ∧ r ≤ 1)) := by
    refine sf_136_183 hI h1a h1b h2a h2b h3a h3b hp0 hp1 (fun r1 ψ1 hI1 hF1 hp1 hE1 => ?_)
    rw [hE] at hE1
    cases hE1
    exact ⟨hI1, hF1, hp1⟩
  obtain ⟨_, _, _, _, h⟩ := hh
  exact h
theorem K_F_Plan_numberOf_5_k1_1 {φ : hf_F}  {r : Int} {v2 : Int} (hI : Inv φ)  (hE : F_Plan_numberOf_5_k1_1 φ v2 = r) : (-1 : Int) ≤ r ∧ r ≤ 7 ∧ (r = -1 ∨ (0 ≤ r ∧ r < φ 6 1 ∧ φ 6 1 ≤ 8)) := by
  have hh : hw [] 0 42 0 [(0, (2, 5)), (1, (0, 1)), (2, (1, v2))] [] φ 0 (fun _ _ _ => (-1 : Int) ≤ r ∧ r ≤ 7 ∧ (r = -1 ∨ (0 ≤ r ∧ r < φ 6 1 ∧ φ 6 1 ≤ 8))) := by
    refine sf_42_5_k1_1 hI  (fun r1 hp1 hE1 => ?_)
    rw [hE] at hE1
    cases hE1
    exact hp1
  obtain ⟨_, _, _, _, h⟩ := hh
  exact h
theorem K_F_Reader_peekNamed_1_5_k2_1 {φ : hf_F} {ψ : hf_F} {r : Int}  (hI : Inv φ)  (hE : F_Reader_peekNamed_1_5_k2_1 φ = (r, ψ)) : Inv ψ ∧ Fr [2009, 2010] φ ψ ∧ ((-1 : Int) ≤ r ∧ r ≤ 7 ∧ (r = -1 ∨ (0 ≤ r ∧ r < φ 6 1 ∧ φ 6 1 ≤ 8))) := by
  have hh : hw [] (0 + 1) 47 0 [(0, (2, 1)), (1, (2, 5)), (2, (0, 1))] [] φ 0 (fun _ _ _ => Inv ψ ∧ Fr [2009, 2010] φ ψ ∧ ((-1 : Int) ≤ r ∧ r ≤ 7 ∧ (r = -1 ∨ (0 ≤ r ∧ r < φ 6 1 ∧ φ 6 1 ≤ 8)))) := by
    refine sf_47_1_5_k2_1 hI  (fun r1 ψ1 hI1 hF1 hp1 hE1 => ?_)
    rw [hE] at hE1
    cases hE1
    exact ⟨hI1, hF1, hp1⟩
  obtain ⟨_, _, _, _, h⟩ := hh
  exact h
theorem K_F_BookText_readAct_183 {φ : hf_F} {ψ : hf_F} {r : Int} {v1 : Int} (hI : Inv φ) (h1a : 0 ≤ v1) (h1b : v1 ≤ 5) (hE : F_BookText_readAct_183 φ v1 = (r, ψ)) : Inv ψ ∧ Fr [184, 185, 186, 2004, 2005, 2006, 2007, 2008, 2009, 2010, 184005] φ ψ ∧ (0 ≤ r ∧ r ≤ 1) := by
  have hh : hw [] (0 + 3) 138 0 [(0, (2, 183)), (1, (0, v1))] [] φ 0 (fun _ _ _ => Inv ψ ∧ Fr [184, 185, 186, 2004, 2005, 2006, 2007, 2008, 2009, 2010, 184005] φ ψ ∧ (0 ≤ r ∧ r ≤ 1)) := by
    refine sf_138_183 hI h1a h1b (fun r1 ψ1 hI1 hF1 hp1 hE1 => ?_)
    rw [hE] at hE1
    cases hE1
    exact ⟨hI1, hF1, hp1⟩
  obtain ⟨_, _, _, _, h⟩ := hh
  exact h
theorem K_F_BookText_readTicks_183 {φ : hf_F} {ψ : hf_F} {r : Int}  (hI : Inv φ)  (hE : F_BookText_readTicks_183 φ = (r, ψ)) : Inv ψ ∧ Fr [184, 185, 186, 2004, 2005, 2006, 2007, 2008, 2009, 2010, 184005] φ ψ ∧ (0 ≤ r ∧ r ≤ 1) := by
  have hh : hw [] (0 + 3) 137 0 [(0, (2, 183))] [] φ 0 (fun _ _ _ => Inv ψ ∧ Fr [184, 185, 186, 2004, 2005, 2006, 2007, 2008, 2009, 2010, 184005] φ ψ ∧ (0 ≤ r ∧ r ≤ 1)) := by
    refine sf_137_183 hI  (fun r1 ψ1 hI1 hF1 hp1 hE1 => ?_)
    rw [hE] at hE1
    cases hE1
    exact ⟨hI1, hF1, hp1⟩
  obtain ⟨_, _, _, _, h⟩ := hh
  exact h
theorem K_F_Plan_numberOf_5_k1_3 {φ : hf_F}  {r : Int} {v2 : Int} (hI : Inv φ)  (hE : F_Plan_numberOf_5_k1_3 φ v2 = r) : (-1 : Int) ≤ r ∧ r ≤ 7 ∧ (r = -1 ∨ (0 ≤ r ∧ r < φ 6 3 ∧ φ 6 3 ≤ 6)) := by
  have hh : hw [] 0 42 0 [(0, (2, 5)), (1, (0, 3)), (2, (1, v2))] [] φ 0 (fun _ _ _ => (-1 : Int) ≤ r ∧ r ≤ 7 ∧ (r = -1 ∨ (0 ≤ r ∧ r < φ 6 3 ∧ φ 6 3 ≤ 6))) := by
    refine sf_42_5_k1_3 hI  (fun r1 hp1 hE1 => ?_)
    rw [hE] at hE1
    cases hE1
    exact hp1
  obtain ⟨_, _, _, _, h⟩ := hh
  exact h
theorem K_F_Reader_peekNamed_1_5_k2_3 {φ : hf_F} {ψ : hf_F} {r : Int}  (hI : Inv φ)  (hE : F_Reader_peekNamed_1_5_k2_3 φ = (r, ψ)) : Inv ψ ∧ Fr [2009, 2010] φ ψ ∧ ((-1 : Int) ≤ r ∧ r ≤ 7 ∧ (r = -1 ∨ (0 ≤ r ∧ r < φ 6 3 ∧ φ 6 3 ≤ 6))) := by
  have hh : hw [] (0 + 1) 47 0 [(0, (2, 1)), (1, (2, 5)), (2, (0, 3))] [] φ 0 (fun _ _ _ => Inv ψ ∧ Fr [2009, 2010] φ ψ ∧ ((-1 : Int) ≤ r ∧ r ≤ 7 ∧ (r = -1 ∨ (0 ≤ r ∧ r < φ 6 3 ∧ φ 6 3 ≤ 6)))) := by
    refine sf_47_1_5_k2_3 hI  (fun r1 ψ1 hI1 hF1 hp1 hE1 => ?_)
    rw [hE] at hE1
    cases hE1
    exact ⟨hI1, hF1, hp1⟩
  obtain ⟨_, _, _, _, h⟩ := hh
  exact h
theorem K_F_BookText_readLine_183 {φ : hf_F} {ψ : hf_F} {r : Int}  (hI : Inv φ)  (hE : F_BookText_readLine_183 φ = (r, ψ)) : Inv ψ ∧ Fr [184, 185, 186, 2004, 2005, 2006, 2007, 2008, 2009, 2010, 184005] φ ψ ∧ (0 ≤ r ∧ r ≤ 1) := by
  have hh : hw [] (0 + 4) 134 0 [(0, (2, 183))] [] φ 0 (fun _ _ _ => Inv ψ ∧ Fr [184, 185, 186, 2004, 2005, 2006, 2007, 2008, 2009, 2010, 184005] φ ψ ∧ (0 ≤ r ∧ r ≤ 1)) := by
    refine sf_134_183 hI  (fun r1 ψ1 hI1 hF1 hp1 hE1 => ?_)
    rw [hE] at hE1
    cases hE1
    exact ⟨hI1, hF1, hp1⟩
  obtain ⟨_, _, _, _, h⟩ := hh
  exact h
theorem K_F_BookText_readAll_183 {φ : hf_F} {ψ : hf_F} {r : Int}  (hI : Inv φ)  (hE : F_BookText_readAll_183 φ = (r, ψ)) : Inv ψ ∧ Fr [184, 185, 186, 2003, 2004, 2005, 2006, 2007, 2008, 2009, 2010, 184005] φ ψ ∧ (0 ≤ r ∧ r ≤ 1) := by
  have hh : hw [] (0 + 5) 133 0 [(0, (2, 183))] [] φ 0 (fun _ _ _ => Inv ψ ∧ Fr [184, 185, 186, 2003, 2004, 2005, 2006, 2007, 2008, 2009, 2010, 184005] φ ψ ∧ (0 ≤ r ∧ r ≤ 1)) := by
    refine sf_133_183 hI  (fun r1 ψ1 hI1 hF1 hp1 hE1 => ?_)
    rw [hE] at hE1
    cases hE1
    exact ⟨hI1, hF1, hp1⟩
  obtain ⟨_, _, _, _, h⟩ := hh
  exact h
theorem K_F_BookText_liveMount_43 {φ : hf_F} {ψ : hf_F} {r : Int} {v0 v1 : Int} (hI : Inv φ) (h0a : 0 ≤ v0) (h0b : v0 ≤ 5) (h1a : 0 ≤ v1) (h1b : v1 ≤ 7) (hE : F_BookText_liveMount_43 φ v0 v1 = (r, ψ)) : Inv ψ ∧ Fr [45, 46] φ ψ ∧ (True) := by
  have hh : hw [] (0 + 1) 141 0 [(0, (0, v0)), (1, (0, v1)), (2, (2, 43))] [] φ 0 (fun _ _ _ => Inv ψ ∧ Fr [45, 46] φ ψ ∧ (True)) := by
    refine sf_141_43 hI h0a h0b h1a h1b (fun r1 ψ1 hI1 hF1 hp1 hE1 => ?_)
    rw [hE] at hE1
    cases hE1
    exact ⟨hI1, hF1, hp1⟩
  obtain ⟨_, _, _, _, h⟩ := hh
  exact h
theorem K_F_State_ticksLeft_43 {φ : hf_F}  {r : Int}  (hI : Inv φ)  (hE : F_State_ticksLeft_43 φ = r) : True := by
  have hh : hw [] 0 90 0 [(0, (2, 43))] [] φ 0 (fun _ _ _ => True) := by
    refine sf_90_43 hI  (fun r1 hp1 hE1 => ?_)
    rw [hE] at hE1
    cases hE1
    exact hp1
  obtain ⟨_, _, _, _, h⟩ := hh
  exact h
theorem K_F_BookText_liveTicks_183_43 {φ : hf_F} {ψ : hf_F} {r : Int} {v1 : Int} (hI : Inv φ) (h1a : (-1 : Int) ≤ v1) (h1b : v1 ≤ 60) (hE : F_BookText_liveTicks_183_43 φ v1 = (r, ψ)) : Inv ψ ∧ Fr [44, 49, 50, 51, 44000, 44001, 44002, 44003, 44004] φ ψ ∧ (True) := by
  have hh : hw [] (0 + 3) 142 0 [(0, (2, 183)), (1, (0, v1)), (2, (2, 43))] [] φ 0 (fun _ _ _ => Inv ψ ∧ Fr [44, 49, 50, 51, 44000, 44001, 44002, 44003, 44004] φ ψ ∧ (True)) := by
    refine sf_142_183_43 hI h1a h1b (fun r1 ψ1 hI1 hF1 hp1 hE1 => ?_)
    rw [hE] at hE1
    cases hE1
    exact ⟨hI1, hF1, hp1⟩
  obtain ⟨_, _, _, _, h⟩ := hh
  exact h
theorem K_F_BookText_liveLine_183_43 {φ : hf_F} {ψ : hf_F} {r : Int} {v1 : Int} (hI : Inv φ) (h1a : 0 ≤ v1) (h1b : v1 ≤ 39) (hp0 : v1 < φ 183 5) (hE : F_BookText_liveLine_183_43 φ v1 = (r, ψ)) : Inv ψ ∧ Fr [44, 45, 46, 47, 48, 49, 50, 51, 44000, 44001, 44002, 44003, 44004, 44005] φ ψ ∧ (True) := by
  have hh : hw [] (0 + 4) 140 0 [(0, (2, 183)), (1, (0, v1)), (2, (2, 43))] [] φ 0 (fun _ _ _ => Inv ψ ∧ Fr [44, 45, 46, 47, 48, 49, 50, 51, 44000, 44001, 44002, 44003, 44004, 44005] φ ψ ∧ (True)) := by
    refine sf_140_183_43 hI h1a h1b hp0 (fun r1 ψ1 hI1 hF1 hp1 hE1 => ?_)
    rw [hE] at hE1
    cases hE1
    exact ⟨hI1, hF1, hp1⟩
  obtain ⟨_, _, _, _, h⟩ := hh
  exact h
theorem K_F_BookText_liveOn_183_43 {φ : hf_F} {ψ : hf_F} {r : Int}  (hI : Inv φ)  (hE : F_BookText_liveOn_183_43 φ = (r, ψ)) : Inv ψ ∧ Fr [44, 45, 46, 47, 48, 49, 50, 51, 44000, 44001, 44002, 44003, 44004, 44005, 184006] φ ψ ∧ (True) := by
  have hh : hw [] (0 + 5) 139 0 [(0, (2, 183)), (1, (2, 43))] [] φ 0 (fun _ _ _ => Inv ψ ∧ Fr [44, 45, 46, 47, 48, 49, 50, 51, 44000, 44001, 44002, 44003, 44004, 44005, 184006] φ ψ ∧ (True)) := by
    refine sf_139_183_43 hI  (fun r1 ψ1 hI1 hF1 hp1 hE1 => ?_)
    rw [hE] at hE1
    cases hE1
    exact ⟨hI1, hF1, hp1⟩
  obtain ⟨_, _, _, _, h⟩ := hh
  exact h
theorem K_F_RideLaws_book_0 {φ : hf_F} {ψ : hf_F} {r : Int} {v1 : Int} (hI : Inv φ) (h1a : (-2147483648 : Int) ≤ v1) (h1b : v1 ≤ 2147483647) (hE : F_RideLaws_book_0 φ v1 = (r, ψ)) : Inv ψ ∧ Fr [18, 19, 20, 21, 22, 23, 24, 25, 44, 45, 46, 47, 48, 49, 50, 51, 109, 111, 112, 113, 114, 115, 116, 117, 118, 120, 121, 122, 123, 124, 125, 126, 127, 129, 130, 131, 132, 133, 134, 135, 136, 138, 139, 140, 141, 142, 143, 144, 145, 147, 148, 149, 150, 151, 152, 153, 154, 156, 157, 158, 159, 160, 161, 162, 163, 165, 166, 167, 168, 169, 170, 171, 172, 174, 175, 176, 177, 178, 179, 180, 181, 184, 185, 186, 191, 1012, 2002, 2003, 2004, 2005, 2006, 2007, 2008, 2009, 2010, 18000, 18001, 18002, 18003, 18004, 18005, 44000, 44001, 44002, 44003, 44004, 44005, 109001, 111000, 111001, 111002, 111003, 111004, 111005, 120000, 120001, 120002, 120003, 120004, 120005, 129000, 129001, 129002, 129003, 129004, 129005, 138000, 138001, 138002, 138003, 138004, 138005, 147000, 147001, 147002, 147003, 147004, 147005, 156000, 156001, 156002, 156003, 156004, 156005, 165000, 165001, 165002, 165003, 165004, 165005, 174000, 174001, 174002, 174003, 174004, 174005, 184005, 184006] φ ψ ∧ (True ∧ (((v1 = 0 ∨ v1 = 1) → ψ 1 2 = 0) ∧ (¬ (v1 = 0 ∨ v1 = 1) → ψ 1 2 = φ 1 2))) := by
  have hh : hw [] (0 + 6) 132 0 [(0, (2, 0)), (1, (0, v1))] [] φ 0 (fun _ _ _ => Inv ψ ∧ Fr [18, 19, 20, 21, 22, 23, 24, 25, 44, 45, 46, 47, 48, 49, 50, 51, 109, 111, 112, 113, 114, 115, 116, 117, 118, 120, 121, 122, 123, 124, 125, 126, 127, 129, 130, 131, 132, 133, 134, 135, 136, 138, 139, 140, 141, 142, 143, 144, 145, 147, 148, 149, 150, 151, 152, 153, 154, 156, 157, 158, 159, 160, 161, 162, 163, 165, 166, 167, 168, 169, 170, 171, 172, 174, 175, 176, 177, 178, 179, 180, 181, 184, 185, 186, 191, 1012, 2002, 2003, 2004, 2005, 2006, 2007, 2008, 2009, 2010, 18000, 18001, 18002, 18003, 18004, 18005, 44000, 44001, 44002, 44003, 44004, 44005, 109001, 111000, 111001, 111002, 111003, 111004, 111005, 120000, 120001, 120002, 120003, 120004, 120005, 129000, 129001, 129002, 129003, 129004, 129005, 138000, 138001, 138002, 138003, 138004, 138005, 147000, 147001, 147002, 147003, 147004, 147005, 156000, 156001, 156002, 156003, 156004, 156005, 165000, 165001, 165002, 165003, 165004, 165005, 174000, 174001, 174002, 174003, 174004, 174005, 184005, 184006] φ ψ ∧ (True ∧ (((v1 = 0 ∨ v1 = 1) → ψ 1 2 = 0) ∧ (¬ (v1 = 0 ∨ v1 = 1) → ψ 1 2 = φ 1 2)))) := by
    refine sf_132_0 hI h1a h1b (fun r1 ψ1 hI1 hF1 hp1 hE1 => ?_)
    rw [hE] at hE1
    cases hE1
    exact ⟨hI1, hF1, hp1⟩
  obtain ⟨_, _, _, _, h⟩ := hh
  exact h
theorem K_F_Sentence_beginsOne_1 {φ : hf_F}  {r : Int}  (hI : Inv φ)  (hE : F_Sentence_beginsOne_1 φ = r) : 0 ≤ r ∧ r ≤ 1 ∧ (r = 1 → 14 ≤ φ 1 7 ∧ φ 1 7 ≤ 22) := by
  have hh : hw [] 0 148 0 [(0, (2, 1))] [] φ 0 (fun _ _ _ => 0 ≤ r ∧ r ≤ 1 ∧ (r = 1 → 14 ≤ φ 1 7 ∧ φ 1 7 ≤ 22)) := by
    refine sf_148_1 hI  (fun r1 hp1 hE1 => ?_)
    rw [hE] at hE1
    cases hE1
    exact hp1
  obtain ⟨_, _, _, _, h⟩ := hh
  exact h
theorem K_F_Sentence_readOne_52_1_5_k3_9 {φ : hf_F} {ψ : hf_F} {r : Int}  (hI : Inv φ)  (hE : F_Sentence_readOne_52_1_5_k3_9 φ = (r, ψ)) : Inv ψ ∧ Fr [53, 54, 55, 2004, 2005, 2006, 2007, 2008, 2009, 2010, 53003, 53004] φ ψ ∧ (0 ≤ r ∧ r ≤ 1) := by
  have hh : hw [] (0 + 4) 147 0 [(0, (2, 52)), (1, (2, 1)), (2, (2, 5)), (3, (0, 9))] [] φ 0 (fun _ _ _ => Inv ψ ∧ Fr [53, 54, 55, 2004, 2005, 2006, 2007, 2008, 2009, 2010, 53003, 53004] φ ψ ∧ (0 ≤ r ∧ r ≤ 1)) := by
    refine sf_147_52_1_5_k3_9 hI  (fun r1 ψ1 hI1 hF1 hp1 hE1 => ?_)
    rw [hE] at hE1
    cases hE1
    exact ⟨hI1, hF1, hp1⟩
  obtain ⟨_, _, _, _, h⟩ := hh
  exact h
theorem K_F_Sentence_readNamed_52_1_5_k4_1 {φ : hf_F} {ψ : hf_F} {r : Int} {v3 : Int} (hI : Inv φ) (h3a : 0 ≤ v3) (h3b : v3 ≤ 22) (hE : F_Sentence_readNamed_52_1_5_k4_1 φ v3 = (r, ψ)) : Inv ψ ∧ Fr [53, 54, 55, 2004, 2005, 2006, 2007, 2008, 2009, 2010, 53003] φ ψ ∧ (0 ≤ r ∧ r ≤ 1) := by
  have hh : hw [] (0 + 3) 150 0 [(0, (2, 52)), (1, (2, 1)), (2, (2, 5)), (3, (0, v3)), (4, (0, 1))] [] φ 0 (fun _ _ _ => Inv ψ ∧ Fr [53, 54, 55, 2004, 2005, 2006, 2007, 2008, 2009, 2010, 53003] φ ψ ∧ (0 ≤ r ∧ r ≤ 1)) := by
    refine sf_150_52_1_5_k4_1 hI h3a h3b (fun r1 ψ1 hI1 hF1 hp1 hE1 => ?_)
    rw [hE] at hE1
    cases hE1
    exact ⟨hI1, hF1, hp1⟩
  obtain ⟨_, _, _, _, h⟩ := hh
  exact h
theorem K_F_Sentence_readNamed_52_1_5_k4_2 {φ : hf_F} {ψ : hf_F} {r : Int} {v3 : Int} (hI : Inv φ) (h3a : 0 ≤ v3) (h3b : v3 ≤ 22) (hE : F_Sentence_readNamed_52_1_5_k4_2 φ v3 = (r, ψ)) : Inv ψ ∧ Fr [53, 54, 55, 2004, 2005, 2006, 2007, 2008, 2009, 2010, 53003] φ ψ ∧ (0 ≤ r ∧ r ≤ 1) := by
  have hh : hw [] (0 + 3) 150 0 [(0, (2, 52)), (1, (2, 1)), (2, (2, 5)), (3, (0, v3)), (4, (0, 2))] [] φ 0 (fun _ _ _ => Inv ψ ∧ Fr [53, 54, 55, 2004, 2005, 2006, 2007, 2008, 2009, 2010, 53003] φ ψ ∧ (0 ≤ r ∧ r ≤ 1)) := by
    refine sf_150_52_1_5_k4_2 hI h3a h3b (fun r1 ψ1 hI1 hF1 hp1 hE1 => ?_)
    rw [hE] at hE1
    cases hE1
    exact ⟨hI1, hF1, hp1⟩
  obtain ⟨_, _, _, _, h⟩ := hh
  exact h
theorem K_F_Sentence_readCompared_52_1 {φ : hf_F} {ψ : hf_F} {r : Int} {v2 : Int} (hI : Inv φ) (h2a : 0 ≤ v2) (h2b : v2 ≤ 22) (hE : F_Sentence_readCompared_52_1 φ v2 = (r, ψ)) : Inv ψ ∧ Fr [53, 54, 55, 2004, 2005, 2006, 2007, 2008, 2009, 2010, 53003] φ ψ ∧ (0 ≤ r ∧ r ≤ 1) := by
  have hh : hw [] (0 + 3) 151 0 [(0, (2, 52)), (1, (2, 1)), (2, (0, v2))] [] φ 0 (fun _ _ _ => Inv ψ ∧ Fr [53, 54, 55, 2004, 2005, 2006, 2007, 2008, 2009, 2010, 53003] φ ψ ∧ (0 ≤ r ∧ r ≤ 1)) := by
    refine sf_151_52_1 hI h2a h2b (fun r1 ψ1 hI1 hF1 hp1 hE1 => ?_)
    rw [hE] at hE1
    cases hE1
    exact ⟨hI1, hF1, hp1⟩
  obtain ⟨_, _, _, _, h⟩ := hh
  exact h
theorem K_F_Sentence_readCond_52_1_5_k3_9 {φ : hf_F} {ψ : hf_F} {r : Int}  (hI : Inv φ)  (hE : F_Sentence_readCond_52_1_5_k3_9 φ = (r, ψ)) : Inv ψ ∧ Fr [53, 54, 55, 2004, 2005, 2006, 2007, 2008, 2009, 2010, 53003, 53004] φ ψ ∧ (0 ≤ r ∧ r ≤ 1) := by
  have hh : hw [] (0 + 5) 146 0 [(0, (2, 52)), (1, (2, 1)), (2, (2, 5)), (3, (0, 9))] [] φ 0 (fun _ _ _ => Inv ψ ∧ Fr [53, 54, 55, 2004, 2005, 2006, 2007, 2008, 2009, 2010, 53003, 53004] φ ψ ∧ (0 ≤ r ∧ r ≤ 1)) := by
    refine sf_146_52_1_5_k3_9 hI  (fun r1 ψ1 hI1 hF1 hp1 hE1 => ?_)
    rw [hE] at hE1
    cases hE1
    exact ⟨hI1, hF1, hp1⟩
  obtain ⟨_, _, _, _, h⟩ := hh
  exact h
theorem K_F_Sentence_readOne_52_1_5_k3_8 {φ : hf_F} {ψ : hf_F} {r : Int}  (hI : Inv φ)  (hE : F_Sentence_readOne_52_1_5_k3_8 φ = (r, ψ)) : Inv ψ ∧ Fr [53, 54, 55, 2004, 2005, 2006, 2007, 2008, 2009, 2010, 53003, 53004] φ ψ ∧ (0 ≤ r ∧ r ≤ 1) := by
  have hh : hw [] (0 + 6) 147 0 [(0, (2, 52)), (1, (2, 1)), (2, (2, 5)), (3, (0, 8))] [] φ 0 (fun _ _ _ => Inv ψ ∧ Fr [53, 54, 55, 2004, 2005, 2006, 2007, 2008, 2009, 2010, 53003, 53004] φ ψ ∧ (0 ≤ r ∧ r ≤ 1)) := by
    refine sf_147_52_1_5_k3_8 hI  (fun r1 ψ1 hI1 hF1 hp1 hE1 => ?_)
    rw [hE] at hE1
    cases hE1
    exact ⟨hI1, hF1, hp1⟩
  obtain ⟨_, _, _, _, h⟩ := hh
  exact h
theorem K_F_Sentence_readCond_52_1_5_k3_8 {φ : hf_F} {ψ : hf_F} {r : Int}  (hI : Inv φ)  (hE : F_Sentence_readCond_52_1_5_k3_8 φ = (r, ψ)) : Inv ψ ∧ Fr [53, 54, 55, 2004, 2005, 2006, 2007, 2008, 2009, 2010, 53003, 53004] φ ψ ∧ (0 ≤ r ∧ r ≤ 1) := by
  have hh : hw [] (0 + 7) 146 0 [(0, (2, 52)), (1, (2, 1)), (2, (2, 5)), (3, (0, 8))] [] φ 0 (fun _ _ _ => Inv ψ ∧ Fr [53, 54, 55, 2004, 2005, 2006, 2007, 2008, 2009, 2010, 53003, 53004] φ ψ ∧ (0 ≤ r ∧ r ≤ 1)) := by
    refine sf_146_52_1_5_k3_8 hI  (fun r1 ψ1 hI1 hF1 hp1 hE1 => ?_)
    rw [hE] at hE1
    cases hE1
    exact ⟨hI1, hF1, hp1⟩
  obtain ⟨_, _, _, _, h⟩ := hh
  exact h
theorem K_F_Sentence_readOne_52_1_5_k3_7 {φ : hf_F} {ψ : hf_F} {r : Int}  (hI : Inv φ)  (hE : F_Sentence_readOne_52_1_5_k3_7 φ = (r, ψ)) : Inv ψ ∧ Fr [53, 54, 55, 2004, 2005, 2006, 2007, 2008, 2009, 2010, 53003, 53004] φ ψ ∧ (0 ≤ r ∧ r ≤ 1) := by
  have hh : hw [] (0 + 8) 147 0 [(0, (2, 52)), (1, (2, 1)), (2, (2, 5)), (3, (0, 7))] [] φ 0 (fun _ _ _ => Inv ψ ∧ Fr [53, 54, 55, 2004, 2005, 2006, 2007, 2008, 2009, 2010, 53003, 53004] φ ψ ∧ (0 ≤ r ∧ r ≤ 1)) := by
    refine sf_147_52_1_5_k3_7 hI  (fun r1 ψ1 hI1 hF1 hp1 hE1 => ?_)
    rw [hE] at hE1
    cases hE1
    exact ⟨hI1, hF1, hp1⟩
  obtain ⟨_, _, _, _, h⟩ := hh
  exact h
theorem K_F_Sentence_readCond_52_1_5_k3_7 {φ : hf_F} {ψ : hf_F} {r : Int}  (hI : Inv φ)  (hE : F_Sentence_readCond_52_1_5_k3_7 φ = (r, ψ)) : Inv ψ ∧ Fr [53, 54, 55, 2004, 2005, 2006, 2007, 2008, 2009, 2010, 53003, 53004] φ ψ ∧ (0 ≤ r ∧ r ≤ 1) := by
  have hh : hw [] (0 + 9) 146 0 [(0, (2, 52)), (1, (2, 1)), (2, (2, 5)), (3, (0, 7))] [] φ 0 (fun _ _ _ => Inv ψ ∧ Fr [53, 54, 55, 2004, 2005, 2006, 2007, 2008, 2009, 2010, 53003, 53004] φ ψ ∧ (0 ≤ r ∧ r ≤ 1)) := by
    refine sf_146_52_1_5_k3_7 hI  (fun r1 ψ1 hI1 hF1 hp1 hE1 => ?_)
    rw [hE] at hE1
    cases hE1
    exact ⟨hI1, hF1, hp1⟩
  obtain ⟨_, _, _, _, h⟩ := hh
  exact h
theorem K_F_Sentence_readOne_52_1_5_k3_6 {φ : hf_F} {ψ : hf_F} {r : Int}  (hI : Inv φ)  (hE : F_Sentence_readOne_52_1_5_k3_6 φ = (r, ψ)) : Inv ψ ∧ Fr [53, 54, 55, 2004, 2005, 2006, 2007, 2008, 2009, 2010, 53003, 53004] φ ψ ∧ (0 ≤ r ∧ r ≤ 1) := by
  have hh : hw [] (0 + 10) 147 0 [(0, (2, 52)), (1, (2, 1)), (2, (2, 5)), (3, (0, 6))] [] φ 0 (fun _ _ _ => Inv ψ ∧ Fr [53, 54, 55, 2004, 2005, 2006, 2007, 2008, 2009, 2010, 53003, 53004] φ ψ ∧ (0 ≤ r ∧ r ≤ 1)) := by
    refine sf_147_52_1_5_k3_6 hI  (fun r1 ψ1 hI1 hF1 hp1 hE1 => ?_)
    rw [hE] at hE1
    cases hE1
    exact ⟨hI1, hF1, hp1⟩
  obtain ⟨_, _, _, _, h⟩ := hh
  exact h
theorem K_F_Sentence_readCond_52_1_5_k3_6 {φ : hf_F} {ψ : hf_F} {r : Int}  (hI : Inv φ)  (hE : F_Sentence_readCond_52_1_5_k3_6 φ = (r, ψ)) : Inv ψ ∧ Fr [53, 54, 55, 2004, 2005, 2006, 2007, 2008, 2009, 2010, 53003, 53004] φ ψ ∧ (0 ≤ r ∧ r ≤ 1) := by
  have hh : hw [] (0 + 11) 146 0 [(0, (2, 52)), (1, (2, 1)), (2, (2, 5)), (3, (0, 6))] [] φ 0 (fun _ _ _ => Inv ψ ∧ Fr [53, 54, 55, 2004, 2005, 2006, 2007, 2008, 2009, 2010, 53003, 53004] φ ψ ∧ (0 ≤ r ∧ r ≤ 1)) := by
    refine sf_146_52_1_5_k3_6 hI  (fun r1 ψ1 hI1 hF1 hp1 hE1 => ?_)
    rw [hE] at hE1
    cases hE1
    exact ⟨hI1, hF1, hp1⟩
  obtain ⟨_, _, _, _, h⟩ := hh
  exact h
theorem K_F_Sentence_readOne_52_1_5_k3_5 {φ : hf_F} {ψ : hf_F} {r : Int}  (hI : Inv φ)  (hE : F_Sentence_readOne_52_1_5_k3_5 φ = (r, ψ)) : Inv ψ ∧ Fr [53, 54, 55, 2004, 2005, 2006, 2007, 2008, 2009, 2010, 53003, 53004] φ ψ ∧ (0 ≤ r ∧ r ≤ 1) := by
  have hh : hw [] (0 + 12) 147 0 [(0, (2, 52)), (1, (2, 1)), (2, (2, 5)), (3, (0, 5))] [] φ 0 (fun _ _ _ => Inv ψ ∧ Fr [53, 54, 55, 2004, 2005, 2006, 2007, 2008, 2009, 2010, 53003, 53004] φ ψ ∧ (0 ≤ r ∧ r ≤ 1)) := by
    refine sf_147_52_1_5_k3_5 hI  (fun r1 ψ1 hI1 hF1 hp1 hE1 => ?_)
    rw [hE] at hE1
    cases hE1
    exact ⟨hI1, hF1, hp1⟩
  obtain ⟨_, _, _, _, h⟩ := hh
  exact h
theorem K_F_Sentence_readCond_52_1_5_k3_5 {φ : hf_F} {ψ : hf_F} {r : Int}  (hI : Inv φ)  (hE : F_Sentence_readCond_52_1_5_k3_5 φ = (r, ψ)) : Inv ψ ∧ Fr [53, 54, 55, 2004, 2005, 2006, 2007, 2008, 2009, 2010, 53003, 53004] φ ψ ∧ (0 ≤ r ∧ r ≤ 1) := by
  have hh : hw [] (0 + 13) 146 0 [(0, (2, 52)), (1, (2, 1)), (2, (2, 5)), (3, (0, 5))] [] φ 0 (fun _ _ _ => Inv ψ ∧ Fr [53, 54, 55, 2004, 2005, 2006, 2007, 2008, 2009, 2010, 53003, 53004] φ ψ ∧ (0 ≤ r ∧ r ≤ 1)) := by
    refine sf_146_52_1_5_k3_5 hI  (fun r1 ψ1 hI1 hF1 hp1 hE1 => ?_)
    rw [hE] at hE1
    cases hE1
    exact ⟨hI1, hF1, hp1⟩
  obtain ⟨_, _, _, _, h⟩ := hh
  exact h
theorem K_F_Sentence_readOne_52_1_5_k3_4 {φ : hf_F} {ψ : hf_F} {r : Int}  (hI : Inv φ)  (hE : F_Sentence_readOne_52_1_5_k3_4 φ = (r, ψ)) : Inv ψ ∧ Fr [53, 54, 55, 2004, 2005, 2006, 2007, 2008, 2009, 2010, 53003, 53004] φ ψ ∧ (0 ≤ r ∧ r ≤ 1) := by
  have hh : hw [] (0 + 14) 147 0 [(0, (2, 52)), (1, (2, 1)), (2, (2, 5)), (3, (0, 4))] [] φ 0 (fun _ _ _ => Inv ψ ∧ Fr [53, 54, 55, 2004, 2005, 2006, 2007, 2008, 2009, 2010, 53003, 53004] φ ψ ∧ (0 ≤ r ∧ r ≤ 1)) := by
    refine sf_147_52_1_5_k3_4 hI  (fun r1 ψ1 hI1 hF1 hp1 hE1 => ?_)
    rw [hE] at hE1
    cases hE1
    exact ⟨hI1, hF1, hp1⟩
  obtain ⟨_, _, _, _, h⟩ := hh
  exact h
theorem K_F_Sentence_readCond_52_1_5_k3_4 {φ : hf_F} {ψ : hf_F} {r : Int}  (hI : Inv φ)  (hE : F_Sentence_readCond_52_1_5_k3_4 φ = (r, ψ)) : Inv ψ ∧ Fr [53, 54, 55, 2004, 2005, 2006, 2007, 2008, 2009, 2010, 53003, 53004] φ ψ ∧ (0 ≤ r ∧ r ≤ 1) := by
  have hh : hw [] (0 + 15) 146 0 [(0, (2, 52)), (1, (2, 1)), (2, (2, 5)), (3, (0, 4))] [] φ 0 (fun _ _ _ => Inv ψ ∧ Fr [53, 54, 55, 2004, 2005, 2006, 2007, 2008, 2009, 2010, 53003, 53004] φ ψ ∧ (0 ≤ r ∧ r ≤ 1)) := by
    refine sf_146_52_1_5_k3_4 hI  (fun r1 ψ1 hI1 hF1 hp1 hE1 => ?_)
    rw [hE] at hE1
    cases hE1
    exact ⟨hI1, hF1, hp1⟩
  obtain ⟨_, _, _, _, h⟩ := hh
  exact h
theorem K_F_Sentence_readOne_52_1_5_k3_3 {φ : hf_F} {ψ : hf_F} {r : Int}  (hI : Inv φ)  (hE : F_Sentence_readOne_52_1_5_k3_3 φ = (r, ψ)) : Inv ψ ∧ Fr [53, 54, 55, 2004, 2005, 2006, 2007, 2008, 2009, 2010, 53003, 53004] φ ψ ∧ (0 ≤ r ∧ r ≤ 1) := by
  have hh : hw [] (0 + 16) 147 0 [(0, (2, 52)), (1, (2, 1)), (2, (2, 5)), (3, (0, 3))] [] φ 0 (fun _ _ _ => Inv ψ ∧ Fr [53, 54, 55, 2004, 2005, 2006, 2007, 2008, 2009, 2010, 53003, 53004] φ ψ ∧ (0 ≤ r ∧ r ≤ 1)) := by
    refine sf_147_52_1_5_k3_3 hI  (fun r1 ψ1 hI1 hF1 hp1 hE1 => ?_)
    rw [hE] at hE1
    cases hE1
    exact ⟨hI1, hF1, hp1⟩
  obtain ⟨_, _, _, _, h⟩ := hh
  exact h
theorem K_F_Sentence_readCond_52_1_5_k3_3 {φ : hf_F} {ψ : hf_F} {r : Int}  (hI : Inv φ)  (hE : F_Sentence_readCond_52_1_5_k3_3 φ = (r, ψ)) : Inv ψ ∧ Fr [53, 54, 55, 2004, 2005, 2006, 2007, 2008, 2009, 2010, 53003, 53004] φ ψ ∧ (0 ≤ r ∧ r ≤ 1) := by
  have hh : hw [] (0 + 17) 146 0 [(0, (2, 52)), (1, (2, 1)), (2, (2, 5)), (3, (0, 3))] [] φ 0 (fun _ _ _ => Inv ψ ∧ Fr [53, 54, 55, 2004, 2005, 2006, 2007, 2008, 2009, 2010, 53003, 53004] φ ψ ∧ (0 ≤ r ∧ r ≤ 1)) := by
    refine sf_146_52_1_5_k3_3 hI  (fun r1 ψ1 hI1 hF1 hp1 hE1 => ?_)
    rw [hE] at hE1
    cases hE1
    exact ⟨hI1, hF1, hp1⟩
  obtain ⟨_, _, _, _, h⟩ := hh
  exact h
theorem K_F_Sentence_readOne_52_1_5_k3_2 {φ : hf_F} {ψ : hf_F} {r : Int}  (hI : Inv φ)  (hE : F_Sentence_readOne_52_1_5_k3_2 φ = (r, ψ)) : Inv ψ ∧ Fr [53, 54, 55, 2004, 2005, 2006, 2007, 2008, 2009, 2010, 53003, 53004] φ ψ ∧ (0 ≤ r ∧ r ≤ 1) := by
  have hh : hw [] (0 + 18) 147 0 [(0, (2, 52)), (1, (2, 1)), (2, (2, 5)), (3, (0, 2))] [] φ 0 (fun _ _ _ => Inv ψ ∧ Fr [53, 54, 55, 2004, 2005, 2006, 2007, 2008, 2009, 2010, 53003, 53004] φ ψ ∧ (0 ≤ r ∧ r ≤ 1)) := by
    refine sf_147_52_1_5_k3_2 hI  (fun r1 ψ1 hI1 hF1 hp1 hE1 => ?_)
    rw [hE] at hE1
    cases hE1
    exact ⟨hI1, hF1, hp1⟩
  obtain ⟨_, _, _, _, h⟩ := hh
  exact h
theorem K_F_Sentence_readCond_52_1_5_k3_2 {φ : hf_F} {ψ : hf_F} {r : Int}  (hI : Inv φ)  (hE : F_Sentence_readCond_52_1_5_k3_2 φ = (r, ψ)) : Inv ψ ∧ Fr [53, 54, 55, 2004, 2005, 2006, 2007, 2008, 2009, 2010, 53003, 53004] φ ψ ∧ (0 ≤ r ∧ r ≤ 1) := by
  have hh : hw [] (0 + 19) 146 0 [(0, (2, 52)), (1, (2, 1)), (2, (2, 5)), (3, (0, 2))] [] φ 0 (fun _ _ _ => Inv ψ ∧ Fr [53, 54, 55, 2004, 2005, 2006, 2007, 2008, 2009, 2010, 53003, 53004] φ ψ ∧ (0 ≤ r ∧ r ≤ 1)) := by
    refine sf_146_52_1_5_k3_2 hI  (fun r1 ψ1 hI1 hF1 hp1 hE1 => ?_)
    rw [hE] at hE1
    cases hE1
    exact ⟨hI1, hF1, hp1⟩
  obtain ⟨_, _, _, _, h⟩ := hh
  exact h
theorem K_F_Sentence_readOne_52_1_5_k3_1 {φ : hf_F} {ψ : hf_F} {r : Int}  (hI : Inv φ)  (hE : F_Sentence_readOne_52_1_5_k3_1 φ = (r, ψ)) : Inv ψ ∧ Fr [53, 54, 55, 2004, 2005, 2006, 2007, 2008, 2009, 2010, 53003, 53004] φ ψ ∧ (0 ≤ r ∧ r ≤ 1) := by
  have hh : hw [] (0 + 20) 147 0 [(0, (2, 52)), (1, (2, 1)), (2, (2, 5)), (3, (0, 1))] [] φ 0 (fun _ _ _ => Inv ψ ∧ Fr [53, 54, 55, 2004, 2005, 2006, 2007, 2008, 2009, 2010, 53003, 53004] φ ψ ∧ (0 ≤ r ∧ r ≤ 1)) := by
    refine sf_147_52_1_5_k3_1 hI  (fun r1 ψ1 hI1 hF1 hp1 hE1 => ?_)
    rw [hE] at hE1
    cases hE1
    exact ⟨hI1, hF1, hp1⟩
  obtain ⟨_, _, _, _, h⟩ := hh
  exact h
theorem K_F_Sentence_readCond_52_1_5_k3_1 {φ : hf_F} {ψ : hf_F} {r : Int}  (hI : Inv φ)  (hE : F_Sentence_readCond_52_1_5_k3_1 φ = (r, ψ)) : Inv ψ ∧ Fr [53, 54, 55, 2004, 2005, 2006, 2007, 2008, 2009, 2010, 53003, 53004] φ ψ ∧ (0 ≤ r ∧ r ≤ 1) := by
  have hh : hw [] (0 + 21) 146 0 [(0, (2, 52)), (1, (2, 1)), (2, (2, 5)), (3, (0, 1))] [] φ 0 (fun _ _ _ => Inv ψ ∧ Fr [53, 54, 55, 2004, 2005, 2006, 2007, 2008, 2009, 2010, 53003, 53004] φ ψ ∧ (0 ≤ r ∧ r ≤ 1)) := by
    refine sf_146_52_1_5_k3_1 hI  (fun r1 ψ1 hI1 hF1 hp1 hE1 => ?_)
    rw [hE] at hE1
    cases hE1
    exact ⟨hI1, hF1, hp1⟩
  obtain ⟨_, _, _, _, h⟩ := hh
  exact h
theorem K_F_Sentence_readAll_52_1_5 {φ : hf_F} {ψ : hf_F} {r : Int}  (hI : Inv φ)  (hE : F_Sentence_readAll_52_1_5 φ = (r, ψ)) : Inv ψ ∧ Fr [53, 54, 55, 2003, 2004, 2005, 2006, 2007, 2008, 2009, 2010, 53003, 53004, 53005] φ ψ ∧ (0 ≤ r ∧ r ≤ 1) := by
  have hh : hw [] (0 + 22) 145 0 [(0, (2, 52)), (1, (2, 1)), (2, (2, 5))] [] φ 0 (fun _ _ _ => Inv ψ ∧ Fr [53, 54, 55, 2003, 2004, 2005, 2006, 2007, 2008, 2009, 2010, 53003, 53004, 53005] φ ψ ∧ (0 ≤ r ∧ r ≤ 1)) := by
    refine sf_145_52_1_5 hI  (fun r1 ψ1 hI1 hF1 hp1 hE1 => ?_)
    rw [hE] at hE1
    cases hE1
    exact ⟨hI1, hF1, hp1⟩
  obtain ⟨_, _, _, _, h⟩ := hh
  exact h
theorem K_F_RideLaws_sentence_0 {φ : hf_F} {ψ : hf_F} {r : Int}  (hI : Inv φ)  (hE : F_RideLaws_sentence_0 φ = (r, ψ)) : Inv ψ ∧ Fr [27, 28, 29, 53, 54, 55, 1012, 2002, 2003, 2004, 2005, 2006, 2007, 2008, 2009, 2010, 27003, 27004, 27005, 53003, 53004, 53005] φ ψ ∧ (True ∧ (ψ 1 2 = 0)) := by
  have hh : hw [] (0 + 23) 144 0 [(0, (2, 0))] [] φ 0 (fun _ _ _ => Inv ψ ∧ Fr [27, 28, 29, 53, 54, 55, 1012, 2002, 2003, 2004, 2005, 2006, 2007, 2008, 2009, 2010, 27003, 27004, 27005, 53003, 53004, 53005] φ ψ ∧ (True ∧ (ψ 1 2 = 0))) := by
    refine sf_144_0 hI  (fun r1 ψ1 hI1 hF1 hp1 hE1 => ?_)
    rw [hE] at hE1
    cases hE1
    exact ⟨hI1, hF1, hp1⟩
  obtain ⟨_, _, _, _, h⟩ := hh
  exact h
theorem K_F_RideLawsModel_bookLine_192 {φ : hf_F} {ψ : hf_F} {r : Int}  (hI : Inv φ)  (hE : F_RideLawsModel_bookLine_192 φ = (r, ψ)) : Inv ψ ∧ Fr [196, 193004, 193011, 193012, 193013, 193014, 193015, 193016, 193017, 193018] φ ψ ∧ (0 ≤ r ∧ r ≤ 1 ∧ (ψ 192 30 = φ 192 30 ∧ (r = 1 → φ 192 30 ≤ 39) ∧ Kf (3 * φ 192 30) φ ψ ∧ (r = 1 → EN ψ (φ 192 30)))) := by
  have hh : hw [] (0 + 3) 260 0 [(0, (2, 192))] [] φ 0 (fun _ _ _ => Inv ψ ∧ Fr [196, 193004, 193011, 193012, 193013, 193014, 193015, 193016, 193017, 193018] φ ψ ∧ (0 ≤ r ∧ r ≤ 1 ∧ (ψ 192 30 = φ 192 30 ∧ (r = 1 → φ 192 30 ≤ 39) ∧ Kf (3 * φ 192 30) φ ψ ∧ (r = 1 → EN ψ (φ 192 30))))) := by
    refine sf_260_192 hI  (fun r1 ψ1 hI1 hF1 hp1 hE1 => ?_)
    rw [hE] at hE1
    cases hE1
    exact ⟨hI1, hF1, hp1⟩
  obtain ⟨_, _, _, _, h⟩ := hh
  exact h
theorem K_F_RideLawsModel_book_192 {φ : hf_F} {ψ : hf_F} {r : Int} {v1 : Int} (hI : Inv φ) (h1a : (-2147483648 : Int) ≤ v1) (h1b : v1 ≤ 2147483647) (hE : F_RideLawsModel_book_192 φ v1 = (r, ψ)) : Inv ψ ∧ Fr [194, 196, 199, 200, 202, 193000, 193002, 193003, 193004, 193005, 193011, 193012, 193013, 193014, 193015, 193016, 193017, 193018, 193022, 193030, 193032] φ ψ ∧ (True ∧ (((v1 = 0 ∨ v1 = 1) → ψ 192 2 = 0) ∧ (¬ (v1 = 0 ∨ v1 = 1) → ψ 192 2 = φ 192 2))) := by
  have hh : hw [] (0 + 5) 259 0 [(0, (2, 192)), (1, (0, v1))] [] φ 0 (fun _ _ _ => Inv ψ ∧ Fr [194, 196, 199, 200, 202, 193000, 193002, 193003, 193004, 193005, 193011, 193012, 193013, 193014, 193015, 193016, 193017, 193018, 193022, 193030, 193032] φ ψ ∧ (True ∧ (((v1 = 0 ∨ v1 = 1) → ψ 192 2 = 0) ∧ (¬ (v1 = 0 ∨ v1 = 1) → ψ 192 2 = φ 192 2)))) := by
    refine sf_259_192 hI h1a h1b (fun r1 ψ1 hI1 hF1 hp1 hE1 => ?_)
    rw [hE] at hE1
    cases hE1
    exact ⟨hI1, hF1, hp1⟩
  obtain ⟨_, _, _, _, h⟩ := hh
  exact h
theorem K_F_RideLawsModel_code_192 {φ : hf_F} {ψ : hf_F} {v1 v2 v3 : Int} (hI : Inv φ) (h1a : 0 ≤ v1) (h1b : v1 ≤ 23) (h2a : 0 ≤ v2) (h2b : v2 ≤ 8214) (h3a : 0 ≤ v3) (h3b : v3 ≤ 8214) (hp0 : φ 192 34 ≤ 44) (hE : F_RideLawsModel_code_192 φ v1 v2 v3 = ψ) : Inv ψ ∧ Fr [196, 193034] φ ψ ∧ ((ψ 192 34 = φ 192 34 + 1 ∧ ψ 192 35 = φ 192 35 ∧ ψ 192 36 = φ 192 36 ∧ ψ 192 38 = φ 192 38 ∧ Kf (3 * φ 192 34) φ ψ ∧ ψ 196 (3 * (φ 192 34)).toNat = v1)) := by
  have hh : hw [] 0 265 0 [(0, (2, 192)), (1, (0, v1)), (2, (0, v2)), (3, (0, v3))] [] φ 0 (fun _ _ _ => Inv ψ ∧ Fr [196, 193034] φ ψ ∧ ((ψ 192 34 = φ 192 34 + 1 ∧ ψ 192 35 = φ 192 35 ∧ ψ 192 36 = φ 192 36 ∧ ψ 192 38 = φ 192 38 ∧ Kf (3 * φ 192 34) φ ψ ∧ ψ 196 (3 * (φ 192 34)).toNat = v1))) := by
    refine sf_265_192 hI h1a h1b h2a h2b h3a h3b hp0 (fun ψ1 hI1 hF1 hV1 hE1 => ?_)
    rw [hE] at hE1
    cases hE1
    exact ⟨hI1, hF1, hV1⟩
  obtain ⟨_, _, _, _, h⟩ := hh
  exact h
theorem K_F_RideLawsModel_nots_192 {φ : hf_F} {ψ : hf_F}  (hI : Inv φ) (hp0 : SIw φ 1) (hp1 : φ 192 34 + φ 192 36 ≤ 39) (hE : F_RideLawsModel_nots_192 φ = ψ) : Inv ψ ∧ Fr [196, 193034, 193036, 193037] φ ψ ∧ ((SIw ψ 1 ∧ ψ 192 38 = φ 192 38 ∧ ψ 192 35 = φ 192 35 ∧ ψ 192 34 + ψ 192 36 = φ 192 34 + φ 192 36 ∧ ψ 192 36 ≤ φ 192 36)) := by
  have hh : hw [] (0 + 1) 264 0 [(0, (2, 192))] [] φ 0 (fun _ _ _ => Inv ψ ∧ Fr [196, 193034, 193036, 193037] φ ψ ∧ ((SIw ψ 1 ∧ ψ 192 38 = φ 192 38 ∧ ψ 192 35 = φ 192 35 ∧ ψ 192 34 + ψ 192 36 = φ 192 34 + φ 192 36 ∧ ψ 192 36 ≤ φ 192 36))) := by
    refine sf_264_192 hI hp0 hp1 (fun ψ1 hI1 hF1 hV1 hE1 => ?_)
    rw [hE] at hE1
    cases hE1
    exact ⟨hI1, hF1, hV1⟩
  obtain ⟨_, _, _, _, h⟩ := hh
  exact h
theorem K_F_RideLawsModel_joins_192 {φ : hf_F} {ψ : hf_F} {v1 : Int} (hI : Inv φ) (h1a : 21 ≤ v1) (h1b : v1 ≤ 22) (hp0 : SIw φ 1) (hp1 : φ 192 34 + φ 192 36 ≤ 39) (hE : F_RideLawsModel_joins_192 φ v1 = ψ) : Inv ψ ∧ Fr [196, 193034, 193036] φ ψ ∧ ((SIw ψ 1 ∧ ψ 192 38 = φ 192 38 ∧ ψ 192 35 = φ 192 35 ∧ ψ 192 34 + ψ 192 36 = φ 192 34 + φ 192 36 ∧ ψ 192 36 ≤ φ 192 36 ∧ (v1 = 22 → ψ 192 36 ≤ 0 ∨ ¬ (ψ 203 (ψ 192 36 - 1).toNat = 21 ∨ ψ 203 (ψ 192 36 - 1).toNat = 22)))) := by
  have hh : hw [] (0 + 1) 266 0 [(0, (2, 192)), (1, (0, v1))] [] φ 0 (fun _ _ _ => Inv ψ ∧ Fr [196, 193034, 193036] φ ψ ∧ ((SIw ψ 1 ∧ ψ 192 38 = φ 192 38 ∧ ψ 192 35 = φ 192 35 ∧ ψ 192 34 + ψ 192 36 = φ 192 34 + φ 192 36 ∧ ψ 192 36 ≤ φ 192 36 ∧ (v1 = 22 → ψ 192 36 ≤ 0 ∨ ¬ (ψ 203 (ψ 192 36 - 1).toNat = 21 ∨ ψ 203 (ψ 192 36 - 1).toNat = 22))))) := by
    refine sf_266_192 hI h1a h1b hp0 hp1 (fun ψ1 hI1 hF1 hV1 hE1 => ?_)
    rw [hE] at hE1
    cases hE1
    exact ⟨hI1, hF1, hV1⟩
  obtain ⟨_, _, _, _, h⟩ := hh
  exact h
theorem K_F_RideLawsModel_leafOf_192 {φ : hf_F}  {r : Int}  (hI : Inv φ)  (hE : F_RideLawsModel_leafOf_192 φ = r) : (-1 : Int) ≤ r ∧ r ≤ 7 := by
  have hh : hw [] (0 + 1) 269 0 [(0, (2, 192))] [] φ 0 (fun _ _ _ => (-1 : Int) ≤ r ∧ r ≤ 7) := by
    refine sf_269_192 hI  (fun r1 hp1 hE1 => ?_)
    rw [hE] at hE1
    cases hE1
    exact hp1
  obtain ⟨_, _, _, _, h⟩ := hh
  exact h
theorem K_F_RideLawsModel_operand_192 {φ : hf_F} {ψ : hf_F} {r : Int}  (hI : Inv φ) (hp0 : SIw φ 0) (hp1 : φ 192 38 = 0) (hp2 : φ 192 34 + φ 192 36 ≤ 2 * φ 192 35) (hE : F_RideLawsModel_operand_192 φ = (r, ψ)) : Inv ψ ∧ Fr [196, 203, 193004, 193011, 193012, 193013, 193014, 193015, 193016, 193017, 193018, 193034, 193035, 193036, 193037, 193038] φ ψ ∧ (0 ≤ r ∧ r ≤ 1 ∧ ((r = 1 → SIw ψ (ψ 192 38)) ∧ (r = 1 → ψ 192 35 = φ 192 35 + 1 ∧ ψ 192 34 + ψ 192 36 + ψ 192 38 ≤ 2 * ψ 192 35 ∧ 0 ≤ ψ 192 36 ∧ ψ 192 36 + 2 * ψ 192 38 ≤ φ 192 36 + 2))) := by
  have hh : hw [] (0 + 2) 268 0 [(0, (2, 192))] [] φ 0 (fun _ _ _ => Inv ψ ∧ Fr [196, 203, 193004, 193011, 193012, 193013, 193014, 193015, 193016, 193017, 193018, 193034, 193035, 193036, 193037, 193038] φ ψ ∧ (0 ≤ r ∧ r ≤ 1 ∧ ((r = 1 → SIw ψ (ψ 192 38)) ∧ (r = 1 → ψ 192 35 = φ 192 35 + 1 ∧ ψ 192 34 + ψ 192 36 + ψ 192 38 ≤ 2 * ψ 192 35 ∧ 0 ≤ ψ 192 36 ∧ ψ 192 36 + 2 * ψ 192 38 ≤ φ 192 36 + 2)))) := by
    refine sf_268_192 hI hp0 hp1 hp2 (fun r1 ψ1 hI1 hF1 hp1 hE1 => ?_)
    rw [hE] at hE1
    cases hE1
    exact ⟨hI1, hF1, hp1⟩
  obtain ⟨_, _, _, _, h⟩ := hh
  exact h
theorem K_F_RideLawsModel_behind_192 {φ : hf_F} {ψ : hf_F} {r : Int}  (hI : Inv φ) (hp0 : SIw φ 1) (hp1 : φ 192 38 = 1) (hp2 : φ 192 34 + φ 192 36 + 1 ≤ 2 * φ 192 35) (hE : F_RideLawsModel_behind_192 φ = (r, ψ)) : Inv ψ ∧ Fr [196, 203, 193004, 193011, 193012, 193013, 193014, 193015, 193016, 193017, 193034, 193036, 193037, 193038] φ ψ ∧ (0 ≤ r ∧ r ≤ 1 ∧ ((r = 1 → SIw ψ (ψ 192 38)) ∧ (r = 1 → ψ 192 35 = φ 192 35 ∧ ψ 192 34 + ψ 192 36 + ψ 192 38 ≤ 2 * ψ 192 35 ∧ 0 ≤ ψ 192 36 ∧ ψ 192 36 + 2 * ψ 192 38 < φ 192 36 + 2))) := by
  have hh : hw [] (0 + 2) 267 0 [(0, (2, 192))] [] φ 0 (fun _ _ _ => Inv ψ ∧ Fr [196, 203, 193004, 193011, 193012, 193013, 193014, 193015, 193016, 193017, 193034, 193036, 193037, 193038] φ ψ ∧ (0 ≤ r ∧ r ≤ 1 ∧ ((r = 1 → SIw ψ (ψ 192 38)) ∧ (r = 1 → ψ 192 35 = φ 192 35 ∧ ψ 192 34 + ψ 192 36 + ψ 192 38 ≤ 2 * ψ 192 35 ∧ 0 ≤ ψ 192 36 ∧ ψ 192 36 + 2 * ψ 192 38 < φ 192 36 + 2)))) := by
    refine sf_267_192 hI hp0 hp1 hp2 (fun r1 ψ1 hI1 hF1 hp1 hE1 => ?_)
    rw [hE] at hE1
    cases hE1
    exact ⟨hI1, hF1, hp1⟩
  obtain ⟨_, _, _, _, h⟩ := hh
  exact h
theorem K_F_RideLawsModel_sentence_192 {φ : hf_F} {ψ : hf_F} {r : Int}  (hI : Inv φ)  (hE : F_RideLawsModel_sentence_192 φ = (r, ψ)) : Inv ψ ∧ Fr [194, 196, 203, 193000, 193002, 193003, 193004, 193005, 193011, 193012, 193013, 193014, 193015, 193016, 193017, 193018, 193034, 193035, 193036, 193037, 193038] φ ψ ∧ (True ∧ (ψ 192 2 = 0)) := by
  have hh : hw [] (0 + 3) 263 0 [(0, (2, 192))] [] φ 0 (fun _ _ _ => Inv ψ ∧ Fr [194, 196, 203, 193000, 193002, 193003, 193004, 193005, 193011, 193012, 193013, 193014, 193015, 193016, 193017, 193018, 193034, 193035, 193036, 193037, 193038] φ ψ ∧ (True ∧ (ψ 192 2 = 0))) := by
    refine sf_263_192 hI  (fun r1 ψ1 hI1 hF1 hp1 hE1 => ?_)
    rw [hE] at hE1
    cases hE1
    exact ⟨hI1, hF1, hp1⟩
  obtain ⟨_, _, _, _, h⟩ := hh
  exact h
theorem K_F_RideLawsModel_isLeaf_192 {φ : hf_F}  {r : Int} {v1 v2 v3 v4 : Int} (hI : Inv φ) (h1a : 0 ≤ v1) (h1b : v1 ≤ 5) (h2a : (-1 : Int) ≤ v2) (h2b : v2 ≤ 8214) (h3a : (-1 : Int) ≤ v3) (h3b : v3 ≤ 8214) (h4a : (-1 : Int) ≤ v4) (h4b : v4 ≤ 8214) (hE : F_RideLawsModel_isLeaf_192 φ v1 v2 v3 v4 = r) : 0 ≤ r ∧ r ≤ 1 := by
  have hh : hw [] (0 + 1) 272 0 [(0, (2, 192)), (1, (0, v1)), (2, (0, v2)), (3, (0, v3)), (4, (0, v4))] [] φ 0 (fun _ _ _ => 0 ≤ r ∧ r ≤ 1) := by
    refine sf_272_192 hI h1a h1b h2a h2b h3a h3b h4a h4b (fun r1 hp1 hE1 => ?_)
    rw [hE] at hE1
    cases hE1
    exact hp1
  obtain ⟨_, _, _, _, h⟩ := hh
  exact h
theorem K_F_RideLawsModel_isSaid_192 {φ : hf_F} {ψ : hf_F} {r : Int} {v1 : Int} (hI : Inv φ) (h1a : 0 ≤ v1) (h1b : v1 ≤ 5) (hE : F_RideLawsModel_isSaid_192 φ v1 = (r, ψ)) : Inv ψ ∧ Fr [204] φ ψ ∧ (0 ≤ r ∧ r ≤ 1) := by
  have hh : hw [] (0 + 2) 271 0 [(0, (2, 192)), (1, (0, v1))] [] φ 0 (fun _ _ _ => Inv ψ ∧ Fr [204] φ ψ ∧ (0 ≤ r ∧ r ≤ 1)) := by
    refine sf_271_192 hI h1a h1b (fun r1 ψ1 hI1 hF1 hp1 hE1 => ?_)
    rw [hE] at hE1
    cases hE1
    exact ⟨hI1, hF1, hp1⟩
  obtain ⟨_, _, _, _, h⟩ := hh
  exact h
theorem K_F_RideLawsModel_said_192 {φ : hf_F} {ψ : hf_F} {r : Int} {v1 : Int} (hI : Inv φ) (h1a : (-2147483648 : Int) ≤ v1) (h1b : v1 ≤ 2147483647) (hE : F_RideLawsModel_said_192 φ v1 = (r, ψ)) : Inv ψ ∧ Fr [204, 193000] φ ψ ∧ (True) := by
  have hh : hw [] (0 + 3) 270 0 [(0, (2, 192)), (1, (0, v1))] [] φ 0 (fun _ _ _ => Inv ψ ∧ Fr [204, 193000] φ ψ ∧ (True)) := by
    refine sf_270_192 hI h1a h1b (fun r1 ψ1 hI1 hF1 hp1 hE1 => ?_)
    rw [hE] at hE1
    cases hE1
    exact ⟨hI1, hF1, hp1⟩
  obtain ⟨_, _, _, _, h⟩ := hh
  exact h
theorem K_F_RideLawsModel_four_192 {φ : hf_F} {ψ : hf_F} {v1 : Int} (hI : Inv φ) (h1a : (-2147483648 : Int) ≤ v1) (h1b : v1 ≤ 2147483647) (hp0 : φ 192 2 ≤ 936) (hE : F_RideLawsModel_four_192 φ v1 = ψ) : Inv ψ ∧ Fr [193, 193002] φ ψ ∧ ((ψ 192 2 = φ 192 2 + 4)) := by
  have hh : hw [] 0 169 0 [(0, (2, 192)), (1, (0, v1))] [] φ 0 (fun _ _ _ => Inv ψ ∧ Fr [193, 193002] φ ψ ∧ ((ψ 192 2 = φ 192 2 + 4))) := by
    refine sf_169_192 hI h1a h1b hp0 (fun ψ1 hI1 hF1 hV1 hE1 => ?_)
    rw [hE] at hE1
    cases hE1
    exact ⟨hI1, hF1, hV1⟩
  obtain ⟨_, _, _, _, h⟩ := hh
  exact h
theorem K_F_RideLawsModel_feed_192 {φ : hf_F} {ψ : hf_F} {r : Int} {v1 v2 v3 v4 v5 : Int} (hI : Inv φ) (h1a : (-2147483648 : Int) ≤ v1) (h1b : v1 ≤ 2147483647) (h2a : (-2147483648 : Int) ≤ v2) (h2b : v2 ≤ 2147483647) (h3a : (-2147483648 : Int) ≤ v3) (h3b : v3 ≤ 2147483647) (h4a : (-2147483648 : Int) ≤ v4) (h4b : v4 ≤ 2147483647) (h5a : (-2147483648 : Int) ≤ v5) (h5b : v5 ≤ 2147483647) (hE : F_RideLawsModel_feed_192 φ v1 v2 v3 v4 v5 = (r, ψ)) : Inv ψ ∧ Fr [193, 193000, 193002] φ ψ ∧ (True ∧ ((r = -1 ∧ 921 ≤ φ 192 2 ∧ ψ 192 2 = φ 192 2) ∨ (φ 192 2 ≤ 920 ∧ ψ 192 2 = φ 192 2 + 20 ∧ r = φ 192 2 + 20))) := by
  have hh : hw [] (0 + 1) 168 0 [(0, (2, 192)), (1, (0, v1)), (2, (0, v2)), (3, (0, v3)), (4, (0, v4)), (5, (0, v5))] [] φ 0 (fun _ _ _ => Inv ψ ∧ Fr [193, 193000, 193002] φ ψ ∧ (True ∧ ((r = -1 ∧ 921 ≤ φ 192 2 ∧ ψ 192 2 = φ 192 2) ∨ (φ 192 2 ≤ 920 ∧ ψ 192 2 = φ 192 2 + 20 ∧ r = φ 192 2 + 20)))) := by
    refine sf_168_192 hI h1a h1b h2a h2b h3a h3b h4a h4b h5a h5b (fun r1 ψ1 hI1 hF1 hp1 hE1 => ?_)
    rw [hE] at hE1
    cases hE1
    exact ⟨hI1, hF1, hp1⟩
  obtain ⟨_, _, _, _, h⟩ := hh
  exact h
