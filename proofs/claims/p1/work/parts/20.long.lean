/-! ride and image: the long loops of the model -/
def g_WR : List jm_C := [(1015, []), (1011, []), (1940, []), (1023, []), (1004, []), (1011, []), (1005, []), (1040, []), (1003, []), (1003, []), (1008, []), (1008, []), (1008, []), (1008, []), (1008, []), (1008, []), (1064, []), (1014, []), (1008, []), (1008, []), (1006, []), (1006, []), (1036, []), (1006, []), (1006, []), (1008, []), (1006, []), (1040, []), (1040, []), (1040, []), (1004, []), (1011, []), (1005, []), (1040, []), (1003, []), (1003, []), (1008, []), (1008, []), (1008, []), (1008, []), (1008, []), (1008, []), (1064, []), (1014, []), (1008, []), (1008, []), (1006, []), (1006, []), (1036, []), (1006, []), (1006, []), (1008, []), (1006, []), (1040, []), (1040, []), (1040, []), (1004, []), (1011, []), (1005, []), (1040, []), (1003, []), (1003, []), (1008, []), (1008, []), (1008, []), (1008, []), (1008, []), (1008, []), (1064, []), (1014, []), (1008, []), (1008, []), (1006, []), (1006, []), (1036, []), (1006, []), (1006, []), (1008, []), (1006, []), (1040, []), (1040, []), (1040, []), (1004, []), (1011, []), (1005, []), (1040, []), (1003, []), (1003, []), (1008, []), (1008, []), (1008, []), (1008, []), (1008, []), (1008, []), (1064, []), (1014, []), (1008, []), (1008, []), (1006, []), (1006, []), (1036, []), (1006, []), (1006, []), (1008, []), (1006, []), (1040, []), (1040, []), (1040, []), (1002, []), (1008, []), (1014, []), (1008, []), (1008, []), (1006, []), (1006, []), (1036, []), (1006, []), (1006, []), (1008, []), (1014, []), (1008, []), (1008, []), (1006, []), (1006, []), (1036, []), (1006, []), (1006, []), (1008, []), (1014, []), (1008, []), (1008, []), (1006, []), (1006, []), (1036, []), (1006, []), (1006, []), (1008, []), (1014, []), (1008, []), (1008, []), (1006, []), (1006, []), (1036, []), (1006, []), (1006, []), (1008, []), (1014, []), (1008, []), (1008, []), (1006, []), (1006, []), (1036, []), (1006, []), (1006, []), (1008, []), (1014, []), (1008, []), (1008, []), (1006, []), (1006, []), (1036, []), (1006, []), (1006, []), (1008, []), (1014, []), (1008, []), (1008, []), (1006, []), (1006, []), (1036, []), (1006, []), (1006, []), (1008, []), (1014, []), (1008, []), (1008, []), (1006, []), (1006, []), (1036, []), (1006, []), (1006, []), (1008, []), (1003, []), (1007, []), (1040, []), (1040, []), (1040, []), (1003, []), (1001, []), (1002, []), (1032, []), (1004, []), (22, [0, 193, 0, 0, 0, 900, 194, 195, 196, 197, 198, 0, 0, 0, 0, 0, 0, 0, 0, 0, 199, 200, 0, 0, 0, 0, 0, 201, 0, 0, 0, 202, 0, 203, 0, 0, 0, 0, 0, 204, 205, 206, 207]), (1940, []), g_cell194, g_cell195, (1135, []), g_cell197, (1023, []), (1648, []), (1081, []), (1048, []), (1004, []), (1045, []), (1045, []), (1722, []), (1066, []), (1002, []), (1001, [])]
def g_WI : List jm_C := [(1015, []), (1011, []), (1940, []), (1023, []), (1004, []), (1011, []), (1005, []), (1040, []), (1003, []), (1003, []), (1008, []), (1008, []), (1008, []), (1008, []), (1008, []), (1008, []), (1064, []), (1014, []), (1008, []), (1008, []), (1006, []), (1006, []), (1036, []), (1006, []), (1006, []), (1008, []), (1006, []), (1040, []), (1040, []), (1040, []), (1004, []), (1011, []), (1005, []), (1040, []), (1003, []), (1003, []), (1008, []), (1008, []), (1008, []), (1008, []), (1008, []), (1008, []), (1064, []), (1014, []), (1008, []), (1008, []), (1006, []), (1006, []), (1036, []), (1006, []), (1006, []), (1008, []), (1006, []), (1040, []), (1040, []), (1040, []), (1004, []), (1011, []), (1005, []), (1040, []), (1003, []), (1003, []), (1008, []), (1008, []), (1008, []), (1008, []), (1008, []), (1008, []), (1064, []), (1014, []), (1008, []), (1008, []), (1006, []), (1006, []), (1036, []), (1006, []), (1006, []), (1008, []), (1006, []), (1040, []), (1040, []), (1040, []), (1004, []), (1011, []), (1005, []), (1040, []), (1003, []), (1003, []), (1008, []), (1008, []), (1008, []), (1008, []), (1008, []), (1008, []), (1064, []), (1014, []), (1008, []), (1008, []), (1006, []), (1006, []), (1036, []), (1006, []), (1006, []), (1008, []), (1006, []), (1040, []), (1040, []), (1040, []), (1002, []), (1008, []), (1014, []), (1008, []), (1008, []), (1006, []), (1006, []), (1036, []), (1006, []), (1006, []), (1008, []), (1014, []), (1008, []), (1008, []), (1006, []), (1006, []), (1036, []), (1006, []), (1006, []), (1008, []), (1014, []), (1008, []), (1008, []), (1006, []), (1006, []), (1036, []), (1006, []), (1006, []), (1008, []), (1014, []), (1008, []), (1008, []), (1006, []), (1006, []), (1036, []), (1006, []), (1006, []), (1008, []), (1014, []), (1008, []), (1008, []), (1006, []), (1006, []), (1036, []), (1006, []), (1006, []), (1008, []), (1014, []), (1008, []), (1008, []), (1006, []), (1006, []), (1036, []), (1006, []), (1006, []), (1008, []), (1014, []), (1008, []), (1008, []), (1006, []), (1006, []), (1036, []), (1006, []), (1006, []), (1008, []), (1014, []), (1008, []), (1008, []), (1006, []), (1006, []), (1036, []), (1006, []), (1006, []), (1008, []), (1003, []), (1007, []), (1040, []), (1040, []), (1040, []), (1003, []), (1001, []), (1002, []), (1032, []), (1004, []), g_cell192, (1940, []), g_cell194, (1099, []), (1135, []), g_cell197, (1023, []), (1648, []), (1081, []), (1048, []), (1004, []), (1045, []), (1045, []), g_cell205, g_cell206, g_cell207, (1001, [])]
def g_LR (i : Nat) : jm_L := [(1, (0, (i : Int))), (0, (2, 192))]
def g_LI (k i : Nat) : jm_L := [(2, (0, (i : Int))), (0, (2, 192)), (1, (0, (k : Int)))]
def g_cr (a : Nat) : Bool := (List.range 40).all (fun i => decide (360 < a + i) || ax_seg [] [] 100 75 99 174 75 (g_LR (a + i)) [] (g_WR, 0) (g_LR (a + i + 1)) [] (g_WR, 0))
def g_ci (k a : Nat) : Bool := (List.range 40).all (fun i => decide (360 < a + i) || ax_seg [] [] 100 18 99 274 18 (g_LI k (a + i)) [] (g_WI, 0) (g_LI k (a + i + 1)) [] (g_WI, 0))
theorem g_cr_0 : g_cr 0 = true := by decide +kernel
theorem g_cr_40 : g_cr 40 = true := by decide +kernel
theorem g_cr_80 : g_cr 80 = true := by decide +kernel
theorem g_cr_120 : g_cr 120 = true := by decide +kernel
theorem g_cr_160 : g_cr 160 = true := by decide +kernel
theorem g_cr_200 : g_cr 200 = true := by decide +kernel
theorem g_cr_240 : g_cr 240 = true := by decide +kernel
theorem g_cr_280 : g_cr 280 = true := by decide +kernel
theorem g_cr_320 : g_cr 320 = true := by decide +kernel
theorem g_cr_360 : g_cr 360 = true := by decide +kernel
theorem g_ci0_0 : g_ci 0 0 = true := by decide +kernel
theorem g_ci0_40 : g_ci 0 40 = true := by decide +kernel
theorem g_ci0_80 : g_ci 0 80 = true := by decide +kernel
theorem g_ci0_120 : g_ci 0 120 = true := by decide +kernel
theorem g_ci0_160 : g_ci 0 160 = true := by decide +kernel
theorem g_ci0_200 : g_ci 0 200 = true := by decide +kernel
theorem g_ci0_240 : g_ci 0 240 = true := by decide +kernel
theorem g_ci0_280 : g_ci 0 280 = true := by decide +kernel
theorem g_ci0_320 : g_ci 0 320 = true := by decide +kernel
theorem g_ci0_360 : g_ci 0 360 = true := by decide +kernel
theorem g_ci1_0 : g_ci 1 0 = true := by decide +kernel
theorem g_ci1_40 : g_ci 1 40 = true := by decide +kernel
theorem g_ci1_80 : g_ci 1 80 = true := by decide +kernel
theorem g_ci1_120 : g_ci 1 120 = true := by decide +kernel
theorem g_ci1_160 : g_ci 1 160 = true := by decide +kernel
theorem g_ci1_200 : g_ci 1 200 = true := by decide +kernel
theorem g_ci1_240 : g_ci 1 240 = true := by decide +kernel
theorem g_ci1_280 : g_ci 1 280 = true := by decide +kernel
theorem g_ci1_320 : g_ci 1 320 = true := by decide +kernel
theorem g_ci1_360 : g_ci 1 360 = true := by decide +kernel
theorem g_cr_of {i : Nat} (hi : i < 361) : ax_seg [] [] 100 75 99 174 75 (g_LR i) [] (g_WR, 0) (g_LR (i + 1)) [] (g_WR, 0) = true := by
  by_cases h_0 : i < 40
  · have := List.all_eq_true.mp (show (List.range 40).all _ = true from g_cr_0) (i - 0) (List.mem_range.mpr (by omega))
    rw [show 0 + (i - 0) = i by omega, decide_eq_false (show ¬ 360 < i by omega)] at this
    exact this
  by_cases h_40 : i < 80
  · have := List.all_eq_true.mp (show (List.range 40).all _ = true from g_cr_40) (i - 40) (List.mem_range.mpr (by omega))
    rw [show 40 + (i - 40) = i by omega, decide_eq_false (show ¬ 360 < i by omega)] at this
    exact this
  by_cases h_80 : i < 120
  · have := List.all_eq_true.mp (show (List.range 40).all _ = true from g_cr_80) (i - 80) (List.mem_range.mpr (by omega))
    rw [show 80 + (i - 80) = i by omega, decide_eq_false (show ¬ 360 < i by omega)] at this
    exact this
  by_cases h_120 : i < 160
  · have := List.all_eq_true.mp (show (List.range 40).all _ = true from g_cr_120) (i - 120) (List.mem_range.mpr (by omega))
    rw [show 120 + (i - 120) = i by omega, decide_eq_false (show ¬ 360 < i by omega)] at this
    exact this
  by_cases h_160 : i < 200
  · have := List.all_eq_true.mp (show (List.range 40).all _ = true from g_cr_160) (i - 160) (List.mem_range.mpr (by omega))
    rw [show 160 + (i - 160) = i by omega, decide_eq_false (show ¬ 360 < i by omega)] at this
    exact this
  by_cases h_200 : i < 240
  · have := List.all_eq_true.mp (show (List.range 40).all _ = true from g_cr_200) (i - 200) (List.mem_range.mpr (by omega))
    rw [show 200 + (i - 200) = i by omega, decide_eq_false (show ¬ 360 < i by omega)] at this
    exact this
  by_cases h_240 : i < 280
  · have := List.all_eq_true.mp (show (List.range 40).all _ = true from g_cr_240) (i - 240) (List.mem_range.mpr (by omega))
    rw [show 240 + (i - 240) = i by omega, decide_eq_false (show ¬ 360 < i by omega)] at this
    exact this
  by_cases h_280 : i < 320
  · have := List.all_eq_true.mp (show (List.range 40).all _ = true from g_cr_280) (i - 280) (List.mem_range.mpr (by omega))
    rw [show 280 + (i - 280) = i by omega, decide_eq_false (show ¬ 360 < i by omega)] at this
    exact this
  by_cases h_320 : i < 360
  · have := List.all_eq_true.mp (show (List.range 40).all _ = true from g_cr_320) (i - 320) (List.mem_range.mpr (by omega))
    rw [show 320 + (i - 320) = i by omega, decide_eq_false (show ¬ 360 < i by omega)] at this
    exact this
  have := List.all_eq_true.mp (show (List.range 40).all _ = true from g_cr_360) (i - 360) (List.mem_range.mpr (by omega))
  rw [show 360 + (i - 360) = i by omega, decide_eq_false (show ¬ 360 < i by omega)] at this
  exact this
theorem g_ci0_of {i : Nat} (hi : i < 361) : ax_seg [] [] 100 18 99 274 18 (g_LI 0 i) [] (g_WI, 0) (g_LI 0 (i + 1)) [] (g_WI, 0) = true := by
  by_cases h_0 : i < 40
  · have := List.all_eq_true.mp (show (List.range 40).all _ = true from g_ci0_0) (i - 0) (List.mem_range.mpr (by omega))
    rw [show 0 + (i - 0) = i by omega, decide_eq_false (show ¬ 360 < i by omega)] at this
    exact this
  by_cases h_40 : i < 80
  · have := List.all_eq_true.mp (show (List.range 40).all _ = true from g_ci0_40) (i - 40) (List.mem_range.mpr (by omega))
    rw [show 40 + (i - 40) = i by omega, decide_eq_false (show ¬ 360 < i by omega)] at this
    exact this
  by_cases h_80 : i < 120
  · have := List.all_eq_true.mp (show (List.range 40).all _ = true from g_ci0_80) (i - 80) (List.mem_range.mpr (by omega))
    rw [show 80 + (i - 80) = i by omega, decide_eq_false (show ¬ 360 < i by omega)] at this
    exact this
  by_cases h_120 : i < 160
  · have := List.all_eq_true.mp (show (List.range 40).all _ = true from g_ci0_120) (i - 120) (List.mem_range.mpr (by omega))
    rw [show 120 + (i - 120) = i by omega, decide_eq_false (show ¬ 360 < i by omega)] at this
    exact this
  by_cases h_160 : i < 200
  · have := List.all_eq_true.mp (show (List.range 40).all _ = true from g_ci0_160) (i - 160) (List.mem_range.mpr (by omega))
    rw [show 160 + (i - 160) = i by omega, decide_eq_false (show ¬ 360 < i by omega)] at this
    exact this
  by_cases h_200 : i < 240
  · have := List.all_eq_true.mp (show (List.range 40).all _ = true from g_ci0_200) (i - 200) (List.mem_range.mpr (by omega))
    rw [show 200 + (i - 200) = i by omega, decide_eq_false (show ¬ 360 < i by omega)] at this
    exact this
  by_cases h_240 : i < 280
  · have := List.all_eq_true.mp (show (List.range 40).all _ = true from g_ci0_240) (i - 240) (List.mem_range.mpr (by omega))
    rw [show 240 + (i - 240) = i by omega, decide_eq_false (show ¬ 360 < i by omega)] at this
    exact this
  by_cases h_280 : i < 320
  · have := List.all_eq_true.mp (show (List.range 40).all _ = true from g_ci0_280) (i - 280) (List.mem_range.mpr (by omega))
    rw [show 280 + (i - 280) = i by omega, decide_eq_false (show ¬ 360 < i by omega)] at this
    exact this
  by_cases h_320 : i < 360
  · have := List.all_eq_true.mp (show (List.range 40).all _ = true from g_ci0_320) (i - 320) (List.mem_range.mpr (by omega))
    rw [show 320 + (i - 320) = i by omega, decide_eq_false (show ¬ 360 < i by omega)] at this
    exact this
  have := List.all_eq_true.mp (show (List.range 40).all _ = true from g_ci0_360) (i - 360) (List.mem_range.mpr (by omega))
  rw [show 360 + (i - 360) = i by omega, decide_eq_false (show ¬ 360 < i by omega)] at this
  exact this
theorem g_ci1_of {i : Nat} (hi : i < 361) : ax_seg [] [] 100 18 99 274 18 (g_LI 1 i) [] (g_WI, 0) (g_LI 1 (i + 1)) [] (g_WI, 0) = true := by
  by_cases h_0 : i < 40
  · have := List.all_eq_true.mp (show (List.range 40).all _ = true from g_ci1_0) (i - 0) (List.mem_range.mpr (by omega))
    rw [show 0 + (i - 0) = i by omega, decide_eq_false (show ¬ 360 < i by omega)] at this
    exact this
  by_cases h_40 : i < 80
  · have := List.all_eq_true.mp (show (List.range 40).all _ = true from g_ci1_40) (i - 40) (List.mem_range.mpr (by omega))
    rw [show 40 + (i - 40) = i by omega, decide_eq_false (show ¬ 360 < i by omega)] at this
    exact this
  by_cases h_80 : i < 120
  · have := List.all_eq_true.mp (show (List.range 40).all _ = true from g_ci1_80) (i - 80) (List.mem_range.mpr (by omega))
    rw [show 80 + (i - 80) = i by omega, decide_eq_false (show ¬ 360 < i by omega)] at this
    exact this
  by_cases h_120 : i < 160
  · have := List.all_eq_true.mp (show (List.range 40).all _ = true from g_ci1_120) (i - 120) (List.mem_range.mpr (by omega))
    rw [show 120 + (i - 120) = i by omega, decide_eq_false (show ¬ 360 < i by omega)] at this
    exact this
  by_cases h_160 : i < 200
  · have := List.all_eq_true.mp (show (List.range 40).all _ = true from g_ci1_160) (i - 160) (List.mem_range.mpr (by omega))
    rw [show 160 + (i - 160) = i by omega, decide_eq_false (show ¬ 360 < i by omega)] at this
    exact this
  by_cases h_200 : i < 240
  · have := List.all_eq_true.mp (show (List.range 40).all _ = true from g_ci1_200) (i - 200) (List.mem_range.mpr (by omega))
    rw [show 200 + (i - 200) = i by omega, decide_eq_false (show ¬ 360 < i by omega)] at this
    exact this
  by_cases h_240 : i < 280
  · have := List.all_eq_true.mp (show (List.range 40).all _ = true from g_ci1_240) (i - 240) (List.mem_range.mpr (by omega))
    rw [show 240 + (i - 240) = i by omega, decide_eq_false (show ¬ 360 < i by omega)] at this
    exact this
  by_cases h_280 : i < 320
  · have := List.all_eq_true.mp (show (List.range 40).all _ = true from g_ci1_280) (i - 280) (List.mem_range.mpr (by omega))
    rw [show 280 + (i - 280) = i by omega, decide_eq_false (show ¬ 360 < i by omega)] at this
    exact this
  by_cases h_320 : i < 360
  · have := List.all_eq_true.mp (show (List.range 40).all _ = true from g_ci1_320) (i - 320) (List.mem_range.mpr (by omega))
    rw [show 320 + (i - 320) = i by omega, decide_eq_false (show ¬ 360 < i by omega)] at this
    exact this
  have := List.all_eq_true.mp (show (List.range 40).all _ = true from g_ci1_360) (i - 360) (List.mem_range.mpr (by omega))
  rw [show 360 + (i - 360) = i by omega, decide_eq_false (show ¬ 360 < i by omega)] at this
  exact this
theorem g_R1 : ax_fin [] [] 3000 99 24 0 [(0, (2, 0))] [] (g_A0, 0) (some (0, 0)) (g_AT, 0) = true := by decide +kernel
theorem g_R2 : ax_seg [] [] 3000 75 99 174 0 [(0, (2, 192))] [] (g_AT, 0) (g_LR 0) [] (g_WR, 0) = true := by decide +kernel
theorem g_R3 : ax_fin [] [] 3000 99 174 75 (g_LR 361) [] (g_WR, 0) (some (0, 0)) (g_AU, 0) = true := by decide +kernel
theorem g_I10 : ax_fin [] [] 3000 99 156 0 [(0, (2, 0)), (1, (0, 0))] [] (g_A0, 0) (some (0, 1)) (g_AT, 0) = true := by decide +kernel
theorem g_I20 : ax_seg [] [] 3000 18 99 274 0 [(0, (2, 192)), (1, (0, 0))] [] (g_AT, 0) (g_LI 0 0) [] (g_WI, 0) = true := by decide +kernel
theorem g_I30 : ax_fin [] [] 3000 99 274 18 (g_LI 0 361) [] (g_WI, 0) (some (0, 1)) (g_AU, 0) = true := by decide +kernel
theorem g_I11 : ax_fin [] [] 3000 99 156 0 [(0, (2, 0)), (1, (0, 1))] [] (g_A0, 0) (some (0, 1)) (g_AT, 0) = true := by decide +kernel
theorem g_I21 : ax_seg [] [] 3000 18 99 274 0 [(0, (2, 192)), (1, (0, 1))] [] (g_AT, 0) (g_LI 1 0) [] (g_WI, 0) = true := by decide +kernel
theorem g_I31 : ax_fin [] [] 3000 99 274 18 (g_LI 1 361) [] (g_WI, 0) (some (0, 1)) (g_AU, 0) = true := by decide +kernel
theorem g_U1 : ax_seg (g_bxs 2 ax_top) [] 100 307 100 277 20 g_L0 [] (g_A0, 0) g_L4 [(2, 0)] (g_A0, 0) = true := by decide +kernel
theorem g_U2 : ax_ccl 277 307 (30, 10, 24, 1) [(2, 0)] (g_A0, 0) = true := by decide +kernel
theorem g_U3 : ax_seg (g_bxs 2 ax_top) [] 100 311 100 277 310 g_L4 [(0, 0)] (g_AT, 0) g_L4 [(2, 192), (0, 0)] (g_AT, 0) = true := by decide +kernel
theorem g_U4 : ax_ccl 277 311 (30, 22, 174, 1) [(2, 192), (0, 0)] (g_AT, 0) = true := by decide +kernel
theorem g_U5 : ax_fin (g_bxs 2 ax_top) [] 100 100 277 314 g_L4 [(0, 0), (0, 0)] (g_AU, 0) (some (0, 1)) (g_AU, 0) = true := by decide +kernel
theorem g_V10 : ax_seg (g_bxs 35 (0, 0)) [] 100 1279 100 277 20 g_L0 [] (g_A0, 0) g_L4 [(0, 0), (2, 0)] (g_A0, 0) = true := by decide +kernel
theorem g_V20 : ax_ccl 277 1279 (30, 10, 156, 2) [(0, 0), (2, 0)] (g_A0, 0) = true := by decide +kernel
theorem g_V30 : ax_seg (g_bxs 35 (0, 0)) [] 100 1289 100 277 1282 g_L4 [(0, 1)] (g_AT, 0) g_L4 [(0, 0), (2, 192), (0, 1)] (g_AT, 0) = true := by decide +kernel
theorem g_V40 : ax_ccl 277 1289 (30, 22, 274, 2) [(0, 0), (2, 192), (0, 1)] (g_AT, 0) = true := by decide +kernel
theorem g_V50 : ax_fin (g_bxs 35 (0, 0)) [] 100 100 277 1292 g_L4 [(0, 1), (0, 1)] (g_AU, 0) (some (0, 1)) (g_AU, 0) = true := by decide +kernel
theorem g_V11 : ax_seg (g_bxs 35 (1, 1)) [] 100 1279 100 277 20 g_L0 [] (g_A0, 0) g_L4 [(0, 1), (2, 0)] (g_A0, 0) = true := by decide +kernel
theorem g_V21 : ax_ccl 277 1279 (30, 10, 156, 2) [(0, 1), (2, 0)] (g_A0, 0) = true := by decide +kernel
theorem g_V31 : ax_seg (g_bxs 35 (1, 1)) [] 100 1289 100 277 1282 g_L4 [(0, 1)] (g_AT, 0) g_L4 [(0, 1), (2, 192), (0, 1)] (g_AT, 0) = true := by decide +kernel
theorem g_V41 : ax_ccl 277 1289 (30, 22, 274, 2) [(0, 1), (2, 192), (0, 1)] (g_AT, 0) = true := by decide +kernel
theorem g_V51 : ax_fin (g_bxs 35 (1, 1)) [] 100 100 277 1292 g_L4 [(0, 1), (0, 1)] (g_AU, 0) (some (0, 1)) (g_AU, 0) = true := by decide +kernel
