noncomputable def g_hh : List (Nat × List (Nat × Nat × Nat × Nat)) := [(159, [(0, 10, 13, 13)]), (161, [(0, 12, 15, 13)]), (166, [(0, 10, 13, 13)])]
noncomputable def g_wr : List Nat := [159, 161, 166, 276]
noncomputable def jm_mok (m : Nat) : Bool := plainName (g_m m).1.cls && decide ((g_m m).1.cls ≠ "java/lang/invoke/MethodHandle" ∧ (g_m m).1.cls ≠ "java/lang/invoke/VarHandle") && decide ((g_m m).2.2.1 ≤ 30)
theorem jm_mok_all : (List.range 277).all jm_mok = true := by decide +kernel
noncomputable def jm_cwP (m : Nat) : Prop := Cond.code (g_m m).1 (g_m m).2.1 (g_m m).2.2.1 (g_m m).2.2.2 ∈ jm_W
set_option maxRecDepth 100000 in
theorem jm_cwm_0 : jm_cwP 0 := List.mem_filter.mpr ⟨jm_t1 (List.mem_of_getElem? (i := 30) rfl), rfl⟩
set_option maxRecDepth 100000 in
theorem jm_cwm_1 : jm_cwP 1 := List.mem_filter.mpr ⟨jm_t1 (List.mem_of_getElem? (i := 38) rfl), rfl⟩
set_option maxRecDepth 100000 in
theorem jm_cwm_2 : jm_cwP 2 := List.mem_filter.mpr ⟨jm_t1 (List.mem_of_getElem? (i := 44) rfl), rfl⟩
set_option maxRecDepth 100000 in
theorem jm_cwm_3 : jm_cwP 3 := List.mem_filter.mpr ⟨jm_t1 (List.mem_of_getElem? (i := 48) rfl), rfl⟩
set_option maxRecDepth 100000 in
theorem jm_cwm_4 : jm_cwP 4 := List.mem_filter.mpr ⟨jm_t1 (List.mem_of_getElem? (i := 54) rfl), rfl⟩
set_option maxRecDepth 100000 in
theorem jm_cwm_5 : jm_cwP 5 := List.mem_filter.mpr ⟨jm_t1 (List.mem_of_getElem? (i := 58) rfl), rfl⟩
set_option maxRecDepth 100000 in
theorem jm_cwm_6 : jm_cwP 6 := List.mem_filter.mpr ⟨jm_t1 (List.mem_of_getElem? (i := 61) rfl), rfl⟩
set_option maxRecDepth 100000 in
theorem jm_cwm_7 : jm_cwP 7 := List.mem_filter.mpr ⟨jm_t1 (List.mem_of_getElem? (i := 64) rfl), rfl⟩
set_option maxRecDepth 100000 in
theorem jm_cwm_8 : jm_cwP 8 := List.mem_filter.mpr ⟨jm_t1 (List.mem_of_getElem? (i := 69) rfl), rfl⟩
set_option maxRecDepth 100000 in
theorem jm_cwm_9 : jm_cwP 9 := List.mem_filter.mpr ⟨jm_t1 (List.mem_of_getElem? (i := 91) rfl), rfl⟩
set_option maxRecDepth 100000 in
theorem jm_cwm_10 : jm_cwP 10 := List.mem_filter.mpr ⟨jm_t1 (List.mem_of_getElem? (i := 142) rfl), rfl⟩
set_option maxRecDepth 100000 in
theorem jm_cwm_11 : jm_cwP 11 := List.mem_filter.mpr ⟨jm_t1 (List.mem_of_getElem? (i := 148) rfl), rfl⟩
set_option maxRecDepth 100000 in
theorem jm_cwm_12 : jm_cwP 12 := List.mem_filter.mpr ⟨jm_t1 (List.mem_of_getElem? (i := 152) rfl), rfl⟩
set_option maxRecDepth 100000 in
theorem jm_cwm_13 : jm_cwP 13 := List.mem_filter.mpr ⟨jm_t1 (List.mem_of_getElem? (i := 210) rfl), rfl⟩
set_option maxRecDepth 100000 in
theorem jm_cwm_14 : jm_cwP 14 := List.mem_filter.mpr ⟨jm_t2 (List.mem_of_getElem? (i := 42) rfl), rfl⟩
set_option maxRecDepth 100000 in
theorem jm_cwm_15 : jm_cwP 15 := List.mem_filter.mpr ⟨jm_t2 (List.mem_of_getElem? (i := 88) rfl), rfl⟩
set_option maxRecDepth 100000 in
theorem jm_cwm_16 : jm_cwP 16 := List.mem_filter.mpr ⟨jm_t2 (List.mem_of_getElem? (i := 105) rfl), rfl⟩
set_option maxRecDepth 100000 in
theorem jm_cwm_17 : jm_cwP 17 := List.mem_filter.mpr ⟨jm_t2 (List.mem_of_getElem? (i := 121) rfl), rfl⟩
set_option maxRecDepth 100000 in
theorem jm_cwm_18 : jm_cwP 18 := List.mem_filter.mpr ⟨jm_t2 (List.mem_of_getElem? (i := 150) rfl), rfl⟩
set_option maxRecDepth 100000 in
theorem jm_cwm_19 : jm_cwP 19 := List.mem_filter.mpr ⟨jm_t2 (List.mem_of_getElem? (i := 166) rfl), rfl⟩
set_option maxRecDepth 100000 in
theorem jm_cwm_20 : jm_cwP 20 := List.mem_filter.mpr ⟨jm_t2 (List.mem_of_getElem? (i := 177) rfl), rfl⟩
set_option maxRecDepth 100000 in
theorem jm_cwm_21 : jm_cwP 21 := List.mem_filter.mpr ⟨jm_t2 (List.mem_of_getElem? (i := 238) rfl), rfl⟩
set_option maxRecDepth 100000 in
theorem jm_cwm_22 : jm_cwP 22 := List.mem_filter.mpr ⟨jm_t3 (List.mem_of_getElem? (i := 2) rfl), rfl⟩
set_option maxRecDepth 100000 in
theorem jm_cwm_23 : jm_cwP 23 := List.mem_filter.mpr ⟨jm_t3 (List.mem_of_getElem? (i := 6) rfl), rfl⟩
set_option maxRecDepth 100000 in
theorem jm_cwm_24 : jm_cwP 24 := List.mem_filter.mpr ⟨jm_t3 (List.mem_of_getElem? (i := 10) rfl), rfl⟩
set_option maxRecDepth 100000 in
theorem jm_cwm_25 : jm_cwP 25 := List.mem_filter.mpr ⟨jm_t3 (List.mem_of_getElem? (i := 14) rfl), rfl⟩
set_option maxRecDepth 100000 in
theorem jm_cwm_26 : jm_cwP 26 := List.mem_filter.mpr ⟨jm_t3 (List.mem_of_getElem? (i := 18) rfl), rfl⟩
set_option maxRecDepth 100000 in
theorem jm_cwm_27 : jm_cwP 27 := List.mem_filter.mpr ⟨jm_t3 (List.mem_of_getElem? (i := 22) rfl), rfl⟩
set_option maxRecDepth 100000 in
theorem jm_cwm_28 : jm_cwP 28 := List.mem_filter.mpr ⟨jm_t3 (List.mem_of_getElem? (i := 26) rfl), rfl⟩
set_option maxRecDepth 100000 in
theorem jm_cwm_29 : jm_cwP 29 := List.mem_filter.mpr ⟨jm_t3 (List.mem_of_getElem? (i := 30) rfl), rfl⟩
set_option maxRecDepth 100000 in
theorem jm_cwm_30 : jm_cwP 30 := List.mem_filter.mpr ⟨jm_t3 (List.mem_of_getElem? (i := 33) rfl), rfl⟩
set_option maxRecDepth 100000 in
theorem jm_cwm_31 : jm_cwP 31 := List.mem_filter.mpr ⟨jm_t3 (List.mem_of_getElem? (i := 36) rfl), rfl⟩
set_option maxRecDepth 100000 in
theorem jm_cwm_32 : jm_cwP 32 := List.mem_filter.mpr ⟨jm_t3 (List.mem_of_getElem? (i := 39) rfl), rfl⟩
set_option maxRecDepth 100000 in
theorem jm_cwm_33 : jm_cwP 33 := List.mem_filter.mpr ⟨jm_t3 (List.mem_of_getElem? (i := 43) rfl), rfl⟩
set_option maxRecDepth 100000 in
theorem jm_cwm_34 : jm_cwP 34 := List.mem_filter.mpr ⟨jm_t3 (List.mem_of_getElem? (i := 47) rfl), rfl⟩
set_option maxRecDepth 100000 in
theorem jm_cwm_35 : jm_cwP 35 := List.mem_filter.mpr ⟨jm_t3 (List.mem_of_getElem? (i := 50) rfl), rfl⟩
set_option maxRecDepth 100000 in
theorem jm_cwm_36 : jm_cwP 36 := List.mem_filter.mpr ⟨jm_t3 (List.mem_of_getElem? (i := 54) rfl), rfl⟩
set_option maxRecDepth 100000 in
theorem jm_cwm_37 : jm_cwP 37 := List.mem_filter.mpr ⟨jm_t3 (List.mem_of_getElem? (i := 58) rfl), rfl⟩
set_option maxRecDepth 100000 in
theorem jm_cwm_38 : jm_cwP 38 := List.mem_filter.mpr ⟨jm_t3 (List.mem_of_getElem? (i := 62) rfl), rfl⟩
set_option maxRecDepth 100000 in
theorem jm_cwm_39 : jm_cwP 39 := List.mem_filter.mpr ⟨jm_t3 (List.mem_of_getElem? (i := 66) rfl), rfl⟩
set_option maxRecDepth 100000 in
theorem jm_cwm_40 : jm_cwP 40 := List.mem_filter.mpr ⟨jm_t3 (List.mem_of_getElem? (i := 70) rfl), rfl⟩
set_option maxRecDepth 100000 in
theorem jm_cwm_41 : jm_cwP 41 := List.mem_filter.mpr ⟨jm_t3 (List.mem_of_getElem? (i := 77) rfl), rfl⟩
set_option maxRecDepth 100000 in
theorem jm_cwm_42 : jm_cwP 42 := List.mem_filter.mpr ⟨jm_t3 (List.mem_of_getElem? (i := 81) rfl), rfl⟩
set_option maxRecDepth 100000 in
theorem jm_cwm_43 : jm_cwP 43 := List.mem_filter.mpr ⟨jm_t3 (List.mem_of_getElem? (i := 85) rfl), rfl⟩
set_option maxRecDepth 100000 in
theorem jm_cwm_44 : jm_cwP 44 := List.mem_filter.mpr ⟨jm_t3 (List.mem_of_getElem? (i := 90) rfl), rfl⟩
set_option maxRecDepth 100000 in
theorem jm_cwm_45 : jm_cwP 45 := List.mem_filter.mpr ⟨jm_t3 (List.mem_of_getElem? (i := 94) rfl), rfl⟩
set_option maxRecDepth 100000 in
theorem jm_cwm_46 : jm_cwP 46 := List.mem_filter.mpr ⟨jm_t3 (List.mem_of_getElem? (i := 98) rfl), rfl⟩
set_option maxRecDepth 100000 in
theorem jm_cwm_47 : jm_cwP 47 := List.mem_filter.mpr ⟨jm_t3 (List.mem_of_getElem? (i := 102) rfl), rfl⟩
set_option maxRecDepth 100000 in
theorem jm_cwm_48 : jm_cwP 48 := List.mem_filter.mpr ⟨jm_t3 (List.mem_of_getElem? (i := 107) rfl), rfl⟩
set_option maxRecDepth 100000 in
theorem jm_cwm_49 : jm_cwP 49 := List.mem_filter.mpr ⟨jm_t3 (List.mem_of_getElem? (i := 111) rfl), rfl⟩
set_option maxRecDepth 100000 in
theorem jm_cwm_50 : jm_cwP 50 := List.mem_filter.mpr ⟨jm_t3 (List.mem_of_getElem? (i := 115) rfl), rfl⟩
set_option maxRecDepth 100000 in
theorem jm_cwm_51 : jm_cwP 51 := List.mem_filter.mpr ⟨jm_t3 (List.mem_of_getElem? (i := 120) rfl), rfl⟩
set_option maxRecDepth 100000 in
theorem jm_cwm_52 : jm_cwP 52 := List.mem_filter.mpr ⟨jm_t3 (List.mem_of_getElem? (i := 124) rfl), rfl⟩
set_option maxRecDepth 100000 in
theorem jm_cwm_53 : jm_cwP 53 := List.mem_filter.mpr ⟨jm_t3 (List.mem_of_getElem? (i := 128) rfl), rfl⟩
set_option maxRecDepth 100000 in
theorem jm_cwm_54 : jm_cwP 54 := List.mem_filter.mpr ⟨jm_t3 (List.mem_of_getElem? (i := 132) rfl), rfl⟩
set_option maxRecDepth 100000 in
theorem jm_cwm_55 : jm_cwP 55 := List.mem_filter.mpr ⟨jm_t3 (List.mem_of_getElem? (i := 136) rfl), rfl⟩
set_option maxRecDepth 100000 in
theorem jm_cwm_56 : jm_cwP 56 := List.mem_filter.mpr ⟨jm_t3 (List.mem_of_getElem? (i := 140) rfl), rfl⟩
set_option maxRecDepth 100000 in
theorem jm_cwm_57 : jm_cwP 57 := List.mem_filter.mpr ⟨jm_t3 (List.mem_of_getElem? (i := 144) rfl), rfl⟩
set_option maxRecDepth 100000 in
theorem jm_cwm_58 : jm_cwP 58 := List.mem_filter.mpr ⟨jm_t3 (List.mem_of_getElem? (i := 148) rfl), rfl⟩
set_option maxRecDepth 100000 in
theorem jm_cwm_59 : jm_cwP 59 := List.mem_filter.mpr ⟨jm_t3 (List.mem_of_getElem? (i := 152) rfl), rfl⟩
set_option maxRecDepth 100000 in
theorem jm_cwm_60 : jm_cwP 60 := List.mem_filter.mpr ⟨jm_t3 (List.mem_of_getElem? (i := 156) rfl), rfl⟩
set_option maxRecDepth 100000 in
theorem jm_cwm_61 : jm_cwP 61 := List.mem_filter.mpr ⟨jm_t3 (List.mem_of_getElem? (i := 160) rfl), rfl⟩
set_option maxRecDepth 100000 in
theorem jm_cwm_62 : jm_cwP 62 := List.mem_filter.mpr ⟨jm_t3 (List.mem_of_getElem? (i := 164) rfl), rfl⟩
set_option maxRecDepth 100000 in
theorem jm_cwm_63 : jm_cwP 63 := List.mem_filter.mpr ⟨jm_t3 (List.mem_of_getElem? (i := 168) rfl), rfl⟩
set_option maxRecDepth 100000 in
theorem jm_cwm_64 : jm_cwP 64 := List.mem_filter.mpr ⟨jm_t3 (List.mem_of_getElem? (i := 172) rfl), rfl⟩
set_option maxRecDepth 100000 in
theorem jm_cwm_65 : jm_cwP 65 := List.mem_filter.mpr ⟨jm_t3 (List.mem_of_getElem? (i := 176) rfl), rfl⟩
set_option maxRecDepth 100000 in
theorem jm_cwm_66 : jm_cwP 66 := List.mem_filter.mpr ⟨jm_t3 (List.mem_of_getElem? (i := 183) rfl), rfl⟩
set_option maxRecDepth 100000 in
theorem jm_cwm_67 : jm_cwP 67 := List.mem_filter.mpr ⟨jm_t3 (List.mem_of_getElem? (i := 188) rfl), rfl⟩
set_option maxRecDepth 100000 in
theorem jm_cwm_68 : jm_cwP 68 := List.mem_filter.mpr ⟨jm_t3 (List.mem_of_getElem? (i := 193) rfl), rfl⟩
set_option maxRecDepth 100000 in
theorem jm_cwm_69 : jm_cwP 69 := List.mem_filter.mpr ⟨jm_t3 (List.mem_of_getElem? (i := 197) rfl), rfl⟩
set_option maxRecDepth 100000 in
theorem jm_cwm_70 : jm_cwP 70 := List.mem_filter.mpr ⟨jm_t3 (List.mem_of_getElem? (i := 201) rfl), rfl⟩
set_option maxRecDepth 100000 in
theorem jm_cwm_71 : jm_cwP 71 := List.mem_filter.mpr ⟨jm_t3 (List.mem_of_getElem? (i := 205) rfl), rfl⟩
set_option maxRecDepth 100000 in
theorem jm_cwm_72 : jm_cwP 72 := List.mem_filter.mpr ⟨jm_t3 (List.mem_of_getElem? (i := 209) rfl), rfl⟩
set_option maxRecDepth 100000 in
theorem jm_cwm_73 : jm_cwP 73 := List.mem_filter.mpr ⟨jm_t3 (List.mem_of_getElem? (i := 213) rfl), rfl⟩
set_option maxRecDepth 100000 in
theorem jm_cwm_74 : jm_cwP 74 := List.mem_filter.mpr ⟨jm_t3 (List.mem_of_getElem? (i := 217) rfl), rfl⟩
set_option maxRecDepth 100000 in
theorem jm_cwm_75 : jm_cwP 75 := List.mem_filter.mpr ⟨jm_t3 (List.mem_of_getElem? (i := 221) rfl), rfl⟩
set_option maxRecDepth 100000 in
theorem jm_cwm_76 : jm_cwP 76 := List.mem_filter.mpr ⟨jm_t3 (List.mem_of_getElem? (i := 225) rfl), rfl⟩
set_option maxRecDepth 100000 in
theorem jm_cwm_77 : jm_cwP 77 := List.mem_filter.mpr ⟨jm_t3 (List.mem_of_getElem? (i := 229) rfl), rfl⟩
set_option maxRecDepth 100000 in
theorem jm_cwm_78 : jm_cwP 78 := List.mem_filter.mpr ⟨jm_t3 (List.mem_of_getElem? (i := 233) rfl), rfl⟩
set_option maxRecDepth 100000 in
theorem jm_cwm_79 : jm_cwP 79 := List.mem_filter.mpr ⟨jm_t3 (List.mem_of_getElem? (i := 237) rfl), rfl⟩
set_option maxRecDepth 100000 in
theorem jm_cwm_80 : jm_cwP 80 := List.mem_filter.mpr ⟨jm_t4 (List.mem_of_getElem? (i := 1) rfl), rfl⟩
set_option maxRecDepth 100000 in
theorem jm_cwm_81 : jm_cwP 81 := List.mem_filter.mpr ⟨jm_t4 (List.mem_of_getElem? (i := 5) rfl), rfl⟩
set_option maxRecDepth 100000 in
theorem jm_cwm_82 : jm_cwP 82 := List.mem_filter.mpr ⟨jm_t4 (List.mem_of_getElem? (i := 11) rfl), rfl⟩
set_option maxRecDepth 100000 in
theorem jm_cwm_83 : jm_cwP 83 := List.mem_filter.mpr ⟨jm_t4 (List.mem_of_getElem? (i := 15) rfl), rfl⟩
set_option maxRecDepth 100000 in
theorem jm_cwm_84 : jm_cwP 84 := List.mem_filter.mpr ⟨jm_t4 (List.mem_of_getElem? (i := 19) rfl), rfl⟩
set_option maxRecDepth 100000 in
theorem jm_cwm_85 : jm_cwP 85 := List.mem_filter.mpr ⟨jm_t4 (List.mem_of_getElem? (i := 23) rfl), rfl⟩
set_option maxRecDepth 100000 in
theorem jm_cwm_86 : jm_cwP 86 := List.mem_filter.mpr ⟨jm_t4 (List.mem_of_getElem? (i := 29) rfl), rfl⟩
set_option maxRecDepth 100000 in
theorem jm_cwm_87 : jm_cwP 87 := List.mem_filter.mpr ⟨jm_t4 (List.mem_of_getElem? (i := 33) rfl), rfl⟩
set_option maxRecDepth 100000 in
theorem jm_cwm_88 : jm_cwP 88 := List.mem_filter.mpr ⟨jm_t4 (List.mem_of_getElem? (i := 37) rfl), rfl⟩
set_option maxRecDepth 100000 in
theorem jm_cwm_89 : jm_cwP 89 := List.mem_filter.mpr ⟨jm_t4 (List.mem_of_getElem? (i := 41) rfl), rfl⟩
set_option maxRecDepth 100000 in
theorem jm_cwm_90 : jm_cwP 90 := List.mem_filter.mpr ⟨jm_t4 (List.mem_of_getElem? (i := 45) rfl), rfl⟩
set_option maxRecDepth 100000 in
theorem jm_cwm_91 : jm_cwP 91 := List.mem_filter.mpr ⟨jm_t4 (List.mem_of_getElem? (i := 55) rfl), rfl⟩
set_option maxRecDepth 100000 in
theorem jm_cwm_92 : jm_cwP 92 := List.mem_filter.mpr ⟨jm_t4 (List.mem_of_getElem? (i := 59) rfl), rfl⟩
set_option maxRecDepth 100000 in
theorem jm_cwm_93 : jm_cwP 93 := List.mem_filter.mpr ⟨jm_t4 (List.mem_of_getElem? (i := 63) rfl), rfl⟩
set_option maxRecDepth 100000 in
theorem jm_cwm_94 : jm_cwP 94 := List.mem_filter.mpr ⟨jm_t4 (List.mem_of_getElem? (i := 68) rfl), rfl⟩
set_option maxRecDepth 100000 in
theorem jm_cwm_95 : jm_cwP 95 := List.mem_filter.mpr ⟨jm_t4 (List.mem_of_getElem? (i := 72) rfl), rfl⟩
set_option maxRecDepth 100000 in
theorem jm_cwm_96 : jm_cwP 96 := List.mem_filter.mpr ⟨jm_t4 (List.mem_of_getElem? (i := 76) rfl), rfl⟩
set_option maxRecDepth 100000 in
theorem jm_cwm_97 : jm_cwP 97 := List.mem_filter.mpr ⟨jm_t4 (List.mem_of_getElem? (i := 80) rfl), rfl⟩
set_option maxRecDepth 100000 in
theorem jm_cwm_98 : jm_cwP 98 := List.mem_filter.mpr ⟨jm_t4 (List.mem_of_getElem? (i := 85) rfl), rfl⟩
set_option maxRecDepth 100000 in
theorem jm_cwm_99 : jm_cwP 99 := List.mem_filter.mpr ⟨jm_t4 (List.mem_of_getElem? (i := 89) rfl), rfl⟩
set_option maxRecDepth 100000 in
theorem jm_cwm_100 : jm_cwP 100 := List.mem_filter.mpr ⟨jm_t4 (List.mem_of_getElem? (i := 93) rfl), rfl⟩
set_option maxRecDepth 100000 in
theorem jm_cwm_101 : jm_cwP 101 := List.mem_filter.mpr ⟨jm_t4 (List.mem_of_getElem? (i := 97) rfl), rfl⟩
set_option maxRecDepth 100000 in
theorem jm_cwm_102 : jm_cwP 102 := List.mem_filter.mpr ⟨jm_t4 (List.mem_of_getElem? (i := 103) rfl), rfl⟩
set_option maxRecDepth 100000 in
theorem jm_cwm_103 : jm_cwP 103 := List.mem_filter.mpr ⟨jm_t4 (List.mem_of_getElem? (i := 108) rfl), rfl⟩
set_option maxRecDepth 100000 in
theorem jm_cwm_104 : jm_cwP 104 := List.mem_filter.mpr ⟨jm_t4 (List.mem_of_getElem? (i := 112) rfl), rfl⟩
set_option maxRecDepth 100000 in
theorem jm_cwm_105 : jm_cwP 105 := List.mem_filter.mpr ⟨jm_t4 (List.mem_of_getElem? (i := 118) rfl), rfl⟩
set_option maxRecDepth 100000 in
theorem jm_cwm_106 : jm_cwP 106 := List.mem_filter.mpr ⟨jm_t4 (List.mem_of_getElem? (i := 122) rfl), rfl⟩
set_option maxRecDepth 100000 in
theorem jm_cwm_107 : jm_cwP 107 := List.mem_filter.mpr ⟨jm_t4 (List.mem_of_getElem? (i := 126) rfl), rfl⟩
set_option maxRecDepth 100000 in
theorem jm_cwm_108 : jm_cwP 108 := List.mem_filter.mpr ⟨jm_t4 (List.mem_of_getElem? (i := 130) rfl), rfl⟩
set_option maxRecDepth 100000 in
theorem jm_cwm_109 : jm_cwP 109 := List.mem_filter.mpr ⟨jm_t4 (List.mem_of_getElem? (i := 134) rfl), rfl⟩
set_option maxRecDepth 100000 in
theorem jm_cwm_110 : jm_cwP 110 := List.mem_filter.mpr ⟨jm_t4 (List.mem_of_getElem? (i := 138) rfl), rfl⟩
set_option maxRecDepth 100000 in
theorem jm_cwm_111 : jm_cwP 111 := List.mem_filter.mpr ⟨jm_t4 (List.mem_of_getElem? (i := 142) rfl), rfl⟩
set_option maxRecDepth 100000 in
theorem jm_cwm_112 : jm_cwP 112 := List.mem_filter.mpr ⟨jm_t4 (List.mem_of_getElem? (i := 145) rfl), rfl⟩
set_option maxRecDepth 100000 in
theorem jm_cwm_113 : jm_cwP 113 := List.mem_filter.mpr ⟨jm_t4 (List.mem_of_getElem? (i := 152) rfl), rfl⟩
set_option maxRecDepth 100000 in
theorem jm_cwm_114 : jm_cwP 114 := List.mem_filter.mpr ⟨jm_t4 (List.mem_of_getElem? (i := 157) rfl), rfl⟩
set_option maxRecDepth 100000 in
theorem jm_cwm_115 : jm_cwP 115 := List.mem_filter.mpr ⟨jm_t4 (List.mem_of_getElem? (i := 161) rfl), rfl⟩
set_option maxRecDepth 100000 in
theorem jm_cwm_116 : jm_cwP 116 := List.mem_filter.mpr ⟨jm_t4 (List.mem_of_getElem? (i := 165) rfl), rfl⟩
set_option maxRecDepth 100000 in
theorem jm_cwm_117 : jm_cwP 117 := List.mem_filter.mpr ⟨jm_t4 (List.mem_of_getElem? (i := 169) rfl), rfl⟩
set_option maxRecDepth 100000 in
theorem jm_cwm_118 : jm_cwP 118 := List.mem_filter.mpr ⟨jm_t4 (List.mem_of_getElem? (i := 173) rfl), rfl⟩
set_option maxRecDepth 100000 in
theorem jm_cwm_119 : jm_cwP 119 := List.mem_filter.mpr ⟨jm_t4 (List.mem_of_getElem? (i := 177) rfl), rfl⟩
set_option maxRecDepth 100000 in
theorem jm_cwm_120 : jm_cwP 120 := List.mem_filter.mpr ⟨jm_t4 (List.mem_of_getElem? (i := 181) rfl), rfl⟩
set_option maxRecDepth 100000 in
theorem jm_cwm_121 : jm_cwP 121 := List.mem_filter.mpr ⟨jm_t4 (List.mem_of_getElem? (i := 185) rfl), rfl⟩
set_option maxRecDepth 100000 in
theorem jm_cwm_122 : jm_cwP 122 := List.mem_filter.mpr ⟨jm_t4 (List.mem_of_getElem? (i := 190) rfl), rfl⟩
set_option maxRecDepth 100000 in
theorem jm_cwm_123 : jm_cwP 123 := List.mem_filter.mpr ⟨jm_t4 (List.mem_of_getElem? (i := 195) rfl), rfl⟩
set_option maxRecDepth 100000 in
theorem jm_cwm_124 : jm_cwP 124 := List.mem_filter.mpr ⟨jm_t4 (List.mem_of_getElem? (i := 202) rfl), rfl⟩
set_option maxRecDepth 100000 in
theorem jm_cwm_125 : jm_cwP 125 := List.mem_filter.mpr ⟨jm_t4 (List.mem_of_getElem? (i := 208) rfl), rfl⟩
set_option maxRecDepth 100000 in
theorem jm_cwm_126 : jm_cwP 126 := List.mem_filter.mpr ⟨jm_t4 (List.mem_of_getElem? (i := 212) rfl), rfl⟩
set_option maxRecDepth 100000 in
theorem jm_cwm_127 : jm_cwP 127 := List.mem_filter.mpr ⟨jm_t4 (List.mem_of_getElem? (i := 216) rfl), rfl⟩
set_option maxRecDepth 100000 in
theorem jm_cwm_128 : jm_cwP 128 := List.mem_filter.mpr ⟨jm_t4 (List.mem_of_getElem? (i := 220) rfl), rfl⟩
set_option maxRecDepth 100000 in
theorem jm_cwm_129 : jm_cwP 129 := List.mem_filter.mpr ⟨jm_t4 (List.mem_of_getElem? (i := 225) rfl), rfl⟩
set_option maxRecDepth 100000 in
theorem jm_cwm_130 : jm_cwP 130 := List.mem_filter.mpr ⟨jm_t4 (List.mem_of_getElem? (i := 238) rfl), rfl⟩
set_option maxRecDepth 100000 in
theorem jm_cwm_131 : jm_cwP 131 := List.mem_filter.mpr ⟨jm_t5 (List.mem_of_getElem? (i := 2) rfl), rfl⟩
set_option maxRecDepth 100000 in
theorem jm_cwm_132 : jm_cwP 132 := List.mem_filter.mpr ⟨jm_t5 (List.mem_of_getElem? (i := 7) rfl), rfl⟩
set_option maxRecDepth 100000 in
theorem jm_cwm_133 : jm_cwP 133 := List.mem_filter.mpr ⟨jm_t5 (List.mem_of_getElem? (i := 11) rfl), rfl⟩
set_option maxRecDepth 100000 in
theorem jm_cwm_134 : jm_cwP 134 := List.mem_filter.mpr ⟨jm_t5 (List.mem_of_getElem? (i := 16) rfl), rfl⟩
set_option maxRecDepth 100000 in
theorem jm_cwm_135 : jm_cwP 135 := List.mem_filter.mpr ⟨jm_t5 (List.mem_of_getElem? (i := 20) rfl), rfl⟩
set_option maxRecDepth 100000 in
theorem jm_cwm_136 : jm_cwP 136 := List.mem_filter.mpr ⟨jm_t5 (List.mem_of_getElem? (i := 27) rfl), rfl⟩
set_option maxRecDepth 100000 in
theorem jm_cwm_137 : jm_cwP 137 := List.mem_filter.mpr ⟨jm_t5 (List.mem_of_getElem? (i := 31) rfl), rfl⟩
set_option maxRecDepth 100000 in
theorem jm_cwm_138 : jm_cwP 138 := List.mem_filter.mpr ⟨jm_t5 (List.mem_of_getElem? (i := 36) rfl), rfl⟩
set_option maxRecDepth 100000 in
theorem jm_cwm_139 : jm_cwP 139 := List.mem_filter.mpr ⟨jm_t5 (List.mem_of_getElem? (i := 42) rfl), rfl⟩
set_option maxRecDepth 100000 in
theorem jm_cwm_140 : jm_cwP 140 := List.mem_filter.mpr ⟨jm_t5 (List.mem_of_getElem? (i := 46) rfl), rfl⟩
set_option maxRecDepth 100000 in
theorem jm_cwm_141 : jm_cwP 141 := List.mem_filter.mpr ⟨jm_t5 (List.mem_of_getElem? (i := 49) rfl), rfl⟩
set_option maxRecDepth 100000 in
theorem jm_cwm_142 : jm_cwP 142 := List.mem_filter.mpr ⟨jm_t5 (List.mem_of_getElem? (i := 61) rfl), rfl⟩
set_option maxRecDepth 100000 in
theorem jm_cwm_143 : jm_cwP 143 := List.mem_filter.mpr ⟨jm_t5 (List.mem_of_getElem? (i := 67) rfl), rfl⟩
set_option maxRecDepth 100000 in
theorem jm_cwm_144 : jm_cwP 144 := List.mem_filter.mpr ⟨jm_t5 (List.mem_of_getElem? (i := 71) rfl), rfl⟩
set_option maxRecDepth 100000 in
theorem jm_cwm_145 : jm_cwP 145 := List.mem_filter.mpr ⟨jm_t5 (List.mem_of_getElem? (i := 75) rfl), rfl⟩
set_option maxRecDepth 100000 in
theorem jm_cwm_146 : jm_cwP 146 := List.mem_filter.mpr ⟨jm_t5 (List.mem_of_getElem? (i := 81) rfl), rfl⟩
set_option maxRecDepth 100000 in
theorem jm_cwm_147 : jm_cwP 147 := List.mem_filter.mpr ⟨jm_t5 (List.mem_of_getElem? (i := 85) rfl), rfl⟩
set_option maxRecDepth 100000 in
theorem jm_cwm_148 : jm_cwP 148 := List.mem_filter.mpr ⟨jm_t5 (List.mem_of_getElem? (i := 89) rfl), rfl⟩
set_option maxRecDepth 100000 in
theorem jm_cwm_149 : jm_cwP 149 := List.mem_filter.mpr ⟨jm_t5 (List.mem_of_getElem? (i := 96) rfl), rfl⟩
set_option maxRecDepth 100000 in
theorem jm_cwm_150 : jm_cwP 150 := List.mem_filter.mpr ⟨jm_t5 (List.mem_of_getElem? (i := 100) rfl), rfl⟩
set_option maxRecDepth 100000 in
theorem jm_cwm_151 : jm_cwP 151 := List.mem_filter.mpr ⟨jm_t5 (List.mem_of_getElem? (i := 105) rfl), rfl⟩
set_option maxRecDepth 100000 in
theorem jm_cwm_152 : jm_cwP 152 := List.mem_filter.mpr ⟨jm_t5 (List.mem_of_getElem? (i := 112) rfl), rfl⟩
set_option maxRecDepth 100000 in
theorem jm_cwm_153 : jm_cwP 153 := List.mem_filter.mpr ⟨jm_t5 (List.mem_of_getElem? (i := 116) rfl), rfl⟩
set_option maxRecDepth 100000 in
theorem jm_cwm_154 : jm_cwP 154 := List.mem_filter.mpr ⟨jm_t5 (List.mem_of_getElem? (i := 120) rfl), rfl⟩
set_option maxRecDepth 100000 in
theorem jm_cwm_155 : jm_cwP 155 := List.mem_filter.mpr ⟨jm_t5 (List.mem_of_getElem? (i := 124) rfl), rfl⟩
set_option maxRecDepth 100000 in
theorem jm_cwm_156 : jm_cwP 156 := List.mem_filter.mpr ⟨jm_t5 (List.mem_of_getElem? (i := 128) rfl), rfl⟩
set_option maxRecDepth 100000 in
theorem jm_cwm_157 : jm_cwP 157 := List.mem_filter.mpr ⟨jm_t5 (List.mem_of_getElem? (i := 132) rfl), rfl⟩
set_option maxRecDepth 100000 in
theorem jm_cwm_158 : jm_cwP 158 := List.mem_filter.mpr ⟨jm_t5 (List.mem_of_getElem? (i := 136) rfl), rfl⟩
set_option maxRecDepth 100000 in
theorem jm_cwm_160 : jm_cwP 160 := List.mem_filter.mpr ⟨jm_t5 (List.mem_of_getElem? (i := 144) rfl), rfl⟩
set_option maxRecDepth 100000 in
theorem jm_cwm_162 : jm_cwP 162 := List.mem_filter.mpr ⟨jm_t5 (List.mem_of_getElem? (i := 217) rfl), rfl⟩
set_option maxRecDepth 100000 in
theorem jm_cwm_163 : jm_cwP 163 := List.mem_filter.mpr ⟨jm_t5 (List.mem_of_getElem? (i := 222) rfl), rfl⟩
set_option maxRecDepth 100000 in
theorem jm_cwm_164 : jm_cwP 164 := List.mem_filter.mpr ⟨jm_t5 (List.mem_of_getElem? (i := 226) rfl), rfl⟩
set_option maxRecDepth 100000 in
theorem jm_cwm_165 : jm_cwP 165 := List.mem_filter.mpr ⟨jm_t5 (List.mem_of_getElem? (i := 229) rfl), rfl⟩
set_option maxRecDepth 100000 in
theorem jm_cwm_167 : jm_cwP 167 := List.mem_filter.mpr ⟨jm_t5 (List.mem_of_getElem? (i := 236) rfl), rfl⟩
set_option maxRecDepth 100000 in
theorem jm_cwm_168 : jm_cwP 168 := List.mem_filter.mpr ⟨jm_t6 (List.mem_of_getElem? (i := 1) rfl), rfl⟩
set_option maxRecDepth 100000 in
theorem jm_cwm_169 : jm_cwP 169 := List.mem_filter.mpr ⟨jm_t6 (List.mem_of_getElem? (i := 6) rfl), rfl⟩
set_option maxRecDepth 100000 in
theorem jm_cwm_170 : jm_cwP 170 := List.mem_filter.mpr ⟨jm_t6 (List.mem_of_getElem? (i := 10) rfl), rfl⟩
set_option maxRecDepth 100000 in
theorem jm_cwm_171 : jm_cwP 171 := List.mem_filter.mpr ⟨jm_t6 (List.mem_of_getElem? (i := 14) rfl), rfl⟩
set_option maxRecDepth 100000 in
theorem jm_cwm_172 : jm_cwP 172 := List.mem_filter.mpr ⟨jm_t6 (List.mem_of_getElem? (i := 42) rfl), rfl⟩
set_option maxRecDepth 100000 in
theorem jm_cwm_173 : jm_cwP 173 := List.mem_filter.mpr ⟨jm_t6 (List.mem_of_getElem? (i := 177) rfl), rfl⟩
set_option maxRecDepth 100000 in
theorem jm_cwm_174 : jm_cwP 174 := List.mem_filter.mpr ⟨jm_t6 (List.mem_of_getElem? (i := 181) rfl), rfl⟩
set_option maxRecDepth 100000 in
theorem jm_cwm_175 : jm_cwP 175 := List.mem_filter.mpr ⟨jm_t6 (List.mem_of_getElem? (i := 185) rfl), rfl⟩
set_option maxRecDepth 100000 in
theorem jm_cwm_176 : jm_cwP 176 := List.mem_filter.mpr ⟨jm_t6 (List.mem_of_getElem? (i := 189) rfl), rfl⟩
set_option maxRecDepth 100000 in
theorem jm_cwm_177 : jm_cwP 177 := List.mem_filter.mpr ⟨jm_t6 (List.mem_of_getElem? (i := 192) rfl), rfl⟩
set_option maxRecDepth 100000 in
theorem jm_cwm_178 : jm_cwP 178 := List.mem_filter.mpr ⟨jm_t6 (List.mem_of_getElem? (i := 195) rfl), rfl⟩
set_option maxRecDepth 100000 in
theorem jm_cwm_179 : jm_cwP 179 := List.mem_filter.mpr ⟨jm_t6 (List.mem_of_getElem? (i := 199) rfl), rfl⟩
set_option maxRecDepth 100000 in
theorem jm_cwm_180 : jm_cwP 180 := List.mem_filter.mpr ⟨jm_t6 (List.mem_of_getElem? (i := 203) rfl), rfl⟩
set_option maxRecDepth 100000 in
theorem jm_cwm_181 : jm_cwP 181 := List.mem_filter.mpr ⟨jm_t6 (List.mem_of_getElem? (i := 207) rfl), rfl⟩
set_option maxRecDepth 100000 in
theorem jm_cwm_182 : jm_cwP 182 := List.mem_filter.mpr ⟨jm_t6 (List.mem_of_getElem? (i := 211) rfl), rfl⟩
set_option maxRecDepth 100000 in
theorem jm_cwm_183 : jm_cwP 183 := List.mem_filter.mpr ⟨jm_t6 (List.mem_of_getElem? (i := 215) rfl), rfl⟩
set_option maxRecDepth 100000 in
theorem jm_cwm_184 : jm_cwP 184 := List.mem_filter.mpr ⟨jm_t6 (List.mem_of_getElem? (i := 219) rfl), rfl⟩
set_option maxRecDepth 100000 in
theorem jm_cwm_185 : jm_cwP 185 := List.mem_filter.mpr ⟨jm_t6 (List.mem_of_getElem? (i := 223) rfl), rfl⟩
set_option maxRecDepth 100000 in
theorem jm_cwm_186 : jm_cwP 186 := List.mem_filter.mpr ⟨jm_t6 (List.mem_of_getElem? (i := 227) rfl), rfl⟩
set_option maxRecDepth 100000 in
theorem jm_cwm_187 : jm_cwP 187 := List.mem_filter.mpr ⟨jm_t6 (List.mem_of_getElem? (i := 231) rfl), rfl⟩
set_option maxRecDepth 100000 in
theorem jm_cwm_188 : jm_cwP 188 := List.mem_filter.mpr ⟨jm_t6 (List.mem_of_getElem? (i := 234) rfl), rfl⟩
set_option maxRecDepth 100000 in
theorem jm_cwm_189 : jm_cwP 189 := List.mem_filter.mpr ⟨jm_t6 (List.mem_of_getElem? (i := 238) rfl), rfl⟩
set_option maxRecDepth 100000 in
theorem jm_cwm_190 : jm_cwP 190 := List.mem_filter.mpr ⟨jm_t7 (List.mem_of_getElem? (i := 2) rfl), rfl⟩
set_option maxRecDepth 100000 in
theorem jm_cwm_191 : jm_cwP 191 := List.mem_filter.mpr ⟨jm_t7 (List.mem_of_getElem? (i := 6) rfl), rfl⟩
set_option maxRecDepth 100000 in
theorem jm_cwm_192 : jm_cwP 192 := List.mem_filter.mpr ⟨jm_t7 (List.mem_of_getElem? (i := 10) rfl), rfl⟩
set_option maxRecDepth 100000 in
theorem jm_cwm_193 : jm_cwP 193 := List.mem_filter.mpr ⟨jm_t7 (List.mem_of_getElem? (i := 14) rfl), rfl⟩
set_option maxRecDepth 100000 in
theorem jm_cwm_194 : jm_cwP 194 := List.mem_filter.mpr ⟨jm_t7 (List.mem_of_getElem? (i := 18) rfl), rfl⟩
set_option maxRecDepth 100000 in
theorem jm_cwm_195 : jm_cwP 195 := List.mem_filter.mpr ⟨jm_t7 (List.mem_of_getElem? (i := 22) rfl), rfl⟩
set_option maxRecDepth 100000 in
theorem jm_cwm_196 : jm_cwP 196 := List.mem_filter.mpr ⟨jm_t7 (List.mem_of_getElem? (i := 26) rfl), rfl⟩
set_option maxRecDepth 100000 in
theorem jm_cwm_197 : jm_cwP 197 := List.mem_filter.mpr ⟨jm_t7 (List.mem_of_getElem? (i := 29) rfl), rfl⟩
set_option maxRecDepth 100000 in
theorem jm_cwm_198 : jm_cwP 198 := List.mem_filter.mpr ⟨jm_t7 (List.mem_of_getElem? (i := 33) rfl), rfl⟩
set_option maxRecDepth 100000 in
theorem jm_cwm_199 : jm_cwP 199 := List.mem_filter.mpr ⟨jm_t7 (List.mem_of_getElem? (i := 37) rfl), rfl⟩
set_option maxRecDepth 100000 in
theorem jm_cwm_200 : jm_cwP 200 := List.mem_filter.mpr ⟨jm_t7 (List.mem_of_getElem? (i := 41) rfl), rfl⟩
set_option maxRecDepth 100000 in
theorem jm_cwm_201 : jm_cwP 201 := List.mem_filter.mpr ⟨jm_t7 (List.mem_of_getElem? (i := 45) rfl), rfl⟩
set_option maxRecDepth 100000 in
theorem jm_cwm_202 : jm_cwP 202 := List.mem_filter.mpr ⟨jm_t7 (List.mem_of_getElem? (i := 49) rfl), rfl⟩
set_option maxRecDepth 100000 in
theorem jm_cwm_203 : jm_cwP 203 := List.mem_filter.mpr ⟨jm_t7 (List.mem_of_getElem? (i := 53) rfl), rfl⟩
set_option maxRecDepth 100000 in
theorem jm_cwm_204 : jm_cwP 204 := List.mem_filter.mpr ⟨jm_t7 (List.mem_of_getElem? (i := 57) rfl), rfl⟩
set_option maxRecDepth 100000 in
theorem jm_cwm_205 : jm_cwP 205 := List.mem_filter.mpr ⟨jm_t7 (List.mem_of_getElem? (i := 61) rfl), rfl⟩
set_option maxRecDepth 100000 in
theorem jm_cwm_206 : jm_cwP 206 := List.mem_filter.mpr ⟨jm_t7 (List.mem_of_getElem? (i := 65) rfl), rfl⟩
set_option maxRecDepth 100000 in
theorem jm_cwm_207 : jm_cwP 207 := List.mem_filter.mpr ⟨jm_t7 (List.mem_of_getElem? (i := 69) rfl), rfl⟩
set_option maxRecDepth 100000 in
theorem jm_cwm_208 : jm_cwP 208 := List.mem_filter.mpr ⟨jm_t7 (List.mem_of_getElem? (i := 73) rfl), rfl⟩
set_option maxRecDepth 100000 in
theorem jm_cwm_209 : jm_cwP 209 := List.mem_filter.mpr ⟨jm_t7 (List.mem_of_getElem? (i := 77) rfl), rfl⟩
set_option maxRecDepth 100000 in
theorem jm_cwm_210 : jm_cwP 210 := List.mem_filter.mpr ⟨jm_t7 (List.mem_of_getElem? (i := 81) rfl), rfl⟩
set_option maxRecDepth 100000 in
theorem jm_cwm_211 : jm_cwP 211 := List.mem_filter.mpr ⟨jm_t7 (List.mem_of_getElem? (i := 85) rfl), rfl⟩
set_option maxRecDepth 100000 in
theorem jm_cwm_212 : jm_cwP 212 := List.mem_filter.mpr ⟨jm_t7 (List.mem_of_getElem? (i := 89) rfl), rfl⟩
set_option maxRecDepth 100000 in
theorem jm_cwm_213 : jm_cwP 213 := List.mem_filter.mpr ⟨jm_t7 (List.mem_of_getElem? (i := 93) rfl), rfl⟩
set_option maxRecDepth 100000 in
theorem jm_cwm_214 : jm_cwP 214 := List.mem_filter.mpr ⟨jm_t7 (List.mem_of_getElem? (i := 97) rfl), rfl⟩
set_option maxRecDepth 100000 in
theorem jm_cwm_215 : jm_cwP 215 := List.mem_filter.mpr ⟨jm_t7 (List.mem_of_getElem? (i := 101) rfl), rfl⟩
set_option maxRecDepth 100000 in
theorem jm_cwm_216 : jm_cwP 216 := List.mem_filter.mpr ⟨jm_t7 (List.mem_of_getElem? (i := 105) rfl), rfl⟩
set_option maxRecDepth 100000 in
theorem jm_cwm_217 : jm_cwP 217 := List.mem_filter.mpr ⟨jm_t7 (List.mem_of_getElem? (i := 109) rfl), rfl⟩
set_option maxRecDepth 100000 in
theorem jm_cwm_218 : jm_cwP 218 := List.mem_filter.mpr ⟨jm_t7 (List.mem_of_getElem? (i := 113) rfl), rfl⟩
set_option maxRecDepth 100000 in
theorem jm_cwm_219 : jm_cwP 219 := List.mem_filter.mpr ⟨jm_t7 (List.mem_of_getElem? (i := 117) rfl), rfl⟩
set_option maxRecDepth 100000 in
theorem jm_cwm_220 : jm_cwP 220 := List.mem_filter.mpr ⟨jm_t7 (List.mem_of_getElem? (i := 121) rfl), rfl⟩
set_option maxRecDepth 100000 in
theorem jm_cwm_221 : jm_cwP 221 := List.mem_filter.mpr ⟨jm_t7 (List.mem_of_getElem? (i := 125) rfl), rfl⟩
set_option maxRecDepth 100000 in
theorem jm_cwm_222 : jm_cwP 222 := List.mem_filter.mpr ⟨jm_t7 (List.mem_of_getElem? (i := 129) rfl), rfl⟩
set_option maxRecDepth 100000 in
theorem jm_cwm_223 : jm_cwP 223 := List.mem_filter.mpr ⟨jm_t7 (List.mem_of_getElem? (i := 133) rfl), rfl⟩
set_option maxRecDepth 100000 in
theorem jm_cwm_224 : jm_cwP 224 := List.mem_filter.mpr ⟨jm_t7 (List.mem_of_getElem? (i := 137) rfl), rfl⟩
set_option maxRecDepth 100000 in
theorem jm_cwm_225 : jm_cwP 225 := List.mem_filter.mpr ⟨jm_t7 (List.mem_of_getElem? (i := 141) rfl), rfl⟩
set_option maxRecDepth 100000 in
theorem jm_cwm_226 : jm_cwP 226 := List.mem_filter.mpr ⟨jm_t7 (List.mem_of_getElem? (i := 145) rfl), rfl⟩
set_option maxRecDepth 100000 in
theorem jm_cwm_227 : jm_cwP 227 := List.mem_filter.mpr ⟨jm_t7 (List.mem_of_getElem? (i := 149) rfl), rfl⟩
set_option maxRecDepth 100000 in
theorem jm_cwm_228 : jm_cwP 228 := List.mem_filter.mpr ⟨jm_t7 (List.mem_of_getElem? (i := 153) rfl), rfl⟩
set_option maxRecDepth 100000 in
theorem jm_cwm_229 : jm_cwP 229 := List.mem_filter.mpr ⟨jm_t7 (List.mem_of_getElem? (i := 157) rfl), rfl⟩
set_option maxRecDepth 100000 in
theorem jm_cwm_230 : jm_cwP 230 := List.mem_filter.mpr ⟨jm_t7 (List.mem_of_getElem? (i := 161) rfl), rfl⟩
set_option maxRecDepth 100000 in
theorem jm_cwm_231 : jm_cwP 231 := List.mem_filter.mpr ⟨jm_t7 (List.mem_of_getElem? (i := 165) rfl), rfl⟩
set_option maxRecDepth 100000 in
theorem jm_cwm_232 : jm_cwP 232 := List.mem_filter.mpr ⟨jm_t7 (List.mem_of_getElem? (i := 169) rfl), rfl⟩
set_option maxRecDepth 100000 in
theorem jm_cwm_233 : jm_cwP 233 := List.mem_filter.mpr ⟨jm_t7 (List.mem_of_getElem? (i := 173) rfl), rfl⟩
set_option maxRecDepth 100000 in
theorem jm_cwm_234 : jm_cwP 234 := List.mem_filter.mpr ⟨jm_t7 (List.mem_of_getElem? (i := 177) rfl), rfl⟩
set_option maxRecDepth 100000 in
theorem jm_cwm_235 : jm_cwP 235 := List.mem_filter.mpr ⟨jm_t7 (List.mem_of_getElem? (i := 181) rfl), rfl⟩
set_option maxRecDepth 100000 in
theorem jm_cwm_236 : jm_cwP 236 := List.mem_filter.mpr ⟨jm_t7 (List.mem_of_getElem? (i := 185) rfl), rfl⟩
set_option maxRecDepth 100000 in
theorem jm_cwm_237 : jm_cwP 237 := List.mem_filter.mpr ⟨jm_t7 (List.mem_of_getElem? (i := 189) rfl), rfl⟩
set_option maxRecDepth 100000 in
theorem jm_cwm_238 : jm_cwP 238 := List.mem_filter.mpr ⟨jm_t7 (List.mem_of_getElem? (i := 193) rfl), rfl⟩
set_option maxRecDepth 100000 in
theorem jm_cwm_239 : jm_cwP 239 := List.mem_filter.mpr ⟨jm_t7 (List.mem_of_getElem? (i := 197) rfl), rfl⟩
set_option maxRecDepth 100000 in
theorem jm_cwm_240 : jm_cwP 240 := List.mem_filter.mpr ⟨jm_t7 (List.mem_of_getElem? (i := 201) rfl), rfl⟩
set_option maxRecDepth 100000 in
theorem jm_cwm_241 : jm_cwP 241 := List.mem_filter.mpr ⟨jm_t7 (List.mem_of_getElem? (i := 205) rfl), rfl⟩
set_option maxRecDepth 100000 in
theorem jm_cwm_242 : jm_cwP 242 := List.mem_filter.mpr ⟨jm_t7 (List.mem_of_getElem? (i := 209) rfl), rfl⟩
set_option maxRecDepth 100000 in
theorem jm_cwm_243 : jm_cwP 243 := List.mem_filter.mpr ⟨jm_t7 (List.mem_of_getElem? (i := 212) rfl), rfl⟩
set_option maxRecDepth 100000 in
theorem jm_cwm_244 : jm_cwP 244 := List.mem_filter.mpr ⟨jm_t7 (List.mem_of_getElem? (i := 216) rfl), rfl⟩
set_option maxRecDepth 100000 in
theorem jm_cwm_245 : jm_cwP 245 := List.mem_filter.mpr ⟨jm_t7 (List.mem_of_getElem? (i := 219) rfl), rfl⟩
set_option maxRecDepth 100000 in
theorem jm_cwm_246 : jm_cwP 246 := List.mem_filter.mpr ⟨jm_t7 (List.mem_of_getElem? (i := 223) rfl), rfl⟩
set_option maxRecDepth 100000 in
theorem jm_cwm_247 : jm_cwP 247 := List.mem_filter.mpr ⟨jm_t7 (List.mem_of_getElem? (i := 227) rfl), rfl⟩
set_option maxRecDepth 100000 in
theorem jm_cwm_248 : jm_cwP 248 := List.mem_filter.mpr ⟨jm_t7 (List.mem_of_getElem? (i := 231) rfl), rfl⟩
set_option maxRecDepth 100000 in
theorem jm_cwm_249 : jm_cwP 249 := List.mem_filter.mpr ⟨jm_t7 (List.mem_of_getElem? (i := 235) rfl), rfl⟩
set_option maxRecDepth 100000 in
theorem jm_cwm_250 : jm_cwP 250 := List.mem_filter.mpr ⟨jm_t7 (List.mem_of_getElem? (i := 239) rfl), rfl⟩
set_option maxRecDepth 100000 in
theorem jm_cwm_251 : jm_cwP 251 := List.mem_filter.mpr ⟨jm_t8 (List.mem_of_getElem? (i := 4) rfl), rfl⟩
set_option maxRecDepth 100000 in
theorem jm_cwm_252 : jm_cwP 252 := List.mem_filter.mpr ⟨jm_t8 (List.mem_of_getElem? (i := 8) rfl), rfl⟩
set_option maxRecDepth 100000 in
theorem jm_cwm_253 : jm_cwP 253 := List.mem_filter.mpr ⟨jm_t8 (List.mem_of_getElem? (i := 14) rfl), rfl⟩
set_option maxRecDepth 100000 in
theorem jm_cwm_254 : jm_cwP 254 := List.mem_filter.mpr ⟨jm_t8 (List.mem_of_getElem? (i := 18) rfl), rfl⟩
set_option maxRecDepth 100000 in
theorem jm_cwm_255 : jm_cwP 255 := List.mem_filter.mpr ⟨jm_t8 (List.mem_of_getElem? (i := 22) rfl), rfl⟩
set_option maxRecDepth 100000 in
theorem jm_cwm_256 : jm_cwP 256 := List.mem_filter.mpr ⟨jm_t8 (List.mem_of_getElem? (i := 26) rfl), rfl⟩
set_option maxRecDepth 100000 in
theorem jm_cwm_257 : jm_cwP 257 := List.mem_filter.mpr ⟨jm_t8 (List.mem_of_getElem? (i := 30) rfl), rfl⟩
set_option maxRecDepth 100000 in
theorem jm_cwm_258 : jm_cwP 258 := List.mem_filter.mpr ⟨jm_t8 (List.mem_of_getElem? (i := 35) rfl), rfl⟩
set_option maxRecDepth 100000 in
theorem jm_cwm_259 : jm_cwP 259 := List.mem_filter.mpr ⟨jm_t8 (List.mem_of_getElem? (i := 39) rfl), rfl⟩
set_option maxRecDepth 100000 in
theorem jm_cwm_260 : jm_cwP 260 := List.mem_filter.mpr ⟨jm_t8 (List.mem_of_getElem? (i := 43) rfl), rfl⟩
set_option maxRecDepth 100000 in
theorem jm_cwm_261 : jm_cwP 261 := List.mem_filter.mpr ⟨jm_t8 (List.mem_of_getElem? (i := 47) rfl), rfl⟩
set_option maxRecDepth 100000 in
theorem jm_cwm_262 : jm_cwP 262 := List.mem_filter.mpr ⟨jm_t8 (List.mem_of_getElem? (i := 51) rfl), rfl⟩
set_option maxRecDepth 100000 in
theorem jm_cwm_263 : jm_cwP 263 := List.mem_filter.mpr ⟨jm_t8 (List.mem_of_getElem? (i := 55) rfl), rfl⟩
set_option maxRecDepth 100000 in
theorem jm_cwm_264 : jm_cwP 264 := List.mem_filter.mpr ⟨jm_t8 (List.mem_of_getElem? (i := 59) rfl), rfl⟩
set_option maxRecDepth 100000 in
theorem jm_cwm_265 : jm_cwP 265 := List.mem_filter.mpr ⟨jm_t8 (List.mem_of_getElem? (i := 63) rfl), rfl⟩
set_option maxRecDepth 100000 in
theorem jm_cwm_266 : jm_cwP 266 := List.mem_filter.mpr ⟨jm_t8 (List.mem_of_getElem? (i := 67) rfl), rfl⟩
set_option maxRecDepth 100000 in
theorem jm_cwm_267 : jm_cwP 267 := List.mem_filter.mpr ⟨jm_t8 (List.mem_of_getElem? (i := 71) rfl), rfl⟩
set_option maxRecDepth 100000 in
theorem jm_cwm_268 : jm_cwP 268 := List.mem_filter.mpr ⟨jm_t8 (List.mem_of_getElem? (i := 75) rfl), rfl⟩
set_option maxRecDepth 100000 in
theorem jm_cwm_269 : jm_cwP 269 := List.mem_filter.mpr ⟨jm_t8 (List.mem_of_getElem? (i := 79) rfl), rfl⟩
set_option maxRecDepth 100000 in
theorem jm_cwm_270 : jm_cwP 270 := List.mem_filter.mpr ⟨jm_t8 (List.mem_of_getElem? (i := 83) rfl), rfl⟩
set_option maxRecDepth 100000 in
theorem jm_cwm_271 : jm_cwP 271 := List.mem_filter.mpr ⟨jm_t8 (List.mem_of_getElem? (i := 87) rfl), rfl⟩
set_option maxRecDepth 100000 in
theorem jm_cwm_272 : jm_cwP 272 := List.mem_filter.mpr ⟨jm_t8 (List.mem_of_getElem? (i := 91) rfl), rfl⟩
set_option maxRecDepth 100000 in
theorem jm_cwm_273 : jm_cwP 273 := List.mem_filter.mpr ⟨jm_t8 (List.mem_of_getElem? (i := 95) rfl), rfl⟩
set_option maxRecDepth 100000 in
theorem jm_cwm_274 : jm_cwP 274 := List.mem_filter.mpr ⟨jm_t8 (List.mem_of_getElem? (i := 99) rfl), rfl⟩
set_option maxRecDepth 100000 in
theorem jm_cwm_275 : jm_cwP 275 := List.mem_filter.mpr ⟨jm_t8 (List.mem_of_getElem? (i := 103) rfl), rfl⟩
theorem jm_mok_of {m : Nat} (h : m < 277) : plainName (g_m m).1.cls = true ∧ ((g_m m).1.cls ≠ "java/lang/invoke/MethodHandle" ∧ (g_m m).1.cls ≠ "java/lang/invoke/VarHandle") ∧ (g_m m).2.2.1 ≤ 30 := by
  have h1 := List.all_eq_true.mp jm_mok_all m (List.mem_range.mpr h)
  simp only [jm_mok, Bool.and_eq_true, decide_eq_true_eq] at h1
  exact ⟨h1.1.1, h1.1.2, h1.2⟩
theorem jm_cwl_0 : ∀ m ∈ [0, 1, 2, 3, 4, 5, 6, 7, 8, 9, 10, 11, 12, 13, 14, 15], jm_cwP m := List.forall_mem_cons.mpr ⟨jm_cwm_0, List.forall_mem_cons.mpr ⟨jm_cwm_1, List.forall_mem_cons.mpr ⟨jm_cwm_2, List.forall_mem_cons.mpr ⟨jm_cwm_3, List.forall_mem_cons.mpr ⟨jm_cwm_4, List.forall_mem_cons.mpr ⟨jm_cwm_5, List.forall_mem_cons.mpr ⟨jm_cwm_6, List.forall_mem_cons.mpr ⟨jm_cwm_7, List.forall_mem_cons.mpr ⟨jm_cwm_8, List.forall_mem_cons.mpr ⟨jm_cwm_9, List.forall_mem_cons.mpr ⟨jm_cwm_10, List.forall_mem_cons.mpr ⟨jm_cwm_11, List.forall_mem_cons.mpr ⟨jm_cwm_12, List.forall_mem_cons.mpr ⟨jm_cwm_13, List.forall_mem_cons.mpr ⟨jm_cwm_14, List.forall_mem_cons.mpr ⟨jm_cwm_15, fun _ h => nomatch h⟩⟩⟩⟩⟩⟩⟩⟩⟩⟩⟩⟩⟩⟩⟩⟩
theorem jm_cwl_16 : ∀ m ∈ [16, 17, 18, 19, 20, 21, 22, 23, 24, 25, 26, 27, 28, 29, 30, 31], jm_cwP m := List.forall_mem_cons.mpr ⟨jm_cwm_16, List.forall_mem_cons.mpr ⟨jm_cwm_17, List.forall_mem_cons.mpr ⟨jm_cwm_18, List.forall_mem_cons.mpr ⟨jm_cwm_19, List.forall_mem_cons.mpr ⟨jm_cwm_20, List.forall_mem_cons.mpr ⟨jm_cwm_21, List.forall_mem_cons.mpr ⟨jm_cwm_22, List.forall_mem_cons.mpr ⟨jm_cwm_23, List.forall_mem_cons.mpr ⟨jm_cwm_24, List.forall_mem_cons.mpr ⟨jm_cwm_25, List.forall_mem_cons.mpr ⟨jm_cwm_26, List.forall_mem_cons.mpr ⟨jm_cwm_27, List.forall_mem_cons.mpr ⟨jm_cwm_28, List.forall_mem_cons.mpr ⟨jm_cwm_29, List.forall_mem_cons.mpr ⟨jm_cwm_30, List.forall_mem_cons.mpr ⟨jm_cwm_31, fun _ h => nomatch h⟩⟩⟩⟩⟩⟩⟩⟩⟩⟩⟩⟩⟩⟩⟩⟩
theorem jm_cwl_32 : ∀ m ∈ [32, 33, 34, 35, 36, 37, 38, 39, 40, 41, 42, 43, 44, 45, 46, 47], jm_cwP m := List.forall_mem_cons.mpr ⟨jm_cwm_32, List.forall_mem_cons.mpr ⟨jm_cwm_33, List.forall_mem_cons.mpr ⟨jm_cwm_34, List.forall_mem_cons.mpr ⟨jm_cwm_35, List.forall_mem_cons.mpr ⟨jm_cwm_36, List.forall_mem_cons.mpr ⟨jm_cwm_37, List.forall_mem_cons.mpr ⟨jm_cwm_38, List.forall_mem_cons.mpr ⟨jm_cwm_39, List.forall_mem_cons.mpr ⟨jm_cwm_40, List.forall_mem_cons.mpr ⟨jm_cwm_41, List.forall_mem_cons.mpr ⟨jm_cwm_42, List.forall_mem_cons.mpr ⟨jm_cwm_43, List.forall_mem_cons.mpr ⟨jm_cwm_44, List.forall_mem_cons.mpr ⟨jm_cwm_45, List.forall_mem_cons.mpr ⟨jm_cwm_46, List.forall_mem_cons.mpr ⟨jm_cwm_47, fun _ h => nomatch h⟩⟩⟩⟩⟩⟩⟩⟩⟩⟩⟩⟩⟩⟩⟩⟩
theorem jm_cwl_48 : ∀ m ∈ [48, 49, 50, 51, 52, 53, 54, 55, 56, 57, 58, 59, 60, 61, 62, 63], jm_cwP m := List.forall_mem_cons.mpr ⟨jm_cwm_48, List.forall_mem_cons.mpr ⟨jm_cwm_49, List.forall_mem_cons.mpr ⟨jm_cwm_50, List.forall_mem_cons.mpr ⟨jm_cwm_51, List.forall_mem_cons.mpr ⟨jm_cwm_52, List.forall_mem_cons.mpr ⟨jm_cwm_53, List.forall_mem_cons.mpr ⟨jm_cwm_54, List.forall_mem_cons.mpr ⟨jm_cwm_55, List.forall_mem_cons.mpr ⟨jm_cwm_56, List.forall_mem_cons.mpr ⟨jm_cwm_57, List.forall_mem_cons.mpr ⟨jm_cwm_58, List.forall_mem_cons.mpr ⟨jm_cwm_59, List.forall_mem_cons.mpr ⟨jm_cwm_60, List.forall_mem_cons.mpr ⟨jm_cwm_61, List.forall_mem_cons.mpr ⟨jm_cwm_62, List.forall_mem_cons.mpr ⟨jm_cwm_63, fun _ h => nomatch h⟩⟩⟩⟩⟩⟩⟩⟩⟩⟩⟩⟩⟩⟩⟩⟩
theorem jm_cwl_64 : ∀ m ∈ [64, 65, 66, 67, 68, 69, 70, 71, 72, 73, 74, 75, 76, 77, 78, 79], jm_cwP m := List.forall_mem_cons.mpr ⟨jm_cwm_64, List.forall_mem_cons.mpr ⟨jm_cwm_65, List.forall_mem_cons.mpr ⟨jm_cwm_66, List.forall_mem_cons.mpr ⟨jm_cwm_67, List.forall_mem_cons.mpr ⟨jm_cwm_68, List.forall_mem_cons.mpr ⟨jm_cwm_69, List.forall_mem_cons.mpr ⟨jm_cwm_70, List.forall_mem_cons.mpr ⟨jm_cwm_71, List.forall_mem_cons.mpr ⟨jm_cwm_72, List.forall_mem_cons.mpr ⟨jm_cwm_73, List.forall_mem_cons.mpr ⟨jm_cwm_74, List.forall_mem_cons.mpr ⟨jm_cwm_75, List.forall_mem_cons.mpr ⟨jm_cwm_76, List.forall_mem_cons.mpr ⟨jm_cwm_77, List.forall_mem_cons.mpr ⟨jm_cwm_78, List.forall_mem_cons.mpr ⟨jm_cwm_79, fun _ h => nomatch h⟩⟩⟩⟩⟩⟩⟩⟩⟩⟩⟩⟩⟩⟩⟩⟩
theorem jm_cwl_80 : ∀ m ∈ [80, 81, 82, 83, 84, 85, 86, 87, 88, 89, 90, 91, 92, 93, 94, 95], jm_cwP m := List.forall_mem_cons.mpr ⟨jm_cwm_80, List.forall_mem_cons.mpr ⟨jm_cwm_81, List.forall_mem_cons.mpr ⟨jm_cwm_82, List.forall_mem_cons.mpr ⟨jm_cwm_83, List.forall_mem_cons.mpr ⟨jm_cwm_84, List.forall_mem_cons.mpr ⟨jm_cwm_85, List.forall_mem_cons.mpr ⟨jm_cwm_86, List.forall_mem_cons.mpr ⟨jm_cwm_87, List.forall_mem_cons.mpr ⟨jm_cwm_88, List.forall_mem_cons.mpr ⟨jm_cwm_89, List.forall_mem_cons.mpr ⟨jm_cwm_90, List.forall_mem_cons.mpr ⟨jm_cwm_91, List.forall_mem_cons.mpr ⟨jm_cwm_92, List.forall_mem_cons.mpr ⟨jm_cwm_93, List.forall_mem_cons.mpr ⟨jm_cwm_94, List.forall_mem_cons.mpr ⟨jm_cwm_95, fun _ h => nomatch h⟩⟩⟩⟩⟩⟩⟩⟩⟩⟩⟩⟩⟩⟩⟩⟩
theorem jm_cwl_96 : ∀ m ∈ [96, 97, 98, 99, 100, 101, 102, 103, 104, 105, 106, 107, 108, 109, 110, 111], jm_cwP m := List.forall_mem_cons.mpr ⟨jm_cwm_96, List.forall_mem_cons.mpr ⟨jm_cwm_97, List.forall_mem_cons.mpr ⟨jm_cwm_98, List.forall_mem_cons.mpr ⟨jm_cwm_99, List.forall_mem_cons.mpr ⟨jm_cwm_100, List.forall_mem_cons.mpr ⟨jm_cwm_101, List.forall_mem_cons.mpr ⟨jm_cwm_102, List.forall_mem_cons.mpr ⟨jm_cwm_103, List.forall_mem_cons.mpr ⟨jm_cwm_104, List.forall_mem_cons.mpr ⟨jm_cwm_105, List.forall_mem_cons.mpr ⟨jm_cwm_106, List.forall_mem_cons.mpr ⟨jm_cwm_107, List.forall_mem_cons.mpr ⟨jm_cwm_108, List.forall_mem_cons.mpr ⟨jm_cwm_109, List.forall_mem_cons.mpr ⟨jm_cwm_110, List.forall_mem_cons.mpr ⟨jm_cwm_111, fun _ h => nomatch h⟩⟩⟩⟩⟩⟩⟩⟩⟩⟩⟩⟩⟩⟩⟩⟩
theorem jm_cwl_112 : ∀ m ∈ [112, 113, 114, 115, 116, 117, 118, 119, 120, 121, 122, 123, 124, 125, 126, 127], jm_cwP m := List.forall_mem_cons.mpr ⟨jm_cwm_112, List.forall_mem_cons.mpr ⟨jm_cwm_113, List.forall_mem_cons.mpr ⟨jm_cwm_114, List.forall_mem_cons.mpr ⟨jm_cwm_115, List.forall_mem_cons.mpr ⟨jm_cwm_116, List.forall_mem_cons.mpr ⟨jm_cwm_117, List.forall_mem_cons.mpr ⟨jm_cwm_118, List.forall_mem_cons.mpr ⟨jm_cwm_119, List.forall_mem_cons.mpr ⟨jm_cwm_120, List.forall_mem_cons.mpr ⟨jm_cwm_121, List.forall_mem_cons.mpr ⟨jm_cwm_122, List.forall_mem_cons.mpr ⟨jm_cwm_123, List.forall_mem_cons.mpr ⟨jm_cwm_124, List.forall_mem_cons.mpr ⟨jm_cwm_125, List.forall_mem_cons.mpr ⟨jm_cwm_126, List.forall_mem_cons.mpr ⟨jm_cwm_127, fun _ h => nomatch h⟩⟩⟩⟩⟩⟩⟩⟩⟩⟩⟩⟩⟩⟩⟩⟩
theorem jm_cwl_128 : ∀ m ∈ [128, 129, 130, 131, 132, 133, 134, 135, 136, 137, 138, 139, 140, 141, 142, 143], jm_cwP m := List.forall_mem_cons.mpr ⟨jm_cwm_128, List.forall_mem_cons.mpr ⟨jm_cwm_129, List.forall_mem_cons.mpr ⟨jm_cwm_130, List.forall_mem_cons.mpr ⟨jm_cwm_131, List.forall_mem_cons.mpr ⟨jm_cwm_132, List.forall_mem_cons.mpr ⟨jm_cwm_133, List.forall_mem_cons.mpr ⟨jm_cwm_134, List.forall_mem_cons.mpr ⟨jm_cwm_135, List.forall_mem_cons.mpr ⟨jm_cwm_136, List.forall_mem_cons.mpr ⟨jm_cwm_137, List.forall_mem_cons.mpr ⟨jm_cwm_138, List.forall_mem_cons.mpr ⟨jm_cwm_139, List.forall_mem_cons.mpr ⟨jm_cwm_140, List.forall_mem_cons.mpr ⟨jm_cwm_141, List.forall_mem_cons.mpr ⟨jm_cwm_142, List.forall_mem_cons.mpr ⟨jm_cwm_143, fun _ h => nomatch h⟩⟩⟩⟩⟩⟩⟩⟩⟩⟩⟩⟩⟩⟩⟩⟩
theorem jm_cwl_144 : ∀ m ∈ [144, 145, 146, 147, 148, 149, 150, 151, 152, 153, 154, 155, 156, 157, 158, 160], jm_cwP m := List.forall_mem_cons.mpr ⟨jm_cwm_144, List.forall_mem_cons.mpr ⟨jm_cwm_145, List.forall_mem_cons.mpr ⟨jm_cwm_146, List.forall_mem_cons.mpr ⟨jm_cwm_147, List.forall_mem_cons.mpr ⟨jm_cwm_148, List.forall_mem_cons.mpr ⟨jm_cwm_149, List.forall_mem_cons.mpr ⟨jm_cwm_150, List.forall_mem_cons.mpr ⟨jm_cwm_151, List.forall_mem_cons.mpr ⟨jm_cwm_152, List.forall_mem_cons.mpr ⟨jm_cwm_153, List.forall_mem_cons.mpr ⟨jm_cwm_154, List.forall_mem_cons.mpr ⟨jm_cwm_155, List.forall_mem_cons.mpr ⟨jm_cwm_156, List.forall_mem_cons.mpr ⟨jm_cwm_157, List.forall_mem_cons.mpr ⟨jm_cwm_158, List.forall_mem_cons.mpr ⟨jm_cwm_160, fun _ h => nomatch h⟩⟩⟩⟩⟩⟩⟩⟩⟩⟩⟩⟩⟩⟩⟩⟩
theorem jm_cwl_162 : ∀ m ∈ [162, 163, 164, 165, 167, 168, 169, 170, 171, 172, 173, 174, 175, 176, 177, 178], jm_cwP m := List.forall_mem_cons.mpr ⟨jm_cwm_162, List.forall_mem_cons.mpr ⟨jm_cwm_163, List.forall_mem_cons.mpr ⟨jm_cwm_164, List.forall_mem_cons.mpr ⟨jm_cwm_165, List.forall_mem_cons.mpr ⟨jm_cwm_167, List.forall_mem_cons.mpr ⟨jm_cwm_168, List.forall_mem_cons.mpr ⟨jm_cwm_169, List.forall_mem_cons.mpr ⟨jm_cwm_170, List.forall_mem_cons.mpr ⟨jm_cwm_171, List.forall_mem_cons.mpr ⟨jm_cwm_172, List.forall_mem_cons.mpr ⟨jm_cwm_173, List.forall_mem_cons.mpr ⟨jm_cwm_174, List.forall_mem_cons.mpr ⟨jm_cwm_175, List.forall_mem_cons.mpr ⟨jm_cwm_176, List.forall_mem_cons.mpr ⟨jm_cwm_177, List.forall_mem_cons.mpr ⟨jm_cwm_178, fun _ h => nomatch h⟩⟩⟩⟩⟩⟩⟩⟩⟩⟩⟩⟩⟩⟩⟩⟩
theorem jm_cwl_179 : ∀ m ∈ [179, 180, 181, 182, 183, 184, 185, 186, 187, 188, 189, 190, 191, 192, 193, 194], jm_cwP m := List.forall_mem_cons.mpr ⟨jm_cwm_179, List.forall_mem_cons.mpr ⟨jm_cwm_180, List.forall_mem_cons.mpr ⟨jm_cwm_181, List.forall_mem_cons.mpr ⟨jm_cwm_182, List.forall_mem_cons.mpr ⟨jm_cwm_183, List.forall_mem_cons.mpr ⟨jm_cwm_184, List.forall_mem_cons.mpr ⟨jm_cwm_185, List.forall_mem_cons.mpr ⟨jm_cwm_186, List.forall_mem_cons.mpr ⟨jm_cwm_187, List.forall_mem_cons.mpr ⟨jm_cwm_188, List.forall_mem_cons.mpr ⟨jm_cwm_189, List.forall_mem_cons.mpr ⟨jm_cwm_190, List.forall_mem_cons.mpr ⟨jm_cwm_191, List.forall_mem_cons.mpr ⟨jm_cwm_192, List.forall_mem_cons.mpr ⟨jm_cwm_193, List.forall_mem_cons.mpr ⟨jm_cwm_194, fun _ h => nomatch h⟩⟩⟩⟩⟩⟩⟩⟩⟩⟩⟩⟩⟩⟩⟩⟩
theorem jm_cwl_195 : ∀ m ∈ [195, 196, 197, 198, 199, 200, 201, 202, 203, 204, 205, 206, 207, 208, 209, 210], jm_cwP m := List.forall_mem_cons.mpr ⟨jm_cwm_195, List.forall_mem_cons.mpr ⟨jm_cwm_196, List.forall_mem_cons.mpr ⟨jm_cwm_197, List.forall_mem_cons.mpr ⟨jm_cwm_198, List.forall_mem_cons.mpr ⟨jm_cwm_199, List.forall_mem_cons.mpr ⟨jm_cwm_200, List.forall_mem_cons.mpr ⟨jm_cwm_201, List.forall_mem_cons.mpr ⟨jm_cwm_202, List.forall_mem_cons.mpr ⟨jm_cwm_203, List.forall_mem_cons.mpr ⟨jm_cwm_204, List.forall_mem_cons.mpr ⟨jm_cwm_205, List.forall_mem_cons.mpr ⟨jm_cwm_206, List.forall_mem_cons.mpr ⟨jm_cwm_207, List.forall_mem_cons.mpr ⟨jm_cwm_208, List.forall_mem_cons.mpr ⟨jm_cwm_209, List.forall_mem_cons.mpr ⟨jm_cwm_210, fun _ h => nomatch h⟩⟩⟩⟩⟩⟩⟩⟩⟩⟩⟩⟩⟩⟩⟩⟩
theorem jm_cwl_211 : ∀ m ∈ [211, 212, 213, 214, 215, 216, 217, 218, 219, 220, 221, 222, 223, 224, 225, 226], jm_cwP m := List.forall_mem_cons.mpr ⟨jm_cwm_211, List.forall_mem_cons.mpr ⟨jm_cwm_212, List.forall_mem_cons.mpr ⟨jm_cwm_213, List.forall_mem_cons.mpr ⟨jm_cwm_214, List.forall_mem_cons.mpr ⟨jm_cwm_215, List.forall_mem_cons.mpr ⟨jm_cwm_216, List.forall_mem_cons.mpr ⟨jm_cwm_217, List.forall_mem_cons.mpr ⟨jm_cwm_218, List.forall_mem_cons.mpr ⟨jm_cwm_219, List.forall_mem_cons.mpr ⟨jm_cwm_220, List.forall_mem_cons.mpr ⟨jm_cwm_221, List.forall_mem_cons.mpr ⟨jm_cwm_222, List.forall_mem_cons.mpr ⟨jm_cwm_223, List.forall_mem_cons.mpr ⟨jm_cwm_224, List.forall_mem_cons.mpr ⟨jm_cwm_225, List.forall_mem_cons.mpr ⟨jm_cwm_226, fun _ h => nomatch h⟩⟩⟩⟩⟩⟩⟩⟩⟩⟩⟩⟩⟩⟩⟩⟩
theorem jm_cwl_227 : ∀ m ∈ [227, 228, 229, 230, 231, 232, 233, 234, 235, 236, 237, 238, 239, 240, 241, 242], jm_cwP m := List.forall_mem_cons.mpr ⟨jm_cwm_227, List.forall_mem_cons.mpr ⟨jm_cwm_228, List.forall_mem_cons.mpr ⟨jm_cwm_229, List.forall_mem_cons.mpr ⟨jm_cwm_230, List.forall_mem_cons.mpr ⟨jm_cwm_231, List.forall_mem_cons.mpr ⟨jm_cwm_232, List.forall_mem_cons.mpr ⟨jm_cwm_233, List.forall_mem_cons.mpr ⟨jm_cwm_234, List.forall_mem_cons.mpr ⟨jm_cwm_235, List.forall_mem_cons.mpr ⟨jm_cwm_236, List.forall_mem_cons.mpr ⟨jm_cwm_237, List.forall_mem_cons.mpr ⟨jm_cwm_238, List.forall_mem_cons.mpr ⟨jm_cwm_239, List.forall_mem_cons.mpr ⟨jm_cwm_240, List.forall_mem_cons.mpr ⟨jm_cwm_241, List.forall_mem_cons.mpr ⟨jm_cwm_242, fun _ h => nomatch h⟩⟩⟩⟩⟩⟩⟩⟩⟩⟩⟩⟩⟩⟩⟩⟩
theorem jm_cwl_243 : ∀ m ∈ [243, 244, 245, 246, 247, 248, 249, 250, 251, 252, 253, 254, 255, 256, 257, 258], jm_cwP m := List.forall_mem_cons.mpr ⟨jm_cwm_243, List.forall_mem_cons.mpr ⟨jm_cwm_244, List.forall_mem_cons.mpr ⟨jm_cwm_245, List.forall_mem_cons.mpr ⟨jm_cwm_246, List.forall_mem_cons.mpr ⟨jm_cwm_247, List.forall_mem_cons.mpr ⟨jm_cwm_248, List.forall_mem_cons.mpr ⟨jm_cwm_249, List.forall_mem_cons.mpr ⟨jm_cwm_250, List.forall_mem_cons.mpr ⟨jm_cwm_251, List.forall_mem_cons.mpr ⟨jm_cwm_252, List.forall_mem_cons.mpr ⟨jm_cwm_253, List.forall_mem_cons.mpr ⟨jm_cwm_254, List.forall_mem_cons.mpr ⟨jm_cwm_255, List.forall_mem_cons.mpr ⟨jm_cwm_256, List.forall_mem_cons.mpr ⟨jm_cwm_257, List.forall_mem_cons.mpr ⟨jm_cwm_258, fun _ h => nomatch h⟩⟩⟩⟩⟩⟩⟩⟩⟩⟩⟩⟩⟩⟩⟩⟩
theorem jm_cwl_259 : ∀ m ∈ [259, 260, 261, 262, 263, 264, 265, 266, 267, 268, 269, 270, 271, 272, 273, 274], jm_cwP m := List.forall_mem_cons.mpr ⟨jm_cwm_259, List.forall_mem_cons.mpr ⟨jm_cwm_260, List.forall_mem_cons.mpr ⟨jm_cwm_261, List.forall_mem_cons.mpr ⟨jm_cwm_262, List.forall_mem_cons.mpr ⟨jm_cwm_263, List.forall_mem_cons.mpr ⟨jm_cwm_264, List.forall_mem_cons.mpr ⟨jm_cwm_265, List.forall_mem_cons.mpr ⟨jm_cwm_266, List.forall_mem_cons.mpr ⟨jm_cwm_267, List.forall_mem_cons.mpr ⟨jm_cwm_268, List.forall_mem_cons.mpr ⟨jm_cwm_269, List.forall_mem_cons.mpr ⟨jm_cwm_270, List.forall_mem_cons.mpr ⟨jm_cwm_271, List.forall_mem_cons.mpr ⟨jm_cwm_272, List.forall_mem_cons.mpr ⟨jm_cwm_273, List.forall_mem_cons.mpr ⟨jm_cwm_274, fun _ h => nomatch h⟩⟩⟩⟩⟩⟩⟩⟩⟩⟩⟩⟩⟩⟩⟩⟩
theorem jm_cwl_275 : ∀ m ∈ [275], jm_cwP m := List.forall_mem_cons.mpr ⟨jm_cwm_275, fun _ h => nomatch h⟩
theorem jm_okl : (List.range 277).filter (fun m => !g_wr.contains m) = [0, 1, 2, 3, 4, 5, 6, 7, 8, 9, 10, 11, 12, 13, 14, 15] ++ ([16, 17, 18, 19, 20, 21, 22, 23, 24, 25, 26, 27, 28, 29, 30, 31] ++ ([32, 33, 34, 35, 36, 37, 38, 39, 40, 41, 42, 43, 44, 45, 46, 47] ++ ([48, 49, 50, 51, 52, 53, 54, 55, 56, 57, 58, 59, 60, 61, 62, 63] ++ ([64, 65, 66, 67, 68, 69, 70, 71, 72, 73, 74, 75, 76, 77, 78, 79] ++ ([80, 81, 82, 83, 84, 85, 86, 87, 88, 89, 90, 91, 92, 93, 94, 95] ++ ([96, 97, 98, 99, 100, 101, 102, 103, 104, 105, 106, 107, 108, 109, 110, 111] ++ ([112, 113, 114, 115, 116, 117, 118, 119, 120, 121, 122, 123, 124, 125, 126, 127] ++ ([128, 129, 130, 131, 132, 133, 134, 135, 136, 137, 138, 139, 140, 141, 142, 143] ++ ([144, 145, 146, 147, 148, 149, 150, 151, 152, 153, 154, 155, 156, 157, 158, 160] ++ ([162, 163, 164, 165, 167, 168, 169, 170, 171, 172, 173, 174, 175, 176, 177, 178] ++ ([179, 180, 181, 182, 183, 184, 185, 186, 187, 188, 189, 190, 191, 192, 193, 194] ++ ([195, 196, 197, 198, 199, 200, 201, 202, 203, 204, 205, 206, 207, 208, 209, 210] ++ ([211, 212, 213, 214, 215, 216, 217, 218, 219, 220, 221, 222, 223, 224, 225, 226] ++ ([227, 228, 229, 230, 231, 232, 233, 234, 235, 236, 237, 238, 239, 240, 241, 242] ++ ([243, 244, 245, 246, 247, 248, 249, 250, 251, 252, 253, 254, 255, 256, 257, 258] ++ ([259, 260, 261, 262, 263, 264, 265, 266, 267, 268, 269, 270, 271, 272, 273, 274] ++ ([275]))))))))))))))))) := by decide +kernel
theorem jm_cw_of {m : Nat} (h : m < 277) (hw : g_wr.contains m = false) : jm_cwP m := by
  have hm : m ∈ (List.range 277).filter (fun m => !g_wr.contains m) := List.mem_filter.mpr ⟨List.mem_range.mpr h, by rw [hw]; rfl⟩
  rw [jm_okl] at hm
  exact (List.forall_mem_append.mpr ⟨jm_cwl_0, List.forall_mem_append.mpr ⟨jm_cwl_16, List.forall_mem_append.mpr ⟨jm_cwl_32, List.forall_mem_append.mpr ⟨jm_cwl_48, List.forall_mem_append.mpr ⟨jm_cwl_64, List.forall_mem_append.mpr ⟨jm_cwl_80, List.forall_mem_append.mpr ⟨jm_cwl_96, List.forall_mem_append.mpr ⟨jm_cwl_112, List.forall_mem_append.mpr ⟨jm_cwl_128, List.forall_mem_append.mpr ⟨jm_cwl_144, List.forall_mem_append.mpr ⟨jm_cwl_162, List.forall_mem_append.mpr ⟨jm_cwl_179, List.forall_mem_append.mpr ⟨jm_cwl_195, List.forall_mem_append.mpr ⟨jm_cwl_211, List.forall_mem_append.mpr ⟨jm_cwl_227, List.forall_mem_append.mpr ⟨jm_cwl_243, List.forall_mem_append.mpr ⟨jm_cwl_259, jm_cwl_275⟩⟩⟩⟩⟩⟩⟩⟩⟩⟩⟩⟩⟩⟩⟩⟩⟩) m hm
