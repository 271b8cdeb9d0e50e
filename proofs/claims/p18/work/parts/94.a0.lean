/-! the heap behind the two constructors (and the row out), and that they make it -/
noncomputable def g_cell0 : jm_C := (10, [1, 4, 30, 56, 82, 108, 182, 183, 187, 188, 189, 191, 0, -1, -1])
noncomputable def g_cell1 : jm_C := (11, [2, 3, 0, 0, 0, 0, 0, 0, 0, 0, 0])
noncomputable def g_cell2 : jm_C := (1, List.replicate 940 (0))
noncomputable def g_cell3 : jm_C := (2, [599495, 627764, 769604, 19173554, 624435, 12343, 3540584, 452639379, 1486070419, 407947731, 24974578053, 664683, 498, 1476, 14836, 688, 448133, 404362868, 494, 12009203, 623908, 605580, 492210354])
noncomputable def g_cell4 : jm_C := (12, [5, 17, 26, 0])
noncomputable def g_cell5 : jm_C := (13, [6, 7, 8, 9, 10, 11, 12, 13, 14, 15, 16])
noncomputable def g_cell6 : jm_C := (0, [0, 0, 0, 0, 0])
noncomputable def g_cell7 : jm_C := (2, List.replicate 40 (0))
noncomputable def g_cell8 : jm_C := (0, [0, 0, 0])
noncomputable def g_cell9 : jm_C := (0, [0, 0, 0])
noncomputable def g_cell10 : jm_C := (0, [0, 0, 0, 0, 0, 0, 0, 0])
noncomputable def g_cell11 : jm_C := (0, [0, 0, 0, 0, 0, 0, 0, 0])
noncomputable def g_cell12 : jm_C := (0, [0, 0, 0, 0, 0, 0, 0, 0])
noncomputable def g_cell13 : jm_C := (0, [0, 0, 0, 0, 0, 0, 0, 0])
noncomputable def g_cell14 : jm_C := (0, [0, 0, 0, 0, 0, 0, 0, 0])
noncomputable def g_cell15 : jm_C := (0, [0, 0, 0, 0, 0, 0, 0, 0])
noncomputable def g_cell16 : jm_C := (0, List.replicate 64 (-1))
noncomputable def g_cell17 : jm_C := (14, [0, -1, -1, 0, 0, 0, 18, 19, 20, 21, 22, 23, 24, 25])
noncomputable def g_cell18 : jm_C := (0, [0, 0, 0, 0, 0, 0, 0, 0])
noncomputable def g_cell19 : jm_C := (0, [-1, -1, -1, -1, -1, -1, -1, -1])
noncomputable def g_cell20 : jm_C := (0, [-1, -1, -1, -1, -1, -1])
noncomputable def g_cell21 : jm_C := (0, [0, 0, 0, 0, 0, 0])
noncomputable def g_cell22 : jm_C := (0, List.replicate 36 (0))
noncomputable def g_cell23 : jm_C := (0, [0, 0, 0, 0, 0, 0])
noncomputable def g_cell24 : jm_C := (0, [0, 0, 0, 0, 0, 0])
noncomputable def g_cell25 : jm_C := (0, [0, 0, 0, 0, 0, 0, 0, 0])
noncomputable def g_cell26 : jm_C := (15, [27, 28, 29, 0, 0, 0])
noncomputable def g_cell27 : jm_C := (0, List.replicate 40 (0))
noncomputable def g_cell28 : jm_C := (0, List.replicate 40 (0))
noncomputable def g_cell29 : jm_C := (0, List.replicate 40 (0))
noncomputable def g_cell30 : jm_C := (12, [31, 43, 52, 0])
noncomputable def g_cell31 : jm_C := (13, [32, 33, 34, 35, 36, 37, 38, 39, 40, 41, 42])
noncomputable def g_cell32 : jm_C := (0, [0, 0, 0, 0, 0])
noncomputable def g_cell33 : jm_C := (2, List.replicate 40 (0))
noncomputable def g_cell34 : jm_C := (0, [0, 0, 0])
noncomputable def g_cell35 : jm_C := (0, [0, 0, 0])
noncomputable def g_cell36 : jm_C := (0, [0, 0, 0, 0, 0, 0, 0, 0])
noncomputable def g_cell37 : jm_C := (0, [0, 0, 0, 0, 0, 0, 0, 0])
noncomputable def g_cell38 : jm_C := (0, [0, 0, 0, 0, 0, 0, 0, 0])
noncomputable def g_cell39 : jm_C := (0, [0, 0, 0, 0, 0, 0, 0, 0])
noncomputable def g_cell40 : jm_C := (0, [0, 0, 0, 0, 0, 0, 0, 0])
noncomputable def g_cell41 : jm_C := (0, [0, 0, 0, 0, 0, 0, 0, 0])
noncomputable def g_cell42 : jm_C := (0, List.replicate 64 (-1))
noncomputable def g_cell43 : jm_C := (14, [0, -1, -1, 0, 0, 0, 44, 45, 46, 47, 48, 49, 50, 51])
noncomputable def g_cell44 : jm_C := (0, [0, 0, 0, 0, 0, 0, 0, 0])
noncomputable def g_cell45 : jm_C := (0, [-1, -1, -1, -1, -1, -1, -1, -1])
noncomputable def g_cell46 : jm_C := (0, [-1, -1, -1, -1, -1, -1])
noncomputable def g_cell47 : jm_C := (0, [0, 0, 0, 0, 0, 0])
noncomputable def g_cell48 : jm_C := (0, List.replicate 36 (0))
noncomputable def g_cell49 : jm_C := (0, [0, 0, 0, 0, 0, 0])
noncomputable def g_cell50 : jm_C := (0, [0, 0, 0, 0, 0, 0])
noncomputable def g_cell51 : jm_C := (0, [0, 0, 0, 0, 0, 0, 0, 0])
noncomputable def g_cell52 : jm_C := (15, [53, 54, 55, 0, 0, 0])
noncomputable def g_cell53 : jm_C := (0, List.replicate 40 (0))
noncomputable def g_cell54 : jm_C := (0, List.replicate 40 (0))
noncomputable def g_cell55 : jm_C := (0, List.replicate 40 (0))
noncomputable def g_cell56 : jm_C := (12, [57, 69, 78, 0])
noncomputable def g_cell57 : jm_C := (13, [58, 59, 60, 61, 62, 63, 64, 65, 66, 67, 68])
noncomputable def g_cell58 : jm_C := (0, [0, 0, 0, 0, 0])
noncomputable def g_cell59 : jm_C := (2, List.replicate 40 (0))
noncomputable def g_cell60 : jm_C := (0, [0, 0, 0])
noncomputable def g_cell61 : jm_C := (0, [0, 0, 0])
noncomputable def g_cell62 : jm_C := (0, [0, 0, 0, 0, 0, 0, 0, 0])
noncomputable def g_cell63 : jm_C := (0, [0, 0, 0, 0, 0, 0, 0, 0])
noncomputable def g_cell64 : jm_C := (0, [0, 0, 0, 0, 0, 0, 0, 0])
noncomputable def g_cell65 : jm_C := (0, [0, 0, 0, 0, 0, 0, 0, 0])
noncomputable def g_cell66 : jm_C := (0, [0, 0, 0, 0, 0, 0, 0, 0])
noncomputable def g_cell67 : jm_C := (0, [0, 0, 0, 0, 0, 0, 0, 0])
noncomputable def g_cell68 : jm_C := (0, List.replicate 64 (-1))
noncomputable def g_cell69 : jm_C := (14, [0, -1, -1, 0, 0, 0, 70, 71, 72, 73, 74, 75, 76, 77])
noncomputable def g_cell70 : jm_C := (0, [0, 0, 0, 0, 0, 0, 0, 0])
noncomputable def g_cell71 : jm_C := (0, [-1, -1, -1, -1, -1, -1, -1, -1])
noncomputable def g_cell72 : jm_C := (0, [-1, -1, -1, -1, -1, -1])
noncomputable def g_cell73 : jm_C := (0, [0, 0, 0, 0, 0, 0])
noncomputable def g_cell74 : jm_C := (0, List.replicate 36 (0))
noncomputable def g_cell75 : jm_C := (0, [0, 0, 0, 0, 0, 0])
noncomputable def g_cell76 : jm_C := (0, [0, 0, 0, 0, 0, 0])
noncomputable def g_cell77 : jm_C := (0, [0, 0, 0, 0, 0, 0, 0, 0])
noncomputable def g_cell78 : jm_C := (15, [79, 80, 81, 0, 0, 0])
noncomputable def g_cell79 : jm_C := (0, List.replicate 40 (0))
noncomputable def g_cell80 : jm_C := (0, List.replicate 40 (0))
noncomputable def g_cell81 : jm_C := (0, List.replicate 40 (0))
noncomputable def g_cell82 : jm_C := (12, [83, 95, 104, 0])
noncomputable def g_cell83 : jm_C := (13, [84, 85, 86, 87, 88, 89, 90, 91, 92, 93, 94])
noncomputable def g_cell84 : jm_C := (0, [0, 0, 0, 0, 0])
noncomputable def g_cell85 : jm_C := (2, List.replicate 40 (0))
noncomputable def g_cell86 : jm_C := (0, [0, 0, 0])
noncomputable def g_cell87 : jm_C := (0, [0, 0, 0])
noncomputable def g_cell88 : jm_C := (0, [0, 0, 0, 0, 0, 0, 0, 0])
noncomputable def g_cell89 : jm_C := (0, [0, 0, 0, 0, 0, 0, 0, 0])
noncomputable def g_cell90 : jm_C := (0, [0, 0, 0, 0, 0, 0, 0, 0])
noncomputable def g_cell91 : jm_C := (0, [0, 0, 0, 0, 0, 0, 0, 0])
noncomputable def g_cell92 : jm_C := (0, [0, 0, 0, 0, 0, 0, 0, 0])
noncomputable def g_cell93 : jm_C := (0, [0, 0, 0, 0, 0, 0, 0, 0])
noncomputable def g_cell94 : jm_C := (0, List.replicate 64 (-1))
noncomputable def g_cell95 : jm_C := (14, [0, -1, -1, 0, 0, 0, 96, 97, 98, 99, 100, 101, 102, 103])
noncomputable def g_cell96 : jm_C := (0, [0, 0, 0, 0, 0, 0, 0, 0])
noncomputable def g_cell97 : jm_C := (0, [-1, -1, -1, -1, -1, -1, -1, -1])
noncomputable def g_cell98 : jm_C := (0, [-1, -1, -1, -1, -1, -1])
noncomputable def g_cell99 : jm_C := (0, [0, 0, 0, 0, 0, 0])
noncomputable def g_cell100 : jm_C := (0, List.replicate 36 (0))
noncomputable def g_cell101 : jm_C := (0, [0, 0, 0, 0, 0, 0])
noncomputable def g_cell102 : jm_C := (0, [0, 0, 0, 0, 0, 0])
noncomputable def g_cell103 : jm_C := (0, [0, 0, 0, 0, 0, 0, 0, 0])
noncomputable def g_cell104 : jm_C := (15, [105, 106, 107, 0, 0, 0])
noncomputable def g_cell105 : jm_C := (0, List.replicate 40 (0))
noncomputable def g_cell106 : jm_C := (0, List.replicate 40 (0))
noncomputable def g_cell107 : jm_C := (0, List.replicate 40 (0))
noncomputable def g_cell108 : jm_C := (16, [109, 0])
noncomputable def g_cell109 : jm_C := (4, [110, 119, 128, 137, 146, 155, 164, 173])
noncomputable def g_cell110 : jm_C := (14, [0, -1, -1, 0, 0, 0, 111, 112, 113, 114, 115, 116, 117, 118])
noncomputable def g_cell111 : jm_C := (0, [0, 0, 0, 0, 0, 0, 0, 0])
noncomputable def g_cell112 : jm_C := (0, [-1, -1, -1, -1, -1, -1, -1, -1])
noncomputable def g_cell113 : jm_C := (0, [-1, -1, -1, -1, -1, -1])
noncomputable def g_cell114 : jm_C := (0, [0, 0, 0, 0, 0, 0])
noncomputable def g_cell115 : jm_C := (0, List.replicate 36 (0))
noncomputable def g_cell116 : jm_C := (0, [0, 0, 0, 0, 0, 0])
noncomputable def g_cell117 : jm_C := (0, [0, 0, 0, 0, 0, 0])
noncomputable def g_cell118 : jm_C := (0, [0, 0, 0, 0, 0, 0, 0, 0])
noncomputable def g_cell119 : jm_C := (14, [0, -1, -1, 0, 0, 0, 120, 121, 122, 123, 124, 125, 126, 127])
noncomputable def g_cell120 : jm_C := (0, [0, 0, 0, 0, 0, 0, 0, 0])
noncomputable def g_cell121 : jm_C := (0, [-1, -1, -1, -1, -1, -1, -1, -1])
noncomputable def g_cell122 : jm_C := (0, [-1, -1, -1, -1, -1, -1])
noncomputable def g_cell123 : jm_C := (0, [0, 0, 0, 0, 0, 0])
noncomputable def g_cell124 : jm_C := (0, List.replicate 36 (0))
noncomputable def g_cell125 : jm_C := (0, [0, 0, 0, 0, 0, 0])
noncomputable def g_cell126 : jm_C := (0, [0, 0, 0, 0, 0, 0])
noncomputable def g_cell127 : jm_C := (0, [0, 0, 0, 0, 0, 0, 0, 0])
noncomputable def g_cell128 : jm_C := (14, [0, -1, -1, 0, 0, 0, 129, 130, 131, 132, 133, 134, 135, 136])
noncomputable def g_cell129 : jm_C := (0, [0, 0, 0, 0, 0, 0, 0, 0])
noncomputable def g_cell130 : jm_C := (0, [-1, -1, -1, -1, -1, -1, -1, -1])
noncomputable def g_cell131 : jm_C := (0, [-1, -1, -1, -1, -1, -1])
noncomputable def g_cell132 : jm_C := (0, [0, 0, 0, 0, 0, 0])
noncomputable def g_cell133 : jm_C := (0, List.replicate 36 (0))
noncomputable def g_cell134 : jm_C := (0, [0, 0, 0, 0, 0, 0])
noncomputable def g_cell135 : jm_C := (0, [0, 0, 0, 0, 0, 0])
noncomputable def g_cell136 : jm_C := (0, [0, 0, 0, 0, 0, 0, 0, 0])
noncomputable def g_cell137 : jm_C := (14, [0, -1, -1, 0, 0, 0, 138, 139, 140, 141, 142, 143, 144, 145])
noncomputable def g_cell138 : jm_C := (0, [0, 0, 0, 0, 0, 0, 0, 0])
noncomputable def g_cell139 : jm_C := (0, [-1, -1, -1, -1, -1, -1, -1, -1])
noncomputable def g_cell140 : jm_C := (0, [-1, -1, -1, -1, -1, -1])
noncomputable def g_cell141 : jm_C := (0, [0, 0, 0, 0, 0, 0])
noncomputable def g_cell142 : jm_C := (0, List.replicate 36 (0))
noncomputable def g_cell143 : jm_C := (0, [0, 0, 0, 0, 0, 0])
noncomputable def g_cell144 : jm_C := (0, [0, 0, 0, 0, 0, 0])
noncomputable def g_cell145 : jm_C := (0, [0, 0, 0, 0, 0, 0, 0, 0])
noncomputable def g_cell146 : jm_C := (14, [0, -1, -1, 0, 0, 0, 147, 148, 149, 150, 151, 152, 153, 154])
noncomputable def g_cell147 : jm_C := (0, [0, 0, 0, 0, 0, 0, 0, 0])
noncomputable def g_cell148 : jm_C := (0, [-1, -1, -1, -1, -1, -1, -1, -1])
noncomputable def g_cell149 : jm_C := (0, [-1, -1, -1, -1, -1, -1])
noncomputable def g_cell150 : jm_C := (0, [0, 0, 0, 0, 0, 0])
noncomputable def g_cell151 : jm_C := (0, List.replicate 36 (0))
noncomputable def g_cell152 : jm_C := (0, [0, 0, 0, 0, 0, 0])
noncomputable def g_cell153 : jm_C := (0, [0, 0, 0, 0, 0, 0])
noncomputable def g_cell154 : jm_C := (0, [0, 0, 0, 0, 0, 0, 0, 0])
noncomputable def g_cell155 : jm_C := (14, [0, -1, -1, 0, 0, 0, 156, 157, 158, 159, 160, 161, 162, 163])
noncomputable def g_cell156 : jm_C := (0, [0, 0, 0, 0, 0, 0, 0, 0])
noncomputable def g_cell157 : jm_C := (0, [-1, -1, -1, -1, -1, -1, -1, -1])
noncomputable def g_cell158 : jm_C := (0, [-1, -1, -1, -1, -1, -1])
noncomputable def g_cell159 : jm_C := (0, [0, 0, 0, 0, 0, 0])
noncomputable def g_cell160 : jm_C := (0, List.replicate 36 (0))
noncomputable def g_cell161 : jm_C := (0, [0, 0, 0, 0, 0, 0])
noncomputable def g_cell162 : jm_C := (0, [0, 0, 0, 0, 0, 0])
noncomputable def g_cell163 : jm_C := (0, [0, 0, 0, 0, 0, 0, 0, 0])
noncomputable def g_cell164 : jm_C := (14, [0, -1, -1, 0, 0, 0, 165, 166, 167, 168, 169, 170, 171, 172])
noncomputable def g_cell165 : jm_C := (0, [0, 0, 0, 0, 0, 0, 0, 0])
noncomputable def g_cell166 : jm_C := (0, [-1, -1, -1, -1, -1, -1, -1, -1])
noncomputable def g_cell167 : jm_C := (0, [-1, -1, -1, -1, -1, -1])
noncomputable def g_cell168 : jm_C := (0, [0, 0, 0, 0, 0, 0])
noncomputable def g_cell169 : jm_C := (0, List.replicate 36 (0))
noncomputable def g_cell170 : jm_C := (0, [0, 0, 0, 0, 0, 0])
noncomputable def g_cell171 : jm_C := (0, [0, 0, 0, 0, 0, 0])
noncomputable def g_cell172 : jm_C := (0, [0, 0, 0, 0, 0, 0, 0, 0])
noncomputable def g_cell173 : jm_C := (14, [0, -1, -1, 0, 0, 0, 174, 175, 176, 177, 178, 179, 180, 181])
noncomputable def g_cell174 : jm_C := (0, [0, 0, 0, 0, 0, 0, 0, 0])
noncomputable def g_cell175 : jm_C := (0, [-1, -1, -1, -1, -1, -1, -1, -1])
noncomputable def g_cell176 : jm_C := (0, [-1, -1, -1, -1, -1, -1])
noncomputable def g_cell177 : jm_C := (0, [0, 0, 0, 0, 0, 0])
noncomputable def g_cell178 : jm_C := (0, List.replicate 36 (0))
noncomputable def g_cell179 : jm_C := (0, [0, 0, 0, 0, 0, 0])
noncomputable def g_cell180 : jm_C := (0, [0, 0, 0, 0, 0, 0])
noncomputable def g_cell181 : jm_C := (0, [0, 0, 0, 0, 0, 0, 0, 0])
noncomputable def g_cell182 : jm_C := (17, [1, 31, 43])
noncomputable def g_cell183 : jm_C := (18, [1, 5, 184, 185, 186, 0, 0])
noncomputable def g_cell184 : jm_C := (0, List.replicate 40 (0))
noncomputable def g_cell185 : jm_C := (0, List.replicate 40 (0))
noncomputable def g_cell186 : jm_C := (0, List.replicate 40 (0))
noncomputable def g_cell187 : jm_C := (19, [5, 17, 43])
noncomputable def g_cell188 : jm_C := (20, [0])
noncomputable def g_cell189 : jm_C := (21, [190, 0])
noncomputable def g_cell190 : jm_C := (1, List.replicate 32 (0))
noncomputable def g_cell191 : jm_C := (0, [-1, -1, -1, -1])
noncomputable def g_cell192 : jm_C := (22, [0, 193, 0, 0, 0, 0, 194, 195, 196, 197, 198, 0, 0, 0, 0, 0, 0, 0, 0, 0, 199, 200, 0, 0, 0, 0, 0, 201, 0, 0, 0, 202, 0, 203, 0, 0, 0, 0, 0, 204, 205, 206, 207])
noncomputable def g_cell193 : jm_C := (1, List.replicate 940 (0))
noncomputable def g_cell194 : jm_C := (0, List.replicate 361 (0))
noncomputable def g_cell195 : jm_C := (0, List.replicate 99 (0))
noncomputable def g_cell196 : jm_C := (0, List.replicate 135 (0))
noncomputable def g_cell197 : jm_C := (2, List.replicate 66 (0))
noncomputable def g_cell198 : jm_C := (2, [1919512167, 1936023924, 2003792484, 491394458994, 1935767923, 7102839, 427020088168, 120325478970483, 27422272703198323, 119182682386035, 33610324346432613, 1953063787, 28530, 6385252, 7237492, 30064, 1836414053, 119165820433268, 28526, 461414299507, 1935763812, 1919904876, 121450625394034])
noncomputable def g_cell199 : jm_C := (0, List.replicate 648 (0))
noncomputable def g_cell200 : jm_C := (0, List.replicate 81 (0))
noncomputable def g_cell201 : jm_C := (1, List.replicate 48 (0))
noncomputable def g_cell202 : jm_C := (0, [0, 0, 0, 0])
noncomputable def g_cell203 : jm_C := (0, List.replicate 45 (0))
noncomputable def g_cell204 : jm_C := (3, List.replicate 45 (0))
noncomputable def g_cell205 : jm_C := (0, List.replicate 722 (0))
noncomputable def g_cell206 : jm_C := (2, List.replicate 66 (0))
noncomputable def g_cell207 : jm_C := (3, [0, 0])
noncomputable def g_cell208 : jm_C := (2, [0])
noncomputable def g_A0 : List jm_C := [g_cell0, g_cell1, g_cell2, g_cell3, g_cell4, g_cell5, g_cell6, g_cell7, g_cell8, g_cell9, g_cell10, g_cell11, g_cell12, g_cell13, g_cell14, g_cell15, g_cell16, g_cell17, g_cell18, g_cell19, g_cell20, g_cell21, g_cell22, g_cell23, g_cell24, g_cell25, g_cell26, g_cell27, g_cell28, g_cell29, g_cell30, g_cell31, g_cell32, g_cell33, g_cell34, g_cell35, g_cell36, g_cell37, g_cell38, g_cell39, g_cell40, g_cell41, g_cell42, g_cell43, g_cell44, g_cell45, g_cell46, g_cell47, g_cell48, g_cell49, g_cell50, g_cell51, g_cell52, g_cell53, g_cell54, g_cell55, g_cell56, g_cell57, g_cell58, g_cell59, g_cell60, g_cell61, g_cell62, g_cell63, g_cell64, g_cell65, g_cell66, g_cell67, g_cell68, g_cell69, g_cell70, g_cell71, g_cell72, g_cell73, g_cell74, g_cell75, g_cell76, g_cell77, g_cell78, g_cell79, g_cell80, g_cell81, g_cell82, g_cell83, g_cell84, g_cell85, g_cell86, g_cell87, g_cell88, g_cell89, g_cell90, g_cell91, g_cell92, g_cell93, g_cell94, g_cell95, g_cell96, g_cell97, g_cell98, g_cell99, g_cell100, g_cell101, g_cell102, g_cell103, g_cell104, g_cell105, g_cell106, g_cell107, g_cell108, g_cell109, g_cell110, g_cell111, g_cell112, g_cell113, g_cell114, g_cell115, g_cell116, g_cell117, g_cell118, g_cell119, g_cell120, g_cell121, g_cell122, g_cell123, g_cell124, g_cell125, g_cell126, g_cell127, g_cell128, g_cell129, g_cell130, g_cell131, g_cell132, g_cell133, g_cell134, g_cell135, g_cell136, g_cell137, g_cell138, g_cell139, g_cell140, g_cell141, g_cell142, g_cell143, g_cell144, g_cell145, g_cell146, g_cell147, g_cell148, g_cell149, g_cell150, g_cell151, g_cell152, g_cell153, g_cell154, g_cell155, g_cell156, g_cell157, g_cell158, g_cell159, g_cell160, g_cell161, g_cell162, g_cell163, g_cell164, g_cell165, g_cell166, g_cell167, g_cell168, g_cell169, g_cell170, g_cell171, g_cell172, g_cell173, g_cell174, g_cell175, g_cell176, g_cell177, g_cell178, g_cell179, g_cell180, g_cell181, g_cell182, g_cell183, g_cell184, g_cell185, g_cell186, g_cell187, g_cell188, g_cell189, g_cell190, g_cell191, g_cell192, g_cell193, g_cell194, g_cell195, g_cell196, g_cell197, g_cell198, g_cell199, g_cell200, g_cell201, g_cell202, g_cell203, g_cell204, g_cell205, g_cell206, g_cell207, g_cell208]
noncomputable def g_L0 : jm_L := [(3, (2, 208)), (2, (2, 192)), (1, (2, 0)), (0, (4, 2))]
theorem jm_ctor1 : jm_exec [] 200000 99 0 0 [(0, (2, 0))] [] ([(10, jm_def 0)], 0) = some (none, (g_A0.take 192, 0)) := by
  rw [← jm_execF_e]
  decide +kernel
theorem jm_ctor2 : jm_exec [] 200000 99 171 0 [(0, (2, 192))] [] (g_A0.take 192 ++ [(22, jm_def 12)], 0) = some (none, (g_A0.take 208, 0)) := by
  rw [← jm_execF_e]
  decide +kernel
theorem hf_of {A : List jm_C} (hk : g_kl = A.map (fun c => (c.1, c.2.length))) (hr : (List.range 209).all (fun a => (jm_n2 g_rfc a []).all (fun q => decide (((A.getD a (0, [])).2).getD q.1 0 = q.2))) = true) (hl : A.length = 209) : hf_h (fun a k => ((A.getD a (0, [])).2).getD k 0) 0 = (A, 0) := by
  have hc : ∀ a k, hf_c (fun a k => ((A.getD a (0, [])).2).getD k 0) a k = ((A.getD a (0, [])).2).getD k 0 := by
    intro a k
    unfold hf_c hf_r
    cases h : (jm_n2 g_rfc a []).find? (fun q => q.1 == k) with
    | none => rfl
    | some q =>
      have h1 := List.find?_some h
      have h2 := List.mem_of_find?_eq_some h
      simp only [beq_iff_eq] at h1
      by_cases ha : a < 209
      · have h3 := of_decide_eq_true (List.all_eq_true.mp (List.all_eq_true.mp hr a (List.mem_range.mpr ha)) q h2)
        rw [h1] at h3
        exact h3.symm
      · rw [jm_n2_e _ _ _ (by decide +kernel), List.getD_eq_getElem?_getD, List.getElem?_eq_none (by rw [show g_rfc.flatten.length = 209 from by decide +kernel]; omega)] at h2
        exact absurd h2 List.not_mem_nil
  refine Prod.ext ?_ rfl
  refine List.ext_getElem? (fun a => ?_)
  show ((List.range 209).map (fun a => (hf_k a, hf_l (fun a k => ((A.getD a (0, [])).2).getD k 0) a)))[a]? = A[a]?
  by_cases ha : a < 209
  · have ha' : a < A.length := by omega
    rw [List.getElem?_map, List.getElem?_range ha, List.getElem?_eq_getElem ha']
    have e0 : A.getD a (0, []) = A[a] := by rw [List.getD_eq_getElem?_getD, List.getElem?_eq_getElem ha']; rfl
    have e1 : g_kl.getD a (0, 0) = (A[a].1, A[a].2.length) := by
      rw [hk, List.getD_eq_getElem?_getD, List.getElem?_map, List.getElem?_eq_getElem ha']; rfl
    have e2 : hf_l (fun a k => ((A.getD a (0, [])).2).getD k 0) a = A[a].2 := by
      refine List.ext_getElem? (fun k => ?_)
      unfold hf_l
      rw [hf_n_e, e1]
      by_cases hk2 : k < A[a].2.length
      · rw [List.getElem?_map, List.getElem?_range hk2, List.getElem?_eq_getElem hk2]
        show some (hf_c (fun a k => ((A.getD a (0, [])).2).getD k 0) a k) = _
        rw [hc, e0, List.getD_eq_getElem?_getD, List.getElem?_eq_getElem hk2]
        rfl
      · rw [List.getElem?_eq_none (by rw [List.length_map, List.length_range]; omega), List.getElem?_eq_none (by omega)]
    show some (hf_k a, hf_l (fun a k => ((A.getD a (0, [])).2).getD k 0) a) = some A[a]
    rw [hf_k_e, e1, e2]
  · rw [List.getElem?_eq_none (by rw [List.length_map, List.length_range]; omega), List.getElem?_eq_none (by omega)]
noncomputable def g_f0 : hf_F := fun a k => ((g_A0.getD a (0, [])).2).getD k 0
theorem g_f0_k : g_kl = g_A0.map (fun c => (c.1, c.2.length)) := by decide +kernel
theorem g_f0_rf : (List.range 209).all (fun a => (jm_n2 g_rfc a []).all (fun q => decide (((g_A0.getD a (0, [])).2).getD q.1 0 = q.2))) = true := by decide +kernel
theorem g_f0_l : g_A0.length = 209 := by decide +kernel
theorem g_f0_e : hf_h g_f0 0 = (g_A0, 0) := hf_of g_f0_k g_f0_rf g_f0_l
theorem g_f0_rr : (List.range g_ivt.length).all (fun a => (g_ivt.getD a []).all (fun s => decide (s.2.1 ≤ (g_A0.getD a (0, [])).2.length) && (((g_A0.getD a (0, [])).2.drop s.1).take (s.2.1 - s.1)).all (fun z => decide (s.2.2.1 ≤ z ∧ z ≤ s.2.2.2)))) = true := by decide +kernel
theorem g_f0_r : (List.range g_ivt.length).all (fun a => (g_ivt.getD a []).all (fun s => (List.range (s.2.1 - s.1)).all (fun j => decide (s.2.2.1 ≤ g_f0 a (s.1 + j) ∧ g_f0 a (s.1 + j) ≤ s.2.2.2)))) = true := by
  refine List.all_eq_true.mpr (fun a ha => List.all_eq_true.mpr (fun s hs => List.all_eq_true.mpr (fun j hj => decide_eq_true ?_)))
  have h1 := List.all_eq_true.mp (List.all_eq_true.mp g_f0_rr a ha) s hs
  rw [Bool.and_eq_true] at h1
  have h0 : s.2.1 ≤ (g_A0.getD a (0, [])).2.length := of_decide_eq_true h1.1
  have hj2 : j < s.2.1 - s.1 := List.mem_range.mp hj
  have hk : s.1 + j < (g_A0.getD a (0, [])).2.length := by omega
  have h3 : (((g_A0.getD a (0, [])).2.drop s.1).take (s.2.1 - s.1))[j]? = some (g_f0 a (s.1 + j)) := by
    rw [List.getElem?_take, if_pos hj2, List.getElem?_drop]
    unfold g_f0
    rw [List.getD_eq_getElem?_getD (l := (g_A0.getD a (0, [])).2), List.getElem?_eq_getElem hk]
    rfl
  exact of_decide_eq_true (List.all_eq_true.mp h1.2 _ (List.mem_of_getElem? h3))
theorem g_f0_z : g_f0 194 1 = 0 ∧ g_f0 195 1 = 0 ∧ g_f0 205 1 = 0 ∧ g_f0 205 362 = 0 ∧ g_f0 194 180 = 0 ∧ g_f0 205 180 = 0 ∧ g_f0 205 541 = 0 ∧ g_f0 183 5 = 0 ∧ g_f0 1 2 = g_f0 192 2 ∧ g_f0 56 3 = g_f0 207 0 ∧ g_f0 82 3 = g_f0 207 1 := by decide +kernel
theorem g_f0_b : (List.range 8).all (fun k => decide (g_f0 109 k = 110 ∨ g_f0 109 k = 119 ∨ g_f0 109 k = 128 ∨ g_f0 109 k = 137 ∨ g_f0 109 k = 146 ∨ g_f0 109 k = 155 ∨ g_f0 109 k = 164 ∨ g_f0 109 k = 173)) = true := by decide +kernel
theorem g_f0_i : Inv g_f0 := by
  obtain ⟨z1, z2, z3, z4, z5, z6, z7, z8, -⟩ := g_f0_z
  refine ⟨⟨fun a k q hq => ?_, fun k hk => ?_⟩, ⟨⟨?_, ?_, ?_, ?_⟩, ?_, ?_, ?_, ?_⟩⟩
  · rw [g_iv_e] at hq
    obtain ⟨s, hs, rfl⟩ := Option.map_eq_some_iff.mp hq
    have h1 := List.find?_some hs
    have h2 := List.mem_of_find?_eq_some hs
    by_cases ha : a < g_ivt.length
    · have h3 := List.all_eq_true.mp (List.all_eq_true.mp g_f0_r a (List.mem_range.mpr ha)) s h2
      simp only [Bool.and_eq_true, decide_eq_true_eq] at h1
      have h4 := List.all_eq_true.mp h3 (k - s.1) (List.mem_range.mpr (by omega))
      rw [show s.1 + (k - s.1) = k by omega] at h4
      exact of_decide_eq_true h4
    · rw [List.getD_eq_getElem?_getD, List.getElem?_eq_none (by omega)] at h2
      have h2 : s ∈ ([] : List (Nat × Nat × Int × Int)) := h2
      cases h2
  · have h := of_decide_eq_true (List.all_eq_true.mp g_f0_b k (List.mem_range.mpr hk))
    exact h
  · intro k hk g hg h1; exfalso; rw [show 0 + 1 = 1 from rfl, z1] at h1; omega
  · intro k hk g hg h1; exfalso; rw [show 0 + 1 = 1 from rfl, z2] at h1; omega
  · intro k hk g hg h1; exfalso; rw [show 0 + 1 = 1 from rfl, z3] at h1; omega
  · intro k hk g hg h1; exfalso; rw [show 361 + 1 = 362 from rfl, z4] at h1; omega
  · intro k hk h1; exfalso; rw [z5] at h1; omega
  · intro k hk h1; exfalso; rw [z6] at h1; omega
  · intro k hk h1; exfalso; rw [z7] at h1; omega
  · intro k hk h1; exfalso; rw [z8] at h1; omega
theorem getD_z {l : List Int} (h : l.all (fun z => decide (z = 0)) = true) (k : Nat) : l.getD k 0 = 0 := by
  rw [List.getD_eq_getElem?_getD]
  cases hq : l[k]? with
  | none => rfl
  | some v => exact of_decide_eq_true (List.all_eq_true.mp h v (List.mem_of_getElem? hq))
theorem g_f0_t2 : ((g_A0.getD 2 (0, [])).2).all (fun z => decide (z = 0)) = true := by decide +kernel
theorem g_f0_t193 : ((g_A0.getD 193 (0, [])).2).all (fun z => decide (z = 0)) = true := by decide +kernel
theorem g_f0_t : TPR g_f0 g_f0 := by
  intro k _
  have a : g_f0 2 k = 0 := getD_z g_f0_t2 k
  have b : g_f0 193 k = 0 := getD_z g_f0_t193 k
  rw [a, b]
  decide
theorem g_f0_w0 : (List.range 23).all (fun k => decide (g_f0 3 k = kwt k ∧ g_f0 198 k = rst k)) = true := by decide +kernel
theorem g_f0_w : KWR g_f0 g_f0 := fun k hk => of_decide_eq_true (List.all_eq_true.mp g_f0_w0 k (List.mem_range.mpr hk))
theorem hf_cn {φ : hf_F} {x : Nat} : jm_cn (hf_h φ x) = 209 + x := by
  unfold jm_cn hf_h
  rw [List.length_map, List.length_range]
theorem hf_sl0 : ((List.range 209).map hf_n).sum ≤ 7000 := by decide +kernel
theorem hf_sl {φ : hf_F} {x : Nat} : jm_sl (hf_h φ x) ≤ 7000 + 6 * x := by
  unfold jm_sl hf_h
  dsimp only
  rw [List.map_map, show ((fun c : jm_C => c.2.length) ∘ fun a => (hf_k a, hf_l φ a)) = hf_n from funext (fun a => hf_len)]
  have := hf_sl0
  omega
