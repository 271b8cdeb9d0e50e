-- ===== PART A: goes FIRST, ahead of the names: the tables' words, and 'selects' of the private methods out of them =====
/-- the lists' own recursor: few steps for the kernel -/
noncomputable def jm_nth {α : Type} (l : List α) (i : Nat) (d : α) : α := List.rec (motive := fun _ => Nat → α) (fun _ => d) (fun a _ ih i => Nat.rec (motive := fun _ => α) a (fun j _ => ih j) i) l i
theorem jm_nth_e {α : Type} (d : α) : ∀ (l : List α) (i : Nat), jm_nth l i d = l.getD i d
  | [], _ => rfl
  | _ :: _, 0 => rfl
  | _ :: l, i + 1 => jm_nth_e d l i
noncomputable def jm_nthO {α : Type} (l : List α) (i : Nat) : Option α := List.rec (motive := fun _ => Nat → Option α) (fun _ => none) (fun a _ ih i => Nat.rec (motive := fun _ => Option α) (some a) (fun j _ => ih j) i) l i
theorem jm_nthO_in {α : Type} {a : α} : ∀ (l : List α) (i : Nat), jm_nthO l i = some a → a ∈ l
  | [], _, h => nomatch h
  | b :: _, 0, h => by cases h; exact List.mem_cons_self
  | _ :: l, i + 1, h => List.mem_cons_of_mem _ (jm_nthO_in l i h)
/-- a list in sixteens -/
noncomputable def jm_n2 {α : Type} (L : List (List α)) (i : Nat) (d : α) : α := jm_nth (jm_nth L (i / 16) []) (i % 16) d
noncomputable def jm_c16 {α : Type} : List (List α) → Bool
  | [] => true
  | [c] => decide (c.length ≤ 16)
  | c :: c2 :: R => decide (c.length = 16) && jm_c16 (c2 :: R)
theorem jm_n2_e {α : Type} (d : α) : ∀ (L : List (List α)) (i : Nat), jm_c16 L = true → jm_n2 L i d = L.flatten.getD i d
  | [], i, _ => rfl
  | [c], i, h => by
    have h : c.length ≤ 16 := of_decide_eq_true h
    unfold jm_n2
    rw [List.flatten_cons, List.flatten_nil, List.append_nil]
    by_cases hi : i < 16
    · rw [show i / 16 = 0 by omega, show i % 16 = i by omega]
      exact jm_nth_e d c i
    · obtain ⟨j, rfl⟩ : ∃ j, i = j + 16 := ⟨i - 16, by omega⟩
      rw [show (j + 16) / 16 = j / 16 + 1 by omega, List.getD_eq_getElem?_getD, List.getElem?_eq_none (by omega)]
      rfl
  | c :: c2 :: R, i, h => by
    have h : (decide (c.length = 16) && jm_c16 (c2 :: R)) = true := h
    simp only [Bool.and_eq_true, decide_eq_true_eq] at h
    unfold jm_n2
    rw [List.flatten_cons]
    by_cases hi : i < 16
    · rw [show i / 16 = 0 by omega, show i % 16 = i by omega, List.getD_eq_getElem?_getD, List.getElem?_append_left (by omega), ← List.getD_eq_getElem?_getD]
      exact jm_nth_e d c i
    · obtain ⟨j, rfl⟩ : ∃ j, i = j + 16 := ⟨i - 16, by omega⟩
      have h3 := jm_n2_e d (c2 :: R) j h.2
      unfold jm_n2 at h3
      rw [show (j + 16) / 16 = j / 16 + 1 by omega, show (j + 16) % 16 = j % 16 by omega, List.getD_eq_getElem?_getD, List.getElem?_append_right (by omega), h.1, show j + 16 - 16 = j by omega, ← List.getD_eq_getElem?_getD]
      exact h3
theorem jm_u1 {w : Cond} (h : w ∈ tables_1_1) : w ∈ tables_1 := List.mem_append_left _ h
theorem jm_u2 {w : Cond} (h : w ∈ tables_1_2) : w ∈ tables_1 := List.mem_append_right _ (List.mem_append_left _ h)
theorem jm_u3 {w : Cond} (h : w ∈ tables_1_3) : w ∈ tables_1 := List.mem_append_right _ (List.mem_append_right _ (List.mem_append_left _ h))
theorem jm_u4 {w : Cond} (h : w ∈ tables_1_4) : w ∈ tables_1 := List.mem_append_right _ (List.mem_append_right _ (List.mem_append_right _ (List.mem_append_left _ h)))
theorem jm_u5 {w : Cond} (h : w ∈ tables_1_5) : w ∈ tables_1 := List.mem_append_right _ (List.mem_append_right _ (List.mem_append_right _ (List.mem_append_right _ (List.mem_append_left _ h))))
theorem jm_u6 {w : Cond} (h : w ∈ tables_1_6) : w ∈ tables_1 := List.mem_append_right _ (List.mem_append_right _ (List.mem_append_right _ (List.mem_append_right _ (List.mem_append_right _ (List.mem_append_left _ h)))))
theorem jm_u7 {w : Cond} (h : w ∈ tables_1_7) : w ∈ tables_1 := List.mem_append_right _ (List.mem_append_right _ (List.mem_append_right _ (List.mem_append_right _ (List.mem_append_right _ (List.mem_append_right _ (List.mem_append_left _ h))))))
theorem jm_u8 {w : Cond} (h : w ∈ tables_1_8) : w ∈ tables_1 := List.mem_append_right _ (List.mem_append_right _ (List.mem_append_right _ (List.mem_append_right _ (List.mem_append_right _ (List.mem_append_right _ (List.mem_append_right _ (h)))))))
/-- a private method of a class that the tables say can be made, by its rows of tables_1 -/
noncomputable def lw_okq (q : MethodName × Nat) : Prop := (q.1.cls ≠ "java/lang/invoke/MethodHandle" ∧ q.1.cls ≠ "java/lang/invoke/VarHandle") ∧ Cond.instantiable q.1.cls q.2 ∈ tables_1 ∧ Cond.privateMethod q.1 ∈ tables_1 ∧ Cond.instanceMethod q.1 ∈ tables_1
set_option maxRecDepth 100000 in
theorem lw_p0 : lw_okq (⟨"RideLaws$Reader", "readRun", "()V"⟩, 11) := ⟨⟨by decide +kernel, by decide +kernel⟩, jm_u1 (List.mem_of_getElem? (i := 35) rfl), jm_u3 (List.mem_of_getElem? (i := 41) rfl), jm_u3 (List.mem_of_getElem? (i := 42) rfl)⟩
set_option maxRecDepth 100000 in
theorem lw_p1 : lw_okq (⟨"RideLaws$Reader", "takeWord", "(J)V"⟩, 11) := ⟨⟨by decide +kernel, by decide +kernel⟩, jm_u1 (List.mem_of_getElem? (i := 35) rfl), jm_u3 (List.mem_of_getElem? (i := 45) rfl), jm_u3 (List.mem_of_getElem? (i := 46) rfl)⟩
set_option maxRecDepth 100000 in
theorem lw_p2 : lw_okq (⟨"RideLaws$RideText", "readLine", "()Z"⟩, 3) := ⟨⟨by decide +kernel, by decide +kernel⟩, jm_u2 (List.mem_of_getElem? (i := 102) rfl), jm_u3 (List.mem_of_getElem? (i := 52) rfl), jm_u3 (List.mem_of_getElem? (i := 53) rfl)⟩
set_option maxRecDepth 100000 in
theorem lw_p3 : lw_okq (⟨"RideLaws$RideText", "readRing", "()Z"⟩, 3) := ⟨⟨by decide +kernel, by decide +kernel⟩, jm_u2 (List.mem_of_getElem? (i := 102) rfl), jm_u3 (List.mem_of_getElem? (i := 60) rfl), jm_u3 (List.mem_of_getElem? (i := 61) rfl)⟩
set_option maxRecDepth 100000 in
theorem lw_p4 : lw_okq (⟨"RideLaws$RideText", "readNew", "(I)J"⟩, 3) := ⟨⟨by decide +kernel, by decide +kernel⟩, jm_u2 (List.mem_of_getElem? (i := 102) rfl), jm_u3 (List.mem_of_getElem? (i := 64) rfl), jm_u3 (List.mem_of_getElem? (i := 65) rfl)⟩
set_option maxRecDepth 100000 in
theorem lw_p5 : lw_okq (⟨"RideLaws$RideText", "readSeat", "()Z"⟩, 3) := ⟨⟨by decide +kernel, by decide +kernel⟩, jm_u2 (List.mem_of_getElem? (i := 102) rfl), jm_u3 (List.mem_of_getElem? (i := 96) rfl), jm_u3 (List.mem_of_getElem? (i := 97) rfl)⟩
set_option maxRecDepth 100000 in
theorem lw_p6 : lw_okq (⟨"RideLaws$RideText", "isTaken", "(II)Z"⟩, 3) := ⟨⟨by decide +kernel, by decide +kernel⟩, jm_u2 (List.mem_of_getElem? (i := 102) rfl), jm_u3 (List.mem_of_getElem? (i := 105) rfl), jm_u3 (List.mem_of_getElem? (i := 106) rfl)⟩
set_option maxRecDepth 100000 in
theorem lw_p7 : lw_okq (⟨"RideLaws$RideText", "readWord", "()Z"⟩, 3) := ⟨⟨by decide +kernel, by decide +kernel⟩, jm_u2 (List.mem_of_getElem? (i := 102) rfl), jm_u3 (List.mem_of_getElem? (i := 113) rfl), jm_u3 (List.mem_of_getElem? (i := 114) rfl)⟩
set_option maxRecDepth 100000 in
theorem lw_p8 : lw_okq (⟨"RideLaws$RideText", "readRider", "()Z"⟩, 3) := ⟨⟨by decide +kernel, by decide +kernel⟩, jm_u2 (List.mem_of_getElem? (i := 102) rfl), jm_u3 (List.mem_of_getElem? (i := 118) rfl), jm_u3 (List.mem_of_getElem? (i := 119) rfl)⟩
set_option maxRecDepth 100000 in
theorem lw_p9 : lw_okq (⟨"RideLaws$RideText", "readSays", "()Z"⟩, 3) := ⟨⟨by decide +kernel, by decide +kernel⟩, jm_u2 (List.mem_of_getElem? (i := 102) rfl), jm_u3 (List.mem_of_getElem? (i := 126) rfl), jm_u3 (List.mem_of_getElem? (i := 127) rfl)⟩
set_option maxRecDepth 100000 in
theorem lw_p10 : lw_okq (⟨"RideLaws$RideText", "readLaw", "()Z"⟩, 3) := ⟨⟨by decide +kernel, by decide +kernel⟩, jm_u2 (List.mem_of_getElem? (i := 102) rfl), jm_u3 (List.mem_of_getElem? (i := 138) rfl), jm_u3 (List.mem_of_getElem? (i := 139) rfl)⟩
set_option maxRecDepth 100000 in
theorem lw_p11 : lw_okq (⟨"RideLaws$RideText", "readClash", "()Z"⟩, 3) := ⟨⟨by decide +kernel, by decide +kernel⟩, jm_u2 (List.mem_of_getElem? (i := 102) rfl), jm_u3 (List.mem_of_getElem? (i := 146) rfl), jm_u3 (List.mem_of_getElem? (i := 147) rfl)⟩
set_option maxRecDepth 100000 in
theorem lw_p12 : lw_okq (⟨"RideLaws", "closeText", "()V"⟩, 15) := ⟨⟨by decide +kernel, by decide +kernel⟩, jm_u1 (List.mem_of_getElem? (i := 27) rfl), jm_u3 (List.mem_of_getElem? (i := 162) rfl), jm_u3 (List.mem_of_getElem? (i := 163) rfl)⟩
set_option maxRecDepth 100000 in
theorem lw_p13 : lw_okq (⟨"RideLaws", "has", "(II)Z"⟩, 15) := ⟨⟨by decide +kernel, by decide +kernel⟩, jm_u1 (List.mem_of_getElem? (i := 27) rfl), jm_u3 (List.mem_of_getElem? (i := 199) rfl), jm_u3 (List.mem_of_getElem? (i := 200) rfl)⟩
set_option maxRecDepth 100000 in
theorem lw_p14 : lw_okq (⟨"RideLaws", "seatsAtBox", "()I"⟩, 15) := ⟨⟨by decide +kernel, by decide +kernel⟩, jm_u1 (List.mem_of_getElem? (i := 27) rfl), jm_u3 (List.mem_of_getElem? (i := 223) rfl), jm_u3 (List.mem_of_getElem? (i := 224) rfl)⟩
set_option maxRecDepth 100000 in
theorem lw_p15 : lw_okq (⟨"RideLaws", "seatsTaken", "()I"⟩, 15) := ⟨⟨by decide +kernel, by decide +kernel⟩, jm_u1 (List.mem_of_getElem? (i := 27) rfl), jm_u3 (List.mem_of_getElem? (i := 227) rfl), jm_u3 (List.mem_of_getElem? (i := 228) rfl)⟩
noncomputable def lw_privs_1 : List (MethodName × Nat) := [(⟨"RideLaws$Reader", "readRun", "()V"⟩, 11), (⟨"RideLaws$Reader", "takeWord", "(J)V"⟩, 11), (⟨"RideLaws$RideText", "readLine", "()Z"⟩, 3), (⟨"RideLaws$RideText", "readRing", "()Z"⟩, 3), (⟨"RideLaws$RideText", "readNew", "(I)J"⟩, 3), (⟨"RideLaws$RideText", "readSeat", "()Z"⟩, 3), (⟨"RideLaws$RideText", "isTaken", "(II)Z"⟩, 3), (⟨"RideLaws$RideText", "readWord", "()Z"⟩, 3), (⟨"RideLaws$RideText", "readRider", "()Z"⟩, 3), (⟨"RideLaws$RideText", "readSays", "()Z"⟩, 3), (⟨"RideLaws$RideText", "readLaw", "()Z"⟩, 3), (⟨"RideLaws$RideText", "readClash", "()Z"⟩, 3), (⟨"RideLaws", "closeText", "()V"⟩, 15), (⟨"RideLaws", "has", "(II)Z"⟩, 15), (⟨"RideLaws", "seatsAtBox", "()I"⟩, 15), (⟨"RideLaws", "seatsTaken", "()I"⟩, 15)]
theorem lw_r1 : ∀ q ∈ lw_privs_1, lw_okq q := List.forall_mem_cons.mpr ⟨lw_p0, List.forall_mem_cons.mpr ⟨lw_p1, List.forall_mem_cons.mpr ⟨lw_p2, List.forall_mem_cons.mpr ⟨lw_p3, List.forall_mem_cons.mpr ⟨lw_p4, List.forall_mem_cons.mpr ⟨lw_p5, List.forall_mem_cons.mpr ⟨lw_p6, List.forall_mem_cons.mpr ⟨lw_p7, List.forall_mem_cons.mpr ⟨lw_p8, List.forall_mem_cons.mpr ⟨lw_p9, List.forall_mem_cons.mpr ⟨lw_p10, List.forall_mem_cons.mpr ⟨lw_p11, List.forall_mem_cons.mpr ⟨lw_p12, List.forall_mem_cons.mpr ⟨lw_p13, List.forall_mem_cons.mpr ⟨lw_p14, List.forall_mem_cons.mpr ⟨lw_p15, fun _ h => absurd h List.not_mem_nil⟩⟩⟩⟩⟩⟩⟩⟩⟩⟩⟩⟩⟩⟩⟩⟩
set_option maxRecDepth 100000 in
theorem lw_p16 : lw_okq (⟨"RideLaws$History", "dropOldest", "()V"⟩, 2) := ⟨⟨by decide +kernel, by decide +kernel⟩, jm_u2 (List.mem_of_getElem? (i := 85) rfl), jm_u4 (List.mem_of_getElem? (i := 3) rfl), jm_u4 (List.mem_of_getElem? (i := 4) rfl)⟩
set_option maxRecDepth 100000 in
theorem lw_p17 : lw_okq (⟨"RideLaws$State", "speak", "(LRideLaws$Plan;I)V"⟩, 14) := ⟨⟨by decide +kernel, by decide +kernel⟩, jm_u1 (List.mem_of_getElem? (i := 207) rfl), jm_u4 (List.mem_of_getElem? (i := 61) rfl), jm_u4 (List.mem_of_getElem? (i := 62) rfl)⟩
set_option maxRecDepth 100000 in
theorem lw_p18 : lw_okq (⟨"RideLaws$Outlook", "ticksTillTrialHolds", "(II)I"⟩, 3) := ⟨⟨by decide +kernel, by decide +kernel⟩, jm_u2 (List.mem_of_getElem? (i := 147) rfl), jm_u4 (List.mem_of_getElem? (i := 101) rfl), jm_u4 (List.mem_of_getElem? (i := 102) rfl)⟩
set_option maxRecDepth 100000 in
theorem lw_p19 : lw_okq (⟨"RideLaws$Outlook", "needs", "(I)I"⟩, 3) := ⟨⟨by decide +kernel, by decide +kernel⟩, jm_u2 (List.mem_of_getElem? (i := 147) rfl), jm_u4 (List.mem_of_getElem? (i := 132) rfl), jm_u4 (List.mem_of_getElem? (i := 133) rfl)⟩
set_option maxRecDepth 100000 in
theorem lw_p20 : lw_okq (⟨"RideLaws$Outlook", "isPeaceful", "(I)Z"⟩, 3) := ⟨⟨by decide +kernel, by decide +kernel⟩, jm_u2 (List.mem_of_getElem? (i := 147) rfl), jm_u4 (List.mem_of_getElem? (i := 150) rfl), jm_u4 (List.mem_of_getElem? (i := 151) rfl)⟩
set_option maxRecDepth 100000 in
theorem lw_p21 : lw_okq (⟨"RideLaws$Outlook", "stillSilent", "(I)I"⟩, 3) := ⟨⟨by decide +kernel, by decide +kernel⟩, jm_u2 (List.mem_of_getElem? (i := 147) rfl), jm_u4 (List.mem_of_getElem? (i := 167) rfl), jm_u4 (List.mem_of_getElem? (i := 168) rfl)⟩
set_option maxRecDepth 100000 in
theorem lw_p22 : lw_okq (⟨"RideLaws$Line", "addByte", "(I)V"⟩, 2) := ⟨⟨by decide +kernel, by decide +kernel⟩, jm_u2 (List.mem_of_getElem? (i := 174) rfl), jm_u4 (List.mem_of_getElem? (i := 188) rfl), jm_u4 (List.mem_of_getElem? (i := 189) rfl)⟩
set_option maxRecDepth 100000 in
theorem lw_p23 : lw_okq (⟨"RideLaws$State", "mountOrAlight", "(II)V"⟩, 14) := ⟨⟨by decide +kernel, by decide +kernel⟩, jm_u1 (List.mem_of_getElem? (i := 207) rfl), jm_u4 (List.mem_of_getElem? (i := 223) rfl), jm_u4 (List.mem_of_getElem? (i := 224) rfl)⟩
set_option maxRecDepth 100000 in
theorem lw_p24 : lw_okq (⟨"RideLaws$BookText", "readLine", "()Z"⟩, 7) := ⟨⟨by decide +kernel, by decide +kernel⟩, jm_u2 (List.mem_of_getElem? (i := 118) rfl), jm_u5 (List.mem_of_getElem? (i := 14) rfl), jm_u5 (List.mem_of_getElem? (i := 15) rfl)⟩
set_option maxRecDepth 100000 in
theorem lw_p25 : lw_okq (⟨"RideLaws$BookText", "add", "(III)Z"⟩, 7) := ⟨⟨by decide +kernel, by decide +kernel⟩, jm_u2 (List.mem_of_getElem? (i := 118) rfl), jm_u5 (List.mem_of_getElem? (i := 25) rfl), jm_u5 (List.mem_of_getElem? (i := 26) rfl)⟩
set_option maxRecDepth 100000 in
theorem lw_p26 : lw_okq (⟨"RideLaws$BookText", "readTicks", "()Z"⟩, 7) := ⟨⟨by decide +kernel, by decide +kernel⟩, jm_u2 (List.mem_of_getElem? (i := 118) rfl), jm_u5 (List.mem_of_getElem? (i := 29) rfl), jm_u5 (List.mem_of_getElem? (i := 30) rfl)⟩
set_option maxRecDepth 100000 in
theorem lw_p27 : lw_okq (⟨"RideLaws$BookText", "readAct", "(I)Z"⟩, 7) := ⟨⟨by decide +kernel, by decide +kernel⟩, jm_u2 (List.mem_of_getElem? (i := 118) rfl), jm_u5 (List.mem_of_getElem? (i := 34) rfl), jm_u5 (List.mem_of_getElem? (i := 35) rfl)⟩
set_option maxRecDepth 100000 in
theorem lw_p28 : lw_okq (⟨"RideLaws$BookText", "liveLine", "(ILRideLaws$State;)I"⟩, 7) := ⟨⟨by decide +kernel, by decide +kernel⟩, jm_u2 (List.mem_of_getElem? (i := 118) rfl), jm_u5 (List.mem_of_getElem? (i := 44) rfl), jm_u5 (List.mem_of_getElem? (i := 45) rfl)⟩
set_option maxRecDepth 100000 in
theorem lw_p29 : lw_okq (⟨"RideLaws$BookText", "liveTicks", "(ILRideLaws$State;)I"⟩, 7) := ⟨⟨by decide +kernel, by decide +kernel⟩, jm_u2 (List.mem_of_getElem? (i := 118) rfl), jm_u5 (List.mem_of_getElem? (i := 59) rfl), jm_u5 (List.mem_of_getElem? (i := 60) rfl)⟩
set_option maxRecDepth 100000 in
theorem lw_p30 : lw_okq (⟨"RideLaws$Sentence", "readCond", "(LRideLaws$Reader;LRideLaws$Plan;I)Z"⟩, 6) := ⟨⟨by decide +kernel, by decide +kernel⟩, jm_u2 (List.mem_of_getElem? (i := 39) rfl), jm_u5 (List.mem_of_getElem? (i := 79) rfl), jm_u5 (List.mem_of_getElem? (i := 80) rfl)⟩
set_option maxRecDepth 100000 in
theorem lw_p31 : lw_okq (⟨"RideLaws$Sentence", "readOne", "(LRideLaws$Reader;LRideLaws$Plan;I)Z"⟩, 6) := ⟨⟨by decide +kernel, by decide +kernel⟩, jm_u2 (List.mem_of_getElem? (i := 39) rfl), jm_u5 (List.mem_of_getElem? (i := 83) rfl), jm_u5 (List.mem_of_getElem? (i := 84) rfl)⟩
noncomputable def lw_privs_2 : List (MethodName × Nat) := [(⟨"RideLaws$History", "dropOldest", "()V"⟩, 2), (⟨"RideLaws$State", "speak", "(LRideLaws$Plan;I)V"⟩, 14), (⟨"RideLaws$Outlook", "ticksTillTrialHolds", "(II)I"⟩, 3), (⟨"RideLaws$Outlook", "needs", "(I)I"⟩, 3), (⟨"RideLaws$Outlook", "isPeaceful", "(I)Z"⟩, 3), (⟨"RideLaws$Outlook", "stillSilent", "(I)I"⟩, 3), (⟨"RideLaws$Line", "addByte", "(I)V"⟩, 2), (⟨"RideLaws$State", "mountOrAlight", "(II)V"⟩, 14), (⟨"RideLaws$BookText", "readLine", "()Z"⟩, 7), (⟨"RideLaws$BookText", "add", "(III)Z"⟩, 7), (⟨"RideLaws$BookText", "readTicks", "()Z"⟩, 7), (⟨"RideLaws$BookText", "readAct", "(I)Z"⟩, 7), (⟨"RideLaws$BookText", "liveLine", "(ILRideLaws$State;)I"⟩, 7), (⟨"RideLaws$BookText", "liveTicks", "(ILRideLaws$State;)I"⟩, 7), (⟨"RideLaws$Sentence", "readCond", "(LRideLaws$Reader;LRideLaws$Plan;I)Z"⟩, 6), (⟨"RideLaws$Sentence", "readOne", "(LRideLaws$Reader;LRideLaws$Plan;I)Z"⟩, 6)]
theorem lw_r2 : ∀ q ∈ lw_privs_2, lw_okq q := List.forall_mem_cons.mpr ⟨lw_p16, List.forall_mem_cons.mpr ⟨lw_p17, List.forall_mem_cons.mpr ⟨lw_p18, List.forall_mem_cons.mpr ⟨lw_p19, List.forall_mem_cons.mpr ⟨lw_p20, List.forall_mem_cons.mpr ⟨lw_p21, List.forall_mem_cons.mpr ⟨lw_p22, List.forall_mem_cons.mpr ⟨lw_p23, List.forall_mem_cons.mpr ⟨lw_p24, List.forall_mem_cons.mpr ⟨lw_p25, List.forall_mem_cons.mpr ⟨lw_p26, List.forall_mem_cons.mpr ⟨lw_p27, List.forall_mem_cons.mpr ⟨lw_p28, List.forall_mem_cons.mpr ⟨lw_p29, List.forall_mem_cons.mpr ⟨lw_p30, List.forall_mem_cons.mpr ⟨lw_p31, fun _ h => absurd h List.not_mem_nil⟩⟩⟩⟩⟩⟩⟩⟩⟩⟩⟩⟩⟩⟩⟩⟩
set_option maxRecDepth 100000 in
theorem lw_p32 : lw_okq (⟨"RideLaws$Sentence", "add", "(III)Z"⟩, 6) := ⟨⟨by decide +kernel, by decide +kernel⟩, jm_u2 (List.mem_of_getElem? (i := 39) rfl), jm_u5 (List.mem_of_getElem? (i := 94) rfl), jm_u5 (List.mem_of_getElem? (i := 95) rfl)⟩
set_option maxRecDepth 100000 in
theorem lw_p33 : lw_okq (⟨"RideLaws$Sentence", "readNamed", "(LRideLaws$Reader;LRideLaws$Plan;II)Z"⟩, 6) := ⟨⟨by decide +kernel, by decide +kernel⟩, jm_u2 (List.mem_of_getElem? (i := 39) rfl), jm_u5 (List.mem_of_getElem? (i := 98) rfl), jm_u5 (List.mem_of_getElem? (i := 99) rfl)⟩
set_option maxRecDepth 100000 in
theorem lw_p34 : lw_okq (⟨"RideLaws$Sentence", "readCompared", "(LRideLaws$Reader;I)Z"⟩, 6) := ⟨⟨by decide +kernel, by decide +kernel⟩, jm_u2 (List.mem_of_getElem? (i := 39) rfl), jm_u5 (List.mem_of_getElem? (i := 103) rfl), jm_u5 (List.mem_of_getElem? (i := 104) rfl)⟩
set_option maxRecDepth 100000 in
theorem lw_p35 : lw_okq (⟨"RideLaws$Sentence", "isTrue", "(ILRideLaws$State;I)Z"⟩, 6) := ⟨⟨by decide +kernel, by decide +kernel⟩, jm_u2 (List.mem_of_getElem? (i := 39) rfl), jm_u5 (List.mem_of_getElem? (i := 118) rfl), jm_u5 (List.mem_of_getElem? (i := 119) rfl)⟩
set_option maxRecDepth 100000 in
theorem lw_p36 : lw_okq (⟨"java/lang/Throwable", "fillInStackTrace", "(I)Ljava/lang/Throwable;"⟩, 6) := ⟨⟨by decide +kernel, by decide +kernel⟩, jm_u5 (List.mem_of_getElem? (i := 182) rfl), jm_u5 (List.mem_of_getElem? (i := 180) rfl), jm_u5 (List.mem_of_getElem? (i := 181) rfl)⟩
set_option maxRecDepth 100000 in
theorem lw_p37 : lw_okq (⟨"RideLaws$Outlook", "knownTo", "(I)I"⟩, 3) := ⟨⟨by decide +kernel, by decide +kernel⟩, jm_u2 (List.mem_of_getElem? (i := 147) rfl), jm_u5 (List.mem_of_getElem? (i := 224) rfl), jm_u5 (List.mem_of_getElem? (i := 225) rfl)⟩
set_option maxRecDepth 100000 in
theorem lw_p38 : lw_okq (⟨"RideLawsModel", "four", "(I)V"⟩, 43) := ⟨⟨by decide +kernel, by decide +kernel⟩, jm_u6 (List.mem_of_getElem? (i := 5) rfl), jm_u6 (List.mem_of_getElem? (i := 3) rfl), jm_u6 (List.mem_of_getElem? (i := 4) rfl)⟩
set_option maxRecDepth 100000 in
theorem lw_p39 : lw_okq (⟨"RideLawsModel", "clears", "()V"⟩, 43) := ⟨⟨by decide +kernel, by decide +kernel⟩, jm_u6 (List.mem_of_getElem? (i := 5) rfl), jm_u6 (List.mem_of_getElem? (i := 40) rfl), jm_u6 (List.mem_of_getElem? (i := 41) rfl)⟩
set_option maxRecDepth 100000 in
theorem lw_p40 : lw_okq (⟨"RideLawsModel", "taken", "(I)V"⟩, 43) := ⟨⟨by decide +kernel, by decide +kernel⟩, jm_u6 (List.mem_of_getElem? (i := 5) rfl), jm_u6 (List.mem_of_getElem? (i := 179) rfl), jm_u6 (List.mem_of_getElem? (i := 180) rfl)⟩
set_option maxRecDepth 100000 in
theorem lw_p41 : lw_okq (⟨"RideLawsModel", "next", "()V"⟩, 43) := ⟨⟨by decide +kernel, by decide +kernel⟩, jm_u6 (List.mem_of_getElem? (i := 5) rfl), jm_u6 (List.mem_of_getElem? (i := 183) rfl), jm_u6 (List.mem_of_getElem? (i := 184) rfl)⟩
set_option maxRecDepth 100000 in
theorem lw_p42 : lw_okq (⟨"RideLawsModel", "peek", "()I"⟩, 43) := ⟨⟨by decide +kernel, by decide +kernel⟩, jm_u6 (List.mem_of_getElem? (i := 5) rfl), jm_u6 (List.mem_of_getElem? (i := 187) rfl), jm_u6 (List.mem_of_getElem? (i := 188) rfl)⟩
set_option maxRecDepth 100000 in
theorem lw_p43 : lw_okq (⟨"RideLawsModel", "readLine", "()Z"⟩, 43) := ⟨⟨by decide +kernel, by decide +kernel⟩, jm_u6 (List.mem_of_getElem? (i := 5) rfl), jm_u6 (List.mem_of_getElem? (i := 197) rfl), jm_u6 (List.mem_of_getElem? (i := 198) rfl)⟩
set_option maxRecDepth 100000 in
theorem lw_p44 : lw_okq (⟨"RideLawsModel", "isWord", "(J)Z"⟩, 43) := ⟨⟨by decide +kernel, by decide +kernel⟩, jm_u6 (List.mem_of_getElem? (i := 5) rfl), jm_u6 (List.mem_of_getElem? (i := 201) rfl), jm_u6 (List.mem_of_getElem? (i := 202) rfl)⟩
set_option maxRecDepth 100000 in
theorem lw_p45 : lw_okq (⟨"RideLawsModel", "readRing", "()Z"⟩, 43) := ⟨⟨by decide +kernel, by decide +kernel⟩, jm_u6 (List.mem_of_getElem? (i := 5) rfl), jm_u6 (List.mem_of_getElem? (i := 205) rfl), jm_u6 (List.mem_of_getElem? (i := 206) rfl)⟩
set_option maxRecDepth 100000 in
theorem lw_p46 : lw_okq (⟨"RideLawsModel", "bad", "(I)Z"⟩, 43) := ⟨⟨by decide +kernel, by decide +kernel⟩, jm_u6 (List.mem_of_getElem? (i := 5) rfl), jm_u6 (List.mem_of_getElem? (i := 209) rfl), jm_u6 (List.mem_of_getElem? (i := 210) rfl)⟩
set_option maxRecDepth 100000 in
theorem lw_p47 : lw_okq (⟨"RideLawsModel", "fresh", "(I)Z"⟩, 43) := ⟨⟨by decide +kernel, by decide +kernel⟩, jm_u6 (List.mem_of_getElem? (i := 5) rfl), jm_u6 (List.mem_of_getElem? (i := 213) rfl), jm_u6 (List.mem_of_getElem? (i := 214) rfl)⟩
noncomputable def lw_privs_3 : List (MethodName × Nat) := [(⟨"RideLaws$Sentence", "add", "(III)Z"⟩, 6), (⟨"RideLaws$Sentence", "readNamed", "(LRideLaws$Reader;LRideLaws$Plan;II)Z"⟩, 6), (⟨"RideLaws$Sentence", "readCompared", "(LRideLaws$Reader;I)Z"⟩, 6), (⟨"RideLaws$Sentence", "isTrue", "(ILRideLaws$State;I)Z"⟩, 6), (⟨"java/lang/Throwable", "fillInStackTrace", "(I)Ljava/lang/Throwable;"⟩, 6), (⟨"RideLaws$Outlook", "knownTo", "(I)I"⟩, 3), (⟨"RideLawsModel", "four", "(I)V"⟩, 43), (⟨"RideLawsModel", "clears", "()V"⟩, 43), (⟨"RideLawsModel", "taken", "(I)V"⟩, 43), (⟨"RideLawsModel", "next", "()V"⟩, 43), (⟨"RideLawsModel", "peek", "()I"⟩, 43), (⟨"RideLawsModel", "readLine", "()Z"⟩, 43), (⟨"RideLawsModel", "isWord", "(J)Z"⟩, 43), (⟨"RideLawsModel", "readRing", "()Z"⟩, 43), (⟨"RideLawsModel", "bad", "(I)Z"⟩, 43), (⟨"RideLawsModel", "fresh", "(I)Z"⟩, 43)]
theorem lw_r3 : ∀ q ∈ lw_privs_3, lw_okq q := List.forall_mem_cons.mpr ⟨lw_p32, List.forall_mem_cons.mpr ⟨lw_p33, List.forall_mem_cons.mpr ⟨lw_p34, List.forall_mem_cons.mpr ⟨lw_p35, List.forall_mem_cons.mpr ⟨lw_p36, List.forall_mem_cons.mpr ⟨lw_p37, List.forall_mem_cons.mpr ⟨lw_p38, List.forall_mem_cons.mpr ⟨lw_p39, List.forall_mem_cons.mpr ⟨lw_p40, List.forall_mem_cons.mpr ⟨lw_p41, List.forall_mem_cons.mpr ⟨lw_p42, List.forall_mem_cons.mpr ⟨lw_p43, List.forall_mem_cons.mpr ⟨lw_p44, List.forall_mem_cons.mpr ⟨lw_p45, List.forall_mem_cons.mpr ⟨lw_p46, List.forall_mem_cons.mpr ⟨lw_p47, fun _ h => absurd h List.not_mem_nil⟩⟩⟩⟩⟩⟩⟩⟩⟩⟩⟩⟩⟩⟩⟩⟩
set_option maxRecDepth 100000 in
theorem lw_p48 : lw_okq (⟨"RideLawsModel", "isName", "()Z"⟩, 43) := ⟨⟨by decide +kernel, by decide +kernel⟩, jm_u6 (List.mem_of_getElem? (i := 5) rfl), jm_u6 (List.mem_of_getElem? (i := 217) rfl), jm_u6 (List.mem_of_getElem? (i := 218) rfl)⟩
set_option maxRecDepth 100000 in
theorem lw_p49 : lw_okq (⟨"RideLawsModel", "seek", "(II)I"⟩, 43) := ⟨⟨by decide +kernel, by decide +kernel⟩, jm_u6 (List.mem_of_getElem? (i := 5) rfl), jm_u6 (List.mem_of_getElem? (i := 221) rfl), jm_u6 (List.mem_of_getElem? (i := 222) rfl)⟩
set_option maxRecDepth 100000 in
theorem lw_p50 : lw_okq (⟨"RideLawsModel", "puts", "(III)Z"⟩, 43) := ⟨⟨by decide +kernel, by decide +kernel⟩, jm_u6 (List.mem_of_getElem? (i := 5) rfl), jm_u6 (List.mem_of_getElem? (i := 225) rfl), jm_u6 (List.mem_of_getElem? (i := 226) rfl)⟩
set_option maxRecDepth 100000 in
theorem lw_p51 : lw_okq (⟨"RideLawsModel", "takes", "(II)Z"⟩, 43) := ⟨⟨by decide +kernel, by decide +kernel⟩, jm_u6 (List.mem_of_getElem? (i := 5) rfl), jm_u6 (List.mem_of_getElem? (i := 229) rfl), jm_u6 (List.mem_of_getElem? (i := 230) rfl)⟩
set_option maxRecDepth 100000 in
theorem lw_p52 : lw_okq (⟨"RideLawsModel", "readSeat", "()Z"⟩, 43) := ⟨⟨by decide +kernel, by decide +kernel⟩, jm_u6 (List.mem_of_getElem? (i := 5) rfl), jm_u6 (List.mem_of_getElem? (i := 236) rfl), jm_u6 (List.mem_of_getElem? (i := 237) rfl)⟩
set_option maxRecDepth 100000 in
theorem lw_p53 : lw_okq (⟨"RideLawsModel", "takesName", "(II)Z"⟩, 43) := ⟨⟨by decide +kernel, by decide +kernel⟩, jm_u6 (List.mem_of_getElem? (i := 5) rfl), jm_u7 (List.mem_of_getElem? (i := 0) rfl), jm_u7 (List.mem_of_getElem? (i := 1) rfl)⟩
set_option maxRecDepth 100000 in
theorem lw_p54 : lw_okq (⟨"RideLawsModel", "looksAt", "(II)Z"⟩, 43) := ⟨⟨by decide +kernel, by decide +kernel⟩, jm_u6 (List.mem_of_getElem? (i := 5) rfl), jm_u7 (List.mem_of_getElem? (i := 4) rfl), jm_u7 (List.mem_of_getElem? (i := 5) rfl)⟩
set_option maxRecDepth 100000 in
theorem lw_p55 : lw_okq (⟨"RideLawsModel", "readWord", "()Z"⟩, 43) := ⟨⟨by decide +kernel, by decide +kernel⟩, jm_u6 (List.mem_of_getElem? (i := 5) rfl), jm_u7 (List.mem_of_getElem? (i := 8) rfl), jm_u7 (List.mem_of_getElem? (i := 9) rfl)⟩
set_option maxRecDepth 100000 in
theorem lw_p56 : lw_okq (⟨"RideLawsModel", "readRider", "()Z"⟩, 43) := ⟨⟨by decide +kernel, by decide +kernel⟩, jm_u6 (List.mem_of_getElem? (i := 5) rfl), jm_u7 (List.mem_of_getElem? (i := 12) rfl), jm_u7 (List.mem_of_getElem? (i := 13) rfl)⟩
set_option maxRecDepth 100000 in
theorem lw_p57 : lw_okq (⟨"RideLawsModel", "readSays", "()Z"⟩, 43) := ⟨⟨by decide +kernel, by decide +kernel⟩, jm_u6 (List.mem_of_getElem? (i := 5) rfl), jm_u7 (List.mem_of_getElem? (i := 16) rfl), jm_u7 (List.mem_of_getElem? (i := 17) rfl)⟩
set_option maxRecDepth 100000 in
theorem lw_p58 : lw_okq (⟨"RideLawsModel", "readLaw", "()Z"⟩, 43) := ⟨⟨by decide +kernel, by decide +kernel⟩, jm_u6 (List.mem_of_getElem? (i := 5) rfl), jm_u7 (List.mem_of_getElem? (i := 20) rfl), jm_u7 (List.mem_of_getElem? (i := 21) rfl)⟩
set_option maxRecDepth 100000 in
theorem lw_p59 : lw_okq (⟨"RideLawsModel", "readClash", "()Z"⟩, 43) := ⟨⟨by decide +kernel, by decide +kernel⟩, jm_u6 (List.mem_of_getElem? (i := 5) rfl), jm_u7 (List.mem_of_getElem? (i := 24) rfl), jm_u7 (List.mem_of_getElem? (i := 25) rfl)⟩
set_option maxRecDepth 100000 in
theorem lw_p60 : lw_okq (⟨"RideLawsModel", "sign", "(I)Z"⟩, 43) := ⟨⟨by decide +kernel, by decide +kernel⟩, jm_u6 (List.mem_of_getElem? (i := 5) rfl), jm_u7 (List.mem_of_getElem? (i := 31) rfl), jm_u7 (List.mem_of_getElem? (i := 32) rfl)⟩
set_option maxRecDepth 100000 in
theorem lw_p61 : lw_okq (⟨"RideLawsModel", "isSign", "(I)Z"⟩, 43) := ⟨⟨by decide +kernel, by decide +kernel⟩, jm_u6 (List.mem_of_getElem? (i := 5) rfl), jm_u7 (List.mem_of_getElem? (i := 35) rfl), jm_u7 (List.mem_of_getElem? (i := 36) rfl)⟩
set_option maxRecDepth 100000 in
theorem lw_p62 : lw_okq (⟨"RideLawsModel", "isRider", "(I)Z"⟩, 43) := ⟨⟨by decide +kernel, by decide +kernel⟩, jm_u6 (List.mem_of_getElem? (i := 5) rfl), jm_u7 (List.mem_of_getElem? (i := 47) rfl), jm_u7 (List.mem_of_getElem? (i := 48) rfl)⟩
set_option maxRecDepth 100000 in
theorem lw_p63 : lw_okq (⟨"RideLawsModel", "throwsIf", "(Z)Z"⟩, 43) := ⟨⟨by decide +kernel, by decide +kernel⟩, jm_u6 (List.mem_of_getElem? (i := 5) rfl), jm_u7 (List.mem_of_getElem? (i := 51) rfl), jm_u7 (List.mem_of_getElem? (i := 52) rfl)⟩
noncomputable def lw_privs_4 : List (MethodName × Nat) := [(⟨"RideLawsModel", "isName", "()Z"⟩, 43), (⟨"RideLawsModel", "seek", "(II)I"⟩, 43), (⟨"RideLawsModel", "puts", "(III)Z"⟩, 43), (⟨"RideLawsModel", "takes", "(II)Z"⟩, 43), (⟨"RideLawsModel", "readSeat", "()Z"⟩, 43), (⟨"RideLawsModel", "takesName", "(II)Z"⟩, 43), (⟨"RideLawsModel", "looksAt", "(II)Z"⟩, 43), (⟨"RideLawsModel", "readWord", "()Z"⟩, 43), (⟨"RideLawsModel", "readRider", "()Z"⟩, 43), (⟨"RideLawsModel", "readSays", "()Z"⟩, 43), (⟨"RideLawsModel", "readLaw", "()Z"⟩, 43), (⟨"RideLawsModel", "readClash", "()Z"⟩, 43), (⟨"RideLawsModel", "sign", "(I)Z"⟩, 43), (⟨"RideLawsModel", "isSign", "(I)Z"⟩, 43), (⟨"RideLawsModel", "isRider", "(I)Z"⟩, 43), (⟨"RideLawsModel", "throwsIf", "(Z)Z"⟩, 43)]
theorem lw_r4 : ∀ q ∈ lw_privs_4, lw_okq q := List.forall_mem_cons.mpr ⟨lw_p48, List.forall_mem_cons.mpr ⟨lw_p49, List.forall_mem_cons.mpr ⟨lw_p50, List.forall_mem_cons.mpr ⟨lw_p51, List.forall_mem_cons.mpr ⟨lw_p52, List.forall_mem_cons.mpr ⟨lw_p53, List.forall_mem_cons.mpr ⟨lw_p54, List.forall_mem_cons.mpr ⟨lw_p55, List.forall_mem_cons.mpr ⟨lw_p56, List.forall_mem_cons.mpr ⟨lw_p57, List.forall_mem_cons.mpr ⟨lw_p58, List.forall_mem_cons.mpr ⟨lw_p59, List.forall_mem_cons.mpr ⟨lw_p60, List.forall_mem_cons.mpr ⟨lw_p61, List.forall_mem_cons.mpr ⟨lw_p62, List.forall_mem_cons.mpr ⟨lw_p63, fun _ h => absurd h List.not_mem_nil⟩⟩⟩⟩⟩⟩⟩⟩⟩⟩⟩⟩⟩⟩⟩⟩
set_option maxRecDepth 100000 in
theorem lw_p64 : lw_okq (⟨"RideLawsModel", "nextWord", "(I)I"⟩, 43) := ⟨⟨by decide +kernel, by decide +kernel⟩, jm_u6 (List.mem_of_getElem? (i := 5) rfl), jm_u7 (List.mem_of_getElem? (i := 55) rfl), jm_u7 (List.mem_of_getElem? (i := 56) rfl)⟩
set_option maxRecDepth 100000 in
theorem lw_p65 : lw_okq (⟨"RideLawsModel", "knownTo", "(I)I"⟩, 43) := ⟨⟨by decide +kernel, by decide +kernel⟩, jm_u6 (List.mem_of_getElem? (i := 5) rfl), jm_u7 (List.mem_of_getElem? (i := 59) rfl), jm_u7 (List.mem_of_getElem? (i := 60) rfl)⟩
set_option maxRecDepth 100000 in
theorem lw_p66 : lw_okq (⟨"RideLawsModel", "isSeat", "(I)Z"⟩, 43) := ⟨⟨by decide +kernel, by decide +kernel⟩, jm_u6 (List.mem_of_getElem? (i := 5) rfl), jm_u7 (List.mem_of_getElem? (i := 71) rfl), jm_u7 (List.mem_of_getElem? (i := 72) rfl)⟩
set_option maxRecDepth 100000 in
theorem lw_p67 : lw_okq (⟨"RideLawsModel", "riderOn", "(I)I"⟩, 43) := ⟨⟨by decide +kernel, by decide +kernel⟩, jm_u6 (List.mem_of_getElem? (i := 5) rfl), jm_u7 (List.mem_of_getElem? (i := 75) rfl), jm_u7 (List.mem_of_getElem? (i := 76) rfl)⟩
set_option maxRecDepth 100000 in
theorem lw_p68 : lw_okq (⟨"RideLawsModel", "isLaw", "(I)Z"⟩, 43) := ⟨⟨by decide +kernel, by decide +kernel⟩, jm_u6 (List.mem_of_getElem? (i := 5) rfl), jm_u7 (List.mem_of_getElem? (i := 83) rfl), jm_u7 (List.mem_of_getElem? (i := 84) rfl)⟩
set_option maxRecDepth 100000 in
theorem lw_p69 : lw_okq (⟨"RideLawsModel", "saidInAll", "()I"⟩, 43) := ⟨⟨by decide +kernel, by decide +kernel⟩, jm_u6 (List.mem_of_getElem? (i := 5) rfl), jm_u7 (List.mem_of_getElem? (i := 91) rfl), jm_u7 (List.mem_of_getElem? (i := 92) rfl)⟩
set_option maxRecDepth 100000 in
theorem lw_p70 : lw_okq (⟨"RideLawsModel", "whyMount", "(II)I"⟩, 43) := ⟨⟨by decide +kernel, by decide +kernel⟩, jm_u6 (List.mem_of_getElem? (i := 5) rfl), jm_u7 (List.mem_of_getElem? (i := 99) rfl), jm_u7 (List.mem_of_getElem? (i := 100) rfl)⟩
set_option maxRecDepth 100000 in
theorem lw_p71 : lw_okq (⟨"RideLawsModel", "keep", "()V"⟩, 43) := ⟨⟨by decide +kernel, by decide +kernel⟩, jm_u6 (List.mem_of_getElem? (i := 5) rfl), jm_u7 (List.mem_of_getElem? (i := 103) rfl), jm_u7 (List.mem_of_getElem? (i := 104) rfl)⟩
set_option maxRecDepth 100000 in
theorem lw_p72 : lw_okq (⟨"RideLawsModel", "whyLearn", "(I)I"⟩, 43) := ⟨⟨by decide +kernel, by decide +kernel⟩, jm_u6 (List.mem_of_getElem? (i := 5) rfl), jm_u7 (List.mem_of_getElem? (i := 115) rfl), jm_u7 (List.mem_of_getElem? (i := 116) rfl)⟩
set_option maxRecDepth 100000 in
theorem lw_p73 : lw_okq (⟨"RideLawsModel", "learns", "(II)V"⟩, 43) := ⟨⟨by decide +kernel, by decide +kernel⟩, jm_u6 (List.mem_of_getElem? (i := 5) rfl), jm_u7 (List.mem_of_getElem? (i := 119) rfl), jm_u7 (List.mem_of_getElem? (i := 120) rfl)⟩
set_option maxRecDepth 100000 in
theorem lw_p74 : lw_okq (⟨"RideLawsModel", "whyWhistle", "()I"⟩, 43) := ⟨⟨by decide +kernel, by decide +kernel⟩, jm_u6 (List.mem_of_getElem? (i := 5) rfl), jm_u7 (List.mem_of_getElem? (i := 127) rfl), jm_u7 (List.mem_of_getElem? (i := 128) rfl)⟩
set_option maxRecDepth 100000 in
theorem lw_p75 : lw_okq (⟨"RideLawsModel", "blows", "()V"⟩, 43) := ⟨⟨by decide +kernel, by decide +kernel⟩, jm_u6 (List.mem_of_getElem? (i := 5) rfl), jm_u7 (List.mem_of_getElem? (i := 131) rfl), jm_u7 (List.mem_of_getElem? (i := 132) rfl)⟩
set_option maxRecDepth 100000 in
theorem lw_p76 : lw_okq (⟨"RideLawsModel", "goesOn", "(I)I"⟩, 43) := ⟨⟨by decide +kernel, by decide +kernel⟩, jm_u6 (List.mem_of_getElem? (i := 5) rfl), jm_u7 (List.mem_of_getElem? (i := 139) rfl), jm_u7 (List.mem_of_getElem? (i := 140) rfl)⟩
set_option maxRecDepth 100000 in
theorem lw_p77 : lw_okq (⟨"RideLawsModel", "tick", "()V"⟩, 43) := ⟨⟨by decide +kernel, by decide +kernel⟩, jm_u6 (List.mem_of_getElem? (i := 5) rfl), jm_u7 (List.mem_of_getElem? (i := 143) rfl), jm_u7 (List.mem_of_getElem? (i := 144) rfl)⟩
set_option maxRecDepth 100000 in
theorem lw_p78 : lw_okq (⟨"RideLawsModel", "saysOne", "(I)V"⟩, 43) := ⟨⟨by decide +kernel, by decide +kernel⟩, jm_u6 (List.mem_of_getElem? (i := 5) rfl), jm_u7 (List.mem_of_getElem? (i := 147) rfl), jm_u7 (List.mem_of_getElem? (i := 148) rfl)⟩
set_option maxRecDepth 100000 in
theorem lw_p79 : lw_okq (⟨"RideLawsModel", "stepIn", "(II)I"⟩, 43) := ⟨⟨by decide +kernel, by decide +kernel⟩, jm_u6 (List.mem_of_getElem? (i := 5) rfl), jm_u7 (List.mem_of_getElem? (i := 159) rfl), jm_u7 (List.mem_of_getElem? (i := 160) rfl)⟩
noncomputable def lw_privs_5 : List (MethodName × Nat) := [(⟨"RideLawsModel", "nextWord", "(I)I"⟩, 43), (⟨"RideLawsModel", "knownTo", "(I)I"⟩, 43), (⟨"RideLawsModel", "isSeat", "(I)Z"⟩, 43), (⟨"RideLawsModel", "riderOn", "(I)I"⟩, 43), (⟨"RideLawsModel", "isLaw", "(I)Z"⟩, 43), (⟨"RideLawsModel", "saidInAll", "()I"⟩, 43), (⟨"RideLawsModel", "whyMount", "(II)I"⟩, 43), (⟨"RideLawsModel", "keep", "()V"⟩, 43), (⟨"RideLawsModel", "whyLearn", "(I)I"⟩, 43), (⟨"RideLawsModel", "learns", "(II)V"⟩, 43), (⟨"RideLawsModel", "whyWhistle", "()I"⟩, 43), (⟨"RideLawsModel", "blows", "()V"⟩, 43), (⟨"RideLawsModel", "goesOn", "(I)I"⟩, 43), (⟨"RideLawsModel", "tick", "()V"⟩, 43), (⟨"RideLawsModel", "saysOne", "(I)V"⟩, 43), (⟨"RideLawsModel", "stepIn", "(II)I"⟩, 43)]
theorem lw_r5 : ∀ q ∈ lw_privs_5, lw_okq q := List.forall_mem_cons.mpr ⟨lw_p64, List.forall_mem_cons.mpr ⟨lw_p65, List.forall_mem_cons.mpr ⟨lw_p66, List.forall_mem_cons.mpr ⟨lw_p67, List.forall_mem_cons.mpr ⟨lw_p68, List.forall_mem_cons.mpr ⟨lw_p69, List.forall_mem_cons.mpr ⟨lw_p70, List.forall_mem_cons.mpr ⟨lw_p71, List.forall_mem_cons.mpr ⟨lw_p72, List.forall_mem_cons.mpr ⟨lw_p73, List.forall_mem_cons.mpr ⟨lw_p74, List.forall_mem_cons.mpr ⟨lw_p75, List.forall_mem_cons.mpr ⟨lw_p76, List.forall_mem_cons.mpr ⟨lw_p77, List.forall_mem_cons.mpr ⟨lw_p78, List.forall_mem_cons.mpr ⟨lw_p79, fun _ h => absurd h List.not_mem_nil⟩⟩⟩⟩⟩⟩⟩⟩⟩⟩⟩⟩⟩⟩⟩⟩
set_option maxRecDepth 100000 in
theorem lw_p80 : lw_okq (⟨"RideLawsModel", "tries", "()V"⟩, 43) := ⟨⟨by decide +kernel, by decide +kernel⟩, jm_u6 (List.mem_of_getElem? (i := 5) rfl), jm_u7 (List.mem_of_getElem? (i := 171) rfl), jm_u7 (List.mem_of_getElem? (i := 172) rfl)⟩
set_option maxRecDepth 100000 in
theorem lw_p81 : lw_okq (⟨"RideLawsModel", "holdsIn", "(III)I"⟩, 43) := ⟨⟨by decide +kernel, by decide +kernel⟩, jm_u6 (List.mem_of_getElem? (i := 5) rfl), jm_u7 (List.mem_of_getElem? (i := 175) rfl), jm_u7 (List.mem_of_getElem? (i := 176) rfl)⟩
set_option maxRecDepth 100000 in
theorem lw_p82 : lw_okq (⟨"RideLawsModel", "back", "()V"⟩, 43) := ⟨⟨by decide +kernel, by decide +kernel⟩, jm_u6 (List.mem_of_getElem? (i := 5) rfl), jm_u7 (List.mem_of_getElem? (i := 179) rfl), jm_u7 (List.mem_of_getElem? (i := 180) rfl)⟩
set_option maxRecDepth 100000 in
theorem lw_p83 : lw_okq (⟨"RideLawsModel", "needOf", "(I)I"⟩, 43) := ⟨⟨by decide +kernel, by decide +kernel⟩, jm_u6 (List.mem_of_getElem? (i := 5) rfl), jm_u7 (List.mem_of_getElem? (i := 199) rfl), jm_u7 (List.mem_of_getElem? (i := 200) rfl)⟩
set_option maxRecDepth 100000 in
theorem lw_p84 : lw_okq (⟨"RideLawsModel", "knownToAll", "(I)I"⟩, 43) := ⟨⟨by decide +kernel, by decide +kernel⟩, jm_u6 (List.mem_of_getElem? (i := 5) rfl), jm_u7 (List.mem_of_getElem? (i := 207) rfl), jm_u7 (List.mem_of_getElem? (i := 208) rfl)⟩
set_option maxRecDepth 100000 in
theorem lw_p85 : lw_okq (⟨"RideLawsModel", "spells", "(J)V"⟩, 43) := ⟨⟨by decide +kernel, by decide +kernel⟩, jm_u6 (List.mem_of_getElem? (i := 5) rfl), jm_u7 (List.mem_of_getElem? (i := 237) rfl), jm_u7 (List.mem_of_getElem? (i := 238) rfl)⟩
set_option maxRecDepth 100000 in
theorem lw_p86 : lw_okq (⟨"RideLawsModel", "lays", "(I)V"⟩, 43) := ⟨⟨by decide +kernel, by decide +kernel⟩, jm_u6 (List.mem_of_getElem? (i := 5) rfl), jm_u8 (List.mem_of_getElem? (i := 2) rfl), jm_u8 (List.mem_of_getElem? (i := 3) rfl)⟩
set_option maxRecDepth 100000 in
theorem lw_p87 : lw_okq (⟨"RideLawsModel", "says", "(J)V"⟩, 43) := ⟨⟨by decide +kernel, by decide +kernel⟩, jm_u6 (List.mem_of_getElem? (i := 5) rfl), jm_u8 (List.mem_of_getElem? (i := 6) rfl), jm_u8 (List.mem_of_getElem? (i := 7) rfl)⟩
set_option maxRecDepth 100000 in
theorem lw_p88 : lw_okq (⟨"RideLawsModel", "draws", "(II)I"⟩, 43) := ⟨⟨by decide +kernel, by decide +kernel⟩, jm_u6 (List.mem_of_getElem? (i := 5) rfl), jm_u8 (List.mem_of_getElem? (i := 20) rfl), jm_u8 (List.mem_of_getElem? (i := 21) rfl)⟩
set_option maxRecDepth 100000 in
theorem lw_p89 : lw_okq (⟨"RideLawsModel", "drawTick", "()V"⟩, 43) := ⟨⟨by decide +kernel, by decide +kernel⟩, jm_u6 (List.mem_of_getElem? (i := 5) rfl), jm_u8 (List.mem_of_getElem? (i := 24) rfl), jm_u8 (List.mem_of_getElem? (i := 25) rfl)⟩
set_option maxRecDepth 100000 in
theorem lw_p90 : lw_okq (⟨"RideLawsModel", "draw", "(I)I"⟩, 43) := ⟨⟨by decide +kernel, by decide +kernel⟩, jm_u6 (List.mem_of_getElem? (i := 5) rfl), jm_u8 (List.mem_of_getElem? (i := 28) rfl), jm_u8 (List.mem_of_getElem? (i := 29) rfl)⟩
set_option maxRecDepth 100000 in
theorem lw_p91 : lw_okq (⟨"RideLawsModel", "bookLine", "()Z"⟩, 43) := ⟨⟨by decide +kernel, by decide +kernel⟩, jm_u6 (List.mem_of_getElem? (i := 5) rfl), jm_u8 (List.mem_of_getElem? (i := 41) rfl), jm_u8 (List.mem_of_getElem? (i := 42) rfl)⟩
set_option maxRecDepth 100000 in
theorem lw_p92 : lw_okq (⟨"RideLawsModel", "does", "(III)I"⟩, 43) := ⟨⟨by decide +kernel, by decide +kernel⟩, jm_u6 (List.mem_of_getElem? (i := 5) rfl), jm_u8 (List.mem_of_getElem? (i := 45) rfl), jm_u8 (List.mem_of_getElem? (i := 46) rfl)⟩
set_option maxRecDepth 100000 in
theorem lw_p93 : lw_okq (⟨"RideLawsModel", "nots", "()V"⟩, 43) := ⟨⟨by decide +kernel, by decide +kernel⟩, jm_u6 (List.mem_of_getElem? (i := 5) rfl), jm_u8 (List.mem_of_getElem? (i := 57) rfl), jm_u8 (List.mem_of_getElem? (i := 58) rfl)⟩
set_option maxRecDepth 100000 in
theorem lw_p94 : lw_okq (⟨"RideLawsModel", "code", "(III)V"⟩, 43) := ⟨⟨by decide +kernel, by decide +kernel⟩, jm_u6 (List.mem_of_getElem? (i := 5) rfl), jm_u8 (List.mem_of_getElem? (i := 61) rfl), jm_u8 (List.mem_of_getElem? (i := 62) rfl)⟩
set_option maxRecDepth 100000 in
theorem lw_p95 : lw_okq (⟨"RideLawsModel", "joins", "(I)V"⟩, 43) := ⟨⟨by decide +kernel, by decide +kernel⟩, jm_u6 (List.mem_of_getElem? (i := 5) rfl), jm_u8 (List.mem_of_getElem? (i := 65) rfl), jm_u8 (List.mem_of_getElem? (i := 66) rfl)⟩
noncomputable def lw_privs_6 : List (MethodName × Nat) := [(⟨"RideLawsModel", "tries", "()V"⟩, 43), (⟨"RideLawsModel", "holdsIn", "(III)I"⟩, 43), (⟨"RideLawsModel", "back", "()V"⟩, 43), (⟨"RideLawsModel", "needOf", "(I)I"⟩, 43), (⟨"RideLawsModel", "knownToAll", "(I)I"⟩, 43), (⟨"RideLawsModel", "spells", "(J)V"⟩, 43), (⟨"RideLawsModel", "lays", "(I)V"⟩, 43), (⟨"RideLawsModel", "says", "(J)V"⟩, 43), (⟨"RideLawsModel", "draws", "(II)I"⟩, 43), (⟨"RideLawsModel", "drawTick", "()V"⟩, 43), (⟨"RideLawsModel", "draw", "(I)I"⟩, 43), (⟨"RideLawsModel", "bookLine", "()Z"⟩, 43), (⟨"RideLawsModel", "does", "(III)I"⟩, 43), (⟨"RideLawsModel", "nots", "()V"⟩, 43), (⟨"RideLawsModel", "code", "(III)V"⟩, 43), (⟨"RideLawsModel", "joins", "(I)V"⟩, 43)]
theorem lw_r6 : ∀ q ∈ lw_privs_6, lw_okq q := List.forall_mem_cons.mpr ⟨lw_p80, List.forall_mem_cons.mpr ⟨lw_p81, List.forall_mem_cons.mpr ⟨lw_p82, List.forall_mem_cons.mpr ⟨lw_p83, List.forall_mem_cons.mpr ⟨lw_p84, List.forall_mem_cons.mpr ⟨lw_p85, List.forall_mem_cons.mpr ⟨lw_p86, List.forall_mem_cons.mpr ⟨lw_p87, List.forall_mem_cons.mpr ⟨lw_p88, List.forall_mem_cons.mpr ⟨lw_p89, List.forall_mem_cons.mpr ⟨lw_p90, List.forall_mem_cons.mpr ⟨lw_p91, List.forall_mem_cons.mpr ⟨lw_p92, List.forall_mem_cons.mpr ⟨lw_p93, List.forall_mem_cons.mpr ⟨lw_p94, List.forall_mem_cons.mpr ⟨lw_p95, fun _ h => absurd h List.not_mem_nil⟩⟩⟩⟩⟩⟩⟩⟩⟩⟩⟩⟩⟩⟩⟩⟩
set_option maxRecDepth 100000 in
theorem lw_p96 : lw_okq (⟨"RideLawsModel", "behind", "()Z"⟩, 43) := ⟨⟨by decide +kernel, by decide +kernel⟩, jm_u6 (List.mem_of_getElem? (i := 5) rfl), jm_u8 (List.mem_of_getElem? (i := 69) rfl), jm_u8 (List.mem_of_getElem? (i := 70) rfl)⟩
set_option maxRecDepth 100000 in
theorem lw_p97 : lw_okq (⟨"RideLawsModel", "operand", "()Z"⟩, 43) := ⟨⟨by decide +kernel, by decide +kernel⟩, jm_u6 (List.mem_of_getElem? (i := 5) rfl), jm_u8 (List.mem_of_getElem? (i := 73) rfl), jm_u8 (List.mem_of_getElem? (i := 74) rfl)⟩
set_option maxRecDepth 100000 in
theorem lw_p98 : lw_okq (⟨"RideLawsModel", "leafOf", "()I"⟩, 43) := ⟨⟨by decide +kernel, by decide +kernel⟩, jm_u6 (List.mem_of_getElem? (i := 5) rfl), jm_u8 (List.mem_of_getElem? (i := 77) rfl), jm_u8 (List.mem_of_getElem? (i := 78) rfl)⟩
set_option maxRecDepth 100000 in
theorem lw_p99 : lw_okq (⟨"RideLawsModel", "isSaid", "(I)Z"⟩, 43) := ⟨⟨by decide +kernel, by decide +kernel⟩, jm_u6 (List.mem_of_getElem? (i := 5) rfl), jm_u8 (List.mem_of_getElem? (i := 85) rfl), jm_u8 (List.mem_of_getElem? (i := 86) rfl)⟩
set_option maxRecDepth 100000 in
theorem lw_p100 : lw_okq (⟨"RideLawsModel", "isLeaf", "(IIII)Z"⟩, 43) := ⟨⟨by decide +kernel, by decide +kernel⟩, jm_u6 (List.mem_of_getElem? (i := 5) rfl), jm_u8 (List.mem_of_getElem? (i := 89) rfl), jm_u8 (List.mem_of_getElem? (i := 90) rfl)⟩
noncomputable def lw_privs_7 : List (MethodName × Nat) := [(⟨"RideLawsModel", "behind", "()Z"⟩, 43), (⟨"RideLawsModel", "operand", "()Z"⟩, 43), (⟨"RideLawsModel", "leafOf", "()I"⟩, 43), (⟨"RideLawsModel", "isSaid", "(I)Z"⟩, 43), (⟨"RideLawsModel", "isLeaf", "(IIII)Z"⟩, 43)]
theorem lw_r7 : ∀ q ∈ lw_privs_7, lw_okq q := List.forall_mem_cons.mpr ⟨lw_p96, List.forall_mem_cons.mpr ⟨lw_p97, List.forall_mem_cons.mpr ⟨lw_p98, List.forall_mem_cons.mpr ⟨lw_p99, List.forall_mem_cons.mpr ⟨lw_p100, fun _ h => absurd h List.not_mem_nil⟩⟩⟩⟩⟩
noncomputable def lw_privs : List (MethodName × Nat) := lw_privs_1 ++ (lw_privs_2 ++ (lw_privs_3 ++ (lw_privs_4 ++ (lw_privs_5 ++ (lw_privs_6 ++ (lw_privs_7))))))
noncomputable def lw_tbl : List Cond := k2_sels lw_privs ++ tables_1
theorem jm_t1 {w : Cond} (h : w ∈ tables_1_1) : w ∈ lw_tbl := List.mem_append_right _ (jm_u1 h)
theorem jm_t2 {w : Cond} (h : w ∈ tables_1_2) : w ∈ lw_tbl := List.mem_append_right _ (jm_u2 h)
theorem jm_t3 {w : Cond} (h : w ∈ tables_1_3) : w ∈ lw_tbl := List.mem_append_right _ (jm_u3 h)
theorem jm_t4 {w : Cond} (h : w ∈ tables_1_4) : w ∈ lw_tbl := List.mem_append_right _ (jm_u4 h)
theorem jm_t5 {w : Cond} (h : w ∈ tables_1_5) : w ∈ lw_tbl := List.mem_append_right _ (jm_u5 h)
theorem jm_t6 {w : Cond} (h : w ∈ tables_1_6) : w ∈ lw_tbl := List.mem_append_right _ (jm_u6 h)
theorem jm_t7 {w : Cond} (h : w ∈ tables_1_7) : w ∈ lw_tbl := List.mem_append_right _ (jm_u7 h)
theorem jm_t8 {w : Cond} (h : w ∈ tables_1_8) : w ∈ lw_tbl := List.mem_append_right _ (jm_u8 h)
theorem lw_privs_ok : ∀ q ∈ lw_privs, lw_okq q := by
  show ∀ q ∈ lw_privs_1 ++ (lw_privs_2 ++ (lw_privs_3 ++ (lw_privs_4 ++ (lw_privs_5 ++ (lw_privs_6 ++ (lw_privs_7)))))), lw_okq q
  exact List.forall_mem_append.mpr ⟨lw_r1, List.forall_mem_append.mpr ⟨lw_r2, List.forall_mem_append.mpr ⟨lw_r3, List.forall_mem_append.mpr ⟨lw_r4, List.forall_mem_append.mpr ⟨lw_r5, List.forall_mem_append.mpr ⟨lw_r6, lw_r7⟩⟩⟩⟩⟩⟩
-- ===== end of PART A; then your names; then what follows =====
/-! THE CLAIM OUT OF ONE WALK OF THE LAW'S BODY. Your part is whole_start (and what it stands on); all else here is the same for every law, but numbers. -/
noncomputable def R_law : String := "RideLawsLaw"
noncomputable def lw_P (b : Addr) (xs : List Int32) (args : Array Value) (s : State) : Prop := args = #[.ref b] ∧ s.IntsAt b xs ∧ xs.length ≤ 3072 ∧ (Jvm.Cond.and given_1 narrow_1).before args s = true
noncomputable def lw_Q (_ : Array Value) (s : State) (o : Outcome) (t : State) : Prop := o = .returned (some (.int 1)) ∧ Framed s o t [] 601024 7293034
noncomputable def lw_Z (below : List Frame) (a : Array Value) (s : State) : State → Prop := fun t => ∃ o, t.status = .running ∧ Ended t below o ∧ lw_Q a s o t
/-- the law's own end, with 1 on the stack, nothing written that was there before, its room as the claim has it -/
theorem lw_ret {p : Program} {l : Launch} {e : Env} {s : State} {m : MethodId} {below : List Frame} {meth : Method} {c : Code} {b : Nat} (hx : p.tables.exec = Jvm.exec) (hb : c.code = code) (hr : meth.sig.returnType = ret) (hlocks : meth.locks = false) {pc : Nat} {H : Heap} {ls : Array Slot} (hdg : decode code pc = .ok (.ireturn, 1)) : W p l e room_1 s m #[Value.ref b] below meth c H [] 601024 7293034 (lw_Z below #[Value.ref b] s) (F0 m pc ls [.int 1]) := by
  intro T hT X
  obtain ⟨fs, hret, hrun, hended, hW, hframe⟩ := X.leave (v := some (.int 1)) (hlocks := hlocks) (fun h => by rw [hr] at h; cases h)
  have hmeth' : T.vm.method? m = some meth := X.method'
  refine ⟨T.setFrames fs, ?_, .returned (some (.int 1)), hrun, hended, rfl, ⟨_, rfl⟩, hW, hframe⟩
  jvm_step X.here [X.here.top, hx, hb, hdg, hmeth', hr, ret, narrow_b1]
  (try refine ⟨rfl, ?_⟩); (try refine ⟨rfl, ?_⟩)
  first | (intro acts; rw [hret _ acts rfl rfl rfl]) | rw [hret _ _ rfl rfl rfl]
  exact Steps.refl _
/-- what holds at the law's entry: the machine, the code, the tables' words (any of lw_tbl by 'hts w (by decide +kernel)'), the script of L ints xs at the cell b, what the Statement gives of the start (any of its parts by flat_of_before) -/
noncomputable def lw_At (p : Program) (s : State) (m : MethodId) (meth : Method) (c : Code) (b L : Nat) (xs : Nat → Int32) : Prop :=
  p.tables.exec = Jvm.exec ∧ c.code = code ∧ meth.sig.returnType = ret ∧ c.maxLocals = 7 ∧ s.vm.findClass R_law = some m.cls ∧ (∀ w ∈ lw_tbl, w.before #[Value.ref b] s = true) ∧ va_X b L xs s s.heap ∧ b < s.heap.size ∧ meth.locks = false ∧ (Jvm.Cond.and given_1 narrow_1).before #[Value.ref b] s = true
