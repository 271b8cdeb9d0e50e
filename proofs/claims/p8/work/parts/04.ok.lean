/-! the tables are those of the bytecode: checked by the kernel, method by method -/
def jm_W : List Cond := lw_tbl.filter goodWord
def jm_w (j : Nat) (w : Cond) : Bool := decide (lw_tbl[j]? = some w) && goodWord w
theorem jm_w_in {j : Nat} {w : Cond} (h : jm_w j w = true) : w ∈ jm_W := by
  simp only [jm_w, Bool.and_eq_true, decide_eq_true_eq] at h
  exact List.mem_filter.mpr ⟨List.mem_of_getElem? h.1, h.2⟩
def jm_dc (bc : ByteArray) (pc : Nat) (i : Instr) (n : Nat) : Bool := decide (decode bc pc = .ok (i, n))
theorem jm_dc_eq {bc : ByteArray} {pc : Nat} {i : Instr} {n : Nat} (h : jm_dc bc pc i n = true) : decode bc pc = .ok (i, n) := of_decide_eq_true h
def jm_if1 (b : Nat) (off : Int) : Instr := match b with
  | 0 => .ifCond .eq off
  | 1 => .ifCond .ne off
  | 2 => .ifCond .lt off
  | 3 => .ifCond .ge off
  | 4 => .ifCond .gt off
  | _ => .ifCond .le off
def jm_ifc (b : Nat) (off : Int) : Instr := match b with
  | 0 => .if_icmp .eq off
  | 1 => .if_icmp .ne off
  | 2 => .if_icmp .lt off
  | 3 => .if_icmp .ge off
  | 4 => .if_icmp .gt off
  | _ => .if_icmp .le off
def jm_bi (b : Nat) : Instr := match b with
  | 0 => .iadd
  | 1 => .isub
  | 2 => .imul
  | 3 => .iand
  | 4 => .ior
  | 5 => .ixor
  | 6 => .ishl
  | 7 => .ishr
  | 8 => .iushr
  | 9 => .idiv
  | _ => .irem
def jm_lbi (b : Nat) : Instr := match b with
  | 0 => .ladd
  | 1 => .lmul
  | 2 => .land
  | 3 => .lor
  | 4 => .lshl
  | _ => .lshr
def jm_cvi (b : Nat) : Instr := match b with
  | 0 => .i2l
  | 1 => .l2i
  | 2 => .i2b
  | _ => .i2c
def jm_at (b : Nat) : ArrayType := match b with
  | 0 => .int
  | 1 => .byte
  | 2 => .long
  | _ => .boolean
def jm_ty (b : Nat) : FieldType := match b with
  | 0 => .int
  | 1 => .byte
  | 2 => .long
  | _ => .boolean
def jm_f4 (f : Fin 4 → Instr) (bc : ByteArray) (pc b : Nat) : Bool := if h : b < 4 then jm_dc bc pc (f ⟨b, h⟩) 1 else false
def jm_sto : List (String × String × String) := [("java/lang/String", "COMPACT_STRINGS", "Z"), ("jdk/internal/util/Preconditions", "SIOOBE_FORMATTER", "Ljava/util/function/BiFunction;"), ("RideLaws$Plan", "MOST_OF", "[I")]
def jm_str (k : Nat) : String × Nat × String := g_strs.getD k ("", 0, "")
def jm_ok1 (lk : List Nat) (y : MethodName) (bc : ByteArray) (ml pc : Nat) (i : jm_I) : Bool :=
  let k0 := lk.getD 0 0
  let k1 := lk.getD 1 0
  match i.1 with
  | 0 => match i.2.2.1 with
    | 0 => jm_dc bc pc (.iconst i.2.1) 1 && decide (i.2.2.2 = 1)
    | 1 => jm_dc bc pc (.bipush i.2.1) 2 && decide (i.2.2.2 = 2) && decide ((Int8.ofInt i.2.1).toInt32 = Int32.ofInt i.2.1)
    | 2 => jm_dc bc pc (.sipush i.2.1) 3 && decide (i.2.2.2 = 3) && decide ((Int16.ofInt i.2.1).toInt32 = Int32.ofInt i.2.1)
    | 3 => jm_dc bc pc (.ldc k0) 2 && decide (i.2.2.2 = 2) && jm_w k1 (.constant y.cls k0 (Int32.ofInt i.2.1))
    | _ => jm_dc bc pc (.ldc_w k0) 3 && decide (i.2.2.2 = 3) && jm_w k1 (.constant y.cls k0 (Int32.ofInt i.2.1))
  | 1 => match i.2.2.1 with
    | 0 => (if i.2.1 = 0 then jm_dc bc pc (.lconst 0) 1 else jm_dc bc pc (.lconst 1) 1 && decide (i.2.1 = 1)) && decide (i.2.2.2 = 1)
    | _ => jm_dc bc pc (.ldc2_w k0) 3 && decide (i.2.2.2 = 3) && jm_w k1 (.constantLong y.cls k0 (Int64.ofInt i.2.1))
  | 2 => match i.2.2.2 with
    | 0 => if i.2.1 = 0 then jm_f4 .iload_n bc pc i.2.2.1 else if i.2.1 = 1 then jm_f4 .lload_n bc pc i.2.2.1 else jm_f4 .aload_n bc pc i.2.2.1
    | _ => decide (i.2.2.2 = 1) && jm_dc bc pc (if i.2.1 = 0 then .iload i.2.2.1 else if i.2.1 = 1 then .lload i.2.2.1 else .aload i.2.2.1) 2
  | 3 => decide (i.2.2.1 < ml) && match i.2.2.2 with
    | 0 => if i.2.1 = 0 then jm_f4 .istore_n bc pc i.2.2.1 else if i.2.1 = 1 then decide (i.2.2.1 + 1 < ml) && jm_f4 .lstore_n bc pc i.2.2.1 else jm_f4 .astore_n bc pc i.2.2.1
    | _ => decide (i.2.2.2 = 1) && (if i.2.1 = 0 then jm_dc bc pc (.istore i.2.2.1) 2 else if i.2.1 = 1 then decide (i.2.2.1 + 1 < ml) && jm_dc bc pc (.lstore i.2.2.1) 2 else jm_dc bc pc (.astore i.2.2.1) 2)
  | 4 => decide (i.2.2.1 < ml) && jm_dc bc pc (.iinc i.2.2.1 i.2.1) 3
  | 5 => jm_dc bc pc (jm_bi i.2.2.1) 1
  | 6 => jm_dc bc pc (jm_lbi i.2.2.1) 1
  | 7 => jm_dc bc pc (jm_cvi i.2.2.1) 1
  | 8 => jm_dc bc pc (if i.2.2.1 = 0 then .dup else if i.2.2.1 = 1 then .pop else .dup2) 1
  | 9 => jm_dc bc pc (jm_if1 i.2.2.1 ((i.2.2.2 : Int) - pc)) 3
  | 10 => jm_dc bc pc (jm_ifc i.2.2.1 ((i.2.2.2 : Int) - pc)) 3
  | 11 => jm_dc bc pc (.goto ((i.2.2.2 : Int) - pc)) 3
  | 12 => jm_dc bc pc .lcmp 1
  | _ => false
def jm_tag (ty : FieldType) : Nat := match ty with
  | .int => 0
  | .long => 1
  | .boolean => 3
  | .object _ => 2
  | .array _ => 2
  | _ => 9
def jm_cok (ci : Nat) : Bool := match g_cl[ci]? with
  | some r => (u_ws r.1 r.2.1 r.2.2).all (fun w => decide (w ∈ lw_tbl) && goodWord w) && (List.range r.2.2).all (fun k => decide (parseFieldDescriptor (r.2.1 k).2.2.1 = some ((g_yl.getD ci g_Y0) k)) && decide ((g_ft.getD ci [])[k]? = some (jm_tag ((g_yl.getD ci g_Y0) k)))) && (List.range r.2.2).all (fun a => (List.range r.2.2).all (fun b => decide (a = b) || decide (¬ (r.2.1 a).2.1 = (r.2.1 b).2.1))) && decide ((g_ft.getD ci []).length = r.2.2)
  | none => true
def jm_fl (ci k : Nat) : String × String × String × Bool := ((g_cl[ci]?).getD ("", g_T0, 0)).2.1 k
def jm_ok2 (lk : List Nat) (y : MethodName) (bc : ByteArray) (pc : Nat) (i : jm_I) : Bool :=
  let k0 := lk.getD 0 0
  let k1 := lk.getD 1 0
  match i.1 with
  | 13 => jm_dc bc pc (.getfield k0) 3 && decide (0 ≤ i.2.1) && decide ((g_ft.getD i.2.2.1 [])[i.2.2.2]? = some i.2.1.toNat) && decide (i.2.2.1 < g_cl.length) && jm_w k1 (.fieldLink y.cls k0 (jm_fl i.2.2.1 i.2.2.2).1 (jm_fl i.2.2.1 i.2.2.2).2.1 (jm_fl i.2.2.1 i.2.2.2).2.2.1)
  | 14 => jm_dc bc pc (.putfield k0) 3 && decide (0 ≤ i.2.1) && decide ((g_ft.getD i.2.2.1 [])[i.2.2.2]? = some i.2.1.toNat) && decide (i.2.2.1 < g_cl.length) && jm_w k1 (.fieldLink y.cls k0 (jm_fl i.2.2.1 i.2.2.2).1 (jm_fl i.2.2.1 i.2.2.2).2.1 (jm_fl i.2.2.1 i.2.2.2).2.2.1) && (!(jm_fl i.2.2.1 i.2.2.2).2.2.2 || (decide ((jm_fl i.2.2.1 i.2.2.2).1 = y.cls) && decide (y.name = "<init>")))
  | 15 => jm_dc bc pc (match i.2.2.1 with | 0 => .iaload | 1 => .baload | 2 => .laload | _ => .aaload) 1
  | 16 => jm_dc bc pc (match i.2.2.1 with | 0 => .iastore | 1 => .bastore | 2 => .lastore | _ => .aastore) 1 && decide ((g_cl[i.2.2.2]?).map (fun r => r.1) = some "RideLaws$State")
  | 17 => if i.2.2.1 = 4 then jm_dc bc pc (.anewarray k0) 3 && jm_w k1 (.classLink y.cls k0 "RideLaws$State") else jm_dc bc pc (.newarray (jm_at i.2.2.1)) 2 && decide (i.2.2.1 < 4)
  | 18 => jm_dc bc pc (.new k0) 3 && decide (i.2.2.1 < g_cl.length) && jm_w k1 (.classLink y.cls k0 ((g_cl[i.2.2.1]?).getD ("", g_T0, 0)).1) && jm_w (lk.getD 2 0) (.instantiable ((g_cl[i.2.2.1]?).getD ("", g_T0, 0)).1 ((g_cl[i.2.2.1]?).getD ("", g_T0, 0)).2.2) && jm_w (lk.getD 3 0) (.initialized ((g_cl[i.2.2.1]?).getD ("", g_T0, 0)).1)
  | 19 => (if i.2.2.2 = 0 then jm_dc bc pc (.ldc k0) 2 else jm_dc bc pc (.ldc_w k0) 3 && decide (i.2.2.2 = 1)) && decide (i.2.2.1 < g_strs.length) && decide ((jm_str i.2.2.1).1 = y.cls) && decide ((jm_str i.2.2.1).2.1 = k0)
  | 20 => match decode bc pc with
    | .ok (.tableswitch d lo hi offs, _) => decide (lo = i.2.1) && decide (hi = lo + ((g_sw.getD i.2.2.2 []).length : Int) - 1) && decide ((pc : Int) + d = i.2.2.1) && decide (offs.toList.map (fun o => (pc : Int) + o) = (g_sw.getD i.2.2.2 []).map (fun t : Nat => (t : Int)))
    | _ => false
  | 21 => jm_dc bc pc (.getstatic k0) 3 && decide (i.2.2.1 < 3) && jm_w k1 (.fieldLink y.cls k0 (jm_sto.getD i.2.2.1 ("", "", "")).1 (jm_sto.getD i.2.2.1 ("", "", "")).2.1 (jm_sto.getD i.2.2.1 ("", "", "")).2.2)
  | 22 => match i.2.2.1 with
    | 0 => jm_dc bc pc .iaload 1
    | 1 => jm_dc bc pc .iaload 1
    | 2 => jm_dc bc pc .arraylength 1
    | 3 => jm_dc bc pc (.getfield k0) 3 && jm_w k1 (.fieldLink y.cls k0 "java/lang/String" "value" "[B")
    | 4 => jm_dc bc pc (.getfield k0) 3 && jm_w k1 (.fieldLink y.cls k0 "java/lang/String" "coder" "B")
    | 5 => jm_dc bc pc .arraylength 1
    | _ => jm_dc bc pc .baload 1
  | 23 => jm_dc bc pc (.invokespecial k0) 3 && jm_w k1 (.methodLink y.cls k0 Lib.objectInit)
  | 24 => jm_dc bc pc (.invokestatic k0) 3 && jm_w k1 (.methodLink y.cls k0 arraycopyName)
  | 25 => jm_dc bc pc .arraylength 1
  | 26 => jm_dc bc pc (.invokestatic k0) 3 && jm_w k1 (.methodLink y.cls k0 (if i.2.2.1 = 0 then Lib.Math.max.name else Lib.Math.min.name))
  | _ => false
/-- a call: the callee's words -/
def jm_mw (y : MethodName) (bc : ByteArray) (ml : Nat) (rt : Option FieldType) : Bool := plainName y.cls && decide (y.cls ≠ "java/lang/invoke/MethodHandle" ∧ y.cls ≠ "java/lang/invoke/VarHandle") && decide (ml ≤ 30)
def jm_np (y : MethodName) (n : Nat) : Bool := decide ((parseMethodDescriptor y.desc).map (fun d => d.parameters.length) = some n)
def jm_ok3 (lk : List Nat) (y : MethodName) (bc : ByteArray) (pc : Nat) (i : jm_I) : Bool :=
  let k0 := lk.getD 0 0
  let y' := (g_m i.2.2.1).1
  decide (i.2.2.1 < g_N) &&
  (if i.2.1 = -1 then jm_dc bc pc (.invokestatic k0) 3 && jm_w (lk.getD 1 0) (.methodLink y.cls k0 y') && jm_w (lk.getD 2 0) (.static y') && jm_w (lk.getD 3 0) (.initialized y'.cls) && jm_np y' i.2.2.2
   else if i.2.1 = -2 then jm_dc bc pc (.invokespecial k0) 3 && jm_w (lk.getD 1 0) (.methodLink y.cls k0 y') && jm_w (lk.getD 2 0) (.instanceMethod y') && jm_w (lk.getD 3 0) (.initialized y'.cls) && decide (y'.name = "<init>") && decide ((g_m i.2.2.1).2.2.2 = none) && decide (1 ≤ i.2.2.2) && jm_np y' (i.2.2.2 - 1)
   else if i.2.1 = -3 then jm_dc bc pc (.invokespecial k0) 3 && decide (lw_tbl[lk.getD 1 0]? = some (.methodLinkNest y.cls k0 y' "RideLaws")) && jm_w (lk.getD 2 0) (.instanceMethod y') && jm_w (lk.getD 3 0) (.initialized y'.cls) && decide (y'.name = "<init>") && decide ((g_m i.2.2.1).2.2.2 = none) && decide (1 ≤ i.2.2.2) && jm_np y' (i.2.2.2 - 1)
   else jm_dc bc pc (.invokevirtual k0) 3 && jm_w (lk.getD 1 0) (.methodLink y.cls k0 y') && jm_w (lk.getD 2 0) (.instanceMethod y') && jm_w (lk.getD 3 0) (.selects y'.cls y' y') && jm_w (lk.getD 4 0) (.initialized y'.cls) && decide (1 ≤ i.2.2.2) && jm_np y' (i.2.2.2 - 1) && (if i.1 = 31 then decide ((g_cl[lk.getD 5 0]?).map (fun r => r.1) = some y'.cls) else if i.2.1 = 5 then decide (y'.cls = "java/lang/String") else decide (10 ≤ i.2.1) && decide ((g_cl[(i.2.1 - 10).toNat]?).map (fun r => r.1) = some y'.cls)))
def jm_ok4 (bc : ByteArray) (rt : Option FieldType) (pc : Nat) (i : jm_I) : Bool := match i.2.2.1 with
  | 0 => jm_dc bc pc .ireturn 1 && decide (rt = (match i.2.2.2 with | 0 => some .int | 1 => some .boolean | 2 => some .char | _ => some .byte))
  | 1 => jm_dc bc pc .lreturn 1 && decide (rt = some .long)
  | _ => jm_dc bc pc .return_ 1 && decide (rt = none)
def jm_ok (m pc : Nat) (i : jm_I) : Bool :=
  if i.1 ≤ 12 then jm_ok1 (g_lnk m pc) (g_m m).1 (g_m m).2.1 (g_m m).2.2.1 pc i
  else if i.1 ≤ 26 then jm_ok2 (g_lnk m pc) (g_m m).1 (g_m m).2.1 pc i
  else if i.1 = 30 ∨ i.1 = 31 ∨ i.1 = 32 then jm_ok3 (g_lnk m pc) (g_m m).1 (g_m m).2.1 pc i
  else if i.1 = 40 then jm_ok4 (g_m m).2.1 (g_m m).2.2.2 pc i
  else true
def jm_rows (m : Nat) : List (List (Option jm_I)) := (g_codes.getD (m / 16) []).getD (m % 16) []
def jm_chk (m : Nat) : Bool := (List.range (16 * (jm_rows m).length)).all (fun pc => match g_code m pc with | some i => jm_ok m pc i | none => true)
def jm_chkr (a n : Nat) : Bool := (List.range n).all (fun k => jm_chk (a + k))
def jm_chks (m a n : Nat) : Bool := (List.range n).all (fun k => match g_code m (a + k) with | some i => jm_ok m (a + k) i | none => true)
theorem jm_chks_at {m a n pc : Nat} (h : jm_chks m a n = true) (h1 : a ≤ pc) (h2 : pc < a + n) : (match g_code m pc with | some i => jm_ok m pc i | none => true) = true := by
  have := List.all_eq_true.mp h (pc - a) (List.mem_range.mpr (by omega))
  rwa [show a + (pc - a) = pc by omega] at this
