/-! THE INT MACHINE: a small machine over whole numbers that runs the tables g_code. Values: (0, int) (1, long) (2, cell of the heap, below 0: null) (3, the formatter) (4, a thing that was there before: 1 the static row, 2 the script, 10 + 2k a text, 11 + 2k its bytes) -/
abbrev jm_V : Type := Nat × Int
abbrev jm_C : Type := Nat × List Int
abbrev jm_H : Type := List jm_C × Nat
abbrev jm_L : Type := List (Nat × jm_V)
abbrev jm_I : Type := Nat × Int × Nat × Nat
abbrev jm_T : Type := Nat × jm_L × List jm_V × jm_H
noncomputable def jm_n (z : Int) : Int := (Int32.ofInt z).toInt
noncomputable def jm_nl (z : Int) : Int := (Int64.ofInt z).toInt
noncomputable def jm_get (L : jm_L) (i : Nat) : Option jm_V := (L.find? (fun q => q.1 == i)).map (fun q => q.2)
noncomputable def jm_st1 (L : jm_L) (i : Nat) (v : jm_V) : jm_L := (i, v) :: L.filter (fun q => !(q.1 == i) && !(q.1 + 1 == i && q.2.1 == 1))
noncomputable def jm_st2 (L : jm_L) (i : Nat) (v : jm_V) : jm_L := (i, v) :: L.filter (fun q => !(q.1 == i) && (!(q.1 == i + 1) && !(q.1 + 1 == i && q.2.1 == 1)))
noncomputable def jm_drop (L : jm_L) (i : Nat) : jm_L := L.filter (fun q => !(q.1 == i) && !(q.1 + 1 == i && q.2.1 == 1))
noncomputable def jm_bin (b : Nat) (x y : Int) : Option Int := match b with
  | 0 => some (x + y)
  | 1 => some (x - y)
  | 2 => some (x * y)
  | 3 => some (Int32.ofInt x &&& Int32.ofInt y).toInt
  | 4 => some (Int32.ofInt x ||| Int32.ofInt y).toInt
  | 5 => some (Int32.ofInt x ^^^ Int32.ofInt y).toInt
  | 6 => some (Int32.ofInt x <<< (Int32.ofInt y &&& 31)).toInt
  | 7 => some (Int32.ofInt x >>> (Int32.ofInt y &&& 31)).toInt
  | 8 => some (((Int32.ofInt x).toUInt32 >>> ((Int32.ofInt y).toUInt32 &&& Int32.toUInt32 31)).toInt32).toInt
  | 9 => if jm_n y = 0 then none else some ((jm_n x).tdiv (jm_n y))
  | 10 => if jm_n y = 0 then none else some ((jm_n x).tmod (jm_n y))
  | _ => none
noncomputable def jm_lbin (b : Nat) (x y : Int) : Option Int := match b with
  | 0 => some (x + y)
  | 1 => some (x * y)
  | 2 => some (Int64.ofInt x &&& Int64.ofInt y).toInt
  | 3 => some (Int64.ofInt x ||| Int64.ofInt y).toInt
  | _ => none
noncomputable def jm_lsh (b : Nat) (x y : Int) : Option Int := match b with
  | 4 => some (Int64.ofInt x <<< ((Int32.ofInt y).toInt64 &&& 63)).toInt
  | 5 => some (Int64.ofInt x >>> ((Int32.ofInt y).toInt64 &&& 63)).toInt
  | _ => none
noncomputable def jm_cnd (b : Nat) (x y : Int) : Bool := match b with
  | 0 => decide (jm_n x = jm_n y)
  | 1 => decide (¬ jm_n x = jm_n y)
  | 2 => decide (jm_n x < jm_n y)
  | 3 => decide (jm_n y ≤ jm_n x)
  | 4 => decide (jm_n y < jm_n x)
  | _ => decide (jm_n x ≤ jm_n y)
noncomputable def jm_cmp (x y : Int) : Int := if jm_nl y < jm_nl x then 1 else if jm_nl x = jm_nl y then 0 else -1
noncomputable def jm_b (z : Int) : Int := (vp_nar .byte (Int32.ofInt z)).toInt
noncomputable def jm_z (z : Int) : Int := (vp_nar .boolean (Int32.ofInt z)).toInt
noncomputable def jm_cat (S : List jm_V) : Nat := (S.map (fun v => if v.1 = 1 then 2 else 1)).sum
noncomputable def jm_args : Nat → List jm_V → jm_L
  | _, [] => []
  | i, v :: vs => (i, v) :: jm_args (if v.1 = 1 then i + 2 else i + 1) vs
noncomputable def jm_cpy (f g : List Int) (sp dp n : Nat) : List Int := g.take dp ++ ((f.drop sp).take n ++ g.drop (dp + n))
noncomputable def jm_ix (i : Int) (n : Nat) : Option Nat := if 0 ≤ jm_n i ∧ (jm_n i).toNat < n then some (jm_n i).toNat else none
noncomputable def jm_cell (h : jm_H) (a : Int) : Option jm_C := if a < 0 then none else h.1[a.toNat]?
noncomputable def jm_def (ci : Nat) : List Int := (g_ft.getD ci []).map (fun t => if t = 2 then -1 else 0)
noncomputable def jm_load (i : jm_I) (pc : Nat) (L : jm_L) (S : List jm_V) (h : jm_H) : Option jm_T :=
  match jm_get L i.2.2.1 with
  | some v => if (i.2.1 = 0 ∧ v.1 = 0) ∨ (i.2.1 = 1 ∧ v.1 = 1) ∨ (i.2.1 = 2 ∧ ((v.1 = 2 ∧ 0 ≤ v.2) ∨ v.1 = 3 ∨ v.1 = 4)) then some (pc + 1 + i.2.2.2, L, v :: S, h) else none
  | none => none
noncomputable def jm_store (i : jm_I) (pc : Nat) (L : jm_L) (S : List jm_V) (h : jm_H) : Option jm_T :=
  match S with
  | v :: r =>
    if i.2.1 = 0 ∧ v.1 = 0 then some (pc + 1 + i.2.2.2, jm_st1 L i.2.2.1 v, r, h)
    else if i.2.1 = 1 ∧ v.1 = 1 then some (pc + 1 + i.2.2.2, jm_st2 L i.2.2.1 v, r, h)
    else if i.2.1 = 2 ∧ v.1 = 2 ∧ 0 ≤ v.2 then some (pc + 1 + i.2.2.2, jm_st1 L i.2.2.1 v, r, h)
    else none
  | [] => none
noncomputable def jm_inc (i : jm_I) (pc : Nat) (L : jm_L) (S : List jm_V) (h : jm_H) : Option jm_T :=
  match jm_get L i.2.2.1 with
  | some v => if v.1 = 0 then some (pc + 3, jm_st1 L i.2.2.1 (0, v.2 + i.2.1), S, h) else none
  | none => none
noncomputable def jm_arith (i : jm_I) (pc : Nat) (L : jm_L) (S : List jm_V) (h : jm_H) : Option jm_T :=
  match S with
  | y :: x :: r => if y.1 = 0 ∧ x.1 = 0 then (jm_bin i.2.2.1 x.2 y.2).map (fun z => (pc + 1, L, (0, z) :: r, h)) else none
  | _ => none
noncomputable def jm_larith (i : jm_I) (pc : Nat) (L : jm_L) (S : List jm_V) (h : jm_H) : Option jm_T :=
  match S with
  | y :: x :: r => if x.1 = 1 ∧ y.1 = 1 then (jm_lbin i.2.2.1 x.2 y.2).map (fun z => (pc + 1, L, (1, z) :: r, h)) else if x.1 = 1 ∧ y.1 = 0 then (jm_lsh i.2.2.1 x.2 y.2).map (fun z => (pc + 1, L, (1, z) :: r, h)) else none
  | _ => none
noncomputable def jm_conv (i : jm_I) (pc : Nat) (L : jm_L) (S : List jm_V) (h : jm_H) : Option jm_T :=
  match S with
  | x :: r =>
    if i.2.2.1 = 0 ∧ x.1 = 0 then some (pc + 1, L, (1, (Int32.ofInt x.2).toInt64.toInt) :: r, h)
    else if i.2.2.1 = 1 ∧ x.1 = 1 then some (pc + 1, L, (0, (Int64.ofInt x.2).toInt32.toInt) :: r, h)
    else if i.2.2.1 = 2 ∧ x.1 = 0 then some (pc + 1, L, (0, (Int32.ofInt x.2).toInt8.toInt32.toInt) :: r, h)
    else if i.2.2.1 = 3 ∧ x.1 = 0 then some (pc + 1, L, (0, ((Int32.ofInt x.2).toUInt32 % 65536).toInt32.toInt) :: r, h)
    else none
  | [] => none
noncomputable def jm_stack (i : jm_I) (pc : Nat) (L : jm_L) (S : List jm_V) (h : jm_H) : Option jm_T :=
  match S with
  | x :: r =>
    if x.1 = 1 then none
    else if i.2.2.1 = 0 then some (pc + 1, L, x :: x :: r, h)
    else if i.2.2.1 = 1 then some (pc + 1, L, r, h)
    else match r with
      | y :: r' => if y.1 = 1 then none else some (pc + 1, L, x :: y :: x :: y :: r', h)
      | [] => none
  | [] => none
noncomputable def jm_if (i : jm_I) (pc : Nat) (L : jm_L) (S : List jm_V) (h : jm_H) : Option jm_T :=
  match S with
  | x :: r => if x.1 = 0 then some (if jm_cnd i.2.2.1 x.2 0 then i.2.2.2 else pc + 3, L, r, h) else none
  | [] => none
noncomputable def jm_if2 (i : jm_I) (pc : Nat) (L : jm_L) (S : List jm_V) (h : jm_H) : Option jm_T :=
  match S with
  | y :: x :: r => if y.1 = 0 ∧ x.1 = 0 then some (if jm_cnd i.2.2.1 x.2 y.2 then i.2.2.2 else pc + 3, L, r, h) else none
  | _ => none
noncomputable def jm_lcmp (pc : Nat) (L : jm_L) (S : List jm_V) (h : jm_H) : Option jm_T :=
  match S with
  | y :: x :: r => if y.1 = 1 ∧ x.1 = 1 then some (pc + 1, L, (0, jm_cmp x.2 y.2) :: r, h) else none
  | _ => none
noncomputable def jm_getf (i : jm_I) (pc : Nat) (L : jm_L) (S : List jm_V) (h : jm_H) : Option jm_T :=
  match S with
  | o :: r => if o.1 = 2 then match jm_cell h o.2 with
      | some c => if c.1 = 10 + i.2.2.1 then match c.2[i.2.2.2]? with
          | some z => some (pc + 3, L, (if i.2.1 = 3 then 0 else i.2.1.toNat, z) :: r, h)
          | none => none
        else none
      | none => none
    else none
  | [] => none
noncomputable def jm_fok (t : Int) (v : jm_V) : Bool := decide ((t = 0 ∧ v.1 = 0) ∨ (t = 1 ∧ v.1 = 1) ∨ (t = 2 ∧ v.1 = 2 ∧ 0 ≤ v.2) ∨ (t = 3 ∧ v.1 = 0 ∧ (jm_n v.2 = 0 ∨ jm_n v.2 = 1)))
noncomputable def jm_putf (i : jm_I) (pc : Nat) (L : jm_L) (S : List jm_V) (h : jm_H) : Option jm_T :=
  match S with
  | v :: o :: r => if o.1 = 2 ∧ jm_fok i.2.1 v = true then match jm_cell h o.2 with
      | some c => if c.1 = 10 + i.2.2.1 ∧ i.2.2.2 < c.2.length then some (pc + 3, L, r, (h.1.set o.2.toNat (c.1, c.2.set i.2.2.2 v.2), h.2)) else none
      | none => none
    else none
  | _ => none
noncomputable def jm_ald (i : jm_I) (pc : Nat) (L : jm_L) (S : List jm_V) (h : jm_H) : Option jm_T :=
  match S with
  | j :: a :: r => if j.1 = 0 ∧ a.1 = 2 then match jm_cell h a.2 with
      | some c => if (i.2.2.1 = 0 ∧ c.1 = 0) ∨ (i.2.2.1 = 1 ∧ (c.1 = 1 ∨ c.1 = 3)) ∨ (i.2.2.1 = 2 ∧ c.1 = 2) ∨ (i.2.2.1 = 3 ∧ c.1 = 4) then
          (jm_ix j.2 c.2.length).map (fun n => (pc + 1, L, (if i.2.2.1 = 2 then 1 else if i.2.2.1 = 3 then 2 else 0, c.2.getD n 0) :: r, h))
        else none
      | none => none
    else none
  | _ => none
noncomputable def jm_ast (i : jm_I) (pc : Nat) (L : jm_L) (S : List jm_V) (h : jm_H) : Option jm_T :=
  match S with
  | v :: j :: a :: r => if j.1 = 0 ∧ a.1 = 2 then match jm_cell h a.2 with
      | some c => match jm_ix j.2 c.2.length with
          | some n =>
            if i.2.2.1 = 0 ∧ c.1 = 0 ∧ v.1 = 0 then some (pc + 1, L, r, (h.1.set a.2.toNat (c.1, c.2.set n v.2), h.2))
            else if i.2.2.1 = 1 ∧ c.1 = 1 ∧ v.1 = 0 then some (pc + 1, L, r, (h.1.set a.2.toNat (c.1, c.2.set n (jm_b v.2)), h.2))
            else if i.2.2.1 = 1 ∧ c.1 = 3 ∧ v.1 = 0 then some (pc + 1, L, r, (h.1.set a.2.toNat (c.1, c.2.set n (jm_z v.2)), h.2))
            else if i.2.2.1 = 2 ∧ c.1 = 2 ∧ v.1 = 1 then some (pc + 1, L, r, (h.1.set a.2.toNat (c.1, c.2.set n v.2), h.2))
            else if i.2.2.1 = 3 ∧ c.1 = 4 ∧ v.1 = 2 then match jm_cell h v.2 with
              | some c' => if c'.1 = 10 + i.2.2.2 then some (pc + 1, L, r, (h.1.set a.2.toNat (c.1, c.2.set n v.2), h.2)) else none
              | none => none
            else none
          | none => none
      | none => none
    else none
  | _ => none
noncomputable def jm_newa (i : jm_I) (pc : Nat) (L : jm_L) (S : List jm_V) (h : jm_H) : Option jm_T :=
  match S with
  | v :: r => if v.1 = 0 ∧ 0 ≤ jm_n v.2 ∧ jm_n v.2 ≤ 100000 ∧ h.2 = 0 then some (pc + (if i.2.2.1 = 4 then 3 else 2), L, (2, (h.1.length : Int)) :: r, (h.1 ++ [(i.2.2.1, List.replicate (jm_n v.2).toNat (if i.2.2.1 = 4 then -1 else 0))], h.2)) else none
  | [] => none
noncomputable def jm_new (i : jm_I) (pc : Nat) (L : jm_L) (S : List jm_V) (h : jm_H) : Option jm_T :=
  if h.2 = 0 then some (pc + 3, L, (2, (h.1.length : Int)) :: S, (h.1 ++ [(10 + i.2.2.1, jm_def i.2.2.1)], h.2)) else none
noncomputable def jm_tsw (i : jm_I) (L : jm_L) (S : List jm_V) (h : jm_H) : Option jm_T :=
  match S with
  | x :: r => if x.1 = 0 then
      (if jm_n x.2 < i.2.1 ∨ i.2.1 + ((g_sw.getD i.2.2.2 []).length : Int) ≤ jm_n x.2 then some (i.2.2.1, L, r, h)
       else match (g_sw.getD i.2.2.2 [])[(jm_n x.2 - i.2.1).toNat]? with
         | some t => some (t, L, r, h)
         | none => none)
    else none
  | [] => none
noncomputable def jm_gets (i : jm_I) (pc : Nat) (L : jm_L) (S : List jm_V) (h : jm_H) : Option jm_T :=
  match i.2.2.1 with
  | 0 => some (pc + 3, L, (0, 1) :: S, h)
  | 1 => some (pc + 3, L, (3, 0) :: S, h)
  | 2 => some (pc + 3, L, (4, 1) :: S, h)
  | _ => none
noncomputable def jm_spec (sc : List Int) (i : jm_I) (pc : Nat) (L : jm_L) (S : List jm_V) (h : jm_H) : Option jm_T :=
  match i.2.2.1, S with
  | 0, j :: a :: r => if j.1 = 0 ∧ a = (4, 1) then (jm_ix j.2 g_most.length).map (fun n => (pc + 1, L, (0, g_most.getD n 0) :: r, h)) else none
  | 1, j :: a :: r => if j.1 = 0 ∧ a = (4, 2) then (jm_ix j.2 sc.length).map (fun n => (pc + 1, L, (0, sc.getD n 0) :: r, h)) else none
  | 2, a :: r => if a = (4, 2) then some (pc + 1, L, (0, (sc.length : Int)) :: r, h) else none
  | 3, a :: r => if a.1 = 4 ∧ 10 ≤ a.2 ∧ a.2 < 10 + 2 * g_str.length ∧ a.2 % 2 = 0 then some (pc + 3, L, (4, a.2 + 1) :: r, h) else none
  | 4, a :: r => if a.1 = 4 ∧ 10 ≤ a.2 ∧ a.2 < 10 + 2 * g_str.length ∧ a.2 % 2 = 0 then some (pc + 3, L, (0, 0) :: r, h) else none
  | 5, a :: r => if a.1 = 4 ∧ 10 ≤ a.2 ∧ a.2 < 10 + 2 * g_str.length ∧ a.2 % 2 = 1 then some (pc + 1, L, (0, ((g_str.getD (a.2.toNat / 2 - 5) []).length : Int)) :: r, h) else none
  | 6, j :: a :: r => if j.1 = 0 ∧ a.1 = 4 ∧ 10 ≤ a.2 ∧ a.2 < 10 + 2 * g_str.length ∧ a.2 % 2 = 1 then (jm_ix j.2 (g_str.getD (a.2.toNat / 2 - 5) []).length).map (fun n => (pc + 1, L, (0, (g_str.getD (a.2.toNat / 2 - 5) []).getD n 0) :: r, h)) else none
  | _, _ => none
noncomputable def jm_obj (pc : Nat) (L : jm_L) (S : List jm_V) (h : jm_H) : Option jm_T :=
  match S with
  | o :: r => if o.1 = 2 ∧ 0 ≤ o.2 ∧ jm_cat r ≤ 8 then some (pc + 3, L, r, h) else none
  | [] => none
noncomputable def jm_acpy (pc : Nat) (L : jm_L) (S : List jm_V) (h : jm_H) : Option jm_T :=
  match S with
  | n :: dp :: d :: sp :: a :: r =>
    if n.1 = 0 ∧ dp.1 = 0 ∧ d.1 = 2 ∧ sp.1 = 0 ∧ a.1 = 2 ∧ 0 ≤ jm_n n.2 ∧ 0 ≤ jm_n dp.2 ∧ 0 ≤ jm_n sp.2 ∧ jm_cat r ≤ 8 then
      match jm_cell h a.2, jm_cell h d.2 with
      | some c, some c' => if c.1 = c'.1 ∧ (c.1 = 0 ∨ c.1 = 2) ∧ (jm_n sp.2).toNat + (jm_n n.2).toNat ≤ c.2.length ∧ (jm_n dp.2).toNat + (jm_n n.2).toNat ≤ c'.2.length then
          some (pc + 3, L, r, (h.1.set d.2.toNat (c'.1, jm_cpy c.2 c'.2 (jm_n sp.2).toNat (jm_n dp.2).toNat (jm_n n.2).toNat), h.2))
        else none
      | _, _ => none
    else none
  | _ => none
noncomputable def jm_alen (pc : Nat) (L : jm_L) (S : List jm_V) (h : jm_H) : Option jm_T :=
  match S with
  | a :: r => if a.1 = 2 then match jm_cell h a.2 with
      | some c => if c.1 < 5 then some (pc + 1, L, (0, (c.2.length : Int)) :: r, h) else none
      | none => none
    else none
  | [] => none
noncomputable def jm_mm (i : jm_I) (pc : Nat) (L : jm_L) (S : List jm_V) (h : jm_H) : Option jm_T :=
  match S with
  | y :: x :: r => if y.1 = 0 ∧ x.1 = 0 ∧ jm_cat r ≤ 8 then some (pc + 3, L, (0, if i.2.2.1 = 0 then (if jm_n x.2 < jm_n y.2 then y.2 else x.2) else (if jm_n y.2 < jm_n x.2 then y.2 else x.2)) :: r, h) else none
  | _ => none
noncomputable def jm_stp (sc : List Int) (i : jm_I) (pc : Nat) (L : jm_L) (S : List jm_V) (h : jm_H) : Option jm_T :=
  match i.1 with
  | 0 => some (pc + i.2.2.2, L, (0, i.2.1) :: S, h)
  | 1 => some (pc + i.2.2.2, L, (1, i.2.1) :: S, h)
  | 2 => jm_load i pc L S h
  | 3 => jm_store i pc L S h
  | 4 => jm_inc i pc L S h
  | 5 => jm_arith i pc L S h
  | 6 => jm_larith i pc L S h
  | 7 => jm_conv i pc L S h
  | 8 => jm_stack i pc L S h
  | 9 => jm_if i pc L S h
  | 10 => jm_if2 i pc L S h
  | 11 => some (i.2.2.2, L, S, h)
  | 12 => jm_lcmp pc L S h
  | 13 => jm_getf i pc L S h
  | 14 => jm_putf i pc L S h
  | 15 => jm_ald i pc L S h
  | 16 => jm_ast i pc L S h
  | 17 => jm_newa i pc L S h
  | 18 => jm_new i pc L S h
  | 19 => some (pc + 2 + i.2.2.2, L, (4, 10 + 2 * (i.2.2.1 : Int)) :: S, h)
  | 20 => jm_tsw i L S h
  | 21 => jm_gets i pc L S h
  | 22 => jm_spec sc i pc L S h
  | 23 => jm_obj pc L S h
  | 24 => jm_acpy pc L S h
  | 25 => jm_alen pc L S h
  | 26 => jm_mm i pc L S h
  | _ => none
/-- a method's end: (9, 0) says that it threw -/
noncomputable def jm_ret (i : jm_I) (S : List jm_V) (h : jm_H) : Option (Option jm_V × jm_H) :=
  match i.2.2.1, S with
  | 0, [v] => if v.1 = 0 ∧ ((i.2.2.2 = 0) ∨ (i.2.2.2 = 1 ∧ (jm_n v.2 = 0 ∨ jm_n v.2 = 1)) ∨ (i.2.2.2 = 2 ∧ 0 ≤ jm_n v.2 ∧ jm_n v.2 < 65536) ∨ (i.2.2.2 = 3 ∧ jm_n v.2 = 0)) then some (some v, h) else none
  | 1, [v] => if v.1 = 1 then some (some v, h) else none
  | 2, [] => some (none, h)
  | _, _ => none
/-- who is called: is he of the class that the call names -/
noncomputable def jm_rcv (a : Int) (S : List jm_V) (h : jm_H) : Bool :=
  match S with
  | [] => decide (a = -1)
  | o :: _ => if a = -1 then true else if a = -2 ∨ a = -3 then decide (o.1 = 2 ∧ 0 ≤ o.2) else if a = 5 then decide (o.1 = 4 ∧ 10 ≤ o.2 ∧ o.2 < 10 + 2 * g_str.length ∧ o.2 % 2 = 0) else match o.1, jm_cell h o.2 with
    | 2, some c => decide ((c.1 : Int) = a)
    | _, _ => false
noncomputable def jm_exec (sc : List Int) : Nat → Nat → Nat → Nat → jm_L → List jm_V → jm_H → Option (Option jm_V × jm_H)
  | 0, _, _, _, _, _, _ => none
  | n + 1, d, m, pc, L, S, h =>
    match g_code m pc with
    | none => none
    | some i =>
      if i.1 = 40 then jm_ret i S h
      else if i.1 = 41 then (if 10 ≤ d ∧ jm_cat S ≤ 8 then some (some (9, 0), (h.1, h.2 + 1)) else none)
      else if i.1 = 30 ∨ i.1 = 31 ∨ i.1 = 32 then
        match d with
        | 0 => none
        | d' + 1 =>
          if i.2.2.2 ≤ S.length ∧ jm_cat (S.drop i.2.2.2) ≤ 8 ∧ jm_cat (S.take i.2.2.2) ≤ (g_m i.2.2.1).2.2.1 ∧ jm_rcv (if i.1 = 31 then 10 + ((g_lnk m pc).getD 5 0 : Int) else i.2.1) (S.take i.2.2.2).reverse h = true then
            match jm_exec sc n d' i.2.2.1 0 (jm_args 0 (S.take i.2.2.2).reverse) [] h with
            | none => none
            | some (r, h') =>
              if r = some (9, 0) then (if i.1 = 31 then jm_exec sc n (d' + 1) m i.2.1.toNat (jm_drop L ((g_lnk m pc).getD 6 0)) [] h' else none)
              else jm_exec sc n (d' + 1) m (pc + 3) L (r.toList ++ S.drop i.2.2.2) h'
          else none
      else match jm_stp sc i pc L S h with
        | none => none
        | some (pc', L', S', h') => jm_exec sc n d m pc' L' S' h'
