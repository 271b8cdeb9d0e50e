/-! THE BOX MACHINE: the Int machine over values of which some are known by a box alone. Tags from 19 on: 19 any int, 20 + k the symbol k (its box in bx). In the heap ax_U stands for any int; a cell of kind 1000 + n is any cell with n places -/
def ax_U : Int := 1208925819614629174706176
def ax_top : Int × Int := (-2147483648, 2147483647)
abbrev ax_B : Type := List (Int × Int)
def ax_box (bx : ax_B) (t : Nat) : Int × Int := if t = 19 then ax_top else bx.getD (t - 20) ax_top
def ax_sym (bx : ax_B) (k : Nat) : jm_V := if (bx.getD k ax_top).1 = (bx.getD k ax_top).2 then (0, (bx.getD k ax_top).1) else (20 + k, 0)
def ax_flip (b : Nat) : Nat := match b with
  | 2 => 4
  | 3 => 5
  | 4 => 2
  | 5 => 3
  | b => b
def ax_cnd (b : Nat) (q : Int × Int) (y : Int) : Option Bool := match b with
  | 0 => if y < q.1 ∨ q.2 < y then some false else if q.1 = y ∧ q.2 = y then some true else none
  | 1 => if y < q.1 ∨ q.2 < y then some true else if q.1 = y ∧ q.2 = y then some false else none
  | 2 => if q.2 < y then some true else if y ≤ q.1 then some false else none
  | 3 => if y ≤ q.1 then some true else if q.2 < y then some false else none
  | 4 => if y < q.1 then some true else if q.2 ≤ y then some false else none
  | 5 => if q.2 ≤ y then some true else if y < q.1 then some false else none
  | _ => none
def ax_cmp (bx : ax_B) (b : Nat) (x y : jm_V) : Option Bool :=
  if x.1 = 0 ∧ y.1 = 0 then some (jm_cnd b x.2 y.2)
  else if 19 ≤ x.1 ∧ y.1 = 0 then ax_cnd b (ax_box bx x.1) (jm_n y.2)
  else if x.1 = 0 ∧ 19 ≤ y.1 then ax_cnd (ax_flip b) (ax_box bx y.1) (jm_n x.2)
  else if x.1 = y.1 ∧ 20 ≤ x.1 ∧ b ≤ 1 then some (decide (b = 0))
  else none
def ax_load (i : jm_I) (pc : Nat) (L : jm_L) (S : List jm_V) : Option (Nat × jm_L × List jm_V) :=
  match jm_get L i.2.2.1 with
  | some v => if (i.2.1 = 0 ∧ (v.1 = 0 ∨ 19 ≤ v.1)) ∨ (i.2.1 = 1 ∧ v.1 = 1) ∨ (i.2.1 = 2 ∧ ((v.1 = 2 ∧ 0 ≤ v.2) ∨ v.1 = 4)) then some (pc + 1 + i.2.2.2, L, v :: S) else none
  | none => none
def ax_store (i : jm_I) (pc : Nat) (L : jm_L) (S : List jm_V) : Option (Nat × jm_L × List jm_V) :=
  match S with
  | v :: r => if (i.2.1 = 0 ∧ (v.1 = 0 ∨ 19 ≤ v.1)) ∨ (i.2.1 = 2 ∧ v.1 = 2 ∧ 0 ≤ v.2) then some (pc + 1 + i.2.2.2, jm_st1 L i.2.2.1 v, r) else none
  | [] => none
def ax_inc (i : jm_I) (pc : Nat) (L : jm_L) (S : List jm_V) : Option (Nat × jm_L × List jm_V) :=
  match jm_get L i.2.2.1 with
  | some v => if v.1 = 0 then some (pc + 3, jm_st1 L i.2.2.1 (0, v.2 + i.2.1), S) else none
  | none => none
def ax_arith (bx : ax_B) (i : jm_I) (pc : Nat) (L : jm_L) (S : List jm_V) : Option (Nat × jm_L × List jm_V) :=
  match S with
  | y :: x :: r =>
    if y.1 = 0 ∧ x.1 = 0 then (jm_bin i.2.2.1 x.2 y.2).map (fun z => (pc + 1, L, (0, z) :: r))
    else if (y.1 = 0 ∨ 19 ≤ y.1) ∧ (x.1 = 0 ∨ 19 ≤ x.1) then
      (if i.2.2.1 = 3 ∧ x.1 = 20 ∧ y = (0, 63) then some (pc + 1, L, ax_sym bx 6 :: r)
       else if i.2.2.1 ≤ 8 ∨ (i.2.2.1 = 10 ∧ y.1 = 0 ∧ ¬ jm_n y.2 = 0) then some (pc + 1, L, (19, 0) :: r) else none)
    else none
  | _ => none
def ax_conv (i : jm_I) (pc : Nat) (L : jm_L) (S : List jm_V) : Option (Nat × jm_L × List jm_V) :=
  match S with
  | x :: r => if i.2.2.1 = 2 then (if x.1 = 0 then some (pc + 1, L, (0, (Int32.ofInt x.2).toInt8.toInt32.toInt) :: r) else if 19 ≤ x.1 then some (pc + 1, L, (19, 0) :: r) else none) else none
  | [] => none
def ax_stack (i : jm_I) (pc : Nat) (L : jm_L) (S : List jm_V) : Option (Nat × jm_L × List jm_V) :=
  match S with
  | x :: r =>
    if x.1 = 1 then none
    else if i.2.2.1 = 0 then some (pc + 1, L, x :: x :: r)
    else if i.2.2.1 = 1 then some (pc + 1, L, r)
    else match r with
      | y :: r' => if y.1 = 1 then none else some (pc + 1, L, x :: y :: x :: y :: r')
      | [] => none
  | [] => none
def ax_if (bx : ax_B) (i : jm_I) (pc : Nat) (L : jm_L) (S : List jm_V) : Option (Nat × jm_L × List jm_V) :=
  match S with
  | x :: r => (ax_cmp bx i.2.2.1 x (0, 0)).map (fun t => (if t then i.2.2.2 else pc + 3, L, r))
  | [] => none
def ax_if2 (bx : ax_B) (i : jm_I) (pc : Nat) (L : jm_L) (S : List jm_V) : Option (Nat × jm_L × List jm_V) :=
  match S with
  | y :: x :: r => (ax_cmp bx i.2.2.1 x y).map (fun t => (if t then i.2.2.2 else pc + 3, L, r))
  | _ => none
def ax_rd (t : Nat) (z : Int) : Option jm_V := if z = ax_U then (if t = 0 then some (19, 0) else none) else if t < 19 then some (t, z) else none
def ax_getf (i : jm_I) (pc : Nat) (L : jm_L) (S : List jm_V) (h : jm_H) : Option (Nat × jm_L × List jm_V) :=
  match S with
  | o :: r => if o.1 = 2 then match jm_cell h o.2 with
      | some c => if c.1 = 10 + i.2.2.1 ∧ c.1 < 1000 then match c.2[i.2.2.2]? with
          | some z => (ax_rd (if i.2.1 = 3 then 0 else i.2.1.toNat) z).map (fun v => (pc + 3, L, v :: r))
          | none => none
        else none
      | none => none
    else none
  | [] => none
def ax_ald (i : jm_I) (pc : Nat) (L : jm_L) (S : List jm_V) (h : jm_H) : Option (Nat × jm_L × List jm_V) :=
  match S with
  | j :: a :: r => if j.1 = 0 ∧ a.1 = 2 then match jm_cell h a.2 with
      | some c => if (i.2.2.1 = 0 ∧ c.1 = 0) ∨ (i.2.2.1 = 1 ∧ (c.1 = 1 ∨ c.1 = 3)) ∨ (i.2.2.1 = 2 ∧ c.1 = 2) ∨ (i.2.2.1 = 3 ∧ c.1 = 4) then
          match jm_ix j.2 c.2.length with
          | some n => (ax_rd (if i.2.2.1 = 2 then 1 else if i.2.2.1 = 3 then 2 else 0) (c.2.getD n 0)).map (fun v => (pc + 1, L, v :: r))
          | none => none
        else none
      | none => none
    else none
  | _ => none
def ax_tsw (bx : ax_B) (i : jm_I) (L : jm_L) (S : List jm_V) : Option (Nat × jm_L × List jm_V) :=
  match S with
  | x :: r =>
    if x.1 = 0 then
      (if jm_n x.2 < i.2.1 ∨ i.2.1 + ((g_sw.getD i.2.2.2 []).length : Int) ≤ jm_n x.2 then some (i.2.2.1, L, r)
       else match (g_sw.getD i.2.2.2 [])[(jm_n x.2 - i.2.1).toNat]? with
         | some t => some (t, L, r)
         | none => none)
    else if 19 ≤ x.1 then
      (if (ax_box bx x.1).2 < i.2.1 ∨ i.2.1 + ((g_sw.getD i.2.2.2 []).length : Int) ≤ (ax_box bx x.1).1 then some (i.2.2.1, L, r) else none)
    else none
  | [] => none
def ax_spec (bx : ax_B) (i : jm_I) (pc : Nat) (L : jm_L) (S : List jm_V) : Option (Nat × jm_L × List jm_V) :=
  match S with
  | a :: r =>
    if i.2.2.1 = 2 then (if a = (4, 2) then some (pc + 1, L, (0, 6) :: r) else none)
    else if i.2.2.1 = 1 then match r with
      | b :: r' => if a.1 = 0 ∧ b = (4, 2) then (jm_ix a.2 6).map (fun n => (pc + 1, L, ax_sym bx n :: r')) else none
      | [] => none
    else none
  | [] => none
def ax_alen (pc : Nat) (L : jm_L) (S : List jm_V) (h : jm_H) : Option (Nat × jm_L × List jm_V) :=
  match S with
  | a :: r => if a.1 = 2 then match jm_cell h a.2 with
      | some c => if c.1 < 5 then some (pc + 1, L, (0, (c.2.length : Int)) :: r) else none
      | none => none
    else none
  | [] => none
def ax_mm (bx : ax_B) (i : jm_I) (pc : Nat) (L : jm_L) (S : List jm_V) : Option (Nat × jm_L × List jm_V) :=
  match S with
  | y :: x :: r =>
    if jm_cat r ≤ 8 then
      (if y.1 = 0 ∧ x.1 = 0 then some (pc + 3, L, (0, if i.2.2.1 = 0 then (if jm_n x.2 < jm_n y.2 then y.2 else x.2) else (if jm_n y.2 < jm_n x.2 then y.2 else x.2)) :: r)
       else if y.1 = 0 ∧ 19 ≤ x.1 ∧ ¬ i.2.2.1 = 0 ∧ (ax_box bx x.1).2 ≤ jm_n y.2 then some (pc + 3, L, x :: r) else none)
    else none
  | _ => none
def ax_pur (bx : ax_B) (i : jm_I) (pc : Nat) (L : jm_L) (S : List jm_V) (h : jm_H) : Option (Nat × jm_L × List jm_V) :=
  match i.1 with
  | 0 => some (pc + i.2.2.2, L, (0, i.2.1) :: S)
  | 1 => some (pc + i.2.2.2, L, (1, i.2.1) :: S)
  | 2 => ax_load i pc L S
  | 3 => ax_store i pc L S
  | 4 => ax_inc i pc L S
  | 5 => ax_arith bx i pc L S
  | 7 => ax_conv i pc L S
  | 8 => ax_stack i pc L S
  | 9 => ax_if bx i pc L S
  | 10 => ax_if2 bx i pc L S
  | 11 => some (i.2.2.2, L, S)
  | 13 => ax_getf i pc L S h
  | 15 => ax_ald i pc L S h
  | 20 => ax_tsw bx i L S
  | 22 => ax_spec bx i pc L S
  | 25 => ax_alen pc L S h
  | 26 => ax_mm bx i pc L S
  | _ => none
def ax_putf (i : jm_I) (pc : Nat) (L : jm_L) (S : List jm_V) (h : jm_H) : Option jm_T :=
  match S with
  | v :: o :: r => if o.1 = 2 ∧ i.2.2.1 < 900 ∧ ((19 ≤ v.1 ∧ i.2.1 = 0) ∨ (v.1 < 19 ∧ jm_fok i.2.1 v = true)) then match jm_cell h o.2 with
      | some c => if c.1 = 10 + i.2.2.1 ∧ i.2.2.2 < c.2.length then some (pc + 3, L, r, (h.1.set o.2.toNat (c.1, c.2.set i.2.2.2 (if 19 ≤ v.1 then ax_U else v.2)), h.2)) else none
      | none => none
    else none
  | _ => none
def ax_ast (i : jm_I) (pc : Nat) (L : jm_L) (S : List jm_V) (h : jm_H) : Option jm_T :=
  match S with
  | v :: j :: a :: r => if j.1 = 0 ∧ a.1 = 2 then match jm_cell h a.2 with
      | some c => match jm_ix j.2 c.2.length with
          | some n =>
            if i.2.2.1 = 0 ∧ c.1 = 0 ∧ v.1 = 0 then some (pc + 1, L, r, (h.1.set a.2.toNat (c.1, c.2.set n v.2), h.2))
            else if i.2.2.1 = 1 ∧ c.1 = 1 ∧ v.1 = 0 then some (pc + 1, L, r, (h.1.set a.2.toNat (c.1, c.2.set n (jm_b v.2)), h.2))
            else if i.2.2.1 = 1 ∧ c.1 = 3 ∧ v.1 = 0 then some (pc + 1, L, r, (h.1.set a.2.toNat (c.1, c.2.set n (jm_z v.2)), h.2))
            else if i.2.2.1 = 2 ∧ c.1 = 2 ∧ v.1 = 1 then some (pc + 1, L, r, (h.1.set a.2.toNat (c.1, c.2.set n v.2), h.2))
            else if 19 ≤ v.1 ∧ ((i.2.2.1 = 0 ∧ c.1 = 0) ∨ (i.2.2.1 = 1 ∧ c.1 = 1)) then some (pc + 1, L, r, (h.1.set a.2.toNat (c.1, c.2.set n ax_U), h.2))
            else none
          | none => none
      | none => none
    else none
  | _ => none
def ax_mod (i : jm_I) (pc : Nat) (L : jm_L) (S : List jm_V) (h : jm_H) : Option jm_T :=
  match i.1 with
  | 14 => ax_putf i pc L S h
  | 16 => ax_ast i pc L S h
  | 24 => jm_acpy pc L S h
  | _ => none
def ax_ret (i : jm_I) (S : List jm_V) : Option (Option jm_V) :=
  match S with
  | [] => if i.2.2.1 = 2 then some none else none
  | v :: r => if r = [] ∧ i.2.2.1 = 0 ∧ ((v.1 = 0 ∧ ((i.2.2.2 = 0) ∨ (i.2.2.2 = 1 ∧ (jm_n v.2 = 0 ∨ jm_n v.2 = 1)) ∨ (i.2.2.2 = 2 ∧ 0 ≤ jm_n v.2 ∧ jm_n v.2 < 65536) ∨ (i.2.2.2 = 3 ∧ jm_n v.2 = 0))) ∨ (19 ≤ v.1 ∧ i.2.2.2 = 0)) then some (some v) else none
def ax_pop (i : jm_I) (S : List jm_V) : Option (List jm_V) :=
  match S with
  | y :: r => if y.1 = 0 ∨ 19 ≤ y.1 then (if i.1 = 9 then some r else match r with
      | x :: r' => if i.1 = 10 ∧ (x.1 = 0 ∨ 19 ≤ x.1) then some r' else none
      | [] => none) else none
  | [] => none
def ax_jn (jn : List (Nat × Nat × Nat)) (m pc : Nat) : Option Nat := (jn.find? (fun q => q.1 == m && q.2.1 == pc)).map (fun q => q.2.2)
/-- the run: to the method's end (some r), or to the place 'stop' (none). ro: nothing in the heap may change -/
def ax (bx : ax_B) (jn : List (Nat × Nat × Nat)) : Nat → Bool → Nat → Nat → Nat → Nat → jm_L → List jm_V → jm_H → Option (Option (Option jm_V) × jm_T)
  | 0, _, _, _, _, _, _, _, _ => none
  | n + 1, ro, stop, d, m, pc, L, S, h =>
    match g_code m pc with
    | none => none
    | some i =>
      if i.1 = 40 then (ax_ret i S).map (fun r => (some r, (0, [], [], h)))
      else if i.1 = 41 then (if ro = false ∧ 10 ≤ d ∧ jm_cat S ≤ 8 then some (some (some (9, 0)), (0, [], [], (h.1, h.2 + 1))) else none)
      else if i.1 = 30 ∨ i.1 = 31 ∨ i.1 = 32 then
        match d with
        | 0 => none
        | d' + 1 =>
          if i.2.2.2 ≤ S.length ∧ jm_cat (S.drop i.2.2.2) ≤ 8 ∧ jm_cat (S.take i.2.2.2) ≤ (g_m i.2.2.1).2.2.1 ∧ jm_rcv (if i.1 = 31 then 10 + ((g_lnk m pc).getD 5 0 : Int) else i.2.1) (S.take i.2.2.2).reverse h = true ∧ (10 + ((g_lnk m pc).getD 5 0 : Int)) < 1000 ∧ i.2.1 < 1000 then
            match ax bx jn n ro 1000000 d' i.2.2.1 0 (jm_args 0 (S.take i.2.2.2).reverse) [] h with
            | some (some r, (_, _, _, h1)) =>
              if r = some (9, 0) then
                (if i.1 = 31 then
                  (if i.2.1.toNat = stop then some (none, (i.2.1.toNat, jm_drop L ((g_lnk m pc).getD 6 0), [], h1)) else ax bx jn n ro stop (d' + 1) m i.2.1.toNat (jm_drop L ((g_lnk m pc).getD 6 0)) [] h1)
                 else none)
              else (if pc + 3 = stop then some (none, (pc + 3, L, r.toList ++ S.drop i.2.2.2, h1)) else ax bx jn n ro stop (d' + 1) m (pc + 3) L (r.toList ++ S.drop i.2.2.2) h1)
            | _ => none
          else none
      else if i.1 = 14 ∨ i.1 = 16 ∨ i.1 = 24 then
        (if ro = true then none else match ax_mod i pc L S h with
          | some (pc', L', S', h') => if pc' = stop then some (none, (pc', L', S', h')) else ax bx jn n ro stop d m pc' L' S' h'
          | none => none)
      else match ax_pur bx i pc L S h with
        | some (pc', L', S') => if pc' = stop then some (none, (pc', L', S', h)) else ax bx jn n ro stop d m pc' L' S' h
        | none =>
          match ax_jn jn m pc, ax_pop i S with
          | some j, some r =>
            match (if i.2.2.2 = j then some (none, (i.2.2.2, L, r, h)) else ax bx jn n true j d m i.2.2.2 L r h), (if pc + 3 = j then some (none, (pc + 3, L, r, h)) else ax bx jn n true j d m (pc + 3) L r h) with
            | some (none, (p1, L1, S1, _)), some (none, (p2, L2, S2, _)) =>
              if p1 = j ∧ p2 = j ∧ L1 = L2 ∧ S1 = S2 then (if j = stop then some (none, (j, L1, S1, h)) else ax bx jn n ro stop d m j L1 S1 h) else none
            | _, _ => none
          | _, _ => none
