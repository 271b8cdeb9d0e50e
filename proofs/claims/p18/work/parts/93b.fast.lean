/-! the Int machine once more, by the lists' own recursor: few steps for the kernel (the constructors' run) -/
noncomputable def jm_set {α : Type} (l : List α) (i : Nat) (v : α) : List α := List.rec (motive := fun _ => Nat → List α) (fun _ => []) (fun a t ih i => Nat.rec (motive := fun _ => List α) (v :: t) (fun j _ => a :: ih j) i) l i
theorem jm_set_e {α : Type} (v : α) : ∀ (l : List α) (i : Nat), jm_set l i v = l.set i v
  | [], _ => rfl
  | _ :: _, 0 => rfl
  | a :: l, i + 1 => by
    show a :: jm_set l i v = a :: l.set i v
    rw [jm_set_e v l i]
noncomputable def jm_len {α : Type} (l : List α) : Nat := List.rec (motive := fun _ => Nat) 0 (fun _ _ ih => ih + 1) l
theorem jm_len_e {α : Type} : ∀ l : List α, jm_len l = l.length
  | [] => rfl
  | a :: l => by
    show jm_len l + 1 = (a :: l).length
    rw [jm_len_e l]
    rfl
noncomputable def jm_app {α : Type} (l r : List α) : List α := List.rec (motive := fun _ => List α) r (fun a _ ih => a :: ih) l
theorem jm_app_e {α : Type} (r : List α) : ∀ l : List α, jm_app l r = l ++ r
  | [] => rfl
  | a :: l => by
    show a :: jm_app l r = a :: (l ++ r)
    rw [jm_app_e r l]
theorem jm_nthO_e {α : Type} : ∀ (l : List α) (i : Nat), jm_nthO l i = l[i]?
  | [], _ => rfl
  | _ :: _, 0 => rfl
  | a :: l, i + 1 => by
    rw [List.getElem?_cons_succ]
    exact jm_nthO_e l i
theorem jm_isS {α : Type} {l : List α} {i : Nat} : (jm_nthO l i).isSome = true ↔ i < l.length := by
  rw [jm_nthO_e]
  constructor
  · intro h
    by_cases q : i < l.length
    · exact q
    · rw [List.getElem?_eq_none (by omega)] at h
      cases h
  · intro h
    rw [List.getElem?_eq_getElem h]
    rfl
noncomputable def jm_cellF (h : jm_H) (a : Int) : Option jm_C := if a < 0 then none else jm_nthO h.1 a.toNat
theorem jm_cellF_e (h : jm_H) (a : Int) : jm_cellF h a = jm_cell h a := by
  unfold jm_cellF jm_cell
  rw [jm_nthO_e]
  try rfl
noncomputable def jm_ixF (i : Int) (l : List Int) : Option Nat := if 0 ≤ jm_n i ∧ (jm_nthO l (jm_n i).toNat).isSome = true then some (jm_n i).toNat else none
theorem jm_ixF_e (i : Int) (l : List Int) : jm_ixF i l = jm_ix i l.length := by
  unfold jm_ixF jm_ix
  by_cases a : 0 ≤ jm_n i ∧ (jm_n i).toNat < l.length
  · rw [if_pos a, if_pos (show 0 ≤ jm_n i ∧ (jm_nthO l (jm_n i).toNat).isSome = true from ⟨a.1, jm_isS.mpr a.2⟩)]
  · rw [if_neg a, if_neg (show ¬ (0 ≤ jm_n i ∧ (jm_nthO l (jm_n i).toNat).isSome = true) from fun q => a ⟨q.1, jm_isS.mp q.2⟩)]
noncomputable def jm_getF (L : jm_L) (i : Nat) : Option jm_V := List.rec (motive := fun _ => Option jm_V) none (fun q _ ih => bif q.1 == i then some q.2 else ih) L
theorem jm_getF_e (i : Nat) : ∀ L : jm_L, jm_getF L i = jm_get L i
  | [] => rfl
  | q :: L => by
    show (bif q.1 == i then some q.2 else jm_getF L i) = Option.map (fun q => q.2) (match q.1 == i with | true => some q | false => L.find? (fun q => q.1 == i))
    rw [jm_getF_e i L]
    generalize (q.1 == i) = b
    cases b <;> rfl
noncomputable def jm_loadF (i : jm_I) (pc : Nat) (L : jm_L) (S : List jm_V) (h : jm_H) : Option jm_T :=
  match jm_getF L i.2.2.1 with
  | some v => if (i.2.1 = 0 ∧ v.1 = 0) ∨ (i.2.1 = 1 ∧ v.1 = 1) ∨ (i.2.1 = 2 ∧ ((v.1 = 2 ∧ 0 ≤ v.2) ∨ v.1 = 3 ∨ v.1 = 4)) then some (pc + 1 + i.2.2.2, L, v :: S, h) else none
  | none => none
theorem jm_loadF_e (i : jm_I) (pc : Nat) (L : jm_L) (S : List jm_V) (h : jm_H) : jm_loadF i pc L S h = jm_load i pc L S h := by
  unfold jm_loadF jm_load
  rw [jm_getF_e]
  try rfl
noncomputable def jm_getfF (i : jm_I) (pc : Nat) (L : jm_L) (S : List jm_V) (h : jm_H) : Option jm_T :=
  match S with
  | o :: r => if o.1 = 2 then match jm_cellF h o.2 with
      | some c => if c.1 = 10 + i.2.2.1 then match jm_nthO c.2 i.2.2.2 with
          | some z => some (pc + 3, L, (if i.2.1 = 3 then 0 else i.2.1.toNat, z) :: r, h)
          | none => none
        else none
      | none => none
    else none
  | [] => none
theorem jm_getfF_e (i : jm_I) (pc : Nat) (L : jm_L) (S : List jm_V) (h : jm_H) : jm_getfF i pc L S h = jm_getf i pc L S h := by
  unfold jm_getfF jm_getf
  cases S with
  | nil => rfl
  | cons o r =>
    dsimp only
    by_cases a : o.1 = 2
    · rw [if_pos a, if_pos a, jm_cellF_e]
      cases hc : jm_cell h o.2 with
      | none => rfl
      | some c =>
        dsimp only
        rw [jm_nthO_e]
        try rfl
    · rw [if_neg a, if_neg a]
noncomputable def jm_putfF (i : jm_I) (pc : Nat) (L : jm_L) (S : List jm_V) (h : jm_H) : Option jm_T :=
  match S with
  | v :: o :: r => if o.1 = 2 ∧ jm_fok i.2.1 v = true then match jm_cellF h o.2 with
      | some c => if c.1 = 10 + i.2.2.1 ∧ (jm_nthO c.2 i.2.2.2).isSome = true then some (pc + 3, L, r, (jm_set h.1 o.2.toNat (c.1, jm_set c.2 i.2.2.2 v.2), h.2)) else none
      | none => none
    else none
  | _ => none
theorem jm_putfF_e (i : jm_I) (pc : Nat) (L : jm_L) (S : List jm_V) (h : jm_H) : jm_putfF i pc L S h = jm_putf i pc L S h := by
  unfold jm_putfF jm_putf
  match S with
  | [] => rfl
  | [_] => rfl
  | v :: o :: r =>
    dsimp only
    by_cases a : o.1 = 2 ∧ jm_fok i.2.1 v = true
    · rw [if_pos a, if_pos a, jm_cellF_e]
      cases hc : jm_cell h o.2 with
      | none => rfl
      | some c =>
        dsimp only
        by_cases b : c.1 = 10 + i.2.2.1 ∧ i.2.2.2 < c.2.length
        · rw [if_pos b, if_pos (show c.1 = 10 + i.2.2.1 ∧ (jm_nthO c.2 i.2.2.2).isSome = true from ⟨b.1, jm_isS.mpr b.2⟩), jm_set_e, jm_set_e]
        · rw [if_neg b, if_neg (show ¬ (c.1 = 10 + i.2.2.1 ∧ (jm_nthO c.2 i.2.2.2).isSome = true) from fun q => b ⟨q.1, jm_isS.mp q.2⟩)]
    · rw [if_neg a, if_neg a]
noncomputable def jm_astF (i : jm_I) (pc : Nat) (L : jm_L) (S : List jm_V) (h : jm_H) : Option jm_T :=
  if i.2.2.1 = 0 then match S with
  | v :: j :: a :: r => if j.1 = 0 ∧ a.1 = 2 then match jm_cellF h a.2 with
      | some c => match jm_ixF j.2 c.2 with
          | some n => if c.1 = 0 ∧ v.1 = 0 then some (pc + 1, L, r, (jm_set h.1 a.2.toNat (c.1, jm_set c.2 n v.2), h.2)) else none
          | none => none
      | none => none
    else none
  | _ => none
  else jm_ast i pc L S h
theorem jm_astF_e (i : jm_I) (pc : Nat) (L : jm_L) (S : List jm_V) (h : jm_H) : jm_astF i pc L S h = jm_ast i pc L S h := by
  unfold jm_astF
  by_cases k : i.2.2.1 = 0
  · rw [if_pos k]
    unfold jm_ast
    match S with
    | [] => rfl
    | [_] => rfl
    | [_, _] => rfl
    | v :: j :: a :: r =>
      dsimp only
      by_cases q : j.1 = 0 ∧ a.1 = 2
      · rw [if_pos q, if_pos q, jm_cellF_e]
        cases hc : jm_cell h a.2 with
        | none => rfl
        | some c =>
          dsimp only
          rw [jm_ixF_e]
          cases hn : jm_ix j.2 c.2.length with
          | none => rfl
          | some n =>
            dsimp only
            by_cases b : c.1 = 0 ∧ v.1 = 0
            · rw [if_pos b, if_pos (show i.2.2.1 = 0 ∧ c.1 = 0 ∧ v.1 = 0 from ⟨k, b⟩), jm_set_e, jm_set_e]
            · rw [if_neg b, if_neg (show ¬ (i.2.2.1 = 0 ∧ c.1 = 0 ∧ v.1 = 0) from fun w => b w.2), if_neg (show ¬ (i.2.2.1 = 1 ∧ c.1 = 1 ∧ v.1 = 0) from fun w => by omega), if_neg (show ¬ (i.2.2.1 = 1 ∧ c.1 = 3 ∧ v.1 = 0) from fun w => by omega),
                if_neg (show ¬ (i.2.2.1 = 2 ∧ c.1 = 2 ∧ v.1 = 1) from fun w => by omega), if_neg (show ¬ (i.2.2.1 = 3 ∧ c.1 = 4 ∧ v.1 = 2) from fun w => by omega)]
      · rw [if_neg q, if_neg q]
  · rw [if_neg k]
noncomputable def jm_newaF (i : jm_I) (pc : Nat) (L : jm_L) (S : List jm_V) (h : jm_H) : Option jm_T :=
  match S with
  | v :: r => if v.1 = 0 ∧ 0 ≤ jm_n v.2 ∧ jm_n v.2 ≤ 100000 ∧ h.2 = 0 then some (pc + (if i.2.2.1 = 4 then 3 else 2), L, (2, (jm_len h.1 : Int)) :: r, (jm_app h.1 [(i.2.2.1, List.replicate (jm_n v.2).toNat (if i.2.2.1 = 4 then -1 else 0))], h.2)) else none
  | [] => none
theorem jm_newaF_e (i : jm_I) (pc : Nat) (L : jm_L) (S : List jm_V) (h : jm_H) : jm_newaF i pc L S h = jm_newa i pc L S h := by
  unfold jm_newaF jm_newa
  cases S with
  | nil => rfl
  | cons v r =>
    dsimp only
    rw [jm_len_e, jm_app_e]
    try rfl
noncomputable def jm_newF (i : jm_I) (pc : Nat) (L : jm_L) (S : List jm_V) (h : jm_H) : Option jm_T :=
  if h.2 = 0 then some (pc + 3, L, (2, (jm_len h.1 : Int)) :: S, (jm_app h.1 [(10 + i.2.2.1, jm_def i.2.2.1)], h.2)) else none
theorem jm_newF_e (i : jm_I) (pc : Nat) (L : jm_L) (S : List jm_V) (h : jm_H) : jm_newF i pc L S h = jm_new i pc L S h := by
  unfold jm_newF jm_new
  rw [jm_len_e, jm_app_e]
  try rfl
noncomputable def jm_alenF (pc : Nat) (L : jm_L) (S : List jm_V) (h : jm_H) : Option jm_T :=
  match S with
  | a :: r => if a.1 = 2 then match jm_cellF h a.2 with
      | some c => if c.1 < 5 then some (pc + 1, L, (0, (jm_len c.2 : Int)) :: r, h) else none
      | none => none
    else none
  | [] => none
theorem jm_alenF_e (pc : Nat) (L : jm_L) (S : List jm_V) (h : jm_H) : jm_alenF pc L S h = jm_alen pc L S h := by
  unfold jm_alenF jm_alen
  cases S with
  | nil => rfl
  | cons a r =>
    dsimp only
    by_cases q : a.1 = 2
    · rw [if_pos q, if_pos q, jm_cellF_e]
      cases hc : jm_cell h a.2 with
      | none => rfl
      | some c =>
        dsimp only
        rw [jm_len_e]
        try rfl
    · rw [if_neg q, if_neg q]
noncomputable def jm_stpF (sc : List Int) (i : jm_I) (pc : Nat) (L : jm_L) (S : List jm_V) (h : jm_H) : Option jm_T :=
  if i.1 = 2 then jm_loadF i pc L S h else if i.1 = 13 then jm_getfF i pc L S h else if i.1 = 14 then jm_putfF i pc L S h else if i.1 = 16 then jm_astF i pc L S h
  else if i.1 = 17 then jm_newaF i pc L S h else if i.1 = 18 then jm_newF i pc L S h else if i.1 = 25 then jm_alenF pc L S h else jm_stp sc i pc L S h
theorem jm_stpF_e (sc : List Int) (i : jm_I) (pc : Nat) (L : jm_L) (S : List jm_V) (h : jm_H) : jm_stpF sc i pc L S h = jm_stp sc i pc L S h := by
  unfold jm_stpF
  obtain ⟨o, z, b, e⟩ := i
  dsimp only
  by_cases k2 : o = 2
  · subst k2; rw [if_pos rfl, jm_loadF_e]; try rfl
  · rw [if_neg k2]
    by_cases k13 : o = 13
    · subst k13; rw [if_pos rfl, jm_getfF_e]; try rfl
    · rw [if_neg k13]
      by_cases k14 : o = 14
      · subst k14; rw [if_pos rfl, jm_putfF_e]; try rfl
      · rw [if_neg k14]
        by_cases k16 : o = 16
        · subst k16; rw [if_pos rfl, jm_astF_e]; try rfl
        · rw [if_neg k16]
          by_cases k17 : o = 17
          · subst k17; rw [if_pos rfl, jm_newaF_e]; try rfl
          · rw [if_neg k17]
            by_cases k18 : o = 18
            · subst k18; rw [if_pos rfl, jm_newF_e]; try rfl
            · rw [if_neg k18]
              by_cases k25 : o = 25
              · subst k25; rw [if_pos rfl, jm_alenF_e]; try rfl
              · rw [if_neg k25]
noncomputable def jm_rcvG (cell : jm_H → Int → Option jm_C) (a : Int) (S : List jm_V) (h : jm_H) : Bool :=
  match S with
  | [] => decide (a = -1)
  | o :: _ => if a = -1 then true else if a = -2 ∨ a = -3 then decide (o.1 = 2 ∧ 0 ≤ o.2) else if a = 5 then decide (o.1 = 4 ∧ 10 ≤ o.2 ∧ o.2 < 10 + 2 * g_str.length ∧ o.2 % 2 = 0) else match o.1, cell h o.2 with
    | 2, some c => decide ((c.1 : Int) = a)
    | _, _ => false
theorem jm_rcvF_e : jm_rcvG jm_cellF = jm_rcv := by
  rw [show jm_cellF = jm_cell from funext (fun h => funext (fun a => jm_cellF_e h a))]
  funext a S h
  cases S <;> rfl
noncomputable def jm_bodyG (stp : jm_I → Nat → jm_L → List jm_V → jm_H → Option jm_T) (rcv : Int → List jm_V → jm_H → Bool) (X : Nat → Nat → Nat → jm_L → List jm_V → jm_H → Option (Option jm_V × jm_H))
    (d m pc : Nat) (L : jm_L) (S : List jm_V) (h : jm_H) : Option (Option jm_V × jm_H) :=
    match g_code m pc with
    | none => none
    | some i =>
      if i.1 = 40 then jm_ret i S h
      else if i.1 = 41 then (if 10 ≤ d ∧ jm_cat S ≤ 8 then some (some (9, 0), (h.1, h.2 + 1)) else none)
      else if i.1 = 30 ∨ i.1 = 31 ∨ i.1 = 32 then
        match d with
        | 0 => none
        | d' + 1 =>
          if i.2.2.2 ≤ S.length ∧ jm_cat (S.drop i.2.2.2) ≤ 8 ∧ jm_cat (S.take i.2.2.2) ≤ (g_m i.2.2.1).2.2.1 ∧ rcv (if i.1 = 31 then 10 + ((g_lnk m pc).getD 5 0 : Int) else i.2.1) (S.take i.2.2.2).reverse h = true then
            match X d' i.2.2.1 0 (jm_args 0 (S.take i.2.2.2).reverse) [] h with
            | none => none
            | some (r, h') =>
              if r = some (9, 0) then (if i.1 = 31 then X (d' + 1) m i.2.1.toNat (jm_drop L ((g_lnk m pc).getD 6 0)) [] h' else none)
              else X (d' + 1) m (pc + 3) L (r.toList ++ S.drop i.2.2.2) h'
          else none
      else match stp i pc L S h with
        | none => none
        | some (pc', L', S', h') => X d m pc' L' S' h'
noncomputable def jm_execF (sc : List Int) (n : Nat) : Nat → Nat → Nat → jm_L → List jm_V → jm_H → Option (Option jm_V × jm_H) :=
  Nat.rec (motive := fun _ => Nat → Nat → Nat → jm_L → List jm_V → jm_H → Option (Option jm_V × jm_H)) (fun _ _ _ _ _ _ => none) (fun _ X => jm_bodyG (jm_stpF sc) (jm_rcvG jm_cellF) X) n
theorem jm_execF_e (sc : List Int) : ∀ n : Nat, jm_execF sc n = jm_exec sc n
  | 0 => by funext d m pc L S h; rfl
  | n + 1 => by
    show jm_bodyG (jm_stpF sc) (jm_rcvG jm_cellF) (jm_execF sc n) = jm_exec sc (n + 1)
    rw [jm_execF_e sc n, jm_rcvF_e, show jm_stpF sc = jm_stp sc from funext (fun i => funext (fun pc => funext (fun L => funext (fun S => funext (fun h => jm_stpF_e sc i pc L S h)))))]
    funext d m pc L S h
    rfl
