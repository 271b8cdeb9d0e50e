theorem jm_ret_tag {i : jm_I} {S : List jm_V} {h h' : jm_H} {r : Option jm_V} (hr : jm_ret i S h = some (r, h')) : r = none ∨ (∃ z, r = some (0, z)) ∨ (∃ z, r = some (1, z)) := by
  obtain ⟨op, a, b, d⟩ := i
  unfold jm_ret at hr
  dsimp only at hr
  split at hr
  · rename_i v
    split at hr
    · rename_i hc2
      cases hr
      obtain ⟨t, z⟩ := v
      obtain ⟨ht, -⟩ := hc2
      dsimp only at ht
      subst ht
      exact Or.inr (Or.inl ⟨z, rfl⟩)
    · cases hr
  · rename_i v
    split at hr
    · rename_i hc2
      cases hr
      obtain ⟨t, z⟩ := v
      dsimp only at hc2
      subst hc2
      exact Or.inr (Or.inr ⟨z, rfl⟩)
    · cases hr
  · cases hr
    exact Or.inl rfl
  · cases hr
theorem jm_exec_ret {sc : List Int} : ∀ (n : Nat) {dd m pc : Nat} {L : jm_L} {S : List jm_V} {h h' : jm_H} {r : Option jm_V}, jm_exec sc n dd m pc L S h = some (r, h') → ¬ r = some (9, 0) → r = none ∨ (∃ z, r = some (0, z)) ∨ (∃ z, r = some (1, z))
  | 0, dd, m, pc, L, S, h, h', r, hex => by cases hex
  | n + 1, dd, m, pc, L, S, h, h', r, hex => by
    intro h9
    obtain ⟨i, hc, hcase⟩ := jm_exec_inv hex
    rcases hcase with ⟨-, hr⟩ | ⟨-, -, -, e9, -⟩ | ⟨-, d', r1, h1, rfl, -, hx, hy⟩ | ⟨-, -, pc', L', S', h1, hs, hx⟩
    · exact jm_ret_tag hr
    · exact absurd e9 h9
    · rcases hy with ⟨-, -, hy⟩ | ⟨-, hy⟩
      · exact jm_exec_ret n hy h9
      · exact jm_exec_ret n hy h9
    · exact jm_exec_ret n hx h9
/-- what is shown apart: the calls of methods with a table (32), and the calls that are tried (31), both ends -/
noncomputable def jm_Xw (l : Launch) (D : va_G) (aC : Nat → ClassId) (ad : Nat → Nat) (fmt : Value) (sc : List Int) : Prop :=
  ∀ (n : Nat), jm_P l D aC ad fmt sc n → ∀ (d' m pc : Nat) (i : jm_I) (L : jm_L) (S : List jm_V) (h h1 : jm_H) (r1 : Option jm_V),
    g_code m pc = some i → (i.1 = 31 ∨ i.1 = 32) → jm_cc m pc i S h → jm_exec sc n d' i.2.2.1 0 (jm_args 0 (S.take i.2.2.2).reverse) [] h = some (r1, h1) →
  ∀ (p : Program) (e : Env) (R : Room) (s : State) (mi : MethodId) (args : Array Value) (below : List Frame) (meth : Method) (c : Code) (Q : State → Prop) (c0 s0 x0 : Nat),
    jm_Cx p R s mi args meth c D aC ad fmt sc m c0 x0 → (d' + 3 ≤ R.frames ∧ (d' + 3) * 60 ≤ R.locals) → (jm_cn h1 ≤ c0 + R.cells ∧ jm_sl h1 ≤ s0 + R.slots) →
    (r1 = some (9, 0) → i.1 = 31 ∧ jm_Nx p l e R s mi args below meth c Q D aC ad fmt (g_m m).2.2.1 c0 s0 x0 i.2.1.toNat (jm_drop L ((g_lnk m pc).getD 6 0)) [] h1) → (¬ r1 = some (9, 0) → jm_Nx p l e R s mi args below meth c Q D aC ad fmt (g_m m).2.2.1 c0 s0 x0 (pc + 3) L (r1.toList ++ S.drop i.2.2.2) h1) →
    jm_Nx p l e R s mi args below meth c Q D aC ad fmt (g_m m).2.2.1 c0 s0 x0 pc L S h
noncomputable def jm_wok : Bool := (List.range 277).all (fun m => (List.range (16 * (jm_rows m).length)).all (fun pc => match g_code m pc with | some i => !(decide (i.1 = 30)) || !(g_wr.contains i.2.2.1) | none => true))
theorem jm_wok_t : jm_wok = true := by decide +kernel
theorem jm_wok_of {m pc : Nat} {i : jm_I} (h : g_code m pc = some i) (h30 : i.1 = 30) : g_wr.contains i.2.2.1 = false := by
  obtain ⟨h1, h2⟩ := jm_code_lt h
  have h3 := List.all_eq_true.mp (List.all_eq_true.mp jm_wok_t m (List.mem_range.mpr h1)) pc (List.mem_range.mpr h2)
  rw [h] at h3
  dsimp only at h3
  rw [decide_eq_true h30] at h3
  simpa using h3
theorem jm_sound {l : Launch} {D : va_G} {aC : Nat → ClassId} {ad : Nat → Nat} {fmt : Value} {sc : List Int} (XW : jm_Xw l D aC ad fmt sc) : ∀ n : Nat, jm_P l D aC ad fmt sc n
  | 0 => by
    intro dd m pc L S h r h' hex
    cases hex
  | n + 1 => by
    have IH := jm_sound XW n
    intro dd m pc L S h r h' hex p e R s mi args below meth c Q c0 s0 x0 C hroom hbd hends ls H locs cells slots rel
    obtain ⟨i, hc, hcase⟩ := jm_exec_inv hex
    have hok := jm_ok_of hc
    rcases hcase with ⟨h40, hr⟩ | ⟨h41, hd, hS, e9, eh⟩ | ⟨h30, d', r1, h1, rfl, hcc, hx, hy⟩ | ⟨h40, h30, pc', L', S', h1, hs, hx⟩
    · exact hends pc i L S h ls H locs cells slots hc rel (Or.inl ⟨h40, hr⟩)
    · exact hends pc i L S h ls H locs cells slots hc rel (Or.inr ⟨h41, hd, hS, e9, eh⟩)
    · have hroom3 : d' + 3 ≤ R.frames ∧ (d' + 3) * 60 ≤ R.locals := by omega
      have hb1 : jm_cn h1 ≤ c0 + R.cells ∧ jm_sl h1 ≤ s0 + R.slots := by
        have hle : jm_le h1 h' := by
          rcases hy with ⟨-, -, hy⟩ | ⟨-, hy⟩
          · exact jm_exec_le n hy
          · exact jm_exec_le n hy
        have := jm_le_cn hle
        omega
      by_cases h0 : i.1 = 30
      · rcases hy with ⟨-, h31, -⟩ | ⟨hr9, hy⟩
        · omega
        · have hok3 : jm_ok3 (g_lnk m pc) (g_m m).1 m pc i = true := by
            unfold jm_ok at hok
            rw [if_neg (by omega), if_neg (by omega), if_pos (Or.inl h0)] at hok
            exact hok
          exact jm_call C rel h0 hok3 (jm_wok_of hc h0) hroom3 hcc IH hx hr9 (jm_exec_ret n hx hr9) hb1 (fun ls' H' locs' cells' slots' rel' => IH (d' + 1) m (pc + 3) L _ h1 r h' hy p e R s mi args below meth c Q c0 s0 x0 C hroom hbd hends ls' H' locs' cells' slots' rel')
      · refine XW n IH d' m pc i L S h h1 r1 hc (by omega) hcc hx p e R s mi args below meth c Q c0 s0 x0 C hroom3 hb1 (fun hr9 => ?_) (fun hr9 => ?_) ls H locs cells slots rel
        · rcases hy with ⟨-, h31, hy⟩ | ⟨hn9, -⟩
          · exact ⟨h31, fun ls' H' locs' cells' slots' rel' => IH (d' + 1) m _ _ [] h1 r h' hy p e R s mi args below meth c Q c0 s0 x0 C hroom hbd hends ls' H' locs' cells' slots' rel'⟩
          · exact absurd hr9 hn9
        · rcases hy with ⟨h9, -, -⟩ | ⟨-, hy⟩
          · exact absurd h9 hr9
          · exact fun ls' H' locs' cells' slots' rel' => IH (d' + 1) m (pc + 3) L _ h1 r h' hy p e R s mi args below meth c Q c0 s0 x0 C hroom hbd hends ls' H' locs' cells' slots' rel'
    · have hb1 : jm_cn h1 ≤ c0 + R.cells ∧ jm_sl h1 ≤ s0 + R.slots := by
        have := jm_le_cn (jm_exec_le n hx)
        omega
      exact jm_step C rel hok hs hb1 (fun ls' H' locs' cells' slots' rel' => IH dd m pc' L' S' h1 r h' hx p e R s mi args below meth c Q c0 s0 x0 C hroom hbd hends ls' H' locs' cells' slots' rel')
