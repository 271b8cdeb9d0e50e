theorem sf_146_52_1_5_k3_8 {sc : List Int} {d : Nat} {φ : hf_F} {x : Nat} {Q : Option jm_V → hf_F → Nat → Prop}  (hI : Inv φ)  (hQ : ∀ (r : Int) (ψ : hf_F), Inv ψ → Fr [53, 54, 55, 2004, 2005, 2006, 2007, 2008, 2009, 2010, 53003, 53004] φ ψ → 0 ≤ r ∧ r ≤ 1 → F_Sentence_readCond_52_1_5_k3_8 φ = (r, ψ) → Q (some (0, r)) ψ x) : hw sc (d + 7) 146 0 [(0, (2, 52)), (1, (2, 1)), (2, (2, 5)), (3, (0, 8))] [] φ x Q := by
  have h := sfg_146 (sc := sc) (d := d + 2) (D := 8) (by decide) (by decide) (fo := F_Sentence_readOne_52_1_5_k3_8) (fun hI2 hQ2 => sf_147_52_1_5_k3_8 (d := d) hI2 hQ2) (φ := φ) (x := x) (Q := Q) hI hQ
  exact h
theorem sf_147_52_1_5_k3_7 {sc : List Int} {d : Nat} {φ : hf_F} {x : Nat} {Q : Option jm_V → hf_F → Nat → Prop}  (hI : Inv φ)  (hQ : ∀ (r : Int) (ψ : hf_F), Inv ψ → Fr [53, 54, 55, 2004, 2005, 2006, 2007, 2008, 2009, 2010, 53003, 53004] φ ψ → 0 ≤ r ∧ r ≤ 1 → F_Sentence_readOne_52_1_5_k3_7 φ = (r, ψ) → Q (some (0, r)) ψ x) : hw sc (d + 8) 147 0 [(0, (2, 52)), (1, (2, 1)), (2, (2, 5)), (3, (0, 7))] [] φ x Q := by
  have h := sfg_147 (sc := sc) (d := d + 2) (D := 7) (by decide) (by decide) (fc := F_Sentence_readCond_52_1_5_k3_8) (fo := F_Sentence_readOne_52_1_5_k3_8) (fun hI2 hQ2 => sf_147_52_1_5_k3_8 (d := d + 1) hI2 hQ2) (fun hI2 hQ2 => sf_146_52_1_5_k3_8 (d := d) hI2 hQ2) (φ := φ) (x := x) (Q := Q) hI hQ
  exact h
theorem sf_146_52_1_5_k3_7 {sc : List Int} {d : Nat} {φ : hf_F} {x : Nat} {Q : Option jm_V → hf_F → Nat → Prop}  (hI : Inv φ)  (hQ : ∀ (r : Int) (ψ : hf_F), Inv ψ → Fr [53, 54, 55, 2004, 2005, 2006, 2007, 2008, 2009, 2010, 53003, 53004] φ ψ → 0 ≤ r ∧ r ≤ 1 → F_Sentence_readCond_52_1_5_k3_7 φ = (r, ψ) → Q (some (0, r)) ψ x) : hw sc (d + 9) 146 0 [(0, (2, 52)), (1, (2, 1)), (2, (2, 5)), (3, (0, 7))] [] φ x Q := by
  have h := sfg_146 (sc := sc) (d := d + 4) (D := 7) (by decide) (by decide) (fo := F_Sentence_readOne_52_1_5_k3_7) (fun hI2 hQ2 => sf_147_52_1_5_k3_7 (d := d) hI2 hQ2) (φ := φ) (x := x) (Q := Q) hI hQ
  exact h
theorem sf_147_52_1_5_k3_6 {sc : List Int} {d : Nat} {φ : hf_F} {x : Nat} {Q : Option jm_V → hf_F → Nat → Prop}  (hI : Inv φ)  (hQ : ∀ (r : Int) (ψ : hf_F), Inv ψ → Fr [53, 54, 55, 2004, 2005, 2006, 2007, 2008, 2009, 2010, 53003, 53004] φ ψ → 0 ≤ r ∧ r ≤ 1 → F_Sentence_readOne_52_1_5_k3_6 φ = (r, ψ) → Q (some (0, r)) ψ x) : hw sc (d + 10) 147 0 [(0, (2, 52)), (1, (2, 1)), (2, (2, 5)), (3, (0, 6))] [] φ x Q := by
  have h := sfg_147 (sc := sc) (d := d + 4) (D := 6) (by decide) (by decide) (fc := F_Sentence_readCond_52_1_5_k3_7) (fo := F_Sentence_readOne_52_1_5_k3_7) (fun hI2 hQ2 => sf_147_52_1_5_k3_7 (d := d + 1) hI2 hQ2) (fun hI2 hQ2 => sf_146_52_1_5_k3_7 (d := d) hI2 hQ2) (φ := φ) (x := x) (Q := Q) hI hQ
  exact h
theorem sf_146_52_1_5_k3_6 {sc : List Int} {d : Nat} {φ : hf_F} {x : Nat} {Q : Option jm_V → hf_F → Nat → Prop}  (hI : Inv φ)  (hQ : ∀ (r : Int) (ψ : hf_F), Inv ψ → Fr [53, 54, 55, 2004, 2005, 2006, 2007, 2008, 2009, 2010, 53003, 53004] φ ψ → 0 ≤ r ∧ r ≤ 1 → F_Sentence_readCond_52_1_5_k3_6 φ = (r, ψ) → Q (some (0, r)) ψ x) : hw sc (d + 11) 146 0 [(0, (2, 52)), (1, (2, 1)), (2, (2, 5)), (3, (0, 6))] [] φ x Q := by
  have h := sfg_146 (sc := sc) (d := d + 6) (D := 6) (by decide) (by decide) (fo := F_Sentence_readOne_52_1_5_k3_6) (fun hI2 hQ2 => sf_147_52_1_5_k3_6 (d := d) hI2 hQ2) (φ := φ) (x := x) (Q := Q) hI hQ
  exact h
theorem sf_147_52_1_5_k3_5 {sc : List Int} {d : Nat} {φ : hf_F} {x : Nat} {Q : Option jm_V → hf_F → Nat → Prop}  (hI : Inv φ)  (hQ : ∀ (r : Int) (ψ : hf_F), Inv ψ → Fr [53, 54, 55, 2004, 2005, 2006, 2007, 2008, 2009, 2010, 53003, 53004] φ ψ → 0 ≤ r ∧ r ≤ 1 → F_Sentence_readOne_52_1_5_k3_5 φ = (r, ψ) → Q (some (0, r)) ψ x) : hw sc (d + 12) 147 0 [(0, (2, 52)), (1, (2, 1)), (2, (2, 5)), (3, (0, 5))] [] φ x Q := by
  have h := sfg_147 (sc := sc) (d := d + 6) (D := 5) (by decide) (by decide) (fc := F_Sentence_readCond_52_1_5_k3_6) (fo := F_Sentence_readOne_52_1_5_k3_6) (fun hI2 hQ2 => sf_147_52_1_5_k3_6 (d := d + 1) hI2 hQ2) (fun hI2 hQ2 => sf_146_52_1_5_k3_6 (d := d) hI2 hQ2) (φ := φ) (x := x) (Q := Q) hI hQ
  exact h
theorem sf_146_52_1_5_k3_5 {sc : List Int} {d : Nat} {φ : hf_F} {x : Nat} {Q : Option jm_V → hf_F → Nat → Prop}  (hI : Inv φ)  (hQ : ∀ (r : Int) (ψ : hf_F), Inv ψ → Fr [53, 54, 55, 2004, 2005, 2006, 2007, 2008, 2009, 2010, 53003, 53004] φ ψ → 0 ≤ r ∧ r ≤ 1 → F_Sentence_readCond_52_1_5_k3_5 φ = (r, ψ) → Q (some (0, r)) ψ x) : hw sc (d + 13) 146 0 [(0, (2, 52)), (1, (2, 1)), (2, (2, 5)), (3, (0, 5))] [] φ x Q := by
  have h := sfg_146 (sc := sc) (d := d + 8) (D := 5) (by decide) (by decide) (fo := F_Sentence_readOne_52_1_5_k3_5) (fun hI2 hQ2 => sf_147_52_1_5_k3_5 (d := d) hI2 hQ2) (φ := φ) (x := x) (Q := Q) hI hQ
  exact h
theorem sf_147_52_1_5_k3_4 {sc : List Int} {d : Nat} {φ : hf_F} {x : Nat} {Q : Option jm_V → hf_F → Nat → Prop}  (hI : Inv φ)  (hQ : ∀ (r : Int) (ψ : hf_F), Inv ψ → Fr [53, 54, 55, 2004, 2005, 2006, 2007, 2008, 2009, 2010, 53003, 53004] φ ψ → 0 ≤ r ∧ r ≤ 1 → F_Sentence_readOne_52_1_5_k3_4 φ = (r, ψ) → Q (some (0, r)) ψ x) : hw sc (d + 14) 147 0 [(0, (2, 52)), (1, (2, 1)), (2, (2, 5)), (3, (0, 4))] [] φ x Q := by
  have h := sfg_147 (sc := sc) (d := d + 8) (D := 4) (by decide) (by decide) (fc := F_Sentence_readCond_52_1_5_k3_5) (fo := F_Sentence_readOne_52_1_5_k3_5) (fun hI2 hQ2 => sf_147_52_1_5_k3_5 (d := d + 1) hI2 hQ2) (fun hI2 hQ2 => sf_146_52_1_5_k3_5 (d := d) hI2 hQ2) (φ := φ) (x := x) (Q := Q) hI hQ
  exact h
theorem sf_146_52_1_5_k3_4 {sc : List Int} {d : Nat} {φ : hf_F} {x : Nat} {Q : Option jm_V → hf_F → Nat → Prop}  (hI : Inv φ)  (hQ : ∀ (r : Int) (ψ : hf_F), Inv ψ → Fr [53, 54, 55, 2004, 2005, 2006, 2007, 2008, 2009, 2010, 53003, 53004] φ ψ → 0 ≤ r ∧ r ≤ 1 → F_Sentence_readCond_52_1_5_k3_4 φ = (r, ψ) → Q (some (0, r)) ψ x) : hw sc (d + 15) 146 0 [(0, (2, 52)), (1, (2, 1)), (2, (2, 5)), (3, (0, 4))] [] φ x Q := by
  have h := sfg_146 (sc := sc) (d := d + 10) (D := 4) (by decide) (by decide) (fo := F_Sentence_readOne_52_1_5_k3_4) (fun hI2 hQ2 => sf_147_52_1_5_k3_4 (d := d) hI2 hQ2) (φ := φ) (x := x) (Q := Q) hI hQ
  exact h
theorem sf_147_52_1_5_k3_3 {sc : List Int} {d : Nat} {φ : hf_F} {x : Nat} {Q : Option jm_V → hf_F → Nat → Prop}  (hI : Inv φ)  (hQ : ∀ (r : Int) (ψ : hf_F), Inv ψ → Fr [53, 54, 55, 2004, 2005, 2006, 2007, 2008, 2009, 2010, 53003, 53004] φ ψ → 0 ≤ r ∧ r ≤ 1 → F_Sentence_readOne_52_1_5_k3_3 φ = (r, ψ) → Q (some (0, r)) ψ x) : hw sc (d + 16) 147 0 [(0, (2, 52)), (1, (2, 1)), (2, (2, 5)), (3, (0, 3))] [] φ x Q := by
  have h := sfg_147 (sc := sc) (d := d + 10) (D := 3) (by decide) (by decide) (fc := F_Sentence_readCond_52_1_5_k3_4) (fo := F_Sentence_readOne_52_1_5_k3_4) (fun hI2 hQ2 => sf_147_52_1_5_k3_4 (d := d + 1) hI2 hQ2) (fun hI2 hQ2 => sf_146_52_1_5_k3_4 (d := d) hI2 hQ2) (φ := φ) (x := x) (Q := Q) hI hQ
  exact h
theorem sf_146_52_1_5_k3_3 {sc : List Int} {d : Nat} {φ : hf_F} {x : Nat} {Q : Option jm_V → hf_F → Nat → Prop}  (hI : Inv φ)  (hQ : ∀ (r : Int) (ψ : hf_F), Inv ψ → Fr [53, 54, 55, 2004, 2005, 2006, 2007, 2008, 2009, 2010, 53003, 53004] φ ψ → 0 ≤ r ∧ r ≤ 1 → F_Sentence_readCond_52_1_5_k3_3 φ = (r, ψ) → Q (some (0, r)) ψ x) : hw sc (d + 17) 146 0 [(0, (2, 52)), (1, (2, 1)), (2, (2, 5)), (3, (0, 3))] [] φ x Q := by
  have h := sfg_146 (sc := sc) (d := d + 12) (D := 3) (by decide) (by decide) (fo := F_Sentence_readOne_52_1_5_k3_3) (fun hI2 hQ2 => sf_147_52_1_5_k3_3 (d := d) hI2 hQ2) (φ := φ) (x := x) (Q := Q) hI hQ
  exact h
theorem sf_147_52_1_5_k3_2 {sc : List Int} {d : Nat} {φ : hf_F} {x : Nat} {Q : Option jm_V → hf_F → Nat → Prop}  (hI : Inv φ)  (hQ : ∀ (r : Int) (ψ : hf_F), Inv ψ → Fr [53, 54, 55, 2004, 2005, 2006, 2007, 2008, 2009, 2010, 53003, 53004] φ ψ → 0 ≤ r ∧ r ≤ 1 → F_Sentence_readOne_52_1_5_k3_2 φ = (r, ψ) → Q (some (0, r)) ψ x) : hw sc (d + 18) 147 0 [(0, (2, 52)), (1, (2, 1)), (2, (2, 5)), (3, (0, 2))] [] φ x Q := by
  have h := sfg_147 (sc := sc) (d := d + 12) (D := 2) (by decide) (by decide) (fc := F_Sentence_readCond_52_1_5_k3_3) (fo := F_Sentence_readOne_52_1_5_k3_3) (fun hI2 hQ2 => sf_147_52_1_5_k3_3 (d := d + 1) hI2 hQ2) (fun hI2 hQ2 => sf_146_52_1_5_k3_3 (d := d) hI2 hQ2) (φ := φ) (x := x) (Q := Q) hI hQ
  exact h
theorem sf_146_52_1_5_k3_2 {sc : List Int} {d : Nat} {φ : hf_F} {x : Nat} {Q : Option jm_V → hf_F → Nat → Prop}  (hI : Inv φ)  (hQ : ∀ (r : Int) (ψ : hf_F), Inv ψ → Fr [53, 54, 55, 2004, 2005, 2006, 2007, 2008, 2009, 2010, 53003, 53004] φ ψ → 0 ≤ r ∧ r ≤ 1 → F_Sentence_readCond_52_1_5_k3_2 φ = (r, ψ) → Q (some (0, r)) ψ x) : hw sc (d + 19) 146 0 [(0, (2, 52)), (1, (2, 1)), (2, (2, 5)), (3, (0, 2))] [] φ x Q := by
  have h := sfg_146 (sc := sc) (d := d + 14) (D := 2) (by decide) (by decide) (fo := F_Sentence_readOne_52_1_5_k3_2) (fun hI2 hQ2 => sf_147_52_1_5_k3_2 (d := d) hI2 hQ2) (φ := φ) (x := x) (Q := Q) hI hQ
  exact h
theorem sf_147_52_1_5_k3_1 {sc : List Int} {d : Nat} {φ : hf_F} {x : Nat} {Q : Option jm_V → hf_F → Nat → Prop}  (hI : Inv φ)  (hQ : ∀ (r : Int) (ψ : hf_F), Inv ψ → Fr [53, 54, 55, 2004, 2005, 2006, 2007, 2008, 2009, 2010, 53003, 53004] φ ψ → 0 ≤ r ∧ r ≤ 1 → F_Sentence_readOne_52_1_5_k3_1 φ = (r, ψ) → Q (some (0, r)) ψ x) : hw sc (d + 20) 147 0 [(0, (2, 52)), (1, (2, 1)), (2, (2, 5)), (3, (0, 1))] [] φ x Q := by
  have h := sfg_147 (sc := sc) (d := d + 14) (D := 1) (by decide) (by decide) (fc := F_Sentence_readCond_52_1_5_k3_2) (fo := F_Sentence_readOne_52_1_5_k3_2) (fun hI2 hQ2 => sf_147_52_1_5_k3_2 (d := d + 1) hI2 hQ2) (fun hI2 hQ2 => sf_146_52_1_5_k3_2 (d := d) hI2 hQ2) (φ := φ) (x := x) (Q := Q) hI hQ
  exact h
theorem sf_146_52_1_5_k3_1 {sc : List Int} {d : Nat} {φ : hf_F} {x : Nat} {Q : Option jm_V → hf_F → Nat → Prop}  (hI : Inv φ)  (hQ : ∀ (r : Int) (ψ : hf_F), Inv ψ → Fr [53, 54, 55, 2004, 2005, 2006, 2007, 2008, 2009, 2010, 53003, 53004] φ ψ → 0 ≤ r ∧ r ≤ 1 → F_Sentence_readCond_52_1_5_k3_1 φ = (r, ψ) → Q (some (0, r)) ψ x) : hw sc (d + 21) 146 0 [(0, (2, 52)), (1, (2, 1)), (2, (2, 5)), (3, (0, 1))] [] φ x Q := by
  have h := sfg_146 (sc := sc) (d := d + 16) (D := 1) (by decide) (by decide) (fo := F_Sentence_readOne_52_1_5_k3_1) (fun hI2 hQ2 => sf_147_52_1_5_k3_1 (d := d) hI2 hQ2) (φ := φ) (x := x) (Q := Q) hI hQ
  exact h
theorem sf_145_52_1_5_v {sc : List Int} {d : Nat} {φ : hf_F} {x : Nat} {Q : Option jm_V → hf_F → Nat → Prop} 
    (H : hw sc (d + 21) 63 0 [(0, (2, 52))] [] φ x (fun r ψ1 y1 => y1 = x ∧ (r = none ∧ (hw sc (d + 21) 28 0 [(0, (2, 1)), (1, (0, 200))] [] ψ1 x (fun r ψ2 y2 => y2 = x ∧ (r = none ∧ (hw sc (d + 21) 146 0 [(0, (2, 52)), (1, (2, 1)), (2, (2, 5)), (3, (0, 1))] [] ψ2 x (fun r ψ3 y3 => y3 = x ∧ (∃ z3 : Int, r = some (0, z3) ∧ (hi z3 ∧ (¬ z3 = 0 → hi (ψ3 1 5) ∧ ((ψ3 1 5) = 0 → Q (some (0, 1)) (hf_up ψ3 52 5 1) x) ∧ (¬ (ψ3 1 5) = 0 → hw sc (d + 21) 37 0 [(0, (2, 1)), (1, (0, 1))] [] ψ3 x (fun r ψ7 y7 => y7 = x ∧ (∃ z7 : Int, r = some (0, z7) ∧ ((z7 = 0 ∨ z7 = 1) ∧ Q (some (0, z7)) ψ7 x))))) ∧ (¬ (¬ z3 = 0) → Q (some (0, 0)) ψ3 x))))))))))) :
    hw sc (d + 22) 145 0 [(0, (2, 52)), (1, (2, 1)), (2, (2, 5))] [] φ x Q := by
  refine hw_ald (b := 0) (e := 0) (by decide +kernel) rfl (by decide) ?_
  refine hr_call (a0 := 15) (b := 63) (e := 1) (nl := 1) (As := []) (R := []) 52 rfl (by decide +kernel) rfl rfl (Nat.le_of_ble_eq_true rfl) (Nat.le_of_ble_eq_true rfl) ?_
  refine hw_mono H ?_
  rintro r ψ1 y1 ⟨hyx, hr, H⟩
  subst hyx
  subst hr
  refine ⟨hnen, ?_⟩
  show hw sc (d + 22) 145 4 [(0, (2, 52)), (1, (2, 1)), (2, (2, 5))] [] ψ1 y1 Q
  refine hw_ald (b := 1) (e := 0) (by decide +kernel) rfl (by decide) ?_
  refine hw_k (c := 200) (b := 2) (e := 3) (by decide +kernel) ?_
  refine hr_call (a0 := 11) (b := 28) (e := 2) (nl := 2) (As := [(0, 200)]) (R := []) 1 rfl (by decide +kernel) rfl rfl (Nat.le_of_ble_eq_true rfl) (Nat.le_of_ble_eq_true rfl) ?_
  refine hw_mono H ?_
  rintro r ψ2 y2 ⟨hyx, hr, H⟩
  subst hyx
  subst hr
  refine ⟨hnen, ?_⟩
  show hw sc (d + 22) 145 11 [(0, (2, 52)), (1, (2, 1)), (2, (2, 5))] [] ψ2 y2 Q
  refine hw_ald (b := 0) (e := 0) (by decide +kernel) rfl (by decide) ?_
  refine hw_ald (b := 1) (e := 0) (by decide +kernel) rfl (by decide) ?_
  refine hw_ald (b := 2) (e := 0) (by decide +kernel) rfl (by decide) ?_
  refine hw_k (c := 1) (b := 0) (e := 1) (by decide +kernel) ?_
  refine hr_call (a0 := 15) (b := 146) (e := 4) (nl := 7) (As := [(2, 1), (2, 5), (0, 1)]) (R := []) 52 rfl (by decide +kernel) rfl rfl (Nat.le_of_ble_eq_true rfl) (Nat.le_of_ble_eq_true rfl) ?_
  refine hw_mono H ?_
  rintro r ψ3 y3 ⟨hyx, z3, hr, H⟩
  subst hyx
  subst hr
  refine ⟨hne0, ?_⟩
  show hw sc (d + 22) 145 18 [(0, (2, 52)), (1, (2, 1)), (2, (2, 5))] [(0, z3)] ψ3 y3 Q
  obtain ⟨hz4, ht4, hf4⟩ := H
  refine hw_if (a0 := 0) (b := 1) (e := 23) (by decide +kernel) hz4 (fun q => ?_) (fun q => ?_)
  · have H := ht4 q
    refine hw_ald (b := 1) (e := 0) (by decide +kernel) rfl (by decide) ?_
    refine hr_gi (w := ψ3 1 5) (b := 1) (e := 5) 1 rfl (by decide +kernel) rfl ?_
    obtain ⟨hz5, ht5, hf5⟩ := H
    refine hw_if (a0 := 0) (b := 0) (e := 36) (by decide +kernel) hz5 (fun q => ?_) (fun q => ?_)
    · have H := ht5 q
      refine hw_ald (b := 0) (e := 0) (by decide +kernel) rfl (by decide) ?_
      refine hw_k (c := 1) (b := 0) (e := 1) (by decide +kernel) ?_
      refine hr_pz (b := 5) (e := 5) 52 rfl (by decide +kernel) (by decide) ?_
      refine hw_k (c := 1) (b := 0) (e := 1) (by decide +kernel) ?_
      exact hw_ret (a0 := 0) (e := 1) (by decide +kernel) (Or.inr ⟨rfl, by decide⟩) H
    · have H := hf5 q
      refine hw_ald (b := 1) (e := 0) (by decide +kernel) rfl (by decide) ?_
      refine hw_k (c := 1) (b := 0) (e := 1) (by decide +kernel) ?_
      refine hr_call (a0 := 11) (b := 37) (e := 2) (nl := 2) (As := [(0, 1)]) (R := []) 1 rfl (by decide +kernel) rfl rfl (Nat.le_of_ble_eq_true rfl) (Nat.le_of_ble_eq_true rfl) ?_
      refine hw_mono H ?_
      rintro r ψ7 y7 ⟨hyx, z7, hr, H⟩
      subst hyx
      subst hr
      refine ⟨hne0, ?_⟩
      show hw sc (d + 22) 145 35 [(0, (2, 52)), (1, (2, 1)), (2, (2, 5))] [(0, z7)] ψ7 y7 Q
      exact hw_ret (a0 := 0) (e := 1) (by decide +kernel) (Or.inr ⟨rfl, H.1⟩) H.2
  · have H := hf4 q
    refine hw_k (c := 0) (b := 0) (e := 1) (by decide +kernel) ?_
    exact hw_ret (a0 := 0) (e := 1) (by decide +kernel) (Or.inr ⟨rfl, by decide⟩) H
theorem sf_145_52_1_5 {sc : List Int} {d : Nat} {φ : hf_F} {x : Nat} {Q : Option jm_V → hf_F → Nat → Prop}  (hI : Inv φ)  (hQ : ∀ (r : Int) (ψ : hf_F), Inv ψ → Fr [53, 54, 55, 2003, 2004, 2005, 2006, 2007, 2008, 2009, 2010, 53003, 53004, 53005] φ ψ → 0 ≤ r ∧ r ≤ 1 → F_Sentence_readAll_52_1_5 φ = (r, ψ) → Q (some (0, r)) ψ x) : hw sc (d + 22) 145 0 [(0, (2, 52)), (1, (2, 1)), (2, (2, 5))] [] φ x Q := by
  apply sf_145_52_1_5_v
  have e0 : F_Sentence_readAll_52_1_5 φ = _ := rfl
  refine sf_63_52 (φ := φ) hI  (fun ψ1 hI1 hF1 hE1 => ⟨rfl, rfl, ?_⟩)
  have hG1 : Fr [53, 54, 55, 2003, 2004, 2005, 2006, 2007, 2008, 2009, 2010, 53003, 53004, 53005] φ ψ1 := fr_tr (fr_rf) hF1 (by decide)
  have e1 := e0.trans (bnv_e hE1)
  refine sf_28_1 (φ := ψ1) hI1 (by omega) (by omega) (fun ψ2 hI2 hF2 hE2 => ⟨rfl, rfl, ?_⟩)
  have hG2 : Fr [53, 54, 55, 2003, 2004, 2005, 2006, 2007, 2008, 2009, 2010, 53003, 53004, 53005] φ ψ2 := fr_tr hG1 hF2 (by decide)
  have e2 := e1.trans (bnv_e hE2)
  refine sf_146_52_1_5_k3_1 (φ := ψ2) hI2  (fun z3 ψ3 hI3 hF3 hp3 hE3 => ⟨rfl, z3, rfl, ?_⟩)
  have hG3 : Fr [53, 54, 55, 2003, 2004, 2005, 2006, 2007, 2008, 2009, 2010, 53003, 53004, 53005] φ ψ3 := fr_tr hG2 hF3 (by decide)
  have e3 := e2.trans (bnd_e hE3)
  refine ⟨by unfold hi; omega, fun q4 => ?_, fun q4 => ?_⟩
  · skip
    have e4a := e3.trans (if_pos q4)
    have f1 := iv_at (a := 1) (k := 5) (lo := 0) (u := 5) hI3 (by decide +kernel)
    refine ⟨by unfold hi; omega, fun q5 => ?_, fun q5 => ?_⟩
    · skip
      have e5a := e4a.trans (if_pos q5)
      have i2 : Inv (hf_up ψ3 52 5 1) := iv_up (lo := 0) (u := 1) hI3 (by decide +kernel) (by omega) (by omega)
      have r2 : Fr [53, 54, 55, 2003, 2004, 2005, 2006, 2007, 2008, 2009, 2010, 53003, 53004, 53005] φ (hf_up ψ3 52 5 1) := fr_up hG3 (by decide)
      exact hQ 1 (hf_up ψ3 52 5 1) i2 r2 ⟨by omega, by omega⟩ e5a
    · skip
      have e5b := e4a.trans (if_neg q5)
      refine sf_37_1 (φ := ψ3) hI3 (by omega) (by omega) (fun z7 ψ7 hI7 hF7 hp7 hE7 => ⟨rfl, z7, rfl, ?_⟩)
      have hG7 : Fr [53, 54, 55, 2003, 2004, 2005, 2006, 2007, 2008, 2009, 2010, 53003, 53004, 53005] φ ψ7 := fr_tr hG3 hF7 (by decide)
      have e7 := e5b.trans (bnd_e hE7)
      refine ⟨by omega, ?_⟩
      exact hQ z7 ψ7 hI7 hG7 ⟨by omega, by omega⟩ e7
  · skip
    have e4b := e3.trans (if_neg q4)
    exact hQ 0 ψ3 hI3 hG3 ⟨by omega, by omega⟩ e4b
theorem sf_144_0_v {sc : List Int} {d : Nat} {φ : hf_F} {x : Nat} {Q : Option jm_V → hf_F → Nat → Prop} 
    (H : hw sc (d + 22) 145 0 [(0, (2, 52)), (1, (2, 1)), (2, (2, 5))] [] φ x (fun r ψ1 y1 => y1 = x ∧ (∃ z1 : Int, r = some (0, z1) ∧ (hw sc (d + 22) 62 0 [(0, (2, 0))] [] ψ1 x (fun r ψ2 y2 => y2 = x ∧ (r = none ∧ (hi z1 ∧ (¬ z1 = 0 → hw sc (d + 22) 67 0 [(0, (2, 26)), (1, (2, 52))] [] ψ2 x (fun r ψ4 y4 => y4 = x ∧ (r = none ∧ (Q (some (0, ψ4 26 4)) ψ4 x)))) ∧ (¬ (¬ z1 = 0) → Q (some (0, (-1 : Int) - (ψ2 1 10))) ψ2 x)))))))) :
    hw sc (d + 23) 144 0 [(0, (2, 0))] [] φ x Q := by
  refine hw_ald (b := 0) (e := 0) (by decide +kernel) rfl (by decide) ?_
  refine hr_gr (w := 30) (b := 0) (e := 2) 0 rfl (by decide +kernel) ?_
  refine hr_gr (w := 52) (b := 2) (e := 2) 30 rfl (by decide +kernel) ?_
  refine hw_ald (b := 0) (e := 0) (by decide +kernel) rfl (by decide) ?_
  refine hr_gr (w := 1) (b := 0) (e := 0) 0 rfl (by decide +kernel) ?_
  refine hw_ald (b := 0) (e := 0) (by decide +kernel) rfl (by decide) ?_
  refine hr_gr (w := 4) (b := 0) (e := 1) 0 rfl (by decide +kernel) ?_
  refine hr_gr (w := 5) (b := 2) (e := 0) 4 rfl (by decide +kernel) ?_
  refine hr_call (a0 := 15) (b := 145) (e := 3) (nl := 3) (As := [(2, 1), (2, 5)]) (R := []) 52 rfl (by decide +kernel) rfl rfl (Nat.le_of_ble_eq_true rfl) (Nat.le_of_ble_eq_true rfl) ?_
  refine hw_mono H ?_
  rintro r ψ1 y1 ⟨hyx, z1, hr, H⟩
  subst hyx
  subst hr
  refine ⟨hne0, ?_⟩
  show hw sc (d + 23) 144 21 [(0, (2, 0))] [(0, z1)] ψ1 y1 Q
  refine hw_st (L' := (jm_st1 [(0, (2, 0))] 1 (0, z1))) (b := 1) (e := 0) (by decide +kernel) rfl ?_
  refine hw_ald (b := 0) (e := 0) (by decide +kernel) (get_st1 rfl (by decide) (fun q => tg2 q.2)) (by decide) ?_
  refine hr_call (a0 := 10) (b := 62) (e := 1) (nl := 1) (As := []) (R := []) 0 rfl (by decide +kernel) rfl rfl (Nat.le_of_ble_eq_true rfl) (Nat.le_of_ble_eq_true rfl) ?_
  refine hw_mono H ?_
  rintro r ψ2 y2 ⟨hyx, hr, H⟩
  subst hyx
  subst hr
  refine ⟨hnen, ?_⟩
  show hw sc (d + 23) 144 26 (jm_st1 [(0, (2, 0))] 1 (0, z1)) [] ψ2 y2 Q
  refine hw_ld (b := 1) (e := 0) (by decide +kernel) get_st1e ?_
  obtain ⟨hz3, ht3, hf3⟩ := H
  refine hw_if (a0 := 0) (b := 1) (e := 40) (by decide +kernel) hz3 (fun q => ?_) (fun q => ?_)
  · have H := ht3 q
    refine hw_ald (b := 0) (e := 0) (by decide +kernel) (get_st1 rfl (by decide) (fun q => tg2 q.2)) (by decide) ?_
    refine hr_gr (w := 4) (b := 0) (e := 1) 0 rfl (by decide +kernel) ?_
    refine hr_gr (w := 26) (b := 2) (e := 2) 4 rfl (by decide +kernel) ?_
    refine hw_ald (b := 0) (e := 0) (by decide +kernel) (get_st1 rfl (by decide) (fun q => tg2 q.2)) (by decide) ?_
    refine hr_gr (w := 30) (b := 0) (e := 2) 0 rfl (by decide +kernel) ?_
    refine hr_gr (w := 52) (b := 2) (e := 2) 30 rfl (by decide +kernel) ?_
    refine hr_call (a0 := 15) (b := 67) (e := 2) (nl := 2) (As := [(2, 52)]) (R := []) 26 rfl (by decide +kernel) rfl rfl (Nat.le_of_ble_eq_true rfl) (Nat.le_of_ble_eq_true rfl) ?_
    refine hw_mono H ?_
    rintro r ψ4 y4 ⟨hyx, hr, H⟩
    subst hyx
    subst hr
    refine ⟨hnen, ?_⟩
    show hw sc (d + 23) 144 57 (jm_st1 [(0, (2, 0))] 1 (0, z1)) [] ψ4 y4 Q
    refine hw_ald (b := 0) (e := 0) (by decide +kernel) (get_st1 rfl (by decide) (fun q => tg2 q.2)) (by decide) ?_
    refine hr_gr (w := 4) (b := 0) (e := 1) 0 rfl (by decide +kernel) ?_
    refine hr_gr (w := 26) (b := 2) (e := 2) 4 rfl (by decide +kernel) ?_
    refine hr_gi (w := ψ4 26 4) (b := 5) (e := 4) 26 rfl (by decide +kernel) rfl ?_
    exact hw_ret (a0 := 0) (e := 0) (by decide +kernel) (Or.inl rfl) H
  · have H := hf3 q
    refine hw_k (c := (-1 : Int)) (b := 0) (e := 1) (by decide +kernel) ?_
    refine hw_ald (b := 0) (e := 0) (by decide +kernel) (get_st1 rfl (by decide) (fun q => tg2 q.2)) (by decide) ?_
    refine hr_gr (w := 1) (b := 0) (e := 0) 0 rfl (by decide +kernel) ?_
    refine hr_gi (w := ψ2 1 10) (b := 1) (e := 10) 1 rfl (by decide +kernel) rfl ?_
    refine hw_bin (w := (-1 : Int) - (ψ2 1 10)) (a0 := 0) (b := 1) (e := 0) (by decide +kernel) rfl ?_
    exact hw_ret (a0 := 0) (e := 0) (by decide +kernel) (Or.inl rfl) H
theorem sf_144_0 {sc : List Int} {d : Nat} {φ : hf_F} {x : Nat} {Q : Option jm_V → hf_F → Nat → Prop}  (hI : Inv φ)  (hQ : ∀ (r : Int) (ψ : hf_F), Inv ψ → Fr [27, 28, 29, 53, 54, 55, 1012, 2002, 2003, 2004, 2005, 2006, 2007, 2008, 2009, 2010, 27003, 27004, 27005, 53003, 53004, 53005] φ ψ → True ∧ (ψ 1 2 = 0) → F_RideLaws_sentence_0 φ = (r, ψ) → Q (some (0, r)) ψ x) : hw sc (d + 23) 144 0 [(0, (2, 0))] [] φ x Q := by
  apply sf_144_0_v
  have e0 : F_RideLaws_sentence_0 φ = _ := rfl
  refine sf_145_52_1_5 (φ := φ) hI  (fun z1 ψ1 hI1 hF1 hp1 hE1 => ⟨rfl, z1, rfl, ?_⟩)
  have hG1 : Fr [27, 28, 29, 53, 54, 55, 1012, 2002, 2003, 2004, 2005, 2006, 2007, 2008, 2009, 2010, 27003, 27004, 27005, 53003, 53004, 53005] φ ψ1 := fr_tr (fr_rf) hF1 (by decide)
  have e1 := e0.trans (bnd_e hE1)
  refine sf_62_0 (φ := ψ1) hI1  (fun ψ2 hI2 hF2 hV2 hE2 => ⟨rfl, rfl, ?_⟩)
  have hG2 : Fr [27, 28, 29, 53, 54, 55, 1012, 2002, 2003, 2004, 2005, 2006, 2007, 2008, 2009, 2010, 27003, 27004, 27005, 53003, 53004, 53005] φ ψ2 := fr_tr hG1 hF2 (by decide)
  have f1 := iv_at (a := 1) (k := 2) (lo := 0) (u := 940) hI2 (by decide +kernel)
  have e2 := e1.trans (bnv_e hE2)
  refine ⟨by unfold hi; omega, fun q3 => ?_, fun q3 => ?_⟩
  · skip
    have e3a := e2.trans (if_pos q3)
    refine sf_67_26_52 (φ := ψ2) hI2  (fun ψ4 hI4 hF4 hE4 => ⟨rfl, rfl, ?_⟩)
    have hG4 : Fr [27, 28, 29, 53, 54, 55, 1012, 2002, 2003, 2004, 2005, 2006, 2007, 2008, 2009, 2010, 27003, 27004, 27005, 53003, 53004, 53005] φ ψ4 := fr_tr hG2 hF4 (by decide)
    have e4 := e3a.trans (bnv_e hE4)
    have f2 := iv_at (a := 26) (k := 4) (lo := 0) (u := 20) hI4 (by decide +kernel)
    have f3 := iv_at (a := 1) (k := 2) (lo := 0) (u := 940) hI4 (by decide +kernel)
    have f4 : ψ4 1 2 = ψ2 1 2 := (fr_fd hF4 1 2 (by decide))
    exact hQ (ψ4 26 4) ψ4 hI4 hG4 ⟨trivial, by omega⟩ e4
  · skip
    have e3b := e2.trans (if_neg q3)
    have f5 := iv_at (a := 1) (k := 10) (lo := 0) (u := 940) hI2 (by decide +kernel)
    have f6 : ψ2 1 10 = ψ1 1 10 := (fr_fd hF2 1 10 (by decide))
    have f7 := iv_at (a := 1) (k := 10) (lo := 0) (u := 940) hI1 (by decide +kernel)
    exact hQ ((-1 : Int) - (ψ2 1 10)) ψ2 hI2 hG2 ⟨trivial, by omega⟩ e3b
