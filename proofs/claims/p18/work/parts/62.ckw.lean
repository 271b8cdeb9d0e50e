/-! cells that are read -/
noncomputable def CKW (φ ψ : hf_F) : Prop := ∀ a k : Nat, k < 1000 → (5 < a ∧ a ≤ 25) ∨ (a = 108 ∧ k = 1) ∨ a = 109 ∨ (110 ≤ a ∧ a ≤ 181) → ψ a k = φ a k
noncomputable def ckc (c : Nat) : Bool := if c < 1000 then !((decide (5 < c) && decide (c ≤ 25)) || decide (c = 109) || (decide (110 ≤ c) && decide (c ≤ 181))) else !((decide (5 < c / 1000 - 1) && decide (c / 1000 - 1 ≤ 25)) || (decide (c / 1000 - 1 = 108) && decide (c % 1000 = 1)) || (decide (110 ≤ c / 1000 - 1) && decide (c / 1000 - 1 ≤ 181)) || decide (c / 1000 - 1 = 109))
theorem fr_ck {ms : List Nat} {φ ψ : hf_F} (h : Fr ms φ ψ) (ck : ms.all ckc = true) : CKW φ ψ := by
  intro a k hk hq
  refine h a k ?_
  cases hm : ms.contains (vc a k) with
  | false => rfl
  | true =>
    exfalso
    have h2 := List.all_eq_true.mp ck (vc a k) (by simpa using hm)
    unfold vc at h2
    cases ho : g_obl.contains a with
    | false =>
      rw [ho, if_neg (by decide)] at h2
      unfold ckc at h2
      have hnk : ¬ (a = 108) := fun q => by rw [q] at ho; revert ho; decide
      rw [if_pos (by omega)] at h2
      simp only [Bool.not_eq_true', Bool.or_eq_false_iff, Bool.and_eq_false_iff, decide_eq_false_iff_not] at h2
      omega
    | true =>
      rw [ho, if_pos rfl] at h2
      unfold ckc at h2
      rw [if_neg (by omega), show (1000 * (a + 1) + k) / 1000 - 1 = a by omega, show (1000 * (a + 1) + k) % 1000 = k by omega] at h2
      simp only [Bool.not_eq_true', Bool.or_eq_false_iff, Bool.and_eq_false_iff, decide_eq_false_iff_not] at h2
      omega
theorem stg_w {b : Nat} {φ ψ : hf_F} {c m : Nat → Int} (hc : c 1 ≤ 8) (h : ∀ a k : Nat, k < 1000 → b ≤ a → a ≤ b + 8 → ψ a k = φ a k) (hs : STG b φ c m) : STG b ψ c m := by
  obtain ⟨⟨⟨s1, s2, s3, s4, s5, s6, s7, s8⟩, hsit, hrol, hhof⟩, hat⟩ := hs
  refine ⟨⟨⟨?_, ?_, ?_, ?_, ?_, ?_, s7, s8⟩, fun v hv => ?_, fun q hq => ?_, fun l hl => ?_⟩, fun i hi => ?_⟩
  · rw [h b 0 (by decide) (by omega) (by omega)]; exact s1
  · rw [h b 1 (by decide) (by omega) (by omega)]; exact s2
  · rw [h b 2 (by decide) (by omega) (by omega)]; exact s3
  · rw [h b 3 (by decide) (by omega) (by omega)]; exact s4
  · rw [h b 5 (by decide) (by omega) (by omega)]; exact s5
  · rw [h b 4 (by decide) (by omega) (by omega)]; exact s6
  · rw [h (b + 2) v (by omega) (by omega) (by omega)]; exact hsit v hv
  · obtain ⟨t1, t2, t3, t4, t5, t6, t7, t8, t9⟩ := hrol q hq
    unfold ROL
    rw [h (b + 3) q (by omega) (by omega) (by omega), h (b + 4) q (by omega) (by omega) (by omega), h (b + 6) q (by omega) (by omega) (by omega), h (b + 7) q (by omega) (by omega) (by omega)]
    refine ⟨t1, t2, t3, t4, t5, t6, t7, t8, fun k hk => ?_⟩
    rw [h (b + 5) _ (by omega) (by omega) (by omega)]
    exact t9 k hk
  · rw [h (b + 8) l (by omega) (by omega) (by omega)]; exact hhof l hl
  · rw [h (b + 1) i (by omega) (by omega) (by omega)]; exact hat i hi
theorem plg_w {p : Nat} {φ ψ : hf_F} {m nm : Nat → Int} (hb : CB m) (h : ∀ a k : Nat, k < 1000 → p < a → a ≤ p + 11 → ψ a k = φ a k) (hP : PLG p φ m nm) : PLG p ψ m nm := by
  unfold CB at hb
  obtain ⟨⟨a1, a2, a3, a4, a5⟩, ⟨n1, n2, n3, n4, n5⟩, r1, s1, l1, o1, k1⟩ := hP
  have c2 : ∀ k, k < 40 → ψ (p + 2) k = φ (p + 2) k := fun k hk => h (p + 2) k (by omega) (by omega) (by omega)
  refine ⟨⟨?_, ?_, ?_, ?_, ?_⟩, ⟨nmf_g n1 (fun i hi => c2 _ (by omega)), nmf_g n2 (fun i hi => c2 _ (by omega)), nmf_g n3 (fun i hi => c2 _ (by omega)), nmf_g n4 (fun i hi => c2 _ (by omega)), nmf_g n5 (fun i hi => c2 _ (by omega))⟩, fun i hi => ?_, fun i hi => ?_, fun i hi => ?_, fun a b ha hb' => ?_, fun i hi => ?_⟩
  · rw [h (p + 1) 0 (by omega) (by omega) (by omega)]; exact a1
  · rw [h (p + 1) 1 (by omega) (by omega) (by omega)]; exact a2
  · rw [h (p + 1) 2 (by omega) (by omega) (by omega)]; exact a3
  · rw [h (p + 1) 3 (by omega) (by omega) (by omega)]; exact a4
  · rw [h (p + 1) 4 (by omega) (by omega) (by omega)]; exact a5
  · rw [h (p + 3) i (by omega) (by omega) (by omega), h (p + 4) i (by omega) (by omega) (by omega)]; exact r1 i hi
  · rw [h (p + 5) i (by omega) (by omega) (by omega), h (p + 6) i (by omega) (by omega) (by omega), h (p + 7) i (by omega) (by omega) (by omega)]; exact s1 i hi
  · rw [h (p + 8) i (by omega) (by omega) (by omega), h (p + 9) i (by omega) (by omega) (by omega)]; exact l1 i hi
  · rw [h (p + 11) _ (by omega) (by omega) (by omega)]; exact o1 a b ha hb'
  · rw [h (p + 10) i (by omega) (by omega) (by omega)]; exact k1 i hi
theorem scr_w {φ ψ χ : hf_F} (hb : CB (χ 194)) (h : SCR φ χ) (hc : CKW φ ψ) : SCR ψ χ := by
  obtain ⟨a1, a2, ⟨b1, b2, b3, b4, b5⟩, a4⟩ := h
  have hbb := hb
  unfold CB at hbb
  refine ⟨plg_w hb (fun a k h1 h2 h3 => hc a k h1 (by omega)) a1, stg_w (by omega) (fun a k h1 h2 h3 => hc a k h1 (by omega)) a2, ⟨?_, b2, fun i hi => ?_, fun i j hi hj hij => ?_, fun j hj => ?_⟩, a4⟩
  · rw [hc 108 1 (by decide) (by omega)]; exact b1
  · rw [hc 109 i (by omega) (by omega)]; exact b3 i hi
  · rw [hc 109 i (by omega) (by omega), hc 109 j (by omega) (by omega)] at hij; exact b4 i j hi hj hij
  · rw [hc 109 j (by omega) (by omega)]
    obtain ⟨x1, x2⟩ := b5 j hj
    have hjr := bf_rng (b3 j (by omega))
    exact ⟨stg_w (by omega) (fun a k h1 h2 h3 => hc a k h1 (by omega)) x1, x2⟩
/-- the model's cells that are read -/
noncomputable def CKM (χ ξ : hf_F) : Prop := (∀ k, k < 180 → ξ 194 k = χ 194 k) ∧ (∀ k, k < 33 → ξ 197 k = χ 197 k) ∧ (∀ k, ξ 199 k = χ 199 k) ∧ ξ 192 22 = χ 192 22
theorem scr_m {φ χ ξ : hf_F} (hb : CB (χ 194)) (h : SCR φ χ) (hc : CKM χ ξ) : SCR φ ξ := scr_f hb h (fun _ _ _ => rfl) hc.2.2.2 hc.2.2.1 hc.1 hc.2.1
theorem ride_scr {φ χ ψ ξ : hf_F} {r s : Int} (i1 : Inv φ) (i2 : Inv χ) (h : SCR φ χ) (hz : φ 1 2 = χ 192 2) (hk : KWR φ χ) (ht : TPR φ χ) (e1 : F_RideLaws_ride_0 φ = (r, ψ)) (e2 : F_RideLawsModel_ride_192 χ = (s, ξ)) : r = s ∧ ψ 0 12 = ξ 192 15 ∧ SCR ψ ξ := by
  obtain ⟨a1, a2, a3⟩ := ride_rel i1 i2 hz hk ht e1 e2
  refine ⟨a1, a2, ?_⟩
  rcases a3 with ⟨b1, ψ', b2, b3⟩ | ⟨b1, ψ', χ', b2, b3, b4, b5, b6⟩
  · rcases ridem i2 e2 with ⟨n1, n2, n3, n4⟩ | ⟨n1, _⟩
    · have kr := K_F_RideText_readAll_182 i1 b2
      refine scr_m (cb_i i2) (scr_w (cb_i i2) h (fun a k hk q => ?_)) ⟨fun k _ => n1 k, n2, n3, n4⟩
      rw [b3]
      have e : F_RideLaws_closeText_0 ψ' a k = ψ' a k := by
        unfold F_RideLaws_closeText_0
        rw [up_a (by omega), up_a (by omega)]
      rw [e]
      exact fr_ck kr.2.1 (by decide) a k hk q
    · omega
  · have kr := K_F_RideText_readAll_182 i1 b2
    rw [b5, b6]
    have e9 : ∀ k, ψ' 109 k = φ 109 k := fun k => fr_at kr.2.1 109 (by decide) k
    refine ride_new b3 b4 ⟨fun i hi => ?_, fun i j hi hj hij => ?_⟩
    · rw [e9]; exact h.2.2.1.2.2.1 i hi
    · rw [e9, e9] at hij; exact h.2.2.1.2.2.2.1 i j hi hj hij
