/-! ride and feed of both -/
theorem fg31 (φ : hf_F) (a k : Nat) : F_Plan_forget_31 φ a k = if a = 42 ∧ k < 64 then (-1 : Int) else if a = 41 ∧ k < 8 then 0 else if a = 32 ∧ k < 5 then 0 else φ a k := by
  unfold F_Plan_forget_31
  simp only [bnv]
  rw [fil_42, fil_41, fil_32]
theorem fg43 (φ : hf_F) (a k : Nat) : F_State_forget_43 φ a k = if a = 51 ∧ k < 8 then (0 : Int) else if a = 50 ∧ k < 6 then 0 else if a = 49 ∧ k < 6 then 0 else if a = 47 ∧ k < 6 then 0 else if a = 46 ∧ k < 6 then -1 else if a = 45 ∧ k < 8 then -1 else
    (hf_up (hf_up (hf_up (hf_up (hf_up (hf_up φ 43 0 0) 43 1 (-1 : Int)) 43 2 (-1 : Int)) 43 3 0) 43 4 0) 43 5 0) a k := by
  unfold F_State_forget_43
  simp only [bnv]
  rw [fil_51, fil_50, fil_49, fil_47, fil_46, fil_45]
/-- a state that is told anew -/
noncomputable def FR0 (ψ : hf_F) : Prop := (∀ k, k < 6 → ψ 49 k = 0 ∧ ψ 50 k = 0) ∧ (∀ k, k < 8 → ψ 51 k = 0) ∧ ψ 43 0 = 0 ∧ ψ 43 1 = -1 ∧ ψ 43 2 = -1 ∧ ψ 43 3 = 0 ∧ ψ 43 4 = 0 ∧ ψ 43 5 = 0
theorem ride_rel {φ χ ψ ξ : hf_F} {r s : Int} (i1 : Inv φ) (i2 : Inv χ) (hz : φ 1 2 = χ 192 2) (hk : KWR φ χ) (ht : TPR φ χ) (e1 : F_RideLaws_ride_0 φ = (r, ψ)) (e2 : F_RideLawsModel_ride_192 χ = (s, ξ)) :
    r = s ∧ ψ 0 12 = ξ 192 15 ∧ ((r < 0 ∧ ∃ ψ' : hf_F, F_RideText_readAll_182 φ = (-1, ψ') ∧ ψ = F_RideLaws_closeText_0 ψ') ∨
      (0 ≤ r ∧ ∃ ψ' χ' : hf_F, F_RideText_readAll_182 φ = (r, ψ') ∧ DRP ψ' χ' ∧ FR0 ψ' ∧ ψ = hf_up (F_Scene_copyFrom_4_30 (F_Sentence_forget_52 (F_RideLaws_closeText_0 ψ'))) 108 1 0 ∧ ξ = RFIN χ')) := by
  unfold F_RideLaws_ride_0 at e1
  unfold F_RideLawsModel_ride_192 at e2
  obtain ⟨z1, ψ1, h1⟩ : ∃ a b, F_RideText_readAll_182 φ = (a, b) := ⟨_, _, rfl⟩
  have ka := K_F_RideText_readAll_182 i1 h1
  rw [bnd_e h1, bnv_e rfl] at e1
  have h1' := h1
  unfold F_RideText_readAll_182 F_Reader_begin_1 at h1
  rw [bnv_e rfl, bnv_e rfl, bnv_e (bnv_e rfl)] at h1
  rw [bnv_e rfl, bnv_e rfl, bnv_e rfl] at e2
  have kf1 := K_F_Plan_forget_31 i1 rfl
  have kf2 := K_F_State_forget_43 kf1.1 rfl
  have g31 := fg31 φ
  have g43 := fg43 (F_Plan_forget_31 φ)
  generalize F_Plan_forget_31 φ = φ1 at h1 kf1 kf2 g31 g43
  generalize F_State_forget_43 φ1 = φ2 at h1 kf2 g43
  have j2 : Inv (hf_up (hf_up (hf_up (hf_up φ2 1 3 900) 1 4 0) 1 9 0) 1 10 0) :=
    iv_up (lo := 0) (u := 940) (iv_up (lo := 0) (u := 4) (iv_up (lo := 0) (u := 940) (iv_up (lo := 0) (u := 940) kf2.1 (by decide +kernel) (by decide) (by decide)) (by decide +kernel) (by decide) (by decide)) (by decide +kernel) (by decide) (by decide)) (by decide +kernel) (by decide) (by decide)
  have k0 : Inv (hf_up χ 192 0 0) := iv_up (lo := 0) (u := 1) i2 (by decide +kernel) (by decide) (by decide)
  have kt := K_F_RideLawsModel_taken_192 k0 (v1 := 900) (by decide) (by decide) rfl
  have c1 : F_RideLawsModel_taken_192 (hf_up χ 192 0 0) 900 192 3 = χ 192 2 := rfl
  have c2 : F_RideLawsModel_taken_192 (hf_up χ 192 0 0) 900 192 4 = 0 := rfl
  have c3 : F_RideLawsModel_taken_192 (hf_up χ 192 0 0) 900 192 5 = 900 := rfl
  generalize F_RideLawsModel_taken_192 (hf_up χ 192 0 0) 900 = χ1 at e2 kt c1 c2 c3
  have k2 : Inv (hf_up (hf_up χ1 192 15 0) 192 19 0) := iv_upn (iv_up (lo := 0) (u := 4) kt.1 (by decide +kernel) (by decide) (by decide)) (by decide) (by decide) (by decide +kernel)
  have kc := K_F_RideLawsModel_clears_192 k2 rfl
  have hcl : F_RideLawsModel_clears_192 (hf_up (hf_up χ1 192 15 0) 192 19 0) = hf_mp (hf_up (hf_up χ1 192 15 0) 192 19 0) 195 0 99 (fun _ => 0) := rfl
  rw [hcl] at e2 kc
  have b1 := iv_at (a := 1) (k := 2) (lo := 0) (u := 940) i1 (by decide +kernel)
  have f12 : φ2 1 2 = φ 1 2 := (fr_fd kf2.2 1 2 (by decide)).trans (fr_fd kf1.2 1 2 (by decide))
  have hk2 : KWR (hf_up (hf_up (hf_up (hf_up φ2 1 3 900) 1 4 0) 1 9 0) 1 10 0) (hf_mp (hf_up (hf_up χ1 192 15 0) 192 19 0) 195 0 99 (fun _ => 0)) :=
    kwr_f hk (fun k => (show φ2 3 k = φ 3 k from (fr_at kf2.2 3 (by decide) k).trans (fr_at kf1.2 3 (by decide) k))) (fun k => (hf_mp_ne (fun q => absurd q.1 (by decide))).trans (show χ1 198 k = χ 198 k from fr_at kt.2.1 198 (by decide) k))
  have ht2 : TPR (hf_up (hf_up (hf_up (hf_up φ2 1 3 900) 1 4 0) 1 9 0) 1 10 0) (hf_mp (hf_up (hf_up χ1 192 15 0) 192 19 0) 195 0 99 (fun _ => 0)) :=
    tpr_f ht (fun k => (show φ2 2 k = φ 2 k from (fr_at kf2.2 2 (by decide) k).trans (fr_at kf1.2 2 (by decide) k))) (fun k => (hf_mp_ne (fun q => absurd q.1 (by decide))).trans (show χ1 193 k = χ 193 k from fr_at kt.2.1 193 (by decide) k))
  have hmp : ∀ k : Nat, hf_mp (hf_up (hf_up χ1 192 15 0) 192 19 0) 195 0 99 (fun _ => 0) 192 k = hf_up (hf_up χ1 192 15 0) 192 19 0 192 k := fun k => hf_mp_ne (fun q => absurd q.1 (by decide))
  have hs2 : TSR (hf_up (hf_up (hf_up (hf_up φ2 1 3 900) 1 4 0) 1 9 0) 1 10 0) (hf_mp (hf_up (hf_up χ1 192 15 0) 192 19 0) 195 0 99 (fun _ => 0)) := by
    unfold TSR
    rw [hmp, hmp, hmp, hmp]
    show φ2 1 2 = χ1 192 3 ∧ (900 : Int) = χ1 192 5 ∧ (0 : Int) = χ1 192 4 ∧ (0 : Int) ≤ 0 ∧ (0 : Int) ≤ φ2 1 2 ∧ φ2 1 2 ≤ 940 ∧ (0 : Int) = 0
    omega
  have ra := rp_adv0 j2 kc.1 hk2 ht2 hs2 rfl rfl
  have z95 : ∀ k : Nat, k < 99 → F_RideLawsModel_next_192 (hf_mp (hf_up (hf_up χ1 192 15 0) 192 19 0) 195 0 99 (fun _ => 0)) 195 k = 0 := fun k q => by
    rw [fr_at ra.2.2 195 (by decide), hf_mp_in (by omega) (by omega)]
  have z19 : F_RideLawsModel_next_192 (hf_mp (hf_up (hf_up χ1 192 15 0) 192 19 0) 195 0 99 (fun _ => 0)) 192 19 = 0 := by
    rw [fr_fd ra.2.2 192 19 (by decide), hmp]; rfl
  have kd : ∀ a k, (32 ≤ a ∧ a ≤ 48 ∧ ¬ a = 43) → F_Reader_advance_1 (hf_up (hf_up (hf_up (hf_up φ2 1 3 900) 1 4 0) 1 9 0) 1 10 0) a k = φ2 a k := fun a k q => by
    rw [fr_hi ra.2.1 (by decide) (obl_d q) (by omega) k, hf_up_ne (fun w => by omega), hf_up_ne (fun w => by omega), hf_up_ne (fun w => by omega), hf_up_ne (fun w => by omega)]
  have p4 := next_p kc.1 (rfl : F_RideLawsModel_next_192 (hf_mp (hf_up (hf_up χ1 192 15 0) 192 19 0) 195 0 99 (fun _ => 0)) = _)
  rw [hmp] at p4
  have p4' : (0 : Int) ≤ F_RideLawsModel_next_192 (hf_mp (hf_up (hf_up χ1 192 15 0) 192 19 0) 195 0 99 (fun _ => 0)) 192 4 := by
    have := p4.1
    have e : hf_up (hf_up χ1 192 15 0) 192 19 0 192 4 = 0 := c2
    omega
  have q32 : ∀ k : Nat, k < 5 → φ2 32 k = 0 := fun k q => by
    rw [fr_at kf2.2 32 (by decide), g31, if_neg (by omega), if_neg (by omega), if_pos ⟨rfl, q⟩]
  have q41 : ∀ k : Nat, k < 8 → φ2 41 k = 0 := fun k q => by
    rw [fr_at kf2.2 41 (by decide), g31, if_neg (by omega), if_pos ⟨rfl, q⟩]
  have q42 : ∀ k : Nat, k < 64 → φ2 42 k = -1 := fun k q => by
    rw [fr_at kf2.2 42 (by decide), g31, if_pos ⟨rfl, q⟩]
  have q45 : ∀ k : Nat, k < 8 → φ2 45 k = -1 := fun k q => by
    rw [g43, if_neg (by omega), if_neg (by omega), if_neg (by omega), if_neg (by omega), if_neg (by omega), if_pos ⟨rfl, q⟩]
  have q46 : ∀ k : Nat, k < 6 → φ2 46 k = -1 := fun k q => by
    rw [g43, if_neg (by omega), if_neg (by omega), if_neg (by omega), if_neg (by omega), if_pos ⟨rfl, q⟩]
  have q47 : ∀ k : Nat, k < 6 → φ2 47 k = 0 := fun k q => by
    rw [g43, if_neg (by omega), if_neg (by omega), if_neg (by omega), if_pos ⟨rfl, q⟩]
  have d49 : FR0 (F_Reader_advance_1 (hf_up (hf_up (hf_up (hf_up φ2 1 3 900) 1 4 0) 1 9 0) 1 10 0)) := by
    refine ⟨fun k q => ⟨?_, ?_⟩, fun k q => ?_, ?_, ?_, ?_, ?_, ?_, ?_⟩
    · exact (fr_at ra.2.1 49 (by decide) k).trans (show φ2 49 k = 0 by rw [g43, if_neg (by omega), if_neg (by omega), if_pos ⟨rfl, q⟩])
    · exact (fr_at ra.2.1 50 (by decide) k).trans (show φ2 50 k = 0 by rw [g43, if_neg (by omega), if_pos ⟨rfl, q⟩])
    · exact (fr_at ra.2.1 51 (by decide) k).trans (show φ2 51 k = 0 by rw [g43, if_pos ⟨rfl, q⟩])
    · exact (fr_fd ra.2.1 43 0 (by decide)).trans (show φ2 43 0 = 0 by rw [g43, if_neg (by decide), if_neg (by decide), if_neg (by decide), if_neg (by decide), if_neg (by decide), if_neg (by decide)]; rfl)
    · exact (fr_fd ra.2.1 43 1 (by decide)).trans (show φ2 43 1 = -1 by rw [g43, if_neg (by decide), if_neg (by decide), if_neg (by decide), if_neg (by decide), if_neg (by decide), if_neg (by decide)]; rfl)
    · exact (fr_fd ra.2.1 43 2 (by decide)).trans (show φ2 43 2 = -1 by rw [g43, if_neg (by decide), if_neg (by decide), if_neg (by decide), if_neg (by decide), if_neg (by decide), if_neg (by decide)]; rfl)
    · exact (fr_fd ra.2.1 43 3 (by decide)).trans (show φ2 43 3 = 0 by rw [g43, if_neg (by decide), if_neg (by decide), if_neg (by decide), if_neg (by decide), if_neg (by decide), if_neg (by decide)]; rfl)
    · exact (fr_fd ra.2.1 43 4 (by decide)).trans (show φ2 43 4 = 0 by rw [g43, if_neg (by decide), if_neg (by decide), if_neg (by decide), if_neg (by decide), if_neg (by decide), if_neg (by decide)]; rfl)
    · exact (fr_fd ra.2.1 43 5 (by decide)).trans (show φ2 43 5 = 0 by rw [g43, if_neg (by decide), if_neg (by decide), if_neg (by decide), if_neg (by decide), if_neg (by decide), if_neg (by decide)]; rfl)
  have ra1 := ra.1
  generalize F_RideLawsModel_next_192 (hf_mp (hf_up (hf_up χ1 192 15 0) 192 19 0) 195 0 99 (fun _ => 0)) = χ3 at e2 ra1 z95 z19 p4'
  generalize F_Reader_advance_1 (hf_up (hf_up (hf_up (hf_up φ2 1 3 900) 1 4 0) 1 9 0) 1 10 0) = φ3 at h1 ra1 kd d49
  have dr : DRP φ3 χ3 := by
    refine ⟨ra1, ?_, ⟨?_, ?_, ?_, ?_, ?_⟩, ?_, ?_, ?_, ?_, ?_, ?_, ?_⟩
    · unfold CTR
      rw [kd 32 0 (by decide), kd 32 1 (by decide), kd 32 2 (by decide), kd 32 3 (by decide), kd 32 4 (by decide), q32 0 (by decide), q32 1 (by decide), q32 2 (by decide), q32 3 (by decide), q32 4 (by decide), z95 0 (by decide), z95 1 (by decide), z95 2 (by decide), z95 3 (by decide), z95 4 (by decide)]
      exact ⟨rfl, rfl, rfl, rfl, rfl⟩
    · intro i hi; rw [z95 0 (by decide)] at hi; omega
    · intro i hi; rw [z95 1 (by decide)] at hi; omega
    · intro i hi; rw [z95 2 (by decide)] at hi; omega
    · intro i hi; rw [z95 3 (by decide)] at hi; omega
    · intro i hi; rw [z95 4 (by decide)] at hi; omega
    · intro i hi; rw [z95 0 (by decide)] at hi; omega
    · intro i hi; rw [z95 1 (by decide)] at hi; omega
    · intro q hq
      rw [kd 46 q (by decide), kd 47 q (by decide), q46 q hq, q47 q hq, z95 (27 + q) (by omega), z95 (33 + q) (by omega), z95 1 (by decide), z95 2 (by decide)]
      exact ⟨rfl, rfl, fun _ => ⟨rfl, rfl⟩, ⟨by decide, by decide⟩, fun k hk => by omega⟩
    · intro v hv
      exact Or.inl ⟨(kd 45 v (by decide)).trans (q45 v hv), fun q hq => by rw [z95 (27 + q) (by omega)]; omega⟩
    · intro i hi; rw [z95 4 (by decide)] at hi; omega
    · intro a b ha hb
      exact Or.inl ⟨(kd 42 _ (by decide)).trans (q42 _ (by omega)), fun i hi => by rw [z95 4 (by decide)] at hi; omega⟩
    · intro i hi
      rw [kd 41 i (by decide), q41 i hi, z95 (91 + i) (by omega)]
  rcases ride_l ((940 - 0 : Int).toNat + 1) ((940 - χ3 192 4 : Int).toNat + 1) φ3 χ3 ψ1 ξ 0 z1 s (by decide) (by omega) (by decide) (by omega) z19 dr h1 e2 with ⟨t1, t2, t3⟩ | ⟨t1, t2, t5, χ', t3, t4⟩
  · rw [if_neg (fun q => q t1)] at e1
    have p10 := iv_at (a := 1) (k := 10) (lo := 0) (u := 940) ka.1 (by decide +kernel)
    cases e1
    have hf : ψ1 1 10 = ξ 192 16 := t3.2
    refine ⟨?_, t3.1, Or.inl ⟨?_, ψ1, by rw [h1', t1], rfl⟩⟩
    · rw [t2, ← hf]; rfl
    · show -1 - ψ1 1 10 < 0; omega
  · rw [if_pos (show ¬ z1 = -1 by omega), bnv_e rfl, bnv_e rfl] at e1
    cases e1
    have h15 : ψ1 1 9 = χ' 192 15 := t3.1.2.2.2.1.2.2.2.2.2.2
    refine ⟨t2.symm, ?_, Or.inr ⟨t1, ψ1, χ', h1', t3, ?_, rfl, t4⟩⟩
    · rw [t4]
      show F_Scene_copyFrom_4_30 (F_Sentence_forget_52 (F_RideLaws_closeText_0 ψ1)) 0 12 = χ' 192 15
      exact h15
    · obtain ⟨s1, s2, s3, s4, s5, s6, s7, s8, s9⟩ := t5
      obtain ⟨u1, u2, u3, u4, u5, u6, u7, u8⟩ := d49
      exact ⟨fun k q => ⟨(s1 k).trans (u1 k q).1, (s2 k).trans (u1 k q).2⟩, fun k q => (s3 k).trans (u2 k q), s4.trans u3, s5.trans u4, s6.trans u5, s7.trans u6, s8.trans u7, s9.trans u8⟩
