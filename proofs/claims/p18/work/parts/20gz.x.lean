noncomputable def sxa (φ : hf_F) : Int := sxi φ (φ 194 3).toNat
theorem sxa_c {φ ψ : hf_F} {ms : List Nat} (hF : Fr ms φ ψ) (h : (!(g_obl.contains 194) && !(ms.contains 194)) = true) : sxa ψ = sxa φ := by
  have e : ∀ n, sxi ψ n = sxi φ n := by
    intro n
    induction n with
    | zero => rfl
    | succ n ih =>
      show sxi ψ n + ψ 194 (166 + n) = sxi φ n + φ 194 (166 + n)
      rw [ih, fr_at hF 194 h]
  unfold sxa
  rw [e, fr_at hF 194 h]
