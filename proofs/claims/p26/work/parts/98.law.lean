/-! ===== the law ===== -/
theorem law_ok : lawOK := by
  intro L xs hL
  obtain ⟨f, σ, z, ρ, a, b, s, e1, h1, B, Q⟩ := law_start L xs
  obtain ⟨a2, b2, s2, e2, e3, e4⟩ := law_loop h1 56 0 1 σ z ρ a b s vU vU vU (by omega) (by omega) B Q
  refine ⟨a2, b2, s2, ?_, e3, e4⟩
  rw [show ((0 : Nat) : Int) = 0 from rfl] at e2
  exact e1.trans e2
