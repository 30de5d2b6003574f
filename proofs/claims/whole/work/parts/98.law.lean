/-! ===== the law ===== -/
theorem law_ok : lawOK := by
  intro L xs hL
  obtain ⟨a, b, s, e1, B⟩ := law_start L xs
  obtain ⟨a2, b2, s2, e2, e3, e4⟩ := law_loop hL (L / 4) 0 a b s (by omega) (by omega) B
  refine ⟨a2, b2, s2, ?_, e3, e4⟩
  rw [Nat.mul_zero, Int.cast_ofNat_Int] at e2
  exact e1.trans e2
