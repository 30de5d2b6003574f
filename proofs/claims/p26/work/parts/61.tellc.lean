/-! ===== the model: a text told as a whole ===== -/
theorem TlB.mono {T : RW} {i j d : Nat} (h : TlB T i d) (hij : i ≤ j) : TlB T j d := by
  obtain ⟨h0, h1, h2, h3, h4⟩ := h
  exact ⟨by omega, h1, by omega, h3, fun l l0 l1 => by have := h4 l l0 l1; omega⟩
theorem tlQ_nil {T : RW} {i d : Nat} {μ : Int} (h : TlB T i d) : tlQ T [] 0 0 d μ = T := by
  obtain ⟨h0, h1, h2, h3, h4⟩ := h
  funext k
  by_cases k5 : 5 ≤ k ∧ k < 11
  · rw [tl_l k5]; show T k + 0 * μ = T k; omega
  · by_cases k4 : k < 0 ∨ k = 4 ∨ 11 ≤ k
    · rw [tl_e k4]
    · have hk : k = 0 ∨ k = 1 ∨ k = 2 ∨ k = 3 := by omega
      rcases hk with rfl | rfl | rfl | rfl
      · rw [tl_0]; show T 0 + 0 * μ = T 0; omega
      · rw [tl_1]; exact iO_0 h1
      · rw [tl_2]; show T 2 + 0 * μ = T 2; omega
      · rw [tl_3]; omega
section TELLC
variable {a : HI} {b : HR} {s : SH} {x : Nat → Int} {len : Nat}
set_option maxRecDepth 100000
theorem p9 {d : Nat} (h : d ≤ 4) : (9 : Int) ^ d ≤ 6561 := by
  have : 9 ^ d ≤ 9 ^ 4 := Nat.pow_le_pow_right (by omega) h
  rw [show 9 ^ 4 = 6561 from rfl] at this
  have e : ((9 ^ d : Nat) : Int) = (9 : Int) ^ d := Int.natCast_pow 9 d
  omega
end TELLC
