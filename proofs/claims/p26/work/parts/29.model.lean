/-! ===== the model: what it reads in its row ===== -/
theorem erl_zz {z y : Int} {p : Int → Bool} {t : Int → Int} (hz : z < 0) (hy : y < 0) (n : Nat) : (erl z p t n = z ∧ erl y p t n = y) ∨ (erl z p t n = erl y p t n ∧ 0 ≤ erl y p t n) := by
  induction n with
  | zero => exact Or.inl ⟨rfl, rfl⟩
  | succ n ih =>
    rw [erl_s, erl_s]
    rcases ih with ⟨h1, h2⟩ | ⟨h1, h2⟩
    · rw [h1, h2]
      by_cases c : p n = true
      · rw [if_pos ⟨c, Or.inl rfl⟩, if_pos ⟨c, Or.inl rfl⟩]; exact Or.inr ⟨rfl, by omega⟩
      · rw [if_neg (fun w => c w.1), if_neg (fun w => c w.1)]; exact Or.inl ⟨rfl, rfl⟩
    · rw [h1]
      by_cases c : p n = true ∧ (erl y p t n = y ∨ t n < t (erl y p t n))
      · rw [if_pos c, if_pos ⟨c.1, c.2.elim (fun w => absurd w (by omega)) Or.inr⟩]; exact Or.inr ⟨rfl, by omega⟩
      · rw [if_neg c, if_neg (fun w => c ⟨w.1, w.2.elim (fun w => absurd w (by omega)) Or.inr⟩)]; exact Or.inr ⟨rfl, h2⟩
section MODEL
variable {a : HI} {b : HR} {s : SH} {N T : Int}
set_option maxRecDepth 100000
def asP (σ : RW) (w x : Int) : Int → Bool := fun i => decide (σ (32 + 5 * i) = 0) && !bt x i && (decide (w = -6) || decide (σ (30 + 5 * i) = w))
end MODEL
