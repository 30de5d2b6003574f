/-! ===== the model: the groups that wait ===== -/
section MWAIT
variable {a : HI} {b : HR} {s : SH} {N T : Int}
set_option maxRecDepth 100000
/-- how many are so -/
def cnI (p : Int → Bool) : Nat → Nat
  | 0 => 0
  | n + 1 => if p n = true then cnI p n + 1 else cnI p n
theorem cnI_s (p : Int → Bool) (n : Nat) : cnI p (n + 1) = if p n = true then cnI p n + 1 else cnI p n := rfl
theorem cnI_le {p : Int → Bool} : ∀ n : Nat, cnI p n ≤ n
  | 0 => Nat.le_refl _
  | n + 1 => by
    have := cnI_le (p := p) n
    rw [cnI_s]
    split <;> omega
end MWAIT
