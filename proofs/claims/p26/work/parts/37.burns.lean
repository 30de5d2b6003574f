/-! ===== the model: burning ===== -/
def brnQ (σ : RW) (h : Int) (n : Int) : RW := fun j => if 11 ≤ j ∧ j < 29 ∧ (j - 11) / 3 < n then (if (j - 11) % 3 = 0 then σ j + liF σ h ((j - 11) / 3) else if (j - 11) % 3 = 1 then min 1000 (σ j + σ 1 * liF σ h ((j - 11) / 3)) else σ j) else σ j
theorem brn_0 {σ : RW} {h : Int} : brnQ σ h 0 = σ := by
  funext j; dsimp only [brnQ]; rw [if_neg (by omega)]
theorem brn_at {σ : RW} {h n j : Int} (e : ¬ (11 ≤ j ∧ j < 29 ∧ (j - 11) / 3 < n)) : brnQ σ h n j = σ j := if_neg e
theorem brn_up {σ : RW} {h n v w : Int} (h0 : 0 ≤ n) (h1 : n < 6) (hv : v = σ (11 + 3 * n) + liF σ h n) (hw : w = min 1000 (σ (12 + 3 * n) + σ 1 * liF σ h n)) : up1 (up1 (brnQ σ h n) (11 + 3 * n) v) (12 + 3 * n) w = brnQ σ h (n + 1) := by
  funext j; dsimp only [brnQ, up1]
  by_cases e1 : j = 12 + 3 * n
  · subst e1
    rw [if_pos rfl, if_pos (by omega), if_neg (by omega), if_pos (by omega), hw, show (12 + 3 * n - 11) / 3 = n by omega]
  · rw [if_neg e1]
    by_cases e2 : j = 11 + 3 * n
    · subst e2
      rw [if_pos rfl, if_pos (by omega), if_pos (by omega), hv, show (11 + 3 * n - 11) / 3 = n by omega]
    · rw [if_neg e2]
      by_cases e3 : 11 ≤ j ∧ j < 29 ∧ (j - 11) / 3 < n
      · have e4 : 11 ≤ j ∧ j < 29 ∧ (j - 11) / 3 < n + 1 := ⟨e3.1, e3.2.1, by omega⟩
        rw [if_pos e3, if_pos e4]
      · rw [if_neg e3]
        by_cases e4 : 11 ≤ j ∧ j < 29 ∧ (j - 11) / 3 < n + 1
        · have m0 : ¬ (j - 11) % 3 = 0 := by omega
          have m1 : ¬ (j - 11) % 3 = 1 := by omega
          rw [if_pos e4, if_neg m0, if_neg m1]
        · rw [if_neg e4]
section MBURN
variable {a : HI} {b : HR} {s : SH} {N T : Int}
set_option maxRecDepth 100000
end MBURN
