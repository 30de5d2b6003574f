/-! ===== tell, fault, at: the model ===== -/
/-- the row with a show told -/
def tlA (f : RW) (h : Int) (T : RW) (k : Int) : RW := fun j => if 129 + 92 * h ≤ j ∧ j < 129 + 92 * h + k ∧ j ≠ 133 + 92 * h then T (j - (129 + 92 * h)) else f j
def tlB (f : RW) (h : Int) (x : Nat → Int) (k : Int) : RW := fun j => if 141 + 92 * h ≤ j ∧ j < 141 + 92 * h + k then x (j - (141 + 92 * h)).toNat else f j
def telQ (σ : RW) (h : Int) (T : RW) (len : Int) (x : Nat → Int) : RW := tlB (up1 (tlA σ h T 11) (140 + 92 * h) len) h x 80
theorem tlA_0 {f T : RW} {h : Int} : tlA f h T 0 = f := by
  funext j; dsimp only [tlA]; rw [if_neg (by omega)]
theorem tlA_up {f T : RW} {h k v : Int} (h0 : 0 ≤ k) (hv : v = if k = 4 then f (133 + 92 * h) else T k) : up1 (tlA f h T k) (129 + 92 * h + k) v = tlA f h T (k + 1) := by
  funext j; dsimp only [tlA, up1]
  by_cases e : j = 129 + 92 * h + k
  · rw [if_pos e, hv]
    by_cases c : k = 4
    · rw [if_pos c, if_neg (by omega)]; congr 1; omega
    · rw [if_neg c, if_pos (by omega)]; congr 1; omega
  · rw [if_neg e]
    by_cases e1 : 129 + 92 * h ≤ j ∧ j < 129 + 92 * h + k ∧ j ≠ 133 + 92 * h
    · have e2 : 129 + 92 * h ≤ j ∧ j < 129 + 92 * h + (k + 1) ∧ j ≠ 133 + 92 * h := by omega
      rw [if_pos e1, if_pos e2]
    · have e2 : ¬ (129 + 92 * h ≤ j ∧ j < 129 + 92 * h + (k + 1) ∧ j ≠ 133 + 92 * h) := by omega
      rw [if_neg e1, if_neg e2]
theorem tlB_0 {f : RW} {x : Nat → Int} {h : Int} : tlB f h x 0 = f := by
  funext j; dsimp only [tlB]; rw [if_neg (by omega)]
theorem tlB_up {f : RW} {x : Nat → Int} {h v : Int} {k : Nat} (hv : v = x k) : up1 (tlB f h x k) (141 + 92 * h + k) v = tlB f h x (k + 1) := by
  funext j; dsimp only [tlB, up1]
  by_cases e : j = 141 + 92 * h + k
  · have e2 : 141 + 92 * h ≤ j ∧ j < 141 + 92 * h + ((k : Int) + 1) := by omega
    rw [if_pos e, if_pos e2, hv]; congr 1; omega
  · rw [if_neg e]
    by_cases e1 : 141 + 92 * h ≤ j ∧ j < 141 + 92 * h + k
    · have e2 : 141 + 92 * h ≤ j ∧ j < 141 + 92 * h + ((k : Int) + 1) := by omega
      rw [if_pos e1, if_pos e2]
    · have e2 : ¬ (141 + 92 * h ≤ j ∧ j < 141 + 92 * h + ((k : Int) + 1)) := by omega
      rw [if_neg e1, if_neg e2]
theorem tel_lo {σ T : RW} {h len j : Int} {x : Nat → Int} (hj : j < 129 + 92 * h ∨ 221 + 92 * h ≤ j ∨ j = 133 + 92 * h) : telQ σ h T len x j = σ j := by
  unfold telQ tlB
  rw [if_neg (by omega), up1_ne (by omega)]
  unfold tlA
  rw [if_neg (by omega)]
theorem tel_T {σ T : RW} {h len k : Int} {x : Nat → Int} (h0 : 0 ≤ k ∧ k < 11) (h4 : k ≠ 4) : telQ σ h T len x (129 + 92 * h + k) = T k := by
  unfold telQ tlB
  rw [if_neg (by omega), up1_ne (by omega)]
  unfold tlA
  rw [if_pos (by omega)]; congr 1; omega
theorem tel_len {σ T : RW} {h len : Int} {x : Nat → Int} : telQ σ h T len x (140 + 92 * h) = len := by
  unfold telQ tlB
  rw [if_neg (by omega), up1_at]
theorem tel_x {σ T : RW} {h len : Int} {x : Nat → Int} {k : Nat} (hk : k < 80) : telQ σ h T len x (141 + 92 * h + k) = x k := by
  unfold telQ tlB
  rw [if_pos (by omega)]; congr 1; omega
/-- the pad's text, behind its end nothing -/
def pdZ (a : HI) (len : Nat) : Nat → Int := fun k => if k < len then a 163 k else 0
section MTELL
variable {a : HI} {b : HR} {s : SH} {len : Nat} {h : Int}
set_option maxRecDepth 100000
end MTELL
