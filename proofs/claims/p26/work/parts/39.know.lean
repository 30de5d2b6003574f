/-! ===== the model: what is known before a change ===== -/
theorem up1_up {α : Type} {f : Int → α} {k : Int} {v w : α} : up1 (up1 f k v) k w = up1 f k w := by
  funext j; dsimp only [up1]; by_cases e : j = k <;> simp [e]
/-- the row of the states before: from cell p on, n cells of g -/
def segQ (f g : Int → Int) (p n : Int) : Int → Int := fun j => if p ≤ j ∧ j < p + n then g (j - p) else f j
theorem seg_0 {f g : Int → Int} {p : Int} : segQ f g p 0 = f := by
  funext j; dsimp only [segQ]; rw [if_neg (by omega)]
theorem seg_up {f g : Int → Int} {p n v : Int} (h0 : 0 ≤ n) (hv : v = g n) : up1 (segQ f g p n) (p + n) v = segQ f g p (n + 1) := by
  funext j; dsimp only [segQ, up1]
  by_cases e : j = p + n
  · have e2 : p ≤ j ∧ j < p + (n + 1) := by omega
    rw [if_pos e, if_pos e2, hv, show j - p = n by omega]
  · rw [if_neg e]
    by_cases e1 : p ≤ j ∧ j < p + n
    · have e2 : p ≤ j ∧ j < p + (n + 1) := by omega
      rw [if_pos e1, if_pos e2]
    · have e2 : ¬ (p ≤ j ∧ j < p + (n + 1)) := by omega
      rw [if_neg e1, if_neg e2]
/-- the row moved down by one state: the first n cells -/
def shfQ (f : Int → Int) (n : Int) : Int → Int := fun j => if 0 ≤ j ∧ j < n then f (497 + j) else f j
theorem shf_0 {f : Int → Int} : shfQ f 0 = f := by
  funext j; dsimp only [shfQ]; rw [if_neg (by omega)]
theorem shf_up {f : Int → Int} {n : Int} (h0 : 0 ≤ n) (h1 : n < 2485) : up1 (shfQ f n) n (shfQ f n (497 + n)) = shfQ f (n + 1) := by
  funext j; dsimp only [shfQ, up1]
  have e3 : ¬ (0 ≤ 497 + n ∧ 497 + n < n) := by omega
  rw [if_neg e3]
  by_cases e : j = n
  · have e2 : 0 ≤ j ∧ j < n + 1 := by omega
    rw [if_pos e, if_pos e2, e]
  · rw [if_neg e]
    by_cases e1 : 0 ≤ j ∧ j < n
    · have e2 : 0 ≤ j ∧ j < n + 1 := by omega
      rw [if_pos e1, if_pos e2]
    · have e2 : ¬ (0 ≤ j ∧ j < n + 1) := by omega
      rw [if_neg e1, if_neg e2]
section MKNOW
variable {a : HI} {b : HR} {s : SH}
set_option maxRecDepth 100000
end MKNOW
