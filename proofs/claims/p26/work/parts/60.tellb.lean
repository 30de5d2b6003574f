/-! ===== the model: a text told ===== -/
section TELLB
variable {a : HI} {b : HR} {s : SH} {x : Nat → Int} {len : Nat}
set_option maxRecDepth 100000
/-- a scene told: the first k lamps -/
def scnQ (f : RW) (v p : Int) (k : Int) : RW := fun j => if 5 ≤ j ∧ j < 5 + k then f j + (if bt v (j - 5) = true then p else 0) else f j
theorem scnQ_0 {f : RW} {v p : Int} : scnQ f v p 0 = f := by
  funext j; dsimp only [scnQ]; rw [if_neg (by omega)]
theorem scnQ_at {f : RW} {v p k j : Int} (h : 5 + k ≤ j) : scnQ f v p k j = f j := by
  unfold scnQ; rw [if_neg (by omega)]
theorem scnQ_up {f : RW} {v p k w : Int} (h0 : 0 ≤ k) (hw : w = f (5 + k) + (if bt v k = true then p else 0)) : up1 (scnQ f v p k) (5 + k) w = scnQ f v p (k + 1) := by
  funext j; dsimp only [scnQ, up1]
  by_cases e : j = 5 + k
  · have e2 : 5 ≤ j ∧ j < 5 + (k + 1) := by omega
    rw [if_pos e, if_pos e2, hw, e, show 5 + k - 5 = k by omega]
  · rw [if_neg e]
    by_cases e1 : 5 ≤ j ∧ j < 5 + k
    · have e2 : 5 ≤ j ∧ j < 5 + (k + 1) := by omega
      rw [if_pos e1, if_pos e2]
    · have e2 : ¬ (5 ≤ j ∧ j < 5 + (k + 1)) := by omega
      rw [if_neg e1, if_neg e2]
theorem scn_tl {T : RW} {v : Int} {num : Nat} {d μ : Int} (hv : InR v) (hn : 0 < num) (h3 : d ≤ T 3) : scnQ (up1 (up1 (up1 T 0 (T 0 + num * μ)) 1 (iO (T 1) v)) 2 (T 2 + μ)) v (num * μ) 6 = tlQ T (List.replicate num v) 1 0 d μ := by
  funext k
  by_cases k5 : 5 ≤ k ∧ k < 11
  · rw [tl_l k5, cbL_rep]
    unfold scnQ
    rw [if_pos (by omega), up1_ne (by omega), up1_ne (by omega), up1_ne (by omega)]
    by_cases c : bt v (k - 5) = true
    · rw [if_pos c, if_pos c]
    · rw [if_neg c, if_neg c, Int.zero_mul]
  · unfold scnQ
    rw [if_neg (by omega)]
    by_cases k4 : k < 0 ∨ k = 4 ∨ 11 ≤ k
    · rw [tl_e k4, up1_ne (by omega), up1_ne (by omega), up1_ne (by omega)]
    · have hk : k = 0 ∨ k = 1 ∨ k = 2 ∨ k = 3 := by omega
      rcases hk with rfl | rfl | rfl | rfl
      · rw [tl_0, up1_ne (by omega), up1_ne (by omega), up1_at, List.length_replicate]
      · rw [tl_1, up1_ne (by omega), up1_at, orL_rep hv num hn]
      · rw [tl_2, up1_at]; omega
      · rw [tl_3, up1_ne (by omega), up1_ne (by omega), up1_ne (by omega)]; omega
end TELLB
