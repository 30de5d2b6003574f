/-! ===== the model: a run ===== -/
def rnL (τ : RW) (x nw : Int) (fo : Bool) (k : Nat) : RW := fun j => if j = 8 then τ 8 + smI (newS x (wnF τ) (peF τ)) k * τ 4 else if 29 ≤ j ∧ j < 129 ∧ (j - 29) / 5 < k ∧ bt x ((j - 29) / 5) = true then (if (j - 29) % 5 = 2 ∧ fo = true then nw + τ 5 else if (j - 29) % 5 = 3 ∧ fo = false then 1 else if (j - 29) % 5 = 4 then τ j + 1 else τ j) else τ j
section RNL
variable {τ : RW} {x nw : Int} {fo : Bool} {k : Nat}
theorem rnL_8 : rnL τ x nw fo k 8 = τ 8 + smI (newS x (wnF τ) (peF τ)) k * τ 4 := if_pos rfl
theorem rnL_lo {j : Int} (h : j < 29) (h8 : j ≠ 8) : rnL τ x nw fo k j = τ j := by
  unfold rnL; rw [if_neg h8, if_neg (fun w => absurd w.1 (by omega))]
theorem rnL_hi {j : Int} (h : 129 ≤ j) : rnL τ x nw fo k j = τ j := by
  unfold rnL; rw [if_neg (by omega), if_neg (fun w => absurd w.2.1 (by omega))]
theorem rnL_at {j : Int} (h8 : j ≠ 8) (h : (k : Int) ≤ (j - 29) / 5) : rnL τ x nw fo k j = τ j := by
  unfold rnL; rw [if_neg h8, if_neg (fun w => absurd w.2.2.1 (by omega))]
theorem rnL_0 : rnL τ x nw fo 0 = τ := by
  funext j
  by_cases e : j = 8
  · subst e; rw [rnL_8]; show τ 8 + 0 * τ 4 = τ 8; omega
  · unfold rnL
    rw [if_neg e]
    by_cases c : 29 ≤ j
    · rw [if_neg (fun w => absurd w.2.2.1 (by omega))]
    · rw [if_neg (fun w => absurd w.1 (by omega))]
theorem rnL_keep (hb : bt x k = false) : rnL τ x nw fo (k + 1) = rnL τ x nw fo k := by
  funext j
  by_cases e : j = 8
  · subst e
    rw [rnL_8, rnL_8, smI_s, show newS x (wnF τ) (peF τ) k = 0 from if_neg (fun w => by rw [hb] at w; cases w.1), Int.add_zero]
  · unfold rnL
    rw [if_neg e, if_neg e]
    by_cases c : 29 ≤ j ∧ j < 129 ∧ (j - 29) / 5 < (k : Int) ∧ bt x ((j - 29) / 5) = true
    · have c2 : 29 ≤ j ∧ j < 129 ∧ (j - 29) / 5 < ((k + 1 : Nat) : Int) ∧ bt x ((j - 29) / 5) = true := ⟨c.1, c.2.1, by have := c.2.2.1; omega, c.2.2.2⟩
      rw [if_pos c, if_pos c2]
    · have c2 : ¬ (29 ≤ j ∧ j < 129 ∧ (j - 29) / 5 < ((k + 1 : Nat) : Int) ∧ bt x ((j - 29) / 5) = true) := by
        rintro ⟨y1, y2, y3, y4⟩
        by_cases z : (j - 29) / 5 = (k : Int)
        · rw [z, hb] at y4; cases y4
        · exact c ⟨y1, y2, by omega, y4⟩
      rw [if_neg c, if_neg c2]
theorem rnL_up (hb : bt x k = true) (hk : k < 20) {c v p w : Int} (hc : c = τ 8 + smI (newS x (wnF τ) (peF τ)) k * τ 4 + (if τ (33 + 5 * k) = 0 then τ 4 * τ (29 + 5 * k) else 0)) (hv : v = τ (33 + 5 * k) + 1) (hp : p = if fo = true then 31 + 5 * (k : Int) else 32 + 5 * k) (hw : w = if fo = true then nw + τ 5 else 1) : up1 (up1 (up1 (rnL τ x nw fo k) 8 c) (33 + 5 * k) v) p w = rnL τ x nw fo (k + 1) := by
  have hp2 : p = 31 + 5 * (k : Int) ∨ p = 32 + 5 * (k : Int) := by
    rw [hp]; cases fo <;> simp
  funext j
  dsimp only [up1]
  by_cases e : j = 8
  · subst e
    rw [if_neg (by omega), if_neg (by omega), if_pos rfl, rnL_8, smI_s, hc, Int.add_mul]
    by_cases d : τ (33 + 5 * k) = 0
    · rw [if_pos d, show newS x (wnF τ) (peF τ) k = τ (29 + 5 * k) from if_pos ⟨hb, d⟩, Int.mul_comm (τ 4)]; omega
    · rw [if_neg d, show newS x (wnF τ) (peF τ) k = 0 from if_neg (fun w => d w.2)]; omega
  · rw [if_neg e]
    by_cases g : 29 ≤ j ∧ j < 129 ∧ (j - 29) / 5 = (k : Int)
    · have R : rnL τ x nw fo (k + 1) j = (if (j - 29) % 5 = 2 ∧ fo = true then nw + τ 5 else if (j - 29) % 5 = 3 ∧ fo = false then 1 else if (j - 29) % 5 = 4 then τ j + 1 else τ j) := by
        unfold rnL
        rw [if_neg e, if_pos ⟨g.1, g.2.1, by omega, by rw [g.2.2]; exact hb⟩]
      rw [R, rnL_at e (by omega)]
      cases fo with
      | true =>
        rw [if_pos rfl] at hp hw
        by_cases y2 : j = 31 + 5 * (k : Int)
        · rw [if_pos (by omega), if_pos ⟨by omega, rfl⟩, hw]
        · rw [if_neg (show ¬ j = p by omega)]
          by_cases y4 : j = 33 + 5 * (k : Int)
          · rw [if_pos y4, if_neg (fun w => absurd w.1 (by omega)), if_neg (fun w => by cases w.2), if_pos (by omega), hv, y4]
          · rw [if_neg y4, if_neg (fun w => absurd w.1 (by omega)), if_neg (fun w => by cases w.2), if_neg (by omega)]
      | false =>
        rw [if_neg (by decide)] at hp hw
        by_cases y2 : j = 32 + 5 * (k : Int)
        · rw [if_pos (show j = p by omega), if_neg (fun w => by cases w.2), if_pos ⟨by omega, rfl⟩, hw]
        · rw [if_neg (show ¬ j = p by omega)]
          by_cases y4 : j = 33 + 5 * (k : Int)
          · rw [if_pos y4, if_neg (fun w => by cases w.2), if_neg (fun w => absurd w.1 (by omega)), if_pos (by omega), hv, y4]
          · rw [if_neg y4, if_neg (fun w => by cases w.2), if_neg (fun w => absurd w.1 (by omega)), if_neg (by omega)]
    · have n1 : j ≠ p := by omega
      have n2 : j ≠ 33 + 5 * (k : Int) := by omega
      rw [if_neg n1, if_neg n2]
      unfold rnL
      rw [if_neg e, if_neg e]
      by_cases c : 29 ≤ j ∧ j < 129 ∧ (j - 29) / 5 < (k : Int) ∧ bt x ((j - 29) / 5) = true
      · have c2 : 29 ≤ j ∧ j < 129 ∧ (j - 29) / 5 < ((k + 1 : Nat) : Int) ∧ bt x ((j - 29) / 5) = true := ⟨c.1, c.2.1, by have := c.2.2.1; omega, c.2.2.2⟩
        rw [if_pos c, if_pos c2]
      · have c2 : ¬ (29 ≤ j ∧ j < 129 ∧ (j - 29) / 5 < ((k + 1 : Nat) : Int) ∧ bt x ((j - 29) / 5) = true) := by
          rintro ⟨y1, y2, y3, y4⟩
          exact c ⟨y1, y2, by omega, y4⟩
        rw [if_neg c, if_neg c2]
end RNL
section MRUNS
variable {a : HI} {b : HR} {s : SH} {N T : Int}
set_option maxRecDepth 100000
/-- the numbers that the loop needs -/
def RunB (n : Nat) (τ : RW) : Prop := τ 7 = n ∧ n ≤ 20 ∧ (0 ≤ τ 8 ∧ τ 8 ≤ 500000000) ∧ (0 ≤ τ 4 ∧ τ 4 ≤ 99) ∧ (0 ≤ τ 5 ∧ τ 5 ≤ 99) ∧ (0 ≤ τ 6 ∧ τ 6 ≤ 2000000) ∧ ∀ g, 0 ≤ g → g < 20 → (0 ≤ τ (29 + 5 * g) ∧ τ (29 + 5 * g) ≤ 60) ∧ 0 ≤ τ (33 + 5 * g) ∧ τ (33 + 5 * g) ≤ 1000000
end MRUNS
