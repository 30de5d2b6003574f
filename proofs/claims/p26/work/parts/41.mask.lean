/-! ===== the model: what it answers ===== -/
def oftQ (σ : RW) (h : Int) : Int := if 0 ≤ h ∧ h ≤ 3 then (if 0 < σ (129 + 92 * h) then oftP σ h else -6) else -1
def shwQ (σ : RW) (h w : Int) : Int := if 0 ≤ h ∧ h ≤ 3 then (if 0 ≤ w ∧ w ≤ 4 then σ (129 + 92 * h + w) else -2) else -1
def litQ (σ : RW) (h l : Int) : Int := if 0 ≤ h ∧ h ≤ 3 then (if 0 ≤ l ∧ l ≤ 5 then σ (134 + 92 * h + l) else -1) else -1
def lmpQ (σ : RW) (l w : Int) : Int := if 0 ≤ l ∧ l ≤ 5 then (if w = 0 then σ (11 + 3 * l) else if w = 1 then leF σ l else if w = 2 then σ (12 + 3 * l) else if w = 3 then σ (13 + 3 * l) else -2) else -1
def gruQ (σ : RW) (g w : Int) : Int := if 0 ≤ g ∧ g < σ 7 then (if 0 ≤ w ∧ w ≤ 4 then σ (29 + 5 * g + w) else -2) else -1
def cntQ (σ : RW) (len z w : Int) : Int := if w = 2 then mkI (waiF σ) (nG σ) else if w = 6 then mkI (tolF σ) 4 else if w = 13 then len else if w = 14 then z else if w = 0 then σ 6 else if w = 1 then σ 7 else if w = 3 then σ 8 else if w = 4 then σ 9 else if w = 5 then σ 10 else if 7 ≤ w ∧ w ≤ 12 then σ (w - 7) else -2
def nxtQ (σ : RW) (w : Int) : Int := if 0 ≤ w ∧ w ≤ 3 then (if rsnP σ = 0 ∨ rsnP σ = 4 then (if w = 0 then σ (30 + 5 * fstP σ) else if w = 1 then grpP σ (fstP σ) else if w = 2 then begP σ (fstP σ) else if foggyP σ (σ (30 + 5 * fstP σ)) = true then 1 else 0) else -5) else -2
theorem rsn_in (σ : RW) : rsnP σ = 0 ∨ rsnP σ = 1 ∨ rsnP σ = 2 ∨ rsnP σ = 3 ∨ rsnP σ = 4 := by
  unfold rsnP
  by_cases c1 : fstP σ = -1
  · rw [if_pos c1]; omega
  · rw [if_neg c1]
    by_cases c2 : σ (129 + 92 * σ (30 + 5 * fstP σ)) = 0
    · rw [if_pos c2]; omega
    · rw [if_neg c2]
      by_cases c3 : σ 3 < σ (29 + 5 * fstP σ)
      · rw [if_pos c3]; omega
      · rw [if_neg c3]
        by_cases c4 : 0 < oftP σ (σ (30 + 5 * fstP σ))
        · rw [if_pos c4]; omega
        · rw [if_neg c4]; omega
theorem rsn_ok {σ : RW} (h : rsnP σ = 0 ∨ rsnP σ = 4) : fstP σ ≠ -1 ∧ σ (129 + 92 * σ (30 + 5 * fstP σ)) ≠ 0 := by
  refine ⟨fun c => ?_, fun c => ?_⟩
  · unfold rsnP at h; rw [if_pos c] at h; omega
  · by_cases c1 : fstP σ = -1
    · unfold rsnP at h; rw [if_pos c1] at h; omega
    · unfold rsnP at h; rw [if_neg c1, if_pos c] at h; omega
section MASK
variable {a : HI} {b : HR} {s : SH} {N T : Int}
set_option maxRecDepth 100000
end MASK
