/-! ===== the model: first, begins, fog ===== -/
section MODEL2
variable {a : HI} {b : HR} {s : SH} {N T : Int}
set_option maxRecDepth 100000
def tooF (σ : RW) (h : Int) : Int → Bool := fun k => decide (0 < σ (134 + 92 * h + k) ∧ σ 0 < σ (11 + 3 * k) + σ (134 + 92 * h + k))
end MODEL2
