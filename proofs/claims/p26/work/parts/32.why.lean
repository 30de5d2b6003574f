/-! ===== the model: why, how often, sets ===== -/
def ShB (σ : RW) : Prop := (∀ h, 0 ≤ h → h < 4 → 0 ≤ σ (129 + 92 * h) ∧ σ (129 + 92 * h) ≤ 999) ∧ (∀ h k, 0 ≤ h → h < 4 → 0 ≤ k → k < 6 → 0 ≤ σ (134 + 92 * h + k) ∧ σ (134 + 92 * h + k) ≤ 999) ∧ (∀ h, 0 ≤ h → h < 4 → 0 < σ (129 + 92 * h) → ∃ k, 0 ≤ k ∧ k < 6 ∧ 0 < σ (134 + 92 * h + k))
theorem ShB.mi {σ : RW} (h : ShB σ) : ∀ h, 0 ≤ h → h < 4 → 0 ≤ σ (129 + 92 * h) ∧ σ (129 + 92 * h) ≤ 999 := h.1
theorem ShB.li {σ : RW} (h : ShB σ) : ∀ h k, 0 ≤ h → h < 4 → 0 ≤ k → k < 6 → 0 ≤ σ (134 + 92 * h + k) ∧ σ (134 + 92 * h + k) ≤ 999 := h.2.1
theorem ShB.op {σ : RW} (h : ShB σ) : ∀ h, 0 ≤ h → h < 4 → 0 < σ (129 + 92 * h) → ∃ k, 0 ≤ k ∧ k < 6 ∧ 0 < σ (134 + 92 * h + k) := h.2.2
theorem ShB.mk {σ : RW} (mi_ : ∀ h, 0 ≤ h → h < 4 → 0 ≤ σ (129 + 92 * h) ∧ σ (129 + 92 * h) ≤ 999) (li_ : ∀ h k, 0 ≤ h → h < 4 → 0 ≤ k → k < 6 → 0 ≤ σ (134 + 92 * h + k) ∧ σ (134 + 92 * h + k) ≤ 999) (op_ : ∀ h, 0 ≤ h → h < 4 → 0 < σ (129 + 92 * h) → ∃ k, 0 ≤ k ∧ k < 6 ∧ 0 < σ (134 + 92 * h + k)) : ShB σ := ⟨mi_, li_, op_⟩
theorem RelD.shb {a : HI} {b : HR} {s : SH} {d : Nat} {σ : RW} (hR : RelD a b s d σ) : ShB σ := by
  refine ShB.mk (fun h h0 h1 => ?_) (fun h k h0 h1 k0 k1 => ?_) (fun h h0 h1 ht => ?_)
  · rcases hR.sh h h0 h1 with ⟨-, z, -⟩ | ⟨-, -, -, w4, -⟩
    · have := z 0 (by omega) (by omega); rw [Int.add_zero] at this; omega
    · omega
  · rcases hR.sh h h0 h1 with ⟨-, -, z⟩ | ⟨-, -, -, -, w5, -⟩
    · have := z k k0 k1; omega
    · have := w5 k k0 k1; omega
  · rcases hR.sh h h0 h1 with ⟨-, z, -⟩ | ⟨-, -, -, -, -, w6⟩
    · have := z 0 (by omega) (by omega); rw [Int.add_zero] at this; omega
    · exact w6
theorem often_pos {N T : Int} {σ : RW} {h : Int} (hb : Bnd N T σ) (hs : ShB σ) (h0 : 0 ≤ h) (h1 : h < 4) : ∀ n : Nat, n ≤ 6 → (0 < rueF (σ 0) (liF σ h) (leF σ) n ↔ anB (tooF σ h) n = false)
  | 0, _ => by
    have := hb.lif
    unfold rueF anB
    simp; omega
  | n + 1, hn => by
    have ih := often_pos hb hs h0 h1 n (by omega)
    have e1 := hs.li h n h0 h1 (by omega) (by omega)
    have e2 := hb.bur n (by omega) (by omega)
    rw [rueF_s, anB_s, Bool.or_eq_false_iff, ← ih]
    have hq : liF σ h n = σ (134 + 92 * h + n) := rfl
    have hr : leF σ n = max 0 (σ 0 - σ (11 + 3 * n)) := rfl
    have hp : tooF σ h n = decide (0 < σ (134 + 92 * h + n) ∧ σ 0 < σ (11 + 3 * n) + σ (134 + 92 * h + n)) := rfl
    rw [hq, hr, hp, decide_eq_false_iff_not]
    by_cases c : 0 < σ (134 + 92 * h + n)
    · rw [if_pos c]
      have e3 := Int.le_ediv_iff_mul_le (a := 1) (b := max 0 (σ 0 - σ (11 + 3 * (n : Int)))) c
      rw [Int.one_mul] at e3
      omega
    · rw [if_neg c]
      constructor
      · intro w; exact ⟨w, fun v => c v.1⟩
      · intro w; exact w.1
section MWHY
variable {a : HI} {b : HR} {s : SH} {N T : Int}
set_option maxRecDepth 100000
end MWHY
