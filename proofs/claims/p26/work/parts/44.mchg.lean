/-! ===== the model: set, group, undo, save, restore, run, runsLeft ===== -/
def lstQ (k : Int) : Int := if k = 0 ∨ k = 2 ∨ k = 3 then 1 else 0
def mstQ (k : Int) : Int := if k = 0 then 9999 else if k = 1 then 50 else if k = 2 then 100 else 99
def setQ (k v : Int) : Prop := (0 ≤ k ∧ k ≤ 5) ∧ lstQ k ≤ v ∧ v ≤ mstQ k
def groQ (σ : RW) (p h t : Int) : RW := up1 (up1 (up1 (up1 (up1 (up1 σ (29 + 5 * σ 7) p) (30 + 5 * σ 7) h) (31 + 5 * σ 7) t) (32 + 5 * σ 7) 0) (33 + 5 * σ 7) 0) 7 (σ 7 + 1)
def rlN : Nat → RW → Nat
  | 0, _ => 0
  | n + 1, σ => if rsnP σ = 0 then rlN n (stepQ σ) + 1 else 0
theorem rlN_s (n : Nat) (σ : RW) : rlN (n + 1) σ = if rsnP σ = 0 then rlN n (stepQ σ) + 1 else 0 := rfl
theorem rlN_le : ∀ (n : Nat) (σ : RW), rlN n σ ≤ n
  | 0, _ => Nat.le_refl _
  | n + 1, σ => by
    have := rlN_le n (stepQ σ)
    rw [rlN_s]
    split <;> omega
section MCHG
variable {a : HI} {b : HR} {s : SH} {N T : Int}
set_option maxRecDepth 100000
theorem end_eq {σ : RW} (h : rsnP σ = 0) : endP σ = begP σ (fstP σ) + σ (129 + 92 * σ (30 + 5 * fstP σ)) := by
  obtain ⟨h1, h2⟩ := rsn_ok (σ := σ) (Or.inl h)
  unfold endP
  rw [if_neg h1, if_neg h2]
theorem step_ok {σ : RW} (hb : Bnd N T σ) (hs : ShB σ) (hN : N + 1 ≤ 2000) (hT : T ≤ 900000) (h : rsnP σ = 0) : Bnd (N + 1) (T + 1098) (stepQ σ) ∧ ShB (stepQ σ) := by
  obtain ⟨h1, -⟩ := rsn_ok (σ := σ) (Or.inl h)
  rcases fstP_in hb with w | ⟨w1, w2, w3, w4⟩
  · exact absurd w h1
  have h3 := hb.whi (fstP σ) w1 w3
  have bB : 0 ≤ begP σ (fstP σ) ∧ begP σ (fstP σ) ≤ T + 99 := by
    have := hb.tim (fstP σ) w1 w3
    have := hb.now
    have := hb.ct
    unfold begP
    omega
  have hm := hs.mi (σ (30 + 5 * fstP σ)) (by omega) (by omega)
  unfold stepQ
  exact ⟨hb.runT hs hN (by omega) (by omega) (by omega), hs.runT (by omega)⟩
end MCHG
