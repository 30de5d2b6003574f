/-! ===== the model: who finds seats ===== -/
theorem iO_0 {x : Int} (h : InR x) : iO x 0 = x := by
  unfold iO
  have e : Int32.ofInt x ||| Int32.ofInt 0 = Int32.ofInt x := by
    apply Int32.toBitVec_inj.mp
    show (Int32.ofInt x).toBitVec ||| 0#32 = _
    simp
  rw [e]
  exact toI h
theorem erl_sub {z : Int} {p q : Int → Bool} {t : Int → Int} {n k : Nat} (hz : z < 0) (hpq : ∀ i : Nat, i < n → p i = true → q i = true) (he : erl z q t n = k) (hp : p k = true) : ∀ {y : Int}, y < 0 → erl y p t n = k := by
  intro y hy
  obtain ⟨g1, g2, g3⟩ := (erl_min (p := q) (t := t) hz n).2 k he
  rcases erl_in (z := y) (p := p) (t := t) hy n with w | ⟨j, hj, w, pj⟩
  · have := (erl_min (p := p) (t := t) hy n).1 w k g1
    rw [this] at hp; cases hp
  · obtain ⟨f1, f2, f3⟩ := (erl_min (p := p) (t := t) hy n).2 j w
    have a1 := g3 j hj (hpq j hj pj)
    have a2 := f3 k g1 hp
    rw [w]
    have : j = k := by omega
    rw [this]
/-- how many are not asked -/
def cntU (x : Int) : Nat → Nat
  | 0 => 0
  | n + 1 => cntU x n + (if bt x n = true then 0 else 1)
theorem cntU_0 {x : Int} : ∀ {n : Nat}, cntU x n = 0 → ∀ i : Nat, i < n → bt x i = true
  | n + 1, h, i, hi => by
    unfold cntU at h
    by_cases e : i = n
    · subst e
      by_cases c : bt x i = true
      · exact c
      · rw [if_neg c] at h; omega
    · exact cntU_0 (x := x) (n := n) (by omega) i (by omega)
theorem cntU_le {x : Int} : ∀ n : Nat, cntU x n ≤ n
  | 0 => Nat.le_refl _
  | n + 1 => by
    have := cntU_le (x := x) n
    unfold cntU
    split <;> omega
theorem cntU_or {x : Int} {k : Nat} (hk : k < 32) (hb : bt x k = false) : ∀ n : Nat, n ≤ 32 → cntU (iO x (iL 1 k)) n + (if k < n then 1 else 0) = cntU x n
  | 0, _ => by simp [cntU]
  | n + 1, hn => by
    have ih := cntU_or (x := x) hk hb n (by omega)
    unfold cntU
    rw [bt_or _ _ _ (by omega) (by omega) (by omega) (by omega)]
    by_cases e : n = k
    · subst e
      rw [hb]
      simp at ih ⊢
      omega
    · have e2 : ¬ ((n : Int) = (k : Int)) := by omega
      simp only [e2, decide_false, Bool.or_false]
      by_cases c : k < n
      · rw [if_pos c] at ih; rw [if_pos (show k < n + 1 by omega)]; omega
      · rw [if_neg c] at ih; rw [if_neg (show ¬ k < n + 1 by omega)]; omega
/-- those that wait for the show and came in time, not asked -/
def mayP (σ : RW) (w g x : Int) : Int → Bool := fun i => decide (σ (32 + 5 * i) = 0 ∧ σ (30 + 5 * i) = w ∧ σ (31 + 5 * i) ≤ g) && !bt x i
section MSEAT
variable {a : HI} {b : HR} {s : SH} {N T : Int}
set_option maxRecDepth 100000
theorem may_none {σ : RW} {w g x : Int} {n : Nat} (h : ∀ i : Nat, i < n → asP σ w x i = false) : ∀ i : Nat, i < n → mayP σ w g x i = false := by
  intro i hi
  have := h i hi
  unfold asP at this
  unfold mayP
  by_cases c1 : σ (32 + 5 * i) = 0
  · by_cases c2 : σ (30 + 5 * i) = w
    · by_cases c3 : bt x i = true
      · rw [c3]; simp
      · rw [Bool.not_eq_true] at c3; rw [c3] at this; simp [c1, c2] at this
    · simp [c2]
  · simp [c1]
theorem may_late {σ : RW} {w g x : Int} {n i : Nat} (hmin : ∀ j : Nat, j < n → asP σ w x j = true → tiF σ i < tiF σ j ∨ tiF σ i = tiF σ j ∧ i ≤ j) (c : ¬ σ (31 + 5 * i) ≤ g) : ∀ j : Nat, j < n → mayP σ w g x j = false := by
  intro j hj
  have hm := hmin j hj
  unfold asP at hm
  have t1 : tiF σ i = σ (31 + 5 * i) := rfl
  have t2 : tiF σ j = σ (31 + 5 * j) := rfl
  rw [t1, t2] at hm
  unfold mayP
  by_cases c1 : σ (32 + 5 * j) = 0
  · by_cases c2 : σ (30 + 5 * j) = w
    · by_cases c3 : bt x j = true
      · rw [c3]; simp
      · rw [Bool.not_eq_true] at c3
        have hm := hm (by rw [c3]; simp [c1, c2])
        have : ¬ σ (31 + 5 * j) ≤ g := by omega
        simp [this]
    · simp [c2]
  · simp [c1]
theorem mayP_0 {σ : RW} {f : Int} {i : Nat} (hi : i < 32) : mayP σ (σ (30 + 5 * f)) (begP σ f) 0 i = decide (σ (32 + 5 * i) = 0 ∧ σ (30 + 5 * i) = σ (30 + 5 * f) ∧ σ (31 + 5 * i) ≤ begP σ f) := by
  unfold mayP
  rw [bt_0 _ (by omega) (by omega)]
  simp
/-- the model's first of all, against the class's -/
theorem first_any {σ : RW} (hb : Bnd N T σ) : erl (-6) (asP σ (-6) 0) (tiF σ) (nG σ) = if fstP σ = -1 then -6 else fstP σ := by
  have hsz := hb.siz
  have e : ∀ i : Nat, i < nG σ → asP σ (-6) 0 i = waiF σ i := by
    intro i hi
    unfold asP waiF
    rw [bt_0 _ (by omega) (by unfold nG at hi; omega)]
    simp
  rw [(erl_cong (z := -6) (u := tiF σ) (by omega) e (fun _ _ => rfl)).1]
  rcases erl_zz (z := -6) (y := -1) (p := waiF σ) (t := tiF σ) (by omega) (by omega) (nG σ) with ⟨h1, h2⟩ | ⟨h1, h2⟩
  · rw [h1, if_pos (show fstP σ = -1 from h2)]
  · rw [h1, if_neg (show ¬ fstP σ = -1 by unfold fstP; omega)]; rfl
/-- and of those for its own show it is the first, too -/
theorem first_own {σ : RW} (hb : Bnd N T σ) (hf : fstP σ ≠ -1) : fstP σ = erl (-6) (asP σ (σ (30 + 5 * fstP σ)) 0) (tiF σ) (nG σ) := by
  have hsz := hb.siz
  rcases erl_in (z := -1) (p := waiF σ) (t := tiF σ) (by omega) (nG σ) with q | ⟨i, hi, q, qi⟩
  · exact absurd q hf
  · have e : fstP σ = i := q
    rw [e]
    symm
    refine erl_sub (z := -1) (q := waiF σ) (by omega) (fun j hj hp => ?_) q ?_ (by omega)
    · unfold asP at hp
      simp only [Bool.and_eq_true] at hp
      exact hp.1.1
    · unfold asP
      rw [bt_0 _ (by omega) (by unfold nG at hi; omega)]
      have : decide (σ (32 + 5 * (i : Int)) = 0) = true := qi
      rw [this]
      simp
end MSEAT
