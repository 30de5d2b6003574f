/-! ===== a run: what the law finds, against what the class says ===== -/
/-- the first group as the law finds it: from the last to the first -/
def frs (σ : RW) : Nat → Int → Int
  | 0, f => f
  | m + 1, f => frs σ m (if σ (32 + 5 * m) = 0 ∧ (f < 0 ∨ σ (31 + 5 * m) ≤ σ (31 + 5 * f)) then m else f)
theorem frs_s (σ : RW) (m : Nat) (f : Int) : frs σ (m + 1) f = frs σ m (if σ (32 + 5 * m) = 0 ∧ (f < 0 ∨ σ (31 + 5 * m) ≤ σ (31 + 5 * f)) then m else f) := rfl
def FrI (σ : RW) (n m : Nat) (f : Int) : Prop := (f = -6 ∧ ∀ i : Nat, m ≤ i → i < n → waiF σ i = false) ∨ ∃ k : Nat, f = k ∧ m ≤ k ∧ k < n ∧ waiF σ k = true ∧ ∀ i : Nat, m ≤ i → i < n → waiF σ i = true → tiF σ k < tiF σ i ∨ tiF σ k = tiF σ i ∧ k ≤ i
theorem frs_in {σ : RW} {n : Nat} : ∀ (m : Nat) (f : Int), m ≤ n → FrI σ n m f → FrI σ n 0 (frs σ m f)
  | 0, f, _, h => h
  | m + 1, f, hm, h => by
    rw [frs_s]
    refine frs_in m _ (by omega) ?_
    have hw : waiF σ m = decide (σ (32 + 5 * (m : Int)) = 0) := rfl
    have ht : tiF σ m = σ (31 + 5 * (m : Int)) := rfl
    by_cases c : σ (32 + 5 * (m : Int)) = 0
    · have hw1 : waiF σ m = true := by rw [hw]; exact decide_eq_true c
      rcases h with ⟨h1, h2⟩ | ⟨k, h1, h2, h3, h4, h5⟩
      · rw [if_pos ⟨c, Or.inl (by omega)⟩]
        refine Or.inr ⟨m, rfl, Nat.le_refl _, by omega, hw1, fun i i0 i1 hi => ?_⟩
        by_cases e : i = m
        · rw [e]; exact Or.inr ⟨rfl, Nat.le_refl _⟩
        · have := h2 i (by omega) i1
          rw [this] at hi; cases hi
      · have htk : tiF σ k = σ (31 + 5 * (k : Int)) := rfl
        by_cases d : σ (31 + 5 * (m : Int)) ≤ σ (31 + 5 * f)
        · rw [if_pos ⟨c, Or.inr d⟩]
          rw [h1] at d
          refine Or.inr ⟨m, rfl, Nat.le_refl _, by omega, hw1, fun i i0 i1 hi => ?_⟩
          by_cases e : i = m
          · rw [e]; exact Or.inr ⟨rfl, Nat.le_refl _⟩
          · have := h5 i (by omega) i1 hi
            omega
        · rw [if_neg (by omega)]
          refine Or.inr ⟨k, h1, by omega, h3, h4, fun i i0 i1 hi => ?_⟩
          by_cases e : i = m
          · rw [e, ht, htk]
            rw [h1] at d
            omega
          · exact h5 i (by omega) i1 hi
    · rw [if_neg (fun w => c w.1)]
      have hw1 : waiF σ m = false := by rw [hw]; exact decide_eq_false c
      rcases h with ⟨h1, h2⟩ | ⟨k, h1, h2, h3, h4, h5⟩
      · refine Or.inl ⟨h1, fun i i0 i1 => ?_⟩
        by_cases e : i = m
        · rw [e]; exact hw1
        · exact h2 i (by omega) i1
      · refine Or.inr ⟨k, h1, by omega, h3, h4, fun i i0 i1 hi => ?_⟩
        by_cases e : i = m
        · rw [e, hw1] at hi; cases hi
        · exact h5 i (by omega) i1 hi
theorem frs_ok {σ : RW} : frs σ (nG σ) (-6) = if fstP σ = -1 then -6 else fstP σ := by
  have h := frs_in (σ := σ) (n := nG σ) (nG σ) (-6) (Nat.le_refl _) (Or.inl ⟨rfl, fun i i0 i1 => absurd i1 (by omega)⟩)
  have hm := erl_min (z := -1) (p := waiF σ) (t := tiF σ) (by omega) (nG σ)
  rcases erl_in (z := -1) (p := waiF σ) (t := tiF σ) (by omega) (nG σ) with q | ⟨i, hi, q, qi⟩
  · rw [if_pos (show fstP σ = -1 from q)]
    rcases h with ⟨h1, -⟩ | ⟨k, h1, -, h3, h4, -⟩
    · exact h1
    · have := hm.1 q k h3
      rw [this] at h4; cases h4
  · have e : fstP σ = i := q
    rw [e, if_neg (by omega)]
    obtain ⟨-, -, g3⟩ := hm.2 i q
    rcases h with ⟨-, h2⟩ | ⟨k, h1, -, h3, h4, h5⟩
    · have := h2 i (by omega) hi
      rw [this] at qi; cases qi
    · have a1 := g3 k h3 h4
      have a2 := h5 i (by omega) hi qi
      rw [h1]; omega
theorem oft_0 {σ : RW} {N T h : Int} (hb : Bnd N T σ) : 0 ≤ oftP σ h := by
  have h1 := hb.lif
  rcases ofA_ok (h := h) hb 6 (Nat.le_refl _) with ⟨-, e, -⟩ | ⟨e, e2⟩
  · show 0 ≤ rueF (σ 0) (liF σ h) (leF σ) 6
    omega
  · show 0 ≤ rueF (σ 0) (liF σ h) (leF σ) 6
    omega
/-! who finds seats -/
section SEATS
variable {P T : Int → Int} {n : Nat}
theorem seat_in (hn : n ≤ 20) : ∀ (f : Nat) (p : Int → Bool) (free set : Int), ∀ i : Nat, i < n → bt (seatP P T n f p free set) i = true → bt set i = true ∨ p i = true
  | 0, p, free, set, i, _, h => Or.inl h
  | f + 1, p, free, set, i, hi, h => by
    rw [seatP_s] at h
    rcases erl_in (z := -1) (p := p) (t := T) (by omega) n with q | ⟨k, hk, q, qk⟩
    · rw [if_pos q] at h; exact Or.inl h
    · rw [if_neg (by omega)] at h
      have h2 := seat_in hn f _ _ _ i hi h
      rcases h2 with w | w
      · by_cases c : P (erl (-1) p T n) ≤ free
        · rw [if_pos c, q, bt_or _ _ _ (by omega) (by omega) (by omega) (by omega), Bool.or_eq_true, decide_eq_true_iff] at w
          rcases w with w | w
          · exact Or.inl w
          · right
            have : i = k := by omega
            rw [this]; exact qk
        · rw [if_neg c] at w; exact Or.inl w
      · simp only [Bool.and_eq_true] at w
        exact Or.inr w.1
theorem seat_keep (hn : n ≤ 20) : ∀ (f : Nat) (p : Int → Bool) (free set : Int), ∀ i : Nat, i < n → bt set i = true → bt (seatP P T n f p free set) i = true
  | 0, p, free, set, i, _, h => h
  | f + 1, p, free, set, i, hi, h => by
    rw [seatP_s]
    rcases erl_in (z := -1) (p := p) (t := T) (by omega) n with q | ⟨k, hk, q, qk⟩
    · rw [if_pos q]; exact h
    · rw [if_neg (by omega)]
      refine seat_keep hn f _ _ _ i hi ?_
      by_cases c : P (erl (-1) p T n) ≤ free
      · rw [if_pos c, q, bt_or _ _ _ (by omega) (by omega) (by omega) (by omega), h, Bool.true_or]
      · rw [if_neg c]; exact h
theorem in_put {set : Int} {k : Nat} (hk : k < 20) (hb : bt set k = false) : ∀ m : Nat, m ≤ 20 → smI (inS (iO set (iL 1 k)) P) m = smI (inS set P) m + if k < m then P k else 0
  | 0, _ => by rw [if_neg (by omega)]; rfl
  | m + 1, hm => by
    rw [smI_s, smI_s, in_put hk hb m (by omega)]
    have e : bt (iO set (iL 1 k)) m = (bt set m || decide ((m : Int) = k)) := bt_or _ _ _ (by omega) (by omega) (by omega) (by omega)
    unfold inS
    rw [e]
    by_cases c : m = k
    · subst c
      rw [hb]
      simp
    · have : decide ((m : Int) = k) = false := decide_eq_false (by omega)
      rw [this, Bool.or_false]
      by_cases d : k < m
      · rw [if_pos d, if_pos (show k < m + 1 by omega)]; omega
      · rw [if_neg d, if_neg (show ¬ k < m + 1 by omega)]; omega
theorem seat_sum (hn : n ≤ 20) : ∀ (f : Nat) (p : Int → Bool) (free set : Int), 0 ≤ free → (∀ i : Nat, i < n → p i = true → bt set i = false) → smI (inS (seatP P T n f p free set) P) n ≤ smI (inS set P) n + free
  | 0, p, free, set, hf, _ => by
    show smI (inS set P) n ≤ _
    omega
  | f + 1, p, free, set, hf, h => by
    rw [seatP_s]
    rcases erl_in (z := -1) (p := p) (t := T) (by omega) n with q | ⟨k, hk, q, qk⟩
    · rw [if_pos q]; omega
    · rw [if_neg (by omega)]
      have hbk := h k hk qk
      by_cases c : P (erl (-1) p T n) ≤ free
      · rw [if_pos c, if_pos c]
        rw [q] at c ⊢
        have ih := seat_sum hn f (fun i => p i && !decide (i = (k : Int))) (free - P k) (iO set (iL 1 k)) (by omega) (fun i hi hp => by
          simp only [Bool.and_eq_true, Bool.not_eq_true', decide_eq_false_iff_not] at hp
          rw [bt_or _ _ _ (by omega) (by omega) (by omega) (by omega), h i hi hp.1, decide_eq_false hp.2]; rfl)
        rw [in_put (P := P) (by omega) hbk n hn, if_pos hk] at ih
        omega
      · rw [if_neg c, if_neg c]
        exact seat_sum hn f _ free set hf (fun i hi hp => by
          simp only [Bool.and_eq_true] at hp
          exact h i hi hp.1)
end SEATS
theorem inS_0 {P : Int → Int} : ∀ m : Nat, m ≤ 20 → smI (inS 0 P) m = 0
  | 0, _ => rfl
  | m + 1, hm => by
    rw [smI_s, inS_0 m (by omega)]
    unfold inS
    rw [bt_0 _ (by omega) (by omega)]; simp
section GRP
variable {σ : RW} {N T : Int}
theorem grp_in (hb : Bnd N T σ) {f : Int} {i : Nat} (hi : i < nG σ) (h : bt (grpP σ f) i = true) : σ (32 + 5 * i) = 0 ∧ σ (30 + 5 * i) = σ (30 + 5 * f) ∧ σ (31 + 5 * i) ≤ begP σ f := by
  have h7 := hb.siz
  have hn : nG σ ≤ 20 := by unfold nG; omega
  rcases seat_in hn _ _ _ _ i hi h with w | w
  · rw [bt_0 _ (by omega) (by omega)] at w; cases w
  · exact of_decide_eq_true w
theorem grp_sum (hb : Bnd N T σ) (f : Int) : smI (inS (grpP σ f) (peF σ)) (nG σ) ≤ σ 3 := by
  have h7 := hb.siz
  have h3 := hb.sea
  have hn : nG σ ≤ 20 := by unfold nG; omega
  have := seat_sum (P := peF σ) (T := tiF σ) hn (nG σ) (fun i => decide (σ (32 + 5 * i) = 0 ∧ σ (30 + 5 * i) = σ (30 + 5 * f) ∧ σ (31 + 5 * i) ≤ begP σ f)) (σ 3) 0 (by omega) (fun i hi _ => bt_0 _ (by omega) (by omega))
  rw [inS_0 _ hn] at this
  unfold grpP
  omega
theorem grp_fst (hb : Bnd N T σ) (hf : fstP σ ≠ -1) (hp : σ (29 + 5 * fstP σ) ≤ σ 3) : bt (grpP σ (fstP σ)) (fstP σ) = true := by
  have h7 := hb.siz
  have hn : nG σ ≤ 20 := by unfold nG; omega
  rcases erl_in (z := -1) (p := waiF σ) (t := tiF σ) (by omega) (nG σ) with q | ⟨i, hi, q, qi⟩
  · exact absurd q hf
  · have e : fstP σ = i := q
    rw [e] at hp ⊢
    have hw : σ (32 + 5 * (i : Int)) = 0 := of_decide_eq_true qi
    have hbg : σ (31 + 5 * (i : Int)) ≤ begP σ i := by unfold begP; omega
    have hs := erl_sub (z := -1) (p := fun j => decide (σ (32 + 5 * j) = 0 ∧ σ (30 + 5 * j) = σ (30 + 5 * (i : Int)) ∧ σ (31 + 5 * j) ≤ begP σ i)) (q := waiF σ) (t := tiF σ) (by omega) (fun j hj hp => decide_eq_true (of_decide_eq_true hp).1) q (decide_eq_true ⟨hw, rfl, hbg⟩) (y := -1) (by omega)
    unfold grpP
    obtain ⟨m, hm⟩ : ∃ m, nG σ = m + 1 := ⟨nG σ - 1, by omega⟩
    have hseat : ∀ p : Int → Bool, erl (-1) p (tiF σ) (nG σ) = i → bt (seatP (peF σ) (tiF σ) (nG σ) (m + 1) p (σ 3) 0) i = true := fun p hs => by
      rw [seatP_s, hs, if_neg (by omega), if_pos (show peF σ i ≤ σ 3 from hp), if_pos (show peF σ i ≤ σ 3 from hp)]
      refine seat_keep hn _ _ _ _ i hi ?_
      rw [bt_or _ _ _ (by omega) (by omega) (by omega) (by omega)]
      simp
    have := hseat _ hs
    rw [← hm] at this
    exact this
theorem rsn_per (h : rsnP σ = 0 ∨ rsnP σ = 4) : σ (29 + 5 * fstP σ) ≤ σ 3 := by
  obtain ⟨h1, h2⟩ := rsn_ok h
  unfold rsnP at h
  rw [if_neg h1, if_neg h2] at h
  by_cases c : σ 3 < σ (29 + 5 * fstP σ)
  · rw [if_pos c] at h; omega
  · omega
theorem rl_same : ∀ (n : Nat) (τ : RW), rlN n τ < n → rlN (n + 1) τ = rlN n τ
  | 0, τ, h => absurd h (Nat.not_lt_zero _)
  | n + 1, τ, h => by
    rw [rlN_s] at h
    rw [rlN_s (n + 1) τ, rlN_s n τ]
    by_cases c : rsnP τ = 0
    · rw [if_pos c] at h
      rw [if_pos c, if_pos c, rl_same n (stepQ τ) (by omega)]
    · rw [if_neg c, if_neg c]
theorem rl_step (h : rsnP σ = 0) (h2 : rlN 50 σ ≠ 50) : rlN 50 (stepQ σ) + 1 = rlN 50 σ := by
  have e : rlN 50 σ = rlN 49 (stepQ σ) + 1 := by
    rw [show 50 = 49 + 1 from rfl, rlN_s, if_pos h]
  have hle := rlN_le 49 (stepQ σ)
  rw [e, show 50 = 49 + 1 from rfl, rl_same 49 (stepQ σ) (by omega)]
theorem rl_pos (h : rsnP σ = 0) : 0 < rlN 50 σ := by
  rw [show 50 = 49 + 1 from rfl, rlN_s, if_pos h]; omega
theorem rl_no (h : rsnP σ ≠ 0) : rlN 50 σ = 0 := by
  rw [show 50 = 49 + 1 from rfl, rlN_s, if_neg h]
theorem recR_last {z : Int} {ρ : Int → RW} (h : 0 ≤ z ∧ z ≤ 6) : recR z ρ σ (recZ z - 1) = σ ∧ 1 ≤ recZ z := by
  unfold recR recZ
  by_cases c : z = 6
  · rw [if_pos c, if_pos c]
    exact ⟨rfl, by omega⟩
  · rw [if_neg c, if_neg c, if_neg (by omega)]
    exact ⟨rfl, by omega⟩
theorem nxt_at {k : Int} (h : rsnP σ = 0 ∨ rsnP σ = 4) (hk : 0 ≤ k ∧ k ≤ 3) : nxtQ σ k = if k = 0 then σ (30 + 5 * fstP σ) else if k = 1 then grpP σ (fstP σ) else if k = 2 then begP σ (fstP σ) else if foggyP σ (σ (30 + 5 * fstP σ)) = true then 1 else 0 := by
  unfold nxtQ; rw [if_pos hk, if_pos h]
theorem nxt_no {k : Int} (h : ¬ (rsnP σ = 0 ∨ rsnP σ = 4)) (hk : 0 ≤ k ∧ k ≤ 3) : nxtQ σ k = -5 := by
  unfold nxtQ; rw [if_pos hk, if_neg h]
end GRP
