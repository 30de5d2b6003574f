/-! ===== masks, sums, the earliest ===== -/
def bt (m i : Int) : Bool := decide (iA (iS m i) 1 = 1)
theorem amt_r : ∀ j, j < 32 → ((nI j &&& 31).toBitVec.smod 32).toNat = j := by decide +kernel
theorem and1 (v : BitVec 32) : (v &&& 1#32) = (if v.getLsbD 0 = true then 1#32 else 0#32) := by
  apply BitVec.eq_of_getLsbD_eq
  intro i hi
  rw [BitVec.getLsbD_and]
  by_cases h : v.getLsbD 0 = true
  · rw [if_pos h]
    by_cases h0 : i = 0
    · subst h0; rw [h]; rfl
    · have : (1#32).getLsbD i = false := by
        rw [BitVec.getLsbD_one]; simp; omega
      rw [this, Bool.and_false]
  · rw [if_neg h]
    by_cases h0 : i = 0
    · subst h0; rw [Bool.not_eq_true] at h; rw [h]; rfl
    · have : (1#32).getLsbD i = false := by
        rw [BitVec.getLsbD_one]; simp; omega
      rw [this, Bool.and_false]; simp
theorem iS_bv {m : Int} {k : Nat} (hk : k < 32) : (Int32.ofInt m >>> (Int32.ofInt k &&& 31)).toBitVec = (Int32.ofInt m).toBitVec.sshiftRight k := by
  rw [ofI_nat]
  show (Int32.ofInt m).toBitVec.sshiftRight' ((nI k &&& 31).toBitVec.smod 32) = _
  unfold BitVec.sshiftRight'
  rw [amt_r k hk]
theorem iL_bv {m : Int} {k : Nat} (hk : k < 32) : (Int32.ofInt m <<< (Int32.ofInt k &&& 31)).toBitVec = (Int32.ofInt m).toBitVec <<< k := by
  rw [ofI_nat]
  show (Int32.ofInt m).toBitVec <<< ((nI k &&& 31).toBitVec.smod 32) = _
  rw [BitVec.shiftLeft_eq', amt_r k hk]
theorem iA1 (m : Int) (k : Nat) (hk : k < 32) : iA (iS m k) 1 = if (Int32.ofInt m).toBitVec.getLsbD k = true then 1 else 0 := by
  unfold iA iS
  rw [Int32.ofInt_toInt]
  have e : (Int32.ofInt m >>> (Int32.ofInt k &&& 31) &&& Int32.ofInt 1).toBitVec = (if (Int32.ofInt m).toBitVec.getLsbD k = true then 1#32 else 0#32) := by
    show (Int32.ofInt m >>> (Int32.ofInt k &&& 31)).toBitVec &&& 1#32 = _
    rw [iS_bv hk, and1, BitVec.getLsbD_sshiftRight]
    simp [hk]
  show (Int32.ofInt m >>> (Int32.ofInt k &&& 31) &&& Int32.ofInt 1).toBitVec.toInt = _
  rw [e]
  by_cases h : (Int32.ofInt m).toBitVec.getLsbD k = true
  · rw [if_pos h, if_pos h]; rfl
  · rw [if_neg h, if_neg h]; rfl
theorem bt_bv (m : Int) (k : Nat) (hk : k < 32) : bt m k = (Int32.ofInt m).toBitVec.getLsbD k := by
  unfold bt
  rw [iA1 m k hk]
  by_cases h : (Int32.ofInt m).toBitVec.getLsbD k = true
  · rw [if_pos h, h]; rfl
  · rw [if_neg h]; rw [Bool.not_eq_true] at h; rw [h]; rfl
/-- what (m >> k & 1) is -/
theorem iA_bt (m k : Int) (h0 : 0 ≤ k) (h1 : k < 32) : iA (iS m k) 1 = if bt m k = true then 1 else 0 := by
  obtain ⟨j, rfl⟩ := Int.eq_ofNat_of_zero_le h0
  rw [bt_bv m j (by omega), iA1 m j (by omega)]
theorem bt_0 (k : Int) (h0 : 0 ≤ k) (h1 : k < 32) : bt 0 k = false := by
  obtain ⟨j, rfl⟩ := Int.eq_ofNat_of_zero_le h0
  rw [bt_bv 0 j (by omega)]
  show (0#32).getLsbD j = false
  simp
theorem one_bv (k j : Nat) (hk : k < 32) (hj : j < 32) : (Int32.ofInt (iL 1 k)).toBitVec.getLsbD j = decide (j = k) := by
  unfold iL
  rw [Int32.ofInt_toInt, iL_bv hk]
  show (1#32 <<< k).getLsbD j = _
  rw [BitVec.getLsbD_shiftLeft, BitVec.getLsbD_one]
  by_cases h : j = k
  · subst h; simp [hj]
  · simp [hj, h]; omega
theorem bt_or (m k i : Int) (h0 : 0 ≤ k) (h1 : k < 32) (g0 : 0 ≤ i) (g1 : i < 32) : bt (iO m (iL 1 k)) i = (bt m i || decide (i = k)) := by
  obtain ⟨j, rfl⟩ := Int.eq_ofNat_of_zero_le h0
  obtain ⟨i, rfl⟩ := Int.eq_ofNat_of_zero_le g0
  rw [bt_bv _ i (by omega), bt_bv _ i (by omega)]
  unfold iO
  rw [Int32.ofInt_toInt]
  show ((Int32.ofInt m).toBitVec ||| (Int32.ofInt (iL 1 j)).toBitVec).getLsbD i = _
  rw [BitVec.getLsbD_or, one_bv j i (by omega) (by omega)]
  congr 1
  simp; omega
theorem bt_not (m k i : Int) (h0 : 0 ≤ k) (h1 : k < 32) (g0 : 0 ≤ i) (g1 : i < 32) : bt (iA m (iX (iL 1 k) (-1))) i = (bt m i && !decide (i = k)) := by
  obtain ⟨j, rfl⟩ := Int.eq_ofNat_of_zero_le h0
  obtain ⟨i, rfl⟩ := Int.eq_ofNat_of_zero_le g0
  rw [bt_bv _ i (by omega), bt_bv _ i (by omega)]
  unfold iA iX
  rw [Int32.ofInt_toInt, Int32.ofInt_toInt]
  show ((Int32.ofInt m).toBitVec &&& ((Int32.ofInt (iL 1 j)).toBitVec ^^^ (Int32.ofInt (-1)).toBitVec)).getLsbD i = _
  rw [BitVec.getLsbD_and, BitVec.getLsbD_xor, one_bv j i (by omega) (by omega)]
  have : (Int32.ofInt (-1)).toBitVec.getLsbD i = true := by
    show (BitVec.ofInt 32 (-1)).getLsbD i = true
    rw [show BitVec.ofInt 32 (-1) = BitVec.allOnes 32 by decide, BitVec.getLsbD_allOnes]
    simp; omega
  rw [this]
  congr 1
  simp; omega
theorem or_R (m k : Int) : InR (iO m k) := InR_toInt _
theorem and_R (m k : Int) : InR (iA m k) := InR_toInt _
/-- the mask of those below n that are so -/
def mkI (p : Int → Bool) : Nat → Int
  | 0 => 0
  | n + 1 => if p n = true then iO (mkI p n) (iL 1 n) else mkI p n
theorem mkI_R (p : Int → Bool) : ∀ n, InR (mkI p n)
  | 0 => by unfold mkI; omega
  | n + 1 => by
    unfold mkI
    split
    · exact or_R _ _
    · exact mkI_R p n
theorem mkI_cong {p q : Int → Bool} : ∀ {n : Nat}, (∀ i : Nat, i < n → p i = q i) → mkI p n = mkI q n
  | 0, _ => rfl
  | n + 1, h => by
    unfold mkI
    rw [mkI_cong (fun i hi => h i (Nat.lt_succ_of_lt hi)), h n (Nat.lt_succ_self n)]
theorem bt_mk {p : Int → Bool} : ∀ {n : Nat}, n ≤ 32 → ∀ i : Nat, i < 32 → bt (mkI p n) i = (decide (i < n) && p i)
  | 0, _, i, hi => by
    unfold mkI
    rw [bt_0 _ (by omega) (by omega)]
    simp
  | n + 1, hn, i, hi => by
    unfold mkI
    have ih := bt_mk (p := p) (n := n) (by omega) i hi
    by_cases hp : p n = true
    · rw [if_pos hp, bt_or _ _ _ (by omega) (by omega) (by omega) (by omega), ih]
      by_cases h : i = n
      · subst h; simp [hp]
      · have : ¬ ((i : Int) = (n : Int)) := by omega
        simp only [this, decide_false, Bool.or_false]
        congr 1
        simp; omega
    · rw [if_neg hp, ih]
      by_cases h : i = n
      · subst h; simp at hp; simp [hp]
      · congr 1
        simp; omega
/-- the lowest of the earliest among those that are so; z: none -/
def erl (z : Int) (p : Int → Bool) (t : Int → Int) : Nat → Int
  | 0 => z
  | n + 1 => if p n = true ∧ (erl z p t n = z ∨ t n < t (erl z p t n)) then n else erl z p t n
theorem erl_cong {z : Int} {p q : Int → Bool} {t u : Int → Int} (hz : z < 0) : ∀ {n : Nat}, (∀ i : Nat, i < n → p i = q i) → (∀ i : Nat, i < n → t i = u i) → erl z p t n = erl z q u n ∧ (erl z p t n = z ∨ ∃ i : Nat, i < n ∧ erl z p t n = i ∧ p i = true)
  | 0, _, _ => ⟨rfl, Or.inl rfl⟩
  | n + 1, h1, h2 => by
    obtain ⟨e, e2⟩ := erl_cong (z := z) (p := p) (q := q) (t := t) (u := u) hz (n := n) (fun i hi => h1 i (Nat.lt_succ_of_lt hi)) (fun i hi => h2 i (Nat.lt_succ_of_lt hi))
    have hp := h1 n (Nat.lt_succ_self n)
    have ht := h2 n (Nat.lt_succ_self n)
    unfold erl
    rw [← e, ← hp, ← ht]
    have hc : (p n = true ∧ (erl z p t n = z ∨ t n < t (erl z p t n))) ↔ (p n = true ∧ (erl z p t n = z ∨ t n < u (erl z p t n))) := by
      rcases e2 with e2 | ⟨i, hi, e2, -⟩
      · rw [e2]; simp
      · rw [e2, h2 i (Nat.lt_succ_of_lt hi)]
    refine ⟨?_, ?_⟩
    · by_cases hh : p n = true ∧ (erl z p t n = z ∨ t n < t (erl z p t n))
      · rw [if_pos hh, if_pos (hc.mp hh)]
      · rw [if_neg hh, if_neg (fun w => hh (hc.mpr w))]
    · by_cases hh : p n = true ∧ (erl z p t n = z ∨ t n < t (erl z p t n))
      · rw [if_pos hh]; exact Or.inr ⟨n, Nat.lt_succ_self n, rfl, hh.1⟩
      · rw [if_neg hh]
        rcases e2 with e2 | ⟨i, hi, e2, e3⟩
        · exact Or.inl e2
        · exact Or.inr ⟨i, Nat.lt_succ_of_lt hi, e2, e3⟩
theorem erl_in {z : Int} {p : Int → Bool} {t : Int → Int} (hz : z < 0) (n : Nat) : erl z p t n = z ∨ ∃ i : Nat, i < n ∧ erl z p t n = i ∧ p i = true := (erl_cong (q := p) (u := t) hz (fun _ _ => rfl) (fun _ _ => rfl)).2
/-- it is none just when none is so, and is least -/
theorem erl_min {z : Int} {p : Int → Bool} {t : Int → Int} (hz : z < 0) : ∀ n : Nat, (erl z p t n = z → ∀ i : Nat, i < n → p i = false) ∧ (∀ k : Nat, erl z p t n = k → k < n ∧ p k = true ∧ ∀ i : Nat, i < n → p i = true → t k < t i ∨ t k = t i ∧ k ≤ i)
  | 0 => ⟨fun _ i hi => absurd hi (Nat.not_lt_zero _), fun k hk => by unfold erl at hk; omega⟩
  | n + 1 => by
    obtain ⟨h1, h2⟩ := erl_min (z := z) (p := p) (t := t) hz n
    have h3 := erl_in (z := z) (p := p) (t := t) hz n
    unfold erl
    by_cases hh : p n = true ∧ (erl z p t n = z ∨ t n < t (erl z p t n))
    · rw [if_pos hh]
      refine ⟨fun h => by omega, fun k hk => ?_⟩
      have hkn : k = n := by omega
      subst hkn
      refine ⟨Nat.lt_succ_self _, hh.1, fun i hi hp => ?_⟩
      by_cases hin : i = k
      · subst hin; exact Or.inr ⟨rfl, Nat.le_refl _⟩
      · rcases hh.2 with w | w
        · have := h1 w i (by omega); rw [this] at hp; cases hp
        · rcases h3 with q | ⟨j, hj, q, -⟩
          · have := h1 q i (by omega); rw [this] at hp; cases hp
          · have h4 := (h2 j q).2.2 i (by omega) hp
            rw [q] at w
            left; omega
    · rw [if_neg hh]
      refine ⟨fun h i hi => ?_, fun k hk => ?_⟩
      · by_cases hin : i = n
        · subst hin
          by_cases hp : p i = true
          · exact absurd ⟨hp, Or.inl h⟩ hh
          · simpa using hp
        · exact h1 h i (by omega)
      · obtain ⟨g1, g2, g3⟩ := h2 k hk
        refine ⟨by omega, g2, fun i hi hp => ?_⟩
        by_cases hin : i = n
        · subst hin
          have : ¬ t i < t k := fun w => hh ⟨hp, Or.inr (by rw [hk]; exact w)⟩
          omega
        · exact g3 i (by omega) hp
/-- sums -/
def smI (f : Int → Int) : Nat → Int
  | 0 => 0
  | n + 1 => smI f n + f n
theorem smI_cong {f h : Int → Int} : ∀ {n : Nat}, (∀ i : Nat, i < n → f i = h i) → smI f n = smI h n
  | 0, _ => rfl
  | n + 1, e => by
    unfold smI
    rw [smI_cong (fun i hi => e i (Nat.lt_succ_of_lt hi)), e n (Nat.lt_succ_self n)]
theorem smI_bnd {f : Int → Int} {c : Int} (hc : 0 ≤ c) : ∀ {n : Nat}, (∀ i : Nat, i < n → 0 ≤ f i ∧ f i ≤ c) → 0 ≤ smI f n ∧ smI f n ≤ n * c
  | 0, _ => by simp [smI]
  | n + 1, e => by
    have h1 := smI_bnd hc (n := n) (fun i hi => e i (Nat.lt_succ_of_lt hi))
    have h2 := e n (Nat.lt_succ_self n)
    unfold smI
    have h3 : ((n + 1 : Nat) : Int) * c = n * c + c := by rw [Int.natCast_add, Int.add_mul]; simp
    omega
theorem smI_mul {f : Int → Int} (c : Int) : ∀ n : Nat, smI (fun i => f i * c) n = smI f n * c
  | 0 => by simp [smI]
  | n + 1 => by
    unfold smI
    rw [smI_mul c n, Int.add_mul]
