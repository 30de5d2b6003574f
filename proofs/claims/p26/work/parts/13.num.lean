/-! ===== longs, switches ===== -/
theorem lN_bv (n : Nat) : (lN n).toBitVec = BitVec.ofNat 64 n := rfl
theorem lN_and (a b : Nat) : lN a &&& lN b = lN (a &&& b) := by
  apply Int64.toBitVec_inj.mp
  rw [Int64.toBitVec_and, lN_bv, lN_bv, lN_bv, BitVec.ofNat_and]
theorem lN_or (a b : Nat) : lN a ||| lN b = lN (a ||| b) := by
  apply Int64.toBitVec_inj.mp
  rw [Int64.toBitVec_or, lN_bv, lN_bv, lN_bv, BitVec.ofNat_or]
theorem amt_u : ∀ j, j < 64 → ((nI j).toInt64.toUInt64 &&& Int64.toUInt64 63).toNat % 64 = j := by decide +kernel
theorem amt_s : ∀ j, j < 64 → (((nI j).toInt64 &&& 63).toBitVec.smod 64).toNat = j := by decide +kernel
theorem lN_ushr {u : Nat} {k : Int} (hu : u < 2 ^ 64) (h0 : 0 ≤ k) (h1 : k < 64) : ((lN u).toUInt64 >>> ((Int32.ofInt k).toInt64.toUInt64 &&& Int64.toUInt64 63)).toInt64 = lN (u / 2 ^ k.toNat) := by
  obtain ⟨j, rfl⟩ := Int.eq_ofNat_of_zero_le h0
  rw [ofI_nat]
  have e := amt_u j (by omega)
  have e2 : ((lN u).toUInt64 >>> ((nI j).toInt64.toUInt64 &&& Int64.toUInt64 63)).toNat = u / 2 ^ j := by
    rw [UInt64.toNat_shiftRight, e, lN_sz hu, Nat.shiftRight_eq_div_pow]
  apply Int64.toBitVec_inj.mp
  apply BitVec.eq_of_toNat_eq
  show ((lN u).toUInt64 >>> ((nI j).toInt64.toUInt64 &&& Int64.toUInt64 63)).toNat = _
  rw [e2, lN_bv, BitVec.toNat_ofNat, Nat.mod_eq_of_lt]
  · rfl
  · exact Nat.lt_of_le_of_lt (Nat.div_le_self _ _) hu
theorem lN_shl {u : Nat} {k : Int} (hu : u < 2 ^ 64) (h0 : 0 ≤ k) (h1 : k < 64) : lN u <<< ((Int32.ofInt k).toInt64 &&& 63) = lN (u * 2 ^ k.toNat % 2 ^ 64) := by
  obtain ⟨j, rfl⟩ := Int.eq_ofNat_of_zero_le h0
  rw [ofI_nat]
  have e := amt_s j (by omega)
  apply Int64.toBitVec_inj.mp
  apply BitVec.eq_of_toNat_eq
  show ((lN u).toBitVec <<< (((nI j).toInt64 &&& 63).toBitVec.smod 64)).toNat = _
  rw [BitVec.shiftLeft_eq', e, BitVec.toNat_shiftLeft, Nat.shiftLeft_eq, lN_bv, lN_bv, BitVec.toNat_ofNat, BitVec.toNat_ofNat, Nat.mod_eq_of_lt hu]
  simp
theorem lN_int (u : Nat) (hu : u < 2 ^ 64) : (lN u).toInt = if u < 2 ^ 63 then (u : Int) else (u : Int) - 2 ^ 64 := by
  show (BitVec.ofNat 64 u).toInt = _
  rw [BitVec.toInt_eq_toNat_cond, BitVec.toNat_ofNat, Nat.mod_eq_of_lt hu]
  by_cases h : u < 2 ^ 63
  · rw [if_pos h, if_pos (by omega)]
  · rw [if_neg h, if_neg (by omega)]; rfl
theorem lN_cmp {u : Nat} (hu : u < 2 ^ 64) : lg_cmp (lN u) (lN 0) = Int32.ofInt (if u = 0 then 0 else if u < 2 ^ 63 then 1 else -1) := by
  have e := lN_int u hu
  have e0 := lN_int 0 (by omega)
  unfold lg_cmp
  have g1 : lN u > lN 0 ↔ (lN 0).toInt < (lN u).toInt := Int64.lt_iff_toInt_lt
  have g2 : lN u = lN 0 ↔ (lN u).toInt = (lN 0).toInt := Int64.toInt_inj.symm
  rw [e0, if_pos (by omega)] at g1 g2
  rw [e] at g1 g2
  by_cases h : u = 0
  · subst h
    rw [if_pos rfl, if_neg (fun z => by have := g1.mp z; simp at this), if_pos rfl]; rfl
  · rw [if_neg h]
    by_cases h2 : u < 2 ^ 63
    · rw [if_pos h2] at g1 g2 ⊢
      rw [if_pos (g1.mpr (by omega))]; rfl
    · rw [if_neg h2] at g1 g2 ⊢
      rw [if_neg (fun z => by have := g1.mp z; omega), if_neg (fun z => by have := g2.mp z; omega)]; rfl
theorem lN_i2l {p : Int} (h : InR p) : (Int32.ofInt p).toInt64 = lN (p % 2 ^ 64).toNat := by
  apply Int64.toInt_inj.mp
  rw [Int32.toInt_toInt64, toI h, lN_int _ (by omega)]
  by_cases h2 : (p % 2 ^ 64).toNat < 2 ^ 63
  · rw [if_pos h2]; omega
  · rw [if_neg h2]; omega
theorem swT_out {x : Int} : ∀ (ts : List Nat) (lo : Int) (d : Nat), (x < lo ∨ lo + ts.length ≤ x) → swT x lo ts d = d
  | [], _, _, _ => rfl
  | t :: ts, lo, d, h => by
    rw [List.length_cons] at h
    rw [swT, if_neg (by omega), swT_out ts (lo + 1) d (by omega)]
theorem swT_in {x : Int} : ∀ (ts : List Nat) (lo : Int) (d : Nat), lo ≤ x → x < lo + ts.length → ts[(x - lo).toNat]? = some (swT x lo ts d)
  | [], lo, _, h1, h2 => by simp at h2; omega
  | t :: ts, lo, d, h1, h2 => by
    rw [List.length_cons] at h2
    rw [swT]
    by_cases h : x = lo
    · rw [if_pos h, h]; simp
    · rw [if_neg h, ← swT_in ts (lo + 1) d (by omega) (by omega)]
      rw [show (x - lo).toNat = (x - (lo + 1)).toNat + 1 by omega, List.getElem?_cons_succ]
theorem jmps_some {pc : Nat} {d : Int} {offs : List Int} {an : List Nat} (h : jmps pc d offs = some an) : ∃ (t : Nat) (ts : List Nat), an = t :: ts ∧ (pc : Int) + d = t ∧ ts.length = offs.length ∧ ∀ (i : Nat) (o : Int) (t : Nat), offs[i]? = some o → ts[i]? = some t → (pc : Int) + o = t := by
  unfold jmps at h
  split at h
  · rename_i ha
    cases h
    refine ⟨_, _, rfl, ?_, by simp, fun i o t h1 h2 => ?_⟩
    · have := List.all_eq_true.mp ha d List.mem_cons_self
      simp only [decide_eq_true_eq] at this
      show (pc : Int) + d = (((pc : Int) + d).toNat : Int)
      omega
    · have := List.all_eq_true.mp ha o (List.mem_cons_of_mem _ (List.mem_of_getElem? h1))
      simp only [decide_eq_true_eq] at this
      rw [List.getElem?_map, h1] at h2
      have h2 : ((pc : Int) + o).toNat = t := Option.some.inj h2
      omega
  · cases h
