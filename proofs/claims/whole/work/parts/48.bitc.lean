/-! ===== Integer.bitCount of a mask ===== -/
/-- how many bits are set below n -/
def pcB (x : Nat) : Nat → Nat
  | 0 => 0
  | n + 1 => pcB x n + (if x.testBit n = true then 1 else 0)
theorem pcB_s (x n : Nat) : pcB x (n + 1) = pcB x n + (if x.testBit n = true then 1 else 0) := rfl
theorem pcB_cg {x y : Nat} : ∀ n : Nat, (∀ i, i < n → x.testBit i = y.testBit i) → pcB x n = pcB y n
  | 0, _ => rfl
  | n + 1, h => by rw [pcB_s, pcB_s, pcB_cg n (fun i hi => h i (by omega)), h n (by omega)]
theorem pcB_add (x m : Nat) : ∀ n : Nat, pcB x (m + n) = pcB x m + pcB (x / 2 ^ m) n
  | 0 => by rw [Nat.add_zero]; rfl
  | n + 1 => by
    rw [← Nat.add_assoc, pcB_s, pcB_s, pcB_add x m n, Nat.testBit_div_two_pow, Nat.add_comm n m]
    omega
theorem pcB_mod (x n : Nat) : pcB x n = pcB (x % 2 ^ n) n := pcB_cg n (fun i hi => by rw [Nat.testBit_mod_two_pow]; simp [hi])
theorem and256 (y e M m : Nat) (he : e < 256) (hm : m < 256) : (256 * y + e) &&& (256 * M + m) = 256 * (y &&& M) + (e &&& m) := by
  have h1 : ((256 * y + e) &&& (256 * M + m)) / 2 ^ 8 = y &&& M := by
    rw [Nat.and_div_two_pow]
    congr 1 <;> omega
  have h2 : ((256 * y + e) &&& (256 * M + m)) % 2 ^ 8 = e &&& m := by
    rw [Nat.and_mod_two_pow]
    congr 1 <;> omega
  have h3 := Nat.div_add_mod ((256 * y + e) &&& (256 * M + m)) (2 ^ 8)
  rw [h1, h2] at h3
  omega
/-- the first three steps -/
def bc1 (M x : Nat) : Nat := x - (x / 2 &&& M)
def bc2 (M x : Nat) : Nat := (x &&& M) + (x / 4 &&& M)
def bc3 (M x : Nat) : Nat := (x + x / 16) &&& M
theorem b1_d : ∀ t, t < 2 → ∀ e, e < 256 → (128 * t + e / 2) &&& 85 = e / 2 &&& 85 := by decide +kernel
theorem b2_d : ∀ t, t < 4 → ∀ e, e < 256 → (64 * t + e / 4) &&& 51 = e / 4 &&& 51 := by decide +kernel
theorem b3_d : ∀ t, t < 5 → ∀ e, e < 69 → (e + e / 16 + 16 * t) &&& 15 = (e + e / 16) &&& 15 ∧ e + e / 16 + 16 * t < 256 := by decide +kernel
theorem b_all : ∀ e, e < 256 → bc1 85 e < 256 ∧ bc2 51 (bc1 85 e) < 69 ∧ bc2 51 (bc1 85 e) % 16 < 5 ∧ bc3 15 (bc2 51 (bc1 85 e)) = pcB e 8 ∧ pcB e 8 ≤ 8 := by decide +kernel
theorem bc1_s (M y e : Nat) (he : e < 256) : bc1 (256 * M + 85) (256 * y + e) = 256 * bc1 M y + bc1 85 e := by
  unfold bc1
  have h1 : (256 * y + e) / 2 = 256 * (y / 2) + (128 * (y % 2) + e / 2) := by omega
  rw [h1, and256 _ _ _ _ (by omega) (by omega), b1_d (y % 2) (by omega) e he]
  have h2 : y / 2 &&& M ≤ y / 2 := Nat.and_le_left
  have h3 : e / 2 &&& 85 ≤ e / 2 := Nat.and_le_left
  omega
theorem bc2_s (M y e : Nat) (he : e < 256) : bc2 (256 * M + 51) (256 * y + e) = 256 * bc2 M y + bc2 51 e := by
  unfold bc2
  have h1 : (256 * y + e) / 4 = 256 * (y / 4) + (64 * (y % 4) + e / 4) := by omega
  rw [h1, and256 y e M 51 he (by omega), and256 (y / 4) (64 * (y % 4) + e / 4) M 51 (by omega) (by omega), b2_d (y % 4) (by omega) e he]
  omega
theorem bc3_s (M y e : Nat) (he : e < 69) (hy : y % 16 < 5) : bc3 (256 * M + 15) (256 * y + e) = 256 * bc3 M y + bc3 15 e := by
  unfold bc3
  obtain ⟨d1, d2⟩ := b3_d (y % 16) hy e he
  have h1 : 256 * y + e + (256 * y + e) / 16 = 256 * (y + y / 16) + (e + e / 16 + 16 * (y % 16)) := by omega
  rw [h1, and256 _ _ _ _ d2 (by omega), d1]
def bcN (x : Nat) : Nat :=
  bc3 252645135 (bc2 858993459 (bc1 1431655765 x))
theorem bcN_3 (a b c : Nat) (ha : a < 256) (hb : b < 256) (hc : c < 256) : bcN (256 * (256 * (256 * 0 + c) + b) + a) = 256 * (256 * pcB c 8 + pcB b 8) + pcB a 8 := by
  unfold bcN
  obtain ⟨a1, a2, a3, a4, a5⟩ := b_all a ha
  obtain ⟨b1, b2, b3, b4, b5⟩ := b_all b hb
  obtain ⟨c1, c2, c3, c4, c5⟩ := b_all c hc
  have z1 : bc1 85 0 = 0 := by decide
  have z2 : bc2 51 0 = 0 := by decide
  have z3 : bc3 15 0 = 0 := by decide
  rw [show (1431655765 : Nat) = 256 * (256 * (256 * 85 + 85) + 85) + 85 by decide, bc1_s _ _ _ ha, bc1_s _ _ _ hb, bc1_s _ _ _ hc, z1]
  rw [show (858993459 : Nat) = 256 * (256 * (256 * 51 + 51) + 51) + 51 by decide, bc2_s _ _ _ a1, bc2_s _ _ _ b1, bc2_s _ _ _ c1, z2]
  rw [show (252645135 : Nat) = 256 * (256 * (256 * 15 + 15) + 15) + 15 by decide, bc3_s _ _ _ a2 (by omega), bc3_s _ _ _ b2 (by omega), bc3_s _ _ _ c2 (by omega), z3, a4, b4, c4]
  omega
theorem bcN_at (x : Nat) (hx : x < 16777216) : ∃ A B C, bcN x = 65536 * C + 256 * B + A ∧ A ≤ 8 ∧ B ≤ 8 ∧ C ≤ 8 ∧ A + B + C = pcB x 24 := by
  have h := bcN_3 (x % 256) (x / 256 % 256) (x / 65536) (by omega) (by omega) (by omega)
  rw [show 256 * (256 * (256 * 0 + x / 65536) + x / 256 % 256) + x % 256 = x by omega] at h
  refine ⟨pcB (x % 256) 8, pcB (x / 256 % 256) 8, pcB (x / 65536) 8, by rw [h]; omega, (b_all _ (by omega)).2.2.2.2, (b_all _ (by omega)).2.2.2.2, (b_all _ (by omega)).2.2.2.2, ?_⟩
  have e1 : pcB x 24 = pcB x 8 + pcB (x / 2 ^ 8) 16 := pcB_add x 8 16
  have e2 : pcB (x / 2 ^ 8) 16 = pcB (x / 2 ^ 8) 8 + pcB (x / 2 ^ 8 / 2 ^ 8) 8 := pcB_add (x / 2 ^ 8) 8 8
  have e3 := pcB_mod x 8
  have e4 := pcB_mod (x / 2 ^ 8) 8
  rw [show (x / 2 ^ 8) / 2 ^ 8 = x / 65536 by omega] at e2
  rw [show (2 : Nat) ^ 8 = 256 by decide] at *
  omega
theorem toN_mk {p : Int → Bool} {n : Nat} (hn : n ≤ 24) : 0 ≤ mkI p n ∧ mkI p n < 16777216 ∧ ∀ i : Nat, i < 24 → (mkI p n).toNat.testBit i = (decide (i < n) && p i) := by
  have hR := mkI_R p n
  have hb : ∀ i : Nat, i < 32 → (Int32.ofInt (mkI p n)).toBitVec.getLsbD i = (decide (i < n) && p i) := fun i hi => by
    rw [← bt_bv _ i hi, bt_mk (by omega) i hi]
  generalize hv : (Int32.ofInt (mkI p n)).toBitVec = v at *
  have h1 : mkI p n = v.toInt := by
    rw [← hv]
    exact (Int32.toInt_ofInt_of_le hR.1 (by omega)).symm
  have h2 : v.toNat < 2 ^ 24 := by
    refine Nat.lt_pow_two_of_testBit _ (fun i hi => ?_)
    by_cases h : i < 32
    · have := hb i h
      rw [BitVec.testBit_toNat, this]
      simp; omega
    · exact Nat.testBit_lt_two_pow (Nat.lt_of_lt_of_le v.isLt (Nat.pow_le_pow_right (by decide) (by omega)))
  have h3 : v.toInt = v.toNat := BitVec.toInt_eq_toNat_of_lt (by omega)
  rw [h1, h3]
  refine ⟨by omega, by omega, fun i hi => ?_⟩
  rw [Int.toNat_natCast, BitVec.testBit_toNat, hb i (by omega)]
theorem pcB_mk {p : Int → Bool} {n : Nat} (hn : n ≤ 24) : pcB (mkI p n).toNat 24 = cnI p n := by
  have h := (toN_mk (p := p) hn).2.2
  have e : ∀ m : Nat, m ≤ 24 → pcB (mkI p n).toNat m = cnI p (min m n) := by
    intro m
    induction m with
    | zero => intro _; rw [Nat.zero_min]; rfl
    | succ m ih =>
      intro hm
      rw [pcB_s, ih (by omega), h m (by omega)]
      by_cases c : m < n
      · rw [Nat.min_eq_left (by omega), Nat.min_eq_left (by omega), cnI_s]
        by_cases d : p m = true
        · simp [c, d]
        · simp [d]
      · rw [Nat.min_eq_right (by omega), Nat.min_eq_right (by omega)]
        simp [c]
  rw [e 24 (Nat.le_refl _), Nat.min_eq_right hn]
theorem iA_nat {x y : Nat} (hx : x < 2147483648) (hy : y < 2147483648) : iA x y = ((x &&& y : Nat) : Int) := by
  unfold iA
  have h1 : (Int32.ofInt x &&& Int32.ofInt y).toBitVec = BitVec.ofNat 32 (x &&& y) := by
    show (BitVec.ofInt 32 x) &&& (BitVec.ofInt 32 y) = _
    rw [BitVec.ofInt_natCast, BitVec.ofInt_natCast, ← BitVec.ofNat_and]
  show (Int32.ofInt x &&& Int32.ofInt y).toBitVec.toInt = _
  rw [h1]
  have h2 : x &&& y ≤ x := Nat.and_le_left
  rw [BitVec.toInt_eq_toNat_of_lt (by rw [BitVec.toNat_ofNat]; omega), BitVec.toNat_ofNat]
  omega
theorem amt_v : ∀ j, j < 32 → (((nI j).toUInt32 &&& Int32.toUInt32 31).toNat % 32) = j := by decide +kernel
theorem iU_nat {x k : Nat} (hx : x < 2147483648) (hk : k < 32) : iU x k = ((x / 2 ^ k : Nat) : Int) := by
  unfold iU
  have h2 : x / 2 ^ k ≤ x := Nat.div_le_self _ _
  have h1 : (((Int32.ofInt x).toUInt32 >>> ((Int32.ofInt k).toUInt32 &&& Int32.toUInt32 31)).toInt32).toBitVec = BitVec.ofNat 32 (x / 2 ^ k) := by
    rw [ofI_nat (n := k)]
    show ((Int32.ofInt x).toUInt32 >>> ((nI k).toUInt32 &&& Int32.toUInt32 31)).toBitVec = _
    apply BitVec.eq_of_toNat_eq
    show ((Int32.ofInt x).toUInt32 >>> ((nI k).toUInt32 &&& Int32.toUInt32 31)).toNat = _
    rw [UInt32.toNat_shiftRight, amt_v k hk, BitVec.toNat_ofNat]
    show (BitVec.ofInt 32 x).toNat >>> k = _
    rw [BitVec.ofInt_natCast, BitVec.toNat_ofNat, Nat.shiftRight_eq_div_pow]
    rw [Nat.mod_eq_of_lt (by omega), Nat.mod_eq_of_lt (by omega)]
  show (((Int32.ofInt x).toUInt32 >>> ((Int32.ofInt k).toUInt32 &&& Int32.toUInt32 31)).toInt32).toBitVec.toInt = _
  rw [h1]
  generalize x / 2 ^ k = y at *
  rw [BitVec.toInt_eq_toNat_of_lt (by rw [BitVec.toNat_ofNat]; omega), BitVec.toNat_ofNat]
  omega
theorem bc3_le (M x : Nat) : bc3 M x ≤ M := Nat.and_le_right
section BITC
variable {a : HI} {b : HR} {s : SH}
set_option maxRecDepth 100000
theorem v_bitN {x : Nat} (hx : x < 16777216) : Mn 130 [vI x] a b s = some ([vI (pcB x 24 : Nat)], a, b, s) := by
  obtain ⟨A, B, C, h1, hA, hB, hC, hs⟩ := bcN_at x hx
  have u1 := iU_nat (x := x) (k := 1) (by omega) (by omega)
  have n1 := iA_nat (x := x / 2 ^ 1) (y := 1431655765) (by omega) (by omega)
  have l1 : x / 2 &&& 1431655765 ≤ x / 2 := Nat.and_le_left
  have v1 : ((x : Int) - ((x / 2 ^ 1 &&& 1431655765 : Nat) : Int)) = (bc1 1431655765 x : Nat) := by unfold bc1; rw [show 2 ^ 1 = 2 from rfl]; omega
  have w1 : bc1 1431655765 x ≤ x := Nat.sub_le _ _
  rw [← hs]
  unfold bcN at h1
  generalize bc1 1431655765 x = y at *
  have u2 := iU_nat (x := y) (k := 2) (by omega) (by omega)
  have n2 := iA_nat (x := y) (y := 858993459) (by omega) (by omega)
  have n3 := iA_nat (x := y / 2 ^ 2) (y := 858993459) (by omega) (by omega)
  have l2 : y &&& 858993459 ≤ y := Nat.and_le_left
  have l3 : y / 4 &&& 858993459 ≤ y / 4 := Nat.and_le_left
  have v2 : (((y &&& 858993459 : Nat) : Int) + ((y / 2 ^ 2 &&& 858993459 : Nat) : Int)) = (bc2 858993459 y : Nat) := by unfold bc2; rw [show 2 ^ 2 = 4 from rfl]; omega
  have w2 : bc2 858993459 y ≤ y + y / 4 := by unfold bc2; omega
  generalize bc2 858993459 y = t at *
  have u3 := iU_nat (x := t) (k := 4) (by omega) (by omega)
  have n4 := iA_nat (x := t + t / 2 ^ 4) (y := 252645135) (by omega) (by omega)
  have v3 : t + t / 2 ^ 4 &&& 252645135 = bc3 252645135 t := rfl
  rw [v3] at n4
  generalize bc3 252645135 t = r at *
  have u4 := iU_nat (x := r) (k := 8) (by omega) (by omega)
  have u5 := iU_nat (x := r + r / 2 ^ 8) (k := 16) (by omega) (by omega)
  have n5 := iA_nat (x := r + r / 2 ^ 8 + (r + r / 2 ^ 8) / 2 ^ 16) (y := 63) (by omega) (by omega)
  have n6 : r + r / 2 ^ 8 + (r + r / 2 ^ 8) / 2 ^ 16 &&& 63 = A + B + C := by
    have q1 : r / 2 ^ 8 = 256 * C + B := by omega
    have q2 : (r + r / 2 ^ 8) / 2 ^ 16 = C := by rw [q1]; omega
    rw [show (63 : Nat) = 2 ^ 6 - 1 from rfl, Nat.and_two_pow_sub_one_eq_mod, q2, q1, h1]
    omega
  rw [n6] at n5
  rw [U_In_bitCount, B_In_bitCount_0]
  simp only [Int.natCast_add, Int.cast_ofNat_Int] at u1 n1 v1 u2 n2 n3 v2 u3 n4 u4 u5 n5
  have z1 : InR ((x : Int) - ((x / 2 ^ 1 &&& 1431655765 : Nat) : Int)) := by omega
  simp (disch := first | exact Nat.le_of_ble_eq_true rfl | omega) only [u1, n1, v1, u2, n2, n3, v2, u3, n4, u4, u5, n5, r_iconst, r_bipush, r_sipush, r_lconst, r_ldc, r_ldc_w, r_ldc2, r_iloadn_0, r_iload_0, r_istoren_0, r_istore_0, r_aloadn_0, r_aload_0, r_astoren_0, r_astore_0, r_lloadn_0, r_lload_0, r_lstoren_0, r_lstore_0, r_iinc_0, r_iloadn_1, r_iload_1, r_istoren_1, r_istore_1, r_aloadn_1, r_aload_1, r_astoren_1, r_astore_1, r_lloadn_1, r_lload_1, r_lstoren_1, r_lstore_1, r_iinc_1, r_iloadn_2, r_iload_2, r_istoren_2, r_istore_2, r_aloadn_2, r_aload_2, r_astoren_2, r_astore_2, r_lloadn_2, r_lload_2, r_lstoren_2, r_lstore_2, r_iinc_2, r_iloadn_3, r_iload_3, r_istoren_3, r_istore_3, r_aloadn_3, r_aload_3, r_astoren_3, r_astore_3, r_lloadn_3, r_lload_3, r_lstoren_3, r_lstore_3, r_iinc_3, r_iload_4, r_istore_4, r_aload_4, r_astore_4, r_lload_4, r_lstore_4, r_iinc_4, r_iload_5, r_istore_5, r_aload_5, r_astore_5, r_lload_5, r_lstore_5, r_iinc_5, r_iload_6, r_istore_6, r_aload_6, r_astore_6, r_lload_6, r_lstore_6, r_iinc_6, r_iload_7, r_istore_7, r_aload_7, r_astore_7, r_lload_7, r_lstore_7, r_iinc_7, r_iload_8, r_istore_8, r_aload_8, r_astore_8, r_lload_8, r_lstore_8, r_iinc_8, r_iload_9, r_istore_9, r_aload_9, r_astore_9, r_lload_9, r_lstore_9, r_iinc_9, r_iload_10, r_istore_10, r_aload_10, r_astore_10, r_lload_10, r_lstore_10, r_iinc_10, r_iload_11, r_istore_11, r_aload_11, r_astore_11, r_lload_11, r_lstore_11, r_iinc_11, r_iadd, r_isub, r_imul, r_idiv, r_irem, r_iand, r_ior, r_ixor, r_ishl, r_ishr, r_iushr, r_land, r_lor, r_lushr, r_lshl, r_lcmp, r_i2l, r_l2i, r_i2b, r_i2c, r_dup_vI, r_pop_vI, r_dup_vR, r_pop_vR, r_dup2, r_goto, r_icmp_eq, r_if_eq, r_icmp_ne, r_if_ne, r_icmp_lt, r_if_lt, r_icmp_ge, r_if_ge, r_icmp_gt, r_if_gt, r_icmp_le, r_if_le, r_ifnull, r_ifnonnull, r_tableswitch, r_iaload, r_baload, r_caload, r_aaload, r_iastore, r_bastore, r_castore, r_aastore, r_arraylength, r_getI, r_getR, r_putI, r_putR, r_getstatic, r_new, r_new_int, r_new_byte, r_new_char, r_new_boolean, r_anewarray, r_checkcast, r_objinit, r_arraycopy, r_cloneI, r_cloneB, r_nil, X_Do_init, K4_Do_init, K5_Do_init, X_Do_copyFrom, K3_Do_copyFrom, X_Do_toldShows, K3_Do_toldShows, X_Do_reason, K3_Do_reason, X_Do_ofNextRun, K3_Do_ofNextRun, X_Do_nextEnd, K3_Do_nextEnd, X_Do_runNext, K3_Do_runNext, X_Do_firstGroup, K3_Do_firstGroup, X_Do_beginWith, K3_Do_beginWith, X_Do_groupsWith, K3_Do_groupsWith, X_Gr_init, K4_Gr_init, K5_Gr_init, X_Gr_copyFrom, K3_Gr_copyFrom, X_Gr_add, K3_Gr_add, X_Gr_waiting, K3_Gr_waiting, X_Gr_earliest, K3_Gr_earliest, X_Gr_seated, K3_Gr_seated, X_Gr_personsIn, K3_Gr_personsIn, X_Gr_newPersonsIn, K3_Gr_newPersonsIn, X_Gr_countRun, K3_Gr_countRun, X_Gr_goHome, K3_Gr_goHome, X_Gr_waitFrom, K3_Gr_waitFrom, X_Gr_waitingFor, K3_Gr_waitingFor, X_Gr_holds, K2_Gr_holds, X_Hi_init, K4_Hi_init, K5_Hi_init, X_Hi_record, K3_Hi_record, X_Hi_takeBack, K3_Hi_takeBack, X_La_init, K4_La_init, K5_La_init, X_La_copyFrom, K3_La_copyFrom, X_La_minutesLeft, K3_La_minutesLeft, X_La_firstToEnd, K3_La_firstToEnd, X_La_runsUntilEnd, K3_La_runsUntilEnd, X_La_isFoggy, K3_La_isFoggy, X_La_burn, K3_La_burn, X_Pa_init, K4_Pa_init, K5_Pa_init, X_Pa_append, K3_Pa_append, X_Re_init, K4_Re_init, K5_Re_init, X_Re_read, K3_Re_read, X_Re_laidOut, K3_Re_laidOut, X_Re_clear, K3_Re_clear, X_Re_isBehindPart, K3_Re_isBehindPart, X_Re_takes, K3_Re_takes, X_Re_takesLamp, K3_Re_takesLamp, X_Re_takesRepeat, K3_Re_takesRepeat, X_Re_takesStar, K3_Re_takesStar, X_Re_takesOpening, K3_Re_takesOpening, X_Re_takesFirstDigit, K3_Re_takesFirstDigit, X_Re_takesSecondDigit, K3_Re_takesSecondDigit, X_Re_takesEndOfPart, K3_Re_takesEndOfPart, X_Re_endScene, K3_Re_endScene, X_Re_endRepeat, K3_Re_endRepeat, X_Sh_init, K4_Sh_init, K5_Sh_init, X_Sh_lights, K3_Sh_lights, X_DL_init, K4_DL_init, K5_DL_init, X_DL_set, K3_DL_set, X_DL_tell, K3_DL_tell, X_DL_group, K3_DL_group, X_DL_lamp, K3_DL_lamp, X_DL_lens, K3_DL_lens, X_DL_run, K3_DL_run, X_DL_ofShow, K3_DL_ofShow, X_DL_lit, K3_DL_lit, X_DL_at, K3_DL_at, X_DL_ofLamp, K3_DL_ofLamp, X_DL_ofGroup, K3_DL_ofGroup, X_DL_count, K3_DL_count, X_DL_why, K3_DL_why, X_DL_next, K3_DL_next, X_DL_oftenOf, K3_DL_oftenOf, X_DL_endsFirst, K3_DL_endsFirst, X_DL_runsLeft, K3_DL_runsLeft, X_DL_put, K3_DL_put, X_DL_wipe, K3_DL_wipe, X_DL_fault, K3_DL_fault, X_DL_undo, K3_DL_undo, X_DL_save, K3_DL_save, X_DL_restore, K3_DL_restore, X_DL_isOneOf, K2_DL_isOneOf, X_DL_lengthOf, K2_DL_lengthOf, X_Mo_init, K4_Mo_init, K5_Mo_init, X_Mo_in, K2_Mo_in, X_Mo_ofLampAt, K2_Mo_ofLampAt, X_Mo_ofGroupAt, K2_Mo_ofGroupAt, X_Mo_ofShowAt, K2_Mo_ofShowAt, X_Mo_isShow, K2_Mo_isShow, X_Mo_isLamp, K2_Mo_isLamp, X_Mo_isGroup, K3_Mo_isGroup, X_Mo_isTold, K3_Mo_isTold, X_Mo_know, K3_Mo_know, X_Mo_putAside, K3_Mo_putAside, X_Mo_putBack, K3_Mo_putBack, X_Mo_puts, K3_Mo_puts, X_Mo_behind, K3_Mo_behind, X_Mo_fault, K3_Mo_fault, X_Mo_scene, K3_Mo_scene, X_Mo_tellAll, K3_Mo_tellAll, X_Mo_tell, K3_Mo_tell, X_Mo_litIn, K3_Mo_litIn, X_Mo_waits, K3_Mo_waits, X_Mo_isAhead, K3_Mo_isAhead, X_Mo_first, K3_Mo_first, X_Mo_begins, K3_Mo_begins, X_Mo_isTooLong, K3_Mo_isTooLong, X_Mo_why, K3_Mo_why, X_Mo_groupsOf, K3_Mo_groupsOf, X_Mo_isFoggy, K3_Mo_isFoggy, X_Mo_burns, K3_Mo_burns, X_Mo_runs, K3_Mo_runs, X_Mo_set, K3_Mo_set, X_Mo_group, K3_Mo_group, X_Mo_lamp, K3_Mo_lamp, X_Mo_lens, K3_Mo_lens, X_Mo_run, K3_Mo_run, X_Mo_ofShow, K3_Mo_ofShow, X_Mo_lit, K3_Mo_lit, X_Mo_at, K3_Mo_at, X_Mo_minutesLeft, K3_Mo_minutesLeft, X_Mo_ofLamp, K3_Mo_ofLamp, X_Mo_ofGroup, K3_Mo_ofGroup, X_Mo_waiting, K3_Mo_waiting, X_Mo_toldShows, K3_Mo_toldShows, X_Mo_count, K3_Mo_count, X_Mo_next, K3_Mo_next, X_Mo_oftenOf, K3_Mo_oftenOf, X_Mo_endsFirst, K3_Mo_endsFirst, X_Mo_runsLeft, K3_Mo_runsLeft, X_Mo_put, K3_Mo_put, X_Mo_wipe, K3_Mo_wipe, X_Mo_undo, K3_Mo_undo, X_Mo_save, K3_Mo_save, X_Mo_restore, K3_Mo_restore, X_In_bitCount, K2_In_bitCount, X_Ma_max, K2_Ma_max, X_Ma_min, K2_Ma_min, X_Ar_copyOf, K2_Ar_copyOf, X_Lw_law, unJ_I, unJ_R, unJ_J, unJ_U, bnd_some, List.cons_append, List.nil_append, Int.cast_ofNat_Int, if_pos, if_neg, if_true, if_false, Bool.false_eq_true, eq_self, reduceIte]
  rw [Int.natCast_add, Int.natCast_add]
theorem v_bitCount {p : Int → Bool} {n : Nat} (hn : n ≤ 20) : Mn 130 [vI (mkI p n)] a b s = some ([vI (cnI p n : Nat)], a, b, s) := by
  obtain ⟨h0, h1, -⟩ := toN_mk (p := p) (n := n) (by omega)
  have h := v_bitN (a := a) (b := b) (s := s) (x := (mkI p n).toNat) (by omega)
  rw [pcB_mk (by omega), Int.toNat_of_nonneg h0] at h
  exact h
end BITC
