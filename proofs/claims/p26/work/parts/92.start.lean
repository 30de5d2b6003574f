/-! ===== the law's start ===== -/
section BEGIN4
set_option maxRecDepth 100000
set_option maxHeartbeats 4000000
theorem sv_st : ∀ k, k < 6 → svI 2 k = iniQ k ∧ svI 3 k = lstQ k ∧ svI 4 k = mstQ k := by decide
theorem a0_sv {L : Nat} {xs : Nat → Int32} {r : Nat} {k : Int} (hr : 2 ≤ r ∧ r < 5) (h0 : 0 ≤ k) (h1 : k < 6) : a0_ L xs r k = svI r k.toNat := by
  unfold a0_
  rw [if_neg (by omega), if_pos hr, if_pos ⟨h0, h1⟩]
theorem ini_PQ : PQ iniQ := ⟨fun h h0 h1 _ => ini_0 (by omega), fun g h0 h1 => Or.inl (ini_0 (by omega))⟩
theorem law_new (L : Nat) (xs : Nat → Int32) : ∃ (A : HI) (B : HR) (S : SH), Mn 52 [vR 5] (upR (a0_ L xs) 5 Zi) (uqR b0_ 5 Zn) (nwS (s0_ L) 7 0 7) = some ([], A, B, S) ∧ PB 0 (a0_ L xs 1) L iniQ 0 (fun _ _ => 0) Zi (fun _ _ => 0) A B S := by
  have z0 : nx (s0_ L) = 0 := rfl
  have y0 : ns (s0_ L) = 0 := rfl
  have hkd : ∀ r, r ≠ 0 → r < 5 → kd (s0_ L) r = 20 := fun r h0 h5 => by
    show (if r = 0 then 99 else if r < 5 then 20 else 99) = 20
    rw [if_neg h0, if_pos h5]
  have hk99 : ∀ r, 5 ≤ r → kd (s0_ L) r = 99 := fun r h5 => by
    show (if r = 0 then 99 else if r < 5 then 20 else 99) = 99
    rw [if_neg (by omega), if_neg (by omega)]
  have hln1 : ln (s0_ L) 1 = L := rfl
  have hln : ∀ r, 2 ≤ r → r < 5 → ln (s0_ L) r = 6 := fun r h2 h5 => by
    show (if r = 1 then (L : Int) else if 2 ≤ r ∧ r < 5 then 6 else 0) = 6
    rw [if_neg (by omega), if_pos ⟨h2, h5⟩]
  have E0 : Ext (s0_ L) (nwS (s0_ L) 7 0 7) 1 7 := Ext.one
  have k5 : kd (nwS (s0_ L) 7 0 7) 5 = 7 := kd_at
  obtain ⟨A, B, S, e1, E1, f1, g1, H⟩ := i_DL (a := upR (a0_ L xs) 5 Zi) (b := uqR b0_ 5 Zn) (s := nwS (s0_ L) 7 0 7) (by rw [nx_nw, z0]) ⟨(E0.1 2 (by omega)).1.trans (hkd 2 (by omega) (by omega)), (E0.1 2 (by omega)).2.trans (hln 2 (by omega) (by omega))⟩ k5
  have EA := E0.trans E1
  have F2 : upR (a0_ L xs) 5 Zi 2 = a0_ L xs 2 := upR_ne (by omega)
  rw [F2] at H
  have kL : ∀ r, r < 5 → kd S r = kd (s0_ L) r ∧ ln S r = ln (s0_ L) r := fun r hr => EA.1 r (by omega)
  have aL : ∀ r, r < 5 → A r = a0_ L xs r := fun r hr => by rw [f1 r (by omega), upR_ne (by omega)]
  have hf : ∀ k, 0 ≤ k → k < 6 → a0_ L xs 2 k = iniQ k := fun k k0 k1 => by
    rw [a0_sv (by omega) k0 k1]
    have := (sv_st k.toNat (by omega)).1
    rw [Int.toNat_of_nonneg k0] at this
    exact this
  obtain ⟨⟨p1, p2, p3⟩, p4, p5⟩ := H.pad
  obtain ⟨⟨r1, r2, r3, r4, r5⟩, ⟨r6, r7, r8⟩, ⟨r9, r10⟩, ⟨r11, r12⟩, r13, r14⟩ := H.rdr
  obtain ⟨⟨h1, h2, h3⟩, ⟨h4, h5⟩, h6⟩ := H.his
  obtain ⟨⟨l1, l2, l3, l4⟩, l5, l6, l7⟩ := H.slt
  have hK5 : kd S 5 = 7 := (E1.1 5 (by rw [nx_nw]; omega)).1.trans k5
  have hlay : DLS S B := by
    refine ⟨hK5, H.five, ⟨⟨l1, l2⟩, l5, l6⟩, ⟨l3, l4⟩, ⟨H.d06.doms, H.d20.doms, H.d28.doms, H.d42.doms⟩, h1, h2, h4, h5, fun k k0 k1 => ?_, fun k hk => (H.hst k hk).doms⟩
    have := h6 k.toNat (by omega)
    rw [Int.toNat_of_nonneg k0] at this
    exact this
  have n3 := EA.2.2.1
  have n4 := EA.2.2.2
  refine ⟨A, B, S, e1, PB.mk (CS.mk hlay (H.d06.domk hf) ?_ ?_ (fun k k0 k1 => absurd k1 (by omega)) (fun j j0 j1 => ?_)) ⟨⟨r1, r2, r3, r4, r5⟩, ⟨r6, r7⟩, ⟨r9, r11, r13⟩, ⟨r10, r12, r14⟩, ⟨p1, p2⟩, p4, p5⟩ ?_ (fun j => ?_) ?_ ⟨fun r hr => ?_, by omega⟩ ⟨by omega, by omega⟩ ⟨aL 1 (by omega), ?_, ?_⟩⟩
  · rw [h3]; exact ⟨rfl, by decide, by decide⟩
  · rw [h3]; exact ⟨by decide, by decide⟩
  · rw [l7]
    exact ⟨rfl, Or.inl rfl, fun w => by have : Zi j = 0 := rfl; omega⟩
  · refine ⟨⟨(kL 3 (by omega)).1.trans (hkd 3 (by omega) (by omega)), (kL 3 (by omega)).2.trans (hln 3 (by omega) (by omega))⟩, ⟨(kL 4 (by omega)).1.trans (hkd 4 (by omega) (by omega)), (kL 4 (by omega)).2.trans (hln 4 (by omega) (by omega))⟩, fun k k0 k1 => ?_⟩
    rw [aL 3 (by omega), aL 4 (by omega), a0_sv (by omega) k0 k1, a0_sv (by omega) k0 k1]
    have := (sv_st k.toNat (by omega)).2
    rw [Int.toNat_of_nonneg k0] at this
    exact this
  · rw [r8]
    have : Zi j = 0 := rfl
    omega
  · rw [p3]
    have : Zi 1 = 0 := rfl
    omega
  · rw [EA.2.1 r (by omega)]
    exact hk99 r (by omega)
  · exact (kL 1 (by omega)).1.trans (hkd 1 (by omega) (by omega))
  · exact (kL 1 (by omega)).2.trans hln1
theorem law_start (L : Nat) (xs : Nat → Int32) : ∃ (f : Int) (σ : RW) (z : Int) (ρ : Int → RW) (a : HI) (b : HR) (s : SH), Mn 87 [vR 1] (a0_ L xs) b0_ (s0_ L) = En 87 24 [vR 1, vR 5, vI f, vI 0, vU, vU, vU] [] a b s ∧ 1 ≤ f ∧ PB 1 (a0_ L xs 1) L σ z ρ Zi (fun _ _ => 0) a b s ∧ PQ σ := by
  obtain ⟨A, B, S, e1, P⟩ := law_new L xs
  obtain ⟨x, e2⟩ := l_cell (a := A) (b := B) (s := S) (k := 0) P.scr.2.1 (by omega)
  obtain ⟨r, σ', z', ρ', a', b', s', e3, e4, -, e5, e6⟩ := l_tell (v := iA x 2047) P ini_PQ (by omega)
  refine ⟨r, σ', z', ρ', a', b', s', ?_, e4, e5, e6⟩
  have n1 : nx (s0_ L) + 5 = 5 := rfl
  have k5 := P.cls.lay.1
  have k50 : kd (nwS (s0_ L) 7 0 7) 5 = 7 := kd_at
  clear P e5 e6
  have U : ∀ (a : HI) (b : HR) (s : SH), Mn 87 [vR 1] a b s = En 87 0 [vR 1, vU, vU, vU, vU, vU, vU] [] a b s := fun _ _ _ => rfl
  rw [U]
  rw [B_Lw_law_0]; simp (disch := first | exact Nat.le_of_ble_eq_true rfl | omega) only [n1, e1, e2, e3, zI_Z, zR_Z, r_iconst, r_bipush, r_sipush, r_lconst, r_ldc, r_ldc_w, r_ldc2, r_iloadn_0, r_iload_0, r_istoren_0, r_istore_0, r_aloadn_0, r_aload_0, r_astoren_0, r_astore_0, r_lloadn_0, r_lload_0, r_lstoren_0, r_lstore_0, r_iinc_0, r_iloadn_1, r_iload_1, r_istoren_1, r_istore_1, r_aloadn_1, r_aload_1, r_astoren_1, r_astore_1, r_lloadn_1, r_lload_1, r_lstoren_1, r_lstore_1, r_iinc_1, r_iloadn_2, r_iload_2, r_istoren_2, r_istore_2, r_aloadn_2, r_aload_2, r_astoren_2, r_astore_2, r_lloadn_2, r_lload_2, r_lstoren_2, r_lstore_2, r_iinc_2, r_iloadn_3, r_iload_3, r_istoren_3, r_istore_3, r_aloadn_3, r_aload_3, r_astoren_3, r_astore_3, r_lloadn_3, r_lload_3, r_lstoren_3, r_lstore_3, r_iinc_3, r_iload_4, r_istore_4, r_aload_4, r_astore_4, r_lload_4, r_lstore_4, r_iinc_4, r_iload_5, r_istore_5, r_aload_5, r_astore_5, r_lload_5, r_lstore_5, r_iinc_5, r_iload_6, r_istore_6, r_aload_6, r_astore_6, r_lload_6, r_lstore_6, r_iinc_6, r_iload_7, r_istore_7, r_aload_7, r_astore_7, r_lload_7, r_lstore_7, r_iinc_7, r_iload_8, r_istore_8, r_aload_8, r_astore_8, r_lload_8, r_lstore_8, r_iinc_8, r_iload_9, r_istore_9, r_aload_9, r_astore_9, r_lload_9, r_lstore_9, r_iinc_9, r_iload_10, r_istore_10, r_aload_10, r_astore_10, r_lload_10, r_lstore_10, r_iinc_10, r_iload_11, r_istore_11, r_aload_11, r_astore_11, r_lload_11, r_lstore_11, r_iinc_11, r_iadd, r_isub, r_imul, r_idiv, r_irem, r_iand, r_ior, r_ixor, r_ishl, r_ishr, r_iushr, r_land, r_lor, r_lushr, r_lshl, r_lcmp, r_i2l, r_l2i, r_i2b, r_i2c, r_dup_vI, r_pop_vI, r_dup_vR, r_pop_vR, r_dup2, r_goto, r_icmp_eq, r_if_eq, r_icmp_ne, r_if_ne, r_icmp_lt, r_if_lt, r_icmp_ge, r_if_ge, r_icmp_gt, r_if_gt, r_icmp_le, r_if_le, r_ifnull, r_ifnonnull, r_tableswitch, r_iaload, r_baload, r_caload, r_aaload, r_iastore, r_bastore, r_castore, r_aastore, r_arraylength, r_getI, r_getR, r_putI, r_putR, r_getstatic, r_new, r_new_int, r_new_byte, r_new_char, r_new_boolean, r_anewarray, r_checkcast, r_objinit, r_arraycopy, r_cloneI, r_cloneB, r_nil, X_Do_init, K4_Do_init, K5_Do_init, X_Do_copyFrom, K3_Do_copyFrom, X_Do_toldShows, K3_Do_toldShows, X_Do_reason, K3_Do_reason, X_Do_ofNextRun, K3_Do_ofNextRun, X_Do_nextEnd, K3_Do_nextEnd, X_Do_runNext, K3_Do_runNext, X_Do_firstGroup, K3_Do_firstGroup, X_Do_beginWith, K3_Do_beginWith, X_Do_groupsWith, K3_Do_groupsWith, X_Gr_init, K4_Gr_init, K5_Gr_init, X_Gr_copyFrom, K3_Gr_copyFrom, X_Gr_add, K3_Gr_add, X_Gr_waiting, K3_Gr_waiting, X_Gr_earliest, K3_Gr_earliest, X_Gr_seated, K3_Gr_seated, X_Gr_personsIn, K3_Gr_personsIn, X_Gr_newPersonsIn, K3_Gr_newPersonsIn, X_Gr_countRun, K3_Gr_countRun, X_Gr_goHome, K3_Gr_goHome, X_Gr_waitFrom, K3_Gr_waitFrom, X_Gr_waitingFor, K3_Gr_waitingFor, X_Gr_holds, K2_Gr_holds, X_Hi_init, K4_Hi_init, K5_Hi_init, X_Hi_record, K3_Hi_record, X_Hi_takeBack, K3_Hi_takeBack, X_La_init, K4_La_init, K5_La_init, X_La_copyFrom, K3_La_copyFrom, X_La_minutesLeft, K3_La_minutesLeft, X_La_firstToEnd, K3_La_firstToEnd, X_La_runsUntilEnd, K3_La_runsUntilEnd, X_La_isFoggy, K3_La_isFoggy, X_La_burn, K3_La_burn, X_Pa_init, K4_Pa_init, K5_Pa_init, X_Pa_append, K3_Pa_append, X_Re_init, K4_Re_init, K5_Re_init, X_Re_read, K3_Re_read, X_Re_laidOut, K3_Re_laidOut, X_Re_clear, K3_Re_clear, X_Re_isBehindPart, K3_Re_isBehindPart, X_Re_takes, K3_Re_takes, X_Re_takesLamp, K3_Re_takesLamp, X_Re_takesRepeat, K3_Re_takesRepeat, X_Re_takesStar, K3_Re_takesStar, X_Re_takesOpening, K3_Re_takesOpening, X_Re_takesFirstDigit, K3_Re_takesFirstDigit, X_Re_takesSecondDigit, K3_Re_takesSecondDigit, X_Re_takesEndOfPart, K3_Re_takesEndOfPart, X_Re_endScene, K3_Re_endScene, X_Re_endRepeat, K3_Re_endRepeat, X_Sh_init, K4_Sh_init, K5_Sh_init, X_Sh_lights, K3_Sh_lights, X_DL_init, K4_DL_init, K5_DL_init, X_DL_set, K3_DL_set, X_DL_tell, K3_DL_tell, X_DL_group, K3_DL_group, X_DL_lamp, K3_DL_lamp, X_DL_lens, K3_DL_lens, X_DL_run, K3_DL_run, X_DL_ofShow, K3_DL_ofShow, X_DL_lit, K3_DL_lit, X_DL_at, K3_DL_at, X_DL_ofLamp, K3_DL_ofLamp, X_DL_ofGroup, K3_DL_ofGroup, X_DL_count, K3_DL_count, X_DL_why, K3_DL_why, X_DL_next, K3_DL_next, X_DL_oftenOf, K3_DL_oftenOf, X_DL_endsFirst, K3_DL_endsFirst, X_DL_runsLeft, K3_DL_runsLeft, X_DL_put, K3_DL_put, X_DL_wipe, K3_DL_wipe, X_DL_undo, K3_DL_undo, X_DL_isOneOf, K2_DL_isOneOf, X_DL_lengthOf, K2_DL_lengthOf, X_Ma_max, K2_Ma_max, X_Ma_min, K2_Ma_min, X_Ar_copyOf, K2_Ar_copyOf, X_Lw_cell, K2_Lw_cell, X_Lw_low, K2_Lw_low, X_Lw_number, K2_Lw_number, X_Lw_scene, K2_Lw_scene, X_Lw_tell, K2_Lw_tell, X_Lw_does, K2_Lw_does, X_Lw_areShowsSo, K2_Lw_areShowsSo, X_Lw_areLampsSo, K2_Lw_areLampsSo, X_Lw_isRunSo, K2_Lw_isRunSo, X_Lw_law, unJ_I, unJ_R, unJ_J, unJ_U, bnd_some, List.cons_append, List.nil_append, Int.cast_ofNat_Int, if_pos, if_neg, r_iload_12, r_istore_12, r_iinc_12, r_iload_13, r_istore_13, r_iinc_13, r_iload_14, r_istore_14, r_iinc_14, r_iload_15, r_istore_15, r_iinc_15, if_true, if_false, Bool.false_eq_true, eq_self, reduceIte]
end BEGIN4
