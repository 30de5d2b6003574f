/-! ===== the start: both objects ===== -/
section BEGIN2
variable {a : HI} {b : HR} {s : SH}
set_option maxRecDepth 100000
set_option maxHeartbeats 4000000
def modL : List (Nat × Int × Nat) := [(10, 497, 497), (10, 497, 497), (10, 2982, 2982), (10, 994, 994), (13, 2, 2), (10, 80, 80), (10, 12, 12), (10, 5, 5), (10, 5, 5), (10, 5, 5)]
def iniR : Int → Int := up1 (up1 (up1 (up1 (up1 (up1 Zi 0 600) 1 5) 2 50) 3 40) 4 5) 5 10
theorem iniR_Q : iniR = iniQ := by
  funext j
  unfold iniR iniQ
  by_cases c0 : j = 0
  · rw [if_pos c0, c0, up1_ne (by omega), up1_ne (by omega), up1_ne (by omega), up1_ne (by omega), up1_ne (by omega), up1_at]
  · rw [if_neg c0]
    by_cases c1 : j = 1
    · rw [if_pos c1, c1, up1_ne (by omega), up1_ne (by omega), up1_ne (by omega), up1_ne (by omega), up1_at]
    · rw [if_neg c1]
      by_cases c2 : j = 2
      · rw [if_pos c2, c2, up1_ne (by omega), up1_ne (by omega), up1_ne (by omega), up1_at]
      · rw [if_neg c2]
        by_cases c3 : j = 3
        · rw [if_pos c3, c3, up1_ne (by omega), up1_ne (by omega), up1_at]
        · rw [if_neg c3]
          by_cases c4 : j = 4
          · rw [if_pos c4, c4, up1_ne (by omega), up1_at]
          · rw [if_neg c4]
            by_cases c5 : j = 5
            · rw [if_pos c5, c5, up1_at]
            · rw [if_neg c5, up1_ne c5, up1_ne c4, up1_ne c3, up1_ne c2, up1_ne c1, up1_ne c0]; rfl
theorem i_Mo (hq : nx s + 5 = 158) (hk : kd s 157 = 8) : Mn 78 [vR 157] a b s = some ([], upR (upR (upR (upR (upR (upR (upR (upR (upR (upR a 158 iniR) 159 Zi) 160 Zi) 161 Zi) 162 Zi) 163 Zi) 164 Zi) 165 Zi) 166 Zi) 167 Zi, uqR b 157 (up1 (up1 (up1 (up1 (up1 (up1 (up1 (up1 (up1 (up1 (b 157) 0 158) 1 159) 2 160) 4 161) 5 162) 6 163) 10 164) 11 165) 12 166) 13 167), nwL s modL) := by
  have K : ∀ l, kd (nwL s l) 157 = 8 := fun l => (kd_old (by omega)).trans hk
  generalize hs1 : nwS s 10 497 497 = s1
  have k1 : kd s1 157 = 8 := by rw [← hs1]; exact K [(10, 497, 497)]
  have q1 : nx s1 + 5 = 159 := by rw [← hs1, nx_nw]; omega
  have m1 : kd s1 158 = 10 ∧ ln s1 158 = 497 := by rw [← hs1, ← hq]; exact ⟨kd_at, ln_at⟩
  have O : ∀ l, kd (nwL s1 l) 158 = 10 ∧ ln (nwL s1 l) 158 = 497 := fun l => ⟨(kd_old (by omega)).trans m1.1, (ln_old (by omega)).trans m1.2⟩
  generalize hs2 : nwS s1 10 497 497 = s2
  have k2 : kd s2 157 = 8 := by rw [← hs2, ← hs1]; exact K [(10, 497, 497), (10, 497, 497)]
  have q2 : nx s2 + 5 = 160 := by rw [← hs2, nx_nw]; omega
  generalize hs3 : nwS s2 10 2982 2982 = s3
  have k3 : kd s3 157 = 8 := by rw [← hs3, ← hs2, ← hs1]; exact K [(10, 497, 497), (10, 497, 497), (10, 2982, 2982)]
  have q3 : nx s3 + 5 = 161 := by rw [← hs3, nx_nw]; omega
  generalize hs4 : nwS s3 10 994 994 = s4
  have k4 : kd s4 157 = 8 := by rw [← hs4, ← hs3, ← hs2, ← hs1]; exact K [(10, 497, 497), (10, 497, 497), (10, 2982, 2982), (10, 994, 994)]
  have q4 : nx s4 + 5 = 162 := by rw [← hs4, nx_nw]; omega
  generalize hs5 : nwS s4 13 2 2 = s5
  have k5 : kd s5 157 = 8 := by rw [← hs5, ← hs4, ← hs3, ← hs2, ← hs1]; exact K [(10, 497, 497), (10, 497, 497), (10, 2982, 2982), (10, 994, 994), (13, 2, 2)]
  have q5 : nx s5 + 5 = 163 := by rw [← hs5, nx_nw]; omega
  generalize hs6 : nwS s5 10 80 80 = s6
  have k6 : kd s6 157 = 8 := by rw [← hs6, ← hs5, ← hs4, ← hs3, ← hs2, ← hs1]; exact K [(10, 497, 497), (10, 497, 497), (10, 2982, 2982), (10, 994, 994), (13, 2, 2), (10, 80, 80)]
  have q6 : nx s6 + 5 = 164 := by rw [← hs6, nx_nw]; omega
  generalize hs7 : nwS s6 10 12 12 = s7
  have k7 : kd s7 157 = 8 := by rw [← hs7, ← hs6, ← hs5, ← hs4, ← hs3, ← hs2, ← hs1]; exact K [(10, 497, 497), (10, 497, 497), (10, 2982, 2982), (10, 994, 994), (13, 2, 2), (10, 80, 80), (10, 12, 12)]
  have q7 : nx s7 + 5 = 165 := by rw [← hs7, nx_nw]; omega
  generalize hs8 : nwS s7 10 5 5 = s8
  have k8 : kd s8 157 = 8 := by rw [← hs8, ← hs7, ← hs6, ← hs5, ← hs4, ← hs3, ← hs2, ← hs1]; exact K [(10, 497, 497), (10, 497, 497), (10, 2982, 2982), (10, 994, 994), (13, 2, 2), (10, 80, 80), (10, 12, 12), (10, 5, 5)]
  have q8 : nx s8 + 5 = 166 := by rw [← hs8, nx_nw]; omega
  generalize hs9 : nwS s8 10 5 5 = s9
  have k9 : kd s9 157 = 8 := by rw [← hs9, ← hs8, ← hs7, ← hs6, ← hs5, ← hs4, ← hs3, ← hs2, ← hs1]; exact K [(10, 497, 497), (10, 497, 497), (10, 2982, 2982), (10, 994, 994), (13, 2, 2), (10, 80, 80), (10, 12, 12), (10, 5, 5), (10, 5, 5)]
  have q9 : nx s9 + 5 = 167 := by rw [← hs9, nx_nw]; omega
  generalize hs10 : nwS s9 10 5 5 = s10
  have k10 : kd s10 157 = 8 := by rw [← hs10, ← hs9, ← hs8, ← hs7, ← hs6, ← hs5, ← hs4, ← hs3, ← hs2, ← hs1]; exact K modL
  have m10 : kd s10 158 = 10 ∧ ln s10 158 = 497 := by rw [← hs10, ← hs9, ← hs8, ← hs7, ← hs6, ← hs5, ← hs4, ← hs3, ← hs2]; exact O [(10, 497, 497), (10, 2982, 2982), (10, 994, 994), (13, 2, 2), (10, 80, 80), (10, 12, 12), (10, 5, 5), (10, 5, 5), (10, 5, 5)]
  have hfin : nwL s modL = s10 := by rw [← hs10, ← hs9, ← hs8, ← hs7, ← hs6, ← hs5, ← hs4, ← hs3, ← hs2, ← hs1]; rfl
  have t1 : Int.toNat 497 = 497 := rfl
  have t2 : Int.toNat 2982 = 2982 := rfl
  have t3 : Int.toNat 994 = 994 := rfl
  have t4 : Int.toNat 2 = 2 := rfl
  have t5 : Int.toNat 80 = 80 := rfl
  have t6 : Int.toNat 12 = 12 := rfl
  have t7 : Int.toNat 5 = 5 := rfl
  rw [hfin]
  clear K O hfin
  unfold iniR
  rw [U_Mo_init]
  rw [B_Mo_init_0]; simp (disch := first | exact Nat.le_of_ble_eq_true rfl | omega) only [hq, t1, t2, t3, t4, t5, t6, t7, zI_Z, hs1, q1, hs2, q2, hs3, q3, hs4, q4, hs5, q5, hs6, q6, hs7, q7, hs8, q8, hs9, q9, hs10, wI_up, wR_up, upR_at, upR_ne, up1_at, up1_ne, uqR_at, uqR_ne, upR_up, uqR_up, upR_srtU, upR_srtN, uqR_srtU, r_iconst, r_bipush, r_sipush, r_lconst, r_ldc, r_ldc_w, r_ldc2, r_iloadn_0, r_iload_0, r_istoren_0, r_istore_0, r_aloadn_0, r_aload_0, r_astoren_0, r_astore_0, r_lloadn_0, r_lload_0, r_lstoren_0, r_lstore_0, r_iinc_0, r_iloadn_1, r_iload_1, r_istoren_1, r_istore_1, r_aloadn_1, r_aload_1, r_astoren_1, r_astore_1, r_lloadn_1, r_lload_1, r_lstoren_1, r_lstore_1, r_iinc_1, r_iloadn_2, r_iload_2, r_istoren_2, r_istore_2, r_aloadn_2, r_aload_2, r_astoren_2, r_astore_2, r_lloadn_2, r_lload_2, r_lstoren_2, r_lstore_2, r_iinc_2, r_iloadn_3, r_iload_3, r_istoren_3, r_istore_3, r_aloadn_3, r_aload_3, r_astoren_3, r_astore_3, r_lloadn_3, r_lload_3, r_lstoren_3, r_lstore_3, r_iinc_3, r_iload_4, r_istore_4, r_aload_4, r_astore_4, r_lload_4, r_lstore_4, r_iinc_4, r_iload_5, r_istore_5, r_aload_5, r_astore_5, r_lload_5, r_lstore_5, r_iinc_5, r_iload_6, r_istore_6, r_aload_6, r_astore_6, r_lload_6, r_lstore_6, r_iinc_6, r_iload_7, r_istore_7, r_aload_7, r_astore_7, r_lload_7, r_lstore_7, r_iinc_7, r_iload_8, r_istore_8, r_aload_8, r_astore_8, r_lload_8, r_lstore_8, r_iinc_8, r_iload_9, r_istore_9, r_aload_9, r_astore_9, r_lload_9, r_lstore_9, r_iinc_9, r_iload_10, r_istore_10, r_aload_10, r_astore_10, r_lload_10, r_lstore_10, r_iinc_10, r_iload_11, r_istore_11, r_aload_11, r_astore_11, r_lload_11, r_lstore_11, r_iinc_11, r_iadd, r_isub, r_imul, r_idiv, r_irem, r_iand, r_ior, r_ixor, r_ishl, r_ishr, r_iushr, r_land, r_lor, r_lushr, r_lshl, r_lcmp, r_i2l, r_l2i, r_i2b, r_i2c, r_dup_vI, r_pop_vI, r_dup_vR, r_pop_vR, r_dup2, r_goto, r_icmp_eq, r_if_eq, r_icmp_ne, r_if_ne, r_icmp_lt, r_if_lt, r_icmp_ge, r_if_ge, r_icmp_gt, r_if_gt, r_icmp_le, r_if_le, r_ifnull, r_ifnonnull, r_tableswitch, r_iaload, r_baload, r_caload, r_aaload, r_iastore, r_bastore, r_castore, r_aastore, r_arraylength, r_getI, r_getR, r_putI, r_putR, r_getstatic, r_new, r_new_int, r_new_byte, r_new_char, r_new_boolean, r_anewarray, r_checkcast, r_objinit, r_arraycopy, r_cloneI, r_cloneB, r_nil, X_Do_init, K4_Do_init, K5_Do_init, X_Do_copyFrom, K3_Do_copyFrom, X_Do_toldShows, K3_Do_toldShows, X_Do_reason, K3_Do_reason, X_Do_ofNextRun, K3_Do_ofNextRun, X_Do_nextEnd, K3_Do_nextEnd, X_Do_runNext, K3_Do_runNext, X_Do_firstGroup, K3_Do_firstGroup, X_Do_beginWith, K3_Do_beginWith, X_Do_groupsWith, K3_Do_groupsWith, X_Gr_init, K4_Gr_init, K5_Gr_init, X_Gr_copyFrom, K3_Gr_copyFrom, X_Gr_add, K3_Gr_add, X_Gr_waiting, K3_Gr_waiting, X_Gr_earliest, K3_Gr_earliest, X_Gr_seated, K3_Gr_seated, X_Gr_personsIn, K3_Gr_personsIn, X_Gr_newPersonsIn, K3_Gr_newPersonsIn, X_Gr_countRun, K3_Gr_countRun, X_Gr_goHome, K3_Gr_goHome, X_Gr_waitFrom, K3_Gr_waitFrom, X_Gr_waitingFor, K3_Gr_waitingFor, X_Gr_holds, K2_Gr_holds, X_Hi_init, K4_Hi_init, K5_Hi_init, X_Hi_record, K3_Hi_record, X_Hi_takeBack, K3_Hi_takeBack, X_La_init, K4_La_init, K5_La_init, X_La_copyFrom, K3_La_copyFrom, X_La_minutesLeft, K3_La_minutesLeft, X_La_firstToEnd, K3_La_firstToEnd, X_La_runsUntilEnd, K3_La_runsUntilEnd, X_La_isFoggy, K3_La_isFoggy, X_La_burn, K3_La_burn, X_Pa_init, K4_Pa_init, K5_Pa_init, X_Pa_append, K3_Pa_append, X_Re_init, K4_Re_init, K5_Re_init, X_Re_read, K3_Re_read, X_Re_laidOut, K3_Re_laidOut, X_Re_clear, K3_Re_clear, X_Re_isBehindPart, K3_Re_isBehindPart, X_Re_takes, K3_Re_takes, X_Re_takesLamp, K3_Re_takesLamp, X_Re_takesRepeat, K3_Re_takesRepeat, X_Re_takesStar, K3_Re_takesStar, X_Re_takesOpening, K3_Re_takesOpening, X_Re_takesFirstDigit, K3_Re_takesFirstDigit, X_Re_takesSecondDigit, K3_Re_takesSecondDigit, X_Re_takesEndOfPart, K3_Re_takesEndOfPart, X_Re_endScene, K3_Re_endScene, X_Re_endRepeat, K3_Re_endRepeat, X_Sh_init, K4_Sh_init, K5_Sh_init, X_Sh_lights, K3_Sh_lights, X_DL_init, K4_DL_init, K5_DL_init, X_DL_set, K3_DL_set, X_DL_tell, K3_DL_tell, X_DL_group, K3_DL_group, X_DL_lamp, K3_DL_lamp, X_DL_lens, K3_DL_lens, X_DL_run, K3_DL_run, X_DL_ofShow, K3_DL_ofShow, X_DL_lit, K3_DL_lit, X_DL_at, K3_DL_at, X_DL_ofLamp, K3_DL_ofLamp, X_DL_ofGroup, K3_DL_ofGroup, X_DL_count, K3_DL_count, X_DL_why, K3_DL_why, X_DL_next, K3_DL_next, X_DL_oftenOf, K3_DL_oftenOf, X_DL_endsFirst, K3_DL_endsFirst, X_DL_runsLeft, K3_DL_runsLeft, X_DL_put, K3_DL_put, X_DL_wipe, K3_DL_wipe, X_DL_fault, K3_DL_fault, X_DL_undo, K3_DL_undo, X_DL_save, K3_DL_save, X_DL_restore, K3_DL_restore, X_DL_isOneOf, K2_DL_isOneOf, X_DL_lengthOf, K2_DL_lengthOf, X_Mo_init, K4_Mo_init, K5_Mo_init, X_Mo_in, K2_Mo_in, X_Mo_ofLampAt, K2_Mo_ofLampAt, X_Mo_ofGroupAt, K2_Mo_ofGroupAt, X_Mo_ofShowAt, K2_Mo_ofShowAt, X_Mo_isShow, K2_Mo_isShow, X_Mo_isLamp, K2_Mo_isLamp, X_Mo_isGroup, K3_Mo_isGroup, X_Mo_isTold, K3_Mo_isTold, X_Mo_know, K3_Mo_know, X_Mo_putAside, K3_Mo_putAside, X_Mo_putBack, K3_Mo_putBack, X_Mo_puts, K3_Mo_puts, X_Mo_behind, K3_Mo_behind, X_Mo_fault, K3_Mo_fault, X_Mo_scene, K3_Mo_scene, X_Mo_tellAll, K3_Mo_tellAll, X_Mo_tell, K3_Mo_tell, X_Mo_litIn, K3_Mo_litIn, X_Mo_waits, K3_Mo_waits, X_Mo_isAhead, K3_Mo_isAhead, X_Mo_first, K3_Mo_first, X_Mo_begins, K3_Mo_begins, X_Mo_isTooLong, K3_Mo_isTooLong, X_Mo_why, K3_Mo_why, X_Mo_groupsOf, K3_Mo_groupsOf, X_Mo_isFoggy, K3_Mo_isFoggy, X_Mo_burns, K3_Mo_burns, X_Mo_runs, K3_Mo_runs, X_Mo_set, K3_Mo_set, X_Mo_group, K3_Mo_group, X_Mo_lamp, K3_Mo_lamp, X_Mo_lens, K3_Mo_lens, X_Mo_run, K3_Mo_run, X_Mo_ofShow, K3_Mo_ofShow, X_Mo_lit, K3_Mo_lit, X_Mo_at, K3_Mo_at, X_Mo_minutesLeft, K3_Mo_minutesLeft, X_Mo_ofLamp, K3_Mo_ofLamp, X_Mo_ofGroup, K3_Mo_ofGroup, X_Mo_waiting, K3_Mo_waiting, X_Mo_toldShows, K3_Mo_toldShows, X_Mo_count, K3_Mo_count, X_Mo_next, K3_Mo_next, X_Mo_oftenOf, K3_Mo_oftenOf, X_Mo_endsFirst, K3_Mo_endsFirst, X_Mo_runsLeft, K3_Mo_runsLeft, X_Mo_put, K3_Mo_put, X_Mo_wipe, K3_Mo_wipe, X_Mo_undo, K3_Mo_undo, X_Mo_save, K3_Mo_save, X_Mo_restore, K3_Mo_restore, X_In_bitCount, K2_In_bitCount, X_Ma_max, K2_Ma_max, X_Ma_min, K2_Ma_min, X_Ar_copyOf, K2_Ar_copyOf, X_Lw_law, unJ_I, unJ_R, unJ_J, unJ_U, bnd_some, List.cons_append, List.nil_append, Int.cast_ofNat_Int, if_pos, if_neg, if_true, if_false, Bool.false_eq_true, eq_self, reduceIte]
end BEGIN2
