/-! ===== the model: a run as a whole, what stays bounded ===== -/
theorem Bnd.nowT {N T T' nw : Int} {σ : RW} (hb : Bnd N T σ) (h : 0 ≤ nw ∧ nw ≤ T') (h2 : T ≤ T' ∧ T' ≤ 1000000) : Bnd N T' (up1 σ 6 nw) := by
  have e : ∀ j, j ≠ 6 → up1 σ 6 nw j = σ j := fun j hj => up1_ne hj
  refine Bnd.mk ?_ ?_ ?_ ?_ ?_ ?_ ?_ ?_ ?_ ?_ ?_ (fun l h0 h1 => ?_) (fun l h0 h1 => ?_) (fun l h0 h1 => ?_) (fun l h0 h1 => ?_) (fun l h0 h1 => ?_) (fun l h0 h1 => ?_) (fun l h0 h1 => ?_) (fun l h0 h1 => ?_) (fun l h0 h1 => ?_) hb.cn ⟨by omega, h2.2⟩
  · rw [e _ (by omega)]; exact hb.lif
  · rw [e _ (by omega)]; exact hb.fog
  · rw [e _ (by omega)]; exact hb.dim
  · rw [e _ (by omega)]; exact hb.sea
  · rw [e _ (by omega)]; exact hb.pri
  · rw [e _ (by omega)]; exact hb.wai
  · rw [up1_at]; exact h
  · rw [e _ (by omega)]; exact hb.siz
  · rw [e _ (by omega)]; exact hb.coi
  · rw [e _ (by omega)]; exact hb.run
  · rw [e _ (by omega)]; exact hb.fgy
  · rw [e _ (by omega)]; exact hb.bur l h0 h1
  · rw [e _ (by omega)]; exact hb.haz l h0 h1
  · rw [e _ (by omega)]; exact hb.chg l h0 h1
  · rw [e _ (by omega)]; exact hb.per l h0 h1
  · rw [e _ (by omega)]; exact hb.whi l h0 h1
  · rw [e _ (by omega)]; have := hb.tim l h0 h1; omega
  · rw [e _ (by omega)]; exact hb.see l h0 h1
  · rw [e _ (by omega)]; exact hb.win l h0 h1
  · rw [e _ (by omega)]; exact hb.ran l h0 h1
theorem ShB.nowT {nw : Int} {σ : RW} (hs : ShB σ) : ShB (up1 σ 6 nw) := by
  have e : ∀ j, j ≠ 6 → up1 σ 6 nw j = σ j := fun j hj => up1_ne hj
  refine ShB.mk (fun h h0 h1 => ?_) (fun h k h0 h1 k0 k1 => ?_) (fun h h0 h1 ht => ?_)
  · rw [e _ (by omega)]; exact hs.mi h h0 h1
  · rw [e _ (by omega)]; exact hs.li h k h0 h1 k0 k1
  · rw [e _ (by omega)] at ht
    obtain ⟨k, k0, k1, k2⟩ := hs.op h h0 h1 ht
    exact ⟨k, k0, k1, by rw [e _ (by omega)]; exact k2⟩
theorem Bnd.runT {N T T' nw h x : Int} {fo : Bool} {σ : RW} (hb : Bnd N T σ) (hs : ShB σ) (hN : N + 1 ≤ 2000) (hh : 0 ≤ h ∧ h < 4) (hn : 0 ≤ nw ∧ nw ≤ T') (h2 : T ≤ T' ∧ T' ≤ 1000000) : Bnd (N + 1) T' (runQ σ h x nw fo) := by
  have hG : nG σ ≤ 20 := by have := hb.siz; unfold nG; omega
  have s1 := smI_bnd (f := newS x (wnF σ) (peF σ)) (c := 60) (by omega) (n := nG σ) (fun i hi => by have := hb.per i (by omega) (by omega); unfold newS peF; split <;> omega)
  have s3 : 0 ≤ smI (newS x (wnF σ) (peF σ)) (nG σ) * σ 4 := Int.mul_nonneg s1.1 hb.pri.1
  have s4 : smI (newS x (wnF σ) (peF σ)) (nG σ) * σ 4 ≤ 1200 * 99 := Int.mul_le_mul (by omega) hb.pri.2 hb.pri.1 (by omega)
  have hc := hb.cn
  refine Bnd.mk ?_ ?_ ?_ ?_ ?_ ?_ ?_ ?_ ?_ ?_ ?_ (fun l h0 h1 => ?_) (fun l h0 h1 => ?_) (fun l h0 h1 => ?_) (fun l h0 h1 => ?_) (fun l h0 h1 => ?_) (fun l h0 h1 => ?_) (fun l h0 h1 => ?_) (fun l h0 h1 => ?_) (fun l h0 h1 => ?_) ⟨by omega, hN⟩ ⟨by omega, h2.2⟩
  · rw [rq_st (by omega) (by omega)]; exact hb.lif
  · rw [rq_st (by omega) (by omega)]; exact hb.fog
  · rw [rq_st (by omega) (by omega)]; exact hb.dim
  · rw [rq_st (by omega) (by omega)]; exact hb.sea
  · rw [rq_st (by omega) (by omega)]; exact hb.pri
  · rw [rq_st (by omega) (by omega)]; exact hb.wai
  · rw [rq_6]; exact hn
  · rw [rq_7]; exact hb.siz
  · rw [rq_8]; have := hb.coi; omega
  · rw [rq_9]; have := hb.run; omega
  · rw [rq_10]; have := hb.fgy; split <;> omega
  · rw [rq_bu h0 h1]; have := hb.bur l h0 h1; have := hs.li h l hh.1 hh.2 h0 h1; unfold liF; omega
  · have e1 := hb.haz l h0 h1
    have e2 := hs.li h l hh.1 hh.2 h0 h1
    have e3 : 0 ≤ σ 1 * liF σ h l := Int.mul_nonneg hb.fog.1 e2.1
    rw [rq_hz h0 h1]; omega
  · rw [rq_ch h0 h1]; have := hb.chg l h0 h1; omega
  · rw [rq_pe h0 h1]; exact hb.per l h0 h1
  · rw [rq_wh h0 h1]; exact hb.whi l h0 h1
  · rw [rq_ti h0 h1]; have := hb.tim l h0 h1; have := hb.wai; split <;> omega
  · rw [rq_se h0 h1]; have := hb.see l h0 h1; split <;> omega
  · rw [rq_wi h0 h1]; have := hb.win l h0 h1; split <;> omega
  · rw [rq_ra h0 h1]; have := hb.ran l h0 h1; split <;> omega
theorem ShB.runT {nw h x : Int} {fo : Bool} {σ : RW} (hs : ShB σ) (hh : 0 ≤ h ∧ h < 4) : ShB (runQ σ h x nw fo) := by
  have e1 : ∀ g, 0 ≤ g → g < 4 → runQ σ h x nw fo (129 + 92 * g) = σ (129 + 92 * g) := fun g h0 h1 => by
    have := rq_sh (σ := σ) (h := h) (x := x) (nw := nw) (fo := fo) (j := 0) h0 h1 (by omega) (by omega) hh
    rw [Int.add_zero] at this
    exact this
  refine ShB.mk (fun g h0 h1 => ?_) (fun g k h0 h1 k0 k1 => ?_) (fun g h0 h1 ht => ?_)
  · rw [e1 g h0 h1]; exact hs.mi g h0 h1
  · rw [rq_li h0 h1 k0 (by omega) hh]; exact hs.li g k h0 h1 k0 k1
  · rw [e1 g h0 h1] at ht
    obtain ⟨k, k0, k1, k2⟩ := hs.op g h0 h1 ht
    exact ⟨k, k0, k1, by rw [rq_li h0 h1 k0 (by omega) hh]; exact k2⟩
/-- the row in which the model's loop goes -/
def rnT (σ : RW) (h nw : Int) : RW := brnQ (up1 σ 6 nw) h 6
theorem rnT_at {σ : RW} {h nw j : Int} (e : ¬ (11 ≤ j ∧ j < 29)) (e2 : j ≠ 6) : rnT σ h nw j = σ j := by
  unfold rnT; rw [brn_at (fun w => e ⟨w.1, w.2.1⟩), up1_ne e2]
theorem rnT_6 {σ : RW} {h nw : Int} : rnT σ h nw 6 = nw := by
  unfold rnT; rw [brn_at (fun w => absurd w.1 (by omega)), up1_at]
theorem rnT_pe {σ : RW} {h nw : Int} {i : Nat} : peF (rnT σ h nw) i = peF σ i := rnT_at (by omega) (by omega)
theorem rnT_wn {σ : RW} {h nw : Int} {i : Nat} : wnF (rnT σ h nw) i = wnF σ i := rnT_at (by omega) (by omega)
theorem rnT_new {σ : RW} {h nw x : Int} {n : Nat} : smI (newS x (wnF (rnT σ h nw)) (peF (rnT σ h nw))) n = smI (newS x (wnF σ) (peF σ)) n := smI_cong (fun i _ => by unfold newS; rw [rnT_wn, rnT_pe])
theorem rnT_in {σ : RW} {h nw x : Int} {n : Nat} : smI (inS x (peF (rnT σ h nw))) n = smI (inS x (peF σ)) n := smI_cong (fun i _ => by unfold inS; rw [rnT_pe])
theorem rq_eq {σ : RW} {h nw x o : Int} {fo : Bool} (hh : 0 ≤ h ∧ h < 4) (ho : o = if fo = true then 1 else 0) : up1 (up1 (up1 (rnL (rnT σ h nw) x nw fo (nG σ)) 9 (σ 9 + 1)) 10 (σ 10 + o)) (133 + 92 * h) (σ (133 + 92 * h) + 1) = runQ σ h x nw fo := by
  funext j
  by_cases e1 : j = 133 + 92 * h
  · rw [e1, up1_at, rq_ra hh.1 hh.2, if_pos rfl]
  · rw [up1_ne e1]
    by_cases e2 : j = 10
    · rw [e2, up1_at, rq_10, ho]; cases fo <;> simp
    · rw [up1_ne e2]
      by_cases e3 : j = 9
      · rw [e3, up1_at, rq_9]
      · rw [up1_ne e3]
        by_cases e4 : j = 8
        · rw [e4, rnL_8, rq_8, rnT_new, rnT_at (by omega) (by omega), rnT_at (by omega) (by omega)]
        · by_cases e5 : j = 6
          · rw [e5, rnL_lo (by omega) (by omega), rq_6, rnT_6]
          · unfold runQ
            rw [if_neg e5, if_neg e4, if_neg e3, if_neg e2]
            by_cases e6 : j < 11
            · rw [if_pos e6, rnL_lo (by omega) e4, rnT_at (by omega) e5]
            · rw [if_neg e6]
              by_cases e7 : j < 29
              · rw [if_pos e7, rnL_lo e7 e4]
                unfold rnT brnQ
                rw [if_pos ⟨by omega, e7, by omega⟩]
                have q1 : up1 σ 6 nw j = σ j := up1_ne e5
                have q2 : up1 σ 6 nw 1 = σ 1 := up1_ne (by omega)
                have q3 : liF (up1 σ 6 nw) h ((j - 11) / 3) = liF σ h ((j - 11) / 3) := up1_ne (by omega)
                rw [q1, q2, q3]
              · rw [if_neg e7]
                by_cases e8 : j < 129
                · rw [if_pos e8]
                  have q1 : rnT σ h nw j = σ j := rnT_at (by omega) e5
                  have q2 : rnT σ h nw 5 = σ 5 := rnT_at (by omega) (by omega)
                  unfold rnL
                  rw [if_neg e4, q1, q2]
                  by_cases c : (j - 29) / 5 < (nG σ : Int) ∧ bt x ((j - 29) / 5) = true
                  · rw [if_pos c, if_pos ⟨by omega, e8, c⟩]
                  · rw [if_neg c, if_neg (fun w => c w.2.2)]
                · rw [if_neg e8, if_neg e1, rnL_hi (by omega), rnT_at (by omega) e5]
/-- the row behind a run -/
def stepQ (σ : RW) : RW := runQ σ (σ (30 + 5 * fstP σ)) (grpP σ (fstP σ)) (begP σ (fstP σ) + σ (129 + 92 * σ (30 + 5 * fstP σ))) (foggyP σ (σ (30 + 5 * fstP σ)))
/-- how many persons are in it -/
def perQ (σ : RW) : Int := smI (inS (grpP σ (fstP σ)) (peF σ)) (nG σ)
section MRUN
variable {a : HI} {b : HR} {s : SH} {N T : Int}
set_option maxRecDepth 100000
theorem m_runs (hM : MoS s b) (hb : Bnd N T (a 158)) (hs : ShB (a 158)) (hT : T ≤ 900000) (hf : fstP (a 158) ≠ -1) : Mn 106 [vR 157] a b s = some ([vI (perQ (a 158))], upR a 158 (stepQ (a 158)), b, s) := by
  have gf := m_first (a := a) (w := -6) (x := 0) hM hb.siz
  rw [first_any hb, if_neg hf] at gf
  have hg := m_groupsOf hM hb hf
  rcases fstP_in hb with e | ⟨w1, w2, w3, w4⟩
  · exact absurd e hf
  have h3 := hb.whi (fstP (a 158)) w1 w3
  have hB := m_begins hM hb ⟨w1, w3⟩
  have hF := m_isFoggy (h := a 158 (30 + 5 * fstP (a 158))) hM hb ⟨by omega, by omega⟩
  have g1 := m_ga1 (a := a) (b := b) (s := s) (g := fstP (a 158)) ⟨w1, w3⟩
  have bB : 0 ≤ begP (a 158) (fstP (a 158)) ∧ begP (a 158) (fstP (a 158)) ≤ T + 99 := by
    have := hb.tim (fstP (a 158)) w1 w3
    have := hb.now
    have := hb.ct
    unfold begP
    omega
  unfold stepQ perQ
  generalize grpP (a 158) (fstP (a 158)) = x at *
  generalize begP (a 158) (fstP (a 158)) = bg at *
  generalize fstP (a 158) = f at *
  generalize hh : a 158 (30 + 5 * f) = h at *
  generalize foggyP (a 158) h = fo at *
  have hm := hs.mi h (by omega) (by omega)
  have g0 := m_sa0 (a := a) (b := b) (s := s) (h := h) (by omega)
  generalize hnw : bg + a 158 (129 + 92 * h) = nw at *
  have eb := m_burns (a := upR a 158 (up1 (a 158) 6 nw)) (h := h) (N := N) (T := T + 1098) hM (by rw [upR_at]; exact hb.nowT (by omega) ⟨by omega, by omega⟩) (by rw [upR_at]; exact hs.nowT) (by omega)
  rw [upR_at, upR_up] at eb
  have hG : nG (a 158) ≤ 20 := by have := hb.siz; unfold nG; omega
  have hcn := hb.cn
  have hB1 : RunB (nG (a 158)) (rnT (a 158) h nw) := by
    refine ⟨?_, hG, ?_, ?_, ?_, ?_, fun g x0 x1 => ?_⟩
    · rw [rnT_at (by omega) (by omega)]; have := hb.siz; unfold nG; omega
    · rw [rnT_at (by omega) (by omega)]; have := hb.coi; omega
    · rw [rnT_at (by omega) (by omega)]; exact hb.pri
    · rw [rnT_at (by omega) (by omega)]; exact hb.wai
    · rw [rnT_6]; omega
    · rw [rnT_at (by omega) (by omega), rnT_at (by omega) (by omega)]
      have := hb.win g x0 x1
      exact ⟨hb.per g x0 x1, by omega, by omega⟩
  have L := l_runs (a := a) (s := s) (N := nG (a 158)) (g := f) (h := h) (x := x) (nw := nw) (fo := fo) hM hB1 rnT_6.symm (nG (a 158)) 0 (by omega)
  rw [rnL_0, Int.cast_ofNat_Int, show smI (inS x (peF (rnT (a 158) h nw))) 0 = 0 from rfl, rnT_in] at L
  have q9 : rnL (rnT (a 158) h nw) x nw fo (nG (a 158)) 9 = a 158 9 := by rw [rnL_lo (by omega) (by omega), rnT_at (by omega) (by omega)]
  have q10 : rnL (rnT (a 158) h nw) x nw fo (nG (a 158)) 10 = a 158 10 := by rw [rnL_lo (by omega) (by omega), rnT_at (by omega) (by omega)]
  have qr : rnL (rnT (a 158) h nw) x nw fo (nG (a 158)) (133 + 92 * h) = a 158 (133 + 92 * h) := by rw [rnL_hi (by omega), rnT_at (by omega) (by omega)]
  have E := run_last (a := a) (b := b) (s := s) (f := rnL (rnT (a 158) h nw) x nw fo (nG (a 158))) (g := f) (h := h) (x := x) (o := if fo = true then 1 else 0) (p := smI (inS x (peF (a 158))) (nG (a 158))) (k := nG (a 158)) hM (by omega) (by rw [q9]; have := hb.run; omega) (by rw [q10]; have := hb.fgy; omega) (by rw [qr]; have := hb.ran h (by omega) (by omega); omega) (by cases fo <;> simp)
  rw [q9, q10, qr, rq_eq (by omega) rfl] at E
  obtain ⟨k0, ⟨b0, -⟩, ⟨k1, -⟩, l1, -⟩ := hM
  clear hb hs hB1 q9 q10 qr
  rw [U_Mo_runs]
  rw [B_Mo_runs_0]
  simp (disch := first | exact Nat.le_of_ble_eq_true rfl | omega) only [gf, hg, hB, hF, hh, g1, g0, b0, hnw, eb, wI_up, wR_up, upR_at, upR_ne, up1_at, up1_ne, uqR_at, uqR_ne, upR_up, uqR_up, upR_srtU, upR_srtN, uqR_srtU, r_iconst, r_bipush, r_sipush, r_lconst, r_ldc, r_ldc_w, r_ldc2, r_iloadn_0, r_iload_0, r_istoren_0, r_istore_0, r_aloadn_0, r_aload_0, r_astoren_0, r_astore_0, r_lloadn_0, r_lload_0, r_lstoren_0, r_lstore_0, r_iinc_0, r_iloadn_1, r_iload_1, r_istoren_1, r_istore_1, r_aloadn_1, r_aload_1, r_astoren_1, r_astore_1, r_lloadn_1, r_lload_1, r_lstoren_1, r_lstore_1, r_iinc_1, r_iloadn_2, r_iload_2, r_istoren_2, r_istore_2, r_aloadn_2, r_aload_2, r_astoren_2, r_astore_2, r_lloadn_2, r_lload_2, r_lstoren_2, r_lstore_2, r_iinc_2, r_iloadn_3, r_iload_3, r_istoren_3, r_istore_3, r_aloadn_3, r_aload_3, r_astoren_3, r_astore_3, r_lloadn_3, r_lload_3, r_lstoren_3, r_lstore_3, r_iinc_3, r_iload_4, r_istore_4, r_aload_4, r_astore_4, r_lload_4, r_lstore_4, r_iinc_4, r_iload_5, r_istore_5, r_aload_5, r_astore_5, r_lload_5, r_lstore_5, r_iinc_5, r_iload_6, r_istore_6, r_aload_6, r_astore_6, r_lload_6, r_lstore_6, r_iinc_6, r_iload_7, r_istore_7, r_aload_7, r_astore_7, r_lload_7, r_lstore_7, r_iinc_7, r_iload_8, r_istore_8, r_aload_8, r_astore_8, r_lload_8, r_lstore_8, r_iinc_8, r_iload_9, r_istore_9, r_aload_9, r_astore_9, r_lload_9, r_lstore_9, r_iinc_9, r_iload_10, r_istore_10, r_aload_10, r_astore_10, r_lload_10, r_lstore_10, r_iinc_10, r_iload_11, r_istore_11, r_aload_11, r_astore_11, r_lload_11, r_lstore_11, r_iinc_11, r_iadd, r_isub, r_imul, r_idiv, r_irem, r_iand, r_ior, r_ixor, r_ishl, r_ishr, r_iushr, r_land, r_lor, r_lushr, r_lshl, r_lcmp, r_i2l, r_l2i, r_i2b, r_i2c, r_dup_vI, r_pop_vI, r_dup_vR, r_pop_vR, r_dup2, r_goto, r_icmp_eq, r_if_eq, r_icmp_ne, r_if_ne, r_icmp_lt, r_if_lt, r_icmp_ge, r_if_ge, r_icmp_gt, r_if_gt, r_icmp_le, r_if_le, r_ifnull, r_ifnonnull, r_tableswitch, r_iaload, r_baload, r_caload, r_aaload, r_iastore, r_bastore, r_castore, r_aastore, r_arraylength, r_getI, r_getR, r_putI, r_putR, r_getstatic, r_new, r_new_int, r_new_byte, r_new_char, r_new_boolean, r_anewarray, r_checkcast, r_objinit, r_arraycopy, r_cloneI, r_cloneB, r_nil, X_Do_init, K4_Do_init, K5_Do_init, X_Do_copyFrom, K3_Do_copyFrom, X_Do_toldShows, K3_Do_toldShows, X_Do_reason, K3_Do_reason, X_Do_ofNextRun, K3_Do_ofNextRun, X_Do_nextEnd, K3_Do_nextEnd, X_Do_runNext, K3_Do_runNext, X_Do_firstGroup, K3_Do_firstGroup, X_Do_beginWith, K3_Do_beginWith, X_Do_groupsWith, K3_Do_groupsWith, X_Gr_init, K4_Gr_init, K5_Gr_init, X_Gr_copyFrom, K3_Gr_copyFrom, X_Gr_add, K3_Gr_add, X_Gr_waiting, K3_Gr_waiting, X_Gr_earliest, K3_Gr_earliest, X_Gr_seated, K3_Gr_seated, X_Gr_personsIn, K3_Gr_personsIn, X_Gr_newPersonsIn, K3_Gr_newPersonsIn, X_Gr_countRun, K3_Gr_countRun, X_Gr_goHome, K3_Gr_goHome, X_Gr_waitFrom, K3_Gr_waitFrom, X_Gr_waitingFor, K3_Gr_waitingFor, X_Gr_holds, K2_Gr_holds, X_Hi_init, K4_Hi_init, K5_Hi_init, X_Hi_record, K3_Hi_record, X_Hi_takeBack, K3_Hi_takeBack, X_La_init, K4_La_init, K5_La_init, X_La_copyFrom, K3_La_copyFrom, X_La_minutesLeft, K3_La_minutesLeft, X_La_firstToEnd, K3_La_firstToEnd, X_La_runsUntilEnd, K3_La_runsUntilEnd, X_La_isFoggy, K3_La_isFoggy, X_La_burn, K3_La_burn, X_Pa_init, K4_Pa_init, K5_Pa_init, X_Pa_append, K3_Pa_append, X_Re_init, K4_Re_init, K5_Re_init, X_Re_read, K3_Re_read, X_Re_laidOut, K3_Re_laidOut, X_Re_clear, K3_Re_clear, X_Re_isBehindPart, K3_Re_isBehindPart, X_Re_takes, K3_Re_takes, X_Re_takesLamp, K3_Re_takesLamp, X_Re_takesRepeat, K3_Re_takesRepeat, X_Re_takesStar, K3_Re_takesStar, X_Re_takesOpening, K3_Re_takesOpening, X_Re_takesFirstDigit, K3_Re_takesFirstDigit, X_Re_takesSecondDigit, K3_Re_takesSecondDigit, X_Re_takesEndOfPart, K3_Re_takesEndOfPart, X_Re_endScene, K3_Re_endScene, X_Re_endRepeat, K3_Re_endRepeat, X_Sh_init, K4_Sh_init, K5_Sh_init, X_Sh_lights, K3_Sh_lights, X_DL_init, K4_DL_init, K5_DL_init, X_DL_set, K3_DL_set, X_DL_tell, K3_DL_tell, X_DL_group, K3_DL_group, X_DL_lamp, K3_DL_lamp, X_DL_lens, K3_DL_lens, X_DL_run, K3_DL_run, X_DL_ofShow, K3_DL_ofShow, X_DL_lit, K3_DL_lit, X_DL_at, K3_DL_at, X_DL_ofLamp, K3_DL_ofLamp, X_DL_ofGroup, K3_DL_ofGroup, X_DL_count, K3_DL_count, X_DL_why, K3_DL_why, X_DL_next, K3_DL_next, X_DL_oftenOf, K3_DL_oftenOf, X_DL_endsFirst, K3_DL_endsFirst, X_DL_runsLeft, K3_DL_runsLeft, X_DL_put, K3_DL_put, X_DL_wipe, K3_DL_wipe, X_DL_fault, K3_DL_fault, X_DL_undo, K3_DL_undo, X_DL_save, K3_DL_save, X_DL_restore, K3_DL_restore, X_DL_isOneOf, K2_DL_isOneOf, X_DL_lengthOf, K2_DL_lengthOf, X_Mo_init, K4_Mo_init, K5_Mo_init, X_Mo_in, K2_Mo_in, X_Mo_ofLampAt, K2_Mo_ofLampAt, X_Mo_ofGroupAt, K2_Mo_ofGroupAt, X_Mo_ofShowAt, K2_Mo_ofShowAt, X_Mo_isShow, K2_Mo_isShow, X_Mo_isLamp, K2_Mo_isLamp, X_Mo_isGroup, K3_Mo_isGroup, X_Mo_isTold, K3_Mo_isTold, X_Mo_know, K3_Mo_know, X_Mo_putAside, K3_Mo_putAside, X_Mo_putBack, K3_Mo_putBack, X_Mo_puts, K3_Mo_puts, X_Mo_behind, K3_Mo_behind, X_Mo_fault, K3_Mo_fault, X_Mo_scene, K3_Mo_scene, X_Mo_tellAll, K3_Mo_tellAll, X_Mo_tell, K3_Mo_tell, X_Mo_litIn, K3_Mo_litIn, X_Mo_waits, K3_Mo_waits, X_Mo_isAhead, K3_Mo_isAhead, X_Mo_first, K3_Mo_first, X_Mo_begins, K3_Mo_begins, X_Mo_isTooLong, K3_Mo_isTooLong, X_Mo_why, K3_Mo_why, X_Mo_groupsOf, K3_Mo_groupsOf, X_Mo_isFoggy, K3_Mo_isFoggy, X_Mo_burns, K3_Mo_burns, X_Mo_runs, K3_Mo_runs, X_Mo_set, K3_Mo_set, X_Mo_group, K3_Mo_group, X_Mo_lamp, K3_Mo_lamp, X_Mo_lens, K3_Mo_lens, X_Mo_run, K3_Mo_run, X_Mo_ofShow, K3_Mo_ofShow, X_Mo_lit, K3_Mo_lit, X_Mo_at, K3_Mo_at, X_Mo_minutesLeft, K3_Mo_minutesLeft, X_Mo_ofLamp, K3_Mo_ofLamp, X_Mo_ofGroup, K3_Mo_ofGroup, X_Mo_waiting, K3_Mo_waiting, X_Mo_toldShows, K3_Mo_toldShows, X_Mo_count, K3_Mo_count, X_Mo_next, K3_Mo_next, X_Mo_oftenOf, K3_Mo_oftenOf, X_Mo_endsFirst, K3_Mo_endsFirst, X_Mo_runsLeft, K3_Mo_runsLeft, X_Mo_put, K3_Mo_put, X_Mo_wipe, K3_Mo_wipe, X_Mo_undo, K3_Mo_undo, X_Mo_save, K3_Mo_save, X_Mo_restore, K3_Mo_restore, X_In_bitCount, K2_In_bitCount, X_Ma_max, K2_Ma_max, X_Ma_min, K2_Ma_min, X_Ar_copyOf, K2_Ar_copyOf, X_Lw_law, unJ_I, unJ_R, unJ_J, unJ_U, bnd_some, List.cons_append, List.nil_append, Int.cast_ofNat_Int, if_pos, if_neg, if_true, if_false, Bool.false_eq_true, eq_self, reduceIte]
  rw [← E, ← L]
  rfl
end MRUN
