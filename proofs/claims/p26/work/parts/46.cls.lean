/-! ===== the class as a whole: where its cells lie, what they hold ===== -/
def DLS (s : SH) (b : HR) : Prop := kd s 5 = 7 ∧ (b 5 0 = 6 ∧ b 5 1 = 20 ∧ b 5 2 = 34 ∧ b 5 3 = 36 ∧ b 5 4 = 41 ∧ b 5 5 = 127 ∧ b 5 6 = 156) ∧ ((kd s 127 = 15 ∧ ln s 127 = 2) ∧ kd s 156 = 13 ∧ ln s 156 = 2) ∧ (b 127 0 = 128 ∧ b 127 1 = 142) ∧ (DomS s b 6 ∧ DomS s b 20 ∧ DomS s b 128 ∧ DomS s b 142) ∧ HisS s b
def RdS (s : SH) (b : HR) : Prop := (kd s 36 = 5 ∧ b 36 0 = 37 ∧ b 36 1 = 38 ∧ b 36 2 = 39 ∧ b 36 3 = 40) ∧ (kd s 37 = 11 ∧ ln s 37 = 999) ∧ (kd s 38 = 10 ∧ kd s 39 = 10 ∧ kd s 40 = 10) ∧ (ln s 38 = 4 ∧ ln s 39 = 4 ∧ ln s 40 = 4) ∧ (kd s 34 = 4 ∧ b 34 0 = 35) ∧ kd s 35 = 12 ∧ ln s 35 = 80
def TbS (a : HI) (s : SH) : Prop := (kd s 3 = 20 ∧ ln s 3 = 6) ∧ (kd s 4 = 20 ∧ ln s 4 = 6) ∧ ∀ k, 0 ≤ k → k < 6 → a 3 k = lstQ k ∧ a 4 k = mstQ k
/-- the rows of references that calls write -/
def shR (r : Nat) : Prop := r = 8 ∨ r = 22 ∨ r = 130 ∨ r = 144 ∨ ∃ k : Nat, k < 6 ∧ r = 45 + 14 * k
theorem DomS.cr {b b' : HR} {s : SH} {d : Nat} (H : DomS s b d) (e : b' d = b d ∧ b' (d + 4) = b (d + 4) ∧ b' (d + 8) = b (d + 8)) : DomS s b' d := H.cb (fun r hr => by
  rcases hr with rfl | rfl | rfl
  · exact e.1
  · exact e.2.1
  · exact e.2.2)
theorem DLS.cb {b b' : HR} {s : SH} (H : DLS s b) (e : ∀ r, r < 157 → ¬ shR r → b' r = b r) : DLS s b' := by
  obtain ⟨h0, h1, h2, h3, ⟨h4, h5, h6, h7⟩, g0, g1, g2, g3, g4, g5⟩ := H
  have n : ∀ r, (r ≠ 8 ∧ r ≠ 22 ∧ r ≠ 130 ∧ r ≠ 144 ∧ ¬ (45 ≤ r ∧ r ≤ 115 ∧ (r - 45) % 14 = 0)) → r < 157 → b' r = b r := fun r hr h => e r h (by
    rintro (w | w | w | w | ⟨k, w1, w2⟩)
    · exact hr.1 w
    · exact hr.2.1 w
    · exact hr.2.2.1 w
    · exact hr.2.2.2.1 w
    · exact hr.2.2.2.2 ⟨by omega, by omega, by omega⟩)
  have e5 := n 5 (by omega) (by omega)
  have e127 := n 127 (by omega) (by omega)
  have e41 := n 41 (by omega) (by omega)
  have e42 := n 42 (by omega) (by omega)
  refine ⟨h0, by rw [e5]; exact h1, h2, by rw [e127]; exact h3, ⟨h4.cr ⟨n _ (by omega) (by omega), n _ (by omega) (by omega), n _ (by omega) (by omega)⟩, h5.cr ⟨n _ (by omega) (by omega), n _ (by omega) (by omega), n _ (by omega) (by omega)⟩, h6.cr ⟨n _ (by omega) (by omega), n _ (by omega) (by omega), n _ (by omega) (by omega)⟩, h7.cr ⟨n _ (by omega) (by omega), n _ (by omega) (by omega), n _ (by omega) (by omega)⟩⟩, g0, by rw [e41]; exact g1, g2, g3, by rw [e42]; exact g4, fun k hk => (g5 k hk).cr ⟨n _ (by omega) (by omega), n _ (by omega) (by omega), n _ (by omega) (by omega)⟩⟩
/-- where the slot lies -/
def slD (j : Int) : Nat := 128 + 14 * j.toNat
/-- all that undo and the slots speak of -/
def CS (N : Int) (a : HI) (b : HR) (s : SH) (σ : RW) (z : Int) (ρ : Int → RW) (sv : Int → Int) (ς : Int → RW) : Prop := (DLS s b) ∧ (DomK N a b s 6 σ) ∧ (a 41 2 = z ∧ 0 ≤ z ∧ z ≤ 6) ∧ (0 ≤ a 41 1 ∧ a 41 1 < 6) ∧ (∀ k, 0 ≤ k → k < z → DomK N a b s (stD (a 41 1) k) (ρ k)) ∧ (∀ j, 0 ≤ j → j < 2 → a 156 j = sv j ∧ (sv j = 0 ∨ sv j = 1) ∧ (sv j = 1 → DomK N a b s (slD j) (ς j)))
theorem CS.lay {N : Int} {a : HI} {b : HR} {s : SH} {σ : RW} {z : Int} {ρ : Int → RW} {sv : Int → Int} {ς : Int → RW} (h : CS N a b s σ z ρ sv ς) : DLS s b := h.1
theorem CS.dom {N : Int} {a : HI} {b : HR} {s : SH} {σ : RW} {z : Int} {ρ : Int → RW} {sv : Int → Int} {ς : Int → RW} (h : CS N a b s σ z ρ sv ς) : DomK N a b s 6 σ := h.2.1
theorem CS.hsz {N : Int} {a : HI} {b : HR} {s : SH} {σ : RW} {z : Int} {ρ : Int → RW} {sv : Int → Int} {ς : Int → RW} (h : CS N a b s σ z ρ sv ς) : a 41 2 = z ∧ 0 ≤ z ∧ z ≤ 6 := h.2.2.1
theorem CS.hol {N : Int} {a : HI} {b : HR} {s : SH} {σ : RW} {z : Int} {ρ : Int → RW} {sv : Int → Int} {ς : Int → RW} (h : CS N a b s σ z ρ sv ς) : 0 ≤ a 41 1 ∧ a 41 1 < 6 := h.2.2.2.1
theorem CS.his {N : Int} {a : HI} {b : HR} {s : SH} {σ : RW} {z : Int} {ρ : Int → RW} {sv : Int → Int} {ς : Int → RW} (h : CS N a b s σ z ρ sv ς) : ∀ k, 0 ≤ k → k < z → DomK N a b s (stD (a 41 1) k) (ρ k) := h.2.2.2.2.1
theorem CS.sav {N : Int} {a : HI} {b : HR} {s : SH} {σ : RW} {z : Int} {ρ : Int → RW} {sv : Int → Int} {ς : Int → RW} (h : CS N a b s σ z ρ sv ς) : ∀ j, 0 ≤ j → j < 2 → a 156 j = sv j ∧ (sv j = 0 ∨ sv j = 1) ∧ (sv j = 1 → DomK N a b s (slD j) (ς j)) := h.2.2.2.2.2
theorem CS.mk {N : Int} {a : HI} {b : HR} {s : SH} {σ : RW} {z : Int} {ρ : Int → RW} {sv : Int → Int} {ς : Int → RW} (lay_ : DLS s b) (dom_ : DomK N a b s 6 σ) (hsz_ : a 41 2 = z ∧ 0 ≤ z ∧ z ≤ 6) (hol_ : 0 ≤ a 41 1 ∧ a 41 1 < 6) (his_ : ∀ k, 0 ≤ k → k < z → DomK N a b s (stD (a 41 1) k) (ρ k)) (sav_ : ∀ j, 0 ≤ j → j < 2 → a 156 j = sv j ∧ (sv j = 0 ∨ sv j = 1) ∧ (sv j = 1 → DomK N a b s (slD j) (ς j))) : CS N a b s σ z ρ sv ς := ⟨lay_, dom_, hsz_, hol_, his_, sav_⟩
section CSX
variable {N : Int} {a : HI} {b : HR} {s : SH} {σ τ : RW} {z : Int} {ρ ρ' : Int → RW} {sv sv' : Int → Int} {ς ς' : Int → RW}
theorem slD_or {j : Int} (h0 : 0 ≤ j) (h1 : j < 2) : slD j = 128 ∨ slD j = 142 := by
  unfold slD
  have : j.toNat = 0 ∨ j.toNat = 1 := by omega
  rcases this with h | h <;> rw [h] <;> omega
theorem CS.mono {N' : Int} (H : CS N a b s σ z ρ sv ς) (h : N ≤ N') (h2 : N' ≤ 2000) : CS N' a b s σ z ρ sv ς := CS.mk H.lay (H.dom.mono h h2) H.hsz H.hol (fun k h0 h1 => (H.his k h0 h1).mono h h2) (fun j h0 h1 => ⟨(H.sav j h0 h1).1, (H.sav j h0 h1).2.1, fun w => ((H.sav j h0 h1).2.2 w).mono h h2⟩)
theorem CS.cg (H : CS N a b s σ z ρ sv ς) (e1 : ∀ j, 0 ≤ j → j < 497 → τ j = σ j) (e2 : ∀ k, 0 ≤ k → k < z → ∀ j, 0 ≤ j → j < 497 → ρ' k j = ρ k j) (e3 : ∀ j, 0 ≤ j → j < 2 → sv' j = sv j) (e4 : ∀ k, 0 ≤ k → k < 2 → sv k = 1 → ∀ j, 0 ≤ j → j < 497 → ς' k j = ς k j) : CS N a b s τ z ρ' sv' ς' := CS.mk H.lay (H.dom.cg e1) H.hsz H.hol (fun k h0 h1 => (H.his k h0 h1).cg (e2 k h0 h1)) (fun j h0 h1 => by
  rw [e3 j h0 h1]
  exact ⟨(H.sav j h0 h1).1, (H.sav j h0 h1).2.1, fun w => ((H.sav j h0 h1).2.2 w).cg (e4 j h0 h1 w)⟩)
/-- what the model writes does not touch the class -/
theorem CS.fr {a' : HI} (H : CS N a b s σ z ρ sv ς) (e : ∀ r, (r < 157 ∨ 157 ≤ r) → a' r = a r) : CS N a' b s σ z ρ sv ς := by
  have K : Keep a a' b b s s := Keep.of (fun r h => e r (Or.inr h)) (fun _ _ => rfl)
  refine CS.mk H.lay (H.dom.tr (fun r h0 h1 => e r (by omega)) rfl K) (by rw [e 41 (by omega)]; exact H.hsz) (by rw [e 41 (by omega)]; exact H.hol) (fun k h0 h1 => ?_) (fun j h0 h1 => ?_)
  · rw [e 41 (by omega)]
    have := stD_in (o := a 41 1) (k := k)
    exact (H.his k h0 h1).tr (fun r g0 g1 => e r (by omega)) rfl K
  · rw [e 156 (by omega)]
    have := slD_or h0 h1
    exact ⟨(H.sav j h0 h1).1, (H.sav j h0 h1).2.1, fun w => ((H.sav j h0 h1).2.2 w).tr (fun r g0 g1 => e r (by omega)) rfl K⟩
end CSX
section COPYK
variable {a : HI} {b : HR} {s : SH} {d e : Nat} {σ : RW} {N : Int}
set_option maxRecDepth 100000
set_option maxHeartbeats 4000000
theorem d_copyX {T : Int} (hd : d + 14 ≤ 157) (hdj : e + 14 ≤ d ∨ d + 14 ≤ e) (hS : DomS s b d) (hE : DomS s b e) (hR : RelD a b s e σ) (hb : Bnd N T σ) : Mn 1 [vR d, vR e] a b s = some ([], cpMem a d e σ, uqR b (d + 2) (cpRow b d e), s) := by
  obtain ⟨c0, ⟨d0, d1, d2, d3, d4⟩, ⟨c1, c1', c1''⟩, ⟨c2, c2', c2''⟩, hL, hG⟩ := id hS
  obtain ⟨f0, ⟨g0, g1, g2, g3, g4⟩, ⟨f1, f1', f1''⟩, ⟨f2, f2', f2''⟩, hM, hH⟩ := id hE
  have hq : ∀ h, 0 ≤ h → h < 4 → b (e + 2) h = 0 ∨ kd s (b (e + 2) h) = 6 := by
    intro h x0 x1
    rcases sho_of hR x0 x1 with ⟨w, -⟩ | ⟨-, w, -⟩
    · exact Or.inl w
    · exact Or.inr w.1
  have w1 : e + 2 ≠ d + 2 := by omega
  have w2 : e ≠ d + 2 := by omega
  have eS := l_copyShows (a := upR a (d + 1) (rwN (a (d + 1)) (a (e + 1)) 6)) (s := s) c0 d1 c1' c2' f0 g1 f1' f2' w1 (by omega) w2 hq
  have eR := fun u => l_copyRest hdj hS hE hR hb (cpRow b d e) u
  clear hq
  rw [U_Do_copyFrom]
  simp (disch := first | exact Nat.le_of_ble_eq_true rfl | omega) only [B_Do_copyFrom_0, d0, g0, cpI_up, eS, eR, r_iconst, r_bipush, r_sipush, r_lconst, r_ldc, r_ldc_w, r_ldc2, r_iloadn_0, r_iload_0, r_istoren_0, r_istore_0, r_aloadn_0, r_aload_0, r_astoren_0, r_astore_0, r_lloadn_0, r_lload_0, r_lstoren_0, r_lstore_0, r_iinc_0, r_iloadn_1, r_iload_1, r_istoren_1, r_istore_1, r_aloadn_1, r_aload_1, r_astoren_1, r_astore_1, r_lloadn_1, r_lload_1, r_lstoren_1, r_lstore_1, r_iinc_1, r_iloadn_2, r_iload_2, r_istoren_2, r_istore_2, r_aloadn_2, r_aload_2, r_astoren_2, r_astore_2, r_lloadn_2, r_lload_2, r_lstoren_2, r_lstore_2, r_iinc_2, r_iloadn_3, r_iload_3, r_istoren_3, r_istore_3, r_aloadn_3, r_aload_3, r_astoren_3, r_astore_3, r_lloadn_3, r_lload_3, r_lstoren_3, r_lstore_3, r_iinc_3, r_iload_4, r_istore_4, r_aload_4, r_astore_4, r_lload_4, r_lstore_4, r_iinc_4, r_iload_5, r_istore_5, r_aload_5, r_astore_5, r_lload_5, r_lstore_5, r_iinc_5, r_iload_6, r_istore_6, r_aload_6, r_astore_6, r_lload_6, r_lstore_6, r_iinc_6, r_iload_7, r_istore_7, r_aload_7, r_astore_7, r_lload_7, r_lstore_7, r_iinc_7, r_iload_8, r_istore_8, r_aload_8, r_astore_8, r_lload_8, r_lstore_8, r_iinc_8, r_iload_9, r_istore_9, r_aload_9, r_astore_9, r_lload_9, r_lstore_9, r_iinc_9, r_iload_10, r_istore_10, r_aload_10, r_astore_10, r_lload_10, r_lstore_10, r_iinc_10, r_iload_11, r_istore_11, r_aload_11, r_astore_11, r_lload_11, r_lstore_11, r_iinc_11, r_iadd, r_isub, r_imul, r_idiv, r_irem, r_iand, r_ior, r_ixor, r_ishl, r_ishr, r_iushr, r_land, r_lor, r_lushr, r_lshl, r_lcmp, r_i2l, r_l2i, r_i2b, r_i2c, r_dup_vI, r_pop_vI, r_dup_vR, r_pop_vR, r_dup2, r_goto, r_icmp_eq, r_if_eq, r_icmp_ne, r_if_ne, r_icmp_lt, r_if_lt, r_icmp_ge, r_if_ge, r_icmp_gt, r_if_gt, r_icmp_le, r_if_le, r_ifnull, r_ifnonnull, r_tableswitch, r_iaload, r_baload, r_caload, r_aaload, r_iastore, r_bastore, r_castore, r_aastore, r_arraylength, r_getI, r_getR, r_putI, r_putR, r_getstatic, r_new, r_new_int, r_new_byte, r_new_char, r_new_boolean, r_anewarray, r_checkcast, r_objinit, r_arraycopy, r_cloneI, r_cloneB, r_nil, X_Do_init, K4_Do_init, K5_Do_init, X_Do_copyFrom, K3_Do_copyFrom, X_Do_toldShows, K3_Do_toldShows, X_Do_reason, K3_Do_reason, X_Do_ofNextRun, K3_Do_ofNextRun, X_Do_nextEnd, K3_Do_nextEnd, X_Do_runNext, K3_Do_runNext, X_Do_firstGroup, K3_Do_firstGroup, X_Do_beginWith, K3_Do_beginWith, X_Do_groupsWith, K3_Do_groupsWith, X_Gr_init, K4_Gr_init, K5_Gr_init, X_Gr_copyFrom, K3_Gr_copyFrom, X_Gr_add, K3_Gr_add, X_Gr_waiting, K3_Gr_waiting, X_Gr_earliest, K3_Gr_earliest, X_Gr_seated, K3_Gr_seated, X_Gr_personsIn, K3_Gr_personsIn, X_Gr_newPersonsIn, K3_Gr_newPersonsIn, X_Gr_countRun, K3_Gr_countRun, X_Gr_goHome, K3_Gr_goHome, X_Gr_waitFrom, K3_Gr_waitFrom, X_Gr_waitingFor, K3_Gr_waitingFor, X_Gr_holds, K2_Gr_holds, X_Hi_init, K4_Hi_init, K5_Hi_init, X_Hi_record, K3_Hi_record, X_Hi_takeBack, K3_Hi_takeBack, X_La_init, K4_La_init, K5_La_init, X_La_copyFrom, K3_La_copyFrom, X_La_minutesLeft, K3_La_minutesLeft, X_La_firstToEnd, K3_La_firstToEnd, X_La_runsUntilEnd, K3_La_runsUntilEnd, X_La_isFoggy, K3_La_isFoggy, X_La_burn, K3_La_burn, X_Pa_init, K4_Pa_init, K5_Pa_init, X_Pa_append, K3_Pa_append, X_Re_init, K4_Re_init, K5_Re_init, X_Re_read, K3_Re_read, X_Re_laidOut, K3_Re_laidOut, X_Re_clear, K3_Re_clear, X_Re_isBehindPart, K3_Re_isBehindPart, X_Re_takes, K3_Re_takes, X_Re_takesLamp, K3_Re_takesLamp, X_Re_takesRepeat, K3_Re_takesRepeat, X_Re_takesStar, K3_Re_takesStar, X_Re_takesOpening, K3_Re_takesOpening, X_Re_takesFirstDigit, K3_Re_takesFirstDigit, X_Re_takesSecondDigit, K3_Re_takesSecondDigit, X_Re_takesEndOfPart, K3_Re_takesEndOfPart, X_Re_endScene, K3_Re_endScene, X_Re_endRepeat, K3_Re_endRepeat, X_Sh_init, K4_Sh_init, K5_Sh_init, X_Sh_lights, K3_Sh_lights, X_DL_init, K4_DL_init, K5_DL_init, X_DL_set, K3_DL_set, X_DL_tell, K3_DL_tell, X_DL_group, K3_DL_group, X_DL_lamp, K3_DL_lamp, X_DL_lens, K3_DL_lens, X_DL_run, K3_DL_run, X_DL_ofShow, K3_DL_ofShow, X_DL_lit, K3_DL_lit, X_DL_at, K3_DL_at, X_DL_ofLamp, K3_DL_ofLamp, X_DL_ofGroup, K3_DL_ofGroup, X_DL_count, K3_DL_count, X_DL_why, K3_DL_why, X_DL_next, K3_DL_next, X_DL_oftenOf, K3_DL_oftenOf, X_DL_endsFirst, K3_DL_endsFirst, X_DL_runsLeft, K3_DL_runsLeft, X_DL_put, K3_DL_put, X_DL_wipe, K3_DL_wipe, X_DL_undo, K3_DL_undo, X_DL_isOneOf, K2_DL_isOneOf, X_DL_lengthOf, K2_DL_lengthOf, X_Ma_max, K2_Ma_max, X_Ma_min, K2_Ma_min, X_Ar_copyOf, K2_Ar_copyOf, X_Lw_cell, K2_Lw_cell, X_Lw_low, K2_Lw_low, X_Lw_number, K2_Lw_number, X_Lw_scene, K2_Lw_scene, X_Lw_tell, K2_Lw_tell, X_Lw_does, K2_Lw_does, X_Lw_areShowsSo, K2_Lw_areShowsSo, X_Lw_areLampsSo, K2_Lw_areLampsSo, X_Lw_isRunSo, K2_Lw_isRunSo, X_Lw_law, unJ_I, unJ_R, unJ_J, unJ_U, bnd_some, List.cons_append, List.nil_append, Int.cast_ofNat_Int, if_pos, if_neg]
theorem cpRow_at {k : Int} (h0 : 0 ≤ k) (h1 : k < 4) : cpRow b d e k = b (e + 2) k := by
  unfold cpRow
  obtain w | w | w | w : k = 0 ∨ k = 1 ∨ k = 2 ∨ k = 3 := by omega
  · subst w; rw [up1_ne (by omega), up1_ne (by omega), up1_ne (by omega), up1_at]
  · subst w; rw [up1_ne (by omega), up1_ne (by omega), show (0 : Int) + 1 = 1 by omega, up1_at]
  · subst w; rw [up1_ne (by omega), show (0 : Int) + 1 + 1 = 2 by omega, up1_at]
  · subst w; rw [show (0 : Int) + 1 + 1 + 1 = 3 by omega, up1_at]
theorem d_copyK (hd : d + 14 ≤ 157) (hdj : e + 14 ≤ d ∨ d + 14 ≤ e) (hS : DomS s b d) (hE : DomS s b e) (hD : DomK N a b s e σ) : ∃ a' b', Mn 1 [vR d, vR e] a b s = some ([], a', b', s) ∧ DomK N a' b' s d σ ∧ FrA d a a' ∧ FrB d b b' := by
  obtain ⟨hR, hT, hb⟩ := hD
  obtain ⟨a', b', h1, h2, h3, h4⟩ := d_copyFrom hd hdj hS hE hR hb
  have h5 := d_copyX hd hdj hS hE hR hb
  have h6 := Option.some.inj (h1.symm.trans h5)
  have h7 : b' = uqR b (d + 2) (cpRow b d e) := congrArg (fun w => w.2.2.1) h6
  refine ⟨a', b', h1, ⟨h2, fun h x0 x1 hq => ?_, hb⟩, h3, h4⟩
  have h8 : b' (d + 2) h = b (e + 2) h := by rw [h7, uqR_at, cpRow_at x0 x1]
  rw [h8] at hq ⊢
  have H := hT h x0 x1 hq
  rcases hR.sh h x0 x1 with ⟨w, -⟩ | ⟨w1, -⟩
  · exact absurd w hq
  · exact H.cg (fun _ _ _ _ => rfl) (h3 _ (by omega)) rfl
end COPYK
section RECK
variable {a : HI} {b : HR} {s : SH} {σ : RW} {N z : Int} {ρ : Int → RW} {sv : Int → Int} {ς : Int → RW}
set_option maxRecDepth 100000
def recZ (z : Int) : Int := if z = 6 then 6 else z + 1
def recR (z : Int) (ρ : Int → RW) (σ : RW) : Int → RW := fun k => if z = 6 then (if k < 5 then ρ (k + 1) else σ) else (if k < z then ρ k else σ)
theorem stD_ne {o k j : Int} (h0 : 0 ≤ k) (h1 : k < 6) (g0 : 0 ≤ j) (g1 : j < 6) (hne : k ≠ j) (ho : 0 ≤ o ∧ o < 6) : stD o k + 14 ≤ stD o j ∨ stD o j + 14 ≤ stD o k := by
  unfold stD
  have : ((o + k) % 6).toNat ≠ ((o + j) % 6).toNat := by omega
  omega
theorem stD_6 {o : Int} (ho : 0 ≤ o ∧ o < 6) : stD o 6 = stD o 0 := by
  unfold stD
  rw [show (o + 6) % 6 = (o + 0) % 6 by omega]
theorem stD_s {o k : Int} (ho : 0 ≤ o ∧ o < 6) : stD ((o + 1) % 6) k = stD o (k + 1) := by
  unfold stD
  rw [show ((o + 1) % 6 + k) % 6 = (o + (k + 1)) % 6 by omega]
theorem stD_shR {o k : Int} : shR (stD o k + 2) := by
  unfold stD
  exact Or.inr (Or.inr (Or.inr (Or.inr ⟨((o + k) % 6).toNat, by omega, by omega⟩)))
/-- a record: the class's state but for the dome that follows -/
theorem recK (H : CS N a b s σ z ρ sv ς) : ∃ a' b', Mn 24 [vR 41, vR 6] a b s = some ([], a', b', s) ∧ CS N a' b' s σ (recZ z) (recR z ρ σ) sv ς ∧ (∀ r, (r < 41 ∨ 127 ≤ r) → a' r = a r) ∧ ∀ r, (r < 41 ∨ 127 ≤ r) → b' r = b r := by
  obtain ⟨hz, z0, z1⟩ := H.hsz
  obtain ⟨o0, o1⟩ := H.hol
  obtain ⟨y0, y1, y2, y3, ⟨y4, y5, y6, y7⟩, hH⟩ := id H.lay
  obtain ⟨x0, x1, x2, x3, x4, x5⟩ := id hH
  generalize ho : a 41 1 = o at *
  have e1 : (o + z).tmod 6 = (o + z) % 6 := Int.tmod_eq_emod_of_nonneg (by omega)
  have r1 : 0 ≤ (o + z) % 6 ∧ (o + z) % 6 < 6 := by omega
  have e2 : b 42 ((o + z) % 6) = stD o z := x4 ((o + z) % 6) r1.1 r1.2
  have k2 := stD_in (o := o) (k := z)
  have hD : DomS s b (stD o z) := x5 _ (by omega)
  obtain ⟨a', b', e3, e4, e5, e6⟩ := d_copyK (d := stD o z) (by omega) (by omega) hD y4 H.dom
  have e7 : a' 41 = a 41 := e5 41 (by omega)
  have k0 := hD.1
  have j0 := y4.1
  have hlay : DLS s b' := H.lay.cb (fun r _ hn => e6 r (fun w => hn (by rw [w]; exact stD_shR)))
  have K : ∀ f, Keep a (upR a' 41 f) b b' s s := fun f => Keep.of (fun r hr => by rw [upR_ne (by omega)]; exact e5 r (by omega)) (fun r hr => e6 r (by omega))
  have hdom : ∀ f, DomK N (upR a' 41 f) b' s 6 σ := fun f => H.dom.tr (fun r g0 g1 => by rw [upR_ne (by omega)]; exact e5 r (by omega)) (e6 8 (by omega)) (K f)
  have hnew : ∀ f, DomK N (upR a' 41 f) b' s (stD o z) σ := fun f => e4.tr (fun r g0 g1 => upR_ne (by omega)) rfl (Keep.of (fun r hr => upR_ne (by omega)) (fun _ _ => rfl))
  have hold : ∀ f k, 0 ≤ k → k < z → (z = 6 → 0 < k) → DomK N (upR a' 41 f) b' s (stD o k) (ρ k) := fun f k h0 h1 h2 => by
    have h3 := stD_in (o := o) (k := k)
    have h4 : stD o k + 14 ≤ stD o z ∨ stD o z + 14 ≤ stD o k := by
      by_cases c : z = 6
      · rw [c, stD_6 ⟨o0, o1⟩]
        exact stD_ne h0 (by omega) (by omega) (by omega) (by have := h2 c; omega) ⟨o0, o1⟩
      · exact stD_ne h0 (by omega) (by omega) (by omega) (by omega) ⟨o0, o1⟩
    have hk := H.his k h0 h1
    rw [ho] at hk
    exact hk.tr (fun r g0 g1 => by rw [upR_ne (by omega)]; exact e5 r (by omega)) (e6 _ (by omega)) (K f)
  have hsav : ∀ f j, 0 ≤ j → j < 2 → (upR a' 41 f) 156 j = sv j ∧ (sv j = 0 ∨ sv j = 1) ∧ (sv j = 1 → DomK N (upR a' 41 f) b' s (slD j) (ς j)) := fun f j h0 h1 => by
    obtain ⟨q1, q2, q3⟩ := H.sav j h0 h1
    have h4 := slD_or h0 h1
    refine ⟨by rw [upR_ne (by omega), e5 156 (by omega)]; exact q1, q2, fun w => (q3 w).tr (fun r g0 g1 => by rw [upR_ne (by omega)]; exact e5 r (by omega)) (e6 _ (by omega)) (K f)⟩
  have e9 : (o + 1).tmod 6 = (o + 1) % 6 := Int.tmod_eq_emod_of_nonneg (by omega)
  have r2 : 0 ≤ (o + 1) % 6 ∧ (o + 1) % 6 < 6 := by omega
  have efr : ∀ f r, (r < 41 ∨ 127 ≤ r) → upR a' 41 f r = a r := fun f r hr => by rw [upR_ne (by omega)]; exact e5 r (by omega)
  have efb : ∀ r, (r < 41 ∨ 127 ≤ r) → b' r = b r := fun r hr => e6 r (by omega)
  by_cases c : z = 6
  · refine ⟨upR a' 41 (up1 (a 41) 1 ((o + 1) % 6)), b', ?_, CS.mk hlay (hdom _) ?_ ?_ (fun k h0 h1 => ?_) (hsav _), efr _, efb⟩
    · clear H hH hD e4 e5 e6 x4 x5 hlay K hdom hnew hold hsav y5 y6 y7 efr efb
      generalize stD o z = D at *
      rw [U_Hi_record]
      simp (disch := first | exact Nat.le_of_ble_eq_true rfl | omega) only [B_Hi_record_0, B_Hi_record_43, B_Hi_record_56, x1, ho, hz, e1, e2, e3, e7, e9, wI_up, r_iconst, r_bipush, r_sipush, r_lconst, r_ldc, r_ldc_w, r_ldc2, r_iloadn_0, r_iload_0, r_istoren_0, r_istore_0, r_aloadn_0, r_aload_0, r_astoren_0, r_astore_0, r_lloadn_0, r_lload_0, r_lstoren_0, r_lstore_0, r_iinc_0, r_iloadn_1, r_iload_1, r_istoren_1, r_istore_1, r_aloadn_1, r_aload_1, r_astoren_1, r_astore_1, r_lloadn_1, r_lload_1, r_lstoren_1, r_lstore_1, r_iinc_1, r_iloadn_2, r_iload_2, r_istoren_2, r_istore_2, r_aloadn_2, r_aload_2, r_astoren_2, r_astore_2, r_lloadn_2, r_lload_2, r_lstoren_2, r_lstore_2, r_iinc_2, r_iloadn_3, r_iload_3, r_istoren_3, r_istore_3, r_aloadn_3, r_aload_3, r_astoren_3, r_astore_3, r_lloadn_3, r_lload_3, r_lstoren_3, r_lstore_3, r_iinc_3, r_iload_4, r_istore_4, r_aload_4, r_astore_4, r_lload_4, r_lstore_4, r_iinc_4, r_iload_5, r_istore_5, r_aload_5, r_astore_5, r_lload_5, r_lstore_5, r_iinc_5, r_iload_6, r_istore_6, r_aload_6, r_astore_6, r_lload_6, r_lstore_6, r_iinc_6, r_iload_7, r_istore_7, r_aload_7, r_astore_7, r_lload_7, r_lstore_7, r_iinc_7, r_iload_8, r_istore_8, r_aload_8, r_astore_8, r_lload_8, r_lstore_8, r_iinc_8, r_iload_9, r_istore_9, r_aload_9, r_astore_9, r_lload_9, r_lstore_9, r_iinc_9, r_iload_10, r_istore_10, r_aload_10, r_astore_10, r_lload_10, r_lstore_10, r_iinc_10, r_iload_11, r_istore_11, r_aload_11, r_astore_11, r_lload_11, r_lstore_11, r_iinc_11, r_iadd, r_isub, r_imul, r_idiv, r_irem, r_iand, r_ior, r_ixor, r_ishl, r_ishr, r_iushr, r_land, r_lor, r_lushr, r_lshl, r_lcmp, r_i2l, r_l2i, r_i2b, r_i2c, r_dup_vI, r_pop_vI, r_dup_vR, r_pop_vR, r_dup2, r_goto, r_icmp_eq, r_if_eq, r_icmp_ne, r_if_ne, r_icmp_lt, r_if_lt, r_icmp_ge, r_if_ge, r_icmp_gt, r_if_gt, r_icmp_le, r_if_le, r_ifnull, r_ifnonnull, r_tableswitch, r_iaload, r_baload, r_caload, r_aaload, r_iastore, r_bastore, r_castore, r_aastore, r_arraylength, r_getI, r_getR, r_putI, r_putR, r_getstatic, r_new, r_new_int, r_new_byte, r_new_char, r_new_boolean, r_anewarray, r_checkcast, r_objinit, r_arraycopy, r_cloneI, r_cloneB, r_nil, X_Do_init, K4_Do_init, K5_Do_init, X_Do_copyFrom, K3_Do_copyFrom, X_Do_toldShows, K3_Do_toldShows, X_Do_reason, K3_Do_reason, X_Do_ofNextRun, K3_Do_ofNextRun, X_Do_nextEnd, K3_Do_nextEnd, X_Do_runNext, K3_Do_runNext, X_Do_firstGroup, K3_Do_firstGroup, X_Do_beginWith, K3_Do_beginWith, X_Do_groupsWith, K3_Do_groupsWith, X_Gr_init, K4_Gr_init, K5_Gr_init, X_Gr_copyFrom, K3_Gr_copyFrom, X_Gr_add, K3_Gr_add, X_Gr_waiting, K3_Gr_waiting, X_Gr_earliest, K3_Gr_earliest, X_Gr_seated, K3_Gr_seated, X_Gr_personsIn, K3_Gr_personsIn, X_Gr_newPersonsIn, K3_Gr_newPersonsIn, X_Gr_countRun, K3_Gr_countRun, X_Gr_goHome, K3_Gr_goHome, X_Gr_waitFrom, K3_Gr_waitFrom, X_Gr_waitingFor, K3_Gr_waitingFor, X_Gr_holds, K2_Gr_holds, X_Hi_init, K4_Hi_init, K5_Hi_init, X_Hi_record, K3_Hi_record, X_Hi_takeBack, K3_Hi_takeBack, X_La_init, K4_La_init, K5_La_init, X_La_copyFrom, K3_La_copyFrom, X_La_minutesLeft, K3_La_minutesLeft, X_La_firstToEnd, K3_La_firstToEnd, X_La_runsUntilEnd, K3_La_runsUntilEnd, X_La_isFoggy, K3_La_isFoggy, X_La_burn, K3_La_burn, X_Pa_init, K4_Pa_init, K5_Pa_init, X_Pa_append, K3_Pa_append, X_Re_init, K4_Re_init, K5_Re_init, X_Re_read, K3_Re_read, X_Re_laidOut, K3_Re_laidOut, X_Re_clear, K3_Re_clear, X_Re_isBehindPart, K3_Re_isBehindPart, X_Re_takes, K3_Re_takes, X_Re_takesLamp, K3_Re_takesLamp, X_Re_takesRepeat, K3_Re_takesRepeat, X_Re_takesStar, K3_Re_takesStar, X_Re_takesOpening, K3_Re_takesOpening, X_Re_takesFirstDigit, K3_Re_takesFirstDigit, X_Re_takesSecondDigit, K3_Re_takesSecondDigit, X_Re_takesEndOfPart, K3_Re_takesEndOfPart, X_Re_endScene, K3_Re_endScene, X_Re_endRepeat, K3_Re_endRepeat, X_Sh_init, K4_Sh_init, K5_Sh_init, X_Sh_lights, K3_Sh_lights, X_DL_init, K4_DL_init, K5_DL_init, X_DL_set, K3_DL_set, X_DL_tell, K3_DL_tell, X_DL_group, K3_DL_group, X_DL_lamp, K3_DL_lamp, X_DL_lens, K3_DL_lens, X_DL_run, K3_DL_run, X_DL_ofShow, K3_DL_ofShow, X_DL_lit, K3_DL_lit, X_DL_at, K3_DL_at, X_DL_ofLamp, K3_DL_ofLamp, X_DL_ofGroup, K3_DL_ofGroup, X_DL_count, K3_DL_count, X_DL_why, K3_DL_why, X_DL_next, K3_DL_next, X_DL_oftenOf, K3_DL_oftenOf, X_DL_endsFirst, K3_DL_endsFirst, X_DL_runsLeft, K3_DL_runsLeft, X_DL_put, K3_DL_put, X_DL_wipe, K3_DL_wipe, X_DL_undo, K3_DL_undo, X_DL_isOneOf, K2_DL_isOneOf, X_DL_lengthOf, K2_DL_lengthOf, X_Ma_max, K2_Ma_max, X_Ma_min, K2_Ma_min, X_Ar_copyOf, K2_Ar_copyOf, X_Lw_cell, K2_Lw_cell, X_Lw_low, K2_Lw_low, X_Lw_number, K2_Lw_number, X_Lw_scene, K2_Lw_scene, X_Lw_tell, K2_Lw_tell, X_Lw_does, K2_Lw_does, X_Lw_areShowsSo, K2_Lw_areShowsSo, X_Lw_areLampsSo, K2_Lw_areLampsSo, X_Lw_isRunSo, K2_Lw_isRunSo, X_Lw_law, unJ_I, unJ_R, unJ_J, unJ_U, bnd_some, List.cons_append, List.nil_append, Int.cast_ofNat_Int, if_pos, if_neg, if_true, if_false, Bool.false_eq_true, eq_self, reduceIte]
    · unfold recZ; rw [if_pos c, upR_at, up1_ne (by omega)]; omega
    · rw [upR_at, up1_at]; omega
    · unfold recZ at h1
      rw [if_pos c] at h1
      rw [upR_at, up1_at, stD_s ⟨o0, o1⟩]
      unfold recR
      rw [if_pos c]
      by_cases c2 : k < 5
      · rw [if_pos c2]
        exact hold _ (k + 1) (by omega) (by omega) (fun _ => by omega)
      · rw [if_neg c2, show k + 1 = z by omega]
        exact hnew _
  · refine ⟨upR a' 41 (up1 (a 41) 2 (z + 1)), b', ?_, CS.mk hlay (hdom _) ?_ ?_ (fun k h0 h1 => ?_) (hsav _), efr _, efb⟩
    · clear H hH hD e4 e5 e6 x4 x5 hlay K hdom hnew hold hsav y5 y6 y7 efr efb
      generalize stD o z = D at *
      rw [U_Hi_record]
      simp (disch := first | exact Nat.le_of_ble_eq_true rfl | omega) only [B_Hi_record_0, B_Hi_record_43, B_Hi_record_56, x1, ho, hz, e1, e2, e3, e7, e9, wI_up, r_iconst, r_bipush, r_sipush, r_lconst, r_ldc, r_ldc_w, r_ldc2, r_iloadn_0, r_iload_0, r_istoren_0, r_istore_0, r_aloadn_0, r_aload_0, r_astoren_0, r_astore_0, r_lloadn_0, r_lload_0, r_lstoren_0, r_lstore_0, r_iinc_0, r_iloadn_1, r_iload_1, r_istoren_1, r_istore_1, r_aloadn_1, r_aload_1, r_astoren_1, r_astore_1, r_lloadn_1, r_lload_1, r_lstoren_1, r_lstore_1, r_iinc_1, r_iloadn_2, r_iload_2, r_istoren_2, r_istore_2, r_aloadn_2, r_aload_2, r_astoren_2, r_astore_2, r_lloadn_2, r_lload_2, r_lstoren_2, r_lstore_2, r_iinc_2, r_iloadn_3, r_iload_3, r_istoren_3, r_istore_3, r_aloadn_3, r_aload_3, r_astoren_3, r_astore_3, r_lloadn_3, r_lload_3, r_lstoren_3, r_lstore_3, r_iinc_3, r_iload_4, r_istore_4, r_aload_4, r_astore_4, r_lload_4, r_lstore_4, r_iinc_4, r_iload_5, r_istore_5, r_aload_5, r_astore_5, r_lload_5, r_lstore_5, r_iinc_5, r_iload_6, r_istore_6, r_aload_6, r_astore_6, r_lload_6, r_lstore_6, r_iinc_6, r_iload_7, r_istore_7, r_aload_7, r_astore_7, r_lload_7, r_lstore_7, r_iinc_7, r_iload_8, r_istore_8, r_aload_8, r_astore_8, r_lload_8, r_lstore_8, r_iinc_8, r_iload_9, r_istore_9, r_aload_9, r_astore_9, r_lload_9, r_lstore_9, r_iinc_9, r_iload_10, r_istore_10, r_aload_10, r_astore_10, r_lload_10, r_lstore_10, r_iinc_10, r_iload_11, r_istore_11, r_aload_11, r_astore_11, r_lload_11, r_lstore_11, r_iinc_11, r_iadd, r_isub, r_imul, r_idiv, r_irem, r_iand, r_ior, r_ixor, r_ishl, r_ishr, r_iushr, r_land, r_lor, r_lushr, r_lshl, r_lcmp, r_i2l, r_l2i, r_i2b, r_i2c, r_dup_vI, r_pop_vI, r_dup_vR, r_pop_vR, r_dup2, r_goto, r_icmp_eq, r_if_eq, r_icmp_ne, r_if_ne, r_icmp_lt, r_if_lt, r_icmp_ge, r_if_ge, r_icmp_gt, r_if_gt, r_icmp_le, r_if_le, r_ifnull, r_ifnonnull, r_tableswitch, r_iaload, r_baload, r_caload, r_aaload, r_iastore, r_bastore, r_castore, r_aastore, r_arraylength, r_getI, r_getR, r_putI, r_putR, r_getstatic, r_new, r_new_int, r_new_byte, r_new_char, r_new_boolean, r_anewarray, r_checkcast, r_objinit, r_arraycopy, r_cloneI, r_cloneB, r_nil, X_Do_init, K4_Do_init, K5_Do_init, X_Do_copyFrom, K3_Do_copyFrom, X_Do_toldShows, K3_Do_toldShows, X_Do_reason, K3_Do_reason, X_Do_ofNextRun, K3_Do_ofNextRun, X_Do_nextEnd, K3_Do_nextEnd, X_Do_runNext, K3_Do_runNext, X_Do_firstGroup, K3_Do_firstGroup, X_Do_beginWith, K3_Do_beginWith, X_Do_groupsWith, K3_Do_groupsWith, X_Gr_init, K4_Gr_init, K5_Gr_init, X_Gr_copyFrom, K3_Gr_copyFrom, X_Gr_add, K3_Gr_add, X_Gr_waiting, K3_Gr_waiting, X_Gr_earliest, K3_Gr_earliest, X_Gr_seated, K3_Gr_seated, X_Gr_personsIn, K3_Gr_personsIn, X_Gr_newPersonsIn, K3_Gr_newPersonsIn, X_Gr_countRun, K3_Gr_countRun, X_Gr_goHome, K3_Gr_goHome, X_Gr_waitFrom, K3_Gr_waitFrom, X_Gr_waitingFor, K3_Gr_waitingFor, X_Gr_holds, K2_Gr_holds, X_Hi_init, K4_Hi_init, K5_Hi_init, X_Hi_record, K3_Hi_record, X_Hi_takeBack, K3_Hi_takeBack, X_La_init, K4_La_init, K5_La_init, X_La_copyFrom, K3_La_copyFrom, X_La_minutesLeft, K3_La_minutesLeft, X_La_firstToEnd, K3_La_firstToEnd, X_La_runsUntilEnd, K3_La_runsUntilEnd, X_La_isFoggy, K3_La_isFoggy, X_La_burn, K3_La_burn, X_Pa_init, K4_Pa_init, K5_Pa_init, X_Pa_append, K3_Pa_append, X_Re_init, K4_Re_init, K5_Re_init, X_Re_read, K3_Re_read, X_Re_laidOut, K3_Re_laidOut, X_Re_clear, K3_Re_clear, X_Re_isBehindPart, K3_Re_isBehindPart, X_Re_takes, K3_Re_takes, X_Re_takesLamp, K3_Re_takesLamp, X_Re_takesRepeat, K3_Re_takesRepeat, X_Re_takesStar, K3_Re_takesStar, X_Re_takesOpening, K3_Re_takesOpening, X_Re_takesFirstDigit, K3_Re_takesFirstDigit, X_Re_takesSecondDigit, K3_Re_takesSecondDigit, X_Re_takesEndOfPart, K3_Re_takesEndOfPart, X_Re_endScene, K3_Re_endScene, X_Re_endRepeat, K3_Re_endRepeat, X_Sh_init, K4_Sh_init, K5_Sh_init, X_Sh_lights, K3_Sh_lights, X_DL_init, K4_DL_init, K5_DL_init, X_DL_set, K3_DL_set, X_DL_tell, K3_DL_tell, X_DL_group, K3_DL_group, X_DL_lamp, K3_DL_lamp, X_DL_lens, K3_DL_lens, X_DL_run, K3_DL_run, X_DL_ofShow, K3_DL_ofShow, X_DL_lit, K3_DL_lit, X_DL_at, K3_DL_at, X_DL_ofLamp, K3_DL_ofLamp, X_DL_ofGroup, K3_DL_ofGroup, X_DL_count, K3_DL_count, X_DL_why, K3_DL_why, X_DL_next, K3_DL_next, X_DL_oftenOf, K3_DL_oftenOf, X_DL_endsFirst, K3_DL_endsFirst, X_DL_runsLeft, K3_DL_runsLeft, X_DL_put, K3_DL_put, X_DL_wipe, K3_DL_wipe, X_DL_undo, K3_DL_undo, X_DL_isOneOf, K2_DL_isOneOf, X_DL_lengthOf, K2_DL_lengthOf, X_Ma_max, K2_Ma_max, X_Ma_min, K2_Ma_min, X_Ar_copyOf, K2_Ar_copyOf, X_Lw_cell, K2_Lw_cell, X_Lw_low, K2_Lw_low, X_Lw_number, K2_Lw_number, X_Lw_scene, K2_Lw_scene, X_Lw_tell, K2_Lw_tell, X_Lw_does, K2_Lw_does, X_Lw_areShowsSo, K2_Lw_areShowsSo, X_Lw_areLampsSo, K2_Lw_areLampsSo, X_Lw_isRunSo, K2_Lw_isRunSo, X_Lw_law, unJ_I, unJ_R, unJ_J, unJ_U, bnd_some, List.cons_append, List.nil_append, Int.cast_ofNat_Int, if_pos, if_neg, if_true, if_false, Bool.false_eq_true, eq_self, reduceIte]
    · unfold recZ; rw [if_neg c, upR_at, up1_at]; omega
    · rw [upR_at, up1_ne (by omega), ho]; omega
    · unfold recZ at h1
      rw [if_neg c] at h1
      rw [upR_at, up1_ne (by omega), ho]
      unfold recR
      rw [if_neg c]
      by_cases c2 : k < z
      · rw [if_pos c2]
        exact hold _ k h0 c2 (fun w => absurd w c)
      · rw [if_neg c2, show k = z by omega]
        exact hnew _
end RECK
