/-! ===== the model: a minute of a text ===== -/
section LITB
variable {a : HI} {b : HR} {s : SH} {x : Nat → Int} {len : Nat} {h m tx : Int}
set_option maxRecDepth 100000
theorem li_app {d i k j : Nat} {c1 c2 : List Int} {r : Nat} {F L : RW} {u1 u2 u3 : Vl} (h1 : LiE a b s h m tx d i k c1 r F L u1 u2 u3) (h2 : ∀ (F L : RW) (u1 u2 u3 : Vl), LiE a b s h m tx d k j c2 (r - c1.length) F L u1 u2 u3) : LiE a b s h m tx d i j (c1 ++ c2) r F L u1 u2 u3 := by
  obtain ⟨y1, y2⟩ := h1
  refine ⟨fun hr => ?_, fun hr => ?_⟩
  · by_cases q : r < c1.length
    · obtain ⟨F', L', e⟩ := y1 q
      exact ⟨F', L', by rw [e, gd_l q]⟩
    · obtain ⟨F1, L1, v1, v2, v3, e1, e2⟩ := y2 (by omega)
      rw [List.length_append] at hr
      obtain ⟨F', L', f1⟩ := (h2 F1 L1 v1 v2 v3).1 (by omega)
      exact ⟨F', L', by rw [e1, f1, gd_r (by omega)]⟩
  · rw [List.length_append] at hr
    obtain ⟨F1, L1, v1, v2, v3, e1, e2⟩ := y2 (by omega)
    obtain ⟨F', L', w1, w2, w3, f1, f2⟩ := (h2 F1 L1 v1 v2 v3).2 (by omega)
    refine ⟨F', L', w1, w2, w3, ?_, fun q hq => ⟨(f2 q hq).1.trans (e2 q hq).1, (f2 q hq).2.trans (e2 q hq).2⟩⟩
    rw [e1, f1, List.length_append, show r - c1.length - c2.length = r - (c1.length + c2.length) by omega]
theorem li_pre (hM : MoS s b) (hS : LiS a h tx len) (hx : ∀ k : Nat, k < 80 → a 158 (tx + k) = x k) {n : Nat} {P : Nat → Nat → List Int → Nat → Nat → Prop} (hP : LiP a b s h m tx x len n P) (hPL : PLen n P) : ∀ (q i e : Nat) (c : List Int) (S D : Nat), Pre x P q i e c S D → ∀ (d r : Nat) (F L : RW) (u1 u2 u3 : Vl), d + n ≤ 4 → e ≤ len → r ≤ 999 → LiE a b s h m tx d i e c r F L u1 u2 u3
  | 0, i, e, c, S, D, hs, d, r, F, L, u1, u2, u3, hd, he, hr => by
    obtain ⟨h1, h2, h3, h4⟩ := hs
    subst h1; subst h2
    exact ⟨fun v => absurd v (Nat.not_lt_zero _), fun _ => ⟨F, L, u1, u2, u3, rfl, fun _ _ => ⟨rfl, rfl⟩⟩⟩
  | q + 1, i, e, c, S, D, hs, d, r, F, L, u1, u2, u3, hd, he, hr => by
    obtain ⟨k, j, c1, c2, S1, S2, D1, D2, h1, h2, h3, h4, h5, h6, h7⟩ := hs
    subst h4; subst h5
    have hkj := (hPL k j c2 S2 D2 h2).1
    have h80 := hS.2.2.2
    refine li_app (li_pre hM hS hx hP hPL q i k c1 S1 D1 h1 d r F L u1 u2 u3 hd (by omega) hr) (fun F1 L1 v1 v2 v3 => ?_)
    obtain ⟨y1, y2⟩ := hP k j c2 S2 D2 h2 d (r - c1.length) F1 L1 v1 v2 v3 hd (by omega) (fun v => by rw [h3] at v; omega) (by omega)
    refine ⟨y1, fun hr2 => ?_⟩
    obtain ⟨F', L', w1, w2, w3, f1, f2⟩ := y2 hr2
    have G := li_comma (a := upR (upR a 166 F') 167 L') (b := b) (s := s) (h := h) (m := m) (tx := tx) (k := j) (d := d) (r := ((r - c1.length - c2.length : Nat) : Int)) (u1 := w1) (u2 := w2) (u3 := w3) (len := len) hM (by unfold LiS; rw [upR_ne (by omega), upR_ne (by omega)]; exact hS) (by omega) (by rw [upR_ne (by omega), upR_ne (by omega), hx j (by omega)]; exact h3) (by omega)
    exact ⟨F', L', vI 44, w2, w3, by rw [f1, G, nat_s], f2⟩
theorem li_sho (hM : MoS s b) (hS : LiS a h tx len) (hx : ∀ k : Nat, k < 80 → a 158 (tx + k) = x k) {n : Nat} {P : Nat → Nat → List Int → Nat → Nat → Prop} (hP : LiP a b s h m tx x len n P) (hPL : PLen n P) : LiP a b s h m tx x len n (ShoX x P) := by
  intro i j c S D hs d r F L u1 u2 u3 hd hj hno hr
  obtain ⟨q, k, c1, c2, S1, S2, D1, D2, h1, h2, h5, h6, h7⟩ := hs
  subst h5
  have hkj := (hPL k j c2 S2 D2 h2).1
  exact li_app (li_pre hM hS hx hP hPL q i k c1 S1 D1 h1 d r F L u1 u2 u3 hd (by omega) hr) (fun F1 L1 v1 v2 v3 => hP k j c2 S2 D2 h2 d (r - c1.length) F1 L1 v1 v2 v3 hd hj hno (by omega))
/-- a repeat that is to run q times yet -/
theorem li_loop (hM : MoS s b) (hS : LiS a h tx len) (hx : ∀ k : Nat, k < 80 → a 158 (tx + k) = x k) {d i j : Nat} {c : List Int} (hd : d < 4) (hj : j < len) (hc : x j = 41) (hP : ∀ (r : Nat) (F L : RW) (u1 u2 u3 : Vl), r ≤ 999 → LiE a b s h m tx (d + 1) i j c r F L u1 u2 u3) : ∀ (q r : Nat) (F L : RW) (u1 u2 u3 : Vl), q < 9 → r ≤ 999 → L (d + 1) = q + 1 → F (d + 1) = i → (r < (q + 1) * c.length → ∃ F' L' : RW, En 96 19 [vR 157, vI h, vI m, vI tx, vI (d + 1 : Nat), vI r, vI 0, vI i, u1, u2, u3] [] (upR (upR a 166 F) 167 L) b s = some ([vI (((List.replicate (q + 1) c).flatten).getD r 0)], upR (upR a 166 F') 167 L', b, s)) ∧ ((q + 1) * c.length ≤ r → ∃ (F' L' : RW) (v1 v2 v3 : Vl), En 96 19 [vR 157, vI h, vI m, vI tx, vI (d + 1 : Nat), vI r, vI 0, vI i, u1, u2, u3] [] (upR (upR a 166 F) 167 L) b s = En 96 19 [vR 157, vI h, vI m, vI tx, vI d, vI (r - (q + 1) * c.length : Nat), vI 0, vI (j + 1 : Nat), v1, v2, v3] [] (upR (upR a 166 F') 167 L') b s ∧ ∀ k : Int, k ≤ d → F' k = F k ∧ L' k = L k)
  | 0, r, F, L, u1, u2, u3, hq, hr, hL, hF => by
    have h80 := hS.2.2.2
    obtain ⟨y1, y2⟩ := hP r F L u1 u2 u3 hr
    rw [Nat.zero_add, Nat.one_mul]
    refine ⟨fun hr2 => ?_, fun hr2 => ?_⟩
    · obtain ⟨F', L', e⟩ := y1 hr2
      exact ⟨F', L', by rw [e]; simp⟩
    · obtain ⟨F1, L1, v1, v2, v3, e1, e2⟩ := y2 hr2
      have hL1 : L1 ((d + 1 : Nat) : Int) = 1 := by rw [(e2 _ (Int.le_refl _)).2, nat_s, hL]; omega
      have G := li_last (a := a) (b := b) (s := s) (h := h) (m := m) (tx := tx) (k := j) (d := ((d + 1 : Nat) : Int)) (r := ((r - c.length : Nat) : Int)) (u1 := v1) (u2 := v2) (u3 := v3) (len := len) (F := F1) (L := L1) hM hS hj (by rw [hx j (by omega)]; exact hc) (by omega) hL1
      refine ⟨F1, L1, vI 41, v2, v3, ?_, fun k hk => e2 k (by omega)⟩
      rw [e1, G, nat_s, nat_s, show (d : Int) + 1 - 1 = d by omega]
  | q + 1, r, F, L, u1, u2, u3, hq, hr, hL, hF => by
    have h80 := hS.2.2.2
    obtain ⟨y1, y2⟩ := hP r F L u1 u2 u3 hr
    have hmul : (q + 1 + 1) * c.length = c.length + (q + 1) * c.length := by rw [Nat.add_mul (q + 1) 1, Nat.one_mul]; omega
    have ef : (List.replicate (q + 1 + 1) c).flatten = c ++ (List.replicate (q + 1) c).flatten := by rw [List.replicate_succ, List.flatten_cons]
    rw [hmul, ef]
    by_cases hrc : r < c.length
    · refine ⟨fun _ => ?_, fun hr2 => by omega⟩
      obtain ⟨F', L', e⟩ := y1 hrc
      exact ⟨F', L', by rw [e, gd_l hrc]⟩
    · obtain ⟨F1, L1, v1, v2, v3, e1, e2⟩ := y2 (by omega)
      have hL1 : L1 ((d + 1 : Nat) : Int) = (q : Int) + 2 := by rw [(e2 _ (Int.le_refl _)).2, nat_s, hL]; omega
      have hF1 : F1 ((d + 1 : Nat) : Int) = i := by rw [(e2 _ (Int.le_refl _)).1, nat_s, hF]
      have G := li_more (a := a) (b := b) (s := s) (h := h) (m := m) (tx := tx) (k := j) (d := ((d + 1 : Nat) : Int)) (r := ((r - c.length : Nat) : Int)) (q := (q : Int) + 2) (p := (i : Int)) (u1 := v1) (u2 := v2) (u3 := v3) (len := len) (F := F1) (L := L1) hM hS hj (by rw [hx j (by omega)]; exact hc) (by omega) ⟨hL1, by omega, by omega⟩ hF1
      obtain ⟨i1, i2⟩ := li_loop hM hS hx hd hj hc hP q (r - c.length) F1 (up1 L1 ((d + 1 : Nat) : Int) ((q : Int) + 2 - 1)) (vI 41) v2 v3 (by omega) (by omega) (by rw [nat_s, up1_at]; omega) (by rw [← nat_s]; exact hF1)
      refine ⟨fun hr2 => ?_, fun hr2 => ?_⟩
      · obtain ⟨F', L', f1⟩ := i1 (by omega)
        exact ⟨F', L', by rw [e1, G, f1, gd_r (by omega)]⟩
      · obtain ⟨F', L', w1, w2, w3, f1, f2⟩ := i2 (by omega)
        refine ⟨F', L', w1, w2, w3, ?_, fun k hk => ⟨(f2 k hk).1.trans (e2 k (by omega)).1, (f2 k hk).2.trans ?_⟩⟩
        · rw [e1, G, f1, show r - c.length - (q + 1) * c.length = r - (c.length + (q + 1) * c.length) by omega]
        · rw [up1_ne (by omega)]; exact (e2 k (by omega)).2
theorem li_prt (hM : MoS s b) (hS : LiS a h tx len) (hx : ∀ k : Nat, k < 80 → a 158 (tx + k) = x k) (hx2 : ∀ k : Nat, 80 ≤ k → x k = 0) : ∀ n : Nat, LiP a b s h m tx x len n (Prt x n)
  | 0 => li_scn hM hS hx hx2
  | n + 1 => by
    have ih := li_prt hM hS hx hx2 n
    intro i j c S D hs d r F L u1 u2 u3 hd hj hno hr
    rcases hs with hs | ⟨r', j', c', S', D', hr', h1, h2, h3, h4, h5, h6, h7, h8, h9⟩
    · exact li_scn hM hS hx hx2 (n := n + 1) i j c S D hs d r F L u1 u2 u3 hd hj hno hr
    · subst h6; subst h7
      have h80 := hS.2.2.2
      have hlen := ShoX.len (Prt.len n) h4
      have R := li_rep (a := a) (b := b) (s := s) (h := h) (m := m) (tx := tx) (k := i) (d := d) (r := r) (c := 48 + r') (u1 := u1) (u2 := u2) (u3 := u3) (F := F) (L := L) (len := len) hM hS (by omega) (by rw [hx i (by omega)]; exact h1) (by omega) (by omega)
      obtain ⟨q, rfl⟩ : ∃ q, r' = q + 1 := ⟨r' - 1, by omega⟩
      have hB := fun r F L u1 u2 u3 hr => li_sho hM hS hx ih (Prt.len n) (i + 3) j' c' S' D' h4 (d + 1) r F L u1 u2 u3 (by omega) (by omega) (fun v => by rw [h5] at v; omega) hr
      obtain ⟨y1, y2⟩ := li_loop hM hS hx (d := d) (by omega) (by omega) h5 hB q r (up1 F (d + 1) (i + 3)) (up1 L (d + 1) (48 + ((q + 1 : Nat) : Int) - 48)) (vI (48 + ((q + 1 : Nat) : Int))) u2 u3 (by omega) hr (by rw [up1_at]; omega) (by rw [up1_at]; rfl)
      rw [show ((i + 3 : Nat) : Int) = i + 3 from rfl, show ((d + 1 : Nat) : Int) = d + 1 from rfl] at y1 y2
      refine ⟨fun hrc => ?_, fun hrc => ?_⟩
      · rw [flat_len] at hrc
        obtain ⟨F', L', e⟩ := y1 hrc
        exact ⟨F', L', by rw [R]; exact e⟩
      · rw [flat_len] at hrc
        obtain ⟨F', L', w1, w2, w3, e1, e2⟩ := y2 hrc
        refine ⟨F', L', w1, w2, w3, ?_, fun k hk => ?_⟩
        · rw [R, flat_len]; exact e1
        · have := e2 k hk
          rw [up1_ne (by omega), up1_ne (by omega)] at this
          exact this
/-- a minute of a show's text -/
theorem m_litIn {c : List Int} {r : Nat} (hM : MoS s b) (hh : 0 ≤ h ∧ h < 4) (hT : TxtC (a 158) h c) (hr : r < c.length ∧ r ≤ 999) : ∃ F' L' : RW, Mn 96 [vR 157, vI h, vI r] a b s = some ([vI (c.getD r 0)], upR (upR a 166 F') 167 L', b, s) := by
  obtain ⟨⟨t0, t1⟩, t2, S, D, ht⟩ := hT
  have hle : (129 + 92 * h + 11) = 140 + 92 * h := by omega
  have hS : LiS a h (129 + 92 * h + 12) (a 158 (140 + 92 * h)).toNat := ⟨hh, rfl, by rw [hle]; omega, by omega⟩
  have hx : ∀ k : Nat, k < 80 → a 158 (129 + 92 * h + 12 + k) = (if k < 80 then txS (a 158) h k else 0) := fun k hk => by
    rw [if_pos hk]; unfold txS; congr 1; omega
  have hx2 : ∀ k : Nat, 80 ≤ k → (if k < 80 then txS (a 158) h k else 0) = 0 := fun k hk => if_neg (by omega)
  have A := li_sho (m := r) hM hS hx (li_prt hM hS hx hx2 4) (Prt.len 4) 0 (a 158 (140 + 92 * h)).toNat c S D ht 0 r (a 166) (a 167) vU vU vU (by omega) (Nat.le_refl _) (by
    by_cases z : (a 158 (140 + 92 * h)).toNat < 80
    · dsimp only; rw [if_pos z, t2 _ (Nat.le_refl _) z]; omega
    · dsimp only; rw [if_neg z]; omega) hr.2
  obtain ⟨F', L', e⟩ := A.1 hr.1
  have e2 : upR (upR a 166 (a 166)) 167 (a 167) = a := by rw [upR_self, upR_self]
  rw [e2, Int.cast_ofNat_Int] at e
  refine ⟨F', L', ?_⟩
  have g := m_sa (a := a) (b := b) (s := s) (h := h) (w := 12) hh (by omega)
  have c0 := hM.1
  clear A ht hx hx2 t2
  rw [U_Mo_litIn]
  rw [B_Mo_litIn_0]; simp (disch := first | exact Nat.le_of_ble_eq_true rfl | omega) only [g, r_iconst, r_bipush, r_sipush, r_lconst, r_ldc, r_ldc_w, r_ldc2, r_iloadn_0, r_iload_0, r_istoren_0, r_istore_0, r_aloadn_0, r_aload_0, r_astoren_0, r_astore_0, r_lloadn_0, r_lload_0, r_lstoren_0, r_lstore_0, r_iinc_0, r_iloadn_1, r_iload_1, r_istoren_1, r_istore_1, r_aloadn_1, r_aload_1, r_astoren_1, r_astore_1, r_lloadn_1, r_lload_1, r_lstoren_1, r_lstore_1, r_iinc_1, r_iloadn_2, r_iload_2, r_istoren_2, r_istore_2, r_aloadn_2, r_aload_2, r_astoren_2, r_astore_2, r_lloadn_2, r_lload_2, r_lstoren_2, r_lstore_2, r_iinc_2, r_iloadn_3, r_iload_3, r_istoren_3, r_istore_3, r_aloadn_3, r_aload_3, r_astoren_3, r_astore_3, r_lloadn_3, r_lload_3, r_lstoren_3, r_lstore_3, r_iinc_3, r_iload_4, r_istore_4, r_aload_4, r_astore_4, r_lload_4, r_lstore_4, r_iinc_4, r_iload_5, r_istore_5, r_aload_5, r_astore_5, r_lload_5, r_lstore_5, r_iinc_5, r_iload_6, r_istore_6, r_aload_6, r_astore_6, r_lload_6, r_lstore_6, r_iinc_6, r_iload_7, r_istore_7, r_aload_7, r_astore_7, r_lload_7, r_lstore_7, r_iinc_7, r_iload_8, r_istore_8, r_aload_8, r_astore_8, r_lload_8, r_lstore_8, r_iinc_8, r_iload_9, r_istore_9, r_aload_9, r_astore_9, r_lload_9, r_lstore_9, r_iinc_9, r_iload_10, r_istore_10, r_aload_10, r_astore_10, r_lload_10, r_lstore_10, r_iinc_10, r_iload_11, r_istore_11, r_aload_11, r_astore_11, r_lload_11, r_lstore_11, r_iinc_11, r_iadd, r_isub, r_imul, r_idiv, r_irem, r_iand, r_ior, r_ixor, r_ishl, r_ishr, r_iushr, r_land, r_lor, r_lushr, r_lshl, r_lcmp, r_i2l, r_l2i, r_i2b, r_i2c, r_dup_vI, r_pop_vI, r_dup_vR, r_pop_vR, r_dup2, r_goto, r_icmp_eq, r_if_eq, r_icmp_ne, r_if_ne, r_icmp_lt, r_if_lt, r_icmp_ge, r_if_ge, r_icmp_gt, r_if_gt, r_icmp_le, r_if_le, r_ifnull, r_ifnonnull, r_tableswitch, r_iaload, r_baload, r_caload, r_aaload, r_iastore, r_bastore, r_castore, r_aastore, r_arraylength, r_getI, r_getR, r_putI, r_putR, r_getstatic, r_new, r_new_int, r_new_byte, r_new_char, r_new_boolean, r_anewarray, r_checkcast, r_objinit, r_arraycopy, r_cloneI, r_cloneB, r_nil, X_Do_init, K4_Do_init, K5_Do_init, X_Do_copyFrom, K3_Do_copyFrom, X_Do_toldShows, K3_Do_toldShows, X_Do_reason, K3_Do_reason, X_Do_ofNextRun, K3_Do_ofNextRun, X_Do_nextEnd, K3_Do_nextEnd, X_Do_runNext, K3_Do_runNext, X_Do_firstGroup, K3_Do_firstGroup, X_Do_beginWith, K3_Do_beginWith, X_Do_groupsWith, K3_Do_groupsWith, X_Gr_init, K4_Gr_init, K5_Gr_init, X_Gr_copyFrom, K3_Gr_copyFrom, X_Gr_add, K3_Gr_add, X_Gr_waiting, K3_Gr_waiting, X_Gr_earliest, K3_Gr_earliest, X_Gr_seated, K3_Gr_seated, X_Gr_personsIn, K3_Gr_personsIn, X_Gr_newPersonsIn, K3_Gr_newPersonsIn, X_Gr_countRun, K3_Gr_countRun, X_Gr_goHome, K3_Gr_goHome, X_Gr_waitFrom, K3_Gr_waitFrom, X_Gr_waitingFor, K3_Gr_waitingFor, X_Gr_holds, K2_Gr_holds, X_Hi_init, K4_Hi_init, K5_Hi_init, X_Hi_record, K3_Hi_record, X_Hi_takeBack, K3_Hi_takeBack, X_La_init, K4_La_init, K5_La_init, X_La_copyFrom, K3_La_copyFrom, X_La_minutesLeft, K3_La_minutesLeft, X_La_firstToEnd, K3_La_firstToEnd, X_La_runsUntilEnd, K3_La_runsUntilEnd, X_La_isFoggy, K3_La_isFoggy, X_La_burn, K3_La_burn, X_Pa_init, K4_Pa_init, K5_Pa_init, X_Pa_append, K3_Pa_append, X_Re_init, K4_Re_init, K5_Re_init, X_Re_read, K3_Re_read, X_Re_laidOut, K3_Re_laidOut, X_Re_clear, K3_Re_clear, X_Re_isBehindPart, K3_Re_isBehindPart, X_Re_takes, K3_Re_takes, X_Re_takesLamp, K3_Re_takesLamp, X_Re_takesRepeat, K3_Re_takesRepeat, X_Re_takesStar, K3_Re_takesStar, X_Re_takesOpening, K3_Re_takesOpening, X_Re_takesFirstDigit, K3_Re_takesFirstDigit, X_Re_takesSecondDigit, K3_Re_takesSecondDigit, X_Re_takesEndOfPart, K3_Re_takesEndOfPart, X_Re_endScene, K3_Re_endScene, X_Re_endRepeat, K3_Re_endRepeat, X_Sh_init, K4_Sh_init, K5_Sh_init, X_Sh_lights, K3_Sh_lights, X_DL_init, K4_DL_init, K5_DL_init, X_DL_set, K3_DL_set, X_DL_tell, K3_DL_tell, X_DL_group, K3_DL_group, X_DL_lamp, K3_DL_lamp, X_DL_lens, K3_DL_lens, X_DL_run, K3_DL_run, X_DL_ofShow, K3_DL_ofShow, X_DL_lit, K3_DL_lit, X_DL_at, K3_DL_at, X_DL_ofLamp, K3_DL_ofLamp, X_DL_ofGroup, K3_DL_ofGroup, X_DL_count, K3_DL_count, X_DL_why, K3_DL_why, X_DL_next, K3_DL_next, X_DL_oftenOf, K3_DL_oftenOf, X_DL_endsFirst, K3_DL_endsFirst, X_DL_runsLeft, K3_DL_runsLeft, X_DL_put, K3_DL_put, X_DL_wipe, K3_DL_wipe, X_DL_fault, K3_DL_fault, X_DL_undo, K3_DL_undo, X_DL_save, K3_DL_save, X_DL_restore, K3_DL_restore, X_DL_isOneOf, K2_DL_isOneOf, X_DL_lengthOf, K2_DL_lengthOf, X_Mo_init, K4_Mo_init, K5_Mo_init, X_Mo_in, K2_Mo_in, X_Mo_ofLampAt, K2_Mo_ofLampAt, X_Mo_ofGroupAt, K2_Mo_ofGroupAt, X_Mo_ofShowAt, K2_Mo_ofShowAt, X_Mo_isShow, K2_Mo_isShow, X_Mo_isLamp, K2_Mo_isLamp, X_Mo_isGroup, K3_Mo_isGroup, X_Mo_isTold, K3_Mo_isTold, X_Mo_know, K3_Mo_know, X_Mo_putAside, K3_Mo_putAside, X_Mo_putBack, K3_Mo_putBack, X_Mo_puts, K3_Mo_puts, X_Mo_behind, K3_Mo_behind, X_Mo_fault, K3_Mo_fault, X_Mo_scene, K3_Mo_scene, X_Mo_tellAll, K3_Mo_tellAll, X_Mo_tell, K3_Mo_tell, X_Mo_litIn, K3_Mo_litIn, X_Mo_waits, K3_Mo_waits, X_Mo_isAhead, K3_Mo_isAhead, X_Mo_first, K3_Mo_first, X_Mo_begins, K3_Mo_begins, X_Mo_isTooLong, K3_Mo_isTooLong, X_Mo_why, K3_Mo_why, X_Mo_groupsOf, K3_Mo_groupsOf, X_Mo_isFoggy, K3_Mo_isFoggy, X_Mo_burns, K3_Mo_burns, X_Mo_runs, K3_Mo_runs, X_Mo_set, K3_Mo_set, X_Mo_group, K3_Mo_group, X_Mo_lamp, K3_Mo_lamp, X_Mo_lens, K3_Mo_lens, X_Mo_run, K3_Mo_run, X_Mo_ofShow, K3_Mo_ofShow, X_Mo_lit, K3_Mo_lit, X_Mo_at, K3_Mo_at, X_Mo_minutesLeft, K3_Mo_minutesLeft, X_Mo_ofLamp, K3_Mo_ofLamp, X_Mo_ofGroup, K3_Mo_ofGroup, X_Mo_waiting, K3_Mo_waiting, X_Mo_toldShows, K3_Mo_toldShows, X_Mo_count, K3_Mo_count, X_Mo_next, K3_Mo_next, X_Mo_oftenOf, K3_Mo_oftenOf, X_Mo_endsFirst, K3_Mo_endsFirst, X_Mo_runsLeft, K3_Mo_runsLeft, X_Mo_put, K3_Mo_put, X_Mo_wipe, K3_Mo_wipe, X_Mo_undo, K3_Mo_undo, X_Mo_save, K3_Mo_save, X_Mo_restore, K3_Mo_restore, X_In_bitCount, K2_In_bitCount, X_Ma_max, K2_Ma_max, X_Ma_min, K2_Ma_min, X_Ar_copyOf, K2_Ar_copyOf, X_Lw_law, unJ_I, unJ_R, unJ_J, unJ_U, bnd_some, List.cons_append, List.nil_append, Int.cast_ofNat_Int, if_pos, if_neg, if_true, if_false, Bool.false_eq_true, eq_self, reduceIte]
  exact e
end LITB
