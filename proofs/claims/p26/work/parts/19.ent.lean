theorem len_small {args : Array Value} {s : State} {t : Term} {a : Addr} {cell : Cell} {v : Value} (ht : t.eval args s none [] s = some (.ref a)) (harr : s.arrayAt? a = some cell) (hv : (Term.length t).eval args s none [] s = some v) : cell.slots.size < 2 ^ 31 := by
  simp only [Term.eval, ht, harr, Option.bind_eq_bind, Option.bind_some] at hv
  by_cases hlt : cell.slots.size < 2147483648
  · exact hlt
  · simp [hlt] at hv
set_option maxHeartbeats 4000000 in
set_option maxRecDepth 100000 in
/-- the law's walk, out of the interpreter's -/
theorem start_of (hlaw : lawOK) {p : Program} {e : Env} {s : State} {m : MethodId} {below : List Frame} {meth : Method} {c : Code} (l : Launch) {b L : Nat} {xs : Nat → Int32} (hL : L ≤ 260) (C0 : lw_At p s m meth c b L xs) : W p l e room_1 s m #[Value.ref b] below meth c s.heap [] 0 0 (lw_Z below #[Value.ref b] s) (entryFrame m ([Value.ref b] : List Value).toArray 7) := by
  obtain ⟨hx, hb, hr, hml, hown, hts, hX, hbl, hlocks, hgv⟩ := id C0
  have htb : ∀ w, w ∈ [Jvm.Cond.arrayClass .int, .arrayClass .byte, .arrayClass .char, .arrayClass .boolean, .arrayOver (.object RX6), .arrayOver (.object RX0), .castable "[I" "java/lang/Cloneable", .castable "[B" "java/lang/Cloneable", .methodLinkNest RX7 9 ⟨RX0, "<init>", "()V"⟩ RX7, .fieldLinkNest RX0 9 RX7 "FIRST_VALUES" "[I" RX7, .methodLinkNest RX0 34 ⟨RX3, "<init>", "()V"⟩ RX7, .methodLinkNest RX0 41 ⟨RX1, "<init>", "()V"⟩ RX7, .methodLinkNest RX7 21 ⟨RX4, "<init>", "()V"⟩ RX7, .methodLinkNest RX7 28 ⟨RX5, "<init>", "()V"⟩ RX7, .methodLinkNest RX2 17 ⟨RX0, "<init>", "()V"⟩ RX7] → w.before #[Value.ref b] s = true := fun w hw => hts w (of_decide_eq_true (List.all_eq_true.mp st_tb2 w hw))
  have hcl : ∀ q : Nat, ∃ d : ClassId × (Nat → Nat), q < 9 → u_Kn s (CN q) (CT q) (CNF q) d.1 d.2 := by
    intro q
    by_cases hq : q < 9
    · have hin : Jvm.Cond.instantiable (CN q) (CNF q) ∈ lw_tbl := by
        have h9 : q = 0 ∨ q = 1 ∨ q = 2 ∨ q = 3 ∨ q = 4 ∨ q = 5 ∨ q = 6 ∨ q = 7 ∨ q = 8 := by omega
        have ht := List.all_eq_true.mp st_tbl
        rcases h9 with rfl | rfl | rfl | rfl | rfl | rfl | rfl | rfl | rfl
        · exact of_decide_eq_true (ht ("DomeLamps$Dome", 9) (by decide))
        · exact of_decide_eq_true (ht ("DomeLamps$Groups", 6) (by decide))
        · exact of_decide_eq_true (ht ("DomeLamps$History", 3) (by decide))
        · exact of_decide_eq_true (ht ("DomeLamps$Lamps", 3) (by decide))
        · exact of_decide_eq_true (ht ("DomeLamps$Pad", 2) (by decide))
        · exact of_decide_eq_true (ht ("DomeLamps$Reader", 11) (by decide))
        · exact of_decide_eq_true (ht ("DomeLamps$Show", 6) (by decide))
        · exact of_decide_eq_true (ht ("DomeLamps", 7) (by decide))
        · exact of_decide_eq_true (ht ("DomeLamps", 7) (by decide))
      obtain ⟨cC, iS, h⟩ := u_known hts (st_lay hq) (hts _ hin)
      exact ⟨(cC, iS), fun _ => h⟩
    · exact ⟨(0, fun _ => 0), fun h => absurd h hq⟩
  obtain ⟨dd, hdd⟩ := Classical.axiomOfChoice hcl
  obtain ⟨c10, h10⟩ := st_arr (htb (.arrayClass .int) (by simp))
  obtain ⟨c11, h11⟩ := st_arr (htb (.arrayClass .byte) (by simp))
  obtain ⟨c12, h12⟩ := st_arr (htb (.arrayClass .char) (by simp))
  obtain ⟨c13, h13⟩ := st_arr (htb (.arrayClass .boolean) (by simp))
  obtain ⟨c14, h14⟩ := st_arq (htb (.arrayOver (.object RX6)) (by simp))
  obtain ⟨c15, h15⟩ := st_arq (htb (.arrayOver (.object RX0)) (by simp))
  have hA : ∀ a : Nat, a < s.heap.size → ¬ (fun q : Nat => s.heap.size ≤ q) a := fun a h => Nat.not_le.mpr h
  obtain ⟨t2, T2, Z2, E2⟩ := st_tab _ s hgv hts _ hA 2 (by omega) (by omega)
  obtain ⟨t3, T3, Z3, E3⟩ := st_tab _ s hgv hts _ hA 3 (by omega) (by omega)
  obtain ⟨t4, T4, Z4, E4⟩ := st_tab _ s hgv hts _ hA 4 (by omega) (by omega)
  have hcell2 : ∃ cell : Cell, s.heap[t2]? = some cell ∧ cell.vm.isStatics = false ∧ cell.slots.size = 6 ∧ cell.cls = c10 := by
    have hs := flat_of_before _ hgv
    obtain ⟨a, cI, cell, k, e1, e2, e3, e4, e5, e6, -⟩ := Cond.exactly_spec (hs (.exactly (.static "DomeLamps" "FIRST_VALUES" "[I") "[I") (by decide +kernel))
    cases e1.symm.trans E2
    refine ⟨cell, e3, e5, ?_, ?_⟩
    · have hv := va_eqt (hs (.eq (.length (.static "DomeLamps" "FIRST_VALUES" "[I")) (.int 6)) (by decide +kernel))
      obtain ⟨t, cell2, ht, harr, hv2⟩ := Term.length_spec hv
      cases ht.symm.trans E2
      obtain ⟨hc2, -, -, -⟩ := State.arrayAt?_spec harr
      cases e3.symm.trans hc2
      have hsz : cell.slots.size < 2 ^ 31 := len_small E2 harr hv
      have h6 : (6 : Int32) = cell.slots.size.toInt32 := Value.int.inj hv2
      have h7 : Int32.ofNat cell.slots.size = nI 6 := h6.symm
      exact (nI_eq hsz (by decide)).mp h7
    · rw [e6]
      have := h10.2
      rw [show "[" ++ FieldType.int.toString = "[I" by decide +kernel] at this
      exact Option.some.inj (e2.symm.trans this)
  generalize hg : ((fun q => (dd q).1, fun q => (dd q).2, fun k => if k = 10 then c10 else if k = 11 then c11 else if k = 12 then c12 else if k = 13 then c13 else if k = 14 then c14 else c15, s.heap.size, s.heap, fun r => if r = 1 then b else if r = 2 then t2 else if r = 3 then t3 else t4, L, xs) : Gx) = g
  have gD1 : gD g = (fun q => (dd q).1, fun q => (dd q).2) := by rw [← hg]; rfl
  have gN1 : gN g = s.heap.size := by rw [← hg]; rfl
  have gH1 : gH g = s.heap := by rw [← hg]; rfl
  have gL1 : gL g = L := by rw [← hg]; rfl
  have gX1 : gX g = xs := by rw [← hg]; rfl
  have gS1 : gS g 1 = b := by rw [← hg]; rfl
  have gS2 : gS g 2 = t2 := by rw [← hg]; rfl
  have gS3 : gS g 3 = t3 := by rw [← hg]; rfl
  have gS4 : gS g 4 = t4 := by rw [← hg]; rfl
  have gA10 : gA g 10 = c10 := by rw [← hg]; rfl
  have gTy : tyS g = [(c10, .int), (c11, .byte), (c12, .char), (c13, .boolean), (c14, .object RX6), (c15, .object RX0)] := by rw [← hg]; rfl
  have aA1 : aA g = fun q : Nat => s.heap.size ≤ q := by unfold aA; rw [gN1]
  have hKK : KKg g s := by
    refine ⟨⟨fun k q hq => ?_, fun k q hq => ?_⟩, by rw [gH1, gN1], by rw [gS1, gL1, gX1, gH1]; exact hX, by rw [gS1, gN1]; exact hbl, by rw [gL1]; exact hL, fun r r1 r2 => ?_, by rw [gH1, gS2, gA10]; exact hcell2, va_AO.of (htb _ (by simp)), va_AO.of (htb _ (by simp)), va_Nw.of rfl (htb _ (by simp)), va_Nw.of rfl (htb _ (by simp)), va_Nw.of rfl (htb _ (by simp)), va_Nw.of rfl (htb _ (by simp)), va_Nw.of rfl (htb _ (by simp)), va_Nw.of rfl (htb _ (by simp)), va_Nw.of rfl (htb _ (by simp)), va_Nw.of rfl (htb _ (by simp)), va_Nw.of rfl (htb _ (by simp))⟩
    · have hk : k < 9 := (List.getElem?_eq_some_iff.mp hq).1
      cases (vw_at hk).symm.trans hq
      rw [gD1]
      exact hdd k hk
    · rw [gTy] at hq
      have hk : k < 6 := (List.getElem?_eq_some_iff.mp hq).1
      have h6 : k = 0 ∨ k = 1 ∨ k = 2 ∨ k = 3 ∨ k = 4 ∨ k = 5 := by omega
      rcases h6 with rfl | rfl | rfl | rfl | rfl | rfl <;> cases hq
      · exact h10
      · exact h11
      · exact h12
      · exact h13
      · exact h14
      · exact h15
    · have hr3 : r = 2 ∨ r = 3 ∨ r = 4 := by omega
      rw [aA1, gH1]
      rcases hr3 with rfl | rfl | rfl
      · rw [gS2]; exact ⟨T2, Z2⟩
      · rw [gS3]; exact ⟨T3, Z3⟩
      · rw [gS4]; exact ⟨T4, Z4⟩
  have hC : Cxt g 87 p s m #[Value.ref b] meth c := ⟨hx, hb, hr, hml, hown, fun w hw => hts w (List.mem_filter.mp hw).1, hKK, fun h => absurd h (by decide), hlocks, by rw [gN1]; exact Nat.le_refl _, fun q _ => by rw [gH1]⟩
  have hR : RelM g (a0_ L xs) b0_ (s0_ L) s.heap := by
    refine ⟨by rw [gN1]; rfl, fun q _ => by rw [gH1], fun k q hq => ?_, ok0 L hL xs, ?_, fun j hj => ?_, fun r r1 r2 => ⟨?_, fun j hj => ?_⟩⟩
    · have := (wsE_inv hq).1
      exact absurd this (Nat.not_lt_zero _)
    · rw [gL1]; rfl
    · rw [gL1] at hj
      rw [gX1]
      show a0_ L xs 1 j = _
      unfold a0_
      rw [if_pos rfl, if_pos (by omega)]
      rfl
    · show (if r = 1 then (L : Int) else if 2 ≤ r ∧ r < 5 then 6 else 0) = 6
      rw [if_neg (by omega), if_pos (by omega)]
    · unfold a0_
      rw [if_neg (by omega), if_pos (by omega), if_pos (by omega)]
      rfl
  obtain ⟨a1, b1, s1, hM, hn1, hn2⟩ := hlaw L xs hL
  obtain ⟨n, hex⟩ := En_iff.mp hM
  have hcv : ([vR 1] : List Vl).map (cv g) = [Value.ref b] := by
    rw [List.map_cons, show cv g (vR 1) = cvR g 1 from rfl, cvR_ne (by omega), show adr g 1 = gS g 1 from rfl, gS1]; rfl
  have hls := ent_lsR (g := g) (as := [vR 1]) (n := mL 87) (by decide)
  rw [hcv] at hls
  rw [lg_entry_eq]
  have hz : nx (s0_ L) = 0 := rfl
  have hz2 : ns (s0_ L) = 0 := rfl
  refine fra_all l g n 87 0 (ent (mL 87) [vR 1]) [] (a0_ L xs) b0_ (s0_ L) [vI 1] a1 b1 s1 hex p e room_1 s m #[Value.ref b] below meth c s.heap [] 0 0 (lw_Z below #[Value.ref b] s) _ hC (by decide) (by decide) hR va_S.rf hls (okL_ent (okL_cons.mpr ⟨trivial, okL_nil⟩)) okL_nil (by rw [hz]; show 0 + (nx s1 - 0) ≤ 600000; omega) (by rw [hz2]; show 0 + (ns s1 - 0) ≤ 7302250; omega) ?_
  intro pc1 ins lsC1 H1 locs1 hd hret hrv hR1 hS1
  have hins : ins = .ireturn := by
    rcases (ret_some hret).2 with ⟨-, h, -⟩ | ⟨h, -⟩ | ⟨-, r, h, -⟩
    · cases h
    · exact h
    · cases h
  subst hins
  refine va_forget (fun q hq => ?_) ?_
  · have := hS1.2.2 q hq
    rw [aA1] at this
    exact this
  · refine W.widen (k := 600000) (n := 7302250) (by rw [hz]; omega) (by rw [hz2]; omega) ?_
    exact lw_ret hx hb hr hlocks hd
