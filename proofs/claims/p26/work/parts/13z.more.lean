theorem if_some' {α : Type} {P : Prop} [Decidable P] {x : Option α} {w : α} (h : (if P then x else none) = some w) : P ∧ x = some w := by
  by_cases hP : P
  · rw [if_pos hP] at h; exact ⟨hP, h⟩
  · rw [if_neg hP] at h; cases h
theorem c1_cat {g : Gx} {v : Vl} (h : isC1 v = true) : (cv g v).category = 1 := by
  rcases v with x | r | u | u
  · rfl
  · show (cvR g r).category = 1
    by_cases hr : r = 0
    · rw [hr]; rfl
    · rw [cvR_ne hr]; rfl
  · cases h
  · cases h
section MORE
variable {p : Program} {l : Launch} {e : Env} {R : Room} {s0 : State} {m : MethodId} {args : Array Value} {below : List Frame} {meth : Method} {c : Code} {H : Heap} {locs : List Loc} {cells slots : Nat} {Q : State → Prop} {g : Gx} {y : Nat}
set_option maxHeartbeats 4000000 in
theorem snd_alen (C : Cxt g y p s0 m args meth c) {pc : Nat} (hd : decode (cd y) pc = .ok (.arraylength, 1)) {r : Nat} {st3 : List Vl} {a : HI} {b : HR} {s : SH} (hk : kd s r = 10 ∨ kd s r = 11 ∨ kd s r = 12 ∨ kd s r = 20) (hR : RelM g a b s H) (hS : va_S (aA g) s0.heap H locs) {lsC : Array Slot} (K : W p l e R s0 m args below meth c H locs cells slots Q (F0 m (pc + 1) lsC ((vI (ln s r) :: st3).map (cv g)))) : W p l e R s0 m args below meth c H locs cells slots Q (F0 m pc lsC ((vR r :: st3).map (cv g))) := by
  obtain ⟨hexec, hb, -, -, -, -, hKK, -, -, hge, heq⟩ := C
  have hln := hR.2.2.2.1.2.2.2.2.2.1 r
  by_cases hk2 : kd s r = 20
  · have hne : r ≠ 0 := by intro q; subst q; have := hR.2.2.2.1.2.2.2.1; omega
    have hr5 : r < 5 := by
      by_cases q : r < 5
      · exact q
      · by_cases q2 : r < nx s + 5
        · have := hR.2.2.2.1.2.1 r (by omega) q2; omega
        · have := hR.2.2.2.1.2.2.1 r (by omega); omega
    rw [List.map_cons, show cv g (vR r) = cvR g r from rfl, cvR_ne hne, show adr g r = gS g r from if_pos hr5]
    have hSt := hR.2.2.2.2
    by_cases hr1 : r = 1
    · subst hr1
      rw [List.map_cons, show cv g (vI (ln s 1)) = .int (Int32.ofInt (ln s 1)) from rfl, hSt.1, ofI_nat] at K
      exact va_slen hexec hb hKK.2.2.1 (by rw [hKK.2.1]; exact hKK.2.2.2.1) (fun q => by have := hKK.2.2.2.1; unfold aA at q; omega) (va_S.Hb hKK.2.1 hR hS) hd K
    · have h26 := hSt.2.2 r (by omega) hr5
      have hT := (hKK.2.2.2.2.2.1 r (by omega) hr5).1
      obtain ⟨cell, t1, t2, t3, t4, t5, -, t7⟩ := hT
      have hlt : gS g r < gN g := by rw [← hKK.2.1]; exact (Array.getElem?_eq_some_iff.mp t1).1
      rw [List.map_cons, show cv g (vI (ln s r)) = .int (Int32.ofInt (ln s r)) from rfl, h26.1] at K
      exact W.alen (n := Int32.ofInt 6) hexec hb ((hR.2.1 _ hlt).trans t1) t2 (by rw [t5]; rfl) rfl rfl hd K
  · have hr := okK_rng hR.2.2.2.1 (r := r) (by omega)
    rw [List.map_cons, show cv g (vR r) = cvR g r from rfl, cvR_ne (by omega)]
    refine va_alen hexec hb hKK.1 hR.2.2.1 (r - 5) (kd s r - 10) ((wsE_at hr.1 hr.2).trans (by rw [cel_I (by omega) (by omega)])) (tyS_at (by omega) (by omega)) (v := Int32.ofInt (ln s r)) ?_ hd K
    show Int32.ofNat (ln s r).toNat = _
    rw [show Int32.ofInt (ln s r) = Int32.ofInt (((ln s r).toNat : Nat) : Int) by rw [Int.toNat_of_nonneg hln.1], ofI_nat]
    rfl
set_option maxHeartbeats 4000000 in
theorem snd_gets (C : Cxt g y p s0 m args meth c) {pc i r z : Nat} (hd : decode (cd y) pc = .ok (.getstatic i, 3)) (hlk : look (ow y) (2 * i) = some [14, r, z]) {st3 : List Vl} {a : HI} {b : HR} {s : SH} (hR : RelM g a b s H) (hS : va_S (aA g) s0.heap H locs) {lsC : Array Slot} (K : W p l e R s0 m args below meth c H locs cells slots Q (F0 m (pc + 3) lsC ((vR r :: st3).map (cv g)))) : W p l e R s0 m args below meth c H locs cells slots Q (F0 m pc lsC (st3.map (cv g))) := by
  obtain ⟨hexec, hb, -, -, hown, hts, hKK, -, -, hge, heq⟩ := C
  obtain ⟨pl, h1, h2, -⟩ := look_ok hlk
  simp only [moreOf, Bool.and_eq_true, decide_eq_true_eq] at h1
  have hZ := (hKK.2.2.2.2.2.1 r h1.1.1 h1.1.2).2
  have hZ2 := va_Z.kept (H1 := s0.heap) hZ (fun q hq _ => heq q (by rw [hKK.2.1] at hq; exact hq))
  rw [List.map_cons, show cv g (vR r) = cvR g r from rfl, cvR_ne (by omega), show adr g r = gS g r from if_pos h1.1.2] at K
  rcases h1.2 with hz | ⟨hz, hr, hc, hi⟩
  · subst hz
    have h3 := h2 rfl
    simp only [condOf] at h3
    rw [show 2 * i / 2 = i by omega] at h3
    exact va_gets hexec hb hZ2 hS hown (hts _ h3) (fun _ h => h) hd K
  · subst hz; subst hr
    have hi9 : i = 9 := by omega
    subst hi9
    rw [hc] at hown
    have hN := hKK.2.2.2.2.2.2.2.2.2.2.2.2.1
    exact va_getsN hexec hb hZ2 hS hown (va_Nw.use rfl hN) (fun _ h => h) hd K
set_option maxHeartbeats 4000000 in
theorem snd_cast (C : Cxt g y p s0 m args meth c) {pc i k r : Nat} (hd : decode (cd y) pc = .ok (.checkcast i, 3)) (hk : k = 10 ∨ k = 11) (hw : Jvm.Cond.classLink (CN (ow y)) i (if k = 10 then "[I" else "[B") ∈ gdW) {st3 : List Vl} {a : HI} {b : HR} {s : SH} (hkd : kd s r = k) (hR : RelM g a b s H) {lsC : Array Slot} (K : W p l e R s0 m args below meth c H locs cells slots Q (F0 m (pc + 3) lsC ((vR r :: st3).map (cv g)))) : W p l e R s0 m args below meth c H locs cells slots Q (F0 m pc lsC ((vR r :: st3).map (cv g))) := by
  obtain ⟨hexec, hb, -, -, hown, hts, hKK, -, -, hge, heq⟩ := C
  have hr := okK_rng hR.2.2.2.1 (r := r) (by omega)
  rw [List.map_cons, show cv g (vR r) = cvR g r from rfl, cvR_ne (by omega)] at K ⊢
  obtain ⟨hARR, hRA⟩ := hKK.1.2 _ _ (tyS_at (k := k) (g := g) (by omega) (by omega))
  refine va_castA hexec hb hown (hts _ hw) hR.2.2.1 (r - 5) ((wsE_at hr.1 hr.2).trans (by rw [cel_I (by omega) (by omega), hkd])) ?_ hd K
  rcases hk with rfl | rfl <;> exact hRA
set_option maxHeartbeats 4000000 in
theorem snd_oi (C : Cxt g y p s0 m args meth c) {pc i r : Nat} (hd : decode (cd y) pc = .ok (.invokespecial i, 3)) (hw : Jvm.Cond.methodLink (CN (ow y)) i objectInit ∈ gdW) {st3 : List Vl} (hr : r ≠ 0) (hst : (st3.map catV).sum ≤ 8) (hfr : 1 ≤ R.frames) (hlo : 20 ≤ R.locals) {lsC : Array Slot} (hls : lsC.size = mL y) (K : W p l e R s0 m args below meth c H locs cells slots Q (F0 m (pc + 3) lsC (st3.map (cv g)))) : W p l e R s0 m args below meth c H locs cells slots Q (F0 m pc lsC ((vR r :: st3).map (cv g))) := by
  obtain ⟨hexec, hb, -, hml, hown, hts, hKK, -, -, hge, heq⟩ := C
  have hga := gd_all
  simp only [Bool.and_eq_true, decide_eq_true_eq, List.all_cons, List.all_nil, Bool.and_true] at hga
  have h1 := hga.1.1.1.1.1.1.1.1.1.1
  rw [List.map_cons, show cv g (vR r) = cvR g r from rfl, cvR_ne hr]
  refine W.objInit hexec hb hown (hts _ hw) (hts _ (gd_in h1.1 rfl)) (hts _ (gd_in h1.2 rfl)) rfl (by rw [hml]; exact hls) rfl hd hfr (by show 2 * 0 + _ + 12 ≤ _; rw [cat_cv]; omega) K
end MORE
