theorem cat_cv {g : Gx} : ∀ (l : List Vl), ((l.map (cv g)).map fun v => v.category).sum = (l.map catV).sum
  | [] => rfl
  | v :: l => by
    rw [List.map_cons, List.map_cons, List.map_cons, List.sum_cons, List.sum_cons, cat_cv l]
    congr 1
    rcases v with x | r | u | u
    · rfl
    · show (cvR g r).category = 1
      by_cases hr : r = 0
      · rw [hr]; rfl
      · rw [cvR_ne hr]; rfl
    · rfl
    · rfl
section NAT
variable {p : Program} {l : Launch} {e : Env} {R : Room} {s0 : State} {m : MethodId} {args : Array Value} {below : List Frame} {meth : Method} {c : Code} {H : Heap} {locs : List Loc} {cells slots : Nat} {Q : State → Prop} {g : Gx} {y : Nat}
set_option maxHeartbeats 4000000 in
theorem snd_clI (C : Cxt g y p s0 m args meth c) {pc i : Nat} (hd : decode (cd y) pc = .ok (.invokevirtual i, 3)) (hw : Jvm.Cond.methodLink (CN (ow y)) i ⟨"[I", "clone", "()Ljava/lang/Object;"⟩ ∈ gdW) {st3 : List Vl} {a : HI} {b : HR} {s : SH} (hst : (st3.map catV).sum ≤ 8) (hfr : 1 ≤ R.frames) (hlo : 22 ≤ R.locals) (hR : RelM g a b s H) (hS : va_S (aA g) s0.heap H locs) (hce : cells + 1 ≤ R.cells) (hsl : slots + (ln s 2).toNat ≤ R.slots) {lsC : Array Slot} (hls : lsC.size = mL y) (K : ∀ (H1 : Heap), RelM g (clI a 2 (nx s + 5)) b (nwS s 10 (ln s 2) (ln s 2).toNat) H1 → va_S (aA g) s0.heap H1 locs → W p l e R s0 m args below meth c H1 locs (cells + 1) (slots + (ln s 2).toNat) Q (F0 m (pc + 3) lsC ((vR (nx s + 5) :: st3).map (cv g)))) : W p l e R s0 m args below meth c H locs cells slots Q (F0 m pc lsC ((vR 2 :: st3).map (cv g))) := by
  have C0 := C
  obtain ⟨hexec, hb, -, hml, hown, hts, hKK, -, -, hge, heq⟩ := C
  obtain ⟨cell, hc1, hc2, hc3, hc4⟩ := hKK.2.2.2.2.2.2.1
  have hT := (hKK.2.2.2.2.2.1 2 (by omega) (by omega)).1
  obtain ⟨cell', t1, t2, t3, -, -, t6, t7⟩ := hT
  cases hc1.symm.trans t1
  have h26 := hR.2.2.2.2.2.2 2 (by omega) (by omega)
  have hlt : gS g 2 < gN g := by rw [← hKK.2.1]; exact (Array.getElem?_eq_some_iff.mp hc1).1
  have hHc : H[gS g 2]? = some cell := (hR.2.1 _ hlt).trans hc1
  obtain ⟨hARR, hRA⟩ := hKK.1.2 _ _ (tyS_at (k := 10) (g := g) (by omega) (by omega))
  have hln : (ln s 2).toNat = 6 := by rw [h26.1]; rfl
  rw [List.map_cons, show cv g (vR 2) = .ref (gS g 2) from rfl]
  rw [hln] at K hsl
  refine cln_W C0 hd (Or.inl rfl) hw (ty := .int) hHc (fun k h => by rw [h] at hc2; cases hc2) t3 (by rw [hc4]; exact hRA) (by rw [hc4]; exact hARR) (fun j v hv => ?_) (fun h => by rw [h]; exact hml) hfr (by rw [cat_cv]; omega) hce (by rw [hc3]; exact hsl) hls fun H1 e1 z1 o1 => ?_
  · have hj : j < 6 := by rw [← hc3]; exact (Array.getElem?_eq_some_iff.mp hv).1
    rw [t6 j hj] at hv
    cases hv
    rfl
  · rw [hc3]
    have := K H1 (RelM.psh hR (fun z hz => clI_ne hz) (fun z _ => rfl) (okK_nw (b := b) hR.2.2.2.1 (by omega) (by omega) (fun z hz => clI_ne hz) (fun j => by rw [clI_at]; exact hR.2.2.2.1.1 _ _) (fun q => by omega)) ?_ z1 o1) (push_S hS z1 o1)
    · rw [List.map_cons, show cv g (vR (nx s + 5)) = cvR g (nx s + 5) from rfl, adr_fresh hR] at this
      exact this
    · have hkd : kd (nwS s 10 (ln s 2) 6) (nx s + 5) = 10 := by rw [kd_nw, if_pos rfl]
      have hln2 : ln (nwS s 10 (ln s 2) 6) (nx s + 5) = ln s 2 := by rw [ln_nw, if_pos rfl]
      rw [cel_I (by omega) (by omega), hkd, hln2, hln]
      show H1[H.size]? = some (vp_cell _ _)
      rw [e1, vp_cell_i]
      congr 1
      show ({ cls := cell.cls, slots := cell.slots, vm := .none } : Cell) = ({ cls := gA g 10, slots := (arrV (gA g 10) 6 (fun j => .int (Int32.ofInt (clI a 2 (nx s + 5) (nx s + 5) j)))).slots, vm := .none } : Cell)
      rw [hc4]
      congr 1
      apply Array.ext_getElem?
      intro j
      by_cases hj : j < 6
      · rw [arrV_read _ _ hj, t6 j hj, clI_at, h26.2 j hj]
      · rw [Array.getElem?_eq_none (by omega), Array.getElem?_eq_none (by rw [arrV_size]; omega)]
set_option maxHeartbeats 4000000 in
theorem snd_clB (C : Cxt g y p s0 m args meth c) {pc i : Nat} (hd : decode (cd y) pc = .ok (.invokevirtual i, 3)) (hw : Jvm.Cond.methodLink (CN (ow y)) i ⟨"[B", "clone", "()Ljava/lang/Object;"⟩ ∈ gdW) {r : Nat} {st3 : List Vl} {a : HI} {b : HR} {s : SH} (hk : kd s r = 11) (hst : (st3.map catV).sum ≤ 8) (hfr : 1 ≤ R.frames) (hlo : 22 ≤ R.locals) (hR : RelM g a b s H) (hS : va_S (aA g) s0.heap H locs) (hce : cells + 1 ≤ R.cells) (hsl : slots + (ln s r).toNat ≤ R.slots) {lsC : Array Slot} (hls : lsC.size = mL y) (K : ∀ (H1 : Heap), RelM g (clI a r (nx s + 5)) b (nwS s 11 (ln s r) (ln s r).toNat) H1 → va_S (aA g) s0.heap H1 locs → W p l e R s0 m args below meth c H1 locs (cells + 1) (slots + (ln s r).toNat) Q (F0 m (pc + 3) lsC ((vR (nx s + 5) :: st3).map (cv g)))) : W p l e R s0 m args below meth c H locs cells slots Q (F0 m pc lsC ((vR r :: st3).map (cv g))) := by
  have C0 := C
  obtain ⟨hexec, hb, -, hml, hown, hts, hKK, -, -, hge, heq⟩ := C
  have hr := okK_rng hR.2.2.2.1 (r := r) (by omega)
  have hcell := hR.at (r := r) (by omega)
  rw [cel_I (by omega) (by omega), hk] at hcell
  have hcell : H[adr g r]? = some (vp_cell (gA g 11) ((ln s r).toNat, .inl (fun j => Int32.ofInt (a r j)))) := hcell
  obtain ⟨hARR, hRA⟩ := hKK.1.2 _ _ (tyS_at (k := 11) (g := g) (by omega) (by omega))
  have hby := hR.2.2.2.1.2.2.2.2.2.2 r hk
  have hsz : (vp_cell (gA g 11) ((ln s r).toNat, .inl (fun j => Int32.ofInt (a r j)))).slots.size = (ln s r).toNat := by rw [vp_cell_i, arrV_size]
  rw [List.map_cons, show cv g (vR r) = cvR g r from rfl, cvR_ne (by omega)]
  refine cln_W C0 hd (Or.inr rfl) hw (ty := .byte) hcell (fun k h => by cases h) (fun h => by cases h) hRA hARR (va_fit (fun j _ => ?_)) (fun h => by rw [h]; exact hml) hfr (by rw [cat_cv]; omega) hce (by rw [hsz]; exact hsl) hls fun H1 e1 z1 o1 => ?_
  · have h1 := hby j
    show (decide (-128 ≤ Int32.ofInt (a r j)) && decide (Int32.ofInt (a r j) ≤ 127)) = true
    rw [Bool.and_eq_true, decide_eq_true_eq, decide_eq_true_eq]
    exact ⟨(ofI_le (x := -128) (by omega) (by omega)).mpr h1.1, (ofI_le (y := 127) (by omega) (by omega)).mpr h1.2⟩
  · rw [hsz]
    have := K H1 (RelM.psh hR (fun z hz => clI_ne hz) (fun z _ => rfl) (okK_nw (b := b) hR.2.2.2.1 (by omega) (hR.2.2.2.1.2.2.2.2.2.1 r) (fun z hz => clI_ne hz) (fun j => by rw [clI_at]; exact hR.2.2.2.1.1 _ _) (fun _ j => by rw [clI_at]; exact hby j)) ?_ z1 o1) (push_S hS z1 o1)
    · rw [List.map_cons, show cv g (vR (nx s + 5)) = cvR g (nx s + 5) from rfl, adr_fresh hR] at this
      exact this
    · have hkd : kd (nwS s 11 (ln s r) (ln s r).toNat) (nx s + 5) = 11 := by rw [kd_nw, if_pos rfl]
      have hln2 : ln (nwS s 11 (ln s r) (ln s r).toNat) (nx s + 5) = ln s r := by rw [ln_nw, if_pos rfl]
      rw [cel_I (by omega) (by omega), hkd, hln2]
      show H1[H.size]? = some (vp_cell _ _)
      have e5 : (fun j : Nat => Int32.ofInt (clI a r (nx s + 5) (nx s + 5) j)) = fun j : Nat => Int32.ofInt (a r j) := by funext j; rw [clI_at]
      rw [e1, e5]
      rfl
theorem cpI_ne {a : HI} {q r z : Nat} {sp dp n : Int} (h : z ≠ r) : cpI a q r sp dp n z = a z := by
  funext k'; unfold cpI; rw [if_neg (fun w => h w.1)]
set_option maxHeartbeats 4000000 in
theorem snd_cpy (C : Cxt g y p s0 m args meth c) {pc i : Nat} (hd : decode (cd y) pc = .ok (.invokestatic i, 3)) (hw : Jvm.Cond.methodLink (CN (ow y)) i arraycopyName ∈ gdW) {q r : Nat} {sp dp n : Int} {st3 : List Vl} {a : HI} {b : HR} {s : SH} (hk : kd s q = 10 ∧ kd s r = 10 ∨ kd s q = 11 ∧ kd s r = 11) (h1 : 0 ≤ n) (h2 : 0 ≤ dp) (h3 : 0 ≤ sp) (h4 : sp + n ≤ ln s q) (h5 : dp + n ≤ ln s r) (hst : (st3.map catV).sum ≤ 8) (hfr : 1 ≤ R.frames) (hlo : 26 ≤ R.locals) (hR : RelM g a b s H) (hS : va_S (aA g) s0.heap H locs) {lsC : Array Slot} (hls : lsC.size = mL y) (K : ∀ (H1 : Heap) (locs1 : List Loc), RelM g (cpI a q r sp dp n) b s H1 → va_S (aA g) s0.heap H1 locs1 → W p l e R s0 m args below meth c H1 locs1 cells slots Q (F0 m (pc + 3) lsC (st3.map (cv g)))) : W p l e R s0 m args below meth c H locs cells slots Q (F0 m pc lsC ((vI n :: vI dp :: vR r :: vI sp :: vR q :: st3).map (cv g))) := by
  obtain ⟨hexec, hb, -, hml, hown, hts, hKK, -, -, hge, heq⟩ := C
  have hga := gd_all
  simp only [Bool.and_eq_true, decide_eq_true_eq, List.all_cons, List.all_nil, Bool.and_true] at hga
  have hkd : kd s r = kd s q ∧ 10 ≤ kd s q ∧ kd s q ≤ 11 := by omega
  have hlq := hR.2.2.2.1.2.2.2.2.2.1 q
  have hlr := hR.2.2.2.1.2.2.2.2.2.1 r
  have hq := okK_rng hR.2.2.2.1 (r := q) (by omega)
  have hr := okK_rng hR.2.2.2.1 (r := r) (by omega)
  have hcq := hR.at (r := q) (by omega)
  have hcr := hR.at (r := r) (by omega)
  rw [cel_I (by omega) (by omega)] at hcq hcr
  have hcq : H[adr g q]? = some (vp_cell (gA g (kd s q)) ((ln s q).toNat, .inl (fun j => Int32.ofInt (a q j)))) := hcq
  have hcr : H[adr g r]? = some (vp_cell (gA g (kd s r)) ((ln s r).toNat, .inl (fun j => Int32.ofInt (a r j)))) := hcr
  obtain ⟨hARR, hRA⟩ := hKK.1.2 _ _ (tyS_at (k := kd s q) (g := g) (by omega) (by omega))
  rw [hkd.1] at hcr
  have en : (Int32.ofInt n).toInt = n := toI (by omega)
  have es : (Int32.ofInt sp).toInt = sp := toI (by omega)
  have ed : (Int32.ofInt dp).toInt = dp := toI (by omega)
  have cn : (Int32.ofInt n).toNatClampNeg = n.toNat := ofI_cl (by omega)
  have cs : (Int32.ofInt sp).toNatClampNeg = sp.toNat := ofI_cl (by omega)
  have cdp : (Int32.ofInt dp).toNatClampNeg = dp.toNat := ofI_cl (by omega)
  have neg : ∀ {z : Int}, 0 ≤ z → InR z → ¬ Int32.ofInt z < 0 := fun hz hi => by rw [← ofI_0, ofI_lt hi InR0]; omega
  rw [List.map_cons, List.map_cons, List.map_cons, List.map_cons, List.map_cons, show cv g (vR q) = cvR g q from rfl, show cv g (vR r) = cvR g r from rfl, cvR_ne (r := q) (by omega), cvR_ne (r := r) (by omega)]
  intro T hT X
  obtain ⟨-, k0, hk0, cm0, hkk0⟩ := hARR (ln s q).toNat (fun j => .int (Int32.ofInt (a q j)))
  obtain ⟨-, k1, hk1, cm1, hkk1⟩ := hARR (ln s r).toNat (fun j => .int (Int32.ofInt (a r j)))
  obtain ⟨vm', X', step⟩ := X.arraycopy hexec hown (hts _ hw) (hts _ (gd_in hga.1.1.1.1.1.1.1.1.1.2 rfl)) (hts _ (gd_in hga.1.1.1.1.1.1.1.1.2 rfl)) (hts _ (gd_in hga.1.1.1.1.1.1.1.2 rfl)) (src := adr g q) (dst := adr g r) (cs := vp_cell (gA g (kd s q)) ((ln s q).toNat, .inl (fun j => Int32.ofInt (a q j)))) (cd := vp_cell (gA g (kd s q)) ((ln s r).toNat, .inl (fun j => Int32.ofInt (a r j)))) (srcPos := Int32.ofInt sp) (destPos := Int32.ofInt dp) (n := Int32.ofInt n) (by rw [hT]; exact hcq) (by rw [hT]; exact hcr)
    (fun _ h => by cases h) (fun _ h => by cases h) (fun h => by cases h) (fun h => by cases h) hk0 hk1 hkk0 hkk1 (by
      have : kd s q = 10 ∨ kd s q = 11 := by omega
      rcases this with z | z <;> rw [z] <;> simp [tyK, refKind]) (neg h3 (by omega)) (neg h2 (by omega)) (neg h1 (by omega))
    (by rw [es, en]; show ¬ _ > ((arrV _ (ln s q).toNat _).slots.size : Int); rw [arrV_size]; omega)
    (by rw [ed, en]; show ¬ _ > ((arrV _ (ln s r).toNat _).slots.size : Int); rw [arrV_size]; omega)
    (fun vm₁ _ i hi => by
      rw [cn] at hi
      have e : (vp_cell (gA g (kd s q)) ((ln s q).toNat, .inl (fun j => Int32.ofInt (a q j)))).slots.getD ((Int32.ofInt sp).toNatClampNeg + i) .null = .int (Int32.ofInt (a q ((Int32.ofInt sp).toNatClampNeg + i : Nat))) := by
        show (arrV _ (ln s q).toNat _).slots.getD _ _ = _
        rw [cs, Array.getD_eq_getD_getElem?, arrV_read _ _ (by omega)]
        rfl
      refine ⟨?_, ?_⟩
      · rw [e]
        have : kd s q = 10 ∨ kd s q = 11 := by omega
        rcases this with z | z
        · rw [z]; rfl
        · rw [z]
          have h1 := hR.2.2.2.1.2.2.2.2.2.2 q z (((Int32.ofInt sp).toNatClampNeg + i : Nat) : Int)
          show (decide (-128 ≤ Int32.ofInt (a q _)) && decide (Int32.ofInt (a q _) ≤ 127)) = true
          rw [Bool.and_eq_true, decide_eq_true_eq, decide_eq_true_eq]
          exact ⟨(ofI_le (x := -128) (by omega) (by omega)).mpr h1.1, (ofI_le (y := 127) (by omega) (by omega)).mpr h1.2⟩
      · rw [e]
        exact trivial)
    (g := F0 m pc lsC (.int (Int32.ofInt n) :: .int (Int32.ofInt dp) :: .ref (adr g r) :: .int (Int32.ofInt sp) :: .ref (adr g q) :: st3.map (cv g))) rfl (by rw [hml]; exact hls) (rest := st3.map (cv g)) rfl (by rw [hb]; exact hd) hfr (by
      have e9 : nativeFrameWords "java/lang/System" "arraycopy" 5 = 7 := by decide
      show 2 * 0 + _ + (nativeFrameWords "java/lang/System" "arraycopy" 5 + 11) ≤ _
      rw [cat_cv, e9]; omega)
  have e1 : copied (vp_cell (gA g (kd s q)) ((ln s q).toNat, .inl (fun j => Int32.ofInt (a q j)))) (vp_cell (gA g (kd s q)) ((ln s r).toNat, .inl (fun j => Int32.ofInt (a r j)))) (Int32.ofInt sp) (Int32.ofInt dp) (Int32.ofInt n) = vp_cell (gA g (kd s q)) ((ln s r).toNat, .inl (fun j => Int32.ofInt (cpI a q r sp dp n r j))) := by
    refine (va_copied (fun z => .int z) (gA g (kd s q)) (gA g (kd s q)) (fun j => Int32.ofInt (a q j)) (fun j => Int32.ofInt (a r j)) (by rw [cs, cn]; omega)).trans ?_
    rw [vp_cell_i]
    congr 1
    funext j
    rw [cs, cn, cdp]
    unfold va_cpy cpI
    by_cases hj : dp.toNat ≤ j ∧ j < dp.toNat + n.toNat
    · rw [if_pos hj, if_pos ⟨rfl, by omega, by omega⟩]
      show Value.int (Int32.ofInt (a q ((sp.toNat + (j - dp.toNat) : Nat) : Int))) = _
      rw [show ((sp.toNat + (j - dp.toNat) : Nat) : Int) = sp + ((j : Int) - dp) by omega]
    · rw [if_neg hj, if_neg (fun w => hj (by omega))]
  rw [e1] at X' step
  have hl : adr g r < H.size := (Array.getElem?_eq_some_iff.mp hcr).1
  generalize hNC : vp_cell (gA g (kd s q)) ((ln s r).toNat, .inl (fun j => Int32.ofInt (cpI a q r sp dp n r j))) = NC at X' step
  have hheap : ((T.setVm vm').setCell (adr g r) NC).heap = H.setIfInBounds (adr g r) NC := by rw [← hT]; rfl
  have oq : ∀ z : Nat, z ≠ adr g r → (H.setIfInBounds (adr g r) NC)[z]? = H[z]? := fun z hz => by simp [Array.getElem?_setIfInBounds, Ne.symm hz]
  have hR1 : RelM g (cpI a q r sp dp n) b s (H.setIfInBounds (adr g r) NC) := by
    refine RelM.wr (a' := cpI a q r sp dp n) (b' := b) hR hr (fun z hz => cpI_ne hz) (fun z _ => rfl) ?_ ?_ (by simp) oq
    · obtain ⟨k1, k2, k3, k4, k5, k6, k7⟩ := hR.2.2.2.1
      refine ⟨fun z j => ?_, k2, k3, k4, k5, k6, fun z hz j => ?_⟩
      · unfold cpI; split
        · exact k1 _ _
        · exact k1 _ _
      · unfold cpI; split
        · rename_i w; rw [w.1] at hz; exact k7 q (by omega) _
        · exact k7 z hz _
    · rw [cel_I (by omega) (by omega), hkd.1]
      show (H.setIfInBounds _ _)[adr g r]? = some (vp_cell _ _)
      rw [hNC]
      simp [Array.getElem?_setIfInBounds, hl]
  have hS1 : ∀ LL : List Loc, (∀ z ∈ LL, z.base = adr g r) → va_S (aA g) s0.heap (H.setIfInBounds (adr g r) NC) (locs ++ LL) := by
    intro LL hLL
    refine ⟨by simp; exact hS.1, fun z g1 g2 => ?_, fun z hz => ?_⟩
    · rw [oq z (fun e => g2 (by rw [e]; unfold aA; rw [adr_new hr.1]; omega))]
      exact hS.2.1 z g1 g2
    · rcases List.mem_append.mp hz with h | h
      · exact hS.2.2 z h
      · rw [hLL z h]
        unfold aA
        rw [adr_new hr.1]
        show gN g ≤ gN g + (r - 5)
        omega
  obtain ⟨t, a1, b1⟩ := K _ _ hR1 (hS1 _ (fun z hz => by obtain ⟨w, -, hw⟩ := List.mem_map.mp hz; rw [← hw])) _ hheap X'
  exact ⟨t, step t a1, b1⟩
end NAT
