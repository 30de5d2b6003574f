/-! ===== instructions that make cells; natives ===== -/
theorem okK_nw {s : SH} {a a' : HI} {b b' : HR} {k sl : Nat} {n : Int} (h : okK s a b) (hk : k < 9 ∨ 10 ≤ k ∧ k ≤ 15) (hn : 0 ≤ n ∧ n ≤ 2147483647) (ha : ∀ q, q ≠ nx s + 5 → a' q = a q) (hz : ∀ j, InR (a' (nx s + 5) j)) (hz2 : k = 11 → ∀ j, -128 ≤ a' (nx s + 5) j ∧ a' (nx s + 5) j ≤ 127) : okK (nwS s k n sl) a' b' := by
  obtain ⟨h1, h2, h3, h4, h5, h6, h7⟩ := h
  refine ⟨fun q j => ?_, fun q q1 q2 => ?_, fun q q1 => ?_, ?_, fun q q1 q2 => ?_, fun q => ?_, fun q hq j => ?_⟩
  · by_cases z : q = nx s + 5
    · rw [z]; exact hz j
    · rw [ha q z]; exact h1 q j
  · rw [kd_nw]; rw [nx_nw] at q2
    by_cases z : q = nx s + 5
    · rw [if_pos z]; exact hk
    · rw [if_neg z]; exact h2 q q1 (by omega)
  · rw [kd_nw]; rw [nx_nw] at q1
    rw [if_neg (by omega)]; exact h3 q (by omega)
  · rw [kd_nw, if_neg (by omega)]; exact h4
  · rw [kd_nw, if_neg (by omega)]; exact h5 q q1 q2
  · rw [ln_nw]
    by_cases z : q = nx s + 5
    · rw [if_pos z]; exact hn
    · rw [if_neg z]; exact h6 q
  · rw [kd_nw] at hq
    by_cases z : q = nx s + 5
    · rw [if_pos z] at hq; rw [z]; exact hz2 hq j
    · rw [if_neg z] at hq; rw [ha q z]; exact h7 q hq j
theorem zI_ne {a : HI} {r q : Nat} (h : q ≠ r) : zI a r q = a q := by
  funext k'; unfold zI; rw [if_neg h]
theorem zR_ne {b : HR} {r q : Nat} (h : q ≠ r) : zR b r q = b q := by
  funext k'; unfold zR; rw [if_neg h]
theorem zI_at {a : HI} {r : Nat} {j : Int} : zI a r r j = 0 := if_pos rfl
theorem zR_at {b : HR} {r : Nat} {j : Int} : zR b r r j = 0 := if_pos rfl
theorem clI_ne {a : HI} {r q z : Nat} (h : z ≠ r) : clI a q r z = a z := by
  funext k'; unfold clI; rw [if_neg h]
theorem clI_at {a : HI} {r q : Nat} {j : Int} : clI a q r r j = a q j := if_pos rfl
theorem adr_fresh {g : Gx} {a : HI} {b : HR} {s : SH} {H : Heap} (hR : RelM g a b s H) : cvR g (nx s + 5) = .ref H.size := by
  rw [cvR_ne (by omega), adr_new (by omega), hR.1]
  congr 1
theorem def_fld {g : Gx} {a : HI} {b : HR} {q r k : Nat} (hq : q < 9) (hk : k < CNF q) : defaultValue (CF q k) = fldV g (zI a r) (zR b r) q r k := by
  obtain ⟨-, h1, h2, -⟩ := ty_ok hq hk
  unfold fldV
  by_cases hi : isF q k = true
  · rw [if_pos hi, h1 hi, zI_at]; rfl
  · rw [if_neg hi, zR_at, cvR_0]
    have h3 := h2 (by simpa using hi)
    cases hc : CF q k <;> first | rfl | (rw [hc] at h3; cases h3)
section NEW
variable {p : Program} {l : Launch} {e : Env} {R : Room} {s0 : State} {m : MethodId} {args : Array Value} {below : List Frame} {meth : Method} {c : Code} {H : Heap} {locs : List Loc} {cells slots : Nat} {Q : State → Prop} {g : Gx} {y : Nat}
theorem push_S {A : Nat → Prop} {H0 H1 : Heap} (hS : va_S A H0 H locs) (z : H1.size = H.size + 1) (oq : ∀ q : Nat, q < H.size → H1[q]? = H[q]?) : va_S A H0 H1 locs := ⟨Nat.le_trans hS.1 (by omega), fun x h1 h2 => (oq x (Nat.lt_of_lt_of_le h1 hS.1)).trans (hS.2.1 x h1 h2), hS.2.2⟩
set_option maxHeartbeats 4000000 in
theorem snd_new (C : Cxt g y p s0 m args meth c) {pc i q : Nat} (hd : decode (cd y) pc = .ok (.new i, 3)) (hq : q < 9) (hw : Jvm.Cond.classLink (CN (ow y)) i (CN q) ∈ gdW) (hinst : Jvm.Cond.instantiable (CN q) (CNF q) ∈ gdW) (hini : Jvm.Cond.initialized (CN q) ∈ gdW) {st3 : List Vl} {a : HI} {b : HR} {s : SH} (hR : RelM g a b s H) (hS : va_S (aA g) s0.heap H locs) (hce : cells + 1 ≤ R.cells) (hsl : slots + CNF q ≤ R.slots) {lsC : Array Slot} (K : ∀ (H1 : Heap), RelM g (zI a (nx s + 5)) (zR b (nx s + 5)) (nwS s q 0 (CNF q)) H1 → va_S (aA g) s0.heap H1 locs → W p l e R s0 m args below meth c H1 locs (cells + 1) (slots + CNF q) Q (F0 m (pc + 3) lsC ((vR (nx s + 5) :: st3).map (cv g)))) : W p l e R s0 m args below meth c H locs cells slots Q (F0 m pc lsC (st3.map (cv g))) := by
  obtain ⟨hexec, hb, -, -, hown, hts, hKK, -, -, hge, heq⟩ := C
  have hKn := hKK.1.1 q _ (vw_at hq)
  refine W.newcK hexec hb hown (hts _ hw) (hts _ hinst) (hts _ hini) rfl hd hce hsl hKn.2.1 rfl fun H1 kC hkC e1 z1 o1 => ?_
  have := K H1 (RelM.psh hR (fun z hz => zI_ne hz) (fun z hz => zR_ne hz) (okK_nw hR.2.2.2.1 (Or.inl hq) (by omega) (fun z hz => zI_ne hz) (fun j => by rw [zI_at]; omega) (fun _ j => by rw [zI_at]; omega)) ?_ z1 o1) (push_S hS z1 o1)
  · rw [List.map_cons, show cv g (vR (nx s + 5)) = cvR g (nx s + 5) from rfl, adr_fresh hR] at this
    exact this
  · have hkd : kd (nwS s q 0 (CNF q)) (nx s + 5) = q := by rw [kd_nw, if_pos rfl]
    rw [cel_O (by omega), hkd]
    refine ⟨_, vw_at hq, (u_born (CF q) hts (lay_in hq) hKn hkC e1 (fun k hk => (ty_ok hq hk).1)).to (fun j hj => ?_)⟩
    rw [vpV_fld hj]
    exact def_fld hq hj
set_option maxHeartbeats 4000000 in
theorem snd_newa (C : Cxt g y p s0 m args meth c) {pc k : Nat} {t : ArrayType} (hd : decode (cd y) pc = .ok (.newarray t, 2)) (ht : arK t = k) (hk : k ≠ 99) {n : Int} {st3 : List Vl} {a : HI} {b : HR} {s : SH} (hn : 0 ≤ n ∧ n ≤ 100000) (hR : RelM g a b s H) (hS : va_S (aA g) s0.heap H locs) (hce : cells + 1 ≤ R.cells) (hsl : slots + n.toNat ≤ R.slots) {lsC : Array Slot} (K : ∀ (H1 : Heap), RelM g (zI a (nx s + 5)) b (nwS s k n n.toNat) H1 → va_S (aA g) s0.heap H1 locs → W p l e R s0 m args below meth c H1 locs (cells + 1) (slots + n.toNat) Q (F0 m (pc + 2) lsC ((vR (nx s + 5) :: st3).map (cv g)))) : W p l e R s0 m args below meth c H locs cells slots Q (F0 m pc lsC ((vI n :: st3).map (cv g))) := by
  obtain ⟨hexec, hb, -, -, hown, hts, hKK, -, -, hge, heq⟩ := C
  have hga := gd_all
  simp only [Bool.and_eq_true, decide_eq_true_eq] at hga
  have hk2 : (k = 10 ∨ k = 11 ∨ k = 12 ∨ k = 13) ∧ newarray.typeOf t = tyK k ∧ Jvm.Cond.arrayClass (newarray.typeOf t) ∈ gdW := by
    cases t <;> first | (exfalso; exact hk ht.symm) | (subst ht; refine ⟨by decide, rfl, gd_in ?_ rfl⟩; first | exact hga.1.1.1.1.1.1.2 | exact hga.1.1.1.1.1.2 | exact hga.1.1.1.1.2 | exact hga.1.1.1.2)
  obtain ⟨hk3, hty, hwd⟩ := hk2
  have hcl := ofI_cl (i := n) (by omega)
  have hcb : componentBytes (newarray.typeOf t) ≤ 8 := by
    cases t <;> decide
  refine va_newaK (N := n.toNat) hexec hb (hts _ hwd) rfl hd rfl (by rw [← ofI_0, ofI_lt (by omega) InR0]; omega) hcl (Nat.le_trans (Nat.mul_le_mul (show n.toNat ≤ 100000 by omega) hcb) (by omega)) hce hsl rfl fun H1 cA e1 z1 o1 hAr hfc => ?_
  obtain ⟨hARR, hRA⟩ := hKK.1.2 _ _ (tyS_at (k := k) (g := g) (by omega) (by omega))
  have hcA : cA = gA g k := by
    have h2 : s0.vm.findClass ("[" ++ (tyK k).toString) = some (gA g k) := by
      rcases hk3 with rfl | rfl | rfl | rfl <;> exact hRA
    rw [hty] at hfc
    exact Option.some.inj (hfc.symm.trans h2)
  subst hcA
  have := K H1 (RelM.psh hR (fun z hz => zI_ne hz) (fun z _ => rfl) (okK_nw (b := b) hR.2.2.2.1 (by omega) (by omega) (fun z hz => zI_ne hz) (fun j => by rw [zI_at]; omega) (fun _ j => by rw [zI_at]; omega)) ?_ z1 o1) (push_S hS z1 o1)
  · rw [List.map_cons, show cv g (vR (nx s + 5)) = cvR g (nx s + 5) from rfl, adr_fresh hR] at this
    exact this
  · have hkd : kd (nwS s k n n.toNat) (nx s + 5) = k := by rw [kd_nw, if_pos rfl]
    have hln : ln (nwS s k n n.toNat) (nx s + 5) = n := by rw [ln_nw, if_pos rfl]
    rw [cel_I (by omega) (by omega), hkd, hln]
    show H1[H.size]? = some (vp_cell _ _)
    rw [e1, vp_cell_i, hty]
    congr 2
    funext j
    rw [zI_at]
    rcases hk3 with rfl | rfl | rfl | rfl <;> rfl
set_option maxHeartbeats 4000000 in
theorem snd_anew (C : Cxt g y p s0 m args meth c) {pc i k : Nat} (hd : decode (cd y) pc = .ok (.anewarray i, 3)) (hk : k = 14 ∨ k = 15) (hw : Jvm.Cond.classLink (CN (ow y)) i (if k = 14 then RX6 else RX0) ∈ gdW) {n : Int} {st3 : List Vl} {a : HI} {b : HR} {s : SH} (hn : 0 ≤ n ∧ n ≤ 100000) (hR : RelM g a b s H) (hS : va_S (aA g) s0.heap H locs) (hce : cells + 1 ≤ R.cells) (hsl : slots + n.toNat ≤ R.slots) {lsC : Array Slot} (K : ∀ (H1 : Heap), RelM g a (zR b (nx s + 5)) (nwS s k n n.toNat) H1 → va_S (aA g) s0.heap H1 locs → W p l e R s0 m args below meth c H1 locs (cells + 1) (slots + n.toNat) Q (F0 m (pc + 3) lsC ((vR (nx s + 5) :: st3).map (cv g)))) : W p l e R s0 m args below meth c H locs cells slots Q (F0 m pc lsC ((vI n :: st3).map (cv g))) := by
  obtain ⟨hexec, hb, -, -, hown, hts, hKK, -, -, hge, heq⟩ := C
  have hcl := ofI_cl (i := n) (by omega)
  have hAO : va_AO (if k = 14 then RX6 else RX0) s0 := by
    rcases hk with rfl | rfl
    · exact hKK.2.2.2.2.2.2.2.1
    · exact hKK.2.2.2.2.2.2.2.2.1
  obtain ⟨hARR, hRA⟩ := hKK.1.2 _ _ (tyS_at (k := k) (g := g) (by omega) (by omega))
  refine W.anew (n := Int32.ofInt n) hexec hb hown (hts _ hw) (va_AO.use hAO) rfl hd rfl (by rw [← ofI_0, ofI_lt (by omega) InR0]; omega) (by rw [hcl]; omega) hce (by rw [hcl]; exact hsl) fun cA kA comp f1 f2 f3 f4 => ?_
  have hcA : cA = gA g k := by
    rcases hk with rfl | rfl
    · obtain ⟨_, _, _, _, _, h⟩ := hRA
      exact Option.some.inj (f1.symm.trans h)
    · obtain ⟨_, _, _, _, _, h⟩ := hRA
      exact Option.some.inj (f1.symm.trans h)
  subst hcA
  rw [hcl]
  generalize hH1 : H.push ({ cls := gA g k, slots := Array.replicate n.toNat .null, vm := .none } : Cell) = H1
  have z1 : H1.size = H.size + 1 := by rw [← hH1, Array.size_push]
  have e1 : H1[H.size]? = some (arrV (gA g k) n.toNat (fun _ => .null)) := by rw [← hH1, Array.getElem?_push_size, ← arrV_new]
  have o1 : ∀ q : Nat, q < H.size → H1[q]? = H[q]? := fun q hq => by rw [← hH1, Array.getElem?_push, if_neg (Nat.ne_of_lt hq)]
  have := K H1 (RelM.psh hR (fun z _ => rfl) (fun z hz => zR_ne hz) (okK_nw (b := b) hR.2.2.2.1 (by omega) (by omega) (fun z _ => rfl) (fun j => hR.2.2.2.1.1 _ _) (fun q => by omega)) ?_ z1 o1) (push_S hS z1 o1)
  · rw [List.map_cons, show cv g (vR (nx s + 5)) = cvR g (nx s + 5) from rfl, adr_fresh hR] at this
    exact this
  · have hkd : kd (nwS s k n n.toNat) (nx s + 5) = k := by rw [kd_nw, if_pos rfl]
    have hln : ln (nwS s k n n.toNat) (nx s + 5) = n := by rw [ln_nw, if_pos rfl]
    rw [cel_Q (by omega), hkd, hln]
    show H1[H.size]? = some (vp_cell _ _)
    rw [e1, vp_cell_q]
    congr 2
    funext j
    rw [zR_at]
    rfl
set_option maxHeartbeats 4000000 in
/-- a row's clone: the cell made anew -/
theorem cln_W (C : Cxt g y p s0 m args meth c) {pc i : Nat} (hd : decode (cd y) pc = .ok (.invokevirtual i, 3)) {ad : String} (had : ad = "[I" ∨ ad = "[B") (hw : Jvm.Cond.methodLink (CN (ow y)) i ⟨ad, "clone", "()Ljava/lang/Object;"⟩ ∈ gdW) {q : Nat} {cell : Cell} {ty : FieldType} {rest : List Value} (hcell : H[q]? = some cell) (hobj : ∀ k, cell.vm ≠ .statics k) (hknown : cell.vm ≠ .unknown) (hcls : s0.vm.findClass ad = some cell.cls) (harr : ArrOfT s0 cell.cls ty) (hfit : ∀ (j : Nat) (v : Value), cell.slots[j]? = some v → fits ty v = true) (hml : ∀ {lsC : Array Slot}, lsC.size = mL y → c.maxLocals = lsC.size) (hfr : 1 ≤ R.frames) (hlo : (rest.map fun v => v.category).sum + 14 ≤ R.locals) (hce : cells + 1 ≤ R.cells) (hsl : slots + cell.slots.size ≤ R.slots) {lsC : Array Slot} (hls : lsC.size = mL y)
    (K : ∀ (H1 : Heap), H1[H.size]? = some { cls := cell.cls, slots := cell.slots } → H1.size = H.size + 1 → (∀ z : Nat, z < H.size → H1[z]? = H[z]?) → W p l e R s0 m args below meth c H1 locs (cells + 1) (slots + cell.slots.size) Q (F0 m (pc + 3) lsC (.ref H.size :: rest))) : W p l e R s0 m args below meth c H locs cells slots Q (F0 m pc lsC (.ref q :: rest)) := by
  obtain ⟨hexec, hb, -, -, hown, hts, hKK, -, -, hge, heq⟩ := C
  have hga := gd_all
  simp only [Bool.and_eq_true, decide_eq_true_eq, List.all_cons, List.all_nil, Bool.and_true] at hga
  have hcl : va_Nw (.castable ad "java/lang/Cloneable") s0 := by
    rcases had with rfl | rfl
    · exact hKK.2.2.2.2.2.2.2.2.2.1
    · exact hKK.2.2.2.2.2.2.2.2.2.2.1
  have hsame : Jvm.Cond.sameMethod ad "java/lang/Object" "clone" "()Ljava/lang/Object;" ∈ gdW ∧ Jvm.Cond.selects ad ⟨ad, "clone", "()Ljava/lang/Object;"⟩ ⟨"java/lang/Object", "clone", "()Ljava/lang/Object;"⟩ ∈ gdW := by
    rcases had with rfl | rfl
    · exact ⟨gd_in hga.2.1.1 rfl, gd_in hga.2.1.2 rfl⟩
    · exact ⟨gd_in hga.2.2.1 rfl, gd_in hga.2.2.2 rfl⟩
  obtain ⟨c0, t0', f1, f2, f3⟩ := Cond.castable_spec (va_Nw.use (A := args) rfl hcl)
  cases hcls.symm.trans f1
  intro T hT X
  obtain ⟨-, kA, hkA, comp, hkind⟩ := State.isArrayOf_alike X.warmed.alike (harr 0 (fun _ => .null))
  obtain ⟨-, kS, hkS, compS, hkindS⟩ := harr 0 (fun _ => .null)
  obtain ⟨vm', X', st⟩ := X.cloneArray hexec hown (hts _ hw) (hts _ hsame.1) (hts _ (gd_in hga.1.1.2 rfl)) (hts _ (gd_in hga.1.2 rfl)) (hts _ hsame.2) (a := q) (cell := cell) (by rw [hT]; exact hcell) hobj hknown hcls f2 f3
    (fun i v hv => by
      have hk' : T.vm.classes[cell.cls]? = some kA := hkA
      simpa [State.fitsSlot, State.slotType?, hk', hkind] using hfit i v hv)
    (g := F0 m pc lsC (.ref q :: rest)) rfl (by rw [hml hls]) rfl (by rw [hb]; exact hd) hfr (by show 2 * 0 + _ + 14 ≤ _; omega) hce hsl (hloader := Vm.clonesLoader_of_array hkS hkindS)
  generalize hH1 : H.push ({ cls := cell.cls, slots := cell.slots } : Cell) = H1
  have z1 : H1.size = H.size + 1 := by rw [← hH1, Array.size_push]
  have e1 : H1[H.size]? = some { cls := cell.cls, slots := cell.slots } := by rw [← hH1, Array.getElem?_push_size]
  have o1 : ∀ z : Nat, z < H.size → H1[z]? = H[z]? := fun z hz => by rw [← hH1, Array.getElem?_push, if_neg (Nat.ne_of_lt hz)]
  obtain ⟨t, b1, b2⟩ := K H1 e1 z1 o1 ((T.setVm vm').pushCell { cls := cell.cls, slots := cell.slots }) (by rw [← hH1, ← hT]; rfl) X'
  refine ⟨t, st t ?_, b2⟩
  rw [hT]
  exact b1
end NEW
