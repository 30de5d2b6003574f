/-! ===== any instruction but calls and returns ===== -/
section SN1
variable {p : Program} {l : Launch} {e : Env} {R : Room} {s0 : State} {m : MethodId} {args : Array Value} {below : List Frame} {meth : Method} {c : Code} {H : Heap} {locs : List Loc} {cells slots : Nat} {Q : State → Prop} {g : Gx} {y : Nat}
theorem annot_fld {pc i : Nat} {an : List Nat} (h : annot y pc (.getfield i) = some an) : ∃ z q k, an = [z, q, k] ∧ (z = 0 ∨ z = 1) ∧ look (ow y) (2 * i) = some an := by
  unfold annot at h
  simp only at h
  split at h
  · cases h; rename_i h; exact ⟨_, _, _, rfl, Or.inl rfl, h⟩
  · cases h; rename_i h; exact ⟨_, _, _, rfl, Or.inr rfl, h⟩
  · cases h
theorem annot_put {pc i : Nat} {an : List Nat} (h : annot y pc (.putfield i) = some an) : ∃ z q k, an = [z, q, k] ∧ (z = 0 ∨ z = 1) ∧ look (ow y) (2 * i) = some an ∧ ((CT q k).2.2.2 = false ∨ (q = ow y ∧ (nm y).name = "<init>")) := by
  unfold annot at h
  simp only at h
  split at h
  · rename_i h2
    split at h
    · rename_i h3; cases h; exact ⟨_, _, _, rfl, Or.inl rfl, h2, h3⟩
    · cases h
  · rename_i h2
    split at h
    · rename_i h3; cases h; exact ⟨_, _, _, rfl, Or.inr rfl, h2, h3⟩
    · cases h
  · cases h
theorem fld_tab {key z q k : Nat} (hz : z = 0 ∨ z = 1) (h : look (ow y) key = some [z, q, k]) : q < 9 ∧ k < CNF q ∧ (isF q k = true ↔ z = 0) ∧ (CT q k).1 = CN q ∧ Jvm.Cond.fieldLink (CN (ow y)) (key / 2) (CT q k).1 (CT q k).2.1 (CT q k).2.2.1 ∈ gdW := by
  obtain ⟨pl, h1, h2, -⟩ := look_ok h
  rcases hz with rfl | rfl
  · have h3 := h2 rfl
    simp only [moreOf, Bool.and_eq_true, decide_eq_true_eq] at h1
    exact ⟨h1.1.1.1, h1.1.1.2, ⟨fun _ => rfl, fun _ => h1.1.2⟩, h1.2, h3⟩
  · have h3 := h2 rfl
    simp only [moreOf, Bool.and_eq_true, decide_eq_true_eq, Bool.not_eq_true'] at h1
    exact ⟨h1.1.1.1.1, h1.1.1.1.2, ⟨fun w => absurd (h1.1.1.2.symm.trans w) (by decide), fun w => absurd w (by decide)⟩, h1.1.2, h3⟩
theorem cmp_R (u : Nat) : InR (if u = 0 then 0 else if u < 2 ^ 63 then 1 else -1) := by
  by_cases q : u = 0
  · rw [if_pos q]; omega
  · rw [if_neg q]
    by_cases q2 : u < 2 ^ 63
    · rw [if_pos q2]; omega
    · rw [if_neg q2]; omega
theorem k2i (i : Nat) : 2 * i / 2 = i := by omega
theorem k2j (i : Nat) : (2 * i + 1) / 2 = i := by omega
set_option maxHeartbeats 8000000 in
theorem snd1 (C : Cxt g y p s0 m args meth c) (hfr : dp y ≤ R.frames) (hlo : lc y ≤ R.locals) {pc len : Nat} {ins : Instr} {an : List Nat} (hf : fetch y pc = some (len, ins, an)) {ls st ls1 st2 : List Vl} {a a1 : HI} {b b1 : HR} {s s1 : SH} {j : Option Nat} (hs : st1 ins an ls st a b s = some (j, ls1, st2, a1, b1, s1)) (hR : RelM g a b s H) (hS : va_S (aA g) s0.heap H locs) {lsC : Array Slot} (hL : lsR g lsC (mL y) ls) (hv : okL ls) (hw : okL st) (hce : cells + (nx s1 - nx s) ≤ R.cells) (hsl : slots + (ns s1 - ns s) ≤ R.slots)
    (kk : ∀ (H1 : Heap) (locs1 : List Loc) (lsC1 : Array Slot), RelM g a1 b1 s1 H1 → va_S (aA g) s0.heap H1 locs1 → lsR g lsC1 (mL y) ls1 → okL ls1 → okL st2 → W p l e R s0 m args below meth c H1 locs1 (cells + (nx s1 - nx s)) (slots + (ns s1 - ns s)) Q (F0 m (j.getD (pc + len)) lsC1 (st2.map (cv g)))) : W p l e R s0 m args below meth c H locs cells slots Q (F0 m pc lsC (st.map (cv g))) := by
  obtain ⟨hd, han, hlen⟩ := fetch_some hf
  have hexec := C.1
  have hb := C.2.1
  have hml := C.2.2.2.1
  have hown := C.2.2.2.2.1
  have hts := C.2.2.2.2.2.1
  have hKK := C.2.2.2.2.2.2.1
  have K0 : ∀ (ls2 st3 : List Vl) (lsC2 : Array Slot), go1 ls2 st3 a b s = some (j, ls1, st2, a1, b1, s1) → lsR g lsC2 (mL y) ls2 → okL ls2 → okL st3 → W p l e R s0 m args below meth c H locs cells slots Q (F0 m (pc + len) lsC2 (st3.map (cv g))) := by
    intro ls2 st3 lsC2 h h1 h2 h3
    obtain ⟨rfl, rfl, rfl, rfl, rfl, rfl⟩ := go_some h
    have := kk H locs lsC2 hR hS h1 h2 h3
    simpa only [Nat.sub_self, Nat.add_zero, Option.getD_none] using this
  have KM : ∀ (st3 : List Vl) (a' : HI) (b' : HR), go1 ls st3 a' b' s = some (j, ls1, st2, a1, b1, s1) → okL st3 → ∀ (H1 : Heap) (locs1 : List Loc), RelM g a' b' s H1 → va_S (aA g) s0.heap H1 locs1 → W p l e R s0 m args below meth c H1 locs1 cells slots Q (F0 m (pc + len) lsC (st3.map (cv g))) := by
    intro st3 a' b' h h3 H1 locs1 r1 r2
    obtain ⟨rfl, rfl, rfl, rfl, rfl, rfl⟩ := go_some h
    have := kk H1 locs1 lsC r1 r2 hL hv h3
    simpa only [Nat.sub_self, Nat.add_zero, Option.getD_none] using this
  have KB : ∀ (cnd : Bool) (t : Nat) (st3 : List Vl), br1 cnd t ls st3 a b s = some (j, ls1, st2, a1, b1, s1) → okL st3 → (cnd = true → W p l e R s0 m args below meth c H locs cells slots Q (F0 m t lsC (st3.map (cv g)))) ∧ (cnd = false → W p l e R s0 m args below meth c H locs cells slots Q (F0 m (pc + len) lsC (st3.map (cv g)))) := by
    intro cnd t st3 h h3
    obtain ⟨hj, rfl, rfl, rfl, rfl, rfl⟩ := br_some h
    have := kk H locs lsC hR hS hL hv h3
    rw [Nat.sub_self, Nat.sub_self, Nat.add_zero, Nat.add_zero] at this
    constructor
    · intro hc; rw [hj, if_pos hc] at this; exact this
    · intro hc; rw [hj, if_neg (by rw [hc]; decide)] at this; exact this
  have KJ : ∀ (t : Nat) (st3 : List Vl), (some (some t, ls, st3, a, b, s) : St) = some (j, ls1, st2, a1, b1, s1) → okL st3 → W p l e R s0 m args below meth c H locs cells slots Q (F0 m t lsC (st3.map (cv g))) := by
    intro t st3 h h3
    cases h
    have := kk H locs lsC hR hS hL hv h3
    rw [Nat.sub_self, Nat.sub_self, Nat.add_zero, Nat.add_zero] at this
    exact this
  cases ins with
  | iconst n =>
    have hl1 : len = 1 := hlen
    subst hl1
    obtain ⟨hn, -⟩ : (-128 ≤ n ∧ n ≤ 127) ∧ _ := if_some' han
    exact lv_iconst hexec hb hd rfl (K0 _ _ _ hs hL hv (okL_cons.mpr ⟨show InR n by omega, hw⟩))
  | bipush n =>
    have hl1 : len = 2 := hlen
    subst hl1
    obtain ⟨hn, -⟩ : (-128 ≤ n ∧ n ≤ 127) ∧ _ := if_some' han
    exact lv_bipush hexec hb hd (ofI_i8 hn.1 hn.2) (K0 _ _ _ hs hL hv (okL_cons.mpr ⟨show InR n by omega, hw⟩))
  | sipush n =>
    have hl1 : len = 3 := hlen
    subst hl1
    obtain ⟨hn, -⟩ : (-32768 ≤ n ∧ n ≤ 32767) ∧ _ := if_some' han
    exact lv_sipush hexec hb hd (ofI_i16 hn.1 hn.2) (K0 _ _ _ hs hL hv (okL_cons.mpr ⟨show InR n by omega, hw⟩))
  | lconst n =>
    have hl1 : len = 1 := hlen
    subst hl1
    exact lv_lconst hexec hb hd rfl (K0 _ _ _ hs hL hv (okL_cons.mpr ⟨show n.val < 2 ^ 64 by omega, hw⟩))
  | ldc i =>
    have hl1 : len = 2 := hlen
    subst hl1
    obtain ⟨v, rfl, h⟩ : ∃ v, an = [12, v] ∧ look (ow y) (2 * i) = some [12, v] := by
      unfold annot at han
      simp only at han
      split at han
      · rename_i h; cases han; exact ⟨_, rfl, h⟩
      · cases han
    obtain ⟨pl, h1, h2, -⟩ := look_ok h
    have h3 := h2 rfl
    simp only [moreOf, decide_eq_true_eq] at h1
    simp only [condOf, k2i] at h3
    have := K0 _ _ _ hs hL hv (okL_cons.mpr ⟨show InR v by omega, hw⟩)
    rw [List.map_cons, show cv g (vI v) = .int (Int32.ofInt v) from rfl, ofI_nat] at this
    exact lv_ldc hexec hb hown (hts _ h3) hd this
  | ldc_w i =>
    have hl1 : len = 3 := hlen
    subst hl1
    obtain ⟨v, rfl, h⟩ : ∃ v, an = [12, v] ∧ look (ow y) (2 * i) = some [12, v] := by
      unfold annot at han
      simp only at han
      split at han
      · rename_i h; cases han; exact ⟨_, rfl, h⟩
      · cases han
    obtain ⟨pl, h1, h2, -⟩ := look_ok h
    have h3 := h2 rfl
    simp only [moreOf, decide_eq_true_eq] at h1
    simp only [condOf, k2i] at h3
    have := K0 _ _ _ hs hL hv (okL_cons.mpr ⟨show InR v by omega, hw⟩)
    rw [List.map_cons, show cv g (vI v) = .int (Int32.ofInt v) from rfl, ofI_nat] at this
    exact lv_ldcw hexec hb hown (hts _ h3) hd this
  | ldc2_w i =>
    have hl1 : len = 3 := hlen
    subst hl1
    obtain ⟨v, rfl, h⟩ : ∃ v, an = [13, v] ∧ look (ow y) (2 * i) = some [13, v] := by
      unfold annot at han
      simp only at han
      split at han
      · rename_i h; cases han; exact ⟨_, rfl, h⟩
      · cases han
    obtain ⟨pl, h1, h2, -⟩ := look_ok h
    have h3 := h2 rfl
    simp only [moreOf, decide_eq_true_eq] at h1
    simp only [condOf, k2i] at h3
    exact lv_ldc2 hexec hb hown (hts _ h3) hd (K0 _ _ _ hs hL hv (okL_cons.mpr ⟨show v < 2 ^ 64 by omega, hw⟩))
  | iload_n k => exact snd_ld hexec hb hd (Or.inl ⟨rfl, Or.inl ⟨k, rfl, rfl, hlen⟩⟩) hs hL hv hw K0
  | iload k => exact snd_ld hexec hb hd (Or.inl ⟨rfl, Or.inr ⟨rfl, hlen⟩⟩) hs hL hv hw K0
  | aload_n k => exact snd_ld hexec hb hd (Or.inr (Or.inl ⟨rfl, Or.inl ⟨k, rfl, rfl, hlen⟩⟩)) hs hL hv hw K0
  | aload k => exact snd_ld hexec hb hd (Or.inr (Or.inl ⟨rfl, Or.inr ⟨rfl, hlen⟩⟩)) hs hL hv hw K0
  | lload_n k => exact snd_ld hexec hb hd (Or.inr (Or.inr ⟨rfl, Or.inl ⟨k, rfl, rfl, hlen⟩⟩)) hs hL hv hw K0
  | lload k => exact snd_ld hexec hb hd (Or.inr (Or.inr ⟨rfl, Or.inr ⟨rfl, hlen⟩⟩)) hs hL hv hw K0
  | istore_n k => exact snd_so hexec hb hd (Or.inl ⟨rfl, Or.inl ⟨k, rfl, rfl, hlen⟩⟩) hs hL hv hw K0
  | istore k => exact snd_so hexec hb hd (Or.inl ⟨rfl, Or.inr ⟨rfl, hlen⟩⟩) hs hL hv hw K0
  | astore_n k => exact snd_so hexec hb hd (Or.inr (Or.inl ⟨rfl, Or.inl ⟨k, rfl, rfl, hlen⟩⟩)) hs hL hv hw K0
  | astore k => exact snd_so hexec hb hd (Or.inr (Or.inl ⟨rfl, Or.inr ⟨rfl, hlen⟩⟩)) hs hL hv hw K0
  | lstore_n k => exact snd_so hexec hb hd (Or.inr (Or.inr ⟨rfl, Or.inl ⟨k, rfl, rfl, hlen⟩⟩)) hs hL hv hw K0
  | lstore k => exact snd_so hexec hb hd (Or.inr (Or.inr ⟨rfl, Or.inr ⟨rfl, hlen⟩⟩)) hs hL hv hw K0
  | iinc k n =>
    have hl1 : len = 3 := hlen
    subst hl1
    obtain ⟨x, hx, h⟩ : ∃ x, ls[k]? = some (vI x) ∧ (if InR (x + n) then go1 (stL ls k (vI (x + n))) st a b s else none) = some (j, ls1, st2, a1, b1, s1) := by
      simp only [st1] at hs
      split at hs
      · rename_i x hx; exact ⟨x, hx, hs⟩
      · cases hs
    obtain ⟨hI, h⟩ := if_some h
    have hmem : (k, cv g (vI x)) ∈ lvl g ls := lvl_mem.mpr ⟨_, hx, (fun q => by cases q), rfl⟩
    obtain ⟨z, hz⟩ := List.getElem?_of_mem hmem
    exact lv_iinc (v := Int32.ofInt (x + n)) hexec hb hd hL.has hz (Int32.ofInt_add x n).symm (by rw [← hL.1]; exact (List.getElem?_eq_some_iff.mp hx).1) rfl (fun lsC2 hh => K0 _ _ _ h (hL.st1 hh) (okL_st hv hI) hw)
  | iadd =>
    have hl1 : len = 1 := hlen
    subst hl1
    obtain ⟨x, z, rest, rfl, h⟩ := i2_some hs
    obtain ⟨hI, h⟩ := if_some h
    have := K0 _ _ _ h hL hv (okL_cons.mpr ⟨hI, (okL_cons.mp (okL_cons.mp hw).2).2⟩)
    rw [List.map_cons, show cv g (vI (x + z)) = .int (Int32.ofInt (x + z)) from rfl, Int32.ofInt_add] at this
    exact lv_iadd hexec hb hd this
  | isub =>
    have hl1 : len = 1 := hlen
    subst hl1
    obtain ⟨x, z, rest, rfl, h⟩ := i2_some hs
    obtain ⟨hI, h⟩ := if_some h
    have := K0 _ _ _ h hL hv (okL_cons.mpr ⟨hI, (okL_cons.mp (okL_cons.mp hw).2).2⟩)
    rw [List.map_cons, show cv g (vI (x - z)) = .int (Int32.ofInt (x - z)) from rfl, Int32.ofInt_sub] at this
    exact lv_isub hexec hb hd this
  | imul =>
    have hl1 : len = 1 := hlen
    subst hl1
    obtain ⟨x, z, rest, rfl, h⟩ := i2_some hs
    obtain ⟨hI, h⟩ := if_some h
    have := K0 _ _ _ h hL hv (okL_cons.mpr ⟨hI, (okL_cons.mp (okL_cons.mp hw).2).2⟩)
    rw [List.map_cons, show cv g (vI (x * z)) = .int (Int32.ofInt (x * z)) from rfl, Int32.ofInt_mul] at this
    exact lv_imul hexec hb hd this
  | idiv =>
    have hl1 : len = 1 := hlen
    subst hl1
    obtain ⟨x, z, rest, rfl, h⟩ := i2_some hs
    obtain ⟨hI, h⟩ := if_some h
    obtain ⟨hz, hw2⟩ := okL_cons.mp hw
    obtain ⟨hx, hw3⟩ := okL_cons.mp hw2
    have hz : InR z := hz
    have hx : InR x := hx
    have hq1 : x / z ≤ x := Int.ediv_le_self _ hI.1
    have hq2 : 0 ≤ x / z := Int.ediv_nonneg hI.1 (by omega)
    have := K0 _ _ _ h hL hv (okL_cons.mpr ⟨show InR (x / z) by omega, hw3⟩)
    rw [List.map_cons, show cv g (vI (x / z)) = .int (Int32.ofInt (x / z)) from rfl, ← ofI_div hx hz hI.1 hI.2] at this
    exact lv_idiv hexec hb hd (ofI_ne0 hz hI.2) this
  | irem =>
    have hl1 : len = 1 := hlen
    subst hl1
    obtain ⟨x, z, rest, rfl, h⟩ := i2_some hs
    obtain ⟨hI, h⟩ := if_some h
    obtain ⟨hz, hw2⟩ := okL_cons.mp hw
    obtain ⟨hx, hw3⟩ := okL_cons.mp hw2
    have hz : InR z := hz
    have hx : InR x := hx
    have hq1 : x % z < z := Int.emod_lt_of_pos _ hI.2
    have hq2 : 0 ≤ x % z := Int.emod_nonneg _ (by omega)
    have := K0 _ _ _ h hL hv (okL_cons.mpr ⟨show InR (x % z) by omega, hw3⟩)
    rw [List.map_cons, show cv g (vI (x % z)) = .int (Int32.ofInt (x % z)) from rfl, ← ofI_rem hx hz hI.1 hI.2] at this
    exact lv_irem hexec hb hd (ofI_ne0 hz hI.2) this
  | iand =>
    have hl1 : len = 1 := hlen
    subst hl1
    obtain ⟨x, z, rest, rfl, h⟩ := i2_some hs
    have := K0 _ _ _ h hL hv (okL_cons.mpr ⟨InR_toInt _, (okL_cons.mp (okL_cons.mp hw).2).2⟩)
    rw [List.map_cons, show cv g (vI (iA x z)) = .int (Int32.ofInt (iA x z)) from rfl, iA, Int32.ofInt_toInt] at this
    exact lv_iand hexec hb hd this
  | ior =>
    have hl1 : len = 1 := hlen
    subst hl1
    obtain ⟨x, z, rest, rfl, h⟩ := i2_some hs
    have := K0 _ _ _ h hL hv (okL_cons.mpr ⟨InR_toInt _, (okL_cons.mp (okL_cons.mp hw).2).2⟩)
    rw [List.map_cons, show cv g (vI (iO x z)) = .int (Int32.ofInt (iO x z)) from rfl, iO, Int32.ofInt_toInt] at this
    exact lv_ior hexec hb hd this
  | ixor =>
    have hl1 : len = 1 := hlen
    subst hl1
    obtain ⟨x, z, rest, rfl, h⟩ := i2_some hs
    have := K0 _ _ _ h hL hv (okL_cons.mpr ⟨InR_toInt _, (okL_cons.mp (okL_cons.mp hw).2).2⟩)
    rw [List.map_cons, show cv g (vI (iX x z)) = .int (Int32.ofInt (iX x z)) from rfl, iX, Int32.ofInt_toInt] at this
    exact lv_ixor hexec hb hd this
  | ishl =>
    have hl1 : len = 1 := hlen
    subst hl1
    obtain ⟨x, z, rest, rfl, h⟩ := i2_some hs
    have := K0 _ _ _ h hL hv (okL_cons.mpr ⟨InR_toInt _, (okL_cons.mp (okL_cons.mp hw).2).2⟩)
    rw [List.map_cons, show cv g (vI (iL x z)) = .int (Int32.ofInt (iL x z)) from rfl, iL, Int32.ofInt_toInt] at this
    exact lv_ishl hexec hb hd this
  | ishr =>
    have hl1 : len = 1 := hlen
    subst hl1
    obtain ⟨x, z, rest, rfl, h⟩ := i2_some hs
    have := K0 _ _ _ h hL hv (okL_cons.mpr ⟨InR_toInt _, (okL_cons.mp (okL_cons.mp hw).2).2⟩)
    rw [List.map_cons, show cv g (vI (iS x z)) = .int (Int32.ofInt (iS x z)) from rfl, iS, Int32.ofInt_toInt] at this
    exact lv_ishr hexec hb hd this
  | iushr =>
    have hl1 : len = 1 := hlen
    subst hl1
    obtain ⟨x, z, rest, rfl, h⟩ := i2_some hs
    have := K0 _ _ _ h hL hv (okL_cons.mpr ⟨InR_toInt _, (okL_cons.mp (okL_cons.mp hw).2).2⟩)
    rw [List.map_cons, show cv g (vI (iU x z)) = .int (Int32.ofInt (iU x z)) from rfl, iU, Int32.ofInt_toInt] at this
    exact lv_iushr hexec hb hd rfl this
  | land =>
    have hl1 : len = 1 := hlen
    subst hl1
    obtain ⟨x, z, rest, rfl, h⟩ := j2_some hs
    obtain ⟨hz, hw2⟩ := okL_cons.mp hw
    obtain ⟨hx, hw3⟩ := okL_cons.mp hw2
    have := K0 _ _ _ h hL hv (okL_cons.mpr ⟨Nat.and_lt_two_pow x hz, hw3⟩)
    rw [List.map_cons, show cv g (vJ (x &&& z)) = .long (lN (x &&& z)) from rfl, ← lN_and] at this
    exact lv_land hexec hb hd this
  | lor =>
    have hl1 : len = 1 := hlen
    subst hl1
    obtain ⟨x, z, rest, rfl, h⟩ := j2_some hs
    obtain ⟨hz, hw2⟩ := okL_cons.mp hw
    obtain ⟨hx, hw3⟩ := okL_cons.mp hw2
    have := K0 _ _ _ h hL hv (okL_cons.mpr ⟨Nat.or_lt_two_pow hx hz, hw3⟩)
    rw [List.map_cons, show cv g (vJ (x ||| z)) = .long (lN (x ||| z)) from rfl, ← lN_or] at this
    exact lv_lor hexec hb hd this
  | lushr =>
    have hl1 : len = 1 := hlen
    subst hl1
    obtain ⟨k, u, rest, rfl, h⟩ := ij_some hs
    obtain ⟨hk, h⟩ := if_some h
    obtain ⟨hz, hw2⟩ := okL_cons.mp hw
    obtain ⟨hu, hw3⟩ := okL_cons.mp hw2
    exact lv_lushr hexec hb hd (lN_ushr hu hk.1 hk.2) (K0 _ _ _ h hL hv (okL_cons.mpr ⟨Nat.lt_of_le_of_lt (Nat.div_le_self _ _) hu, hw3⟩))
  | lshl =>
    have hl1 : len = 1 := hlen
    subst hl1
    obtain ⟨k, u, rest, rfl, h⟩ := ij_some hs
    obtain ⟨hk, h⟩ := if_some h
    obtain ⟨hz, hw2⟩ := okL_cons.mp hw
    obtain ⟨hu, hw3⟩ := okL_cons.mp hw2
    exact lv_lshl hexec hb hd (lN_shl hu hk.1 hk.2) (K0 _ _ _ h hL hv (okL_cons.mpr ⟨Nat.mod_lt _ (by omega), hw3⟩))
  | lcmp =>
    have hl1 : len = 1 := hlen
    subst hl1
    obtain ⟨u, z, rest, rfl, h⟩ := j2_some hs
    obtain ⟨hk, h⟩ := if_some h
    subst hk
    obtain ⟨hz, hw2⟩ := okL_cons.mp hw
    obtain ⟨hu, hw3⟩ := okL_cons.mp hw2
    have := K0 _ _ _ h hL hv (okL_cons.mpr ⟨cmp_R u, hw3⟩)
    rw [List.map_cons, show ∀ z, cv g (vI z) = .int (Int32.ofInt z) from fun _ => rfl, ← lN_cmp hu] at this
    exact W.lcmp hexec hb hd this
  | i2l =>
    have hl1 : len = 1 := hlen
    subst hl1
    obtain ⟨x, rest, rfl, h⟩ := i1_some hs
    obtain ⟨hx, hw2⟩ := okL_cons.mp hw
    exact lv_i2l hexec hb hd (lN_i2l hx) (K0 _ _ _ h hL hv (okL_cons.mpr ⟨show (x % 2 ^ 64).toNat < 2 ^ 64 by omega, hw2⟩))
  | l2i =>
    have hl1 : len = 1 := hlen
    subst hl1
    obtain ⟨u, rest, rfl, h⟩ : ∃ u rest, st = vJ u :: rest ∧ (if u < 2147483648 then go1 ls (vI (u : Int) :: rest) a b s else none) = some (j, ls1, st2, a1, b1, s1) := by
      simp only [st1] at hs
      split at hs
      · exact ⟨_, _, rfl, hs⟩
      · cases hs
    obtain ⟨hu, h⟩ := if_some h
    have := K0 _ _ _ h hL hv (okL_cons.mpr ⟨show InR (u : Int) by omega, (okL_cons.mp hw).2⟩)
    rw [List.map_cons, show cv g (vI (u : Int)) = .int (Int32.ofInt u) from rfl, ofI_nat] at this
    exact lv_l2i hexec hb hd (lN_i u) this
  | i2b =>
    have hl1 : len = 1 := hlen
    subst hl1
    obtain ⟨x, rest, rfl, h⟩ := i1_some hs
    obtain ⟨hx, h⟩ := if_some h
    exact lv_i2b hexec hb hd (ofI_b8 hx.1 hx.2) (K0 _ _ _ h hL hv hw)
  | i2c =>
    have hl1 : len = 1 := hlen
    subst hl1
    obtain ⟨x, rest, rfl, h⟩ := i1_some hs
    obtain ⟨hx, h⟩ := if_some h
    exact lv_i2c hexec hb hd (ofI_c16 hx.1 hx.2) (K0 _ _ _ h hL hv hw)
  | dup =>
    have hl1 : len = 1 := hlen
    subst hl1
    cases st with
    | nil => cases hs
    | cons v rest =>
      obtain ⟨h1, h⟩ := if_some hs
      exact lv_dup hexec hb hd (c1_cat h1) (K0 _ _ _ h hL hv (okL_cons.mpr ⟨(okL_cons.mp hw).1, hw⟩))
  | dup2 =>
    have hl1 : len = 1 := hlen
    subst hl1
    match st, hs, hw with
    | [], hs, _ => cases hs
    | [_], hs, _ => cases hs
    | v :: w :: rest, hs, hw =>
      obtain ⟨h1, h⟩ := if_some hs
      exact lv_dup2_11 hexec hb hd (c1_cat h1.1) (c1_cat h1.2) (K0 _ _ _ h hL hv (okL_cons.mpr ⟨(okL_cons.mp hw).1, okL_cons.mpr ⟨(okL_cons.mp (okL_cons.mp hw).2).1, hw⟩⟩))
  | pop =>
    have hl1 : len = 1 := hlen
    subst hl1
    cases st with
    | nil => cases hs
    | cons v rest =>
      obtain ⟨h1, h⟩ := if_some hs
      exact lv_pop hexec hb hd (c1_cat h1) (K0 _ _ _ h hL hv (okL_cons.mp hw).2)
  | goto o =>
    have hl1 : len = 3 := hlen
    subst hl1
    obtain ⟨t, rfl, ht⟩ := jmp_some han
    exact lv_goto hexec hb hd ht (KJ _ _ hs hw)
  | ifCond cc o =>
    obtain ⟨t, rfl, ht⟩ := jmp_some han
    obtain ⟨x, rest, rfl, h⟩ := i1_some hs
    exact snd_if hexec hb hd hlen ht h (okL_cons.mp hw).1 (okL_cons.mp hw).2 KB
  | if_icmp cc o =>
    obtain ⟨t, rfl, ht⟩ := jmp_some han
    obtain ⟨x, z, rest, rfl, h⟩ := i2_some hs
    exact snd_icmp hexec hb hd hlen ht h (okL_cons.mp (okL_cons.mp hw).2).1 (okL_cons.mp hw).1 (okL_cons.mp (okL_cons.mp hw).2).2 KB
  | ifnull o =>
    have hl1 : len = 3 := hlen
    subst hl1
    obtain ⟨t, rfl, ht⟩ := jmp_some han
    obtain ⟨r, rest, rfl, h⟩ := r1_some hs
    obtain ⟨k1, k2⟩ := KB _ _ _ h (okL_cons.mp hw).2
    by_cases hr : r = 0
    · subst hr
      exact lv_ifnullN hexec hb hd ht (k1 rfl)
    · rw [List.map_cons, show cv g (vR r) = cvR g r from rfl, cvR_ne hr]
      exact lv_ifnull hexec hb hd (k2 (decide_eq_false hr))
  | ifnonnull o =>
    have hl1 : len = 3 := hlen
    subst hl1
    obtain ⟨t, rfl, ht⟩ := jmp_some han
    obtain ⟨r, rest, rfl, h⟩ := r1_some hs
    obtain ⟨k1, k2⟩ := KB _ _ _ h (okL_cons.mp hw).2
    by_cases hr : r = 0
    · subst hr
      exact lv_ifnonnullN hexec hb hd (k2 rfl)
    · rw [List.map_cons, show cv g (vR r) = cvR g r from rfl, cvR_ne hr]
      exact lv_ifnonnull hexec hb hd ht (k1 (by rw [decide_eq_false hr]; rfl))
  | tableswitch d lo hi offs =>
    obtain ⟨hhi, han⟩ := if_some' han
    obtain ⟨t, ts, rfl, ht, hts1, hts2⟩ := jmps_some han
    obtain ⟨x, rest, rfl, h⟩ := i1_some hs
    have hx : InR x := (okL_cons.mp hw).1
    have hk := KJ _ _ h (okL_cons.mp hw).2
    have hsz : ts.length = offs.size := by rw [hts1, Array.length_toList]
    by_cases hin : x < lo ∨ lo + ts.length ≤ x
    · rw [swT_out ts lo t hin] at hk
      exact lv_tableOut hexec hb hd (by rw [toI hx]; omega) ht hk
    · have h1 := swT_in ts lo t (x := x) (by omega) (by omega)
      have h2 : (x - lo).toNat < offs.size := by omega
      have h3 : offs.toList[(x - lo).toNat]? = some offs[(x - lo).toNat] := by rw [Array.getElem?_toList, Array.getElem?_eq_getElem h2]
      exact lv_tableIn (off := offs[(x - lo).toNat]) hexec hb hd (by rw [toI hx]; omega) (by rw [toI hx]; omega) (by rw [toI hx, Array.getElem?_eq_getElem h2]) (hts2 _ _ _ h3 h1) hk
  | iaload =>
    have hl1 : len = 1 := hlen
    subst hl1
    obtain ⟨i, r, rest, rfl, h⟩ := ir_some hs
    obtain ⟨h1, h⟩ := if_some h
    exact snd_iald C hd h1.1 h1.2.1 h1.2.2 hR hS (K0 _ _ _ h hL hv (okL_cons.mpr ⟨hR.2.2.2.1.1 _ _, (okL_cons.mp (okL_cons.mp hw).2).2⟩))
  | baload =>
    have hl1 : len = 1 := hlen
    subst hl1
    obtain ⟨i, r, rest, rfl, h⟩ := ir_some hs
    obtain ⟨h1, h⟩ := if_some h
    exact snd_bald C hd h1.1 h1.2.1 h1.2.2 hR (K0 _ _ _ h hL hv (okL_cons.mpr ⟨hR.2.2.2.1.1 _ _, (okL_cons.mp (okL_cons.mp hw).2).2⟩))
  | caload =>
    have hl1 : len = 1 := hlen
    subst hl1
    obtain ⟨i, r, rest, rfl, h⟩ := ir_some hs
    obtain ⟨h1, h⟩ := if_some h
    exact snd_cald C hd h1.1 h1.2.1 h1.2.2 hR (K0 _ _ _ h hL hv (okL_cons.mpr ⟨hR.2.2.2.1.1 _ _, (okL_cons.mp (okL_cons.mp hw).2).2⟩))
  | aaload =>
    have hl1 : len = 1 := hlen
    subst hl1
    obtain ⟨i, r, rest, rfl, h⟩ := ir_some hs
    obtain ⟨h1, h⟩ := if_some h
    exact snd_aald C hd h1.1 h1.2.1 h1.2.2 hR (K0 _ _ _ h hL hv (okL_cons.mpr ⟨trivial, (okL_cons.mp (okL_cons.mp hw).2).2⟩))
  | iastore =>
    have hl1 : len = 1 := hlen
    subst hl1
    obtain ⟨v, i, r, rest, rfl, h⟩ := vir_some hs
    obtain ⟨h1, h⟩ := if_some h
    exact snd_ast C hd (Or.inl ⟨rfl, h1.1⟩) (okL_cons.mp hw).1 h1.2.1 h1.2.2 hR hS (KM _ _ _ h (okL_cons.mp (okL_cons.mp (okL_cons.mp hw).2).2).2)
  | bastore =>
    have hl1 : len = 1 := hlen
    subst hl1
    obtain ⟨v, i, r, rest, rfl, h⟩ := vir_some hs
    obtain ⟨h1, h⟩ := if_some h
    exact snd_ast C hd (Or.inr (Or.inl ⟨rfl, h1.1⟩)) (okL_cons.mp hw).1 h1.2.1 h1.2.2 hR hS (KM _ _ _ h (okL_cons.mp (okL_cons.mp (okL_cons.mp hw).2).2).2)
  | castore =>
    have hl1 : len = 1 := hlen
    subst hl1
    obtain ⟨v, i, r, rest, rfl, h⟩ := vir_some hs
    obtain ⟨h1, h⟩ := if_some h
    exact snd_ast C hd (Or.inr (Or.inr ⟨rfl, h1.1⟩)) (okL_cons.mp hw).1 h1.2.1 h1.2.2 hR hS (KM _ _ _ h (okL_cons.mp (okL_cons.mp (okL_cons.mp hw).2).2).2)
  | aastore =>
    have hl1 : len = 1 := hlen
    subst hl1
    obtain ⟨v, i, r, rest, rfl, h⟩ : ∃ v i r rest, st = vR v :: vI i :: vR r :: rest ∧ (if (kd s r = 14 ∧ (v = 0 ∨ kd s v = 6) ∨ kd s r = 15 ∧ (v = 0 ∨ kd s v = 0)) ∧ inA s r i then go1 ls rest a (wR b r i v) s else none) = some (j, ls1, st2, a1, b1, s1) := by
      simp only [st1] at hs
      split at hs
      · exact ⟨_, _, _, _, rfl, hs⟩
      · cases hs
    obtain ⟨h1, h⟩ := if_some h
    exact snd_aast C hd h1.1 h1.2.1 h1.2.2 hR hS (KM _ _ _ h (okL_cons.mp (okL_cons.mp (okL_cons.mp hw).2).2).2)
  | arraylength =>
    have hl1 : len = 1 := hlen
    subst hl1
    obtain ⟨r, rest, rfl, h⟩ := r1_some hs
    obtain ⟨h1, h⟩ := if_some h
    have hln := hR.2.2.2.1.2.2.2.2.2.1 r
    have hk := K0 _ _ _ h hL hv (okL_cons.mpr ⟨show InR (ln s r) by omega, (okL_cons.mp hw).2⟩)
    exact snd_alen C hd h1 hR hS hk
  | getfield i =>
    have hl1 : len = 3 := hlen
    subst hl1
    obtain ⟨z, q, k, rfl, hz, hlk⟩ := annot_fld han
    obtain ⟨t1, t2, t3, t4, t5⟩ := fld_tab hz hlk
    rw [k2i] at t5
    rcases hz with rfl | rfl
    · obtain ⟨r, rest, rfl, h⟩ := r1_some hs
      obtain ⟨h1, h⟩ := if_some h
      have hk := K0 _ _ _ h hL hv (okL_cons.mpr ⟨hR.2.2.2.1.1 _ _, (okL_cons.mp hw).2⟩)
      refine snd_get C hd t1 t2 t4 t5 h1 hR ?_
      unfold fldV
      rw [if_pos (t3.mpr rfl)]
      exact hk
    · obtain ⟨r, rest, rfl, h⟩ := r1_some hs
      obtain ⟨h1, h⟩ := if_some h
      have hk := K0 _ _ _ h hL hv (okL_cons.mpr ⟨trivial, (okL_cons.mp hw).2⟩)
      refine snd_get C hd t1 t2 t4 t5 h1 hR ?_
      unfold fldV
      rw [if_neg (fun w => by have := t3.mp w; omega)]
      exact hk
  | putfield i =>
    have hl1 : len = 3 := hlen
    subst hl1
    obtain ⟨z, q, k, rfl, hz, hlk, hfin⟩ := annot_put han
    obtain ⟨t1, t2, t3, t4, t5⟩ := fld_tab hz hlk
    rw [k2i] at t5
    rcases hz with rfl | rfl
    · obtain ⟨v, r, rest, rfl, h⟩ := ir_some hs
      obtain ⟨h1, h⟩ := if_some h
      have hvR : InR v := (okL_cons.mp hw).1
      have e1 : fldV g (wI a r k v) b q r k = .int (Int32.ofInt v) := by
        unfold fldV wI
        rw [if_pos (t3.mpr rfl), if_pos ⟨rfl, rfl⟩]
      have := snd_put (a' := wI a r k v) (b' := b) C hd t1 t2 t4 t5 h1 hfin hR hS (fun z hz => wI_ne hz) (fun z _ => rfl) (okK_wI (b := b) hR.2.2.2.1 hvR (by omega)) (fun z hz1 hz2 => by
        unfold fldV wI
        by_cases hi : isF q z = true
        · rw [if_pos hi, if_pos hi, if_neg (fun w => hz2 (by omega))]
        · rw [if_neg hi, if_neg hi]) (KM _ _ _ h (okL_cons.mp (okL_cons.mp hw).2).2)
      rw [e1] at this
      exact this
    · obtain ⟨v, r, rest, rfl, h⟩ : ∃ v r rest, st = vR v :: vR r :: rest ∧ (if kd s r = q then go1 ls rest a (wR b r k v) s else none) = some (j, ls1, st2, a1, b1, s1) := by
        simp only [st1] at hs
        split at hs
        · exact ⟨_, _, _, rfl, hs⟩
        · cases hs
      obtain ⟨h1, h⟩ := if_some h
      have hnf : ¬ isF q k = true := fun w => by have := t3.mp w; omega
      have e1 : fldV g a (wR b r k v) q r k = cvR g v := by
        unfold fldV wR
        rw [if_neg hnf, if_pos ⟨rfl, rfl⟩]
      have := snd_put (a' := a) (b' := wR b r k v) C hd t1 t2 t4 t5 h1 hfin hR hS (fun z _ => rfl) (fun z hz => wR_ne hz) hR.2.2.2.1 (fun z hz1 hz2 => by
        unfold fldV wR
        by_cases hi : isF q z = true
        · rw [if_pos hi, if_pos hi]
        · rw [if_neg hi, if_neg hi, if_neg (fun w => hz2 (by omega))]) (KM _ _ _ h (okL_cons.mp (okL_cons.mp hw).2).2)
      rw [e1] at this
      exact this
  | getstatic i =>
    have hl1 : len = 3 := hlen
    subst hl1
    obtain ⟨r, z, rfl, h⟩ : ∃ r z, an = [14, r, z] ∧ look (ow y) (2 * i) = some [14, r, z] := by
      unfold annot at han
      simp only at han
      split at han
      · rename_i h; cases han; exact ⟨_, _, rfl, h⟩
      · cases han
    have hk := K0 _ _ _ hs hL hv (okL_cons.mpr ⟨trivial, hw⟩)
    exact snd_gets C hd h hR hS hk
  | new i =>
    have hl1 : len = 3 := hlen
    subst hl1
    obtain ⟨q, n, rfl, h⟩ : ∃ q n, an = [9, q, n] ∧ look (ow y) (2 * i) = some [9, q, n] := by
      unfold annot at han
      simp only at han
      split at han
      · rename_i h; cases han; exact ⟨_, _, rfl, h⟩
      · cases han
    obtain ⟨pl, h1, h2, -⟩ := look_ok h
    have h3 := h2 rfl
    simp only [moreOf, Bool.and_eq_true, decide_eq_true_eq] at h1
    simp only [condOf, k2i] at h3
    obtain ⟨⟨hq, rfl⟩, hin⟩ := h1
    have hini := List.all_eq_true.mp ini_all q (List.mem_range.mpr (by omega))
    simp only [decide_eq_true_eq] at hini
    cases hs
    simp only [nx_nw, ns_nw, Nat.add_sub_cancel_left] at hce hsl kk
    exact snd_new C hd hq h3 (gd_in hin rfl) (gd_in hini rfl) hR hS hce hsl (fun H1 r1 r2 => kk H1 locs lsC r1 r2 hL hv (okL_cons.mpr ⟨trivial, hw⟩))
  | newarray t =>
    have hl1 : len = 2 := hlen
    subst hl1
    obtain ⟨n, rest, rfl, h⟩ := i1_some hs
    obtain ⟨h1, h⟩ := if_some h
    cases h
    simp only [nx_nw, ns_nw, Nat.add_sub_cancel_left] at hce hsl kk
    exact snd_newa C hd rfl h1.1 h1.2 hR hS hce hsl (fun H1 r1 r2 => kk H1 locs lsC r1 r2 hL hv (okL_cons.mpr ⟨trivial, (okL_cons.mp hw).2⟩))
  | anewarray i =>
    have hl1 : len = 3 := hlen
    subst hl1
    obtain ⟨k, rfl, h⟩ : ∃ k, an = [10, k] ∧ look (ow y) (2 * i + 1) = some [10, k] := by
      unfold annot at han
      simp only at han
      split at han
      · rename_i h; cases han; exact ⟨_, rfl, h⟩
      · cases han
    obtain ⟨pl, h1, h2, -⟩ := look_ok h
    have h3 := h2 rfl
    simp only [moreOf, decide_eq_true_eq] at h1
    simp only [condOf, k2j] at h3
    obtain ⟨n, rest, rfl, h⟩ := i1_some hs
    obtain ⟨h4, h⟩ := if_some h
    cases h
    simp only [nx_nw, ns_nw, Nat.add_sub_cancel_left] at hce hsl kk
    exact snd_anew C hd h1 h3 h4 hR hS hce hsl (fun H1 r1 r2 => kk H1 locs lsC r1 r2 hL hv (okL_cons.mpr ⟨trivial, (okL_cons.mp hw).2⟩))
  | checkcast i =>
    have hl1 : len = 3 := hlen
    subst hl1
    obtain ⟨k, rfl, h⟩ : ∃ k, an = [11, k] ∧ look (ow y) (2 * i + 1) = some [11, k] := by
      unfold annot at han
      simp only at han
      split at han
      · rename_i h; cases han; exact ⟨_, rfl, h⟩
      · cases han
    obtain ⟨pl, h1, h2, -⟩ := look_ok h
    have h3 := h2 rfl
    simp only [moreOf, decide_eq_true_eq] at h1
    simp only [condOf, k2j] at h3
    obtain ⟨r, rest, rfl, h⟩ := r1_some hs
    obtain ⟨h4, h⟩ := if_some h
    exact snd_cast C hd h1 h3 h4 hR (K0 _ _ _ h hL hv hw)
  | invokespecial i =>
    have hl1 : len = 3 := hlen
    subst hl1
    obtain ⟨rfl, h0⟩ : an = [6] ∧ r1_ st (fun r st => if r ≠ 0 ∧ (st.map catV).sum ≤ 8 then go1 ls st a b s else none) = some (j, ls1, st2, a1, b1, s1) := by
      simp only [st1] at hs
      split at hs
      · exact ⟨rfl, hs⟩
      · cases hs
    obtain ⟨r, rest, rfl, h⟩ := r1_some h0
    obtain ⟨h4, h⟩ := if_some h
    obtain ⟨hlk, h5⟩ : look (ow y) (2 * i) = some [6] ∧ (1 ≤ dp y ∧ 20 ≤ lc y) := by
      unfold annot at han
      simp only at han
      split at han
      · split at han
        · cases han
        · cases han
      · split at han
        · cases han
        · cases han
      · rename_i hh
        split at han
        · rename_i hh2; exact ⟨hh, hh2⟩
        · cases han
      · cases han
    obtain ⟨pl, h1, h2, -⟩ := look_ok hlk
    have h3 := h2 rfl
    simp only [condOf, k2i] at h3
    exact snd_oi C hd h3 h4.1 h4.2 (by omega) (by omega) hL.2.1 (K0 _ _ _ h hL hv (okL_cons.mp hw).2)
  | invokestatic i =>
    have hl1 : len = 3 := hlen
    subst hl1
    obtain ⟨rfl, n, dp', r, sp, q, rest, rfl, h⟩ : an = [7] ∧ ∃ n dp r sp q rest, st = vI n :: vI dp :: vR r :: vI sp :: vR q :: rest ∧ (if (kd s q = 10 ∧ kd s r = 10 ∨ kd s q = 11 ∧ kd s r = 11) ∧ 0 ≤ n ∧ 0 ≤ dp ∧ 0 ≤ sp ∧ sp + n ≤ ln s q ∧ dp + n ≤ ln s r ∧ (rest.map catV).sum ≤ 8 then go1 ls rest (cpI a q r sp dp n) b s else none) = some (j, ls1, st2, a1, b1, s1) := by
      simp only [st1] at hs
      split at hs
      · split at hs
        · exact ⟨rfl, _, _, _, _, _, _, rfl, hs⟩
        · cases hs
      · cases hs
    obtain ⟨h4, h⟩ := if_some h
    obtain ⟨hlk, h5⟩ : look (ow y) (2 * i) = some [7] ∧ (1 ≤ dp y ∧ 26 ≤ lc y) := by
      unfold annot at han
      simp only at han
      split at han
      · split at han
        · cases han
        · cases han
      · rename_i hh
        split at han
        · rename_i hh2; exact ⟨hh, hh2⟩
        · cases han
      · cases han
    obtain ⟨pl, h1, h2, -⟩ := look_ok hlk
    have h3 := h2 rfl
    simp only [condOf, k2i] at h3
    exact snd_cpy C hd h3 h4.1 h4.2.1 h4.2.2.1 h4.2.2.2.1 h4.2.2.2.2.1 h4.2.2.2.2.2.1 h4.2.2.2.2.2.2 (by omega) (by omega) hR hS hL.2.1 (KM _ _ _ h (okL_cons.mp (okL_cons.mp (okL_cons.mp (okL_cons.mp (okL_cons.mp hw).2).2).2).2).2)
  | invokevirtual i =>
    have hl1 : len = 3 := hlen
    subst hl1
    obtain ⟨z, rfl, h0⟩ : ∃ z, an = [8, z] ∧ r1_ st (fun r st => if (z = 0 ∧ kd s r = 20 ∧ r = 2 ∨ z = 1 ∧ kd s r = 11) ∧ (st.map catV).sum ≤ 8 then go1 ls (vR (nx s + 5) :: st) (clI a r (nx s + 5)) b (nwS s (if z = 0 then 10 else 11) (ln s r) (ln s r).toNat) else none) = some (j, ls1, st2, a1, b1, s1) := by
      simp only [st1] at hs
      split at hs
      · exact ⟨_, rfl, hs⟩
      · cases hs
    obtain ⟨r, rest, rfl, h⟩ := r1_some h0
    obtain ⟨h4, h⟩ := if_some h
    obtain ⟨hlk, h5⟩ : look (ow y) (2 * i) = some [8, z] ∧ (1 ≤ dp y ∧ 22 ≤ lc y) := by
      unfold annot at han
      simp only at han
      split at han
      · split at han
        · cases han
        · cases han
      · rename_i hh
        split at han
        · rename_i hh2; cases han; exact ⟨hh, hh2⟩
        · cases han
      · cases han
    obtain ⟨pl, h1, h2, -⟩ := look_ok hlk
    have h3 := h2 rfl
    simp only [condOf, k2i] at h3
    cases h
    simp only [nx_nw, ns_nw, Nat.add_sub_cancel_left] at hce hsl kk
    rcases h4.1 with ⟨rfl, hk, rfl⟩ | ⟨rfl, hk⟩
    · exact snd_clI C hd h3 h4.2 (by omega) (by omega) hR hS hce hsl hL.2.1 (fun H1 r1 r2 => kk H1 locs lsC r1 r2 hL hv (okL_cons.mpr ⟨trivial, (okL_cons.mp hw).2⟩))
    · exact snd_clB C hd h3 hk h4.2 (by omega) (by omega) hR hS hce hsl hL.2.1 (fun H1 r1 r2 => kk H1 locs lsC r1 r2 hL hv (okL_cons.mpr ⟨trivial, (okL_cons.mp hw).2⟩))
  | _ => cases hs
end SN1
