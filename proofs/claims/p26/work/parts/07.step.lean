/-! ===== an instruction of the interpreter is one of the machine ===== -/
def okV (v : Vl) : Prop := match v with
  | .inl x => InR x
  | .inr (.inr (.inl u)) => u < 2 ^ 64
  | _ => True
def okL (l : List Vl) : Prop := ∀ v ∈ l, okV v
def lsR (g : Gx) (lsC : Array Slot) (n : Nat) (ls : List Vl) : Prop := ls.length = n ∧ lsC.size = n ∧ lv_wf lsC ∧ ∀ (i : Nat) (v : Vl), ls[i]? = some v → v ≠ vU → lsC[i]? = some (.val (cv g v))
def Cxt (g : Gx) (y : Nat) (p : Program) (s0 : State) (m : MethodId) (args : Array Value) (meth : Method) (c : Code) : Prop :=
  p.tables.exec = Jvm.exec ∧ c.code = cd y ∧ meth.sig.returnType = rt y ∧ c.maxLocals = mL y ∧ s0.vm.findClass (CN (ow y)) = some m.cls ∧ (∀ w ∈ gdW, w.before args s0 = true) ∧ KKg g s0 ∧ ((nm y).name = "<init>" → meth.name = (nm y).name) ∧ meth.locks = false ∧ gN g ≤ s0.heap.size ∧ ∀ q, q < gN g → s0.heap[q]? = (gH g)[q]?
theorem okL_cons {v : Vl} {l : List Vl} : okL (v :: l) ↔ okV v ∧ okL l := List.forall_mem_cons
theorem okL_nil : okL [] := fun _ h => absurd h List.not_mem_nil
theorem i2_some {st : List Vl} {f : Int → Int → List Vl → St} {w} (h : i2_ st f = some w) : ∃ p q rest, st = vI q :: vI p :: rest ∧ f p q rest = some w := by
  unfold i2_ at h
  split at h
  · exact ⟨_, _, _, rfl, h⟩
  · cases h
theorem i1_some {st : List Vl} {f : Int → List Vl → St} {w} (h : i1_ st f = some w) : ∃ p rest, st = vI p :: rest ∧ f p rest = some w := by
  unfold i1_ at h
  split at h
  · exact ⟨_, _, rfl, h⟩
  · cases h
theorem r1_some {st : List Vl} {f : Nat → List Vl → St} {w} (h : r1_ st f = some w) : ∃ p rest, st = vR p :: rest ∧ f p rest = some w := by
  unfold r1_ at h
  split at h
  · exact ⟨_, _, rfl, h⟩
  · cases h
theorem ir_some {st : List Vl} {f : Int → Nat → List Vl → St} {w} (h : ir_ st f = some w) : ∃ i r rest, st = vI i :: vR r :: rest ∧ f i r rest = some w := by
  unfold ir_ at h
  split at h
  · exact ⟨_, _, _, rfl, h⟩
  · cases h
theorem vir_some {st : List Vl} {f : Int → Int → Nat → List Vl → St} {w} (h : vir_ st f = some w) : ∃ v i r rest, st = vI v :: vI i :: vR r :: rest ∧ f v i r rest = some w := by
  unfold vir_ at h
  split at h
  · exact ⟨_, _, _, _, rfl, h⟩
  · cases h
theorem j2_some {st : List Vl} {f : Nat → Nat → List Vl → St} {w} (h : j2_ st f = some w) : ∃ u v rest, st = vJ v :: vJ u :: rest ∧ f u v rest = some w := by
  unfold j2_ at h
  split at h
  · exact ⟨_, _, _, rfl, h⟩
  · cases h
theorem ij_some {st : List Vl} {f : Int → Nat → List Vl → St} {w} (h : ij_ st f = some w) : ∃ k u rest, st = vI k :: vJ u :: rest ∧ f k u rest = some w := by
  unfold ij_ at h
  split at h
  · exact ⟨_, _, _, rfl, h⟩
  · cases h
theorem go_some {j ls st a b s ls1 st2 a1 b1 s1} (h : go1 ls st a b s = some (j, ls1, st2, a1, b1, s1)) : j = none ∧ ls1 = ls ∧ st2 = st ∧ a1 = a ∧ b1 = b ∧ s1 = s := by
  cases h; exact ⟨rfl, rfl, rfl, rfl, rfl, rfl⟩
theorem if_some {P : Prop} [Decidable P] {x : St} {w} (h : (if P then x else none) = some w) : P ∧ x = some w := by
  by_cases hP : P
  · rw [if_pos hP] at h; exact ⟨hP, h⟩
  · rw [if_neg hP] at h; cases h
theorem br_some {c : Bool} {t : Nat} {j ls st a b s ls1 st2 a1 b1 s1} (h : br1 c t ls st a b s = some (j, ls1, st2, a1, b1, s1)) : j = (if c = true then some t else none) ∧ ls1 = ls ∧ st2 = st ∧ a1 = a ∧ b1 = b ∧ s1 = s := by
  cases h; exact ⟨rfl, rfl, rfl, rfl, rfl, rfl⟩
theorem fetch_some {y pc len : Nat} {ins : Instr} {an : List Nat} (h : fetch y pc = some (len, ins, an)) : decode (cd y) pc = .ok (ins, len) ∧ annot y pc ins = some an ∧ len = lnO ins len := by
  unfold fetch at h
  split at h
  · rename_i i n hd
    split at h
    · rename_i hl
      obtain ⟨an', h1, h2⟩ := Option.map_eq_some_iff.mp h
      cases h2
      exact ⟨hd, h1, hl⟩
    · cases h
  · cases h
theorem okK_rng {s : SH} {a : HI} {b : HR} (h : okK s a b) {r : Nat} (hr : kd s r ≤ 15) : 5 ≤ r ∧ r < nx s + 5 := by
  obtain ⟨-, -, h3, h4, h5, -⟩ := h
  constructor
  · by_cases q : 5 ≤ r
    · exact q
    · by_cases q0 : r = 0
      · subst q0; omega
      · have := h5 r (by omega) (by omega); omega
  · by_cases q : r < nx s + 5
    · exact q
    · have := h3 r (by omega); omega
theorem adr_new {g : Gx} {r : Nat} (h : 5 ≤ r) : adr g r = gN g + (r - 5) := by
  unfold adr; rw [if_neg (by omega)]
theorem cvR_ne {g : Gx} {r : Nat} (h : r ≠ 0) : cvR g r = .ref (adr g r) := by
  unfold cvR adO; rw [if_neg h]; rfl
theorem cvR_0 {g : Gx} : cvR g 0 = .null := rfl
theorem wsE_at {g : Gx} {a : HI} {b : HR} {s : SH} {r : Nat} (h1 : 5 ≤ r) (h2 : r < nx s + 5) : (wsE g a b s)[r - 5]? = some (adr g r, celE g a b s r) := by
  unfold wsE
  rw [List.getElem?_map, List.getElem?_range (by omega), adr_new h1]
  simp only [Option.map_some]
  rw [show r - 5 + 5 = r by omega]
theorem wsE_inv {g : Gx} {a : HI} {b : HR} {s : SH} {k : Nat} {q : Nat × va_E} (h : (wsE g a b s)[k]? = some q) : k < nx s ∧ q = (gN g + k, celE g a b s (k + 5)) := by
  unfold wsE at h
  rw [List.getElem?_map] at h
  by_cases hk : k < nx s
  · rw [List.getElem?_range hk] at h
    exact ⟨hk, (Option.some.inj h).symm⟩
  · rw [List.getElem?_eq_none (by simp; omega)] at h
    cases h
theorem celE_congr {g : Gx} {a a' : HI} {b b' : HR} {s : SH} {r : Nat} (ha : a' r = a r) (hb : b' r = b r) : celE g a' b' s r = celE g a b s r := by
  unfold celE fldV
  rw [ha, hb]
theorem RelM.wr {g : Gx} {a a' : HI} {b b' : HR} {s : SH} {H H1 : Heap} {r : Nat} (hR : RelM g a b s H) (hr : 5 ≤ r ∧ r < nx s + 5) (ha : ∀ q, q ≠ r → a' q = a q) (hb : ∀ q, q ≠ r → b' q = b q) (hk : okK s a' b') (he : va_at (gD g) vwCl (adr g r, celE g a' b' s r) H1) (z : H1.size = H.size) (oq : ∀ q : Nat, q ≠ adr g r → H1[q]? = H[q]?) : RelM g a' b' s H1 := by
  obtain ⟨h1, h2, h3, h4, h5, h6, h7⟩ := hR
  have hadr := adr_new (g := g) hr.1
  refine ⟨z.trans h1, fun q hq => (oq q (by omega)).trans (h2 q hq), fun k q hq => ?_, hk, h5, fun j hj => by rw [ha 1 (by omega)]; exact h6 j hj, fun q q1 q2 => by rw [ha q (by omega)]; exact h7 q q1 q2⟩
  obtain ⟨hk1, rfl⟩ := wsE_inv hq
  by_cases hkr : k + 5 = r
  · subst hkr
    rw [show gN g + k = adr g (k + 5) by rw [hadr]; omega]
    exact he
  · have e := wsE_at (g := g) (a := a) (b := b) (s := s) (r := k + 5) (by omega) (by omega)
    have e2 := h3 _ _ e
    rw [celE_congr (ha _ hkr) (hb _ hkr)]
    have e3 : adr g (k + 5) = gN g + k := by rw [adr_new (by omega)]; omega
    rw [e3] at e2
    exact e2.kept (oq _ (by rw [hadr]; simp only; omega))
theorem kd_nw {s : SH} {k : Nat} {n : Int} {sl r : Nat} : kd (nwS s k n sl) r = if r = nx s + 5 then k else kd s r := rfl
theorem ln_nw {s : SH} {k : Nat} {n : Int} {sl r : Nat} : ln (nwS s k n sl) r = if r = nx s + 5 then n else ln s r := rfl
theorem nx_nw {s : SH} {k : Nat} {n : Int} {sl : Nat} : nx (nwS s k n sl) = nx s + 1 := rfl
theorem ns_nw {s : SH} {k : Nat} {n : Int} {sl : Nat} : ns (nwS s k n sl) = ns s + sl := rfl
theorem celE_nw {g : Gx} {a a' : HI} {b b' : HR} {s : SH} {r k sl : Nat} {n : Int} (hr : r ≠ nx s + 5) (ha : a' r = a r) (hb : b' r = b r) : celE g a' b' (nwS s k n sl) r = celE g a b s r := by
  unfold celE fldV
  rw [kd_nw, ln_nw, if_neg hr, if_neg hr, ha, hb]
theorem RelM.psh {g : Gx} {a a' : HI} {b b' : HR} {s : SH} {H H1 : Heap} {k sl : Nat} {n : Int} (hR : RelM g a b s H) (ha : ∀ q, q ≠ nx s + 5 → a' q = a q) (hb : ∀ q, q ≠ nx s + 5 → b' q = b q) (hk : okK (nwS s k n sl) a' b') (he : va_at (gD g) vwCl (H.size, celE g a' b' (nwS s k n sl) (nx s + 5)) H1) (z : H1.size = H.size + 1) (oq : ∀ q : Nat, q < H.size → H1[q]? = H[q]?) : RelM g a' b' (nwS s k n sl) H1 := by
  obtain ⟨h1, h2, h3, h4, h5, h6, h7⟩ := hR
  refine ⟨by rw [z, h1, nx_nw]; omega, fun q hq => (oq q (by omega)).trans (h2 q hq), fun k1 q hq => ?_, hk, by rw [ln_nw, if_neg (by omega)]; exact h5, fun j hj => by rw [ha 1 (by omega)]; exact h6 j hj, fun q q1 q2 => by rw [ha q (by omega), ln_nw, if_neg (by omega)]; exact h7 q q1 q2⟩
  obtain ⟨hk1, rfl⟩ := wsE_inv hq
  rw [nx_nw] at hk1
  by_cases hkr : k1 = nx s
  · subst hkr
    rw [← h1]
    exact he
  · have e := wsE_at (g := g) (a := a) (b := b) (s := s) (r := k1 + 5) (by omega) (by omega)
    have e2 := h3 _ _ e
    rw [celE_nw (by omega) (ha _ (by omega)) (hb _ (by omega))]
    have e3 : adr g (k1 + 5) = gN g + k1 := by rw [adr_new (by omega)]; omega
    rw [e3] at e2
    exact e2.kept (oq _ (by rw [h1]; simp only; omega))
theorem cel_I {g : Gx} {a : HI} {b : HR} {s : SH} {r : Nat} (h1 : 10 ≤ kd s r) (h2 : kd s r < 14) : celE g a b s r = .inl (gA g (kd s r), (ln s r).toNat, .inl (fun j => Int32.ofInt (a r j))) := by
  unfold celE; rw [if_neg (by omega), if_pos h2]
theorem cel_Q {g : Gx} {a : HI} {b : HR} {s : SH} {r : Nat} (h1 : 14 ≤ kd s r) : celE g a b s r = .inl (gA g (kd s r), (ln s r).toNat, .inr (.inr (.inr (.inr (fun j => adO g (b r j)))))) := by
  unfold celE; rw [if_neg (by omega), if_neg (by omega)]
theorem cel_O {g : Gx} {a : HI} {b : HR} {s : SH} {r : Nat} (h1 : kd s r < 9) : celE g a b s r = .inr (kd s r, (List.range (CNF (kd s r))).map (fun k => fldV g a b (kd s r) r k)) := by
  unfold celE; rw [if_pos h1]
theorem RelM.at {g : Gx} {a : HI} {b : HR} {s : SH} {H : Heap} (hR : RelM g a b s H) {r : Nat} (h : kd s r ≤ 15) : va_at (gD g) vwCl (adr g r, celE g a b s r) H := by
  obtain ⟨h1, h2⟩ := okK_rng hR.2.2.2.1 h
  exact hR.2.2.1 _ _ (wsE_at h1 h2)
theorem tyS_at {g : Gx} {k : Nat} (h1 : 10 ≤ k) (h2 : k ≤ 15) : (tyS g)[k - 10]? = some (gA g k, tyK k) := by
  have h : k = 10 ∨ k = 11 ∨ k = 12 ∨ k = 13 ∨ k = 14 ∨ k = 15 := by omega
  rcases h with rfl | rfl | rfl | rfl | rfl | rfl <;> rfl
/-! locals -/
def lvl (g : Gx) (ls : List Vl) : List (Nat × Value) := (List.range ls.length).filterMap (fun i => match ls[i]? with
  | some v => if v = vU then none else some (i, cv g v)
  | none => none)
theorem lvl_mem {g : Gx} {ls : List Vl} {q : Nat × Value} : q ∈ lvl g ls ↔ ∃ v, ls[q.1]? = some v ∧ v ≠ vU ∧ q.2 = cv g v := by
  unfold lvl
  rw [List.mem_filterMap]
  constructor
  · rintro ⟨i, hi, h⟩
    cases hv : ls[i]? with
    | none => rw [hv] at h; cases h
    | some v =>
      rw [hv] at h
      simp only at h
      by_cases hu : v = vU
      · rw [if_pos hu] at h; cases h
      · rw [if_neg hu] at h
        cases h
        exact ⟨v, hv, hu, rfl⟩
  · rintro ⟨v, h1, h2, h3⟩
    refine ⟨q.1, List.mem_range.mpr (List.getElem?_eq_some_iff.mp h1).1, ?_⟩
    rw [h1]
    simp only
    rw [if_neg h2, ← h3]
theorem lsR.has {g : Gx} {lsC : Array Slot} {n : Nat} {ls : List Vl} (h : lsR g lsC n ls) : lv_has lsC n (lvl g ls) := by
  refine ⟨h.2.1, h.2.2.1, fun q hq => ?_⟩
  obtain ⟨v, h1, h2, h3⟩ := lvl_mem.mp hq
  rw [h3]
  exact h.2.2.2 _ _ h1 h2
theorem cv_cat {g : Gx} {v : Vl} : (cv g v).category = 2 ↔ ∃ u, v = vJ u := by
  rcases v with x | r | u | u
  · simp [cv, Value.category, vJ]
  · constructor
    · intro h
      by_cases hr : r = 0
      · subst hr; cases h
      · rw [show cv g (.inr (.inl r)) = cvR g r from rfl, cvR_ne hr] at h; cases h
    · rintro ⟨u, h⟩; cases h
  · simp [cv, Value.category, vJ]
  · simp [cv, Value.category, vJ]
theorem stL_len : ∀ (ls : List Vl) (k : Nat) (v : Vl), (stL ls k v).length = ls.length
  | [], _, _ => rfl
  | _ :: _, 0, _ => rfl
  | x :: l, 1, v => by rw [stL, List.length_cons, stL_len l 0 v, List.length_cons]
  | x :: l, k + 2, v => by rw [stL, List.length_cons, stL_len l (k + 1) v, List.length_cons]
theorem stL_at : ∀ (ls : List Vl) (k : Nat) (v : Vl) (i : Nat) (w : Vl), (stL ls k v)[i]? = some w → (i = k ∧ w = v) ∨ (i ≠ k ∧ i + 1 ≠ k ∧ ls[i]? = some w) ∨ (i + 1 = k ∧ ∃ x, ls[i]? = some x ∧ w = unJ x)
  | [], _, _, i, w, h => by simp [stL] at h
  | x :: l, 0, v, i, w, h => by
    rw [stL] at h
    cases i with
    | zero => left; exact ⟨rfl, (Option.some.inj h).symm⟩
    | succ i => right; left; exact ⟨by omega, by omega, h⟩
  | x :: l, 1, v, i, w, h => by
    rw [stL] at h
    cases i with
    | zero => right; right; exact ⟨rfl, x, rfl, (Option.some.inj h).symm⟩
    | succ i =>
      rw [List.getElem?_cons_succ] at h
      rcases stL_at l 0 v i w h with ⟨h1, h2⟩ | ⟨h1, h2, h3⟩ | ⟨h1, h2⟩
      · left; exact ⟨by omega, h2⟩
      · right; left; exact ⟨by omega, by omega, h3⟩
      · omega
  | x :: l, k + 2, v, i, w, h => by
    rw [stL] at h
    cases i with
    | zero => right; left; exact ⟨by omega, by omega, h⟩
    | succ i =>
      rw [List.getElem?_cons_succ] at h
      rcases stL_at l (k + 1) v i w h with ⟨h1, h2⟩ | ⟨h1, h2, h3⟩ | ⟨h1, h2⟩
      · left; exact ⟨by omega, h2⟩
      · right; left; exact ⟨by omega, by omega, h3⟩
      · right; right; exact ⟨by omega, h2⟩
theorem unJ_ok {x w : Vl} (h : w = unJ x) (hw : w ≠ vU) : x = w ∧ ¬ ∃ u, x = vJ u := by
  subst h
  rcases x with x | r | u | u
  · exact ⟨rfl, fun ⟨u, h⟩ => by cases h⟩
  · exact ⟨rfl, fun ⟨u, h⟩ => by cases h⟩
  · exact absurd rfl hw
  · exact absurd rfl hw
theorem lsR.st1 {g : Gx} {lsC lsC1 : Array Slot} {n k : Nat} {ls : List Vl} {v : Vl} (h : lsR g lsC n ls) (h1 : lv_has lsC1 n ((k, cv g v) :: (lvl g ls).filter (fun q => !(q.1 == k) && !(q.1 + 1 == k && q.2.category == 2)))) : lsR g lsC1 n (stL ls k v) := by
  refine ⟨by rw [stL_len]; exact h.1, h1.1, h1.2.1, fun i w hw hu => ?_⟩
  rcases stL_at ls k v i w hw with ⟨e1, e2⟩ | ⟨e1, e2, e3⟩ | ⟨e1, x, e2, e3⟩
  · subst e1; subst e2
    exact h1.2.2 (i, cv g w) List.mem_cons_self
  · refine h1.2.2 (i, cv g w) (List.mem_cons_of_mem _ (List.mem_filter.mpr ⟨lvl_mem.mpr ⟨w, e3, hu, rfl⟩, ?_⟩))
    simp [e1, e2]
  · obtain ⟨f1, f2⟩ := unJ_ok e3 hu
    subst f1
    refine h1.2.2 (i, cv g x) (List.mem_cons_of_mem _ (List.mem_filter.mpr ⟨lvl_mem.mpr ⟨x, e2, hu, rfl⟩, ?_⟩))
    have : ¬ (cv g x).category = 2 := fun q => f2 (cv_cat.mp q)
    simp [this]
    omega
theorem lsR.st2 {g : Gx} {lsC lsC1 : Array Slot} {n k u : Nat} {ls : List Vl} (h : lsR g lsC n ls) (h1 : lv_has lsC1 n ((k, .long (lN u)) :: (lvl g ls).filter (fun q => !(q.1 == k) && (!(q.1 == k + 1) && !(q.1 + 1 == k && q.2.category == 2))))) : lsR g lsC1 n ((stL ls k (vJ u)).set (k + 1) vU) := by
  refine ⟨by rw [List.length_set, stL_len]; exact h.1, h1.1, h1.2.1, fun i w hw hu => ?_⟩
  rw [List.getElem?_set] at hw
  by_cases hik : k + 1 = i
  · rw [if_pos hik] at hw
    split at hw
    · exact absurd (Option.some.inj hw).symm hu
    · cases hw
  · rw [if_neg hik] at hw
    rcases stL_at ls k _ i w hw with ⟨e1, e2⟩ | ⟨e1, e2, e3⟩ | ⟨e1, x, e2, e3⟩
    · subst e1; subst e2
      exact h1.2.2 (i, .long (lN u)) List.mem_cons_self
    · refine h1.2.2 (i, cv g w) (List.mem_cons_of_mem _ (List.mem_filter.mpr ⟨lvl_mem.mpr ⟨w, e3, hu, rfl⟩, ?_⟩))
      have : ¬ i = k + 1 := fun q => hik q.symm
      simp [e1, e2, this]
    · obtain ⟨f1, f2⟩ := unJ_ok e3 hu
      subst f1
      refine h1.2.2 (i, cv g x) (List.mem_cons_of_mem _ (List.mem_filter.mpr ⟨lvl_mem.mpr ⟨x, e2, hu, rfl⟩, ?_⟩))
      have : ¬ (cv g x).category = 2 := fun q => f2 (cv_cat.mp q)
      simp [this]
      omega
theorem okL_st {ls : List Vl} {k : Nat} {v : Vl} (h : okL ls) (hv : okV v) : okL (stL ls k v) := by
  intro w hw
  obtain ⟨i, hi⟩ := List.getElem?_of_mem hw
  rcases stL_at ls k v i w hi with ⟨-, e2⟩ | ⟨-, -, e3⟩ | ⟨-, x, e2, e3⟩
  · rw [e2]; exact hv
  · exact h w (List.mem_of_getElem? e3)
  · rw [e3]
    have := h x (List.mem_of_getElem? e2)
    rcases x with x | r | u | u
    · exact this
    · exact trivial
    · exact trivial
    · exact trivial
theorem okL_set {ls : List Vl} {k : Nat} (h : okL ls) : okL (ls.set k vU) := by
  intro w hw
  rcases List.mem_or_eq_of_mem_set hw with q | q
  · exact h w q
  · rw [q]; exact trivial
