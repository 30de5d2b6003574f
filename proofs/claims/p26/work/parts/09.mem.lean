/-! ===== instructions that read and write cells ===== -/
theorem vw_at {q : Nat} (h : q < 9) : vwCl[q]? = some (CN q, CT q, CNF q) := by
  have h2 : q = 0 ∨ q = 1 ∨ q = 2 ∨ q = 3 ∨ q = 4 ∨ q = 5 ∨ q = 6 ∨ q = 7 ∨ q = 8 := by omega
  rcases h2 with rfl | rfl | rfl | rfl | rfl | rfl | rfl | rfl | rfl <;> rfl
theorem gd_in {w : Jvm.Cond} (h : w ∈ lw_tbl) (h2 : goodWord w = true) : w ∈ gdW := List.mem_filter.mpr ⟨h, h2⟩
theorem lay_in {q : Nat} (h : q < 9) : ∀ w ∈ u_ws (CN q) (CT q) (CNF q), w ∈ gdW := by
  intro w hw
  have h1 := List.all_eq_true.mp lay_all q (List.mem_range.mpr h)
  have h2 := List.all_eq_true.mp h1 w hw
  simp only [Bool.and_eq_true, decide_eq_true_eq] at h2
  exact gd_in h2.1 h2.2
theorem ty_ok {q k : Nat} (h : q < 9) (hk : k < CNF q) : parseFieldDescriptor (CT q k).2.2.1 = some (CF q k) ∧ (isF q k = true → CF q k = .int) ∧ (isF q k = false → isRefT (CF q k) = true) ∧ ∀ j, j < CNF q → k ≠ j → (CT q k).2.1 ≠ (CT q j).2.1 := by
  have h1 := List.all_eq_true.mp ty_all q (List.mem_range.mpr h)
  have h2 := List.all_eq_true.mp h1 k (List.mem_range.mpr hk)
  simp only [Bool.and_eq_true, decide_eq_true_eq] at h2
  refine ⟨h2.1.1.1, h2.1.1.2, h2.1.2, fun j hj hkj => ?_⟩
  have h3 := List.all_eq_true.mp h2.2 j (List.mem_range.mpr hj)
  simp only [decide_eq_true_eq] at h3
  exact h3.resolve_left hkj
theorem look_ok {o key : Nat} {an : List Nat} (h : look o key = some an) : ∃ pl, moreOf o key an = true ∧ (needW an = true → condOf o key an ∈ gdW) ∧ lkB o (key, an, pl) = true := by
  unfold look at h
  obtain ⟨e, h1, h2⟩ := Option.map_eq_some_iff.mp h
  have h3 := List.mem_of_find?_eq_some h1
  have h4 := List.find?_some h1
  have h5 := List.all_eq_true.mp (lk_all o) e h3
  have h6 : e.1 = key := by simpa using h4
  obtain ⟨e1, e2, e3⟩ := e
  simp only at h2 h6
  subst h2; subst h6
  have h7 := h5
  unfold lkB at h5
  simp only [Bool.and_eq_true] at h5
  refine ⟨e3, h5.1, fun hn => ?_, h7⟩
  have h8 := h5.2
  rw [if_pos hn] at h8
  simp only [Bool.and_eq_true, decide_eq_true_eq] at h8
  exact gd_in (List.mem_of_getElem? h8.1) h8.2
theorem va_S.Hb {g : Gx} {s0 : State} {H : Heap} {locs : List Loc} {a : HI} {b : HR} {s : SH} (hG : (gH g).size = gN g) (hR : RelM g a b s H) (hS : va_S (aA g) s0.heap H locs) : va_S (aA g) (gH g) H locs := ⟨by rw [hG, hR.1]; omega, fun q hq _ => hR.2.1 q (by omega), hS.2.2⟩
theorem toNat_lt {i n : Int} (h1 : 0 ≤ i) (h2 : i < n) : i < (n.toNat : Int) := by omega
theorem cvR_rf {g : Gx} (r : Nat) : va_rf (adO g r) = cvR g r := rfl
section MEM
variable {p : Program} {l : Launch} {e : Env} {R : Room} {s0 : State} {m : MethodId} {args : Array Value} {below : List Frame} {meth : Method} {c : Code} {H : Heap} {locs : List Loc} {cells slots : Nat} {Q : State → Prop} {g : Gx} {y : Nat}
set_option maxHeartbeats 4000000 in
theorem snd_iald (C : Cxt g y p s0 m args meth c) {pc : Nat} (hd : decode (cd y) pc = .ok (.iaload, 1)) {r : Nat} {i : Int} {st3 : List Vl} {a : HI} {b : HR} {s : SH} (hk : kd s r = 10 ∨ kd s r = 20) (h0 : 0 ≤ i) (h1 : i < ln s r) (hR : RelM g a b s H) (hS : va_S (aA g) s0.heap H locs) {lsC : Array Slot} (K : W p l e R s0 m args below meth c H locs cells slots Q (F0 m (pc + 1) lsC ((vI (a r i) :: st3).map (cv g)))) : W p l e R s0 m args below meth c H locs cells slots Q (F0 m pc lsC ((vI i :: vR r :: st3).map (cv g))) := by
  obtain ⟨hexec, hb, -, -, -, -, hKK, -, -, hge, heq⟩ := C
  have hln := hR.2.2.2.1.2.2.2.2.2.1 r
  have hiR : InR i := by omega
  have hcl := ofI_cl hiR
  have hin : vp_in (Int32.ofInt i) (ln s r).toNat := ofI_in h0 (toNat_lt h0 h1) (by omega)
  have hti : ((Int32.ofInt i).toNatClampNeg : Int) = i := by rw [hcl]; omega
  rcases hk with hk | hk
  · have hr := okK_rng hR.2.2.2.1 (r := r) (by omega)
    rw [List.map_cons, List.map_cons, show cv g (vR r) = cvR g r from rfl, cvR_ne (by omega)]
    refine va_iald hexec hb hKK.1 hR.2.2.1 (r - 5) 0 ((wsE_at hr.1 hr.2).trans (by rw [cel_I (by omega) (by omega), hk])) rfl hin hd ?_
    rw [hti]
    exact K
  · have hne : r ≠ 0 := by intro q; subst q; have := hR.2.2.2.1.2.2.2.1; omega
    have hr5 : r < 5 := by
      by_cases q : r < 5
      · exact q
      · by_cases q2 : r < nx s + 5
        · have := hR.2.2.2.1.2.1 r (by omega) q2; omega
        · have := hR.2.2.2.1.2.2.1 r (by omega); omega
    rw [List.map_cons, List.map_cons, show cv g (vR r) = cvR g r from rfl, cvR_ne hne, show adr g r = gS g r from if_pos hr5]
    have hSt := hR.2.2.2.2
    by_cases hr1 : r = 1
    · subst hr1
      rw [hSt.1] at h1
      refine va_sld hexec hb hKK.2.2.1 (by rw [hKK.2.1]; exact hKK.2.2.2.1) (fun q => by have := hKK.2.2.2.1; unfold aA at q; omega) (va_S.Hb hKK.2.1 hR hS) (ofI_in h0 h1 (by have := hKK.2.2.2.2.1; omega)) hd ?_
      have e := hSt.2.1 i.toNat (by omega)
      rw [show ((i.toNat : Nat) : Int) = i by omega] at e
      rw [hcl]
      rw [List.map_cons, show cv g (vI (a 1 i)) = .int (Int32.ofInt (a 1 i)) from rfl, e, Int32.ofInt_toInt] at K
      exact K
    · have h26 := hSt.2.2 r (by omega) hr5
      rw [h26.1] at h1
      have hT := (hKK.2.2.2.2.2.1 r (by omega) hr5).1
      have hT2 := va_T.kept (H1 := s0.heap) hT (fun q hq _ => heq q (by rw [hKK.2.1] at hq; exact hq))
      refine va_ti hexec hb hT2 hS (ofI_in h0 h1 (by omega)) (v := .int (Int32.ofInt (a r i))) ?_ hd K
      have e := h26.2 i.toNat (by omega)
      rw [show ((i.toNat : Nat) : Int) = i by omega] at e
      rw [hcl, e]
set_option maxHeartbeats 4000000 in
theorem snd_bald (C : Cxt g y p s0 m args meth c) {pc : Nat} (hd : decode (cd y) pc = .ok (.baload, 1)) {r : Nat} {i : Int} {st3 : List Vl} {a : HI} {b : HR} {s : SH} (hk : kd s r = 11 ∨ kd s r = 13) (h0 : 0 ≤ i) (h1 : i < ln s r) (hR : RelM g a b s H) {lsC : Array Slot} (K : W p l e R s0 m args below meth c H locs cells slots Q (F0 m (pc + 1) lsC ((vI (a r i) :: st3).map (cv g)))) : W p l e R s0 m args below meth c H locs cells slots Q (F0 m pc lsC ((vI i :: vR r :: st3).map (cv g))) := by
  obtain ⟨hexec, hb, -, -, -, -, hKK, -, -, hge, heq⟩ := C
  have hln := hR.2.2.2.1.2.2.2.2.2.1 r
  have hiR : InR i := by omega
  have hcl := ofI_cl hiR
  have hin : vp_in (Int32.ofInt i) (ln s r).toNat := ofI_in h0 (toNat_lt h0 h1) (by omega)
  have hti : ((Int32.ofInt i).toNatClampNeg : Int) = i := by rw [hcl]; omega
  have hr := okK_rng hR.2.2.2.1 (r := r) (by omega)
  rw [List.map_cons, List.map_cons, show cv g (vR r) = cvR g r from rfl, cvR_ne (by omega)]
  rcases hk with hk | hk
  · refine va_bald hexec hb hKK.1 hR.2.2.1 (r - 5) 1 ((wsE_at hr.1 hr.2).trans (by rw [cel_I (by omega) (by omega), hk])) rfl hin hd ?_
    rw [hti]
    exact K
  · refine va_zald hexec hb hKK.1 hR.2.2.1 (r - 5) 3 ((wsE_at hr.1 hr.2).trans (by rw [cel_I (by omega) (by omega), hk])) rfl hin hd ?_
    rw [hti]
    exact K
set_option maxHeartbeats 4000000 in
theorem snd_cald (C : Cxt g y p s0 m args meth c) {pc : Nat} (hd : decode (cd y) pc = .ok (.caload, 1)) {r : Nat} {i : Int} {st3 : List Vl} {a : HI} {b : HR} {s : SH} (hk : kd s r = 12) (h0 : 0 ≤ i) (h1 : i < ln s r) (hR : RelM g a b s H) {lsC : Array Slot} (K : W p l e R s0 m args below meth c H locs cells slots Q (F0 m (pc + 1) lsC ((vI (a r i) :: st3).map (cv g)))) : W p l e R s0 m args below meth c H locs cells slots Q (F0 m pc lsC ((vI i :: vR r :: st3).map (cv g))) := by
  obtain ⟨hexec, hb, -, -, -, -, hKK, -, -, hge, heq⟩ := C
  have hln := hR.2.2.2.1.2.2.2.2.2.1 r
  have hiR : InR i := by omega
  have hcl := ofI_cl hiR
  have hin : vp_in (Int32.ofInt i) (ln s r).toNat := ofI_in h0 (toNat_lt h0 h1) (by omega)
  have hti : ((Int32.ofInt i).toNatClampNeg : Int) = i := by rw [hcl]; omega
  have hr := okK_rng hR.2.2.2.1 (r := r) (by omega)
  rw [List.map_cons, List.map_cons, show cv g (vR r) = cvR g r from rfl, cvR_ne (by omega)]
  refine va_cald hexec hb hKK.1 hR.2.2.1 (r - 5) 2 ((wsE_at hr.1 hr.2).trans (by rw [cel_I (by omega) (by omega), hk])) rfl hin hd ?_
  rw [hti]
  exact K
set_option maxHeartbeats 4000000 in
theorem snd_aald (C : Cxt g y p s0 m args meth c) {pc : Nat} (hd : decode (cd y) pc = .ok (.aaload, 1)) {r : Nat} {i : Int} {st3 : List Vl} {a : HI} {b : HR} {s : SH} (hk : kd s r = 14 ∨ kd s r = 15) (h0 : 0 ≤ i) (h1 : i < ln s r) (hR : RelM g a b s H) {lsC : Array Slot} (K : W p l e R s0 m args below meth c H locs cells slots Q (F0 m (pc + 1) lsC ((vR (b r i) :: st3).map (cv g)))) : W p l e R s0 m args below meth c H locs cells slots Q (F0 m pc lsC ((vI i :: vR r :: st3).map (cv g))) := by
  obtain ⟨hexec, hb, -, -, -, -, hKK, -, -, hge, heq⟩ := C
  have hln := hR.2.2.2.1.2.2.2.2.2.1 r
  have hiR : InR i := by omega
  have hcl := ofI_cl hiR
  have hin : vp_in (Int32.ofInt i) (ln s r).toNat := ofI_in h0 (toNat_lt h0 h1) (by omega)
  have hti : ((Int32.ofInt i).toNatClampNeg : Int) = i := by rw [hcl]; omega
  have hr := okK_rng hR.2.2.2.1 (r := r) (by omega)
  rw [List.map_cons, List.map_cons, show cv g (vR r) = cvR g r from rfl, cvR_ne (by omega)]
  rcases hk with hk | hk
  · refine va_aldq hexec hb hKK.1 hR.2.2.1 (r - 5) 4 ((wsE_at hr.1 hr.2).trans (by rw [cel_Q (by omega), hk])) rfl hin hd ?_
    rw [hti]
    exact K
  · refine va_aldq hexec hb hKK.1 hR.2.2.1 (r - 5) 5 ((wsE_at hr.1 hr.2).trans (by rw [cel_Q (by omega), hk])) rfl hin hd ?_
    rw [hti]
    exact K
theorem wI_ne {a : HI} {r q : Nat} {k v : Int} (h : q ≠ r) : wI a r k v q = a q := by
  funext k'; unfold wI; rw [if_neg (fun z => h z.1)]
theorem wR_ne {b : HR} {r q v : Nat} {k : Int} (h : q ≠ r) : wR b r k v q = b q := by
  funext k'; unfold wR; rw [if_neg (fun z => h z.1)]
theorem okK_wI {s : SH} {a : HI} {b : HR} {r : Nat} {k v : Int} (h : okK s a b) (hv : InR v) (hb : kd s r = 11 → -128 ≤ v ∧ v ≤ 127) : okK s (wI a r k v) b := by
  obtain ⟨h1, h2, h3, h4, h5, h6, h7⟩ := h
  refine ⟨fun q j => ?_, h2, h3, h4, h5, h6, fun q hq j => ?_⟩
  · unfold wI
    by_cases z : q = r ∧ j = k
    · rw [if_pos z]; exact hv
    · rw [if_neg z]; exact h1 q j
  · unfold wI
    by_cases z : q = r ∧ j = k
    · rw [if_pos z]; rw [z.1] at hq; exact hb hq
    · rw [if_neg z]; exact h7 q hq j
theorem okK_b {s : SH} {a : HI} {b b' : HR} (h : okK s a b) : okK s a b' := h
theorem cel_wI {g : Gx} {a : HI} {s : SH} {r : Nat} {i v : Int} (h0 : 0 ≤ i) (h1 : 10 ≤ kd s r) (h2 : kd s r < 14) {cA : ClassId} (hA : cA = gA g (kd s r)) {n : Nat} (hn : n = (ln s r).toNat) (hi : InR i) : (vp_cell cA (n, .inl (fun j => Int32.ofInt (a r j)))).setSlot (Int32.ofInt i).toNatClampNeg (.int (Int32.ofInt v)) = vp_cell (gA g (kd s r)) ((ln s r).toNat, .inl (fun j => Int32.ofInt (wI a r i v r j))) := by
  subst hA; subst hn
  rw [vp_cell_i, vp_cell_i, arrV_store]
  congr 1
  funext q
  rw [ofI_cl hi]
  unfold updV wI
  by_cases hq : q = i.toNat
  · rw [if_pos hq, if_pos ⟨rfl, by omega⟩]
  · rw [if_neg hq, if_neg (fun z => hq (by omega))]
set_option maxHeartbeats 4000000 in
theorem snd_ast (C : Cxt g y p s0 m args meth c) {pc : Nat} {ins : Instr} {r : Nat} {i v : Int} (hd : decode (cd y) pc = .ok (ins, 1)) {st3 : List Vl} {a : HI} {b : HR} {s : SH} (hk : (ins = .iastore ∧ kd s r = 10) ∨ (ins = .bastore ∧ (kd s r = 11 ∧ -128 ≤ v ∧ v ≤ 127 ∨ kd s r = 13 ∧ 0 ≤ v ∧ v ≤ 1)) ∨ (ins = .castore ∧ kd s r = 12 ∧ 0 ≤ v ∧ v ≤ 65535)) (hvR : InR v) (h0 : 0 ≤ i) (h1 : i < ln s r) (hR : RelM g a b s H) (hS : va_S (aA g) s0.heap H locs) {lsC : Array Slot} (K : ∀ (H1 : Heap) (locs1 : List Loc), RelM g (wI a r i v) b s H1 → va_S (aA g) s0.heap H1 locs1 → W p l e R s0 m args below meth c H1 locs1 cells slots Q (F0 m (pc + 1) lsC (st3.map (cv g)))) : W p l e R s0 m args below meth c H locs cells slots Q (F0 m pc lsC ((vI v :: vI i :: vR r :: st3).map (cv g))) := by
  obtain ⟨hexec, hb, -, -, -, -, hKK, -, -, hge, heq⟩ := C
  have hln := hR.2.2.2.1.2.2.2.2.2.1 r
  have hiR : InR i := by omega
  have hcl := ofI_cl hiR
  have hin : vp_in (Int32.ofInt i) (ln s r).toNat := ofI_in h0 (toNat_lt h0 h1) (by omega)
  have hkd : 10 ≤ kd s r ∧ kd s r ≤ 13 := by omega
  have hr := okK_rng hR.2.2.2.1 (r := r) (by omega)
  rw [List.map_cons, List.map_cons, List.map_cons, show cv g (vR r) = cvR g r from rfl, cvR_ne (by omega)]
  have hcell := hR.at (r := r) (by omega)
  rw [cel_I hkd.1 (by omega)] at hcell
  have hcell : H[adr g r]? = some (vp_cell (gA g (kd s r)) ((ln s r).toNat, .inl (fun j => Int32.ofInt (a r j)))) := hcell
  have hbyte : kd s r = 11 → -128 ≤ v ∧ v ≤ 127 := by omega
  have hARR : ArrOfT s0 (gA g (kd s r)) (tyK (kd s r)) := (hKK.1.2 _ _ (tyS_at (k := kd s r) hkd.1 (by omega))).1
  have fin : ∀ (H1 : Heap), H1[adr g r]? = some ((vp_cell (gA g (kd s r)) ((ln s r).toNat, .inl (fun j => Int32.ofInt (a r j)))).setSlot (Int32.ofInt i).toNatClampNeg (.int (Int32.ofInt v))) → H1.size = H.size → (∀ q : Nat, q ≠ adr g r → H1[q]? = H[q]?) → W p l e R s0 m args below meth c H1 (locs ++ [⟨adr g r, (Int32.ofInt i).toNatClampNeg⟩]) cells slots Q (F0 m (pc + 1) lsC (st3.map (cv g))) := by
    intro H1 e z oq
    refine K H1 _ (RelM.wr (a' := wI a r i v) (b' := b) hR hr (fun q hq => wI_ne hq) (fun q _ => rfl) (okK_wI (b := b) hR.2.2.2.1 hvR hbyte) ?_ z oq) (hS.put z oq (by unfold aA; rw [adr_new hr.1]; omega))
    rw [cel_I hkd.1 (by omega)]
    show H1[adr g r]? = some (vp_cell _ _)
    rw [e, cel_wI h0 hkd.1 (by omega) rfl rfl hiR]
  have hin2 : ∀ (f : Nat → Int32), ¬ (Int32.ofInt i < 0 ∨ (vp_cell (gA g (kd s r)) ((ln s r).toNat, .inl f)).slots.size ≤ (Int32.ofInt i).toNatClampNeg) := by
    intro f
    rw [vp_cell_i, arrV_size]
    exact hin
  rcases hk with ⟨rfl, hk⟩ | ⟨rfl, hk | hk⟩ | ⟨rfl, hk, hv1⟩
  · rw [show tyK (kd s r) = .int by rw [hk]; rfl] at hARR
    exact W.iast hexec hb hcell (hARR _ _) (fun q => by cases q) (hin2 _) rfl rfl hd (fun H1 e z oq => fin H1 e z oq)
  · rw [show tyK (kd s r) = .byte by rw [hk.1]; rfl] at hARR
    refine W.bast hexec hb hcell (hARR _ _) (fun q => by cases q) (hin2 _) rfl rfl hd (fun H1 e z oq => fin H1 ?_ z oq)
    rw [e, show narrow .byte (.int (Int32.ofInt v)) = .int (Int32.ofInt v).toInt8.toInt32 from rfl, ofI_b8 hk.2.1 hk.2.2]
  · rw [show tyK (kd s r) = .boolean by rw [hk.1]; rfl] at hARR
    refine W.zast hexec hb hcell (hARR _ _) (fun q => by cases q) (hin2 _) rfl rfl hd (fun H1 e z oq => fin H1 ?_ z oq)
    rw [e, show narrow .boolean (.int (Int32.ofInt v)) = .int (Int32.ofInt v &&& 1) from rfl]
    have : v = 0 ∨ v = 1 := by omega
    rcases this with rfl | rfl <;> rfl
  · rw [show tyK (kd s r) = .char by rw [hk]; rfl] at hARR
    refine W.cast hexec hb hcell (hARR _ _) (fun q => by cases q) (hin2 _) rfl rfl hd (fun H1 e z oq => fin H1 ?_ z oq)
    obtain ⟨n, rfl⟩ := Int.eq_ofNat_of_zero_le hv1.1
    rw [e, ofI_nat, (pk_charN (q := n) (by omega)).1]
end MEM
