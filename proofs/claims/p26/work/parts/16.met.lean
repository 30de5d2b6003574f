/-! ===== the soundness of the interpreter ===== -/
def qcB (g : Gx) (a : HI) (b : HR) (s : SH) : Unit → State → Prop := fun _ t => RelM g a b s t.heap ∧ KKg g t
def qcO (g : Gx) (rv : List Vl) (a : HI) (b : HR) (s : SH) : Array Value → State → Outcome → State → Prop := match rv with
  | [.inl x] => va_Qi (fun (r : Int32) (_ : Unit) => r = Int32.ofInt x ∧ InR x) (qcB g a b s) (aA g)
  | [.inr (.inl r)] => va_Qr (fun (_ : Unit) => True) (fun u z t => z = adr g r ∧ qcB g a b s u t) (aA g)
  | _ => va_Qv (fun (_ : Unit) => True) (qcB g a b s) (aA g)
def wsY (t : Nat) : List Jvm.Cond := Jvm.Cond.code (nm t) (cd t) (mL t) (rt t) :: gdW
def rmY (t mc ms : Nat) : Room := { frames := dp t, cells := mc, slots := ms, locals := lc t }
/-- a frame's run, from any of its points on -/
def fraP (l : Launch) (g : Gx) (n : Nat) : Prop := ∀ (y pc : Nat) (ls st : List Vl) (a : HI) (b : HR) (s : SH) (rv : List Vl) (a1 : HI) (b1 : HR) (s1 : SH), exN n y pc ls st a b s = some (rv, a1, b1, s1) →
  ∀ (p : Program) (e : Env) (R : Room) (s0 : State) (m : MethodId) (args : Array Value) (below : List Frame) (meth : Method) (c : Code) (H : Heap) (locs : List Loc) (cells slots : Nat) (Q : State → Prop) (lsC : Array Slot), Cxt g y p s0 m args meth c → dp y ≤ R.frames → lc y ≤ R.locals → RelM g a b s H → va_S (aA g) s0.heap H locs → lsR g lsC (mL y) ls → okL ls → okL st → cells + (nx s1 - nx s) ≤ R.cells → slots + (ns s1 - ns s) ≤ R.slots →
  (∀ (pc1 : Nat) (ins : Instr) (lsC1 : Array Slot) (H1 : Heap) (locs1 : List Loc), decode (cd y) pc1 = .ok (ins, 1) → retOf y ins rv = some rv → okL rv → RelM g a1 b1 s1 H1 → va_S (aA g) s0.heap H1 locs1 → W p l e R s0 m args below meth c H1 locs1 (cells + (nx s1 - nx s)) (slots + (ns s1 - ns s)) Q (F0 m pc1 lsC1 (rv.map (cv g)))) →
  W p l e R s0 m args below meth c H locs cells slots Q (F0 m pc lsC (st.map (cv g)))
/-- a method's contract -/
def metP (l : Launch) (g : Gx) (n : Nat) : Prop := ∀ (t : Nat) (as : List Vl) (a : HI) (b : HR) (s : SH) (rv : List Vl) (a1 : HI) (b1 : HR) (s1 : SH), t < 87 → exN n t 0 (ent (mL t) as) [] a b s = some (rv, a1, b1, s1) → okL as → (spr as).length ≤ mL t →
  Met l (nm t) (wsY t) (rmY t (nx s1 - nx s) (ns s1 - ns s)) (va_Pc (as.map (cv g)) (fun U => RelM g a b s U.heap ∧ KKg g U)) (qcO g rv a1 b1 s1) (nx s1 - nx s) (ns s1 - ns s) (aA g)
theorem Met.ofWF {l : Launch} {y : MethodName} {ws ws' : List Jvm.Cond} {rm : Room} {Pc : Array Value → State → Prop} {Qc : Array Value → State → Outcome → State → Prop} {mc ms : Nat} {free : Addr → Prop} {cc : ByteArray} {maxL : Nat} {ret : Option FieldType}
    (hy : plainFor y = true) (hw : ws = Jvm.Cond.code y cc maxL ret :: ws')
    (body : ∀ p e s m args below meth c s₁, BodyLoose p l y (headSpec ws rm) cc maxL ret e s m args below meth c s₁ → c.maxLocals = maxL → Pc args s →
      W p l e (headSpec ws rm).room s m args below meth c s.heap [] 0 0 (MQ below Qc args s mc ms free) (entryFrame m args maxL)) : Met l y ws rm Pc Qc mc ms free := by
  refine MetFree.of_bodySF (code := cc) (maxLocals := maxL) (ret := ret) hy ?_ ?_
  · intro args s m h hn
    obtain ⟨meth, c, h1, h2, h3, h4, h5, h6, -, -⟩ := Cond.code_spec hn (atoms_spec (ws := ws) h _ (by rw [hw]; exact List.mem_cons_self))
    exact ⟨meth, c, h1, h2, h3, h4, h5, h6⟩
  · intro p e s m args below meth c s₁ B hml hP _
    have hh0 : s₁.heap = s.heap := by rw [B.state]; rfl
    obtain ⟨t, a1, o, b1, b2, b3⟩ := body p e s m args below meth c s₁ B hml hP s₁ hh0 (Stand.of_body B)
    exact ⟨t, o, a1, b1, b2, ⟨b3.1, b3.2⟩⟩
theorem wsY_in {t : Nat} (ht : t < 87) : GoodIn gdW (wsY t) := by
  intro w hw
  have hg : ∀ w ∈ gdW, (w.onTables && w.keeps) = true ∨ ∃ ty, w = .arrayClass ty := fun w h => good_of_word (List.mem_filter.mp h).2
  rcases List.mem_cons.mp hw with rfl | h
  · have := gd_in (List.mem_of_getElem? (codW_all ht)) rfl
    exact ⟨this, hg _ this⟩
  · exact ⟨h, hg w h⟩
set_option maxHeartbeats 4000000 in
theorem met_of {l : Launch} {g : Gx} {n : Nat} (hF : fraP l g n) : metP l g n := by
  intro t as a b s rv a1 b1 s1 ht hex has hsp
  have hmt := mt_all ht
  unfold mtB at hmt
  simp only [Bool.and_eq_true, decide_eq_true_eq] at hmt
  refine Met.ofWF (cc := cd t) (maxL := mL t) (ret := rt t) hmt.1.1.1.2 rfl ?_
  intro p e s0 m args below meth c s₁ B hml hv
  obtain ⟨rfl, hR, hK⟩ := hv
  have hts := atoms_spec (ws := wsY t) B.pre
  have hlocks := B.notSynchronized
  have hown : s0.vm.findClass (CN (ow t)) = some m.cls := findClass_of_methodNamed B.named
  have hC : Cxt g t p s0 m (as.map (cv g)).toArray meth c := ⟨B.exec, B.bytes, B.returns, hml, hown, fun w h => hts w (List.mem_cons_of_mem _ h), hK, fun _ => (name_of_methodNamed B.named B.method).1, hlocks, by rw [hR.1]; omega, hR.2.1⟩
  rw [lg_entry_eq]
  have hzr : ∀ z : Nat, 0 + z = z := Nat.zero_add
  have hmain := hF t 0 (ent (mL t) as) [] a b s rv a1 b1 s1 hex p e (headSpec (wsY t) (rmY t (nx s1 - nx s) (ns s1 - ns s))).room s0 m (as.map (cv g)).toArray below meth c s0.heap [] 0 0 (MQ below (qcO g rv a1 b1 s1) (as.map (cv g)).toArray s0 (nx s1 - nx s) (ns s1 - ns s) (aA g)) _ hC (Nat.le_refl _) (Nat.le_refl _) hR va_S.rf (ent_lsR hsp) (okL_ent has) okL_nil (by rw [hzr]; exact Nat.le_refl _) (by rw [hzr]; exact Nat.le_refl _)
  refine hmain ?_
  intro pc1 ins lsC1 H1 locs1 hd hret hrv hR1 hS1
  rw [hzr, hzr]
  have hq : ∀ z : State, z.heap = H1 → s0.WarmedH z.vm → qcB g a1 b1 s1 () z ∧ va_F (aA g) s0 z := fun z hz hW => ⟨⟨by rw [hz]; exact hR1, KKg.warm hW hK⟩, hS1.F hz⟩
  rcases (ret_some hret).2 with ⟨rfl, rfl, hr⟩ | ⟨rfl, x, rfl, hr⟩ | ⟨rfl, r, rfl, hr0, hr⟩
  · exact W.vret B.exec B.bytes (B.returns.trans hr) (fun z hz hW => ⟨⟨(), rfl, trivial, (hq z hz hW).1⟩, (hq z hz hW).2⟩) hS1.2.2 hd
  · rcases hr with hr | ⟨hr, hx⟩
    · exact W.iret (v := Int32.ofInt x) B.exec B.bytes (B.returns.trans hr) (fun z hz hW => ⟨⟨_, (), rfl, ⟨rfl, (okL_cons.mp hrv).1⟩, (hq z hz hW).1⟩, (hq z hz hW).2⟩) hS1.2.2 hd
    · exact W.zret (v := Int32.ofInt x) B.exec B.bytes (B.returns.trans hr) (by rcases hx with rfl | rfl <;> rfl) (fun z hz hW => ⟨⟨_, (), rfl, ⟨rfl, (okL_cons.mp hrv).1⟩, (hq z hz hW).1⟩, (hq z hz hW).2⟩) hS1.2.2 hd
  · rw [List.map_cons, show cv g (vR r) = cvR g r from rfl, cvR_ne hr0]
    rcases hr with hr | hr
    · exact W.aret (v := .ref (adr g r)) B.exec B.bytes (B.returns.trans hr) (Or.inr ⟨_, rfl⟩) (Or.inr ⟨_, rfl⟩) (fun z hz hW => ⟨⟨(), _, rfl, trivial, rfl, (hq z hz hW).1⟩, (hq z hz hW).2⟩) hS1.2.2 hd
    · exact W.aret (v := .ref (adr g r)) B.exec B.bytes (B.returns.trans hr) (Or.inl ⟨_, rfl⟩) (Or.inr ⟨_, rfl⟩) (fun z hz hW => ⟨⟨(), _, rfl, trivial, rfl, (hq z hz hW).1⟩, (hq z hz hW).2⟩) hS1.2.2 hd
section CALL
variable {p : Program} {l : Launch} {e : Env} {R : Room} {s0 : State} {m : MethodId} {args : Array Value} {below : List Frame} {meth : Method} {c : Code} {H : Heap} {locs : List Loc} {cells slots : Nat} {Q : State → Prop} {g : Gx} {y : Nat}
set_option maxHeartbeats 4000000 in
/-- behind a call: what came back -/
theorem cal_join {pc : Nat} {lsC : Array Slot} {st0 rest : List Vl} {mc ms : Nat} {rv : List Vl} {a1 : HI} {b1 : HR} {s1 : SH} {av : Array Value} (hsh : (rv = [] ∧ True) ∨ (∃ x, rv = [vI x]) ∨ (∃ r, rv = [vR r] ∧ r ≠ 0)) (hS : va_S (aA g) s0.heap H locs)
    (hrun : va_Run p l e R s0 m args below meth c H locs cells slots mc ms (F0 m pc lsC (st0.map (cv g))) (rest.map (cv g)) (qcO g rv a1 b1 s1 av) (aA g))
    (K : ∀ (H1 : Heap) (locs1 : List Loc), okL rv → RelM g a1 b1 s1 H1 → va_S (aA g) s0.heap H1 locs1 → W p l e R s0 m args below meth c H1 locs1 (cells + mc) (slots + ms) Q (F0 m (pc + 3) lsC ((rv ++ rest).map (cv g)))) : W p l e R s0 m args below meth c H locs cells slots Q (F0 m pc lsC (st0.map (cv g))) := by
  rcases hsh with ⟨rfl, -⟩ | ⟨x, rfl⟩ | ⟨r, rfl, hr⟩
  · exact va_callv (a := av) hrun hS (fun _ _ h => h) (fun _ h => h) (fun u t H1 locs1 ht hvm hp hB hz hk hS1 => K H1 locs1 okL_nil (by rw [← ht]; exact hB.1) hS1)
  · refine va_calli (a := av) hrun hS (fun _ _ h => h) (fun _ h => h) (fun r u t H1 locs1 ht hvm hp hB hz hk hS1 => ?_)
    rw [hp.1]
    exact K H1 locs1 (okL_cons.mpr ⟨hp.2, okL_nil⟩) (by rw [← ht]; exact hB.1) hS1
  · refine va_callr (a := av) hrun hS (fun _ _ h => h) (fun _ h => h) (fun u ra t H1 locs1 ht hvm hp hB hz hk hS1 => ?_)
    have := K H1 locs1 (okL_cons.mpr ⟨trivial, okL_nil⟩) (by rw [← ht]; exact hB.2.1) hS1
    rw [hB.1]
    rw [List.map_append, List.map_cons, show cv g (vR r) = cvR g r from rfl, cvR_ne hr] at this
    exact this
theorem blind_pc {as : List Vl} {a : HI} {b : HR} {s : SH} : FrameBlind (va_Pc (as.map (cv g)) (fun U => RelM g a b s U.heap ∧ KKg g U)) := fun _ U z mk q => ⟨q.1, q.2.1, KKg.same (s := U) (U := U.calling z mk _) rfl q.2.2⟩
end CALL
