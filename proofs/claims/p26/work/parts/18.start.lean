/-! the claim's frame (the kit's skeleton) -/
def R_law : String := "DomeLampsLaw"
def lw_P (b : Addr) (xs : List Int32) (args : Array Value) (s : State) : Prop := args = #[.ref b] ∧ s.IntsAt b xs ∧ xs.length ≤ 260 ∧ (Jvm.Cond.and given_1 narrow_1).before args s = true
def lw_Q (_ : Array Value) (s : State) (o : Outcome) (t : State) : Prop := o = .returned (some (.int 1)) ∧ Framed s o t [] 600000 7302250
def lw_Z (below : List Frame) (a : Array Value) (s : State) : State → Prop := fun t => ∃ o, t.status = .running ∧ Ended t below o ∧ lw_Q a s o t
/-- the law's own end, with 1 on the stack, nothing written that was there before, its room as the claim has it -/
theorem lw_ret {p : Program} {l : Launch} {e : Env} {s : State} {m : MethodId} {below : List Frame} {meth : Method} {c : Code} {b : Nat} (hx : p.tables.exec = Jvm.exec) (hb : c.code = code) (hr : meth.sig.returnType = ret) (hlocks : meth.locks = false) {pc : Nat} {H : Heap} {ls : Array Slot} (hdg : decode code pc = .ok (.ireturn, 1)) : W p l e room_1 s m #[Value.ref b] below meth c H [] 600000 7302250 (lw_Z below #[Value.ref b] s) (F0 m pc ls [.int 1]) := by
  intro T hT X
  obtain ⟨fs, hret, hrun, hended, hW, hframe⟩ := X.leave (v := some (.int 1)) (hlocks := hlocks) (fun h => by rw [hr] at h; cases h)
  have hmeth' : T.vm.method? m = some meth := X.method'
  refine ⟨T.setFrames fs, ?_, .returned (some (.int 1)), hrun, hended, rfl, ⟨_, rfl⟩, hW, hframe⟩
  jvm_step X.here [X.here.top, hx, hb, hdg, hmeth', hr, ret, narrow_b1]
  (try refine ⟨rfl, ?_⟩); (try refine ⟨rfl, ?_⟩)
  first | (intro acts; rw [hret _ acts rfl rfl rfl]) | rw [hret _ _ rfl rfl rfl]
  exact Steps.refl _
/-- what holds at the law's entry: the machine, the code, the tables' words (any of lw_tbl by 'hts w (by decide +kernel)'), the script of L ints xs at the cell b, what the Statement gives of the start (any of its parts by flat_of_before) -/
def lw_At (p : Program) (s : State) (m : MethodId) (meth : Method) (c : Code) (b L : Nat) (xs : Nat → Int32) : Prop :=
  p.tables.exec = Jvm.exec ∧ c.code = code ∧ meth.sig.returnType = ret ∧ c.maxLocals = 7 ∧ s.vm.findClass R_law = some m.cls ∧ (∀ w ∈ lw_tbl, w.before #[Value.ref b] s = true) ∧ va_X b L xs s s.heap ∧ b < s.heap.size ∧ meth.locks = false ∧ (Jvm.Cond.and given_1 narrow_1).before #[Value.ref b] s = true

/-! ===== the law's entry ===== -/
def a0_ (L : Nat) (xs : Nat → Int32) : HI := fun r k => if r = 1 then (if 0 ≤ k ∧ k < (L : Int) then (xs k.toNat).toInt else 0) else if 2 ≤ r ∧ r < 5 then (if 0 ≤ k ∧ k < 6 then svI r k.toNat else 0) else 0
def b0_ : HR := fun _ _ => 0
def s0_ (L : Nat) : SH := (fun r => if r = 0 then 99 else if r < 5 then 20 else 99, fun r => if r = 1 then (L : Int) else if 2 ≤ r ∧ r < 5 then 6 else 0, 0, 0)
/-- what is left to show of the law, of the interpreter alone -/
def lawOK : Prop := ∀ (L : Nat) (xs : Nat → Int32), L ≤ 260 → ∃ (a : HI) (b : HR) (s : SH), Mn 87 [vR 1] (a0_ L xs) b0_ (s0_ L) = some ([vI 1], a, b, s) ∧ nx s ≤ 600000 ∧ ns s ≤ 7302250
theorem sv_R : ∀ r, 2 ≤ r → r < 5 → ∀ j, j < 6 → -2147483648 ≤ svI r j ∧ svI r j ≤ 2147483647 := by
  intro r h1 h2 j hj
  have hr : r = 2 ∨ r = 3 ∨ r = 4 := by omega
  have hj2 : j = 0 ∨ j = 1 ∨ j = 2 ∨ j = 3 ∨ j = 4 ∨ j = 5 := by omega
  rcases hr with rfl | rfl | rfl <;> rcases hj2 with rfl | rfl | rfl | rfl | rfl | rfl <;> decide
theorem a0_R (L : Nat) (xs : Nat → Int32) (r : Nat) (k : Int) : InR (a0_ L xs r k) := by
  unfold a0_
  split
  · split
    · exact InR_toInt _
    · omega
  · split
    · rename_i h
      split
      · rename_i h2; exact sv_R r h.1 h.2 _ (by omega)
      · omega
    · omega
theorem ok0 (L : Nat) (hL : L ≤ 260) (xs : Nat → Int32) : okK (s0_ L) (a0_ L xs) b0_ := by
  refine ⟨a0_R L xs, fun r h1 h2 => ?_, fun r h1 => ?_, rfl, fun r h1 h2 => ?_, fun r => ?_, fun r hr j => ?_⟩
  · simp only [s0_, nx] at h2; omega
  · simp only [s0_, nx] at h1
    show (if r = 0 then 99 else if r < 5 then 20 else 99) = 99
    rw [if_neg (by omega), if_neg (by omega)]
  · show (if r = 0 then 99 else if r < 5 then 20 else 99) = 20
    rw [if_neg (by omega), if_pos h2]
  · show 0 ≤ (if r = 1 then (L : Int) else if 2 ≤ r ∧ r < 5 then 6 else 0) ∧ (if r = 1 then (L : Int) else if 2 ≤ r ∧ r < 5 then 6 else 0) ≤ 2147483647
    by_cases h : r = 1
    · rw [if_pos h]; omega
    · rw [if_neg h]
      by_cases h2 : 2 ≤ r ∧ r < 5
      · rw [if_pos h2]; omega
      · rw [if_neg h2]; omega
  · exfalso
    have : (if r = 0 then 99 else if r < 5 then 20 else 99) = 11 := hr
    by_cases h : r = 0
    · rw [if_pos h] at this; omega
    · rw [if_neg h] at this
      by_cases h2 : r < 5
      · rw [if_pos h2] at this; omega
      · rw [if_neg h2] at this; omega
set_option maxRecDepth 100000 in
theorem st_tab (args : Array Value) (s : State) (hgv : (Jvm.Cond.and given_1 narrow_1).before args s = true) (hts : ∀ w ∈ lw_tbl, w.before args s = true) (A : Nat → Prop) (hA : ∀ a : Nat, a < s.heap.size → ¬ A a) : ∀ r, 2 ≤ r → r < 5 → ∃ t : Nat, va_T .int t 6 (fun j => .int (Int32.ofInt (svI r j))) A s s.heap ∧ va_Z "DomeLamps" (svN r) "[I" (.ref t) A s s.heap ∧ (Term.static "DomeLamps" (svN r) "[I").eval args s none [] s = some (.ref t) := by
  have hs := flat_of_before _ hgv
  have hini : (Jvm.Cond.initialized "DomeLamps").before args s = true := hts _ (by decide +kernel)
  intro r h1 h2
  have hr : r = 2 ∨ r = 3 ∨ r = 4 := by omega
  rcases hr with rfl | rfl | rfl
  · obtain ⟨t, ht, hT⟩ := va_Tof (N := 6) (f := fun j => .int (Int32.ofInt (svI 2 j))) (tm := .static "DomeLamps" "FIRST_VALUES" "[I") (ty := .int) (A := A) (by decide) (hs _ (by decide +kernel)) (va_eqt (hs (.eq (.length (.static "DomeLamps" "FIRST_VALUES" "[I")) (.int 6)) (by decide +kernel))) (fun j hj => by
      have hj2 : j = 0 ∨ j = 1 ∨ j = 2 ∨ j = 3 ∨ j = 4 ∨ j = 5 := by omega
      rcases hj2 with rfl | rfl | rfl | rfl | rfl | rfl
      · exact va_eqt (hs (.eq (.elem (.static "DomeLamps" "FIRST_VALUES" "[I") (.int 0)) (.int 600)) (by decide +kernel))
      · exact va_eqt (hs (.eq (.elem (.static "DomeLamps" "FIRST_VALUES" "[I") (.int 1)) (.int 5)) (by decide +kernel))
      · exact va_eqt (hs (.eq (.elem (.static "DomeLamps" "FIRST_VALUES" "[I") (.int 2)) (.int 50)) (by decide +kernel))
      · exact va_eqt (hs (.eq (.elem (.static "DomeLamps" "FIRST_VALUES" "[I") (.int 3)) (.int 40)) (by decide +kernel))
      · exact va_eqt (hs (.eq (.elem (.static "DomeLamps" "FIRST_VALUES" "[I") (.int 4)) (.int 5)) (by decide +kernel))
      · exact va_eqt (hs (.eq (.elem (.static "DomeLamps" "FIRST_VALUES" "[I") (.int 5)) (.int 10)) (by decide +kernel))) hA
    exact ⟨t, hT, va_Zref (hts _ (by decide +kernel)) hini ht hA, ht⟩
  · obtain ⟨t, ht, hT⟩ := va_Tof (N := 6) (f := fun j => .int (Int32.ofInt (svI 3 j))) (tm := .static "DomeLamps" "LEAST_VALUES" "[I") (ty := .int) (A := A) (by decide) (hs _ (by decide +kernel)) (va_eqt (hs (.eq (.length (.static "DomeLamps" "LEAST_VALUES" "[I")) (.int 6)) (by decide +kernel))) (fun j hj => by
      have hj2 : j = 0 ∨ j = 1 ∨ j = 2 ∨ j = 3 ∨ j = 4 ∨ j = 5 := by omega
      rcases hj2 with rfl | rfl | rfl | rfl | rfl | rfl
      · exact va_eqt (hs (.eq (.elem (.static "DomeLamps" "LEAST_VALUES" "[I") (.int 0)) (.int 1)) (by decide +kernel))
      · exact va_eqt (hs (.eq (.elem (.static "DomeLamps" "LEAST_VALUES" "[I") (.int 1)) (.int 0)) (by decide +kernel))
      · exact va_eqt (hs (.eq (.elem (.static "DomeLamps" "LEAST_VALUES" "[I") (.int 2)) (.int 1)) (by decide +kernel))
      · exact va_eqt (hs (.eq (.elem (.static "DomeLamps" "LEAST_VALUES" "[I") (.int 3)) (.int 1)) (by decide +kernel))
      · exact va_eqt (hs (.eq (.elem (.static "DomeLamps" "LEAST_VALUES" "[I") (.int 4)) (.int 0)) (by decide +kernel))
      · exact va_eqt (hs (.eq (.elem (.static "DomeLamps" "LEAST_VALUES" "[I") (.int 5)) (.int 0)) (by decide +kernel))) hA
    exact ⟨t, hT, va_Zref (hts _ (by decide +kernel)) hini ht hA, ht⟩
  · obtain ⟨t, ht, hT⟩ := va_Tof (N := 6) (f := fun j => .int (Int32.ofInt (svI 4 j))) (tm := .static "DomeLamps" "MOST_VALUES" "[I") (ty := .int) (A := A) (by decide) (hs _ (by decide +kernel)) (va_eqt (hs (.eq (.length (.static "DomeLamps" "MOST_VALUES" "[I")) (.int 6)) (by decide +kernel))) (fun j hj => by
      have hj2 : j = 0 ∨ j = 1 ∨ j = 2 ∨ j = 3 ∨ j = 4 ∨ j = 5 := by omega
      rcases hj2 with rfl | rfl | rfl | rfl | rfl | rfl
      · exact va_eqt (hs (.eq (.elem (.static "DomeLamps" "MOST_VALUES" "[I") (.int 0)) (.int 9999)) (by decide +kernel))
      · exact va_eqt (hs (.eq (.elem (.static "DomeLamps" "MOST_VALUES" "[I") (.int 1)) (.int 50)) (by decide +kernel))
      · exact va_eqt (hs (.eq (.elem (.static "DomeLamps" "MOST_VALUES" "[I") (.int 2)) (.int 100)) (by decide +kernel))
      · exact va_eqt (hs (.eq (.elem (.static "DomeLamps" "MOST_VALUES" "[I") (.int 3)) (.int 99)) (by decide +kernel))
      · exact va_eqt (hs (.eq (.elem (.static "DomeLamps" "MOST_VALUES" "[I") (.int 4)) (.int 99)) (by decide +kernel))
      · exact va_eqt (hs (.eq (.elem (.static "DomeLamps" "MOST_VALUES" "[I") (.int 5)) (.int 99)) (by decide +kernel))) hA
    exact ⟨t, hT, va_Zref (hts _ (by decide +kernel)) hini ht hA, ht⟩
theorem st_arr {args : Array Value} {s : State} {ty : FieldType} (h : (Jvm.Cond.arrayClass ty).before args s = true) : ∃ cA : ClassId, ArrOfT s cA ty ∧ s.vm.findClass ("[" ++ ty.toString) = some cA := by
  obtain ⟨c, k, comp, h1, h2, h3⟩ := Cond.arrayClass_spec h
  exact ⟨c, fun n z => ⟨fun k h => (by cases h), k, h2, comp, h3⟩, h1⟩
theorem st_arq {args : Array Value} {s : State} {C : String} (h : (Jvm.Cond.arrayOver (.object C)).before args s = true) : ∃ cA : ClassId, ArrOfT s cA (.object C) ∧ va_RA s cA (.object C) := by
  obtain ⟨comp, c, k, h1, h2, h3, h4, h5⟩ := Cond.arrayOver_spec h
  exact ⟨c, fun n z => ⟨fun k h => (by cases h), k, h3, comp, h4⟩, k, comp, h3, h4, h1, h5⟩
theorem st_tbl : (["DomeLamps$Dome", "DomeLamps$Groups", "DomeLamps$History", "DomeLamps$Lamps", "DomeLamps$Pad", "DomeLamps$Reader", "DomeLamps$Show", "DomeLamps", "DomeLamps"].zip [9, 6, 3, 3, 2, 11, 6, 7, 7]).all (fun q => decide (Jvm.Cond.instantiable q.1 q.2 ∈ lw_tbl)) = true := by decide +kernel
theorem st_tb2 : [Jvm.Cond.arrayClass .int, .arrayClass .byte, .arrayClass .char, .arrayClass .boolean, .arrayOver (.object RX6), .arrayOver (.object RX0), .castable "[I" "java/lang/Cloneable", .castable "[B" "java/lang/Cloneable", .methodLinkNest RX7 9 ⟨RX0, "<init>", "()V"⟩ RX7, .fieldLinkNest RX0 9 RX7 "FIRST_VALUES" "[I" RX7, .methodLinkNest RX0 34 ⟨RX3, "<init>", "()V"⟩ RX7, .methodLinkNest RX0 41 ⟨RX1, "<init>", "()V"⟩ RX7, .methodLinkNest RX7 21 ⟨RX4, "<init>", "()V"⟩ RX7, .methodLinkNest RX7 28 ⟨RX5, "<init>", "()V"⟩ RX7, .methodLinkNest RX2 17 ⟨RX0, "<init>", "()V"⟩ RX7].all (fun w => decide (w ∈ lw_tbl)) = true := by decide +kernel
theorem st_lay {q : Nat} (h : q < 9) : ∀ w ∈ u_ws (CN q) (CT q) (CNF q), w ∈ lw_tbl := fun w hw => (List.mem_filter.mp (lay_in h w hw)).1
