/-! ===== the interpreter without a bound, and its laws ===== -/
theorem exN_succ : ∀ (n y pc : Nat) (ls st : List Vl) (a : HI) (b : HR) (s : SH) (q : List Vl × HI × HR × SH), exN n y pc ls st a b s = some q → exN (n + 1) y pc ls st a b s = some q := by
  intro n
  induction n with
  | zero => intro y pc ls st a b s q h; simp [exN] at h
  | succ n ih =>
    intro y pc ls st a b s q h
    rw [exN] at h
    rw [exN]
    cases hf : fetch y pc with
    | none => rw [hf] at h; simp at h
    | some w =>
      obtain ⟨len, ins, an⟩ := w
      rw [hf] at h
      simp only at h ⊢
      cases hr : retOf y ins st with
      | some rv => rw [hr] at h; exact h
      | none =>
        rw [hr] at h
        simp only at h ⊢
        cases hc : callOf ins an st s with
        | some w =>
          obtain ⟨t, as, rest⟩ := w
          rw [hc] at h
          simp only at h ⊢
          cases hm : exN n t 0 (ent (mL t) as) [] a b s with
          | none => rw [hm] at h; simp at h
          | some w =>
            obtain ⟨rv, a1, b1, s1⟩ := w
            rw [hm] at h
            rw [ih _ _ _ _ _ _ _ _ hm]
            exact ih _ _ _ _ _ _ _ _ h
        | none =>
          rw [hc] at h
          simp only at h ⊢
          cases hs : st1 ins an ls st a b s with
          | none => rw [hs] at h; simp at h
          | some w =>
            obtain ⟨j, ls1, st1', a1, b1, s1⟩ := w
            rw [hs] at h
            exact ih _ _ _ _ _ _ _ _ h
theorem exN_le {n m y pc : Nat} {ls st : List Vl} {a : HI} {b : HR} {s : SH} {q : List Vl × HI × HR × SH} (h : exN n y pc ls st a b s = some q) (hn : n ≤ m) : exN m y pc ls st a b s = some q := by
  induction hn with
  | refl => exact h
  | step _ ih => exact exN_succ _ _ _ _ _ _ _ _ _ ih
theorem exN_lim (y pc : Nat) (ls st : List Vl) (a : HI) (b : HR) (s : SH) : ∃ r : Rs, ∀ q, r = some q ↔ ∃ n, exN n y pc ls st a b s = some q := by
  by_cases h : ∃ n q, exN n y pc ls st a b s = some q
  · obtain ⟨n, q, h⟩ := h
    refine ⟨some q, fun q' => ⟨fun e => ⟨n, by rw [← e]; exact h⟩, fun ⟨m, e⟩ => ?_⟩⟩
    have e1 := exN_le h (Nat.le_max_left n m)
    have e2 := exN_le e (Nat.le_max_right n m)
    exact e1.symm.trans e2
  · exact ⟨none, fun q => ⟨fun e => by simp at e, fun ⟨n, e⟩ => absurd ⟨n, q, e⟩ h⟩⟩
noncomputable def En (y pc : Nat) (ls st : List Vl) (a : HI) (b : HR) (s : SH) : Rs := Classical.choose (exN_lim y pc ls st a b s)
theorem En_iff {y pc : Nat} {ls st : List Vl} {a : HI} {b : HR} {s : SH} {q : List Vl × HI × HR × SH} : En y pc ls st a b s = some q ↔ ∃ n, exN n y pc ls st a b s = some q := Classical.choose_spec (exN_lim y pc ls st a b s) q
noncomputable def Mn (t : Nat) (as : List Vl) (a : HI) (b : HR) (s : SH) : Rs := En t 0 (ent (mL t) as) [] a b s
noncomputable def bnd (x : Rs) (f : List Vl → HI → HR → SH → Rs) : Rs := match x with
  | none => none
  | some (rv, a, b, s) => f rv a b s
theorem nr {α : Sort _} {x y : α} (h : x = y) : x = y := h
theorem bnd_some (rv : List Vl) (a : HI) (b : HR) (s : SH) (f : List Vl → HI → HR → SH → Rs) : bnd (some (rv, a, b, s)) f = f rv a b s := nr rfl
theorem bnd_iff {x : Rs} {f : List Vl → HI → HR → SH → Rs} {q : List Vl × HI × HR × SH} : bnd x f = some q ↔ ∃ rv a b s, x = some (rv, a, b, s) ∧ f rv a b s = some q := by
  cases x with
  | none => simp [bnd]
  | some w =>
    obtain ⟨rv, a, b, s⟩ := w
    constructor
    · intro h; exact ⟨rv, a, b, s, rfl, h⟩
    · rintro ⟨rv, a, b, s, h, h2⟩; cases h; exact h2
theorem En_ret {y pc len : Nat} {ins : Instr} {an : List Nat} {ls st rv : List Vl} {a : HI} {b : HR} {s : SH} (hf : fetch y pc = some (len, ins, an)) (hr : retOf y ins st = some rv) : En y pc ls st a b s = some (rv, a, b, s) := En_iff.mpr ⟨1, by rw [exN, hf]; simp only [hr]⟩
theorem En_call {y pc len t : Nat} {ins : Instr} {an : List Nat} {ls st as rest : List Vl} {a : HI} {b : HR} {s : SH} (hf : fetch y pc = some (len, ins, an)) (hr : retOf y ins st = none) (hc : callOf ins an st s = some (t, as, rest)) :
    En y pc ls st a b s = bnd (Mn t as a b s) (fun rv a b s => En y (pc + len) ls (rv ++ rest) a b s) := by
  apply Option.ext
  intro q
  constructor
  · intro h
    obtain ⟨n, h⟩ := En_iff.mp h
    cases n with
    | zero => simp [exN] at h
    | succ n =>
      rw [exN, hf] at h
      simp only [hr, hc] at h
      cases hm : exN n t 0 (ent (mL t) as) [] a b s with
      | none => rw [hm] at h; simp at h
      | some w =>
        obtain ⟨rv, a1, b1, s1⟩ := w
        rw [hm] at h
        exact bnd_iff.mpr ⟨rv, a1, b1, s1, En_iff.mpr ⟨n, hm⟩, En_iff.mpr ⟨n, h⟩⟩
  · intro h
    obtain ⟨rv, a1, b1, s1, h1, h2⟩ := bnd_iff.mp h
    obtain ⟨n, h1⟩ := En_iff.mp h1
    obtain ⟨m, h2⟩ := En_iff.mp h2
    refine En_iff.mpr ⟨max n m + 1, ?_⟩
    rw [exN, hf]
    simp only [hr, hc]
    rw [exN_le h1 (Nat.le_max_left n m)]
    exact exN_le h2 (Nat.le_max_right n m)
theorem En_st {y pc len : Nat} {ins : Instr} {an : List Nat} {ls st : List Vl} {a : HI} {b : HR} {s : SH} (hf : fetch y pc = some (len, ins, an)) (hr : retOf y ins st = none) (hc : callOf ins an st s = none) :
    En y pc ls st a b s = (match st1 ins an ls st a b s with
      | none => none
      | some (j, ls1, st1, a1, b1, s1) => En y (j.getD (pc + len)) ls1 st1 a1 b1 s1) := by
  apply Option.ext
  intro q
  cases hs : st1 ins an ls st a b s with
  | none =>
    constructor
    · intro h
      obtain ⟨n, h⟩ := En_iff.mp h
      cases n with
      | zero => simp [exN] at h
      | succ n => rw [exN, hf] at h; simp [hr, hc, hs] at h
    · intro h; simp at h
  | some w =>
    obtain ⟨j, ls1, st1', a1, b1, s1⟩ := w
    constructor
    · intro h
      obtain ⟨n, h⟩ := En_iff.mp h
      cases n with
      | zero => simp [exN] at h
      | succ n => rw [exN, hf] at h; simp only [hr, hc, hs] at h; exact En_iff.mpr ⟨n, h⟩
    · intro h
      obtain ⟨n, h⟩ := En_iff.mp h
      refine En_iff.mpr ⟨n + 1, ?_⟩
      rw [exN, hf]
      simp only [hr, hc, hs]
      exact h
/-- a stretch of code, its rows as a list; behind it the code at pe -/
noncomputable def Rn (y pe : Nat) : List (Instr × List Nat) → List Vl → List Vl → HI → HR → SH → Rs
  | [], ls, st, a, b, s => En y pe ls st a b s
  | (ins, an) :: os, ls, st, a, b, s => match retOf y ins st with
    | some rv => some (rv, a, b, s)
    | none => match callOf ins an st s with
      | some (t, as, rest) => bnd (Mn t as a b s) (fun rv a b s => Rn y pe os ls (rv ++ rest) a b s)
      | none => match st1 ins an ls st a b s with
        | none => none
        | some (none, ls1, st1, a1, b1, s1) => Rn y pe os ls1 st1 a1 b1 s1
        | some (some j, ls1, st1, a1, b1, s1) => En y j ls1 st1 a1 b1 s1
def chk (y : Nat) : Nat → List (Instr × List Nat) → Option Nat
  | pc, [] => some pc
  | pc, o :: os => match fetch y pc with
    | some (len, o1) => if o1 = o then chk y (pc + len) os else none
    | none => none
theorem blk {y pe : Nat} : ∀ (os : List (Instr × List Nat)) (pc : Nat) (ls st : List Vl) (a : HI) (b : HR) (s : SH), chk y pc os = some pe → En y pc ls st a b s = Rn y pe os ls st a b s := by
  intro os
  induction os with
  | nil => intro pc ls st a b s h; simp only [chk, Option.some.injEq] at h; rw [h, Rn]
  | cons o os ih =>
    intro pc ls st a b s h
    obtain ⟨ins, an⟩ := o
    rw [chk] at h
    cases hf : fetch y pc with
    | none => rw [hf] at h; simp at h
    | some w =>
      obtain ⟨len, o1⟩ := w
      rw [hf] at h
      simp only at h
      by_cases ho : o1 = (ins, an)
      · rw [if_pos ho] at h
        subst ho
        rw [Rn]
        cases hr : retOf y ins st with
        | some rv => exact En_ret hf hr
        | none =>
          cases hc : callOf ins an st s with
          | some w =>
            obtain ⟨t, as, rest⟩ := w
            rw [En_call hf hr hc]
            simp only
            congr 1
            funext rv a b s
            exact ih _ _ _ _ _ _ h
          | none =>
            rw [En_st hf hr hc]
            simp only
            cases hs : st1 ins an ls st a b s with
            | none => rfl
            | some w =>
              obtain ⟨j, ls1, st1', a1, b1, s1⟩ := w
              cases j with
              | none => exact ih _ _ _ _ _ _ h
              | some j => rfl
      · rw [if_neg ho] at h; simp at h
section RN
variable {y pe : Nat} {os : List (Instr × List Nat)} {ls st l : List Vl} {a : HI} {b : HR} {s : SH} {an : List Nat}
theorem rn_st {ins : Instr} {ls1 st2 : List Vl} {a1 : HI} {b1 : HR} {s1 : SH} (hr : retOf y ins st = none) (hc : callOf ins an st s = none) (hs : st1 ins an ls st a b s = go1 ls1 st2 a1 b1 s1) : Rn y pe ((ins, an) :: os) ls st a b s = Rn y pe os ls1 st2 a1 b1 s1 := by simp only [Rn, hr, hc, hs, go1]
theorem so1_I {x : Int} (k : Nat) (h : k < ls.length) : so1 ls (vI x :: st) k a b s 0 = go1 (stL ls k (vI x)) st a b s := by simp [so1, vI, h]
theorem so1_R {x : Nat} (k : Nat) (h : k < ls.length) : so1 ls (vR x :: st) k a b s 1 = go1 (stL ls k (vR x)) st a b s := by simp [so1, vR, h]
theorem so1_J {x : Nat} (k : Nat) (h : k + 1 < ls.length) : so1 ls (vJ x :: st) k a b s 2 = go1 ((stL ls k (vJ x)).set (k + 1) vU) st a b s := by simp [so1, vJ, h]; omega
theorem r_iconst {n : Int}  : Rn y pe ((.iconst n, an) :: os) ls st a b s = Rn y pe os ls (vI n :: st) a b s := nr rfl
theorem r_bipush {n : Int}  : Rn y pe ((.bipush n, an) :: os) ls st a b s = Rn y pe os ls (vI n :: st) a b s := nr rfl
theorem r_sipush {n : Int}  : Rn y pe ((.sipush n, an) :: os) ls st a b s = Rn y pe os ls (vI n :: st) a b s := nr rfl
theorem r_lconst {n : Fin 2}  : Rn y pe ((.lconst n, an) :: os) ls st a b s = Rn y pe os ls (vJ n.val :: st) a b s := nr rfl
theorem r_ldc {i v : Nat}  : Rn y pe ((.ldc i, [12, v]) :: os) ls st a b s = Rn y pe os ls (vI v :: st) a b s := nr rfl
theorem r_ldc_w {i v : Nat}  : Rn y pe ((.ldc_w i, [12, v]) :: os) ls st a b s = Rn y pe os ls (vI v :: st) a b s := nr rfl
theorem r_ldc2 {i v : Nat}  : Rn y pe ((.ldc2_w i, [13, v]) :: os) ls st a b s = Rn y pe os ls (vJ v :: st) a b s := nr rfl
theorem r_iloadn_0 {x : Int}  : Rn y pe ((.iload_n 0, an) :: os) (vI x :: l) st a b s = Rn y pe os (vI x :: l) (vI x :: st) a b s := nr rfl
theorem r_iload_0 {x : Int}  : Rn y pe ((.iload 0, an) :: os) (vI x :: l) st a b s = Rn y pe os (vI x :: l) (vI x :: st) a b s := nr rfl
theorem r_istoren_0 {w : Vl} {x : Int}  : Rn y pe ((.istore_n 0, an) :: os) (w :: l) (vI x :: st) a b s = Rn y pe os (vI x :: l) st a b s := rn_st rfl rfl (so1_I 0 (by simp))
theorem r_istore_0 {w : Vl} {x : Int}  : Rn y pe ((.istore 0, an) :: os) (w :: l) (vI x :: st) a b s = Rn y pe os (vI x :: l) st a b s := rn_st rfl rfl (so1_I 0 (by simp))
theorem r_aloadn_0 {x : Nat}  : Rn y pe ((.aload_n 0, an) :: os) (vR x :: l) st a b s = Rn y pe os (vR x :: l) (vR x :: st) a b s := nr rfl
theorem r_aload_0 {x : Nat}  : Rn y pe ((.aload 0, an) :: os) (vR x :: l) st a b s = Rn y pe os (vR x :: l) (vR x :: st) a b s := nr rfl
theorem r_astoren_0 {w : Vl} {x : Nat}  : Rn y pe ((.astore_n 0, an) :: os) (w :: l) (vR x :: st) a b s = Rn y pe os (vR x :: l) st a b s := rn_st rfl rfl (so1_R 0 (by simp))
theorem r_astore_0 {w : Vl} {x : Nat}  : Rn y pe ((.astore 0, an) :: os) (w :: l) (vR x :: st) a b s = Rn y pe os (vR x :: l) st a b s := rn_st rfl rfl (so1_R 0 (by simp))
theorem r_lloadn_0 {x : Nat}  : Rn y pe ((.lload_n 0, an) :: os) (vJ x :: l) st a b s = Rn y pe os (vJ x :: l) (vJ x :: st) a b s := nr rfl
theorem r_lload_0 {x : Nat}  : Rn y pe ((.lload 0, an) :: os) (vJ x :: l) st a b s = Rn y pe os (vJ x :: l) (vJ x :: st) a b s := nr rfl
theorem r_lstoren_0 {w w2 : Vl} {x : Nat}  : Rn y pe ((.lstore_n 0, an) :: os) (w :: w2 :: l) (vJ x :: st) a b s = Rn y pe os (vJ x :: vU :: l) st a b s := rn_st rfl rfl (so1_J 0 (by simp))
theorem r_lstore_0 {w w2 : Vl} {x : Nat}  : Rn y pe ((.lstore 0, an) :: os) (w :: w2 :: l) (vJ x :: st) a b s = Rn y pe os (vJ x :: vU :: l) st a b s := rn_st rfl rfl (so1_J 0 (by simp))
theorem r_iinc_0 {x n : Int} (h : InR (x + n)) : Rn y pe ((.iinc 0 n, an) :: os) (vI x :: l) st a b s = Rn y pe os (vI (x + n) :: l) st a b s := rn_st rfl rfl (if_pos h)
theorem r_iloadn_1 {v0 : Vl} {x : Int}  : Rn y pe ((.iload_n 1, an) :: os) (v0 :: vI x :: l) st a b s = Rn y pe os (v0 :: vI x :: l) (vI x :: st) a b s := nr rfl
theorem r_iload_1 {v0 : Vl} {x : Int}  : Rn y pe ((.iload 1, an) :: os) (v0 :: vI x :: l) st a b s = Rn y pe os (v0 :: vI x :: l) (vI x :: st) a b s := nr rfl
theorem r_istoren_1 {v0 : Vl} {w : Vl} {x : Int}  : Rn y pe ((.istore_n 1, an) :: os) (v0 :: w :: l) (vI x :: st) a b s = Rn y pe os (unJ v0 :: vI x :: l) st a b s := rn_st rfl rfl (so1_I 1 (by simp))
theorem r_istore_1 {v0 : Vl} {w : Vl} {x : Int}  : Rn y pe ((.istore 1, an) :: os) (v0 :: w :: l) (vI x :: st) a b s = Rn y pe os (unJ v0 :: vI x :: l) st a b s := rn_st rfl rfl (so1_I 1 (by simp))
theorem r_aloadn_1 {v0 : Vl} {x : Nat}  : Rn y pe ((.aload_n 1, an) :: os) (v0 :: vR x :: l) st a b s = Rn y pe os (v0 :: vR x :: l) (vR x :: st) a b s := nr rfl
theorem r_aload_1 {v0 : Vl} {x : Nat}  : Rn y pe ((.aload 1, an) :: os) (v0 :: vR x :: l) st a b s = Rn y pe os (v0 :: vR x :: l) (vR x :: st) a b s := nr rfl
theorem r_astoren_1 {v0 : Vl} {w : Vl} {x : Nat}  : Rn y pe ((.astore_n 1, an) :: os) (v0 :: w :: l) (vR x :: st) a b s = Rn y pe os (unJ v0 :: vR x :: l) st a b s := rn_st rfl rfl (so1_R 1 (by simp))
theorem r_astore_1 {v0 : Vl} {w : Vl} {x : Nat}  : Rn y pe ((.astore 1, an) :: os) (v0 :: w :: l) (vR x :: st) a b s = Rn y pe os (unJ v0 :: vR x :: l) st a b s := rn_st rfl rfl (so1_R 1 (by simp))
theorem r_lloadn_1 {v0 : Vl} {x : Nat}  : Rn y pe ((.lload_n 1, an) :: os) (v0 :: vJ x :: l) st a b s = Rn y pe os (v0 :: vJ x :: l) (vJ x :: st) a b s := nr rfl
theorem r_lload_1 {v0 : Vl} {x : Nat}  : Rn y pe ((.lload 1, an) :: os) (v0 :: vJ x :: l) st a b s = Rn y pe os (v0 :: vJ x :: l) (vJ x :: st) a b s := nr rfl
theorem r_lstoren_1 {v0 : Vl} {w w2 : Vl} {x : Nat}  : Rn y pe ((.lstore_n 1, an) :: os) (v0 :: w :: w2 :: l) (vJ x :: st) a b s = Rn y pe os (unJ v0 :: vJ x :: vU :: l) st a b s := rn_st rfl rfl (so1_J 1 (by simp))
theorem r_lstore_1 {v0 : Vl} {w w2 : Vl} {x : Nat}  : Rn y pe ((.lstore 1, an) :: os) (v0 :: w :: w2 :: l) (vJ x :: st) a b s = Rn y pe os (unJ v0 :: vJ x :: vU :: l) st a b s := rn_st rfl rfl (so1_J 1 (by simp))
theorem r_iinc_1 {v0 : Vl} {x n : Int} (h : InR (x + n)) : Rn y pe ((.iinc 1 n, an) :: os) (v0 :: vI x :: l) st a b s = Rn y pe os (unJ v0 :: vI (x + n) :: l) st a b s := rn_st rfl rfl (if_pos h)
theorem r_iloadn_2 {v0 v1 : Vl} {x : Int}  : Rn y pe ((.iload_n 2, an) :: os) (v0 :: v1 :: vI x :: l) st a b s = Rn y pe os (v0 :: v1 :: vI x :: l) (vI x :: st) a b s := nr rfl
theorem r_iload_2 {v0 v1 : Vl} {x : Int}  : Rn y pe ((.iload 2, an) :: os) (v0 :: v1 :: vI x :: l) st a b s = Rn y pe os (v0 :: v1 :: vI x :: l) (vI x :: st) a b s := nr rfl
theorem r_istoren_2 {v0 v1 : Vl} {w : Vl} {x : Int}  : Rn y pe ((.istore_n 2, an) :: os) (v0 :: v1 :: w :: l) (vI x :: st) a b s = Rn y pe os (v0 :: unJ v1 :: vI x :: l) st a b s := rn_st rfl rfl (so1_I 2 (by simp))
theorem r_istore_2 {v0 v1 : Vl} {w : Vl} {x : Int}  : Rn y pe ((.istore 2, an) :: os) (v0 :: v1 :: w :: l) (vI x :: st) a b s = Rn y pe os (v0 :: unJ v1 :: vI x :: l) st a b s := rn_st rfl rfl (so1_I 2 (by simp))
theorem r_aloadn_2 {v0 v1 : Vl} {x : Nat}  : Rn y pe ((.aload_n 2, an) :: os) (v0 :: v1 :: vR x :: l) st a b s = Rn y pe os (v0 :: v1 :: vR x :: l) (vR x :: st) a b s := nr rfl
theorem r_aload_2 {v0 v1 : Vl} {x : Nat}  : Rn y pe ((.aload 2, an) :: os) (v0 :: v1 :: vR x :: l) st a b s = Rn y pe os (v0 :: v1 :: vR x :: l) (vR x :: st) a b s := nr rfl
theorem r_astoren_2 {v0 v1 : Vl} {w : Vl} {x : Nat}  : Rn y pe ((.astore_n 2, an) :: os) (v0 :: v1 :: w :: l) (vR x :: st) a b s = Rn y pe os (v0 :: unJ v1 :: vR x :: l) st a b s := rn_st rfl rfl (so1_R 2 (by simp))
theorem r_astore_2 {v0 v1 : Vl} {w : Vl} {x : Nat}  : Rn y pe ((.astore 2, an) :: os) (v0 :: v1 :: w :: l) (vR x :: st) a b s = Rn y pe os (v0 :: unJ v1 :: vR x :: l) st a b s := rn_st rfl rfl (so1_R 2 (by simp))
theorem r_lloadn_2 {v0 v1 : Vl} {x : Nat}  : Rn y pe ((.lload_n 2, an) :: os) (v0 :: v1 :: vJ x :: l) st a b s = Rn y pe os (v0 :: v1 :: vJ x :: l) (vJ x :: st) a b s := nr rfl
theorem r_lload_2 {v0 v1 : Vl} {x : Nat}  : Rn y pe ((.lload 2, an) :: os) (v0 :: v1 :: vJ x :: l) st a b s = Rn y pe os (v0 :: v1 :: vJ x :: l) (vJ x :: st) a b s := nr rfl
theorem r_lstoren_2 {v0 v1 : Vl} {w w2 : Vl} {x : Nat}  : Rn y pe ((.lstore_n 2, an) :: os) (v0 :: v1 :: w :: w2 :: l) (vJ x :: st) a b s = Rn y pe os (v0 :: unJ v1 :: vJ x :: vU :: l) st a b s := rn_st rfl rfl (so1_J 2 (by simp))
theorem r_lstore_2 {v0 v1 : Vl} {w w2 : Vl} {x : Nat}  : Rn y pe ((.lstore 2, an) :: os) (v0 :: v1 :: w :: w2 :: l) (vJ x :: st) a b s = Rn y pe os (v0 :: unJ v1 :: vJ x :: vU :: l) st a b s := rn_st rfl rfl (so1_J 2 (by simp))
theorem r_iinc_2 {v0 v1 : Vl} {x n : Int} (h : InR (x + n)) : Rn y pe ((.iinc 2 n, an) :: os) (v0 :: v1 :: vI x :: l) st a b s = Rn y pe os (v0 :: unJ v1 :: vI (x + n) :: l) st a b s := rn_st rfl rfl (if_pos h)
theorem r_iloadn_3 {v0 v1 v2 : Vl} {x : Int}  : Rn y pe ((.iload_n 3, an) :: os) (v0 :: v1 :: v2 :: vI x :: l) st a b s = Rn y pe os (v0 :: v1 :: v2 :: vI x :: l) (vI x :: st) a b s := nr rfl
theorem r_iload_3 {v0 v1 v2 : Vl} {x : Int}  : Rn y pe ((.iload 3, an) :: os) (v0 :: v1 :: v2 :: vI x :: l) st a b s = Rn y pe os (v0 :: v1 :: v2 :: vI x :: l) (vI x :: st) a b s := nr rfl
theorem r_istoren_3 {v0 v1 v2 : Vl} {w : Vl} {x : Int}  : Rn y pe ((.istore_n 3, an) :: os) (v0 :: v1 :: v2 :: w :: l) (vI x :: st) a b s = Rn y pe os (v0 :: v1 :: unJ v2 :: vI x :: l) st a b s := rn_st rfl rfl (so1_I 3 (by simp))
theorem r_istore_3 {v0 v1 v2 : Vl} {w : Vl} {x : Int}  : Rn y pe ((.istore 3, an) :: os) (v0 :: v1 :: v2 :: w :: l) (vI x :: st) a b s = Rn y pe os (v0 :: v1 :: unJ v2 :: vI x :: l) st a b s := rn_st rfl rfl (so1_I 3 (by simp))
theorem r_aloadn_3 {v0 v1 v2 : Vl} {x : Nat}  : Rn y pe ((.aload_n 3, an) :: os) (v0 :: v1 :: v2 :: vR x :: l) st a b s = Rn y pe os (v0 :: v1 :: v2 :: vR x :: l) (vR x :: st) a b s := nr rfl
theorem r_aload_3 {v0 v1 v2 : Vl} {x : Nat}  : Rn y pe ((.aload 3, an) :: os) (v0 :: v1 :: v2 :: vR x :: l) st a b s = Rn y pe os (v0 :: v1 :: v2 :: vR x :: l) (vR x :: st) a b s := nr rfl
theorem r_astoren_3 {v0 v1 v2 : Vl} {w : Vl} {x : Nat}  : Rn y pe ((.astore_n 3, an) :: os) (v0 :: v1 :: v2 :: w :: l) (vR x :: st) a b s = Rn y pe os (v0 :: v1 :: unJ v2 :: vR x :: l) st a b s := rn_st rfl rfl (so1_R 3 (by simp))
theorem r_astore_3 {v0 v1 v2 : Vl} {w : Vl} {x : Nat}  : Rn y pe ((.astore 3, an) :: os) (v0 :: v1 :: v2 :: w :: l) (vR x :: st) a b s = Rn y pe os (v0 :: v1 :: unJ v2 :: vR x :: l) st a b s := rn_st rfl rfl (so1_R 3 (by simp))
theorem r_lloadn_3 {v0 v1 v2 : Vl} {x : Nat}  : Rn y pe ((.lload_n 3, an) :: os) (v0 :: v1 :: v2 :: vJ x :: l) st a b s = Rn y pe os (v0 :: v1 :: v2 :: vJ x :: l) (vJ x :: st) a b s := nr rfl
theorem r_lload_3 {v0 v1 v2 : Vl} {x : Nat}  : Rn y pe ((.lload 3, an) :: os) (v0 :: v1 :: v2 :: vJ x :: l) st a b s = Rn y pe os (v0 :: v1 :: v2 :: vJ x :: l) (vJ x :: st) a b s := nr rfl
theorem r_lstoren_3 {v0 v1 v2 : Vl} {w w2 : Vl} {x : Nat}  : Rn y pe ((.lstore_n 3, an) :: os) (v0 :: v1 :: v2 :: w :: w2 :: l) (vJ x :: st) a b s = Rn y pe os (v0 :: v1 :: unJ v2 :: vJ x :: vU :: l) st a b s := rn_st rfl rfl (so1_J 3 (by simp))
theorem r_lstore_3 {v0 v1 v2 : Vl} {w w2 : Vl} {x : Nat}  : Rn y pe ((.lstore 3, an) :: os) (v0 :: v1 :: v2 :: w :: w2 :: l) (vJ x :: st) a b s = Rn y pe os (v0 :: v1 :: unJ v2 :: vJ x :: vU :: l) st a b s := rn_st rfl rfl (so1_J 3 (by simp))
theorem r_iinc_3 {v0 v1 v2 : Vl} {x n : Int} (h : InR (x + n)) : Rn y pe ((.iinc 3 n, an) :: os) (v0 :: v1 :: v2 :: vI x :: l) st a b s = Rn y pe os (v0 :: v1 :: unJ v2 :: vI (x + n) :: l) st a b s := rn_st rfl rfl (if_pos h)
theorem r_iload_4 {v0 v1 v2 v3 : Vl} {x : Int}  : Rn y pe ((.iload 4, an) :: os) (v0 :: v1 :: v2 :: v3 :: vI x :: l) st a b s = Rn y pe os (v0 :: v1 :: v2 :: v3 :: vI x :: l) (vI x :: st) a b s := nr rfl
theorem r_istore_4 {v0 v1 v2 v3 : Vl} {w : Vl} {x : Int}  : Rn y pe ((.istore 4, an) :: os) (v0 :: v1 :: v2 :: v3 :: w :: l) (vI x :: st) a b s = Rn y pe os (v0 :: v1 :: v2 :: unJ v3 :: vI x :: l) st a b s := rn_st rfl rfl (so1_I 4 (by simp))
theorem r_aload_4 {v0 v1 v2 v3 : Vl} {x : Nat}  : Rn y pe ((.aload 4, an) :: os) (v0 :: v1 :: v2 :: v3 :: vR x :: l) st a b s = Rn y pe os (v0 :: v1 :: v2 :: v3 :: vR x :: l) (vR x :: st) a b s := nr rfl
theorem r_astore_4 {v0 v1 v2 v3 : Vl} {w : Vl} {x : Nat}  : Rn y pe ((.astore 4, an) :: os) (v0 :: v1 :: v2 :: v3 :: w :: l) (vR x :: st) a b s = Rn y pe os (v0 :: v1 :: v2 :: unJ v3 :: vR x :: l) st a b s := rn_st rfl rfl (so1_R 4 (by simp))
theorem r_lload_4 {v0 v1 v2 v3 : Vl} {x : Nat}  : Rn y pe ((.lload 4, an) :: os) (v0 :: v1 :: v2 :: v3 :: vJ x :: l) st a b s = Rn y pe os (v0 :: v1 :: v2 :: v3 :: vJ x :: l) (vJ x :: st) a b s := nr rfl
theorem r_lstore_4 {v0 v1 v2 v3 : Vl} {w w2 : Vl} {x : Nat}  : Rn y pe ((.lstore 4, an) :: os) (v0 :: v1 :: v2 :: v3 :: w :: w2 :: l) (vJ x :: st) a b s = Rn y pe os (v0 :: v1 :: v2 :: unJ v3 :: vJ x :: vU :: l) st a b s := rn_st rfl rfl (so1_J 4 (by simp))
theorem r_iinc_4 {v0 v1 v2 v3 : Vl} {x n : Int} (h : InR (x + n)) : Rn y pe ((.iinc 4 n, an) :: os) (v0 :: v1 :: v2 :: v3 :: vI x :: l) st a b s = Rn y pe os (v0 :: v1 :: v2 :: unJ v3 :: vI (x + n) :: l) st a b s := rn_st rfl rfl (if_pos h)
theorem r_iload_5 {v0 v1 v2 v3 v4 : Vl} {x : Int}  : Rn y pe ((.iload 5, an) :: os) (v0 :: v1 :: v2 :: v3 :: v4 :: vI x :: l) st a b s = Rn y pe os (v0 :: v1 :: v2 :: v3 :: v4 :: vI x :: l) (vI x :: st) a b s := nr rfl
theorem r_istore_5 {v0 v1 v2 v3 v4 : Vl} {w : Vl} {x : Int}  : Rn y pe ((.istore 5, an) :: os) (v0 :: v1 :: v2 :: v3 :: v4 :: w :: l) (vI x :: st) a b s = Rn y pe os (v0 :: v1 :: v2 :: v3 :: unJ v4 :: vI x :: l) st a b s := rn_st rfl rfl (so1_I 5 (by simp))
theorem r_aload_5 {v0 v1 v2 v3 v4 : Vl} {x : Nat}  : Rn y pe ((.aload 5, an) :: os) (v0 :: v1 :: v2 :: v3 :: v4 :: vR x :: l) st a b s = Rn y pe os (v0 :: v1 :: v2 :: v3 :: v4 :: vR x :: l) (vR x :: st) a b s := nr rfl
theorem r_astore_5 {v0 v1 v2 v3 v4 : Vl} {w : Vl} {x : Nat}  : Rn y pe ((.astore 5, an) :: os) (v0 :: v1 :: v2 :: v3 :: v4 :: w :: l) (vR x :: st) a b s = Rn y pe os (v0 :: v1 :: v2 :: v3 :: unJ v4 :: vR x :: l) st a b s := rn_st rfl rfl (so1_R 5 (by simp))
theorem r_lload_5 {v0 v1 v2 v3 v4 : Vl} {x : Nat}  : Rn y pe ((.lload 5, an) :: os) (v0 :: v1 :: v2 :: v3 :: v4 :: vJ x :: l) st a b s = Rn y pe os (v0 :: v1 :: v2 :: v3 :: v4 :: vJ x :: l) (vJ x :: st) a b s := nr rfl
theorem r_lstore_5 {v0 v1 v2 v3 v4 : Vl} {w w2 : Vl} {x : Nat}  : Rn y pe ((.lstore 5, an) :: os) (v0 :: v1 :: v2 :: v3 :: v4 :: w :: w2 :: l) (vJ x :: st) a b s = Rn y pe os (v0 :: v1 :: v2 :: v3 :: unJ v4 :: vJ x :: vU :: l) st a b s := rn_st rfl rfl (so1_J 5 (by simp))
theorem r_iinc_5 {v0 v1 v2 v3 v4 : Vl} {x n : Int} (h : InR (x + n)) : Rn y pe ((.iinc 5 n, an) :: os) (v0 :: v1 :: v2 :: v3 :: v4 :: vI x :: l) st a b s = Rn y pe os (v0 :: v1 :: v2 :: v3 :: unJ v4 :: vI (x + n) :: l) st a b s := rn_st rfl rfl (if_pos h)
theorem r_iload_6 {v0 v1 v2 v3 v4 v5 : Vl} {x : Int}  : Rn y pe ((.iload 6, an) :: os) (v0 :: v1 :: v2 :: v3 :: v4 :: v5 :: vI x :: l) st a b s = Rn y pe os (v0 :: v1 :: v2 :: v3 :: v4 :: v5 :: vI x :: l) (vI x :: st) a b s := nr rfl
theorem r_istore_6 {v0 v1 v2 v3 v4 v5 : Vl} {w : Vl} {x : Int}  : Rn y pe ((.istore 6, an) :: os) (v0 :: v1 :: v2 :: v3 :: v4 :: v5 :: w :: l) (vI x :: st) a b s = Rn y pe os (v0 :: v1 :: v2 :: v3 :: v4 :: unJ v5 :: vI x :: l) st a b s := rn_st rfl rfl (so1_I 6 (by simp))
theorem r_aload_6 {v0 v1 v2 v3 v4 v5 : Vl} {x : Nat}  : Rn y pe ((.aload 6, an) :: os) (v0 :: v1 :: v2 :: v3 :: v4 :: v5 :: vR x :: l) st a b s = Rn y pe os (v0 :: v1 :: v2 :: v3 :: v4 :: v5 :: vR x :: l) (vR x :: st) a b s := nr rfl
theorem r_astore_6 {v0 v1 v2 v3 v4 v5 : Vl} {w : Vl} {x : Nat}  : Rn y pe ((.astore 6, an) :: os) (v0 :: v1 :: v2 :: v3 :: v4 :: v5 :: w :: l) (vR x :: st) a b s = Rn y pe os (v0 :: v1 :: v2 :: v3 :: v4 :: unJ v5 :: vR x :: l) st a b s := rn_st rfl rfl (so1_R 6 (by simp))
theorem r_lload_6 {v0 v1 v2 v3 v4 v5 : Vl} {x : Nat}  : Rn y pe ((.lload 6, an) :: os) (v0 :: v1 :: v2 :: v3 :: v4 :: v5 :: vJ x :: l) st a b s = Rn y pe os (v0 :: v1 :: v2 :: v3 :: v4 :: v5 :: vJ x :: l) (vJ x :: st) a b s := nr rfl
theorem r_lstore_6 {v0 v1 v2 v3 v4 v5 : Vl} {w w2 : Vl} {x : Nat}  : Rn y pe ((.lstore 6, an) :: os) (v0 :: v1 :: v2 :: v3 :: v4 :: v5 :: w :: w2 :: l) (vJ x :: st) a b s = Rn y pe os (v0 :: v1 :: v2 :: v3 :: v4 :: unJ v5 :: vJ x :: vU :: l) st a b s := rn_st rfl rfl (so1_J 6 (by simp))
theorem r_iinc_6 {v0 v1 v2 v3 v4 v5 : Vl} {x n : Int} (h : InR (x + n)) : Rn y pe ((.iinc 6 n, an) :: os) (v0 :: v1 :: v2 :: v3 :: v4 :: v5 :: vI x :: l) st a b s = Rn y pe os (v0 :: v1 :: v2 :: v3 :: v4 :: unJ v5 :: vI (x + n) :: l) st a b s := rn_st rfl rfl (if_pos h)
theorem r_iload_7 {v0 v1 v2 v3 v4 v5 v6 : Vl} {x : Int}  : Rn y pe ((.iload 7, an) :: os) (v0 :: v1 :: v2 :: v3 :: v4 :: v5 :: v6 :: vI x :: l) st a b s = Rn y pe os (v0 :: v1 :: v2 :: v3 :: v4 :: v5 :: v6 :: vI x :: l) (vI x :: st) a b s := nr rfl
theorem r_istore_7 {v0 v1 v2 v3 v4 v5 v6 : Vl} {w : Vl} {x : Int}  : Rn y pe ((.istore 7, an) :: os) (v0 :: v1 :: v2 :: v3 :: v4 :: v5 :: v6 :: w :: l) (vI x :: st) a b s = Rn y pe os (v0 :: v1 :: v2 :: v3 :: v4 :: v5 :: unJ v6 :: vI x :: l) st a b s := rn_st rfl rfl (so1_I 7 (by simp))
theorem r_aload_7 {v0 v1 v2 v3 v4 v5 v6 : Vl} {x : Nat}  : Rn y pe ((.aload 7, an) :: os) (v0 :: v1 :: v2 :: v3 :: v4 :: v5 :: v6 :: vR x :: l) st a b s = Rn y pe os (v0 :: v1 :: v2 :: v3 :: v4 :: v5 :: v6 :: vR x :: l) (vR x :: st) a b s := nr rfl
theorem r_astore_7 {v0 v1 v2 v3 v4 v5 v6 : Vl} {w : Vl} {x : Nat}  : Rn y pe ((.astore 7, an) :: os) (v0 :: v1 :: v2 :: v3 :: v4 :: v5 :: v6 :: w :: l) (vR x :: st) a b s = Rn y pe os (v0 :: v1 :: v2 :: v3 :: v4 :: v5 :: unJ v6 :: vR x :: l) st a b s := rn_st rfl rfl (so1_R 7 (by simp))
theorem r_lload_7 {v0 v1 v2 v3 v4 v5 v6 : Vl} {x : Nat}  : Rn y pe ((.lload 7, an) :: os) (v0 :: v1 :: v2 :: v3 :: v4 :: v5 :: v6 :: vJ x :: l) st a b s = Rn y pe os (v0 :: v1 :: v2 :: v3 :: v4 :: v5 :: v6 :: vJ x :: l) (vJ x :: st) a b s := nr rfl
theorem r_lstore_7 {v0 v1 v2 v3 v4 v5 v6 : Vl} {w w2 : Vl} {x : Nat}  : Rn y pe ((.lstore 7, an) :: os) (v0 :: v1 :: v2 :: v3 :: v4 :: v5 :: v6 :: w :: w2 :: l) (vJ x :: st) a b s = Rn y pe os (v0 :: v1 :: v2 :: v3 :: v4 :: v5 :: unJ v6 :: vJ x :: vU :: l) st a b s := rn_st rfl rfl (so1_J 7 (by simp))
theorem r_iinc_7 {v0 v1 v2 v3 v4 v5 v6 : Vl} {x n : Int} (h : InR (x + n)) : Rn y pe ((.iinc 7 n, an) :: os) (v0 :: v1 :: v2 :: v3 :: v4 :: v5 :: v6 :: vI x :: l) st a b s = Rn y pe os (v0 :: v1 :: v2 :: v3 :: v4 :: v5 :: unJ v6 :: vI (x + n) :: l) st a b s := rn_st rfl rfl (if_pos h)
theorem r_iload_8 {v0 v1 v2 v3 v4 v5 v6 v7 : Vl} {x : Int}  : Rn y pe ((.iload 8, an) :: os) (v0 :: v1 :: v2 :: v3 :: v4 :: v5 :: v6 :: v7 :: vI x :: l) st a b s = Rn y pe os (v0 :: v1 :: v2 :: v3 :: v4 :: v5 :: v6 :: v7 :: vI x :: l) (vI x :: st) a b s := nr rfl
theorem r_istore_8 {v0 v1 v2 v3 v4 v5 v6 v7 : Vl} {w : Vl} {x : Int}  : Rn y pe ((.istore 8, an) :: os) (v0 :: v1 :: v2 :: v3 :: v4 :: v5 :: v6 :: v7 :: w :: l) (vI x :: st) a b s = Rn y pe os (v0 :: v1 :: v2 :: v3 :: v4 :: v5 :: v6 :: unJ v7 :: vI x :: l) st a b s := rn_st rfl rfl (so1_I 8 (by simp))
theorem r_aload_8 {v0 v1 v2 v3 v4 v5 v6 v7 : Vl} {x : Nat}  : Rn y pe ((.aload 8, an) :: os) (v0 :: v1 :: v2 :: v3 :: v4 :: v5 :: v6 :: v7 :: vR x :: l) st a b s = Rn y pe os (v0 :: v1 :: v2 :: v3 :: v4 :: v5 :: v6 :: v7 :: vR x :: l) (vR x :: st) a b s := nr rfl
theorem r_astore_8 {v0 v1 v2 v3 v4 v5 v6 v7 : Vl} {w : Vl} {x : Nat}  : Rn y pe ((.astore 8, an) :: os) (v0 :: v1 :: v2 :: v3 :: v4 :: v5 :: v6 :: v7 :: w :: l) (vR x :: st) a b s = Rn y pe os (v0 :: v1 :: v2 :: v3 :: v4 :: v5 :: v6 :: unJ v7 :: vR x :: l) st a b s := rn_st rfl rfl (so1_R 8 (by simp))
theorem r_lload_8 {v0 v1 v2 v3 v4 v5 v6 v7 : Vl} {x : Nat}  : Rn y pe ((.lload 8, an) :: os) (v0 :: v1 :: v2 :: v3 :: v4 :: v5 :: v6 :: v7 :: vJ x :: l) st a b s = Rn y pe os (v0 :: v1 :: v2 :: v3 :: v4 :: v5 :: v6 :: v7 :: vJ x :: l) (vJ x :: st) a b s := nr rfl
theorem r_lstore_8 {v0 v1 v2 v3 v4 v5 v6 v7 : Vl} {w w2 : Vl} {x : Nat}  : Rn y pe ((.lstore 8, an) :: os) (v0 :: v1 :: v2 :: v3 :: v4 :: v5 :: v6 :: v7 :: w :: w2 :: l) (vJ x :: st) a b s = Rn y pe os (v0 :: v1 :: v2 :: v3 :: v4 :: v5 :: v6 :: unJ v7 :: vJ x :: vU :: l) st a b s := rn_st rfl rfl (so1_J 8 (by simp))
theorem r_iinc_8 {v0 v1 v2 v3 v4 v5 v6 v7 : Vl} {x n : Int} (h : InR (x + n)) : Rn y pe ((.iinc 8 n, an) :: os) (v0 :: v1 :: v2 :: v3 :: v4 :: v5 :: v6 :: v7 :: vI x :: l) st a b s = Rn y pe os (v0 :: v1 :: v2 :: v3 :: v4 :: v5 :: v6 :: unJ v7 :: vI (x + n) :: l) st a b s := rn_st rfl rfl (if_pos h)
theorem r_iload_9 {v0 v1 v2 v3 v4 v5 v6 v7 v8 : Vl} {x : Int}  : Rn y pe ((.iload 9, an) :: os) (v0 :: v1 :: v2 :: v3 :: v4 :: v5 :: v6 :: v7 :: v8 :: vI x :: l) st a b s = Rn y pe os (v0 :: v1 :: v2 :: v3 :: v4 :: v5 :: v6 :: v7 :: v8 :: vI x :: l) (vI x :: st) a b s := nr rfl
theorem r_istore_9 {v0 v1 v2 v3 v4 v5 v6 v7 v8 : Vl} {w : Vl} {x : Int}  : Rn y pe ((.istore 9, an) :: os) (v0 :: v1 :: v2 :: v3 :: v4 :: v5 :: v6 :: v7 :: v8 :: w :: l) (vI x :: st) a b s = Rn y pe os (v0 :: v1 :: v2 :: v3 :: v4 :: v5 :: v6 :: v7 :: unJ v8 :: vI x :: l) st a b s := rn_st rfl rfl (so1_I 9 (by simp))
theorem r_aload_9 {v0 v1 v2 v3 v4 v5 v6 v7 v8 : Vl} {x : Nat}  : Rn y pe ((.aload 9, an) :: os) (v0 :: v1 :: v2 :: v3 :: v4 :: v5 :: v6 :: v7 :: v8 :: vR x :: l) st a b s = Rn y pe os (v0 :: v1 :: v2 :: v3 :: v4 :: v5 :: v6 :: v7 :: v8 :: vR x :: l) (vR x :: st) a b s := nr rfl
theorem r_astore_9 {v0 v1 v2 v3 v4 v5 v6 v7 v8 : Vl} {w : Vl} {x : Nat}  : Rn y pe ((.astore 9, an) :: os) (v0 :: v1 :: v2 :: v3 :: v4 :: v5 :: v6 :: v7 :: v8 :: w :: l) (vR x :: st) a b s = Rn y pe os (v0 :: v1 :: v2 :: v3 :: v4 :: v5 :: v6 :: v7 :: unJ v8 :: vR x :: l) st a b s := rn_st rfl rfl (so1_R 9 (by simp))
theorem r_lload_9 {v0 v1 v2 v3 v4 v5 v6 v7 v8 : Vl} {x : Nat}  : Rn y pe ((.lload 9, an) :: os) (v0 :: v1 :: v2 :: v3 :: v4 :: v5 :: v6 :: v7 :: v8 :: vJ x :: l) st a b s = Rn y pe os (v0 :: v1 :: v2 :: v3 :: v4 :: v5 :: v6 :: v7 :: v8 :: vJ x :: l) (vJ x :: st) a b s := nr rfl
theorem r_lstore_9 {v0 v1 v2 v3 v4 v5 v6 v7 v8 : Vl} {w w2 : Vl} {x : Nat}  : Rn y pe ((.lstore 9, an) :: os) (v0 :: v1 :: v2 :: v3 :: v4 :: v5 :: v6 :: v7 :: v8 :: w :: w2 :: l) (vJ x :: st) a b s = Rn y pe os (v0 :: v1 :: v2 :: v3 :: v4 :: v5 :: v6 :: v7 :: unJ v8 :: vJ x :: vU :: l) st a b s := rn_st rfl rfl (so1_J 9 (by simp))
theorem r_iinc_9 {v0 v1 v2 v3 v4 v5 v6 v7 v8 : Vl} {x n : Int} (h : InR (x + n)) : Rn y pe ((.iinc 9 n, an) :: os) (v0 :: v1 :: v2 :: v3 :: v4 :: v5 :: v6 :: v7 :: v8 :: vI x :: l) st a b s = Rn y pe os (v0 :: v1 :: v2 :: v3 :: v4 :: v5 :: v6 :: v7 :: unJ v8 :: vI (x + n) :: l) st a b s := rn_st rfl rfl (if_pos h)
theorem r_iload_10 {v0 v1 v2 v3 v4 v5 v6 v7 v8 v9 : Vl} {x : Int}  : Rn y pe ((.iload 10, an) :: os) (v0 :: v1 :: v2 :: v3 :: v4 :: v5 :: v6 :: v7 :: v8 :: v9 :: vI x :: l) st a b s = Rn y pe os (v0 :: v1 :: v2 :: v3 :: v4 :: v5 :: v6 :: v7 :: v8 :: v9 :: vI x :: l) (vI x :: st) a b s := nr rfl
theorem r_istore_10 {v0 v1 v2 v3 v4 v5 v6 v7 v8 v9 : Vl} {w : Vl} {x : Int}  : Rn y pe ((.istore 10, an) :: os) (v0 :: v1 :: v2 :: v3 :: v4 :: v5 :: v6 :: v7 :: v8 :: v9 :: w :: l) (vI x :: st) a b s = Rn y pe os (v0 :: v1 :: v2 :: v3 :: v4 :: v5 :: v6 :: v7 :: v8 :: unJ v9 :: vI x :: l) st a b s := rn_st rfl rfl (so1_I 10 (by simp))
theorem r_aload_10 {v0 v1 v2 v3 v4 v5 v6 v7 v8 v9 : Vl} {x : Nat}  : Rn y pe ((.aload 10, an) :: os) (v0 :: v1 :: v2 :: v3 :: v4 :: v5 :: v6 :: v7 :: v8 :: v9 :: vR x :: l) st a b s = Rn y pe os (v0 :: v1 :: v2 :: v3 :: v4 :: v5 :: v6 :: v7 :: v8 :: v9 :: vR x :: l) (vR x :: st) a b s := nr rfl
theorem r_astore_10 {v0 v1 v2 v3 v4 v5 v6 v7 v8 v9 : Vl} {w : Vl} {x : Nat}  : Rn y pe ((.astore 10, an) :: os) (v0 :: v1 :: v2 :: v3 :: v4 :: v5 :: v6 :: v7 :: v8 :: v9 :: w :: l) (vR x :: st) a b s = Rn y pe os (v0 :: v1 :: v2 :: v3 :: v4 :: v5 :: v6 :: v7 :: v8 :: unJ v9 :: vR x :: l) st a b s := rn_st rfl rfl (so1_R 10 (by simp))
theorem r_lload_10 {v0 v1 v2 v3 v4 v5 v6 v7 v8 v9 : Vl} {x : Nat}  : Rn y pe ((.lload 10, an) :: os) (v0 :: v1 :: v2 :: v3 :: v4 :: v5 :: v6 :: v7 :: v8 :: v9 :: vJ x :: l) st a b s = Rn y pe os (v0 :: v1 :: v2 :: v3 :: v4 :: v5 :: v6 :: v7 :: v8 :: v9 :: vJ x :: l) (vJ x :: st) a b s := nr rfl
theorem r_lstore_10 {v0 v1 v2 v3 v4 v5 v6 v7 v8 v9 : Vl} {w w2 : Vl} {x : Nat}  : Rn y pe ((.lstore 10, an) :: os) (v0 :: v1 :: v2 :: v3 :: v4 :: v5 :: v6 :: v7 :: v8 :: v9 :: w :: w2 :: l) (vJ x :: st) a b s = Rn y pe os (v0 :: v1 :: v2 :: v3 :: v4 :: v5 :: v6 :: v7 :: v8 :: unJ v9 :: vJ x :: vU :: l) st a b s := rn_st rfl rfl (so1_J 10 (by simp))
theorem r_iinc_10 {v0 v1 v2 v3 v4 v5 v6 v7 v8 v9 : Vl} {x n : Int} (h : InR (x + n)) : Rn y pe ((.iinc 10 n, an) :: os) (v0 :: v1 :: v2 :: v3 :: v4 :: v5 :: v6 :: v7 :: v8 :: v9 :: vI x :: l) st a b s = Rn y pe os (v0 :: v1 :: v2 :: v3 :: v4 :: v5 :: v6 :: v7 :: v8 :: unJ v9 :: vI (x + n) :: l) st a b s := rn_st rfl rfl (if_pos h)
theorem r_iload_11 {v0 v1 v2 v3 v4 v5 v6 v7 v8 v9 v10 : Vl} {x : Int}  : Rn y pe ((.iload 11, an) :: os) (v0 :: v1 :: v2 :: v3 :: v4 :: v5 :: v6 :: v7 :: v8 :: v9 :: v10 :: vI x :: l) st a b s = Rn y pe os (v0 :: v1 :: v2 :: v3 :: v4 :: v5 :: v6 :: v7 :: v8 :: v9 :: v10 :: vI x :: l) (vI x :: st) a b s := nr rfl
theorem r_istore_11 {v0 v1 v2 v3 v4 v5 v6 v7 v8 v9 v10 : Vl} {w : Vl} {x : Int}  : Rn y pe ((.istore 11, an) :: os) (v0 :: v1 :: v2 :: v3 :: v4 :: v5 :: v6 :: v7 :: v8 :: v9 :: v10 :: w :: l) (vI x :: st) a b s = Rn y pe os (v0 :: v1 :: v2 :: v3 :: v4 :: v5 :: v6 :: v7 :: v8 :: v9 :: unJ v10 :: vI x :: l) st a b s := rn_st rfl rfl (so1_I 11 (by simp))
theorem r_aload_11 {v0 v1 v2 v3 v4 v5 v6 v7 v8 v9 v10 : Vl} {x : Nat}  : Rn y pe ((.aload 11, an) :: os) (v0 :: v1 :: v2 :: v3 :: v4 :: v5 :: v6 :: v7 :: v8 :: v9 :: v10 :: vR x :: l) st a b s = Rn y pe os (v0 :: v1 :: v2 :: v3 :: v4 :: v5 :: v6 :: v7 :: v8 :: v9 :: v10 :: vR x :: l) (vR x :: st) a b s := nr rfl
theorem r_astore_11 {v0 v1 v2 v3 v4 v5 v6 v7 v8 v9 v10 : Vl} {w : Vl} {x : Nat}  : Rn y pe ((.astore 11, an) :: os) (v0 :: v1 :: v2 :: v3 :: v4 :: v5 :: v6 :: v7 :: v8 :: v9 :: v10 :: w :: l) (vR x :: st) a b s = Rn y pe os (v0 :: v1 :: v2 :: v3 :: v4 :: v5 :: v6 :: v7 :: v8 :: v9 :: unJ v10 :: vR x :: l) st a b s := rn_st rfl rfl (so1_R 11 (by simp))
theorem r_lload_11 {v0 v1 v2 v3 v4 v5 v6 v7 v8 v9 v10 : Vl} {x : Nat}  : Rn y pe ((.lload 11, an) :: os) (v0 :: v1 :: v2 :: v3 :: v4 :: v5 :: v6 :: v7 :: v8 :: v9 :: v10 :: vJ x :: l) st a b s = Rn y pe os (v0 :: v1 :: v2 :: v3 :: v4 :: v5 :: v6 :: v7 :: v8 :: v9 :: v10 :: vJ x :: l) (vJ x :: st) a b s := nr rfl
theorem r_lstore_11 {v0 v1 v2 v3 v4 v5 v6 v7 v8 v9 v10 : Vl} {w w2 : Vl} {x : Nat}  : Rn y pe ((.lstore 11, an) :: os) (v0 :: v1 :: v2 :: v3 :: v4 :: v5 :: v6 :: v7 :: v8 :: v9 :: v10 :: w :: w2 :: l) (vJ x :: st) a b s = Rn y pe os (v0 :: v1 :: v2 :: v3 :: v4 :: v5 :: v6 :: v7 :: v8 :: v9 :: unJ v10 :: vJ x :: vU :: l) st a b s := rn_st rfl rfl (so1_J 11 (by simp))
theorem r_iinc_11 {v0 v1 v2 v3 v4 v5 v6 v7 v8 v9 v10 : Vl} {x n : Int} (h : InR (x + n)) : Rn y pe ((.iinc 11 n, an) :: os) (v0 :: v1 :: v2 :: v3 :: v4 :: v5 :: v6 :: v7 :: v8 :: v9 :: v10 :: vI x :: l) st a b s = Rn y pe os (v0 :: v1 :: v2 :: v3 :: v4 :: v5 :: v6 :: v7 :: v8 :: v9 :: unJ v10 :: vI (x + n) :: l) st a b s := rn_st rfl rfl (if_pos h)
theorem unJ_I (x : Int) : unJ (vI x) = vI x := nr rfl
theorem unJ_R (x : Nat) : unJ (vR x) = vR x := nr rfl
theorem unJ_J (x : Nat) : unJ (vJ x) = vU := nr rfl
theorem unJ_U : unJ vU = vU := nr rfl
theorem r_iadd {p q : Int} (h : InR (p + q)) : Rn y pe ((.iadd, an) :: os) ls (vI q :: vI p :: st) a b s = Rn y pe os ls (vI (p + q) :: st) a b s := rn_st rfl rfl (if_pos h)
theorem r_isub {p q : Int} (h : InR (p - q)) : Rn y pe ((.isub, an) :: os) ls (vI q :: vI p :: st) a b s = Rn y pe os ls (vI (p - q) :: st) a b s := rn_st rfl rfl (if_pos h)
theorem r_imul {p q : Int} (h : InR (p * q)) : Rn y pe ((.imul, an) :: os) ls (vI q :: vI p :: st) a b s = Rn y pe os ls (vI (p * q) :: st) a b s := rn_st rfl rfl (if_pos h)
theorem r_idiv {p q : Int} (h : 0 ≤ p ∧ 0 < q) : Rn y pe ((.idiv, an) :: os) ls (vI q :: vI p :: st) a b s = Rn y pe os ls (vI (p / q) :: st) a b s := rn_st rfl rfl (if_pos h)
theorem r_irem {p q : Int} (h : 0 ≤ p ∧ 0 < q) : Rn y pe ((.irem, an) :: os) ls (vI q :: vI p :: st) a b s = Rn y pe os ls (vI (p % q) :: st) a b s := rn_st rfl rfl (if_pos h)
theorem r_iand {p q : Int}  : Rn y pe ((.iand, an) :: os) ls (vI q :: vI p :: st) a b s = Rn y pe os ls (vI (iA p q) :: st) a b s := nr rfl
theorem r_ior {p q : Int}  : Rn y pe ((.ior, an) :: os) ls (vI q :: vI p :: st) a b s = Rn y pe os ls (vI (iO p q) :: st) a b s := nr rfl
theorem r_ixor {p q : Int}  : Rn y pe ((.ixor, an) :: os) ls (vI q :: vI p :: st) a b s = Rn y pe os ls (vI (iX p q) :: st) a b s := nr rfl
theorem r_ishl {p q : Int}  : Rn y pe ((.ishl, an) :: os) ls (vI q :: vI p :: st) a b s = Rn y pe os ls (vI (iL p q) :: st) a b s := nr rfl
theorem r_ishr {p q : Int}  : Rn y pe ((.ishr, an) :: os) ls (vI q :: vI p :: st) a b s = Rn y pe os ls (vI (iS p q) :: st) a b s := nr rfl
theorem r_iushr {p q : Int}  : Rn y pe ((.iushr, an) :: os) ls (vI q :: vI p :: st) a b s = Rn y pe os ls (vI (iU p q) :: st) a b s := nr rfl
theorem r_land {u w : Nat}  : Rn y pe ((.land, an) :: os) ls (vJ w :: vJ u :: st) a b s = Rn y pe os ls (vJ (u &&& w) :: st) a b s := nr rfl
theorem r_lor {u w : Nat}  : Rn y pe ((.lor, an) :: os) ls (vJ w :: vJ u :: st) a b s = Rn y pe os ls (vJ (u ||| w) :: st) a b s := nr rfl
theorem r_lushr {k : Int} {u : Nat} (h : 0 ≤ k ∧ k < 64) : Rn y pe ((.lushr, an) :: os) ls (vI k :: vJ u :: st) a b s = Rn y pe os ls (vJ (u / 2 ^ k.toNat) :: st) a b s := rn_st rfl rfl (if_pos h)
theorem r_lshl {k : Int} {u : Nat} (h : 0 ≤ k ∧ k < 64) : Rn y pe ((.lshl, an) :: os) ls (vI k :: vJ u :: st) a b s = Rn y pe os ls (vJ (u * 2 ^ k.toNat % 2 ^ 64) :: st) a b s := rn_st rfl rfl (if_pos h)
theorem r_lcmp {u : Nat}  : Rn y pe ((.lcmp, an) :: os) ls (vJ 0 :: vJ u :: st) a b s = Rn y pe os ls (vI (if u = 0 then 0 else if u < 2 ^ 63 then 1 else -1) :: st) a b s := nr rfl
theorem r_i2l {p : Int}  : Rn y pe ((.i2l, an) :: os) ls (vI p :: st) a b s = Rn y pe os ls (vJ (p % 2 ^ 64).toNat :: st) a b s := nr rfl
theorem r_l2i {u : Nat} (h : u < 2147483648) : Rn y pe ((.l2i, an) :: os) ls (vJ u :: st) a b s = Rn y pe os ls (vI (u : Int) :: st) a b s := rn_st rfl rfl (if_pos h)
theorem r_i2b {p : Int} (h : -128 ≤ p ∧ p ≤ 127) : Rn y pe ((.i2b, an) :: os) ls (vI p :: st) a b s = Rn y pe os ls (vI p :: st) a b s := rn_st rfl rfl (if_pos h)
theorem r_i2c {p : Int} (h : 0 ≤ p ∧ p ≤ 65535) : Rn y pe ((.i2c, an) :: os) ls (vI p :: st) a b s = Rn y pe os ls (vI p :: st) a b s := rn_st rfl rfl (if_pos h)
theorem r_dup_vI {x : Int}  : Rn y pe ((.dup, an) :: os) ls (vI x :: st) a b s = Rn y pe os ls (vI x :: vI x :: st) a b s := nr rfl
theorem r_pop_vI {x : Int}  : Rn y pe ((.pop, an) :: os) ls (vI x :: st) a b s = Rn y pe os ls st a b s := nr rfl
theorem r_dup_vR {x : Nat}  : Rn y pe ((.dup, an) :: os) ls (vR x :: st) a b s = Rn y pe os ls (vR x :: vR x :: st) a b s := nr rfl
theorem r_pop_vR {x : Nat}  : Rn y pe ((.pop, an) :: os) ls (vR x :: st) a b s = Rn y pe os ls st a b s := nr rfl
theorem r_dup2 {i : Int} {r : Nat}  : Rn y pe ((.dup2, an) :: os) ls (vI i :: vR r :: st) a b s = Rn y pe os ls (vI i :: vR r :: vI i :: vR r :: st) a b s := nr rfl
theorem r_goto {o : Int} {t : Nat}  : Rn y pe ((.goto o, [t]) :: os) ls st a b s = En y t ls st a b s := nr rfl
theorem r_icmp_eq {p q o : Int} {t : Nat}  : Rn y pe ((.if_icmp .eq o, [t]) :: os) ls (vI q :: vI p :: st) a b s = (if p = q then En y t ls st a b s else Rn y pe os ls st a b s) := by simp only [Rn, retOf, callOf, st1, i1_, i2_, vI, br1, cmpB]; by_cases h : p = q <;> simp [h]
theorem r_if_eq {p o : Int} {t : Nat}  : Rn y pe ((.ifCond .eq o, [t]) :: os) ls (vI p :: st) a b s = (if p = 0 then En y t ls st a b s else Rn y pe os ls st a b s) := by simp only [Rn, retOf, callOf, st1, i1_, i2_, vI, br1, cmpB]; by_cases h : p = 0 <;> simp [h]
theorem r_icmp_ne {p q o : Int} {t : Nat}  : Rn y pe ((.if_icmp .ne o, [t]) :: os) ls (vI q :: vI p :: st) a b s = (if p = q then Rn y pe os ls st a b s else En y t ls st a b s) := by simp only [Rn, retOf, callOf, st1, i1_, i2_, vI, br1, cmpB]; by_cases h : p = q <;> simp [h]
theorem r_if_ne {p o : Int} {t : Nat}  : Rn y pe ((.ifCond .ne o, [t]) :: os) ls (vI p :: st) a b s = (if p = 0 then Rn y pe os ls st a b s else En y t ls st a b s) := by simp only [Rn, retOf, callOf, st1, i1_, i2_, vI, br1, cmpB]; by_cases h : p = 0 <;> simp [h]
theorem r_icmp_lt {p q o : Int} {t : Nat}  : Rn y pe ((.if_icmp .lt o, [t]) :: os) ls (vI q :: vI p :: st) a b s = (if p < q then En y t ls st a b s else Rn y pe os ls st a b s) := by simp only [Rn, retOf, callOf, st1, i1_, i2_, vI, br1, cmpB]; by_cases h : p < q <;> simp [h]
theorem r_if_lt {p o : Int} {t : Nat}  : Rn y pe ((.ifCond .lt o, [t]) :: os) ls (vI p :: st) a b s = (if p < 0 then En y t ls st a b s else Rn y pe os ls st a b s) := by simp only [Rn, retOf, callOf, st1, i1_, i2_, vI, br1, cmpB]; by_cases h : p < 0 <;> simp [h]
theorem r_icmp_ge {p q o : Int} {t : Nat}  : Rn y pe ((.if_icmp .ge o, [t]) :: os) ls (vI q :: vI p :: st) a b s = (if q ≤ p then En y t ls st a b s else Rn y pe os ls st a b s) := by simp only [Rn, retOf, callOf, st1, i1_, i2_, vI, br1, cmpB]; by_cases h : q ≤ p <;> simp [h]
theorem r_if_ge {p o : Int} {t : Nat}  : Rn y pe ((.ifCond .ge o, [t]) :: os) ls (vI p :: st) a b s = (if 0 ≤ p then En y t ls st a b s else Rn y pe os ls st a b s) := by simp only [Rn, retOf, callOf, st1, i1_, i2_, vI, br1, cmpB]; by_cases h : 0 ≤ p <;> simp [h]
theorem r_icmp_gt {p q o : Int} {t : Nat}  : Rn y pe ((.if_icmp .gt o, [t]) :: os) ls (vI q :: vI p :: st) a b s = (if q < p then En y t ls st a b s else Rn y pe os ls st a b s) := by simp only [Rn, retOf, callOf, st1, i1_, i2_, vI, br1, cmpB]; by_cases h : q < p <;> simp [h]
theorem r_if_gt {p o : Int} {t : Nat}  : Rn y pe ((.ifCond .gt o, [t]) :: os) ls (vI p :: st) a b s = (if 0 < p then En y t ls st a b s else Rn y pe os ls st a b s) := by simp only [Rn, retOf, callOf, st1, i1_, i2_, vI, br1, cmpB]; by_cases h : 0 < p <;> simp [h]
theorem r_icmp_le {p q o : Int} {t : Nat}  : Rn y pe ((.if_icmp .le o, [t]) :: os) ls (vI q :: vI p :: st) a b s = (if p ≤ q then En y t ls st a b s else Rn y pe os ls st a b s) := by simp only [Rn, retOf, callOf, st1, i1_, i2_, vI, br1, cmpB]; by_cases h : p ≤ q <;> simp [h]
theorem r_if_le {p o : Int} {t : Nat}  : Rn y pe ((.ifCond .le o, [t]) :: os) ls (vI p :: st) a b s = (if p ≤ 0 then En y t ls st a b s else Rn y pe os ls st a b s) := by simp only [Rn, retOf, callOf, st1, i1_, i2_, vI, br1, cmpB]; by_cases h : p ≤ 0 <;> simp [h]
theorem r_ifnull {o : Int} {r t : Nat}  : Rn y pe ((.ifnull o, [t]) :: os) ls (vR r :: st) a b s = (if r = 0 then En y t ls st a b s else Rn y pe os ls st a b s) := by simp only [Rn, retOf, callOf, st1, r1_, vR, br1]; by_cases h : r = 0 <;> simp [h]
theorem r_ifnonnull {o : Int} {r t : Nat}  : Rn y pe ((.ifnonnull o, [t]) :: os) ls (vR r :: st) a b s = (if r = 0 then Rn y pe os ls st a b s else En y t ls st a b s) := by simp only [Rn, retOf, callOf, st1, r1_, vR, br1]; by_cases h : r = 0 <;> simp [h]
noncomputable def swE (y : Nat) (x : Int) : Int → List Nat → Nat → List Vl → List Vl → HI → HR → SH → Rs
  | _, [], d, ls, st, a, b, s => En y d ls st a b s
  | lo, t :: ts, d, ls, st, a, b, s => if x = lo then En y t ls st a b s else swE y x (lo + 1) ts d ls st a b s
theorem swE_nil {x lo : Int} {d : Nat} : swE y x lo [] d ls st a b s = En y d ls st a b s := nr rfl
theorem swE_cons {x lo : Int} {t d : Nat} {ts : List Nat} : swE y x lo (t :: ts) d ls st a b s = if x = lo then En y t ls st a b s else swE y x (lo + 1) ts d ls st a b s := nr rfl
theorem swE_T {x : Int} : ∀ (ts : List Nat) (lo : Int) (d : Nat), swE y x lo ts d ls st a b s = En y (swT x lo ts d) ls st a b s := by
  intro ts
  induction ts with
  | nil => intro lo d; rfl
  | cons t ts ih => intro lo d; rw [swE_cons, swT]; by_cases h : x = lo <;> simp [h, ih]
theorem r_tableswitch {d lo hi x : Int} {offs : Array Int} {t : Nat} {ts : List Nat} : Rn y pe ((.tableswitch d lo hi offs, t :: ts) :: os) ls (vI x :: st) a b s = swE y x lo ts t ls st a b s := by rw [swE_T]; rfl
theorem r_iaload {i : Int} {r : Nat} (h : (kd s r = 10 ∨ kd s r = 20) ∧ 0 ≤ i ∧ i < ln s r) : Rn y pe ((.iaload, an) :: os) ls (vI i :: vR r :: st) a b s = Rn y pe os ls (vI (a r i) :: st) a b s := rn_st rfl rfl (if_pos h)
theorem r_baload {i : Int} {r : Nat} (h : (kd s r = 11 ∨ kd s r = 13) ∧ 0 ≤ i ∧ i < ln s r) : Rn y pe ((.baload, an) :: os) ls (vI i :: vR r :: st) a b s = Rn y pe os ls (vI (a r i) :: st) a b s := rn_st rfl rfl (if_pos h)
theorem r_caload {i : Int} {r : Nat} (h : (kd s r = 12) ∧ 0 ≤ i ∧ i < ln s r) : Rn y pe ((.caload, an) :: os) ls (vI i :: vR r :: st) a b s = Rn y pe os ls (vI (a r i) :: st) a b s := rn_st rfl rfl (if_pos h)
theorem r_aaload {i : Int} {r : Nat} (h : (kd s r = 14 ∨ kd s r = 15) ∧ 0 ≤ i ∧ i < ln s r) : Rn y pe ((.aaload, an) :: os) ls (vI i :: vR r :: st) a b s = Rn y pe os ls (vR (b r i) :: st) a b s := rn_st rfl rfl (if_pos h)
theorem r_iastore {v i : Int} {r : Nat} (h : kd s r = 10 ∧ 0 ≤ i ∧ i < ln s r) : Rn y pe ((.iastore, an) :: os) ls (vI v :: vI i :: vR r :: st) a b s = Rn y pe os ls st (wI a r i v) b s := rn_st rfl rfl (if_pos h)
theorem r_bastore {v i : Int} {r : Nat} (h : (kd s r = 11 ∧ -128 ≤ v ∧ v ≤ 127 ∨ kd s r = 13 ∧ 0 ≤ v ∧ v ≤ 1) ∧ 0 ≤ i ∧ i < ln s r) : Rn y pe ((.bastore, an) :: os) ls (vI v :: vI i :: vR r :: st) a b s = Rn y pe os ls st (wI a r i v) b s := by simp only [Rn, retOf, callOf, st1, vir_, vI, vR]; rw [if_pos h]; rfl
theorem r_castore {v i : Int} {r : Nat} (h : (kd s r = 12 ∧ 0 ≤ v ∧ v ≤ 65535) ∧ 0 ≤ i ∧ i < ln s r) : Rn y pe ((.castore, an) :: os) ls (vI v :: vI i :: vR r :: st) a b s = Rn y pe os ls st (wI a r i v) b s := by simp only [Rn, retOf, callOf, st1, vir_, vI, vR]; rw [if_pos h]; rfl
theorem r_aastore {i : Int} {v r : Nat} (h : (kd s r = 14 ∧ (v = 0 ∨ kd s v = 6) ∨ kd s r = 15 ∧ (v = 0 ∨ kd s v = 0)) ∧ 0 ≤ i ∧ i < ln s r) : Rn y pe ((.aastore, an) :: os) ls (vR v :: vI i :: vR r :: st) a b s = Rn y pe os ls st a (wR b r i v) s := by simp only [Rn, retOf, callOf, st1, vI, vR]; rw [if_pos h]; rfl
theorem r_arraylength {r : Nat} (h : kd s r = 10 ∨ kd s r = 11 ∨ kd s r = 12 ∨ kd s r = 20) : Rn y pe ((.arraylength, an) :: os) ls (vR r :: st) a b s = Rn y pe os ls (vI (ln s r) :: st) a b s := rn_st rfl rfl (if_pos h)
theorem r_getI {i r c k : Nat} (h : kd s r = c) : Rn y pe ((.getfield i, [0, c, k]) :: os) ls (vR r :: st) a b s = Rn y pe os ls (vI (a r k) :: st) a b s := rn_st rfl rfl (if_pos h)
theorem r_getR {i r c k : Nat} (h : kd s r = c) : Rn y pe ((.getfield i, [1, c, k]) :: os) ls (vR r :: st) a b s = Rn y pe os ls (vR (b r k) :: st) a b s := rn_st rfl rfl (if_pos h)
theorem r_putI {i r c k : Nat} {v : Int} (h : kd s r = c) : Rn y pe ((.putfield i, [0, c, k]) :: os) ls (vI v :: vR r :: st) a b s = Rn y pe os ls st (wI a r k v) b s := rn_st rfl rfl (if_pos h)
theorem r_putR {i r c k v : Nat} (h : kd s r = c) : Rn y pe ((.putfield i, [1, c, k]) :: os) ls (vR v :: vR r :: st) a b s = Rn y pe os ls st a (wR b r k v) s := rn_st rfl rfl (if_pos h)
theorem r_getstatic {i r z : Nat}  : Rn y pe ((.getstatic i, [14, r, z]) :: os) ls st a b s = Rn y pe os ls (vR r :: st) a b s := nr rfl
theorem r_new {i c n : Nat}  : Rn y pe ((.new i, [9, c, n]) :: os) ls st a b s = Rn y pe os ls (vR (nx s + 5) :: st) (zI a (nx s + 5)) (zR b (nx s + 5)) (nwS s c 0 n) := nr rfl
theorem r_newarray {t : ArrayType} {n : Int} (h : arK t ≠ 99 ∧ 0 ≤ n ∧ n ≤ 100000) : Rn y pe ((.newarray t, an) :: os) ls (vI n :: st) a b s = Rn y pe os ls (vR (nx s + 5) :: st) (zI a (nx s + 5)) b (nwS s (arK t) n n.toNat) := by simp only [Rn, retOf, callOf, st1, i1_, vI]; rw [if_pos h]; rfl
theorem r_new_int {n : Int} (h : 0 ≤ n ∧ n ≤ 100000) : Rn y pe ((.newarray .int, an) :: os) ls (vI n :: st) a b s = Rn y pe os ls (vR (nx s + 5) :: st) (zI a (nx s + 5)) b (nwS s 10 n n.toNat) := r_newarray ⟨by decide, h⟩
theorem r_new_byte {n : Int} (h : 0 ≤ n ∧ n ≤ 100000) : Rn y pe ((.newarray .byte, an) :: os) ls (vI n :: st) a b s = Rn y pe os ls (vR (nx s + 5) :: st) (zI a (nx s + 5)) b (nwS s 11 n n.toNat) := r_newarray ⟨by decide, h⟩
theorem r_new_char {n : Int} (h : 0 ≤ n ∧ n ≤ 100000) : Rn y pe ((.newarray .char, an) :: os) ls (vI n :: st) a b s = Rn y pe os ls (vR (nx s + 5) :: st) (zI a (nx s + 5)) b (nwS s 12 n n.toNat) := r_newarray ⟨by decide, h⟩
theorem r_new_boolean {n : Int} (h : 0 ≤ n ∧ n ≤ 100000) : Rn y pe ((.newarray .boolean, an) :: os) ls (vI n :: st) a b s = Rn y pe os ls (vR (nx s + 5) :: st) (zI a (nx s + 5)) b (nwS s 13 n n.toNat) := r_newarray ⟨by decide, h⟩
theorem r_anewarray {i k : Nat} {n : Int} (h : 0 ≤ n ∧ n ≤ 100000) : Rn y pe ((.anewarray i, [10, k]) :: os) ls (vI n :: st) a b s = Rn y pe os ls (vR (nx s + 5) :: st) a (zR b (nx s + 5)) (nwS s k n n.toNat) := rn_st rfl rfl (if_pos h)
theorem r_checkcast {i k r : Nat} (h : kd s r = k) : Rn y pe ((.checkcast i, [11, k]) :: os) ls (vR r :: st) a b s = Rn y pe os ls (vR r :: st) a b s := rn_st rfl rfl (if_pos h)
theorem r_objinit {i r : Nat} (h : r ≠ 0) (h2 : (st.map catV).sum ≤ 8) : Rn y pe ((.invokespecial i, [6]) :: os) ls (vR r :: st) a b s = Rn y pe os ls st a b s := by simp only [Rn, retOf, callOf, st1, r1_, vR]; rw [if_pos ⟨h, h2⟩]; rfl
theorem r_arraycopy {i q r : Nat} {n dp sp : Int} (h : (kd s q = 10 ∧ kd s r = 10 ∨ kd s q = 11 ∧ kd s r = 11) ∧ 0 ≤ n ∧ 0 ≤ dp ∧ 0 ≤ sp ∧ sp + n ≤ ln s q ∧ dp + n ≤ ln s r) (h2 : (st.map catV).sum ≤ 8) : Rn y pe ((.invokestatic i, [7]) :: os) ls (vI n :: vI dp :: vR r :: vI sp :: vR q :: st) a b s = Rn y pe os ls st (cpI a q r sp dp n) b s := by simp only [Rn, retOf, callOf, st1, vI, vR]; rw [if_pos ⟨h.1, h.2.1, h.2.2.1, h.2.2.2.1, h.2.2.2.2.1, h.2.2.2.2.2, h2⟩]; rfl
theorem r_cloneI {i : Nat} (h : kd s 2 = 20) (h2 : (st.map catV).sum ≤ 8) : Rn y pe ((.invokevirtual i, [8, 0]) :: os) ls (vR 2 :: st) a b s = Rn y pe os ls (vR (nx s + 5) :: st) (clI a 2 (nx s + 5)) b (nwS s 10 (ln s 2) (ln s 2).toNat) := rn_st rfl rfl (if_pos ⟨Or.inl ⟨rfl, h, rfl⟩, h2⟩)
theorem r_cloneB {i r : Nat} (h : kd s r = 11) (h2 : (st.map catV).sum ≤ 8) : Rn y pe ((.invokevirtual i, [8, 1]) :: os) ls (vR r :: st) a b s = Rn y pe os ls (vR (nx s + 5) :: st) (clI a r (nx s + 5)) b (nwS s 11 (ln s r) (ln s r).toNat) := rn_st rfl rfl (if_pos ⟨Or.inr ⟨rfl, h⟩, h2⟩)
theorem r_ireturnI {x : Int} (h : rt y = some .int) : Rn y pe ((.ireturn, an) :: os) ls [vI x] a b s = some ([vI x], a, b, s) := by simp [Rn, retOf, vI, h]
theorem r_ireturnZ {x : Int} (h : rt y = some .boolean) (h2 : x = 0 ∨ x = 1) : Rn y pe ((.ireturn, an) :: os) ls [vI x] a b s = some ([vI x], a, b, s) := by simp [Rn, retOf, vI, h, h2]
theorem r_return (h : rt y = none) : Rn y pe ((.return_, an) :: os) ls [] a b s = some ([], a, b, s) := by simp [Rn, retOf, h]
theorem r_areturn {x : Nat} (h : rt y = some (.array .byte) ∨ rt y = some (.object "DomeLamps$Show")) (h2 : x ≠ 0) : Rn y pe ((.areturn, an) :: os) ls [vR x] a b s = some ([vR x], a, b, s) := by simp [Rn, retOf, vR, h, h2]
theorem r_static0 {i t : Nat} (h : (st.map catV).sum ≤ 8) (h3 : (spr []).length ≤ mL t) : Rn y pe ((.invokestatic i, [2, t, 0]) :: os) ls (st) a b s = bnd (Mn t [] a b s) (fun rv a b s => Rn y pe os ls (rv ++ st) a b s) := by simp [Rn, retOf, callOf, h, h3]
theorem r_call3_0 {i t : Nat} {r : Nat} (h : (st.map catV).sum ≤ 8) (h2 : kd s r = ow t) (h3 : (spr [vR r]).length ≤ mL t) : Rn y pe ((.invokevirtual i, [3, t, 0]) :: os) ls (vR r :: st) a b s = bnd (Mn t [vR r] a b s) (fun rv a b s => Rn y pe os ls (rv ++ st) a b s) := by unfold vR at h3; simp [Rn, retOf, callOf, vR, h, h2, h3]
theorem r_call4_0 {i t : Nat} {r : Nat} (h : (st.map catV).sum ≤ 8) (h2 : kd s r = ow t) (h3 : (spr [vR r]).length ≤ mL t) : Rn y pe ((.invokespecial i, [4, t, 0]) :: os) ls (vR r :: st) a b s = bnd (Mn t [vR r] a b s) (fun rv a b s => Rn y pe os ls (rv ++ st) a b s) := by unfold vR at h3; simp [Rn, retOf, callOf, vR, h, h2, h3]
theorem r_call5_0 {i t : Nat} {r : Nat} (h : (st.map catV).sum ≤ 8) (h2 : kd s r = ow t) (h3 : (spr [vR r]).length ≤ mL t) : Rn y pe ((.invokespecial i, [5, t, 0]) :: os) ls (vR r :: st) a b s = bnd (Mn t [vR r] a b s) (fun rv a b s => Rn y pe os ls (rv ++ st) a b s) := by unfold vR at h3; simp [Rn, retOf, callOf, vR, h, h2, h3]
theorem r_static1 {i t : Nat} {x0 : Vl} (h : (st.map catV).sum ≤ 8) (h3 : (spr [x0]).length ≤ mL t) : Rn y pe ((.invokestatic i, [2, t, 1]) :: os) ls (x0 :: st) a b s = bnd (Mn t [x0] a b s) (fun rv a b s => Rn y pe os ls (rv ++ st) a b s) := by simp [Rn, retOf, callOf, h, h3]
theorem r_call3_1 {i t : Nat} {x0 : Vl} {r : Nat} (h : (st.map catV).sum ≤ 8) (h2 : kd s r = ow t) (h3 : (spr [vR r, x0]).length ≤ mL t) : Rn y pe ((.invokevirtual i, [3, t, 1]) :: os) ls (x0 :: vR r :: st) a b s = bnd (Mn t [vR r, x0] a b s) (fun rv a b s => Rn y pe os ls (rv ++ st) a b s) := by unfold vR at h3; simp [Rn, retOf, callOf, vR, h, h2, h3]
theorem r_call4_1 {i t : Nat} {x0 : Vl} {r : Nat} (h : (st.map catV).sum ≤ 8) (h2 : kd s r = ow t) (h3 : (spr [vR r, x0]).length ≤ mL t) : Rn y pe ((.invokespecial i, [4, t, 1]) :: os) ls (x0 :: vR r :: st) a b s = bnd (Mn t [vR r, x0] a b s) (fun rv a b s => Rn y pe os ls (rv ++ st) a b s) := by unfold vR at h3; simp [Rn, retOf, callOf, vR, h, h2, h3]
theorem r_call5_1 {i t : Nat} {x0 : Vl} {r : Nat} (h : (st.map catV).sum ≤ 8) (h2 : kd s r = ow t) (h3 : (spr [vR r, x0]).length ≤ mL t) : Rn y pe ((.invokespecial i, [5, t, 1]) :: os) ls (x0 :: vR r :: st) a b s = bnd (Mn t [vR r, x0] a b s) (fun rv a b s => Rn y pe os ls (rv ++ st) a b s) := by unfold vR at h3; simp [Rn, retOf, callOf, vR, h, h2, h3]
theorem r_static2 {i t : Nat} {x0 x1 : Vl} (h : (st.map catV).sum ≤ 8) (h3 : (spr [x0, x1]).length ≤ mL t) : Rn y pe ((.invokestatic i, [2, t, 2]) :: os) ls (x1 :: x0 :: st) a b s = bnd (Mn t [x0, x1] a b s) (fun rv a b s => Rn y pe os ls (rv ++ st) a b s) := by simp [Rn, retOf, callOf, h, h3]
theorem r_call3_2 {i t : Nat} {x0 x1 : Vl} {r : Nat} (h : (st.map catV).sum ≤ 8) (h2 : kd s r = ow t) (h3 : (spr [vR r, x0, x1]).length ≤ mL t) : Rn y pe ((.invokevirtual i, [3, t, 2]) :: os) ls (x1 :: x0 :: vR r :: st) a b s = bnd (Mn t [vR r, x0, x1] a b s) (fun rv a b s => Rn y pe os ls (rv ++ st) a b s) := by unfold vR at h3; simp [Rn, retOf, callOf, vR, h, h2, h3]
theorem r_call4_2 {i t : Nat} {x0 x1 : Vl} {r : Nat} (h : (st.map catV).sum ≤ 8) (h2 : kd s r = ow t) (h3 : (spr [vR r, x0, x1]).length ≤ mL t) : Rn y pe ((.invokespecial i, [4, t, 2]) :: os) ls (x1 :: x0 :: vR r :: st) a b s = bnd (Mn t [vR r, x0, x1] a b s) (fun rv a b s => Rn y pe os ls (rv ++ st) a b s) := by unfold vR at h3; simp [Rn, retOf, callOf, vR, h, h2, h3]
theorem r_call5_2 {i t : Nat} {x0 x1 : Vl} {r : Nat} (h : (st.map catV).sum ≤ 8) (h2 : kd s r = ow t) (h3 : (spr [vR r, x0, x1]).length ≤ mL t) : Rn y pe ((.invokespecial i, [5, t, 2]) :: os) ls (x1 :: x0 :: vR r :: st) a b s = bnd (Mn t [vR r, x0, x1] a b s) (fun rv a b s => Rn y pe os ls (rv ++ st) a b s) := by unfold vR at h3; simp [Rn, retOf, callOf, vR, h, h2, h3]
theorem r_static3 {i t : Nat} {x0 x1 x2 : Vl} (h : (st.map catV).sum ≤ 8) (h3 : (spr [x0, x1, x2]).length ≤ mL t) : Rn y pe ((.invokestatic i, [2, t, 3]) :: os) ls (x2 :: x1 :: x0 :: st) a b s = bnd (Mn t [x0, x1, x2] a b s) (fun rv a b s => Rn y pe os ls (rv ++ st) a b s) := by simp [Rn, retOf, callOf, h, h3]
theorem r_call3_3 {i t : Nat} {x0 x1 x2 : Vl} {r : Nat} (h : (st.map catV).sum ≤ 8) (h2 : kd s r = ow t) (h3 : (spr [vR r, x0, x1, x2]).length ≤ mL t) : Rn y pe ((.invokevirtual i, [3, t, 3]) :: os) ls (x2 :: x1 :: x0 :: vR r :: st) a b s = bnd (Mn t [vR r, x0, x1, x2] a b s) (fun rv a b s => Rn y pe os ls (rv ++ st) a b s) := by unfold vR at h3; simp [Rn, retOf, callOf, vR, h, h2, h3]
theorem r_call4_3 {i t : Nat} {x0 x1 x2 : Vl} {r : Nat} (h : (st.map catV).sum ≤ 8) (h2 : kd s r = ow t) (h3 : (spr [vR r, x0, x1, x2]).length ≤ mL t) : Rn y pe ((.invokespecial i, [4, t, 3]) :: os) ls (x2 :: x1 :: x0 :: vR r :: st) a b s = bnd (Mn t [vR r, x0, x1, x2] a b s) (fun rv a b s => Rn y pe os ls (rv ++ st) a b s) := by unfold vR at h3; simp [Rn, retOf, callOf, vR, h, h2, h3]
theorem r_call5_3 {i t : Nat} {x0 x1 x2 : Vl} {r : Nat} (h : (st.map catV).sum ≤ 8) (h2 : kd s r = ow t) (h3 : (spr [vR r, x0, x1, x2]).length ≤ mL t) : Rn y pe ((.invokespecial i, [5, t, 3]) :: os) ls (x2 :: x1 :: x0 :: vR r :: st) a b s = bnd (Mn t [vR r, x0, x1, x2] a b s) (fun rv a b s => Rn y pe os ls (rv ++ st) a b s) := by unfold vR at h3; simp [Rn, retOf, callOf, vR, h, h2, h3]
theorem r_nil : Rn y pe [] ls st a b s = En y pe ls st a b s := nr rfl
end RN
