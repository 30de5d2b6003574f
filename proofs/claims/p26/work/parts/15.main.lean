/-! ===== calls, returns: the interpreter's run of a method is the machine's ===== -/
theorem st1_nx {ins : Instr} {an : List Nat} {ls st ls1 st2 : List Vl} {a a1 : HI} {b b1 : HR} {s s1 : SH} {j : Option Nat} (h : st1 ins an ls st a b s = some (j, ls1, st2, a1, b1, s1)) : nx s ≤ nx s1 ∧ ns s ≤ ns s1 := by
  have key : s1 = s ∨ ∃ k n sl, s1 = nwS s k n sl := by
    cases ins <;> simp only [st1, ld1, so1, i2_, i1_, r1_, ir_, vir_, j2_, ij_, go1, br1] at h <;> first | (cases h; done) | (cases h; exact Or.inl rfl) | (repeat' (split at h)) <;> first | (cases h; done) | (cases h; exact Or.inl rfl) | (cases h; exact Or.inr ⟨_, _, _, rfl⟩)
  rcases key with rfl | ⟨k, n, sl, rfl⟩
  · exact ⟨Nat.le_refl _, Nat.le_refl _⟩
  · rw [nx_nw, ns_nw]; omega
theorem exN_nx : ∀ (n y pc : Nat) (ls st : List Vl) (a : HI) (b : HR) (s : SH) (rv : List Vl) (a1 : HI) (b1 : HR) (s1 : SH), exN n y pc ls st a b s = some (rv, a1, b1, s1) → nx s ≤ nx s1 ∧ ns s ≤ ns s1 := by
  intro n
  induction n with
  | zero => intro y pc ls st a b s rv a1 b1 s1 h; simp [exN] at h
  | succ n ih =>
    intro y pc ls st a b s rv a1 b1 s1 h
    rw [exN] at h
    cases hf : fetch y pc with
    | none => rw [hf] at h; simp at h
    | some w =>
      obtain ⟨len, ins, an⟩ := w
      rw [hf] at h
      simp only at h
      cases hr : retOf y ins st with
      | some rv2 => rw [hr] at h; cases h; exact ⟨Nat.le_refl _, Nat.le_refl _⟩
      | none =>
        rw [hr] at h
        simp only at h
        cases hc : callOf ins an st s with
        | some w =>
          obtain ⟨t, as, rest⟩ := w
          rw [hc] at h
          simp only at h
          cases hm : exN n t 0 (ent (mL t) as) [] a b s with
          | none => rw [hm] at h; simp at h
          | some w =>
            obtain ⟨rv3, a3, b3, s3⟩ := w
            rw [hm] at h
            have h1 := ih _ _ _ _ _ _ _ _ _ _ _ hm
            have h2 := ih _ _ _ _ _ _ _ _ _ _ _ h
            omega
        | none =>
          rw [hc] at h
          simp only at h
          cases hs : st1 ins an ls st a b s with
          | none => rw [hs] at h; simp at h
          | some w =>
            obtain ⟨j, ls3, st3, a3, b3, s3⟩ := w
            rw [hs] at h
            have h1 := st1_nx hs
            have h2 := ih _ _ _ _ _ _ _ _ _ _ _ h
            omega
/-- what comes back, by the method's type -/
def shp (y : Nat) (rv : List Vl) : Prop := (rv = [] ∧ rt y = none) ∨ (∃ x, rv = [vI x] ∧ InR x ∧ (rt y = some .int ∨ rt y = some .boolean ∧ (x = 0 ∨ x = 1))) ∨ (∃ r, rv = [vR r] ∧ r ≠ 0 ∧ (rt y = some (.array .byte) ∨ rt y = some (.object "DomeLamps$Show")))
theorem ret_some {y : Nat} {ins : Instr} {st rv : List Vl} (h : retOf y ins st = some rv) : rv = st ∧ ((ins = .return_ ∧ rv = [] ∧ rt y = none) ∨ (ins = .ireturn ∧ ∃ x, rv = [vI x] ∧ (rt y = some .int ∨ rt y = some .boolean ∧ (x = 0 ∨ x = 1))) ∨ (ins = .areturn ∧ ∃ r, rv = [vR r] ∧ r ≠ 0 ∧ (rt y = some (.array .byte) ∨ rt y = some (.object "DomeLamps$Show")))) := by
  unfold retOf at h
  split at h
  · split at h
    · obtain ⟨h1, h2⟩ := if_some' h
      cases h2
      exact ⟨rfl, Or.inr (Or.inl ⟨rfl, _, rfl, h1⟩)⟩
    · cases h
  · split at h
    · obtain ⟨h1, h2⟩ := if_some' h
      cases h2
      exact ⟨rfl, Or.inr (Or.inr ⟨rfl, _, rfl, h1.1, h1.2⟩)⟩
    · cases h
  · split at h
    · obtain ⟨h1, h2⟩ := if_some' h
      cases h2
      exact ⟨rfl, Or.inl ⟨rfl, rfl, h1⟩⟩
    · cases h
  · cases h
theorem take_rev {n : Nat} {st : List Vl} : st = ((st.take n).reverse).reverse ++ st.drop n := by rw [List.reverse_reverse, List.take_append_drop]
theorem call_some {ins : Instr} {an : List Nat} {st as rest : List Vl} {s : SH} {t : Nat} (h : callOf ins an st s = some (t, as, rest)) : (rest.map catV).sum ≤ 8 ∧ (spr as).length ≤ mL t ∧
    ((∃ i n, ins = .invokestatic i ∧ an = [2, t, n] ∧ st = as.reverse ++ rest ∧ as.length = n) ∨ (∃ i n z r as1, an = [z, t, n] ∧ (ins = .invokevirtual i ∧ z = 3 ∨ ins = .invokespecial i ∧ (z = 4 ∨ z = 5)) ∧ as = vR r :: as1 ∧ st = as1.reverse ++ vR r :: rest ∧ as1.length = n ∧ kd s r = ow t)) := by
  unfold callOf at h
  split at h
  · split at h
    · obtain ⟨h1, h2⟩ := if_some' h
      cases h2
      exact ⟨h1.2.1, h1.2.2, Or.inl ⟨_, _, rfl, rfl, take_rev, by rw [List.length_reverse, List.length_take]; omega⟩⟩
    · cases h
  · split at h
    · split at h
      · rename_i hd
        obtain ⟨h1, h2⟩ := if_some' h
        cases h2
        exact ⟨h1.2.1, h1.2.2.2, Or.inr ⟨_, _, _, _, _, rfl, Or.inl ⟨rfl, rfl⟩, rfl, by rw [show vR _ :: rest = _ from hd.symm]; exact take_rev, by rw [List.length_reverse, List.length_take]; omega, h1.2.2.1⟩⟩
      · cases h
    · cases h
  · split at h
    · split at h
      · rename_i hd
        obtain ⟨h1, h2⟩ := if_some' h
        cases h2
        exact ⟨h1.2.1, h1.2.2.2, Or.inr ⟨_, _, _, _, _, rfl, Or.inr ⟨rfl, Or.inl rfl⟩, rfl, by rw [show vR _ :: rest = _ from hd.symm]; exact take_rev, by rw [List.length_reverse, List.length_take]; omega, h1.2.2.1⟩⟩
      · cases h
    · split at h
      · rename_i hd
        obtain ⟨h1, h2⟩ := if_some' h
        cases h2
        exact ⟨h1.2.1, h1.2.2.2, Or.inr ⟨_, _, _, _, _, rfl, Or.inr ⟨rfl, Or.inr rfl⟩, rfl, by rw [show vR _ :: rest = _ from hd.symm]; exact take_rev, by rw [List.length_reverse, List.length_take]; omega, h1.2.2.1⟩⟩
      · cases h
    · cases h
  · cases h
theorem exN_shp : ∀ (n y pc : Nat) (ls st : List Vl) (a : HI) (b : HR) (s : SH) (rv : List Vl) (a1 : HI) (b1 : HR) (s1 : SH), exN n y pc ls st a b s = some (rv, a1, b1, s1) → (rv = [] ∧ rt y = none) ∨ (∃ x, rv = [vI x] ∧ (rt y = some .int ∨ rt y = some .boolean ∧ (x = 0 ∨ x = 1))) ∨ (∃ r, rv = [vR r] ∧ r ≠ 0 ∧ (rt y = some (.array .byte) ∨ rt y = some (.object "DomeLamps$Show"))) := by
  intro n
  induction n with
  | zero => intro y pc ls st a b s rv a1 b1 s1 h; simp [exN] at h
  | succ n ih =>
    intro y pc ls st a b s rv a1 b1 s1 h
    rw [exN] at h
    cases hf : fetch y pc with
    | none => rw [hf] at h; simp at h
    | some w =>
      obtain ⟨len, ins, an⟩ := w
      rw [hf] at h
      simp only at h
      cases hr : retOf y ins st with
      | some rv2 =>
        rw [hr] at h
        cases h
        rcases (ret_some hr).2 with ⟨-, h⟩ | ⟨-, h⟩ | ⟨-, h⟩
        · exact Or.inl h
        · exact Or.inr (Or.inl h)
        · exact Or.inr (Or.inr h)
      | none =>
        rw [hr] at h
        simp only at h
        cases hc : callOf ins an st s with
        | some w =>
          obtain ⟨t, as, rest⟩ := w
          rw [hc] at h
          simp only at h
          cases hm : exN n t 0 (ent (mL t) as) [] a b s with
          | none => rw [hm] at h; simp at h
          | some w =>
            obtain ⟨rv3, a3, b3, s3⟩ := w
            rw [hm] at h
            exact ih _ _ _ _ _ _ _ _ _ _ _ h
        | none =>
          rw [hc] at h
          simp only at h
          cases hs : st1 ins an ls st a b s with
          | none => rw [hs] at h; simp at h
          | some w =>
            obtain ⟨j, ls3, st3, a3, b3, s3⟩ := w
            rw [hs] at h
            exact ih _ _ _ _ _ _ _ _ _ _ _ h
/-! entry -/
theorem spr_len {g : Gx} : ∀ (as : List Vl), (lg_sl (as.map (cv g))).length = (spr as).length
  | [] => rfl
  | v :: as => by
    have ih := spr_len (g := g) as
    rw [List.map_cons]
    unfold lg_sl at ih ⊢
    rw [List.flatMap_cons, List.length_append, ih]
    by_cases hc : (cv g v).category = 2
    · rw [if_pos hc]
      obtain ⟨u, rfl⟩ := cv_cat.mp hc
      show 2 + _ = (vJ u :: vU :: spr as).length
      rw [List.length_cons, List.length_cons]; omega
    · rw [if_neg hc]
      rcases v with x | r | u | u
      · show 1 + _ = (vI x :: spr as).length
        rw [List.length_cons]; omega
      · show 1 + _ = (vR r :: spr as).length
        rw [List.length_cons]; omega
      · exact absurd (cv_cat.mpr ⟨u, rfl⟩) hc
      · show 1 + _ = (vU :: spr as).length
        rw [List.length_cons]; omega
theorem spr_args {g : Gx} : ∀ (as : List Vl) (i0 i : Nat) (v : Vl), (spr as)[i]? = some v → v ≠ vU → (i0 + i, cv g v) ∈ lv_args i0 (as.map (cv g))
  | [], _, i, v, h, _ => by simp [spr] at h
  | w :: as, i0, i, v, h, hv => by
    rw [List.map_cons]
    by_cases hc : (cv g w).category = 2
    · obtain ⟨u, rfl⟩ := cv_cat.mp hc
      rw [show spr (vJ u :: as) = vJ u :: vU :: spr as from rfl] at h
      rw [lv_args, if_pos hc]
      match i, h with
      | 0, h => cases h; exact List.mem_cons_self
      | 1, h => cases h; exact absurd rfl hv
      | i + 2, h =>
        have := spr_args (g := g) as (i0 + 2) i v h hv
        rw [show i0 + 2 + i = i0 + (i + 2) by omega] at this
        exact List.mem_cons_of_mem _ this
    · rw [lv_args, if_neg hc]
      have hs : spr (w :: as) = w :: spr as := by
        rcases w with x | r | u | u
        · rfl
        · rfl
        · exact absurd (cv_cat.mpr ⟨u, rfl⟩) hc
        · rfl
      rw [hs] at h
      match i, h with
      | 0, h => cases h; exact List.mem_cons_self
      | i + 1, h =>
        have := spr_args (g := g) as (i0 + 1) i v h hv
        rw [show i0 + 1 + i = i0 + (i + 1) by omega] at this
        exact List.mem_cons_of_mem _ this
theorem ent_lsR {g : Gx} {as : List Vl} {n : Nat} (h : (spr as).length ≤ n) : lsR g ((lg_sl (as.map (cv g)) ++ List.replicate (n - (lg_sl (as.map (cv g))).length) Slot.unset).toArray) n (ent n as) := by
  have hh := lv_entry (as.map (cv g)) (n := n) (by rw [spr_len]; exact h)
  refine ⟨by unfold ent; rw [List.length_append, List.length_replicate]; omega, hh.1, hh.2.1, fun i v hv hu => ?_⟩
  unfold ent at hv
  by_cases hi : i < (spr as).length
  · rw [List.getElem?_append_left hi] at hv
    have := spr_args (g := g) as 0 i v hv hu
    rw [Nat.zero_add] at this
    exact hh.2.2 (i, cv g v) this
  · rw [List.getElem?_append_right (by omega)] at hv
    exact absurd (List.eq_of_mem_replicate (List.mem_of_getElem? hv)) hu
theorem okL_spr : ∀ (as : List Vl), okL as → okL (spr as)
  | [], h => h
  | w :: as, h => by
    obtain ⟨h1, h2⟩ := okL_cons.mp h
    have ih := okL_spr as h2
    rcases w with x | r | u | u
    · exact okL_cons.mpr ⟨h1, ih⟩
    · exact okL_cons.mpr ⟨h1, ih⟩
    · exact okL_cons.mpr ⟨h1, okL_cons.mpr ⟨trivial, ih⟩⟩
    · exact okL_cons.mpr ⟨h1, ih⟩
theorem okL_ent {as : List Vl} {n : Nat} (h : okL as) : okL (ent n as) := by
  intro v hv
  unfold ent at hv
  rcases List.mem_append.mp hv with q | q
  · exact okL_spr as h v q
  · rw [List.eq_of_mem_replicate q]; exact trivial
theorem okL_app {l1 l2 : List Vl} : okL (l1 ++ l2) ↔ okL l1 ∧ okL l2 := by
  constructor
  · intro h; exact ⟨fun v hv => h v (List.mem_append_left _ hv), fun v hv => h v (List.mem_append_right _ hv)⟩
  · rintro ⟨h1, h2⟩ v hv; rcases List.mem_append.mp hv with q | q; exact h1 v q; exact h2 v q
theorem okL_rev {l : List Vl} : okL l.reverse ↔ okL l := by
  constructor
  · intro h v hv; exact h v (List.mem_reverse.mpr hv)
  · intro h v hv; exact h v (List.mem_reverse.mp hv)
