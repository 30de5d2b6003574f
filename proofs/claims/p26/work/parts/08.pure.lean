/-! ===== instructions that leave the heap alone ===== -/
theorem jmp_some {pc : Nat} {off : Int} {an : List Nat} (h : jmp pc off = some an) : ∃ t : Nat, an = [t] ∧ (pc : Int) + off = (t : Int) := by
  unfold jmp at h
  split at h
  · cases h; exact ⟨_, rfl, by omega⟩
  · cases h
theorem ld_some {ls st : List Vl} {k : Nat} {a : HI} {b : HR} {s : SH} {t : Nat} {w} (h : ld1 ls st k a b s t = some w) : ∃ v, ls[k]? = some v ∧ go1 ls (v :: st) a b s = some w ∧ (t = 0 → ∃ x, v = vI x) ∧ (t = 1 → ∃ x, v = vR x) ∧ (t = 2 → ∃ x, v = vJ x) := by
  unfold ld1 at h
  split at h
  · rename_i x hx
    obtain ⟨h1, h2⟩ := if_some h
    subst h1
    exact ⟨_, hx, h2, fun _ => ⟨x, rfl⟩, fun q => by omega, fun q => by omega⟩
  · rename_i x hx
    obtain ⟨h1, h2⟩ := if_some h
    subst h1
    exact ⟨_, hx, h2, fun q => by omega, fun _ => ⟨x, rfl⟩, fun q => by omega⟩
  · rename_i x hx
    obtain ⟨h1, h2⟩ := if_some h
    subst h1
    exact ⟨_, hx, h2, fun q => by omega, fun q => by omega, fun _ => ⟨x, rfl⟩⟩
  · cases h
theorem so_some {ls st : List Vl} {k : Nat} {a : HI} {b : HR} {s : SH} {t : Nat} {w} (h : so1 ls st k a b s t = some w) : k < ls.length ∧ ((t = 0 ∧ ∃ x st3, st = vI x :: st3 ∧ go1 (stL ls k (vI x)) st3 a b s = some w) ∨ (t = 1 ∧ ∃ x st3, st = vR x :: st3 ∧ go1 (stL ls k (vR x)) st3 a b s = some w) ∨ (t = 2 ∧ k + 1 < ls.length ∧ ∃ x st3, st = vJ x :: st3 ∧ go1 ((stL ls k (vJ x)).set (k + 1) vU) st3 a b s = some w)) := by
  unfold so1 at h
  obtain ⟨hk, h⟩ := if_some h
  refine ⟨hk, ?_⟩
  split at h
  · obtain ⟨h1, h2⟩ := if_some h
    exact Or.inl ⟨h1, _, _, rfl, h2⟩
  · obtain ⟨h1, h2⟩ := if_some h
    exact Or.inr (Or.inl ⟨h1, _, _, rfl, h2⟩)
  · obtain ⟨h1, h2⟩ := if_some h
    exact Or.inr (Or.inr ⟨h1.1, h1.2, _, _, rfl, h2⟩)
  · cases h
section PURE
variable {p : Program} {l : Launch} {e : Env} {R : Room} {s0 : State} {m : MethodId} {args : Array Value} {below : List Frame} {meth : Method} {c : Code} {H : Heap} {locs : List Loc} {cells slots : Nat} {Q : State → Prop} {g : Gx} {y : Nat}
set_option maxHeartbeats 4000000 in
theorem snd_ld (hexec : p.tables.exec = Jvm.exec) (hb : c.code = cd y) {pc len k : Nat} {ins : Instr} {t : Nat} (hd : decode (cd y) pc = .ok (ins, len)) (hins : (t = 0 ∧ ((∃ q : Fin 4, ins = .iload_n q ∧ q.val = k ∧ len = 1) ∨ ins = .iload k ∧ len = 2)) ∨ (t = 1 ∧ ((∃ q : Fin 4, ins = .aload_n q ∧ q.val = k ∧ len = 1) ∨ ins = .aload k ∧ len = 2)) ∨ (t = 2 ∧ ((∃ q : Fin 4, ins = .lload_n q ∧ q.val = k ∧ len = 1) ∨ ins = .lload k ∧ len = 2))) {ls st ls1 st2 : List Vl} {a a1 : HI} {b b1 : HR} {s s1 : SH} {j : Option Nat} (hs : ld1 ls st k a b s t = some (j, ls1, st2, a1, b1, s1)) {lsC : Array Slot} (hL : lsR g lsC (mL y) ls) (hv : okL ls) (hw : okL st) (K0 : (∀ (ls2 st3 : List Vl) (lsC2 : Array Slot), go1 ls2 st3 a b s = some (j, ls1, st2, a1, b1, s1) → lsR g lsC2 (mL y) ls2 → okL ls2 → okL st3 → W p l e R s0 m args below meth c H locs cells slots Q (F0 m (pc + len) lsC2 (st3.map (cv g))))) : W p l e R s0 m args below meth c H locs cells slots Q (F0 m pc lsC (st.map (cv g))) := by
  obtain ⟨v, h1, h2, h3, h4, h5⟩ := ld_some hs
  have hvv : okV v := hv v (List.mem_of_getElem? h1)
  have hk := K0 _ _ _ h2 hL hv (okL_cons.mpr ⟨hvv, hw⟩)
  rcases hins with ⟨rfl, h⟩ | ⟨rfl, h⟩ | ⟨rfl, h⟩
  · obtain ⟨x, rfl⟩ := h3 rfl
    have hc : lsC[k]? = some (.val (.int (Int32.ofInt x))) := hL.2.2.2 k _ h1 (fun q => by cases q)
    rcases h with ⟨q, rfl, hq, rfl⟩ | ⟨rfl, rfl⟩
    · exact lv_iload_n hexec hb hd hq hc hk
    · exact lv_iload hexec hb hd hc hk
  · obtain ⟨x, rfl⟩ := h4 rfl
    have hc : lsC[k]? = some (.val (cvR g x)) := hL.2.2.2 k _ h1 (fun q => by cases q)
    by_cases hx : x = 0
    · subst hx
      rcases h with ⟨q, rfl, hq, rfl⟩ | ⟨rfl, rfl⟩
      · exact lv_aload_nN hexec hb hd hq hc hk
      · exact lv_aloadN hexec hb hd hc hk
    · rw [List.map_cons, show cv g (vR x) = cvR g x from rfl, cvR_ne hx] at hk
      rw [cvR_ne hx] at hc
      rcases h with ⟨q, rfl, hq, rfl⟩ | ⟨rfl, rfl⟩
      · exact lv_aload_n hexec hb hd hq hc hk
      · exact lv_aload hexec hb hd hc hk
  · obtain ⟨x, rfl⟩ := h5 rfl
    have hc : lsC[k]? = some (.val (.long (lN x))) := hL.2.2.2 k _ h1 (fun q => by cases q)
    rcases h with ⟨q, rfl, hq, rfl⟩ | ⟨rfl, rfl⟩
    · exact lv_lload_n hexec hb hd hq hc hk
    · exact lv_lload hexec hb hd hc hk
set_option maxHeartbeats 4000000 in
theorem snd_so (hexec : p.tables.exec = Jvm.exec) (hb : c.code = cd y) {pc len k : Nat} {ins : Instr} {t : Nat} (hd : decode (cd y) pc = .ok (ins, len)) (hins : (t = 0 ∧ ((∃ q : Fin 4, ins = .istore_n q ∧ q.val = k ∧ len = 1) ∨ ins = .istore k ∧ len = 2)) ∨ (t = 1 ∧ ((∃ q : Fin 4, ins = .astore_n q ∧ q.val = k ∧ len = 1) ∨ ins = .astore k ∧ len = 2)) ∨ (t = 2 ∧ ((∃ q : Fin 4, ins = .lstore_n q ∧ q.val = k ∧ len = 1) ∨ ins = .lstore k ∧ len = 2))) {ls st ls1 st2 : List Vl} {a a1 : HI} {b b1 : HR} {s s1 : SH} {j : Option Nat} (hs : so1 ls st k a b s t = some (j, ls1, st2, a1, b1, s1)) {lsC : Array Slot} (hL : lsR g lsC (mL y) ls) (hv : okL ls) (hw : okL st) (K0 : (∀ (ls2 st3 : List Vl) (lsC2 : Array Slot), go1 ls2 st3 a b s = some (j, ls1, st2, a1, b1, s1) → lsR g lsC2 (mL y) ls2 → okL ls2 → okL st3 → W p l e R s0 m args below meth c H locs cells slots Q (F0 m (pc + len) lsC2 (st3.map (cv g))))) : W p l e R s0 m args below meth c H locs cells slots Q (F0 m pc lsC (st.map (cv g))) := by
  obtain ⟨hkl, h2⟩ := so_some hs
  have hkn : k < mL y := by rw [← hL.1]; exact hkl
  rcases h2 with ⟨rfl, x, st3, rfl, h2⟩ | ⟨rfl, x, st3, rfl, h2⟩ | ⟨rfl, hk2, x, st3, rfl, h2⟩
  · rcases hins with ⟨-, h⟩ | ⟨h0, -⟩ | ⟨h0, -⟩
    · obtain ⟨o1, o2⟩ := okL_cons.mp hw
      have kk : ∀ lsC2 : Array Slot, lv_has lsC2 (mL y) ((k, cv g (vI x)) :: (lvl g ls).filter (fun q => !(q.1 == k) && !(q.1 + 1 == k && q.2.category == 2))) → W p l e R s0 m args below meth c H locs cells slots Q (F0 m (pc + len) lsC2 (st3.map (cv g))) := fun lsC2 hh => K0 _ _ _ h2 (hL.st1 hh) (okL_st hv o1) o2
      rcases h with ⟨q, rfl, hq, rfl⟩ | ⟨rfl, rfl⟩
      · exact lv_istore_n hexec hb hd hq hL.has hkn rfl kk
      · exact lv_istore hexec hb hd hL.has hkn rfl kk
    · cases h0
    · cases h0
  · rcases hins with ⟨h0, -⟩ | ⟨-, h⟩ | ⟨h0, -⟩
    · cases h0
    · obtain ⟨o1, o2⟩ := okL_cons.mp hw
      have kk : ∀ lsC2 : Array Slot, lv_has lsC2 (mL y) ((k, cv g (vR x)) :: (lvl g ls).filter (fun q => !(q.1 == k) && !(q.1 + 1 == k && q.2.category == 2))) → W p l e R s0 m args below meth c H locs cells slots Q (F0 m (pc + len) lsC2 (st3.map (cv g))) := fun lsC2 hh => K0 _ _ _ h2 (hL.st1 hh) (okL_st hv o1) o2
      by_cases hx : x = 0
      · subst hx
        rcases h with ⟨q, rfl, hq, rfl⟩ | ⟨rfl, rfl⟩
        · exact lv_astore_nN hexec hb hd hq hL.has hkn rfl kk
        · exact lv_astoreN hexec hb hd hL.has hkn rfl kk
      · rw [show cv g (vR x) = cvR g x from rfl, cvR_ne hx] at kk
        rw [List.map_cons, show cv g (vR x) = cvR g x from rfl, cvR_ne hx]
        rcases h with ⟨q, rfl, hq, rfl⟩ | ⟨rfl, rfl⟩
        · exact lv_astore_n hexec hb hd hq hL.has hkn rfl kk
        · exact lv_astore hexec hb hd hL.has hkn rfl kk
    · cases h0
  · rcases hins with ⟨h0, -⟩ | ⟨h0, -⟩ | ⟨-, h⟩
    · cases h0
    · cases h0
    · obtain ⟨o1, o2⟩ := okL_cons.mp hw
      have hkn2 : k + 1 < mL y := by rw [← hL.1]; exact hk2
      have kk : ∀ lsC2 : Array Slot, lv_has lsC2 (mL y) ((k, Value.long (lN x)) :: (lvl g ls).filter (fun q => !(q.1 == k) && (!(q.1 == k + 1) && !(q.1 + 1 == k && q.2.category == 2)))) → W p l e R s0 m args below meth c H locs cells slots Q (F0 m (pc + len) lsC2 (st3.map (cv g))) := fun lsC2 hh => K0 _ _ _ h2 (hL.st2 hh) (okL_set (okL_st hv o1)) o2
      rcases h with ⟨q, rfl, hq, rfl⟩ | ⟨rfl, rfl⟩
      · exact lv_lstore_n hexec hb hd hq hL.has hkn2 rfl kk
      · exact lv_lstore hexec hb hd hL.has hkn2 rfl kk
set_option maxHeartbeats 4000000 in
theorem snd_icmp (hexec : p.tables.exec = Jvm.exec) (hb : c.code = cd y) {pc len t : Nat} {cc : Jvm.ClassFile.Cond} {off : Int} (hd : decode (cd y) pc = .ok (.if_icmp cc off, len)) (hlen : len = 3) (ht : (pc : Int) + off = (t : Int)) {P Q2 : Int} {ls st3 ls1 st2 : List Vl} {a a1 : HI} {b b1 : HR} {s s1 : SH} {j : Option Nat} (hs : br1 (cmpB cc P Q2) t ls st3 a b s = some (j, ls1, st2, a1, b1, s1)) {lsC : Array Slot} (hP : InR P) (hQ : InR Q2) (hw : okL st3) (KB : (∀ (cnd : Bool) (t : Nat) (st3 : List Vl), br1 cnd t ls st3 a b s = some (j, ls1, st2, a1, b1, s1) → okL st3 → (cnd = true → W p l e R s0 m args below meth c H locs cells slots Q (F0 m t lsC (st3.map (cv g)))) ∧ (cnd = false → W p l e R s0 m args below meth c H locs cells slots Q (F0 m (pc + len) lsC (st3.map (cv g)))))) : W p l e R s0 m args below meth c H locs cells slots Q (F0 m pc lsC ((vI Q2 :: vI P :: st3).map (cv g))) := by
  subst hlen
  obtain ⟨k1, k2⟩ := KB _ _ _ hs hw
  cases cc with
  | eq => exact lv_icmp_eq hexec hb hd ht (fun h => k1 (decide_eq_true ((ofI_inj hP hQ).mp h))) (fun h => k2 (decide_eq_false (fun q => h ((ofI_inj hP hQ).mpr q))))
  | ne => exact lv_icmp_ne hexec hb hd ht (fun h => k1 (by simp only [cmpB, Bool.not_eq_true', decide_eq_false_iff_not]; exact fun q => h ((ofI_inj hP hQ).mpr q))) (fun h => k2 (by simp only [cmpB, Bool.not_eq_false', decide_eq_true_eq]; exact (ofI_inj hP hQ).mp h))
  | lt => exact lv_icmp_lt hexec hb hd ht (fun h => k1 (decide_eq_true ((ofI_lt hP hQ).mp h))) (fun h => k2 (decide_eq_false (fun q => h ((ofI_lt hP hQ).mpr q))))
  | ge => exact lv_icmp_ge hexec hb hd ht (fun h => k1 (decide_eq_true ((ofI_le hQ hP).mp h))) (fun h => k2 (decide_eq_false (fun q => h ((ofI_le hQ hP).mpr q))))
  | gt => exact lv_icmp_gt hexec hb hd ht (fun h => k1 (decide_eq_true ((ofI_lt hQ hP).mp h))) (fun h => k2 (decide_eq_false (fun q => h ((ofI_lt hQ hP).mpr q))))
  | le => exact lv_icmp_le hexec hb hd ht (fun h => k1 (decide_eq_true ((ofI_le hP hQ).mp h))) (fun h => k2 (decide_eq_false (fun q => h ((ofI_le hP hQ).mpr q))))
set_option maxHeartbeats 4000000 in
theorem snd_if (hexec : p.tables.exec = Jvm.exec) (hb : c.code = cd y) {pc len t : Nat} {cc : Jvm.ClassFile.Cond} {off : Int} (hd : decode (cd y) pc = .ok (.ifCond cc off, len)) (hlen : len = 3) (ht : (pc : Int) + off = (t : Int)) {P : Int} {ls st3 ls1 st2 : List Vl} {a a1 : HI} {b b1 : HR} {s s1 : SH} {j : Option Nat} (hs : br1 (cmpB cc P 0) t ls st3 a b s = some (j, ls1, st2, a1, b1, s1)) {lsC : Array Slot} (hP : InR P) (hw : okL st3) (KB : (∀ (cnd : Bool) (t : Nat) (st3 : List Vl), br1 cnd t ls st3 a b s = some (j, ls1, st2, a1, b1, s1) → okL st3 → (cnd = true → W p l e R s0 m args below meth c H locs cells slots Q (F0 m t lsC (st3.map (cv g)))) ∧ (cnd = false → W p l e R s0 m args below meth c H locs cells slots Q (F0 m (pc + len) lsC (st3.map (cv g)))))) : W p l e R s0 m args below meth c H locs cells slots Q (F0 m pc lsC ((vI P :: st3).map (cv g))) := by
  subst hlen
  have hQ : InR 0 := InR0
  obtain ⟨k1, k2⟩ := KB _ _ _ hs hw
  cases cc with
  | eq => exact lv_if_eq hexec hb hd ht (fun h => k1 (decide_eq_true ((ofI_inj hP hQ).mp h))) (fun h => k2 (decide_eq_false (fun q => h ((ofI_inj hP hQ).mpr q))))
  | ne => exact lv_if_ne hexec hb hd ht (fun h => k1 (by simp only [cmpB, Bool.not_eq_true', decide_eq_false_iff_not]; exact fun q => h ((ofI_inj hP hQ).mpr q))) (fun h => k2 (by simp only [cmpB, Bool.not_eq_false', decide_eq_true_eq]; exact (ofI_inj hP hQ).mp h))
  | lt => exact lv_if_lt hexec hb hd ht (fun h => k1 (decide_eq_true ((ofI_lt hP hQ).mp h))) (fun h => k2 (decide_eq_false (fun q => h ((ofI_lt hP hQ).mpr q))))
  | ge => exact lv_if_ge hexec hb hd ht (fun h => k1 (decide_eq_true ((ofI_le hQ hP).mp h))) (fun h => k2 (decide_eq_false (fun q => h ((ofI_le hQ hP).mpr q))))
  | gt => exact lv_if_gt hexec hb hd ht (fun h => k1 (decide_eq_true ((ofI_lt hQ hP).mp h))) (fun h => k2 (decide_eq_false (fun q => h ((ofI_lt hQ hP).mpr q))))
  | le => exact lv_if_le hexec hb hd ht (fun h => k1 (decide_eq_true ((ofI_le hP hQ).mp h))) (fun h => k2 (decide_eq_false (fun q => h ((ofI_le hP hQ).mpr q))))
end PURE
