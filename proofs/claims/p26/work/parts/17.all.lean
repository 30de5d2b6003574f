theorem annot_sta {y pc i t n : Nat} (h : annot y pc (.invokestatic i) = some [2, t, n]) : look (ow y) (2 * i) = some [2, t, n] ∧ okc y t = true := by
  unfold annot at h
  simp only at h
  split at h
  · rename_i h1
    split at h
    · rename_i h2; cases h; exact ⟨h1, h2⟩
    · cases h
  · split at h <;> cases h
  · cases h
theorem annot_vir {y pc i t n : Nat} (h : annot y pc (.invokevirtual i) = some [3, t, n]) : look (ow y) (2 * i) = some [3, t, n] ∧ okc y t = true := by
  unfold annot at h
  simp only at h
  split at h
  · rename_i h1
    split at h
    · rename_i h2; cases h; exact ⟨h1, h2⟩
    · cases h
  · split at h <;> cases h
  · cases h
theorem annot_spe {y pc i z t n : Nat} (h : annot y pc (.invokespecial i) = some [z, t, n]) (hz : z = 4 ∨ z = 5) : look (ow y) (2 * i) = some [z, t, n] ∧ okc y t = true := by
  unfold annot at h
  simp only at h
  split at h
  · rename_i h1
    split at h
    · rename_i h2; cases h; exact ⟨h1, h2⟩
    · cases h
  · rename_i h1
    split at h
    · rename_i h2; cases h; exact ⟨h1, h2⟩
    · cases h
  · split at h <;> cases h
  · cases h
theorem ini_in {t : Nat} (ht : ow t < 13) : Jvm.Cond.initialized (CN (ow t)) ∈ gdW := by
  have := List.all_eq_true.mp ini_all (ow t) (List.mem_range.mpr ht)
  simp only [decide_eq_true_eq] at this
  exact gd_in this rfl
section CAL2
variable {p : Program} {l : Launch} {e : Env} {R : Room} {s0 : State} {m : MethodId} {args : Array Value} {below : List Frame} {meth : Method} {c : Code} {H : Heap} {locs : List Loc} {cells slots : Nat} {Q : State → Prop} {g : Gx} {y : Nat}
set_option maxHeartbeats 8000000 in
theorem call_run (C : Cxt g y p s0 m args meth c) (hfr : dp y ≤ R.frames) (hlo : lc y ≤ R.locals) {n : Nat} (hM : metP l g n) {pc : Nat} {ins : Instr} {an : List Nat} (hd : decode (cd y) pc = .ok (ins, 3)) (han : annot y pc ins = some an) {st as rest rv : List Vl} {a a3 : HI} {b b3 : HR} {s s3 : SH} {t : Nat} (hc : callOf ins an st s = some (t, as, rest)) (hex : exN n t 0 (ent (mL t) as) [] a b s = some (rv, a3, b3, s3)) (hw : okL st) (hR : RelM g a b s H) {lsC : Array Slot} (hls : lsC.size = mL y) (hce : cells + (nx s3 - nx s) ≤ R.cells) (hsl : slots + (ns s3 - ns s) ≤ R.slots) :
    ∃ av, va_Run p l e R s0 m args below meth c H locs cells slots (nx s3 - nx s) (ns s3 - ns s) (F0 m pc lsC (st.map (cv g))) (rest.map (cv g)) (qcO g rv a3 b3 s3 av) (aA g) := by
  obtain ⟨hexec, hb, -, hml, hown, hts, hKK, -, -, hge, heq⟩ := C
  obtain ⟨c1, c2, c3⟩ := call_some hc
  have hroom : (2 * 0 + ((rest.map (cv g)).map fun v => v.category).sum ≤ 8) := by rw [cat_cv]; omega
  have S : CallFix p m c (cd y) (mL y) s0 args gdW (CN (ow y)) := ⟨hexec, hb, hml, hown, hts⟩
  rcases c3 with ⟨i, k, rfl, rfl, hst, hlen⟩ | ⟨i, k, z, r, as1, rfl, hz, rfl, hst, hlen, hkd⟩
  · obtain ⟨hlk, hok⟩ := annot_sta han
    obtain ⟨pq, h1, h2, -⟩ := look_ok hlk
    have h3 := h2 rfl
    simp only [moreOf, Bool.and_eq_true, decide_eq_true_eq] at h1
    simp only [condOf, k2i] at h3
    obtain ⟨⟨ht, hsta⟩, har⟩ := h1
    unfold okc at hok
    simp only [Bool.and_eq_true, decide_eq_true_eq] at hok
    have hmt := mt_all ht
    unfold mtB at hmt
    simp only [Bool.and_eq_true, decide_eq_true_eq] at hmt
    rw [if_pos hsta] at hmt
    simp only [decide_eq_true_eq] at hmt
    have hsw := gd_in (List.mem_of_getElem? hmt.1.1.1.1) rfl
    have hok2 : okL as := okL_rev.mp (okL_app.mp (by rw [← hst]; exact hw)).1
    have hMet := hM t as a b s rv a3 b3 s3 ht hex hok2 c2
    have hG : GoodIn gdW (va_wsS (CN (ow y)) i (nm t) (wsY t)) := by
      intro w hw
      have hg : ∀ w ∈ gdW, (w.onTables && w.keeps) = true ∨ ∃ ty, w = .arrayClass ty := fun w h => good_of_word (List.mem_filter.mp h).2
      rcases List.mem_append.mp hw with h | h
      · rcases List.mem_cons.mp h with rfl | h
        · exact ⟨h3, hg _ h3⟩
        · rcases List.mem_cons.mp h with rfl | h
          · exact ⟨hsw, hg _ hsw⟩
          · rcases List.mem_cons.mp h with rfl | h
            · exact ⟨ini_in hmt.2, hg _ (ini_in hmt.2)⟩
            · cases h
      · exact wsY_in ht w h
    refine ⟨_, va_runS (As := as.map (cv g)) (rest := rest.map (cv g)) S hMet (va_cwS (maxL := mL t) (bytes := cd t) (ret := rt t) k hts hG rfl rfl rfl ⟨hmt.1.1.2, hmt.1.2, har⟩ ⟨by show dp t + 1 ≤ _; omega, by show 8 + (mL t + 11) + lc t ≤ _; omega⟩) ⟨blind_pc, fun U hU hW => ⟨rfl, by rw [hU]; exact hR, KKg.warm hW hKK⟩⟩ rfl (by rw [List.length_map]; exact hlen) hls ?_ hroom hd ⟨hce, hsl⟩⟩
    rw [hst, List.map_append, List.map_reverse]
  · have hr9 : ow t < 9 → kd s r ≤ 15 := by omega
    have hok2 : okL (vR r :: as1) := okL_cons.mpr ⟨trivial, okL_rev.mp (okL_app.mp (by rw [← hst]; exact hw)).1⟩
    rcases hz with ⟨rfl, rfl⟩ | ⟨rfl, hz⟩
    · obtain ⟨hlk, hok⟩ := annot_vir han
      obtain ⟨pq, h1, h2, -⟩ := look_ok hlk
      have h3 := h2 rfl
      simp only [moreOf, Bool.and_eq_true, decide_eq_true_eq] at h1
      simp only [condOf, k2i] at h3
      obtain ⟨⟨⟨⟨ht, hsta⟩, har⟩, hot⟩, hsel⟩ := h1
      unfold okc at hok
      simp only [Bool.and_eq_true, decide_eq_true_eq] at hok
      have hmt := mt_all ht
      unfold mtB at hmt
      simp only [Bool.and_eq_true, decide_eq_true_eq] at hmt
      rw [if_neg (by omega)] at hmt
      simp only [decide_eq_true_eq] at hmt
      have hsw := gd_in (List.mem_of_getElem? hmt.1.1.1.1) rfl
      have hse := gd_in (List.mem_of_getElem? hsel) rfl
      have hMet := hM t _ a b s rv a3 b3 s3 ht hex hok2 c2
      have hr := okK_rng hR.2.2.2.1 (hr9 hot)
      have hG : GoodIn gdW (wsV (CN (ow y)) i (CN (ow t)) (nm t) (wsY t)) := by
        intro w hw
        have hg : ∀ w ∈ gdW, (w.onTables && w.keeps) = true ∨ ∃ ty, w = .arrayClass ty := fun w h => good_of_word (List.mem_filter.mp h).2
        rcases List.mem_append.mp hw with h | h
        · rcases List.mem_cons.mp h with rfl | h
          · exact ⟨h3, hg _ h3⟩
          · rcases List.mem_cons.mp h with rfl | h
            · exact ⟨hsw, hg _ hsw⟩
            · rcases List.mem_cons.mp h with rfl | h
              · exact ⟨hse, hg _ hse⟩
              · rcases List.mem_cons.mp h with rfl | h
                · exact ⟨ini_in hmt.2, hg _ (ini_in hmt.2)⟩
                · cases h
        · exact wsY_in ht w h
      have ear : (vR r :: as1).map (cv g) = .ref (adr g r) :: as1.map (cv g) := by rw [List.map_cons, show cv g (vR r) = cvR g r from rfl, cvR_ne (by omega)]
      refine ⟨_, va_runV (C := CN (ow t)) (b := adr g r) (As := as1.map (cv g)) (rest := rest.map (cv g)) S hMet (cwV (maxL := mL t) (bytes := cd t) (ret := rt t) k hts hG rfl rfl rfl ⟨rfl, hmt.1.1.2, hmt.1.2, har⟩ ⟨by show dp t + 1 ≤ _; omega, by show 8 + (mL t + 11) + lc t ≤ _; omega⟩) ⟨blind_pc, va_recv hKK.1 hR.2.2.1 (vw_at hot) ((wsE_at hr.1 hr.2).trans (by rw [cel_O (by omega), hkd])), fun U hU hW => ⟨by rw [ear], by rw [hU]; exact hR, KKg.warm hW hKK⟩⟩ rfl (by rw [List.length_map]; exact hlen) hls ?_ hroom hd ⟨hce, hsl⟩⟩
      rw [hst, List.map_append, List.map_reverse, List.map_cons, show cv g (vR r) = cvR g r from rfl, cvR_ne (by omega)]
    · obtain ⟨hlk, hok⟩ := annot_spe han hz
      obtain ⟨pq, h1, h2, -⟩ := look_ok hlk
      unfold okc at hok
      simp only [Bool.and_eq_true, decide_eq_true_eq] at hok
      have h5 : t < 87 ∧ (pl t).2.1 = 0 ∧ arity t = some k ∧ ow t < 9 ∧ (nm t).name = "<init>" ∧ rt t = none := by
        rcases hz with rfl | rfl
        · simp only [moreOf, Bool.and_eq_true, decide_eq_true_eq] at h1
          exact ⟨h1.1.1.1.1.1, h1.1.1.1.1.2, h1.1.1.1.2, h1.1.1.2, h1.1.2, h1.2⟩
        · simp only [moreOf, Bool.and_eq_true, decide_eq_true_eq] at h1
          exact ⟨h1.1.1.1.1.1.1, h1.1.1.1.1.1.2, h1.1.1.1.1.2, h1.1.1.1.2, h1.1.1.2, h1.1.2⟩
      obtain ⟨ht, hsta, har, hot, hnm, hrt⟩ := h5
      have hmt := mt_all ht
      unfold mtB at hmt
      simp only [Bool.and_eq_true, decide_eq_true_eq] at hmt
      rw [if_neg (by omega)] at hmt
      simp only [decide_eq_true_eq] at hmt
      have hsw := gd_in (List.mem_of_getElem? hmt.1.1.1.1) rfl
      have hMet := hM t _ a b s rv a3 b3 s3 ht hex hok2 c2
      have hr := okK_rng hR.2.2.2.1 (hr9 hot)
      have hws : wsY t = Jvm.Cond.code (nm t) (cd t) (mL t) none :: gdW := by unfold wsY; rw [hrt]
      have ear : (vR r :: as1).map (cv g) = .ref (adr g r) :: as1.map (cv g) := by rw [List.map_cons, show cv g (vR r) = cvR g r from rfl, cvR_ne (by omega)]
      have hstk : st.map (cv g) = (as1.map (cv g)).reverse ++ .ref (adr g r) :: rest.map (cv g) := by
        rw [hst, List.map_append, List.map_reverse, List.map_cons, show cv g (vR r) = cvR g r from rfl, cvR_ne (by omega)]
      rcases hz with rfl | rfl
      · have h3 := h2 rfl
        simp only [condOf, k2i] at h3
        exact ⟨_, va_runI (b := adr g r) (As := as1.map (cv g)) (rest := rest.map (cv g)) S hMet (cwI (maxL := mL t) (bytes := cd t) k hts (wsY_in ht) hws rfl rfl (hts _ (ini_in hmt.2)) (hts _ h3) (hts _ hsw) hnm ⟨hmt.1.1.2, hmt.1.2, har⟩ ⟨by show dp t + 1 ≤ _; omega, by show 8 + (mL t + 11) + lc t ≤ _; omega⟩) ⟨blind_pc, fun U hU hW => ⟨by rw [ear], by rw [hU]; exact hR, KKg.warm hW hKK⟩⟩ rfl (by rw [List.length_map]; exact hlen) hls hstk hroom hd ⟨hce, hsl⟩⟩
      · simp only [moreOf, Bool.and_eq_true, decide_eq_true_eq] at h1
        have hne := h1.2
        rw [k2i] at hne
        have hnest : va_Nw (.methodLinkNest (CN (ow y)) i (nm t) RX7) s0 := by
          obtain ⟨-, -, -, -, -, -, -, -, -, -, -, n1, n2, n3, n4, n5, n6, n7⟩ := hKK
          simp only [List.mem_cons, Prod.mk.injEq, List.not_mem_nil, or_false] at hne
          rcases hne with ⟨e1, e2, e3⟩ | ⟨e1, e2, e3⟩ | ⟨e1, e2, e3⟩ | ⟨e1, e2, e3⟩ | ⟨e1, e2, e3⟩ | ⟨e1, e2, e3⟩ <;> rw [e1, e2, e3]
          · exact n1
          · exact n3
          · exact n4
          · exact n5
          · exact n6
          · exact n7
        exact ⟨_, va_runIN (b := adr g r) (As := as1.map (cv g)) (rest := rest.map (cv g)) S hMet ⟨va_cnB (maxL := mL t) (bytes := cd t) k hts (wsY_in ht) hws rfl rfl hnest (hts _ (ini_in hmt.2)) ⟨hmt.1.1.2, hmt.1.2, har⟩ ⟨by show dp t + 1 ≤ _; omega, by show 8 + (mL t + 11) + lc t ≤ _; omega⟩, hnm, hts _ hsw⟩ ⟨blind_pc, fun U hU hW => ⟨by rw [ear], by rw [hU]; exact hR, KKg.warm hW hKK⟩⟩ rfl (by rw [List.length_map]; exact hlen) hls hstk hroom hd ⟨hce, hsl⟩⟩
end CAL2
theorem call_len {ins : Instr} {an : List Nat} {st as rest : List Vl} {s : SH} {t len : Nat} (h : callOf ins an st s = some (t, as, rest)) (hl : len = lnO ins len) : len = 3 := by
  obtain ⟨-, -, h⟩ := call_some h
  rcases h with ⟨i, n, rfl, -⟩ | ⟨i, n, z, r, as1, -, (⟨rfl, -⟩ | ⟨rfl, -⟩), -⟩ <;> exact hl
set_option maxHeartbeats 4000000 in
theorem fra_all (l : Launch) (g : Gx) : ∀ n, fraP l g n := by
  intro n
  induction n with
  | zero =>
    intro y pc ls st a b s rv a1 b1 s1 h
    simp [exN] at h
  | succ n ih =>
    intro y pc ls st a b s rv a1 b1 s1 hex p e R s0 m args below meth c H locs cells slots Q lsC C hfr hlo hR hS hL hv hw hce hsl hQ
    rw [exN] at hex
    cases hf : fetch y pc with
    | none => rw [hf] at hex; simp at hex
    | some w =>
      obtain ⟨len, ins, an⟩ := w
      rw [hf] at hex
      simp only at hex
      obtain ⟨hd, han, hlen⟩ := fetch_some hf
      cases hr : retOf y ins st with
      | some rv2 =>
        rw [hr] at hex
        cases hex
        obtain ⟨e1, e2⟩ := ret_some hr
        subst e1
        have hl1 : len = 1 := by
          rcases e2 with ⟨rfl, -⟩ | ⟨rfl, -⟩ | ⟨rfl, -⟩ <;> exact hlen
        subst hl1
        have := hQ pc ins lsC H locs hd hr hw hR hS
        rw [Nat.sub_self, Nat.sub_self, Nat.add_zero, Nat.add_zero] at this
        exact this
      | none =>
        rw [hr] at hex
        simp only at hex
        cases hc : callOf ins an st s with
        | some w =>
          obtain ⟨t, as, rest⟩ := w
          rw [hc] at hex
          simp only at hex
          cases hm : exN n t 0 (ent (mL t) as) [] a b s with
          | none => rw [hm] at hex; simp at hex
          | some w =>
            obtain ⟨rv3, a3, b3, s3⟩ := w
            rw [hm] at hex
            simp only at hex
            have n1 := exN_nx _ _ _ _ _ _ _ _ _ _ _ _ hm
            have n2 := exN_nx _ _ _ _ _ _ _ _ _ _ _ _ hex
            have hl3 := call_len hc hlen
            subst hl3
            obtain ⟨av, hrun⟩ := call_run (p := p) (e := e) (below := below) (locs := locs) (cells := cells) (slots := slots) C hfr hlo (met_of ih) hd han hc hm hw hR hL.2.1 (by omega) (by omega)
            have hsh := exN_shp _ _ _ _ _ _ _ _ _ _ _ _ hm
            have hsh2 : (rv3 = [] ∧ True) ∨ (∃ x, rv3 = [vI x]) ∨ (∃ r, rv3 = [vR r] ∧ r ≠ 0) := by
              rcases hsh with ⟨h, -⟩ | ⟨x, h, -⟩ | ⟨r, h, h0, -⟩
              · exact Or.inl ⟨h, trivial⟩
              · exact Or.inr (Or.inl ⟨x, h⟩)
              · exact Or.inr (Or.inr ⟨r, h, h0⟩)
            refine cal_join hsh2 hS hrun (fun H1 locs1 hrv hR1 hS1 => ?_)
            have hrest : okL rest := by
              obtain ⟨-, -, h⟩ := call_some hc
              rcases h with ⟨_, _, -, -, hst, -⟩ | ⟨_, _, _, _, _, -, -, -, hst, -⟩
              · rw [hst] at hw; exact (okL_app.mp hw).2
              · rw [hst] at hw; exact (okL_cons.mp (okL_app.mp hw).2).2
            refine ih _ _ _ _ _ _ _ _ _ _ _ hex p e R s0 m args below meth c H1 locs1 (cells + (nx s3 - nx s)) (slots + (ns s3 - ns s)) Q lsC C hfr hlo hR1 hS1 hL hv (okL_app.mpr ⟨hrv, hrest⟩) (by omega) (by omega) (fun pc1 ins1 lsC1 H2 locs2 q1 q2 q3 q4 q5 => ?_)
            have := hQ pc1 ins1 lsC1 H2 locs2 q1 q2 q3 q4 q5
            rw [show cells + (nx s3 - nx s) + (nx s1 - nx s3) = cells + (nx s1 - nx s) by omega, show slots + (ns s3 - ns s) + (ns s1 - ns s3) = slots + (ns s1 - ns s) by omega]
            exact this
        | none =>
          rw [hc] at hex
          simp only at hex
          cases hs : st1 ins an ls st a b s with
          | none => rw [hs] at hex; simp at hex
          | some w =>
            obtain ⟨j, ls3, st3, a3, b3, s3⟩ := w
            rw [hs] at hex
            simp only at hex
            have n1 := st1_nx hs
            have n2 := exN_nx _ _ _ _ _ _ _ _ _ _ _ _ hex
            refine snd1 C hfr hlo hf hs hR hS hL hv hw (by omega) (by omega) (fun H1 locs1 lsC1 hR1 hS1 hL1 hv1 hw1 => ?_)
            refine ih _ _ _ _ _ _ _ _ _ _ _ hex p e R s0 m args below meth c H1 locs1 (cells + (nx s3 - nx s)) (slots + (ns s3 - ns s)) Q lsC1 C hfr hlo hR1 hS1 hL1 hv1 hw1 (by omega) (by omega) (fun pc1 ins1 lsC1 H2 locs2 q1 q2 q3 q4 q5 => ?_)
            have := hQ pc1 ins1 lsC1 H2 locs2 q1 q2 q3 q4 q5
            rw [show cells + (nx s3 - nx s) + (nx s1 - nx s3) = cells + (nx s1 - nx s) by omega, show slots + (ns s3 - ns s) + (ns s1 - ns s3) = slots + (ns s1 - ns s) by omega]
            exact this
