/-! ===== fields, stores of references ===== -/
theorem fits_fld {g : Gx} {a : HI} {b : HR} {q r k : Nat} (h : q < 9) (hk : k < CNF q) : narrow (CF q k) (fldV g a b q r k) = fldV g a b q r k ∧ fits (CF q k) (fldV g a b q r k) = true := by
  obtain ⟨-, h1, h2, -⟩ := ty_ok h hk
  unfold fldV
  by_cases hi : isF q k = true
  · rw [if_pos hi, h1 hi]; exact ⟨rfl, rfl⟩
  · rw [if_neg hi]
    have h3 := h2 (by simpa using hi)
    have key : ∀ w, narrow (CF q k) w = w ∨ CF q k = .boolean ∨ CF q k = .byte ∨ CF q k = .char ∨ CF q k = .short := by
      intro w
      cases CF q k <;> simp [narrow]
    refine ⟨?_, ?_⟩
    · rcases key (cvR g (b r k)) with z | z | z | z | z
      · exact z
      all_goals (rw [z] at h3; cases h3)
    · by_cases h0 : b r k = 0
      · rw [h0, cvR_0]
        cases hc : CF q k <;> first | rfl | (rw [hc] at h3; cases h3)
      · rw [cvR_ne h0]
        cases hc : CF q k <;> first | rfl | (rw [hc] at h3; cases h3)
theorem vpV_fld {f : Nat → Value} {n j : Nat} (h : j < n) : vp_V ((List.range n).map f) j = f j := by
  unfold vp_V
  rw [List.getD_eq_getElem?_getD, List.getElem?_map, List.getElem?_range h]
  rfl
section FLD
variable {p : Program} {l : Launch} {e : Env} {R : Room} {s0 : State} {m : MethodId} {args : Array Value} {below : List Frame} {meth : Method} {c : Code} {H : Heap} {locs : List Loc} {cells slots : Nat} {Q : State → Prop} {g : Gx} {y : Nat}
set_option maxHeartbeats 4000000 in
theorem snd_get (C : Cxt g y p s0 m args meth c) {pc i q k r : Nat} (hd : decode (cd y) pc = .ok (.getfield i, 3)) (hq : q < 9) (hk : k < CNF q) (h1 : (CT q k).1 = CN q) (hw : Jvm.Cond.fieldLink (CN (ow y)) i (CT q k).1 (CT q k).2.1 (CT q k).2.2.1 ∈ gdW) {st3 : List Vl} {a : HI} {b : HR} {s : SH} (hkd : kd s r = q) (hR : RelM g a b s H) {lsC : Array Slot} (K : W p l e R s0 m args below meth c H locs cells slots Q (F0 m (pc + 3) lsC (fldV g a b q r k :: st3.map (cv g)))) : W p l e R s0 m args below meth c H locs cells slots Q (F0 m pc lsC ((vR r :: st3).map (cv g))) := by
  obtain ⟨hexec, hb, -, -, hown, hts, hKK, -, -, hge, heq⟩ := C
  have hr := okK_rng hR.2.2.2.1 (r := r) (by omega)
  rw [List.map_cons, show cv g (vR r) = cvR g r from rfl, cvR_ne (by omega)]
  refine va_get (C := CN q) (T := CT q) (N := CNF q) (ci := q) hexec hb hts (lay_in hq) hown hKK.1 hR.2.2.1 (r - 5) ((wsE_at hr.1 hr.2).trans (by rw [cel_O (by omega), hkd])) (vw_at hq) k hk (hts _ hw) (fun _ h => h) (v := fldV g a b q r k) ?_ hd K
  rw [List.getElem?_map, List.getElem?_range hk]
  rfl
set_option maxHeartbeats 4000000 in
theorem snd_put (C : Cxt g y p s0 m args meth c) {pc i q k r : Nat} (hd : decode (cd y) pc = .ok (.putfield i, 3)) (hq : q < 9) (hk : k < CNF q) (h1 : (CT q k).1 = CN q) (hw : Jvm.Cond.fieldLink (CN (ow y)) i (CT q k).1 (CT q k).2.1 (CT q k).2.2.1 ∈ gdW) {st3 : List Vl} {a a' : HI} {b b' : HR} {s : SH} (hkd : kd s r = q) (hfin : (CT q k).2.2.2 = false ∨ (q = ow y ∧ (nm y).name = "<init>")) (hR : RelM g a b s H) (hS : va_S (aA g) s0.heap H locs) (ha : ∀ z, z ≠ r → a' z = a z) (hb' : ∀ z, z ≠ r → b' z = b z) (hok : okK s a' b') (hoth : ∀ j, j < CNF q → j ≠ k → fldV g a' b' q r j = fldV g a b q r j) {lsC : Array Slot} (K : ∀ (H1 : Heap) (locs1 : List Loc), RelM g a' b' s H1 → va_S (aA g) s0.heap H1 locs1 → W p l e R s0 m args below meth c H1 locs1 cells slots Q (F0 m (pc + 3) lsC (st3.map (cv g)))) : W p l e R s0 m args below meth c H locs cells slots Q (F0 m pc lsC (fldV g a' b' q r k :: (vR r :: st3).map (cv g))) := by
  obtain ⟨hexec, hb, -, -, hown, hts, hKK, hname, -, hge, heq⟩ := C
  have hr := okK_rng hR.2.2.2.1 (r := r) (by omega)
  rw [List.map_cons, show cv g (vR r) = cvR g r from rfl, cvR_ne (by omega)]
  have hin := lay_in hq
  have hap := va_apart (D := gD g) (own := CN q) (ci := q) hts hin (CF q) (fun k hk => (ty_ok hq hk).1) (fun x hx z hz hne => (ty_ok hq hx).2.2.2 z hz hne) hKK.1 (vw_at hq)
  obtain ⟨r1, e1, cell, q1, q2, q3, q4⟩ := by
    have := hR.at (r := r) (by omega)
    rw [cel_O (by omega), hkd] at this
    exact this
  have er : r1 = (CN q, CT q, CNF q) := Option.some.inj (e1.symm.trans (vw_at hq))
  subst er
  obtain ⟨hSl, hfc, kC, hkC, hkind⟩ := hKK.1.1 q _ (vw_at hq)
  obtain ⟨cf, kf, fi, f, hi, hsl⟩ := hSl k hk
  have hlay := hts _ (hin _ (u_in_lay hk))
  have hst := (u_facts hfc hkC (u_lays hts hin hk) hi).1
  have hd0 := (ty_ok hq hk).1
  obtain ⟨hn, hfit⟩ := fits_fld (g := g) (a := a') (b := b') (r := r) hq hk
  have fin : ∀ (H1 : Heap), H1[adr g r]? = some (cell.setSlot f.slot (fldV g a' b' q r k)) → H1.size = H.size → (∀ z : Nat, z ≠ adr g r → H1[z]? = H[z]?) → W p l e R s0 m args below meth c H1 (locs ++ [⟨adr g r, f.slot⟩]) cells slots Q (F0 m (pc + 3) lsC (st3.map (cv g))) := by
    intro H1 w1 w2 w3
    refine K H1 _ (RelM.wr hR hr ha hb' hok ?_ w2 w3) (hS.put w2 w3 (by unfold aA; rw [adr_new hr.1]; omega))
    rw [cel_O (by omega), hkd]
    rw [hsl] at w1
    refine ⟨_, vw_at hq, t_OB.to (V := updV (vp_V ((List.range (CNF q)).map (fun k => fldV g a b q r k))) k (fldV g a' b' q r k)) ⟨_, w1, q2, q3, t_set q4 hap hk _⟩ (fun j hj => ?_)⟩
    rw [vpV_fld hj]
    unfold updV
    by_cases hjk : j = k
    · rw [if_pos hjk, hjk]
    · rw [if_neg hjk, vpV_fld hj, hoth j hj hjk]
  by_cases hF : (CT q k).2.2.2 = false
  · unfold u_lay at hlay
    rw [if_neg (by rw [hF]; decide)] at hlay
    have h6 := u_store hfc hkC hkind hlay hi hd0 hn hfit
    exact W.putK hexec hb (f := f) ⟨hown, hts _ hw, ⟨_, _, _, hi⟩, hst⟩ (by rw [q2]; exact h6) q1 q3 (by rw [hsl]; exact k2_hasslot (q4 k hk)) rfl rfl hd (fun H1 w1 w2 w3 => fin H1 w1 w2 w3)
  · unfold u_lay at hlay
    have hF2 : (CT q k).2.2.2 = true := by simpa using hF
    rw [if_pos hF2] at hlay
    obtain ⟨hy1, hy2⟩ := hfin.resolve_left hF
    have hcf : m.cls = cf := by
      obtain ⟨_, _, c', _, _, _, -, -, hf', -, -, -, hown2, -⟩ := Cond.laysFinal_spec hlay
      have e3 : c' = cf := by have := hi.symm.trans hf'; simp at this; exact this.1.symm
      rw [h1, hy1] at hown2
      rw [← e3]; exact Option.some.inj (hown.symm.trans hown2)
    have h6 := u_fits hfc hkC hkind (Or.inr hlay) hi hd0 hn hfit
    exact W.putFinK hexec hb hown (hts _ hw) hi hst hcf (by rw [hname hy2, hy2]) (by rw [q2]; exact h6) q1 q3 (by rw [hsl]; exact k2_hasslot (q4 k hk)) rfl rfl hd (fun H1 w1 w2 w3 => fin H1 w1 w2 w3)
set_option maxHeartbeats 4000000 in
theorem snd_aast (C : Cxt g y p s0 m args meth c) {pc : Nat} (hd : decode (cd y) pc = .ok (.aastore, 1)) {r v : Nat} {i : Int} {st3 : List Vl} {a : HI} {b : HR} {s : SH} (hk : kd s r = 14 ∧ (v = 0 ∨ kd s v = 6) ∨ kd s r = 15 ∧ (v = 0 ∨ kd s v = 0)) (h0 : 0 ≤ i) (h1 : i < ln s r) (hR : RelM g a b s H) (hS : va_S (aA g) s0.heap H locs) {lsC : Array Slot} (K : ∀ (H1 : Heap) (locs1 : List Loc), RelM g a (wR b r i v) s H1 → va_S (aA g) s0.heap H1 locs1 → W p l e R s0 m args below meth c H1 locs1 cells slots Q (F0 m (pc + 1) lsC (st3.map (cv g)))) : W p l e R s0 m args below meth c H locs cells slots Q (F0 m pc lsC ((vR v :: vI i :: vR r :: st3).map (cv g))) := by
  obtain ⟨hexec, hb, -, -, -, -, hKK, -, -, hge, heq⟩ := C
  have hln := hR.2.2.2.1.2.2.2.2.2.1 r
  have hiR : InR i := by omega
  have hcl := ofI_cl hiR
  have hin : vp_in (Int32.ofInt i) (ln s r).toNat := ofI_in h0 (toNat_lt h0 h1) (by omega)
  have hkd : 14 ≤ kd s r ∧ kd s r ≤ 15 := by omega
  have hr := okK_rng hR.2.2.2.1 (r := r) (by omega)
  rw [List.map_cons, List.map_cons, List.map_cons, show cv g (vR r) = cvR g r from rfl, show cv g (vR v) = cvR g v from rfl, cvR_ne (r := r) (by omega)]
  have hcell := hR.at (r := r) (by omega)
  rw [cel_Q hkd.1] at hcell
  have hcell : H[adr g r]? = some (vp_cell (gA g (kd s r)) ((ln s r).toNat, .inr (.inr (.inr (.inr (fun j => adO g (b r j))))))) := hcell
  obtain ⟨hARR, hRA⟩ := hKK.1.2 _ _ (tyS_at (k := kd s r) (g := g) (by omega) (by omega))
  obtain ⟨z, hz, hz9⟩ : ∃ z, tyK (kd s r) = .object (CN z) ∧ z < 9 ∧ (v = 0 ∨ kd s v = z) := by
    rcases hk with ⟨k1, k2⟩ | ⟨k1, k2⟩
    · exact ⟨6, by rw [k1]; rfl, by omega, k2⟩
    · exact ⟨0, by rw [k1]; rfl, by omega, k2⟩
  have fin : ∀ (H1 : Heap), H1[adr g r]? = some ((vp_cell (gA g (kd s r)) ((ln s r).toNat, .inr (.inr (.inr (.inr (fun j => adO g (b r j))))))).setSlot (Int32.ofInt i).toNatClampNeg (cvR g v)) → H1.size = H.size → (∀ q : Nat, q ≠ adr g r → H1[q]? = H[q]?) → W p l e R s0 m args below meth c H1 (locs ++ [⟨adr g r, (Int32.ofInt i).toNatClampNeg⟩]) cells slots Q (F0 m (pc + 1) lsC (st3.map (cv g))) := by
    intro H1 e z oq
    refine K H1 _ (RelM.wr (a' := a) (b' := wR b r i v) hR hr (fun q _ => rfl) (fun q hq => wR_ne hq) hR.2.2.2.1 ?_ z oq) (hS.put z oq (by unfold aA; rw [adr_new hr.1]; omega))
    rw [cel_Q hkd.1]
    show H1[adr g r]? = some (vp_cell _ _)
    rw [e, vp_cell_q, vp_cell_q, arrV_store]
    congr 2
    funext j
    rw [hcl]
    unfold updV wR
    by_cases hq : j = i.toNat
    · rw [if_pos hq, if_pos ⟨rfl, by omega⟩]; rfl
    · rw [if_neg hq, if_neg (fun z => hq (by omega))]
  have hin2 : ∀ (f : Nat → Option Nat), ¬ (Int32.ofInt i < 0 ∨ (vp_cell (gA g (kd s r)) ((ln s r).toNat, .inr (.inr (.inr (.inr f))))).slots.size ≤ (Int32.ofInt i).toNatClampNeg) := by
    intro f
    rw [vp_cell_q, arrV_size]
    exact hin
  rw [show (gA g (kd s r), tyK (kd s r)).2 = tyK (kd s r) from rfl, hz] at hARR hRA
  by_cases hv0 : v = 0
  · subst hv0
    rw [cvR_0]
    exact va_WaastN hexec hb hcell (hARR _ _) (fun q => by cases q) (hin2 _) rfl rfl hd (fun H1 e z oq => fin H1 e z oq)
  · have hkv := hz9.2.resolve_left hv0
    rw [cvR_ne hv0] at fin ⊢
    obtain ⟨r', hr', cellV, g1, g2, g3, -⟩ := by
      have := hR.at (r := v) (by omega)
      rw [cel_O (by omega), hkv] at this
      exact this
    have er : r' = (CN z, CT z, CNF z) := Option.some.inj (hr'.symm.trans (vw_at hz9.1))
    subst er
    have hcls := (hKK.1.1 z _ (vw_at hz9.1)).2
    obtain ⟨kA, comp, k1, k2, k3, -⟩ := hRA
    have hcomp : comp = (gD g).1 z := Option.some.inj (k3.symm.trans hcls.1)
    subst hcomp
    obtain ⟨kC, hkC, -⟩ := hcls.2
    exact W.aast hexec hb hcell (fun q h => by cases h) (fun h => by cases h) k1 k2 rfl hkC ⟨fun q => (hin2 (fun j => adO g (b r j))) (Or.inl q), Nat.not_le.mp (fun q => (hin2 (fun j => adO g (b r j))) (Or.inr q))⟩ g1 (fun q h => by rw [g3] at h; cases h) (by rw [g2]; exact hkC) (by rw [g2]; exact va_assign hcls) rfl rfl hd (fun H1 e z oq => fin H1 e z oq)
end FLD
