/-! ===== what holds between the calls ===== -/
def PB (N : Int) (w : Int → Int) (L : Nat) (σ : RW) (z : Int) (ρ : Int → RW) (sv : Int → Int) (ς : Int → RW) (a : HI) (b : HR) (s : SH) : Prop := (CS N a b s σ z ρ sv ς) ∧ (RdS s b) ∧ (TbS a s) ∧ (∀ j, 0 ≤ a 37 j ∧ a 37 j ≤ 63) ∧ (0 ≤ a 34 1 ∧ a 34 1 ≤ 80) ∧ ((∀ r, nx s + 5 ≤ r → kd s r = 99) ∧ 157 ≤ nx s + 5) ∧ ((nx s : Int) ≤ 1000 + 3 * N ∧ (ns s : Int) ≤ 100000 + 1100 * N) ∧ (a 1 = w ∧ kd s 1 = 20 ∧ ln s 1 = L)
theorem PB.cls {N : Int} {w : Int → Int} {L : Nat} {σ : RW} {z : Int} {ρ : Int → RW} {sv : Int → Int} {ς : Int → RW} {a : HI} {b : HR} {s : SH} (h : PB N w L σ z ρ sv ς a b s) : CS N a b s σ z ρ sv ς := h.1
theorem PB.rd {N : Int} {w : Int → Int} {L : Nat} {σ : RW} {z : Int} {ρ : Int → RW} {sv : Int → Int} {ς : Int → RW} {a : HI} {b : HR} {s : SH} (h : PB N w L σ z ρ sv ς a b s) : RdS s b := h.2.1
theorem PB.tb {N : Int} {w : Int → Int} {L : Nat} {σ : RW} {z : Int} {ρ : Int → RW} {sv : Int → Int} {ς : Int → RW} {a : HI} {b : HR} {s : SH} (h : PB N w L σ z ρ sv ς a b s) : TbS a s := h.2.2.1
theorem PB.buf {N : Int} {w : Int → Int} {L : Nat} {σ : RW} {z : Int} {ρ : Int → RW} {sv : Int → Int} {ς : Int → RW} {a : HI} {b : HR} {s : SH} (h : PB N w L σ z ρ sv ς a b s) : ∀ j, 0 ≤ a 37 j ∧ a 37 j ≤ 63 := h.2.2.2.1
theorem PB.pad {N : Int} {w : Int → Int} {L : Nat} {σ : RW} {z : Int} {ρ : Int → RW} {sv : Int → Int} {ς : Int → RW} {a : HI} {b : HR} {s : SH} (h : PB N w L σ z ρ sv ς a b s) : 0 ≤ a 34 1 ∧ a 34 1 ≤ 80 := h.2.2.2.2.1
theorem PB.liv {N : Int} {w : Int → Int} {L : Nat} {σ : RW} {z : Int} {ρ : Int → RW} {sv : Int → Int} {ς : Int → RW} {a : HI} {b : HR} {s : SH} (h : PB N w L σ z ρ sv ς a b s) : (∀ r, nx s + 5 ≤ r → kd s r = 99) ∧ 157 ≤ nx s + 5 := h.2.2.2.2.2.1
theorem PB.rom {N : Int} {w : Int → Int} {L : Nat} {σ : RW} {z : Int} {ρ : Int → RW} {sv : Int → Int} {ς : Int → RW} {a : HI} {b : HR} {s : SH} (h : PB N w L σ z ρ sv ς a b s) : (nx s : Int) ≤ 1000 + 3 * N ∧ (ns s : Int) ≤ 100000 + 1100 * N := h.2.2.2.2.2.2.1
theorem PB.scr {N : Int} {w : Int → Int} {L : Nat} {σ : RW} {z : Int} {ρ : Int → RW} {sv : Int → Int} {ς : Int → RW} {a : HI} {b : HR} {s : SH} (h : PB N w L σ z ρ sv ς a b s) : a 1 = w ∧ kd s 1 = 20 ∧ ln s 1 = L := h.2.2.2.2.2.2.2
theorem PB.mk {N : Int} {w : Int → Int} {L : Nat} {σ : RW} {z : Int} {ρ : Int → RW} {sv : Int → Int} {ς : Int → RW} {a : HI} {b : HR} {s : SH} (cls_ : CS N a b s σ z ρ sv ς) (rd_ : RdS s b) (tb_ : TbS a s) (buf_ : ∀ j, 0 ≤ a 37 j ∧ a 37 j ≤ 63) (pad_ : 0 ≤ a 34 1 ∧ a 34 1 ≤ 80) (liv_ : (∀ r, nx s + 5 ≤ r → kd s r = 99) ∧ 157 ≤ nx s + 5) (rom_ : (nx s : Int) ≤ 1000 + 3 * N ∧ (ns s : Int) ≤ 100000 + 1100 * N) (scr_ : a 1 = w ∧ kd s 1 = 20 ∧ ln s 1 = L) : PB N w L σ z ρ sv ς a b s := ⟨cls_, rd_, tb_, buf_, pad_, liv_, rom_, scr_⟩
/-- a show that is not told has not run; a group that has seen its show has been in a run -/
def PQ (σ : RW) : Prop := (∀ h, 0 ≤ h → h < 4 → σ (129 + 92 * h) = 0 → σ (133 + 92 * h) = 0) ∧ ∀ g, 0 ≤ g → g < 20 → σ (32 + 5 * g) = 0 ∨ 0 < σ (33 + 5 * g)
theorem agr_rf {s : SH} : Agr s s := fun _ _ => ⟨rfl, rfl⟩
theorem PQ.cg {σ τ : RW} (h : PQ σ) (e : ∀ j, 29 ≤ j → τ j = σ j) : PQ τ := by
  refine ⟨fun k h0 h1 h2 => ?_, fun g h0 h1 => ?_⟩
  · rw [e _ (by omega)] at h2 ⊢; exact h.1 k h0 h1 h2
  · rw [e _ (by omega), e _ (by omega)]; exact h.2 g h0 h1
theorem PQ.up {σ : RW} {k v : Int} (h : PQ σ) (hk : k < 29) : PQ (up1 σ k v) := h.cg (fun j hj => up1_ne (by omega))
theorem PQ.gro {σ : RW} {p h t : Int} (H : PQ σ) (h7 : 0 ≤ σ 7 ∧ σ 7 < 20) : PQ (groQ σ p h t) := by
  unfold groQ
  generalize σ 7 = n at *
  refine ⟨fun k h0 h1 h2 => ?_, fun g h0 h1 => ?_⟩
  · rw [up1_ne (by omega), up1_ne (by omega), up1_ne (by omega), up1_ne (by omega), up1_ne (by omega), up1_ne (by omega)] at h2 ⊢
    exact H.1 k h0 h1 h2
  · by_cases c : g = n
    · subst c
      left
      rw [up1_ne (by omega), up1_ne (by omega), up1_at]
    · rw [up1_ne (by omega), up1_ne (by omega), up1_ne (by omega), up1_ne (by omega), up1_ne (by omega), up1_ne (by omega), up1_ne (by omega), up1_ne (by omega), up1_ne (by omega), up1_ne (by omega), up1_ne (by omega), up1_ne (by omega)]
      exact H.2 g h0 h1
theorem PQ.run {σ : RW} {h x nw : Int} {fo : Bool} {N T : Int} (H : PQ σ) (hb : Bnd N T σ) (hh : 0 ≤ h ∧ h < 4) (ht : σ (129 + 92 * h) ≠ 0) : PQ (runQ σ h x nw fo) := by
  refine ⟨fun k h0 h1 h2 => ?_, fun g h0 h1 => ?_⟩
  · have e := rq_sh (σ := σ) (h := h) (x := x) (nw := nw) (fo := fo) (k := k) (j := 0) h0 h1 (by omega) (by omega) hh
    rw [Int.add_zero] at e
    rw [e] at h2
    rw [rq_ra h0 h1, if_neg (fun c => ht (by rw [← c]; exact h2))]
    exact H.1 k h0 h1 h2
  · have h3 := H.2 g h0 h1
    have h4 := hb.win g h0 h1
    rw [rq_se h0 h1, rq_wi h0 h1]
    by_cases c : g < nG σ ∧ bt x g = true
    · right; rw [if_pos c]; omega
    · rw [if_neg c, if_neg (fun v => c ⟨v.1, v.2.1⟩)]; exact h3
theorem PQ.tel {σ T : RW} {h len : Int} {x : Nat → Int} (H : PQ σ) (hh : 0 ≤ h ∧ h < 4) (hT : 0 < T 0) : PQ (telQ σ h T len x) := by
  refine ⟨fun k h0 h1 h2 => ?_, fun g h0 h1 => ?_⟩
  · by_cases c : k = h
    · subst c
      have e := tel_T (σ := σ) (T := T) (h := k) (len := len) (x := x) (k := 0) ⟨by omega, by omega⟩ (by omega)
      rw [Int.add_zero] at e
      omega
    · rw [tel_lo (by omega)] at h2 ⊢
      exact H.1 k h0 h1 h2
  · rw [tel_lo (by omega), tel_lo (by omega)]; exact H.2 g h0 h1
section PBX
variable {N : Int} {w : Int → Int} {L : Nat} {σ : RW} {z : Int} {ρ : Int → RW} {sv : Int → Int} {ς : Int → RW} {a : HI} {b : HR} {s : SH}
theorem PB.mono {N' : Int} (B : PB N w L σ z ρ sv ς a b s) (h : N ≤ N') (h2 : N' ≤ 2000) : PB N' w L σ z ρ sv ς a b s := PB.mk (B.cls.mono h h2) B.rd B.tb B.buf B.pad B.liv (by have := B.rom; omega) B.scr
theorem PB.chg {N' : Int} {a1 : HI} {b1 : HR} {σ' : RW} {z' : Int} {ρ' : Int → RW} (B : PB N w L σ z ρ sv ς a b s) (hC : CS N' a1 b1 s σ' z' ρ' sv ς) (h : N ≤ N') (fa : FrX a a1) (fb : FrX b b1) : PB N' w L σ' z' ρ' sv ς a1 b1 s :=
  PB.mk hC (B.rd.ks agr_rf ⟨fb 36 (by omega), fb 34 (by omega)⟩) (B.tb.ks agr_rf ⟨fa 3 (by omega), fa 4 (by omega)⟩) (by rw [fa 37 (by omega)]; exact B.buf) (by rw [fa 34 (by omega)]; exact B.pad) B.liv (by have := B.rom; omega) (by rw [fa 1 (by omega)]; exact B.scr)
/-- what a change comes to -/
def DoR (N : Int) (w : Int → Int) (L : Nat) (σ : RW) (sv : Int → Int) (ς : Int → RW) (y : Nat) (args : List Vl) (a : HI) (b : HR) (s : SH) : Prop := ∃ (r : Int) (σ' : RW) (z' : Int) (ρ' : Int → RW) (a' : HI) (b' : HR) (s' : SH), Mn y args a b s = some ([vI r], a', b', s') ∧ -6 ≤ r ∧ σ 8 ≤ σ' 8 ∧ PB (N + 1) w L σ' z' ρ' sv ς a' b' s' ∧ PQ σ'
theorem dor_ask {y : Nat} {args : List Vl} {r : Int} (B : PB N w L σ z ρ sv ς a b s) (Q : PQ σ) (hN : N + 1 ≤ 1000) (hc : Mn y args a b s = some ([vI r], a, b, s)) (hr : -6 ≤ r) : DoR N w L σ sv ς y args a b s := ⟨r, σ, z, ρ, a, b, s, hc, hr, Int.le_refl _, B.mono (by omega) (by omega), Q⟩
theorem dor_chg {y : Nat} {args : List Vl} {r : Int} {τ : RW} (B : PB N w L σ z ρ sv ς a b s) (hc : ∃ a1 b1, Mn y args a b s = some ([vI r], a1, b1, s) ∧ CS (N + 1) a1 b1 s τ (recZ z) (recR z ρ σ) sv ς ∧ FrX a a1 ∧ FrX b b1) (hr : -6 ≤ r) (h8 : σ 8 ≤ τ 8) (Q : PQ τ) : DoR N w L σ sv ς y args a b s := by
  obtain ⟨a1, b1, e1, hC, fa, fb⟩ := hc
  exact ⟨r, τ, _, _, a1, b1, s, e1, hr, h8, B.chg hC (by omega) fa fb, Q⟩
theorem x_set {k v : Int} (B : PB N w L σ z ρ sv ς a b s) (Q : PQ σ) (hN : N + 1 ≤ 1000) : DoR N w L σ sv ς 53 [vR 5, vI k, vI v] a b s := by
  obtain ⟨c1, c2⟩ := c_set (k := k) (v := v) B.cls B.tb (by omega)
  have hb := B.cls.dom.2.2
  by_cases q : setQ k v
  · have hk := q.1
    have hr : -6 ≤ σ k := by
      have e : k = 0 ∨ k = 1 ∨ k = 2 ∨ k = 3 ∨ k = 4 ∨ k = 5 := by omega
      rcases e with rfl | rfl | rfl | rfl | rfl | rfl
      · have := hb.lif; omega
      · have := hb.fog; omega
      · have := hb.dim; omega
      · have := hb.sea; omega
      · have := hb.pri; omega
      · have := hb.wai; omega
    exact dor_chg B (c2 q) hr (by rw [up1_ne (by omega)]; exact Int.le_refl _) (Q.up (by omega))
  · exact dor_ask B Q hN (c1 q) (by omega)
theorem x_lamp {l : Int} (B : PB N w L σ z ρ sv ς a b s) (Q : PQ σ) (hN : N + 1 ≤ 1000) : DoR N w L σ sv ς 56 [vR 5, vI l] a b s := by
  obtain ⟨c1, c2⟩ := c_lamp (l := l) B.cls (by omega)
  have hb := B.cls.dom.2.2
  by_cases q : 0 ≤ l ∧ l ≤ 5
  · have := hb.bur l q.1 (by omega)
    exact dor_chg B (c2 q) (by omega) (by rw [up1_ne (by omega), up1_ne (by omega)]; exact Int.le_refl _) ((Q.up (by omega)).up (by omega))
  · exact dor_ask B Q hN (c1 q) (by omega)
theorem x_lens {l : Int} (B : PB N w L σ z ρ sv ς a b s) (Q : PQ σ) (hN : N + 1 ≤ 1000) : DoR N w L σ sv ς 57 [vR 5, vI l] a b s := by
  obtain ⟨c1, c2⟩ := c_lens (l := l) B.cls (by omega)
  have hb := B.cls.dom.2.2
  by_cases q : 0 ≤ l ∧ l ≤ 5
  · have := hb.haz l q.1 (by omega)
    exact dor_chg B (c2 q) (by omega) (by rw [up1_ne (by omega)]; exact Int.le_refl _) (Q.up (by omega))
  · exact dor_ask B Q hN (c1 q) (by omega)
theorem x_group {p h t : Int} (B : PB N w L σ z ρ sv ς a b s) (Q : PQ σ) (hN : N + 1 ≤ 1000) : DoR N w L σ sv ς 55 [vR 5, vI p, vI h, vI t] a b s := by
  obtain ⟨c1, c2, c3, c4⟩ := c_group (p := p) (h := h) (t := t) B.cls (by omega)
  have h7 := B.cls.dom.2.2.siz
  by_cases q : 0 ≤ h ∧ h ≤ 3
  · by_cases q2 : (1 ≤ p ∧ p ≤ 60) ∧ 0 ≤ t ∧ t ≤ 9999
    · by_cases q3 : σ 7 = 20
      · exact dor_ask B Q hN (c3 q q2 q3) (by omega)
      · refine dor_chg B (c4 q q2 q3) (by omega) ?_ (Q.gro (by omega))
        unfold groQ
        rw [up1_ne (by omega), up1_ne (by omega), up1_ne (by omega), up1_ne (by omega), up1_ne (by omega), up1_ne (by omega)]
        exact Int.le_refl _
    · exact dor_ask B Q hN (c2 q q2) (by omega)
  · exact dor_ask B Q hN (c1 q) (by omega)
theorem new_in {σ : RW} {N T x : Int} (hb : Bnd N T σ) : 0 ≤ smI (newS x (wnF σ) (peF σ)) (nG σ) ∧ smI (newS x (wnF σ) (peF σ)) (nG σ) ≤ 1200 := by
  have h7 := hb.siz
  have := smI_bnd (f := newS x (wnF σ) (peF σ)) (c := 60) (by omega) (n := nG σ) (fun i hi => by
    have h1 := hb.per i (by omega) (by unfold nG at hi; omega)
    have h2 : peF σ i = σ (29 + 5 * i) := rfl
    unfold newS
    split <;> omega)
  have h8 : (nG σ : Int) ≤ 20 := by unfold nG; omega
  omega
theorem per_in {σ : RW} {N T x : Int} (hb : Bnd N T σ) : 0 ≤ smI (inS x (peF σ)) (nG σ) ∧ smI (inS x (peF σ)) (nG σ) ≤ 1200 := by
  have h7 := hb.siz
  have := smI_bnd (f := inS x (peF σ)) (c := 60) (by omega) (n := nG σ) (fun i hi => by
    have h1 := hb.per i (by omega) (by unfold nG at hi; omega)
    have h2 : peF σ i = σ (29 + 5 * i) := rfl
    unfold inS
    split <;> omega)
  have h8 : (nG σ : Int) ≤ 20 := by unfold nG; omega
  omega
theorem step_8 {σ : RW} {N T : Int} (hb : Bnd N T σ) : σ 8 ≤ stepQ σ 8 := by
  unfold stepQ
  rw [rq_8]
  have h1 := new_in (x := grpP σ (fstP σ)) hb
  have h2 := hb.pri
  have := Int.mul_nonneg h1.1 h2.1
  omega
theorem step_Q {σ : RW} {N T : Int} (hb : Bnd N T σ) (Q : PQ σ) (h : rsnP σ = 0) : PQ (stepQ σ) := by
  obtain ⟨h1, h2⟩ := rsn_ok (σ := σ) (Or.inl h)
  rcases fstP_in hb with w | ⟨w1, w2, w3, -⟩
  · exact absurd w h1
  · have h3 := hb.whi (fstP σ) w1 w3
    exact Q.run hb ⟨h3.1, by omega⟩ h2
theorem x_run (B : PB N w L σ z ρ sv ς a b s) (Q : PQ σ) (hN : N + 1 ≤ 1000) : DoR N w L σ sv ς 58 [vR 5] a b s := by
  obtain ⟨c1, c2⟩ := c_run B.cls (by omega)
  have hb := B.cls.dom.2.2
  by_cases q : rsnP σ = 0 ∧ endP σ ≤ 99999
  · have := per_in (x := grpP σ (fstP σ)) hb
    exact dor_chg B (c2 q) (by unfold perQ; omega) (step_8 hb) (step_Q hb Q q.1)
  · exact dor_ask B Q hN (c1 q) (by omega)
end PBX
