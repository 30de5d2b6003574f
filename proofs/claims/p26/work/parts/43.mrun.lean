/-! ===== the model: a run as a whole, what stays bounded ===== -/
theorem Bnd.nowT {N T T' nw : Int} {σ : RW} (hb : Bnd N T σ) (h : 0 ≤ nw ∧ nw ≤ T') (h2 : T ≤ T' ∧ T' ≤ 1000000) : Bnd N T' (up1 σ 6 nw) := by
  have e : ∀ j, j ≠ 6 → up1 σ 6 nw j = σ j := fun j hj => up1_ne hj
  refine Bnd.mk ?_ ?_ ?_ ?_ ?_ ?_ ?_ ?_ ?_ ?_ ?_ (fun l h0 h1 => ?_) (fun l h0 h1 => ?_) (fun l h0 h1 => ?_) (fun l h0 h1 => ?_) (fun l h0 h1 => ?_) (fun l h0 h1 => ?_) (fun l h0 h1 => ?_) (fun l h0 h1 => ?_) (fun l h0 h1 => ?_) hb.cn ⟨by omega, h2.2⟩
  · rw [e _ (by omega)]; exact hb.lif
  · rw [e _ (by omega)]; exact hb.fog
  · rw [e _ (by omega)]; exact hb.dim
  · rw [e _ (by omega)]; exact hb.sea
  · rw [e _ (by omega)]; exact hb.pri
  · rw [e _ (by omega)]; exact hb.wai
  · rw [up1_at]; exact h
  · rw [e _ (by omega)]; exact hb.siz
  · rw [e _ (by omega)]; exact hb.coi
  · rw [e _ (by omega)]; exact hb.run
  · rw [e _ (by omega)]; exact hb.fgy
  · rw [e _ (by omega)]; exact hb.bur l h0 h1
  · rw [e _ (by omega)]; exact hb.haz l h0 h1
  · rw [e _ (by omega)]; exact hb.chg l h0 h1
  · rw [e _ (by omega)]; exact hb.per l h0 h1
  · rw [e _ (by omega)]; exact hb.whi l h0 h1
  · rw [e _ (by omega)]; have := hb.tim l h0 h1; omega
  · rw [e _ (by omega)]; exact hb.see l h0 h1
  · rw [e _ (by omega)]; exact hb.win l h0 h1
  · rw [e _ (by omega)]; exact hb.ran l h0 h1
theorem ShB.nowT {nw : Int} {σ : RW} (hs : ShB σ) : ShB (up1 σ 6 nw) := by
  have e : ∀ j, j ≠ 6 → up1 σ 6 nw j = σ j := fun j hj => up1_ne hj
  refine ShB.mk (fun h h0 h1 => ?_) (fun h k h0 h1 k0 k1 => ?_) (fun h h0 h1 ht => ?_)
  · rw [e _ (by omega)]; exact hs.mi h h0 h1
  · rw [e _ (by omega)]; exact hs.li h k h0 h1 k0 k1
  · rw [e _ (by omega)] at ht
    obtain ⟨k, k0, k1, k2⟩ := hs.op h h0 h1 ht
    exact ⟨k, k0, k1, by rw [e _ (by omega)]; exact k2⟩
theorem Bnd.runT {N T T' nw h x : Int} {fo : Bool} {σ : RW} (hb : Bnd N T σ) (hs : ShB σ) (hN : N + 1 ≤ 2000) (hh : 0 ≤ h ∧ h < 4) (hn : 0 ≤ nw ∧ nw ≤ T') (h2 : T ≤ T' ∧ T' ≤ 1000000) : Bnd (N + 1) T' (runQ σ h x nw fo) := by
  have hG : nG σ ≤ 20 := by have := hb.siz; unfold nG; omega
  have s1 := smI_bnd (f := newS x (wnF σ) (peF σ)) (c := 60) (by omega) (n := nG σ) (fun i hi => by have := hb.per i (by omega) (by omega); unfold newS peF; split <;> omega)
  have s3 : 0 ≤ smI (newS x (wnF σ) (peF σ)) (nG σ) * σ 4 := Int.mul_nonneg s1.1 hb.pri.1
  have s4 : smI (newS x (wnF σ) (peF σ)) (nG σ) * σ 4 ≤ 1200 * 99 := Int.mul_le_mul (by omega) hb.pri.2 hb.pri.1 (by omega)
  have hc := hb.cn
  refine Bnd.mk ?_ ?_ ?_ ?_ ?_ ?_ ?_ ?_ ?_ ?_ ?_ (fun l h0 h1 => ?_) (fun l h0 h1 => ?_) (fun l h0 h1 => ?_) (fun l h0 h1 => ?_) (fun l h0 h1 => ?_) (fun l h0 h1 => ?_) (fun l h0 h1 => ?_) (fun l h0 h1 => ?_) (fun l h0 h1 => ?_) ⟨by omega, hN⟩ ⟨by omega, h2.2⟩
  · rw [rq_st (by omega) (by omega)]; exact hb.lif
  · rw [rq_st (by omega) (by omega)]; exact hb.fog
  · rw [rq_st (by omega) (by omega)]; exact hb.dim
  · rw [rq_st (by omega) (by omega)]; exact hb.sea
  · rw [rq_st (by omega) (by omega)]; exact hb.pri
  · rw [rq_st (by omega) (by omega)]; exact hb.wai
  · rw [rq_6]; exact hn
  · rw [rq_7]; exact hb.siz
  · rw [rq_8]; have := hb.coi; omega
  · rw [rq_9]; have := hb.run; omega
  · rw [rq_10]; have := hb.fgy; split <;> omega
  · rw [rq_bu h0 h1]; have := hb.bur l h0 h1; have := hs.li h l hh.1 hh.2 h0 h1; unfold liF; omega
  · have e1 := hb.haz l h0 h1
    have e2 := hs.li h l hh.1 hh.2 h0 h1
    have e3 : 0 ≤ σ 1 * liF σ h l := Int.mul_nonneg hb.fog.1 e2.1
    rw [rq_hz h0 h1]; omega
  · rw [rq_ch h0 h1]; have := hb.chg l h0 h1; omega
  · rw [rq_pe h0 h1]; exact hb.per l h0 h1
  · rw [rq_wh h0 h1]; exact hb.whi l h0 h1
  · rw [rq_ti h0 h1]; have := hb.tim l h0 h1; have := hb.wai; split <;> omega
  · rw [rq_se h0 h1]; have := hb.see l h0 h1; split <;> omega
  · rw [rq_wi h0 h1]; have := hb.win l h0 h1; split <;> omega
  · rw [rq_ra h0 h1]; have := hb.ran l h0 h1; split <;> omega
theorem ShB.runT {nw h x : Int} {fo : Bool} {σ : RW} (hs : ShB σ) (hh : 0 ≤ h ∧ h < 4) : ShB (runQ σ h x nw fo) := by
  have e1 : ∀ g, 0 ≤ g → g < 4 → runQ σ h x nw fo (129 + 92 * g) = σ (129 + 92 * g) := fun g h0 h1 => by
    have := rq_sh (σ := σ) (h := h) (x := x) (nw := nw) (fo := fo) (j := 0) h0 h1 (by omega) (by omega) hh
    rw [Int.add_zero] at this
    exact this
  refine ShB.mk (fun g h0 h1 => ?_) (fun g k h0 h1 k0 k1 => ?_) (fun g h0 h1 ht => ?_)
  · rw [e1 g h0 h1]; exact hs.mi g h0 h1
  · rw [rq_li h0 h1 k0 (by omega) hh]; exact hs.li g k h0 h1 k0 k1
  · rw [e1 g h0 h1] at ht
    obtain ⟨k, k0, k1, k2⟩ := hs.op g h0 h1 ht
    exact ⟨k, k0, k1, by rw [rq_li h0 h1 k0 (by omega) hh]; exact k2⟩
/-- the row in which the model's loop goes -/
def rnT (σ : RW) (h nw : Int) : RW := brnQ (up1 σ 6 nw) h 6
theorem rnT_at {σ : RW} {h nw j : Int} (e : ¬ (11 ≤ j ∧ j < 29)) (e2 : j ≠ 6) : rnT σ h nw j = σ j := by
  unfold rnT; rw [brn_at (fun w => e ⟨w.1, w.2.1⟩), up1_ne e2]
theorem rnT_6 {σ : RW} {h nw : Int} : rnT σ h nw 6 = nw := by
  unfold rnT; rw [brn_at (fun w => absurd w.1 (by omega)), up1_at]
theorem rnT_pe {σ : RW} {h nw : Int} {i : Nat} : peF (rnT σ h nw) i = peF σ i := rnT_at (by omega) (by omega)
theorem rnT_wn {σ : RW} {h nw : Int} {i : Nat} : wnF (rnT σ h nw) i = wnF σ i := rnT_at (by omega) (by omega)
theorem rnT_new {σ : RW} {h nw x : Int} {n : Nat} : smI (newS x (wnF (rnT σ h nw)) (peF (rnT σ h nw))) n = smI (newS x (wnF σ) (peF σ)) n := smI_cong (fun i _ => by unfold newS; rw [rnT_wn, rnT_pe])
theorem rnT_in {σ : RW} {h nw x : Int} {n : Nat} : smI (inS x (peF (rnT σ h nw))) n = smI (inS x (peF σ)) n := smI_cong (fun i _ => by unfold inS; rw [rnT_pe])
theorem rq_eq {σ : RW} {h nw x o : Int} {fo : Bool} (hh : 0 ≤ h ∧ h < 4) (ho : o = if fo = true then 1 else 0) : up1 (up1 (up1 (rnL (rnT σ h nw) x nw fo (nG σ)) 9 (σ 9 + 1)) 10 (σ 10 + o)) (133 + 92 * h) (σ (133 + 92 * h) + 1) = runQ σ h x nw fo := by
  funext j
  by_cases e1 : j = 133 + 92 * h
  · rw [e1, up1_at, rq_ra hh.1 hh.2, if_pos rfl]
  · rw [up1_ne e1]
    by_cases e2 : j = 10
    · rw [e2, up1_at, rq_10, ho]; cases fo <;> simp
    · rw [up1_ne e2]
      by_cases e3 : j = 9
      · rw [e3, up1_at, rq_9]
      · rw [up1_ne e3]
        by_cases e4 : j = 8
        · rw [e4, rnL_8, rq_8, rnT_new, rnT_at (by omega) (by omega), rnT_at (by omega) (by omega)]
        · by_cases e5 : j = 6
          · rw [e5, rnL_lo (by omega) (by omega), rq_6, rnT_6]
          · unfold runQ
            rw [if_neg e5, if_neg e4, if_neg e3, if_neg e2]
            by_cases e6 : j < 11
            · rw [if_pos e6, rnL_lo (by omega) e4, rnT_at (by omega) e5]
            · rw [if_neg e6]
              by_cases e7 : j < 29
              · rw [if_pos e7, rnL_lo e7 e4]
                unfold rnT brnQ
                rw [if_pos ⟨by omega, e7, by omega⟩]
                have q1 : up1 σ 6 nw j = σ j := up1_ne e5
                have q2 : up1 σ 6 nw 1 = σ 1 := up1_ne (by omega)
                have q3 : liF (up1 σ 6 nw) h ((j - 11) / 3) = liF σ h ((j - 11) / 3) := up1_ne (by omega)
                rw [q1, q2, q3]
              · rw [if_neg e7]
                by_cases e8 : j < 129
                · rw [if_pos e8]
                  have q1 : rnT σ h nw j = σ j := rnT_at (by omega) e5
                  have q2 : rnT σ h nw 5 = σ 5 := rnT_at (by omega) (by omega)
                  unfold rnL
                  rw [if_neg e4, q1, q2]
                  by_cases c : (j - 29) / 5 < (nG σ : Int) ∧ bt x ((j - 29) / 5) = true
                  · rw [if_pos c, if_pos ⟨by omega, e8, c⟩]
                  · rw [if_neg c, if_neg (fun w => c w.2.2)]
                · rw [if_neg e8, if_neg e1, rnL_hi (by omega), rnT_at (by omega) e5]
/-- the row behind a run -/
def stepQ (σ : RW) : RW := runQ σ (σ (30 + 5 * fstP σ)) (grpP σ (fstP σ)) (begP σ (fstP σ) + σ (129 + 92 * σ (30 + 5 * fstP σ))) (foggyP σ (σ (30 + 5 * fstP σ)))
/-- how many persons are in it -/
def perQ (σ : RW) : Int := smI (inS (grpP σ (fstP σ)) (peF σ)) (nG σ)
section MRUN
variable {a : HI} {b : HR} {s : SH} {N T : Int}
set_option maxRecDepth 100000
end MRUN
