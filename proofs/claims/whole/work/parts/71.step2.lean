/-! ===== a call on both sides: those that keep, put and tell ===== -/
theorem cnI_cong {p q : Int → Bool} : ∀ {n : Nat}, (∀ i : Nat, i < n → p i = q i) → cnI p n = cnI q n
  | 0, _ => rfl
  | n + 1, h => by rw [cnI_s, cnI_s, cnI_cong (fun i hi => h i (by omega)), h n (by omega)]
section STEP2
variable {N : Int} {w : Int → Int} {L : Nat} {a : HI} {b : HR} {s : SH}
theorem s_undo (B : BI N w L a b s) (hN : N + 1 ≤ 1000) : Two N w L 73 127 [] a b s := by
  obtain ⟨c1, c2⟩ := c_undo B.cls
  obtain ⟨-, z0, z1⟩ := B.cls.hsz
  by_cases q : a 157 3 = 0
  · have hm := m_undo (a := a) B.mod ⟨z0, z1⟩
    rw [if_pos q] at hm
    exact two_ask B (by omega) (c1 q) hm
  · obtain ⟨a1, b1, e1, hC, fa, fb⟩ := c2 q
    have hM : MoS s b1 := B.mod.ks Agr.refl' (fb 157 (by omega))
    have f157 : a1 157 = a 157 := fa 157 (by omega)
    have f160 : a1 160 = a 160 := fa 160 (by omega)
    have hm := m_undo (a := a1) hM (by rw [f157]; exact ⟨z0, z1⟩)
    rw [f157, if_neg q] at hm
    obtain ⟨len, p1, p2, p3, p4⟩ := B.pad
    have hrom := B.rom
    refine ⟨a 157 3 - 1, a1, b1, s, _, b1, s, e1, hm, ⟨by rw [fa 1 (by omega)]; exact B.scr.1, B.scr.2.1, B.scr.2.2, hM.1⟩, ?_⟩
    exact bi_mk B (hC.mono (by omega) (by omega)) Agr.refl' (fun r hr => fa r (by omega)) (fun r hr => fb r (by omega)) (by rw [fa 37 (by omega)]; exact B.buf) ⟨len, by rw [fa 34 (by omega)]; exact p1, by rw [upR_ne (by omega), upR_at, up1_ne (by omega)]; exact p2, p3, fun k hk => by rw [fa 35 (by omega), upR_ne (by omega), upR_ne (by omega), fa 163 (by omega)]; exact p4 k hk⟩ B.liv (by omega) (fun r hr => by rw [upR_ne (by omega), upR_ne (by omega)]) (fun j j0 j1 => by rw [upR_at, rwN_in j0 j1, f160]) (by rw [upR_ne (by omega), upR_at, up1_at]) (fun k k0 k1 j j0 j1 => by rw [upR_ne (by omega), upR_ne (by omega), f160]) (fun j j0 j1 => by rw [upR_ne (by omega), upR_ne (by omega), fa 162 (by omega)]) (fun k k0 k1 _ j j0 j1 => by rw [upR_ne (by omega), upR_ne (by omega), fa 161 (by omega)])
theorem s_save {j : Int} (B : BI N w L a b s) (hN : N + 1 ≤ 1000) : Two N w L 74 128 [vI j] a b s := by
  obtain ⟨c1, c2⟩ := c_save (j := j) B.cls
  have hz := B.cls.dom.2.2.siz
  by_cases q : 0 ≤ j ∧ j ≤ 1
  · obtain ⟨a1, b1, e1, hC, fa, fb⟩ := c2 q
    have hM : MoS s b1 := B.mod.ks Agr.refl' (fb 157 (by omega))
    have f157 : a1 157 = a 157 := fa 157 (by omega)
    have f158 : a1 158 = a 158 := fa 158 (by omega)
    have f161 : a1 161 = a 161 := fa 161 (by omega)
    have hm := m_save (a := a1) (z := j) hM (by rw [f158]; exact hz)
    rw [if_pos q, f158, f161] at hm
    obtain ⟨len, p1, p2, p3, p4⟩ := B.pad
    have hrom := B.rom
    refine ⟨_, a1, b1, s, _, b1, s, e1, hm, ⟨by rw [fa 1 (by omega)]; exact B.scr.1, B.scr.2.1, B.scr.2.2, hM.1⟩, ?_⟩
    refine bi_mk B (hC.mono (by omega) (by omega)) Agr.refl' (fun r hr => fa r (by omega)) (fun r hr => fb r (by omega)) (by rw [fa 37 (by omega)]; exact B.buf) ⟨len, by rw [fa 34 (by omega)]; exact p1, by rw [upR_ne (by omega), upR_ne (by omega), f157]; exact p2, p3, fun k hk => by rw [fa 35 (by omega), upR_ne (by omega), upR_ne (by omega), fa 163 (by omega)]; exact p4 k hk⟩ B.liv (by omega) (fun r hr => by rw [upR_ne (by omega), upR_ne (by omega)]) (fun j j0 j1 => by rw [upR_ne (by omega), upR_ne (by omega), f158]) (by rw [upR_ne (by omega), upR_ne (by omega), f157]) (fun k k0 k1 j j0 j1 => by rw [upR_ne (by omega), upR_ne (by omega), fa 160 (by omega)]) (fun i j0 j1 => by rw [upR_at, fa 162 (by omega)]) (fun k k0 k1 _ i j0 j1 => ?_)
    rw [upR_ne (by omega), upR_at]
    unfold segQ
    by_cases e : k = j
    · rw [e, up1_at, if_pos (by omega)]; congr 1; omega
    · rw [up1_ne e, if_neg (by omega)]
  · have hm := m_save (a := a) (z := j) B.mod hz
    rw [if_neg q] at hm
    exact two_ask B (by omega) (c1 q) hm
theorem s_restore {j : Int} (B : BI N w L a b s) (hN : N + 1 ≤ 1000) : Two N w L 75 129 [vI j] a b s := by
  obtain ⟨c1, c2, c3⟩ := c_restore (j := j) B.cls
  obtain ⟨-, z0, z1⟩ := B.cls.hsz
  obtain ⟨m1, m2, -⟩ := m_restore (a := a) (z := j) B.mod ⟨z0, z1⟩
  by_cases q : 0 ≤ j ∧ j ≤ 1
  · by_cases q2 : a 162 j = 0
    · exact two_ask B (by omega) (c2 q q2) (m2 q q2)
    · obtain ⟨-, y1, y2⟩ := B.cls.sav j q.1 (by omega)
      have hb := (y2 (by omega)).2.2.siz
      obtain ⟨a1, b1, e1, hC, fa, fb⟩ := c3 q q2
      refine two_chg (τ := fun i => a 161 (497 * j + i)) (τ2 := rwN (a 158) (fun i => a 161 (497 * j + i)) 497) B (by omega) ⟨a1, b1, e1, hC.mono (by omega) (by omega), fa, fb⟩ (fun a2 b2 ga hM => ?_) (fun i i0 i1 => rwN_in i0 i1)
      have h7 : rwN (a 158) (fun i => a 161 (497 * j + i)) 497 7 = a 161 (497 * j + 7) := rwN_in (by omega) (by omega)
      have := (m_restore (a := a2) (z := j) hM (by rw [ga 157 (by omega)]; exact ⟨z0, z1⟩)).2.2 (rwN (a 158) (fun i => a 161 (497 * j + i)) 497) q (by rw [ga 162 (by omega)]; exact q2) (by rw [ga 158 (by omega), ga 161 (by omega)]) (by rw [h7]; exact hb)
      have e2 : cnI (waiF (rwN (a 158) (fun i => a 161 (497 * j + i)) 497)) (nG (rwN (a 158) (fun i => a 161 (497 * j + i)) 497)) = cnI (waiF (fun i => a 161 (497 * j + i))) (nG (fun i => a 161 (497 * j + i))) := by
        have e3 : nG (rwN (a 158) (fun i => a 161 (497 * j + i)) 497) = nG (fun i => a 161 (497 * j + i)) := by unfold nG; rw [h7]
        rw [e3]
        refine cnI_cong (fun i hi => ?_)
        have hi2 : i < 20 := by
          have hb2 := hb
          unfold nG at hi
          dsimp only at hi hb2
          omega
        unfold waiF
        rw [rwN_in (by omega) (by omega)]
      rw [e2] at this
      exact this
  · exact two_ask B (by omega) (c1 q) (m1 q)
theorem s_runsLeft (B : BI N w L a b s) (hN : N + 1 ≤ 1000) : Two N w L 69 124 [] a b s := by
  obtain ⟨a1, b1, e1, hC, fa, fb⟩ := c_runsLeft B.cls (by omega)
  have hM : MoS s b1 := B.mod.ks Agr.refl' (fb 157 (by omega))
  have f157 : a1 157 = a 157 := fa 157 (by omega)
  have f158 : a1 158 = a 158 := fa 158 (by omega)
  obtain ⟨f, hm⟩ := m_runsLeft (a := a1) (s := s) (N := N) (T := 99999) hM (by rw [f158]; exact B.cls.dom.2.2) (by rw [f158]; exact B.cls.dom.1.shb) (by omega) (by omega)
  rw [f158] at hm
  obtain ⟨len, p1, p2, p3, p4⟩ := B.pad
  have hrom := B.rom
  refine ⟨_, a1, b1, s, _, b1, s, e1, hm, ⟨by rw [fa 1 (by omega)]; exact B.scr.1, B.scr.2.1, B.scr.2.2, hM.1⟩, ?_⟩
  exact bi_mk B (hC.mono (by omega) (by omega)) Agr.refl' (fun r hr => fa r (by omega)) (fun r hr => fb r (by omega)) (by rw [fa 37 (by omega)]; exact B.buf) ⟨len, by rw [fa 34 (by omega)]; exact p1, by rw [upR_ne (by omega), upR_ne (by omega), f157]; exact p2, p3, fun k hk => by rw [fa 35 (by omega), upR_ne (by omega), upR_ne (by omega), fa 163 (by omega)]; exact p4 k hk⟩ B.liv (by omega) (fun r hr => by rw [upR_ne (by omega), upR_ne (by omega)]) (fun j j0 j1 => by rw [upR_at, rwN_in j0 j1]) (by rw [upR_ne (by omega), upR_ne (by omega), f157]) (fun k k0 k1 j j0 j1 => by rw [upR_ne (by omega), upR_ne (by omega), fa 160 (by omega)]) (fun i j0 j1 => by rw [upR_ne (by omega), upR_ne (by omega), fa 162 (by omega)]) (fun k k0 k1 _ i j0 j1 => by rw [upR_ne (by omega), upR_ne (by omega), fa 161 (by omega)])
theorem s_wipe (B : BI N w L a b s) (hN : N + 1 ≤ 1000) : Two N w L 71 126 [] a b s := by
  have e1 := c_wipe B.cls B.rd
  obtain ⟨len, p1, p2, p3, p4⟩ := B.pad
  have e2 := m_wipe (a := upR a 34 (up1 (a 34) 1 0)) (b := b) (s := s) B.mod
  rw [upR_ne (by omega), p2] at e2
  rw [p1] at e1
  have hrom := B.rom
  refine ⟨len, upR a 34 (up1 (a 34) 1 0), b, s, _, b, s, e1, e2, ⟨by rw [upR_ne (by omega)]; exact B.scr.1, B.scr.2.1, B.scr.2.2, B.mod.1⟩, ?_⟩
  exact bi_mk B ((B.cls.ot (a' := upR a 34 (up1 (a 34) 1 0)) (b' := b) (fun r hr => upR_ne (by omega)) (fun _ _ => rfl)).mono (by omega) (by omega)) Agr.refl' (fun r hr => upR_ne (by omega)) (fun _ _ => rfl) (by rw [upR_ne (by omega)]; exact B.buf) ⟨0, by rw [upR_at, up1_at]; rfl, by rw [upR_at, up1_at]; rfl, by omega, fun k hk => absurd hk (Nat.not_lt_zero k)⟩ B.liv (by omega) (fun r hr => by rw [upR_ne (by omega)]) (fun j j0 j1 => by rw [upR_ne (by omega), upR_ne (by omega)]) (by rw [upR_at, up1_ne (by omega)]) (fun k k0 k1 j j0 j1 => by rw [upR_ne (by omega), upR_ne (by omega)]) (fun i j0 j1 => by rw [upR_ne (by omega), upR_ne (by omega)]) (fun k k0 k1 _ i j0 j1 => by rw [upR_ne (by omega), upR_ne (by omega)])
theorem s_put {u : Nat} (B : BI N w L a b s) (hN : N + 1 ≤ 1000) : Two N w L 70 125 [vJ u] a b s := by
  obtain ⟨len, p1, p2, p3, p4⟩ := B.pad
  obtain ⟨c1, c2, c3⟩ := c_put (u := u) (p := len) B.cls B.rd ⟨p1, p3⟩
  obtain ⟨m1, m2, m3⟩ := m_put (a := a) (b := b) (s := s) (u := u) (p := len) B.mod ⟨p2, p3⟩
  by_cases q : badQ u 8
  · exact two_ask B (by omega) (c1 q) (m1 q)
  · by_cases q2 : 80 < len + manQ u 8
    · exact two_ask B (by omega) (c2 q q2) (m2 q q2)
    · have e1 := c3 q (by omega)
      generalize hA : upR (upR a 34 (up1 (a 34) 1 (len + manQ u 8 : Nat))) 35 (apQ (a 35) len (manQ u 8) u) = A at e1
      have fA : ∀ r, r ≠ 34 → r ≠ 35 → A r = a r := fun r h1 h2 => by rw [← hA, upR_ne h2, upR_ne h1]
      have e2 := (m_put (a := A) (b := b) (s := s) (u := u) (p := len) B.mod ⟨by rw [fA 157 (by omega) (by omega)]; exact p2, p3⟩).2.2 q (by omega)
      rw [fA 157 (by omega) (by omega), fA 163 (by omega) (by omega)] at e2
      have hrom := B.rom
      refine ⟨_, A, b, s, _, b, s, e1, e2, ⟨by rw [fA 1 (by omega) (by omega)]; exact B.scr.1, B.scr.2.1, B.scr.2.2, B.mod.1⟩, ?_⟩
      refine bi_mk B ((B.cls.ot (a' := A) (b' := b) (fun r hr => fA r (by omega) (by omega)) (fun _ _ => rfl)).mono (by omega) (by omega)) Agr.refl' (fun r hr => fA r (by omega) (by omega)) (fun _ _ => rfl) (by rw [fA 37 (by omega) (by omega)]; exact B.buf) ⟨len + manQ u 8, by rw [← hA, upR_ne (by omega), upR_at, up1_at], by rw [upR_ne (by omega), upR_at, up1_at], by omega, fun k hk => ?_⟩ B.liv (by omega) (fun r hr => by rw [upR_ne (by omega), upR_ne (by omega)]) (fun j j0 j1 => by rw [upR_ne (by omega), upR_ne (by omega), fA 158 (by omega) (by omega)]) (by rw [upR_ne (by omega), upR_at, up1_ne (by omega)]) (fun k k0 k1 j j0 j1 => by rw [upR_ne (by omega), upR_ne (by omega), fA 160 (by omega) (by omega)]) (fun i j0 j1 => by rw [upR_ne (by omega), upR_ne (by omega), fA 162 (by omega) (by omega)]) (fun k k0 k1 _ i j0 j1 => by rw [upR_ne (by omega), upR_ne (by omega), fA 161 (by omega) (by omega)])
      rw [← hA, upR_at, upR_at]
      unfold apQ
      by_cases z : k < len
      · rw [if_neg (by omega), if_neg (by omega)]; exact p4 k z
      · rw [if_pos (by omega), if_pos (by omega)]
theorem pdZ_0 {len : Nat} : ∀ k, len ≤ k → pdZ a len k = 0 := fun k hk => if_neg (by omega)
theorem s_fault (B : BI N w L a b s) (hN : N + 1 ≤ 1000) : Two N w L 72 92 [] a b s := by
  obtain ⟨len, p1, p2, p3, p4⟩ := B.pad
  obtain ⟨A, e1, fr, hB⟩ := c_fault (x := pdX a) B.cls B.rd B.buf ⟨p1, p3⟩ (fun k hk => (p4 k hk).symm)
  have f163 : A 163 = a 163 := fr 163 (by omega)
  have f157 : A 157 = a 157 := fr 157 (by omega)
  obtain ⟨w2, d2, e2⟩ := m_fault (a := A) (b := b) (s := s) B.mod (len := len) ⟨by rw [f157]; exact p2, p3⟩
  rw [show pdX A = pdX a by unfold pdX; rw [f163]] at e2
  have hrom := B.rom
  refine ⟨_, A, b, s, _, b, s, e1, e2, ⟨by rw [fr 1 (by omega)]; exact B.scr.1, B.scr.2.1, B.scr.2.2, B.mod.1⟩, ?_⟩
  exact bi_mk B ((B.cls.ot (a' := A) (b' := b) (fun r hr => fr r (by omega)) (fun _ _ => rfl)).mono (by omega) (by omega)) Agr.refl' (fun r hr => fr r (by omega)) (fun _ _ => rfl) hB ⟨len, by rw [fr 34 (by omega)]; exact p1, by rw [upR_at, up1_ne (by omega), up1_ne (by omega), f157]; exact p2, p3, fun k hk => by rw [fr 35 (by omega), upR_ne (by omega), f163]; exact p4 k hk⟩ B.liv (by omega) (fun r hr => by rw [upR_ne (by omega)]) (fun j j0 j1 => by rw [upR_ne (by omega), fr 158 (by omega)]) (by rw [upR_at, up1_ne (by omega), up1_ne (by omega), f157]) (fun k k0 k1 j j0 j1 => by rw [upR_ne (by omega), fr 160 (by omega)]) (fun i j0 j1 => by rw [upR_ne (by omega), fr 162 (by omega)]) (fun k k0 k1 _ i j0 j1 => by rw [upR_ne (by omega), fr 161 (by omega)])
theorem s_at {h v : Int} (B : BI N w L a b s) (hN : N + 1 ≤ 1000) : Two N w L 61 114 [vI h, vI v] a b s := by
  obtain ⟨c1, c2⟩ := c_at (h := h) (w := v) B.cls
  obtain ⟨m1, m2⟩ := m_at (a := a) (b := b) (s := s) (h := h) (w := v) B.mod B.cls.dom.1.shb
  by_cases q : (0 ≤ h ∧ h ≤ 3) ∧ 0 ≤ v ∧ v < a 158 (129 + 92 * h)
  · obtain ⟨c, t1, t2, e1⟩ := c2 q
    obtain ⟨F', L', e2⟩ := m2 c q t1 t2
    obtain ⟨len, p1, p2, p3, p4⟩ := B.pad
    have hrom := B.rom
    refine ⟨_, a, b, s, _, b, s, e1, e2, ⟨B.scr.1, B.scr.2.1, B.scr.2.2, B.mod.1⟩, ?_⟩
    exact bi_mk B (B.cls.mono (by omega) (by omega)) Agr.refl' (fun _ _ => rfl) (fun _ _ => rfl) B.buf ⟨len, p1, by rw [upR_ne (by omega), upR_ne (by omega)]; exact p2, p3, fun k hk => by rw [upR_ne (by omega), upR_ne (by omega)]; exact p4 k hk⟩ B.liv (by omega) (fun r hr => by rw [upR_ne (by omega), upR_ne (by omega)]) (fun j j0 j1 => by rw [upR_ne (by omega), upR_ne (by omega)]) (by rw [upR_ne (by omega), upR_ne (by omega)]) (fun k k0 k1 j j0 j1 => by rw [upR_ne (by omega), upR_ne (by omega)]) (fun i j0 j1 => by rw [upR_ne (by omega), upR_ne (by omega)]) (fun k k0 k1 _ i j0 j1 => by rw [upR_ne (by omega), upR_ne (by omega)])
  · exact two_ask B (by omega) (c1 q) (m1 q)
end STEP2
