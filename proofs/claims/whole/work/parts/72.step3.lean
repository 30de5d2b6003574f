/-! ===== tell, on both sides ===== -/
section STEP3
variable {N : Int} {w : Int → Int} {L : Nat} {a : HI} {b : HR} {s : SH}
theorem s_tell {h : Int} (B : BI N w L a b s) (hN : N + 1 ≤ 1000) : Two N w L 54 95 [vI h] a b s := by
  obtain ⟨len, p1, p2, p3, p4⟩ := B.pad
  obtain ⟨-, z0, z1⟩ := B.cls.hsz
  have hrom := B.rom
  obtain ⟨c1, c2, c3⟩ := c_tell (h := h) (x := pdZ a len) B.cls B.rd B.buf ⟨p1, p3⟩ (fun k hk => by unfold pdZ; rw [if_pos hk]; exact (p4 k hk).symm) pdZ_0 B.liv.1 B.liv.2
  by_cases q : 0 ≤ h ∧ h ≤ 3
  · by_cases q2 : flt (pdZ a len) len len 0 = -6
    · obtain ⟨c, S, D, ht, d1, d2⟩ := c3 q q2
      by_cases q3 : c.length ≤ 999
      · obtain ⟨A, b1, e1, fa, fb, f34, hB, hC⟩ := d2 q3
        have hsl : (nx (nwS (nwS (nwS s 6 0 6) 11 c.length c.length) 10 6 6) : Int) = nx s + 3 ∧ (ns (nwS (nwS (nwS s 6 0 6) 11 c.length c.length) 10 6 6) : Int) = ns s + 12 + c.length := by
          have n1 : nx (nwS (nwS (nwS s 6 0 6) 11 c.length c.length) 10 6 6) = nx s + 3 := rfl
          have n2 : ns (nwS (nwS (nwS s 6 0 6) 11 c.length c.length) 10 6 6) = ns s + 6 + c.length + 6 := rfl
          rw [n1, n2]; omega
        have hA : Agr s (nwS (nwS (nwS s 6 0 6) 11 c.length c.length) 10 6 6) := fun r hr => by
          have n0 := B.liv.2
          have n1 : nx (nwS s 6 0 6) = nx s + 1 := rfl
          have n2 : nx (nwS (nwS s 6 0 6) 11 c.length c.length) = nx s + 2 := rfl
          constructor
          · rw [kd_nn (by omega), kd_nn (by omega), kd_nn (by omega)]
          · rw [ln_nn (by omega), ln_nn (by omega), ln_nn (by omega)]
        have hliv : (∀ r, nx (nwS (nwS (nwS s 6 0 6) 11 c.length c.length) 10 6 6) + 5 ≤ r → kd (nwS (nwS (nwS s 6 0 6) 11 c.length c.length) 10 6 6) r = 99) ∧ 168 ≤ nx (nwS (nwS (nwS s 6 0 6) 11 c.length c.length) 10 6 6) + 5 := by
          have n0 := B.liv.2
          have n1 : nx (nwS s 6 0 6) = nx s + 1 := rfl
          have n2 : nx (nwS (nwS s 6 0 6) 11 c.length c.length) = nx s + 2 := rfl
          have n3 : nx (nwS (nwS (nwS s 6 0 6) 11 c.length c.length) 10 6 6) = nx s + 3 := rfl
          refine ⟨fun r hr => ?_, by omega⟩
          rw [kd_nn (by omega), kd_nn (by omega), kd_nn (by omega)]
          exact B.liv.1 r (by omega)
        generalize nwS (nwS (nwS s 6 0 6) 11 c.length c.length) 10 6 6 = s3 at *
        have hM : MoS s3 b1 := B.mod.ks hA (fb 157 (by omega))
        have f157 : A 157 = a 157 := fa 157 (by omega)
        have f158 : A 158 = a 158 := fa 158 (by omega)
        have f163 : A 163 = a 163 := fa 163 (by omega)
        have fz : pdZ A len = pdZ a len := by unfold pdZ; rw [f163]
        obtain ⟨-, -, m3⟩ := m_tell (a := A) (b := b1) (s := s3) (h := h) (len := len) hM (by rw [f157]; exact ⟨z0, z1⟩) ⟨by rw [f157]; exact p2, p3⟩
        rw [fz] at m3
        obtain ⟨a2, T, e2, g1, g2, g3, g4, g5, t0, t1, t2, t3, t4⟩ := (m3 c S D q q2 ht).2 q3
        have hC2 := hC T ⟨t0, t1, t2, t3, t4⟩
        refine ⟨_, A, b1, s3, a2, b1, s3, e1, e2, ⟨by rw [fa 1 (by omega)]; exact B.scr.1, by rw [(hA 1 (by omega)).1]; exact B.scr.2.1, by rw [(hA 1 (by omega)).2]; exact B.scr.2.2, hM.1⟩, ?_⟩
        refine bi_mk B (hC2.mono (by omega) (by omega)) hA (fun r hr => fa r (by omega)) fb hB ⟨0, by rw [f34]; rfl, by rw [g3]; rfl, by omega, fun k hk => absurd hk (Nat.not_lt_zero k)⟩ hliv (by omega) (fun r hr => g1 r (by omega)) (fun j j0 j1 => by rw [g5, f158]) (by rw [g2, kn_3, f157]) (fun k k0 k1 j j0 j1 => ?_) (fun i j0 j1 => by rw [g1 162 (by omega), fa 162 (by omega)]) (fun k k0 k1 _ i j0 j1 => by rw [g1 161 (by omega), fa 161 (by omega)])
        rw [g4, kn_160 (by rw [f157]; exact ⟨z0, z1⟩) k0 (by rw [f157]; exact k1) j0 j1, f157, fa 160 (by omega), f158]
      · obtain ⟨A, e1, fr, hB⟩ := d1 (by omega)
        have f163 : A 163 = a 163 := fr 163 (by omega)
        have f157 : A 157 = a 157 := fr 157 (by omega)
        have fz : pdZ A len = pdZ a len := by unfold pdZ; rw [f163]
        obtain ⟨-, -, m3⟩ := m_tell (a := A) (b := b) (s := s) (h := h) (len := len) B.mod (by rw [f157]; exact ⟨z0, z1⟩) ⟨by rw [f157]; exact p2, p3⟩
        rw [fz] at m3
        obtain ⟨w2, d2', T, tm, e2⟩ := (m3 c S D q q2 ht).1 (by omega)
        refine ⟨_, A, b, s, _, b, s, e1, e2, ⟨by rw [fr 1 (by omega)]; exact B.scr.1, B.scr.2.1, B.scr.2.2, B.mod.1⟩, ?_⟩
        exact bi_mk B ((B.cls.ot (a' := A) (b' := b) (fun r hr => fr r (by omega)) (fun _ _ => rfl)).mono (by omega) (by omega)) Agr.refl' (fun r hr => fr r (by omega)) (fun _ _ => rfl) hB ⟨len, by rw [fr 34 (by omega)]; exact p1, by rw [upR_ne (by omega), upR_ne (by omega), upR_at, up1_ne (by omega), up1_ne (by omega), f157]; exact p2, p3, fun k hk => by rw [fr 35 (by omega), upR_ne (by omega), upR_ne (by omega), upR_ne (by omega), f163]; exact p4 k hk⟩ B.liv (by omega) (fun r hr => by rw [upR_ne (by omega), upR_ne (by omega), upR_ne (by omega)]) (fun j j0 j1 => by rw [upR_ne (by omega), upR_ne (by omega), upR_ne (by omega), fr 158 (by omega)]) (by rw [upR_ne (by omega), upR_ne (by omega), upR_at, up1_ne (by omega), up1_ne (by omega), f157]) (fun k k0 k1 j j0 j1 => by rw [upR_ne (by omega), upR_ne (by omega), upR_ne (by omega), fr 160 (by omega)]) (fun i j0 j1 => by rw [upR_ne (by omega), upR_ne (by omega), upR_ne (by omega), fr 162 (by omega)]) (fun k k0 k1 _ i j0 j1 => by rw [upR_ne (by omega), upR_ne (by omega), upR_ne (by omega), fr 161 (by omega)])
    · obtain ⟨A, e1, fr, hB⟩ := c2 q q2
      have f163 : A 163 = a 163 := fr 163 (by omega)
      have f157 : A 157 = a 157 := fr 157 (by omega)
      have fz : pdZ A len = pdZ a len := by unfold pdZ; rw [f163]
      obtain ⟨-, m2, -⟩ := m_tell (a := A) (b := b) (s := s) (h := h) (len := len) B.mod (by rw [f157]; exact ⟨z0, z1⟩) ⟨by rw [f157]; exact p2, p3⟩
      rw [fz] at m2
      obtain ⟨w2, d2, e2⟩ := m2 q q2
      refine ⟨_, A, b, s, _, b, s, e1, e2, ⟨by rw [fr 1 (by omega)]; exact B.scr.1, B.scr.2.1, B.scr.2.2, B.mod.1⟩, ?_⟩
      exact bi_mk B ((B.cls.ot (a' := A) (b' := b) (fun r hr => fr r (by omega)) (fun _ _ => rfl)).mono (by omega) (by omega)) Agr.refl' (fun r hr => fr r (by omega)) (fun _ _ => rfl) hB ⟨len, by rw [fr 34 (by omega)]; exact p1, by rw [upR_at, up1_ne (by omega), up1_ne (by omega), f157]; exact p2, p3, fun k hk => by rw [fr 35 (by omega), upR_ne (by omega), f163]; exact p4 k hk⟩ B.liv (by omega) (fun r hr => by rw [upR_ne (by omega)]) (fun j j0 j1 => by rw [upR_ne (by omega), fr 158 (by omega)]) (by rw [upR_at, up1_ne (by omega), up1_ne (by omega), f157]) (fun k k0 k1 j j0 j1 => by rw [upR_ne (by omega), fr 160 (by omega)]) (fun i j0 j1 => by rw [upR_ne (by omega), fr 162 (by omega)]) (fun k k0 k1 _ i j0 j1 => by rw [upR_ne (by omega), fr 161 (by omega)])
  · obtain ⟨m1, -⟩ := m_tell (a := a) (b := b) (s := s) (h := h) (len := len) B.mod ⟨z0, z1⟩ ⟨p2, p3⟩
    exact two_ask B (by omega) (c1 q) (m1 q)
end STEP3
