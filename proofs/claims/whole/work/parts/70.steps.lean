/-! ===== a call on both sides ===== -/
section STEPS
variable {N : Int} {w : Int → Int} {L : Nat} {a : HI} {b : HR} {s : SH}
theorem s_set {k v : Int} (B : BI N w L a b s) (hN : N + 1 ≤ 1000) : Two N w L 53 107 [vI k, vI v] a b s := by
  obtain ⟨c1, c2⟩ := c_set (k := k) (v := v) B.cls B.tb (by omega)
  have hb := B.cls.dom.2.2
  obtain ⟨-, z0, z1⟩ := B.cls.hsz
  have hR : ∀ k, 0 ≤ k → k < 6 → InR (a 158 k) := fun k k0 k1 => by
    have e : k = 0 ∨ k = 1 ∨ k = 2 ∨ k = 3 ∨ k = 4 ∨ k = 5 := by omega
    rcases e with rfl | rfl | rfl | rfl | rfl | rfl
    · have := hb.lif; omega
    · have := hb.fog; omega
    · have := hb.dim; omega
    · have := hb.sea; omega
    · have := hb.pri; omega
    · have := hb.wai; omega
  by_cases q : setQ k v
  · refine two_chg B (by omega) (c2 q) (fun a1 b1 fa hM => ?_) (fun _ _ _ => rfl)
    have := (m_set (a := a1) (b := b1) (s := s) (k := k) (v := v) hM (by rw [fa 157 (by omega)]; exact ⟨z0, z1⟩) (by rw [fa 158 (by omega)]; exact hR)).1 q
    rw [fa 158 (by omega)] at this
    exact this
  · exact two_ask B (by omega) (c1 q) ((m_set B.mod ⟨z0, z1⟩ hR).2 q)
theorem s_lamp {l : Int} (B : BI N w L a b s) (hN : N + 1 ≤ 1000) : Two N w L 56 109 [vI l] a b s := by
  obtain ⟨c1, c2⟩ := c_lamp (l := l) B.cls (by omega)
  have hb := B.cls.dom.2.2
  have hc := hb.cn
  obtain ⟨-, z0, z1⟩ := B.cls.hsz
  have hR : ∀ k, 0 ≤ k → k < 6 → InR (a 158 (11 + 3 * k)) ∧ InR (a 158 (13 + 3 * k) + 1) := fun k k0 k1 => by
    have := hb.bur k k0 k1
    have := hb.chg k k0 k1
    constructor <;> omega
  by_cases q : 0 ≤ l ∧ l ≤ 5
  · refine two_chg B (by omega) (c2 q) (fun a1 b1 fa hM => ?_) (fun _ _ _ => rfl)
    have := m_lamp (a := a1) (b := b1) (s := s) (l := l) hM (by rw [fa 157 (by omega)]; exact ⟨z0, z1⟩) (by rw [fa 158 (by omega)]; exact hR)
    rw [if_pos q, fa 158 (by omega)] at this
    exact this
  · have := m_lamp (l := l) B.mod ⟨z0, z1⟩ hR
    rw [if_neg q] at this
    exact two_ask B (by omega) (c1 q) this
theorem s_lens {l : Int} (B : BI N w L a b s) (hN : N + 1 ≤ 1000) : Two N w L 57 110 [vI l] a b s := by
  obtain ⟨c1, c2⟩ := c_lens (l := l) B.cls (by omega)
  have hb := B.cls.dom.2.2
  obtain ⟨-, z0, z1⟩ := B.cls.hsz
  have hR : ∀ k, 0 ≤ k → k < 6 → InR (a 158 (12 + 3 * k)) := fun k k0 k1 => by
    have := hb.haz k k0 k1
    omega
  by_cases q : 0 ≤ l ∧ l ≤ 5
  · refine two_chg B (by omega) (c2 q) (fun a1 b1 fa hM => ?_) (fun _ _ _ => rfl)
    have := m_lens (a := a1) (b := b1) (s := s) (l := l) hM (by rw [fa 157 (by omega)]; exact ⟨z0, z1⟩) (by rw [fa 158 (by omega)]; exact hR)
    rw [if_pos q, fa 158 (by omega)] at this
    exact this
  · have := m_lens (l := l) B.mod ⟨z0, z1⟩ hR
    rw [if_neg q] at this
    exact two_ask B (by omega) (c1 q) this
theorem s_group {p h t : Int} (B : BI N w L a b s) (hN : N + 1 ≤ 1000) : Two N w L 55 108 [vI p, vI h, vI t] a b s := by
  obtain ⟨c1, c2, c3, c4⟩ := c_group (p := p) (h := h) (t := t) B.cls (by omega)
  have hz := B.cls.dom.2.2.siz
  obtain ⟨-, z0, z1⟩ := B.cls.hsz
  have hm := m_group (p := p) (h := h) (t := t) B.mod ⟨z0, z1⟩ hz
  by_cases q : 0 ≤ h ∧ h ≤ 3
  · rw [if_pos q] at hm
    by_cases q2 : (1 ≤ p ∧ p ≤ 60) ∧ 0 ≤ t ∧ t ≤ 9999
    · rw [if_pos q2] at hm
      by_cases q3 : a 158 7 = 20
      · rw [if_pos q3] at hm
        exact two_ask B (by omega) (c3 q q2 q3) hm
      · refine two_chg B (by omega) (c4 q q2 q3) (fun a1 b1 fa hM => ?_) (fun _ _ _ => rfl)
        have := m_group (a := a1) (b := b1) (s := s) (p := p) (h := h) (t := t) hM (by rw [fa 157 (by omega)]; exact ⟨z0, z1⟩) (by rw [fa 158 (by omega)]; exact hz)
        rw [fa 158 (by omega), if_pos q, if_pos q2, if_neg q3] at this
        exact this
    · rw [if_neg q2] at hm
      exact two_ask B (by omega) (c2 q q2) hm
  · rw [if_neg q] at hm
    exact two_ask B (by omega) (c1 q) hm
theorem s_run (B : BI N w L a b s) (hN : N + 1 ≤ 1000) : Two N w L 58 111 [] a b s := by
  obtain ⟨c1, c2⟩ := c_run B.cls (by omega)
  have hb := B.cls.dom.2.2
  have hs := B.cls.dom.1.shb
  obtain ⟨-, z0, z1⟩ := B.cls.hsz
  by_cases q : rsnP (a 158) = 0 ∧ endP (a 158) ≤ 99999
  · refine two_chg B (by omega) (c2 q) (fun a1 b1 fa hM => ?_) (fun _ _ _ => rfl)
    have := (m_run (a := a1) (b := b1) (s := s) (N := N) (T := 99999) hM (by rw [fa 158 (by omega)]; exact hb) (by rw [fa 158 (by omega)]; exact hs) (by omega) (by rw [fa 157 (by omega)]; exact ⟨z0, z1⟩)).2
    rw [fa 158 (by omega)] at this
    exact this q
  · exact two_ask B (by omega) (c1 q) ((m_run B.mod hb hs (by omega) ⟨z0, z1⟩).1 q)
theorem s_ofShow {h v : Int} (B : BI N w L a b s) (hN : N + 1 ≤ 1000) : Two N w L 59 112 [vI h, vI v] a b s := two_ask B (by omega) (c_ofShow B.cls.lay B.cls.dom) (m_ofShow B.mod)
theorem s_lit {h v : Int} (B : BI N w L a b s) (hN : N + 1 ≤ 1000) : Two N w L 60 113 [vI h, vI v] a b s := two_ask B (by omega) (c_lit B.cls.lay B.cls.dom) (m_lit B.mod)
theorem s_ofLamp {h v : Int} (B : BI N w L a b s) (hN : N + 1 ≤ 1000) : Two N w L 62 116 [vI h, vI v] a b s := two_ask B (by omega) (c_ofLamp B.cls.lay B.cls.dom) (m_ofLamp B.mod B.cls.dom.2.2)
theorem s_ofGroup {h v : Int} (B : BI N w L a b s) (hN : N + 1 ≤ 1000) : Two N w L 63 117 [vI h, vI v] a b s := two_ask B (by omega) (c_ofGroup B.cls.lay B.cls.dom) (m_ofGroup B.mod B.cls.dom.2.2.siz)
theorem s_count {v : Int} (B : BI N w L a b s) (hN : N + 1 ≤ 1000) : Two N w L 64 120 [vI v] a b s := by
  obtain ⟨len, p1, p2, p3, p4⟩ := B.pad
  exact two_ask B (by omega) (c_count B.cls.lay B.rd B.cls.dom (p1.trans p2.symm) B.cls.hsz.1) (m_count B.mod B.cls.dom.2.2.siz)
theorem s_why (B : BI N w L a b s) (hN : N + 1 ≤ 1000) : Two N w L 65 102 [] a b s := two_ask B (by omega) (c_why B.cls.lay B.cls.dom) (m_why B.mod B.cls.dom.2.2 B.cls.dom.1.shb)
theorem s_next {v : Int} (B : BI N w L a b s) (hN : N + 1 ≤ 1000) : Two N w L 66 121 [vI v] a b s := two_ask B (by omega) (c_next B.cls.lay B.cls.dom) (m_next B.mod B.cls.dom.2.2 B.cls.dom.1.shb)
theorem s_oftenOf {v : Int} (B : BI N w L a b s) (hN : N + 1 ≤ 1000) : Two N w L 67 122 [vI v] a b s := two_ask B (by omega) (c_oftenOf B.cls.lay B.cls.dom) (m_oftenOf B.mod B.cls.dom.2.2 B.cls.dom.1.shb)
theorem s_endsFirst (B : BI N w L a b s) (hN : N + 1 ≤ 1000) : Two N w L 68 123 [] a b s := two_ask B (by omega) (c_endsFirst B.cls.lay B.cls.dom) (m_endsFirst B.mod B.cls.dom.2.2)
end STEPS
