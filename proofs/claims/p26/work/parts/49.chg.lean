/-! ===== a dome of which a cell is written ===== -/
theorem DomK.setT {N : Int} {a : HI} {b : HR} {s : SH} {d : Nat} {σ : RW} {k v : Int} (hq0 : setQ k v) (H : DomK N a b s d σ) (hN : N + 1 ≤ 2000) (hd : d + 14 ≤ 157) : DomK (N + 1) (upR a (d + 1) (up1 (a (d + 1)) k v)) b s d (up1 σ k v) := by
  obtain ⟨h, ht, hb0⟩ := H
  have hb := hb0.mono (show N ≤ N + 1 by omega) hN
  have hk := hq0.1
  refine ⟨RelD.mk (fun k_ x0 x1 => ?_) ?_ ?_ ?_ ?_ ?_ (fun l x0 x1 => ?_) (fun l x0 x1 => ?_) (fun l x0 x1 => ?_) (fun g x0 x1 => ?_) (fun g x0 x1 => ?_) (fun g x0 x1 => ?_) (fun g x0 x1 => ?_) (fun g x0 x1 => ?_) (fun h' x0 x1 => ?_) (fun h' x0 x1 => ?_), fun h0 x0 x1 hq => ?_, Bnd.mk ?_ ?_ ?_ ?_ ?_ ?_ ?_ ?_ ?_ ?_ ?_ (fun l x0 x1 => ?_) (fun l x0 x1 => ?_) (fun l x0 x1 => ?_) (fun g x0 x1 => ?_) (fun g x0 x1 => ?_) (fun g x0 x1 => ?_) (fun g x0 x1 => ?_) (fun g x0 x1 => ?_) (fun h' x0 x1 => ?_) hb.cn hb.ct⟩
  · by_cases e : k_ = k
    · subst e; rw [upR_at, up1_at, up1_at]
    · rw [upR_at, up1_ne e, up1_ne e]; exact h.st k_ x0 x1
  · rw [upR_ne (by omega), up1_ne (by omega)]; exact h.nw
  · rw [upR_ne (by omega), up1_ne (by omega)]; exact h.co
  · rw [upR_ne (by omega), up1_ne (by omega)]; exact h.ru
  · rw [upR_ne (by omega), up1_ne (by omega)]; exact h.fo
  · rw [upR_ne (by omega), up1_ne (by omega)]; exact h.sz
  · rw [upR_ne (by omega), up1_ne (by omega)]; exact h.bu l x0 x1
  · rw [upR_ne (by omega), up1_ne (by omega)]; exact h.hz l x0 x1
  · rw [upR_ne (by omega), up1_ne (by omega)]; exact h.ch l x0 x1
  · rw [upR_ne (by omega), up1_ne (by omega)]; exact h.pe g x0 x1
  · rw [upR_ne (by omega), up1_ne (by omega)]; exact h.wh g x0 x1
  · rw [upR_ne (by omega), up1_ne (by omega)]; exact h.ti g x0 x1
  · rw [upR_ne (by omega), up1_ne (by omega)]; exact h.se g x0 x1
  · rw [upR_ne (by omega), up1_ne (by omega)]; exact h.wi g x0 x1
  · rw [upR_ne (by omega), up1_ne (by omega)]; exact h.ra h' x0 x1
  · exact (h.sh h' x0 x1).tr (Keep.of (fun r hr => by rw [upR_ne (by omega)]) (fun _ _ => rfl)) (fun j y0 y1 y2 => by rw [up1_ne (by omega)])
  · have hs := h.sh h0 x0 x1
    have hx := ht h0 x0 x1 hq
    rcases hs with ⟨w, -⟩ | ⟨w1, -⟩
    · exact absurd w hq
    · exact hx.cg (fun j y0 y1 y2 => by rw [up1_ne (by omega)]) (by rw [upR_ne (by omega)]) rfl
  · by_cases e : (0 : Int) = k
    · subst e; rw [up1_at]; have := hq0.2; simp [lstQ, mstQ] at this; exact this
    · rw [up1_ne e]; exact hb.lif
  · by_cases e : (1 : Int) = k
    · subst e; rw [up1_at]; have := hq0.2; simp [lstQ, mstQ] at this; exact this
    · rw [up1_ne e]; exact hb.fog
  · by_cases e : (2 : Int) = k
    · subst e; rw [up1_at]; have := hq0.2; simp [lstQ, mstQ] at this; exact this
    · rw [up1_ne e]; exact hb.dim
  · by_cases e : (3 : Int) = k
    · subst e; rw [up1_at]; have := hq0.2; simp [lstQ, mstQ] at this; exact this
    · rw [up1_ne e]; exact hb.sea
  · by_cases e : (4 : Int) = k
    · subst e; rw [up1_at]; have := hq0.2; simp [lstQ, mstQ] at this; exact this
    · rw [up1_ne e]; exact hb.pri
  · by_cases e : (5 : Int) = k
    · subst e; rw [up1_at]; have := hq0.2; simp [lstQ, mstQ] at this; exact this
    · rw [up1_ne e]; exact hb.wai
  · rw [up1_ne (by omega)]; exact hb.now
  · rw [up1_ne (by omega)]; exact hb.siz
  · rw [up1_ne (by omega)]; exact hb.coi
  · rw [up1_ne (by omega)]; exact hb.run
  · rw [up1_ne (by omega)]; exact hb.fgy
  · rw [up1_ne (by omega)]; exact hb.bur l x0 x1
  · rw [up1_ne (by omega)]; exact hb.haz l x0 x1
  · rw [up1_ne (by omega)]; exact hb.chg l x0 x1
  · rw [up1_ne (by omega)]; exact hb.per g x0 x1
  · rw [up1_ne (by omega)]; exact hb.whi g x0 x1
  · rw [up1_ne (by omega)]; exact hb.tim g x0 x1
  · rw [up1_ne (by omega)]; exact hb.see g x0 x1
  · rw [up1_ne (by omega)]; exact hb.win g x0 x1
  · rw [up1_ne (by omega)]; exact hb.ran h' x0 x1
theorem DomK.lampT {N : Int} {a : HI} {b : HR} {s : SH} {d : Nat} {σ : RW} {m : Int} (hm : 0 ≤ m ∧ m < 6) (H : DomK N a b s d σ) (hN : N + 1 ≤ 2000) (hd : d + 14 ≤ 157) : DomK (N + 1) (upR (upR a (d + 4 + 1) (up1 (a (d + 4 + 1)) m 0)) (d + 4 + 3) (up1 (a (d + 4 + 3)) m (σ (13 + 3 * m) + 1))) b s d (up1 (up1 σ (13 + 3 * m) (σ (13 + 3 * m) + 1)) (11 + 3 * m) 0) := by
  obtain ⟨h, ht, hb0⟩ := H
  have hb := hb0.mono (show N ≤ N + 1 by omega) hN
  refine ⟨RelD.mk (fun k x0 x1 => ?_) ?_ ?_ ?_ ?_ ?_ (fun l x0 x1 => ?_) (fun l x0 x1 => ?_) (fun l x0 x1 => ?_) (fun g x0 x1 => ?_) (fun g x0 x1 => ?_) (fun g x0 x1 => ?_) (fun g x0 x1 => ?_) (fun g x0 x1 => ?_) (fun h' x0 x1 => ?_) (fun h' x0 x1 => ?_), fun h0 x0 x1 hq => ?_, Bnd.mk ?_ ?_ ?_ ?_ ?_ ?_ ?_ ?_ ?_ ?_ ?_ (fun l x0 x1 => ?_) (fun l x0 x1 => ?_) (fun l x0 x1 => ?_) (fun g x0 x1 => ?_) (fun g x0 x1 => ?_) (fun g x0 x1 => ?_) (fun g x0 x1 => ?_) (fun g x0 x1 => ?_) (fun h' x0 x1 => ?_) hb.cn hb.ct⟩
  · rw [upR_ne (by omega), upR_ne (by omega), up1_ne (by omega), up1_ne (by omega)]; exact h.st k x0 x1
  · rw [upR_ne (by omega), upR_ne (by omega), up1_ne (by omega), up1_ne (by omega)]; exact h.nw
  · rw [upR_ne (by omega), upR_ne (by omega), up1_ne (by omega), up1_ne (by omega)]; exact h.co
  · rw [upR_ne (by omega), upR_ne (by omega), up1_ne (by omega), up1_ne (by omega)]; exact h.ru
  · rw [upR_ne (by omega), upR_ne (by omega), up1_ne (by omega), up1_ne (by omega)]; exact h.fo
  · rw [upR_ne (by omega), upR_ne (by omega), up1_ne (by omega), up1_ne (by omega)]; exact h.sz
  · rw [upR_ne (by omega), upR_at]
    by_cases e : l = m
    · subst e; rw [up1_at, up1_at]
    · rw [up1_ne e, up1_ne (by omega), up1_ne (by omega)]; exact h.bu l x0 x1
  · rw [upR_ne (by omega), upR_ne (by omega), up1_ne (by omega), up1_ne (by omega)]; exact h.hz l x0 x1
  · rw [upR_at]
    by_cases e : l = m
    · subst e; rw [up1_at, up1_ne (by omega), up1_at]
    · rw [up1_ne e, up1_ne (by omega), up1_ne (by omega)]; exact h.ch l x0 x1
  · rw [upR_ne (by omega), upR_ne (by omega), up1_ne (by omega), up1_ne (by omega)]; exact h.pe g x0 x1
  · rw [upR_ne (by omega), upR_ne (by omega), up1_ne (by omega), up1_ne (by omega)]; exact h.wh g x0 x1
  · rw [upR_ne (by omega), upR_ne (by omega), up1_ne (by omega), up1_ne (by omega)]; exact h.ti g x0 x1
  · rw [upR_ne (by omega), upR_ne (by omega), up1_ne (by omega), up1_ne (by omega)]; exact h.se g x0 x1
  · rw [upR_ne (by omega), upR_ne (by omega), up1_ne (by omega), up1_ne (by omega)]; exact h.wi g x0 x1
  · rw [upR_ne (by omega), upR_ne (by omega), up1_ne (by omega), up1_ne (by omega)]; exact h.ra h' x0 x1
  · exact (h.sh h' x0 x1).tr (Keep.of (fun r hr => by rw [upR_ne (by omega), upR_ne (by omega)]) (fun _ _ => rfl)) (fun j y0 y1 y2 => by rw [up1_ne (by omega), up1_ne (by omega)])
  · have hs := h.sh h0 x0 x1
    have hx := ht h0 x0 x1 hq
    rcases hs with ⟨w, -⟩ | ⟨w1, -⟩
    · exact absurd w hq
    · exact hx.cg (fun j y0 y1 y2 => by rw [up1_ne (by omega), up1_ne (by omega)]) (by rw [upR_ne (by omega), upR_ne (by omega)]) rfl
  · rw [up1_ne (by omega), up1_ne (by omega)]; exact hb.lif
  · rw [up1_ne (by omega), up1_ne (by omega)]; exact hb.fog
  · rw [up1_ne (by omega), up1_ne (by omega)]; exact hb.dim
  · rw [up1_ne (by omega), up1_ne (by omega)]; exact hb.sea
  · rw [up1_ne (by omega), up1_ne (by omega)]; exact hb.pri
  · rw [up1_ne (by omega), up1_ne (by omega)]; exact hb.wai
  · rw [up1_ne (by omega), up1_ne (by omega)]; exact hb.now
  · rw [up1_ne (by omega), up1_ne (by omega)]; exact hb.siz
  · rw [up1_ne (by omega), up1_ne (by omega)]; exact hb.coi
  · rw [up1_ne (by omega), up1_ne (by omega)]; exact hb.run
  · rw [up1_ne (by omega), up1_ne (by omega)]; exact hb.fgy
  · by_cases e : l = m
    · subst e; rw [up1_at]; have := hb.cn; omega
    · rw [up1_ne (by omega), up1_ne (by omega)]; exact hb.bur l x0 x1
  · rw [up1_ne (by omega), up1_ne (by omega)]; exact hb.haz l x0 x1
  · by_cases e : l = m
    · subst e; rw [up1_ne (by omega), up1_at]; have := hb0.chg l x0 x1; omega
    · rw [up1_ne (by omega), up1_ne (by omega)]; exact hb.chg l x0 x1
  · rw [up1_ne (by omega), up1_ne (by omega)]; exact hb.per g x0 x1
  · rw [up1_ne (by omega), up1_ne (by omega)]; exact hb.whi g x0 x1
  · rw [up1_ne (by omega), up1_ne (by omega)]; exact hb.tim g x0 x1
  · rw [up1_ne (by omega), up1_ne (by omega)]; exact hb.see g x0 x1
  · rw [up1_ne (by omega), up1_ne (by omega)]; exact hb.win g x0 x1
  · rw [up1_ne (by omega), up1_ne (by omega)]; exact hb.ran h' x0 x1
theorem DomK.lensT {N : Int} {a : HI} {b : HR} {s : SH} {d : Nat} {σ : RW} {m : Int} (hm : 0 ≤ m ∧ m < 6) (H : DomK N a b s d σ) (hN : N + 1 ≤ 2000) (hd : d + 14 ≤ 157) : DomK (N + 1) (upR a (d + 4 + 2) (up1 (a (d + 4 + 2)) m 0)) b s d (up1 σ (12 + 3 * m) 0) := by
  obtain ⟨h, ht, hb0⟩ := H
  have hb := hb0.mono (show N ≤ N + 1 by omega) hN
  refine ⟨RelD.mk (fun k x0 x1 => ?_) ?_ ?_ ?_ ?_ ?_ (fun l x0 x1 => ?_) (fun l x0 x1 => ?_) (fun l x0 x1 => ?_) (fun g x0 x1 => ?_) (fun g x0 x1 => ?_) (fun g x0 x1 => ?_) (fun g x0 x1 => ?_) (fun g x0 x1 => ?_) (fun h' x0 x1 => ?_) (fun h' x0 x1 => ?_), fun h0 x0 x1 hq => ?_, Bnd.mk ?_ ?_ ?_ ?_ ?_ ?_ ?_ ?_ ?_ ?_ ?_ (fun l x0 x1 => ?_) (fun l x0 x1 => ?_) (fun l x0 x1 => ?_) (fun g x0 x1 => ?_) (fun g x0 x1 => ?_) (fun g x0 x1 => ?_) (fun g x0 x1 => ?_) (fun g x0 x1 => ?_) (fun h' x0 x1 => ?_) hb.cn hb.ct⟩
  · rw [upR_ne (by omega), up1_ne (by omega)]; exact h.st k x0 x1
  · rw [upR_ne (by omega), up1_ne (by omega)]; exact h.nw
  · rw [upR_ne (by omega), up1_ne (by omega)]; exact h.co
  · rw [upR_ne (by omega), up1_ne (by omega)]; exact h.ru
  · rw [upR_ne (by omega), up1_ne (by omega)]; exact h.fo
  · rw [upR_ne (by omega), up1_ne (by omega)]; exact h.sz
  · rw [upR_ne (by omega), up1_ne (by omega)]; exact h.bu l x0 x1
  · rw [upR_at]
    by_cases e : l = m
    · subst e; rw [up1_at, up1_at]
    · rw [up1_ne e, up1_ne (by omega)]; exact h.hz l x0 x1
  · rw [upR_ne (by omega), up1_ne (by omega)]; exact h.ch l x0 x1
  · rw [upR_ne (by omega), up1_ne (by omega)]; exact h.pe g x0 x1
  · rw [upR_ne (by omega), up1_ne (by omega)]; exact h.wh g x0 x1
  · rw [upR_ne (by omega), up1_ne (by omega)]; exact h.ti g x0 x1
  · rw [upR_ne (by omega), up1_ne (by omega)]; exact h.se g x0 x1
  · rw [upR_ne (by omega), up1_ne (by omega)]; exact h.wi g x0 x1
  · rw [upR_ne (by omega), up1_ne (by omega)]; exact h.ra h' x0 x1
  · exact (h.sh h' x0 x1).tr (Keep.of (fun r hr => by rw [upR_ne (by omega)]) (fun _ _ => rfl)) (fun j y0 y1 y2 => by rw [up1_ne (by omega)])
  · have hs := h.sh h0 x0 x1
    have hx := ht h0 x0 x1 hq
    rcases hs with ⟨w, -⟩ | ⟨w1, -⟩
    · exact absurd w hq
    · exact hx.cg (fun j y0 y1 y2 => by rw [up1_ne (by omega)]) (by rw [upR_ne (by omega)]) rfl
  · rw [up1_ne (by omega)]; exact hb.lif
  · rw [up1_ne (by omega)]; exact hb.fog
  · rw [up1_ne (by omega)]; exact hb.dim
  · rw [up1_ne (by omega)]; exact hb.sea
  · rw [up1_ne (by omega)]; exact hb.pri
  · rw [up1_ne (by omega)]; exact hb.wai
  · rw [up1_ne (by omega)]; exact hb.now
  · rw [up1_ne (by omega)]; exact hb.siz
  · rw [up1_ne (by omega)]; exact hb.coi
  · rw [up1_ne (by omega)]; exact hb.run
  · rw [up1_ne (by omega)]; exact hb.fgy
  · rw [up1_ne (by omega)]; exact hb.bur l x0 x1
  · by_cases e : l = m
    · subst e; rw [up1_at]; omega
    · rw [up1_ne (by omega)]; exact hb.haz l x0 x1
  · rw [up1_ne (by omega)]; exact hb.chg l x0 x1
  · rw [up1_ne (by omega)]; exact hb.per g x0 x1
  · rw [up1_ne (by omega)]; exact hb.whi g x0 x1
  · rw [up1_ne (by omega)]; exact hb.tim g x0 x1
  · rw [up1_ne (by omega)]; exact hb.see g x0 x1
  · rw [up1_ne (by omega)]; exact hb.win g x0 x1
  · rw [up1_ne (by omega)]; exact hb.ran h' x0 x1
theorem DomK.groT {N : Int} {a : HI} {b : HR} {s : SH} {d : Nat} {σ : RW} {p w t : Int} (hp : 1 ≤ p ∧ p ≤ 60) (hw : 0 ≤ w ∧ w ≤ 3) (htt : 0 ≤ t ∧ t ≤ 9999) (h7 : 0 ≤ σ 7 ∧ σ 7 < 20) (H : DomK N a b s d σ) (hN : N + 1 ≤ 2000) (hd : d + 14 ≤ 157) : DomK (N + 1) (upR (upR (upR (upR (upR (upR a (d + 8) (up1 (a (d + 8)) 5 (σ 7 + 1))) (d + 8 + 1) (up1 (a (d + 8 + 1)) (σ 7) p)) (d + 8 + 2) (up1 (a (d + 8 + 2)) (σ 7) w)) (d + 8 + 3) (up1 (a (d + 8 + 3)) (σ 7) t)) (d + 8 + 4) (up1 (a (d + 8 + 4)) (σ 7) 0)) (d + 8 + 5) (up1 (a (d + 8 + 5)) (σ 7) 0)) b s d (groQ σ p w t) := by
  obtain ⟨h, ht, hb0⟩ := H
  have hb := hb0.mono (show N ≤ N + 1 by omega) hN
  unfold groQ
  refine ⟨RelD.mk (fun k x0 x1 => ?_) ?_ ?_ ?_ ?_ ?_ (fun l x0 x1 => ?_) (fun l x0 x1 => ?_) (fun l x0 x1 => ?_) (fun g x0 x1 => ?_) (fun g x0 x1 => ?_) (fun g x0 x1 => ?_) (fun g x0 x1 => ?_) (fun g x0 x1 => ?_) (fun h' x0 x1 => ?_) (fun h' x0 x1 => ?_), fun h0 x0 x1 hq => ?_, Bnd.mk ?_ ?_ ?_ ?_ ?_ ?_ ?_ ?_ ?_ ?_ ?_ (fun l x0 x1 => ?_) (fun l x0 x1 => ?_) (fun l x0 x1 => ?_) (fun g x0 x1 => ?_) (fun g x0 x1 => ?_) (fun g x0 x1 => ?_) (fun g x0 x1 => ?_) (fun g x0 x1 => ?_) (fun h' x0 x1 => ?_) hb.cn hb.ct⟩
  · rw [upR_ne (by omega), upR_ne (by omega), upR_ne (by omega), upR_ne (by omega), upR_ne (by omega), upR_ne (by omega), up1_ne (by omega), up1_ne (by omega), up1_ne (by omega), up1_ne (by omega), up1_ne (by omega), up1_ne (by omega)]; exact h.st k x0 x1
  · rw [upR_ne (by omega), upR_ne (by omega), upR_ne (by omega), upR_ne (by omega), upR_ne (by omega), upR_ne (by omega), up1_ne (by omega), up1_ne (by omega), up1_ne (by omega), up1_ne (by omega), up1_ne (by omega), up1_ne (by omega)]; exact h.nw
  · rw [upR_ne (by omega), upR_ne (by omega), upR_ne (by omega), upR_ne (by omega), upR_ne (by omega), upR_ne (by omega), up1_ne (by omega), up1_ne (by omega), up1_ne (by omega), up1_ne (by omega), up1_ne (by omega), up1_ne (by omega)]; exact h.co
  · rw [upR_ne (by omega), upR_ne (by omega), upR_ne (by omega), upR_ne (by omega), upR_ne (by omega), upR_ne (by omega), up1_ne (by omega), up1_ne (by omega), up1_ne (by omega), up1_ne (by omega), up1_ne (by omega), up1_ne (by omega)]; exact h.ru
  · rw [upR_ne (by omega), upR_ne (by omega), upR_ne (by omega), upR_ne (by omega), upR_ne (by omega), upR_ne (by omega), up1_ne (by omega), up1_ne (by omega), up1_ne (by omega), up1_ne (by omega), up1_ne (by omega), up1_ne (by omega)]; exact h.fo
  · rw [upR_ne (by omega), upR_ne (by omega), upR_ne (by omega), upR_ne (by omega), upR_ne (by omega), upR_at, up1_at, up1_at]
  · rw [upR_ne (by omega), upR_ne (by omega), upR_ne (by omega), upR_ne (by omega), upR_ne (by omega), upR_ne (by omega), up1_ne (by omega), up1_ne (by omega), up1_ne (by omega), up1_ne (by omega), up1_ne (by omega), up1_ne (by omega)]; exact h.bu l x0 x1
  · rw [upR_ne (by omega), upR_ne (by omega), upR_ne (by omega), upR_ne (by omega), upR_ne (by omega), upR_ne (by omega), up1_ne (by omega), up1_ne (by omega), up1_ne (by omega), up1_ne (by omega), up1_ne (by omega), up1_ne (by omega)]; exact h.hz l x0 x1
  · rw [upR_ne (by omega), upR_ne (by omega), upR_ne (by omega), upR_ne (by omega), upR_ne (by omega), upR_ne (by omega), up1_ne (by omega), up1_ne (by omega), up1_ne (by omega), up1_ne (by omega), up1_ne (by omega), up1_ne (by omega)]; exact h.ch l x0 x1
  · rw [upR_ne (by omega), upR_ne (by omega), upR_ne (by omega), upR_ne (by omega), upR_at]
    by_cases e : g = σ 7
    · rw [e, up1_at, up1_ne (by omega), up1_ne (by omega), up1_ne (by omega), up1_ne (by omega), up1_ne (by omega), up1_at]
    · rw [up1_ne e, up1_ne (by omega), up1_ne (by omega), up1_ne (by omega), up1_ne (by omega), up1_ne (by omega), up1_ne (by omega)]; exact h.pe g x0 x1
  · rw [upR_ne (by omega), upR_ne (by omega), upR_ne (by omega), upR_at]
    by_cases e : g = σ 7
    · rw [e, up1_at, up1_ne (by omega), up1_ne (by omega), up1_ne (by omega), up1_ne (by omega), up1_at]
    · rw [up1_ne e, up1_ne (by omega), up1_ne (by omega), up1_ne (by omega), up1_ne (by omega), up1_ne (by omega), up1_ne (by omega)]; exact h.wh g x0 x1
  · rw [upR_ne (by omega), upR_ne (by omega), upR_at]
    by_cases e : g = σ 7
    · rw [e, up1_at, up1_ne (by omega), up1_ne (by omega), up1_ne (by omega), up1_at]
    · rw [up1_ne e, up1_ne (by omega), up1_ne (by omega), up1_ne (by omega), up1_ne (by omega), up1_ne (by omega), up1_ne (by omega)]; exact h.ti g x0 x1
  · rw [upR_ne (by omega), upR_at]
    by_cases e : g = σ 7
    · rw [e, up1_at, up1_ne (by omega), up1_ne (by omega), up1_at]
    · rw [up1_ne e, up1_ne (by omega), up1_ne (by omega), up1_ne (by omega), up1_ne (by omega), up1_ne (by omega), up1_ne (by omega)]; exact h.se g x0 x1
  · rw [upR_at]
    by_cases e : g = σ 7
    · rw [e, up1_at, up1_ne (by omega), up1_at]
    · rw [up1_ne e, up1_ne (by omega), up1_ne (by omega), up1_ne (by omega), up1_ne (by omega), up1_ne (by omega), up1_ne (by omega)]; exact h.wi g x0 x1
  · rw [upR_ne (by omega), upR_ne (by omega), upR_ne (by omega), upR_ne (by omega), upR_ne (by omega), upR_ne (by omega), up1_ne (by omega), up1_ne (by omega), up1_ne (by omega), up1_ne (by omega), up1_ne (by omega), up1_ne (by omega)]; exact h.ra h' x0 x1
  · exact (h.sh h' x0 x1).tr (Keep.of (fun r hr => by rw [upR_ne (by omega), upR_ne (by omega), upR_ne (by omega), upR_ne (by omega), upR_ne (by omega), upR_ne (by omega)]) (fun _ _ => rfl)) (fun j y0 y1 y2 => by rw [up1_ne (by omega), up1_ne (by omega), up1_ne (by omega), up1_ne (by omega), up1_ne (by omega), up1_ne (by omega)])
  · have hs := h.sh h0 x0 x1
    have hx := ht h0 x0 x1 hq
    rcases hs with ⟨w, -⟩ | ⟨w1, -⟩
    · exact absurd w hq
    · exact hx.cg (fun j y0 y1 y2 => by rw [up1_ne (by omega), up1_ne (by omega), up1_ne (by omega), up1_ne (by omega), up1_ne (by omega), up1_ne (by omega)]) (by rw [upR_ne (by omega), upR_ne (by omega), upR_ne (by omega), upR_ne (by omega), upR_ne (by omega), upR_ne (by omega)]) rfl
  · rw [up1_ne (by omega), up1_ne (by omega), up1_ne (by omega), up1_ne (by omega), up1_ne (by omega), up1_ne (by omega)]; exact hb.lif
  · rw [up1_ne (by omega), up1_ne (by omega), up1_ne (by omega), up1_ne (by omega), up1_ne (by omega), up1_ne (by omega)]; exact hb.fog
  · rw [up1_ne (by omega), up1_ne (by omega), up1_ne (by omega), up1_ne (by omega), up1_ne (by omega), up1_ne (by omega)]; exact hb.dim
  · rw [up1_ne (by omega), up1_ne (by omega), up1_ne (by omega), up1_ne (by omega), up1_ne (by omega), up1_ne (by omega)]; exact hb.sea
  · rw [up1_ne (by omega), up1_ne (by omega), up1_ne (by omega), up1_ne (by omega), up1_ne (by omega), up1_ne (by omega)]; exact hb.pri
  · rw [up1_ne (by omega), up1_ne (by omega), up1_ne (by omega), up1_ne (by omega), up1_ne (by omega), up1_ne (by omega)]; exact hb.wai
  · rw [up1_ne (by omega), up1_ne (by omega), up1_ne (by omega), up1_ne (by omega), up1_ne (by omega), up1_ne (by omega)]; exact hb.now
  · rw [up1_at]; omega
  · rw [up1_ne (by omega), up1_ne (by omega), up1_ne (by omega), up1_ne (by omega), up1_ne (by omega), up1_ne (by omega)]; exact hb.coi
  · rw [up1_ne (by omega), up1_ne (by omega), up1_ne (by omega), up1_ne (by omega), up1_ne (by omega), up1_ne (by omega)]; exact hb.run
  · rw [up1_ne (by omega), up1_ne (by omega), up1_ne (by omega), up1_ne (by omega), up1_ne (by omega), up1_ne (by omega)]; exact hb.fgy
  · rw [up1_ne (by omega), up1_ne (by omega), up1_ne (by omega), up1_ne (by omega), up1_ne (by omega), up1_ne (by omega)]; exact hb.bur l x0 x1
  · rw [up1_ne (by omega), up1_ne (by omega), up1_ne (by omega), up1_ne (by omega), up1_ne (by omega), up1_ne (by omega)]; exact hb.haz l x0 x1
  · rw [up1_ne (by omega), up1_ne (by omega), up1_ne (by omega), up1_ne (by omega), up1_ne (by omega), up1_ne (by omega)]; exact hb.chg l x0 x1
  · by_cases e : g = σ 7
    · rw [e, up1_ne (by omega), up1_ne (by omega), up1_ne (by omega), up1_ne (by omega), up1_ne (by omega), up1_at]; omega
    · rw [up1_ne (by omega), up1_ne (by omega), up1_ne (by omega), up1_ne (by omega), up1_ne (by omega), up1_ne (by omega)]; exact hb.per g x0 x1
  · by_cases e : g = σ 7
    · rw [e, up1_ne (by omega), up1_ne (by omega), up1_ne (by omega), up1_ne (by omega), up1_at]; exact hw
    · rw [up1_ne (by omega), up1_ne (by omega), up1_ne (by omega), up1_ne (by omega), up1_ne (by omega), up1_ne (by omega)]; exact hb.whi g x0 x1
  · by_cases e : g = σ 7
    · rw [e, up1_ne (by omega), up1_ne (by omega), up1_ne (by omega), up1_at]; omega
    · rw [up1_ne (by omega), up1_ne (by omega), up1_ne (by omega), up1_ne (by omega), up1_ne (by omega), up1_ne (by omega)]; exact hb.tim g x0 x1
  · by_cases e : g = σ 7
    · rw [e, up1_ne (by omega), up1_ne (by omega), up1_at]; omega
    · rw [up1_ne (by omega), up1_ne (by omega), up1_ne (by omega), up1_ne (by omega), up1_ne (by omega), up1_ne (by omega)]; exact hb.see g x0 x1
  · by_cases e : g = σ 7
    · rw [e, up1_ne (by omega), up1_at]; have := hb.cn; omega
    · rw [up1_ne (by omega), up1_ne (by omega), up1_ne (by omega), up1_ne (by omega), up1_ne (by omega), up1_ne (by omega)]; exact hb.win g x0 x1
  · rw [up1_ne (by omega), up1_ne (by omega), up1_ne (by omega), up1_ne (by omega), up1_ne (by omega), up1_ne (by omega)]; exact hb.ran h' x0 x1
