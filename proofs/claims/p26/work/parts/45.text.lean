/-! ===== texts: what a show is, over the codes x of its characters ===== -/
/-- the lamps of n letters from i on -/
def mskL (x : Nat → Int) (i : Nat) : Nat → Int
  | 0 => 0
  | n + 1 => iO (mskL x i n) (iL 1 (x (i + n) - 97))
/-- a scene from i to j: what is lit in its minutes, its scenes, how deep it is -/
def Scn (x : Nat → Int) (i j : Nat) (c : List Int) (S D : Nat) : Prop := ∃ n num : Nat, 0 < n ∧ (∀ q : Nat, q < n → 97 ≤ x (i + q) ∧ x (i + q) ≤ 102) ∧ (49 ≤ x (i + n) ∧ x (i + n) ≤ 57) ∧ ((j = i + n + 1 ∧ (num : Int) = x (i + n) - 48) ∨ (j = i + n + 2 ∧ (48 ≤ x (i + n + 1) ∧ x (i + n + 1) ≤ 57) ∧ (num : Int) = 10 * (x (i + n) - 48) + (x (i + n + 1) - 48))) ∧ c = List.replicate num (mskL x i n) ∧ S = 1 ∧ D = 0
/-- m parts, a comma behind each -/
def Pre (x : Nat → Int) (P : Nat → Nat → List Int → Nat → Nat → Prop) : Nat → Nat → Nat → List Int → Nat → Nat → Prop
  | 0, i, e, c, S, D => e = i ∧ c = [] ∧ S = 0 ∧ D = 0
  | m + 1, i, e, c, S, D => ∃ (k j : Nat) (c1 c2 : List Int) (S1 S2 D1 D2 : Nat), Pre x P m i k c1 S1 D1 ∧ P k j c2 S2 D2 ∧ x j = 44 ∧ e = j + 1 ∧ c = c1 ++ c2 ∧ S = S1 + S2 ∧ D = max D1 D2
/-- a show from i to j -/
def ShoX (x : Nat → Int) (P : Nat → Nat → List Int → Nat → Nat → Prop) (i j : Nat) (c : List Int) (S D : Nat) : Prop := ∃ (m k : Nat) (c1 c2 : List Int) (S1 S2 D1 D2 : Nat), Pre x P m i k c1 S1 D1 ∧ P k j c2 S2 D2 ∧ c = c1 ++ c2 ∧ S = S1 + S2 ∧ D = max D1 D2
/-- a part, in which repeats may be n deep -/
def Prt (x : Nat → Int) : Nat → Nat → Nat → List Int → Nat → Nat → Prop
  | 0 => Scn x
  | n + 1 => fun i j c S D => Scn x i j c S D ∨ ∃ (r j' : Nat) (c' : List Int) (S' D' : Nat), (2 ≤ r ∧ r ≤ 9) ∧ x i = 48 + r ∧ x (i + 1) = 42 ∧ x (i + 2) = 40 ∧ ShoX x (Prt x n) (i + 3) j' c' S' D' ∧ x j' = 41 ∧ j = j' + 1 ∧ c = (List.replicate r c').flatten ∧ S = r * S' ∧ D = D' + 1
def Txt (x : Nat → Int) (len : Nat) (c : List Int) (S D : Nat) : Prop := ShoX x (Prt x 4) 0 len c S D
/-- all lamps of a row of minutes; how many of them light a lamp -/
def orL : List Int → Int
  | [] => 0
  | v :: c => iO v (orL c)
def cbL (l : Int) : List Int → Int
  | [] => 0
  | v :: c => (if bt v l = true then 1 else 0) + cbL l c
/-- what is known of a show whose minutes are c -/
def TxtC (σ : RW) (h : Int) (c : List Int) : Prop := σ (130 + 92 * h) = orL c ∧ (∀ l, 0 ≤ l → l < 6 → σ (134 + 92 * h + l) = cbL l c) ∧ (0 ≤ σ (131 + 92 * h) ∧ σ (131 + 92 * h) ≤ c.length) ∧ σ (132 + 92 * h) ≤ 4 ∧ ∀ v ∈ c, 0 < v ∧ v < 64
theorem TxtC.cg {σ τ : RW} {h : Int} {c : List Int} (H : TxtC σ h c) (e : ∀ j, 1 ≤ j → j < 11 → j ≠ 4 → τ (129 + 92 * h + j) = σ (129 + 92 * h + j)) : TxtC τ h c := by
  obtain ⟨h1, h2, h3, h4, h5⟩ := H
  have e1 := e 1 (by omega) (by omega) (by omega)
  have e2 := e 2 (by omega) (by omega) (by omega)
  have e3 := e 3 (by omega) (by omega) (by omega)
  rw [show 129 + 92 * h + 1 = 130 + 92 * h by omega] at e1
  rw [show 129 + 92 * h + 2 = 131 + 92 * h by omega] at e2
  rw [show 129 + 92 * h + 3 = 132 + 92 * h by omega] at e3
  refine ⟨e1.trans h1, fun l l0 l1 => ?_, ?_, ?_, h5⟩
  · have := e (5 + l) (by omega) (by omega) (by omega)
    rw [show 129 + 92 * h + (5 + l) = 134 + 92 * h + l by omega] at this
    exact this.trans (h2 l l0 l1)
  · rw [e2]; exact h3
  · rw [e3]; exact h4
/-- a show's minutes against its text -/
def ShoT (a : HI) (s : SH) (q : Nat) (σ : RW) (h : Int) : Prop := ∃ c : List Int, TxtC σ h c ∧ (c.length : Int) = σ (129 + 92 * h) ∧ ln s (q + 1) = c.length ∧ ∀ m : Nat, m < c.length → a (q + 1) m = c.getD m 0
theorem ShoT.cg {a a' : HI} {s s' : SH} {q : Nat} {σ τ : RW} {h : Int} (H : ShoT a s q σ h) (e : ∀ j, 0 ≤ j → j < 92 → j ≠ 4 → τ (129 + 92 * h + j) = σ (129 + 92 * h + j)) (e1 : a' (q + 1) = a (q + 1)) (e2 : ln s' (q + 1) = ln s (q + 1)) : ShoT a' s' q τ h := by
  obtain ⟨c, h1, h2, h3, h4⟩ := H
  have z := e 0 (by omega) (by omega) (by omega)
  rw [Int.add_zero] at z
  exact ⟨c, h1.cg (fun j g0 g1 g2 => e j (by omega) (by omega) g2), by rw [z]; exact h2, by rw [e2]; exact h3, by rw [e1]; exact h4⟩
def TxD (a : HI) (b : HR) (s : SH) (d : Nat) (σ : RW) : Prop := ∀ h, 0 ≤ h → h < 4 → b (d + 2) h ≠ 0 → ShoT a s (b (d + 2) h) σ h
/-- a dome against its row: all that is known of it -/
def DomK (N : Int) (a : HI) (b : HR) (s : SH) (d : Nat) (σ : RW) : Prop := RelD a b s d σ ∧ TxD a b s d σ ∧ Bnd N 99999 σ
theorem Bnd.mono {N N' T : Int} {σ : RW} (hb : Bnd N T σ) (h : N ≤ N') (h2 : N' ≤ 2000) : Bnd N' T σ := by
  have hc := hb.cn
  refine Bnd.mk hb.lif hb.fog hb.dim hb.sea hb.pri hb.wai hb.now hb.siz ?_ ?_ ?_ (fun l h0 h1 => ?_) hb.haz (fun l h0 h1 => ?_) hb.per hb.whi hb.tim hb.see (fun l h0 h1 => ?_) (fun l h0 h1 => ?_) ⟨by omega, h2⟩ hb.ct
  · have := hb.coi; omega
  · have := hb.run; omega
  · have := hb.fgy; omega
  · have := hb.bur l h0 h1; omega
  · have := hb.chg l h0 h1; omega
  · have := hb.win l h0 h1; omega
  · have := hb.ran l h0 h1; omega
theorem Bnd.cg {N T : Int} {σ τ : RW} (hb : Bnd N T σ) (e : ∀ j, 0 ≤ j → j < 497 → τ j = σ j) : Bnd N T τ := by
  refine Bnd.mk ?_ ?_ ?_ ?_ ?_ ?_ ?_ ?_ ?_ ?_ ?_ (fun l h0 h1 => ?_) (fun l h0 h1 => ?_) (fun l h0 h1 => ?_) (fun l h0 h1 => ?_) (fun l h0 h1 => ?_) (fun l h0 h1 => ?_) (fun l h0 h1 => ?_) (fun l h0 h1 => ?_) (fun l h0 h1 => ?_) hb.cn hb.ct
  · rw [e _ (by omega) (by omega)]; exact hb.lif
  · rw [e _ (by omega) (by omega)]; exact hb.fog
  · rw [e _ (by omega) (by omega)]; exact hb.dim
  · rw [e _ (by omega) (by omega)]; exact hb.sea
  · rw [e _ (by omega) (by omega)]; exact hb.pri
  · rw [e _ (by omega) (by omega)]; exact hb.wai
  · rw [e _ (by omega) (by omega)]; exact hb.now
  · rw [e _ (by omega) (by omega)]; exact hb.siz
  · rw [e _ (by omega) (by omega)]; exact hb.coi
  · rw [e _ (by omega) (by omega)]; exact hb.run
  · rw [e _ (by omega) (by omega)]; exact hb.fgy
  · rw [e _ (by omega) (by omega)]; exact hb.bur l h0 h1
  · rw [e _ (by omega) (by omega)]; exact hb.haz l h0 h1
  · rw [e _ (by omega) (by omega)]; exact hb.chg l h0 h1
  · rw [e _ (by omega) (by omega)]; exact hb.per l h0 h1
  · rw [e _ (by omega) (by omega)]; exact hb.whi l h0 h1
  · rw [e _ (by omega) (by omega)]; exact hb.tim l h0 h1
  · rw [e _ (by omega) (by omega)]; exact hb.see l h0 h1
  · rw [e _ (by omega) (by omega)]; exact hb.win l h0 h1
  · rw [e _ (by omega) (by omega)]; exact hb.ran l h0 h1
/-- what a show's relation needs of its cells: they lie where they lay -/
def Keep (a a' : HI) (b b' : HR) (s s' : SH) : Prop := ∀ r, 157 ≤ r → kd s r ≠ 99 → a' r = a r ∧ b' r = b r ∧ kd s' r = kd s r ∧ ln s' r = ln s r
theorem Keep.rfl' {a : HI} {b : HR} {s : SH} : Keep a a b b s s := fun _ _ _ => ⟨rfl, rfl, rfl, rfl⟩
theorem Keep.of {a a' : HI} {b b' : HR} {s : SH} (e : ∀ r, 157 ≤ r → a' r = a r) (e2 : ∀ r, 157 ≤ r → b' r = b r) : Keep a a' b b' s s := fun r h _ => ⟨e r h, e2 r h, rfl, rfl⟩
theorem ShoR.tr {a a' : HI} {b b' : HR} {s s' : SH} {q : Nat} {σ τ : RW} {h : Int} (H : ShoR a b s q σ h) (K : Keep a a' b b' s s') (e : ∀ j, 0 ≤ j → j < 11 → j ≠ 4 → τ (129 + 92 * h + j) = σ (129 + 92 * h + j)) : ShoR a' b' s' q τ h := by
  have e2 : ∀ k, 0 ≤ k → k < 4 → τ (129 + 92 * h + k) = σ (129 + 92 * h + k) := fun k h0 h1 => e k h0 (by omega) (by omega)
  have e3 : ∀ k, 0 ≤ k → k < 6 → τ (134 + 92 * h + k) = σ (134 + 92 * h + k) := fun k h0 h1 => by
    have := e (5 + k) (by omega) (by omega) (by omega)
    rw [show 129 + 92 * h + (5 + k) = 134 + 92 * h + k by omega] at this
    exact this
  have z := e2 0 (by omega) (by omega)
  rw [Int.add_zero] at z
  rcases H with ⟨w, z1, z2⟩ | ⟨w1, ⟨s0, s1, ⟨s2, s3⟩, s4⟩, w3, w4, w5, k, g0, g1, g2⟩
  · exact Or.inl ⟨w, fun k h0 h1 => (e2 k h0 h1).trans (z1 k h0 h1), fun k h0 h1 => (e3 k h0 h1).trans (z2 k h0 h1)⟩
  · obtain ⟨q1, q2, q3, q4⟩ := K q w1 (by rw [s0]; decide)
    obtain ⟨r1, r2, r3, r4⟩ := K (q + 1) (by omega) (by rw [s2]; decide)
    obtain ⟨t1, t2, t3, t4⟩ := K (q + 2) (by omega) (by rw [s3]; decide)
    refine Or.inr ⟨w1, ⟨q3.trans s0, by rw [q2]; exact s1, ⟨r3.trans s2, t3.trans s3⟩, t4.trans s4⟩, ?_, ?_, fun k h0 h1 => ?_, k, g0, g1, ?_⟩
    · rw [q1, z, e2 1 (by omega) (by omega), e2 2 (by omega) (by omega), e2 3 (by omega) (by omega)]; exact w3
    · rw [z]; exact w4
    · rw [t1, e3 k h0 h1]; exact w5 k h0 h1
    · rw [e3 k g0 g1]; exact g2
theorem DomK.mono {N N' : Int} {a : HI} {b : HR} {s : SH} {d : Nat} {σ : RW} (H : DomK N a b s d σ) (h : N ≤ N') (h2 : N' ≤ 2000) : DomK N' a b s d σ := ⟨H.1, H.2.1, H.2.2.mono h h2⟩
theorem DomK.tr {N : Int} {a a' : HI} {b b' : HR} {s s' : SH} {d : Nat} {σ : RW} (H : DomK N a b s d σ) (e : ∀ r, d ≤ r → r < d + 14 → a' r = a r) (e2 : b' (d + 2) = b (d + 2)) (K : Keep a a' b b' s s') : DomK N a' b' s' d σ := by
  obtain ⟨h, ht, hb⟩ := H
  have e3 : ∀ k, k < 14 → a' (d + k) = a (d + k) := fun k hk => e _ (by omega) (by omega)
  refine ⟨?_, fun g x0 x1 hq => ?_, hb⟩
  · refine RelD.mk (fun k x0 x1 => ?_) ?_ ?_ ?_ ?_ ?_ (fun l x0 x1 => ?_) (fun l x0 x1 => ?_) (fun l x0 x1 => ?_) (fun g x0 x1 => ?_) (fun g x0 x1 => ?_) (fun g x0 x1 => ?_) (fun g x0 x1 => ?_) (fun g x0 x1 => ?_) (fun k x0 x1 => ?_) (fun k x0 x1 => ?_)
    · rw [e (d + 1) (by omega) (by omega)]; exact h.st k x0 x1
    · rw [e d (by omega) (by omega)]; exact h.nw
    · rw [e d (by omega) (by omega)]; exact h.co
    · rw [e d (by omega) (by omega)]; exact h.ru
    · rw [e d (by omega) (by omega)]; exact h.fo
    · rw [e (d + 8) (by omega) (by omega)]; exact h.sz
    · rw [e (d + 4 + 1) (by omega) (by omega)]; exact h.bu l x0 x1
    · rw [e (d + 4 + 2) (by omega) (by omega)]; exact h.hz l x0 x1
    · rw [e (d + 4 + 3) (by omega) (by omega)]; exact h.ch l x0 x1
    · rw [e (d + 8 + 1) (by omega) (by omega)]; exact h.pe g x0 x1
    · rw [e (d + 8 + 2) (by omega) (by omega)]; exact h.wh g x0 x1
    · rw [e (d + 8 + 3) (by omega) (by omega)]; exact h.ti g x0 x1
    · rw [e (d + 8 + 4) (by omega) (by omega)]; exact h.se g x0 x1
    · rw [e (d + 8 + 5) (by omega) (by omega)]; exact h.wi g x0 x1
    · rw [e (d + 3) (by omega) (by omega)]; exact h.ra k x0 x1
    · rw [e2]
      exact (h.sh k x0 x1).tr K (fun _ _ _ _ => rfl)
  · rw [e2] at hq ⊢
    have H := ht g x0 x1 hq
    rcases h.sh g x0 x1 with ⟨w, -⟩ | ⟨w1, ⟨s0, s1, ⟨s2, s3⟩, s4⟩, -⟩
    · exact absurd w hq
    · obtain ⟨r1, r2, r3, r4⟩ := K (b (d + 2) g + 1) (by omega) (by rw [s2]; decide)
      exact H.cg (fun _ _ _ _ => rfl) r1 r4
theorem DomK.cg {N : Int} {a : HI} {b : HR} {s : SH} {d : Nat} {σ τ : RW} (H : DomK N a b s d σ) (e : ∀ j, 0 ≤ j → j < 497 → τ j = σ j) : DomK N a b s d τ := by
  obtain ⟨h, ht, hb⟩ := H
  refine ⟨?_, fun g x0 x1 hq => ?_, hb.cg e⟩
  · refine RelD.mk (fun k x0 x1 => ?_) ?_ ?_ ?_ ?_ ?_ (fun l x0 x1 => ?_) (fun l x0 x1 => ?_) (fun l x0 x1 => ?_) (fun g x0 x1 => ?_) (fun g x0 x1 => ?_) (fun g x0 x1 => ?_) (fun g x0 x1 => ?_) (fun g x0 x1 => ?_) (fun k x0 x1 => ?_) (fun k x0 x1 => ?_)
    · rw [e _ (by omega) (by omega)]; exact h.st k x0 x1
    · rw [e _ (by omega) (by omega)]; exact h.nw
    · rw [e _ (by omega) (by omega)]; exact h.co
    · rw [e _ (by omega) (by omega)]; exact h.ru
    · rw [e _ (by omega) (by omega)]; exact h.fo
    · rw [e _ (by omega) (by omega)]; exact h.sz
    · rw [e _ (by omega) (by omega)]; exact h.bu l x0 x1
    · rw [e _ (by omega) (by omega)]; exact h.hz l x0 x1
    · rw [e _ (by omega) (by omega)]; exact h.ch l x0 x1
    · rw [e _ (by omega) (by omega)]; exact h.pe g x0 x1
    · rw [e _ (by omega) (by omega)]; exact h.wh g x0 x1
    · rw [e _ (by omega) (by omega)]; exact h.ti g x0 x1
    · rw [e _ (by omega) (by omega)]; exact h.se g x0 x1
    · rw [e _ (by omega) (by omega)]; exact h.wi g x0 x1
    · rw [e _ (by omega) (by omega)]; exact h.ra k x0 x1
    · exact (h.sh k x0 x1).tr Keep.rfl' (fun j y0 y1 _ => e _ (by omega) (by omega))
  · exact (ht g x0 x1 hq).cg (fun j y0 y1 _ => e _ (by omega) (by omega)) rfl rfl
