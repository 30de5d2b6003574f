/-! ===== both sides together ===== -/
def BI (N : Int) (w : Int → Int) (L : Nat) (a : HI) (b : HR) (s : SH) : Prop := (CS N a b s (a 158) (a 157 3) (fun k j => a 160 (497 * k + j)) (a 162) (fun k j => a 161 (497 * k + j))) ∧ (MoS s b) ∧ (RdS s b) ∧ (TbS a s) ∧ (∀ j, 0 ≤ a 37 j ∧ a 37 j ≤ 63) ∧ (∃ len : Nat, a 34 1 = len ∧ a 157 7 = len ∧ len ≤ 80 ∧ ∀ k : Nat, k < len → a 35 k = a 163 k) ∧ ((∀ r, nx s + 5 ≤ r → kd s r = 99) ∧ 168 ≤ nx s + 5) ∧ ((nx s : Int) ≤ 1000 + 3 * N ∧ (ns s : Int) ≤ 100000 + 1100 * N) ∧ (a 1 = w ∧ kd s 1 = 20 ∧ ln s 1 = L)
theorem BI.cls {N : Int} {w : Int → Int} {L : Nat} {a : HI} {b : HR} {s : SH} (h : BI N w L a b s) : CS N a b s (a 158) (a 157 3) (fun k j => a 160 (497 * k + j)) (a 162) (fun k j => a 161 (497 * k + j)) := h.1
theorem BI.mod {N : Int} {w : Int → Int} {L : Nat} {a : HI} {b : HR} {s : SH} (h : BI N w L a b s) : MoS s b := h.2.1
theorem BI.rd {N : Int} {w : Int → Int} {L : Nat} {a : HI} {b : HR} {s : SH} (h : BI N w L a b s) : RdS s b := h.2.2.1
theorem BI.tb {N : Int} {w : Int → Int} {L : Nat} {a : HI} {b : HR} {s : SH} (h : BI N w L a b s) : TbS a s := h.2.2.2.1
theorem BI.buf {N : Int} {w : Int → Int} {L : Nat} {a : HI} {b : HR} {s : SH} (h : BI N w L a b s) : ∀ j, 0 ≤ a 37 j ∧ a 37 j ≤ 63 := h.2.2.2.2.1
theorem BI.pad {N : Int} {w : Int → Int} {L : Nat} {a : HI} {b : HR} {s : SH} (h : BI N w L a b s) : ∃ len : Nat, a 34 1 = len ∧ a 157 7 = len ∧ len ≤ 80 ∧ ∀ k : Nat, k < len → a 35 k = a 163 k := h.2.2.2.2.2.1
theorem BI.liv {N : Int} {w : Int → Int} {L : Nat} {a : HI} {b : HR} {s : SH} (h : BI N w L a b s) : (∀ r, nx s + 5 ≤ r → kd s r = 99) ∧ 168 ≤ nx s + 5 := h.2.2.2.2.2.2.1
theorem BI.rom {N : Int} {w : Int → Int} {L : Nat} {a : HI} {b : HR} {s : SH} (h : BI N w L a b s) : (nx s : Int) ≤ 1000 + 3 * N ∧ (ns s : Int) ≤ 100000 + 1100 * N := h.2.2.2.2.2.2.2.1
theorem BI.scr {N : Int} {w : Int → Int} {L : Nat} {a : HI} {b : HR} {s : SH} (h : BI N w L a b s) : a 1 = w ∧ kd s 1 = 20 ∧ ln s 1 = L := h.2.2.2.2.2.2.2.2
theorem BI.mk {N : Int} {w : Int → Int} {L : Nat} {a : HI} {b : HR} {s : SH} (cls_ : CS N a b s (a 158) (a 157 3) (fun k j => a 160 (497 * k + j)) (a 162) (fun k j => a 161 (497 * k + j))) (mod_ : MoS s b) (rd_ : RdS s b) (tb_ : TbS a s) (buf_ : ∀ j, 0 ≤ a 37 j ∧ a 37 j ≤ 63) (pad_ : ∃ len : Nat, a 34 1 = len ∧ a 157 7 = len ∧ len ≤ 80 ∧ ∀ k : Nat, k < len → a 35 k = a 163 k) (liv_ : (∀ r, nx s + 5 ≤ r → kd s r = 99) ∧ 168 ≤ nx s + 5) (rom_ : (nx s : Int) ≤ 1000 + 3 * N ∧ (ns s : Int) ≤ 100000 + 1100 * N) (scr_ : a 1 = w ∧ kd s 1 = 20 ∧ ln s 1 = L) : BI N w L a b s := ⟨cls_, mod_, rd_, tb_, buf_, pad_, liv_, rom_, scr_⟩
def Two (N : Int) (w : Int → Int) (L : Nat) (y y' : Nat) (args : List Vl) (a : HI) (b : HR) (s : SH) : Prop := ∃ (r : Int) (a1 : HI) (b1 : HR) (s1 : SH) (a2 : HI) (b2 : HR) (s2 : SH), Mn y (vR 5 :: args) a b s = some ([vI r], a1, b1, s1) ∧ Mn y' (vR 157 :: args) a1 b1 s1 = some ([vI r], a2, b2, s2) ∧ (a1 1 = w ∧ kd s1 1 = 20 ∧ ln s1 1 = L ∧ kd s1 157 = 8) ∧ BI (N + 1) w L a2 b2 s2
theorem kn_3 {a : HI} : knA a 157 3 = recZ (a 157 3) := by
  unfold knA recZ
  rw [upR_ne (by omega), upR_at, up1_at]
theorem kn_7 {a : HI} : knA a 157 7 = a 157 7 := by
  unfold knA
  rw [upR_ne (by omega), upR_at, up1_ne (by omega)]
theorem kn_160 {a : HI} (h : 0 ≤ a 157 3 ∧ a 157 3 ≤ 6) {k j : Int} (k0 : 0 ≤ k) (k1 : k < recZ (a 157 3)) (j0 : 0 ≤ j) (j1 : j < 497) : knA a 160 (497 * k + j) = recR (a 157 3) (fun k j => a 160 (497 * k + j)) (a 158) k j := by
  unfold knA recR
  unfold recZ at k1
  rw [upR_at]
  generalize a 157 3 = z at *
  by_cases c : z = 6
  · rw [if_pos c] at k1
    rw [if_pos c, if_pos c]
    unfold segQ shfQ
    by_cases d : k < 5
    · rw [if_pos d, if_neg (by omega), if_pos (by omega)]; congr 1; omega
    · rw [if_neg d, if_pos (by omega)]; congr 1; omega
  · rw [if_neg c] at k1
    rw [if_neg c, if_neg c]
    unfold segQ
    by_cases d : k < z
    · rw [if_pos d, if_neg (by omega)]
    · rw [if_neg d, if_pos (by omega)]; congr 1; omega
section BOTH
variable {N : Int} {w : Int → Int} {L : Nat} {a : HI} {b : HR} {s : SH}
theorem BI.mono {N' : Int} (B : BI N w L a b s) (h : N ≤ N') (h2 : N' ≤ 2000) : BI N' w L a b s := BI.mk (B.cls.mono h h2) B.mod B.rd B.tb B.buf B.pad B.liv (by have := B.rom; omega) B.scr
theorem bi_mk {N' : Int} {a1 a2 : HI} {b1 : HR} {s1 : SH} {σ' : RW} {z' : Int} {ρ' : Int → RW} {sv' : Int → Int} {ς' : Int → RW} (B : BI N w L a b s) (hC : CS N' a1 b1 s1 σ' z' ρ' sv' ς') (hA : Agr s s1) (fa : ∀ r, (r < 5 ∨ (157 ≤ r ∧ r < 168)) → a1 r = a r) (fb : ∀ r, (r < 5 ∨ (34 ≤ r ∧ r < 41) ∨ (157 ≤ r ∧ r < 168)) → b1 r = b r) (hbuf : ∀ j, 0 ≤ a1 37 j ∧ a1 37 j ≤ 63) (hpad : ∃ len : Nat, a1 34 1 = len ∧ a2 157 7 = len ∧ len ≤ 80 ∧ ∀ k : Nat, k < len → a1 35 k = a2 163 k) (hliv : (∀ r, nx s1 + 5 ≤ r → kd s1 r = 99) ∧ 168 ≤ nx s1 + 5) (hrom : (nx s1 : Int) ≤ 1000 + 3 * N' ∧ (ns s1 : Int) ≤ 100000 + 1100 * N') (fm : ∀ r, (r < 157 ∨ 168 ≤ r) → a2 r = a1 r) (h158 : ∀ j, 0 ≤ j → j < 497 → a2 158 j = σ' j) (h3 : a2 157 3 = z') (h160 : ∀ k, 0 ≤ k → k < z' → ∀ j, 0 ≤ j → j < 497 → a2 160 (497 * k + j) = ρ' k j) (h162 : ∀ j, 0 ≤ j → j < 2 → a2 162 j = sv' j) (h161 : ∀ k, 0 ≤ k → k < 2 → sv' k = 1 → ∀ j, 0 ≤ j → j < 497 → a2 161 (497 * k + j) = ς' k j) : BI N' w L a2 b1 s1 := by
  obtain ⟨len, p1, p2, p3, p4⟩ := hpad
  refine BI.mk ?_ (B.mod.ks hA (fb 157 (by omega))) (B.rd.ks hA ⟨fb 36 (by omega), fb 34 (by omega)⟩) (B.tb.ks hA ⟨by rw [fm 3 (by omega)]; exact fa 3 (by omega), by rw [fm 4 (by omega)]; exact fa 4 (by omega)⟩) (by rw [fm 37 (by omega)]; exact hbuf) ⟨len, by rw [fm 34 (by omega)]; exact p1, p2, p3, by rw [fm 35 (by omega)]; exact p4⟩ hliv hrom ?_
  · rw [h3]
    exact (hC.fr fm).cg h158 h160 h162 h161
  · rw [fm 1 (by omega), fa 1 (by omega), (hA 1 (by omega)).1, (hA 1 (by omega)).2]; exact B.scr
theorem Agr.refl' {s : SH} : Agr s s := fun _ _ => ⟨rfl, rfl⟩
theorem two_ask {y y' : Nat} {args : List Vl} {r : Int} (B : BI N w L a b s) (hN : N + 1 ≤ 2000) (hc : Mn y (vR 5 :: args) a b s = some ([vI r], a, b, s)) (hm : Mn y' (vR 157 :: args) a b s = some ([vI r], a, b, s)) : Two N w L y y' args a b s := ⟨r, a, b, s, a, b, s, hc, hm, ⟨B.scr.1, B.scr.2.1, B.scr.2.2, B.mod.1⟩, B.mono (by omega) hN⟩
theorem two_chg {y y' : Nat} {args : List Vl} {r : Int} {τ τ2 : RW} (B : BI N w L a b s) (hN : N + 1 ≤ 2000) (hc : ∃ a1 b1, Mn y (vR 5 :: args) a b s = some ([vI r], a1, b1, s) ∧ CS (N + 1) a1 b1 s τ (recZ (a 157 3)) (recR (a 157 3) (fun k j => a 160 (497 * k + j)) (a 158)) (a 162) (fun k j => a 161 (497 * k + j)) ∧ FrX a a1 ∧ FrX b b1) (hm : ∀ (a1 : HI) (b1 : HR), FrX a a1 → MoS s b1 → Mn y' (vR 157 :: args) a1 b1 s = some ([vI r], upR (knA a1) 158 τ2, b1, s)) (ht : ∀ j, 0 ≤ j → j < 497 → τ2 j = τ j) : Two N w L y y' args a b s := by
  obtain ⟨a1, b1, e1, hC, fa, fb⟩ := hc
  have hM : MoS s b1 := B.mod.ks Agr.refl' (fb 157 (by omega))
  have e2 := hm a1 b1 fa hM
  obtain ⟨-, z0, z1⟩ := B.cls.hsz
  have f157 : a1 157 = a 157 := fa 157 (by omega)
  refine ⟨r, a1, b1, s, _, b1, s, e1, e2, ⟨by rw [fa 1 (by omega)]; exact B.scr.1, B.scr.2.1, B.scr.2.2, hM.1⟩, ?_⟩
  obtain ⟨len, p1, p2, p3, p4⟩ := B.pad
  have hrom := B.rom
  refine bi_mk B hC Agr.refl' (fun r hr => fa r (by omega)) (fun r hr => fb r (by omega)) (by rw [fa 37 (by omega)]; exact B.buf) ⟨len, by rw [fa 34 (by omega)]; exact p1, by rw [upR_ne (by omega), kn_7, f157]; exact p2, p3, fun k hk => by rw [fa 35 (by omega), upR_ne (by omega), kn_ne (by omega) (by omega), fa 163 (by omega)]; exact p4 k hk⟩ B.liv (by omega) (fun r hr => by rw [upR_ne (by omega), kn_ne (by omega) (by omega)]) (fun j j0 j1 => by rw [upR_at]; exact ht j j0 j1) (by rw [upR_ne (by omega), kn_3, f157]) (fun k k0 k1 j j0 j1 => ?_) (fun j j0 j1 => by rw [upR_ne (by omega), kn_ne (by omega) (by omega), fa 162 (by omega)]) (fun k k0 k1 _ j j0 j1 => by rw [upR_ne (by omega), kn_ne (by omega) (by omega), fa 161 (by omega)])
  rw [upR_ne (by omega), kn_160 (by rw [f157]; exact ⟨z0, z1⟩) k0 (by rw [f157]; exact k1) j0 j1, f157, fa 160 (by omega), fa 158 (by omega)]
end BOTH
