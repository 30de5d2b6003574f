/-! ===== how long a show of the law's texts can be ===== -/
/-- how many characters of a text are c, up to k -/
def ctN (c : Int) (x : Nat → Int) : Nat → Nat
  | 0 => 0
  | k + 1 => ctN c x k + (if x k = c then 1 else 0)
theorem ctN_s (c : Int) (x : Nat → Int) (k : Nat) : ctN c x (k + 1) = ctN c x k + (if x k = c then 1 else 0) := rfl
theorem ctN_le {c : Int} {x : Nat → Int} {i : Nat} : ∀ n : Nat, ctN c x i ≤ ctN c x (i + n)
  | 0 => Nat.le_refl _
  | n + 1 => by
    have := ctN_le (c := c) (x := x) (i := i) n
    rw [← Nat.add_assoc, ctN_s]; omega
theorem ctN_mono {c : Int} {x : Nat → Int} {i j : Nat} (h : i ≤ j) : ctN c x i ≤ ctN c x j := by
  have := ctN_le (c := c) (x := x) (i := i) (j - i)
  rw [show i + (j - i) = j by omega] at this
  exact this
theorem ctN_cg {c : Int} {x y : Nat → Int} : ∀ {p : Nat}, (∀ k, k < p → y k = x k) → ctN c y p = ctN c x p
  | 0, _ => rfl
  | p + 1, e => by rw [ctN_s, ctN_s, ctN_cg (fun k hk => e k (by omega)), e p (by omega)]
/-- no number above 30, no repeat of more than 4 -/
def NumK (x : Nat → Int) (p : Nat) : Prop := ∀ q, q + 1 < p → 49 ≤ x q → x q ≤ 57 → 48 ≤ x (q + 1) → x (q + 1) ≤ 57 → 10 * (x q - 48) + (x (q + 1) - 48) ≤ 30
def RepK (x : Nat → Int) (p : Nat) : Prop := ∀ q, q + 1 < p → x (q + 1) = 42 → x q ≤ 52
/-- a piece's minutes against its commas, in a text with one bracket at most -/
def BdP (x : Nat → Int) (len : Nat) (P : Nat → Nat → List Int → Nat → Nat → Prop) : Prop := ∀ i j c S D, P i j c S D → j ≤ len → i ≤ j ∧ c.length ≤ 30 * S ∧ (ctN 40 x j = ctN 40 x i → S ≤ ctN 44 x j - ctN 44 x i + 1) ∧ (ctN 40 x j ≤ ctN 40 x i + 1 → S ≤ 4 * (ctN 44 x j - ctN 44 x i + 1))
theorem Scn.bd {x : Nat → Int} {len : Nat} (hN : NumK x len) : BdP x len (Scn x) := by
  intro i j c S D h hj
  have hl := h.len
  obtain ⟨n, num, h0, h1, h2, h3, h4, h5, h6⟩ := h
  have hc : c.length = num := by rw [h4, List.length_replicate]
  refine ⟨by omega, ?_, fun _ => by omega, fun _ => by omega⟩
  rw [hc, h5]
  rcases h3 with ⟨e, e2⟩ | ⟨e, e1, e2⟩
  · omega
  · have := hN (i + n) (by omega) h2.1 h2.2 e1.1 e1.2
    omega
theorem Pre.bd {x : Nat → Int} {len : Nat} {P : Nat → Nat → List Int → Nat → Nat → Prop} (hP : BdP x len P) : ∀ (m i e : Nat) (c : List Int) (S D : Nat), Pre x P m i e c S D → e ≤ len → i ≤ e ∧ c.length ≤ 30 * S ∧ (ctN 40 x e = ctN 40 x i → S ≤ ctN 44 x e - ctN 44 x i) ∧ (ctN 40 x e ≤ ctN 40 x i + 1 → S ≤ 4 * (ctN 44 x e - ctN 44 x i))
  | 0, i, e, c, S, D, h, he => by
    obtain ⟨h1, h2, h3, h4⟩ := h
    subst h1; subst h2; subst h3; subst h4
    simp
  | m + 1, i, e, c, S, D, h, he => by
    obtain ⟨k, j, c1, c2, S1, S2, D1, D2, h1, h2, h3, h4, h5, h6, h7⟩ := h
    subst h4; subst h5; subst h6; subst h7
    obtain ⟨p1, p2, p3, p4⟩ := hP k j c2 S2 D2 h2 (by omega)
    obtain ⟨q1, q2, q3, q4⟩ := Pre.bd hP m i k c1 S1 D1 h1 (by omega)
    have e1 := ctN_s 40 x j
    have e2 := ctN_s 44 x j
    rw [if_neg (by omega)] at e1
    rw [if_pos h3] at e2
    have m1 := ctN_mono (c := 40) (x := x) q1
    have m2 := ctN_mono (c := 40) (x := x) p1
    have m3 := ctN_mono (c := 44) (x := x) q1
    have m4 := ctN_mono (c := 44) (x := x) p1
    refine ⟨by omega, by rw [List.length_append]; omega, fun h => ?_, fun h => ?_⟩
    · have := p3 (by omega); have := q3 (by omega); omega
    · have := p4 (by omega); have := q4 (by omega); omega
theorem ShoX.bd {x : Nat → Int} {len : Nat} {P : Nat → Nat → List Int → Nat → Nat → Prop} (hP : BdP x len P) : BdP x len (ShoX x P) := by
  intro i j c S D h hj
  obtain ⟨m, k, c1, c2, S1, S2, D1, D2, h1, h2, h5, h6, h7⟩ := h
  subst h5; subst h6; subst h7
  obtain ⟨p1, p2, p3, p4⟩ := hP k j c2 S2 D2 h2 hj
  obtain ⟨q1, q2, q3, q4⟩ := Pre.bd hP m i k c1 S1 D1 h1 (by omega)
  have m1 := ctN_mono (c := 40) (x := x) q1
  have m2 := ctN_mono (c := 40) (x := x) p1
  have m3 := ctN_mono (c := 44) (x := x) q1
  have m4 := ctN_mono (c := 44) (x := x) p1
  refine ⟨by omega, by rw [List.length_append]; omega, fun h => ?_, fun h => ?_⟩
  · have := p3 (by omega); have := q3 (by omega); omega
  · have := p4 (by omega); have := q4 (by omega); omega
theorem Prt.bd {x : Nat → Int} {len : Nat} (hN : NumK x len) (hR : RepK x len) : ∀ n : Nat, BdP x len (Prt x n)
  | 0 => Scn.bd hN
  | n + 1 => fun i j c S D h hj => by
    rcases h with h | ⟨r, j', c', S', D', hr, g1, g2, g3, h1, h2, h3, h4, h5, h6⟩
    · exact Scn.bd hN i j c S D h hj
    · subst h3; subst h4; subst h5; subst h6
      obtain ⟨p1, p2, p3, p4⟩ := ShoX.bd (Prt.bd hN hR n) _ _ _ _ _ h1 (by omega)
      have r4 : r ≤ 4 := by
        have := hR i (by omega) g2
        omega
      have e1 := ctN_s 40 x j'
      have e2 := ctN_s 44 x j'
      have e3 := ctN_s 40 x (i + 2)
      have m1 := ctN_mono (c := 40) (x := x) p1
      have m2 := ctN_mono (c := 40) (x := x) (show i ≤ i + 2 by omega)
      have m3 := ctN_mono (c := 44) (x := x) p1
      have m4 := ctN_mono (c := 44) (x := x) (show i ≤ i + 3 by omega)
      rw [if_neg (by omega)] at e1
      rw [if_neg (by omega)] at e2
      rw [if_pos g3, show i + 2 + 1 = i + 3 by omega] at e3
      have k1 : r * c'.length ≤ r * (30 * S') := Nat.mul_le_mul_left r p2
      have k2 : r * (30 * S') = 30 * (r * S') := by rw [Nat.mul_left_comm]
      have k3 : r * S' ≤ 4 * S' := Nat.mul_le_mul_right S' r4
      refine ⟨by omega, by rw [flat_len]; omega, fun h => by omega, fun h => ?_⟩
      have := p3 (by omega)
      omega
/-- a show of such a text is short -/
theorem txt_short {x : Nat → Int} {len : Nat} {c : List Int} {S D : Nat} (h : Txt x len c S D) (hN : NumK x len) (hR : RepK x len) (h4 : ctN 40 x len ≤ 1) (h5 : ctN 44 x len ≤ 2) : c.length ≤ 360 := by
  obtain ⟨-, p2, -, p4⟩ := ShoX.bd (Prt.bd hN hR 4) _ _ _ _ _ h (Nat.le_refl _)
  have e1 : ctN 40 x 0 = 0 := rfl
  have e2 : ctN 44 x 0 = 0 := rfl
  have := p4 (by omega)
  omega
/-! ===== a text as it is being written ===== -/
/-- p characters; what may follow, how deep, how many commas and brackets, the last character -/
def TxG (x : Nat → Int) (p : Nat) (w d : Int) (m o : Nat) (l : Int) : Prop := okT x p ∧ aut x p = (w, d) ∧ ctN 44 x p = m ∧ ctN 40 x p = o ∧ NumK x p ∧ RepK x p ∧ ∀ q, q + 1 = p → x q = l
theorem TxG.put {x y : Nat → Int} {p : Nat} {w d c : Int} {m o : Nat} {l : Int} (H : TxG x p w d m o l) (e : ∀ k, k < p → y k = x k) (hy : y p = c) (hs : stp w d c ≠ -6) (hn : 48 ≤ c → c ≤ 57 → 49 ≤ l → l ≤ 57 → 10 * (l - 48) + (c - 48) ≤ 30) (hr : c = 42 → l ≤ 52) : TxG y (p + 1) (stp w d c) (d + dpt c) (m + if c = 44 then 1 else 0) (o + if c = 40 then 1 else 0) c := by
  obtain ⟨h1, h2, h3, h4, h5, h6, h7⟩ := H
  have ea : ∀ k, k ≤ p → aut y k = aut x k := flt_cg e
  refine ⟨fun q hq => ?_, ?_, ?_, ?_, fun q hq g0 g1 g2 g3 => ?_, fun q hq g => ?_, fun q hq => ?_⟩
  · by_cases c1 : q = p
    · subst c1
      rw [ea _ (Nat.le_refl _), h2, hy]; exact hs
    · rw [ea q (by omega), e q (by omega)]; exact h1 q (by omega)
  · rw [aut_s, ea p (Nat.le_refl _), h2, hy]
  · rw [ctN_s, ctN_cg e, h3, hy]
  · rw [ctN_s, ctN_cg e, h4, hy]
  · by_cases c1 : q + 1 = p
    · rw [c1, hy] at g2 g3 ⊢
      rw [e q (by omega), h7 q c1] at g0 g1 ⊢
      exact hn g2 g3 g0 g1
    · rw [e q (by omega)] at g0 g1 ⊢
      rw [e (q + 1) (by omega)] at g2 g3 ⊢
      exact h5 q (by omega) g0 g1 g2 g3
  · by_cases c1 : q + 1 = p
    · rw [c1, hy] at g
      rw [e q (by omega), h7 q c1]
      exact hr g
    · rw [e q (by omega)]
      rw [e (q + 1) (by omega)] at g
      exact h6 q (by omega) g
  · rw [show q = p by omega]; exact hy
theorem TxG.nil {x : Nat → Int} : TxG x 0 0 0 0 0 0 := ⟨fun q hq => absurd hq (Nat.not_lt_zero q), rfl, rfl, rfl, fun q hq => absurd hq (by omega), fun q hq => absurd hq (by omega), fun q hq => absurd hq (by omega)⟩
theorem TxG.cg {x y : Nat → Int} {p : Nat} {w d : Int} {m o : Nat} {l : Int} (H : TxG x p w d m o l) (e : ∀ k, k < p → y k = x k) : TxG y p w d m o l := by
  obtain ⟨h1, h2, h3, h4, h5, h6, h7⟩ := H
  have ea : ∀ k, k ≤ p → aut y k = aut x k := flt_cg e
  exact ⟨fun q hq => by rw [ea q (by omega), e q hq]; exact h1 q hq, by rw [ea p (Nat.le_refl _)]; exact h2, by rw [ctN_cg e]; exact h3, by rw [ctN_cg e]; exact h4, fun q hq => by rw [e q (by omega), e (q + 1) hq]; exact h5 q hq, fun q hq => by rw [e q (by omega), e (q + 1) hq]; exact h6 q hq, fun q hq => by rw [e q (by omega)]; exact h7 q hq⟩
theorem flt_good {x : Nat → Int} {len : Nat} {w : Int} (ho : okT x len) (ha : aut x len = (w, 0)) (hw : w = 2 ∨ w = 3 ∨ w = 6) : ∀ n k : Nat, k + n = len → flt x len n k = -6
  | 0, k, e => by
    have : k = len := by omega
    subst this
    unfold flt
    rw [ha, if_pos ⟨hw, rfl⟩]
  | n + 1, k, e => by
    rw [flt_s, if_neg (ho k (by omega))]
    exact flt_good ho ha hw n (k + 1) (by omega)
