/-! ===== what the reader knows ===== -/
theorem msk_1 : ∀ v : Nat, v < 64 → ∀ j : Nat, j < 6 → 0 ≤ iO v (iL 1 j) ∧ iO v (iL 1 j) < 64 := by decide +kernel
theorem msk_in {x : Nat → Int} {i : Nat} : ∀ n : Nat, (∀ q : Nat, q < n → 97 ≤ x (i + q) ∧ x (i + q) ≤ 102) → 0 ≤ mskL x i n ∧ mskL x i n < 64
  | 0, _ => by unfold mskL; omega
  | n + 1, h => by
    have ih := msk_in n (fun q hq => h q (by omega))
    have h1 := h n (by omega)
    unfold mskL
    have h2 := msk_1 (mskL x i n).toNat (by omega) (x (i + n) - 97).toNat (by omega)
    rw [Int.toNat_of_nonneg ih.1, Int.toNat_of_nonneg (by omega)] at h2
    exact h2
theorem mskL_s (x : Nat → Int) (i n : Nat) : mskL x i (n + 1) = iO (mskL x i n) (iL 1 (x (i + n) - 97)) := rfl
/-- lengths of what is read -/
theorem Scn.len {x : Nat → Int} {i j : Nat} {c : List Int} {S D : Nat} (h : Scn x i j c S D) : i < j ∧ 0 < c.length ∧ c.length ≤ 99 * (j - i) ∧ S = 1 ∧ D = 0 ∧ ∀ v ∈ c, 0 ≤ v ∧ v < 64 := by
  obtain ⟨n, num, h0, h1, h2, h3, h4, h5, h6⟩ := h
  have hm := msk_in n h1
  have hl : c.length = num := by rw [h4, List.length_replicate]
  refine ⟨?_, ?_, ?_, h5, h6, fun v hv => by rw [h4] at hv; rw [List.eq_of_mem_replicate hv]; exact hm⟩
  · rcases h3 with ⟨e, -⟩ | ⟨e, -⟩ <;> omega
  · rw [hl]; rcases h3 with ⟨e, w⟩ | ⟨e, w1, w⟩ <;> omega
  · rw [hl]
    rcases h3 with ⟨e, w⟩ | ⟨e, w1, w⟩ <;> omega
def PLen (n : Nat) (P : Nat → Nat → List Int → Nat → Nat → Prop) : Prop := ∀ i j c S D, P i j c S D → i < j ∧ 0 < c.length ∧ c.length ≤ 99 * 9 ^ n * (j - i) ∧ S ≤ 9 ^ n * (j - i) ∧ D ≤ n ∧ ∀ v ∈ c, 0 ≤ v ∧ v < 64
theorem Pre.len {x : Nat → Int} {n : Nat} {P : Nat → Nat → List Int → Nat → Nat → Prop} (hP : PLen n P) : ∀ (m i e : Nat) (c : List Int) (S D : Nat), Pre x P m i e c S D → i ≤ e ∧ c.length ≤ 99 * 9 ^ n * (e - i) ∧ S ≤ 9 ^ n * (e - i) ∧ D ≤ n ∧ ∀ v ∈ c, 0 ≤ v ∧ v < 64
  | 0, i, e, c, S, D, h => by
    obtain ⟨h1, h2, h3, h4⟩ := h
    subst h1; subst h2; subst h3; subst h4
    simp
  | m + 1, i, e, c, S, D, h => by
    obtain ⟨k, j, c1, c2, S1, S2, D1, D2, h1, h2, h3, h4, h5, h6, h7⟩ := h
    obtain ⟨q1, q2, q3, q4, q5⟩ := Pre.len hP m i k c1 S1 D1 h1
    obtain ⟨p1, p2, p3, p4, p5, p6⟩ := hP k j c2 S2 D2 h2
    subst h4; subst h5; subst h6; subst h7
    have e1 : 99 * 9 ^ n * (k - i) + 99 * 9 ^ n * (j - k) = 99 * 9 ^ n * (j - i) := by rw [← Nat.mul_add]; congr 1; omega
    have e2 : 9 ^ n * (k - i) + 9 ^ n * (j - k) = 9 ^ n * (j - i) := by rw [← Nat.mul_add]; congr 1; omega
    have e3 : 99 * 9 ^ n * (j - i) ≤ 99 * 9 ^ n * (j + 1 - i) := Nat.mul_le_mul_left _ (by omega)
    have e4 : 9 ^ n * (j - i) ≤ 9 ^ n * (j + 1 - i) := Nat.mul_le_mul_left _ (by omega)
    refine ⟨by omega, by rw [List.length_append]; omega, by omega, by omega, fun v hv => ?_⟩
    rcases List.mem_append.mp hv with w | w
    · exact q5 v w
    · exact p6 v w
theorem ShoX.len {x : Nat → Int} {n : Nat} {P : Nat → Nat → List Int → Nat → Nat → Prop} (hP : PLen n P) {i j : Nat} {c : List Int} {S D : Nat} (h : ShoX x P i j c S D) : i < j ∧ 0 < c.length ∧ c.length ≤ 99 * 9 ^ n * (j - i) ∧ S ≤ 9 ^ n * (j - i) ∧ D ≤ n ∧ ∀ v ∈ c, 0 ≤ v ∧ v < 64 := by
  obtain ⟨m, k, c1, c2, S1, S2, D1, D2, h1, h2, h5, h6, h7⟩ := h
  obtain ⟨q1, q2, q3, q4, q5⟩ := Pre.len hP m i k c1 S1 D1 h1
  obtain ⟨p1, p2, p3, p4, p5, p6⟩ := hP k j c2 S2 D2 h2
  subst h5; subst h6; subst h7
  have e1 : 99 * 9 ^ n * (k - i) + 99 * 9 ^ n * (j - k) = 99 * 9 ^ n * (j - i) := by rw [← Nat.mul_add]; congr 1; omega
  have e2 : 9 ^ n * (k - i) + 9 ^ n * (j - k) = 9 ^ n * (j - i) := by rw [← Nat.mul_add]; congr 1; omega
  refine ⟨by omega, by rw [List.length_append]; omega, by rw [List.length_append]; omega, by omega, by omega, fun v hv => ?_⟩
  rcases List.mem_append.mp hv with w | w
  · exact q5 v w
  · exact p6 v w
theorem flat_len {r : Nat} {c : List Int} : ((List.replicate r c).flatten).length = r * c.length := by
  induction r with
  | zero => simp
  | succ r ih => rw [List.replicate_succ, List.flatten_cons, List.length_append, ih, Nat.add_mul]; omega
theorem flat_mem {r : Nat} {c : List Int} {v : Int} (h : v ∈ (List.replicate r c).flatten) : v ∈ c := by
  obtain ⟨l, h1, h2⟩ := List.mem_flatten.mp h
  rw [List.eq_of_mem_replicate h1] at h2
  exact h2
theorem Prt.len {x : Nat → Int} : ∀ n : Nat, PLen n (Prt x n)
  | 0 => fun i j c S D h => by
    obtain ⟨h1, h2, h3, h4, h5, h6⟩ := Scn.len h
    rw [Nat.pow_zero]
    exact ⟨h1, h2, by omega, by omega, by omega, h6⟩
  | n + 1 => fun i j c S D h => by
    have p1 : 1 ≤ 9 ^ n := Nat.one_le_pow _ _ (by omega)
    have e1 : 9 ^ (n + 1) = 9 ^ n * 9 := Nat.pow_succ _ _
    rcases h with h | ⟨r, j', c', S', D', hr, -, -, -, h1, -, h2, h3, h4, h5⟩
    · obtain ⟨h1, h2, h3, h4, h5, h6⟩ := Scn.len h
      have e2 : 1 * (j - i) ≤ 9 ^ (n + 1) * (j - i) := Nat.mul_le_mul_right _ (by omega)
      rw [Nat.mul_assoc]
      exact ⟨h1, h2, by omega, by omega, by omega, h6⟩
    · obtain ⟨q1, q2, q3, q4, q5, q6⟩ := ShoX.len (Prt.len n) h1
      subst h3; subst h4; subst h5; subst h2
      have e3 : r * c'.length ≤ 9 * (99 * 9 ^ n * (j' - (i + 3))) := Nat.mul_le_mul hr.2 q3
      have e4 : r * S' ≤ 9 * (9 ^ n * (j' - (i + 3))) := Nat.mul_le_mul hr.2 q4
      have e5 : 9 ^ n * (j' - (i + 3)) ≤ 9 ^ n * (j' + 1 - i) := Nat.mul_le_mul_left _ (by omega)
      have e6 : 9 ^ (n + 1) * (j' + 1 - i) = 9 * (9 ^ n * (j' + 1 - i)) := by rw [e1, Nat.mul_comm (9 ^ n) 9, Nat.mul_assoc]
      have e7 : 99 * 9 ^ (n + 1) * (j' + 1 - i) = 99 * (9 * (9 ^ n * (j' + 1 - i))) := by rw [Nat.mul_assoc, e6]
      have e8 : 99 * 9 ^ n * (j' - (i + 3)) = 99 * (9 ^ n * (j' - (i + 3))) := Nat.mul_assoc _ _ _
      refine ⟨by omega, ?_, ?_, ?_, by omega, fun v hv => q6 v (flat_mem hv)⟩
      · rw [flat_len]; exact Nat.mul_pos (by omega) q2
      · rw [flat_len, e7]; omega
      · rw [e6]; omega
/-- the repeats that are begun: level by level what was read before -/
def RdI (x : Nat → Int) (m8 m9 m0 : Int → Int) : Nat → Nat → List Int → Nat → Nat → Prop
  | 0, e, C, S, Dp => ∃ m, Pre x (Prt x 4) m 0 e C S Dp
  | d + 1, e, C, S, Dp => ∃ (p : Nat) (C0 : List Int) (S0 D0 r m : Nat) (c1 : List Int) (S1 D1 : Nat), RdI x m8 m9 m0 d p C0 S0 D0 ∧ (2 ≤ r ∧ r ≤ 9) ∧ x p = 48 + r ∧ x (p + 1) = 42 ∧ x (p + 2) = 40 ∧ Pre x (Prt x (3 - d)) m (p + 3) e c1 S1 D1 ∧ C = C0 ++ c1 ∧ S = S0 + S1 ∧ Dp = max D0 (d + 1 + D1) ∧ m8 d = r ∧ m9 d = C0.length ∧ m0 d = S0
theorem RdI.cg {x : Nat → Int} {m8 m9 m0 n8 n9 n0 : Int → Int} : ∀ (d e : Nat) (C : List Int) (S Dp : Nat), RdI x m8 m9 m0 d e C S Dp → (∀ i : Nat, i < d → n8 i = m8 i ∧ n9 i = m9 i ∧ n0 i = m0 i) → RdI x n8 n9 n0 d e C S Dp
  | 0, _, _, _, _, h, _ => h
  | d + 1, e, C, S, Dp, h, g => by
    obtain ⟨p, C0, S0, D0, r, m, c1, S1, D1, h1, h2, h3, h4, h5, h6, h7, h8, h9, y1, y2, y3⟩ := h
    obtain ⟨g1, g2, g3⟩ := g d (by omega)
    exact ⟨p, C0, S0, D0, r, m, c1, S1, D1, RdI.cg d p C0 S0 D0 h1 (fun i hi => g i (by omega)), h2, h3, h4, h5, h6, h7, h8, h9, g1.trans y1, g2.trans y2, g3.trans y3⟩
theorem RdI.len {x : Nat → Int} {m8 m9 m0 : Int → Int} : ∀ (d e : Nat) (C : List Int) (S Dp : Nat), RdI x m8 m9 m0 d e C S Dp → d ≤ 4 → C.length ≤ 649539 * e ∧ S ≤ 6561 * e ∧ Dp ≤ 4 ∧ d ≤ Dp ∧ ∀ v ∈ C, 0 ≤ v ∧ v < 64
  | 0, e, C, S, Dp, h, _ => by
    obtain ⟨m, h⟩ := h
    obtain ⟨q1, q2, q3, q4, q5⟩ := Pre.len (Prt.len 4) m 0 e C S Dp h
    rw [show 99 * 9 ^ 4 = 649539 from rfl] at q2
    rw [show 9 ^ 4 = 6561 from rfl] at q3
    exact ⟨by omega, by omega, q4, by omega, q5⟩
  | d + 1, e, C, S, Dp, h, hd => by
    obtain ⟨p, C0, S0, D0, r, m, c1, S1, D1, h1, h2, h3, h4, h5, h6, h7, h8, h9, -⟩ := h
    obtain ⟨q1, q2, q3, q4, q5⟩ := RdI.len d p C0 S0 D0 h1 (by omega)
    obtain ⟨p1, p2, p3, p4, p5⟩ := Pre.len (Prt.len (3 - d)) m (p + 3) e c1 S1 D1 h6
    have e1 : 9 ^ (3 - d) ≤ 9 ^ 4 := Nat.pow_le_pow_right (by omega) (by omega)
    rw [show 9 ^ 4 = 6561 from rfl] at e1
    have e2 : 9 ^ (3 - d) * (e - (p + 3)) ≤ 6561 * (e - (p + 3)) := Nat.mul_le_mul_right _ e1
    rw [Nat.mul_assoc] at p2
    subst h7; subst h8; subst h9
    refine ⟨by rw [List.length_append]; omega, by omega, by omega, by omega, fun v hv => ?_⟩
    rcases List.mem_append.mp hv with w | w
    · exact q5 v w
    · exact p5 v w
/-- a part ended by a comma -/
theorem RdI.comma {x : Nat → Int} {m8 m9 m0 : Int → Int} {d e k : Nat} {C c : List Int} {S Dp S' D' : Nat} (h : RdI x m8 m9 m0 d e C S Dp) (hp : Prt x (4 - d) e k c S' D') (hk : x k = 44) : RdI x m8 m9 m0 d (k + 1) (C ++ c) (S + S') (max Dp (d + D')) := by
  cases d with
  | zero =>
    obtain ⟨m, h⟩ := h
    exact ⟨m + 1, e, k, C, c, S, S', Dp, D', h, hp, hk, rfl, rfl, rfl, by rw [Nat.zero_add]⟩
  | succ d =>
    obtain ⟨p, C0, S0, D0, r, m, c1, S1, D1, h1, h2, h3, h4, h5, h6, h7, h8, h9, y1, y2, y3⟩ := h
    rw [show 4 - (d + 1) = 3 - d by omega] at hp
    refine ⟨p, C0, S0, D0, r, m + 1, c1 ++ c, S1 + S', max D1 D', h1, h2, h3, h4, h5, ⟨e, k, c1, c, S1, S', D1, D', h6, hp, hk, rfl, rfl, rfl, rfl⟩, by rw [h7, List.append_assoc], by omega, by omega, y1, y2, y3⟩
/-- a repeat begun -/
theorem RdI.opn {x : Nat → Int} {m8 m9 m0 : Int → Int} {d e : Nat} {C : List Int} {S Dp r : Nat} (h : RdI x m8 m9 m0 d e C S Dp) (hr : 2 ≤ r ∧ r ≤ 9) (h1 : x e = 48 + r) (h2 : x (e + 1) = 42) (h3 : x (e + 2) = 40) (h8 : m8 d = r) (h9 : m9 d = C.length) (h0 : m0 d = S) : RdI x m8 m9 m0 (d + 1) (e + 3) C S (max Dp (d + 1)) := ⟨e, C, S, Dp, r, 0, [], 0, 0, h, hr, h1, h2, h3, ⟨rfl, rfl, rfl, rfl⟩, by rw [List.append_nil], rfl, rfl, h8, h9, h0⟩
/-- a repeat closed: it is a part of the level below -/
theorem RdI.close {x : Nat → Int} {m8 m9 m0 : Int → Int} {d e k : Nat} {C c : List Int} {S Dp S' D' : Nat} (h : RdI x m8 m9 m0 (d + 1) e C S Dp) (hd : d ≤ 3) (hp : Prt x (4 - (d + 1)) e k c S' D') (hk : x k = 41) : ∃ (p : Nat) (C0 : List Int) (S0 D0 r : Nat) (c2 : List Int) (S2 D2 : Nat), RdI x m8 m9 m0 d p C0 S0 D0 ∧ (2 ≤ r ∧ r ≤ 9) ∧ Prt x (4 - d) p (k + 1) ((List.replicate r c2).flatten) (r * S2) (D2 + 1) ∧ C ++ c = C0 ++ c2 ∧ S + S' = S0 + S2 ∧ max Dp (d + 1 + D') = max D0 (d + (D2 + 1)) ∧ m8 d = r ∧ m9 d = C0.length ∧ m0 d = S0 ∧ 0 < c2.length := by
  obtain ⟨p, C0, S0, D0, r, m, c1, S1, D1, h1, h2, h3, h4, h5, h6, h7, h8, h9, y1, y2, y3⟩ := h
  rw [show 4 - (d + 1) = 3 - d by omega] at hp
  have hs : ShoX x (Prt x (3 - d)) (p + 3) k (c1 ++ c) (S1 + S') (max D1 D') := ⟨m, e, c1, c, S1, S', D1, D', h6, hp, rfl, rfl, rfl⟩
  refine ⟨p, C0, S0, D0, r, c1 ++ c, S1 + S', max D1 D', h1, h2, ?_, by rw [h7, List.append_assoc], by omega, by omega, y1, y2, y3, (ShoX.len (Prt.len _) hs).2.1⟩
  rw [show 4 - d = (3 - d) + 1 by omega]
  exact Or.inr ⟨r, k, c1 ++ c, S1 + S', max D1 D', h2, h3, h4, h5, hs, hk, rfl, rfl, rfl, rfl⟩
theorem gd_l {l m : List Int} {i : Nat} (h : i < l.length) : (l ++ m).getD i 0 = l.getD i 0 := by
  rw [List.getD_eq_getElem?_getD, List.getD_eq_getElem?_getD, List.getElem?_append_left h]
theorem gd_r {l m : List Int} {i : Nat} (h : l.length ≤ i) : (l ++ m).getD i 0 = m.getD (i - l.length) 0 := by
  rw [List.getD_eq_getElem?_getD, List.getD_eq_getElem?_getD, List.getElem?_append_right h]
/-- rows of minutes -/
def BufI (f : Int → Int) (C : List Int) : Prop := ∀ m : Nat, m < C.length → m < 999 → f m = C.getD m 0
theorem BufI.lay {f : Int → Int} {C : List Int} {n : Nat} {v : Int} (h : BufI f C) : BufI (layB f C.length (C.length + n) v) (C ++ List.replicate n v) := by
  intro m h1 h2
  rw [List.length_append, List.length_replicate] at h1
  dsimp only [layB]
  by_cases c : m < C.length
  · rw [if_neg (by omega), h m c h2, gd_l c]
  · rw [if_pos ⟨by omega, by omega, by omega⟩, gd_r (by omega)]
    rw [List.getD_eq_getElem?_getD, List.getElem?_replicate, if_pos (by omega)]
    rfl
theorem flat_getD {c : List Int} (hc : 0 < c.length) : ∀ (r j : Nat), j < r * c.length → ((List.replicate r c).flatten).getD j 0 = c.getD (j % c.length) 0
  | 0, j, h => by omega
  | r + 1, j, h => by
    rw [List.replicate_succ, List.flatten_cons]
    by_cases d : j < c.length
    · rw [gd_l d, Nat.mod_eq_of_lt d]
    · rw [gd_r (by omega), flat_getD hc r (j - c.length) (by rw [Nat.add_mul] at h; omega)]
      rw [Nat.mod_eq_sub_mod (a := j) (b := c.length) (by omega)]
theorem BufI.rep {f : Int → Int} {C0 c : List Int} {r : Nat} (hr : 1 ≤ r) (hc : 0 < c.length) (h : BufI f (C0 ++ c)) {M E L : Int} (hM : M = (C0 ++ c).length) (hE : E = C0.length + r * c.length) (hL : L = c.length) : BufI (rpB f M E L) (C0 ++ (List.replicate r c).flatten) := by
  intro m h1 h2
  rw [List.length_append, flat_len] at h1
  rw [List.length_append] at hM
  dsimp only [rpB]
  by_cases q : m < C0.length + c.length
  · rw [if_neg (by omega), h m (by rw [List.length_append]; exact q) h2]
    by_cases q2 : m < C0.length
    · rw [gd_l q2, gd_l q2]
    · rw [gd_r (by omega), gd_r (by omega), flat_getD hc r _ (by omega), Nat.mod_eq_of_lt (by omega)]
  · have e1 : ((m : Int) - M) % L = (((m - C0.length) % c.length : Nat) : Int) := by
      rw [hM, hL, Int.natCast_emod]
      rw [show ((m : Int) - ((C0.length + c.length : Nat) : Int)) = (((m - C0.length : Nat) : Int)) + (-1) * (c.length : Int) by omega, Int.add_mul_emod_self_right]
    have e2 : (m - C0.length) % c.length < c.length := Nat.mod_lt _ hc
    have hE2 : (m : Int) < E := by rw [hE]; omega
    rw [if_pos ⟨by omega, hE2, by omega⟩, e1]
    rw [show M - L + (((m - C0.length) % c.length : Nat) : Int) = ((C0.length + (m - C0.length) % c.length : Nat) : Int) by omega]
    rw [h _ (by rw [List.length_append]; omega) (by omega), gd_r (by omega), gd_r (by omega), flat_getD hc r _ (by omega)]
    congr 1; omega
