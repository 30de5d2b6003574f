/-! ===== the model: what is told of a text ===== -/
theorem iO_assoc (x y z : Int) : iO (iO x y) z = iO x (iO y z) := by
  unfold iO; rw [Int32.ofInt_toInt, Int32.ofInt_toInt, Int32.or_assoc]
theorem iO_comm (x y : Int) : iO x y = iO y x := by
  unfold iO; rw [Int32.or_comm]
theorem iO_self {x : Int} (h : InR x) : iO x x = x := by
  unfold iO; rw [Int32.or_self]; exact Int32.toInt_ofInt_of_le h.1 (by omega)
theorem iO_0' {x : Int} (h : InR x) : iO 0 x = x := by rw [iO_comm, iO_0 h]
theorem orL_R : ∀ c : List Int, InR (orL c)
  | [] => by unfold orL; omega
  | v :: c => or_R _ _
theorem orL_app : ∀ c e : List Int, orL (c ++ e) = iO (orL c) (orL e)
  | [], e => (iO_0' (orL_R e)).symm
  | v :: c, e => by
    show iO v (orL (c ++ e)) = iO (iO v (orL c)) (orL e)
    rw [orL_app c e, iO_assoc]
theorem orL_rep {v : Int} (h : InR v) : ∀ n : Nat, 0 < n → orL (List.replicate n v) = v
  | 1, _ => iO_0 h
  | n + 2, _ => by
    show iO v (orL (List.replicate (n + 1) v)) = v
    rw [orL_rep h (n + 1) (by omega), iO_self h]
theorem orL_flat {c : List Int} : ∀ r : Nat, 0 < r → orL ((List.replicate r c).flatten) = orL c
  | 1, _ => by simp
  | r + 2, _ => by
    rw [List.replicate_succ, List.flatten_cons, orL_app, orL_flat (r + 1) (by omega), iO_self (orL_R c)]
theorem cbL_app (l : Int) : ∀ c e : List Int, cbL l (c ++ e) = cbL l c + cbL l e
  | [], e => by show cbL l e = 0 + cbL l e; omega
  | v :: c, e => by
    show _ + cbL l (c ++ e) = _ + cbL l c + cbL l e
    rw [cbL_app l c e]; omega
theorem cbL_rep (l v : Int) : ∀ n : Nat, cbL l (List.replicate n v) = if bt v l = true then (n : Int) else 0
  | 0 => by show (0 : Int) = _; split <;> rfl
  | n + 1 => by
    show (if bt v l = true then 1 else 0) + cbL l (List.replicate n v) = _
    rw [cbL_rep l v n]
    split <;> omega
theorem cbL_flat (l : Int) (c : List Int) : ∀ r : Nat, cbL l ((List.replicate r c).flatten) = r * cbL l c
  | 0 => by simp [cbL]
  | r + 1 => by
    rw [List.replicate_succ, List.flatten_cons, cbL_app, cbL_flat l c r, Int.natCast_add, Int.add_mul]; omega
theorem cbL_in (l : Int) : ∀ c : List Int, 0 ≤ cbL l c ∧ cbL l c ≤ c.length
  | [] => by show (0 : Int) ≤ 0 ∧ (0 : Int) ≤ 0; omega
  | v :: c => by
    have := cbL_in l c
    show 0 ≤ (if bt v l = true then 1 else 0) + cbL l c ∧ (if bt v l = true then 1 else 0) + cbL l c ≤ ((c.length + 1 : Nat) : Int)
    split <;> omega
/-- against the class's row -/
theorem cbF_L {f : Int → Int} {c : List Int} (h : ∀ m : Nat, m < c.length → f m = c.getD m 0) (l : Int) : cbF f l c.length = cbL l c := by
  have : ∀ (e d : List Int), e ++ d = c → cbF f l e.length + cbL l d = cbL l c := by
    intro e d he
    subst he
    rw [cbL_app]
    congr 1
    have h2 : ∀ m : Nat, m < e.length → f m = e.getD m 0 := fun m hm => by rw [h m (by rw [List.length_append]; omega), gd_l hm]
    clear h
    have : ∀ n : Nat, n ≤ e.length → cbF f l n = cbL l (e.take n) := by
      intro n
      induction n with
      | zero => intro _; rw [List.take_zero]; rfl
      | succ n ih =>
        intro hn
        rw [cbF_s, ih (by omega), h2 n (by omega), List.take_add_one, cbL_app, List.getD_eq_getElem?_getD, List.getElem?_eq_getElem (by omega)]
        congr 1
        show _ = (if bt (e[n]) l = true then 1 else 0) + 0
        rw [Int.add_zero]; rfl
    rw [this e.length (Nat.le_refl _), List.take_length]
  have h3 := this c [] (List.append_nil c)
  rw [show cbL l [] = 0 from rfl, Int.add_zero] at h3
  exact h3
theorem orF_L {f : Int → Int} {c : List Int} (h : ∀ m : Nat, m < c.length → f m = c.getD m 0) (hv : ∀ v ∈ c, 0 ≤ v ∧ v < 64) : orF f c.length = orL c := by
  have : ∀ n : Nat, n ≤ c.length → orF f n = orL (c.take n) := by
    intro n
    induction n with
    | zero => intro _; rw [List.take_zero]; rfl
    | succ n ih =>
      intro hn
      rw [orF_s, ih (by omega), h n (by omega), List.take_add_one, orL_app, List.getD_eq_getElem?_getD, List.getElem?_eq_getElem (by omega)]
      congr 1
      show _ = iO (c[n]) 0
      have := hv c[n] (List.getElem_mem _)
      rw [iO_0 (by omega)]; rfl
  rw [this c.length (Nat.le_refl _), List.take_length]
/-- what is told, after a piece of a text that runs μ times -/
def tlQ (T : RW) (c : List Int) (S D : Nat) (d μ : Int) : RW := fun k => if k = 0 then T 0 + c.length * μ else if k = 1 then iO (T 1) (orL c) else if k = 2 then T 2 + S * μ else if k = 3 then max (T 3) (d + D) else if 5 ≤ k ∧ k < 11 then T k + cbL (k - 5) c * μ else T k
theorem tl_0 {T : RW} {c : List Int} {S D : Nat} {d μ : Int} : tlQ T c S D d μ 0 = T 0 + c.length * μ := rfl
theorem tl_1 {T : RW} {c : List Int} {S D : Nat} {d μ : Int} : tlQ T c S D d μ 1 = iO (T 1) (orL c) := rfl
theorem tl_2 {T : RW} {c : List Int} {S D : Nat} {d μ : Int} : tlQ T c S D d μ 2 = T 2 + S * μ := rfl
theorem tl_3 {T : RW} {c : List Int} {S D : Nat} {d μ : Int} : tlQ T c S D d μ 3 = max (T 3) (d + D) := rfl
theorem tl_l {T : RW} {c : List Int} {S D : Nat} {d μ k : Int} (h : 5 ≤ k ∧ k < 11) : tlQ T c S D d μ k = T k + cbL (k - 5) c * μ := by
  unfold tlQ
  rw [if_neg (by omega), if_neg (by omega), if_neg (by omega), if_neg (by omega), if_pos h]
theorem tl_e {T : RW} {c : List Int} {S D : Nat} {d μ k : Int} (h : k < 0 ∨ k = 4 ∨ 11 ≤ k) : tlQ T c S D d μ k = T k := by
  unfold tlQ
  rw [if_neg (by omega), if_neg (by omega), if_neg (by omega), if_neg (by omega), if_neg (by omega)]
theorem tlQ_app {T : RW} {c e : List Int} {S S' D D' : Nat} {d μ : Int} : tlQ (tlQ T c S D d μ) e S' D' d μ = tlQ T (c ++ e) (S + S') (max D D') d μ := by
  funext k
  by_cases k5 : 5 ≤ k ∧ k < 11
  · rw [tl_l k5, tl_l k5, tl_l k5, cbL_app, Int.add_mul]; omega
  · by_cases k4 : k < 0 ∨ k = 4 ∨ 11 ≤ k
    · rw [tl_e k4, tl_e k4, tl_e k4]
    · have hk : k = 0 ∨ k = 1 ∨ k = 2 ∨ k = 3 := by omega
      rcases hk with rfl | rfl | rfl | rfl
      · rw [tl_0, tl_0, tl_0, List.length_append, Int.natCast_add, Int.add_mul]; omega
      · rw [tl_1, tl_1, tl_1, orL_app, iO_assoc]
      · rw [tl_2, tl_2, tl_2, Int.natCast_add, Int.add_mul]; omega
      · rw [tl_3, tl_3, tl_3]; omega
theorem tlQ_rep {T : RW} {c : List Int} {S D r : Nat} {d μ : Int} (hr : 0 < r) : tlQ (up1 T 3 (max (T 3) (d + 1))) c S D (d + 1) (μ * r) = tlQ T ((List.replicate r c).flatten) (r * S) (D + 1) d μ := by
  funext k
  have e : ∀ v : Int, v * (μ * r) = r * v * μ := fun v => by rw [Int.mul_comm (r : Int) v, Int.mul_assoc, Int.mul_comm (r : Int) μ]
  by_cases k5 : 5 ≤ k ∧ k < 11
  · rw [tl_l k5, tl_l k5, up1_ne (by omega), cbL_flat, e]
  · by_cases k4 : k < 0 ∨ k = 4 ∨ 11 ≤ k
    · rw [tl_e k4, tl_e k4, up1_ne (by omega)]
    · have hk : k = 0 ∨ k = 1 ∨ k = 2 ∨ k = 3 := by omega
      rcases hk with rfl | rfl | rfl | rfl
      · rw [tl_0, tl_0, up1_ne (by omega), flat_len, Int.natCast_mul, e]
      · rw [tl_1, tl_1, up1_ne (by omega), orL_flat r hr]
      · rw [tl_2, tl_2, up1_ne (by omega), Int.natCast_mul, e]
      · rw [tl_3, tl_3, up1_at]; omega
/-- the numbers told so far, i characters read -/
def TlB (T : RW) (i d : Nat) : Prop := (0 ≤ T 0 ∧ T 0 ≤ 649539 * i) ∧ InR (T 1) ∧ (0 ≤ T 2 ∧ T 2 ≤ 6561 * i) ∧ ((d : Int) ≤ T 3 ∧ T 3 ≤ 4) ∧ ∀ l, 0 ≤ l → l < 6 → 0 ≤ T (5 + l) ∧ T (5 + l) ≤ 649539 * i
theorem TlB.tl {T : RW} {i j d n : Nat} {c : List Int} {S D : Nat} {μ : Int} (h : TlB T i d) (hc : c.length ≤ 99 * 9 ^ n * (j - i)) (hS : S ≤ 9 ^ n * (j - i)) (hD : D ≤ n) (hij : i < j) (hdn : d + n ≤ 4) (hμ : 0 < μ ∧ μ ≤ 9 ^ d) : TlB (tlQ T c S D d μ) j d := by
  obtain ⟨h0, h1, h2, h3, h4⟩ := h
  have p1 : 9 ^ n * 9 ^ d ≤ 6561 := by
    rw [← Nat.pow_add]
    have : 9 ^ (n + d) ≤ 9 ^ 4 := Nat.pow_le_pow_right (by omega) (by omega)
    rw [show 9 ^ 4 = 6561 from rfl] at this
    exact this
  have q1 : c.length * 9 ^ d ≤ 649539 * (j - i) := by
    have e1 : c.length * 9 ^ d ≤ 99 * 9 ^ n * (j - i) * 9 ^ d := Nat.mul_le_mul_right _ hc
    have e2 : 99 * 9 ^ n * (j - i) * 9 ^ d = 99 * (9 ^ n * 9 ^ d) * (j - i) := by
      rw [Nat.mul_assoc (99 * 9 ^ n), Nat.mul_comm (j - i), ← Nat.mul_assoc, Nat.mul_assoc 99]
    have e3 : 99 * (9 ^ n * 9 ^ d) * (j - i) ≤ 99 * 6561 * (j - i) := Nat.mul_le_mul_right _ (Nat.mul_le_mul_left _ p1)
    omega
  have q2 : S * 9 ^ d ≤ 6561 * (j - i) := by
    have e1 : S * 9 ^ d ≤ 9 ^ n * (j - i) * 9 ^ d := Nat.mul_le_mul_right _ hS
    have e2 : 9 ^ n * (j - i) * 9 ^ d = (9 ^ n * 9 ^ d) * (j - i) := by
      rw [Nat.mul_assoc, Nat.mul_comm (j - i), ← Nat.mul_assoc]
    have e3 : (9 ^ n * 9 ^ d) * (j - i) ≤ 6561 * (j - i) := Nat.mul_le_mul_right _ p1
    omega
  have hμ2 : μ ≤ ((9 ^ d : Nat) : Int) := by rw [Int.natCast_pow]; exact hμ.2
  have m1 : ∀ v : Int, 0 ≤ v → v ≤ c.length → 0 ≤ v * μ ∧ v * μ ≤ ((c.length * 9 ^ d : Nat) : Int) := fun v v0 v1 => by
    rw [Int.natCast_mul]
    exact ⟨Int.mul_nonneg v0 (by omega), Int.mul_le_mul v1 hμ2 (by omega) (by omega)⟩
  have m2 : 0 ≤ (S : Int) * μ ∧ (S : Int) * μ ≤ ((S * 9 ^ d : Nat) : Int) := by
    rw [Int.natCast_mul]
    exact ⟨Int.mul_nonneg (by omega) (by omega), Int.mul_le_mul (Int.le_refl _) hμ2 (by omega) (by omega)⟩
  have m0 := m1 c.length (by omega) (Int.le_refl _)
  refine ⟨?_, ?_, ?_, ?_, fun l l0 l1 => ?_⟩
  · show 0 ≤ T 0 + c.length * μ ∧ T 0 + c.length * μ ≤ _; omega
  · exact or_R _ _
  · show 0 ≤ T 2 + S * μ ∧ T 2 + S * μ ≤ _; omega
  · show (d : Int) ≤ max (T 3) (d + D) ∧ max (T 3) (d + D) ≤ 4; omega
  · have e : tlQ T c S D d μ (5 + l) = T (5 + l) + cbL l c * μ := by
      unfold tlQ
      rw [if_neg (by omega), if_neg (by omega), if_neg (by omega), if_neg (by omega), if_pos (by omega), show 5 + l - 5 = l by omega]
    have hl := cbL_in l c
    have := m1 (cbL l c) hl.1 hl.2
    have := h4 l l0 l1
    rw [e]; omega
theorem msk_ne {x : Nat → Int} {i n : Nat} (hn : 0 < n) (h : ∀ q : Nat, q < n → 97 ≤ x (i + q) ∧ x (i + q) ≤ 102) : mskL x i n ≠ 0 := by
  obtain ⟨m, rfl⟩ : ∃ m, n = m + 1 := ⟨n - 1, by omega⟩
  intro e
  have h1 := h m (by omega)
  have h2 : bt (mskL x i (m + 1)) (x (i + m) - 97) = true := by
    rw [mskL_s, bt_or _ _ _ (by omega) (by omega) (by omega) (by omega)]; simp
  rw [e, bt_0 _ (by omega) (by omega)] at h2
  cases h2
