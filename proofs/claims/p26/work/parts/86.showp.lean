/-! ===== a show's numbers against its minutes ===== -/
theorem bt_iO (m n : Int) (k : Nat) (hk : k < 32) : bt (iO m n) k = (bt m k || bt n k) := by
  rw [bt_bv _ k hk, bt_bv _ k hk, bt_bv _ k hk]
  unfold iO
  rw [Int32.ofInt_toInt, Int32.toBitVec_or, BitVec.getLsbD_or]
theorem iA_abs {v x : Int} (h : InR v) : iA v (iO v x) = v := by
  unfold iA iO
  rw [Int32.ofInt_toInt]
  have e : Int32.ofInt v &&& (Int32.ofInt v ||| Int32.ofInt x) = Int32.ofInt v := by
    apply Int32.toBitVec_inj.mp
    rw [Int32.toBitVec_and, Int32.toBitVec_or]
    apply BitVec.eq_of_getLsbD_eq
    intro i hi
    rw [BitVec.getLsbD_and, BitVec.getLsbD_or]
    cases (Int32.ofInt v).toBitVec.getLsbD i <;> simp
  rw [e]; exact toI h
theorem orL_mem {v : Int} (hv : InR v) : ∀ {c : List Int}, v ∈ c → iO v (orL c) = orL c
  | u :: c, h => by
    show iO v (iO u (orL c)) = iO u (orL c)
    rcases List.mem_cons.mp h with rfl | h
    · rw [← iO_assoc, iO_self hv]
    · rw [← iO_assoc, iO_comm v u, iO_assoc, orL_mem hv h]
theorem iA_orL {v : Int} {c : List Int} (hv : InR v) (h : v ∈ c) : iA v (orL c) = v := by
  rw [← orL_mem hv h]; exact iA_abs hv
theorem bt_orL {l : Nat} (hl : l < 32) : ∀ c : List Int, bt (orL c) l = true ↔ 0 < cbL l c
  | [] => by
    show bt 0 l = true ↔ (0 : Int) < 0
    rw [bt_0 _ (by omega) (by omega)]; simp
  | v :: c => by
    have ih := bt_orL hl c
    have h := cbL_in l c
    show bt (iO v (orL c)) l = true ↔ 0 < (if bt v l = true then 1 else 0) + cbL l c
    rw [bt_iO _ _ _ hl, Bool.or_eq_true, ih]
    by_cases e : bt v l = true
    · rw [if_pos e]
      exact ⟨fun _ => by omega, fun _ => Or.inl e⟩
    · rw [if_neg e]
      constructor
      · rintro (w | w)
        · exact absurd w e
        · omega
      · intro w; exact Or.inr (by omega)
theorem or_64 : ∀ u : Nat, u < 64 → ∀ v : Nat, v < 64 → 0 ≤ iO u v ∧ iO u v < 64 := by decide +kernel
theorem orL_64 : ∀ {c : List Int}, (∀ v ∈ c, 0 < v ∧ v < 64) → 0 ≤ orL c ∧ orL c < 64
  | [], _ => by show (0 : Int) ≤ 0 ∧ (0 : Int) < 64; omega
  | v :: c, h => by
    have ih := orL_64 (c := c) (fun u hu => h u (List.mem_cons_of_mem _ hu))
    have hv := h v List.mem_cons_self
    have := or_64 v.toNat (by omega) (orL c).toNat (by omega)
    rw [Int.toNat_of_nonneg (by omega), Int.toNat_of_nonneg ih.1] at this
    exact this
theorem mk_64 {p : Int → Bool} : ∀ n : Nat, n ≤ 6 → 0 ≤ mkI p n ∧ mkI p n < 64
  | 0, _ => by show (0 : Int) ≤ 0 ∧ (0 : Int) < 64; omega
  | n + 1, h => by
    have ih := mk_64 (p := p) n (by omega)
    rw [mkI_s]
    split
    · have := msk_1 (mkI p n).toNat (by omega) n (by omega)
      rw [Int.toNat_of_nonneg ih.1] at this
      exact this
    · exact ih
def val6 (f : Nat → Bool) : Int := (if f 0 = true then 1 else 0) + (if f 1 = true then 2 else 0) + (if f 2 = true then 4 else 0) + (if f 3 = true then 8 else 0) + (if f 4 = true then 16 else 0) + (if f 5 = true then 32 else 0)
theorem val_64 : ∀ u : Nat, u < 64 → (u : Int) = val6 (fun l => bt u l) := by decide +kernel
theorem bits_eq {x y : Int} (hx : 0 ≤ x ∧ x < 64) (hy : 0 ≤ y ∧ y < 64) (h : ∀ l : Nat, l < 6 → bt x l = bt y l) : x = y := by
  have e1 := val_64 x.toNat (by omega)
  have e2 := val_64 y.toNat (by omega)
  rw [Int.toNat_of_nonneg hx.1] at e1
  rw [Int.toNat_of_nonneg hy.1] at e2
  rw [e1, e2]
  unfold val6
  simp only [h 0 (by omega), h 1 (by omega), h 2 (by omega), h 3 (by omega), h 4 (by omega), h 5 (by omega)]
/-- what a show's minutes say of its numbers -/
def SI (σ : RW) (a : HI) (b : HR) (s : SH) (h : Int) (c : List Int) : Prop := ((c.length : Int) = σ (129 + 92 * h) ∧ c.length ≤ 999) ∧ (σ (130 + 92 * h) = orL c) ∧ (∀ l, 0 ≤ l → l < 6 → liF σ h l = cbL l c) ∧ (σ (131 + 92 * h) ≤ c.length) ∧ (σ (132 + 92 * h) ≤ 4) ∧ (∀ v ∈ c, 0 < v ∧ v < 64) ∧ (∀ k : Nat, k < c.length → Mn 61 [vR 5, vI h, vI k] a b s = some ([vI (c.getD k 0)], a, b, s)) ∧ (Mn 61 [vR 5, vI h, vI (σ (129 + 92 * h))] a b s = some ([vI (-1)], a, b, s))
theorem SI.len {σ : RW} {a : HI} {b : HR} {s : SH} {h : Int} {c : List Int} (hq_ : SI σ a b s h c) : (c.length : Int) = σ (129 + 92 * h) ∧ c.length ≤ 999 := hq_.1
theorem SI.lam {σ : RW} {a : HI} {b : HR} {s : SH} {h : Int} {c : List Int} (hq_ : SI σ a b s h c) : σ (130 + 92 * h) = orL c := hq_.2.1
theorem SI.lit {σ : RW} {a : HI} {b : HR} {s : SH} {h : Int} {c : List Int} (hq_ : SI σ a b s h c) : ∀ l, 0 ≤ l → l < 6 → liF σ h l = cbL l c := hq_.2.2.1
theorem SI.scn {σ : RW} {a : HI} {b : HR} {s : SH} {h : Int} {c : List Int} (hq_ : SI σ a b s h c) : σ (131 + 92 * h) ≤ c.length := hq_.2.2.2.1
theorem SI.dep {σ : RW} {a : HI} {b : HR} {s : SH} {h : Int} {c : List Int} (hq_ : SI σ a b s h c) : σ (132 + 92 * h) ≤ 4 := hq_.2.2.2.2.1
theorem SI.val {σ : RW} {a : HI} {b : HR} {s : SH} {h : Int} {c : List Int} (hq_ : SI σ a b s h c) : ∀ v ∈ c, 0 < v ∧ v < 64 := hq_.2.2.2.2.2.1
theorem SI.att {σ : RW} {a : HI} {b : HR} {s : SH} {h : Int} {c : List Int} (hq_ : SI σ a b s h c) : ∀ k : Nat, k < c.length → Mn 61 [vR 5, vI h, vI k] a b s = some ([vI (c.getD k 0)], a, b, s) := hq_.2.2.2.2.2.2.1
theorem SI.atn {σ : RW} {a : HI} {b : HR} {s : SH} {h : Int} {c : List Int} (hq_ : SI σ a b s h c) : Mn 61 [vR 5, vI h, vI (σ (129 + 92 * h))] a b s = some ([vI (-1)], a, b, s) := hq_.2.2.2.2.2.2.2
theorem SI.mk {σ : RW} {a : HI} {b : HR} {s : SH} {h : Int} {c : List Int} (len_ : (c.length : Int) = σ (129 + 92 * h) ∧ c.length ≤ 999) (lam_ : σ (130 + 92 * h) = orL c) (lit_ : ∀ l, 0 ≤ l → l < 6 → liF σ h l = cbL l c) (scn_ : σ (131 + 92 * h) ≤ c.length) (dep_ : σ (132 + 92 * h) ≤ 4) (val_ : ∀ v ∈ c, 0 < v ∧ v < 64) (att_ : ∀ k : Nat, k < c.length → Mn 61 [vR 5, vI h, vI k] a b s = some ([vI (c.getD k 0)], a, b, s)) (atn_ : Mn 61 [vR 5, vI h, vI (σ (129 + 92 * h))] a b s = some ([vI (-1)], a, b, s)) : SI σ a b s h c := ⟨len_, lam_, lit_, scn_, dep_, val_, att_, atn_⟩
theorem CS.si {N z : Int} {σ : RW} {ρ : Int → RW} {sv : Int → Int} {ς : Int → RW} {a : HI} {b : HR} {s : SH} {h : Int} (H : CS N a b s σ z ρ sv ς) (h0 : 0 ≤ h) (h1 : h < 4) : ∃ c, SI σ a b s h c := by
  have hm := (H.dom.1.shb).mi h h0 h1
  have hn := c_at0 (h := h) (w := σ (129 + 92 * h)) H (by omega)
  by_cases ht : σ (129 + 92 * h) = 0
  · rcases H.dom.1.sh h h0 h1 with ⟨-, z1, z2⟩ | ⟨-, -, -, w4, -⟩
    · have e1 := z1 1 (by omega) (by omega)
      have e2 := z1 2 (by omega) (by omega)
      have e3 := z1 3 (by omega) (by omega)
      rw [show 129 + 92 * h + 1 = 130 + 92 * h by omega] at e1
      rw [show 129 + 92 * h + 2 = 131 + 92 * h by omega] at e2
      rw [show 129 + 92 * h + 3 = 132 + 92 * h by omega] at e3
      exact ⟨[], SI.mk ⟨by rw [ht]; rfl, by decide⟩ e1 (fun l l0 l1 => z2 l l0 l1) (by rw [e2]; exact Int.le_refl _) (by omega) (fun v hv => by cases hv) (fun k hk => absurd hk (Nat.not_lt_zero k)) hn⟩
    · omega
  · obtain ⟨c, ⟨t1, t2, t3, t4, t5⟩, g2, g3⟩ := c_at (h := h) H ⟨h0, by omega⟩ ht
    exact ⟨c, SI.mk ⟨g2, by omega⟩ t1 (fun l l0 l1 => t2 l l0 l1) t3.2 t4 t5 g3 hn⟩
def litB (σ : RW) (h : Int) : Int → Bool := fun k => decide (0 < liF σ h k)
theorem SI.mask {σ : RW} {a : HI} {b : HR} {s : SH} {h : Int} {c : List Int} (H : SI σ a b s h c) : mkI (litB σ h) 6 = orL c := by
  refine bits_eq (mk_64 6 (Nat.le_refl _)) (orL_64 H.val) (fun l hl => ?_)
  rw [bt_mk (by omega) l (by omega), Bool.eq_iff_iff, bt_orL (by omega), ← H.lit l (by omega) (by omega)]
  unfold litB
  simp [hl]
/-- how often, as the law finds it -/
def ofA (σ : RW) (h : Int) : Nat → Int
  | 0 => -6
  | n + 1 => if 0 < liF σ h n then (if ofA σ h n < 0 then leF σ n / liF σ h n else if leF σ n / liF σ h n < ofA σ h n then leF σ n / liF σ h n else ofA σ h n) else ofA σ h n
theorem ofA_s (σ : RW) (h : Int) (n : Nat) : ofA σ h (n + 1) = if 0 < liF σ h n then (if ofA σ h n < 0 then leF σ n / liF σ h n else if leF σ n / liF σ h n < ofA σ h n then leF σ n / liF σ h n else ofA σ h n) else ofA σ h n := rfl
theorem le_in {σ : RW} {N T : Int} (hb : Bnd N T σ) {k : Int} (h0 : 0 ≤ k) (h1 : k < 6) : 0 ≤ leF σ k ∧ leF σ k ≤ σ 0 ∧ leF σ k ≤ 9999 := by
  have h := hb.bur k h0 h1
  have h2 := hb.lif
  have e : leF σ k = max 0 (σ 0 - σ (11 + 3 * k)) := rfl
  omega
theorem div_in {x q : Int} (hx : 0 ≤ x) (hq : 0 < q) : 0 ≤ x / q ∧ x / q ≤ x := ⟨Int.ediv_nonneg hx (by omega), Int.ediv_le_self q hx⟩
theorem ofA_ok {σ : RW} {N T h : Int} (hb : Bnd N T σ) : ∀ n : Nat, n ≤ 6 → (ofA σ h n = -6 ∧ rueF (σ 0) (liF σ h) (leF σ) n = σ 0 ∧ ∀ i : Nat, i < n → ¬ 0 < liF σ h i) ∨ (0 ≤ ofA σ h n ∧ ofA σ h n = rueF (σ 0) (liF σ h) (leF σ) n)
  | 0, _ => Or.inl ⟨rfl, rfl, fun i hi => absurd hi (Nat.not_lt_zero i)⟩
  | n + 1, hn => by
    have ih := ofA_ok (h := h) hb n (by omega)
    have hl := le_in hb (k := n) (by omega) (by omega)
    rw [ofA_s, rueF_s]
    by_cases c : 0 < liF σ h n
    · have hd := div_in hl.1 c
      rw [if_pos c, if_pos c]
      right
      rcases ih with ⟨e1, e2, -⟩ | ⟨e1, e2⟩
      · rw [e1, e2, if_pos (by omega)]; omega
      · rw [if_neg (by omega)]
        split <;> omega
    · rw [if_neg c, if_neg c]
      rcases ih with ⟨e1, e2, e3⟩ | ih
      · left
        refine ⟨e1, e2, fun i hi => ?_⟩
        by_cases q : i = n
        · rw [q]; exact c
        · exact e3 i (by omega)
      · exact Or.inr ih
theorem ofA_6 {σ : RW} {N T h : Int} (hb : Bnd N T σ) (hs : ShB σ) (h0 : 0 ≤ h) (h1 : h < 4) (hz : σ (129 + 92 * h) = 0 → ∀ l, 0 ≤ l → l < 6 → liF σ h l = 0) : ofA σ h 6 = if 0 < σ (129 + 92 * h) then oftP σ h else -6 := by
  rcases ofA_ok (h := h) hb 6 (Nat.le_refl _) with ⟨e1, e2, e3⟩ | ⟨e1, e2⟩
  · by_cases c : 0 < σ (129 + 92 * h)
    · obtain ⟨k, k0, k1, k2⟩ := hs.op h h0 h1 c
      have := e3 k.toNat (by omega)
      rw [Int.toNat_of_nonneg k0] at this
      exact absurd k2 this
    · rw [if_neg c]; exact e1
  · by_cases c : 0 < σ (129 + 92 * h)
    · rw [if_pos c]; exact e2
    · have hm := hs.mi h h0 h1
      have hz := hz (by omega)
      have : ∀ n : Nat, n ≤ 6 → ofA σ h n = -6 := by
        intro n
        induction n with
        | zero => intro _; rfl
        | succ n ih => intro hn; rw [ofA_s, hz n (by omega) (by omega), if_neg (by omega)]; exact ih (by omega)
      have := this 6 (Nat.le_refl _)
      omega
/-- all lit minutes of all lamps -/
def eaQ (d : List Int) : Int := smI (fun l => cbL l d) 6
def btF (v : Int) : Int → Int := fun j => if bt v j = true then 1 else 0
theorem eaQ_app (d : List Int) (v : Int) : eaQ (d ++ [v]) = eaQ d + smI (btF v) 6 := by
  have e : ∀ l : Int, cbL l (d ++ [v]) = cbL l d + btF v l := fun l => by
    rw [cbL_app]
    show cbL l d + ((if bt v l = true then 1 else 0) + 0) = _
    rw [Int.add_zero]; rfl
  unfold eaQ
  have : ∀ n : Nat, smI (fun l => cbL l (d ++ [v])) n = smI (fun l => cbL l d) n + smI (btF v) n := by
    intro n
    induction n with
    | zero => rfl
    | succ n ih => rw [smI_s, smI_s, smI_s, ih]; show _ + cbL n (d ++ [v]) = _ + cbL n d + _; rw [e]; omega
  exact this 6
theorem btS_in (v : Int) : ∀ n : Nat, 0 ≤ smI (btF v) n ∧ smI (btF v) n ≤ n
  | 0 => by show (0 : Int) ≤ 0 ∧ (0 : Int) ≤ 0; omega
  | n + 1 => by
    have := btS_in v n
    have e : btF v n = if bt v n = true then 1 else 0 := rfl
    rw [smI_s, e]
    split <;> omega
theorem eaQ_in : ∀ d : List Int, 0 ≤ eaQ d ∧ eaQ d ≤ 6 * d.length := fun d => by
  have := smI_bnd (f := fun l => cbL l d) (c := d.length) (by omega) (n := 6) (fun i _ => cbL_in i d)
  unfold eaQ
  omega
theorem SI.all {σ : RW} {a : HI} {b : HR} {s : SH} {h : Int} {c : List Int} (H : SI σ a b s h c) : smI (liF σ h) 6 = eaQ c := smI_cong (fun i hi => H.lit i (by omega) (by omega))
theorem SI.zer {σ : RW} {a : HI} {b : HR} {s : SH} {h : Int} {c : List Int} (H : SI σ a b s h c) : σ (129 + 92 * h) = 0 → ∀ l, 0 ≤ l → l < 6 → liF σ h l = 0 := fun e l l0 l1 => by
  have h1 := H.len.1
  have : c = [] := List.eq_nil_of_length_eq_zero (by omega)
  rw [H.lit l l0 l1, this]; rfl
