/-! ===== the model: how often ===== -/
theorem rue_min {L M : Int} {q r : Int → Int} (h : L ≤ M) : ∀ n : Nat, rueF L q r n = min L (rueF M q r n)
  | 0 => by unfold rueF; omega
  | n + 1 => by
    have ih := rue_min (q := q) (r := r) h n
    rw [rueF_s, rueF_s, ih]
    by_cases c : 0 < q n
    · rw [if_pos c, if_pos c]; omega
    · rw [if_neg c, if_neg c]
theorem rue_le {M : Int} {q r : Int → Int} {k : Nat} (hk : 0 < q k) : ∀ n : Nat, k < n → rueF M q r n ≤ r k / q k
  | n + 1, hn => by
    rw [rueF_s]
    by_cases e : k = n
    · subst e; rw [if_pos hk]; omega
    · have ih := rue_le (M := M) (r := r) hk n (by omega)
      by_cases c : 0 < q n
      · rw [if_pos c]; omega
      · rw [if_neg c]; exact ih
theorem oft_any {N T : Int} {σ : RW} {h : Int} (hb : Bnd N T σ) (hs : ShB σ) (h0 : 0 ≤ h) (h1 : h < 4) (ht : 0 < σ (129 + 92 * h)) : rueF 99999 (liF σ h) (leF σ) 6 = oftP σ h := by
  obtain ⟨k, k0, k1, k2⟩ := hs.op h h0 h1 ht
  obtain ⟨j, rfl⟩ := Int.eq_ofNat_of_zero_le k0
  have e1 := rue_le (M := 99999) (r := leF σ) (k := j) (show 0 < liF σ h j from k2) 6 (by omega)
  have e2 := hb.lif
  have e3 := hb.bur j (by omega) (by omega)
  have e4 : leF σ j = max 0 (σ 0 - σ (11 + 3 * j)) := rfl
  have e5 : leF σ j / liF σ h j ≤ leF σ j := Int.ediv_le_self _ (by omega)
  unfold oftP
  rw [rue_min (L := σ 0) (M := 99999) (by omega)]
  omega
section MOFT
variable {a : HI} {b : HR} {s : SH} {N T : Int}
set_option maxRecDepth 100000
theorem rue_in {N T : Int} {σ : RW} {h : Int} (hb : Bnd N T σ) (hs : ShB σ) (h0 : 0 ≤ h) (h1 : h < 4) : ∀ n : Nat, n ≤ 6 → 0 ≤ rueF 99999 (liF σ h) (leF σ) n ∧ rueF 99999 (liF σ h) (leF σ) n ≤ 99999
  | 0, _ => by unfold rueF; omega
  | n + 1, hn => by
    have ih := rue_in hb hs h0 h1 n (by omega)
    have e : 0 ≤ leF σ n := by unfold leF; omega
    rw [rueF_s]
    by_cases c : 0 < liF σ h n
    · have := Int.ediv_nonneg e (Int.le_of_lt c)
      rw [if_pos c]; omega
    · rw [if_neg c]; exact ih
end MOFT
