/-! ===== the reading automaton; the model's fault ===== -/
/-- what is wanted behind a character -/
def isE (w : Int) : Prop := w = 2 ∨ w = 3 ∨ w = 6
def stp (w d c : Int) : Int :=
  if (w = 2 ∨ w = 3 ∨ w = 6) ∧ c = 44 then 0
  else if (w = 2 ∨ w = 3 ∨ w = 6) ∧ c = 41 ∧ 0 < d then 6
  else if w = 0 then (if 97 ≤ c ∧ c ≤ 102 then 1 else if (50 ≤ c ∧ c ≤ 57) ∧ d < 4 then 4 else -6)
  else if w = 1 then (if 97 ≤ c ∧ c ≤ 102 then 1 else if 49 ≤ c ∧ c ≤ 57 then 2 else -6)
  else if w = 2 then (if 48 ≤ c ∧ c ≤ 57 then 3 else -6)
  else if w = 4 then (if c = 42 then 5 else -6)
  else if w = 5 then (if c = 40 then 0 else -6)
  else -6
def dpt (c : Int) : Int := if c = 40 then 1 else if c = 41 then -1 else 0
def aut (x : Nat → Int) : Nat → Int × Int
  | 0 => (0, 0)
  | k + 1 => (stp (aut x k).1 (aut x k).2 (x k), (aut x k).2 + dpt (x k))
theorem aut_s (x : Nat → Int) (k : Nat) : aut x (k + 1) = (stp (aut x k).1 (aut x k).2 (x k), (aut x k).2 + dpt (x k)) := rfl
def flt (x : Nat → Int) (len : Nat) : Nat → Nat → Int
  | 0, k => if ((aut x k).1 = 2 ∨ (aut x k).1 = 3 ∨ (aut x k).1 = 6) ∧ (aut x k).2 = 0 then -6 else len
  | n + 1, k => if stp (aut x k).1 (aut x k).2 (x k) = -6 then k else flt x len n (k + 1)
theorem flt_s (x : Nat → Int) (len n k : Nat) : flt x len (n + 1) k = if stp (aut x k).1 (aut x k).2 (x k) = -6 then (k : Int) else flt x len n (k + 1) := rfl
theorem flt_cg {x y : Nat → Int} {len : Nat} (h : ∀ k, k < len → x k = y k) : ∀ k, k ≤ len → aut x k = aut y k
  | 0, _ => rfl
  | k + 1, hk => by rw [aut_s, aut_s, flt_cg h k (by omega), h k (by omega)]
theorem flt_cg2 {x y : Nat → Int} {len : Nat} (h : ∀ k, k < len → x k = y k) : ∀ n k, k + n = len → flt x len n k = flt y len n k
  | 0, k, e => by unfold flt; rw [flt_cg h k (by omega)]
  | n + 1, k, e => by rw [flt_s, flt_s, flt_cg h k (by omega), h k (by omega), flt_cg2 h n (k + 1) (by omega)]
/-- where the automaton can be -/
theorem stp_in (w d c : Int) : stp w d c = -6 ∨ (0 ≤ stp w d c ∧ stp w d c ≤ 6) := by
  unfold stp
  repeat' split
  all_goals omega
theorem stp_dp {w d c : Int} (h : stp w d c ≠ -6) (hw : 0 ≤ w ∧ w ≤ 6) (hd : 0 ≤ d ∧ d ≤ 4) (h45 : (w = 4 ∨ w = 5) → d < 4) : (0 ≤ d + dpt c ∧ d + dpt c ≤ 4) ∧ ((stp w d c = 4 ∨ stp w d c = 5) → d + dpt c < 4) := by
  have hq : dpt c = if c = 40 then 1 else if c = 41 then -1 else 0 := rfl
  revert h
  unfold stp
  rw [hq]
  repeat' split
  all_goals omega
/-- all that is read so far can stand -/
def okT (x : Nat → Int) (k : Nat) : Prop := ∀ q, q < k → stp (aut x q).1 (aut x q).2 (x q) ≠ -6
theorem aut_in {x : Nat → Int} : ∀ k : Nat, okT x k → (0 ≤ (aut x k).1 ∧ (aut x k).1 ≤ 6) ∧ (0 ≤ (aut x k).2 ∧ (aut x k).2 ≤ 4) ∧ (((aut x k).1 = 4 ∨ (aut x k).1 = 5) → (aut x k).2 < 4)
  | 0, _ => ⟨by show (0 : Int) ≤ 0 ∧ (0 : Int) ≤ 6; omega, by show (0 : Int) ≤ 0 ∧ (0 : Int) ≤ 4; omega, fun _ => by show (0 : Int) < 4; omega⟩
  | k + 1, h => by
    obtain ⟨h1, h2, h3⟩ := aut_in k (fun q hq => h q (by omega))
    have h4 := h k (by omega)
    have h5 := stp_dp h4 h1 h2 h3
    have h6 := stp_in (aut x k).1 (aut x k).2 (x k)
    rw [aut_s]
    exact ⟨by show 0 ≤ stp _ _ _ ∧ stp _ _ _ ≤ 6; omega, h5.1, h5.2⟩
theorem stp_end {w d c : Int} (h : w = 2 ∨ w = 3 ∨ w = 6) (h44 : c = 44) : stp w d c = 0 := by
  unfold stp; rw [if_pos ⟨h, h44⟩]
section MFAULT
variable {a : HI} {b : HR} {s : SH}
set_option maxRecDepth 100000
/-- the model's text -/
def pdX (a : HI) : Nat → Int := fun k => a 163 k
end MFAULT
