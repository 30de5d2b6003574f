/-! ===== what a heap is, seen as rows of numbers ===== -/
/-- class numbers, their slots, array classes by kind, where the new cells begin, the heap before, the rows that stood there, the script -/
abbrev Gx : Type := (Nat → ClassId) × (Nat → Nat → Nat) × (Nat → ClassId) × Nat × Heap × (Nat → Nat) × Nat × (Nat → Int32)
def gD (g : Gx) : va_G := (g.1, g.2.1)
def gA (g : Gx) : Nat → ClassId := g.2.2.1
def gN (g : Gx) : Nat := g.2.2.2.1
def gH (g : Gx) : Heap := g.2.2.2.2.1
def gS (g : Gx) : Nat → Nat := g.2.2.2.2.2.1
def gL (g : Gx) : Nat := g.2.2.2.2.2.2.1
def gX (g : Gx) : Nat → Int32 := g.2.2.2.2.2.2.2
def aA (g : Gx) : Nat → Prop := fun q => gN g ≤ q
def tyK (k : Nat) : FieldType := match k with
  | 10 => .int
  | 11 => .byte
  | 12 => .char
  | 13 => .boolean
  | 14 => .object RX6
  | _ => .object RX0
def tyS (g : Gx) : List (ClassId × FieldType) := [(gA g 10, .int), (gA g 11, .byte), (gA g 12, .char), (gA g 13, .boolean), (gA g 14, .object RX6), (gA g 15, .object RX0)]
def adr (g : Gx) (r : Nat) : Nat := if r < 5 then gS g r else gN g + (r - 5)
def adO (g : Gx) (r : Nat) : Option Nat := if r = 0 then none else some (adr g r)
def cvR (g : Gx) (r : Nat) : Value := va_rf (adO g r)
def cv (g : Gx) (v : Vl) : Value := match v with
  | .inl x => .int (Int32.ofInt x)
  | .inr (.inl r) => cvR g r
  | .inr (.inr (.inl u)) => .long (lN u)
  | .inr (.inr (.inr _)) => .null
def isF (c k : Nat) : Bool := decide ((CT c k).2.2.1 = "I")
def fldV (g : Gx) (a : HI) (b : HR) (c r k : Nat) : Value := if isF c k = true then .int (Int32.ofInt (a r k)) else cvR g (b r k)
def celE (g : Gx) (a : HI) (b : HR) (s : SH) (r : Nat) : va_E :=
  if kd s r < 9 then .inr (kd s r, (List.range (CNF (kd s r))).map (fun k => fldV g a b (kd s r) r k))
  else if kd s r < 14 then .inl (gA g (kd s r), (ln s r).toNat, .inl (fun j => Int32.ofInt (a r j)))
  else .inl (gA g (kd s r), (ln s r).toNat, .inr (.inr (.inr (.inr (fun j => adO g (b r j))))))
def wsE (g : Gx) (a : HI) (b : HR) (s : SH) : va_W := (List.range (nx s)).map (fun i => (gN g + i, celE g a b s (i + 5)))
/-- what the class's static rows hold -/
def svI (r : Nat) (j : Nat) : Int := ((match r with
  | 2 => [600, 5, 50, 40, 5, 10]
  | 3 => [1, 0, 1, 1, 0, 0]
  | _ => [9999, 50, 100, 99, 99, 99]) : List Int).getD j 0
def svN (r : Nat) : String := match r with
  | 2 => "FIRST_VALUES"
  | 3 => "LEAST_VALUES"
  | _ => "MOST_VALUES"
def okK (s : SH) (a : HI) (b : HR) : Prop := (∀ r k, InR (a r k)) ∧ (∀ r, 5 ≤ r → r < nx s + 5 → kd s r < 9 ∨ 10 ≤ kd s r ∧ kd s r ≤ 15) ∧ (∀ r, nx s + 5 ≤ r → kd s r = 99) ∧ kd s 0 = 99 ∧ (∀ r, 1 ≤ r → r < 5 → kd s r = 20) ∧ (∀ r, 0 ≤ ln s r ∧ ln s r ≤ 2147483647) ∧ (∀ r, kd s r = 11 → ∀ k, -128 ≤ a r k ∧ a r k ≤ 127)
def okS (g : Gx) (s : SH) (a : HI) : Prop := ln s 1 = (gL g : Int) ∧ (∀ j : Nat, j < gL g → a 1 j = (gX g j).toInt) ∧ ∀ r, 2 ≤ r → r < 5 → ln s r = 6 ∧ ∀ j : Nat, j < 6 → a r j = svI r j
def RelM (g : Gx) (a : HI) (b : HR) (s : SH) (H : Heap) : Prop := H.size = gN g + nx s ∧ (∀ q, q < gN g → H[q]? = (gH g)[q]?) ∧ va_P (gD g) vwCl (wsE g a b s) H ∧ okK s a b ∧ okS g s a
/-- links to private members of a nest mate -/
def nestM : List (Nat × Nat × Nat) := [(7, 9, 0), (0, 34, 0), (0, 41, 0), (7, 21, 0), (7, 28, 0), (2, 17, 0)]
def KKg (g : Gx) (U : State) : Prop := va_K (gD g) vwCl (tyS g) U ∧ (gH g).size = gN g ∧ va_X (gS g 1) (gL g) (gX g) U (gH g) ∧ gS g 1 < gN g ∧ gL g ≤ 260 ∧
  (∀ r, 2 ≤ r → r < 5 → va_T .int (gS g r) 6 (fun j => .int (Int32.ofInt (svI r j))) (aA g) U (gH g) ∧ va_Z "DomeLamps" (svN r) "[I" (.ref (gS g r)) (aA g) U (gH g)) ∧
  (∃ cell : Cell, (gH g)[gS g 2]? = some cell ∧ cell.vm.isStatics = false ∧ cell.slots.size = 6 ∧ cell.cls = gA g 10) ∧ va_AO RX6 U ∧ va_AO RX0 U ∧ va_Nw (.castable "[I" "java/lang/Cloneable") U ∧ va_Nw (.castable "[B" "java/lang/Cloneable") U ∧
  va_Nw (.methodLinkNest RX7 9 ⟨RX0, "<init>", "()V"⟩ RX7) U ∧ va_Nw (.fieldLinkNest RX0 9 RX7 "FIRST_VALUES" "[I" RX7) U ∧ va_Nw (.methodLinkNest RX0 34 ⟨RX3, "<init>", "()V"⟩ RX7) U ∧ va_Nw (.methodLinkNest RX0 41 ⟨RX1, "<init>", "()V"⟩ RX7) U ∧ va_Nw (.methodLinkNest RX7 21 ⟨RX4, "<init>", "()V"⟩ RX7) U ∧ va_Nw (.methodLinkNest RX7 28 ⟨RX5, "<init>", "()V"⟩ RX7) U ∧ va_Nw (.methodLinkNest RX2 17 ⟨RX0, "<init>", "()V"⟩ RX7) U
theorem KKg.warm {g : Gx} {s U : State} (hW : s.WarmedH U.vm) (h : KKg g s) : KKg g U := by
  obtain ⟨h1, h2, h3, h4, h5, h6, h7, h8, h9, h10, h11, n1, n2, n3, n4, n5, n6, n7⟩ := h
  have hA := hW.alike
  exact ⟨va_K.moved hA h1, h2, va_X.moved hA h3, h4, h5, fun r a b => ⟨va_T.moved hA (h6 r a b).1, va_Z.moved hA (h6 r a b).2⟩, h7, va_AO.moved hA h8, va_AO.moved hA h9, va_Nw.warmC hW h10, va_Nw.warmC hW h11, va_Nw.warmM hW n1, va_Nw.warmF hW n2, va_Nw.warmM hW n3, va_Nw.warmM hW n4, va_Nw.warmM hW n5, va_Nw.warmM hW n6, va_Nw.warmM hW n7⟩
theorem KKg.same {g : Gx} {s U : State} (h : s.vm = U.vm) (hK : KKg g s) : KKg g U := by
  obtain ⟨h1, h2, h3, h4, h5, h6, h7, h8, h9, h10, h11, n1, n2, n3, n4, n5, n6, n7⟩ := hK
  have hA : s.vm.Alike U.vm := by rw [h]; exact Vm.Alike.refl _
  exact ⟨va_K.moved hA h1, h2, va_X.moved hA h3, h4, h5, fun r a b => ⟨va_T.moved hA (h6 r a b).1, va_Z.moved hA (h6 r a b).2⟩, h7, va_AO.moved hA h8, va_AO.moved hA h9, va_Nw.same rfl h h10, va_Nw.same rfl h h11, va_Nw.same rfl h n1, va_Nw.same rfl h n2, va_Nw.same rfl h n3, va_Nw.same rfl h n4, va_Nw.same rfl h n5, va_Nw.same rfl h n6, va_Nw.same rfl h n7⟩
/-! numbers -/
theorem toI {x : Int} (h : InR x) : (Int32.ofInt x).toInt = x := Int32.toInt_ofInt_of_le (by omega) (by omega)
theorem InR_toInt (x : Int32) : InR x.toInt := ⟨by have := Int32.le_toInt x; omega, by have := Int32.toInt_lt x; omega⟩
theorem ofI_inj {x y : Int} (hx : InR x) (hy : InR y) : Int32.ofInt x = Int32.ofInt y ↔ x = y := by
  rw [← Int32.toInt_inj, toI hx, toI hy]
theorem ofI_lt {x y : Int} (hx : InR x) (hy : InR y) : Int32.ofInt x < Int32.ofInt y ↔ x < y := by
  rw [Int32.lt_iff_toInt_lt, toI hx, toI hy]
theorem ofI_le {x y : Int} (hx : InR x) (hy : InR y) : Int32.ofInt x ≤ Int32.ofInt y ↔ x ≤ y := by
  rw [Int32.le_iff_toInt_le, toI hx, toI hy]
theorem InR0 : InR 0 := by omega
theorem ofI_0 : Int32.ofInt 0 = 0 := rfl
theorem ofI_in {i : Int} {n : Nat} (h1 : 0 ≤ i) (h2 : i < n) (hn : (n : Int) ≤ 2147483647) : vp_in (Int32.ofInt i) n := by
  rw [vp_in_iff, toI (by omega)]
  exact ⟨h1, h2⟩
theorem ofI_cl {i : Int} (h1 : InR i) : (Int32.ofInt i).toNatClampNeg = i.toNat := by
  show (Int32.ofInt i).toInt.toNat = _
  rw [toI h1]
theorem ofI_nat (n : Nat) : Int32.ofInt (n : Int) = nI n := Int32.ofInt_eq_ofNat
theorem ofI_div {p q : Int} (hp : InR p) (hq : InR q) (h1 : 0 ≤ p) (h2 : 0 < q) : Int32.ofInt p / Int32.ofInt q = Int32.ofInt (p / q) := by
  obtain ⟨n, rfl⟩ := Int.eq_ofNat_of_zero_le h1
  obtain ⟨k, rfl⟩ := Int.eq_ofNat_of_zero_le (Int.le_of_lt h2)
  rw [← Int.natCast_ediv, ofI_nat, ofI_nat, ofI_nat]
  exact pk_div (by omega) (by omega) (by omega)
theorem ofI_rem {p q : Int} (hp : InR p) (hq : InR q) (h1 : 0 ≤ p) (h2 : 0 < q) : Int32.ofInt p - Int32.ofInt p / Int32.ofInt q * Int32.ofInt q = Int32.ofInt (p % q) := by
  obtain ⟨n, rfl⟩ := Int.eq_ofNat_of_zero_le h1
  obtain ⟨k, rfl⟩ := Int.eq_ofNat_of_zero_le (Int.le_of_lt h2)
  rw [← Int.natCast_emod, ofI_nat, ofI_nat, ofI_nat]
  exact pk_rem (by omega) (by omega) (by omega)
theorem ofI_ne0 {q : Int} (hq : InR q) (h2 : 0 < q) : ¬ Int32.ofInt q = 0 := by
  rw [← ofI_0, ofI_inj hq InR0]; omega
theorem ofI_i8 {n : Int} (h1 : -128 ≤ n) (h2 : n ≤ 127) : (Int8.ofInt n).toInt32 = Int32.ofInt n := by
  apply Int32.toInt_inj.mp
  rw [toI (by omega), Int8.toInt_toInt32, Int8.toInt_ofInt_of_le (by omega) (by omega)]
theorem ofI_i16 {n : Int} (h1 : -32768 ≤ n) (h2 : n ≤ 32767) : (Int16.ofInt n).toInt32 = Int32.ofInt n := by
  apply Int32.toInt_inj.mp
  rw [toI (by omega), Int16.toInt_toInt32, Int16.toInt_ofInt_of_le (by omega) (by omega)]
theorem ofI_b8 {n : Int} (h1 : -128 ≤ n) (h2 : n ≤ 127) : (Int32.ofInt n).toInt8.toInt32 = Int32.ofInt n := by
  apply Int32.toInt_inj.mp
  rw [Int8.toInt_toInt32, Int32.toInt_toInt8, toI (by omega), Int.bmod_eq_of_le (by omega) (by omega)]
theorem ofI_c16 {n : Int} (h1 : 0 ≤ n) (h2 : n ≤ 65535) : ((Int32.ofInt n).toUInt32 % 65536).toInt32 = Int32.ofInt n := by
  obtain ⟨k, rfl⟩ := Int.eq_ofNat_of_zero_le h1
  rw [ofI_nat, pk_char]
  rw [pk_tn (by omega), Nat.mod_eq_of_lt (by omega)]
theorem lN_sz {u : Nat} (h : u < 2 ^ 64) : (lN u).toUInt64.toNat = u := by
  show (lN u).toBitVec.toNat = u
  show (BitVec.ofNat 64 u).toNat = u
  rw [BitVec.toNat_ofNat, Nat.mod_eq_of_lt h]
