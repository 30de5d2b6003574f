/-! ===== an interpreter over rows of numbers, in which the methods are read ===== -/
/-- a value: an int, a reference (0: null), a long (its 64 bits), unset -/
abbrev Vl : Type := Int ⊕ (Nat ⊕ (Nat ⊕ Unit))
def vI (x : Int) : Vl := .inl x
def vR (r : Nat) : Vl := .inr (.inl r)
def vJ (u : Nat) : Vl := .inr (.inr (.inl u))
def vU : Vl := .inr (.inr (.inr ()))
/-- the ints and the references that cells hold -/
abbrev HI : Type := Nat → Int → Int
abbrev HR : Type := Nat → Int → Nat
/-- kinds of cells, lengths, how many were made, how many slots -/
abbrev SH : Type := (Nat → Nat) × (Nat → Int) × Nat × Nat
abbrev Rs : Type := Option (List Vl × HI × HR × SH)
def kd (s : SH) (r : Nat) : Nat := s.1 r
def ln (s : SH) (r : Nat) : Int := s.2.1 r
def nx (s : SH) : Nat := s.2.2.1
def ns (s : SH) : Nat := s.2.2.2
def nwS (s : SH) (k : Nat) (n : Int) (sl : Nat) : SH := (fun r => if r = nx s + 5 then k else s.1 r, fun r => if r = nx s + 5 then n else s.2.1 r, nx s + 1, ns s + sl)
def wI (a : HI) (r : Nat) (k v : Int) : HI := fun r' k' => if r' = r ∧ k' = k then v else a r' k'
def wR (b : HR) (r : Nat) (k : Int) (v : Nat) : HR := fun r' k' => if r' = r ∧ k' = k then v else b r' k'
def zI (a : HI) (r : Nat) : HI := fun r' k' => if r' = r then 0 else a r' k'
def zR (b : HR) (r : Nat) : HR := fun r' k' => if r' = r then 0 else b r' k'
/-- n values of row q from place sp on, laid into row r from place dp on -/
def cpI (a : HI) (q r : Nat) (sp dp n : Int) : HI := fun r' k' => if r' = r ∧ dp ≤ k' ∧ k' < dp + n then a q (sp + (k' - dp)) else a r' k'
/-- row q as a whole, laid into row r -/
def clI (a : HI) (q r : Nat) : HI := fun r' k' => if r' = r then a q k' else a r' k'
abbrev InR (x : Int) : Prop := -2147483648 ≤ x ∧ x ≤ 2147483647
def iA (x y : Int) : Int := (Int32.ofInt x &&& Int32.ofInt y).toInt
def iO (x y : Int) : Int := (Int32.ofInt x ||| Int32.ofInt y).toInt
def iX (x y : Int) : Int := (Int32.ofInt x ^^^ Int32.ofInt y).toInt
def iL (x y : Int) : Int := (Int32.ofInt x <<< (Int32.ofInt y &&& 31)).toInt
def iS (x y : Int) : Int := (Int32.ofInt x >>> (Int32.ofInt y &&& 31)).toInt
def iU (x y : Int) : Int := ((Int32.ofInt x).toUInt32 >>> ((Int32.ofInt y).toUInt32 &&& Int32.toUInt32 31)).toInt32.toInt
def unJ (v : Vl) : Vl := match v with
  | .inr (.inr (.inl _)) => vU
  | v => v
def stL : List Vl → Nat → Vl → List Vl
  | [], _, _ => []
  | _ :: l, 0, v => v :: l
  | x :: l, 1, v => unJ x :: stL l 0 v
  | x :: l, k + 2, v => x :: stL l (k + 1) v
def isC1 (v : Vl) : Bool := match v with
  | .inl _ => true
  | .inr (.inl _) => true
  | _ => false
def catV (v : Vl) : Nat := match v with
  | .inr (.inr (.inl _)) => 2
  | _ => 1
def spr : List Vl → List Vl
  | [] => []
  | .inr (.inr (.inl u)) :: l => vJ u :: vU :: spr l
  | v :: l => v :: spr l
def ent (n : Nat) (l : List Vl) : List Vl := spr l ++ List.replicate (n - (spr l).length) vU
def look (c k : Nat) : Option (List Nat) := ((LK c).find? (fun e => e.1 == k)).map (fun e => e.2.1)
def jmp (pc : Nat) (off : Int) : Option (List Nat) := if 0 ≤ (pc : Int) + off then some [((pc : Int) + off).toNat] else none
def jmps (pc : Nat) (d : Int) (offs : List Int) : Option (List Nat) := if (d :: offs).all (fun o => decide (0 ≤ (pc : Int) + o)) = true then some ((d :: offs).map (fun o => ((pc : Int) + o).toNat)) else none
def okc (y t : Nat) : Bool := decide (dp t + 1 ≤ dp y) && decide (8 + (mL t + 11) + lc t ≤ lc y)
def annot (y pc : Nat) (ins : Instr) : Option (List Nat) := match ins with
  | .goto o => jmp pc o
  | .ifCond _ o => jmp pc o
  | .if_icmp _ o => jmp pc o
  | .ifnull o => jmp pc o
  | .ifnonnull o => jmp pc o
  | .tableswitch d lo hi offs => if hi = lo + (offs.size : Int) - 1 then jmps pc d offs.toList else none
  | .iconst n => if -128 ≤ n ∧ n ≤ 127 then some [] else none
  | .bipush n => if -128 ≤ n ∧ n ≤ 127 then some [] else none
  | .sipush n => if -32768 ≤ n ∧ n ≤ 32767 then some [] else none
  | .iinc _ n => if -32768 ≤ n ∧ n ≤ 32767 then some [] else none
  | .getfield i => match look (ow y) (2 * i) with
    | some [0, c, k] => some [0, c, k]
    | some [1, c, k] => some [1, c, k]
    | _ => none
  | .putfield i => match look (ow y) (2 * i) with
    | some [0, c, k] => if (CT c k).2.2.2 = false ∨ (c = ow y ∧ (nm y).name = "<init>") then some [0, c, k] else none
    | some [1, c, k] => if (CT c k).2.2.2 = false ∨ (c = ow y ∧ (nm y).name = "<init>") then some [1, c, k] else none
    | _ => none
  | .getstatic i => match look (ow y) (2 * i) with
    | some [14, r, z] => some [14, r, z]
    | _ => none
  | .invokestatic i => match look (ow y) (2 * i) with
    | some [2, t, n] => if okc y t = true then some [2, t, n] else none
    | some [7] => if 1 ≤ dp y ∧ 26 ≤ lc y then some [7] else none
    | _ => none
  | .invokevirtual i => match look (ow y) (2 * i) with
    | some [3, t, n] => if okc y t = true then some [3, t, n] else none
    | some [8, z] => if 1 ≤ dp y ∧ 22 ≤ lc y then some [8, z] else none
    | _ => none
  | .invokespecial i => match look (ow y) (2 * i) with
    | some [4, t, n] => if okc y t = true then some [4, t, n] else none
    | some [5, t, n] => if okc y t = true then some [5, t, n] else none
    | some [6] => if 1 ≤ dp y ∧ 20 ≤ lc y then some [6] else none
    | _ => none
  | .new i => match look (ow y) (2 * i) with
    | some [9, c, n] => some [9, c, n]
    | _ => none
  | .anewarray i => match look (ow y) (2 * i + 1) with
    | some [10, k] => some [10, k]
    | _ => none
  | .checkcast i => match look (ow y) (2 * i + 1) with
    | some [11, k] => some [11, k]
    | _ => none
  | .ldc i => match look (ow y) (2 * i) with
    | some [12, v] => some [12, v]
    | _ => none
  | .ldc_w i => match look (ow y) (2 * i) with
    | some [12, v] => some [12, v]
    | _ => none
  | .ldc2_w i => match look (ow y) (2 * i) with
    | some [13, v] => some [13, v]
    | _ => none
  | _ => some []
/-- how many bytes an instruction takes -/
def lnO (ins : Instr) (len : Nat) : Nat := match ins with
  | .tableswitch .. => len
  | .bipush _ | .iload _ | .aload _ | .lload _ | .istore _ | .astore _ | .lstore _ | .newarray _ | .ldc _ => 2
  | .sipush _ | .ldc_w _ | .ldc2_w _ | .iinc _ _ | .goto _ | .ifCond _ _ | .if_icmp _ _ | .ifnull _ | .ifnonnull _ | .getfield _ | .putfield _ | .getstatic _ | .invokestatic _ | .invokevirtual _ | .invokespecial _ | .new _ | .anewarray _ | .checkcast _ => 3
  | _ => 1
def fetch (y pc : Nat) : Option (Nat × Instr × List Nat) := match decode (cd y) pc with
  | .ok (ins, len) => if len = lnO ins len then (annot y pc ins).map (fun an => (len, ins, an)) else none
  | .error _ => none
def swT (x : Int) : Int → List Nat → Nat → Nat
  | _, [], d => d
  | lo, t :: ts, d => if x = lo then t else swT x (lo + 1) ts d
abbrev St : Type := Option (Option Nat × List Vl × List Vl × HI × HR × SH)
def go1 (ls st : List Vl) (a : HI) (b : HR) (s : SH) : St := some (none, ls, st, a, b, s)
def br1 (c : Bool) (t : Nat) (ls st : List Vl) (a : HI) (b : HR) (s : SH) : St := some (if c = true then some t else none, ls, st, a, b, s)
def cmpB (c : Jvm.ClassFile.Cond) (p q : Int) : Bool := match c with
  | .eq => decide (p = q)
  | .ne => !decide (p = q)
  | .lt => decide (p < q)
  | .ge => decide (q ≤ p)
  | .gt => decide (q < p)
  | .le => decide (p ≤ q)
def ld1 (ls st : List Vl) (k : Nat) (a : HI) (b : HR) (s : SH) (t : Nat) : St := match ls[k]? with
  | some (.inl x) => if t = 0 then go1 ls (vI x :: st) a b s else none
  | some (.inr (.inl r)) => if t = 1 then go1 ls (vR r :: st) a b s else none
  | some (.inr (.inr (.inl u))) => if t = 2 then go1 ls (vJ u :: st) a b s else none
  | _ => none
def so1 (ls st : List Vl) (k : Nat) (a : HI) (b : HR) (s : SH) (t : Nat) : St := if k < ls.length then (match st with
  | .inl x :: st => if t = 0 then go1 (stL ls k (vI x)) st a b s else none
  | .inr (.inl r) :: st => if t = 1 then go1 (stL ls k (vR r)) st a b s else none
  | .inr (.inr (.inl u)) :: st => if t = 2 ∧ k + 1 < ls.length then go1 ((stL ls k (vJ u)).set (k + 1) vU) st a b s else none
  | _ => none) else none
def arK (t : ArrayType) : Nat := match t with
  | .int => 10
  | .byte => 11
  | .char => 12
  | .boolean => 13
  | _ => 99
def i2_ (st : List Vl) (f : Int → Int → List Vl → St) : St := match st with
  | .inl q :: .inl p :: st => f p q st
  | _ => none
def i1_ (st : List Vl) (f : Int → List Vl → St) : St := match st with
  | .inl p :: st => f p st
  | _ => none
def r1_ (st : List Vl) (f : Nat → List Vl → St) : St := match st with
  | .inr (.inl r) :: st => f r st
  | _ => none
def ir_ (st : List Vl) (f : Int → Nat → List Vl → St) : St := match st with
  | .inl i :: .inr (.inl r) :: st => f i r st
  | _ => none
def vir_ (st : List Vl) (f : Int → Int → Nat → List Vl → St) : St := match st with
  | .inl v :: .inl i :: .inr (.inl r) :: st => f v i r st
  | _ => none
def j2_ (st : List Vl) (f : Nat → Nat → List Vl → St) : St := match st with
  | .inr (.inr (.inl w)) :: .inr (.inr (.inl u)) :: st => f u w st
  | _ => none
def ij_ (st : List Vl) (f : Int → Nat → List Vl → St) : St := match st with
  | .inl k :: .inr (.inr (.inl u)) :: st => f k u st
  | _ => none
abbrev inA (s : SH) (r : Nat) (i : Int) : Prop := 0 ≤ i ∧ i < ln s r
def st1 (ins : Instr) (an : List Nat) (ls st : List Vl) (a : HI) (b : HR) (s : SH) : St := match ins with
  | .iconst n => go1 ls (vI n :: st) a b s
  | .bipush n => go1 ls (vI n :: st) a b s
  | .sipush n => go1 ls (vI n :: st) a b s
  | .lconst n => go1 ls (vJ n.val :: st) a b s
  | .ldc _ => match an with
    | [12, v] => go1 ls (vI v :: st) a b s
    | _ => none
  | .ldc_w _ => match an with
    | [12, v] => go1 ls (vI v :: st) a b s
    | _ => none
  | .ldc2_w _ => match an with
    | [13, v] => go1 ls (vJ v :: st) a b s
    | _ => none
  | .iload_n k => ld1 ls st k.val a b s 0
  | .iload k => ld1 ls st k a b s 0
  | .aload_n k => ld1 ls st k.val a b s 1
  | .aload k => ld1 ls st k a b s 1
  | .lload_n k => ld1 ls st k.val a b s 2
  | .lload k => ld1 ls st k a b s 2
  | .istore_n k => so1 ls st k.val a b s 0
  | .istore k => so1 ls st k a b s 0
  | .astore_n k => so1 ls st k.val a b s 1
  | .astore k => so1 ls st k a b s 1
  | .lstore_n k => so1 ls st k.val a b s 2
  | .lstore k => so1 ls st k a b s 2
  | .iinc k n => match ls[k]? with
    | some (.inl x) => if InR (x + n) then go1 (stL ls k (vI (x + n))) st a b s else none
    | _ => none
  | .iadd => i2_ st fun p q st => if InR (p + q) then go1 ls (vI (p + q) :: st) a b s else none
  | .isub => i2_ st fun p q st => if InR (p - q) then go1 ls (vI (p - q) :: st) a b s else none
  | .imul => i2_ st fun p q st => if InR (p * q) then go1 ls (vI (p * q) :: st) a b s else none
  | .idiv => i2_ st fun p q st => if 0 ≤ p ∧ 0 < q then go1 ls (vI (p / q) :: st) a b s else none
  | .irem => i2_ st fun p q st => if 0 ≤ p ∧ 0 < q then go1 ls (vI (p % q) :: st) a b s else none
  | .iand => i2_ st fun p q st => go1 ls (vI (iA p q) :: st) a b s
  | .ior => i2_ st fun p q st => go1 ls (vI (iO p q) :: st) a b s
  | .ixor => i2_ st fun p q st => go1 ls (vI (iX p q) :: st) a b s
  | .ishl => i2_ st fun p q st => go1 ls (vI (iL p q) :: st) a b s
  | .ishr => i2_ st fun p q st => go1 ls (vI (iS p q) :: st) a b s
  | .iushr => i2_ st fun p q st => go1 ls (vI (iU p q) :: st) a b s
  | .land => j2_ st fun u w st => go1 ls (vJ (u &&& w) :: st) a b s
  | .lor => j2_ st fun u w st => go1 ls (vJ (u ||| w) :: st) a b s
  | .lushr => ij_ st fun k u st => if 0 ≤ k ∧ k < 64 then go1 ls (vJ (u / 2 ^ k.toNat) :: st) a b s else none
  | .lshl => ij_ st fun k u st => if 0 ≤ k ∧ k < 64 then go1 ls (vJ (u * 2 ^ k.toNat % 2 ^ 64) :: st) a b s else none
  | .lcmp => j2_ st fun u w st => if w = 0 then go1 ls (vI (if u = 0 then 0 else if u < 2 ^ 63 then 1 else -1) :: st) a b s else none
  | .i2l => i1_ st fun p st => go1 ls (vJ (p % 2 ^ 64).toNat :: st) a b s
  | .l2i => match st with
    | .inr (.inr (.inl u)) :: st => if u < 2147483648 then go1 ls (vI (u : Int) :: st) a b s else none
    | _ => none
  | .i2b => i1_ st fun p st => if -128 ≤ p ∧ p ≤ 127 then go1 ls (vI p :: st) a b s else none
  | .i2c => i1_ st fun p st => if 0 ≤ p ∧ p ≤ 65535 then go1 ls (vI p :: st) a b s else none
  | .dup => match st with
    | v :: st => if isC1 v = true then go1 ls (v :: v :: st) a b s else none
    | _ => none
  | .dup2 => match st with
    | v :: w :: st => if isC1 v = true ∧ isC1 w = true then go1 ls (v :: w :: v :: w :: st) a b s else none
    | _ => none
  | .pop => match st with
    | v :: st => if isC1 v = true then go1 ls st a b s else none
    | _ => none
  | .goto _ => match an with
    | [t] => some (some t, ls, st, a, b, s)
    | _ => none
  | .ifCond c _ => match an with
    | [t] => i1_ st fun p st => br1 (cmpB c p 0) t ls st a b s
    | _ => none
  | .if_icmp c _ => match an with
    | [t] => i2_ st fun p q st => br1 (cmpB c p q) t ls st a b s
    | _ => none
  | .ifnull _ => match an with
    | [t] => r1_ st fun r st => br1 (decide (r = 0)) t ls st a b s
    | _ => none
  | .ifnonnull _ => match an with
    | [t] => r1_ st fun r st => br1 (!decide (r = 0)) t ls st a b s
    | _ => none
  | .tableswitch _ lo _ _ => match an with
    | t :: ts => i1_ st fun p st => some (some (swT p lo ts t), ls, st, a, b, s)
    | _ => none
  | .iaload => ir_ st fun i r st => if (kd s r = 10 ∨ kd s r = 20) ∧ inA s r i then go1 ls (vI (a r i) :: st) a b s else none
  | .baload => ir_ st fun i r st => if (kd s r = 11 ∨ kd s r = 13) ∧ inA s r i then go1 ls (vI (a r i) :: st) a b s else none
  | .caload => ir_ st fun i r st => if kd s r = 12 ∧ inA s r i then go1 ls (vI (a r i) :: st) a b s else none
  | .aaload => ir_ st fun i r st => if (kd s r = 14 ∨ kd s r = 15) ∧ inA s r i then go1 ls (vR (b r i) :: st) a b s else none
  | .iastore => vir_ st fun v i r st => if kd s r = 10 ∧ inA s r i then go1 ls st (wI a r i v) b s else none
  | .bastore => vir_ st fun v i r st => if (kd s r = 11 ∧ -128 ≤ v ∧ v ≤ 127 ∨ kd s r = 13 ∧ 0 ≤ v ∧ v ≤ 1) ∧ inA s r i then go1 ls st (wI a r i v) b s else none
  | .castore => vir_ st fun v i r st => if (kd s r = 12 ∧ 0 ≤ v ∧ v ≤ 65535) ∧ inA s r i then go1 ls st (wI a r i v) b s else none
  | .aastore => match st with
    | .inr (.inl v) :: .inl i :: .inr (.inl r) :: st => if (kd s r = 14 ∧ (v = 0 ∨ kd s v = 6) ∨ kd s r = 15 ∧ (v = 0 ∨ kd s v = 0)) ∧ inA s r i then go1 ls st a (wR b r i v) s else none
    | _ => none
  | .arraylength => r1_ st fun r st => if kd s r = 10 ∨ kd s r = 11 ∨ kd s r = 12 ∨ kd s r = 20 then go1 ls (vI (ln s r) :: st) a b s else none
  | .getfield _ => match an with
    | [0, c, k] => r1_ st fun r st => if kd s r = c then go1 ls (vI (a r k) :: st) a b s else none
    | [1, c, k] => r1_ st fun r st => if kd s r = c then go1 ls (vR (b r k) :: st) a b s else none
    | _ => none
  | .putfield _ => match an with
    | [0, c, k] => ir_ st fun v r st => if kd s r = c then go1 ls st (wI a r k v) b s else none
    | [1, c, k] => match st with
      | .inr (.inl v) :: .inr (.inl r) :: st => if kd s r = c then go1 ls st a (wR b r k v) s else none
      | _ => none
    | _ => none
  | .getstatic _ => match an with
    | [14, r, _] => go1 ls (vR r :: st) a b s
    | _ => none
  | .new _ => match an with
    | [9, c, n] => go1 ls (vR (nx s + 5) :: st) (zI a (nx s + 5)) (zR b (nx s + 5)) (nwS s c 0 n)
    | _ => none
  | .newarray t => i1_ st fun n st => if arK t ≠ 99 ∧ 0 ≤ n ∧ n ≤ 100000 then go1 ls (vR (nx s + 5) :: st) (zI a (nx s + 5)) b (nwS s (arK t) n n.toNat) else none
  | .anewarray _ => match an with
    | [10, k] => i1_ st fun n st => if 0 ≤ n ∧ n ≤ 100000 then go1 ls (vR (nx s + 5) :: st) a (zR b (nx s + 5)) (nwS s k n n.toNat) else none
    | _ => none
  | .checkcast _ => match an with
    | [11, k] => r1_ st fun r st => if kd s r = k then go1 ls (vR r :: st) a b s else none
    | _ => none
  | .invokespecial _ => match an with
    | [6] => r1_ st fun r st => if r ≠ 0 ∧ (st.map catV).sum ≤ 8 then go1 ls st a b s else none
    | _ => none
  | .invokestatic _ => match an with
    | [7] => match st with
      | .inl n :: .inl dp :: .inr (.inl r) :: .inl sp :: .inr (.inl q) :: st => if (kd s q = 10 ∧ kd s r = 10 ∨ kd s q = 11 ∧ kd s r = 11) ∧ 0 ≤ n ∧ 0 ≤ dp ∧ 0 ≤ sp ∧ sp + n ≤ ln s q ∧ dp + n ≤ ln s r ∧ (st.map catV).sum ≤ 8 then go1 ls st (cpI a q r sp dp n) b s else none
      | _ => none
    | _ => none
  | .invokevirtual _ => match an with
    | [8, z] => r1_ st fun r st => if (z = 0 ∧ kd s r = 20 ∧ r = 2 ∨ z = 1 ∧ kd s r = 11) ∧ (st.map catV).sum ≤ 8 then go1 ls (vR (nx s + 5) :: st) (clI a r (nx s + 5)) b (nwS s (if z = 0 then 10 else 11) (ln s r) (ln s r).toNat) else none
    | _ => none
  | _ => none
def retOf (y : Nat) (ins : Instr) (st : List Vl) : Option (List Vl) := match ins with
  | .ireturn => match st with
    | [.inl x] => if rt y = some .int ∨ rt y = some .boolean ∧ (x = 0 ∨ x = 1) then some [vI x] else none
    | _ => none
  | .areturn => match st with
    | [.inr (.inl r)] => if r ≠ 0 ∧ (rt y = some (.array .byte) ∨ rt y = some (.object "DomeLamps$Show")) then some [vR r] else none
    | _ => none
  | .return_ => match st with
    | [] => if rt y = none then some [] else none
    | _ => none
  | _ => none
/-- a call: whom, with what, and what stays on the stack -/
def callOf (ins : Instr) (an : List Nat) (st : List Vl) (s : SH) : Option (Nat × List Vl × List Vl) := match ins with
  | .invokestatic _ => match an with
    | [2, t, n] => if n ≤ st.length ∧ ((st.drop n).map catV).sum ≤ 8 ∧ (spr (st.take n).reverse).length ≤ mL t then some (t, (st.take n).reverse, st.drop n) else none
    | _ => none
  | .invokevirtual _ => match an with
    | [3, t, n] => match st.drop n with
      | .inr (.inl r) :: rest => if n ≤ st.length ∧ (rest.map catV).sum ≤ 8 ∧ kd s r = ow t ∧ (spr (vR r :: (st.take n).reverse)).length ≤ mL t then some (t, vR r :: (st.take n).reverse, rest) else none
      | _ => none
    | _ => none
  | .invokespecial _ => match an with
    | [4, t, n] => match st.drop n with
      | .inr (.inl r) :: rest => if n ≤ st.length ∧ (rest.map catV).sum ≤ 8 ∧ kd s r = ow t ∧ (spr (vR r :: (st.take n).reverse)).length ≤ mL t then some (t, vR r :: (st.take n).reverse, rest) else none
      | _ => none
    | [5, t, n] => match st.drop n with
      | .inr (.inl r) :: rest => if n ≤ st.length ∧ (rest.map catV).sum ≤ 8 ∧ kd s r = ow t ∧ (spr (vR r :: (st.take n).reverse)).length ≤ mL t then some (t, vR r :: (st.take n).reverse, rest) else none
      | _ => none
    | _ => none
  | _ => none
/-- so many steps at most, calls' steps counted with them -/
def exN : Nat → Nat → Nat → List Vl → List Vl → HI → HR → SH → Rs
  | 0, _, _, _, _, _, _, _ => none
  | n + 1, y, pc, ls, st, a, b, s => match fetch y pc with
    | none => none
    | some (len, ins, an) => match retOf y ins st with
      | some rv => some (rv, a, b, s)
      | none => match callOf ins an st s with
        | some (t, as, rest) => match exN n t 0 (ent (mL t) as) [] a b s with
          | none => none
          | some (rv, a1, b1, s1) => exN n y (pc + len) ls (rv ++ rest) a1 b1 s1
        | none => match st1 ins an ls st a b s with
          | none => none
          | some (j, ls1, st1, a1, b1, s1) => exN n y (j.getD (pc + len)) ls1 st1 a1 b1 s1
