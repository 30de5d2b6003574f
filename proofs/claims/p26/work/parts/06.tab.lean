/-! ===== the tables' words, checked ===== -/
def gdW : List Jvm.Cond := lw_tbl.filter goodWord
def condOf (c key : Nat) (an : List Nat) : Jvm.Cond := match an with
  | [0, q, k] => .fieldLink (CN c) (key / 2) (CT q k).1 (CT q k).2.1 (CT q k).2.2.1
  | [1, q, k] => .fieldLink (CN c) (key / 2) (CT q k).1 (CT q k).2.1 (CT q k).2.2.1
  | [2, t, _] => .methodLink (CN c) (key / 2) (nm t)
  | [3, t, _] => .methodLink (CN c) (key / 2) (nm t)
  | [4, t, _] => .methodLink (CN c) (key / 2) (nm t)
  | [6] => .methodLink (CN c) (key / 2) objectInit
  | [7] => .methodLink (CN c) (key / 2) arraycopyName
  | [8, z] => .methodLink (CN c) (key / 2) ⟨if z = 0 then "[I" else "[B", "clone", "()Ljava/lang/Object;"⟩
  | [9, q, _] => .classLink (CN c) (key / 2) (CN q)
  | [10, k] => .classLink (CN c) (key / 2) (if k = 14 then RX6 else RX0)
  | [11, k] => .classLink (CN c) (key / 2) (if k = 10 then "[I" else "[B")
  | [12, v] => .constant (CN c) (key / 2) (Int32.ofNat v)
  | [13, v] => .constantLong (CN c) (key / 2) (Int64.ofNat v)
  | [14, r, _] => .fieldLink (CN c) (key / 2) RX7 (svN r) "[I"
  | _ => .tt
def isRefT (t : FieldType) : Bool := match t with
  | .object _ => true
  | .array _ => true
  | _ => false
def arity (t : Nat) : Option Nat := (parseMethodDescriptor (nm t).desc).map (fun d => d.parameters.length)
def moreOf (c key : Nat) (an : List Nat) : Bool := match an with
  | [0, q, k] => decide (q < 9) && decide (k < CNF q) && isF q k && decide ((CT q k).1 = CN q)
  | [1, q, k] => decide (q < 9) && decide (k < CNF q) && !isF q k && decide ((CT q k).1 = CN q) && isRefT (CF q k)
  | [2, t, n] => decide (t < 87) && decide ((pl t).2.1 = 1) && decide (arity t = some n)
  | [3, t, n] => decide (t < 87) && decide ((pl t).2.1 = 0) && decide (arity t = some n) && decide (ow t < 9) && decide (lw_tbl[(pl t).2.2.2]? = some (.selects (CN (ow t)) (nm t) (nm t)))
  | [4, t, n] => decide (t < 87) && decide ((pl t).2.1 = 0) && decide (arity t = some n) && decide (ow t < 9) && decide ((nm t).name = "<init>") && decide (rt t = none)
  | [5, t, n] => decide (t < 87) && decide ((pl t).2.1 = 0) && decide (arity t = some n) && decide (ow t < 9) && decide ((nm t).name = "<init>") && decide (rt t = none) && decide ((c, key / 2, t) ∈ [(7, 9, 0), (0, 34, 26), (0, 41, 10), (7, 21, 33), (7, 28, 35), (2, 17, 0)])
  | [6] => true
  | [7] => true
  | [8, z] => decide (z = 0 ∧ c = 0 ∨ z = 1)
  | [9, q, n] => decide (q < 9) && decide (n = CNF q) && decide (Jvm.Cond.instantiable (CN q) n ∈ lw_tbl)
  | [10, k] => decide (k = 14 ∨ k = 15)
  | [11, k] => decide (k = 10 ∨ k = 11)
  | [12, v] => decide (v < 2147483648)
  | [13, v] => decide (v < 2 ^ 63)
  | [14, r, z] => decide (2 ≤ r ∧ r < 5) && decide (z = 0 ∨ z = 1 ∧ r = 2 ∧ c = 0 ∧ key = 18)
  | _ => false
def needW (an : List Nat) : Bool := match an with
  | [5, _, _] => false
  | [14, _, 1] => false
  | _ => true
def lkB (c : Nat) (e : Nat × List Nat × Nat) : Bool := moreOf c e.1 e.2.1 && (if needW e.2.1 = true then decide (lw_tbl[e.2.2]? = some (condOf c e.1 e.2.1)) && goodWord (condOf c e.1 e.2.1) else true)
theorem lk_0 : (LK 0).all (lkB 0) = true := by decide +kernel
theorem lk_1 : (LK 1).all (lkB 1) = true := by decide +kernel
theorem lk_2 : (LK 2).all (lkB 2) = true := by decide +kernel
theorem lk_3 : (LK 3).all (lkB 3) = true := by decide +kernel
theorem lk_4 : (LK 4).all (lkB 4) = true := by decide +kernel
theorem lk_5 : (LK 5).all (lkB 5) = true := by decide +kernel
theorem lk_6 : (LK 6).all (lkB 6) = true := by decide +kernel
theorem lk_7 : (LK 7).all (lkB 7) = true := by decide +kernel
theorem lk_8 : (LK 8).all (lkB 8) = true := by decide +kernel
theorem lk_9 : (LK 9).all (lkB 9) = true := by decide +kernel
theorem lk_10 : (LK 10).all (lkB 10) = true := by decide +kernel
theorem lk_11 : (LK 11).all (lkB 11) = true := by decide +kernel
theorem lk_12 : (LK 12).all (lkB 12) = true := by decide +kernel
theorem lk_all (c : Nat) : (LK c).all (lkB c) = true := by
  match c with
  | 0 => exact lk_0
  | 1 => exact lk_1
  | 2 => exact lk_2
  | 3 => exact lk_3
  | 4 => exact lk_4
  | 5 => exact lk_5
  | 6 => exact lk_6
  | 7 => exact lk_7
  | 8 => exact lk_8
  | 9 => exact lk_9
  | 10 => exact lk_10
  | 11 => exact lk_11
  | 12 => exact lk_12
  | n + 13 => rfl
def mtB (t : Nat) : Bool := (if (pl t).2.1 = 1 then decide (lw_tbl[(pl t).2.2.1]? = some (.static (nm t))) else decide (lw_tbl[(pl t).2.2.1]? = some (.instanceMethod (nm t)))) && plainFor (nm t) && decide ((nm t).cls ≠ "java/lang/invoke/MethodHandle") && decide ((nm t).cls ≠ "java/lang/invoke/VarHandle") && decide (ow t < 13)
theorem mt_1 : (List.range 87).all mtB = true := by decide +kernel
theorem mt_all {t : Nat} (h : t < 87) : mtB t = true := List.all_eq_true.mp mt_1 t (List.mem_range.mpr h)
def codW (t : Nat) : Prop := lw_tbl[(pl t).1]? = some (Jvm.Cond.code (nm t) (cd t) (mL t) (rt t))
set_option maxRecDepth 100000 in
theorem codW_0 : codW 0 := rfl
set_option maxRecDepth 100000 in
theorem codW_1 : codW 1 := rfl
set_option maxRecDepth 100000 in
theorem codW_2 : codW 2 := rfl
set_option maxRecDepth 100000 in
theorem codW_3 : codW 3 := rfl
set_option maxRecDepth 100000 in
theorem codW_4 : codW 4 := rfl
set_option maxRecDepth 100000 in
theorem codW_5 : codW 5 := rfl
set_option maxRecDepth 100000 in
theorem codW_6 : codW 6 := rfl
set_option maxRecDepth 100000 in
theorem codW_7 : codW 7 := rfl
set_option maxRecDepth 100000 in
theorem codW_8 : codW 8 := rfl
set_option maxRecDepth 100000 in
theorem codW_9 : codW 9 := rfl
set_option maxRecDepth 100000 in
theorem codW_10 : codW 10 := rfl
set_option maxRecDepth 100000 in
theorem codW_11 : codW 11 := rfl
set_option maxRecDepth 100000 in
theorem codW_12 : codW 12 := rfl
set_option maxRecDepth 100000 in
theorem codW_13 : codW 13 := rfl
set_option maxRecDepth 100000 in
theorem codW_14 : codW 14 := rfl
set_option maxRecDepth 100000 in
theorem codW_15 : codW 15 := rfl
set_option maxRecDepth 100000 in
theorem codW_16 : codW 16 := rfl
set_option maxRecDepth 100000 in
theorem codW_17 : codW 17 := rfl
set_option maxRecDepth 100000 in
theorem codW_18 : codW 18 := rfl
set_option maxRecDepth 100000 in
theorem codW_19 : codW 19 := rfl
set_option maxRecDepth 100000 in
theorem codW_20 : codW 20 := rfl
set_option maxRecDepth 100000 in
theorem codW_21 : codW 21 := rfl
set_option maxRecDepth 100000 in
theorem codW_22 : codW 22 := rfl
set_option maxRecDepth 100000 in
theorem codW_23 : codW 23 := rfl
set_option maxRecDepth 100000 in
theorem codW_24 : codW 24 := rfl
set_option maxRecDepth 100000 in
theorem codW_25 : codW 25 := rfl
set_option maxRecDepth 100000 in
theorem codW_26 : codW 26 := rfl
set_option maxRecDepth 100000 in
theorem codW_27 : codW 27 := rfl
set_option maxRecDepth 100000 in
theorem codW_28 : codW 28 := rfl
set_option maxRecDepth 100000 in
theorem codW_29 : codW 29 := rfl
set_option maxRecDepth 100000 in
theorem codW_30 : codW 30 := rfl
set_option maxRecDepth 100000 in
theorem codW_31 : codW 31 := rfl
set_option maxRecDepth 100000 in
theorem codW_32 : codW 32 := rfl
set_option maxRecDepth 100000 in
theorem codW_33 : codW 33 := rfl
set_option maxRecDepth 100000 in
theorem codW_34 : codW 34 := rfl
set_option maxRecDepth 100000 in
theorem codW_35 : codW 35 := rfl
set_option maxRecDepth 100000 in
theorem codW_36 : codW 36 := rfl
set_option maxRecDepth 100000 in
theorem codW_37 : codW 37 := rfl
set_option maxRecDepth 100000 in
theorem codW_38 : codW 38 := rfl
set_option maxRecDepth 100000 in
theorem codW_39 : codW 39 := rfl
set_option maxRecDepth 100000 in
theorem codW_40 : codW 40 := rfl
set_option maxRecDepth 100000 in
theorem codW_41 : codW 41 := rfl
set_option maxRecDepth 100000 in
theorem codW_42 : codW 42 := rfl
set_option maxRecDepth 100000 in
theorem codW_43 : codW 43 := rfl
set_option maxRecDepth 100000 in
theorem codW_44 : codW 44 := rfl
set_option maxRecDepth 100000 in
theorem codW_45 : codW 45 := rfl
set_option maxRecDepth 100000 in
theorem codW_46 : codW 46 := rfl
set_option maxRecDepth 100000 in
theorem codW_47 : codW 47 := rfl
set_option maxRecDepth 100000 in
theorem codW_48 : codW 48 := rfl
set_option maxRecDepth 100000 in
theorem codW_49 : codW 49 := rfl
set_option maxRecDepth 100000 in
theorem codW_50 : codW 50 := rfl
set_option maxRecDepth 100000 in
theorem codW_51 : codW 51 := rfl
set_option maxRecDepth 100000 in
theorem codW_52 : codW 52 := rfl
set_option maxRecDepth 100000 in
theorem codW_53 : codW 53 := rfl
set_option maxRecDepth 100000 in
theorem codW_54 : codW 54 := rfl
set_option maxRecDepth 100000 in
theorem codW_55 : codW 55 := rfl
set_option maxRecDepth 100000 in
theorem codW_56 : codW 56 := rfl
set_option maxRecDepth 100000 in
theorem codW_57 : codW 57 := rfl
set_option maxRecDepth 100000 in
theorem codW_58 : codW 58 := rfl
set_option maxRecDepth 100000 in
theorem codW_59 : codW 59 := rfl
set_option maxRecDepth 100000 in
theorem codW_60 : codW 60 := rfl
set_option maxRecDepth 100000 in
theorem codW_61 : codW 61 := rfl
set_option maxRecDepth 100000 in
theorem codW_62 : codW 62 := rfl
set_option maxRecDepth 100000 in
theorem codW_63 : codW 63 := rfl
set_option maxRecDepth 100000 in
theorem codW_64 : codW 64 := rfl
set_option maxRecDepth 100000 in
theorem codW_65 : codW 65 := rfl
set_option maxRecDepth 100000 in
theorem codW_66 : codW 66 := rfl
set_option maxRecDepth 100000 in
theorem codW_67 : codW 67 := rfl
set_option maxRecDepth 100000 in
theorem codW_68 : codW 68 := rfl
set_option maxRecDepth 100000 in
theorem codW_69 : codW 69 := rfl
set_option maxRecDepth 100000 in
theorem codW_70 : codW 70 := rfl
set_option maxRecDepth 100000 in
theorem codW_71 : codW 71 := rfl
set_option maxRecDepth 100000 in
theorem codW_72 : codW 72 := rfl
set_option maxRecDepth 100000 in
theorem codW_73 : codW 73 := rfl
set_option maxRecDepth 100000 in
theorem codW_74 : codW 74 := rfl
set_option maxRecDepth 100000 in
theorem codW_75 : codW 75 := rfl
set_option maxRecDepth 100000 in
theorem codW_76 : codW 76 := rfl
set_option maxRecDepth 100000 in
theorem codW_77 : codW 77 := rfl
set_option maxRecDepth 100000 in
theorem codW_78 : codW 78 := rfl
set_option maxRecDepth 100000 in
theorem codW_79 : codW 79 := rfl
set_option maxRecDepth 100000 in
theorem codW_80 : codW 80 := rfl
set_option maxRecDepth 100000 in
theorem codW_81 : codW 81 := rfl
set_option maxRecDepth 100000 in
theorem codW_82 : codW 82 := rfl
set_option maxRecDepth 100000 in
theorem codW_83 : codW 83 := rfl
set_option maxRecDepth 100000 in
theorem codW_84 : codW 84 := rfl
set_option maxRecDepth 100000 in
theorem codW_85 : codW 85 := rfl
set_option maxRecDepth 100000 in
theorem codW_86 : codW 86 := rfl
theorem codW_l : ∀ t ∈ [0, 1, 2, 3, 4, 5, 6, 7, 8, 9, 10, 11, 12, 13, 14, 15, 16, 17, 18, 19, 20, 21, 22, 23, 24, 25, 26, 27, 28, 29, 30, 31, 32, 33, 34, 35, 36, 37, 38, 39, 40, 41, 42, 43, 44, 45, 46, 47, 48, 49, 50, 51, 52, 53, 54, 55, 56, 57, 58, 59, 60, 61, 62, 63, 64, 65, 66, 67, 68, 69, 70, 71, 72, 73, 74, 75, 76, 77, 78, 79, 80, 81, 82, 83, 84, 85, 86], codW t := List.forall_mem_cons.mpr ⟨codW_0, List.forall_mem_cons.mpr ⟨codW_1, List.forall_mem_cons.mpr ⟨codW_2, List.forall_mem_cons.mpr ⟨codW_3, List.forall_mem_cons.mpr ⟨codW_4, List.forall_mem_cons.mpr ⟨codW_5, List.forall_mem_cons.mpr ⟨codW_6, List.forall_mem_cons.mpr ⟨codW_7, List.forall_mem_cons.mpr ⟨codW_8, List.forall_mem_cons.mpr ⟨codW_9, List.forall_mem_cons.mpr ⟨codW_10, List.forall_mem_cons.mpr ⟨codW_11, List.forall_mem_cons.mpr ⟨codW_12, List.forall_mem_cons.mpr ⟨codW_13, List.forall_mem_cons.mpr ⟨codW_14, List.forall_mem_cons.mpr ⟨codW_15, List.forall_mem_cons.mpr ⟨codW_16, List.forall_mem_cons.mpr ⟨codW_17, List.forall_mem_cons.mpr ⟨codW_18, List.forall_mem_cons.mpr ⟨codW_19, List.forall_mem_cons.mpr ⟨codW_20, List.forall_mem_cons.mpr ⟨codW_21, List.forall_mem_cons.mpr ⟨codW_22, List.forall_mem_cons.mpr ⟨codW_23, List.forall_mem_cons.mpr ⟨codW_24, List.forall_mem_cons.mpr ⟨codW_25, List.forall_mem_cons.mpr ⟨codW_26, List.forall_mem_cons.mpr ⟨codW_27, List.forall_mem_cons.mpr ⟨codW_28, List.forall_mem_cons.mpr ⟨codW_29, List.forall_mem_cons.mpr ⟨codW_30, List.forall_mem_cons.mpr ⟨codW_31, List.forall_mem_cons.mpr ⟨codW_32, List.forall_mem_cons.mpr ⟨codW_33, List.forall_mem_cons.mpr ⟨codW_34, List.forall_mem_cons.mpr ⟨codW_35, List.forall_mem_cons.mpr ⟨codW_36, List.forall_mem_cons.mpr ⟨codW_37, List.forall_mem_cons.mpr ⟨codW_38, List.forall_mem_cons.mpr ⟨codW_39, List.forall_mem_cons.mpr ⟨codW_40, List.forall_mem_cons.mpr ⟨codW_41, List.forall_mem_cons.mpr ⟨codW_42, List.forall_mem_cons.mpr ⟨codW_43, List.forall_mem_cons.mpr ⟨codW_44, List.forall_mem_cons.mpr ⟨codW_45, List.forall_mem_cons.mpr ⟨codW_46, List.forall_mem_cons.mpr ⟨codW_47, List.forall_mem_cons.mpr ⟨codW_48, List.forall_mem_cons.mpr ⟨codW_49, List.forall_mem_cons.mpr ⟨codW_50, List.forall_mem_cons.mpr ⟨codW_51, List.forall_mem_cons.mpr ⟨codW_52, List.forall_mem_cons.mpr ⟨codW_53, List.forall_mem_cons.mpr ⟨codW_54, List.forall_mem_cons.mpr ⟨codW_55, List.forall_mem_cons.mpr ⟨codW_56, List.forall_mem_cons.mpr ⟨codW_57, List.forall_mem_cons.mpr ⟨codW_58, List.forall_mem_cons.mpr ⟨codW_59, List.forall_mem_cons.mpr ⟨codW_60, List.forall_mem_cons.mpr ⟨codW_61, List.forall_mem_cons.mpr ⟨codW_62, List.forall_mem_cons.mpr ⟨codW_63, List.forall_mem_cons.mpr ⟨codW_64, List.forall_mem_cons.mpr ⟨codW_65, List.forall_mem_cons.mpr ⟨codW_66, List.forall_mem_cons.mpr ⟨codW_67, List.forall_mem_cons.mpr ⟨codW_68, List.forall_mem_cons.mpr ⟨codW_69, List.forall_mem_cons.mpr ⟨codW_70, List.forall_mem_cons.mpr ⟨codW_71, List.forall_mem_cons.mpr ⟨codW_72, List.forall_mem_cons.mpr ⟨codW_73, List.forall_mem_cons.mpr ⟨codW_74, List.forall_mem_cons.mpr ⟨codW_75, List.forall_mem_cons.mpr ⟨codW_76, List.forall_mem_cons.mpr ⟨codW_77, List.forall_mem_cons.mpr ⟨codW_78, List.forall_mem_cons.mpr ⟨codW_79, List.forall_mem_cons.mpr ⟨codW_80, List.forall_mem_cons.mpr ⟨codW_81, List.forall_mem_cons.mpr ⟨codW_82, List.forall_mem_cons.mpr ⟨codW_83, List.forall_mem_cons.mpr ⟨codW_84, List.forall_mem_cons.mpr ⟨codW_85, List.forall_mem_cons.mpr ⟨codW_86, fun _ h => absurd h List.not_mem_nil⟩⟩⟩⟩⟩⟩⟩⟩⟩⟩⟩⟩⟩⟩⟩⟩⟩⟩⟩⟩⟩⟩⟩⟩⟩⟩⟩⟩⟩⟩⟩⟩⟩⟩⟩⟩⟩⟩⟩⟩⟩⟩⟩⟩⟩⟩⟩⟩⟩⟩⟩⟩⟩⟩⟩⟩⟩⟩⟩⟩⟩⟩⟩⟩⟩⟩⟩⟩⟩⟩⟩⟩⟩⟩⟩⟩⟩⟩⟩⟩⟩⟩⟩⟩⟩⟩⟩
theorem codW_m : (List.range 87).all (fun t => decide (t ∈ [0, 1, 2, 3, 4, 5, 6, 7, 8, 9, 10, 11, 12, 13, 14, 15, 16, 17, 18, 19, 20, 21, 22, 23, 24, 25, 26, 27, 28, 29, 30, 31, 32, 33, 34, 35, 36, 37, 38, 39, 40, 41, 42, 43, 44, 45, 46, 47, 48, 49, 50, 51, 52, 53, 54, 55, 56, 57, 58, 59, 60, 61, 62, 63, 64, 65, 66, 67, 68, 69, 70, 71, 72, 73, 74, 75, 76, 77, 78, 79, 80, 81, 82, 83, 84, 85, 86])) = true := by decide +kernel
theorem codW_all {t : Nat} (h : t < 87) : codW t := codW_l t (of_decide_eq_true (List.all_eq_true.mp codW_m t (List.mem_range.mpr h)))
theorem ini_all : (List.range 13).all (fun c => decide (Jvm.Cond.initialized (CN c) ∈ lw_tbl)) = true := by decide +kernel
theorem lay_all : (List.range 9).all (fun c => (u_ws (CN c) (CT c) (CNF c)).all (fun w => decide (w ∈ lw_tbl) && goodWord w)) = true := by decide +kernel
theorem ty_all : (List.range 9).all (fun c => (List.range (CNF c)).all (fun k => decide (parseFieldDescriptor (CT c k).2.2.1 = some (CF c k)) && decide (isF c k = true → CF c k = .int) && decide (isF c k = false → isRefT (CF c k) = true) && (List.range (CNF c)).all (fun j => decide (k = j ∨ (CT c k).2.1 ≠ (CT c j).2.1)))) = true := by decide +kernel
theorem gd_all : ([objectInit].all (fun y => decide (Jvm.Cond.instanceMethod y ∈ lw_tbl) && decide (Jvm.Cond.code y ⟨#[0xb1]⟩ 1 none ∈ lw_tbl)) && decide (Jvm.Cond.native arraycopyName ∈ lw_tbl) && decide (Jvm.Cond.static arraycopyName ∈ lw_tbl) && decide (Jvm.Cond.initialized "java/lang/System" ∈ lw_tbl) && decide (Jvm.Cond.arrayClass .int ∈ lw_tbl) && decide (Jvm.Cond.arrayClass .byte ∈ lw_tbl) && decide (Jvm.Cond.arrayClass .char ∈ lw_tbl) && decide (Jvm.Cond.arrayClass .boolean ∈ lw_tbl) && decide (Jvm.Cond.native ⟨"java/lang/Object", "clone", "()Ljava/lang/Object;"⟩ ∈ lw_tbl) && decide (Jvm.Cond.instanceMethod ⟨"java/lang/Object", "clone", "()Ljava/lang/Object;"⟩ ∈ lw_tbl) && ["[I", "[B"].all (fun ad => decide (Jvm.Cond.sameMethod ad "java/lang/Object" "clone" "()Ljava/lang/Object;" ∈ lw_tbl) && decide (Jvm.Cond.selects ad ⟨ad, "clone", "()Ljava/lang/Object;"⟩ ⟨"java/lang/Object", "clone", "()Ljava/lang/Object;"⟩ ∈ lw_tbl))) = true := by decide +kernel
