/-! AN ABSTRACT MACHINE: values, a typed heap, one step, runs with a bound on steps and on depth -/
/-- the next reference, the slots in all; by reference: kind, length; by reference and place: ints, longs, references -/
abbrev aH : Type := Nat × Nat × (Nat → Nat) × (Nat → Nat) × (Nat → Nat → Int32) × (Nat → Nat → Int64) × (Nat → Nat → Nat)
def gN (h : aH) : Nat := h.1
def gT (h : aH) : Nat := h.2.1
def gK (h : aH) (a : Nat) : Nat := h.2.2.1 a
def gL (h : aH) (a : Nat) : Nat := h.2.2.2.1 a
def gI (h : aH) (a i : Nat) : Int32 := h.2.2.2.2.1 a i
def gJ (h : aH) (a i : Nat) : Int64 := h.2.2.2.2.2.1 a i
def gR (h : aH) (a i : Nat) : Nat := h.2.2.2.2.2.2 a i
def pI (h : aH) (a i : Nat) (x : Int32) : aH := (h.1, h.2.1, h.2.2.1, h.2.2.2.1, (fun b j => if b = a ∧ j = i then x else h.2.2.2.2.1 b j), h.2.2.2.2.2.1, h.2.2.2.2.2.2)
def pJ (h : aH) (a i : Nat) (x : Int64) : aH := (h.1, h.2.1, h.2.2.1, h.2.2.2.1, h.2.2.2.2.1, (fun b j => if b = a ∧ j = i then x else h.2.2.2.2.2.1 b j), h.2.2.2.2.2.2)
def pR (h : aH) (a i : Nat) (x : Nat) : aH := (h.1, h.2.1, h.2.2.1, h.2.2.2.1, h.2.2.2.2.1, h.2.2.2.2.2.1, (fun b j => if b = a ∧ j = i then x else h.2.2.2.2.2.2 b j))
/-- a new cell of a kind, with so many places, all of them 0 -/
def gNew (h : aH) (k n : Nat) : aH := (h.1 + 1, h.2.1 + n, (fun b => if b = h.1 then k else h.2.2.1 b), (fun b => if b = h.1 then n else h.2.2.2.1 b), (fun b j => if b = h.1 then 0 else h.2.2.2.2.1 b j), (fun b j => if b = h.1 then 0 else h.2.2.2.2.2.1 b j), (fun b j => if b = h.1 then 0 else h.2.2.2.2.2.2 b j))
/-- n ints from place i of a into b from place j on -/
def gCopyI (h : aH) (a i b j n : Nat) : aH := (h.1, h.2.1, h.2.2.1, h.2.2.2.1, (fun c k => if c = b ∧ j ≤ k ∧ k < j + n then h.2.2.2.2.1 a (i + (k - j)) else h.2.2.2.2.1 c k), h.2.2.2.2.2.1, h.2.2.2.2.2.2)
def gCopyR (h : aH) (a i b j n : Nat) : aH := (h.1, h.2.1, h.2.2.1, h.2.2.2.1, h.2.2.2.2.1, h.2.2.2.2.2.1, (fun c k => if c = b ∧ j ≤ k ∧ k < j + n then h.2.2.2.2.2.2 a (i + (k - j)) else h.2.2.2.2.2.2 c k))
section GH
variable (h : aH) (a b i j k n x : Nat) (xi : Int32) (xj : Int64)
theorem gN_pI : gN (pI h a i xi) = gN h := rfl
theorem gT_pI : gT (pI h a i xi) = gT h := rfl
theorem gK_pI : gK (pI h a i xi) b = gK h b := rfl
theorem gL_pI : gL (pI h a i xi) b = gL h b := rfl
theorem gI_pI : gI (pI h a i xi) b j = if b = a ∧ j = i then xi else gI h b j := rfl
theorem gJ_pI : gJ (pI h a i xi) b j = gJ h b j := rfl
theorem gR_pI : gR (pI h a i xi) b j = gR h b j := rfl
theorem gN_pJ : gN (pJ h a i xj) = gN h := rfl
theorem gT_pJ : gT (pJ h a i xj) = gT h := rfl
theorem gK_pJ : gK (pJ h a i xj) b = gK h b := rfl
theorem gL_pJ : gL (pJ h a i xj) b = gL h b := rfl
theorem gI_pJ : gI (pJ h a i xj) b j = gI h b j := rfl
theorem gJ_pJ : gJ (pJ h a i xj) b j = if b = a ∧ j = i then xj else gJ h b j := rfl
theorem gR_pJ : gR (pJ h a i xj) b j = gR h b j := rfl
theorem gN_pR : gN (pR h a i x) = gN h := rfl
theorem gT_pR : gT (pR h a i x) = gT h := rfl
theorem gK_pR : gK (pR h a i x) b = gK h b := rfl
theorem gL_pR : gL (pR h a i x) b = gL h b := rfl
theorem gI_pR : gI (pR h a i x) b j = gI h b j := rfl
theorem gJ_pR : gJ (pR h a i x) b j = gJ h b j := rfl
theorem gR_pR : gR (pR h a i x) b j = if b = a ∧ j = i then x else gR h b j := rfl
theorem gN_gNew : gN (gNew h k n) = gN h + 1 := rfl
theorem gT_gNew : gT (gNew h k n) = gT h + n := rfl
theorem gK_gNew : gK (gNew h k n) b = if b = gN h then k else gK h b := rfl
theorem gL_gNew : gL (gNew h k n) b = if b = gN h then n else gL h b := rfl
theorem gI_gNew : gI (gNew h k n) b j = if b = gN h then 0 else gI h b j := rfl
theorem gJ_gNew : gJ (gNew h k n) b j = if b = gN h then 0 else gJ h b j := rfl
theorem gR_gNew : gR (gNew h k n) b j = if b = gN h then 0 else gR h b j := rfl
end GH
/-- where, the locals, the operands (top first), the heap -/
abbrev aCf : Type := Nat × List (Option aV) × List aV × aH
/-- an answer, or an exception by its number -/
abbrev aOut : Type := Option aV ⊕ Nat
/-- on, into a call, or at the end -/
abbrev aSt : Type := aCf ⊕ ((Nat × List aV × aCf) ⊕ (aOut × aH))
def aGo (pc : Nat) (L : List (Option aV)) (S : List aV) (h : aH) : Option aSt := some (.inl (pc, L, S, h))
/-- a local is written: what stood there, and a long that reached into it, is gone -/
def aSet (L : List (Option aV)) (i : Nat) (v : aV) : List (Option aV) := match i with
  | 0 => L.set 0 (some v)
  | k + 1 => match L[k]? with
    | some (some (.inr (.inl _))) => (L.set k none).set (k + 1) (some v)
    | _ => L.set (k + 1) (some v)
def aKill (ks : List Nat) (L : List (Option aV)) : List (Option aV) := ks.foldl (fun l i => l.set i none) L
def aBin (f : Int32 → Int32 → Int32) (pc : Nat) (L : List (Option aV)) (S : List aV) (h : aH) : Option aSt := match S with
  | .inl y :: .inl x :: S => aGo pc L (vI (f x y) :: S) h
  | _ => none
def aBinL (f : Int64 → Int64 → Int64) (pc : Nat) (L : List (Option aV)) (S : List aV) (h : aH) : Option aSt := match S with
  | .inr (.inl y) :: .inr (.inl x) :: S => aGo pc L (vL (f x y) :: S) h
  | _ => none
def aUn (f : Int32 → Int32) (pc : Nat) (L : List (Option aV)) (S : List aV) (h : aH) : Option aSt := match S with
  | .inl x :: S => aGo pc L (vI (f x) :: S) h
  | _ => none
def aIf (f : Int32 → Bool) (t pc : Nat) (L : List (Option aV)) (S : List aV) (h : aH) : Option aSt := match S with
  | .inl x :: S => if f x = true then aGo t L S h else aGo pc L S h
  | _ => none
def aIf2 (f : Int32 → Int32 → Bool) (t pc : Nat) (L : List (Option aV)) (S : List aV) (h : aH) : Option aSt := match S with
  | .inl y :: .inl x :: S => if f x y = true then aGo t L S h else aGo pc L S h
  | _ => none
def aCat1 (v : aV) : Bool := match v with
  | .inr (.inl _) => false
  | _ => true
/-- words of the operands -/
def aWt (S : List aV) : Nat := match S with
  | [] => 0
  | .inr (.inl _) :: S => 2 + aWt S
  | _ :: S => 1 + aWt S
def aIrem (x y : Int32) : Int32 := x - x / y * y
def aUshr (x y : Int32) : Int32 := (x.toUInt32 >>> (y.toUInt32 &&& Int32.toUInt32 31)).toInt32
def aLcmp (x y : Int64) : Int32 := if x < y then -1 else if x = y then 0 else 1
def aCond (c : Jvm.ClassFile.Cond) (x y : Int32) : Bool := match c with
  | .eq => decide (x = y)
  | .ne => !decide (x = y)
  | .lt => decide (x < y)
  | .ge => decide (y ≤ x)
  | .gt => decide (y < x)
  | .le => decide (x ≤ y)
/-- loads and stores of arrays of the kinds 100 (int), 101 (long), 102 (boolean), 103 (byte), 104 (references) -/
def aLdI (ks : List Nat) (pc : Nat) (L : List (Option aV)) (S : List aV) (h : aH) : Option aSt := match S with
  | .inl i :: .inr (.inr (.inl a)) :: S => if ks.contains (gK h a) = true ∧ ¬ (i < 0 ∨ gL h a ≤ i.toNatClampNeg) then aGo pc L (vI (gI h a i.toNatClampNeg) :: S) h else none
  | _ => none
def aStI (k : Nat) (f : Int32 → Int32) (pc : Nat) (L : List (Option aV)) (S : List aV) (h : aH) : Option aSt := match S with
  | .inl x :: .inl i :: .inr (.inr (.inl a)) :: S => if 8 ≤ a ∧ gK h a = k ∧ ¬ (i < 0 ∨ gL h a ≤ i.toNatClampNeg) then aGo pc L S (pI h a i.toNatClampNeg (f x)) else none
  | _ => none
/-- an array's bytes -/
def aBytes (k : Nat) : Nat := if k = 101 then 8 else if k = 102 ∨ k = 103 then 1 else 4
def aTop (n : Nat) (S : List aV) : Option (List aV × List aV) := if S.length < n then none else some ((S.take n).reverse, S.drop n)
def aNewA (k pc : Nat) (L : List (Option aV)) (S : List aV) (h : aH) : Option aSt := match S with
  | .inl n :: S => if ¬ n < 0 ∧ n.toNatClampNeg ≤ 1000000 then aGo pc L (vR (gN h) :: S) (gNew h k n.toNatClampNeg) else none
  | _ => none
/-- null, or an object of a class of ours -/
def aObj (h : aH) (r : Nat) : Bool := decide (r = 0) || (decide (0 < gK h r ∧ gK h r < 15) && decide (gK h r ≠ 13))
/-- the receiver: none is asked (0, 97), any own cell (99), one of a class -/
def aRcv (k : aV) (as : List aV) (h : aH) : Bool := match k with
  | .inr (.inr (.inl 0)) => true
  | .inr (.inr (.inl 97)) => true
  | .inr (.inr (.inl rk)) => match as with
    | .inr (.inr (.inl a)) :: _ => decide (8 ≤ a) && (decide (rk = 99) || decide (gK h a = rk))
    | _ => false
  | _ => false
/-- the switch's target -/
def aSw (d lo hi : Int) (offs : Array Int) (x : Int32) : Nat := if x.toInt < lo ∨ hi < x.toInt then d.toNat else (offs.getD (x.toInt - lo).toNat d).toNat
def aLook (d : Int) (ps : List (Int × Int)) (x : Int) : Nat := match ps with
  | [] => d.toNat
  | (a, t) :: ps => if x = a then t.toNat else aLook d ps x
/-- the types of a class's fields, by the class's number and the field's: 0 int, 1 long, 2 a reference, 3 boolean; here the machine takes them from its instructions: .getfield, .putfield (0, 3 read), .fload, .fstore (1), .dload, .dstore (2), .putstatic (3 written); the number is 100 times the class's and the field's -/
def aStep (z : Bool) (E : aE) (pc : Nat) (L : List (Option aV)) (S : List aV) (h : aH) : Option aSt :=
  match E.1 with
  | .iload i => match L[i]? with
    | some (some (.inl v)) => aGo (pc + E.2.1) L (vI v :: S) h
    | _ => none
  | .lload i => match L[i]? with
    | some (some (.inr (.inl v))) => aGo (pc + E.2.1) L (vL v :: S) h
    | _ => none
  | .aload i => match L[i]? with
    | some (some (.inr (.inr v))) => aGo (pc + E.2.1) L (.inr (.inr v) :: S) h
    | _ => none
  | .istore i => match S with
    | .inl v :: S => if i < L.length then aGo (pc + E.2.1) (aSet L i (vI v)) S h else none
    | _ => none
  | .astore i => match S with
    | .inr (.inr v) :: S => if i < L.length then aGo (pc + E.2.1) (aSet L i (.inr (.inr v))) S h else none
    | _ => none
  | .lstore i => match S with
    | .inr (.inl x) :: S => if i + 1 < L.length then aGo (pc + E.2.1) ((aSet L i (vL x)).set (i + 1) none) S h else none
    | _ => none
  | .iinc i c => match L[i]? with
    | some (some (.inl x)) => aGo (pc + E.2.1) (aSet L i (vI (x + Int32.ofInt c))) S h
    | _ => none
  | .nop => aGo (pc + E.2.1) L (E.2.2.2 :: S) h
  | .iadd => aBin (fun x y => x + y) (pc + E.2.1) L S h
  | .isub => aBin (fun x y => x - y) (pc + E.2.1) L S h
  | .imul => aBin (fun x y => x * y) (pc + E.2.1) L S h
  | .iand => aBin (fun x y => x &&& y) (pc + E.2.1) L S h
  | .ior => aBin (fun x y => x ||| y) (pc + E.2.1) L S h
  | .ixor => aBin (fun x y => x ^^^ y) (pc + E.2.1) L S h
  | .ishl => aBin (fun x y => x <<< (y &&& 31)) (pc + E.2.1) L S h
  | .ishr => aBin (fun x y => x >>> (y &&& 31)) (pc + E.2.1) L S h
  | .iushr => aBin aUshr (pc + E.2.1) L S h
  | .idiv => match S with
    | .inl y :: .inl x :: S => if y = 0 then none else aGo (pc + E.2.1) L (vI (x / y) :: S) h
    | _ => none
  | .irem => match S with
    | .inl y :: .inl x :: S => if y = 0 then none else aGo (pc + E.2.1) L (vI (aIrem x y) :: S) h
    | _ => none
  | .ineg => aUn (fun x => -x) (pc + E.2.1) L S h
  | .i2b => aUn (fun x => x.toInt8.toInt32) (pc + E.2.1) L S h
  | .ladd => aBinL (fun x y => x + y) (pc + E.2.1) L S h
  | .lsub => aBinL (fun x y => x - y) (pc + E.2.1) L S h
  | .lmul => aBinL (fun x y => x * y) (pc + E.2.1) L S h
  | .lor => aBinL (fun x y => x ||| y) (pc + E.2.1) L S h
  | .ldiv => match S with
    | .inr (.inl y) :: .inr (.inl x) :: S => if y = 0 then none else aGo (pc + E.2.1) L (vL (x / y) :: S) h
    | _ => none
  | .lshl => match S with
    | .inl y :: .inr (.inl x) :: S => aGo (pc + E.2.1) L (vL (x <<< (y.toInt64 &&& 63)) :: S) h
    | _ => none
  | .lcmp => match S with
    | .inr (.inl y) :: .inr (.inl x) :: S => aGo (pc + E.2.1) L (vI (aLcmp x y) :: S) h
    | _ => none
  | .i2l => match S with
    | .inl x :: S => aGo (pc + E.2.1) L (vL x.toInt64 :: S) h
    | _ => none
  | .l2i => match S with
    | .inr (.inl x) :: S => aGo (pc + E.2.1) L (vI x.toInt32 :: S) h
    | _ => none
  | .dup => match S with
    | v :: S => if aCat1 v = true then aGo (pc + E.2.1) L (v :: v :: S) h else none
    | _ => none
  | .pop => match S with
    | v :: S => if aCat1 v = true then aGo (pc + E.2.1) L S h else none
    | _ => none
  | .dup_x1 => match S with
    | v :: w :: S => if aCat1 v = true ∧ aCat1 w = true then aGo (pc + E.2.1) L (v :: w :: v :: S) h else none
    | _ => none
  | .dup2 => match S with
    | v :: w :: S => if aCat1 v = true ∧ aCat1 w = true then aGo (pc + E.2.1) L (v :: w :: v :: w :: S) h else none
    | _ => none
  | .ifCond c t => aIf (fun x => aCond c x 0) t.toNat (pc + E.2.1) L S h
  | .if_icmp c t => aIf2 (aCond c) t.toNat (pc + E.2.1) L S h
  | .if_acmp c t => match S with
    | .inr (.inr (.inl y)) :: .inr (.inr (.inl x)) :: S => if x = y ∨ ((8 ≤ x ∨ x = 0 ∨ x = 2) ∧ (8 ≤ y ∨ y = 0 ∨ y = 2)) then (if (match c with | .eq => decide (x = y) | .ne => !decide (x = y)) = true then aGo t.toNat L S h else aGo (pc + E.2.1) L S h) else none
    | _ => none
  | .ifnull t => match S with
    | .inr (.inr (.inl x)) :: S => if x = 0 then aGo t.toNat L S h else aGo (pc + E.2.1) L S h
    | _ => none
  | .ifnonnull t => match S with
    | .inr (.inr (.inl x)) :: S => if x = 0 then aGo (pc + E.2.1) L S h else aGo t.toNat L S h
    | _ => none
  | .goto t => aGo t.toNat L S h
  | .tableswitch d lo hi offs => match S with
    | .inl x :: S => aGo (aSw d lo hi offs x) L S h
    | _ => none
  | .lookupswitch d ps => match S with
    | .inl x :: S => aGo (aLook d ps.toList x.toInt) L S h
    | _ => none
  | .iaload => aLdI [100, 105] (pc + E.2.1) L S h
  | .baload => aLdI [102, 103] (pc + E.2.1) L S h
  | .laload => match S with
    | .inl i :: .inr (.inr (.inl a)) :: S => if gK h a = 101 ∧ ¬ (i < 0 ∨ gL h a ≤ i.toNatClampNeg) then aGo (pc + E.2.1) L (vL (gJ h a i.toNatClampNeg) :: S) h else none
    | _ => none
  | .aaload => match S with
    | .inl i :: .inr (.inr (.inl a)) :: S => if gK h a = 104 ∧ ¬ (i < 0 ∨ gL h a ≤ i.toNatClampNeg) then aGo (pc + E.2.1) L (vR (gR h a i.toNatClampNeg) :: S) h else none
    | _ => none
  | .iastore => aStI 100 (fun x => x) (pc + E.2.1) L S h
  | .bastore => match S with
    | .inl x :: .inl i :: .inr (.inr (.inl a)) :: S => if 8 ≤ a ∧ (gK h a = 102 ∨ gK h a = 103) ∧ ¬ (i < 0 ∨ gL h a ≤ i.toNatClampNeg) then aGo (pc + E.2.1) L S (pI h a i.toNatClampNeg (if gK h a = 102 then x &&& 1 else x.toInt8.toInt32)) else none
    | _ => none
  | .lastore => match S with
    | .inr (.inl x) :: .inl i :: .inr (.inr (.inl a)) :: S => if 8 ≤ a ∧ gK h a = 101 ∧ ¬ (i < 0 ∨ gL h a ≤ i.toNatClampNeg) then aGo (pc + E.2.1) L S (pJ h a i.toNatClampNeg x) else none
    | _ => none
  | .aastore => match S with
    | .inr (.inr (.inl x)) :: .inl i :: .inr (.inr (.inl a)) :: S => if 8 ≤ a ∧ 8 ≤ x ∧ 0 < gK h x ∧ gK h x < 15 ∧ gK h x ≠ 13 ∧ gK h a = 104 ∧ ¬ (i < 0 ∨ gL h a ≤ i.toNatClampNeg) then aGo (pc + E.2.1) L S (pR h a i.toNatClampNeg x) else none
    | _ => none
  | .arraylength => match S with
    | .inr (.inr (.inl a)) :: S => if 100 ≤ gK h a ∧ gK h a ≤ 106 then aGo (pc + E.2.1) L (vI (nI (gL h a)) :: S) h else none
    | _ => none
  | .newarray ty => aNewA (match ty with | .int => 100 | .long => 101 | .boolean => 102 | .byte => 103 | _ => 999) (pc + E.2.1) L S h
  | .anewarray _ => aNewA 104 (pc + E.2.1) L S h
  | .new i => aGo (pc + E.2.1) L (vR (gN h) :: S) (gNew h (i / 100) (i % 100))
  | .getfield i => match S with
    | .inr (.inr (.inl a)) :: S => if gK h a = i / 100 then aGo (pc + E.2.1) L (vI (gI h a (i % 100)) :: S) h else none
    | _ => none
  | .fload i => match S with
    | .inr (.inr (.inl a)) :: S => if gK h a = i / 100 then aGo (pc + E.2.1) L (vL (gJ h a (i % 100)) :: S) h else none
    | _ => none
  | .dload i => match S with
    | .inr (.inr (.inl a)) :: S => if gK h a = i / 100 then aGo (pc + E.2.1) L (vR (gR h a (i % 100)) :: S) h else none
    | _ => none
  | .putfield i => match S with
    | .inl x :: .inr (.inr (.inl a)) :: S => if 8 ≤ a ∧ gK h a = i / 100 then aGo (pc + E.2.1) L S (pI h a (i % 100) x) else none
    | _ => none
  | .putstatic i => match S with
    | .inl x :: .inr (.inr (.inl a)) :: S => if 8 ≤ a ∧ gK h a = i / 100 ∧ x &&& 1 = x then aGo (pc + E.2.1) L S (pI h a (i % 100) x) else none
    | _ => none
  | .fstore i => match S with
    | .inr (.inl x) :: .inr (.inr (.inl a)) :: S => if 8 ≤ a ∧ gK h a = i / 100 then aGo (pc + E.2.1) L S (pJ h a (i % 100) x) else none
    | _ => none
  | .dstore i => match S with
    | .inr (.inr (.inl x)) :: .inr (.inr (.inl a)) :: S => if 8 ≤ a ∧ gK h a = i / 100 then aGo (pc + E.2.1) L S (pR h a (i % 100) x) else none
    | _ => none
  | .checkcast k => match S with
    | .inr (.inr (.inl a)) :: S => if a = 0 ∨ gK h a = k then aGo (pc + E.2.1) L (vR a :: S) h else none
    | _ => none
  -- Object's constructor
  | .invokespecial _ => match S with
    | .inr (.inr (.inl a)) :: S => if 8 ≤ a ∧ aWt S ≤ 8 then aGo (pc + E.2.1) L S h else none
    | _ => none
  -- int[].clone()
  | .swap => match S with
    | .inr (.inr (.inl a)) :: S => if 8 ≤ a ∧ gK h a = 100 ∧ aWt S ≤ 8 then aGo (pc + E.2.1) L (vR (gN h) :: S) (gCopyI (gNew h 100 (gL h a)) a 0 (gN h) 0 (gL h a)) else none
    | _ => none
  -- Object[].getClass()
  | .instanceof _ => match S with
    | .inr (.inr (.inl a)) :: S => if 8 ≤ a ∧ gK h a = 104 ∧ aWt S ≤ 8 then aGo (pc + E.2.1) L (vR 3 :: S) h else none
    | _ => none
  -- System.arraycopy
  | .ret _ => match S with
    | .inl n :: .inl j :: .inr (.inr (.inl b)) :: .inl i :: .inr (.inr (.inl a)) :: S =>
      if aWt S ≤ 8 ∧ 8 ≤ a ∧ 8 ≤ b ∧ a ≠ b ∧ ¬ i < 0 ∧ ¬ j < 0 ∧ ¬ n < 0 ∧ i.toNatClampNeg + n.toNatClampNeg ≤ gL h a ∧ j.toNatClampNeg + n.toNatClampNeg ≤ gL h b then
        (if gK h a = 100 ∧ gK h b = 100 then aGo (pc + E.2.1) L S (gCopyI h a i.toNatClampNeg b j.toNatClampNeg n.toNatClampNeg)
         else if gK h a = 104 ∧ gK h b = 104 ∧ (List.range n.toNatClampNeg).all (fun k => aObj h (gR h a (i.toNatClampNeg + k))) = true then aGo (pc + E.2.1) L S (gCopyR h a i.toNatClampNeg b j.toNatClampNeg n.toNatClampNeg) else none)
      else none
    | _ => none
  -- a call: the method's number and how many operands it takes
  | .invokeinterface k n => match aTop n S with
    | some (as, S) => if aWt S ≤ 8 ∧ aRcv E.2.2.2 as h = true then some (.inr (.inl (k, as, (pc + E.2.1, L, S, h)))) else none
    | none => none
  -- throw new E("..")
  | .multianewarray k _ => match S with
    | [] => some (.inr (.inr (.inr k, gNew h 200 6)))
    | _ => none
  | .ireturn => match S with
    | [.inl x] => if z = true ∧ ¬ x &&& 1 = x then none else some (.inr (.inr (.inl (some (vI x)), h)))
    | _ => none
  | .lreturn => match S with
    | [.inr (.inl x)] => some (.inr (.inr (.inl (some (vL x)), h)))
    | _ => none
  | .areturn => match S with
    | [.inr (.inr (.inl r))] => some (.inr (.inr (.inl (some (vR r)), h)))
    | _ => none
  | .return_ => match S with
    | [] => some (.inr (.inr (.inl none, h)))
    | _ => none
  | _ => none
/-- the locals at a method's entry -/
def aLay (as : List aV) : List (Option aV) := match as with
  | [] => []
  | .inr (.inl x) :: as => some (vL x) :: none :: aLay as
  | v :: as => some v :: aLay as
def aEntry (n : Nat) (as : List aV) : List (Option aV) := aLay as ++ List.replicate (n - (aLay as).length) none
def aHand (hs : List (Nat × Nat × Nat × Nat)) (pc x : Nat) : Option Nat := match hs with
  | [] => none
  | (a, b, t, k) :: hs => if a ≤ pc ∧ pc < b ∧ k = x then some t else aHand hs pc x
/-- a call that may only return: a constructor's (99), one by a nest (97) -/
def aQuiet (k : aV) : Bool := match k with
  | .inr (.inr (.inl rk)) => decide (rk = 99) || decide (rk = 97)
  | _ => false
def aRun (P : aPg) : Nat → Nat → Nat → aCf → Option (aOut × aH)
  | 0, _, _, _ => none
  | n + 1, d, mi, (pc, L, S, h) =>
    match aStep (P.2 mi).2.2.1 (P.1 mi pc) pc (aKill (P.1 mi pc).2.2.1 L) S h with
    | none => none
    | some (.inl cf) => aRun P n d mi cf
    | some (.inr (.inl (k, as, (pc', L', S', h')))) => match d with
      | 0 => none
      | d + 1 => if (P.2 k).2.1 < (aLay as).length then none else match aRun P n d k (0, aEntry (P.2 k).2.1 as, [], h') with
        | none => none
        | some (.inl v, h1) => aRun P n (d + 1) mi (pc', L', v.toList ++ S', h1)
        | some (.inr x, h1) => if aQuiet (P.1 mi pc).2.2.2 = true then none else match aHand (P.2 mi).2.2.2 pc x with
          | some t => aRun P n (d + 1) mi (t, L', [vJ], h1)
          | none => if (P.2 mi).2.2.2.isEmpty = true then some (.inr x, h1) else none
    | some (.inr (.inr r)) => some r
theorem aRun_mono (P : aPg) : ∀ (n d mi : Nat) (cf : aCf) (r : aOut × aH), aRun P n d mi cf = some r → aRun P (n + 1) d mi cf = some r := by
  intro n
  induction n with
  | zero => intro d mi cf r h; simp [aRun] at h
  | succ n ih =>
    intro d mi cf r h
    obtain ⟨pc, L, S, hp⟩ := cf
    rw [aRun] at h ⊢
    split at h
    · cases h
    · exact ih _ _ _ _ h
    · split at h
      · cases h
      · rename_i d
        split at h
        · cases h
        rename_i hlay
        rw [if_neg hlay]
        split at h
        · cases h
        · rename_i h1
          rw [ih _ _ _ _ h1]
          exact ih _ _ _ _ h
        · rename_i h1
          rw [ih _ _ _ _ h1]
          dsimp only
          split at h
          · cases h
          · rename_i hq
            rw [if_neg hq]
            split at h
            · exact ih _ _ _ _ h
            · exact h
    · exact h
theorem aRun_le (P : aPg) {n k d mi : Nat} {cf : aCf} {r : aOut × aH} (h : aRun P n d mi cf = some r) (hk : n ≤ k) : aRun P k d mi cf = some r := by
  induction hk with
  | refl => exact h
  | step _ ih => exact aRun_mono P _ _ _ _ _ ih
