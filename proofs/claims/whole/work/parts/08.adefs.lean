/-! WHAT EACH ENTRY OF THE PROGRAM IS CHECKED FOR: what the class file says; lengths; final fields; returns; throws in methods without handlers -/
def iLen (i : Instr) : Nat := match i with
  | .iload _ => 2
  | .lload _ => 2
  | .aload _ => 2
  | .istore _ => 2
  | .lstore _ => 2
  | .astore _ => 2
  | .bipush _ => 2
  | .ldc _ => 2
  | .newarray _ => 2
  | .iinc _ _ => 3
  | .sipush _ => 3
  | .ldc_w _ => 3
  | .ldc2_w _ => 3
  | .ifCond _ _ => 3
  | .if_icmp _ _ => 3
  | .if_acmp _ _ => 3
  | .ifnull _ => 3
  | .ifnonnull _ => 3
  | .goto _ => 3
  | .getfield _ => 3
  | .putfield _ => 3
  | .getstatic _ => 3
  | .new _ => 3
  | .anewarray _ => 3
  | .checkcast _ => 3
  | .invokevirtual _ => 3
  | .invokespecial _ => 3
  | .invokestatic _ => 3
  | _ => 1
def iSw (i : Instr) : Bool := match i with
  | .tableswitch _ _ _ _ => true
  | .lookupswitch _ _ => true
  | _ => false
def aFinB (mi n : Nat) : Bool := match aCl[n / 100]? with
  | some (_, T, _) => !(T (n % 100)).2.2.2 || (decide ((aMt mi).1.name = "<init>") && decide ((T (n % 100)).1 = aOw (aMt mi).2.1))
  | none => false
def aOKf (mi : Nat) (E : aE) : Bool := match E.1 with
  | .putfield n => aFinB mi n
  | .putstatic n => aFinB mi n
  | .fstore n => aFinB mi n
  | .dstore n => aFinB mi n
  | .ireturn => decide ((aMt mi).2.2.2.2.1 = some .int) || (decide ((aMt mi).2.2.2.2.1 = some .boolean) && (aInf mi).2.2.1)
  | .lreturn => decide ((aMt mi).2.2.2.2.1 = some .long)
  | .areturn => match (aMt mi).2.2.2.2.1 with
    | some (.object _) => true
    | some (.array _) => true
    | _ => false
  | .return_ => decide ((aMt mi).2.2.2.2.1 = none)
  | .multianewarray _ _ => decide ((aMt mi).2.2.2.2.2 = [])
  | _ => true
def aOKg (mi pc : Nat) (E : aE) : Bool := aOKf mi E && match E.1 with
  | .athrow => true
  | .multianewarray k w => aThr (aMt mi).2.1 (aMt mi).2.2.1 pc k w E.2.1
  | _ => match decode (aMt mi).2.2.1 pc with
    | .ok (i, n) => decide (aTr (aMt mi).2.1 pc i = some (E.1, E.2.2.2)) && decide (n = E.2.1) && (iSw i || decide (n = iLen i))
    | .error _ => false
def aOKgc (mi k : Nat) (l : List aE) : Bool := match l with
  | [] => true
  | E :: l => aOKg mi k E && aOKgc mi (k + 1) l
def aOKgm (mi k : Nat) (l : List (List aE)) : Bool := match l with
  | [] => true
  | a :: l => decide (a.length ≤ 32) && aOKgc mi k a && aOKgm mi (k + 32) l
