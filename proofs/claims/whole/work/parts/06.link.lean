/-! INSTRUCTIONS: from the class file's to the abstract ones, by tables; what the tables say is checked against lw_tbl -/
def aTyI (c k : Nat) (get : Bool) : Instr := match aFt c k with
  | .long => if get then .fload (100 * c + k) else .fstore (100 * c + k)
  | .object _ => if get then .dload (100 * c + k) else .dstore (100 * c + k)
  | .array _ => if get then .dload (100 * c + k) else .dstore (100 * c + k)
  | .boolean => if get then .getfield (100 * c + k) else .putstatic (100 * c + k)
  | _ => if get then .getfield (100 * c + k) else .putfield (100 * c + k)
def aFind {α : Type} (l : List (Nat × Nat × α)) (o i : Nat) : Option α := (l.find? (fun q => q.1 == o && q.2.1 == i)).map (fun q => q.2.2)
theorem aFind_mem {α : Type} {l : List (Nat × Nat × α)} {o i : Nat} {r : α} (h : aFind l o i = some r) : (o, i, r) ∈ l := by
  unfold aFind at h
  cases hf : l.find? (fun q => q.1 == o && q.2.1 == i) with
  | none => rw [hf] at h; cases h
  | some q =>
    rw [hf] at h
    have h1 := List.find?_some hf
    have h2 := List.mem_of_find?_eq_some hf
    simp only [Bool.and_eq_true, beq_iff_eq] at h1
    simp only [Option.map_some, Option.some.injEq] at h
    obtain ⟨a, c, d⟩ := q
    simp only at h1 h
    obtain ⟨rfl, rfl⟩ := h1
    subst h
    exact h2
/-- what is asked of a call's receiver: nothing (static), an own cell (a constructor), an object of the method's class -/
def aRk (mi kind : Nat) : Nat := if kind = 5 then 97 else if kind % 3 = 2 then 0 else if kind % 3 = 1 then 99 else ((List.range 15).find? (fun c => decide (0 < c) && decide ((aCl.getD c ("", kT0, 0)).1 = (aMt mi).1.cls))).getD 98
def aJmp (pc : Nat) (off : Int) (f : Int → Instr) : Option (Instr × aV) := if 0 ≤ (pc : Int) + off then some (f ((pc : Int) + off), vJ) else none
def aTr (o pc : Nat) (i : Instr) : Option (Instr × aV) := match i with
  | .iload i => some (.iload i, vJ)
  | .lload i => some (.lload i, vJ)
  | .aload i => some (.aload i, vJ)
  | .iload_n i => some (.iload i.val, vJ)
  | .lload_n i => some (.lload i.val, vJ)
  | .aload_n i => some (.aload i.val, vJ)
  | .istore i => some (.istore i, vJ)
  | .lstore i => some (.lstore i, vJ)
  | .astore i => some (.astore i, vJ)
  | .istore_n i => some (.istore i.val, vJ)
  | .lstore_n i => some (.lstore i.val, vJ)
  | .astore_n i => some (.astore i.val, vJ)
  | .iinc i c => some (.iinc i c, vJ)
  | .iconst n => some (.nop, vI (Int32.ofInt n))
  | .bipush n => some (.nop, vI (Int8.ofInt n).toInt32)
  | .sipush n => some (.nop, vI (Int16.ofInt n).toInt32)
  | .lconst n => some (.nop, vL (Int64.ofNat n.val))
  | .aconst_null => some (.nop, vR 0)
  | .ldc j => match aFind aCn o j with
    | some (.inl v, _) => some (.nop, vI v)
    | _ => match aFind aKl o j with
      | some (104, _, _) => some (.nop, vR 3)
      | _ => none
  | .ldc_w j => match aFind aCn o j with
    | some (.inl v, _) => some (.nop, vI v)
    | _ => none
  | .ldc2_w j => match aFind aCn o j with
    | some (.inr (.inl v), _) => some (.nop, vL v)
    | _ => none
  | .iadd => some (i, vJ)
  | .isub => some (i, vJ)
  | .imul => some (i, vJ)
  | .iand => some (i, vJ)
  | .ior => some (i, vJ)
  | .ixor => some (i, vJ)
  | .ishl => some (i, vJ)
  | .ishr => some (i, vJ)
  | .iushr => some (i, vJ)
  | .idiv => some (i, vJ)
  | .irem => some (i, vJ)
  | .ineg => some (i, vJ)
  | .i2b => some (i, vJ)
  | .ladd => some (i, vJ)
  | .lmul => some (i, vJ)
  | .lor => some (i, vJ)
  | .ldiv => some (i, vJ)
  | .lshl => some (i, vJ)
  | .lcmp => some (i, vJ)
  | .i2l => some (i, vJ)
  | .l2i => some (i, vJ)
  | .dup => some (i, vJ)
  | .pop => some (i, vJ)
  | .dup_x1 => some (i, vJ)
  | .dup2 => some (i, vJ)
  | .iaload => some (i, vJ)
  | .baload => some (i, vJ)
  | .laload => some (i, vJ)
  | .aaload => some (i, vJ)
  | .iastore => some (i, vJ)
  | .bastore => some (i, vJ)
  | .lastore => some (i, vJ)
  | .aastore => some (i, vJ)
  | .arraylength => some (i, vJ)
  | .ireturn => some (i, vJ)
  | .lreturn => some (i, vJ)
  | .areturn => some (i, vJ)
  | .return_ => some (i, vJ)
  | .newarray t => match t with
    | .int => some (i, vJ)
    | .long => some (i, vJ)
    | .boolean => some (i, vJ)
    | .byte => some (i, vJ)
    | _ => none
  | .ifCond c off => aJmp pc off (.ifCond c)
  | .if_icmp c off => aJmp pc off (.if_icmp c)
  | .if_acmp c off => aJmp pc off (.if_acmp c)
  | .ifnull off => aJmp pc off .ifnull
  | .ifnonnull off => aJmp pc off .ifnonnull
  | .goto off => aJmp pc off .goto
  | .tableswitch d lo hi offs => if lo ≤ hi ∧ offs.size = (hi - lo + 1).toNat ∧ 0 ≤ (pc : Int) + d ∧ offs.all (fun t => decide (0 ≤ (pc : Int) + t)) = true then some (.tableswitch ((pc : Int) + d) lo hi (offs.map (fun t => (pc : Int) + t)), vJ) else none
  | .lookupswitch d ps => if 0 ≤ (pc : Int) + d ∧ ps.toList.all (fun q => decide (0 ≤ (pc : Int) + q.2)) = true ∧ (ps.toList.zip (ps.toList.drop 1)).all (fun (a, next) => a.1 < next.1) = true then some (.lookupswitch ((pc : Int) + d) (ps.map (fun q => (q.1, (pc : Int) + q.2))), vJ) else none
  | .getfield j => match aFind aFl o j with
    | some (c, k, _) => some (aTyI c k true, vJ)
    | none => none
  | .putfield j => match aFind aFl o j with
    | some (c, k, _) => some (aTyI c k false, vJ)
    | none => none
  | .getstatic j => if aOwn[o]? = some "java/util/ArrayList" ∧ j = 39 then some (.nop, vR 2) else none
  | .new j => match aFind aKl o j with
    | some (c, _, _) => if 0 < c ∧ c < 99 then some (.new (100 * c + (aFts.getD c []).length), vJ) else none
    | none => none
  | .anewarray j => match aFind aKl o j with
    | some (99, _, _) => some (.anewarray 0, vJ)
    | _ => none
  | .checkcast j => match aFind aKl o j with
    | some (c, _, _) => if c = 100 ∨ (0 < c ∧ c < 99) then some (.checkcast c, vJ) else none
    | none => none
  | .invokevirtual j => match aFind aMl o j with
    | some (mi, 0, _) => some (.invokeinterface mi (aInf mi).1, vR (aRk mi 0))
    | some (mi, 3, _) => some (.invokeinterface mi (aInf mi).1, vR (aRk mi 3))
    | some _ => none
    | none => match aFind aNl o j with
      | some (1, _) => some (.swap, vJ)
      | some (3, _) => some (.instanceof 0, vJ)
      | _ => none
  | .invokespecial j => match aFind aMl o j with
    | some (mi, 1, _) => some (.invokeinterface mi (aInf mi).1, vR (aRk mi 1))
    | some (mi, 4, _) => some (.invokeinterface mi (aInf mi).1, vR (aRk mi 4))
    | some _ => none
    | none => match aFind aNl o j with
      | some (0, _) => some (.invokespecial 0, vJ)
      | _ => none
  | .invokestatic j => match aFind aMl o j with
    | some (mi, 2, _) => some (.invokeinterface mi (aInf mi).1, vR (aRk mi 2))
    | some (mi, 5, _) => some (.invokeinterface mi (aInf mi).1, vR (aRk mi 5))
    | some _ => none
    | none => match aFind aNl o j with
      | some (2, _) => some (.ret 0, vJ)
      | _ => none
  | _ => none
/-- 'throw new E("..")' at pc: new; dup; ldc; invokespecial; athrow -/
def aThr (o : Nat) (cc : ByteArray) (pc k w n : Nat) : Bool := match decode cc pc, decode cc (pc + 3), decode cc (pc + 4), decode cc (pc + 4 + w), decode cc (pc + 7 + w) with
  | .ok (.new ik, 3), .ok (.dup, 1), .ok (ld, w'), .ok (.invokespecial ic, 3), .ok (.athrow, 1) =>
    (match ld with
      | .ldc is => decide (w = 2) && (aFind aSr o is).isSome
      | .ldc_w is => decide (w = 3) && (aFind aSr o is).isSome
      | _ => false) && decide (w = w') && decide (n = w + 8) && decide ((aFind aKl o ik).map (fun q => q.1) = some (200 + k)) && decide (aFind aXt o ic = some k)
  | _, _, _, _, _ => false
def aOKe (mi pc : Nat) (E : aE) : Bool := match E.1 with
  | .athrow => true
  | .multianewarray k w => aThr (aMt mi).2.1 (aMt mi).2.2.1 pc k w E.2.1
  | _ => match decode (aMt mi).2.2.1 pc with
    | .ok (i, n) => decide (aTr (aMt mi).2.1 pc i = some (E.1, E.2.2.2)) && decide (n = E.2.1)
    | .error _ => false
def aOKc (mi k : Nat) (l : List aE) : Bool := match l with
  | [] => true
  | E :: l => aOKe mi k E && aOKc mi (k + 1) l
def aOKm (mi k : Nat) (l : List (List aE)) : Bool := match l with
  | [] => true
  | a :: l => decide (a.length ≤ 32) && aOKc mi k a && aOKm mi (k + 32) l
