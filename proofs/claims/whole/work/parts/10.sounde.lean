/-! SOUNDNESS, 5: new cells, casts, switches, members without code -/
section SN5
variable {l : Launch} {s0 : State} {a0 : Array Value} {x : Nat → Nat} {D : va_G} {Lx : Nat} {xs : Nat → Int32}
variable {p : Program} {e : Env} {R : Room} {s : State} {m : MethodId} {args : Array Value} {below : List Frame} {meth : Method} {c : Code} {Q : State → Prop} {n0 t0 mi pc : Nat} {L : List (Option aV)} {S : List aV} {h : aH}
theorem st_newa (M : aMc s0 mi p s m meth c) (F : aF0 l s0 a0 x D Lx xs) {k : Nat} {atp : ArrayType} {ty : FieldType} {n : Int32} (hty : newarray.typeOf atp = ty) (hfind : s0.vm.findClass ("[" ++ ty.toString) = some (D.1 k)) (harr : Cond.arrayClass ty ∈ lw_tbl) (hcomp : componentBytes ty ≤ 8)
    (hcell : ∀ (h9 : aH) (H' : Heap) (N : Nat), 8 ≤ gN h9 → H'[s0.heap.size + (gN h9 - 8)]? = some (arrV (D.1 k) N (fun _ => defaultValue ty)) → aCell s0.heap.size x D (gNew h9 k N) (gN h9) H')
    (hn : ¬ n < 0) (hm : n.toNatClampNeg ≤ 1000000) (hd : decode (aMt mi).2.2.1 pc = .ok (.newarray atp, 2)) (hn0 : n0 ≤ gN h) (ht0 : t0 ≤ gT h) (hC : gN h + 1 - n0 ≤ R.cells) (hSl : gT h + n.toNatClampNeg - t0 ≤ R.slots)
    (K : aG s0 x D Lx xs p l e R s m args below meth c Q n0 t0 (pc + 2, L, vR (gN h) :: S, gNew h k n.toNatClampNeg)) : aG s0 x D Lx xs p l e R s m args below meth c Q n0 t0 (pc, L, vI n :: S, h) := sorry
theorem aCell_new {h : aH} {k N : Nat} {H' : Heap} (h8 : 8 ≤ gN h) (hk : 100 ≤ k ∧ k ≤ 104)
    (hc : H'[s0.heap.size + (gN h - 8)]? = some (arrV (D.1 k) N (fun _ => if k = 101 then .long 0 else if k = 104 then .null else .int 0))) : aCell s0.heap.size x D (gNew h k N) (gN h) H' := sorry
theorem st_newarray (M : aMc s0 mi p s m meth c) (F : aF0 l s0 a0 x D Lx xs) {atp : ArrayType} {k : Nat} {n : Int32} (hk : (atp = .int ∧ k = 100) ∨ (atp = .long ∧ k = 101) ∨ (atp = .boolean ∧ k = 102) ∨ (atp = .byte ∧ k = 103))
    (hn : ¬ n < 0) (hm : n.toNatClampNeg ≤ 1000000) (hd : decode (aMt mi).2.2.1 pc = .ok (.newarray atp, 2)) (hn0 : n0 ≤ gN h) (ht0 : t0 ≤ gT h) (hC : gN h + 1 - n0 ≤ R.cells) (hSl : gT h + n.toNatClampNeg - t0 ≤ R.slots)
    (K : aG s0 x D Lx xs p l e R s m args below meth c Q n0 t0 (pc + 2, L, vR (gN h) :: S, gNew h k n.toNatClampNeg)) : aG s0 x D Lx xs p l e R s m args below meth c Q n0 t0 (pc, L, vI n :: S, h) := sorry
theorem st_anew (M : aMc s0 mi p s m meth c) (F : aF0 l s0 a0 x D Lx xs) {j : Nat} {n : Int32} (hlink : Cond.classLink (aOw (aMt mi).2.1) j "java/lang/Object" ∈ lw_tbl)
    (hn : ¬ n < 0) (hm : n.toNatClampNeg ≤ 1000000) (hd : decode (aMt mi).2.2.1 pc = .ok (.anewarray j, 3)) (hn0 : n0 ≤ gN h) (ht0 : t0 ≤ gT h) (hC : gN h + 1 - n0 ≤ R.cells) (hSl : gT h + n.toNatClampNeg - t0 ≤ R.slots)
    (K : aG s0 x D Lx xs p l e R s m args below meth c Q n0 t0 (pc + 3, L, vR (gN h) :: S, gNew h 104 n.toNatClampNeg)) : aG s0 x D Lx xs p l e R s m args below meth c Q n0 t0 (pc, L, vI n :: S, h) := sorry
theorem aVal_new {h : aH} {k N : Nat} (t : FieldType) (j : Nat) (ht : t = .int ∨ t = .long ∨ t = .boolean ∨ (∃ n, t = .object n) ∨ ∃ u, t = .array u) : defaultValue t = aVal s0.heap.size x (gNew h k N) (gN h) t j := sorry
def aFtB (t : FieldType) : Bool := match t with
  | .int => true
  | .long => true
  | .boolean => true
  | .object _ => true
  | .array _ => true
  | _ => false
theorem aFts_all : aFts.all (fun l => l.all aFtB) = true := sorry
theorem aFt_ok (ci k : Nat) : aFt ci k = .int ∨ aFt ci k = .long ∨ aFt ci k = .boolean ∨ (∃ n, aFt ci k = .object n) ∨ ∃ u, aFt ci k = .array u := sorry
theorem st_new (M : aMc s0 mi p s m meth c) (F : aF0 l s0 a0 x D Lx xs) {j ci : Nat} {C : String} {T : u_T} {N : Nat} (h0 : 0 < ci) (h99 : ci < 99) (hc : aCl[ci]? = some (C, T, N)) (hlink : Cond.classLink (aOw (aMt mi).2.1) j C ∈ lw_tbl)
    (hd : decode (aMt mi).2.2.1 pc = .ok (.new j, 3)) (hn0 : n0 ≤ gN h) (ht0 : t0 ≤ gT h) (hC : gN h + 1 - n0 ≤ R.cells) (hSl : gT h + N - t0 ≤ R.slots)
    (K : aG s0 x D Lx xs p l e R s m args below meth c Q n0 t0 (pc + 3, L, vR (gN h) :: S, gNew h ci N)) : aG s0 x D Lx xs p l e R s m args below meth c Q n0 t0 (pc, L, S, h) := sorry
end SN5

