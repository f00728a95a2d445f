/-! SOUNDNESS, 4: arrays, new cells, casts -/
section SN4
variable {l : Launch} {s0 : State} {a0 : Array Value} {x : Nat → Nat} {D : va_G} {Lx : Nat} {xs : Nat → Int32}
variable {p : Program} {e : Env} {R : Room} {s : State} {m : MethodId} {args : Array Value} {below : List Frame} {meth : Method} {c : Code} {Q : State → Prop} {n0 t0 mi pc : Nat} {L : List (Option aV)} {S : List aV} {h : aH}
theorem aF0.arr (F : aF0 l s0 a0 x D Lx xs) (hW : s0.WarmedH s.vm) : ArrOfT s (D.1 100) .int ∧ ArrOfT s (D.1 101) .long ∧ ArrOfT s (D.1 102) .boolean ∧ ArrOfT s (D.1 103) .byte ∧ ArrOfT s (D.1 104) (.object "java/lang/Object") := sorry
theorem aIn {n : Nat} {i : Int32} (h : ¬ (i < 0 ∨ n ≤ i.toNatClampNeg)) (cI : ClassId) (f : Nat → Value) : ¬ (i < 0 ∨ (arrV cI n f).slots.size ≤ i.toNatClampNeg) := sorry
theorem aInL {n : Nat} {i : Int32} (h : ¬ (i < 0 ∨ n ≤ i.toNatClampNeg)) : i.toNatClampNeg < n := sorry
theorem aVm (cI : ClassId) (n : Nat) (f : Nat → Value) : (arrV cI n f).vm ≠ .unknown := sorry
theorem st_iaload (M : aMc s0 mi p s m meth c) (F : aF0 l s0 a0 x D Lx xs) {a : Nat} {i : Int32} (hk : gK h a = 100 ∨ gK h a = 105) (hin : ¬ (i < 0 ∨ gL h a ≤ i.toNatClampNeg)) (hd : decode (aMt mi).2.2.1 pc = .ok (.iaload, 1))
    (K : aG s0 x D Lx xs p l e R s m args below meth c Q n0 t0 (pc + 1, L, vI (gI h a i.toNatClampNeg) :: S, h)) : aG s0 x D Lx xs p l e R s m args below meth c Q n0 t0 (pc, L, vI i :: vR a :: S, h) := sorry
theorem st_baload (M : aMc s0 mi p s m meth c) (F : aF0 l s0 a0 x D Lx xs) {a : Nat} {i : Int32} (hk : gK h a = 102 ∨ gK h a = 103) (hin : ¬ (i < 0 ∨ gL h a ≤ i.toNatClampNeg)) (hd : decode (aMt mi).2.2.1 pc = .ok (.baload, 1))
    (K : aG s0 x D Lx xs p l e R s m args below meth c Q n0 t0 (pc + 1, L, vI (gI h a i.toNatClampNeg) :: S, h)) : aG s0 x D Lx xs p l e R s m args below meth c Q n0 t0 (pc, L, vI i :: vR a :: S, h) := sorry
theorem st_laload (M : aMc s0 mi p s m meth c) (F : aF0 l s0 a0 x D Lx xs) {a : Nat} {i : Int32} (hk : gK h a = 101) (hin : ¬ (i < 0 ∨ gL h a ≤ i.toNatClampNeg)) (hd : decode (aMt mi).2.2.1 pc = .ok (.laload, 1))
    (K : aG s0 x D Lx xs p l e R s m args below meth c Q n0 t0 (pc + 1, L, vL (gJ h a i.toNatClampNeg) :: S, h)) : aG s0 x D Lx xs p l e R s m args below meth c Q n0 t0 (pc, L, vI i :: vR a :: S, h) := sorry
theorem st_aaload (M : aMc s0 mi p s m meth c) (F : aF0 l s0 a0 x D Lx xs) {a : Nat} {i : Int32} (hk : gK h a = 104) (hin : ¬ (i < 0 ∨ gL h a ≤ i.toNatClampNeg)) (hd : decode (aMt mi).2.2.1 pc = .ok (.aaload, 1))
    (K : aG s0 x D Lx xs p l e R s m args below meth c Q n0 t0 (pc + 1, L, vR (gR h a i.toNatClampNeg) :: S, h)) : aG s0 x D Lx xs p l e R s m args below meth c Q n0 t0 (pc, L, vI i :: vR a :: S, h) := sorry
theorem st_alen (M : aMc s0 mi p s m meth c) (F : aF0 l s0 a0 x D Lx xs) {a : Nat} (hk : 100 ≤ gK h a ∧ gK h a ≤ 106) (hd : decode (aMt mi).2.2.1 pc = .ok (.arraylength, 1))
    (K : aG s0 x D Lx xs p l e R s m args below meth c Q n0 t0 (pc + 1, L, vI (nI (gL h a)) :: S, h)) : aG s0 x D Lx xs p l e R s m args below meth c Q n0 t0 (pc, L, vR a :: S, h) := sorry
/-- a store into an array: what is the same for all kinds -/
theorem aStore {a i : Nat} {h h' : aH} {H H' : Heap} {cI : ClassId} {f f' : Nat → Value} {v : Value} (hr1 : aRep s0.heap.size x D s0.heap Lx xs h H) (ho : 8 ≤ a) (hN : gN h' = gN h) (hK : ∀ r, gK h' r = gK h r) (hL : ∀ r, gL h' r = gL h r)
    (hI : ∀ r j, r ≠ a → gI h' r j = gI h r j) (hJ : ∀ r j, r ≠ a → gJ h' r j = gJ h r j) (hR : ∀ r j, r ≠ a → gR h' r j = gR h r j) (e1 : H'[s0.heap.size + (a - 8)]? = some ((arrV cI (gL h a) f).setSlot i v)) (e2 : H'.size = H.size) (e3 : ∀ q, q ≠ s0.heap.size + (a - 8) → H'[q]? = H[q]?)
    (hf : ∀ j, updV f i v j = f' j) (hc : H'[adr s0.heap.size x a]? = some (arrV cI (gL h' a) f') → aCell s0.heap.size x D h' a H') : aRep s0.heap.size x D s0.heap Lx xs h' H' := sorry
theorem aLocs {locs : List Loc} {a i b : Nat} (hq1 : ∀ q ∈ locs, b ≤ q.base) : ∀ q ∈ locs ++ [(⟨b + (a - 8), i⟩ : Loc)], b ≤ q.base := sorry
theorem st_iastore (M : aMc s0 mi p s m meth c) (F : aF0 l s0 a0 x D Lx xs) {a : Nat} {i y : Int32} (hk : gK h a = 100) (hin : ¬ (i < 0 ∨ gL h a ≤ i.toNatClampNeg)) (hd : decode (aMt mi).2.2.1 pc = .ok (.iastore, 1))
    (K : aG s0 x D Lx xs p l e R s m args below meth c Q n0 t0 (pc + 1, L, S, pI h a i.toNatClampNeg y)) : aG s0 x D Lx xs p l e R s m args below meth c Q n0 t0 (pc, L, vI y :: vI i :: vR a :: S, h) := sorry
theorem st_lastore (M : aMc s0 mi p s m meth c) (F : aF0 l s0 a0 x D Lx xs) {a : Nat} {i : Int32} {y : Int64} (hk : gK h a = 101) (hin : ¬ (i < 0 ∨ gL h a ≤ i.toNatClampNeg)) (hd : decode (aMt mi).2.2.1 pc = .ok (.lastore, 1))
    (K : aG s0 x D Lx xs p l e R s m args below meth c Q n0 t0 (pc + 1, L, S, pJ h a i.toNatClampNeg y)) : aG s0 x D Lx xs p l e R s m args below meth c Q n0 t0 (pc, L, vL y :: vI i :: vR a :: S, h) := sorry
theorem st_bastore (M : aMc s0 mi p s m meth c) (F : aF0 l s0 a0 x D Lx xs) {a : Nat} {i y : Int32} (hk : gK h a = 102 ∨ gK h a = 103) (hin : ¬ (i < 0 ∨ gL h a ≤ i.toNatClampNeg)) (hd : decode (aMt mi).2.2.1 pc = .ok (.bastore, 1))
    (K : aG s0 x D Lx xs p l e R s m args below meth c Q n0 t0 (pc + 1, L, S, pI h a i.toNatClampNeg (if gK h a = 102 then y &&& 1 else y.toInt8.toInt32))) : aG s0 x D Lx xs p l e R s m args below meth c Q n0 t0 (pc, L, vI y :: vI i :: vR a :: S, h) := sorry
theorem st_aastore (M : aMc s0 mi p s m meth c) (F : aF0 l s0 a0 x D Lx xs) {a y : Nat} {i : Int32} (hk : gK h a = 104) (hy1 : 0 < gK h y) (hy2 : gK h y < 99) (hy3 : gK h y ≠ 13) (hin : ¬ (i < 0 ∨ gL h a ≤ i.toNatClampNeg)) (hd : decode (aMt mi).2.2.1 pc = .ok (.aastore, 1)) (hcl : ∃ q, aCl[gK h y]? = some q)
    (K : aG s0 x D Lx xs p l e R s m args below meth c Q n0 t0 (pc + 1, L, S, pR h a i.toNatClampNeg y)) : aG s0 x D Lx xs p l e R s m args below meth c Q n0 t0 (pc, L, vR y :: vI i :: vR a :: S, h) := sorry
end SN4

