/-! SOUNDNESS, 7: clone of int[], System.arraycopy -/
section SN7
variable {l : Launch} {s0 : State} {a0 : Array Value} {x : Nat → Nat} {D : va_G} {Lx : Nat} {xs : Nat → Int32}
variable {p : Program} {e : Env} {R : Room} {s : State} {m : MethodId} {args : Array Value} {below : List Frame} {meth : Method} {c : Code} {Q : State → Prop} {n0 t0 mi pc : Nat} {L : List (Option aV)} {S : List aV} {h : aH}
theorem st_clone (M : aMc s0 mi p s m meth c) (F : aF0 l s0 a0 x D Lx xs) {j a : Nat} (hlink : Cond.methodLink (aOw (aMt mi).2.1) j ⟨"[I", "clone", "()Ljava/lang/Object;"⟩ ∈ lw_tbl) (hk : gK h a = 100) (hw : aWt S ≤ 8) (hL9 : L.length = (aMt mi).2.2.2.1) (hf : 1 ≤ R.frames) (hl9 : 40 ≤ R.locals) (hd : decode (aMt mi).2.2.1 pc = .ok (.invokevirtual j, 3))
    (hn0 : n0 ≤ gN h) (ht0 : t0 ≤ gT h) (hC : gN h + 1 - n0 ≤ R.cells) (hSl : gT h + gL h a - t0 ≤ R.slots)
    (K : aG s0 x D Lx xs p l e R s m args below meth c Q n0 t0 (pc + 3, L, vR (gN h) :: S, gCopyI (gNew h 100 (gL h a)) a 0 (gN h) 0 (gL h a))) : aG s0 x D Lx xs p l e R s m args below meth c Q n0 t0 (pc, L, vR a :: S, h) := sorry
theorem aNn (z : Int32) (hz : ¬ z < 0) : z.toInt = (z.toNatClampNeg : Int) := sorry
/-- the copy, for values of one sort -/
theorem st_copy (M : aMc s0 mi p s m meth c) (F : aF0 l s0 a0 x D Lx xs) {j a b9 k : Nat} {i1 j1 n : Int32} {α : Type} (mk : α → Value) (f g : Nat → α) {ty : FieldType} {h' : aH} (hlink : Cond.methodLink (aOw (aMt mi).2.1) j arraycopyName ∈ lw_tbl) (hka : gK h a = k) (hkb : gK h b9 = k) (k0 : 0 < k) (k5 : k < 105) (hA : ArrOfT s (D.1 k) ty)
    (hca : ∀ H, aRep s0.heap.size x D s0.heap Lx xs h H → H[s0.heap.size + (a - 8)]? = some (arrV (D.1 k) (gL h a) (fun q => mk (f q)))) (hcb : ∀ H, aRep s0.heap.size x D s0.heap Lx xs h H → H[s0.heap.size + (b9 - 8)]? = some (arrV (D.1 k) (gL h b9) (fun q => mk (g q))))
    (hvals : ∀ (H : Heap), aRep s0.heap.size x D s0.heap Lx xs h H → ∀ (T : State), T.heap = H → ∀ (kA : Class) (comp : ClassId), s.vm.classes[D.1 k]? = some kA → kA.kind = .array comp ty → ∀ vm', s.vm.Alike vm' → ∀ i, i < n.toNatClampNeg → fits ty (mk (f (i1.toNatClampNeg + i))) = true ∧ (T.setVm vm').takes comp (mk (f (i1.toNatClampNeg + i))))
    (h1 : ¬ i1 < 0) (h2 : ¬ j1 < 0) (h3 : ¬ n < 0) (h4 : i1.toNatClampNeg + n.toNatClampNeg ≤ gL h a) (h5 : j1.toNatClampNeg + n.toNatClampNeg ≤ gL h b9) (hw : aWt S ≤ 8) (hL9 : L.length = (aMt mi).2.2.2.1) (hf : 1 ≤ R.frames) (hl9 : 60 ≤ R.locals) (hd : decode (aMt mi).2.2.1 pc = .ok (.invokestatic j, 3))
    (hN : gN h' = gN h) (hT9 : gT h' = gT h) (hrep : ∀ (H H' : Heap), aRep s0.heap.size x D s0.heap Lx xs h H → H'.size = H.size → (∀ q, q ≠ s0.heap.size + (b9 - 8) → H'[q]? = H[q]?) → H'[s0.heap.size + (b9 - 8)]? = some (arrV (D.1 k) (gL h b9) (fun q => mk (va_cpy f g i1.toNatClampNeg j1.toNatClampNeg n.toNatClampNeg q))) → aRep s0.heap.size x D s0.heap Lx xs h' H')
    (K : aG s0 x D Lx xs p l e R s m args below meth c Q n0 t0 (pc + 3, L, S, h')) : aG s0 x D Lx xs p l e R s m args below meth c Q n0 t0 (pc, L, vI n :: vI j1 :: vR b9 :: vI i1 :: vR a :: S, h) := sorry
end SN7

