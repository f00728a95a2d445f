/-! SOUNDNESS, 6: casts, comparisons of references, switches, statics, members without code -/
section SN6
variable {l : Launch} {s0 : State} {a0 : Array Value} {x : Nat → Nat} {D : va_G} {Lx : Nat} {xs : Nat → Int32}
variable {p : Program} {e : Env} {R : Room} {s : State} {m : MethodId} {args : Array Value} {below : List Frame} {meth : Method} {c : Code} {Q : State → Prop} {n0 t0 mi pc : Nat} {L : List (Option aV)} {S : List aV} {h : aH}
theorem st_cast (M : aMc s0 mi p s m meth c) (F : aF0 l s0 a0 x D Lx xs) {j k a : Nat} (hlink : Cond.classLink (aOw (aMt mi).2.1) j (aKn k) ∈ lw_tbl) (hk : k = 100 ∨ (0 < k ∧ k < 99 ∧ ∃ q, aCl[k]? = some q)) (ha : a = 0 ∨ gK h a = k) (hd : decode (aMt mi).2.2.1 pc = .ok (.checkcast j, 3))
    (K : aG s0 x D Lx xs p l e R s m args below meth c Q n0 t0 (pc + 3, L, vR a :: S, h)) : aG s0 x D Lx xs p l e R s m args below meth c Q n0 t0 (pc, L, vR a :: S, h) := sorry
theorem rv_rf (r : Nat) : rv s0.heap.size x r = va_rf (if r = 0 then none else some (adr s0.heap.size x r)) := sorry
theorem rv_inj (F : aF0 l s0 a0 x D Lx xs) {y z : Nat} (h : y = z ∨ ((8 ≤ y ∨ y = 0 ∨ y = 2) ∧ (8 ≤ z ∨ z = 0 ∨ z = 2))) : (if y = 0 then none else some (adr s0.heap.size x y)) = (if z = 0 then none else some (adr s0.heap.size x z)) ↔ y = z := sorry
theorem st_acmp (M : aMc s0 mi p s m meth c) (F : aF0 l s0 a0 x D Lx xs) {y z : Nat} {k : Jvm.ClassFile.ACond} {off : Int} (h0 : 0 ≤ (pc : Int) + off) (hyz : y = z ∨ ((8 ≤ y ∨ y = 0 ∨ y = 2) ∧ (8 ≤ z ∨ z = 0 ∨ z = 2))) (hd : decode (aMt mi).2.2.1 pc = .ok (.if_acmp k off, 3))
    (K : aG s0 x D Lx xs p l e R s m args below meth c Q n0 t0 ((if (match k with | .eq => decide (y = z) | .ne => !decide (y = z)) = true then ((pc : Int) + off).toNat else pc + 3), L, S, h)) : aG s0 x D Lx xs p l e R s m args below meth c Q n0 t0 (pc, L, vR z :: vR y :: S, h) := sorry
theorem st_ifnull (M : aMc s0 mi p s m meth c) {y : Nat} {off : Int} (h0 : 0 ≤ (pc : Int) + off) (hd : decode (aMt mi).2.2.1 pc = .ok (.ifnull off, 3))
    (K : aG s0 x D Lx xs p l e R s m args below meth c Q n0 t0 ((if y = 0 then ((pc : Int) + off).toNat else pc + 3), L, S, h)) : aG s0 x D Lx xs p l e R s m args below meth c Q n0 t0 (pc, L, vR y :: S, h) := sorry
theorem st_ifnonnull (M : aMc s0 mi p s m meth c) {y : Nat} {off : Int} (h0 : 0 ≤ (pc : Int) + off) (hd : decode (aMt mi).2.2.1 pc = .ok (.ifnonnull off, 3))
    (K : aG s0 x D Lx xs p l e R s m args below meth c Q n0 t0 ((if y = 0 then pc + 3 else ((pc : Int) + off).toNat), L, S, h)) : aG s0 x D Lx xs p l e R s m args below meth c Q n0 t0 (pc, L, vR y :: S, h) := sorry
theorem st_tsw (M : aMc s0 mi p s m meth c) {y : Int32} {d lo hi : Int} {offs : Array Int} {n : Nat} (hsz : lo ≤ hi ∧ offs.size = (hi - lo + 1).toNat) (h0 : 0 ≤ (pc : Int) + d) (h1 : offs.all (fun t => decide (0 ≤ (pc : Int) + t)) = true) (hd : decode (aMt mi).2.2.1 pc = .ok (.tableswitch d lo hi offs, n))
    (K : aG s0 x D Lx xs p l e R s m args below meth c Q n0 t0 (aSw ((pc : Int) + d) lo hi (offs.map (fun t => (pc : Int) + t)) y, L, S, h)) : aG s0 x D Lx xs p l e R s m args below meth c Q n0 t0 (pc, L, vI y :: S, h) := sorry
theorem aLook_eq (pc : Nat) (d k : Int) : ∀ (ps : List (Int × Int)), aLook ((pc : Int) + d) (ps.map (fun q => (q.1, (pc : Int) + q.2))) k = ((pc : Int) + Op.lookupswitch.offset ps d k).toNat := sorry
theorem aLook_pos (pc : Nat) (d k : Int) (h0 : 0 ≤ (pc : Int) + d) : ∀ (ps : List (Int × Int)), ps.all (fun q => decide (0 ≤ (pc : Int) + q.2)) = true → 0 ≤ (pc : Int) + Op.lookupswitch.offset ps d k := sorry
theorem st_lsw (M : aMc s0 mi p s m meth c) {y : Int32} {d : Int} {ps : Array (Int × Int)} {n : Nat} (h0 : 0 ≤ (pc : Int) + d) (h1 : ps.toList.all (fun q => decide (0 ≤ (pc : Int) + q.2)) = true) (h2 : (ps.toList.zip (ps.toList.drop 1)).all (fun (a, next) => a.1 < next.1) = true) (hd : decode (aMt mi).2.2.1 pc = .ok (.lookupswitch d ps, n))
    (K : aG s0 x D Lx xs p l e R s m args below meth c Q n0 t0 (aLook ((pc : Int) + d) (ps.map (fun q => (q.1, (pc : Int) + q.2))).toList y.toInt, L, S, h)) : aG s0 x D Lx xs p l e R s m args below meth c Q n0 t0 (pc, L, vI y :: S, h) := sorry
theorem st_gets (M : aMc s0 mi p s m meth c) (F : aF0 l s0 a0 x D Lx xs) (ho : aOw (aMt mi).2.1 = "java/util/ArrayList") (hd : decode (aMt mi).2.2.1 pc = .ok (.getstatic 39, 3))
    (K : aG s0 x D Lx xs p l e R s m args below meth c Q n0 t0 (pc + 3, L, vR 2 :: S, h)) : aG s0 x D Lx xs p l e R s m args below meth c Q n0 t0 (pc, L, S, h) := sorry
theorem st_ldcM (M : aMc s0 mi p s m meth c) (F : aF0 l s0 a0 x D Lx xs) {j : Nat} (hlink : Cond.classLink (aOw (aMt mi).2.1) j "[Ljava/lang/Object;" ∈ lw_tbl) (hd : decode (aMt mi).2.2.1 pc = .ok (.ldc j, 2))
    (K : aG s0 x D Lx xs p l e R s m args below meth c Q n0 t0 (pc + 2, L, vR 3 :: S, h)) : aG s0 x D Lx xs p l e R s m args below meth c Q n0 t0 (pc, L, S, h) := sorry
theorem st_objInit (M : aMc s0 mi p s m meth c) (F : aF0 l s0 a0 x D Lx xs) {j a : Nat} (hlink : Cond.methodLink (aOw (aMt mi).2.1) j objectInit ∈ lw_tbl) (ha : 8 ≤ a) (hw : aWt S ≤ 8) (hL9 : L.length = (aMt mi).2.2.2.1) (hf : 1 ≤ R.frames) (hl9 : 40 ≤ R.locals) (hd : decode (aMt mi).2.2.1 pc = .ok (.invokespecial j, 3))
    (K : aG s0 x D Lx xs p l e R s m args below meth c Q n0 t0 (pc + 3, L, S, h)) : aG s0 x D Lx xs p l e R s m args below meth c Q n0 t0 (pc, L, vR a :: S, h) := sorry
theorem st_getC (M : aMc s0 mi p s m meth c) (F : aF0 l s0 a0 x D Lx xs) {j a : Nat} (hlink : Cond.methodLink (aOw (aMt mi).2.1) j ⟨"java/lang/Object", "getClass", "()Ljava/lang/Class;"⟩ ∈ lw_tbl) (hk : gK h a = 104) (hw : aWt S ≤ 8) (hL9 : L.length = (aMt mi).2.2.2.1) (hf : 1 ≤ R.frames) (hl9 : 40 ≤ R.locals) (hd : decode (aMt mi).2.2.1 pc = .ok (.invokevirtual j, 3))
    (K : aG s0 x D Lx xs p l e R s m args below meth c Q n0 t0 (pc + 3, L, vR 3 :: S, h)) : aG s0 x D Lx xs p l e R s m args below meth c Q n0 t0 (pc, L, vR a :: S, h) := sorry
end SN6

