/-! SOUNDNESS, 8: copies by kind, returns, throws, contracts out of walks -/
section SN8
variable {l : Launch} {s0 : State} {a0 : Array Value} {x : Nat → Nat} {D : va_G} {Lx : Nat} {xs : Nat → Int32}
variable {p : Program} {e : Env} {R : Room} {s : State} {m : MethodId} {args : Array Value} {below : List Frame} {meth : Method} {c : Code} {Q : State → Prop} {n0 t0 mi pc : Nat} {L : List (Option aV)} {S : List aV} {h : aH}
theorem st_copyI (M : aMc s0 mi p s m meth c) (F : aF0 l s0 a0 x D Lx xs) {j a b9 : Nat} {i1 j1 n : Int32} (hlink : Cond.methodLink (aOw (aMt mi).2.1) j arraycopyName ∈ lw_tbl) (hka : gK h a = 100) (hkb : gK h b9 = 100)
    (h1 : ¬ i1 < 0) (h2 : ¬ j1 < 0) (h3 : ¬ n < 0) (h4 : i1.toNatClampNeg + n.toNatClampNeg ≤ gL h a) (h5 : j1.toNatClampNeg + n.toNatClampNeg ≤ gL h b9) (hw : aWt S ≤ 8) (hL9 : L.length = (aMt mi).2.2.2.1) (hf : 1 ≤ R.frames) (hl9 : 60 ≤ R.locals) (hd : decode (aMt mi).2.2.1 pc = .ok (.invokestatic j, 3))
    (K : aG s0 x D Lx xs p l e R s m args below meth c Q n0 t0 (pc + 3, L, S, gCopyI h a i1.toNatClampNeg b9 j1.toNatClampNeg n.toNatClampNeg)) : aG s0 x D Lx xs p l e R s m args below meth c Q n0 t0 (pc, L, vI n :: vI j1 :: vR b9 :: vI i1 :: vR a :: S, h) := sorry
theorem aObj_any (F : aF0 l s0 a0 x D Lx xs) (hW : s0.WarmedH s.vm) {H : Heap} (r : aRep s0.heap.size x D s0.heap Lx xs h H) {y : Nat} (ho : aObj h y = true) : y = 0 ∨ (8 ≤ y ∧ va_Any "java/lang/Object" s H (s0.heap.size + (y - 8))) := sorry
theorem st_copyR (M : aMc s0 mi p s m meth c) (F : aF0 l s0 a0 x D Lx xs) {j a b9 : Nat} {i1 j1 n : Int32} (hlink : Cond.methodLink (aOw (aMt mi).2.1) j arraycopyName ∈ lw_tbl) (hka : gK h a = 104) (hkb : gK h b9 = 104) (hob : (List.range n.toNatClampNeg).all (fun k => aObj h (gR h a (i1.toNatClampNeg + k))) = true)
    (h1 : ¬ i1 < 0) (h2 : ¬ j1 < 0) (h3 : ¬ n < 0) (h4 : i1.toNatClampNeg + n.toNatClampNeg ≤ gL h a) (h5 : j1.toNatClampNeg + n.toNatClampNeg ≤ gL h b9) (hw : aWt S ≤ 8) (hL9 : L.length = (aMt mi).2.2.2.1) (hf : 1 ≤ R.frames) (hl9 : 60 ≤ R.locals) (hd : decode (aMt mi).2.2.1 pc = .ok (.invokestatic j, 3))
    (K : aG s0 x D Lx xs p l e R s m args below meth c Q n0 t0 (pc + 3, L, S, gCopyR h a i1.toNatClampNeg b9 j1.toNatClampNeg n.toNatClampNeg)) : aG s0 x D Lx xs p l e R s m args below meth c Q n0 t0 (pc, L, vI n :: vI j1 :: vR b9 :: vI i1 :: vR a :: S, h) := sorry
/-- what a run's end says of the machine's -/
def aQ (s0 : State) (x : Nat → Nat) (D : va_G) (Lx : Nat) (xs : Nat → Int32) (r : aOut × aH) : Array Value → State → Outcome → State → Prop := fun _ _ o t =>
  ((r.1 = .inl none ∧ o = .returned none) ∨ ∃ a v, r.1 = .inl (some a) ∧ o = .returned (some v) ∧ vOK s0.heap.size x a v) ∧ aRep s0.heap.size x D s0.heap Lx xs r.2 t.heap
def aX9 (s0 : State) (x : Nat → Nat) (D : va_G) (Lx : Nat) (xs : Nat → Int32) (r : aOut × aH) : String → State → State → Prop := fun E _ t =>
  (∃ k, r.1 = .inr k ∧ E = aExc k ∧ 0 < k ∧ k < 5) ∧ aRep s0.heap.size x D s0.heap Lx xs r.2 t.heap
abbrev aEnd (s0 : State) (x : Nat → Nat) (D : va_G) (Lx : Nat) (xs : Nat → Int32) (below : List Frame) (args : Array Value) (s : State) (n0 t0 : Nat) (r : aOut × aH) : State → Prop := vx_MQ below (aQ s0 x D Lx xs r) (aX9 s0 x D Lx xs r) args s (gN r.2 - n0) (gT r.2 - t0) (fun q => s0.heap.size ≤ q)
theorem st_ireturn (M : aMc s0 mi p s m meth c) {y : Int32} (hret : (aMt mi).2.2.2.2.1 = some .int ∨ ((aMt mi).2.2.2.2.1 = some .boolean ∧ y &&& 1 = y)) (hd : decode (aMt mi).2.2.1 pc = .ok (.ireturn, 1)) :
    aG s0 x D Lx xs p l e R s m args below meth c (aEnd s0 x D Lx xs below args s n0 t0 (.inl (some (vI y)), h)) n0 t0 (pc, L, [vI y], h) := sorry
theorem st_lreturn (M : aMc s0 mi p s m meth c) {y : Int64} (hret : (aMt mi).2.2.2.2.1 = some .long) (hd : decode (aMt mi).2.2.1 pc = .ok (.lreturn, 1)) :
    aG s0 x D Lx xs p l e R s m args below meth c (aEnd s0 x D Lx xs below args s n0 t0 (.inl (some (vL y)), h)) n0 t0 (pc, L, [vL y], h) := sorry
theorem st_areturn (M : aMc s0 mi p s m meth c) {y : Nat} {rt : FieldType} (hret : (aMt mi).2.2.2.2.1 = some rt) (hrt : (∃ n, rt = .object n) ∨ ∃ t, rt = .array t) (hd : decode (aMt mi).2.2.1 pc = .ok (.areturn, 1)) :
    aG s0 x D Lx xs p l e R s m args below meth c (aEnd s0 x D Lx xs below args s n0 t0 (.inl (some (vR y)), h)) n0 t0 (pc, L, [vR y], h) := sorry
theorem st_vreturn (M : aMc s0 mi p s m meth c) (hret : (aMt mi).2.2.2.2.1 = none) (hd : decode (aMt mi).2.2.1 pc = .ok (.return_, 1)) :
    aG s0 x D Lx xs p l e R s m args below meth c (aEnd s0 x D Lx xs below args s n0 t0 (.inl none, h)) n0 t0 (pc, L, [], h) := sorry
def aXtG (q : Nat × Nat × Nat) : Bool := match q with
  | (o, i, k) => (vx_atS (aOw o) i (aExc k) aXn).all (fun w => goodWord w || match w with | .declares _ => true | .castable .. => true | _ => false)
theorem aXt_good : aXt.all aXtG = true := sorry
theorem aXt_at (F : aF0 l s0 a0 x D Lx xs) (hW : s0.WarmedH s.vm) {o i k : Nat} (hx : aFind aXt o i = some k) : ∀ w ∈ vx_atS (aOw o) i (aExc k) aXn, w.before args s = true := sorry
theorem aExc_fit {k : Nat} : Jvm.Bundle.fit (aExc k) = true := sorry
theorem aXn_fit : ∀ n ∈ aXn, Jvm.Bundle.fit n = true := sorry
theorem aKn_exc {k : Nat} (h0 : 0 < k) (h5 : k < 5) : aKn (200 + k) = aExc k := sorry
theorem st_throw (M : aMc s0 mi p s m meth c) (F : aF0 l s0 a0 x D Lx xs) {k w n : Nat} (ht : aThr (aMt mi).2.1 (aMt mi).2.2.1 pc k w n = true) (hcc : c.code = (aMt mi).2.2.1) (hL9 : L.length = (aMt mi).2.2.2.1) (hf : 6 ≤ R.frames) (hl9 : 100 ≤ R.locals) (hex : c.exceptionTable.toList = [])
    (h8 : 8 ≤ n0) (hn0 : n0 ≤ gN h) (ht0 : t0 ≤ gT h) (hC : gN h + 1 - n0 ≤ R.cells) (hSl : gT h + 6 - t0 ≤ R.slots) (hsz : s.heap.size = s0.heap.size + (n0 - 8)) (hold : ∀ q : Nat, q < s0.heap.size → s.heap[q]? = s0.heap[q]?) :
    aG s0 x D Lx xs p l e R s m args below meth c (aEnd s0 x D Lx xs below args s n0 t0 (.inr k, gNew h 200 6)) n0 t0 (pc, L, [], h) := sorry
end SN8

