/-! SOUNDNESS, 9: entries, calls -/
section SN9
variable {l : Launch} {s0 : State} {a0 : Array Value} {x : Nat → Nat} {D : va_G} {Lx : Nat} {xs : Nat → Int32}
variable {p : Program} {e : Env} {R : Room} {s : State} {m : MethodId} {args : Array Value} {below : List Frame} {meth : Method} {c : Code} {Q : State → Prop} {n0 t0 mi pc : Nat} {L : List (Option aV)} {S : List aV} {h : aH}
def aRoom (d cl sl : Nat) : Room := { frames := 20 + d, cells := cl, slots := sl, locals := 200 + 100 * d }
def aPc (s0 : State) (x : Nat → Nat) (D : va_G) (Lx : Nat) (xs : Nat → Int32) (as : List aV) (h : aH) : Array Value → State → Prop := fun v U => ∃ vs : List Value, v = vs.toArray ∧ sOK s0.heap.size x as vs ∧ s0.WarmedH U.vm ∧ aRep s0.heap.size x D s0.heap Lx xs h U.heap
theorem aPc_blind {as : List aV} : FrameBlind (aPc s0 x D Lx xs as h) := sorry
theorem aLay_len {b : Nat} : ∀ {as : List aV} {vs : List Value}, sOK b x as vs → (aLay as).length = (lg_sl vs).length := sorry
theorem aLay_at {b : Nat} : ∀ {as : List aV} {vs : List Value}, sOK b x as vs → ∀ (i : Nat) (a : aV), (aLay as)[i]? = some (some a) → ∃ v, (lg_sl vs)[i]? = some (.val v) ∧ vOK b x a v := sorry
theorem lOK_entry {as : List aV} {vs : List Value} {n : Nat} (hs : sOK s0.heap.size x as vs) (hn : (aLay as).length ≤ n) : lOK s0.heap.size x (aEntry n as) ((lg_sl vs ++ List.replicate (n - (lg_sl vs).length) Slot.unset).toArray) := sorry
theorem sOK_app {b : Nat} : ∀ {S1 S2 : List aV} {st : List Value}, sOK b x (S1 ++ S2) st → ∃ s1 s2, st = s1 ++ s2 ∧ sOK b x S1 s1 ∧ sOK b x S2 s2 ∧ s1.length = S1.length := sorry
theorem sOK_append {b : Nat} : ∀ {S1 S2 : List aV} {s1 s2 : List Value}, sOK b x S1 s1 → sOK b x S2 s2 → sOK b x (S1 ++ S2) (s1 ++ s2) := sorry
theorem sOK_rev {b : Nat} : ∀ {S : List aV} {st : List Value}, sOK b x S st → sOK b x S.reverse st.reverse := sorry
theorem sOK_len {b : Nat} : ∀ {S : List aV} {st : List Value}, sOK b x S st → st.length = S.length := sorry
theorem sOK_top {b n : Nat} {S S' as : List aV} {st : List Value} (ht : aTop n S = some (as, S')) (hs : sOK b x S st) : ∃ vs rest, st = vs.reverse ++ rest ∧ sOK b x as vs ∧ sOK b x S' rest ∧ vs.length = n := sorry
/-- a contract out of a walk from the entry -/
theorem a_met (F : aF0 l s0 a0 x D Lx xs) {k d : Nat} {as : List aV} {r : aOut × aH} (hk : k < 328) (hlay : (aLay as).length ≤ (aMt k).2.2.2.1) (hn : plainFor (aMt k).1 = true) (how : aOw (aMt k).2.1 = (aMt k).1.cls)
    (body : ∀ (p : Program) (e : Env) (s : State) (m : MethodId) (args : Array Value) (below : List Frame) (meth : Method) (c : Code), aMc s0 k p s m meth c → c.exceptionTable.toList = tableOf (aMt k).2.2.2.2.2 → s.heap.size = s0.heap.size + (gN h - 8) → (∀ q : Nat, q < s0.heap.size → s.heap[q]? = s0.heap[q]?) →
      aG s0 x D Lx xs p l e (aRoom d (gN r.2 - gN h) (gT r.2 - gT h)) s m args below meth c (aEnd s0 x D Lx xs below args s (gN h) (gT h) r) (gN h) (gT h) (0, aEntry (aMt k).2.2.2.1 as, [], h)) :
    vx_Met l (aMt k).1 [aWd k] (aRoom d (gN r.2 - gN h) (gT r.2 - gT h)) (aPc s0 x D Lx xs as h) (aQ s0 x D Lx xs r) (aX9 s0 x D Lx xs r) (gN r.2 - gN h) (gT r.2 - gT h) (fun q => s0.heap.size ≤ q) := sorry
end SN9

