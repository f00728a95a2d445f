/-! SOUNDNESS, 10: a call, by its contract -/
section SNA
variable {l : Launch} {s0 : State} {a0 : Array Value} {x : Nat → Nat} {D : va_G} {Lx : Nat} {xs : Nat → Int32}
variable {p : Program} {e : Env} {R : Room} {s : State} {m : MethodId} {args : Array Value} {below : List Frame} {meth : Method} {c : Code} {Q : State → Prop} {n0 t0 mi pc : Nat} {L : List (Option aV)} {S : List aV} {h : aH}
theorem a_after {H : Heap} {locs : List Loc} {ls : Array Slot} {st rest : List Value} {S' : List aV} {out : aOut} {h1 : aH} {arr : Array Value}
    (hrun : vx_Run p l e R s m args below meth c H locs (gN h - n0) (gT h - t0) (gN h1 - gN h) (gT h1 - gT h) (F0 m pc ls st) rest (aQ s0 x D Lx xs (out, h1) arr) (aX9 s0 x D Lx xs (out, h1)) (fun q => s0.heap.size ≤ q))
    (g1 : gN h ≤ gN h1) (g2 : gT h ≤ gT h1) (g3 : n0 ≤ gN h) (g4 : t0 ≤ gT h) (hl1 : lOK s0.heap.size x L ls) (hs3 : sOK s0.heap.size x S' rest) (hq1 : ∀ q ∈ locs, s0.heap.size ≤ q.base)
    (Kr : ∀ v, out = .inl v → aG s0 x D Lx xs p l e R s m args below meth c Q n0 t0 (pc + 3, L, v.toList ++ S', h1))
    (Kx : ∀ k, out = .inr k → 0 < k → k < 5 → ∀ (H' : Heap) (locs' : List Loc) (q : Addr) (ce : Cell), aRep s0.heap.size x D s0.heap Lx xs h1 H' → H'[q]? = some ce → ce.vm = .none → s.vm.findClass (aExc k) = some ce.cls → (∀ q ∈ locs', s0.heap.size ≤ q.base) → vx_W p l e R s m args below meth c H' locs' (gN h1 - n0) (gT h1 - t0) Q (F0 m pc ls rest) q) :
    W p l e R s m args below meth c H locs (gN h - n0) (gT h - t0) Q (F0 m pc ls st) := sorry
/-- a contract that only returns -/
theorem met_of_vx {y : MethodName} {ws : List Cond} {rm : Room} {Pc : Array Value → State → Prop} {Qc : Array Value → State → Outcome → State → Prop} {XC : String → State → State → Prop} {mc ms : Nat} {free : Addr → Prop} (hM : vx_Met l y ws rm Pc Qc XC mc ms free) (hX : ∀ E st t, ¬ XC E st t) : Met l y ws rm Pc Qc mc ms free := sorry
theorem vx_of_va {H : Heap} {locs : List Loc} {cells slots mc ms : Nat} {g : JFrame} {rest : List Value} {Qa : State → Outcome → State → Prop} {XC : String → State → State → Prop} {free : Addr → Prop} (h : va_Run p l e R s m args below meth c H locs cells slots mc ms g rest Qa free) : vx_Run p l e R s m args below meth c H locs cells slots mc ms g rest Qa XC free := sorry
theorem aWd_good (k : Nat) : goodWord (aWd k) = true := sorry
/-- the words that a call asks -/
theorem aMl_ok {o j k kind : Nat} {r : Nat × Nat × Nat × Nat × Nat} (hf : aFind aMl o j = some (k, kind, r)) : kind < 6 ∧ k < 328 ∧ (if 3 ≤ kind then Cond.methodLinkNest (aOw o) j (aMt k).1 "CensusOffice" ∈ lw_tbl else Cond.methodLink (aOw o) j (aMt k).1 ∈ lw_tbl) ∧
    (if kind % 3 = 2 then Cond.static (aMt k).1 ∈ lw_tbl else Cond.instanceMethod (aMt k).1 ∈ lw_tbl) ∧ Cond.initialized (aMt k).1.cls ∈ lw_tbl ∧ (kind % 3 = 0 → Cond.selects (aMt k).1.cls (aMt k).1 (aMt k).1 ∈ lw_tbl) := sorry
theorem aMe_ok {k : Nat} (hk : k < 328) : (parseMethodDescriptor (aMt k).1.desc).isSome = true ∧ ((aMt k).1.cls ≠ "java/lang/invoke/MethodHandle" ∧ (aMt k).1.cls ≠ "java/lang/invoke/VarHandle") ∧ plainFor (aMt k).1 = true ∧ aOw (aMt k).2.1 = (aMt k).1.cls ∧ (aInf k).2.1 = (aMt k).2.2.2.1 ∧ (aMt k).2.2.2.1 ≤ 80 ∧ ((aInf k).2.2.1 = true ↔ (aMt k).2.2.2.2.1 = some .boolean) := sorry
set_option maxRecDepth 100000 in
theorem aMl_no3 : aMl.all (fun q => decide (q.2.2.2.1 ≠ 3)) = true := sorry
theorem aMk_ok {o j k kind : Nat} {r : Nat × Nat × Nat × Nat × Nat} (hf : aFind aMl o j = some (k, kind, r)) : (aInf k).1 = (if kind % 3 = 2 then 0 else 1) + ((parseMethodDescriptor (aMt k).1.desc).map (fun d => d.parameters.length)).getD 0 ∧ (kind % 3 = 1 → (aMt k).1.name = "<init>" ∧ (aMt k).2.2.2.2.1 = none) ∧ (kind = 2 ∨ (aMt k).2.2.2.2.2 = []) ∧ (kind % 3 = 0 → (List.range 15).any (fun c => decide (0 < c ∧ (aCl.getD c ("", kT0, 0)).1 = (aMt k).1.cls)) = true) ∧ kind ≠ 3 := sorry
end SNA

