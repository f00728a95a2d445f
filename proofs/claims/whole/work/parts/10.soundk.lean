/-! SOUNDNESS, 11: the calls themselves -/
section SNB
variable {l : Launch} {s0 : State} {a0 : Array Value} {x : Nat → Nat} {D : va_G} {Lx : Nat} {xs : Nat → Int32}
variable {p : Program} {e : Env} {R : Room} {s : State} {m : MethodId} {args : Array Value} {below : List Frame} {meth : Method} {c : Code} {Q : State → Prop} {n0 t0 mi pc : Nat} {L : List (Option aV)} {S : List aV} {h : aH}
theorem aRcv_own {k : Nat} {as : List aV} (hk : k ≠ 0) (hk2 : k ≠ 97) (hr : aRcv (vR k) as h = true) : ∃ a as', as = vR a :: as' ∧ 8 ≤ a ∧ (k = 99 ∨ gK h a = k) := sorry
theorem aRk_v {k : Nat} (hany : (List.range 15).any (fun c => decide (0 < c ∧ (aCl.getD c ("", kT0, 0)).1 = (aMt k).1.cls)) = true) : 0 < aRk k 0 ∧ aRk k 0 < 15 ∧ (aCl.getD (aRk k 0) ("", kT0, 0)).1 = (aMt k).1.cls := sorry
theorem st_call (M : aMc s0 mi p s m meth c) (F : aF0 l s0 a0 x D Lx xs) {j k kind d CC TT : Nat} {rr : Nat × Nat × Nat × Nat × Nat} {as S' : List aV} {out : aOut} {h1 : aH} (hf : aFind aMl (aMt mi).2.1 j = some (k, kind, rr))
    (hd : decode (aMt mi).2.2.1 pc = .ok ((if kind % 3 = 0 then .invokevirtual j else if kind % 3 = 1 then .invokespecial j else .invokestatic j), 3)) (htop : aTop (aInf k).1 S = some (as, S')) (hw : aWt S' ≤ 8) (hrcv : aRcv (vR (aRk k kind)) as h = true) (hquiet : (kind ≠ 0 ∧ kind ≠ 2) → ∃ v, out = .inl v)
    (hM : vx_Met l (aMt k).1 [aWd k] (aRoom d (gN h1 - gN h) (gT h1 - gT h)) (aPc s0 x D Lx xs as h) (aQ s0 x D Lx xs (out, h1)) (aX9 s0 x D Lx xs (out, h1)) (gN h1 - gN h) (gT h1 - gT h) (fun q => s0.heap.size ≤ q))
    (hR : R = aRoom (d + 1) CC TT) (hC : gN h1 - n0 ≤ CC) (hT9 : gT h1 - t0 ≤ TT) (g1 : gN h ≤ gN h1) (g2 : gT h ≤ gT h1) (g3 : n0 ≤ gN h) (g4 : t0 ≤ gT h) (hL9 : L.length = (aMt mi).2.2.2.1)
    (Kr : ∀ v, out = .inl v → aG s0 x D Lx xs p l e R s m args below meth c Q n0 t0 (pc + 3, L, v.toList ++ S', h1))
    (Kx : ∀ k, out = .inr k → 0 < k → k < 5 → ∀ (H' : Heap) (locs' : List Loc) (ls : Array Slot) (rest : List Value) (q : Addr) (ce : Cell), aRep s0.heap.size x D s0.heap Lx xs h1 H' → lOK s0.heap.size x L ls → H'[q]? = some ce → ce.vm = .none → s.vm.findClass (aExc k) = some ce.cls → (∀ q ∈ locs', s0.heap.size ≤ q.base) → vx_W p l e R s m args below meth c H' locs' (gN h1 - n0) (gT h1 - t0) Q (F0 m pc ls rest) q) :
    aG s0 x D Lx xs p l e R s m args below meth c Q n0 t0 (pc, L, S, h) := sorry
end SNB

