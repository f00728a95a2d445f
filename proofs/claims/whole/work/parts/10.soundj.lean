/-! SOUNDNESS, 10: a call, by its contract -/
section SNA
variable {l : Launch} {s0 : State} {a0 : Array Value} {x : Nat → Nat} {D : va_G} {Lx : Nat} {xs : Nat → Int32}
variable {p : Program} {e : Env} {R : Room} {s : State} {m : MethodId} {args : Array Value} {below : List Frame} {meth : Method} {c : Code} {Q : State → Prop} {n0 t0 mi pc : Nat} {L : List (Option aV)} {S : List aV} {h : aH}
theorem a_after {H : Heap} {locs : List Loc} {ls : Array Slot} {st rest : List Value} {S' : List aV} {out : aOut} {h1 : aH} {arr : Array Value}
    (hrun : vx_Run p l e R s m args below meth c H locs (gN h - n0) (gT h - t0) (gN h1 - gN h) (gT h1 - gT h) (F0 m pc ls st) rest (aQ s0 x D Lx xs (out, h1) arr) (aX9 s0 x D Lx xs (out, h1)) (fun q => s0.heap.size ≤ q))
    (g1 : gN h ≤ gN h1) (g2 : gT h ≤ gT h1) (g3 : n0 ≤ gN h) (g4 : t0 ≤ gT h) (hl1 : lOK s0.heap.size x L ls) (hs3 : sOK s0.heap.size x S' rest) (hq1 : ∀ q ∈ locs, s0.heap.size ≤ q.base)
    (Kr : ∀ v, out = .inl v → aG s0 x D Lx xs p l e R s m args below meth c Q n0 t0 (pc + 3, L, v.toList ++ S', h1))
    (Kx : ∀ k, out = .inr k → 0 < k → k < 5 → ∀ (H' : Heap) (locs' : List Loc) (q : Addr) (ce : Cell), aRep s0.heap.size x D s0.heap Lx xs h1 H' → H'[q]? = some ce → ce.vm = .none → s.vm.findClass (aExc k) = some ce.cls → (∀ q ∈ locs', s0.heap.size ≤ q.base) → vx_W p l e R s m args below meth c H' locs' (gN h1 - n0) (gT h1 - t0) Q (F0 m pc ls rest) q) :
    W p l e R s m args below meth c H locs (gN h - n0) (gT h - t0) Q (F0 m pc ls st) := by
  intro T hT X
  have eN : gN h - n0 + (gN h1 - gN h) = gN h1 - n0 := by omega
  have eT : gT h - t0 + (gT h1 - gT h) = gT h1 - t0 := by omega
  rcases hrun T hT X with ⟨v, st0, t, T', L9, w1, X', w2, w3, w4, w5, w6⟩ | ⟨q, st0, t, T', L9, E, ce, w1, X', w2, w3, w4, w5, w6, w7, w8, w9⟩
  · rw [eN, eT] at X'
    obtain ⟨w5, hrep⟩ := w5
    have hloc : ∀ q ∈ locs ++ L9, s0.heap.size ≤ q.base := fun q hq => (List.mem_append.mp hq).elim (hq1 q) (w2 q)
    have hrep : aRep s0.heap.size x D s0.heap Lx xs h1 T'.heap := by rw [w3]; exact hrep
    rcases w5 with ⟨w5, w5'⟩ | ⟨a, w, w5, w5', w5''⟩
    · cases w5'
      obtain ⟨tt, b1, b2⟩ := Kr none w5 T'.heap (locs ++ L9) ls rest hrep hl1 hs3 hloc T' rfl X'
      exact ⟨tt, w6 tt b1, b2⟩
    · cases w5'
      obtain ⟨tt, b1, b2⟩ := Kr (some a) w5 T'.heap (locs ++ L9) ls (w :: rest) hrep hl1 ⟨w5'', hs3⟩ hloc T' rfl X'
      exact ⟨tt, w6 tt b1, b2⟩
  · rw [eN, eT] at X'
    obtain ⟨⟨k, hk, rfl, k0, k5⟩, hrep⟩ := w5
    have hloc : ∀ q ∈ locs ++ L9, s0.heap.size ≤ q.base := fun q hq => (List.mem_append.mp hq).elim (hq1 q) (w2 q)
    have hrep : aRep s0.heap.size x D s0.heap Lx xs h1 T'.heap := by rw [w3]; exact hrep
    obtain ⟨tt, b1, b2⟩ := Kx k hk k0 k5 T'.heap (locs ++ L9) q ce hrep (by rw [w3]; exact w6) w7 w8 hloc T' rfl X'
    exact ⟨tt, w9.trans b1, b2⟩
/-- a contract that only returns -/
theorem met_of_vx {y : MethodName} {ws : List Cond} {rm : Room} {Pc : Array Value → State → Prop} {Qc : Array Value → State → Outcome → State → Prop} {XC : String → State → State → Prop} {mc ms : Nat} {free : Addr → Prop} (hM : vx_Met l y ws rm Pc Qc XC mc ms free) (hX : ∀ E st t, ¬ XC E st t) : Met l y ws rm Pc Qc mc ms free := by
  intro p e ha hc hk s m args below hf happ hP hK
  obtain ⟨n, o, h1, h2, h3, h4⟩ := hM p e ha hc hk s m args below hf happ hP hK
  refine ⟨n, o, h1, h2, h3, ?_⟩
  rcases h4 with h4 | ⟨q, -, E, ce, L9, h5, -⟩
  · exact h4
  · exact (hX _ _ _ h5).elim
theorem vx_of_va {H : Heap} {locs : List Loc} {cells slots mc ms : Nat} {g : JFrame} {rest : List Value} {Qa : State → Outcome → State → Prop} {XC : String → State → State → Prop} {free : Addr → Prop} (h : va_Run p l e R s m args below meth c H locs cells slots mc ms g rest Qa free) : vx_Run p l e R s m args below meth c H locs cells slots mc ms g rest Qa XC free := fun T hT X => Or.inl (h T hT X)
theorem aWd_good (k : Nat) : goodWord (aWd k) = true := by
  unfold aWd
  split <;> rfl
/-- the words that a call asks -/
theorem aMl_ok {o j k kind : Nat} {r : Nat × Nat × Nat × Nat × Nat} (hf : aFind aMl o j = some (k, kind, r)) : kind < 6 ∧ k < 328 ∧ (if 3 ≤ kind then Cond.methodLinkNest (aOw o) j (aMt k).1 "CensusOffice" ∈ lw_tbl else Cond.methodLink (aOw o) j (aMt k).1 ∈ lw_tbl) ∧
    (if kind % 3 = 2 then Cond.static (aMt k).1 ∈ lw_tbl else Cond.instanceMethod (aMt k).1 ∈ lw_tbl) ∧ Cond.initialized (aMt k).1.cls ∈ lw_tbl ∧ (kind % 3 = 0 → Cond.selects (aMt k).1.cls (aMt k).1 (aMt k).1 ∈ lw_tbl) := by
  have h1 := aMl_all _ (aFind_mem hf)
  obtain ⟨pl, pin, pini, psel, pc⟩ := r
  simp only [aMlB, Bool.and_eq_true, decide_eq_true_eq] at h1
  obtain ⟨⟨⟨⟨⟨h2, h3⟩, h4⟩, h5⟩, h6⟩, h7⟩ := h1
  refine ⟨h2, h3, ?_, ?_, aAt_mem h6, fun w => ?_⟩
  · split at h4
    · rw [if_pos (by assumption)]; exact aAt_mem h4
    · rw [if_neg (by assumption)]; exact aAt_mem h4
  · split at h5
    · rw [if_pos (by assumption)]; exact aAt_mem h5
    · rw [if_neg (by assumption)]; exact aAt_mem h5
  · rw [if_pos w] at h7; exact aAt_mem h7
theorem aMe_ok {k : Nat} (hk : k < 328) : (parseMethodDescriptor (aMt k).1.desc).isSome = true ∧ ((aMt k).1.cls ≠ "java/lang/invoke/MethodHandle" ∧ (aMt k).1.cls ≠ "java/lang/invoke/VarHandle") ∧ plainFor (aMt k).1 = true ∧ aOw (aMt k).2.1 = (aMt k).1.cls ∧ (aInf k).2.1 = (aMt k).2.2.2.1 ∧ (aMt k).2.2.2.1 ≤ 80 ∧ ((aInf k).2.2.1 = true ↔ (aMt k).2.2.2.2.1 = some .boolean) := by
  have h1 := List.all_eq_true.mp aMe_all k (List.mem_range.mpr hk)
  simp only [aMeB, Bool.and_eq_true, Bool.or_eq_true, decide_eq_true_eq] at h1
  obtain ⟨⟨⟨⟨⟨h2, h3⟩, h4⟩, h5⟩, h6⟩, h7⟩ := h1
  refine ⟨h2, h3, ?_, h5, h6.1, h6.2, h7⟩
  rcases h4 with h4 | h4
  · exact plainFor_of_name (List.all_eq_true.mp aPn_ok _ h4)
  · simp only [aPf, List.mem_cons, List.not_mem_nil, or_false] at h4
    rcases h4 with rfl | rfl | rfl | rfl | rfl | rfl | rfl | rfl | rfl | rfl | rfl | rfl | rfl | rfl | rfl | rfl | rfl | rfl | rfl | rfl | rfl | rfl | rfl | rfl | rfl
    · exact pf0
    · exact pf7
    · exact pf8
    · exact pf9
    · exact pf19
    · exact pf20
    · exact pf48
    · exact pf65
    · exact pf91
    · exact pf92
    · exact pf93
    · exact pf94
    · exact pf95
    · exact pf96
    · exact pf97
    · exact pf98
    · exact pf116
    · exact pf117
    · exact pf118
    · exact pf119
    · exact pf152
    · exact pf202
    · exact pf203
    · exact pf215
    · exact pf220
set_option maxRecDepth 100000 in
theorem aMl_no3 : aMl.all (fun q => decide (q.2.2.2.1 ≠ 3)) = true := by decide +kernel
theorem aMk_ok {o j k kind : Nat} {r : Nat × Nat × Nat × Nat × Nat} (hf : aFind aMl o j = some (k, kind, r)) : (aInf k).1 = (if kind % 3 = 2 then 0 else 1) + ((parseMethodDescriptor (aMt k).1.desc).map (fun d => d.parameters.length)).getD 0 ∧ (kind % 3 = 1 → (aMt k).1.name = "<init>" ∧ (aMt k).2.2.2.2.1 = none) ∧ (kind = 2 ∨ (aMt k).2.2.2.2.2 = []) ∧ (kind % 3 = 0 → (List.range 15).any (fun c => decide (0 < c ∧ (aCl.getD c ("", kT0, 0)).1 = (aMt k).1.cls)) = true) ∧ kind ≠ 3 := by
  have h0 := List.all_eq_true.mp aMl_no3 _ (aFind_mem hf)
  have h1 := List.all_eq_true.mp aMk_all _ (aFind_mem hf)
  obtain ⟨pl, pin, pini, psel, pc⟩ := r
  simp only [aMkB, Bool.and_eq_true, decide_eq_true_eq] at h1
  obtain ⟨⟨⟨h2, h3⟩, h4⟩, h5⟩ := h1
  refine ⟨h2, fun w => ?_, h5, fun w => ?_, of_decide_eq_true h0⟩
  · rw [if_pos w] at h4
    exact of_decide_eq_true h4
  · rw [if_pos w] at h3
    exact h3
end SNA
