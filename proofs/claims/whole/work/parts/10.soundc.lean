/-! SOUNDNESS, 3: fields -/
section SN3
variable {l : Launch} {s0 : State} {a0 : Array Value} {x : Nat → Nat} {D : va_G} {Lx : Nat} {xs : Nat → Int32}
variable {p : Program} {e : Env} {R : Room} {s : State} {m : MethodId} {args : Array Value} {below : List Frame} {meth : Method} {c : Code} {Q : State → Prop} {n0 t0 mi pc : Nat} {L : List (Option aV)} {S : List aV} {h : aH}
theorem u_lay_good (C : String) (T : u_T) (k : Nat) : goodWord (u_lay C T k) = true := sorry
theorem aF0.lays (F : aF0 l s0 a0 x D Lx xs) {ci : Nat} {C : String} {T : u_T} {N : Nat} (h0 : 0 < ci) (hc : aCl[ci]? = some (C, T, N)) (hW : s0.WarmedH s.vm) : ∀ w ∈ u_ws C T N, w.before args s = true := sorry
theorem aF0.kn (F : aF0 l s0 a0 x D Lx xs) {ci : Nat} {C : String} {T : u_T} {N : Nat} (h0 : 0 < ci) (hc : aCl[ci]? = some (C, T, N)) (hW : s0.WarmedH s.vm) : u_Kn s C T N (D.1 ci) (D.2 ci) := sorry
theorem aF0.same (F : aF0 l s0 a0 x D Lx xs) {T : u_T} {k : Nat} {ref : String} (hr : ref = (T k).1 ∨ Cond.sameField ref (T k).1 (T k).2.1 (T k).2.2.1 ∈ lw_tbl) (hW : s0.WarmedH s.vm) : ∀ y, s.fieldFound? (T k).1 (T k).2.1 (T k).2.2.1 = some y → s.fieldFound? ref (T k).2.1 (T k).2.2.1 = some y := sorry
theorem st_getf (M : aMc s0 mi p s m meth c) (F : aF0 l s0 a0 x D Lx xs) {j ci k a : Nat} (hf : aFlP (aMt mi).2.1 j ci k) (hk : gK h a = ci) (hd : decode (aMt mi).2.2.1 pc = .ok (.getfield j, 3)) {v : aV} (hv : vOK s0.heap.size x v (aVal s0.heap.size x h a (aFt ci k) k))
    (K : aG s0 x D Lx xs p l e R s m args below meth c Q n0 t0 (pc + 3, L, v :: S, h)) : aG s0 x D Lx xs p l e R s m args below meth c Q n0 t0 (pc, L, vR a :: S, h) := sorry
theorem aFl_fin {o i ci k : Nat} {r : Nat × String × Bool} (hf : aFind aFl o i = some (ci, k, r)) {C : String} {T : u_T} {N : Nat} (hc : aCl[ci]? = some (C, T, N)) (hfin : (T k).2.2.2 = true) (hdecl : (T k).1 = aOw o) :
    ∃ ref : String, (ref = (T k).1 ∨ Cond.sameField ref (T k).1 (T k).2.1 (T k).2.2.1 ∈ lw_tbl) ∧ Cond.fieldLink (aOw o) i ref (T k).2.1 (T k).2.2.1 ∈ lw_tbl := sorry
/-- what a store asks of its value -/
def aFit (t : FieldType) (v : Value) : Prop := narrow t v = v ∧ fits t v = true
theorem st_putf (M : aMc s0 mi p s m meth c) (F : aF0 l s0 a0 x D Lx xs) {j ci k a : Nat} (hf : aFlP (aMt mi).2.1 j ci k) (hfin : ∀ C T N, aCl[ci]? = some (C, T, N) → (T k).2.2.2 = true → (aMt mi).1.name = "<init>" ∧ (T k).1 = aOw (aMt mi).2.1 ∧ ∃ ref : String, (ref = (T k).1 ∨ Cond.sameField ref (T k).1 (T k).2.1 (T k).2.2.1 ∈ lw_tbl) ∧ Cond.fieldLink (aOw (aMt mi).2.1) j ref (T k).2.1 (T k).2.2.1 ∈ lw_tbl) (hk : gK h a = ci) (hd : decode (aMt mi).2.2.1 pc = .ok (.putfield j, 3)) {v : aV} {h' : aH}
    (hv : ∀ w, vOK s0.heap.size x v w → aFit (aFt ci k) w ∧ aVal s0.heap.size x h' a (aFt ci k) k = w) (hN : gN h' = gN h) (hT : gT h' = gT h) (hK : ∀ r, gK h' r = gK h r) (hL : ∀ r, gL h' r = gL h r)
    (hI : ∀ r i, (r ≠ a ∨ i ≠ k) → gI h' r i = gI h r i) (hJ : ∀ r i, (r ≠ a ∨ i ≠ k) → gJ h' r i = gJ h r i) (hR : ∀ r i, (r ≠ a ∨ i ≠ k) → gR h' r i = gR h r i)
    (K : aG s0 x D Lx xs p l e R s m args below meth c Q n0 t0 (pc + 3, L, S, h')) : aG s0 x D Lx xs p l e R s m args below meth c Q n0 t0 (pc, L, v :: vR a :: S, h) := sorry
end SN3

