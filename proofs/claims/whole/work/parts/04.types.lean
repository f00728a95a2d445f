/-! THE ABSTRACT MACHINE'S TYPES -/
abbrev aV : Type := Int32 ⊕ (Int64 ⊕ (Nat ⊕ Unit))
abbrev vI (x : Int32) : aV := Sum.inl x
abbrev vL (x : Int64) : aV := Sum.inr (Sum.inl x)
/-- a reference by its number; 0: null -/
abbrev vR (r : Nat) : aV := Sum.inr (Sum.inr (Sum.inl r))
/-- some reference, nobody knows which -/
abbrev vJ : aV := Sum.inr (Sum.inr (Sum.inr ()))
/-- an instruction (its numbers resolved), its length, the locals that are forgotten ahead of it, a constant -/
abbrev aE : Type := Instr × Nat × List Nat × aV
/-- how many arguments, how many locals, is the answer a boolean, the handlers (from, to, where, exception) -/
abbrev aMI : Type := Nat × Nat × Bool × List (Nat × Nat × Nat × Nat)
abbrev aPg : Type := (Nat → Nat → aE) × (Nat → aMI)
