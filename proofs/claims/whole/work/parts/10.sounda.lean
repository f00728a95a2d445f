/-! SOUNDNESS, 1: stacks and locals; what holds at the law's start, at a method's entry, at a configuration -/
section SN1
def sOK (b : Nat) (x : Nat → Nat) : List aV → List Value → Prop
  | [], [] => True
  | a :: S, v :: st => vOK b x a v ∧ sOK b x S st
  | _, _ => False
def lOK (b : Nat) (x : Nat → Nat) (L : List (Option aV)) (ls : Array Slot) : Prop := ls.size = L.length ∧ lv_wf ls ∧ ∀ (i : Nat) (a : aV), L[i]? = some (some a) → ∃ v, ls[i]? = some (.val v) ∧ vOK b x a v
variable {b : Nat} {x : Nat → Nat}
theorem sOK_cons {a : aV} {S : List aV} {st : List Value} (h : sOK b x (a :: S) st) : ∃ v st', st = v :: st' ∧ vOK b x a v ∧ sOK b x S st' := sorry
theorem sOK_nil {st : List Value} (h : sOK b x [] st) : st = [] := sorry
theorem vOK_cat1 {a : aV} {v : Value} (h : vOK b x a v) (hc : aCat1 a = true) : v.category = 1 := sorry
theorem rv_cases (r : Nat) : rv b x r = .null ∨ ∃ q, rv b x r = .ref q := sorry
theorem vOK_ref {u : Nat ⊕ Unit} {v : Value} (h : vOK b x (.inr (.inr u)) v) : v = .null ∨ ∃ q, v = .ref q := sorry
theorem sOK_wt : ∀ {S : List aV} {st : List Value}, sOK b x S st → (st.map fun v => v.category).sum = aWt S := sorry
/-- all values that the locals hold, by their places -/
def lAll (ls : Array Slot) : List (Nat × Value) := (List.range ls.size).filterMap (fun i => match (ls[i]? : Option Slot) with | some (Slot.val v) => some (i, v) | _ => none)
theorem lAll_mem {ls : Array Slot} {i : Nat} {v : Value} : (i, v) ∈ lAll ls ↔ ls[i]? = some (.val v) := sorry
theorem lAll_has {ls : Array Slot} (hw : lv_wf ls) : lv_has ls ls.size (lAll ls) := sorry
theorem aSet_length (L : List (Option aV)) (i : Nat) (a : aV) : (aSet L i a).length = L.length := sorry
theorem aSet_at {L : List (Option aV)} {i j : Nat} {a c : aV} (hi : i < L.length) (h : (aSet L i a)[j]? = some (some c)) : (j = i ∧ c = a) ∨ (j ≠ i ∧ L[j]? = some (some c) ∧ (j + 1 = i → aCat1 c = true)) := sorry
theorem lOK_store1 {L : List (Option aV)} {ls ls' : Array Slot} {i nL : Nat} {a : aV} {v : Value} (hl : lOK b x L ls) (hi : i < L.length) (ha : vOK b x a v)
    (h : lv_has ls' nL ((i, v) :: (lAll ls).filter (fun q => !(q.1 == i) && !(q.1 + 1 == i && q.2.category == 2)))) (hn : nL = ls.size) : lOK b x (aSet L i a) ls' := sorry
theorem lOK_store2 {L : List (Option aV)} {ls ls' : Array Slot} {i nL : Nat} {y : Int64} (hl : lOK b x L ls) (hi : i + 1 < L.length)
    (h : lv_has ls' nL ((i, Value.long y) :: (lAll ls).filter (fun q => !(q.1 == i) && (!(q.1 == i + 1) && !(q.1 + 1 == i && q.2.category == 2))))) (hn : nL = ls.size) : lOK b x ((aSet L i (vL y)).set (i + 1) none) ls' := sorry
theorem lOK_kill {ks : List Nat} : ∀ {L : List (Option aV)} {ls : Array Slot}, lOK b x L ls → lOK b x (aKill ks L) ls := sorry
theorem lOK_int {L : List (Option aV)} {ls : Array Slot} (h : lOK b x L ls) {i : Nat} {y : Int32} (hi : L[i]? = some (some (.inl y))) : ls[i]? = some (.val (.int y)) := sorry
theorem lOK_long {L : List (Option aV)} {ls : Array Slot} (h : lOK b x L ls) {i : Nat} {y : Int64} (hi : L[i]? = some (some (.inr (.inl y)))) : ls[i]? = some (.val (.long y)) := sorry
end SN1

