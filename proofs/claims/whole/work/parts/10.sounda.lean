/-! SOUNDNESS, 1: stacks and locals; what holds at the law's start, at a method's entry, at a configuration -/
section SN1
def sOK (b : Nat) (x : Nat → Nat) : List aV → List Value → Prop
  | [], [] => True
  | a :: S, v :: st => vOK b x a v ∧ sOK b x S st
  | _, _ => False
def lOK (b : Nat) (x : Nat → Nat) (L : List (Option aV)) (ls : Array Slot) : Prop := ls.size = L.length ∧ lv_wf ls ∧ ∀ (i : Nat) (a : aV), L[i]? = some (some a) → ∃ v, ls[i]? = some (.val v) ∧ vOK b x a v
variable {b : Nat} {x : Nat → Nat}
theorem sOK_cons {a : aV} {S : List aV} {st : List Value} (h : sOK b x (a :: S) st) : ∃ v st', st = v :: st' ∧ vOK b x a v ∧ sOK b x S st' := by
  cases st with
  | nil => exact h.elim
  | cons v st => exact ⟨v, st, rfl, h.1, h.2⟩
theorem sOK_nil {st : List Value} (h : sOK b x [] st) : st = [] := by
  cases st with
  | nil => rfl
  | cons v st => exact h.elim
theorem vOK_cat1 {a : aV} {v : Value} (h : vOK b x a v) (hc : aCat1 a = true) : v.category = 1 := by
  rcases a with i | j | r | u
  · rw [show v = .int i from h]; rfl
  · cases hc
  · rw [show v = rv b x r from h]; unfold rv; split <;> rfl
  · obtain ⟨q, rfl⟩ := h; rfl
theorem rv_cases (r : Nat) : rv b x r = .null ∨ ∃ q, rv b x r = .ref q := by
  unfold rv; split
  · exact Or.inl rfl
  · exact Or.inr ⟨_, rfl⟩
theorem vOK_ref {u : Nat ⊕ Unit} {v : Value} (h : vOK b x (.inr (.inr u)) v) : v = .null ∨ ∃ q, v = .ref q := by
  rcases u with r | u
  · rw [show v = rv b x r from h]; exact rv_cases r
  · exact Or.inr h
theorem sOK_wt : ∀ {S : List aV} {st : List Value}, sOK b x S st → (st.map fun v => v.category).sum = aWt S := by
  intro S
  induction S with
  | nil => intro st h; rw [sOK_nil h]; rfl
  | cons a S ih =>
    intro st h
    obtain ⟨v, st', rfl, h1, h2⟩ := sOK_cons h
    rw [List.map_cons, List.sum_cons, ih h2]
    rcases a with i | j | r | u
    · rw [show v = .int i from h1]; rfl
    · rw [show v = .long j from h1]; rfl
    · rw [vOK_cat1 h1 rfl]; rfl
    · rw [vOK_cat1 h1 rfl]; rfl
/-- all values that the locals hold, by their places -/
def lAll (ls : Array Slot) : List (Nat × Value) := (List.range ls.size).filterMap (fun i => match (ls[i]? : Option Slot) with | some (Slot.val v) => some (i, v) | _ => none)
theorem lAll_mem {ls : Array Slot} {i : Nat} {v : Value} : (i, v) ∈ lAll ls ↔ ls[i]? = some (.val v) := by
  unfold lAll
  rw [List.mem_filterMap]
  constructor
  · rintro ⟨j, -, h⟩
    split at h
    · rename_i w hw; simp only [Option.some.injEq, Prod.mk.injEq] at h; obtain ⟨rfl, rfl⟩ := h; exact hw
    · cases h
  · intro h
    exact ⟨i, List.mem_range.mpr (Array.getElem?_eq_some_iff.mp h).1, by rw [h]⟩
theorem lAll_has {ls : Array Slot} (hw : lv_wf ls) : lv_has ls ls.size (lAll ls) := ⟨rfl, hw, fun q hq => lAll_mem.mp hq⟩
theorem aSet_length (L : List (Option aV)) (i : Nat) (a : aV) : (aSet L i a).length = L.length := by
  unfold aSet
  cases i with
  | zero => simp
  | succ k => dsimp only; split <;> simp
theorem aSet_at {L : List (Option aV)} {i j : Nat} {a c : aV} (hi : i < L.length) (h : (aSet L i a)[j]? = some (some c)) : (j = i ∧ c = a) ∨ (j ≠ i ∧ L[j]? = some (some c) ∧ (j + 1 = i → aCat1 c = true)) := by
  unfold aSet at h
  cases i with
  | zero =>
    by_cases e : j = 0
    · subst e; left; simp [hi] at h; exact ⟨rfl, h.symm⟩
    · right; refine ⟨e, ?_, fun q => by omega⟩
      simpa [List.getElem?_set, Ne.symm e] using h
  | succ k =>
    dsimp only at h
    by_cases e : j = k + 1
    · subst e; left; refine ⟨rfl, ?_⟩
      split at h <;> (simp [hi] at h; exact h.symm)
    · right
      split at h
      · rename_i y hy
        rw [List.getElem?_set_ne (Ne.symm e)] at h
        by_cases e2 : j = k
        · subst e2
          have : j < L.length := by omega
          simp [this] at h
        · rw [List.getElem?_set_ne (Ne.symm e2)] at h
          exact ⟨e, h, fun q => by omega⟩
      · rename_i hy
        rw [List.getElem?_set_ne (Ne.symm e)] at h
        refine ⟨e, h, fun q => ?_⟩
        have : j = k := by omega
        subst this
        rcases c with i | y | r | u
        · rfl
        · exact (hy y h).elim
        · rfl
        · rfl
theorem lOK_store1 {L : List (Option aV)} {ls ls' : Array Slot} {i nL : Nat} {a : aV} {v : Value} (hl : lOK b x L ls) (hi : i < L.length) (ha : vOK b x a v)
    (h : lv_has ls' nL ((i, v) :: (lAll ls).filter (fun q => !(q.1 == i) && !(q.1 + 1 == i && q.2.category == 2)))) (hn : nL = ls.size) : lOK b x (aSet L i a) ls' := by
  obtain ⟨h1, h2, h3⟩ := hl
  obtain ⟨g1, g2, g3⟩ := h
  refine ⟨by rw [g1, aSet_length, hn, h1], g2, fun j c hc => ?_⟩
  rcases aSet_at hi hc with ⟨rfl, rfl⟩ | ⟨e, hj, hk⟩
  · exact ⟨v, g3 (j, v) List.mem_cons_self, ha⟩
  · obtain ⟨w, hw, hv⟩ := h3 j c hj
    refine ⟨w, g3 (j, w) (List.mem_cons_of_mem _ (List.mem_filter.mpr ⟨lAll_mem.mpr hw, ?_⟩)), hv⟩
    by_cases q : j + 1 = i
    · have := vOK_cat1 hv (hk q)
      simp [e, this]
    · simp [e, q]
theorem lOK_store2 {L : List (Option aV)} {ls ls' : Array Slot} {i nL : Nat} {y : Int64} (hl : lOK b x L ls) (hi : i + 1 < L.length)
    (h : lv_has ls' nL ((i, Value.long y) :: (lAll ls).filter (fun q => !(q.1 == i) && (!(q.1 == i + 1) && !(q.1 + 1 == i && q.2.category == 2))))) (hn : nL = ls.size) : lOK b x ((aSet L i (vL y)).set (i + 1) none) ls' := by
  obtain ⟨h1, h2, h3⟩ := hl
  obtain ⟨g1, g2, g3⟩ := h
  refine ⟨by rw [g1, List.length_set, aSet_length, hn, h1], g2, fun j c hc => ?_⟩
  by_cases e1 : j = i + 1
  · subst e1
    have : i + 1 < (aSet L i (vL y)).length := by rw [aSet_length]; exact hi
    simp [this] at hc
  · rw [List.getElem?_set_ne (Ne.symm e1)] at hc
    rcases aSet_at (by omega) hc with ⟨rfl, rfl⟩ | ⟨e, hj, hk⟩
    · exact ⟨_, g3 (j, _) List.mem_cons_self, rfl⟩
    · obtain ⟨w, hw, hv⟩ := h3 j c hj
      refine ⟨w, g3 (j, w) (List.mem_cons_of_mem _ (List.mem_filter.mpr ⟨lAll_mem.mpr hw, ?_⟩)), hv⟩
      by_cases q : j + 1 = i
      · have := vOK_cat1 hv (hk q)
        simp [e, e1, this]
      · simp [e, e1, q]
theorem lOK_kill {ks : List Nat} : ∀ {L : List (Option aV)} {ls : Array Slot}, lOK b x L ls → lOK b x (aKill ks L) ls := by
  unfold aKill
  induction ks with
  | nil => intro L ls h; exact h
  | cons k ks ih =>
    intro L ls h
    rw [List.foldl_cons]
    refine ih ⟨by rw [List.length_set]; exact h.1, h.2.1, fun i a ha => ?_⟩
    by_cases e : k = i
    · subst e
      by_cases q : k < L.length
      · simp [q] at ha
      · rw [List.getElem?_eq_none (by simp; omega)] at ha; cases ha
    · rw [List.getElem?_set_ne e] at ha
      exact h.2.2 i a ha
theorem lOK_int {L : List (Option aV)} {ls : Array Slot} (h : lOK b x L ls) {i : Nat} {y : Int32} (hi : L[i]? = some (some (.inl y))) : ls[i]? = some (.val (.int y)) := by
  obtain ⟨v, h1, h2⟩ := h.2.2 i _ hi
  rw [h1, show v = .int y from h2]
theorem lOK_long {L : List (Option aV)} {ls : Array Slot} (h : lOK b x L ls) {i : Nat} {y : Int64} (hi : L[i]? = some (some (.inr (.inl y)))) : ls[i]? = some (.val (.long y)) := by
  obtain ⟨v, h1, h2⟩ := h.2.2 i _ hi
  rw [h1, show v = .long y from h2]
end SN1
