/-! SOUNDNESS, 9: entries, calls -/
section SN9
variable {l : Launch} {s0 : State} {a0 : Array Value} {x : Nat → Nat} {D : va_G} {Lx : Nat} {xs : Nat → Int32}
variable {p : Program} {e : Env} {R : Room} {s : State} {m : MethodId} {args : Array Value} {below : List Frame} {meth : Method} {c : Code} {Q : State → Prop} {n0 t0 mi pc : Nat} {L : List (Option aV)} {S : List aV} {h : aH}
def aRoom (d cl sl : Nat) : Room := { frames := 20 + d, cells := cl, slots := sl, locals := 200 + 100 * d }
def aPc (s0 : State) (x : Nat → Nat) (D : va_G) (Lx : Nat) (xs : Nat → Int32) (as : List aV) (h : aH) : Array Value → State → Prop := fun v U => ∃ vs : List Value, v = vs.toArray ∧ sOK s0.heap.size x as vs ∧ s0.WarmedH U.vm ∧ aRep s0.heap.size x D s0.heap Lx xs h U.heap
theorem aPc_blind {as : List aV} : FrameBlind (aPc s0 x D Lx xs as h) := by
  rintro a U g mk ⟨vs, h1, h2, h3, h4⟩
  exact ⟨vs, h1, h2, h3, h4⟩
theorem aLay_len {b : Nat} : ∀ {as : List aV} {vs : List Value}, sOK b x as vs → (aLay as).length = (lg_sl vs).length := by
  intro as
  induction as with
  | nil => intro vs hs; rw [sOK_nil hs]; rfl
  | cons a as ih =>
    intro vs hs
    obtain ⟨v, vs, rfl, hv, hs2⟩ := sOK_cons hs
    have := ih hs2
    rcases a with i | j | r | u
    · rw [show v = .int i from hv]; simp [aLay, lg_sl, Value.category] at this ⊢; exact this
    · rw [show v = .long j from hv]; simp [aLay, lg_sl, Value.category] at this ⊢; exact this
    · have hc := vOK_cat1 hv rfl
      simp [aLay, lg_sl, hc] at this ⊢; exact this
    · have hc := vOK_cat1 hv rfl
      simp [aLay, lg_sl, hc] at this ⊢; exact this
theorem aLay_at {b : Nat} : ∀ {as : List aV} {vs : List Value}, sOK b x as vs → ∀ (i : Nat) (a : aV), (aLay as)[i]? = some (some a) → ∃ v, (lg_sl vs)[i]? = some (.val v) ∧ vOK b x a v := by
  intro as
  induction as with
  | nil => intro vs _ i a ha; simp [aLay] at ha
  | cons a1 as ih =>
    intro vs hs i a ha
    obtain ⟨v, vs, rfl, hv, hs2⟩ := sOK_cons hs
    by_cases hlong : ∃ j, a1 = .inr (.inl j)
    · obtain ⟨j, rfl⟩ := hlong
      have hv : v = .long j := hv
      subst hv
      have e1 : lg_sl (.long j :: vs) = .val (.long j) :: .second :: lg_sl vs := by simp [lg_sl, Value.category]
      rw [e1]
      simp only [aLay] at ha
      match i, ha with
      | 0, ha => simp at ha; exact ⟨_, rfl, by rw [← ha]; rfl⟩
      | 1, ha => simp at ha
      | i + 2, ha => exact ih hs2 i a (by simpa using ha)
    · have hc1 : aCat1 a1 = true := by
        rcases a1 with q | q | q | q
        · rfl
        · exact (hlong ⟨q, rfl⟩).elim
        · rfl
        · rfl
      have hc := vOK_cat1 hv hc1
      have e1 : lg_sl (v :: vs) = .val v :: lg_sl vs := by simp [lg_sl, hc]
      have e2 : aLay (a1 :: as) = some a1 :: aLay as := by
        rcases a1 with q | q | q | q
        · rfl
        · exact (hlong ⟨q, rfl⟩).elim
        · rfl
        · rfl
      rw [e1]
      rw [e2] at ha
      match i, ha with
      | 0, ha => simp at ha; exact ⟨v, rfl, by rw [← ha]; exact hv⟩
      | i + 1, ha => exact ih hs2 i a (by simpa using ha)
theorem lOK_entry {as : List aV} {vs : List Value} {n : Nat} (hs : sOK s0.heap.size x as vs) (hn : (aLay as).length ≤ n) : lOK s0.heap.size x (aEntry n as) ((lg_sl vs ++ List.replicate (n - (lg_sl vs).length) Slot.unset).toArray) := by
  have hlen := aLay_len hs
  have he := lv_entry vs (n := n) (by rw [← hlen]; exact hn)
  refine ⟨?_, he.2.1, fun i a ha => ?_⟩
  · rw [he.1]; unfold aEntry; simp; omega
  · unfold aEntry at ha
    by_cases hi : i < (aLay as).length
    · rw [List.getElem?_append_left hi] at ha
      obtain ⟨v, h1, h2⟩ := aLay_at hs i a ha
      refine ⟨v, ?_, h2⟩
      rw [List.getElem?_toArray, List.getElem?_append_left (by rw [← hlen]; exact hi)]
      exact h1
    · rw [List.getElem?_append_right (by omega)] at ha
      rw [List.getElem?_replicate] at ha
      split at ha <;> cases ha
theorem sOK_app {b : Nat} : ∀ {S1 S2 : List aV} {st : List Value}, sOK b x (S1 ++ S2) st → ∃ s1 s2, st = s1 ++ s2 ∧ sOK b x S1 s1 ∧ sOK b x S2 s2 ∧ s1.length = S1.length := by
  intro S1
  induction S1 with
  | nil => intro S2 st hs; exact ⟨[], st, rfl, trivial, hs, rfl⟩
  | cons a S1 ih =>
    intro S2 st hs
    obtain ⟨v, st, rfl, hv, hs2⟩ := sOK_cons hs
    obtain ⟨s1, s2, rfl, g1, g2, g3⟩ := ih hs2
    exact ⟨v :: s1, s2, rfl, ⟨hv, g1⟩, g2, by simp [g3]⟩
theorem sOK_append {b : Nat} : ∀ {S1 S2 : List aV} {s1 s2 : List Value}, sOK b x S1 s1 → sOK b x S2 s2 → sOK b x (S1 ++ S2) (s1 ++ s2) := by
  intro S1
  induction S1 with
  | nil => intro S2 s1 s2 g1 g2; rw [sOK_nil g1]; exact g2
  | cons a S1 ih =>
    intro S2 s1 s2 g1 g2
    obtain ⟨v, s1, rfl, hv, g3⟩ := sOK_cons g1
    exact ⟨hv, ih g3 g2⟩
theorem sOK_rev {b : Nat} : ∀ {S : List aV} {st : List Value}, sOK b x S st → sOK b x S.reverse st.reverse := by
  intro S
  induction S with
  | nil => intro st g; rw [sOK_nil g]; trivial
  | cons a S ih =>
    intro st g
    obtain ⟨v, st, rfl, hv, g3⟩ := sOK_cons g
    rw [List.reverse_cons, List.reverse_cons]
    exact sOK_append (ih g3) ⟨hv, trivial⟩
theorem sOK_len {b : Nat} : ∀ {S : List aV} {st : List Value}, sOK b x S st → st.length = S.length := by
  intro S
  induction S with
  | nil => intro st g; rw [sOK_nil g]; rfl
  | cons a S ih =>
    intro st g
    obtain ⟨v, st, rfl, hv, g3⟩ := sOK_cons g
    simp [ih g3]
theorem sOK_top {b n : Nat} {S S' as : List aV} {st : List Value} (ht : aTop n S = some (as, S')) (hs : sOK b x S st) : ∃ vs rest, st = vs.reverse ++ rest ∧ sOK b x as vs ∧ sOK b x S' rest ∧ vs.length = n := by
  unfold aTop at ht
  split at ht
  · cases ht
  · rename_i hn
    simp only [Option.some.injEq, Prod.mk.injEq] at ht
    obtain ⟨rfl, rfl⟩ := ht
    rw [← List.take_append_drop n S] at hs
    obtain ⟨s1, s2, rfl, g1, g2, g3⟩ := sOK_app hs
    refine ⟨s1.reverse, s2, by rw [List.reverse_reverse], sOK_rev g1, g2, ?_⟩
    rw [List.length_reverse, g3, List.length_take]
    omega
/-- a contract out of a walk from the entry -/
theorem a_met (F : aF0 l s0 a0 x D Lx xs) {k d : Nat} {as : List aV} {r : aOut × aH} (hk : k < 328) (hlay : (aLay as).length ≤ (aMt k).2.2.2.1) (hn : plainFor (aMt k).1 = true) (how : aOw (aMt k).2.1 = (aMt k).1.cls)
    (body : ∀ (p : Program) (e : Env) (s : State) (m : MethodId) (args : Array Value) (below : List Frame) (meth : Method) (c : Code), aMc s0 k p s m meth c → c.exceptionTable.toList = tableOf (aMt k).2.2.2.2.2 → s.heap.size = s0.heap.size + (gN h - 8) → (∀ q : Nat, q < s0.heap.size → s.heap[q]? = s0.heap[q]?) →
      aG s0 x D Lx xs p l e (aRoom d (gN r.2 - gN h) (gT r.2 - gT h)) s m args below meth c (aEnd s0 x D Lx xs below args s (gN h) (gT h) r) (gN h) (gT h) (0, aEntry (aMt k).2.2.2.1 as, [], h)) :
    vx_Met l (aMt k).1 [aWd k] (aRoom d (gN r.2 - gN h) (gT r.2 - gT h)) (aPc s0 x D Lx xs as h) (aQ s0 x D Lx xs r) (aX9 s0 x D Lx xs r) (gN r.2 - gN h) (gT r.2 - gT h) (fun q => s0.heap.size ≤ q) := by
  have hwd : ∀ (args : Array Value) (s : State) (m : MethodId), (aWd k).before args s = true → s.methodNamed? (aMt k).1 = some m → ∃ meth c, s.vm.method? m = some meth ∧ meth.code = some c ∧ c.code = (aMt k).2.2.1 ∧ c.maxLocals = (aMt k).2.2.2.1 ∧ meth.sig.returnType = (aMt k).2.2.2.2.1 ∧ meth.locks = false ∧ c.exceptionTable.toList = tableOf (aMt k).2.2.2.2.2 := by
    intro args s m hw hnm
    unfold aWd at hw
    split at hw
    · rename_i e1
      obtain ⟨meth, c, h1, h2, h3, h4, h5, h6, h7, -⟩ := Cond.code_spec hnm hw
      refine ⟨meth, c, h1, h2, h3, h4, h5, h6, ?_⟩
      rw [e1]
      have : c.exceptionTable.toList = [] := by simpa using h7
      rw [this]; rfl
    · rename_i h9 hh9 e1
      obtain ⟨m9, meth, c, hn9, h1, h2, h3, h4, h7, h5, h6, -⟩ := Cond.codeWith_spec hw
      cases Option.some.inj (hn9.symm.trans hnm)
      exact ⟨meth, c, h1, h2, h3, h4, h5, h6, by rw [e1, ← h7, table_eq]⟩
  refine MetFree.of_bodySF (code := (aMt k).2.2.1) (maxLocals := (aMt k).2.2.2.1) (ret := (aMt k).2.2.2.2.1) hn ?_ ?_
  · intro args s m hp hnm
    obtain ⟨meth, c, h1, h2, h3, h4, h5, h6, -⟩ := hwd args s m (atoms_spec (ws := [aWd k]) hp _ List.mem_cons_self) hnm
    exact ⟨meth, c, h1, h2, h3, h4, h5, h6⟩
  · intro p e s m args below meth c s₁ B hml hP _
    obtain ⟨vs, rfl, hs, hW, hrep⟩ := hP
    obtain ⟨meth', c', g1, g2, g3, g4, g5, g6, g7⟩ := hwd _ s m (atoms_spec (ws := [aWd k]) B.pre _ List.mem_cons_self) B.named
    cases B.method.symm.trans g1
    cases (Stand.of_body B).code.symm.trans g2
    have hown : s.vm.findClass (aOw (aMt k).2.1) = some m.cls := by rw [how]; exact findClass_of_methodNamed B.named
    have hM : aMc s0 k p s m meth c := ⟨B.exec, B.bytes, hml, hown, hW, B.returns, g6, fun w => (name_of_methodNamed B.named B.method).1.trans w⟩
    have hh0 : s₁.heap = s.heap := by rw [B.state]; rfl
    have hG := body p e s m vs.toArray below meth c hM g7 hrep.2.1 hrep.2.2.2.1
    have hW9 := hG s.heap [] _ [] hrep (lOK_entry hs hlay) trivial (fun q hq => by cases hq)
    rw [show gN (((0, aEntry (aMt k).2.2.2.1 as, [], h) : aCf).2.2.2) - gN h = 0 from Nat.sub_self _, show gT (((0, aEntry (aMt k).2.2.2.1 as, [], h) : aCf).2.2.2) - gT h = 0 from Nat.sub_self _] at hW9
    rw [lg_entry_eq]
    obtain ⟨t, a1, o, b1, b2, b3⟩ := hW9 s₁ hh0 (Stand.of_body B)
    exact ⟨t, o, a1, b1, b2, b3⟩
end SN9
