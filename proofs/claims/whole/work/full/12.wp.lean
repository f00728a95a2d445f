/-! A LOGIC OVER THE ABSTRACT MACHINE: what a run needs, one row an instruction (written by wip/tools/gen12.py) -/
section WPA
def Wp (d mi : Nat) (cf : aCf) (Q : aOut × aH → Prop) : Prop := ∃ n r, aRun aPr n d mi cf = some r ∧ Q r
theorem Wp.mono {d mi : Nat} {cf : aCf} {Q Q' : aOut × aH → Prop} (h : Wp d mi cf Q) (k : ∀ r, Q r → Q' r) : Wp d mi cf Q' := by
  obtain ⟨n, r, h1, h2⟩ := h
  exact ⟨n, r, h1, k r h2⟩
/-- how a method answers: an int, a long, a reference, nothing; or an exception -/
def RI (K : Int32 → aH → Prop) (X : Nat → aH → Prop) (r : aOut × aH) : Prop := (∃ y, r.1 = .inl (some (vI y)) ∧ K y r.2) ∨ ∃ x, r.1 = .inr x ∧ X x r.2
def RL (K : Int64 → aH → Prop) (X : Nat → aH → Prop) (r : aOut × aH) : Prop := (∃ y, r.1 = .inl (some (vL y)) ∧ K y r.2) ∨ ∃ x, r.1 = .inr x ∧ X x r.2
def RR (K : Nat → aH → Prop) (X : Nat → aH → Prop) (r : aOut × aH) : Prop := (∃ y, r.1 = .inl (some (vR y)) ∧ K y r.2) ∨ ∃ x, r.1 = .inr x ∧ X x r.2
def RV (K : aH → Prop) (X : Nat → aH → Prop) (r : aOut × aH) : Prop := (r.1 = .inl none ∧ K r.2) ∨ ∃ x, r.1 = .inr x ∧ X x r.2
def Wc (d k : Nat) (as : List aV) (h : aH) (Q : aOut × aH → Prop) : Prop := Wp d k (0, aEntry (aInf k).2.1 as, [], h) Q
abbrev CI (d k : Nat) (as : List aV) (h : aH) (K : Int32 → aH → Prop) (X : Nat → aH → Prop) : Prop := Wc d k as h (RI K X)
abbrev CL (d k : Nat) (as : List aV) (h : aH) (K : Int64 → aH → Prop) (X : Nat → aH → Prop) : Prop := Wc d k as h (RL K X)
abbrev CR (d k : Nat) (as : List aV) (h : aH) (K : Nat → aH → Prop) (X : Nat → aH → Prop) : Prop := Wc d k as h (RR K X)
abbrev CV (d k : Nat) (as : List aV) (h : aH) (K : aH → Prop) (X : Nat → aH → Prop) : Prop := Wc d k as h (RV K X)
theorem CI.mono {d k : Nat} {as : List aV} {h : aH} {K K' : Int32 → aH → Prop} {X X' : Nat → aH → Prop} (H : CI d k as h K X) (f : ∀ y h1, K y h1 → K' y h1) (g : ∀ x h1, X x h1 → X' x h1) : CI d k as h K' X' :=
  Wp.mono H fun r hr => hr.imp (fun ⟨y, e, q⟩ => ⟨y, e, f y _ q⟩) (fun ⟨x, e, q⟩ => ⟨x, e, g x _ q⟩)
theorem CL.mono {d k : Nat} {as : List aV} {h : aH} {K K' : Int64 → aH → Prop} {X X' : Nat → aH → Prop} (H : CL d k as h K X) (f : ∀ y h1, K y h1 → K' y h1) (g : ∀ x h1, X x h1 → X' x h1) : CL d k as h K' X' :=
  Wp.mono H fun r hr => hr.imp (fun ⟨y, e, q⟩ => ⟨y, e, f y _ q⟩) (fun ⟨x, e, q⟩ => ⟨x, e, g x _ q⟩)
theorem CR.mono {d k : Nat} {as : List aV} {h : aH} {K K' : Nat → aH → Prop} {X X' : Nat → aH → Prop} (H : CR d k as h K X) (f : ∀ y h1, K y h1 → K' y h1) (g : ∀ x h1, X x h1 → X' x h1) : CR d k as h K' X' :=
  Wp.mono H fun r hr => hr.imp (fun ⟨y, e, q⟩ => ⟨y, e, f y _ q⟩) (fun ⟨x, e, q⟩ => ⟨x, e, g x _ q⟩)
theorem CV.mono {d k : Nat} {as : List aV} {h : aH} {K K' : aH → Prop} {X X' : Nat → aH → Prop} (H : CV d k as h K X) (f : ∀ h1, K h1 → K' h1) (g : ∀ x h1, X x h1 → X' x h1) : CV d k as h K' X' :=
  Wp.mono H fun r hr => hr.imp (fun ⟨e, q⟩ => ⟨e, f _ q⟩) (fun ⟨x, e, q⟩ => ⟨x, e, g x _ q⟩)
/-- an index by its number -/
def inB (h : aH) (k a : Nat) (i : Int32) (j : Nat) : Prop := gK h a = k ∧ i = nI j ∧ j < gL h a ∧ j < 2147483648
variable {d mi pc pc' n : Nat} {ks : List Nat} {c : aV} {L L' L2 : List (Option aV)} {S : List aV} {h : aH} {Q : aOut × aH → Prop}
theorem wp_go {I : Instr} {cf' : aCf} (hE : aCode mi pc = (I, n, ks, c)) (hL : aKill ks L = L') (hs : aStep (aInf mi).2.2.1 (I, n, ks, c) pc L' S h = some (.inl cf')) (k : Wp d mi cf' Q) : Wp d mi (pc, L, S, h) Q := by
  obtain ⟨m, r, h1, h2⟩ := k
  refine ⟨m + 1, r, ?_, h2⟩
  rw [aRun]
  have e1 : aPr.1 mi pc = (I, n, ks, c) := hE
  have e2 : aPr.2 mi = aInf mi := rfl
  rw [e1, e2]
  dsimp only
  rw [hL, hs]
  exact h1
theorem wp_end {I : Instr} {r : aOut × aH} (hE : aCode mi pc = (I, n, ks, c)) (hL : aKill ks L = L') (hs : aStep (aInf mi).2.2.1 (I, n, ks, c) pc L' S h = some (.inr (.inr r))) (k : Q r) : Wp d mi (pc, L, S, h) Q := by
  refine ⟨1, r, ?_, k⟩
  rw [aRun]
  have e1 : aPr.1 mi pc = (I, n, ks, c) := hE
  have e2 : aPr.2 mi = aInf mi := rfl
  rw [e1, e2]
  dsimp only
  rw [hL, hs]
theorem wp_call {k m rk : Nat} {as S' : List aV} (hE : aCode mi pc = (.invokeinterface k m, n, ks, vR rk)) (hL : aKill ks L = L') (ht : aTop m S = some (as, S')) (hw : aWt S' ≤ 8) (hr : aRcv (vR rk) as h = true) (hlay : ¬ (aInf k).2.1 < (aLay as).length)
    (C : Wc d k as h (fun r => (∃ v, r.1 = .inl v ∧ Wp (d + 1) mi (pc + n, L', v.toList ++ S', r.2) Q) ∨ ∃ x, r.1 = .inr x ∧ aQuiet (vR rk) = false ∧ match aHand (aInf mi).2.2.2 pc x with
      | some t => Wp (d + 1) mi (t, L', [vJ], r.2) Q
      | none => (aInf mi).2.2.2.isEmpty = true ∧ Q (.inr x, r.2))) : Wp (d + 1) mi (pc, L, S, h) Q := by
  obtain ⟨m1, ⟨out, h1⟩, hrun, hq⟩ := C
  have hstep : aStep (aInf mi).2.2.1 (.invokeinterface k m, n, ks, vR rk) pc L' S h = some (.inr (.inl (k, as, (pc + n, L', S', h)))) := by
    simp only [aStep, ht, hw, hr, and_self, if_true]
  have e1 : aPr.1 mi pc = (.invokeinterface k m, n, ks, vR rk) := hE
  have e2 : aPr.2 mi = aInf mi := rfl
  have e3 : aPr.2 k = aInf k := rfl
  have main : ∀ (N : Nat) (r : aOut × aH), m1 ≤ N → (match out with
      | .inl v => aRun aPr N (d + 1) mi (pc + n, L', v.toList ++ S', h1)
      | .inr x => if aQuiet (vR rk) = true then none else match aHand (aInf mi).2.2.2 pc x with
        | some t => aRun aPr N (d + 1) mi (t, L', [vJ], h1)
        | none => if (aInf mi).2.2.2.isEmpty = true then some (.inr x, h1) else none) = some r → Q r → Wp (d + 1) mi (pc, L, S, h) Q := by
    intro N r hN hm hQ
    refine ⟨N + 1, r, ?_, hQ⟩
    rw [aRun]
    rw [e1, e2]
    dsimp only
    rw [hL, hstep]
    dsimp only
    rw [e3, if_neg hlay, aRun_le aPr hrun hN]
    cases out with
    | inl v => exact hm
    | inr x => exact hm
  rcases hq with ⟨v, hv, m2, r, hr2, hQ⟩ | ⟨x, hx, hqu, hh⟩
  · have hv : out = .inl v := hv
    subst hv
    exact main (m1 + m2) r (by omega) (aRun_le aPr hr2 (by omega)) hQ
  · have hx : out = .inr x := hx
    subst hx
    cases ha : aHand (aInf mi).2.2.2 pc x with
    | some t =>
      rw [ha] at hh
      obtain ⟨m2, r, hr2, hQ⟩ := hh
      refine main (m1 + m2) r (by omega) ?_ hQ
      dsimp only
      rw [hqu, ha]
      exact aRun_le aPr hr2 (by omega)
    | none =>
      rw [ha] at hh
      refine main m1 (.inr x, h1) (by omega) ?_ hh.2
      dsimp only
      rw [hqu, ha]
      dsimp only
      rw [if_pos hh.1]
      rfl
theorem rcv_v {a rk : Nat} {as : List aV} (h8 : 8 ≤ a) (hk : gK h a = rk) (h0 : rk ≠ 0) (h97 : rk ≠ 97) : aRcv (vR rk) (vR a :: as) h = true := by
  unfold aRcv
  split
  · rename_i e; cases e; exact (h0 rfl).elim
  · rename_i e; cases e; exact (h97 rfl).elim
  · rename_i e; cases e; simp [h8, hk]
  · rename_i h1; exact (h1 rk rfl).elim
theorem rcv_c {a : Nat} {as : List aV} (h8 : 8 ≤ a) : aRcv (vR 99) (vR a :: as) h = true := by simp [aRcv, h8]

theorem wp_callI' {k m rk : Nat} {as S' : List aV} (hE : aCode mi pc = (.invokeinterface k m, n, ks, vR rk)) (hL : aKill ks L = L') (ht : aTop m S = some (as, S')) (hw : Nat.ble (aWt S') 8 = true) (hr : aRcv (vR rk) as h = true) (hlay : Nat.ble (aLay as).length (aInf k).2.1 = true) (hp : pc + n = pc') (hq : aQuiet (vR rk) = false) (hh : (aInf mi).2.2.2 = []) (C : CI d k as h (fun y h1 => Wp (d + 1) mi (pc', L', vI y :: S', h1) Q) (fun x h1 => Q (.inr x, h1))) : Wp (d + 1) mi (pc, L, S, h) Q := by
  refine wp_call hE hL ht (Nat.le_of_ble_eq_true hw) hr (Nat.not_lt.mpr (Nat.le_of_ble_eq_true hlay)) (Wp.mono C fun r hr2 => ?_)
  rcases hr2 with ⟨y, e, q⟩ | ⟨x, e, q⟩
  · exact Or.inl ⟨some (vI y), e, by rw [hp]; exact q⟩
  · exact Or.inr ⟨x, e, hq, by rw [hh]; exact ⟨rfl, q⟩⟩
theorem wp_callI {k m rk : Nat} {as S' : List aV} (hE : aCode mi pc = (.invokeinterface k m, n, [], vR rk)) (ht : aTop m S = some (as, S')) (hw : Nat.ble (aWt S') 8 = true) (hr : aRcv (vR rk) as h = true) (hlay : Nat.ble (aLay as).length (aInf k).2.1 = true) (hp : pc + n = pc') (hq : aQuiet (vR rk) = false) (hh : (aInf mi).2.2.2 = []) (C : CI d k as h (fun y h1 => Wp (d + 1) mi (pc', L, vI y :: S', h1) Q) (fun x h1 => Q (.inr x, h1))) : Wp (d + 1) mi (pc, L, S, h) Q := wp_callI' hE rfl ht hw hr hlay hp hq hh C
theorem wp_callqI' {k m rk : Nat} {as S' : List aV} (hE : aCode mi pc = (.invokeinterface k m, n, ks, vR rk)) (hL : aKill ks L = L') (ht : aTop m S = some (as, S')) (hw : Nat.ble (aWt S') 8 = true) (hr : aRcv (vR rk) as h = true) (hlay : Nat.ble (aLay as).length (aInf k).2.1 = true) (hp : pc + n = pc') (C : CI d k as h (fun y h1 => Wp (d + 1) mi (pc', L', vI y :: S', h1) Q) (fun _ _ => False)) : Wp (d + 1) mi (pc, L, S, h) Q := by
  refine wp_call hE hL ht (Nat.le_of_ble_eq_true hw) hr (Nat.not_lt.mpr (Nat.le_of_ble_eq_true hlay)) (Wp.mono C fun r hr2 => ?_)
  rcases hr2 with ⟨y, e, q⟩ | ⟨x, e, q⟩
  · exact Or.inl ⟨some (vI y), e, by rw [hp]; exact q⟩
  · exact q.elim
theorem wp_callqI {k m rk : Nat} {as S' : List aV} (hE : aCode mi pc = (.invokeinterface k m, n, [], vR rk)) (ht : aTop m S = some (as, S')) (hw : Nat.ble (aWt S') 8 = true) (hr : aRcv (vR rk) as h = true) (hlay : Nat.ble (aLay as).length (aInf k).2.1 = true) (hp : pc + n = pc') (C : CI d k as h (fun y h1 => Wp (d + 1) mi (pc', L, vI y :: S', h1) Q) (fun _ _ => False)) : Wp (d + 1) mi (pc, L, S, h) Q := wp_callqI' hE rfl ht hw hr hlay hp C
theorem wp_callhI' {k m rk : Nat} {as S' : List aV} {X : Nat → aH → Prop} (hE : aCode mi pc = (.invokeinterface k m, n, ks, vR rk)) (hL : aKill ks L = L') (ht : aTop m S = some (as, S')) (hw : Nat.ble (aWt S') 8 = true) (hr : aRcv (vR rk) as h = true) (hlay : Nat.ble (aLay as).length (aInf k).2.1 = true) (hp : pc + n = pc') (hq : aQuiet (vR rk) = false) (hX : ∀ x h1, X x h1 → ∃ t, aHand (aInf mi).2.2.2 pc x = some t ∧ Wp (d + 1) mi (t, L', [vJ], h1) Q) (C : CI d k as h (fun y h1 => Wp (d + 1) mi (pc', L', vI y :: S', h1) Q) X) : Wp (d + 1) mi (pc, L, S, h) Q := by
  refine wp_call hE hL ht (Nat.le_of_ble_eq_true hw) hr (Nat.not_lt.mpr (Nat.le_of_ble_eq_true hlay)) (Wp.mono C fun r hr2 => ?_)
  rcases hr2 with ⟨y, e, q⟩ | ⟨x, e, q⟩
  · exact Or.inl ⟨some (vI y), e, by rw [hp]; exact q⟩
  · obtain ⟨t, ht2, hw2⟩ := hX _ _ q
    exact Or.inr ⟨x, e, hq, by rw [ht2]; exact hw2⟩
theorem wp_callhI {k m rk : Nat} {as S' : List aV} {X : Nat → aH → Prop} (hE : aCode mi pc = (.invokeinterface k m, n, [], vR rk)) (ht : aTop m S = some (as, S')) (hw : Nat.ble (aWt S') 8 = true) (hr : aRcv (vR rk) as h = true) (hlay : Nat.ble (aLay as).length (aInf k).2.1 = true) (hp : pc + n = pc') (hq : aQuiet (vR rk) = false) (hX : ∀ x h1, X x h1 → ∃ t, aHand (aInf mi).2.2.2 pc x = some t ∧ Wp (d + 1) mi (t, L, [vJ], h1) Q) (C : CI d k as h (fun y h1 => Wp (d + 1) mi (pc', L, vI y :: S', h1) Q) X) : Wp (d + 1) mi (pc, L, S, h) Q := wp_callhI' hE rfl ht hw hr hlay hp hq hX C
theorem wp_callL' {k m rk : Nat} {as S' : List aV} (hE : aCode mi pc = (.invokeinterface k m, n, ks, vR rk)) (hL : aKill ks L = L') (ht : aTop m S = some (as, S')) (hw : Nat.ble (aWt S') 8 = true) (hr : aRcv (vR rk) as h = true) (hlay : Nat.ble (aLay as).length (aInf k).2.1 = true) (hp : pc + n = pc') (hq : aQuiet (vR rk) = false) (hh : (aInf mi).2.2.2 = []) (C : CL d k as h (fun y h1 => Wp (d + 1) mi (pc', L', vL y :: S', h1) Q) (fun x h1 => Q (.inr x, h1))) : Wp (d + 1) mi (pc, L, S, h) Q := by
  refine wp_call hE hL ht (Nat.le_of_ble_eq_true hw) hr (Nat.not_lt.mpr (Nat.le_of_ble_eq_true hlay)) (Wp.mono C fun r hr2 => ?_)
  rcases hr2 with ⟨y, e, q⟩ | ⟨x, e, q⟩
  · exact Or.inl ⟨some (vL y), e, by rw [hp]; exact q⟩
  · exact Or.inr ⟨x, e, hq, by rw [hh]; exact ⟨rfl, q⟩⟩
theorem wp_callL {k m rk : Nat} {as S' : List aV} (hE : aCode mi pc = (.invokeinterface k m, n, [], vR rk)) (ht : aTop m S = some (as, S')) (hw : Nat.ble (aWt S') 8 = true) (hr : aRcv (vR rk) as h = true) (hlay : Nat.ble (aLay as).length (aInf k).2.1 = true) (hp : pc + n = pc') (hq : aQuiet (vR rk) = false) (hh : (aInf mi).2.2.2 = []) (C : CL d k as h (fun y h1 => Wp (d + 1) mi (pc', L, vL y :: S', h1) Q) (fun x h1 => Q (.inr x, h1))) : Wp (d + 1) mi (pc, L, S, h) Q := wp_callL' hE rfl ht hw hr hlay hp hq hh C
theorem wp_callqL' {k m rk : Nat} {as S' : List aV} (hE : aCode mi pc = (.invokeinterface k m, n, ks, vR rk)) (hL : aKill ks L = L') (ht : aTop m S = some (as, S')) (hw : Nat.ble (aWt S') 8 = true) (hr : aRcv (vR rk) as h = true) (hlay : Nat.ble (aLay as).length (aInf k).2.1 = true) (hp : pc + n = pc') (C : CL d k as h (fun y h1 => Wp (d + 1) mi (pc', L', vL y :: S', h1) Q) (fun _ _ => False)) : Wp (d + 1) mi (pc, L, S, h) Q := by
  refine wp_call hE hL ht (Nat.le_of_ble_eq_true hw) hr (Nat.not_lt.mpr (Nat.le_of_ble_eq_true hlay)) (Wp.mono C fun r hr2 => ?_)
  rcases hr2 with ⟨y, e, q⟩ | ⟨x, e, q⟩
  · exact Or.inl ⟨some (vL y), e, by rw [hp]; exact q⟩
  · exact q.elim
theorem wp_callqL {k m rk : Nat} {as S' : List aV} (hE : aCode mi pc = (.invokeinterface k m, n, [], vR rk)) (ht : aTop m S = some (as, S')) (hw : Nat.ble (aWt S') 8 = true) (hr : aRcv (vR rk) as h = true) (hlay : Nat.ble (aLay as).length (aInf k).2.1 = true) (hp : pc + n = pc') (C : CL d k as h (fun y h1 => Wp (d + 1) mi (pc', L, vL y :: S', h1) Q) (fun _ _ => False)) : Wp (d + 1) mi (pc, L, S, h) Q := wp_callqL' hE rfl ht hw hr hlay hp C
theorem wp_callhL' {k m rk : Nat} {as S' : List aV} {X : Nat → aH → Prop} (hE : aCode mi pc = (.invokeinterface k m, n, ks, vR rk)) (hL : aKill ks L = L') (ht : aTop m S = some (as, S')) (hw : Nat.ble (aWt S') 8 = true) (hr : aRcv (vR rk) as h = true) (hlay : Nat.ble (aLay as).length (aInf k).2.1 = true) (hp : pc + n = pc') (hq : aQuiet (vR rk) = false) (hX : ∀ x h1, X x h1 → ∃ t, aHand (aInf mi).2.2.2 pc x = some t ∧ Wp (d + 1) mi (t, L', [vJ], h1) Q) (C : CL d k as h (fun y h1 => Wp (d + 1) mi (pc', L', vL y :: S', h1) Q) X) : Wp (d + 1) mi (pc, L, S, h) Q := by
  refine wp_call hE hL ht (Nat.le_of_ble_eq_true hw) hr (Nat.not_lt.mpr (Nat.le_of_ble_eq_true hlay)) (Wp.mono C fun r hr2 => ?_)
  rcases hr2 with ⟨y, e, q⟩ | ⟨x, e, q⟩
  · exact Or.inl ⟨some (vL y), e, by rw [hp]; exact q⟩
  · obtain ⟨t, ht2, hw2⟩ := hX _ _ q
    exact Or.inr ⟨x, e, hq, by rw [ht2]; exact hw2⟩
theorem wp_callhL {k m rk : Nat} {as S' : List aV} {X : Nat → aH → Prop} (hE : aCode mi pc = (.invokeinterface k m, n, [], vR rk)) (ht : aTop m S = some (as, S')) (hw : Nat.ble (aWt S') 8 = true) (hr : aRcv (vR rk) as h = true) (hlay : Nat.ble (aLay as).length (aInf k).2.1 = true) (hp : pc + n = pc') (hq : aQuiet (vR rk) = false) (hX : ∀ x h1, X x h1 → ∃ t, aHand (aInf mi).2.2.2 pc x = some t ∧ Wp (d + 1) mi (t, L, [vJ], h1) Q) (C : CL d k as h (fun y h1 => Wp (d + 1) mi (pc', L, vL y :: S', h1) Q) X) : Wp (d + 1) mi (pc, L, S, h) Q := wp_callhL' hE rfl ht hw hr hlay hp hq hX C
theorem wp_callR' {k m rk : Nat} {as S' : List aV} (hE : aCode mi pc = (.invokeinterface k m, n, ks, vR rk)) (hL : aKill ks L = L') (ht : aTop m S = some (as, S')) (hw : Nat.ble (aWt S') 8 = true) (hr : aRcv (vR rk) as h = true) (hlay : Nat.ble (aLay as).length (aInf k).2.1 = true) (hp : pc + n = pc') (hq : aQuiet (vR rk) = false) (hh : (aInf mi).2.2.2 = []) (C : CR d k as h (fun y h1 => Wp (d + 1) mi (pc', L', vR y :: S', h1) Q) (fun x h1 => Q (.inr x, h1))) : Wp (d + 1) mi (pc, L, S, h) Q := by
  refine wp_call hE hL ht (Nat.le_of_ble_eq_true hw) hr (Nat.not_lt.mpr (Nat.le_of_ble_eq_true hlay)) (Wp.mono C fun r hr2 => ?_)
  rcases hr2 with ⟨y, e, q⟩ | ⟨x, e, q⟩
  · exact Or.inl ⟨some (vR y), e, by rw [hp]; exact q⟩
  · exact Or.inr ⟨x, e, hq, by rw [hh]; exact ⟨rfl, q⟩⟩
theorem wp_callR {k m rk : Nat} {as S' : List aV} (hE : aCode mi pc = (.invokeinterface k m, n, [], vR rk)) (ht : aTop m S = some (as, S')) (hw : Nat.ble (aWt S') 8 = true) (hr : aRcv (vR rk) as h = true) (hlay : Nat.ble (aLay as).length (aInf k).2.1 = true) (hp : pc + n = pc') (hq : aQuiet (vR rk) = false) (hh : (aInf mi).2.2.2 = []) (C : CR d k as h (fun y h1 => Wp (d + 1) mi (pc', L, vR y :: S', h1) Q) (fun x h1 => Q (.inr x, h1))) : Wp (d + 1) mi (pc, L, S, h) Q := wp_callR' hE rfl ht hw hr hlay hp hq hh C
theorem wp_callqR' {k m rk : Nat} {as S' : List aV} (hE : aCode mi pc = (.invokeinterface k m, n, ks, vR rk)) (hL : aKill ks L = L') (ht : aTop m S = some (as, S')) (hw : Nat.ble (aWt S') 8 = true) (hr : aRcv (vR rk) as h = true) (hlay : Nat.ble (aLay as).length (aInf k).2.1 = true) (hp : pc + n = pc') (C : CR d k as h (fun y h1 => Wp (d + 1) mi (pc', L', vR y :: S', h1) Q) (fun _ _ => False)) : Wp (d + 1) mi (pc, L, S, h) Q := by
  refine wp_call hE hL ht (Nat.le_of_ble_eq_true hw) hr (Nat.not_lt.mpr (Nat.le_of_ble_eq_true hlay)) (Wp.mono C fun r hr2 => ?_)
  rcases hr2 with ⟨y, e, q⟩ | ⟨x, e, q⟩
  · exact Or.inl ⟨some (vR y), e, by rw [hp]; exact q⟩
  · exact q.elim
theorem wp_callqR {k m rk : Nat} {as S' : List aV} (hE : aCode mi pc = (.invokeinterface k m, n, [], vR rk)) (ht : aTop m S = some (as, S')) (hw : Nat.ble (aWt S') 8 = true) (hr : aRcv (vR rk) as h = true) (hlay : Nat.ble (aLay as).length (aInf k).2.1 = true) (hp : pc + n = pc') (C : CR d k as h (fun y h1 => Wp (d + 1) mi (pc', L, vR y :: S', h1) Q) (fun _ _ => False)) : Wp (d + 1) mi (pc, L, S, h) Q := wp_callqR' hE rfl ht hw hr hlay hp C
theorem wp_callhR' {k m rk : Nat} {as S' : List aV} {X : Nat → aH → Prop} (hE : aCode mi pc = (.invokeinterface k m, n, ks, vR rk)) (hL : aKill ks L = L') (ht : aTop m S = some (as, S')) (hw : Nat.ble (aWt S') 8 = true) (hr : aRcv (vR rk) as h = true) (hlay : Nat.ble (aLay as).length (aInf k).2.1 = true) (hp : pc + n = pc') (hq : aQuiet (vR rk) = false) (hX : ∀ x h1, X x h1 → ∃ t, aHand (aInf mi).2.2.2 pc x = some t ∧ Wp (d + 1) mi (t, L', [vJ], h1) Q) (C : CR d k as h (fun y h1 => Wp (d + 1) mi (pc', L', vR y :: S', h1) Q) X) : Wp (d + 1) mi (pc, L, S, h) Q := by
  refine wp_call hE hL ht (Nat.le_of_ble_eq_true hw) hr (Nat.not_lt.mpr (Nat.le_of_ble_eq_true hlay)) (Wp.mono C fun r hr2 => ?_)
  rcases hr2 with ⟨y, e, q⟩ | ⟨x, e, q⟩
  · exact Or.inl ⟨some (vR y), e, by rw [hp]; exact q⟩
  · obtain ⟨t, ht2, hw2⟩ := hX _ _ q
    exact Or.inr ⟨x, e, hq, by rw [ht2]; exact hw2⟩
theorem wp_callhR {k m rk : Nat} {as S' : List aV} {X : Nat → aH → Prop} (hE : aCode mi pc = (.invokeinterface k m, n, [], vR rk)) (ht : aTop m S = some (as, S')) (hw : Nat.ble (aWt S') 8 = true) (hr : aRcv (vR rk) as h = true) (hlay : Nat.ble (aLay as).length (aInf k).2.1 = true) (hp : pc + n = pc') (hq : aQuiet (vR rk) = false) (hX : ∀ x h1, X x h1 → ∃ t, aHand (aInf mi).2.2.2 pc x = some t ∧ Wp (d + 1) mi (t, L, [vJ], h1) Q) (C : CR d k as h (fun y h1 => Wp (d + 1) mi (pc', L, vR y :: S', h1) Q) X) : Wp (d + 1) mi (pc, L, S, h) Q := wp_callhR' hE rfl ht hw hr hlay hp hq hX C
theorem wp_callV' {k m rk : Nat} {as S' : List aV} (hE : aCode mi pc = (.invokeinterface k m, n, ks, vR rk)) (hL : aKill ks L = L') (ht : aTop m S = some (as, S')) (hw : Nat.ble (aWt S') 8 = true) (hr : aRcv (vR rk) as h = true) (hlay : Nat.ble (aLay as).length (aInf k).2.1 = true) (hp : pc + n = pc') (hq : aQuiet (vR rk) = false) (hh : (aInf mi).2.2.2 = []) (C : CV d k as h (fun h1 => Wp (d + 1) mi (pc', L', S', h1) Q) (fun x h1 => Q (.inr x, h1))) : Wp (d + 1) mi (pc, L, S, h) Q := by
  refine wp_call hE hL ht (Nat.le_of_ble_eq_true hw) hr (Nat.not_lt.mpr (Nat.le_of_ble_eq_true hlay)) (Wp.mono C fun r hr2 => ?_)
  rcases hr2 with ⟨e, q⟩ | ⟨x, e, q⟩
  · exact Or.inl ⟨none, e, by rw [hp]; exact q⟩
  · exact Or.inr ⟨x, e, hq, by rw [hh]; exact ⟨rfl, q⟩⟩
theorem wp_callV {k m rk : Nat} {as S' : List aV} (hE : aCode mi pc = (.invokeinterface k m, n, [], vR rk)) (ht : aTop m S = some (as, S')) (hw : Nat.ble (aWt S') 8 = true) (hr : aRcv (vR rk) as h = true) (hlay : Nat.ble (aLay as).length (aInf k).2.1 = true) (hp : pc + n = pc') (hq : aQuiet (vR rk) = false) (hh : (aInf mi).2.2.2 = []) (C : CV d k as h (fun h1 => Wp (d + 1) mi (pc', L, S', h1) Q) (fun x h1 => Q (.inr x, h1))) : Wp (d + 1) mi (pc, L, S, h) Q := wp_callV' hE rfl ht hw hr hlay hp hq hh C
theorem wp_callqV' {k m rk : Nat} {as S' : List aV} (hE : aCode mi pc = (.invokeinterface k m, n, ks, vR rk)) (hL : aKill ks L = L') (ht : aTop m S = some (as, S')) (hw : Nat.ble (aWt S') 8 = true) (hr : aRcv (vR rk) as h = true) (hlay : Nat.ble (aLay as).length (aInf k).2.1 = true) (hp : pc + n = pc') (C : CV d k as h (fun h1 => Wp (d + 1) mi (pc', L', S', h1) Q) (fun _ _ => False)) : Wp (d + 1) mi (pc, L, S, h) Q := by
  refine wp_call hE hL ht (Nat.le_of_ble_eq_true hw) hr (Nat.not_lt.mpr (Nat.le_of_ble_eq_true hlay)) (Wp.mono C fun r hr2 => ?_)
  rcases hr2 with ⟨e, q⟩ | ⟨x, e, q⟩
  · exact Or.inl ⟨none, e, by rw [hp]; exact q⟩
  · exact q.elim
theorem wp_callqV {k m rk : Nat} {as S' : List aV} (hE : aCode mi pc = (.invokeinterface k m, n, [], vR rk)) (ht : aTop m S = some (as, S')) (hw : Nat.ble (aWt S') 8 = true) (hr : aRcv (vR rk) as h = true) (hlay : Nat.ble (aLay as).length (aInf k).2.1 = true) (hp : pc + n = pc') (C : CV d k as h (fun h1 => Wp (d + 1) mi (pc', L, S', h1) Q) (fun _ _ => False)) : Wp (d + 1) mi (pc, L, S, h) Q := wp_callqV' hE rfl ht hw hr hlay hp C
theorem wp_callhV' {k m rk : Nat} {as S' : List aV} {X : Nat → aH → Prop} (hE : aCode mi pc = (.invokeinterface k m, n, ks, vR rk)) (hL : aKill ks L = L') (ht : aTop m S = some (as, S')) (hw : Nat.ble (aWt S') 8 = true) (hr : aRcv (vR rk) as h = true) (hlay : Nat.ble (aLay as).length (aInf k).2.1 = true) (hp : pc + n = pc') (hq : aQuiet (vR rk) = false) (hX : ∀ x h1, X x h1 → ∃ t, aHand (aInf mi).2.2.2 pc x = some t ∧ Wp (d + 1) mi (t, L', [vJ], h1) Q) (C : CV d k as h (fun h1 => Wp (d + 1) mi (pc', L', S', h1) Q) X) : Wp (d + 1) mi (pc, L, S, h) Q := by
  refine wp_call hE hL ht (Nat.le_of_ble_eq_true hw) hr (Nat.not_lt.mpr (Nat.le_of_ble_eq_true hlay)) (Wp.mono C fun r hr2 => ?_)
  rcases hr2 with ⟨e, q⟩ | ⟨x, e, q⟩
  · exact Or.inl ⟨none, e, by rw [hp]; exact q⟩
  · obtain ⟨t, ht2, hw2⟩ := hX _ _ q
    exact Or.inr ⟨x, e, hq, by rw [ht2]; exact hw2⟩
theorem wp_callhV {k m rk : Nat} {as S' : List aV} {X : Nat → aH → Prop} (hE : aCode mi pc = (.invokeinterface k m, n, [], vR rk)) (ht : aTop m S = some (as, S')) (hw : Nat.ble (aWt S') 8 = true) (hr : aRcv (vR rk) as h = true) (hlay : Nat.ble (aLay as).length (aInf k).2.1 = true) (hp : pc + n = pc') (hq : aQuiet (vR rk) = false) (hX : ∀ x h1, X x h1 → ∃ t, aHand (aInf mi).2.2.2 pc x = some t ∧ Wp (d + 1) mi (t, L, [vJ], h1) Q) (C : CV d k as h (fun h1 => Wp (d + 1) mi (pc', L, S', h1) Q) X) : Wp (d + 1) mi (pc, L, S, h) Q := wp_callhV' hE rfl ht hw hr hlay hp hq hX C
end WPA
section WPB
variable {d mi pc pc' n : Nat} {ks : List Nat} {c : aV} {L L' L2 : List (Option aV)} {S : List aV} {h : aH} {Q : aOut × aH → Prop}
theorem wp_iload' {i : Nat} {v : Int32} (hE : aCode mi pc = (.iload i, n, ks, c)) (hL : aKill ks L = L') (hv : L'[i]? = some (some (vI v))) (hp : pc + n = pc') (k : Wp d mi (pc', L', vI v :: S, h) Q) : Wp d mi (pc, L, S, h) Q := by
  subst hp
  exact wp_go hE hL (by simp only [aStep, hv]; rfl) k
theorem wp_iload {i : Nat} {v : Int32} (hE : aCode mi pc = (.iload i, n, [], c)) (hv : L[i]? = some (some (vI v))) (hp : pc + n = pc') (k : Wp d mi (pc', L, vI v :: S, h) Q) : Wp d mi (pc, L, S, h) Q := wp_iload' hE rfl hv hp k
theorem wp_lload' {i : Nat} {v : Int64} (hE : aCode mi pc = (.lload i, n, ks, c)) (hL : aKill ks L = L') (hv : L'[i]? = some (some (vL v))) (hp : pc + n = pc') (k : Wp d mi (pc', L', vL v :: S, h) Q) : Wp d mi (pc, L, S, h) Q := by
  subst hp
  exact wp_go hE hL (by simp only [aStep, hv]; rfl) k
theorem wp_lload {i : Nat} {v : Int64} (hE : aCode mi pc = (.lload i, n, [], c)) (hv : L[i]? = some (some (vL v))) (hp : pc + n = pc') (k : Wp d mi (pc', L, vL v :: S, h) Q) : Wp d mi (pc, L, S, h) Q := wp_lload' hE rfl hv hp k
theorem wp_aload' {i v : Nat} (hE : aCode mi pc = (.aload i, n, ks, c)) (hL : aKill ks L = L') (hv : L'[i]? = some (some (vR v))) (hp : pc + n = pc') (k : Wp d mi (pc', L', vR v :: S, h) Q) : Wp d mi (pc, L, S, h) Q := by
  subst hp
  exact wp_go hE hL (by simp only [aStep, hv]; rfl) k
theorem wp_aload {i v : Nat} (hE : aCode mi pc = (.aload i, n, [], c)) (hv : L[i]? = some (some (vR v))) (hp : pc + n = pc') (k : Wp d mi (pc', L, vR v :: S, h) Q) : Wp d mi (pc, L, S, h) Q := wp_aload' hE rfl hv hp k
theorem wp_istore' {i : Nat} {v : Int32} (hE : aCode mi pc = (.istore i, n, ks, c)) (hL : aKill ks L = L') (hi : Nat.ble (i + 1) L'.length = true) (h2 : aSet L' i (vI v) = L2) (hp : pc + n = pc') (k : Wp d mi (pc', L2, S, h) Q) : Wp d mi (pc, L, vI v :: S, h) Q := by
  subst hp
  have hi' : i < L'.length := Nat.le_of_ble_eq_true hi
  exact wp_go hE hL (by simp only [aStep, hi', if_true, h2]; rfl) k
theorem wp_istore {i : Nat} {v : Int32} (hE : aCode mi pc = (.istore i, n, [], c)) (hi : Nat.ble (i + 1) L.length = true) (h2 : aSet L i (vI v) = L2) (hp : pc + n = pc') (k : Wp d mi (pc', L2, S, h) Q) : Wp d mi (pc, L, vI v :: S, h) Q := wp_istore' hE rfl hi h2 hp k
theorem wp_astore' {i v : Nat} (hE : aCode mi pc = (.astore i, n, ks, c)) (hL : aKill ks L = L') (hi : Nat.ble (i + 1) L'.length = true) (h2 : aSet L' i (vR v) = L2) (hp : pc + n = pc') (k : Wp d mi (pc', L2, S, h) Q) : Wp d mi (pc, L, vR v :: S, h) Q := by
  subst hp
  have hi' : i < L'.length := Nat.le_of_ble_eq_true hi
  exact wp_go hE hL (by simp only [aStep, hi', if_true, h2]; rfl) k
theorem wp_astore {i v : Nat} (hE : aCode mi pc = (.astore i, n, [], c)) (hi : Nat.ble (i + 1) L.length = true) (h2 : aSet L i (vR v) = L2) (hp : pc + n = pc') (k : Wp d mi (pc', L2, S, h) Q) : Wp d mi (pc, L, vR v :: S, h) Q := wp_astore' hE rfl hi h2 hp k
theorem wp_astoreJ' {i : Nat} (hE : aCode mi pc = (.astore i, n, ks, c)) (hL : aKill ks L = L') (hi : Nat.ble (i + 1) L'.length = true) (h2 : aSet L' i vJ = L2) (hp : pc + n = pc') (k : Wp d mi (pc', L2, S, h) Q) : Wp d mi (pc, L, vJ :: S, h) Q := by
  subst hp
  have hi' : i < L'.length := Nat.le_of_ble_eq_true hi
  exact wp_go hE hL (by simp only [aStep, hi', if_true, h2]; rfl) k
theorem wp_astoreJ {i : Nat} (hE : aCode mi pc = (.astore i, n, [], c)) (hi : Nat.ble (i + 1) L.length = true) (h2 : aSet L i vJ = L2) (hp : pc + n = pc') (k : Wp d mi (pc', L2, S, h) Q) : Wp d mi (pc, L, vJ :: S, h) Q := wp_astoreJ' hE rfl hi h2 hp k
theorem wp_lstore' {i : Nat} {v : Int64} (hE : aCode mi pc = (.lstore i, n, ks, c)) (hL : aKill ks L = L') (hi : Nat.ble (i + 1 + 1) L'.length = true) (h2 : (aSet L' i (vL v)).set (i + 1) none = L2) (hp : pc + n = pc') (k : Wp d mi (pc', L2, S, h) Q) : Wp d mi (pc, L, vL v :: S, h) Q := by
  subst hp
  have hi' : i + 1 < L'.length := Nat.le_of_ble_eq_true hi
  exact wp_go hE hL (by simp only [aStep, hi', if_true, h2]; rfl) k
theorem wp_lstore {i : Nat} {v : Int64} (hE : aCode mi pc = (.lstore i, n, [], c)) (hi : Nat.ble (i + 1 + 1) L.length = true) (h2 : (aSet L i (vL v)).set (i + 1) none = L2) (hp : pc + n = pc') (k : Wp d mi (pc', L2, S, h) Q) : Wp d mi (pc, L, vL v :: S, h) Q := wp_lstore' hE rfl hi h2 hp k
theorem wp_iinc' {i : Nat} {z : Int} {v y : Int32} (hE : aCode mi pc = (.iinc i z, n, ks, c)) (hL : aKill ks L = L') (hv : L'[i]? = some (some (vI v))) (hz : Int32.ofInt z = y) (h2 : aSet L' i (vI (v + y)) = L2) (hp : pc + n = pc') (k : Wp d mi (pc', L2, S, h) Q) : Wp d mi (pc, L, S, h) Q := by
  subst hp
  exact wp_go hE hL (by simp only [aStep, hv, hz, h2]; rfl) k
theorem wp_iinc {i : Nat} {z : Int} {v y : Int32} (hE : aCode mi pc = (.iinc i z, n, [], c)) (hv : L[i]? = some (some (vI v))) (hz : Int32.ofInt z = y) (h2 : aSet L i (vI (v + y)) = L2) (hp : pc + n = pc') (k : Wp d mi (pc', L2, S, h) Q) : Wp d mi (pc, L, S, h) Q := wp_iinc' hE rfl hv hz h2 hp k
theorem wp_const' {v : aV} (hE : aCode mi pc = (.nop, n, ks, v)) (hL : aKill ks L = L') (hp : pc + n = pc') (k : Wp d mi (pc', L', v :: S, h) Q) : Wp d mi (pc, L, S, h) Q := by
  subst hp
  exact wp_go hE hL (by simp only [aStep]; rfl) k
theorem wp_const {v : aV} (hE : aCode mi pc = (.nop, n, [], v)) (hp : pc + n = pc') (k : Wp d mi (pc', L, v :: S, h) Q) : Wp d mi (pc, L, S, h) Q := wp_const' hE rfl hp k
theorem wp_iadd' {x y : Int32} (hE : aCode mi pc = (.iadd, n, ks, c)) (hL : aKill ks L = L') (hp : pc + n = pc') (k : Wp d mi (pc', L', vI (x + y) :: S, h) Q) : Wp d mi (pc, L, vI y :: vI x :: S, h) Q := by
  subst hp
  exact wp_go hE hL (by simp only [aStep, aBin]; rfl) k
theorem wp_iadd {x y : Int32} (hE : aCode mi pc = (.iadd, n, [], c)) (hp : pc + n = pc') (k : Wp d mi (pc', L, vI (x + y) :: S, h) Q) : Wp d mi (pc, L, vI y :: vI x :: S, h) Q := wp_iadd' hE rfl hp k
theorem wp_isub' {x y : Int32} (hE : aCode mi pc = (.isub, n, ks, c)) (hL : aKill ks L = L') (hp : pc + n = pc') (k : Wp d mi (pc', L', vI (x - y) :: S, h) Q) : Wp d mi (pc, L, vI y :: vI x :: S, h) Q := by
  subst hp
  exact wp_go hE hL (by simp only [aStep, aBin]; rfl) k
theorem wp_isub {x y : Int32} (hE : aCode mi pc = (.isub, n, [], c)) (hp : pc + n = pc') (k : Wp d mi (pc', L, vI (x - y) :: S, h) Q) : Wp d mi (pc, L, vI y :: vI x :: S, h) Q := wp_isub' hE rfl hp k
theorem wp_imul' {x y : Int32} (hE : aCode mi pc = (.imul, n, ks, c)) (hL : aKill ks L = L') (hp : pc + n = pc') (k : Wp d mi (pc', L', vI (x * y) :: S, h) Q) : Wp d mi (pc, L, vI y :: vI x :: S, h) Q := by
  subst hp
  exact wp_go hE hL (by simp only [aStep, aBin]; rfl) k
theorem wp_imul {x y : Int32} (hE : aCode mi pc = (.imul, n, [], c)) (hp : pc + n = pc') (k : Wp d mi (pc', L, vI (x * y) :: S, h) Q) : Wp d mi (pc, L, vI y :: vI x :: S, h) Q := wp_imul' hE rfl hp k
theorem wp_iand' {x y : Int32} (hE : aCode mi pc = (.iand, n, ks, c)) (hL : aKill ks L = L') (hp : pc + n = pc') (k : Wp d mi (pc', L', vI (x &&& y) :: S, h) Q) : Wp d mi (pc, L, vI y :: vI x :: S, h) Q := by
  subst hp
  exact wp_go hE hL (by simp only [aStep, aBin]; rfl) k
theorem wp_iand {x y : Int32} (hE : aCode mi pc = (.iand, n, [], c)) (hp : pc + n = pc') (k : Wp d mi (pc', L, vI (x &&& y) :: S, h) Q) : Wp d mi (pc, L, vI y :: vI x :: S, h) Q := wp_iand' hE rfl hp k
theorem wp_ior' {x y : Int32} (hE : aCode mi pc = (.ior, n, ks, c)) (hL : aKill ks L = L') (hp : pc + n = pc') (k : Wp d mi (pc', L', vI (x ||| y) :: S, h) Q) : Wp d mi (pc, L, vI y :: vI x :: S, h) Q := by
  subst hp
  exact wp_go hE hL (by simp only [aStep, aBin]; rfl) k
theorem wp_ior {x y : Int32} (hE : aCode mi pc = (.ior, n, [], c)) (hp : pc + n = pc') (k : Wp d mi (pc', L, vI (x ||| y) :: S, h) Q) : Wp d mi (pc, L, vI y :: vI x :: S, h) Q := wp_ior' hE rfl hp k
theorem wp_ixor' {x y : Int32} (hE : aCode mi pc = (.ixor, n, ks, c)) (hL : aKill ks L = L') (hp : pc + n = pc') (k : Wp d mi (pc', L', vI (x ^^^ y) :: S, h) Q) : Wp d mi (pc, L, vI y :: vI x :: S, h) Q := by
  subst hp
  exact wp_go hE hL (by simp only [aStep, aBin]; rfl) k
theorem wp_ixor {x y : Int32} (hE : aCode mi pc = (.ixor, n, [], c)) (hp : pc + n = pc') (k : Wp d mi (pc', L, vI (x ^^^ y) :: S, h) Q) : Wp d mi (pc, L, vI y :: vI x :: S, h) Q := wp_ixor' hE rfl hp k
theorem wp_ishl' {x y : Int32} (hE : aCode mi pc = (.ishl, n, ks, c)) (hL : aKill ks L = L') (hp : pc + n = pc') (k : Wp d mi (pc', L', vI (x <<< (y &&& 31)) :: S, h) Q) : Wp d mi (pc, L, vI y :: vI x :: S, h) Q := by
  subst hp
  exact wp_go hE hL (by simp only [aStep, aBin]; rfl) k
theorem wp_ishl {x y : Int32} (hE : aCode mi pc = (.ishl, n, [], c)) (hp : pc + n = pc') (k : Wp d mi (pc', L, vI (x <<< (y &&& 31)) :: S, h) Q) : Wp d mi (pc, L, vI y :: vI x :: S, h) Q := wp_ishl' hE rfl hp k
theorem wp_ishr' {x y : Int32} (hE : aCode mi pc = (.ishr, n, ks, c)) (hL : aKill ks L = L') (hp : pc + n = pc') (k : Wp d mi (pc', L', vI (x >>> (y &&& 31)) :: S, h) Q) : Wp d mi (pc, L, vI y :: vI x :: S, h) Q := by
  subst hp
  exact wp_go hE hL (by simp only [aStep, aBin]; rfl) k
theorem wp_ishr {x y : Int32} (hE : aCode mi pc = (.ishr, n, [], c)) (hp : pc + n = pc') (k : Wp d mi (pc', L, vI (x >>> (y &&& 31)) :: S, h) Q) : Wp d mi (pc, L, vI y :: vI x :: S, h) Q := wp_ishr' hE rfl hp k
theorem wp_iushr' {x y : Int32} (hE : aCode mi pc = (.iushr, n, ks, c)) (hL : aKill ks L = L') (hp : pc + n = pc') (k : Wp d mi (pc', L', vI (aUshr x y) :: S, h) Q) : Wp d mi (pc, L, vI y :: vI x :: S, h) Q := by
  subst hp
  exact wp_go hE hL (by simp only [aStep, aBin]; rfl) k
theorem wp_iushr {x y : Int32} (hE : aCode mi pc = (.iushr, n, [], c)) (hp : pc + n = pc') (k : Wp d mi (pc', L, vI (aUshr x y) :: S, h) Q) : Wp d mi (pc, L, vI y :: vI x :: S, h) Q := wp_iushr' hE rfl hp k
theorem wp_idiv' {x y : Int32} (hE : aCode mi pc = (.idiv, n, ks, c)) (hL : aKill ks L = L') (hy : ¬ y = 0) (hp : pc + n = pc') (k : Wp d mi (pc', L', vI (x / y) :: S, h) Q) : Wp d mi (pc, L, vI y :: vI x :: S, h) Q := by
  subst hp
  exact wp_go hE hL (by simp only [aStep, hy, if_false]; rfl) k
theorem wp_idiv {x y : Int32} (hE : aCode mi pc = (.idiv, n, [], c)) (hy : ¬ y = 0) (hp : pc + n = pc') (k : Wp d mi (pc', L, vI (x / y) :: S, h) Q) : Wp d mi (pc, L, vI y :: vI x :: S, h) Q := wp_idiv' hE rfl hy hp k
theorem wp_irem' {x y : Int32} (hE : aCode mi pc = (.irem, n, ks, c)) (hL : aKill ks L = L') (hy : ¬ y = 0) (hp : pc + n = pc') (k : Wp d mi (pc', L', vI (aIrem x y) :: S, h) Q) : Wp d mi (pc, L, vI y :: vI x :: S, h) Q := by
  subst hp
  exact wp_go hE hL (by simp only [aStep, hy, if_false]; rfl) k
theorem wp_irem {x y : Int32} (hE : aCode mi pc = (.irem, n, [], c)) (hy : ¬ y = 0) (hp : pc + n = pc') (k : Wp d mi (pc', L, vI (aIrem x y) :: S, h) Q) : Wp d mi (pc, L, vI y :: vI x :: S, h) Q := wp_irem' hE rfl hy hp k
theorem wp_ineg' {x : Int32} (hE : aCode mi pc = (.ineg, n, ks, c)) (hL : aKill ks L = L') (hp : pc + n = pc') (k : Wp d mi (pc', L', vI (-x) :: S, h) Q) : Wp d mi (pc, L, vI x :: S, h) Q := by
  subst hp
  exact wp_go hE hL (by simp only [aStep, aUn]; rfl) k
theorem wp_ineg {x : Int32} (hE : aCode mi pc = (.ineg, n, [], c)) (hp : pc + n = pc') (k : Wp d mi (pc', L, vI (-x) :: S, h) Q) : Wp d mi (pc, L, vI x :: S, h) Q := wp_ineg' hE rfl hp k
theorem wp_i2b' {x : Int32} (hE : aCode mi pc = (.i2b, n, ks, c)) (hL : aKill ks L = L') (hp : pc + n = pc') (k : Wp d mi (pc', L', vI x.toInt8.toInt32 :: S, h) Q) : Wp d mi (pc, L, vI x :: S, h) Q := by
  subst hp
  exact wp_go hE hL (by simp only [aStep, aUn]; rfl) k
theorem wp_i2b {x : Int32} (hE : aCode mi pc = (.i2b, n, [], c)) (hp : pc + n = pc') (k : Wp d mi (pc', L, vI x.toInt8.toInt32 :: S, h) Q) : Wp d mi (pc, L, vI x :: S, h) Q := wp_i2b' hE rfl hp k
theorem wp_ladd' {x y : Int64} (hE : aCode mi pc = (.ladd, n, ks, c)) (hL : aKill ks L = L') (hp : pc + n = pc') (k : Wp d mi (pc', L', vL (x + y) :: S, h) Q) : Wp d mi (pc, L, vL y :: vL x :: S, h) Q := by
  subst hp
  exact wp_go hE hL (by simp only [aStep, aBinL]; rfl) k
theorem wp_ladd {x y : Int64} (hE : aCode mi pc = (.ladd, n, [], c)) (hp : pc + n = pc') (k : Wp d mi (pc', L, vL (x + y) :: S, h) Q) : Wp d mi (pc, L, vL y :: vL x :: S, h) Q := wp_ladd' hE rfl hp k
theorem wp_lsub' {x y : Int64} (hE : aCode mi pc = (.lsub, n, ks, c)) (hL : aKill ks L = L') (hp : pc + n = pc') (k : Wp d mi (pc', L', vL (x - y) :: S, h) Q) : Wp d mi (pc, L, vL y :: vL x :: S, h) Q := by
  subst hp
  exact wp_go hE hL (by simp only [aStep, aBinL]; rfl) k
theorem wp_lsub {x y : Int64} (hE : aCode mi pc = (.lsub, n, [], c)) (hp : pc + n = pc') (k : Wp d mi (pc', L, vL (x - y) :: S, h) Q) : Wp d mi (pc, L, vL y :: vL x :: S, h) Q := wp_lsub' hE rfl hp k
theorem wp_lmul' {x y : Int64} (hE : aCode mi pc = (.lmul, n, ks, c)) (hL : aKill ks L = L') (hp : pc + n = pc') (k : Wp d mi (pc', L', vL (x * y) :: S, h) Q) : Wp d mi (pc, L, vL y :: vL x :: S, h) Q := by
  subst hp
  exact wp_go hE hL (by simp only [aStep, aBinL]; rfl) k
theorem wp_lmul {x y : Int64} (hE : aCode mi pc = (.lmul, n, [], c)) (hp : pc + n = pc') (k : Wp d mi (pc', L, vL (x * y) :: S, h) Q) : Wp d mi (pc, L, vL y :: vL x :: S, h) Q := wp_lmul' hE rfl hp k
theorem wp_lor' {x y : Int64} (hE : aCode mi pc = (.lor, n, ks, c)) (hL : aKill ks L = L') (hp : pc + n = pc') (k : Wp d mi (pc', L', vL (x ||| y) :: S, h) Q) : Wp d mi (pc, L, vL y :: vL x :: S, h) Q := by
  subst hp
  exact wp_go hE hL (by simp only [aStep, aBinL]; rfl) k
theorem wp_lor {x y : Int64} (hE : aCode mi pc = (.lor, n, [], c)) (hp : pc + n = pc') (k : Wp d mi (pc', L, vL (x ||| y) :: S, h) Q) : Wp d mi (pc, L, vL y :: vL x :: S, h) Q := wp_lor' hE rfl hp k
theorem wp_ldiv' {x y : Int64} (hE : aCode mi pc = (.ldiv, n, ks, c)) (hL : aKill ks L = L') (hy : ¬ y = 0) (hp : pc + n = pc') (k : Wp d mi (pc', L', vL (x / y) :: S, h) Q) : Wp d mi (pc, L, vL y :: vL x :: S, h) Q := by
  subst hp
  exact wp_go hE hL (by simp only [aStep, hy, if_false]; rfl) k
theorem wp_ldiv {x y : Int64} (hE : aCode mi pc = (.ldiv, n, [], c)) (hy : ¬ y = 0) (hp : pc + n = pc') (k : Wp d mi (pc', L, vL (x / y) :: S, h) Q) : Wp d mi (pc, L, vL y :: vL x :: S, h) Q := wp_ldiv' hE rfl hy hp k
theorem wp_lshl' {x : Int64} {y : Int32} (hE : aCode mi pc = (.lshl, n, ks, c)) (hL : aKill ks L = L') (hp : pc + n = pc') (k : Wp d mi (pc', L', vL (x <<< (y.toInt64 &&& 63)) :: S, h) Q) : Wp d mi (pc, L, vI y :: vL x :: S, h) Q := by
  subst hp
  exact wp_go hE hL (by simp only [aStep]; rfl) k
theorem wp_lshl {x : Int64} {y : Int32} (hE : aCode mi pc = (.lshl, n, [], c)) (hp : pc + n = pc') (k : Wp d mi (pc', L, vL (x <<< (y.toInt64 &&& 63)) :: S, h) Q) : Wp d mi (pc, L, vI y :: vL x :: S, h) Q := wp_lshl' hE rfl hp k
theorem wp_i2l' {x : Int32} (hE : aCode mi pc = (.i2l, n, ks, c)) (hL : aKill ks L = L') (hp : pc + n = pc') (k : Wp d mi (pc', L', vL x.toInt64 :: S, h) Q) : Wp d mi (pc, L, vI x :: S, h) Q := by
  subst hp
  exact wp_go hE hL (by simp only [aStep]; rfl) k
theorem wp_i2l {x : Int32} (hE : aCode mi pc = (.i2l, n, [], c)) (hp : pc + n = pc') (k : Wp d mi (pc', L, vL x.toInt64 :: S, h) Q) : Wp d mi (pc, L, vI x :: S, h) Q := wp_i2l' hE rfl hp k
theorem wp_l2i' {x : Int64} (hE : aCode mi pc = (.l2i, n, ks, c)) (hL : aKill ks L = L') (hp : pc + n = pc') (k : Wp d mi (pc', L', vI x.toInt32 :: S, h) Q) : Wp d mi (pc, L, vL x :: S, h) Q := by
  subst hp
  exact wp_go hE hL (by simp only [aStep]; rfl) k
theorem wp_l2i {x : Int64} (hE : aCode mi pc = (.l2i, n, [], c)) (hp : pc + n = pc') (k : Wp d mi (pc', L, vI x.toInt32 :: S, h) Q) : Wp d mi (pc, L, vL x :: S, h) Q := wp_l2i' hE rfl hp k
theorem wp_dup' {v : aV} (hE : aCode mi pc = (.dup, n, ks, c)) (hL : aKill ks L = L') (h1 : aCat1 v = true) (hp : pc + n = pc') (k : Wp d mi (pc', L', v :: v :: S, h) Q) : Wp d mi (pc, L, v :: S, h) Q := by
  subst hp
  exact wp_go hE hL (by simp only [aStep, h1, if_true]; rfl) k
theorem wp_dup {v : aV} (hE : aCode mi pc = (.dup, n, [], c)) (h1 : aCat1 v = true) (hp : pc + n = pc') (k : Wp d mi (pc', L, v :: v :: S, h) Q) : Wp d mi (pc, L, v :: S, h) Q := wp_dup' hE rfl h1 hp k
theorem wp_pop' {v : aV} (hE : aCode mi pc = (.pop, n, ks, c)) (hL : aKill ks L = L') (h1 : aCat1 v = true) (hp : pc + n = pc') (k : Wp d mi (pc', L', S, h) Q) : Wp d mi (pc, L, v :: S, h) Q := by
  subst hp
  exact wp_go hE hL (by simp only [aStep, h1, if_true]; rfl) k
theorem wp_pop {v : aV} (hE : aCode mi pc = (.pop, n, [], c)) (h1 : aCat1 v = true) (hp : pc + n = pc') (k : Wp d mi (pc', L, S, h) Q) : Wp d mi (pc, L, v :: S, h) Q := wp_pop' hE rfl h1 hp k
theorem wp_dup_x1' {v w : aV} (hE : aCode mi pc = (.dup_x1, n, ks, c)) (hL : aKill ks L = L') (h1 : aCat1 v = true) (h2 : aCat1 w = true) (hp : pc + n = pc') (k : Wp d mi (pc', L', v :: w :: v :: S, h) Q) : Wp d mi (pc, L, v :: w :: S, h) Q := by
  subst hp
  exact wp_go hE hL (by simp only [aStep, h1, h2, and_self, if_true]; rfl) k
theorem wp_dup_x1 {v w : aV} (hE : aCode mi pc = (.dup_x1, n, [], c)) (h1 : aCat1 v = true) (h2 : aCat1 w = true) (hp : pc + n = pc') (k : Wp d mi (pc', L, v :: w :: v :: S, h) Q) : Wp d mi (pc, L, v :: w :: S, h) Q := wp_dup_x1' hE rfl h1 h2 hp k
theorem wp_dup2' {v w : aV} (hE : aCode mi pc = (.dup2, n, ks, c)) (hL : aKill ks L = L') (h1 : aCat1 v = true) (h2 : aCat1 w = true) (hp : pc + n = pc') (k : Wp d mi (pc', L', v :: w :: v :: w :: S, h) Q) : Wp d mi (pc, L, v :: w :: S, h) Q := by
  subst hp
  exact wp_go hE hL (by simp only [aStep, h1, h2, and_self, if_true]; rfl) k
theorem wp_dup2 {v w : aV} (hE : aCode mi pc = (.dup2, n, [], c)) (h1 : aCat1 v = true) (h2 : aCat1 w = true) (hp : pc + n = pc') (k : Wp d mi (pc', L, v :: w :: v :: w :: S, h) Q) : Wp d mi (pc, L, v :: w :: S, h) Q := wp_dup2' hE rfl h1 h2 hp k
theorem aC_lt (x y : Int32) : aCond .lt x y = true ↔ x.toInt < y.toInt := by simp [aCond, Int32.lt_iff_toInt_lt]
theorem aC_ge (x y : Int32) : aCond .ge x y = true ↔ ¬ x.toInt < y.toInt := by simp [aCond, Int32.le_iff_toInt_le]
theorem aC_gt (x y : Int32) : aCond .gt x y = true ↔ y.toInt < x.toInt := by simp [aCond, Int32.lt_iff_toInt_lt]
theorem aC_le (x y : Int32) : aCond .le x y = true ↔ ¬ y.toInt < x.toInt := by simp [aCond, Int32.le_iff_toInt_le]
theorem aC_eq (x y : Int32) : aCond .eq x y = true ↔ x.toInt = y.toInt := by simp [aCond, Int32.toInt_inj]
theorem aC_ne (x y : Int32) : aCond .ne x y = true ↔ ¬ x.toInt = y.toInt := by simp [aCond, Int32.toInt_inj]
theorem wp_icmp_lt' {x y : Int32} {X Y : Int} {t : Int} {t' : Nat} (hE : aCode mi pc = (.if_icmp .lt t, n, ks, c)) (hL : aKill ks L = L') (hX : x.toInt = X) (hY : y.toInt = Y) (ht : t.toNat = t') (hp : pc + n = pc') (k1 : X < Y → Wp d mi (t', L', S, h) Q) (k2 : ¬ X < Y → Wp d mi (pc', L', S, h) Q) : Wp d mi (pc, L, vI y :: vI x :: S, h) Q := by
  subst hp ht
  subst hX hY
  have hc := aC_lt x y
  by_cases q : aCond .lt x y = true
  · exact wp_go hE hL (by simp only [aStep, aIf2, q, if_true]; rfl) (k1 (hc.mp q))
  · exact wp_go hE hL (by simp only [aStep, aIf2, q]; rfl) (k2 (fun w => q (hc.mpr w)))
theorem wp_icmp_lt {x y : Int32} {X Y : Int} {t : Int} {t' : Nat} (hE : aCode mi pc = (.if_icmp .lt t, n, [], c)) (hX : x.toInt = X) (hY : y.toInt = Y) (ht : t.toNat = t') (hp : pc + n = pc') (k1 : X < Y → Wp d mi (t', L, S, h) Q) (k2 : ¬ X < Y → Wp d mi (pc', L, S, h) Q) : Wp d mi (pc, L, vI y :: vI x :: S, h) Q := wp_icmp_lt' hE rfl hX hY ht hp k1 k2
theorem wp_if_lt' {x : Int32} {X : Int} {t : Int} {t' : Nat} (hE : aCode mi pc = (.ifCond .lt t, n, ks, c)) (hL : aKill ks L = L') (hX : x.toInt = X) (ht : t.toNat = t') (hp : pc + n = pc') (k1 : X < 0 → Wp d mi (t', L', S, h) Q) (k2 : ¬ X < 0 → Wp d mi (pc', L', S, h) Q) : Wp d mi (pc, L, vI x :: S, h) Q := by
  subst hp ht
  subst hX
  have z0 : (0 : Int32).toInt = 0 := rfl
  have hc := aC_lt x 0
  rw [z0] at hc
  by_cases q : aCond .lt x 0 = true
  · exact wp_go hE hL (by simp only [aStep, aIf, q, if_true]; rfl) (k1 (hc.mp q))
  · exact wp_go hE hL (by simp only [aStep, aIf, q]; rfl) (k2 (fun w => q (hc.mpr w)))
theorem wp_if_lt {x : Int32} {X : Int} {t : Int} {t' : Nat} (hE : aCode mi pc = (.ifCond .lt t, n, [], c)) (hX : x.toInt = X) (ht : t.toNat = t') (hp : pc + n = pc') (k1 : X < 0 → Wp d mi (t', L, S, h) Q) (k2 : ¬ X < 0 → Wp d mi (pc', L, S, h) Q) : Wp d mi (pc, L, vI x :: S, h) Q := wp_if_lt' hE rfl hX ht hp k1 k2
theorem wp_icmp_ge' {x y : Int32} {X Y : Int} {t : Int} {t' : Nat} (hE : aCode mi pc = (.if_icmp .ge t, n, ks, c)) (hL : aKill ks L = L') (hX : x.toInt = X) (hY : y.toInt = Y) (ht : t.toNat = t') (hp : pc + n = pc') (k1 : X < Y → Wp d mi (pc', L', S, h) Q) (k2 : ¬ X < Y → Wp d mi (t', L', S, h) Q) : Wp d mi (pc, L, vI y :: vI x :: S, h) Q := by
  subst hp ht
  subst hX hY
  have hc := aC_ge x y
  by_cases q : aCond .ge x y = true
  · exact wp_go hE hL (by simp only [aStep, aIf2, q, if_true]; rfl) (k2 (hc.mp q))
  · exact wp_go hE hL (by simp only [aStep, aIf2, q]; rfl) (k1 (Classical.byContradiction fun w => q (hc.mpr w)))
theorem wp_icmp_ge {x y : Int32} {X Y : Int} {t : Int} {t' : Nat} (hE : aCode mi pc = (.if_icmp .ge t, n, [], c)) (hX : x.toInt = X) (hY : y.toInt = Y) (ht : t.toNat = t') (hp : pc + n = pc') (k1 : X < Y → Wp d mi (pc', L, S, h) Q) (k2 : ¬ X < Y → Wp d mi (t', L, S, h) Q) : Wp d mi (pc, L, vI y :: vI x :: S, h) Q := wp_icmp_ge' hE rfl hX hY ht hp k1 k2
theorem wp_if_ge' {x : Int32} {X : Int} {t : Int} {t' : Nat} (hE : aCode mi pc = (.ifCond .ge t, n, ks, c)) (hL : aKill ks L = L') (hX : x.toInt = X) (ht : t.toNat = t') (hp : pc + n = pc') (k1 : X < 0 → Wp d mi (pc', L', S, h) Q) (k2 : ¬ X < 0 → Wp d mi (t', L', S, h) Q) : Wp d mi (pc, L, vI x :: S, h) Q := by
  subst hp ht
  subst hX
  have z0 : (0 : Int32).toInt = 0 := rfl
  have hc := aC_ge x 0
  rw [z0] at hc
  by_cases q : aCond .ge x 0 = true
  · exact wp_go hE hL (by simp only [aStep, aIf, q, if_true]; rfl) (k2 (hc.mp q))
  · exact wp_go hE hL (by simp only [aStep, aIf, q]; rfl) (k1 (Classical.byContradiction fun w => q (hc.mpr w)))
theorem wp_if_ge {x : Int32} {X : Int} {t : Int} {t' : Nat} (hE : aCode mi pc = (.ifCond .ge t, n, [], c)) (hX : x.toInt = X) (ht : t.toNat = t') (hp : pc + n = pc') (k1 : X < 0 → Wp d mi (pc', L, S, h) Q) (k2 : ¬ X < 0 → Wp d mi (t', L, S, h) Q) : Wp d mi (pc, L, vI x :: S, h) Q := wp_if_ge' hE rfl hX ht hp k1 k2
theorem wp_icmp_gt' {x y : Int32} {X Y : Int} {t : Int} {t' : Nat} (hE : aCode mi pc = (.if_icmp .gt t, n, ks, c)) (hL : aKill ks L = L') (hX : x.toInt = X) (hY : y.toInt = Y) (ht : t.toNat = t') (hp : pc + n = pc') (k1 : Y < X → Wp d mi (t', L', S, h) Q) (k2 : ¬ Y < X → Wp d mi (pc', L', S, h) Q) : Wp d mi (pc, L, vI y :: vI x :: S, h) Q := by
  subst hp ht
  subst hX hY
  have hc := aC_gt x y
  by_cases q : aCond .gt x y = true
  · exact wp_go hE hL (by simp only [aStep, aIf2, q, if_true]; rfl) (k1 (hc.mp q))
  · exact wp_go hE hL (by simp only [aStep, aIf2, q]; rfl) (k2 (fun w => q (hc.mpr w)))
theorem wp_icmp_gt {x y : Int32} {X Y : Int} {t : Int} {t' : Nat} (hE : aCode mi pc = (.if_icmp .gt t, n, [], c)) (hX : x.toInt = X) (hY : y.toInt = Y) (ht : t.toNat = t') (hp : pc + n = pc') (k1 : Y < X → Wp d mi (t', L, S, h) Q) (k2 : ¬ Y < X → Wp d mi (pc', L, S, h) Q) : Wp d mi (pc, L, vI y :: vI x :: S, h) Q := wp_icmp_gt' hE rfl hX hY ht hp k1 k2
theorem wp_if_gt' {x : Int32} {X : Int} {t : Int} {t' : Nat} (hE : aCode mi pc = (.ifCond .gt t, n, ks, c)) (hL : aKill ks L = L') (hX : x.toInt = X) (ht : t.toNat = t') (hp : pc + n = pc') (k1 : 0 < X → Wp d mi (t', L', S, h) Q) (k2 : ¬ 0 < X → Wp d mi (pc', L', S, h) Q) : Wp d mi (pc, L, vI x :: S, h) Q := by
  subst hp ht
  subst hX
  have z0 : (0 : Int32).toInt = 0 := rfl
  have hc := aC_gt x 0
  rw [z0] at hc
  by_cases q : aCond .gt x 0 = true
  · exact wp_go hE hL (by simp only [aStep, aIf, q, if_true]; rfl) (k1 (hc.mp q))
  · exact wp_go hE hL (by simp only [aStep, aIf, q]; rfl) (k2 (fun w => q (hc.mpr w)))
theorem wp_if_gt {x : Int32} {X : Int} {t : Int} {t' : Nat} (hE : aCode mi pc = (.ifCond .gt t, n, [], c)) (hX : x.toInt = X) (ht : t.toNat = t') (hp : pc + n = pc') (k1 : 0 < X → Wp d mi (t', L, S, h) Q) (k2 : ¬ 0 < X → Wp d mi (pc', L, S, h) Q) : Wp d mi (pc, L, vI x :: S, h) Q := wp_if_gt' hE rfl hX ht hp k1 k2
theorem wp_icmp_le' {x y : Int32} {X Y : Int} {t : Int} {t' : Nat} (hE : aCode mi pc = (.if_icmp .le t, n, ks, c)) (hL : aKill ks L = L') (hX : x.toInt = X) (hY : y.toInt = Y) (ht : t.toNat = t') (hp : pc + n = pc') (k1 : Y < X → Wp d mi (pc', L', S, h) Q) (k2 : ¬ Y < X → Wp d mi (t', L', S, h) Q) : Wp d mi (pc, L, vI y :: vI x :: S, h) Q := by
  subst hp ht
  subst hX hY
  have hc := aC_le x y
  by_cases q : aCond .le x y = true
  · exact wp_go hE hL (by simp only [aStep, aIf2, q, if_true]; rfl) (k2 (hc.mp q))
  · exact wp_go hE hL (by simp only [aStep, aIf2, q]; rfl) (k1 (Classical.byContradiction fun w => q (hc.mpr w)))
theorem wp_icmp_le {x y : Int32} {X Y : Int} {t : Int} {t' : Nat} (hE : aCode mi pc = (.if_icmp .le t, n, [], c)) (hX : x.toInt = X) (hY : y.toInt = Y) (ht : t.toNat = t') (hp : pc + n = pc') (k1 : Y < X → Wp d mi (pc', L, S, h) Q) (k2 : ¬ Y < X → Wp d mi (t', L, S, h) Q) : Wp d mi (pc, L, vI y :: vI x :: S, h) Q := wp_icmp_le' hE rfl hX hY ht hp k1 k2
theorem wp_if_le' {x : Int32} {X : Int} {t : Int} {t' : Nat} (hE : aCode mi pc = (.ifCond .le t, n, ks, c)) (hL : aKill ks L = L') (hX : x.toInt = X) (ht : t.toNat = t') (hp : pc + n = pc') (k1 : 0 < X → Wp d mi (pc', L', S, h) Q) (k2 : ¬ 0 < X → Wp d mi (t', L', S, h) Q) : Wp d mi (pc, L, vI x :: S, h) Q := by
  subst hp ht
  subst hX
  have z0 : (0 : Int32).toInt = 0 := rfl
  have hc := aC_le x 0
  rw [z0] at hc
  by_cases q : aCond .le x 0 = true
  · exact wp_go hE hL (by simp only [aStep, aIf, q, if_true]; rfl) (k2 (hc.mp q))
  · exact wp_go hE hL (by simp only [aStep, aIf, q]; rfl) (k1 (Classical.byContradiction fun w => q (hc.mpr w)))
theorem wp_if_le {x : Int32} {X : Int} {t : Int} {t' : Nat} (hE : aCode mi pc = (.ifCond .le t, n, [], c)) (hX : x.toInt = X) (ht : t.toNat = t') (hp : pc + n = pc') (k1 : 0 < X → Wp d mi (pc', L, S, h) Q) (k2 : ¬ 0 < X → Wp d mi (t', L, S, h) Q) : Wp d mi (pc, L, vI x :: S, h) Q := wp_if_le' hE rfl hX ht hp k1 k2
theorem wp_icmp_eq' {x y : Int32} {X Y : Int} {t : Int} {t' : Nat} (hE : aCode mi pc = (.if_icmp .eq t, n, ks, c)) (hL : aKill ks L = L') (hX : x.toInt = X) (hY : y.toInt = Y) (ht : t.toNat = t') (hp : pc + n = pc') (k1 : X = Y → Wp d mi (t', L', S, h) Q) (k2 : ¬ X = Y → Wp d mi (pc', L', S, h) Q) : Wp d mi (pc, L, vI y :: vI x :: S, h) Q := by
  subst hp ht
  subst hX hY
  have hc := aC_eq x y
  by_cases q : aCond .eq x y = true
  · exact wp_go hE hL (by simp only [aStep, aIf2, q, if_true]; rfl) (k1 (hc.mp q))
  · exact wp_go hE hL (by simp only [aStep, aIf2, q]; rfl) (k2 (fun w => q (hc.mpr w)))
theorem wp_icmp_eq {x y : Int32} {X Y : Int} {t : Int} {t' : Nat} (hE : aCode mi pc = (.if_icmp .eq t, n, [], c)) (hX : x.toInt = X) (hY : y.toInt = Y) (ht : t.toNat = t') (hp : pc + n = pc') (k1 : X = Y → Wp d mi (t', L, S, h) Q) (k2 : ¬ X = Y → Wp d mi (pc', L, S, h) Q) : Wp d mi (pc, L, vI y :: vI x :: S, h) Q := wp_icmp_eq' hE rfl hX hY ht hp k1 k2
theorem wp_if_eq' {x : Int32} {X : Int} {t : Int} {t' : Nat} (hE : aCode mi pc = (.ifCond .eq t, n, ks, c)) (hL : aKill ks L = L') (hX : x.toInt = X) (ht : t.toNat = t') (hp : pc + n = pc') (k1 : X = 0 → Wp d mi (t', L', S, h) Q) (k2 : ¬ X = 0 → Wp d mi (pc', L', S, h) Q) : Wp d mi (pc, L, vI x :: S, h) Q := by
  subst hp ht
  subst hX
  have z0 : (0 : Int32).toInt = 0 := rfl
  have hc := aC_eq x 0
  rw [z0] at hc
  by_cases q : aCond .eq x 0 = true
  · exact wp_go hE hL (by simp only [aStep, aIf, q, if_true]; rfl) (k1 (hc.mp q))
  · exact wp_go hE hL (by simp only [aStep, aIf, q]; rfl) (k2 (fun w => q (hc.mpr w)))
theorem wp_if_eq {x : Int32} {X : Int} {t : Int} {t' : Nat} (hE : aCode mi pc = (.ifCond .eq t, n, [], c)) (hX : x.toInt = X) (ht : t.toNat = t') (hp : pc + n = pc') (k1 : X = 0 → Wp d mi (t', L, S, h) Q) (k2 : ¬ X = 0 → Wp d mi (pc', L, S, h) Q) : Wp d mi (pc, L, vI x :: S, h) Q := wp_if_eq' hE rfl hX ht hp k1 k2
theorem wp_icmp_ne' {x y : Int32} {X Y : Int} {t : Int} {t' : Nat} (hE : aCode mi pc = (.if_icmp .ne t, n, ks, c)) (hL : aKill ks L = L') (hX : x.toInt = X) (hY : y.toInt = Y) (ht : t.toNat = t') (hp : pc + n = pc') (k1 : X = Y → Wp d mi (pc', L', S, h) Q) (k2 : ¬ X = Y → Wp d mi (t', L', S, h) Q) : Wp d mi (pc, L, vI y :: vI x :: S, h) Q := by
  subst hp ht
  subst hX hY
  have hc := aC_ne x y
  by_cases q : aCond .ne x y = true
  · exact wp_go hE hL (by simp only [aStep, aIf2, q, if_true]; rfl) (k2 (hc.mp q))
  · exact wp_go hE hL (by simp only [aStep, aIf2, q]; rfl) (k1 (Classical.byContradiction fun w => q (hc.mpr w)))
theorem wp_icmp_ne {x y : Int32} {X Y : Int} {t : Int} {t' : Nat} (hE : aCode mi pc = (.if_icmp .ne t, n, [], c)) (hX : x.toInt = X) (hY : y.toInt = Y) (ht : t.toNat = t') (hp : pc + n = pc') (k1 : X = Y → Wp d mi (pc', L, S, h) Q) (k2 : ¬ X = Y → Wp d mi (t', L, S, h) Q) : Wp d mi (pc, L, vI y :: vI x :: S, h) Q := wp_icmp_ne' hE rfl hX hY ht hp k1 k2
theorem wp_if_ne' {x : Int32} {X : Int} {t : Int} {t' : Nat} (hE : aCode mi pc = (.ifCond .ne t, n, ks, c)) (hL : aKill ks L = L') (hX : x.toInt = X) (ht : t.toNat = t') (hp : pc + n = pc') (k1 : X = 0 → Wp d mi (pc', L', S, h) Q) (k2 : ¬ X = 0 → Wp d mi (t', L', S, h) Q) : Wp d mi (pc, L, vI x :: S, h) Q := by
  subst hp ht
  subst hX
  have z0 : (0 : Int32).toInt = 0 := rfl
  have hc := aC_ne x 0
  rw [z0] at hc
  by_cases q : aCond .ne x 0 = true
  · exact wp_go hE hL (by simp only [aStep, aIf, q, if_true]; rfl) (k2 (hc.mp q))
  · exact wp_go hE hL (by simp only [aStep, aIf, q]; rfl) (k1 (Classical.byContradiction fun w => q (hc.mpr w)))
theorem wp_if_ne {x : Int32} {X : Int} {t : Int} {t' : Nat} (hE : aCode mi pc = (.ifCond .ne t, n, [], c)) (hX : x.toInt = X) (ht : t.toNat = t') (hp : pc + n = pc') (k1 : X = 0 → Wp d mi (pc', L, S, h) Q) (k2 : ¬ X = 0 → Wp d mi (t', L, S, h) Q) : Wp d mi (pc, L, vI x :: S, h) Q := wp_if_ne' hE rfl hX ht hp k1 k2
theorem aL_lt (x y : Int64) : aCond .lt (aLcmp x y) 0 = true ↔ x.toInt < y.toInt := by
  rw [← Int64.lt_iff_toInt_lt]
  unfold aLcmp
  split
  · rename_i h; simp [h]; decide
  · rename_i h; split <;> simp [h] <;> decide
theorem aL_gt (x y : Int64) : aCond .gt (aLcmp x y) 0 = true ↔ y.toInt < x.toInt := by
  rw [← Int64.lt_iff_toInt_lt]
  unfold aLcmp
  split
  · rename_i h
    have : ¬ y < x := fun w => by rw [Int64.lt_iff_toInt_lt] at h w; omega
    simp [this]; decide
  · rename_i h
    split
    · rename_i e
      have : ¬ y < x := fun w => by rw [e, Int64.lt_iff_toInt_lt] at w; omega
      simp [this]; decide
    · rename_i e
      have : y < x := by
        rw [Int64.lt_iff_toInt_lt] at h ⊢
        have : x.toInt ≠ y.toInt := fun w => e (Int64.toInt_inj.mp w)
        omega
      simp [this]; decide
theorem aL_eq (x y : Int64) : aCond .eq (aLcmp x y) 0 = true ↔ x.toInt = y.toInt := by
  rw [Int64.toInt_inj]
  unfold aLcmp
  split
  · rename_i h
    have : ¬ x = y := fun w => by rw [w, Int64.lt_iff_toInt_lt] at h; omega
    simp [this]; decide
  · split
    · rename_i e; simp [e]; decide
    · rename_i e; simp [e]; decide
theorem aC_not (x : Int32) : (aCond .ge x 0 = true ↔ ¬ aCond .lt x 0 = true) ∧ (aCond .le x 0 = true ↔ ¬ aCond .gt x 0 = true) ∧ (aCond .ne x 0 = true ↔ ¬ aCond .eq x 0 = true) := by
  refine ⟨?_, ?_, ?_⟩
  · rw [aC_ge, aC_lt]
  · rw [aC_le, aC_gt]
  · rw [aC_ne, aC_eq]
theorem aL_ge (x y : Int64) : aCond .ge (aLcmp x y) 0 = true ↔ ¬ x.toInt < y.toInt := by rw [(aC_not _).1, aL_lt]
theorem aL_le (x y : Int64) : aCond .le (aLcmp x y) 0 = true ↔ ¬ y.toInt < x.toInt := by rw [(aC_not _).2.1, aL_gt]
theorem aL_ne (x y : Int64) : aCond .ne (aLcmp x y) 0 = true ↔ ¬ x.toInt = y.toInt := by rw [(aC_not _).2.2, aL_eq]
theorem wp_lcmp_lt' {x y : Int64} {X Y : Int} {t : Int} {t' n2 p2 : Nat} {c2 : aV} (hE : aCode mi pc = (.lcmp, n, ks, c)) (hL : aKill ks L = L') (hp2 : pc + n = p2) (hE2 : aCode mi p2 = (.ifCond .lt t, n2, [], c2)) (hX : x.toInt = X) (hY : y.toInt = Y) (ht : t.toNat = t') (hp : p2 + n2 = pc') (k1 : X < Y → Wp d mi (t', L', S, h) Q) (k2 : ¬ X < Y → Wp d mi (pc', L', S, h) Q) : Wp d mi (pc, L, vL y :: vL x :: S, h) Q := by
  subst hp ht hX hY hp2
  have hc := aL_lt x y
  refine wp_go (cf' := (pc + n, L', vI (aLcmp x y) :: S, h)) hE hL (by simp only [aStep]; rfl) ?_
  by_cases q : aCond .lt (aLcmp x y) 0 = true
  · exact wp_go hE2 rfl (by simp only [aStep, aIf, q, if_true]; rfl) (k1 (hc.mp q))
  · exact wp_go hE2 rfl (by simp only [aStep, aIf, q]; rfl) (k2 (fun w => q (hc.mpr w)))
theorem wp_lcmp_lt {x y : Int64} {X Y : Int} {t : Int} {t' n2 p2 : Nat} {c2 : aV} (hE : aCode mi pc = (.lcmp, n, [], c)) (hp2 : pc + n = p2) (hE2 : aCode mi p2 = (.ifCond .lt t, n2, [], c2)) (hX : x.toInt = X) (hY : y.toInt = Y) (ht : t.toNat = t') (hp : p2 + n2 = pc') (k1 : X < Y → Wp d mi (t', L, S, h) Q) (k2 : ¬ X < Y → Wp d mi (pc', L, S, h) Q) : Wp d mi (pc, L, vL y :: vL x :: S, h) Q := wp_lcmp_lt' hE rfl hp2 hE2 hX hY ht hp k1 k2
theorem wp_lcmp_ge' {x y : Int64} {X Y : Int} {t : Int} {t' n2 p2 : Nat} {c2 : aV} (hE : aCode mi pc = (.lcmp, n, ks, c)) (hL : aKill ks L = L') (hp2 : pc + n = p2) (hE2 : aCode mi p2 = (.ifCond .ge t, n2, [], c2)) (hX : x.toInt = X) (hY : y.toInt = Y) (ht : t.toNat = t') (hp : p2 + n2 = pc') (k1 : X < Y → Wp d mi (pc', L', S, h) Q) (k2 : ¬ X < Y → Wp d mi (t', L', S, h) Q) : Wp d mi (pc, L, vL y :: vL x :: S, h) Q := by
  subst hp ht hX hY hp2
  have hc := aL_ge x y
  refine wp_go (cf' := (pc + n, L', vI (aLcmp x y) :: S, h)) hE hL (by simp only [aStep]; rfl) ?_
  by_cases q : aCond .ge (aLcmp x y) 0 = true
  · exact wp_go hE2 rfl (by simp only [aStep, aIf, q, if_true]; rfl) (k2 (hc.mp q))
  · exact wp_go hE2 rfl (by simp only [aStep, aIf, q]; rfl) (k1 (Classical.byContradiction fun w => q (hc.mpr w)))
theorem wp_lcmp_ge {x y : Int64} {X Y : Int} {t : Int} {t' n2 p2 : Nat} {c2 : aV} (hE : aCode mi pc = (.lcmp, n, [], c)) (hp2 : pc + n = p2) (hE2 : aCode mi p2 = (.ifCond .ge t, n2, [], c2)) (hX : x.toInt = X) (hY : y.toInt = Y) (ht : t.toNat = t') (hp : p2 + n2 = pc') (k1 : X < Y → Wp d mi (pc', L, S, h) Q) (k2 : ¬ X < Y → Wp d mi (t', L, S, h) Q) : Wp d mi (pc, L, vL y :: vL x :: S, h) Q := wp_lcmp_ge' hE rfl hp2 hE2 hX hY ht hp k1 k2
theorem wp_lcmp_gt' {x y : Int64} {X Y : Int} {t : Int} {t' n2 p2 : Nat} {c2 : aV} (hE : aCode mi pc = (.lcmp, n, ks, c)) (hL : aKill ks L = L') (hp2 : pc + n = p2) (hE2 : aCode mi p2 = (.ifCond .gt t, n2, [], c2)) (hX : x.toInt = X) (hY : y.toInt = Y) (ht : t.toNat = t') (hp : p2 + n2 = pc') (k1 : Y < X → Wp d mi (t', L', S, h) Q) (k2 : ¬ Y < X → Wp d mi (pc', L', S, h) Q) : Wp d mi (pc, L, vL y :: vL x :: S, h) Q := by
  subst hp ht hX hY hp2
  have hc := aL_gt x y
  refine wp_go (cf' := (pc + n, L', vI (aLcmp x y) :: S, h)) hE hL (by simp only [aStep]; rfl) ?_
  by_cases q : aCond .gt (aLcmp x y) 0 = true
  · exact wp_go hE2 rfl (by simp only [aStep, aIf, q, if_true]; rfl) (k1 (hc.mp q))
  · exact wp_go hE2 rfl (by simp only [aStep, aIf, q]; rfl) (k2 (fun w => q (hc.mpr w)))
theorem wp_lcmp_gt {x y : Int64} {X Y : Int} {t : Int} {t' n2 p2 : Nat} {c2 : aV} (hE : aCode mi pc = (.lcmp, n, [], c)) (hp2 : pc + n = p2) (hE2 : aCode mi p2 = (.ifCond .gt t, n2, [], c2)) (hX : x.toInt = X) (hY : y.toInt = Y) (ht : t.toNat = t') (hp : p2 + n2 = pc') (k1 : Y < X → Wp d mi (t', L, S, h) Q) (k2 : ¬ Y < X → Wp d mi (pc', L, S, h) Q) : Wp d mi (pc, L, vL y :: vL x :: S, h) Q := wp_lcmp_gt' hE rfl hp2 hE2 hX hY ht hp k1 k2
theorem wp_lcmp_le' {x y : Int64} {X Y : Int} {t : Int} {t' n2 p2 : Nat} {c2 : aV} (hE : aCode mi pc = (.lcmp, n, ks, c)) (hL : aKill ks L = L') (hp2 : pc + n = p2) (hE2 : aCode mi p2 = (.ifCond .le t, n2, [], c2)) (hX : x.toInt = X) (hY : y.toInt = Y) (ht : t.toNat = t') (hp : p2 + n2 = pc') (k1 : Y < X → Wp d mi (pc', L', S, h) Q) (k2 : ¬ Y < X → Wp d mi (t', L', S, h) Q) : Wp d mi (pc, L, vL y :: vL x :: S, h) Q := by
  subst hp ht hX hY hp2
  have hc := aL_le x y
  refine wp_go (cf' := (pc + n, L', vI (aLcmp x y) :: S, h)) hE hL (by simp only [aStep]; rfl) ?_
  by_cases q : aCond .le (aLcmp x y) 0 = true
  · exact wp_go hE2 rfl (by simp only [aStep, aIf, q, if_true]; rfl) (k2 (hc.mp q))
  · exact wp_go hE2 rfl (by simp only [aStep, aIf, q]; rfl) (k1 (Classical.byContradiction fun w => q (hc.mpr w)))
theorem wp_lcmp_le {x y : Int64} {X Y : Int} {t : Int} {t' n2 p2 : Nat} {c2 : aV} (hE : aCode mi pc = (.lcmp, n, [], c)) (hp2 : pc + n = p2) (hE2 : aCode mi p2 = (.ifCond .le t, n2, [], c2)) (hX : x.toInt = X) (hY : y.toInt = Y) (ht : t.toNat = t') (hp : p2 + n2 = pc') (k1 : Y < X → Wp d mi (pc', L, S, h) Q) (k2 : ¬ Y < X → Wp d mi (t', L, S, h) Q) : Wp d mi (pc, L, vL y :: vL x :: S, h) Q := wp_lcmp_le' hE rfl hp2 hE2 hX hY ht hp k1 k2
theorem wp_lcmp_eq' {x y : Int64} {X Y : Int} {t : Int} {t' n2 p2 : Nat} {c2 : aV} (hE : aCode mi pc = (.lcmp, n, ks, c)) (hL : aKill ks L = L') (hp2 : pc + n = p2) (hE2 : aCode mi p2 = (.ifCond .eq t, n2, [], c2)) (hX : x.toInt = X) (hY : y.toInt = Y) (ht : t.toNat = t') (hp : p2 + n2 = pc') (k1 : X = Y → Wp d mi (t', L', S, h) Q) (k2 : ¬ X = Y → Wp d mi (pc', L', S, h) Q) : Wp d mi (pc, L, vL y :: vL x :: S, h) Q := by
  subst hp ht hX hY hp2
  have hc := aL_eq x y
  refine wp_go (cf' := (pc + n, L', vI (aLcmp x y) :: S, h)) hE hL (by simp only [aStep]; rfl) ?_
  by_cases q : aCond .eq (aLcmp x y) 0 = true
  · exact wp_go hE2 rfl (by simp only [aStep, aIf, q, if_true]; rfl) (k1 (hc.mp q))
  · exact wp_go hE2 rfl (by simp only [aStep, aIf, q]; rfl) (k2 (fun w => q (hc.mpr w)))
theorem wp_lcmp_eq {x y : Int64} {X Y : Int} {t : Int} {t' n2 p2 : Nat} {c2 : aV} (hE : aCode mi pc = (.lcmp, n, [], c)) (hp2 : pc + n = p2) (hE2 : aCode mi p2 = (.ifCond .eq t, n2, [], c2)) (hX : x.toInt = X) (hY : y.toInt = Y) (ht : t.toNat = t') (hp : p2 + n2 = pc') (k1 : X = Y → Wp d mi (t', L, S, h) Q) (k2 : ¬ X = Y → Wp d mi (pc', L, S, h) Q) : Wp d mi (pc, L, vL y :: vL x :: S, h) Q := wp_lcmp_eq' hE rfl hp2 hE2 hX hY ht hp k1 k2
theorem wp_lcmp_ne' {x y : Int64} {X Y : Int} {t : Int} {t' n2 p2 : Nat} {c2 : aV} (hE : aCode mi pc = (.lcmp, n, ks, c)) (hL : aKill ks L = L') (hp2 : pc + n = p2) (hE2 : aCode mi p2 = (.ifCond .ne t, n2, [], c2)) (hX : x.toInt = X) (hY : y.toInt = Y) (ht : t.toNat = t') (hp : p2 + n2 = pc') (k1 : X = Y → Wp d mi (pc', L', S, h) Q) (k2 : ¬ X = Y → Wp d mi (t', L', S, h) Q) : Wp d mi (pc, L, vL y :: vL x :: S, h) Q := by
  subst hp ht hX hY hp2
  have hc := aL_ne x y
  refine wp_go (cf' := (pc + n, L', vI (aLcmp x y) :: S, h)) hE hL (by simp only [aStep]; rfl) ?_
  by_cases q : aCond .ne (aLcmp x y) 0 = true
  · exact wp_go hE2 rfl (by simp only [aStep, aIf, q, if_true]; rfl) (k2 (hc.mp q))
  · exact wp_go hE2 rfl (by simp only [aStep, aIf, q]; rfl) (k1 (Classical.byContradiction fun w => q (hc.mpr w)))
theorem wp_lcmp_ne {x y : Int64} {X Y : Int} {t : Int} {t' n2 p2 : Nat} {c2 : aV} (hE : aCode mi pc = (.lcmp, n, [], c)) (hp2 : pc + n = p2) (hE2 : aCode mi p2 = (.ifCond .ne t, n2, [], c2)) (hX : x.toInt = X) (hY : y.toInt = Y) (ht : t.toNat = t') (hp : p2 + n2 = pc') (k1 : X = Y → Wp d mi (pc', L, S, h) Q) (k2 : ¬ X = Y → Wp d mi (t', L, S, h) Q) : Wp d mi (pc, L, vL y :: vL x :: S, h) Q := wp_lcmp_ne' hE rfl hp2 hE2 hX hY ht hp k1 k2
theorem wp_goto' {t : Int} (hE : aCode mi pc = (.goto t, n, ks, c)) (hL : aKill ks L = L') (hp : t.toNat = pc') (k : Wp d mi (pc', L', S, h) Q) : Wp d mi (pc, L, S, h) Q := by
  subst hp
  exact wp_go hE hL (by simp only [aStep]; rfl) k
theorem wp_goto {t : Int} (hE : aCode mi pc = (.goto t, n, [], c)) (hp : t.toNat = pc') (k : Wp d mi (pc', L, S, h) Q) : Wp d mi (pc, L, S, h) Q := wp_goto' hE rfl hp k
theorem wp_ifnull' {x : Nat} {t : Int} {t' : Nat} (hE : aCode mi pc = (.ifnull t, n, ks, c)) (hL : aKill ks L = L') (ht : t.toNat = t') (hp : pc + n = pc') (k1 : x = 0 → Wp d mi (t', L', S, h) Q) (k2 : ¬ x = 0 → Wp d mi (pc', L', S, h) Q) : Wp d mi (pc, L, vR x :: S, h) Q := by
  subst hp ht
  by_cases q : x = 0
  · exact wp_go hE hL (by simp only [aStep, q, if_true]; rfl) (k1 q)
  · exact wp_go hE hL (by simp only [aStep, q, if_false]; rfl) (k2 q)
theorem wp_ifnull {x : Nat} {t : Int} {t' : Nat} (hE : aCode mi pc = (.ifnull t, n, [], c)) (ht : t.toNat = t') (hp : pc + n = pc') (k1 : x = 0 → Wp d mi (t', L, S, h) Q) (k2 : ¬ x = 0 → Wp d mi (pc', L, S, h) Q) : Wp d mi (pc, L, vR x :: S, h) Q := wp_ifnull' hE rfl ht hp k1 k2
theorem wp_ifnonnull' {x : Nat} {t : Int} {t' : Nat} (hE : aCode mi pc = (.ifnonnull t, n, ks, c)) (hL : aKill ks L = L') (ht : t.toNat = t') (hp : pc + n = pc') (k1 : x = 0 → Wp d mi (pc', L', S, h) Q) (k2 : ¬ x = 0 → Wp d mi (t', L', S, h) Q) : Wp d mi (pc, L, vR x :: S, h) Q := by
  subst hp ht
  by_cases q : x = 0
  · exact wp_go hE hL (by simp only [aStep, q, if_true]; rfl) (k1 q)
  · exact wp_go hE hL (by simp only [aStep, q, if_false]; rfl) (k2 q)
theorem wp_ifnonnull {x : Nat} {t : Int} {t' : Nat} (hE : aCode mi pc = (.ifnonnull t, n, [], c)) (ht : t.toNat = t') (hp : pc + n = pc') (k1 : x = 0 → Wp d mi (pc', L, S, h) Q) (k2 : ¬ x = 0 → Wp d mi (t', L, S, h) Q) : Wp d mi (pc, L, vR x :: S, h) Q := wp_ifnonnull' hE rfl ht hp k1 k2
theorem wp_acmp_eq' {x y : Nat} {t : Int} {t' : Nat} (hE : aCode mi pc = (.if_acmp .eq t, n, ks, c)) (hL : aKill ks L = L') (hxy : x = y ∨ ((8 ≤ x ∨ x = 0 ∨ x = 2) ∧ (8 ≤ y ∨ y = 0 ∨ y = 2))) (ht : t.toNat = t') (hp : pc + n = pc') (k1 : x = y → Wp d mi (t', L', S, h) Q) (k2 : ¬ x = y → Wp d mi (pc', L', S, h) Q) : Wp d mi (pc, L, vR y :: vR x :: S, h) Q := by
  subst hp ht
  by_cases q : x = y
  · exact wp_go hE hL (by simp only [aStep]; rw [if_pos hxy, if_pos (by simp [q])]; rfl) (k1 q)
  · exact wp_go hE hL (by simp only [aStep]; rw [if_pos hxy, if_neg (by simp [q])]; rfl) (k2 q)
theorem wp_acmp_eq {x y : Nat} {t : Int} {t' : Nat} (hE : aCode mi pc = (.if_acmp .eq t, n, [], c)) (hxy : x = y ∨ ((8 ≤ x ∨ x = 0 ∨ x = 2) ∧ (8 ≤ y ∨ y = 0 ∨ y = 2))) (ht : t.toNat = t') (hp : pc + n = pc') (k1 : x = y → Wp d mi (t', L, S, h) Q) (k2 : ¬ x = y → Wp d mi (pc', L, S, h) Q) : Wp d mi (pc, L, vR y :: vR x :: S, h) Q := wp_acmp_eq' hE rfl hxy ht hp k1 k2
theorem wp_acmp_ne' {x y : Nat} {t : Int} {t' : Nat} (hE : aCode mi pc = (.if_acmp .ne t, n, ks, c)) (hL : aKill ks L = L') (hxy : x = y ∨ ((8 ≤ x ∨ x = 0 ∨ x = 2) ∧ (8 ≤ y ∨ y = 0 ∨ y = 2))) (ht : t.toNat = t') (hp : pc + n = pc') (k1 : x = y → Wp d mi (pc', L', S, h) Q) (k2 : ¬ x = y → Wp d mi (t', L', S, h) Q) : Wp d mi (pc, L, vR y :: vR x :: S, h) Q := by
  subst hp ht
  by_cases q : x = y
  · exact wp_go hE hL (by simp only [aStep]; rw [if_pos hxy, if_neg (by simp [q])]; rfl) (k1 q)
  · exact wp_go hE hL (by simp only [aStep]; rw [if_pos hxy, if_pos (by simp [q])]; rfl) (k2 q)
theorem wp_acmp_ne {x y : Nat} {t : Int} {t' : Nat} (hE : aCode mi pc = (.if_acmp .ne t, n, [], c)) (hxy : x = y ∨ ((8 ≤ x ∨ x = 0 ∨ x = 2) ∧ (8 ≤ y ∨ y = 0 ∨ y = 2))) (ht : t.toNat = t') (hp : pc + n = pc') (k1 : x = y → Wp d mi (pc', L, S, h) Q) (k2 : ¬ x = y → Wp d mi (t', L, S, h) Q) : Wp d mi (pc, L, vR y :: vR x :: S, h) Q := wp_acmp_ne' hE rfl hxy ht hp k1 k2
theorem wp_tsw' {x : Int32} {dd lo hi : Int} {offs : Array Int} {t : Nat} (hE : aCode mi pc = (.tableswitch dd lo hi offs, n, ks, c)) (hL : aKill ks L = L') (ht : aSw dd lo hi offs x = t) (k : Wp d mi (t, L', S, h) Q) : Wp d mi (pc, L, vI x :: S, h) Q := by
  subst ht
  exact wp_go hE hL (by simp only [aStep]; rfl) k
theorem wp_tsw {x : Int32} {dd lo hi : Int} {offs : Array Int} {t : Nat} (hE : aCode mi pc = (.tableswitch dd lo hi offs, n, [], c)) (ht : aSw dd lo hi offs x = t) (k : Wp d mi (t, L, S, h) Q) : Wp d mi (pc, L, vI x :: S, h) Q := wp_tsw' hE rfl ht k
theorem wp_lsw' {x : Int32} {dd : Int} {ps : Array (Int × Int)} {t : Nat} (hE : aCode mi pc = (.lookupswitch dd ps, n, ks, c)) (hL : aKill ks L = L') (ht : aLook dd ps.toList x.toInt = t) (k : Wp d mi (t, L', S, h) Q) : Wp d mi (pc, L, vI x :: S, h) Q := by
  subst ht
  exact wp_go hE hL (by simp only [aStep]; rfl) k
theorem wp_lsw {x : Int32} {dd : Int} {ps : Array (Int × Int)} {t : Nat} (hE : aCode mi pc = (.lookupswitch dd ps, n, [], c)) (ht : aLook dd ps.toList x.toInt = t) (k : Wp d mi (t, L, S, h) Q) : Wp d mi (pc, L, vI x :: S, h) Q := wp_lsw' hE rfl ht k
theorem inB_cond {k a j : Nat} {i : Int32} (hb : inB h k a i j) : gK h a = k ∧ i.toNatClampNeg = j ∧ ¬ (i < 0 ∨ gL h a ≤ i.toNatClampNeg) := by
  obtain ⟨h1, rfl, h3, h4⟩ := hb
  have h5 : (nI j).toNatClampNeg = j := nI_clamp h4
  refine ⟨h1, h5, ?_⟩
  rw [h5]
  rintro (q | q)
  · exact nI_pos h4 q
  · omega
theorem wp_iaload' {a j : Nat} {i : Int32} (hE : aCode mi pc = (.iaload, n, ks, c)) (hL : aKill ks L = L') (hb : inB h 100 a i j) (hp : pc + n = pc') (k : Wp d mi (pc', L', vI (gI h a j) :: S, h) Q) : Wp d mi (pc, L, vI i :: vR a :: S, h) Q := by
  subst hp
  obtain ⟨h1, h2, h3⟩ := inB_cond hb
  rw [h2] at h3
  refine wp_go hE hL ?_ k
  simp only [aStep, aLdI]
  rw [h2, if_pos (by first | exact ⟨by rw [h1]; rfl, h3⟩ | exact ⟨h1, h3⟩ | exact ⟨ho, h1, h3⟩ | exact ⟨ho, Or.inl h1, h3⟩ | exact ⟨ho, Or.inr h1, h3⟩)]
  first | rfl | (rw [h1]; rfl)
theorem wp_iaload {a j : Nat} {i : Int32} (hE : aCode mi pc = (.iaload, n, [], c)) (hb : inB h 100 a i j) (hp : pc + n = pc') (k : Wp d mi (pc', L, vI (gI h a j) :: S, h) Q) : Wp d mi (pc, L, vI i :: vR a :: S, h) Q := wp_iaload' hE rfl hb hp k
theorem wp_saload' {a j : Nat} {i : Int32} (hE : aCode mi pc = (.iaload, n, ks, c)) (hL : aKill ks L = L') (hb : inB h 105 a i j) (hp : pc + n = pc') (k : Wp d mi (pc', L', vI (gI h a j) :: S, h) Q) : Wp d mi (pc, L, vI i :: vR a :: S, h) Q := by
  subst hp
  obtain ⟨h1, h2, h3⟩ := inB_cond hb
  rw [h2] at h3
  refine wp_go hE hL ?_ k
  simp only [aStep, aLdI]
  rw [h2, if_pos (by first | exact ⟨by rw [h1]; rfl, h3⟩ | exact ⟨h1, h3⟩ | exact ⟨ho, h1, h3⟩ | exact ⟨ho, Or.inl h1, h3⟩ | exact ⟨ho, Or.inr h1, h3⟩)]
  first | rfl | (rw [h1]; rfl)
theorem wp_saload {a j : Nat} {i : Int32} (hE : aCode mi pc = (.iaload, n, [], c)) (hb : inB h 105 a i j) (hp : pc + n = pc') (k : Wp d mi (pc', L, vI (gI h a j) :: S, h) Q) : Wp d mi (pc, L, vI i :: vR a :: S, h) Q := wp_saload' hE rfl hb hp k
theorem wp_zaload' {a j : Nat} {i : Int32} (hE : aCode mi pc = (.baload, n, ks, c)) (hL : aKill ks L = L') (hb : inB h 102 a i j) (hp : pc + n = pc') (k : Wp d mi (pc', L', vI (gI h a j) :: S, h) Q) : Wp d mi (pc, L, vI i :: vR a :: S, h) Q := by
  subst hp
  obtain ⟨h1, h2, h3⟩ := inB_cond hb
  rw [h2] at h3
  refine wp_go hE hL ?_ k
  simp only [aStep, aLdI]
  rw [h2, if_pos (by first | exact ⟨by rw [h1]; rfl, h3⟩ | exact ⟨h1, h3⟩ | exact ⟨ho, h1, h3⟩ | exact ⟨ho, Or.inl h1, h3⟩ | exact ⟨ho, Or.inr h1, h3⟩)]
  first | rfl | (rw [h1]; rfl)
theorem wp_zaload {a j : Nat} {i : Int32} (hE : aCode mi pc = (.baload, n, [], c)) (hb : inB h 102 a i j) (hp : pc + n = pc') (k : Wp d mi (pc', L, vI (gI h a j) :: S, h) Q) : Wp d mi (pc, L, vI i :: vR a :: S, h) Q := wp_zaload' hE rfl hb hp k
theorem wp_baload' {a j : Nat} {i : Int32} (hE : aCode mi pc = (.baload, n, ks, c)) (hL : aKill ks L = L') (hb : inB h 103 a i j) (hp : pc + n = pc') (k : Wp d mi (pc', L', vI (gI h a j) :: S, h) Q) : Wp d mi (pc, L, vI i :: vR a :: S, h) Q := by
  subst hp
  obtain ⟨h1, h2, h3⟩ := inB_cond hb
  rw [h2] at h3
  refine wp_go hE hL ?_ k
  simp only [aStep, aLdI]
  rw [h2, if_pos (by first | exact ⟨by rw [h1]; rfl, h3⟩ | exact ⟨h1, h3⟩ | exact ⟨ho, h1, h3⟩ | exact ⟨ho, Or.inl h1, h3⟩ | exact ⟨ho, Or.inr h1, h3⟩)]
  first | rfl | (rw [h1]; rfl)
theorem wp_baload {a j : Nat} {i : Int32} (hE : aCode mi pc = (.baload, n, [], c)) (hb : inB h 103 a i j) (hp : pc + n = pc') (k : Wp d mi (pc', L, vI (gI h a j) :: S, h) Q) : Wp d mi (pc, L, vI i :: vR a :: S, h) Q := wp_baload' hE rfl hb hp k
theorem wp_laload' {a j : Nat} {i : Int32} (hE : aCode mi pc = (.laload, n, ks, c)) (hL : aKill ks L = L') (hb : inB h 101 a i j) (hp : pc + n = pc') (k : Wp d mi (pc', L', vL (gJ h a j) :: S, h) Q) : Wp d mi (pc, L, vI i :: vR a :: S, h) Q := by
  subst hp
  obtain ⟨h1, h2, h3⟩ := inB_cond hb
  rw [h2] at h3
  refine wp_go hE hL ?_ k
  simp only [aStep]
  rw [h2, if_pos (by first | exact ⟨by rw [h1]; rfl, h3⟩ | exact ⟨h1, h3⟩ | exact ⟨ho, h1, h3⟩ | exact ⟨ho, Or.inl h1, h3⟩ | exact ⟨ho, Or.inr h1, h3⟩)]
  first | rfl | (rw [h1]; rfl)
theorem wp_laload {a j : Nat} {i : Int32} (hE : aCode mi pc = (.laload, n, [], c)) (hb : inB h 101 a i j) (hp : pc + n = pc') (k : Wp d mi (pc', L, vL (gJ h a j) :: S, h) Q) : Wp d mi (pc, L, vI i :: vR a :: S, h) Q := wp_laload' hE rfl hb hp k
theorem wp_aaload' {a j : Nat} {i : Int32} (hE : aCode mi pc = (.aaload, n, ks, c)) (hL : aKill ks L = L') (hb : inB h 104 a i j) (hp : pc + n = pc') (k : Wp d mi (pc', L', vR (gR h a j) :: S, h) Q) : Wp d mi (pc, L, vI i :: vR a :: S, h) Q := by
  subst hp
  obtain ⟨h1, h2, h3⟩ := inB_cond hb
  rw [h2] at h3
  refine wp_go hE hL ?_ k
  simp only [aStep]
  rw [h2, if_pos (by first | exact ⟨by rw [h1]; rfl, h3⟩ | exact ⟨h1, h3⟩ | exact ⟨ho, h1, h3⟩ | exact ⟨ho, Or.inl h1, h3⟩ | exact ⟨ho, Or.inr h1, h3⟩)]
  first | rfl | (rw [h1]; rfl)
theorem wp_aaload {a j : Nat} {i : Int32} (hE : aCode mi pc = (.aaload, n, [], c)) (hb : inB h 104 a i j) (hp : pc + n = pc') (k : Wp d mi (pc', L, vR (gR h a j) :: S, h) Q) : Wp d mi (pc, L, vI i :: vR a :: S, h) Q := wp_aaload' hE rfl hb hp k
theorem wp_iastore' {a j : Nat} {i x : Int32} (hE : aCode mi pc = (.iastore, n, ks, c)) (hL : aKill ks L = L') (ho : 8 ≤ a) (hb : inB h 100 a i j) (hp : pc + n = pc') (k : Wp d mi (pc', L', S, pI h a j x) Q) : Wp d mi (pc, L, vI x :: vI i :: vR a :: S, h) Q := by
  subst hp
  obtain ⟨h1, h2, h3⟩ := inB_cond hb
  rw [h2] at h3
  refine wp_go hE hL ?_ k
  simp only [aStep, aStI]
  rw [h2, if_pos (by first | exact ⟨by rw [h1]; rfl, h3⟩ | exact ⟨h1, h3⟩ | exact ⟨ho, h1, h3⟩ | exact ⟨ho, Or.inl h1, h3⟩ | exact ⟨ho, Or.inr h1, h3⟩)]
  first | rfl | (rw [h1]; rfl)
theorem wp_iastore {a j : Nat} {i x : Int32} (hE : aCode mi pc = (.iastore, n, [], c)) (ho : 8 ≤ a) (hb : inB h 100 a i j) (hp : pc + n = pc') (k : Wp d mi (pc', L, S, pI h a j x) Q) : Wp d mi (pc, L, vI x :: vI i :: vR a :: S, h) Q := wp_iastore' hE rfl ho hb hp k
theorem wp_zastore' {a j : Nat} {i x : Int32} (hE : aCode mi pc = (.bastore, n, ks, c)) (hL : aKill ks L = L') (ho : 8 ≤ a) (hb : inB h 102 a i j) (hp : pc + n = pc') (k : Wp d mi (pc', L', S, pI h a j (x &&& 1)) Q) : Wp d mi (pc, L, vI x :: vI i :: vR a :: S, h) Q := by
  subst hp
  obtain ⟨h1, h2, h3⟩ := inB_cond hb
  rw [h2] at h3
  refine wp_go hE hL ?_ k
  simp only [aStep]
  rw [h2, if_pos (by first | exact ⟨by rw [h1]; rfl, h3⟩ | exact ⟨h1, h3⟩ | exact ⟨ho, h1, h3⟩ | exact ⟨ho, Or.inl h1, h3⟩ | exact ⟨ho, Or.inr h1, h3⟩)]
  first | rfl | (rw [h1]; rfl)
theorem wp_zastore {a j : Nat} {i x : Int32} (hE : aCode mi pc = (.bastore, n, [], c)) (ho : 8 ≤ a) (hb : inB h 102 a i j) (hp : pc + n = pc') (k : Wp d mi (pc', L, S, pI h a j (x &&& 1)) Q) : Wp d mi (pc, L, vI x :: vI i :: vR a :: S, h) Q := wp_zastore' hE rfl ho hb hp k
theorem wp_bastore' {a j : Nat} {i x : Int32} (hE : aCode mi pc = (.bastore, n, ks, c)) (hL : aKill ks L = L') (ho : 8 ≤ a) (hb : inB h 103 a i j) (hp : pc + n = pc') (k : Wp d mi (pc', L', S, pI h a j x.toInt8.toInt32) Q) : Wp d mi (pc, L, vI x :: vI i :: vR a :: S, h) Q := by
  subst hp
  obtain ⟨h1, h2, h3⟩ := inB_cond hb
  rw [h2] at h3
  refine wp_go hE hL ?_ k
  simp only [aStep]
  rw [h2, if_pos (by first | exact ⟨by rw [h1]; rfl, h3⟩ | exact ⟨h1, h3⟩ | exact ⟨ho, h1, h3⟩ | exact ⟨ho, Or.inl h1, h3⟩ | exact ⟨ho, Or.inr h1, h3⟩)]
  first | rfl | (rw [h1]; rfl)
theorem wp_bastore {a j : Nat} {i x : Int32} (hE : aCode mi pc = (.bastore, n, [], c)) (ho : 8 ≤ a) (hb : inB h 103 a i j) (hp : pc + n = pc') (k : Wp d mi (pc', L, S, pI h a j x.toInt8.toInt32) Q) : Wp d mi (pc, L, vI x :: vI i :: vR a :: S, h) Q := wp_bastore' hE rfl ho hb hp k
theorem wp_lastore' {a j : Nat} {i : Int32} {x : Int64} (hE : aCode mi pc = (.lastore, n, ks, c)) (hL : aKill ks L = L') (ho : 8 ≤ a) (hb : inB h 101 a i j) (hp : pc + n = pc') (k : Wp d mi (pc', L', S, pJ h a j x) Q) : Wp d mi (pc, L, vL x :: vI i :: vR a :: S, h) Q := by
  subst hp
  obtain ⟨h1, h2, h3⟩ := inB_cond hb
  rw [h2] at h3
  refine wp_go hE hL ?_ k
  simp only [aStep]
  rw [h2, if_pos (by first | exact ⟨by rw [h1]; rfl, h3⟩ | exact ⟨h1, h3⟩ | exact ⟨ho, h1, h3⟩ | exact ⟨ho, Or.inl h1, h3⟩ | exact ⟨ho, Or.inr h1, h3⟩)]
  first | rfl | (rw [h1]; rfl)
theorem wp_lastore {a j : Nat} {i : Int32} {x : Int64} (hE : aCode mi pc = (.lastore, n, [], c)) (ho : 8 ≤ a) (hb : inB h 101 a i j) (hp : pc + n = pc') (k : Wp d mi (pc', L, S, pJ h a j x) Q) : Wp d mi (pc, L, vL x :: vI i :: vR a :: S, h) Q := wp_lastore' hE rfl ho hb hp k
theorem wp_aastore' {a j x : Nat} {i : Int32} (hE : aCode mi pc = (.aastore, n, ks, c)) (hL : aKill ks L = L') (ho : 8 ≤ a) (hx : 8 ≤ x ∧ 0 < gK h x ∧ gK h x < 15 ∧ gK h x ≠ 13) (hb : inB h 104 a i j) (hp : pc + n = pc') (k : Wp d mi (pc', L', S, pR h a j x) Q) : Wp d mi (pc, L, vR x :: vI i :: vR a :: S, h) Q := by
  subst hp
  obtain ⟨h1, h2, h3⟩ := inB_cond hb
  rw [h2] at h3
  refine wp_go hE hL ?_ k
  simp only [aStep]
  rw [h2, if_pos ⟨ho, hx.1, hx.2.1, hx.2.2.1, hx.2.2.2, h1, h3⟩]
  rfl
theorem wp_aastore {a j x : Nat} {i : Int32} (hE : aCode mi pc = (.aastore, n, [], c)) (ho : 8 ≤ a) (hx : 8 ≤ x ∧ 0 < gK h x ∧ gK h x < 15 ∧ gK h x ≠ 13) (hb : inB h 104 a i j) (hp : pc + n = pc') (k : Wp d mi (pc', L, S, pR h a j x) Q) : Wp d mi (pc, L, vR x :: vI i :: vR a :: S, h) Q := wp_aastore' hE rfl ho hx hb hp k
theorem wp_alen' {a : Nat} (hE : aCode mi pc = (.arraylength, n, ks, c)) (hL : aKill ks L = L') (hk : 100 ≤ gK h a ∧ gK h a ≤ 106) (hp : pc + n = pc') (k : Wp d mi (pc', L', vI (nI (gL h a)) :: S, h) Q) : Wp d mi (pc, L, vR a :: S, h) Q := by
  subst hp
  exact wp_go hE hL (by simp only [aStep, hk, and_self, if_true]; rfl) k
theorem wp_alen {a : Nat} (hE : aCode mi pc = (.arraylength, n, [], c)) (hk : 100 ≤ gK h a ∧ gK h a ≤ 106) (hp : pc + n = pc') (k : Wp d mi (pc', L, vI (nI (gL h a)) :: S, h) Q) : Wp d mi (pc, L, vR a :: S, h) Q := wp_alen' hE rfl hk hp k
theorem aNn0 {j : Nat} {x : Int32} (hx : x = nI j) (hj : j ≤ 1000000) : ¬ x < 0 ∧ x.toNatClampNeg = j := by
  subst hx
  exact ⟨nI_pos (by omega), nI_clamp (by omega)⟩
theorem wp_new' {i kk nn : Nat} (hE : aCode mi pc = (.new i, n, ks, c)) (hL : aKill ks L = L') (hk : i / 100 = kk) (hn : i % 100 = nn) (hp : pc + n = pc') (k : Wp d mi (pc', L', vR (gN h) :: S, gNew h kk nn) Q) : Wp d mi (pc, L, S, h) Q := by
  subst hp hk hn
  exact wp_go hE hL (by simp only [aStep]; rfl) k
theorem wp_new {i kk nn : Nat} (hE : aCode mi pc = (.new i, n, [], c)) (hk : i / 100 = kk) (hn : i % 100 = nn) (hp : pc + n = pc') (k : Wp d mi (pc', L, vR (gN h) :: S, gNew h kk nn) Q) : Wp d mi (pc, L, S, h) Q := wp_new' hE rfl hk hn hp k
theorem wp_newI' {j : Nat} {x : Int32} (hE : aCode mi pc = (.newarray .int, n, ks, c)) (hL : aKill ks L = L') (hx : x = nI j) (hj : j ≤ 1000000) (hp : pc + n = pc') (k : Wp d mi (pc', L', vR (gN h) :: S, gNew h 100 j) Q) : Wp d mi (pc, L, vI x :: S, h) Q := by
  subst hp
  obtain ⟨h1, h2⟩ := aNn0 hx hj
  refine wp_go hE hL ?_ k
  simp only [aStep, aNewA]
  rw [h2, if_pos ⟨h1, hj⟩]
  rfl
theorem wp_newI {j : Nat} {x : Int32} (hE : aCode mi pc = (.newarray .int, n, [], c)) (hx : x = nI j) (hj : j ≤ 1000000) (hp : pc + n = pc') (k : Wp d mi (pc', L, vR (gN h) :: S, gNew h 100 j) Q) : Wp d mi (pc, L, vI x :: S, h) Q := wp_newI' hE rfl hx hj hp k
theorem wp_newJ' {j : Nat} {x : Int32} (hE : aCode mi pc = (.newarray .long, n, ks, c)) (hL : aKill ks L = L') (hx : x = nI j) (hj : j ≤ 1000000) (hp : pc + n = pc') (k : Wp d mi (pc', L', vR (gN h) :: S, gNew h 101 j) Q) : Wp d mi (pc, L, vI x :: S, h) Q := by
  subst hp
  obtain ⟨h1, h2⟩ := aNn0 hx hj
  refine wp_go hE hL ?_ k
  simp only [aStep, aNewA]
  rw [h2, if_pos ⟨h1, hj⟩]
  rfl
theorem wp_newJ {j : Nat} {x : Int32} (hE : aCode mi pc = (.newarray .long, n, [], c)) (hx : x = nI j) (hj : j ≤ 1000000) (hp : pc + n = pc') (k : Wp d mi (pc', L, vR (gN h) :: S, gNew h 101 j) Q) : Wp d mi (pc, L, vI x :: S, h) Q := wp_newJ' hE rfl hx hj hp k
theorem wp_newZ' {j : Nat} {x : Int32} (hE : aCode mi pc = (.newarray .boolean, n, ks, c)) (hL : aKill ks L = L') (hx : x = nI j) (hj : j ≤ 1000000) (hp : pc + n = pc') (k : Wp d mi (pc', L', vR (gN h) :: S, gNew h 102 j) Q) : Wp d mi (pc, L, vI x :: S, h) Q := by
  subst hp
  obtain ⟨h1, h2⟩ := aNn0 hx hj
  refine wp_go hE hL ?_ k
  simp only [aStep, aNewA]
  rw [h2, if_pos ⟨h1, hj⟩]
  rfl
theorem wp_newZ {j : Nat} {x : Int32} (hE : aCode mi pc = (.newarray .boolean, n, [], c)) (hx : x = nI j) (hj : j ≤ 1000000) (hp : pc + n = pc') (k : Wp d mi (pc', L, vR (gN h) :: S, gNew h 102 j) Q) : Wp d mi (pc, L, vI x :: S, h) Q := wp_newZ' hE rfl hx hj hp k
theorem wp_newB' {j : Nat} {x : Int32} (hE : aCode mi pc = (.newarray .byte, n, ks, c)) (hL : aKill ks L = L') (hx : x = nI j) (hj : j ≤ 1000000) (hp : pc + n = pc') (k : Wp d mi (pc', L', vR (gN h) :: S, gNew h 103 j) Q) : Wp d mi (pc, L, vI x :: S, h) Q := by
  subst hp
  obtain ⟨h1, h2⟩ := aNn0 hx hj
  refine wp_go hE hL ?_ k
  simp only [aStep, aNewA]
  rw [h2, if_pos ⟨h1, hj⟩]
  rfl
theorem wp_newB {j : Nat} {x : Int32} (hE : aCode mi pc = (.newarray .byte, n, [], c)) (hx : x = nI j) (hj : j ≤ 1000000) (hp : pc + n = pc') (k : Wp d mi (pc', L, vR (gN h) :: S, gNew h 103 j) Q) : Wp d mi (pc, L, vI x :: S, h) Q := wp_newB' hE rfl hx hj hp k
theorem wp_newA' {z : Nat} {j : Nat} {x : Int32} (hE : aCode mi pc = (.anewarray z, n, ks, c)) (hL : aKill ks L = L') (hx : x = nI j) (hj : j ≤ 1000000) (hp : pc + n = pc') (k : Wp d mi (pc', L', vR (gN h) :: S, gNew h 104 j) Q) : Wp d mi (pc, L, vI x :: S, h) Q := by
  subst hp
  obtain ⟨h1, h2⟩ := aNn0 hx hj
  refine wp_go hE hL ?_ k
  simp only [aStep, aNewA]
  rw [h2, if_pos ⟨h1, hj⟩]
  rfl
theorem wp_newA {z : Nat} {j : Nat} {x : Int32} (hE : aCode mi pc = (.anewarray z, n, [], c)) (hx : x = nI j) (hj : j ≤ 1000000) (hp : pc + n = pc') (k : Wp d mi (pc', L, vR (gN h) :: S, gNew h 104 j) Q) : Wp d mi (pc, L, vI x :: S, h) Q := wp_newA' hE rfl hx hj hp k
theorem wp_getI' {a i kk f : Nat} (hE : aCode mi pc = (.getfield i, n, ks, c)) (hL : aKill ks L = L') (h1 : i / 100 = kk) (h2 : i % 100 = f) (hk : gK h a = kk) (hp : pc + n = pc') (k : Wp d mi (pc', L', vI (gI h a f) :: S, h) Q) : Wp d mi (pc, L, vR a :: S, h) Q := by
  subst hp h1 h2
  refine wp_go hE hL ?_ k
  simp only [aStep]
  rw [if_pos hk]
  rfl
theorem wp_getI {a i kk f : Nat} (hE : aCode mi pc = (.getfield i, n, [], c)) (h1 : i / 100 = kk) (h2 : i % 100 = f) (hk : gK h a = kk) (hp : pc + n = pc') (k : Wp d mi (pc', L, vI (gI h a f) :: S, h) Q) : Wp d mi (pc, L, vR a :: S, h) Q := wp_getI' hE rfl h1 h2 hk hp k
theorem wp_getJ' {a i kk f : Nat} (hE : aCode mi pc = (.fload i, n, ks, c)) (hL : aKill ks L = L') (h1 : i / 100 = kk) (h2 : i % 100 = f) (hk : gK h a = kk) (hp : pc + n = pc') (k : Wp d mi (pc', L', vL (gJ h a f) :: S, h) Q) : Wp d mi (pc, L, vR a :: S, h) Q := by
  subst hp h1 h2
  refine wp_go hE hL ?_ k
  simp only [aStep]
  rw [if_pos hk]
  rfl
theorem wp_getJ {a i kk f : Nat} (hE : aCode mi pc = (.fload i, n, [], c)) (h1 : i / 100 = kk) (h2 : i % 100 = f) (hk : gK h a = kk) (hp : pc + n = pc') (k : Wp d mi (pc', L, vL (gJ h a f) :: S, h) Q) : Wp d mi (pc, L, vR a :: S, h) Q := wp_getJ' hE rfl h1 h2 hk hp k
theorem wp_getR' {a i kk f : Nat} (hE : aCode mi pc = (.dload i, n, ks, c)) (hL : aKill ks L = L') (h1 : i / 100 = kk) (h2 : i % 100 = f) (hk : gK h a = kk) (hp : pc + n = pc') (k : Wp d mi (pc', L', vR (gR h a f) :: S, h) Q) : Wp d mi (pc, L, vR a :: S, h) Q := by
  subst hp h1 h2
  refine wp_go hE hL ?_ k
  simp only [aStep]
  rw [if_pos hk]
  rfl
theorem wp_getR {a i kk f : Nat} (hE : aCode mi pc = (.dload i, n, [], c)) (h1 : i / 100 = kk) (h2 : i % 100 = f) (hk : gK h a = kk) (hp : pc + n = pc') (k : Wp d mi (pc', L, vR (gR h a f) :: S, h) Q) : Wp d mi (pc, L, vR a :: S, h) Q := wp_getR' hE rfl h1 h2 hk hp k
theorem wp_putI' {a i kk f : Nat} {x : Int32} (hE : aCode mi pc = (.putfield i, n, ks, c)) (hL : aKill ks L = L') (h1 : i / 100 = kk) (h2 : i % 100 = f) (ho : 8 ≤ a) (hk : gK h a = kk) (hp : pc + n = pc') (k : Wp d mi (pc', L', S, pI h a f x) Q) : Wp d mi (pc, L, vI x :: vR a :: S, h) Q := by
  subst hp h1 h2
  refine wp_go hE hL ?_ k
  simp only [aStep]
  rw [if_pos ⟨ho, hk⟩]
  rfl
theorem wp_putI {a i kk f : Nat} {x : Int32} (hE : aCode mi pc = (.putfield i, n, [], c)) (h1 : i / 100 = kk) (h2 : i % 100 = f) (ho : 8 ≤ a) (hk : gK h a = kk) (hp : pc + n = pc') (k : Wp d mi (pc', L, S, pI h a f x) Q) : Wp d mi (pc, L, vI x :: vR a :: S, h) Q := wp_putI' hE rfl h1 h2 ho hk hp k
theorem wp_putZ' {a i kk f : Nat} {x : Int32} (hE : aCode mi pc = (.putstatic i, n, ks, c)) (hL : aKill ks L = L') (h1 : i / 100 = kk) (h2 : i % 100 = f) (ho : 8 ≤ a) (hk : gK h a = kk) (hz : x &&& 1 = x) (hp : pc + n = pc') (k : Wp d mi (pc', L', S, pI h a f x) Q) : Wp d mi (pc, L, vI x :: vR a :: S, h) Q := by
  subst hp h1 h2
  refine wp_go hE hL ?_ k
  simp only [aStep]
  rw [if_pos ⟨ho, hk, hz⟩]
  rfl
theorem wp_putZ {a i kk f : Nat} {x : Int32} (hE : aCode mi pc = (.putstatic i, n, [], c)) (h1 : i / 100 = kk) (h2 : i % 100 = f) (ho : 8 ≤ a) (hk : gK h a = kk) (hz : x &&& 1 = x) (hp : pc + n = pc') (k : Wp d mi (pc', L, S, pI h a f x) Q) : Wp d mi (pc, L, vI x :: vR a :: S, h) Q := wp_putZ' hE rfl h1 h2 ho hk hz hp k
theorem wp_putJ' {a i kk f : Nat} {x : Int64} (hE : aCode mi pc = (.fstore i, n, ks, c)) (hL : aKill ks L = L') (h1 : i / 100 = kk) (h2 : i % 100 = f) (ho : 8 ≤ a) (hk : gK h a = kk) (hp : pc + n = pc') (k : Wp d mi (pc', L', S, pJ h a f x) Q) : Wp d mi (pc, L, vL x :: vR a :: S, h) Q := by
  subst hp h1 h2
  refine wp_go hE hL ?_ k
  simp only [aStep]
  rw [if_pos ⟨ho, hk⟩]
  rfl
theorem wp_putJ {a i kk f : Nat} {x : Int64} (hE : aCode mi pc = (.fstore i, n, [], c)) (h1 : i / 100 = kk) (h2 : i % 100 = f) (ho : 8 ≤ a) (hk : gK h a = kk) (hp : pc + n = pc') (k : Wp d mi (pc', L, S, pJ h a f x) Q) : Wp d mi (pc, L, vL x :: vR a :: S, h) Q := wp_putJ' hE rfl h1 h2 ho hk hp k
theorem wp_putR' {a i kk f : Nat} {x : Nat} (hE : aCode mi pc = (.dstore i, n, ks, c)) (hL : aKill ks L = L') (h1 : i / 100 = kk) (h2 : i % 100 = f) (ho : 8 ≤ a) (hk : gK h a = kk) (hp : pc + n = pc') (k : Wp d mi (pc', L', S, pR h a f x) Q) : Wp d mi (pc, L, vR x :: vR a :: S, h) Q := by
  subst hp h1 h2
  refine wp_go hE hL ?_ k
  simp only [aStep]
  rw [if_pos ⟨ho, hk⟩]
  rfl
theorem wp_putR {a i kk f : Nat} {x : Nat} (hE : aCode mi pc = (.dstore i, n, [], c)) (h1 : i / 100 = kk) (h2 : i % 100 = f) (ho : 8 ≤ a) (hk : gK h a = kk) (hp : pc + n = pc') (k : Wp d mi (pc', L, S, pR h a f x) Q) : Wp d mi (pc, L, vR x :: vR a :: S, h) Q := wp_putR' hE rfl h1 h2 ho hk hp k
theorem wp_cast' {a kk : Nat} (hE : aCode mi pc = (.checkcast kk, n, ks, c)) (hL : aKill ks L = L') (hk : a = 0 ∨ gK h a = kk) (hp : pc + n = pc') (k : Wp d mi (pc', L', vR a :: S, h) Q) : Wp d mi (pc, L, vR a :: S, h) Q := by
  subst hp
  exact wp_go hE hL (by simp only [aStep, hk, if_true]; rfl) k
theorem wp_cast {a kk : Nat} (hE : aCode mi pc = (.checkcast kk, n, [], c)) (hk : a = 0 ∨ gK h a = kk) (hp : pc + n = pc') (k : Wp d mi (pc', L, vR a :: S, h) Q) : Wp d mi (pc, L, vR a :: S, h) Q := wp_cast' hE rfl hk hp k
theorem wp_obj' {a z : Nat} (hE : aCode mi pc = (.invokespecial z, n, ks, c)) (hL : aKill ks L = L') (h8 : 8 ≤ a) (hw : Nat.ble (aWt S) 8 = true) (hp : pc + n = pc') (k : Wp d mi (pc', L', S, h) Q) : Wp d mi (pc, L, vR a :: S, h) Q := by
  subst hp
  have hw := Nat.le_of_ble_eq_true hw
  exact wp_go hE hL (by simp only [aStep, h8, hw, and_self, if_true]; rfl) k
theorem wp_obj {a z : Nat} (hE : aCode mi pc = (.invokespecial z, n, [], c)) (h8 : 8 ≤ a) (hw : Nat.ble (aWt S) 8 = true) (hp : pc + n = pc') (k : Wp d mi (pc', L, S, h) Q) : Wp d mi (pc, L, vR a :: S, h) Q := wp_obj' hE rfl h8 hw hp k
theorem wp_clone' {a : Nat} (hE : aCode mi pc = (.swap, n, ks, c)) (hL : aKill ks L = L') (h8 : 8 ≤ a) (hk : gK h a = 100) (hw : Nat.ble (aWt S) 8 = true) (hp : pc + n = pc') (k : Wp d mi (pc', L', vR (gN h) :: S, gCopyI (gNew h 100 (gL h a)) a 0 (gN h) 0 (gL h a)) Q) : Wp d mi (pc, L, vR a :: S, h) Q := by
  subst hp
  have hw := Nat.le_of_ble_eq_true hw
  exact wp_go hE hL (by simp only [aStep, h8, hk, hw, and_self, if_true]; rfl) k
theorem wp_clone {a : Nat} (hE : aCode mi pc = (.swap, n, [], c)) (h8 : 8 ≤ a) (hk : gK h a = 100) (hw : Nat.ble (aWt S) 8 = true) (hp : pc + n = pc') (k : Wp d mi (pc', L, vR (gN h) :: S, gCopyI (gNew h 100 (gL h a)) a 0 (gN h) 0 (gL h a)) Q) : Wp d mi (pc, L, vR a :: S, h) Q := wp_clone' hE rfl h8 hk hw hp k
theorem wp_getC' {a z : Nat} (hE : aCode mi pc = (.instanceof z, n, ks, c)) (hL : aKill ks L = L') (h8 : 8 ≤ a) (hk : gK h a = 104) (hw : Nat.ble (aWt S) 8 = true) (hp : pc + n = pc') (k : Wp d mi (pc', L', vR 3 :: S, h) Q) : Wp d mi (pc, L, vR a :: S, h) Q := by
  subst hp
  have hw := Nat.le_of_ble_eq_true hw
  exact wp_go hE hL (by simp only [aStep, h8, hk, hw, and_self, if_true]; rfl) k
theorem wp_getC {a z : Nat} (hE : aCode mi pc = (.instanceof z, n, [], c)) (h8 : 8 ≤ a) (hk : gK h a = 104) (hw : Nat.ble (aWt S) 8 = true) (hp : pc + n = pc') (k : Wp d mi (pc', L, vR 3 :: S, h) Q) : Wp d mi (pc, L, vR a :: S, h) Q := wp_getC' hE rfl h8 hk hw hp k
/-- what System.arraycopy asks -/
def cpOK (h : aH) (a : Nat) (i : Int32) (b : Nat) (j m : Int32) (i0 j0 n0 : Nat) : Prop := 8 ≤ a ∧ 8 ≤ b ∧ a ≠ b ∧ i = nI i0 ∧ j = nI j0 ∧ m = nI n0 ∧ i0 < 2147483648 ∧ j0 < 2147483648 ∧ n0 < 2147483648 ∧ i0 + n0 ≤ gL h a ∧ j0 + n0 ≤ gL h b
theorem wp_copyI' {a b i0 j0 n0 z : Nat} {i j m : Int32} (hE : aCode mi pc = (.ret z, n, ks, c)) (hL : aKill ks L = L') (hw : Nat.ble (aWt S) 8 = true) (hc : cpOK h a i b j m i0 j0 n0) (hka : gK h a = 100) (hkb : gK h b = 100) (hp : pc + n = pc') (k : Wp d mi (pc', L', S, gCopyI h a i0 b j0 n0) Q) : Wp d mi (pc, L, vI m :: vI j :: vR b :: vI i :: vR a :: S, h) Q := by
  subst hp
  have hw := Nat.le_of_ble_eq_true hw
  obtain ⟨c1, c2, c3, rfl, rfl, rfl, c4, c5, c6, c7, c8⟩ := hc
  refine wp_go hE hL ?_ k
  simp only [aStep]
  rw [nI_clamp c4, nI_clamp c5, nI_clamp c6, if_pos ⟨hw, c1, c2, c3, nI_pos c4, nI_pos c5, nI_pos c6, c7, c8⟩, if_pos ⟨hka, hkb⟩]
  rfl
theorem wp_copyI {a b i0 j0 n0 z : Nat} {i j m : Int32} (hE : aCode mi pc = (.ret z, n, [], c)) (hw : Nat.ble (aWt S) 8 = true) (hc : cpOK h a i b j m i0 j0 n0) (hka : gK h a = 100) (hkb : gK h b = 100) (hp : pc + n = pc') (k : Wp d mi (pc', L, S, gCopyI h a i0 b j0 n0) Q) : Wp d mi (pc, L, vI m :: vI j :: vR b :: vI i :: vR a :: S, h) Q := wp_copyI' hE rfl hw hc hka hkb hp k
theorem wp_copyR' {a b i0 j0 n0 z : Nat} {i j m : Int32} (hE : aCode mi pc = (.ret z, n, ks, c)) (hL : aKill ks L = L') (hw : Nat.ble (aWt S) 8 = true) (hc : cpOK h a i b j m i0 j0 n0) (hka : gK h a = 104) (hkb : gK h b = 104) (ho : ∀ q, q < n0 → aObj h (gR h a (i0 + q)) = true) (hp : pc + n = pc') (k : Wp d mi (pc', L', S, gCopyR h a i0 b j0 n0) Q) : Wp d mi (pc, L, vI m :: vI j :: vR b :: vI i :: vR a :: S, h) Q := by
  subst hp
  have hw := Nat.le_of_ble_eq_true hw
  obtain ⟨c1, c2, c3, rfl, rfl, rfl, c4, c5, c6, c7, c8⟩ := hc
  refine wp_go hE hL ?_ k
  simp only [aStep]
  rw [nI_clamp c4, nI_clamp c5, nI_clamp c6, if_pos ⟨hw, c1, c2, c3, nI_pos c4, nI_pos c5, nI_pos c6, c7, c8⟩, if_neg (by omega), if_pos ⟨hka, hkb, List.all_eq_true.mpr fun q hq => ho q (List.mem_range.mp hq)⟩]
  rfl
theorem wp_copyR {a b i0 j0 n0 z : Nat} {i j m : Int32} (hE : aCode mi pc = (.ret z, n, [], c)) (hw : Nat.ble (aWt S) 8 = true) (hc : cpOK h a i b j m i0 j0 n0) (hka : gK h a = 104) (hkb : gK h b = 104) (ho : ∀ q, q < n0 → aObj h (gR h a (i0 + q)) = true) (hp : pc + n = pc') (k : Wp d mi (pc', L, S, gCopyR h a i0 b j0 n0) Q) : Wp d mi (pc, L, vI m :: vI j :: vR b :: vI i :: vR a :: S, h) Q := wp_copyR' hE rfl hw hc hka hkb ho hp k
theorem wp_retI {y : Int32} {K : Int32 → aH → Prop} {X : Nat → aH → Prop} (hE : aCode mi pc = (.ireturn, n, ks, c)) (hz : (aInf mi).2.2.1 = false ∨ y &&& 1 = y) (k : K y h) : Wp d mi (pc, L, [vI y], h) (RI K X) := by
  refine wp_end (r := (.inl (some (vI y)), h)) hE rfl ?_ (Or.inl ⟨y, rfl, k⟩)
  simp only [aStep]
  rw [if_neg (by rintro ⟨h1, h2⟩; rcases hz with q | q; · rw [q] at h1; cases h1
                 · exact h2 q)]
theorem wp_retL {y : Int64} {K : Int64 → aH → Prop} {X : Nat → aH → Prop} (hE : aCode mi pc = (.lreturn, n, ks, c)) (k : K y h) : Wp d mi (pc, L, [vL y], h) (RL K X) := wp_end (r := (.inl (some (vL y)), h)) hE rfl (by simp only [aStep]) (Or.inl ⟨y, rfl, k⟩)
theorem wp_retR {y : Nat} {K : Nat → aH → Prop} {X : Nat → aH → Prop} (hE : aCode mi pc = (.areturn, n, ks, c)) (k : K y h) : Wp d mi (pc, L, [vR y], h) (RR K X) := wp_end (r := (.inl (some (vR y)), h)) hE rfl (by simp only [aStep]) (Or.inl ⟨y, rfl, k⟩)
theorem wp_retV {K : aH → Prop} {X : Nat → aH → Prop} (hE : aCode mi pc = (.return_, n, ks, c)) (k : K h) : Wp d mi (pc, L, [], h) (RV K X) := wp_end (r := (.inl none, h)) hE rfl (by simp only [aStep]) (Or.inl ⟨rfl, k⟩)
theorem wp_thrI {k w : Nat} {K : Int32 → aH → Prop} {X : Nat → aH → Prop} (hE : aCode mi pc = (.multianewarray k w, n, ks, c)) (q : X k (gNew h 200 6)) : Wp d mi (pc, L, [], h) (RI K X) := wp_end (r := (.inr k, gNew h 200 6)) hE rfl (by simp only [aStep]) (Or.inr ⟨k, rfl, q⟩)
theorem wp_thrL {k w : Nat} {K : Int64 → aH → Prop} {X : Nat → aH → Prop} (hE : aCode mi pc = (.multianewarray k w, n, ks, c)) (q : X k (gNew h 200 6)) : Wp d mi (pc, L, [], h) (RL K X) := wp_end (r := (.inr k, gNew h 200 6)) hE rfl (by simp only [aStep]) (Or.inr ⟨k, rfl, q⟩)
theorem wp_thrR {k w : Nat} {K : Nat → aH → Prop} {X : Nat → aH → Prop} (hE : aCode mi pc = (.multianewarray k w, n, ks, c)) (q : X k (gNew h 200 6)) : Wp d mi (pc, L, [], h) (RR K X) := wp_end (r := (.inr k, gNew h 200 6)) hE rfl (by simp only [aStep]) (Or.inr ⟨k, rfl, q⟩)
theorem wp_thrV {k w : Nat} {K : aH → Prop} {X : Nat → aH → Prop} (hE : aCode mi pc = (.multianewarray k w, n, ks, c)) (q : X k (gNew h 200 6)) : Wp d mi (pc, L, [], h) (RV K X) := wp_end (r := (.inr k, gNew h 200 6)) hE rfl (by simp only [aStep]) (Or.inr ⟨k, rfl, q⟩)
theorem rx_I {K : Int32 → aH → Prop} {X : Nat → aH → Prop} {x : Nat} {h1 : aH} (q : X x h1) : RI K X (.inr x, h1) := Or.inr ⟨x, rfl, q⟩
theorem rx_L {K : Int64 → aH → Prop} {X : Nat → aH → Prop} {x : Nat} {h1 : aH} (q : X x h1) : RL K X (.inr x, h1) := Or.inr ⟨x, rfl, q⟩
theorem rx_R {K : Nat → aH → Prop} {X : Nat → aH → Prop} {x : Nat} {h1 : aH} (q : X x h1) : RR K X (.inr x, h1) := Or.inr ⟨x, rfl, q⟩
theorem rx_V {K : aH → Prop} {X : Nat → aH → Prop} {x : Nat} {h1 : aH} (q : X x h1) : RV K X (.inr x, h1) := Or.inr ⟨x, rfl, q⟩
theorem aKill_len (ks : List Nat) : ∀ L : List (Option aV), (aKill ks L).length = L.length := by
  unfold aKill
  induction ks with
  | nil => intro L; rfl
  | cons k ks ih => intro L; rw [List.foldl_cons, ih, List.length_set]
theorem aKill_kill (ks : List Nat) : ∀ L : List (Option aV), aKill ks (aKill ks L) = aKill ks L := by
  have hset : ∀ (ks : List Nat) (L : List (Option aV)) (i : Nat), (aKill ks L)[i]? = if i ∈ ks ∧ i < L.length then some none else L[i]? := by
    intro ks
    induction ks with
    | nil => intro L i; simp [aKill]
    | cons k ks ih =>
      intro L i
      rw [show aKill (k :: ks) L = aKill ks (L.set k none) from rfl, ih, List.length_set, List.getElem?_set]
      by_cases e : i ∈ ks ∧ i < L.length
      · rw [if_pos e, if_pos ⟨List.mem_cons_of_mem _ e.1, e.2⟩]
      · rw [if_neg e]
        by_cases q : k = i
        · subst q
          rw [if_pos rfl]
          by_cases w : k < L.length
          · rw [if_pos w, if_pos ⟨List.mem_cons_self, w⟩]
          · rw [if_neg w, if_neg (fun z => w z.2), List.getElem?_eq_none (by omega)]
        · rw [if_neg q]
          by_cases w : i ∈ k :: ks ∧ i < L.length
          · rcases List.mem_cons.mp w.1 with z | z
            · exact (q z.symm).elim
            · exact (e ⟨z, w.2⟩).elim
          · rw [if_neg w]
  intro L
  apply List.ext_getElem?
  intro i
  rw [hset, hset, aKill_len]
  split <;> rfl
theorem wp_kill {I : Instr} (hE : aCode mi pc = (I, n, ks, c)) (hL : aKill ks L = L') (k : Wp d mi (pc, L', S, h) Q) : Wp d mi (pc, L, S, h) Q := by
  obtain ⟨m, r, h1, h2⟩ := k
  refine ⟨m, r, ?_, h2⟩
  cases m with
  | zero => simp [aRun] at h1
  | succ m =>
    rw [aRun] at h1 ⊢
    have e1 : aPr.1 mi pc = (I, n, ks, c) := hE
    rw [e1] at h1 ⊢
    subst hL
    dsimp only at h1 ⊢
    rw [aKill_kill] at h1
    exact h1
end WPB
