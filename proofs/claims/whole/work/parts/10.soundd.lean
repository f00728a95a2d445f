/-! SOUNDNESS, 4: arrays, new cells, casts -/
section SN4
variable {l : Launch} {s0 : State} {a0 : Array Value} {x : Nat → Nat} {D : va_G} {Lx : Nat} {xs : Nat → Int32}
variable {p : Program} {e : Env} {R : Room} {s : State} {m : MethodId} {args : Array Value} {below : List Frame} {meth : Method} {c : Code} {Q : State → Prop} {n0 t0 mi pc : Nat} {L : List (Option aV)} {S : List aV} {h : aH}
theorem aF0.arr (F : aF0 l s0 a0 x D Lx xs) (hW : s0.WarmedH s.vm) : ArrOfT s (D.1 100) .int ∧ ArrOfT s (D.1 101) .long ∧ ArrOfT s (D.1 102) .boolean ∧ ArrOfT s (D.1 103) .byte ∧ ArrOfT s (D.1 104) (.object "java/lang/Object") :=
  ⟨arrOfT_moved hW.alike F.2.2.1.1, arrOfT_moved hW.alike F.2.2.2.1.1, arrOfT_moved hW.alike F.2.2.2.2.1.1, arrOfT_moved hW.alike F.2.2.2.2.2.1.1, arrOfT_moved hW.alike F.2.2.2.2.2.2.1.1⟩
theorem aIn {n : Nat} {i : Int32} (h : ¬ (i < 0 ∨ n ≤ i.toNatClampNeg)) (cI : ClassId) (f : Nat → Value) : ¬ (i < 0 ∨ (arrV cI n f).slots.size ≤ i.toNatClampNeg) := by rw [arrV_size]; exact h
theorem aInL {n : Nat} {i : Int32} (h : ¬ (i < 0 ∨ n ≤ i.toNatClampNeg)) : i.toNatClampNeg < n := Nat.not_le.mp fun q => h (Or.inr q)
theorem aVm (cI : ClassId) (n : Nat) (f : Nat → Value) : (arrV cI n f).vm ≠ .unknown := fun h => by cases h
theorem st_iaload (M : aMc s0 mi p s m meth c) (F : aF0 l s0 a0 x D Lx xs) {a : Nat} {i : Int32} (hk : gK h a = 100 ∨ gK h a = 105) (hin : ¬ (i < 0 ∨ gL h a ≤ i.toNatClampNeg)) (hd : decode (aMt mi).2.2.1 pc = .ok (.iaload, 1))
    (K : aG s0 x D Lx xs p l e R s m args below meth c Q n0 t0 (pc + 1, L, vI (gI h a i.toNatClampNeg) :: S, h)) : aG s0 x D Lx xs p l e R s m args below meth c Q n0 t0 (pc, L, vI i :: vR a :: S, h) := by
  obtain ⟨hx, hb, hml, hown, hW, hr, hlk, hnm⟩ := M
  intro H locs ls st hr1 hl1 hs1 hq1
  obtain ⟨v1, st, rfl, rfl, hsq0⟩ := sOK_cons hs1
  obtain ⟨v0, st, rfl, hv0, hs3⟩ := sOK_cons hsq0
  have hr1 : aRep s0.heap.size x D s0.heap Lx xs h H := hr1
  have hv0 : v0 = rv s0.heap.size x a := hv0
  rcases hk with hk | hk
  · have ho := hr1.own hk (by omega) (by omega)
    rw [rv_own ho.1] at hv0
    subst hv0
    have hc := (hr1.cell hk (by omega) (by omega)).2.1 hk
    rw [adr_own ho.1] at hc
    exact W.iald hx hb hc ((F.arr hW).1 _ _) (aVm _ _ _) (aIn hin _ _) (arrV_read _ _ (aInL hin)) rfl rfl hd (K H locs ls (_ :: st) hr1 hl1 ⟨rfl, hs3⟩ hq1)
  · have e1 := hr1.script hk
    subst e1
    obtain ⟨hX, hlt, -⟩ := F.2.2.2.2.2.2.2.1
    obtain ⟨scr, g1, g2, g3, g4, g5⟩ := hX
    have hv0 : v0 = .ref (x 1) := hv0
    subst hv0
    have hgL : gL h 1 = Lx := hr1.2.2.2.2.2.2.2.1
    rw [hgL] at hin
    have hli := aInL hin
    refine W.iald hx hb ((hr1.2.2.2.1 _ hlt).trans g1) (State.isArrayOf_alike hW.alike g2) g3 (by rw [g4]; exact hin) (g5 _ hli) rfl rfl hd ?_
    exact K H locs ls (_ :: st) hr1 hl1 ⟨by show Value.int _ = Value.int _; rw [hr1.2.2.2.2.2.2.2.2 _ hli], hs3⟩ hq1
theorem st_baload (M : aMc s0 mi p s m meth c) (F : aF0 l s0 a0 x D Lx xs) {a : Nat} {i : Int32} (hk : gK h a = 102 ∨ gK h a = 103) (hin : ¬ (i < 0 ∨ gL h a ≤ i.toNatClampNeg)) (hd : decode (aMt mi).2.2.1 pc = .ok (.baload, 1))
    (K : aG s0 x D Lx xs p l e R s m args below meth c Q n0 t0 (pc + 1, L, vI (gI h a i.toNatClampNeg) :: S, h)) : aG s0 x D Lx xs p l e R s m args below meth c Q n0 t0 (pc, L, vI i :: vR a :: S, h) := by
  obtain ⟨hx, hb, hml, hown, hW, hr, hlk, hnm⟩ := M
  intro H locs ls st hr1 hl1 hs1 hq1
  obtain ⟨v1, st, rfl, rfl, hsq0⟩ := sOK_cons hs1
  obtain ⟨v0, st, rfl, hv0, hs3⟩ := sOK_cons hsq0
  have hr1 : aRep s0.heap.size x D s0.heap Lx xs h H := hr1
  have hv0 : v0 = rv s0.heap.size x a := hv0
  rcases hk with hk | hk
  · have ho := hr1.own hk (by omega) (by omega)
    rw [rv_own ho.1] at hv0
    subst hv0
    have hc := (hr1.cell hk (by omega) (by omega)).2.2.2.1 hk
    rw [adr_own ho.1] at hc
    exact W.zald hx hb hc ((F.arr hW).2.2.1 _ _) (aVm _ _ _) (aIn hin _ _) (arrV_read _ _ (aInL hin)) rfl rfl hd (K H locs ls (_ :: st) hr1 hl1 ⟨rfl, hs3⟩ hq1)
  · have ho := hr1.own hk (by omega) (by omega)
    rw [rv_own ho.1] at hv0
    subst hv0
    have hc := (hr1.cell hk (by omega) (by omega)).2.2.2.2.1 hk
    rw [adr_own ho.1] at hc
    exact W.bald hx hb hc ((F.arr hW).2.2.2.1 _ _) (aVm _ _ _) (aIn hin _ _) (arrV_read _ _ (aInL hin)) rfl rfl hd (K H locs ls (_ :: st) hr1 hl1 ⟨rfl, hs3⟩ hq1)
theorem st_laload (M : aMc s0 mi p s m meth c) (F : aF0 l s0 a0 x D Lx xs) {a : Nat} {i : Int32} (hk : gK h a = 101) (hin : ¬ (i < 0 ∨ gL h a ≤ i.toNatClampNeg)) (hd : decode (aMt mi).2.2.1 pc = .ok (.laload, 1))
    (K : aG s0 x D Lx xs p l e R s m args below meth c Q n0 t0 (pc + 1, L, vL (gJ h a i.toNatClampNeg) :: S, h)) : aG s0 x D Lx xs p l e R s m args below meth c Q n0 t0 (pc, L, vI i :: vR a :: S, h) := by
  obtain ⟨hx, hb, hml, hown, hW, hr, hlk, hnm⟩ := M
  intro H locs ls st hr1 hl1 hs1 hq1
  obtain ⟨v1, st, rfl, rfl, hsq0⟩ := sOK_cons hs1
  obtain ⟨v0, st, rfl, hv0, hs3⟩ := sOK_cons hsq0
  have hr1 : aRep s0.heap.size x D s0.heap Lx xs h H := hr1
  have hv0 : v0 = rv s0.heap.size x a := hv0
  have ho := hr1.own hk (by omega) (by omega)
  rw [rv_own ho.1] at hv0
  subst hv0
  have hc := (hr1.cell hk (by omega) (by omega)).2.2.1 hk
  rw [adr_own ho.1] at hc
  exact W.lald hx hb hc ((F.arr hW).2.1 _ _) (aVm _ _ _) (aIn hin _ _) (arrV_read _ _ (aInL hin)) rfl rfl hd (K H locs ls (_ :: st) hr1 hl1 ⟨rfl, hs3⟩ hq1)
theorem st_aaload (M : aMc s0 mi p s m meth c) (F : aF0 l s0 a0 x D Lx xs) {a : Nat} {i : Int32} (hk : gK h a = 104) (hin : ¬ (i < 0 ∨ gL h a ≤ i.toNatClampNeg)) (hd : decode (aMt mi).2.2.1 pc = .ok (.aaload, 1))
    (K : aG s0 x D Lx xs p l e R s m args below meth c Q n0 t0 (pc + 1, L, vR (gR h a i.toNatClampNeg) :: S, h)) : aG s0 x D Lx xs p l e R s m args below meth c Q n0 t0 (pc, L, vI i :: vR a :: S, h) := by
  obtain ⟨hx, hb, hml, hown, hW, hr, hlk, hnm⟩ := M
  intro H locs ls st hr1 hl1 hs1 hq1
  obtain ⟨v1, st, rfl, rfl, hsq0⟩ := sOK_cons hs1
  obtain ⟨v0, st, rfl, hv0, hs3⟩ := sOK_cons hsq0
  have hr1 : aRep s0.heap.size x D s0.heap Lx xs h H := hr1
  have hv0 : v0 = rv s0.heap.size x a := hv0
  have ho := hr1.own hk (by omega) (by omega)
  rw [rv_own ho.1] at hv0
  subst hv0
  have hc := (hr1.cell hk (by omega) (by omega)).2.2.2.2.2.1 hk
  rw [adr_own ho.1] at hc
  exact W.aald (ty := .object "java/lang/Object") hx hb hc ((F.arr hW).2.2.2.2 _ _) rfl (aVm _ _ _) (aIn hin _ _) (arrV_read _ _ (aInL hin)) rfl rfl hd (K H locs ls (_ :: st) hr1 hl1 ⟨rfl, hs3⟩ hq1)
theorem st_alen (M : aMc s0 mi p s m meth c) (F : aF0 l s0 a0 x D Lx xs) {a : Nat} (hk : 100 ≤ gK h a ∧ gK h a ≤ 106) (hd : decode (aMt mi).2.2.1 pc = .ok (.arraylength, 1))
    (K : aG s0 x D Lx xs p l e R s m args below meth c Q n0 t0 (pc + 1, L, vI (nI (gL h a)) :: S, h)) : aG s0 x D Lx xs p l e R s m args below meth c Q n0 t0 (pc, L, vR a :: S, h) := by
  obtain ⟨hx, hb, hml, hown, hW, hr, hlk, hnm⟩ := M
  intro H locs ls st hr1 hl1 hs1 hq1
  obtain ⟨v0, st, rfl, hv0, hs3⟩ := sOK_cons hs1
  have hr1 : aRep s0.heap.size x D s0.heap Lx xs h H := hr1
  have hv0 : v0 = rv s0.heap.size x a := hv0
  have fin : ∀ {cI : ClassId} {f : Nat → Value} {ty : FieldType}, 8 ≤ a → H[adr s0.heap.size x a]? = some (arrV cI (gL h a) f) → ArrOfT s cI ty → W p l e R s m args below meth c H locs (gN h - n0) (gT h - t0) Q (F0 m pc ls (v0 :: st)) := by
    intro cI f ty ho hc hA
    rw [rv_own ho] at hv0
    subst hv0
    rw [adr_own ho] at hc
    exact W.alen hx hb hc (hA _ _) (by rw [arrV_size]; rfl) rfl rfl hd (K H locs ls (_ :: st) hr1 hl1 ⟨rfl, hs3⟩ hq1)
  have hA := F.arr hW
  rcases (show gK h a = 100 ∨ gK h a = 101 ∨ gK h a = 102 ∨ gK h a = 103 ∨ gK h a = 104 ∨ gK h a = 105 ∨ gK h a = 106 by omega) with k | k | k | k | k | k | k
  · exact fin (hr1.own k (by omega) (by omega)).1 ((hr1.cell k (by omega) (by omega)).2.1 k) hA.1
  · exact fin (hr1.own k (by omega) (by omega)).1 ((hr1.cell k (by omega) (by omega)).2.2.1 k) hA.2.1
  · exact fin (hr1.own k (by omega) (by omega)).1 ((hr1.cell k (by omega) (by omega)).2.2.2.1 k) hA.2.2.1
  · exact fin (hr1.own k (by omega) (by omega)).1 ((hr1.cell k (by omega) (by omega)).2.2.2.2.1 k) hA.2.2.2.1
  · exact fin (hr1.own k (by omega) (by omega)).1 ((hr1.cell k (by omega) (by omega)).2.2.2.2.2.1 k) hA.2.2.2.2
  · have e1 := hr1.script k
    subst e1
    obtain ⟨hX, hlt, -⟩ := F.2.2.2.2.2.2.2.1
    obtain ⟨scr, g1, g2, g3, g4, g5⟩ := hX
    have hv0 : v0 = .ref (x 1) := hv0
    subst hv0
    exact W.alen hx hb ((hr1.2.2.2.1 _ hlt).trans g1) (State.isArrayOf_alike hW.alike g2) (by rw [g4, ← hr1.2.2.2.2.2.2.2.1]; rfl) rfl rfl hd (K H locs ls (_ :: st) hr1 hl1 ⟨rfl, hs3⟩ hq1)
  · have e1 := hr1.empty k
    subst e1
    obtain ⟨-, hlt, cell, g1, g2, g3⟩ := F.2.2.2.2.2.2.2.2.1
    have hv0 : v0 = .ref (x 2) := hv0
    subst hv0
    exact W.alen hx hb ((hr1.2.2.2.1 _ hlt).trans g1) (State.isArrayOf_alike hW.alike g2) (by rw [g3, ← hr1.2.2.2.2.2.2.1]; rfl) rfl rfl hd (K H locs ls (_ :: st) hr1 hl1 ⟨rfl, hs3⟩ hq1)
/-- a store into an array: what is the same for all kinds -/
theorem aStore {a i : Nat} {h h' : aH} {H H' : Heap} {cI : ClassId} {f f' : Nat → Value} {v : Value} (hr1 : aRep s0.heap.size x D s0.heap Lx xs h H) (ho : 8 ≤ a) (hN : gN h' = gN h) (hK : ∀ r, gK h' r = gK h r) (hL : ∀ r, gL h' r = gL h r)
    (hI : ∀ r j, r ≠ a → gI h' r j = gI h r j) (hJ : ∀ r j, r ≠ a → gJ h' r j = gJ h r j) (hR : ∀ r j, r ≠ a → gR h' r j = gR h r j) (e1 : H'[s0.heap.size + (a - 8)]? = some ((arrV cI (gL h a) f).setSlot i v)) (e2 : H'.size = H.size) (e3 : ∀ q, q ≠ s0.heap.size + (a - 8) → H'[q]? = H[q]?)
    (hf : ∀ j, updV f i v j = f' j) (hc : H'[adr s0.heap.size x a]? = some (arrV cI (gL h' a) f') → aCell s0.heap.size x D h' a H') : aRep s0.heap.size x D s0.heap Lx xs h' H' := by
  refine hr1.upd ho hN hK hL hI hJ hR e2 (fun q hq => e3 q (by rw [← adr_own (x := x) ho]; exact hq)) (fun _ => hc ?_)
  rw [adr_own ho, e1, arrV_store, hL]
  rw [show updV f i v = f' from funext hf]
theorem aLocs {locs : List Loc} {a i b : Nat} (hq1 : ∀ q ∈ locs, b ≤ q.base) : ∀ q ∈ locs ++ [(⟨b + (a - 8), i⟩ : Loc)], b ≤ q.base := by
  intro q hq
  rcases List.mem_append.mp hq with w | w
  · exact hq1 q w
  · rw [List.mem_singleton.mp w]; show _ ≤ b + (a - 8); omega
theorem st_iastore (M : aMc s0 mi p s m meth c) (F : aF0 l s0 a0 x D Lx xs) {a : Nat} {i y : Int32} (hk : gK h a = 100) (hin : ¬ (i < 0 ∨ gL h a ≤ i.toNatClampNeg)) (hd : decode (aMt mi).2.2.1 pc = .ok (.iastore, 1))
    (K : aG s0 x D Lx xs p l e R s m args below meth c Q n0 t0 (pc + 1, L, S, pI h a i.toNatClampNeg y)) : aG s0 x D Lx xs p l e R s m args below meth c Q n0 t0 (pc, L, vI y :: vI i :: vR a :: S, h) := by
  obtain ⟨hx, hb, hml, hown, hW, hr, hlk, hnm⟩ := M
  intro H locs ls st hr1 hl1 hs1 hq1
  obtain ⟨v2, st, rfl, rfl, hsq0⟩ := sOK_cons hs1
  obtain ⟨v1, st, rfl, rfl, hsq1⟩ := sOK_cons hsq0
  obtain ⟨v0, st, rfl, hv0, hs3⟩ := sOK_cons hsq1
  have hr1 : aRep s0.heap.size x D s0.heap Lx xs h H := hr1
  have hv0 : v0 = rv s0.heap.size x a := hv0
  have ho := hr1.own hk (by omega) (by omega)
  rw [rv_own ho.1] at hv0
  subst hv0
  have hc := (hr1.cell hk (by omega) (by omega)).2.1 hk
  rw [adr_own ho.1] at hc
  refine W.iast hx hb hc ((F.arr hW).1 _ _) (aVm _ _ _) (aIn hin _ _) rfl rfl hd fun H' e1 e2 e3 => ?_
  refine K H' _ ls st (aStore (f' := fun j => .int (gI (pI h a i.toNatClampNeg y) a j)) hr1 ho.1 rfl (fun _ => rfl) (fun _ => rfl) (fun r j q => by rw [gI_pI, if_neg (fun w => q w.1)]) (fun _ _ _ => rfl) (fun _ _ _ => rfl) e1 e2 e3 (fun j => ?_) (fun w => ?_)) hl1 hs3 (aLocs hq1)
  · unfold updV; rw [gI_pI]
    by_cases q : j = i.toNatClampNeg
    · rw [if_pos q, if_pos ⟨rfl, q⟩]
    · rw [if_neg q, if_neg (fun w => q w.2)]
  · refine ⟨by rw [gK_pI, hk]; omega, fun _ => w, ?_, ?_, ?_, ?_, ?_⟩ <;> (intros; rw [gK_pI] at *; omega)
theorem st_lastore (M : aMc s0 mi p s m meth c) (F : aF0 l s0 a0 x D Lx xs) {a : Nat} {i : Int32} {y : Int64} (hk : gK h a = 101) (hin : ¬ (i < 0 ∨ gL h a ≤ i.toNatClampNeg)) (hd : decode (aMt mi).2.2.1 pc = .ok (.lastore, 1))
    (K : aG s0 x D Lx xs p l e R s m args below meth c Q n0 t0 (pc + 1, L, S, pJ h a i.toNatClampNeg y)) : aG s0 x D Lx xs p l e R s m args below meth c Q n0 t0 (pc, L, vL y :: vI i :: vR a :: S, h) := by
  obtain ⟨hx, hb, hml, hown, hW, hr, hlk, hnm⟩ := M
  intro H locs ls st hr1 hl1 hs1 hq1
  obtain ⟨v2, st, rfl, rfl, hsq0⟩ := sOK_cons hs1
  obtain ⟨v1, st, rfl, rfl, hsq1⟩ := sOK_cons hsq0
  obtain ⟨v0, st, rfl, hv0, hs3⟩ := sOK_cons hsq1
  have hr1 : aRep s0.heap.size x D s0.heap Lx xs h H := hr1
  have hv0 : v0 = rv s0.heap.size x a := hv0
  have ho := hr1.own hk (by omega) (by omega)
  rw [rv_own ho.1] at hv0
  subst hv0
  have hc := (hr1.cell hk (by omega) (by omega)).2.2.1 hk
  rw [adr_own ho.1] at hc
  refine W.last hx hb hc ((F.arr hW).2.1 _ _) (aVm _ _ _) (aIn hin _ _) rfl rfl hd fun H' e1 e2 e3 => ?_
  refine K H' _ ls st (aStore (f' := fun j => .long (gJ (pJ h a i.toNatClampNeg y) a j)) hr1 ho.1 rfl (fun _ => rfl) (fun _ => rfl) (fun _ _ _ => rfl) (fun r j q => by rw [gJ_pJ, if_neg (fun w => q w.1)]) (fun _ _ _ => rfl) e1 e2 e3 (fun j => ?_) (fun w => ?_)) hl1 hs3 (aLocs hq1)
  · unfold updV; rw [gJ_pJ]
    by_cases q : j = i.toNatClampNeg
    · rw [if_pos q, if_pos ⟨rfl, q⟩]
    · rw [if_neg q, if_neg (fun w => q w.2)]
  · refine ⟨by rw [gK_pJ, hk]; omega, ?_, fun _ => w, ?_, ?_, ?_, ?_⟩ <;> (intros; rw [gK_pJ] at *; omega)
theorem st_bastore (M : aMc s0 mi p s m meth c) (F : aF0 l s0 a0 x D Lx xs) {a : Nat} {i y : Int32} (hk : gK h a = 102 ∨ gK h a = 103) (hin : ¬ (i < 0 ∨ gL h a ≤ i.toNatClampNeg)) (hd : decode (aMt mi).2.2.1 pc = .ok (.bastore, 1))
    (K : aG s0 x D Lx xs p l e R s m args below meth c Q n0 t0 (pc + 1, L, S, pI h a i.toNatClampNeg (if gK h a = 102 then y &&& 1 else y.toInt8.toInt32))) : aG s0 x D Lx xs p l e R s m args below meth c Q n0 t0 (pc, L, vI y :: vI i :: vR a :: S, h) := by
  obtain ⟨hx, hb, hml, hown, hW, hr, hlk, hnm⟩ := M
  intro H locs ls st hr1 hl1 hs1 hq1
  obtain ⟨v2, st, rfl, rfl, hsq0⟩ := sOK_cons hs1
  obtain ⟨v1, st, rfl, rfl, hsq1⟩ := sOK_cons hsq0
  obtain ⟨v0, st, rfl, hv0, hs3⟩ := sOK_cons hsq1
  have hr1 : aRep s0.heap.size x D s0.heap Lx xs h H := hr1
  have hv0 : v0 = rv s0.heap.size x a := hv0
  rcases hk with hk | hk
  · have ho := hr1.own hk (by omega) (by omega)
    rw [rv_own ho.1] at hv0
    subst hv0
    have hc := (hr1.cell hk (by omega) (by omega)).2.2.2.1 hk
    rw [adr_own ho.1] at hc
    rw [if_pos hk] at K
    refine W.zast hx hb hc ((F.arr hW).2.2.1 _ _) (aVm _ _ _) (aIn hin _ _) rfl rfl hd fun H' e1 e2 e3 => ?_
    refine K H' _ ls st (aStore (f' := fun j => .int (gI (pI h a i.toNatClampNeg (y &&& 1)) a j)) hr1 ho.1 rfl (fun _ => rfl) (fun _ => rfl) (fun r j q => by rw [gI_pI, if_neg (fun w => q w.1)]) (fun _ _ _ => rfl) (fun _ _ _ => rfl) e1 e2 e3 (fun j => ?_) (fun w => ?_)) hl1 hs3 (aLocs hq1)
    · unfold updV; rw [gI_pI]
      by_cases q : j = i.toNatClampNeg
      · rw [if_pos q, if_pos ⟨rfl, q⟩]; rfl
      · rw [if_neg q, if_neg (fun w => q w.2)]
    · refine ⟨by rw [gK_pI, hk]; omega, ?_, ?_, fun _ => w, ?_, ?_, ?_⟩ <;> (intros; rw [gK_pI] at *; omega)
  · have ho := hr1.own hk (by omega) (by omega)
    rw [rv_own ho.1] at hv0
    subst hv0
    have hc := (hr1.cell hk (by omega) (by omega)).2.2.2.2.1 hk
    rw [adr_own ho.1] at hc
    rw [if_neg (by omega)] at K
    refine W.bast hx hb hc ((F.arr hW).2.2.2.1 _ _) (aVm _ _ _) (aIn hin _ _) rfl rfl hd fun H' e1 e2 e3 => ?_
    refine K H' _ ls st (aStore (f' := fun j => .int (gI (pI h a i.toNatClampNeg y.toInt8.toInt32) a j)) hr1 ho.1 rfl (fun _ => rfl) (fun _ => rfl) (fun r j q => by rw [gI_pI, if_neg (fun w => q w.1)]) (fun _ _ _ => rfl) (fun _ _ _ => rfl) e1 e2 e3 (fun j => ?_) (fun w => ?_)) hl1 hs3 (aLocs hq1)
    · unfold updV; rw [gI_pI]
      by_cases q : j = i.toNatClampNeg
      · rw [if_pos q, if_pos ⟨rfl, q⟩]; rfl
      · rw [if_neg q, if_neg (fun w => q w.2)]
    · refine ⟨by rw [gK_pI, hk]; omega, ?_, ?_, ?_, fun _ => w, ?_, ?_⟩ <;> (intros; rw [gK_pI] at *; omega)
theorem st_aastore (M : aMc s0 mi p s m meth c) (F : aF0 l s0 a0 x D Lx xs) {a y : Nat} {i : Int32} (hk : gK h a = 104) (hy1 : 0 < gK h y) (hy2 : gK h y < 99) (hy3 : gK h y ≠ 13) (hin : ¬ (i < 0 ∨ gL h a ≤ i.toNatClampNeg)) (hd : decode (aMt mi).2.2.1 pc = .ok (.aastore, 1)) (hcl : ∃ q, aCl[gK h y]? = some q)
    (K : aG s0 x D Lx xs p l e R s m args below meth c Q n0 t0 (pc + 1, L, S, pR h a i.toNatClampNeg y)) : aG s0 x D Lx xs p l e R s m args below meth c Q n0 t0 (pc, L, vR y :: vI i :: vR a :: S, h) := by
  obtain ⟨hx, hb, hml, hown, hW, hr, hlk, hnm⟩ := M
  intro H locs ls st hr1 hl1 hs1 hq1
  obtain ⟨v2, st, rfl, hv2, hsq0⟩ := sOK_cons hs1
  obtain ⟨v1, st, rfl, rfl, hsq1⟩ := sOK_cons hsq0
  obtain ⟨v0, st, rfl, hv0, hs3⟩ := sOK_cons hsq1
  have hr1 : aRep s0.heap.size x D s0.heap Lx xs h H := hr1
  have hv0 : v0 = rv s0.heap.size x a := hv0
  have hv2 : v2 = rv s0.heap.size x y := hv2
  have ho := hr1.own hk (by omega) (by omega)
  have hoy := hr1.own (a := y) rfl hy1 (by omega)
  have hrv := hv2
  rw [rv_own ho.1] at hv0
  rw [rv_own hoy.1] at hv2
  subst hv0
  subst hv2
  have hc := (hr1.cell hk (by omega) (by omega)).2.2.2.2.2.1 hk
  rw [adr_own ho.1] at hc
  obtain ⟨⟨C, T, N⟩, hC⟩ := hcl
  obtain ⟨cy, y1, y2, y3, y4⟩ := (hr1.cell (a := y) rfl hy1 (by omega)).2.2.2.2.2.2 _ hy1 hy2 hC
  rw [adr_own hoy.1] at y1
  obtain ⟨hS, hfc, kC, hkC, hkind⟩ := F.kn hy1 hC hW
  obtain ⟨kA, comp, k1, k2, k3, k4⟩ := va_RA.moved hW.alike F.2.2.2.2.2.2.1.2
  have hcast : va_Nw (.castable C "java/lang/Object") s := va_Nw.warmC hW (va_Nw.of rfl (F.1 _ ((aCl_ok hy1 hC).2.2.2.1 hy3)))
  obtain ⟨c3, c4, hc3, hc4, hasg⟩ := Cond.castable_spec (va_Nw.use (A := args) rfl hcast)
  cases Option.some.inj (hc3.symm.trans hfc)
  cases Option.some.inj (hc4.symm.trans k3)
  obtain ⟨kO, hkO, -⟩ := Vm.findClass_spec k3
  refine W.aast (t := .object "java/lang/Object") hx hb hc (fun q w => by cases w) (aVm _ _ _) k1 k2 rfl hkO ⟨fun q => hin (Or.inl q), by rw [arrV_size]; exact aInL hin⟩ y1 (fun q w => by rw [y3] at w; cases w) (by rw [y2]; exact hkC) (by rw [y2]; exact hasg) rfl rfl hd fun H' e1 e2 e3 => ?_
  refine K H' _ ls st (aStore (f' := fun j => rv s0.heap.size x (gR (pR h a i.toNatClampNeg y) a j)) hr1 ho.1 rfl (fun _ => rfl) (fun _ => rfl) (fun _ _ _ => rfl) (fun _ _ _ => rfl) (fun r j q => by rw [gR_pR, if_neg (fun w => q w.1)]) e1 e2 e3 (fun j => ?_) (fun w => ?_)) hl1 hs3 (aLocs hq1)
  · unfold updV; rw [gR_pR]
    by_cases q : j = i.toNatClampNeg
    · rw [if_pos q, if_pos ⟨rfl, q⟩, ← hrv]
    · rw [if_neg q, if_neg (fun w => q w.2)]
  · refine ⟨by rw [gK_pR, hk]; omega, ?_, ?_, ?_, ?_, fun _ => w, ?_⟩ <;> (intros; rw [gK_pR] at *; omega)
end SN4
