/-! SOUNDNESS, 8: copies by kind, returns, throws, contracts out of walks -/
section SN8
variable {l : Launch} {s0 : State} {a0 : Array Value} {x : Nat → Nat} {D : va_G} {Lx : Nat} {xs : Nat → Int32}
variable {p : Program} {e : Env} {R : Room} {s : State} {m : MethodId} {args : Array Value} {below : List Frame} {meth : Method} {c : Code} {Q : State → Prop} {n0 t0 mi pc : Nat} {L : List (Option aV)} {S : List aV} {h : aH}
theorem st_copyI (M : aMc s0 mi p s m meth c) (F : aF0 l s0 a0 x D Lx xs) {j a b9 : Nat} {i1 j1 n : Int32} (hlink : Cond.methodLink (aOw (aMt mi).2.1) j arraycopyName ∈ lw_tbl) (hka : gK h a = 100) (hkb : gK h b9 = 100)
    (h1 : ¬ i1 < 0) (h2 : ¬ j1 < 0) (h3 : ¬ n < 0) (h4 : i1.toNatClampNeg + n.toNatClampNeg ≤ gL h a) (h5 : j1.toNatClampNeg + n.toNatClampNeg ≤ gL h b9) (hw : aWt S ≤ 8) (hL9 : L.length = (aMt mi).2.2.2.1) (hf : 1 ≤ R.frames) (hl9 : 60 ≤ R.locals) (hd : decode (aMt mi).2.2.1 pc = .ok (.invokestatic j, 3))
    (K : aG s0 x D Lx xs p l e R s m args below meth c Q n0 t0 (pc + 3, L, S, gCopyI h a i1.toNatClampNeg b9 j1.toNatClampNeg n.toNatClampNeg)) : aG s0 x D Lx xs p l e R s m args below meth c Q n0 t0 (pc, L, vI n :: vI j1 :: vR b9 :: vI i1 :: vR a :: S, h) := by
  have hW := M.2.2.2.2.1
  refine st_copy M F (fun z : Int32 => Value.int z) (fun q => gI h a q) (fun q => gI h b9 q) (ty := .int) (h' := gCopyI h a i1.toNatClampNeg b9 j1.toNatClampNeg n.toNatClampNeg) hlink hka hkb (by omega) (by omega) (F.arr hW).1 (fun H r => ?_) (fun H r => ?_) (fun H r T hT kA comp _ _ vm' _ i _ => ⟨rfl, trivial⟩) h1 h2 h3 h4 h5 hw hL9 hf hl9 hd rfl rfl (fun H H' r e1 e2 e3 => ?_) K
  · have := (r.cell hka (by omega) (by omega)).2.1 hka
    rwa [adr_own (r.own hka (by omega) (by omega)).1] at this
  · have := (r.cell hkb (by omega) (by omega)).2.1 hkb
    rwa [adr_own (r.own hkb (by omega) (by omega)).1] at this
  · have ho := r.own hkb (by omega) (by omega)
    refine r.upd ho.1 rfl (fun _ => rfl) (fun _ => rfl) (fun q j w => ?_) (fun _ _ _ => rfl) (fun _ _ _ => rfl) e1 (fun q hq => e2 q (by rw [← adr_own (x := x) ho.1]; exact hq)) (fun _ => ?_)
    · show (if q = b9 ∧ _ ∧ _ then _ else gI h q j) = _
      rw [if_neg (fun z => w z.1)]
    · have k9 : gK (gCopyI h a i1.toNatClampNeg b9 j1.toNatClampNeg n.toNatClampNeg) b9 = 100 := hkb
      refine ⟨by rw [k9]; omega, fun _ => ?_, ?_, ?_, ?_, ?_, ?_⟩
      · rw [adr_own ho.1, e3]
        congr 2
        funext q
        show Value.int _ = Value.int (if b9 = b9 ∧ _ ∧ _ then _ else gI h b9 q)
        unfold va_cpy
        by_cases w : j1.toNatClampNeg ≤ q ∧ q < j1.toNatClampNeg + n.toNatClampNeg
        · rw [if_pos w, if_pos ⟨rfl, w⟩]; rfl
        · rw [if_neg w, if_neg (fun z => w z.2)]
      all_goals (rw [k9]; intros; omega)
theorem aObj_any (F : aF0 l s0 a0 x D Lx xs) (hW : s0.WarmedH s.vm) {H : Heap} (r : aRep s0.heap.size x D s0.heap Lx xs h H) {y : Nat} (ho : aObj h y = true) : y = 0 ∨ (8 ≤ y ∧ va_Any "java/lang/Object" s H (s0.heap.size + (y - 8))) := by
  unfold aObj at ho
  simp only [Bool.or_eq_true, Bool.and_eq_true, decide_eq_true_eq] at ho
  rcases ho with rfl | ⟨⟨hy1, hy2⟩, hy3⟩
  · exact Or.inl rfl
  · right
    have hoy := r.own (a := y) rfl hy1 (by omega)
    refine ⟨hoy.1, ?_⟩
    have hC9 : ∃ q, aCl[gK h y]? = some q := ⟨_, List.getElem?_eq_getElem (by rw [aCl_len]; exact hy2)⟩
    obtain ⟨⟨C, T, N⟩, hC⟩ := hC9
    obtain ⟨cy, y1, y2, y3, y4⟩ := (r.cell (a := y) rfl hy1 (by omega)).2.2.2.2.2.2 _ hy1 (by omega) hC
    rw [adr_own hoy.1] at y1
    obtain ⟨hS, hfc, kC, hkC, hkind⟩ := F.kn hy1 hC hW
    refine ⟨cy, y1, by rw [y3]; rfl, ⟨kC, by rw [y2]; exact hkC⟩, fun comp hcomp => ?_⟩
    have hcast : va_Nw (.castable C "java/lang/Object") s := va_Nw.warmC hW (va_Nw.of rfl (F.1 _ ((aCl_ok hy1 hC).2.2.2.1 hy3)))
    obtain ⟨c3, c4, hc3, hc4, hasg⟩ := Cond.castable_spec (va_Nw.use (A := #[]) rfl hcast)
    cases Option.some.inj (hc3.symm.trans hfc)
    cases Option.some.inj (hc4.symm.trans hcomp)
    rw [y2]; exact hasg
theorem st_copyR (M : aMc s0 mi p s m meth c) (F : aF0 l s0 a0 x D Lx xs) {j a b9 : Nat} {i1 j1 n : Int32} (hlink : Cond.methodLink (aOw (aMt mi).2.1) j arraycopyName ∈ lw_tbl) (hka : gK h a = 104) (hkb : gK h b9 = 104) (hob : (List.range n.toNatClampNeg).all (fun k => aObj h (gR h a (i1.toNatClampNeg + k))) = true)
    (h1 : ¬ i1 < 0) (h2 : ¬ j1 < 0) (h3 : ¬ n < 0) (h4 : i1.toNatClampNeg + n.toNatClampNeg ≤ gL h a) (h5 : j1.toNatClampNeg + n.toNatClampNeg ≤ gL h b9) (hw : aWt S ≤ 8) (hL9 : L.length = (aMt mi).2.2.2.1) (hf : 1 ≤ R.frames) (hl9 : 60 ≤ R.locals) (hd : decode (aMt mi).2.2.1 pc = .ok (.invokestatic j, 3))
    (K : aG s0 x D Lx xs p l e R s m args below meth c Q n0 t0 (pc + 3, L, S, gCopyR h a i1.toNatClampNeg b9 j1.toNatClampNeg n.toNatClampNeg)) : aG s0 x D Lx xs p l e R s m args below meth c Q n0 t0 (pc, L, vI n :: vI j1 :: vR b9 :: vI i1 :: vR a :: S, h) := by
  have hW := M.2.2.2.2.1
  refine st_copy M F (fun z : Nat => rv s0.heap.size x z) (fun q => gR h a q) (fun q => gR h b9 q) (ty := .object "java/lang/Object") (h' := gCopyR h a i1.toNatClampNeg b9 j1.toNatClampNeg n.toNatClampNeg) hlink hka hkb (by omega) (by omega) (F.arr hW).2.2.2.2 (fun H r => ?_) (fun H r => ?_) (fun H r T hT kA comp hkA hkind vm' hal i hi => ?_) h1 h2 h3 h4 h5 hw hL9 hf hl9 hd rfl rfl (fun H H' r e1 e2 e3 => ?_) K
  · have := (r.cell hka (by omega) (by omega)).2.2.2.2.2.1 hka
    rwa [adr_own (r.own hka (by omega) (by omega)).1] at this
  · have := (r.cell hkb (by omega) (by omega)).2.2.2.2.2.1 hkb
    rwa [adr_own (r.own hkb (by omega) (by omega)).1] at this
  · rcases aObj_any F hW r (List.all_eq_true.mp hob i (List.mem_range.mpr hi)) with w | ⟨w8, cellV, g1, g2, ⟨kC, hkC⟩, hasg⟩
    · rw [w]; exact ⟨rfl, trivial⟩
    · rw [rv_own w8]
      obtain ⟨kA2, comp2, r1, r2, r3, -⟩ := va_RA.moved hW.alike F.2.2.2.2.2.2.1.2
      cases hkA.symm.trans r1
      cases hkind.symm.trans r2
      obtain ⟨kE, hkE, -⟩ := Vm.findClass_spec r3
      obtain ⟨kC', hkC', -⟩ := hal.2.2 _ _ hkC
      obtain ⟨kE', hkE', -⟩ := hal.2.2 _ _ hkE
      refine ⟨rfl, cellV, (show T.heap[_]? = some cellV by rw [hT]; exact g1), (fun q w => by rw [w] at g2; cases g2), ⟨kC', hkC'⟩, ⟨kE', hkE'⟩, ?_⟩
      show vm'.assignable _ _ = true
      rw [hal.assignable]
      exact hasg _ r3
  · have ho := r.own hkb (by omega) (by omega)
    refine r.upd ho.1 rfl (fun _ => rfl) (fun _ => rfl) (fun _ _ _ => rfl) (fun _ _ _ => rfl) (fun q j w => ?_) e1 (fun q hq => e2 q (by rw [← adr_own (x := x) ho.1]; exact hq)) (fun _ => ?_)
    · show (if q = b9 ∧ _ ∧ _ then _ else gR h q j) = _
      rw [if_neg (fun z => w z.1)]
    · have k9 : gK (gCopyR h a i1.toNatClampNeg b9 j1.toNatClampNeg n.toNatClampNeg) b9 = 104 := hkb
      refine ⟨by rw [k9]; omega, ?_, ?_, ?_, ?_, fun _ => ?_, ?_⟩
      rotate_left 4
      · rw [adr_own ho.1, e3]
        congr 2
        funext q
        show rv _ _ _ = rv _ _ (if b9 = b9 ∧ _ ∧ _ then _ else gR h b9 q)
        unfold va_cpy
        by_cases w : j1.toNatClampNeg ≤ q ∧ q < j1.toNatClampNeg + n.toNatClampNeg
        · rw [if_pos w, if_pos ⟨rfl, w⟩]; rfl
        · rw [if_neg w, if_neg (fun z => w z.2)]
      all_goals (rw [k9]; intros; omega)
/-- what a run's end says of the machine's -/
def aQ (s0 : State) (x : Nat → Nat) (D : va_G) (Lx : Nat) (xs : Nat → Int32) (r : aOut × aH) : Array Value → State → Outcome → State → Prop := fun _ _ o t =>
  ((r.1 = .inl none ∧ o = .returned none) ∨ ∃ a v, r.1 = .inl (some a) ∧ o = .returned (some v) ∧ vOK s0.heap.size x a v) ∧ aRep s0.heap.size x D s0.heap Lx xs r.2 t.heap
def aX9 (s0 : State) (x : Nat → Nat) (D : va_G) (Lx : Nat) (xs : Nat → Int32) (r : aOut × aH) : String → State → State → Prop := fun E _ t =>
  (∃ k, r.1 = .inr k ∧ E = aExc k ∧ 0 < k ∧ k < 5) ∧ aRep s0.heap.size x D s0.heap Lx xs r.2 t.heap
abbrev aEnd (s0 : State) (x : Nat → Nat) (D : va_G) (Lx : Nat) (xs : Nat → Int32) (below : List Frame) (args : Array Value) (s : State) (n0 t0 : Nat) (r : aOut × aH) : State → Prop := vx_MQ below (aQ s0 x D Lx xs r) (aX9 s0 x D Lx xs r) args s (gN r.2 - n0) (gT r.2 - t0) (fun q => s0.heap.size ≤ q)
theorem st_ireturn (M : aMc s0 mi p s m meth c) {y : Int32} (hret : (aMt mi).2.2.2.2.1 = some .int ∨ ((aMt mi).2.2.2.2.1 = some .boolean ∧ y &&& 1 = y)) (hd : decode (aMt mi).2.2.1 pc = .ok (.ireturn, 1)) :
    aG s0 x D Lx xs p l e R s m args below meth c (aEnd s0 x D Lx xs below args s n0 t0 (.inl (some (vI y)), h)) n0 t0 (pc, L, [vI y], h) := by
  obtain ⟨hx, hb, hml, hown, hW, hr, hlk, hnm⟩ := M
  intro H locs ls st hr1 hl1 hs1 hq1
  obtain ⟨v0, st, rfl, rfl, hs3⟩ := sOK_cons hs1
  rw [sOK_nil hs3]
  refine vx_ret ?_
  rcases hret with h1 | ⟨h1, h2⟩
  · exact W.iret hx hb (hr.trans h1) (fun t ht _ => ⟨Or.inr ⟨_, _, rfl, rfl, rfl⟩, by rw [ht]; exact hr1⟩) hq1 hd
  · exact W.zret hx hb (hr.trans h1) (by show Value.int (y &&& 1) = _; rw [h2]) (fun t ht _ => ⟨Or.inr ⟨_, _, rfl, rfl, rfl⟩, by rw [ht]; exact hr1⟩) hq1 hd
theorem st_lreturn (M : aMc s0 mi p s m meth c) {y : Int64} (hret : (aMt mi).2.2.2.2.1 = some .long) (hd : decode (aMt mi).2.2.1 pc = .ok (.lreturn, 1)) :
    aG s0 x D Lx xs p l e R s m args below meth c (aEnd s0 x D Lx xs below args s n0 t0 (.inl (some (vL y)), h)) n0 t0 (pc, L, [vL y], h) := by
  obtain ⟨hx, hb, hml, hown, hW, hr, hlk, hnm⟩ := M
  intro H locs ls st hr1 hl1 hs1 hq1
  obtain ⟨v0, st, rfl, rfl, hs3⟩ := sOK_cons hs1
  rw [sOK_nil hs3]
  exact vx_ret (W.lret hx hb (hr.trans hret) (fun t ht _ => ⟨Or.inr ⟨_, _, rfl, rfl, rfl⟩, by rw [ht]; exact hr1⟩) hq1 hd)
theorem st_areturn (M : aMc s0 mi p s m meth c) {y : Nat} {rt : FieldType} (hret : (aMt mi).2.2.2.2.1 = some rt) (hrt : (∃ n, rt = .object n) ∨ ∃ t, rt = .array t) (hd : decode (aMt mi).2.2.1 pc = .ok (.areturn, 1)) :
    aG s0 x D Lx xs p l e R s m args below meth c (aEnd s0 x D Lx xs below args s n0 t0 (.inl (some (vR y)), h)) n0 t0 (pc, L, [vR y], h) := by
  obtain ⟨hx, hb, hml, hown, hW, hr, hlk, hnm⟩ := M
  intro H locs ls st hr1 hl1 hs1 hq1
  obtain ⟨v0, st, rfl, hv0, hs3⟩ := sOK_cons hs1
  rw [sOK_nil hs3]
  exact vx_ret (W.aret hx hb (hr.trans hret) hrt (vOK_ref hv0) (fun t ht _ => ⟨Or.inr ⟨_, _, rfl, rfl, hv0⟩, by rw [ht]; exact hr1⟩) hq1 hd)
theorem st_vreturn (M : aMc s0 mi p s m meth c) (hret : (aMt mi).2.2.2.2.1 = none) (hd : decode (aMt mi).2.2.1 pc = .ok (.return_, 1)) :
    aG s0 x D Lx xs p l e R s m args below meth c (aEnd s0 x D Lx xs below args s n0 t0 (.inl none, h)) n0 t0 (pc, L, [], h) := by
  obtain ⟨hx, hb, hml, hown, hW, hr, hlk, hnm⟩ := M
  intro H locs ls st hr1 hl1 hs1 hq1
  rw [sOK_nil hs1]
  exact vx_ret (W.vret hx hb (hr.trans hret) (fun t ht _ => ⟨Or.inl ⟨rfl, rfl⟩, by rw [ht]; exact hr1⟩) hq1 hd)
def aXtG (q : Nat × Nat × Nat) : Bool := match q with
  | (o, i, k) => (vx_atS (aOw o) i (aExc k) aXn).all (fun w => goodWord w || match w with | .declares _ => true | .castable .. => true | _ => false)
theorem aXt_good : aXt.all aXtG = true := by decide +kernel
theorem aXt_at (F : aF0 l s0 a0 x D Lx xs) (hW : s0.WarmedH s.vm) {o i k : Nat} (hx : aFind aXt o i = some k) : ∀ w ∈ vx_atS (aOw o) i (aExc k) aXn, w.before args s = true := by
  intro w hw
  have h1 := List.all_eq_true.mp (List.all_eq_true.mp aXt_good _ (aFind_mem hx)) w hw
  have h2 := ((aXt_ok hx).1 w hw).1
  rcases Bool.or_eq_true .. |>.mp h1 with g | g
  · exact F.word h2 g hW
  · split at g
    · exact va_Nw.use rfl (va_Nw.warmD hW (va_Nw.of rfl (F.1 _ h2)))
    · exact va_Nw.use rfl (va_Nw.warmC hW (va_Nw.of rfl (F.1 _ h2)))
    · cases g
theorem aExc_fit {k : Nat} : Jvm.Bundle.fit (aExc k) = true := by
  unfold aExc
  split <;> decide +kernel
theorem aXn_fit : ∀ n ∈ aXn, Jvm.Bundle.fit n = true := by decide +kernel
theorem aKn_exc {k : Nat} (h0 : 0 < k) (h5 : k < 5) : aKn (200 + k) = aExc k := by
  unfold aKn
  rw [if_neg (by omega), if_neg (by omega), if_neg (by omega), if_pos (by omega), show 200 + k - 200 = k by omega]
theorem st_throw (M : aMc s0 mi p s m meth c) (F : aF0 l s0 a0 x D Lx xs) {k w n : Nat} (ht : aThr (aMt mi).2.1 (aMt mi).2.2.1 pc k w n = true) (hcc : c.code = (aMt mi).2.2.1) (hL9 : L.length = (aMt mi).2.2.2.1) (hf : 6 ≤ R.frames) (hl9 : 100 ≤ R.locals) (hex : c.exceptionTable.toList = [])
    (h8 : 8 ≤ n0) (hn0 : n0 ≤ gN h) (ht0 : t0 ≤ gT h) (hC : gN h + 1 - n0 ≤ R.cells) (hSl : gT h + 6 - t0 ≤ R.slots) (hsz : s.heap.size = s0.heap.size + (n0 - 8)) (hold : ∀ q : Nat, q < s0.heap.size → s.heap[q]? = s0.heap[q]?) :
    aG s0 x D Lx xs p l e R s m args below meth c (aEnd s0 x D Lx xs below args s n0 t0 (.inr k, gNew h 200 6)) n0 t0 (pc, L, [], h) := by
  obtain ⟨hx, hb, hml, hown, hW, hr, hlk, hnm⟩ := M
  intro H locs ls st hr1 hl1 hs1 hq1
  rw [sOK_nil hs1]
  have hr1 : aRep s0.heap.size x D s0.heap Lx xs h H := hr1
  unfold aThr at ht
  split at ht
  · rename_i ik ld w' ic d0 d3 d4 d6 d9
    simp only [Bool.and_eq_true, decide_eq_true_eq] at ht
    obtain ⟨⟨⟨⟨hld, rfl⟩, hn9⟩, hkl⟩, hxt⟩ := ht
    obtain ⟨hxw, hini, hk0, hk5⟩ := aXt_ok hxt
    have hkl2 : ∃ r, aFind aKl (aMt mi).2.1 ik = some (200 + k, r) := by
      cases hq : aFind aKl (aMt mi).2.1 ik with
      | none => rw [hq] at hkl; cases hkl
      | some q => rw [hq] at hkl; simp at hkl; exact ⟨q.2, by rw [← hkl]⟩
    obtain ⟨rr, hkl2⟩ := hkl2
    have hcl := aKl_ok hkl2
    rw [aKn_exc hk0 hk5] at hcl
    have hS : va_S (fun q => s0.heap.size ≤ q) s.heap H locs := ⟨by rw [hsz, hr1.2.1]; omega, fun q h1 h2 => (hr1.2.2.2.1 q (Nat.not_le.mp h2)).trans (hold q (Nat.not_le.mp h2)).symm, hq1⟩
    have hU : vx_Zq Jvm.Bundle.tN "UNASSIGNED_STACK" Jvm.Bundle.steD (fun q => s0.heap.size ≤ q) s s.heap := (vx_Zq.moved hW.alike F.2.2.2.2.2.2.2.2.2.1.1).kept (fun q h1 h2 => hold q h1)
    have hN : vx_Zq Jvm.Bundle.tN "SUPPRESSED_SENTINEL" Jvm.Bundle.listD (fun q => s0.heap.size ≤ q) s s.heap := (vx_Zq.moved hW.alike F.2.2.2.2.2.2.2.2.2.1.2).kept (fun q h1 h2 => hold q h1)
    have hX : ∀ t : State, s.vm.Alike t.vm → t.heap.size = H.size + 1 → (∀ q : Nat, q < H.size → t.heap[q]? = H[q]?) → aX9 s0 x D Lx xs (.inr k, gNew h 200 6) (aExc k) s t := fun t _ z1 z2 => ⟨⟨k, rfl, rfl, hk0, hk5⟩, hr1.new z1 z2 (by
      have e9 : gK (gNew h 200 6) (gN h) = 200 := by rw [gK_gNew, if_pos rfl]
      refine ⟨by rw [e9]; omega, ?_, ?_, ?_, ?_, ?_, ?_⟩ <;> (rw [e9]; intros; omega))⟩
    have hgood : ∀ w ∈ Cond.classLink (aOw (aMt mi).2.1) ik (aExc k) :: Cond.initialized (aExc k) :: vx_atS (aOw (aMt mi).2.1) ic (aExc k) aXn, vx_ot w = true := by
      intro w hw
      rcases List.mem_cons.mp hw with rfl | hw
      · rfl
      · rcases List.mem_cons.mp hw with rfl | hw
        · rfl
        · exact (hxw w hw).2
    show W p l e R s m args below meth c H locs (gN h - n0) (gT h - t0) (vx_MQ below _ _ args s (gN (gNew h 200 6) - n0) (gT (gNew h 200 6) - t0) _) _
    cases ld with
    | ldc is =>
      simp only [Bool.and_eq_true, decide_eq_true_eq] at hld
      obtain ⟨rfl, hsr⟩ := hld
      obtain ⟨⟨tx, pp⟩, hsr⟩ := Option.isSome_iff_exists.mp hsr
      obtain ⟨sa, hstr⟩ := F.2.2.2.2.2.2.2.2.2.2.2.1 _ _ _ _ hsr
      exact vx_throwS hx hb F.2.2.2.2.2.2.2.2.2.2.2.2 hown aExc_fit aXn_fit (F.word hcl rfl hW) (F.word hini rfl hW) (vk_R.warm hW hstr) (aXt_at F hW hxt) hgood hU hN hS (by rw [hl1.1, hml]; exact hL9) d0 d3 d4 d6 d9 (fun z hz => by rw [hex] at hz; cases hz) (by show 2 + 3 < _; omega) (by show 0 + (13 * (2 + 1) + 43) ≤ _; omega) (by omega) (by omega) hlk hX hq1 (by rw [gN_gNew]; omega) (by rw [gT_gNew]; omega)
    | ldc_w is =>
      simp only [Bool.and_eq_true, decide_eq_true_eq] at hld
      obtain ⟨rfl, hsr⟩ := hld
      obtain ⟨⟨tx, pp⟩, hsr⟩ := Option.isSome_iff_exists.mp hsr
      obtain ⟨sa, hstr⟩ := F.2.2.2.2.2.2.2.2.2.2.2.1 _ _ _ _ hsr
      exact vx_throwSW hx hb F.2.2.2.2.2.2.2.2.2.2.2.2 hown aExc_fit aXn_fit (F.word hcl rfl hW) (F.word hini rfl hW) (vk_R.warm hW hstr) (aXt_at F hW hxt) hgood hU hN hS (by rw [hl1.1, hml]; exact hL9) d0 d3 d4 d6 d9 (fun z hz => by rw [hex] at hz; cases hz) (by show 2 + 3 < _; omega) (by show 0 + (13 * (2 + 1) + 43) ≤ _; omega) (by omega) (by omega) hlk hX hq1 (by rw [gN_gNew]; omega) (by rw [gT_gNew]; omega)
    | _ => simp at hld
  · cases ht
end SN8
