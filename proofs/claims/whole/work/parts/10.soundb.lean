/-! SOUNDNESS, 2: what holds at the law's start (aF0), at a method's entry (aMc), at a configuration (aG); locals, operands, arithmetic, branches -/
section SN2
/-- the law's start: the tables' words, the classes' numbers, the arrays' classes, the script, statics, the class object, Strings -/
def aF0 (l : Launch) (s0 : State) (a0 : Array Value) (x : Nat → Nat) (D : va_G) (Lx : Nat) (xs : Nat → Int32) : Prop :=
  (∀ w ∈ lw_tbl, w.before a0 s0 = true) ∧ (∀ (c : Nat) (q : vw_C), 0 < c → aCl[c]? = some q → u_Kn s0 q.1 q.2.1 q.2.2 (D.1 c) (D.2 c)) ∧
  (ArrOfT s0 (D.1 100) .int ∧ s0.vm.findClass "[I" = some (D.1 100)) ∧ (ArrOfT s0 (D.1 101) .long ∧ s0.vm.findClass "[J" = some (D.1 101)) ∧ (ArrOfT s0 (D.1 102) .boolean ∧ s0.vm.findClass "[Z" = some (D.1 102)) ∧ (ArrOfT s0 (D.1 103) .byte ∧ s0.vm.findClass "[B" = some (D.1 103)) ∧
  (ArrOfT s0 (D.1 104) (.object "java/lang/Object") ∧ va_RA s0 (D.1 104) (.object "java/lang/Object")) ∧
  (va_X (x 1) Lx xs s0 s0.heap ∧ x 1 < s0.heap.size ∧ Lx < 2 ^ 31) ∧
  (va_Z "java/util/ArrayList" "DEFAULTCAPACITY_EMPTY_ELEMENTDATA" "[Ljava/lang/Object;" (.ref (x 2)) (fun q => s0.heap.size ≤ q) s0 s0.heap ∧ x 2 < s0.heap.size ∧ ∃ cell : Cell, s0.heap[x 2]? = some cell ∧ s0.isArrayOf cell (.object "java/lang/Object") ∧ cell.slots.size = 0) ∧
  (vx_Zq Jvm.Bundle.tN "UNASSIGNED_STACK" Jvm.Bundle.steD (fun q => s0.heap.size ≤ q) s0 s0.heap ∧ vx_Zq Jvm.Bundle.tN "SUPPRESSED_SENTINEL" Jvm.Bundle.listD (fun q => s0.heap.size ≤ q) s0 s0.heap) ∧
  va_Mi "[Ljava/lang/Object;" (x 3) s0 ∧ (∀ (o i : Nat) (t : String) (p : Nat), aFind aSr o i = some (t, p) → ∃ sa, vk_R (aOw o) i t sa s0) ∧ l.stackTraces = false
def aMc (s0 : State) (mi : Nat) (p : Program) (s : State) (m : MethodId) (meth : Method) (c : Code) : Prop :=
  p.tables.exec = Jvm.exec ∧ c.code = (aMt mi).2.2.1 ∧ c.maxLocals = (aMt mi).2.2.2.1 ∧ s.vm.findClass (aOw (aMt mi).2.1) = some m.cls ∧ s0.WarmedH s.vm ∧ meth.sig.returnType = (aMt mi).2.2.2.2.1 ∧ meth.locks = false ∧ ((aMt mi).1.name = "<init>" → meth.name = "<init>")
def aG (s0 : State) (x : Nat → Nat) (D : va_G) (Lx : Nat) (xs : Nat → Int32) (p : Program) (l : Launch) (e : Env) (R : Room) (s : State) (m : MethodId) (args : Array Value) (below : List Frame) (meth : Method) (c : Code) (Q : State → Prop) (n0 t0 : Nat) (cf : aCf) : Prop :=
  ∀ (H : Heap) (locs : List Loc) (ls : Array Slot) (st : List Value), aRep s0.heap.size x D s0.heap Lx xs cf.2.2.2 H → lOK s0.heap.size x cf.2.1 ls → sOK s0.heap.size x cf.2.2.1 st → (∀ q ∈ locs, s0.heap.size ≤ q.base) →
    W p l e R s m args below meth c H locs (gN cf.2.2.2 - n0) (gT cf.2.2.2 - t0) Q (F0 m cf.1 ls st)
theorem aF0.word {l : Launch} {s0 : State} {a0 : Array Value} {x : Nat → Nat} {D : va_G} {Lx : Nat} {xs : Nat → Int32} (F : aF0 l s0 a0 x D Lx xs) {w : Cond} (hw : w ∈ lw_tbl) (hg : goodWord w = true) {s : State} (hW : s0.WarmedH s.vm) {args : Array Value} : w.before args s = true := word_at hW (good_of_word hg) (F.1 w hw)
variable {l : Launch} {s0 : State} {a0 : Array Value} {x : Nat → Nat} {D : va_G} {Lx : Nat} {xs : Nat → Int32}
variable {p : Program} {e : Env} {R : Room} {s : State} {m : MethodId} {args : Array Value} {below : List Frame} {meth : Method} {c : Code} {Q : State → Prop} {n0 t0 mi pc : Nat} {L : List (Option aV)} {S : List aV} {h : aH}

theorem st_iload (M : aMc s0 mi p s m meth c) {i : Nat} {y : Int32} (hi : L[i]? = some (some (vI y))) (hd : decode (aMt mi).2.2.1 pc = .ok (.iload i, 2)) (K : aG s0 x D Lx xs p l e R s m args below meth c Q n0 t0 (pc + 2, L, vI y :: S, h)) : aG s0 x D Lx xs p l e R s m args below meth c Q n0 t0 (pc, L, S, h) := by
  obtain ⟨hx, hb, hml, hown, hW, hr, hlk, hnm⟩ := M
  intro H locs ls st hr1 hl1 hs1 hq1
  refine lv_iload hx hb hd (lOK_int hl1 hi) ?_
  exact K H locs ls (_ :: st) hr1 hl1 ⟨rfl, hs1⟩ hq1
theorem st_iload_n (M : aMc s0 mi p s m meth c) {i : Fin 4} {y : Int32} (hi : L[i.val]? = some (some (vI y))) (hd : decode (aMt mi).2.2.1 pc = .ok (.iload_n i, 1)) (K : aG s0 x D Lx xs p l e R s m args below meth c Q n0 t0 (pc + 1, L, vI y :: S, h)) : aG s0 x D Lx xs p l e R s m args below meth c Q n0 t0 (pc, L, S, h) := by
  obtain ⟨hx, hb, hml, hown, hW, hr, hlk, hnm⟩ := M
  intro H locs ls st hr1 hl1 hs1 hq1
  refine lv_iload_n hx hb hd rfl (lOK_int hl1 hi) ?_
  exact K H locs ls (_ :: st) hr1 hl1 ⟨rfl, hs1⟩ hq1
theorem st_lload (M : aMc s0 mi p s m meth c) {i : Nat} {y : Int64} (hi : L[i]? = some (some (vL y))) (hd : decode (aMt mi).2.2.1 pc = .ok (.lload i, 2)) (K : aG s0 x D Lx xs p l e R s m args below meth c Q n0 t0 (pc + 2, L, vL y :: S, h)) : aG s0 x D Lx xs p l e R s m args below meth c Q n0 t0 (pc, L, S, h) := by
  obtain ⟨hx, hb, hml, hown, hW, hr, hlk, hnm⟩ := M
  intro H locs ls st hr1 hl1 hs1 hq1
  refine lv_lload hx hb hd (lOK_long hl1 hi) ?_
  exact K H locs ls (_ :: st) hr1 hl1 ⟨rfl, hs1⟩ hq1
theorem st_lload_n (M : aMc s0 mi p s m meth c) {i : Fin 4} {y : Int64} (hi : L[i.val]? = some (some (vL y))) (hd : decode (aMt mi).2.2.1 pc = .ok (.lload_n i, 1)) (K : aG s0 x D Lx xs p l e R s m args below meth c Q n0 t0 (pc + 1, L, vL y :: S, h)) : aG s0 x D Lx xs p l e R s m args below meth c Q n0 t0 (pc, L, S, h) := by
  obtain ⟨hx, hb, hml, hown, hW, hr, hlk, hnm⟩ := M
  intro H locs ls st hr1 hl1 hs1 hq1
  refine lv_lload_n hx hb hd rfl (lOK_long hl1 hi) ?_
  exact K H locs ls (_ :: st) hr1 hl1 ⟨rfl, hs1⟩ hq1
theorem st_aload (M : aMc s0 mi p s m meth c) {i : Nat} {u : Nat ⊕ Unit} (hi : L[i]? = some (some (.inr (.inr u)))) (hd : decode (aMt mi).2.2.1 pc = .ok (.aload i, 2)) (K : aG s0 x D Lx xs p l e R s m args below meth c Q n0 t0 (pc + 2, L, .inr (.inr u) :: S, h)) : aG s0 x D Lx xs p l e R s m args below meth c Q n0 t0 (pc, L, S, h) := by
  obtain ⟨hx, hb, hml, hown, hW, hr, hlk, hnm⟩ := M
  intro H locs ls st hr1 hl1 hs1 hq1
  obtain ⟨v, h1, h2⟩ := hl1.2.2 i _ hi
  rcases vOK_ref h2 with rfl | ⟨q, rfl⟩
  · exact lv_aloadN hx hb hd h1 (K H locs ls (_ :: st) hr1 hl1 ⟨h2, hs1⟩ hq1)
  · exact lv_aload hx hb hd h1 (K H locs ls (_ :: st) hr1 hl1 ⟨h2, hs1⟩ hq1)
theorem st_aload_n (M : aMc s0 mi p s m meth c) {i : Fin 4} {u : Nat ⊕ Unit} (hi : L[i.val]? = some (some (.inr (.inr u)))) (hd : decode (aMt mi).2.2.1 pc = .ok (.aload_n i, 1)) (K : aG s0 x D Lx xs p l e R s m args below meth c Q n0 t0 (pc + 1, L, .inr (.inr u) :: S, h)) : aG s0 x D Lx xs p l e R s m args below meth c Q n0 t0 (pc, L, S, h) := by
  obtain ⟨hx, hb, hml, hown, hW, hr, hlk, hnm⟩ := M
  intro H locs ls st hr1 hl1 hs1 hq1
  obtain ⟨v, h1, h2⟩ := hl1.2.2 i.val _ hi
  rcases vOK_ref h2 with rfl | ⟨q, rfl⟩
  · exact lv_aload_nN hx hb hd rfl h1 (K H locs ls (_ :: st) hr1 hl1 ⟨h2, hs1⟩ hq1)
  · exact lv_aload_n hx hb hd rfl h1 (K H locs ls (_ :: st) hr1 hl1 ⟨h2, hs1⟩ hq1)
theorem st_istore (M : aMc s0 mi p s m meth c) {i : Nat} {y : Int32} (hi : i < L.length) (hd : decode (aMt mi).2.2.1 pc = .ok (.istore i, 2)) (K : aG s0 x D Lx xs p l e R s m args below meth c Q n0 t0 (pc + 2, aSet L i (vI y), S, h)) : aG s0 x D Lx xs p l e R s m args below meth c Q n0 t0 (pc, L, vI y :: S, h) := by
  obtain ⟨hx, hb, hml, hown, hW, hr, hlk, hnm⟩ := M
  intro H locs ls st hr1 hl1 hs1 hq1
  obtain ⟨v, st, rfl, rfl, hs2⟩ := sOK_cons hs1
  refine lv_istore hx hb hd (lAll_has hl1.2.1) (by rw [hl1.1]; exact hi) rfl fun ls' h' => ?_
  exact K H locs ls' st hr1 (lOK_store1 hl1 hi (rfl : vOK _ x (vI y) (.int y)) h' rfl) hs2 hq1
theorem st_istore_n (M : aMc s0 mi p s m meth c) {i : Fin 4} {y : Int32} (hi : i.val < L.length) (hd : decode (aMt mi).2.2.1 pc = .ok (.istore_n i, 1)) (K : aG s0 x D Lx xs p l e R s m args below meth c Q n0 t0 (pc + 1, aSet L i.val (vI y), S, h)) : aG s0 x D Lx xs p l e R s m args below meth c Q n0 t0 (pc, L, vI y :: S, h) := by
  obtain ⟨hx, hb, hml, hown, hW, hr, hlk, hnm⟩ := M
  intro H locs ls st hr1 hl1 hs1 hq1
  obtain ⟨v, st, rfl, rfl, hs2⟩ := sOK_cons hs1
  refine lv_istore_n hx hb hd rfl (lAll_has hl1.2.1) (by rw [hl1.1]; exact hi) rfl fun ls' h' => ?_
  exact K H locs ls' st hr1 (lOK_store1 hl1 hi (rfl : vOK _ x (vI y) (.int y)) h' rfl) hs2 hq1
theorem st_lstore (M : aMc s0 mi p s m meth c) {i : Nat} {y : Int64} (hi : i + 1 < L.length) (hd : decode (aMt mi).2.2.1 pc = .ok (.lstore i, 2)) (K : aG s0 x D Lx xs p l e R s m args below meth c Q n0 t0 (pc + 2, (aSet L i (vL y)).set (i + 1) none, S, h)) : aG s0 x D Lx xs p l e R s m args below meth c Q n0 t0 (pc, L, vL y :: S, h) := by
  obtain ⟨hx, hb, hml, hown, hW, hr, hlk, hnm⟩ := M
  intro H locs ls st hr1 hl1 hs1 hq1
  obtain ⟨v, st, rfl, rfl, hs2⟩ := sOK_cons hs1
  refine lv_lstore hx hb hd (lAll_has hl1.2.1) (by rw [hl1.1]; exact hi) rfl fun ls' h' => ?_
  exact K H locs ls' st hr1 (lOK_store2 hl1 hi h' rfl) hs2 hq1
theorem st_lstore_n (M : aMc s0 mi p s m meth c) {i : Fin 4} {y : Int64} (hi : i.val + 1 < L.length) (hd : decode (aMt mi).2.2.1 pc = .ok (.lstore_n i, 1)) (K : aG s0 x D Lx xs p l e R s m args below meth c Q n0 t0 (pc + 1, (aSet L i.val (vL y)).set (i.val + 1) none, S, h)) : aG s0 x D Lx xs p l e R s m args below meth c Q n0 t0 (pc, L, vL y :: S, h) := by
  obtain ⟨hx, hb, hml, hown, hW, hr, hlk, hnm⟩ := M
  intro H locs ls st hr1 hl1 hs1 hq1
  obtain ⟨v, st, rfl, rfl, hs2⟩ := sOK_cons hs1
  refine lv_lstore_n hx hb hd rfl (lAll_has hl1.2.1) (by rw [hl1.1]; exact hi) rfl fun ls' h' => ?_
  exact K H locs ls' st hr1 (lOK_store2 hl1 hi h' rfl) hs2 hq1
theorem st_astore (M : aMc s0 mi p s m meth c) {i : Nat} {u : Nat ⊕ Unit} (hi : i < L.length) (hd : decode (aMt mi).2.2.1 pc = .ok (.astore i, 2)) (K : aG s0 x D Lx xs p l e R s m args below meth c Q n0 t0 (pc + 2, aSet L i (.inr (.inr u)), S, h)) : aG s0 x D Lx xs p l e R s m args below meth c Q n0 t0 (pc, L, .inr (.inr u) :: S, h) := by
  obtain ⟨hx, hb, hml, hown, hW, hr, hlk, hnm⟩ := M
  intro H locs ls st hr1 hl1 hs1 hq1
  obtain ⟨v, st, rfl, h2, hs2⟩ := sOK_cons hs1
  rcases vOK_ref h2 with rfl | ⟨q, rfl⟩
  · exact lv_astoreN hx hb hd (lAll_has hl1.2.1) (by rw [hl1.1]; exact hi) rfl fun ls' h' => K H locs ls' st hr1 (lOK_store1 hl1 hi h2 h' rfl) hs2 hq1
  · exact lv_astore hx hb hd (lAll_has hl1.2.1) (by rw [hl1.1]; exact hi) rfl fun ls' h' => K H locs ls' st hr1 (lOK_store1 hl1 hi h2 h' rfl) hs2 hq1
theorem st_astore_n (M : aMc s0 mi p s m meth c) {i : Fin 4} {u : Nat ⊕ Unit} (hi : i.val < L.length) (hd : decode (aMt mi).2.2.1 pc = .ok (.astore_n i, 1)) (K : aG s0 x D Lx xs p l e R s m args below meth c Q n0 t0 (pc + 1, aSet L i.val (.inr (.inr u)), S, h)) : aG s0 x D Lx xs p l e R s m args below meth c Q n0 t0 (pc, L, .inr (.inr u) :: S, h) := by
  obtain ⟨hx, hb, hml, hown, hW, hr, hlk, hnm⟩ := M
  intro H locs ls st hr1 hl1 hs1 hq1
  obtain ⟨v, st, rfl, h2, hs2⟩ := sOK_cons hs1
  rcases vOK_ref h2 with rfl | ⟨q, rfl⟩
  · exact lv_astore_nN hx hb hd rfl (lAll_has hl1.2.1) (by rw [hl1.1]; exact hi) rfl fun ls' h' => K H locs ls' st hr1 (lOK_store1 hl1 hi h2 h' rfl) hs2 hq1
  · exact lv_astore_n hx hb hd rfl (lAll_has hl1.2.1) (by rw [hl1.1]; exact hi) rfl fun ls' h' => K H locs ls' st hr1 (lOK_store1 hl1 hi h2 h' rfl) hs2 hq1
theorem st_iinc (M : aMc s0 mi p s m meth c) {i : Nat} {y : Int32} {n : Int} (hi : L[i]? = some (some (vI y))) (hd : decode (aMt mi).2.2.1 pc = .ok (.iinc i n, 3)) (K : aG s0 x D Lx xs p l e R s m args below meth c Q n0 t0 (pc + 3, aSet L i (vI (y + Int32.ofInt n)), S, h)) : aG s0 x D Lx xs p l e R s m args below meth c Q n0 t0 (pc, L, S, h) := by
  obtain ⟨hx, hb, hml, hown, hW, hr, hlk, hnm⟩ := M
  intro H locs ls st hr1 hl1 hs1 hq1
  have hlt : i < L.length := (List.getElem?_eq_some_iff.mp hi).1
  obtain ⟨k, hk⟩ := List.getElem?_of_mem (lAll_mem.mpr (lOK_int hl1 hi))
  refine lv_iinc hx hb hd (lAll_has hl1.2.1) hk rfl (by rw [hl1.1]; exact hlt) rfl fun ls' h' => ?_
  exact K H locs ls' st hr1 (lOK_store1 hl1 hlt (rfl : vOK _ x (vI _) (.int _)) h' rfl) hs1 hq1
theorem st_iconst (M : aMc s0 mi p s m meth c) {n : Int} (hd : decode (aMt mi).2.2.1 pc = .ok (.iconst n, 1)) (K : aG s0 x D Lx xs p l e R s m args below meth c Q n0 t0 (pc + 1, L, vI (Int32.ofInt n) :: S, h)) : aG s0 x D Lx xs p l e R s m args below meth c Q n0 t0 (pc, L, S, h) := by
  obtain ⟨hx, hb, hml, hown, hW, hr, hlk, hnm⟩ := M
  intro H locs ls st hr1 hl1 hs1 hq1
  exact lv_iconst hx hb hd rfl (K H locs ls (_ :: st) hr1 hl1 ⟨rfl, hs1⟩ hq1)
theorem st_bipush (M : aMc s0 mi p s m meth c) {n : Int} (hd : decode (aMt mi).2.2.1 pc = .ok (.bipush n, 2)) (K : aG s0 x D Lx xs p l e R s m args below meth c Q n0 t0 (pc + 2, L, vI (Int8.ofInt n).toInt32 :: S, h)) : aG s0 x D Lx xs p l e R s m args below meth c Q n0 t0 (pc, L, S, h) := by
  obtain ⟨hx, hb, hml, hown, hW, hr, hlk, hnm⟩ := M
  intro H locs ls st hr1 hl1 hs1 hq1
  exact lv_bipush hx hb hd rfl (K H locs ls (_ :: st) hr1 hl1 ⟨rfl, hs1⟩ hq1)
theorem st_sipush (M : aMc s0 mi p s m meth c) {n : Int} (hd : decode (aMt mi).2.2.1 pc = .ok (.sipush n, 3)) (K : aG s0 x D Lx xs p l e R s m args below meth c Q n0 t0 (pc + 3, L, vI (Int16.ofInt n).toInt32 :: S, h)) : aG s0 x D Lx xs p l e R s m args below meth c Q n0 t0 (pc, L, S, h) := by
  obtain ⟨hx, hb, hml, hown, hW, hr, hlk, hnm⟩ := M
  intro H locs ls st hr1 hl1 hs1 hq1
  exact lv_sipush hx hb hd rfl (K H locs ls (_ :: st) hr1 hl1 ⟨rfl, hs1⟩ hq1)
theorem st_lconst (M : aMc s0 mi p s m meth c) {n : Fin 2} (hd : decode (aMt mi).2.2.1 pc = .ok (.lconst n, 1)) (K : aG s0 x D Lx xs p l e R s m args below meth c Q n0 t0 (pc + 1, L, vL (Int64.ofNat n.val) :: S, h)) : aG s0 x D Lx xs p l e R s m args below meth c Q n0 t0 (pc, L, S, h) := by
  obtain ⟨hx, hb, hml, hown, hW, hr, hlk, hnm⟩ := M
  intro H locs ls st hr1 hl1 hs1 hq1
  exact lv_lconst hx hb hd rfl (K H locs ls (_ :: st) hr1 hl1 ⟨rfl, hs1⟩ hq1)
theorem st_null (M : aMc s0 mi p s m meth c) (hd : decode (aMt mi).2.2.1 pc = .ok (.aconst_null, 1)) (K : aG s0 x D Lx xs p l e R s m args below meth c Q n0 t0 (pc + 1, L, vR 0 :: S, h)) : aG s0 x D Lx xs p l e R s m args below meth c Q n0 t0 (pc, L, S, h) := by
  obtain ⟨hx, hb, hml, hown, hW, hr, hlk, hnm⟩ := M
  intro H locs ls st hr1 hl1 hs1 hq1
  exact lv_null hx hb hd (K H locs ls (_ :: st) hr1 hl1 ⟨rfl, hs1⟩ hq1)
theorem st_ldc (M : aMc s0 mi p s m meth c) (F : aF0 l s0 a0 x D Lx xs) {j : Nat} {v : Int32} (hv : Cond.constant (aOw (aMt mi).2.1) j v ∈ lw_tbl) (hd : decode (aMt mi).2.2.1 pc = .ok (.ldc j, 2)) (K : aG s0 x D Lx xs p l e R s m args below meth c Q n0 t0 (pc + 2, L, vI v :: S, h)) : aG s0 x D Lx xs p l e R s m args below meth c Q n0 t0 (pc, L, S, h) := by
  obtain ⟨hx, hb, hml, hown, hW, hr, hlk, hnm⟩ := M
  intro H locs ls st hr1 hl1 hs1 hq1
  exact lv_ldc hx hb hown (F.word hv rfl hW) hd (K H locs ls (_ :: st) hr1 hl1 ⟨rfl, hs1⟩ hq1)
theorem st_ldc_w (M : aMc s0 mi p s m meth c) (F : aF0 l s0 a0 x D Lx xs) {j : Nat} {v : Int32} (hv : Cond.constant (aOw (aMt mi).2.1) j v ∈ lw_tbl) (hd : decode (aMt mi).2.2.1 pc = .ok (.ldc_w j, 3)) (K : aG s0 x D Lx xs p l e R s m args below meth c Q n0 t0 (pc + 3, L, vI v :: S, h)) : aG s0 x D Lx xs p l e R s m args below meth c Q n0 t0 (pc, L, S, h) := by
  obtain ⟨hx, hb, hml, hown, hW, hr, hlk, hnm⟩ := M
  intro H locs ls st hr1 hl1 hs1 hq1
  exact lv_ldcw hx hb hown (F.word hv rfl hW) hd (K H locs ls (_ :: st) hr1 hl1 ⟨rfl, hs1⟩ hq1)
theorem st_ldc2_w (M : aMc s0 mi p s m meth c) (F : aF0 l s0 a0 x D Lx xs) {j : Nat} {v : Int64} (hv : Cond.constantLong (aOw (aMt mi).2.1) j v ∈ lw_tbl) (hd : decode (aMt mi).2.2.1 pc = .ok (.ldc2_w j, 3)) (K : aG s0 x D Lx xs p l e R s m args below meth c Q n0 t0 (pc + 3, L, vL v :: S, h)) : aG s0 x D Lx xs p l e R s m args below meth c Q n0 t0 (pc, L, S, h) := by
  obtain ⟨hx, hb, hml, hown, hW, hr, hlk, hnm⟩ := M
  intro H locs ls st hr1 hl1 hs1 hq1
  exact lv_ldc2 hx hb hown (F.word hv rfl hW) hd (K H locs ls (_ :: st) hr1 hl1 ⟨rfl, hs1⟩ hq1)
theorem st_iadd (M : aMc s0 mi p s m meth c) {y z : Int32} (hd : decode (aMt mi).2.2.1 pc = .ok (.iadd, 1)) (K : aG s0 x D Lx xs p l e R s m args below meth c Q n0 t0 (pc + 1, L, vI (y + z) :: S, h)) : aG s0 x D Lx xs p l e R s m args below meth c Q n0 t0 (pc, L, vI z :: vI y :: S, h) := by
  obtain ⟨hx, hb, hml, hown, hW, hr, hlk, hnm⟩ := M
  intro H locs ls st hr1 hl1 hs1 hq1
  obtain ⟨v, st, rfl, rfl, hs2⟩ := sOK_cons hs1
  obtain ⟨w, st, rfl, rfl, hs3⟩ := sOK_cons hs2
  exact lv_iadd hx hb hd (K H locs ls (_ :: st) hr1 hl1 ⟨rfl, hs3⟩ hq1)
theorem st_isub (M : aMc s0 mi p s m meth c) {y z : Int32} (hd : decode (aMt mi).2.2.1 pc = .ok (.isub, 1)) (K : aG s0 x D Lx xs p l e R s m args below meth c Q n0 t0 (pc + 1, L, vI (y - z) :: S, h)) : aG s0 x D Lx xs p l e R s m args below meth c Q n0 t0 (pc, L, vI z :: vI y :: S, h) := by
  obtain ⟨hx, hb, hml, hown, hW, hr, hlk, hnm⟩ := M
  intro H locs ls st hr1 hl1 hs1 hq1
  obtain ⟨v, st, rfl, rfl, hs2⟩ := sOK_cons hs1
  obtain ⟨w, st, rfl, rfl, hs3⟩ := sOK_cons hs2
  exact lv_isub hx hb hd (K H locs ls (_ :: st) hr1 hl1 ⟨rfl, hs3⟩ hq1)
theorem st_imul (M : aMc s0 mi p s m meth c) {y z : Int32} (hd : decode (aMt mi).2.2.1 pc = .ok (.imul, 1)) (K : aG s0 x D Lx xs p l e R s m args below meth c Q n0 t0 (pc + 1, L, vI (y * z) :: S, h)) : aG s0 x D Lx xs p l e R s m args below meth c Q n0 t0 (pc, L, vI z :: vI y :: S, h) := by
  obtain ⟨hx, hb, hml, hown, hW, hr, hlk, hnm⟩ := M
  intro H locs ls st hr1 hl1 hs1 hq1
  obtain ⟨v, st, rfl, rfl, hs2⟩ := sOK_cons hs1
  obtain ⟨w, st, rfl, rfl, hs3⟩ := sOK_cons hs2
  exact lv_imul hx hb hd (K H locs ls (_ :: st) hr1 hl1 ⟨rfl, hs3⟩ hq1)
theorem st_iand (M : aMc s0 mi p s m meth c) {y z : Int32} (hd : decode (aMt mi).2.2.1 pc = .ok (.iand, 1)) (K : aG s0 x D Lx xs p l e R s m args below meth c Q n0 t0 (pc + 1, L, vI (y &&& z) :: S, h)) : aG s0 x D Lx xs p l e R s m args below meth c Q n0 t0 (pc, L, vI z :: vI y :: S, h) := by
  obtain ⟨hx, hb, hml, hown, hW, hr, hlk, hnm⟩ := M
  intro H locs ls st hr1 hl1 hs1 hq1
  obtain ⟨v, st, rfl, rfl, hs2⟩ := sOK_cons hs1
  obtain ⟨w, st, rfl, rfl, hs3⟩ := sOK_cons hs2
  exact lv_iand hx hb hd (K H locs ls (_ :: st) hr1 hl1 ⟨rfl, hs3⟩ hq1)
theorem st_ior (M : aMc s0 mi p s m meth c) {y z : Int32} (hd : decode (aMt mi).2.2.1 pc = .ok (.ior, 1)) (K : aG s0 x D Lx xs p l e R s m args below meth c Q n0 t0 (pc + 1, L, vI (y ||| z) :: S, h)) : aG s0 x D Lx xs p l e R s m args below meth c Q n0 t0 (pc, L, vI z :: vI y :: S, h) := by
  obtain ⟨hx, hb, hml, hown, hW, hr, hlk, hnm⟩ := M
  intro H locs ls st hr1 hl1 hs1 hq1
  obtain ⟨v, st, rfl, rfl, hs2⟩ := sOK_cons hs1
  obtain ⟨w, st, rfl, rfl, hs3⟩ := sOK_cons hs2
  exact lv_ior hx hb hd (K H locs ls (_ :: st) hr1 hl1 ⟨rfl, hs3⟩ hq1)
theorem st_ixor (M : aMc s0 mi p s m meth c) {y z : Int32} (hd : decode (aMt mi).2.2.1 pc = .ok (.ixor, 1)) (K : aG s0 x D Lx xs p l e R s m args below meth c Q n0 t0 (pc + 1, L, vI (y ^^^ z) :: S, h)) : aG s0 x D Lx xs p l e R s m args below meth c Q n0 t0 (pc, L, vI z :: vI y :: S, h) := by
  obtain ⟨hx, hb, hml, hown, hW, hr, hlk, hnm⟩ := M
  intro H locs ls st hr1 hl1 hs1 hq1
  obtain ⟨v, st, rfl, rfl, hs2⟩ := sOK_cons hs1
  obtain ⟨w, st, rfl, rfl, hs3⟩ := sOK_cons hs2
  exact lv_ixor hx hb hd (K H locs ls (_ :: st) hr1 hl1 ⟨rfl, hs3⟩ hq1)
theorem st_ishl (M : aMc s0 mi p s m meth c) {y z : Int32} (hd : decode (aMt mi).2.2.1 pc = .ok (.ishl, 1)) (K : aG s0 x D Lx xs p l e R s m args below meth c Q n0 t0 (pc + 1, L, vI (y <<< (z &&& 31)) :: S, h)) : aG s0 x D Lx xs p l e R s m args below meth c Q n0 t0 (pc, L, vI z :: vI y :: S, h) := by
  obtain ⟨hx, hb, hml, hown, hW, hr, hlk, hnm⟩ := M
  intro H locs ls st hr1 hl1 hs1 hq1
  obtain ⟨v, st, rfl, rfl, hs2⟩ := sOK_cons hs1
  obtain ⟨w, st, rfl, rfl, hs3⟩ := sOK_cons hs2
  exact lv_ishl hx hb hd (K H locs ls (_ :: st) hr1 hl1 ⟨rfl, hs3⟩ hq1)
theorem st_ishr (M : aMc s0 mi p s m meth c) {y z : Int32} (hd : decode (aMt mi).2.2.1 pc = .ok (.ishr, 1)) (K : aG s0 x D Lx xs p l e R s m args below meth c Q n0 t0 (pc + 1, L, vI (y >>> (z &&& 31)) :: S, h)) : aG s0 x D Lx xs p l e R s m args below meth c Q n0 t0 (pc, L, vI z :: vI y :: S, h) := by
  obtain ⟨hx, hb, hml, hown, hW, hr, hlk, hnm⟩ := M
  intro H locs ls st hr1 hl1 hs1 hq1
  obtain ⟨v, st, rfl, rfl, hs2⟩ := sOK_cons hs1
  obtain ⟨w, st, rfl, rfl, hs3⟩ := sOK_cons hs2
  exact lv_ishr hx hb hd (K H locs ls (_ :: st) hr1 hl1 ⟨rfl, hs3⟩ hq1)
theorem st_iushr (M : aMc s0 mi p s m meth c) {y z : Int32} (hd : decode (aMt mi).2.2.1 pc = .ok (.iushr, 1)) (K : aG s0 x D Lx xs p l e R s m args below meth c Q n0 t0 (pc + 1, L, vI (aUshr y z) :: S, h)) : aG s0 x D Lx xs p l e R s m args below meth c Q n0 t0 (pc, L, vI z :: vI y :: S, h) := by
  obtain ⟨hx, hb, hml, hown, hW, hr, hlk, hnm⟩ := M
  intro H locs ls st hr1 hl1 hs1 hq1
  obtain ⟨v, st, rfl, rfl, hs2⟩ := sOK_cons hs1
  obtain ⟨w, st, rfl, rfl, hs3⟩ := sOK_cons hs2
  exact lv_iushr hx hb hd rfl (K H locs ls (_ :: st) hr1 hl1 ⟨rfl, hs3⟩ hq1)
theorem st_idiv (M : aMc s0 mi p s m meth c) {y z : Int32} (hz : ¬ z = 0) (hd : decode (aMt mi).2.2.1 pc = .ok (.idiv, 1)) (K : aG s0 x D Lx xs p l e R s m args below meth c Q n0 t0 (pc + 1, L, vI (y / z) :: S, h)) : aG s0 x D Lx xs p l e R s m args below meth c Q n0 t0 (pc, L, vI z :: vI y :: S, h) := by
  obtain ⟨hx, hb, hml, hown, hW, hr, hlk, hnm⟩ := M
  intro H locs ls st hr1 hl1 hs1 hq1
  obtain ⟨v, st, rfl, rfl, hs2⟩ := sOK_cons hs1
  obtain ⟨w, st, rfl, rfl, hs3⟩ := sOK_cons hs2
  exact lv_idiv hx hb hd hz (K H locs ls (_ :: st) hr1 hl1 ⟨rfl, hs3⟩ hq1)
theorem st_irem (M : aMc s0 mi p s m meth c) {y z : Int32} (hz : ¬ z = 0) (hd : decode (aMt mi).2.2.1 pc = .ok (.irem, 1)) (K : aG s0 x D Lx xs p l e R s m args below meth c Q n0 t0 (pc + 1, L, vI (aIrem y z) :: S, h)) : aG s0 x D Lx xs p l e R s m args below meth c Q n0 t0 (pc, L, vI z :: vI y :: S, h) := by
  obtain ⟨hx, hb, hml, hown, hW, hr, hlk, hnm⟩ := M
  intro H locs ls st hr1 hl1 hs1 hq1
  obtain ⟨v, st, rfl, rfl, hs2⟩ := sOK_cons hs1
  obtain ⟨w, st, rfl, rfl, hs3⟩ := sOK_cons hs2
  exact lv_irem hx hb hd hz (K H locs ls (_ :: st) hr1 hl1 ⟨rfl, hs3⟩ hq1)
theorem st_ladd (M : aMc s0 mi p s m meth c) {y z : Int64} (hd : decode (aMt mi).2.2.1 pc = .ok (.ladd, 1)) (K : aG s0 x D Lx xs p l e R s m args below meth c Q n0 t0 (pc + 1, L, vL (y + z) :: S, h)) : aG s0 x D Lx xs p l e R s m args below meth c Q n0 t0 (pc, L, vL z :: vL y :: S, h) := by
  obtain ⟨hx, hb, hml, hown, hW, hr, hlk, hnm⟩ := M
  intro H locs ls st hr1 hl1 hs1 hq1
  obtain ⟨v, st, rfl, rfl, hs2⟩ := sOK_cons hs1
  obtain ⟨w, st, rfl, rfl, hs3⟩ := sOK_cons hs2
  exact lv_ladd hx hb hd (K H locs ls (_ :: st) hr1 hl1 ⟨rfl, hs3⟩ hq1)
theorem st_lmul (M : aMc s0 mi p s m meth c) {y z : Int64} (hd : decode (aMt mi).2.2.1 pc = .ok (.lmul, 1)) (K : aG s0 x D Lx xs p l e R s m args below meth c Q n0 t0 (pc + 1, L, vL (y * z) :: S, h)) : aG s0 x D Lx xs p l e R s m args below meth c Q n0 t0 (pc, L, vL z :: vL y :: S, h) := by
  obtain ⟨hx, hb, hml, hown, hW, hr, hlk, hnm⟩ := M
  intro H locs ls st hr1 hl1 hs1 hq1
  obtain ⟨v, st, rfl, rfl, hs2⟩ := sOK_cons hs1
  obtain ⟨w, st, rfl, rfl, hs3⟩ := sOK_cons hs2
  exact lv_lmul hx hb hd (K H locs ls (_ :: st) hr1 hl1 ⟨rfl, hs3⟩ hq1)
theorem st_lor (M : aMc s0 mi p s m meth c) {y z : Int64} (hd : decode (aMt mi).2.2.1 pc = .ok (.lor, 1)) (K : aG s0 x D Lx xs p l e R s m args below meth c Q n0 t0 (pc + 1, L, vL (y ||| z) :: S, h)) : aG s0 x D Lx xs p l e R s m args below meth c Q n0 t0 (pc, L, vL z :: vL y :: S, h) := by
  obtain ⟨hx, hb, hml, hown, hW, hr, hlk, hnm⟩ := M
  intro H locs ls st hr1 hl1 hs1 hq1
  obtain ⟨v, st, rfl, rfl, hs2⟩ := sOK_cons hs1
  obtain ⟨w, st, rfl, rfl, hs3⟩ := sOK_cons hs2
  exact lv_lor hx hb hd (K H locs ls (_ :: st) hr1 hl1 ⟨rfl, hs3⟩ hq1)
theorem st_ldiv (M : aMc s0 mi p s m meth c) {y z : Int64} (hz : ¬ z = 0) (hd : decode (aMt mi).2.2.1 pc = .ok (.ldiv, 1)) (K : aG s0 x D Lx xs p l e R s m args below meth c Q n0 t0 (pc + 1, L, vL (y / z) :: S, h)) : aG s0 x D Lx xs p l e R s m args below meth c Q n0 t0 (pc, L, vL z :: vL y :: S, h) := by
  obtain ⟨hx, hb, hml, hown, hW, hr, hlk, hnm⟩ := M
  intro H locs ls st hr1 hl1 hs1 hq1
  obtain ⟨v, st, rfl, rfl, hs2⟩ := sOK_cons hs1
  obtain ⟨w, st, rfl, rfl, hs3⟩ := sOK_cons hs2
  exact lv_ldiv hx hb hd hz (K H locs ls (_ :: st) hr1 hl1 ⟨rfl, hs3⟩ hq1)
theorem st_lshl (M : aMc s0 mi p s m meth c) {y : Int64} {z : Int32} (hd : decode (aMt mi).2.2.1 pc = .ok (.lshl, 1)) (K : aG s0 x D Lx xs p l e R s m args below meth c Q n0 t0 (pc + 1, L, vL (y <<< (z.toInt64 &&& 63)) :: S, h)) : aG s0 x D Lx xs p l e R s m args below meth c Q n0 t0 (pc, L, vI z :: vL y :: S, h) := by
  obtain ⟨hx, hb, hml, hown, hW, hr, hlk, hnm⟩ := M
  intro H locs ls st hr1 hl1 hs1 hq1
  obtain ⟨v, st, rfl, rfl, hs2⟩ := sOK_cons hs1
  obtain ⟨w, st, rfl, rfl, hs3⟩ := sOK_cons hs2
  exact lv_lshl hx hb hd rfl (K H locs ls (_ :: st) hr1 hl1 ⟨rfl, hs3⟩ hq1)
theorem aLcmp_eq (y z : Int64) : aLcmp y z = lg_cmp y z := by
  unfold aLcmp lg_cmp
  by_cases h1 : y < z
  · have h2 : ¬ y > z := fun q => by rw [gt_iff_lt, Int64.lt_iff_toInt_lt] at q; rw [Int64.lt_iff_toInt_lt] at h1; omega
    have h3 : ¬ y = z := fun q => by rw [Int64.lt_iff_toInt_lt, q] at h1; omega
    rw [if_pos h1, if_neg h2, if_neg h3]
  · by_cases h2 : y = z
    · subst h2
      rw [if_neg h1, if_pos rfl, if_neg (show ¬ y > y from h1), if_pos rfl]
    · have h3 : y > z := by
        rw [gt_iff_lt, Int64.lt_iff_toInt_lt]
        rw [Int64.lt_iff_toInt_lt] at h1
        have : y.toInt ≠ z.toInt := fun q => h2 (Int64.toInt_inj.mp q)
        omega
      rw [if_neg h1, if_neg h2, if_pos h3]
theorem st_lcmp (M : aMc s0 mi p s m meth c) {y z : Int64} (hd : decode (aMt mi).2.2.1 pc = .ok (.lcmp, 1)) (K : aG s0 x D Lx xs p l e R s m args below meth c Q n0 t0 (pc + 1, L, vI (aLcmp y z) :: S, h)) : aG s0 x D Lx xs p l e R s m args below meth c Q n0 t0 (pc, L, vL z :: vL y :: S, h) := by
  obtain ⟨hx, hb, hml, hown, hW, hr, hlk, hnm⟩ := M
  intro H locs ls st hr1 hl1 hs1 hq1
  obtain ⟨v, st, rfl, rfl, hs2⟩ := sOK_cons hs1
  obtain ⟨w, st, rfl, rfl, hs3⟩ := sOK_cons hs2
  exact W.lcmp hx hb hd (K H locs ls (_ :: st) hr1 hl1 ⟨by rw [aLcmp_eq]; rfl, hs3⟩ hq1)
theorem st_ineg (M : aMc s0 mi p s m meth c) {y : Int32} (hd : decode (aMt mi).2.2.1 pc = .ok (.ineg, 1)) (K : aG s0 x D Lx xs p l e R s m args below meth c Q n0 t0 (pc + 1, L, vI (-y) :: S, h)) : aG s0 x D Lx xs p l e R s m args below meth c Q n0 t0 (pc, L, vI y :: S, h) := by
  obtain ⟨hx, hb, hml, hown, hW, hr, hlk, hnm⟩ := M
  intro H locs ls st hr1 hl1 hs1 hq1
  obtain ⟨v, st, rfl, rfl, hs2⟩ := sOK_cons hs1
  exact lv_ineg hx hb hd (K H locs ls (_ :: st) hr1 hl1 ⟨rfl, hs2⟩ hq1)
theorem st_i2b (M : aMc s0 mi p s m meth c) {y : Int32} (hd : decode (aMt mi).2.2.1 pc = .ok (.i2b, 1)) (K : aG s0 x D Lx xs p l e R s m args below meth c Q n0 t0 (pc + 1, L, vI y.toInt8.toInt32 :: S, h)) : aG s0 x D Lx xs p l e R s m args below meth c Q n0 t0 (pc, L, vI y :: S, h) := by
  obtain ⟨hx, hb, hml, hown, hW, hr, hlk, hnm⟩ := M
  intro H locs ls st hr1 hl1 hs1 hq1
  obtain ⟨v, st, rfl, rfl, hs2⟩ := sOK_cons hs1
  exact lv_i2b hx hb hd rfl (K H locs ls (_ :: st) hr1 hl1 ⟨rfl, hs2⟩ hq1)
theorem st_i2l (M : aMc s0 mi p s m meth c) {y : Int32} (hd : decode (aMt mi).2.2.1 pc = .ok (.i2l, 1)) (K : aG s0 x D Lx xs p l e R s m args below meth c Q n0 t0 (pc + 1, L, vL y.toInt64 :: S, h)) : aG s0 x D Lx xs p l e R s m args below meth c Q n0 t0 (pc, L, vI y :: S, h) := by
  obtain ⟨hx, hb, hml, hown, hW, hr, hlk, hnm⟩ := M
  intro H locs ls st hr1 hl1 hs1 hq1
  obtain ⟨v, st, rfl, rfl, hs2⟩ := sOK_cons hs1
  exact lv_i2l hx hb hd rfl (K H locs ls (_ :: st) hr1 hl1 ⟨rfl, hs2⟩ hq1)
theorem st_l2i (M : aMc s0 mi p s m meth c) {y : Int64} (hd : decode (aMt mi).2.2.1 pc = .ok (.l2i, 1)) (K : aG s0 x D Lx xs p l e R s m args below meth c Q n0 t0 (pc + 1, L, vI y.toInt32 :: S, h)) : aG s0 x D Lx xs p l e R s m args below meth c Q n0 t0 (pc, L, vL y :: S, h) := by
  obtain ⟨hx, hb, hml, hown, hW, hr, hlk, hnm⟩ := M
  intro H locs ls st hr1 hl1 hs1 hq1
  obtain ⟨v, st, rfl, rfl, hs2⟩ := sOK_cons hs1
  exact lv_l2i hx hb hd rfl (K H locs ls (_ :: st) hr1 hl1 ⟨rfl, hs2⟩ hq1)
theorem st_dup (M : aMc s0 mi p s m meth c) {a : aV} (ha : aCat1 a = true) (hd : decode (aMt mi).2.2.1 pc = .ok (.dup, 1)) (K : aG s0 x D Lx xs p l e R s m args below meth c Q n0 t0 (pc + 1, L, a :: a :: S, h)) : aG s0 x D Lx xs p l e R s m args below meth c Q n0 t0 (pc, L, a :: S, h) := by
  obtain ⟨hx, hb, hml, hown, hW, hr, hlk, hnm⟩ := M
  intro H locs ls st hr1 hl1 hs1 hq1
  obtain ⟨v, st, rfl, hv1, hs2⟩ := sOK_cons hs1
  exact lv_dup hx hb hd (vOK_cat1 hv1 ha) (K H locs ls (_ :: _ :: st) hr1 hl1 ⟨hv1, hv1, hs2⟩ hq1)
theorem st_pop (M : aMc s0 mi p s m meth c) {a : aV} (ha : aCat1 a = true) (hd : decode (aMt mi).2.2.1 pc = .ok (.pop, 1)) (K : aG s0 x D Lx xs p l e R s m args below meth c Q n0 t0 (pc + 1, L, S, h)) : aG s0 x D Lx xs p l e R s m args below meth c Q n0 t0 (pc, L, a :: S, h) := by
  obtain ⟨hx, hb, hml, hown, hW, hr, hlk, hnm⟩ := M
  intro H locs ls st hr1 hl1 hs1 hq1
  obtain ⟨v, st, rfl, hv1, hs2⟩ := sOK_cons hs1
  exact lv_pop hx hb hd (vOK_cat1 hv1 ha) (K H locs ls st hr1 hl1 hs2 hq1)
theorem st_dup_x1 (M : aMc s0 mi p s m meth c) {a b9 : aV} (ha : aCat1 a = true) (hb9 : aCat1 b9 = true) (hd : decode (aMt mi).2.2.1 pc = .ok (.dup_x1, 1)) (K : aG s0 x D Lx xs p l e R s m args below meth c Q n0 t0 (pc + 1, L, a :: b9 :: a :: S, h)) : aG s0 x D Lx xs p l e R s m args below meth c Q n0 t0 (pc, L, a :: b9 :: S, h) := by
  obtain ⟨hx, hb, hml, hown, hW, hr, hlk, hnm⟩ := M
  intro H locs ls st hr1 hl1 hs1 hq1
  obtain ⟨v, st, rfl, hv1, hs2⟩ := sOK_cons hs1
  obtain ⟨w, st, rfl, hv2, hs3⟩ := sOK_cons hs2
  exact lv_dup_x1 hx hb hd (vOK_cat1 hv1 ha) (vOK_cat1 hv2 hb9) (K H locs ls (_ :: _ :: _ :: st) hr1 hl1 ⟨hv1, hv2, hv1, hs3⟩ hq1)
theorem st_dup2 (M : aMc s0 mi p s m meth c) {a b9 : aV} (ha : aCat1 a = true) (hb9 : aCat1 b9 = true) (hd : decode (aMt mi).2.2.1 pc = .ok (.dup2, 1)) (K : aG s0 x D Lx xs p l e R s m args below meth c Q n0 t0 (pc + 1, L, a :: b9 :: a :: b9 :: S, h)) : aG s0 x D Lx xs p l e R s m args below meth c Q n0 t0 (pc, L, a :: b9 :: S, h) := by
  obtain ⟨hx, hb, hml, hown, hW, hr, hlk, hnm⟩ := M
  intro H locs ls st hr1 hl1 hs1 hq1
  obtain ⟨v, st, rfl, hv1, hs2⟩ := sOK_cons hs1
  obtain ⟨w, st, rfl, hv2, hs3⟩ := sOK_cons hs2
  exact lv_dup2_11 hx hb hd (vOK_cat1 hv1 ha) (vOK_cat1 hv2 hb9) (K H locs ls (_ :: _ :: _ :: _ :: st) hr1 hl1 ⟨hv1, hv2, hv1, hv2, hs3⟩ hq1)
theorem aCond_iff (k : Jvm.ClassFile.Cond) (y z : Int32) : aCond k y z = true ↔ (match k with | .eq => y = z | .ne => ¬ y = z | .lt => y < z | .ge => z ≤ y | .gt => z < y | .le => y ≤ z) := by
  cases k <;> simp [aCond]
theorem aOff {off : Int} (h0 : 0 ≤ (pc : Int) + off) : (pc : Int) + off = ((((pc : Int) + off).toNat : Nat) : Int) := (Int.toNat_of_nonneg h0).symm
theorem st_if_icmp_eq (M : aMc s0 mi p s m meth c) {y z : Int32} {off : Int} (h0 : 0 ≤ (pc : Int) + off) (hd : decode (aMt mi).2.2.1 pc = .ok (.if_icmp .eq off, 3)) (K : aG s0 x D Lx xs p l e R s m args below meth c Q n0 t0 ((if aCond .eq y z = true then ((pc : Int) + off).toNat else pc + 3), L, S, h)) : aG s0 x D Lx xs p l e R s m args below meth c Q n0 t0 (pc, L, vI z :: vI y :: S, h) := by
  obtain ⟨hx, hb, hml, hown, hW, hr, hlk, hnm⟩ := M
  intro H locs ls st hr1 hl1 hs1 hq1
  obtain ⟨v, st, rfl, rfl, hs2⟩ := sOK_cons hs1
  obtain ⟨w, st, rfl, rfl, hs3⟩ := sOK_cons hs2
  refine lv_icmp_eq (tgt := ((pc : Int) + off).toNat) hx hb hd (aOff h0) (fun q => ?_) (fun q => ?_)
  · rw [if_pos ((aCond_iff .eq _ _).mpr q)] at K
    exact K H locs ls st hr1 hl1 hs3 hq1
  · rw [if_neg (fun w => q ((aCond_iff .eq _ _).mp w))] at K
    exact K H locs ls st hr1 hl1 hs3 hq1
theorem st_ifCond_eq (M : aMc s0 mi p s m meth c) {y : Int32} {off : Int} (h0 : 0 ≤ (pc : Int) + off) (hd : decode (aMt mi).2.2.1 pc = .ok (.ifCond .eq off, 3)) (K : aG s0 x D Lx xs p l e R s m args below meth c Q n0 t0 ((if aCond .eq y 0 = true then ((pc : Int) + off).toNat else pc + 3), L, S, h)) : aG s0 x D Lx xs p l e R s m args below meth c Q n0 t0 (pc, L, vI y :: S, h) := by
  obtain ⟨hx, hb, hml, hown, hW, hr, hlk, hnm⟩ := M
  intro H locs ls st hr1 hl1 hs1 hq1
  obtain ⟨v, st, rfl, rfl, hs2⟩ := sOK_cons hs1
  refine lv_if_eq (tgt := ((pc : Int) + off).toNat) hx hb hd (aOff h0) (fun q => ?_) (fun q => ?_)
  · rw [if_pos ((aCond_iff .eq _ _).mpr q)] at K
    exact K H locs ls st hr1 hl1 hs2 hq1
  · rw [if_neg (fun w => q ((aCond_iff .eq _ _).mp w))] at K
    exact K H locs ls st hr1 hl1 hs2 hq1
theorem st_if_icmp_ne (M : aMc s0 mi p s m meth c) {y z : Int32} {off : Int} (h0 : 0 ≤ (pc : Int) + off) (hd : decode (aMt mi).2.2.1 pc = .ok (.if_icmp .ne off, 3)) (K : aG s0 x D Lx xs p l e R s m args below meth c Q n0 t0 ((if aCond .ne y z = true then ((pc : Int) + off).toNat else pc + 3), L, S, h)) : aG s0 x D Lx xs p l e R s m args below meth c Q n0 t0 (pc, L, vI z :: vI y :: S, h) := by
  obtain ⟨hx, hb, hml, hown, hW, hr, hlk, hnm⟩ := M
  intro H locs ls st hr1 hl1 hs1 hq1
  obtain ⟨v, st, rfl, rfl, hs2⟩ := sOK_cons hs1
  obtain ⟨w, st, rfl, rfl, hs3⟩ := sOK_cons hs2
  refine lv_icmp_ne (tgt := ((pc : Int) + off).toNat) hx hb hd (aOff h0) (fun q => ?_) (fun q => ?_)
  · rw [if_pos ((aCond_iff .ne _ _).mpr q)] at K
    exact K H locs ls st hr1 hl1 hs3 hq1
  · rw [if_neg (fun w => ((aCond_iff .ne _ _).mp w) q)] at K
    exact K H locs ls st hr1 hl1 hs3 hq1
theorem st_ifCond_ne (M : aMc s0 mi p s m meth c) {y : Int32} {off : Int} (h0 : 0 ≤ (pc : Int) + off) (hd : decode (aMt mi).2.2.1 pc = .ok (.ifCond .ne off, 3)) (K : aG s0 x D Lx xs p l e R s m args below meth c Q n0 t0 ((if aCond .ne y 0 = true then ((pc : Int) + off).toNat else pc + 3), L, S, h)) : aG s0 x D Lx xs p l e R s m args below meth c Q n0 t0 (pc, L, vI y :: S, h) := by
  obtain ⟨hx, hb, hml, hown, hW, hr, hlk, hnm⟩ := M
  intro H locs ls st hr1 hl1 hs1 hq1
  obtain ⟨v, st, rfl, rfl, hs2⟩ := sOK_cons hs1
  refine lv_if_ne (tgt := ((pc : Int) + off).toNat) hx hb hd (aOff h0) (fun q => ?_) (fun q => ?_)
  · rw [if_pos ((aCond_iff .ne _ _).mpr q)] at K
    exact K H locs ls st hr1 hl1 hs2 hq1
  · rw [if_neg (fun w => ((aCond_iff .ne _ _).mp w) q)] at K
    exact K H locs ls st hr1 hl1 hs2 hq1
theorem st_if_icmp_lt (M : aMc s0 mi p s m meth c) {y z : Int32} {off : Int} (h0 : 0 ≤ (pc : Int) + off) (hd : decode (aMt mi).2.2.1 pc = .ok (.if_icmp .lt off, 3)) (K : aG s0 x D Lx xs p l e R s m args below meth c Q n0 t0 ((if aCond .lt y z = true then ((pc : Int) + off).toNat else pc + 3), L, S, h)) : aG s0 x D Lx xs p l e R s m args below meth c Q n0 t0 (pc, L, vI z :: vI y :: S, h) := by
  obtain ⟨hx, hb, hml, hown, hW, hr, hlk, hnm⟩ := M
  intro H locs ls st hr1 hl1 hs1 hq1
  obtain ⟨v, st, rfl, rfl, hs2⟩ := sOK_cons hs1
  obtain ⟨w, st, rfl, rfl, hs3⟩ := sOK_cons hs2
  refine lv_icmp_lt (tgt := ((pc : Int) + off).toNat) hx hb hd (aOff h0) (fun q => ?_) (fun q => ?_)
  · rw [if_pos ((aCond_iff .lt _ _).mpr q)] at K
    exact K H locs ls st hr1 hl1 hs3 hq1
  · rw [if_neg (fun w => q ((aCond_iff .lt _ _).mp w))] at K
    exact K H locs ls st hr1 hl1 hs3 hq1
theorem st_ifCond_lt (M : aMc s0 mi p s m meth c) {y : Int32} {off : Int} (h0 : 0 ≤ (pc : Int) + off) (hd : decode (aMt mi).2.2.1 pc = .ok (.ifCond .lt off, 3)) (K : aG s0 x D Lx xs p l e R s m args below meth c Q n0 t0 ((if aCond .lt y 0 = true then ((pc : Int) + off).toNat else pc + 3), L, S, h)) : aG s0 x D Lx xs p l e R s m args below meth c Q n0 t0 (pc, L, vI y :: S, h) := by
  obtain ⟨hx, hb, hml, hown, hW, hr, hlk, hnm⟩ := M
  intro H locs ls st hr1 hl1 hs1 hq1
  obtain ⟨v, st, rfl, rfl, hs2⟩ := sOK_cons hs1
  refine lv_if_lt (tgt := ((pc : Int) + off).toNat) hx hb hd (aOff h0) (fun q => ?_) (fun q => ?_)
  · rw [if_pos ((aCond_iff .lt _ _).mpr q)] at K
    exact K H locs ls st hr1 hl1 hs2 hq1
  · rw [if_neg (fun w => q ((aCond_iff .lt _ _).mp w))] at K
    exact K H locs ls st hr1 hl1 hs2 hq1
theorem st_if_icmp_ge (M : aMc s0 mi p s m meth c) {y z : Int32} {off : Int} (h0 : 0 ≤ (pc : Int) + off) (hd : decode (aMt mi).2.2.1 pc = .ok (.if_icmp .ge off, 3)) (K : aG s0 x D Lx xs p l e R s m args below meth c Q n0 t0 ((if aCond .ge y z = true then ((pc : Int) + off).toNat else pc + 3), L, S, h)) : aG s0 x D Lx xs p l e R s m args below meth c Q n0 t0 (pc, L, vI z :: vI y :: S, h) := by
  obtain ⟨hx, hb, hml, hown, hW, hr, hlk, hnm⟩ := M
  intro H locs ls st hr1 hl1 hs1 hq1
  obtain ⟨v, st, rfl, rfl, hs2⟩ := sOK_cons hs1
  obtain ⟨w, st, rfl, rfl, hs3⟩ := sOK_cons hs2
  refine lv_icmp_ge (tgt := ((pc : Int) + off).toNat) hx hb hd (aOff h0) (fun q => ?_) (fun q => ?_)
  · rw [if_pos ((aCond_iff .ge _ _).mpr q)] at K
    exact K H locs ls st hr1 hl1 hs3 hq1
  · rw [if_neg (fun w => q ((aCond_iff .ge _ _).mp w))] at K
    exact K H locs ls st hr1 hl1 hs3 hq1
theorem st_ifCond_ge (M : aMc s0 mi p s m meth c) {y : Int32} {off : Int} (h0 : 0 ≤ (pc : Int) + off) (hd : decode (aMt mi).2.2.1 pc = .ok (.ifCond .ge off, 3)) (K : aG s0 x D Lx xs p l e R s m args below meth c Q n0 t0 ((if aCond .ge y 0 = true then ((pc : Int) + off).toNat else pc + 3), L, S, h)) : aG s0 x D Lx xs p l e R s m args below meth c Q n0 t0 (pc, L, vI y :: S, h) := by
  obtain ⟨hx, hb, hml, hown, hW, hr, hlk, hnm⟩ := M
  intro H locs ls st hr1 hl1 hs1 hq1
  obtain ⟨v, st, rfl, rfl, hs2⟩ := sOK_cons hs1
  refine lv_if_ge (tgt := ((pc : Int) + off).toNat) hx hb hd (aOff h0) (fun q => ?_) (fun q => ?_)
  · rw [if_pos ((aCond_iff .ge _ _).mpr q)] at K
    exact K H locs ls st hr1 hl1 hs2 hq1
  · rw [if_neg (fun w => q ((aCond_iff .ge _ _).mp w))] at K
    exact K H locs ls st hr1 hl1 hs2 hq1
theorem st_if_icmp_gt (M : aMc s0 mi p s m meth c) {y z : Int32} {off : Int} (h0 : 0 ≤ (pc : Int) + off) (hd : decode (aMt mi).2.2.1 pc = .ok (.if_icmp .gt off, 3)) (K : aG s0 x D Lx xs p l e R s m args below meth c Q n0 t0 ((if aCond .gt y z = true then ((pc : Int) + off).toNat else pc + 3), L, S, h)) : aG s0 x D Lx xs p l e R s m args below meth c Q n0 t0 (pc, L, vI z :: vI y :: S, h) := by
  obtain ⟨hx, hb, hml, hown, hW, hr, hlk, hnm⟩ := M
  intro H locs ls st hr1 hl1 hs1 hq1
  obtain ⟨v, st, rfl, rfl, hs2⟩ := sOK_cons hs1
  obtain ⟨w, st, rfl, rfl, hs3⟩ := sOK_cons hs2
  refine lv_icmp_gt (tgt := ((pc : Int) + off).toNat) hx hb hd (aOff h0) (fun q => ?_) (fun q => ?_)
  · rw [if_pos ((aCond_iff .gt _ _).mpr q)] at K
    exact K H locs ls st hr1 hl1 hs3 hq1
  · rw [if_neg (fun w => q ((aCond_iff .gt _ _).mp w))] at K
    exact K H locs ls st hr1 hl1 hs3 hq1
theorem st_ifCond_gt (M : aMc s0 mi p s m meth c) {y : Int32} {off : Int} (h0 : 0 ≤ (pc : Int) + off) (hd : decode (aMt mi).2.2.1 pc = .ok (.ifCond .gt off, 3)) (K : aG s0 x D Lx xs p l e R s m args below meth c Q n0 t0 ((if aCond .gt y 0 = true then ((pc : Int) + off).toNat else pc + 3), L, S, h)) : aG s0 x D Lx xs p l e R s m args below meth c Q n0 t0 (pc, L, vI y :: S, h) := by
  obtain ⟨hx, hb, hml, hown, hW, hr, hlk, hnm⟩ := M
  intro H locs ls st hr1 hl1 hs1 hq1
  obtain ⟨v, st, rfl, rfl, hs2⟩ := sOK_cons hs1
  refine lv_if_gt (tgt := ((pc : Int) + off).toNat) hx hb hd (aOff h0) (fun q => ?_) (fun q => ?_)
  · rw [if_pos ((aCond_iff .gt _ _).mpr q)] at K
    exact K H locs ls st hr1 hl1 hs2 hq1
  · rw [if_neg (fun w => q ((aCond_iff .gt _ _).mp w))] at K
    exact K H locs ls st hr1 hl1 hs2 hq1
theorem st_if_icmp_le (M : aMc s0 mi p s m meth c) {y z : Int32} {off : Int} (h0 : 0 ≤ (pc : Int) + off) (hd : decode (aMt mi).2.2.1 pc = .ok (.if_icmp .le off, 3)) (K : aG s0 x D Lx xs p l e R s m args below meth c Q n0 t0 ((if aCond .le y z = true then ((pc : Int) + off).toNat else pc + 3), L, S, h)) : aG s0 x D Lx xs p l e R s m args below meth c Q n0 t0 (pc, L, vI z :: vI y :: S, h) := by
  obtain ⟨hx, hb, hml, hown, hW, hr, hlk, hnm⟩ := M
  intro H locs ls st hr1 hl1 hs1 hq1
  obtain ⟨v, st, rfl, rfl, hs2⟩ := sOK_cons hs1
  obtain ⟨w, st, rfl, rfl, hs3⟩ := sOK_cons hs2
  refine lv_icmp_le (tgt := ((pc : Int) + off).toNat) hx hb hd (aOff h0) (fun q => ?_) (fun q => ?_)
  · rw [if_pos ((aCond_iff .le _ _).mpr q)] at K
    exact K H locs ls st hr1 hl1 hs3 hq1
  · rw [if_neg (fun w => q ((aCond_iff .le _ _).mp w))] at K
    exact K H locs ls st hr1 hl1 hs3 hq1
theorem st_ifCond_le (M : aMc s0 mi p s m meth c) {y : Int32} {off : Int} (h0 : 0 ≤ (pc : Int) + off) (hd : decode (aMt mi).2.2.1 pc = .ok (.ifCond .le off, 3)) (K : aG s0 x D Lx xs p l e R s m args below meth c Q n0 t0 ((if aCond .le y 0 = true then ((pc : Int) + off).toNat else pc + 3), L, S, h)) : aG s0 x D Lx xs p l e R s m args below meth c Q n0 t0 (pc, L, vI y :: S, h) := by
  obtain ⟨hx, hb, hml, hown, hW, hr, hlk, hnm⟩ := M
  intro H locs ls st hr1 hl1 hs1 hq1
  obtain ⟨v, st, rfl, rfl, hs2⟩ := sOK_cons hs1
  refine lv_if_le (tgt := ((pc : Int) + off).toNat) hx hb hd (aOff h0) (fun q => ?_) (fun q => ?_)
  · rw [if_pos ((aCond_iff .le _ _).mpr q)] at K
    exact K H locs ls st hr1 hl1 hs2 hq1
  · rw [if_neg (fun w => q ((aCond_iff .le _ _).mp w))] at K
    exact K H locs ls st hr1 hl1 hs2 hq1
theorem st_goto (M : aMc s0 mi p s m meth c) {off : Int} (h0 : 0 ≤ (pc : Int) + off) (hd : decode (aMt mi).2.2.1 pc = .ok (.goto off, 3)) (K : aG s0 x D Lx xs p l e R s m args below meth c Q n0 t0 (((pc : Int) + off).toNat, L, S, h)) : aG s0 x D Lx xs p l e R s m args below meth c Q n0 t0 (pc, L, S, h) := by
  obtain ⟨hx, hb, hml, hown, hW, hr, hlk, hnm⟩ := M
  intro H locs ls st hr1 hl1 hs1 hq1
  exact lv_goto (tgt := ((pc : Int) + off).toNat) hx hb hd (aOff h0) (K H locs ls st hr1 hl1 hs1 hq1)
end SN2
