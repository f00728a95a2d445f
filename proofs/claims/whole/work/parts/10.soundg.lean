/-! SOUNDNESS, 7: clone of int[], System.arraycopy -/
section SN7
variable {l : Launch} {s0 : State} {a0 : Array Value} {x : Nat → Nat} {D : va_G} {Lx : Nat} {xs : Nat → Int32}
variable {p : Program} {e : Env} {R : Room} {s : State} {m : MethodId} {args : Array Value} {below : List Frame} {meth : Method} {c : Code} {Q : State → Prop} {n0 t0 mi pc : Nat} {L : List (Option aV)} {S : List aV} {h : aH}
theorem st_clone (M : aMc s0 mi p s m meth c) (F : aF0 l s0 a0 x D Lx xs) {j a : Nat} (hlink : Cond.methodLink (aOw (aMt mi).2.1) j ⟨"[I", "clone", "()Ljava/lang/Object;"⟩ ∈ lw_tbl) (hk : gK h a = 100) (hw : aWt S ≤ 8) (hL9 : L.length = (aMt mi).2.2.2.1) (hf : 1 ≤ R.frames) (hl9 : 40 ≤ R.locals) (hd : decode (aMt mi).2.2.1 pc = .ok (.invokevirtual j, 3))
    (hn0 : n0 ≤ gN h) (ht0 : t0 ≤ gT h) (hC : gN h + 1 - n0 ≤ R.cells) (hSl : gT h + gL h a - t0 ≤ R.slots)
    (K : aG s0 x D Lx xs p l e R s m args below meth c Q n0 t0 (pc + 3, L, vR (gN h) :: S, gCopyI (gNew h 100 (gL h a)) a 0 (gN h) 0 (gL h a))) : aG s0 x D Lx xs p l e R s m args below meth c Q n0 t0 (pc, L, vR a :: S, h) := by
  obtain ⟨hx, hb, hml, hown, hW, hr, hlk, hnm⟩ := M
  intro H locs ls st hr1 hl1 hs1 hq1
  obtain ⟨v0, st, rfl, hv0, hs3⟩ := sOK_cons hs1
  have hr1 : aRep s0.heap.size x D s0.heap Lx xs h H := hr1
  have hv0 : v0 = rv s0.heap.size x a := hv0
  have ho := hr1.own hk (by omega) (by omega)
  rw [rv_own ho.1] at hv0
  subst hv0
  have hc := (hr1.cell hk (by omega) (by omega)).2.1 hk
  rw [adr_own ho.1] at hc
  have h8 := hr1.1
  have hsz := hr1.2.1
  have hwt := sOK_wt hs3
  obtain ⟨c0, t0', f1, f2, f3⟩ := Cond.castable_spec (va_Nw.use (A := args) rfl (va_Nw.warmC hW (va_Nw.of rfl (F.1 (.castable "[I" "java/lang/Cloneable") (aAt_mem (p := 532) (by decide +kernel))))))
  have hnm9 : s.vm.findClass "[I" = some (D.1 100) := by rw [hW.alike.findClass]; exact F.2.2.1.2
  cases hnm9.symm.trans f1
  show W p l e R s m args below meth c H locs (gN h - n0) (gT h - t0) Q _
  intro T hT X
  obtain ⟨-, kA, hkA, comp, hkind⟩ := State.isArrayOf_alike X.warmed.alike ((F.arr hW).1 0 (fun _ => .null))
  obtain ⟨-, kS, hkS, compS, hkindS⟩ := (F.arr hW).1 0 (fun _ => .null)
  obtain ⟨vm', X', st9⟩ := X.cloneArray hx hown (F.word hlink rfl hW) (F.word (aAt_mem (p := 528) (by decide +kernel)) rfl hW) (F.word (aAt_mem (p := 529) (by decide +kernel)) rfl hW) (F.word (aAt_mem (p := 530) (by decide +kernel)) rfl hW) (F.word (aAt_mem (p := 531) (by decide +kernel)) rfl hW)
    (a := s0.heap.size + (a - 8)) (cell := arrV (D.1 100) (gL h a) (fun j => .int (gI h a j))) (by rw [hT]; exact hc) (fun k w => by cases w) (aVm _ _ _) hnm9 f2 f3
    (fun i v hv => by
      have hlt : i < gL h a := by have := (Array.getElem?_eq_some_iff.mp hv).1; rw [arrV_size] at this; exact this
      rw [arrV_read _ _ hlt] at hv
      cases hv
      have hk' : T.vm.classes[D.1 100]? = some kA := hkA
      show T.fitsSlot (D.1 100) _ _ _ = true
      simp [State.fitsSlot, State.slotType?, hk', hkind, fits])
    (g := F0 m pc ls (.ref (s0.heap.size + (a - 8)) :: st)) rfl (by show ls.size = _; rw [hl1.1, hml]; exact hL9) rfl (by rw [hb]; exact hd) hf (by show 2 * 0 + _ + 14 ≤ _; omega) (by omega) (by rw [arrV_size]; omega) (hloader := Vm.clonesLoader_of_array hkS hkindS)
  rw [arrV_size] at X'
  have hrep : aRep s0.heap.size x D s0.heap Lx xs (gCopyI (gNew h 100 (gL h a)) a 0 (gN h) 0 (gL h a)) (H.push (arrV (D.1 100) (gL h a) (fun j => .int (gI h a j)))) := by
    have e1 : (H.push (arrV (D.1 100) (gL h a) (fun j => .int (gI h a j))))[s0.heap.size + (gN h - 8)]? = some (arrV (D.1 100) (gL h a) (fun j => .int (gI h a j))) := by rw [← hsz, Array.getElem?_push_size]
    have hn1 := hr1.new (k := 200) (n := gL h a) (H' := H.push (arrV (D.1 100) (gL h a) (fun j => .int (gI h a j)))) (by rw [Array.size_push]) (fun q hq => by rw [Array.getElem?_push, if_neg (Nat.ne_of_lt hq)]) (by
      have e9 : gK (gNew h 200 (gL h a)) (gN h) = 200 := by rw [gK_gNew, if_pos rfl]
      refine ⟨by rw [e9]; omega, ?_, ?_, ?_, ?_, ?_, ?_⟩ <;> (rw [e9]; intros; omega))
    obtain ⟨g1, g2, g3, g4, g5, g6, g7, g8, g9⟩ := hn1
    have hne : a ≠ gN h := by omega
    refine ⟨g1, g2, fun r h1 h2 => ?_, g4, fun r h1 => ?_, fun r h1 => ?_, ?_, ?_, fun j hj => ?_⟩
    · by_cases e : r = gN h
      · subst e
        have k9 : gK (gCopyI (gNew h 100 (gL h a)) a 0 (gN h) 0 (gL h a)) (gN h) = 100 := by show gK (gNew h 100 (gL h a)) (gN h) = 100; rw [gK_gNew, if_pos rfl]
        refine ⟨by rw [k9]; omega, fun _ => ?_, ?_, ?_, ?_, ?_, ?_⟩
        · rw [adr_own h8, e1]
          have l9 : gL (gCopyI (gNew h 100 (gL h a)) a 0 (gN h) 0 (gL h a)) (gN h) = gL h a := by show gL (gNew h 100 (gL h a)) (gN h) = _; rw [gL_gNew, if_pos rfl]
          rw [l9]
          unfold arrV
          congr 2
          apply Array.ext (by simp) fun i q1 q2 => ?_
          simp only [Array.getElem_ofFn]
          have hi : i < gL h a := by simpa using q1
          show Value.int (gI h a i) = Value.int (if gN h = gN h ∧ 0 ≤ i ∧ i < 0 + gL h a then gI (gNew h 100 (gL h a)) a (0 + (i - 0)) else _)
          rw [if_pos ⟨rfl, by omega, by omega⟩, gI_gNew, if_neg hne]
          simp
        all_goals (rw [k9]; intros; omega)
      · have h2' : r < gN h + 1 := h2
        refine (hr1.2.2.1 r h1 (by omega)).kept (show gK (gNew h 100 (gL h a)) r = _ by rw [gK_gNew, if_neg e]) (show gL (gNew h 100 (gL h a)) r = _ by rw [gL_gNew, if_neg e]) (fun j => ?_) (fun j => show gJ (gNew h 100 (gL h a)) r j = _ by rw [gJ_gNew, if_neg e]) (fun j => show gR (gNew h 100 (gL h a)) r j = _ by rw [gR_gNew, if_neg e]) (by rw [adr_own h1, Array.getElem?_push, if_neg (by omega)])
        show (if r = gN h ∧ _ ∧ _ then _ else gI (gNew h 100 (gL h a)) r j) = _
        rw [if_neg (fun w => e w.1), gI_gNew, if_neg e]
    · show gK (gNew h 100 (gL h a)) r = _
      rw [gK_gNew, if_neg (by omega)]; exact hr1.2.2.2.2.1 r h1
    · have h1' : gN h + 1 ≤ r := h1
      show gK (gNew h 100 (gL h a)) r = _
      rw [gK_gNew, if_neg (by omega)]; exact hr1.2.2.2.2.2.1 r (by omega)
    · show gL (gNew h 100 (gL h a)) 2 = 0
      rw [gL_gNew, if_neg (by omega)]; exact hr1.2.2.2.2.2.2.1
    · show gL (gNew h 100 (gL h a)) 1 = _
      rw [gL_gNew, if_neg (by omega)]; exact hr1.2.2.2.2.2.2.2.1
    · show (if 1 = gN h ∧ _ ∧ _ then _ else gI (gNew h 100 (gL h a)) 1 j) = _
      rw [if_neg (fun w => by omega), gI_gNew, if_neg (by omega)]; exact hr1.2.2.2.2.2.2.2.2 j hj
  have kk := K (H.push (arrV (D.1 100) (gL h a) (fun j => .int (gI h a j)))) locs ls (.ref H.size :: st) hrep hl1 ⟨by show Value.ref _ = rv _ _ _; rw [rv_own h8, hsz], hs3⟩ hq1
  have eN : gN (gCopyI (gNew h 100 (gL h a)) a 0 (gN h) 0 (gL h a)) - n0 = gN h - n0 + 1 := by show gN h + 1 - n0 = _; omega
  have eT : gT (gCopyI (gNew h 100 (gL h a)) a 0 (gN h) 0 (gL h a)) - t0 = gT h - t0 + gL h a := by show gT h + gL h a - t0 = _; omega
  dsimp only at kk
  rw [eN, eT] at kk
  obtain ⟨t, b1, b2⟩ := kk ((T.setVm vm').pushCell (arrV (D.1 100) (gL h a) (fun j => .int (gI h a j)))) (by rw [← hT]; rfl) X'
  refine ⟨t, st9 t ?_, b2⟩
  rw [hT]
  exact b1
theorem aNn (z : Int32) (hz : ¬ z < 0) : z.toInt = (z.toNatClampNeg : Int) := by
  have hz0 : (0 : Int) ≤ z.toInt := by
    have := Int32.not_lt.mp hz
    simpa using Int32.le_iff_toInt_le.mp this
  show z.toInt = ((z.toInt.toNat : Nat) : Int)
  omega
/-- the copy, for values of one sort -/
theorem st_copy (M : aMc s0 mi p s m meth c) (F : aF0 l s0 a0 x D Lx xs) {j a b9 k : Nat} {i1 j1 n : Int32} {α : Type} (mk : α → Value) (f g : Nat → α) {ty : FieldType} {h' : aH} (hlink : Cond.methodLink (aOw (aMt mi).2.1) j arraycopyName ∈ lw_tbl) (hka : gK h a = k) (hkb : gK h b9 = k) (k0 : 0 < k) (k5 : k < 105) (hA : ArrOfT s (D.1 k) ty)
    (hca : ∀ H, aRep s0.heap.size x D s0.heap Lx xs h H → H[s0.heap.size + (a - 8)]? = some (arrV (D.1 k) (gL h a) (fun q => mk (f q)))) (hcb : ∀ H, aRep s0.heap.size x D s0.heap Lx xs h H → H[s0.heap.size + (b9 - 8)]? = some (arrV (D.1 k) (gL h b9) (fun q => mk (g q))))
    (hvals : ∀ (H : Heap), aRep s0.heap.size x D s0.heap Lx xs h H → ∀ (T : State), T.heap = H → ∀ (kA : Class) (comp : ClassId), s.vm.classes[D.1 k]? = some kA → kA.kind = .array comp ty → ∀ vm', s.vm.Alike vm' → ∀ i, i < n.toNatClampNeg → fits ty (mk (f (i1.toNatClampNeg + i))) = true ∧ (T.setVm vm').takes comp (mk (f (i1.toNatClampNeg + i))))
    (h1 : ¬ i1 < 0) (h2 : ¬ j1 < 0) (h3 : ¬ n < 0) (h4 : i1.toNatClampNeg + n.toNatClampNeg ≤ gL h a) (h5 : j1.toNatClampNeg + n.toNatClampNeg ≤ gL h b9) (hw : aWt S ≤ 8) (hL9 : L.length = (aMt mi).2.2.2.1) (hf : 1 ≤ R.frames) (hl9 : 60 ≤ R.locals) (hd : decode (aMt mi).2.2.1 pc = .ok (.invokestatic j, 3))
    (hN : gN h' = gN h) (hT9 : gT h' = gT h) (hrep : ∀ (H H' : Heap), aRep s0.heap.size x D s0.heap Lx xs h H → H'.size = H.size → (∀ q, q ≠ s0.heap.size + (b9 - 8) → H'[q]? = H[q]?) → H'[s0.heap.size + (b9 - 8)]? = some (arrV (D.1 k) (gL h b9) (fun q => mk (va_cpy f g i1.toNatClampNeg j1.toNatClampNeg n.toNatClampNeg q))) → aRep s0.heap.size x D s0.heap Lx xs h' H')
    (K : aG s0 x D Lx xs p l e R s m args below meth c Q n0 t0 (pc + 3, L, S, h')) : aG s0 x D Lx xs p l e R s m args below meth c Q n0 t0 (pc, L, vI n :: vI j1 :: vR b9 :: vI i1 :: vR a :: S, h) := by
  obtain ⟨hx, hb, hml, hown, hW, hr, hlk, hnm⟩ := M
  intro H locs ls st hr1 hl1 hs1 hq1
  obtain ⟨v4, st, rfl, rfl, hsq0⟩ := sOK_cons hs1
  obtain ⟨v3, st, rfl, rfl, hsq1⟩ := sOK_cons hsq0
  obtain ⟨v2, st, rfl, hv2, hsq2⟩ := sOK_cons hsq1
  obtain ⟨v1, st, rfl, rfl, hsq3⟩ := sOK_cons hsq2
  obtain ⟨v0, st, rfl, hv0, hs3⟩ := sOK_cons hsq3
  have hr1 : aRep s0.heap.size x D s0.heap Lx xs h H := hr1
  have hv0 : v0 = rv s0.heap.size x a := hv0
  have hv2 : v2 = rv s0.heap.size x b9 := hv2
  have hoa := hr1.own hka k0 k5
  have hob := hr1.own hkb k0 k5
  rw [rv_own hoa.1] at hv0
  rw [rv_own hob.1] at hv2
  subst hv0
  subst hv2
  have hc0 := hca H hr1
  have hc1 := hcb H hr1
  have hwt := sOK_wt hs3
  show W p l e R s m args below meth c H locs (gN h - n0) (gT h - t0) Q _
  intro T hT X
  have hnf : nativeFrameWords "java/lang/System" "arraycopy" 5 ≤ 40 := by decide +kernel
  obtain ⟨-, kA, hkA, comp, hkind⟩ := hA 0 (fun _ => .null)
  obtain ⟨vm', X', step⟩ := X.arraycopy hx hown (F.word hlink rfl hW) (F.word (aAt_mem (p := 539) (by decide +kernel)) rfl hW) (F.word (aAt_mem (p := 538) (by decide +kernel)) rfl hW) (F.word (aAt_mem (p := 130) (by decide +kernel)) rfl hW)
    (src := s0.heap.size + (a - 8)) (dst := s0.heap.size + (b9 - 8)) (cs := arrV (D.1 k) (gL h a) (fun q => mk (f q))) (cd := arrV (D.1 k) (gL h b9) (fun q => mk (g q))) (srcPos := i1) (destPos := j1) (n := n) (by rw [hT]; exact hc0) (by rw [hT]; exact hc1)
    (fun _ w => by cases w) (fun _ w => by cases w) (aVm _ _ _) (aVm _ _ _) hkA hkA hkind hkind (by simp) h1 h2 h3
    (by rw [aNn i1 h1, aNn n h3, arrV_size]; omega) (by rw [aNn j1 h2, aNn n h3, arrV_size]; omega)
    (fun vm₁ hal i hi => by
      have e9 : (arrV (D.1 k) (gL h a) (fun q => mk (f q))).slots.getD (i1.toNatClampNeg + i) .null = mk (f (i1.toNatClampNeg + i)) := by
        rw [Array.getD_eq_getD_getElem?, arrV_read _ _ (by omega)]
        rfl
      rw [e9]
      exact hvals H hr1 T hT kA comp hkA hkind vm₁ hal i hi)
    (g := F0 m pc ls (.int n :: .int j1 :: .ref (s0.heap.size + (b9 - 8)) :: .int i1 :: .ref (s0.heap.size + (a - 8)) :: st)) rfl (by show ls.size = _; rw [hl1.1, hml]; exact hL9) (rest := st) rfl (by rw [hb]; exact hd) hf (by show 2 * 0 + _ + (nativeFrameWords "java/lang/System" "arraycopy" 5 + 11) ≤ _; omega)
  have e1 : copied (arrV (D.1 k) (gL h a) (fun q => mk (f q))) (arrV (D.1 k) (gL h b9) (fun q => mk (g q))) i1 j1 n = arrV (D.1 k) (gL h b9) (fun q => mk (va_cpy f g i1.toNatClampNeg j1.toNatClampNeg n.toNatClampNeg q)) := va_copied mk (D.1 k) (D.1 k) f g h4
  rw [e1] at X' step
  have hlb : s0.heap.size + (b9 - 8) < H.size := (Array.getElem?_eq_some_iff.mp hc1).1
  have hheap : ((T.setVm vm').setCell (s0.heap.size + (b9 - 8)) (arrV (D.1 k) (gL h b9) (fun q => mk (va_cpy f g i1.toNatClampNeg j1.toNatClampNeg n.toNatClampNeg q)))).heap = H.setIfInBounds (s0.heap.size + (b9 - 8)) (arrV (D.1 k) (gL h b9) (fun q => mk (va_cpy f g i1.toNatClampNeg j1.toNatClampNeg n.toNatClampNeg q))) := by rw [← hT]; rfl
  have kk := fun (locs9 : List Loc) (hq9 : ∀ q ∈ locs9, s0.heap.size ≤ q.base) => K _ locs9 ls st (hrep H (H.setIfInBounds (s0.heap.size + (b9 - 8)) (arrV (D.1 k) (gL h b9) (fun q => mk (va_cpy f g i1.toNatClampNeg j1.toNatClampNeg n.toNatClampNeg q)))) hr1 (by simp) (fun q hq => by simp [Array.getElem?_setIfInBounds, Ne.symm hq]) (by simp [Array.getElem?_setIfInBounds, hlb])) hl1 hs3 hq9
  dsimp only at kk
  rw [hN, hT9] at kk
  have main : ∃ t, Steps p.tables e below (((T.setVm vm').setCell (s0.heap.size + (b9 - 8)) (arrV (D.1 k) (gL h b9) (fun q => mk (va_cpy f g i1.toNatClampNeg j1.toNatClampNeg n.toNatClampNeg q)))).setTop (F0 m (pc + 3) ls st)) t ∧ Q t := by
    refine kk _ ?_ _ hheap X'
    intro q hq
    rcases List.mem_append.mp hq with w | w
    · exact hq1 q w
    · obtain ⟨z, -, hz⟩ := List.mem_map.mp w
      rw [← hz]
      show s0.heap.size ≤ s0.heap.size + (b9 - 8)
      omega
  obtain ⟨t, b1, b2⟩ := main
  exact ⟨t, step t b1, b2⟩
end SN7
