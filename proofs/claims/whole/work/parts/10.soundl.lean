/-! SOUNDNESS, 12: one step that goes on -/
section SNC
variable {l : Launch} {s0 : State} {a0 : Array Value} {x : Nat → Nat} {D : va_G} {Lx : Nat} {xs : Nat → Int32}
variable {p : Program} {e : Env} {R : Room} {s : State} {m : MethodId} {args : Array Value} {below : List Frame} {meth : Method} {c : Code} {Q : State → Prop} {n0 t0 mi pc : Nat} {L : List (Option aV)} {S : List aV} {h : aH}
theorem st_ifC (M : aMc s0 mi p s m meth c) {k : Jvm.ClassFile.Cond} {y : Int32} {off : Int} (h0 : 0 ≤ (pc : Int) + off) (hd : decode (aMt mi).2.2.1 pc = .ok (.ifCond k off, 3)) (K : aG s0 x D Lx xs p l e R s m args below meth c Q n0 t0 ((if aCond k y 0 = true then ((pc : Int) + off).toNat else pc + 3), L, S, h)) : aG s0 x D Lx xs p l e R s m args below meth c Q n0 t0 (pc, L, vI y :: S, h) := by
  cases k
  case eq => exact st_ifCond_eq M h0 hd K
  case ge => exact st_ifCond_ge M h0 hd K
  case gt => exact st_ifCond_gt M h0 hd K
  case le => exact st_ifCond_le M h0 hd K
  case lt => exact st_ifCond_lt M h0 hd K
  case ne => exact st_ifCond_ne M h0 hd K
theorem st_icmp (M : aMc s0 mi p s m meth c) {k : Jvm.ClassFile.Cond} {y z : Int32} {off : Int} (h0 : 0 ≤ (pc : Int) + off) (hd : decode (aMt mi).2.2.1 pc = .ok (.if_icmp k off, 3)) (K : aG s0 x D Lx xs p l e R s m args below meth c Q n0 t0 ((if aCond k y z = true then ((pc : Int) + off).toNat else pc + 3), L, S, h)) : aG s0 x D Lx xs p l e R s m args below meth c Q n0 t0 (pc, L, vI z :: vI y :: S, h) := by
  cases k
  case eq => exact st_if_icmp_eq M h0 hd K
  case ge => exact st_if_icmp_ge M h0 hd K
  case gt => exact st_if_icmp_gt M h0 hd K
  case le => exact st_if_icmp_le M h0 hd K
  case lt => exact st_if_icmp_lt M h0 hd K
  case ne => exact st_if_icmp_ne M h0 hd K
theorem aOKg_dec {I : Instr} {nn : Nat} {ks : List Nat} {v : aV} (hok : aOKg mi pc (I, nn, ks, v) = true) : aOKf mi (I, nn, ks, v) = true ∧ (I = .athrow ∨ (∃ k w, I = .multianewarray k w ∧ aThr (aMt mi).2.1 (aMt mi).2.2.1 pc k w nn = true) ∨ ∃ i, decode (aMt mi).2.2.1 pc = .ok (i, nn) ∧ aTr (aMt mi).2.1 pc i = some (I, v) ∧ (iSw i = true ∨ nn = iLen i)) := by
  unfold aOKg at hok
  rw [Bool.and_eq_true] at hok
  obtain ⟨hfn, hok⟩ := hok
  refine ⟨hfn, ?_⟩
  split at hok
  · left; assumption
  · rename_i k w e1
    exact Or.inr (Or.inl ⟨k, w, e1, hok⟩)
  · right; right
    split at hok
    · rename_i i n e1
      simp only [Bool.and_eq_true, Bool.or_eq_true, decide_eq_true_eq] at hok
      obtain ⟨⟨h1, rfl⟩, h2⟩ := hok
      exact ⟨i, e1, h1, h2⟩
    · cases hok
theorem aFin_ok {j ci k : Nat} {r : Nat × String × Bool} (hf : aFind aFl (aMt mi).2.1 j = some (ci, k, r)) (hk : k < 100) (hb : aFinB mi (100 * ci + k) = true) : ∀ C T N, aCl[ci]? = some (C, T, N) → (T k).2.2.2 = true → (aMt mi).1.name = "<init>" ∧ (T k).1 = aOw (aMt mi).2.1 ∧ ∃ ref : String, (ref = (T k).1 ∨ Cond.sameField ref (T k).1 (T k).2.1 (T k).2.2.1 ∈ lw_tbl) ∧ Cond.fieldLink (aOw (aMt mi).2.1) j ref (T k).2.1 (T k).2.2.1 ∈ lw_tbl := by
  intro C T N hc hfin
  unfold aFinB at hb
  rw [show (100 * ci + k) / 100 = ci by omega, show (100 * ci + k) % 100 = k by omega, hc] at hb
  simp only [hfin, Bool.not_true, Bool.false_or, Bool.and_eq_true, decide_eq_true_eq] at hb
  exact ⟨hb.1, hb.2, aFl_fin hf hc hfin hb.2⟩
theorem aFl_k {o j ci k : Nat} {r : Nat × String × Bool} (hf : aFind aFl o j = some (ci, k, r)) : k < 100 := by
  have h1 := List.all_eq_true.mp (show aFl.all (fun q => decide (q.2.2.2.1 < 100)) = true by decide +kernel) _ (aFind_mem hf)
  simpa using h1
theorem aAnd1 (y : Int32) : y &&& 1 = 0 ∨ y &&& 1 = 1 := by
  have h : (y &&& 1).toBitVec.toNat = y.toBitVec.toNat % 2 := by
    rw [Int32.toBitVec_and]
    show (y.toBitVec &&& 1#32).toNat = _
    rw [BitVec.toNat_and]
    exact Nat.and_one_is_mod _
  rcases Nat.mod_two_eq_zero_or_one y.toBitVec.toNat with e | e
  · left; apply Int32.toBitVec_inj.mp; apply BitVec.eq_of_toNat_eq; rw [h, e]; rfl
  · right; apply Int32.toBitVec_inj.mp; apply BitVec.eq_of_toNat_eq; rw [h, e]; rfl
theorem aFitZ (y : Int32) : fits .boolean (.int (y &&& 1)) = true := by
  rcases aAnd1 y with e | e <;> (rw [e]; rfl)
set_option maxHeartbeats 4000000 in
theorem a_step {E : aE} {z : Bool} {cf' : aCf} (M : aMc s0 mi p s m meth c) (F : aF0 l s0 a0 x D Lx xs) (hok : aOKg mi pc E = true) (hL9 : L.length = (aMt mi).2.2.2.1) (hn0 : n0 ≤ gN h) (ht0 : t0 ≤ gT h) (hC : gN cf'.2.2.2 - n0 ≤ R.cells) (hSl : gT cf'.2.2.2 - t0 ≤ R.slots) (hf : 1 ≤ R.frames) (hl9 : 60 ≤ R.locals)
    (hs : aStep z E pc L S h = some (.inl cf')) (K : aG s0 x D Lx xs p l e R s m args below meth c Q n0 t0 cf') : aG s0 x D Lx xs p l e R s m args below meth c Q n0 t0 (pc, L, S, h) := by
  obtain ⟨I, nn, ks, v⟩ := E
  obtain ⟨hfn, hdec⟩ := aOKg_dec hok
  rcases hdec with rfl | ⟨k, w, rfl, -⟩ | ⟨i, hd, htr, hlen⟩
  · simp [aStep] at hs
  · simp only [aStep] at hs
    split at hs <;> simp at hs
  · cases i with
    | iload i =>
      simp only [aTr, Option.some.injEq, Prod.mk.injEq] at htr
      obtain ⟨rfl, rfl⟩ := htr
      have hlen : nn = 2 := by simpa [iSw, iLen] using hlen
      subst hlen
      simp only [aStep] at hs
      split at hs
      · rename_i y hy
        simp only [aGo, Option.some.injEq, Sum.inl.injEq] at hs; subst hs
        exact st_iload M hy hd K
      · cases hs
    | iload_n i =>
      simp only [aTr, Option.some.injEq, Prod.mk.injEq] at htr
      obtain ⟨rfl, rfl⟩ := htr
      have hlen : nn = 1 := by simpa [iSw, iLen] using hlen
      subst hlen
      simp only [aStep] at hs
      split at hs
      · rename_i y hy
        simp only [aGo, Option.some.injEq, Sum.inl.injEq] at hs; subst hs
        exact st_iload_n M hy hd K
      · cases hs
    | lload i =>
      simp only [aTr, Option.some.injEq, Prod.mk.injEq] at htr
      obtain ⟨rfl, rfl⟩ := htr
      have hlen : nn = 2 := by simpa [iSw, iLen] using hlen
      subst hlen
      simp only [aStep] at hs
      split at hs
      · rename_i y hy
        simp only [aGo, Option.some.injEq, Sum.inl.injEq] at hs; subst hs
        exact st_lload M hy hd K
      · cases hs
    | lload_n i =>
      simp only [aTr, Option.some.injEq, Prod.mk.injEq] at htr
      obtain ⟨rfl, rfl⟩ := htr
      have hlen : nn = 1 := by simpa [iSw, iLen] using hlen
      subst hlen
      simp only [aStep] at hs
      split at hs
      · rename_i y hy
        simp only [aGo, Option.some.injEq, Sum.inl.injEq] at hs; subst hs
        exact st_lload_n M hy hd K
      · cases hs
    | aload i =>
      simp only [aTr, Option.some.injEq, Prod.mk.injEq] at htr
      obtain ⟨rfl, rfl⟩ := htr
      have hlen : nn = 2 := by simpa [iSw, iLen] using hlen
      subst hlen
      simp only [aStep] at hs
      split at hs
      · rename_i y hy
        simp only [aGo, Option.some.injEq, Sum.inl.injEq] at hs; subst hs
        exact st_aload M hy hd K
      · cases hs
    | aload_n i =>
      simp only [aTr, Option.some.injEq, Prod.mk.injEq] at htr
      obtain ⟨rfl, rfl⟩ := htr
      have hlen : nn = 1 := by simpa [iSw, iLen] using hlen
      subst hlen
      simp only [aStep] at hs
      split at hs
      · rename_i y hy
        simp only [aGo, Option.some.injEq, Sum.inl.injEq] at hs; subst hs
        exact st_aload_n M hy hd K
      · cases hs
    | istore i =>
      simp only [aTr, Option.some.injEq, Prod.mk.injEq] at htr
      obtain ⟨rfl, rfl⟩ := htr
      have hlen : nn = 2 := by simpa [iSw, iLen] using hlen
      subst hlen
      simp only [aStep] at hs
      split at hs
      · split at hs
        · rename_i hi
          simp only [aGo, Option.some.injEq, Sum.inl.injEq] at hs; subst hs
          exact st_istore M hi hd K
        · cases hs
      · cases hs
    | istore_n i =>
      simp only [aTr, Option.some.injEq, Prod.mk.injEq] at htr
      obtain ⟨rfl, rfl⟩ := htr
      have hlen : nn = 1 := by simpa [iSw, iLen] using hlen
      subst hlen
      simp only [aStep] at hs
      split at hs
      · split at hs
        · rename_i hi
          simp only [aGo, Option.some.injEq, Sum.inl.injEq] at hs; subst hs
          exact st_istore_n M hi hd K
        · cases hs
      · cases hs
    | astore i =>
      simp only [aTr, Option.some.injEq, Prod.mk.injEq] at htr
      obtain ⟨rfl, rfl⟩ := htr
      have hlen : nn = 2 := by simpa [iSw, iLen] using hlen
      subst hlen
      simp only [aStep] at hs
      split at hs
      · split at hs
        · rename_i hi
          simp only [aGo, Option.some.injEq, Sum.inl.injEq] at hs; subst hs
          exact st_astore M hi hd K
        · cases hs
      · cases hs
    | astore_n i =>
      simp only [aTr, Option.some.injEq, Prod.mk.injEq] at htr
      obtain ⟨rfl, rfl⟩ := htr
      have hlen : nn = 1 := by simpa [iSw, iLen] using hlen
      subst hlen
      simp only [aStep] at hs
      split at hs
      · split at hs
        · rename_i hi
          simp only [aGo, Option.some.injEq, Sum.inl.injEq] at hs; subst hs
          exact st_astore_n M hi hd K
        · cases hs
      · cases hs
    | lstore i =>
      simp only [aTr, Option.some.injEq, Prod.mk.injEq] at htr
      obtain ⟨rfl, rfl⟩ := htr
      have hlen : nn = 2 := by simpa [iSw, iLen] using hlen
      subst hlen
      simp only [aStep] at hs
      split at hs
      · split at hs
        · rename_i hi
          simp only [aGo, Option.some.injEq, Sum.inl.injEq] at hs; subst hs
          exact st_lstore M hi hd K
        · cases hs
      · cases hs
    | lstore_n i =>
      simp only [aTr, Option.some.injEq, Prod.mk.injEq] at htr
      obtain ⟨rfl, rfl⟩ := htr
      have hlen : nn = 1 := by simpa [iSw, iLen] using hlen
      subst hlen
      simp only [aStep] at hs
      split at hs
      · split at hs
        · rename_i hi
          simp only [aGo, Option.some.injEq, Sum.inl.injEq] at hs; subst hs
          exact st_lstore_n M hi hd K
        · cases hs
      · cases hs
    | iinc i n =>
      simp only [aTr, Option.some.injEq, Prod.mk.injEq] at htr
      obtain ⟨rfl, rfl⟩ := htr
      have hlen : nn = 3 := by simpa [iSw, iLen] using hlen
      subst hlen
      simp only [aStep] at hs
      split at hs
      · rename_i y hy
        simp only [aGo, Option.some.injEq, Sum.inl.injEq] at hs; subst hs
        exact st_iinc M hy hd K
      · cases hs
    | iconst n =>
      simp only [aTr, Option.some.injEq, Prod.mk.injEq] at htr
      obtain ⟨rfl, rfl⟩ := htr
      have hlen : nn = 1 := by simpa [iSw, iLen] using hlen
      subst hlen
      simp only [aStep] at hs
      simp only [aGo, Option.some.injEq, Sum.inl.injEq] at hs; subst hs
      exact st_iconst M hd K
    | bipush n =>
      simp only [aTr, Option.some.injEq, Prod.mk.injEq] at htr
      obtain ⟨rfl, rfl⟩ := htr
      have hlen : nn = 2 := by simpa [iSw, iLen] using hlen
      subst hlen
      simp only [aStep] at hs
      simp only [aGo, Option.some.injEq, Sum.inl.injEq] at hs; subst hs
      exact st_bipush M hd K
    | sipush n =>
      simp only [aTr, Option.some.injEq, Prod.mk.injEq] at htr
      obtain ⟨rfl, rfl⟩ := htr
      have hlen : nn = 3 := by simpa [iSw, iLen] using hlen
      subst hlen
      simp only [aStep] at hs
      simp only [aGo, Option.some.injEq, Sum.inl.injEq] at hs; subst hs
      exact st_sipush M hd K
    | lconst n =>
      simp only [aTr, Option.some.injEq, Prod.mk.injEq] at htr
      obtain ⟨rfl, rfl⟩ := htr
      have hlen : nn = 1 := by simpa [iSw, iLen] using hlen
      subst hlen
      simp only [aStep] at hs
      simp only [aGo, Option.some.injEq, Sum.inl.injEq] at hs; subst hs
      exact st_lconst M hd K
    | aconst_null =>
      simp only [aTr, Option.some.injEq, Prod.mk.injEq] at htr
      obtain ⟨rfl, rfl⟩ := htr
      have hlen : nn = 1 := by simpa [iSw, iLen] using hlen
      subst hlen
      simp only [aStep] at hs
      simp only [aGo, Option.some.injEq, Sum.inl.injEq] at hs; subst hs
      exact st_null M hd K
    | ldc j =>
      have hlen : nn = 2 := by simpa [iSw, iLen] using hlen
      subst hlen
      simp only [aTr] at htr
      split at htr
      · rename_i v9 p9 e9
        simp only [Option.some.injEq, Prod.mk.injEq] at htr
        obtain ⟨rfl, rfl⟩ := htr
        simp only [aStep] at hs
        simp only [aGo, Option.some.injEq, Sum.inl.injEq] at hs; subst hs
        exact st_ldc M F (aCn_i e9) hd K
      · split at htr
        · rename_i e9
          simp only [Option.some.injEq, Prod.mk.injEq] at htr
          obtain ⟨rfl, rfl⟩ := htr
          simp only [aStep] at hs
          simp only [aGo, Option.some.injEq, Sum.inl.injEq] at hs; subst hs
          exact st_ldcM M F (aKl_ok e9) hd K
        · cases htr
    | ldc_w j =>
      have hlen : nn = 3 := by simpa [iSw, iLen] using hlen
      subst hlen
      simp only [aTr] at htr
      split at htr
      · rename_i v9 p9 e9
        simp only [Option.some.injEq, Prod.mk.injEq] at htr
        obtain ⟨rfl, rfl⟩ := htr
        simp only [aStep] at hs
        simp only [aGo, Option.some.injEq, Sum.inl.injEq] at hs; subst hs
        exact st_ldc_w M F (aCn_i e9) hd K
      · cases htr
    | ldc2_w j =>
      have hlen : nn = 3 := by simpa [iSw, iLen] using hlen
      subst hlen
      simp only [aTr] at htr
      split at htr
      · rename_i v9 p9 e9
        simp only [Option.some.injEq, Prod.mk.injEq] at htr
        obtain ⟨rfl, rfl⟩ := htr
        simp only [aStep] at hs
        simp only [aGo, Option.some.injEq, Sum.inl.injEq] at hs; subst hs
        exact st_ldc2_w M F (aCn_l e9) hd K
      · cases htr
    | iadd =>
      simp only [aTr, Option.some.injEq, Prod.mk.injEq] at htr
      obtain ⟨rfl, rfl⟩ := htr
      have hlen : nn = 1 := by simpa [iSw, iLen] using hlen
      subst hlen
      simp only [aStep, aBin] at hs
      split at hs
      · simp only [aGo, Option.some.injEq, Sum.inl.injEq] at hs; subst hs
        exact st_iadd M hd K
      · cases hs
    | isub =>
      simp only [aTr, Option.some.injEq, Prod.mk.injEq] at htr
      obtain ⟨rfl, rfl⟩ := htr
      have hlen : nn = 1 := by simpa [iSw, iLen] using hlen
      subst hlen
      simp only [aStep, aBin] at hs
      split at hs
      · simp only [aGo, Option.some.injEq, Sum.inl.injEq] at hs; subst hs
        exact st_isub M hd K
      · cases hs
    | imul =>
      simp only [aTr, Option.some.injEq, Prod.mk.injEq] at htr
      obtain ⟨rfl, rfl⟩ := htr
      have hlen : nn = 1 := by simpa [iSw, iLen] using hlen
      subst hlen
      simp only [aStep, aBin] at hs
      split at hs
      · simp only [aGo, Option.some.injEq, Sum.inl.injEq] at hs; subst hs
        exact st_imul M hd K
      · cases hs
    | iand =>
      simp only [aTr, Option.some.injEq, Prod.mk.injEq] at htr
      obtain ⟨rfl, rfl⟩ := htr
      have hlen : nn = 1 := by simpa [iSw, iLen] using hlen
      subst hlen
      simp only [aStep, aBin] at hs
      split at hs
      · simp only [aGo, Option.some.injEq, Sum.inl.injEq] at hs; subst hs
        exact st_iand M hd K
      · cases hs
    | ior =>
      simp only [aTr, Option.some.injEq, Prod.mk.injEq] at htr
      obtain ⟨rfl, rfl⟩ := htr
      have hlen : nn = 1 := by simpa [iSw, iLen] using hlen
      subst hlen
      simp only [aStep, aBin] at hs
      split at hs
      · simp only [aGo, Option.some.injEq, Sum.inl.injEq] at hs; subst hs
        exact st_ior M hd K
      · cases hs
    | ixor =>
      simp only [aTr, Option.some.injEq, Prod.mk.injEq] at htr
      obtain ⟨rfl, rfl⟩ := htr
      have hlen : nn = 1 := by simpa [iSw, iLen] using hlen
      subst hlen
      simp only [aStep, aBin] at hs
      split at hs
      · simp only [aGo, Option.some.injEq, Sum.inl.injEq] at hs; subst hs
        exact st_ixor M hd K
      · cases hs
    | ishl =>
      simp only [aTr, Option.some.injEq, Prod.mk.injEq] at htr
      obtain ⟨rfl, rfl⟩ := htr
      have hlen : nn = 1 := by simpa [iSw, iLen] using hlen
      subst hlen
      simp only [aStep, aBin] at hs
      split at hs
      · simp only [aGo, Option.some.injEq, Sum.inl.injEq] at hs; subst hs
        exact st_ishl M hd K
      · cases hs
    | ishr =>
      simp only [aTr, Option.some.injEq, Prod.mk.injEq] at htr
      obtain ⟨rfl, rfl⟩ := htr
      have hlen : nn = 1 := by simpa [iSw, iLen] using hlen
      subst hlen
      simp only [aStep, aBin] at hs
      split at hs
      · simp only [aGo, Option.some.injEq, Sum.inl.injEq] at hs; subst hs
        exact st_ishr M hd K
      · cases hs
    | iushr =>
      simp only [aTr, Option.some.injEq, Prod.mk.injEq] at htr
      obtain ⟨rfl, rfl⟩ := htr
      have hlen : nn = 1 := by simpa [iSw, iLen] using hlen
      subst hlen
      simp only [aStep, aBin] at hs
      split at hs
      · simp only [aGo, Option.some.injEq, Sum.inl.injEq] at hs; subst hs
        exact st_iushr M hd K
      · cases hs
    | idiv =>
      simp only [aTr, Option.some.injEq, Prod.mk.injEq] at htr
      obtain ⟨rfl, rfl⟩ := htr
      have hlen : nn = 1 := by simpa [iSw, iLen] using hlen
      subst hlen
      simp only [aStep] at hs
      split at hs
      · split at hs
        · cases hs
        · rename_i hz
          simp only [aGo, Option.some.injEq, Sum.inl.injEq] at hs; subst hs
          exact st_idiv M hz hd K
      · cases hs
    | irem =>
      simp only [aTr, Option.some.injEq, Prod.mk.injEq] at htr
      obtain ⟨rfl, rfl⟩ := htr
      have hlen : nn = 1 := by simpa [iSw, iLen] using hlen
      subst hlen
      simp only [aStep] at hs
      split at hs
      · split at hs
        · cases hs
        · rename_i hz
          simp only [aGo, Option.some.injEq, Sum.inl.injEq] at hs; subst hs
          exact st_irem M hz hd K
      · cases hs
    | ldiv =>
      simp only [aTr, Option.some.injEq, Prod.mk.injEq] at htr
      obtain ⟨rfl, rfl⟩ := htr
      have hlen : nn = 1 := by simpa [iSw, iLen] using hlen
      subst hlen
      simp only [aStep] at hs
      split at hs
      · split at hs
        · cases hs
        · rename_i hz
          simp only [aGo, Option.some.injEq, Sum.inl.injEq] at hs; subst hs
          exact st_ldiv M hz hd K
      · cases hs
    | ladd =>
      simp only [aTr, Option.some.injEq, Prod.mk.injEq] at htr
      obtain ⟨rfl, rfl⟩ := htr
      have hlen : nn = 1 := by simpa [iSw, iLen] using hlen
      subst hlen
      simp only [aStep, aBinL] at hs
      split at hs
      · simp only [aGo, Option.some.injEq, Sum.inl.injEq] at hs; subst hs
        exact st_ladd M hd K
      · cases hs
    | lmul =>
      simp only [aTr, Option.some.injEq, Prod.mk.injEq] at htr
      obtain ⟨rfl, rfl⟩ := htr
      have hlen : nn = 1 := by simpa [iSw, iLen] using hlen
      subst hlen
      simp only [aStep, aBinL] at hs
      split at hs
      · simp only [aGo, Option.some.injEq, Sum.inl.injEq] at hs; subst hs
        exact st_lmul M hd K
      · cases hs
    | lor =>
      simp only [aTr, Option.some.injEq, Prod.mk.injEq] at htr
      obtain ⟨rfl, rfl⟩ := htr
      have hlen : nn = 1 := by simpa [iSw, iLen] using hlen
      subst hlen
      simp only [aStep, aBinL] at hs
      split at hs
      · simp only [aGo, Option.some.injEq, Sum.inl.injEq] at hs; subst hs
        exact st_lor M hd K
      · cases hs
    | ineg =>
      simp only [aTr, Option.some.injEq, Prod.mk.injEq] at htr
      obtain ⟨rfl, rfl⟩ := htr
      have hlen : nn = 1 := by simpa [iSw, iLen] using hlen
      subst hlen
      simp only [aStep, aUn] at hs
      split at hs
      · simp only [aGo, Option.some.injEq, Sum.inl.injEq] at hs; subst hs
        exact st_ineg M hd K
      · cases hs
    | i2b =>
      simp only [aTr, Option.some.injEq, Prod.mk.injEq] at htr
      obtain ⟨rfl, rfl⟩ := htr
      have hlen : nn = 1 := by simpa [iSw, iLen] using hlen
      subst hlen
      simp only [aStep, aUn] at hs
      split at hs
      · simp only [aGo, Option.some.injEq, Sum.inl.injEq] at hs; subst hs
        exact st_i2b M hd K
      · cases hs
    | lshl =>
      simp only [aTr, Option.some.injEq, Prod.mk.injEq] at htr
      obtain ⟨rfl, rfl⟩ := htr
      have hlen : nn = 1 := by simpa [iSw, iLen] using hlen
      subst hlen
      simp only [aStep] at hs
      split at hs
      · simp only [aGo, Option.some.injEq, Sum.inl.injEq] at hs; subst hs
        exact st_lshl M hd K
      · cases hs
    | lcmp =>
      simp only [aTr, Option.some.injEq, Prod.mk.injEq] at htr
      obtain ⟨rfl, rfl⟩ := htr
      have hlen : nn = 1 := by simpa [iSw, iLen] using hlen
      subst hlen
      simp only [aStep] at hs
      split at hs
      · simp only [aGo, Option.some.injEq, Sum.inl.injEq] at hs; subst hs
        exact st_lcmp M hd K
      · cases hs
    | i2l =>
      simp only [aTr, Option.some.injEq, Prod.mk.injEq] at htr
      obtain ⟨rfl, rfl⟩ := htr
      have hlen : nn = 1 := by simpa [iSw, iLen] using hlen
      subst hlen
      simp only [aStep] at hs
      split at hs
      · simp only [aGo, Option.some.injEq, Sum.inl.injEq] at hs; subst hs
        exact st_i2l M hd K
      · cases hs
    | l2i =>
      simp only [aTr, Option.some.injEq, Prod.mk.injEq] at htr
      obtain ⟨rfl, rfl⟩ := htr
      have hlen : nn = 1 := by simpa [iSw, iLen] using hlen
      subst hlen
      simp only [aStep] at hs
      split at hs
      · simp only [aGo, Option.some.injEq, Sum.inl.injEq] at hs; subst hs
        exact st_l2i M hd K
      · cases hs
    | dup =>
      simp only [aTr, Option.some.injEq, Prod.mk.injEq] at htr
      obtain ⟨rfl, rfl⟩ := htr
      have hlen : nn = 1 := by simpa [iSw, iLen] using hlen
      subst hlen
      simp only [aStep] at hs
      split at hs
      · split at hs
        · rename_i h1
          simp only [aGo, Option.some.injEq, Sum.inl.injEq] at hs; subst hs
          exact st_dup M h1 hd K
        · cases hs
      · cases hs
    | pop =>
      simp only [aTr, Option.some.injEq, Prod.mk.injEq] at htr
      obtain ⟨rfl, rfl⟩ := htr
      have hlen : nn = 1 := by simpa [iSw, iLen] using hlen
      subst hlen
      simp only [aStep] at hs
      split at hs
      · split at hs
        · rename_i h1
          simp only [aGo, Option.some.injEq, Sum.inl.injEq] at hs; subst hs
          exact st_pop M h1 hd K
        · cases hs
      · cases hs
    | dup_x1 =>
      simp only [aTr, Option.some.injEq, Prod.mk.injEq] at htr
      obtain ⟨rfl, rfl⟩ := htr
      have hlen : nn = 1 := by simpa [iSw, iLen] using hlen
      subst hlen
      simp only [aStep] at hs
      split at hs
      · split at hs
        · rename_i h1
          simp only [aGo, Option.some.injEq, Sum.inl.injEq] at hs; subst hs
          exact st_dup_x1 M h1.1 h1.2 hd K
        · cases hs
      · cases hs
    | dup2 =>
      simp only [aTr, Option.some.injEq, Prod.mk.injEq] at htr
      obtain ⟨rfl, rfl⟩ := htr
      have hlen : nn = 1 := by simpa [iSw, iLen] using hlen
      subst hlen
      simp only [aStep] at hs
      split at hs
      · split at hs
        · rename_i h1
          simp only [aGo, Option.some.injEq, Sum.inl.injEq] at hs; subst hs
          exact st_dup2 M h1.1 h1.2 hd K
        · cases hs
      · cases hs
    | ifCond k off =>
      have hlen : nn = 3 := by simpa [iSw, iLen] using hlen
      subst hlen
      simp only [aTr, aJmp] at htr
      split at htr
      · rename_i h0
        simp only [Option.some.injEq, Prod.mk.injEq] at htr
        obtain ⟨rfl, rfl⟩ := htr
        simp only [aStep, aIf] at hs
        split at hs
        · split at hs
          · rename_i hc
            simp only [aGo, Option.some.injEq, Sum.inl.injEq] at hs; subst hs
            refine st_ifC M h0 hd ?_
            rw [if_pos hc]; exact K
          · rename_i hc
            simp only [aGo, Option.some.injEq, Sum.inl.injEq] at hs; subst hs
            refine st_ifC M h0 hd ?_
            rw [if_neg hc]; exact K
        · cases hs
      · cases htr
    | if_icmp k off =>
      have hlen : nn = 3 := by simpa [iSw, iLen] using hlen
      subst hlen
      simp only [aTr, aJmp] at htr
      split at htr
      · rename_i h0
        simp only [Option.some.injEq, Prod.mk.injEq] at htr
        obtain ⟨rfl, rfl⟩ := htr
        simp only [aStep, aIf2] at hs
        split at hs
        · split at hs
          · rename_i hc
            simp only [aGo, Option.some.injEq, Sum.inl.injEq] at hs; subst hs
            refine st_icmp M h0 hd ?_
            rw [if_pos hc]; exact K
          · rename_i hc
            simp only [aGo, Option.some.injEq, Sum.inl.injEq] at hs; subst hs
            refine st_icmp M h0 hd ?_
            rw [if_neg hc]; exact K
        · cases hs
      · cases htr
    | if_acmp k off =>
      have hlen : nn = 3 := by simpa [iSw, iLen] using hlen
      subst hlen
      simp only [aTr, aJmp] at htr
      split at htr
      · rename_i h0
        simp only [Option.some.injEq, Prod.mk.injEq] at htr
        obtain ⟨rfl, rfl⟩ := htr
        simp only [aStep] at hs
        split at hs
        · split at hs
          · rename_i hyz
            refine st_acmp M F h0 hyz hd ?_
            cases k <;> dsimp only at hs ⊢ <;> split at hs <;> rename_i hc <;> (simp only [aGo, Option.some.injEq, Sum.inl.injEq] at hs; subst hs) <;> first | (rw [if_pos hc]; exact K) | (rw [if_neg hc]; exact K)
          · cases hs
        · cases hs
      · cases htr
    | ifnull off =>
      have hlen : nn = 3 := by simpa [iSw, iLen] using hlen
      subst hlen
      simp only [aTr, aJmp] at htr
      split at htr
      · rename_i h0
        simp only [Option.some.injEq, Prod.mk.injEq] at htr
        obtain ⟨rfl, rfl⟩ := htr
        simp only [aStep] at hs
        split at hs
        · split at hs
          · rename_i hc
            simp only [aGo, Option.some.injEq, Sum.inl.injEq] at hs; subst hs
            refine st_ifnull M h0 hd ?_
            rw [if_pos hc]; exact K
          · rename_i hc
            simp only [aGo, Option.some.injEq, Sum.inl.injEq] at hs; subst hs
            refine st_ifnull M h0 hd ?_
            rw [if_neg hc]; exact K
        · cases hs
      · cases htr
    | ifnonnull off =>
      have hlen : nn = 3 := by simpa [iSw, iLen] using hlen
      subst hlen
      simp only [aTr, aJmp] at htr
      split at htr
      · rename_i h0
        simp only [Option.some.injEq, Prod.mk.injEq] at htr
        obtain ⟨rfl, rfl⟩ := htr
        simp only [aStep] at hs
        split at hs
        · split at hs
          · rename_i hc
            simp only [aGo, Option.some.injEq, Sum.inl.injEq] at hs; subst hs
            refine st_ifnonnull M h0 hd ?_
            rw [if_pos hc]; exact K
          · rename_i hc
            simp only [aGo, Option.some.injEq, Sum.inl.injEq] at hs; subst hs
            refine st_ifnonnull M h0 hd ?_
            rw [if_neg hc]; exact K
        · cases hs
      · cases htr
    | goto off =>
      have hlen : nn = 3 := by simpa [iSw, iLen] using hlen
      subst hlen
      simp only [aTr, aJmp] at htr
      split at htr
      · rename_i h0
        simp only [Option.some.injEq, Prod.mk.injEq] at htr
        obtain ⟨rfl, rfl⟩ := htr
        simp only [aStep] at hs
        simp only [aGo, Option.some.injEq, Sum.inl.injEq] at hs; subst hs
        exact st_goto M h0 hd K
      · cases htr
    | tableswitch d lo hi offs =>
      simp only [aTr] at htr
      split at htr
      · rename_i h0
        simp only [Option.some.injEq, Prod.mk.injEq] at htr
        obtain ⟨rfl, rfl⟩ := htr
        simp only [aStep] at hs
        split at hs
        · simp only [aGo, Option.some.injEq, Sum.inl.injEq] at hs; subst hs
          exact st_tsw M ⟨h0.1, h0.2.1⟩ h0.2.2.1 h0.2.2.2 hd K
        · cases hs
      · cases htr
    | lookupswitch d ps =>
      simp only [aTr] at htr
      split at htr
      · rename_i h0
        simp only [Option.some.injEq, Prod.mk.injEq] at htr
        obtain ⟨rfl, rfl⟩ := htr
        simp only [aStep] at hs
        split at hs
        · simp only [aGo, Option.some.injEq, Sum.inl.injEq] at hs; subst hs
          exact st_lsw M h0.1 h0.2.1 h0.2.2 hd K
        · cases hs
      · cases htr
    | iaload =>
      simp only [aTr, Option.some.injEq, Prod.mk.injEq] at htr
      obtain ⟨rfl, rfl⟩ := htr
      have hlen : nn = 1 := by simpa [iSw, iLen] using hlen
      subst hlen
      simp only [aStep, aLdI] at hs
      split at hs
      · split at hs
        · rename_i hc
          simp only [aGo, Option.some.injEq, Sum.inl.injEq] at hs; subst hs
          exact st_iaload M F (by simpa using hc.1) hc.2 hd K
        · cases hs
      · cases hs
    | baload =>
      simp only [aTr, Option.some.injEq, Prod.mk.injEq] at htr
      obtain ⟨rfl, rfl⟩ := htr
      have hlen : nn = 1 := by simpa [iSw, iLen] using hlen
      subst hlen
      simp only [aStep, aLdI] at hs
      split at hs
      · split at hs
        · rename_i hc
          simp only [aGo, Option.some.injEq, Sum.inl.injEq] at hs; subst hs
          exact st_baload M F (by simpa using hc.1) hc.2 hd K
        · cases hs
      · cases hs
    | laload =>
      simp only [aTr, Option.some.injEq, Prod.mk.injEq] at htr
      obtain ⟨rfl, rfl⟩ := htr
      have hlen : nn = 1 := by simpa [iSw, iLen] using hlen
      subst hlen
      simp only [aStep] at hs
      split at hs
      · split at hs
        · rename_i hc
          simp only [aGo, Option.some.injEq, Sum.inl.injEq] at hs; subst hs
          exact st_laload M F hc.1 hc.2 hd K
        · cases hs
      · cases hs
    | aaload =>
      simp only [aTr, Option.some.injEq, Prod.mk.injEq] at htr
      obtain ⟨rfl, rfl⟩ := htr
      have hlen : nn = 1 := by simpa [iSw, iLen] using hlen
      subst hlen
      simp only [aStep] at hs
      split at hs
      · split at hs
        · rename_i hc
          simp only [aGo, Option.some.injEq, Sum.inl.injEq] at hs; subst hs
          exact st_aaload M F hc.1 hc.2 hd K
        · cases hs
      · cases hs
    | iastore =>
      simp only [aTr, Option.some.injEq, Prod.mk.injEq] at htr
      obtain ⟨rfl, rfl⟩ := htr
      have hlen : nn = 1 := by simpa [iSw, iLen] using hlen
      subst hlen
      simp only [aStep, aStI] at hs
      split at hs
      · split at hs
        · rename_i hc
          simp only [aGo, Option.some.injEq, Sum.inl.injEq] at hs; subst hs
          exact st_iastore M F hc.2.1 hc.2.2 hd K
        · cases hs
      · cases hs
    | lastore =>
      simp only [aTr, Option.some.injEq, Prod.mk.injEq] at htr
      obtain ⟨rfl, rfl⟩ := htr
      have hlen : nn = 1 := by simpa [iSw, iLen] using hlen
      subst hlen
      simp only [aStep] at hs
      split at hs
      · split at hs
        · rename_i hc
          simp only [aGo, Option.some.injEq, Sum.inl.injEq] at hs; subst hs
          exact st_lastore M F hc.2.1 hc.2.2 hd K
        · cases hs
      · cases hs
    | bastore =>
      simp only [aTr, Option.some.injEq, Prod.mk.injEq] at htr
      obtain ⟨rfl, rfl⟩ := htr
      have hlen : nn = 1 := by simpa [iSw, iLen] using hlen
      subst hlen
      simp only [aStep] at hs
      split at hs
      · split at hs
        · rename_i hc
          simp only [aGo, Option.some.injEq, Sum.inl.injEq] at hs; subst hs
          exact st_bastore M F hc.2.1 hc.2.2 hd K
        · cases hs
      · cases hs
    | aastore =>
      simp only [aTr, Option.some.injEq, Prod.mk.injEq] at htr
      obtain ⟨rfl, rfl⟩ := htr
      have hlen : nn = 1 := by simpa [iSw, iLen] using hlen
      subst hlen
      simp only [aStep] at hs
      split at hs
      · split at hs
        · rename_i hc
          simp only [aGo, Option.some.injEq, Sum.inl.injEq] at hs; subst hs
          obtain ⟨q1, q2, q3, q4, q5, q6, q7⟩ := hc
          exact st_aastore M F q6 q3 (by omega) q5 q7 hd ⟨_, List.getElem?_eq_getElem (by rw [aCl_len]; exact q4)⟩ K
        · cases hs
      · cases hs
    | arraylength =>
      simp only [aTr, Option.some.injEq, Prod.mk.injEq] at htr
      obtain ⟨rfl, rfl⟩ := htr
      have hlen : nn = 1 := by simpa [iSw, iLen] using hlen
      subst hlen
      simp only [aStep] at hs
      split at hs
      · split at hs
        · rename_i hc
          simp only [aGo, Option.some.injEq, Sum.inl.injEq] at hs; subst hs
          exact st_alen M F hc hd K
        · cases hs
      · cases hs
    | newarray ty =>
      have hlen : nn = 2 := by simpa [iSw, iLen] using hlen
      subst hlen
      cases ty
      case int =>
        simp only [aTr, Option.some.injEq, Prod.mk.injEq] at htr
        obtain ⟨rfl, rfl⟩ := htr
        simp only [aStep, aNewA] at hs
        split at hs
        · split at hs
          · rename_i hc
            simp only [aGo, Option.some.injEq, Sum.inl.injEq] at hs; subst hs
            exact st_newarray M F (Or.inl ⟨rfl, rfl⟩) hc.1 hc.2 hd hn0 ht0 hC hSl K
          · cases hs
        · cases hs
      case long =>
        simp only [aTr, Option.some.injEq, Prod.mk.injEq] at htr
        obtain ⟨rfl, rfl⟩ := htr
        simp only [aStep, aNewA] at hs
        split at hs
        · split at hs
          · rename_i hc
            simp only [aGo, Option.some.injEq, Sum.inl.injEq] at hs; subst hs
            exact st_newarray M F (Or.inr (Or.inl ⟨rfl, rfl⟩)) hc.1 hc.2 hd hn0 ht0 hC hSl K
          · cases hs
        · cases hs
      case boolean =>
        simp only [aTr, Option.some.injEq, Prod.mk.injEq] at htr
        obtain ⟨rfl, rfl⟩ := htr
        simp only [aStep, aNewA] at hs
        split at hs
        · split at hs
          · rename_i hc
            simp only [aGo, Option.some.injEq, Sum.inl.injEq] at hs; subst hs
            exact st_newarray M F (Or.inr (Or.inr (Or.inl ⟨rfl, rfl⟩))) hc.1 hc.2 hd hn0 ht0 hC hSl K
          · cases hs
        · cases hs
      case byte =>
        simp only [aTr, Option.some.injEq, Prod.mk.injEq] at htr
        obtain ⟨rfl, rfl⟩ := htr
        simp only [aStep, aNewA] at hs
        split at hs
        · split at hs
          · rename_i hc
            simp only [aGo, Option.some.injEq, Sum.inl.injEq] at hs; subst hs
            exact st_newarray M F (Or.inr (Or.inr (Or.inr ⟨rfl, rfl⟩))) hc.1 hc.2 hd hn0 ht0 hC hSl K
          · cases hs
        · cases hs
      all_goals (simp [aTr] at htr)
    | anewarray j =>
      have hlen : nn = 3 := by simpa [iSw, iLen] using hlen
      subst hlen
      simp only [aTr] at htr
      split at htr
      · rename_i e9
        simp only [Option.some.injEq, Prod.mk.injEq] at htr
        obtain ⟨rfl, rfl⟩ := htr
        simp only [aStep, aNewA] at hs
        split at hs
        · split at hs
          · rename_i hc
            simp only [aGo, Option.some.injEq, Sum.inl.injEq] at hs; subst hs
            exact st_anew M F (aKl_ok e9) hc.1 hc.2 hd hn0 ht0 hC hSl K
          · cases hs
        · cases hs
      · cases htr
    | new j =>
      have hlen : nn = 3 := by simpa [iSw, iLen] using hlen
      subst hlen
      simp only [aTr] at htr
      split at htr
      · rename_i ci q1 q2 e9
        split at htr
        · rename_i hc
          simp only [Option.some.injEq, Prod.mk.injEq] at htr
          obtain ⟨rfl, rfl⟩ := htr
          have hC9 : ci < 15 := by
            have h1 := List.all_eq_true.mp (show aKl.all (fun q => decide (q.2.2.1 < 15 ∨ 99 ≤ q.2.2.1)) = true by decide +kernel) _ (aFind_mem e9)
            simp only [decide_eq_true_eq] at h1
            omega
          obtain ⟨⟨C, T, N⟩, hCl⟩ : ∃ q, aCl[ci]? = some q := ⟨_, List.getElem?_eq_getElem (by rw [aCl_len]; exact hC9)⟩
          have hN := (aCl_ok hc.1 hCl).2.2.2.2.2.1
          have hN9 : N < 100 := by
            have h1 := List.all_eq_true.mp (show aFts.all (fun q => decide (q.length < 100)) = true by decide +kernel)
            rw [← hN, List.getD_eq_getElem?_getD]
            cases h2 : aFts[ci]? with
            | none => simp
            | some q => simpa using h1 q (List.mem_of_getElem? h2)
          simp only [aStep] at hs
          rw [hN, show (100 * ci + N) / 100 = ci by omega, show (100 * ci + N) % 100 = N by omega] at hs
          simp only [aGo, Option.some.injEq, Sum.inl.injEq] at hs; subst hs
          have hlk := aKl_ok e9
          rw [aKn_cl hc.2 hCl] at hlk
          exact st_new M F hc.1 hc.2 hCl hlk hd hn0 ht0 hC hSl K
        · cases htr
      · cases htr
    | checkcast j =>
      have hlen : nn = 3 := by simpa [iSw, iLen] using hlen
      subst hlen
      simp only [aTr] at htr
      split at htr
      · rename_i ci q1 q2 e9
        split at htr
        · rename_i hc
          simp only [Option.some.injEq, Prod.mk.injEq] at htr
          obtain ⟨rfl, rfl⟩ := htr
          have hC9 : ci < 15 ∨ 99 ≤ ci := by
            have h1 := List.all_eq_true.mp (show aKl.all (fun q => decide (q.2.2.1 < 15 ∨ 99 ≤ q.2.2.1)) = true by decide +kernel) _ (aFind_mem e9)
            simpa using h1
          simp only [aStep] at hs
          split at hs
          · split at hs
            · rename_i ha
              simp only [aGo, Option.some.injEq, Sum.inl.injEq] at hs; subst hs
              refine st_cast M F (aKl_ok e9) ?_ ha hd K
              rcases hc with hc | hc
              · exact Or.inl hc
              · exact Or.inr ⟨hc.1, hc.2, _, List.getElem?_eq_getElem (by rw [aCl_len]; omega)⟩
            · cases hs
          · cases hs
        · cases htr
      · cases htr
    | getstatic j =>
      have hlen : nn = 3 := by simpa [iSw, iLen] using hlen
      subst hlen
      simp only [aTr] at htr
      split at htr
      · rename_i hc
        simp only [Option.some.injEq, Prod.mk.injEq] at htr
        obtain ⟨rfl, rfl⟩ := htr
        simp only [aStep] at hs
        simp only [aGo, Option.some.injEq, Sum.inl.injEq] at hs; subst hs
        obtain ⟨h1, rfl⟩ := hc
        exact st_gets M F (by unfold aOw; rw [List.getD_eq_getElem?_getD, h1]; rfl) hd K
      · cases htr
    | getfield j =>
      have hlen : nn = 3 := by simpa [iSw, iLen] using hlen
      subst hlen
      simp only [aTr] at htr
      split at htr
      · rename_i ci k rr e9
        have hk9 := aFl_k e9
        have hfl := aFl_ok e9
        simp only [Option.some.injEq, Prod.mk.injEq] at htr
        obtain ⟨hI, rfl⟩ := htr
        have hget : ∀ (ty : FieldType), aFt ci k = ty → (ty = .int ∨ ty = .boolean) → aStep z (.getfield (100 * ci + k), 3, ks, vJ) pc L S h = some (.inl cf') → aG s0 x D Lx xs p l e R s m args below meth c Q n0 t0 (pc, L, S, h) := by
          intro ty hty hor hs
          simp only [aStep] at hs
          rw [show (100 * ci + k) / 100 = ci by omega, show (100 * ci + k) % 100 = k by omega] at hs
          split at hs
          · split at hs
            · rename_i hka
              simp only [aGo, Option.some.injEq, Sum.inl.injEq] at hs; subst hs
              refine st_getf M F hfl hka hd ?_ K
              rw [hty]
              rcases hor with rfl | rfl <;> rfl
            · cases hs
          · cases hs
        have hgetL : aFt ci k = .long → aStep z (.fload (100 * ci + k), 3, ks, vJ) pc L S h = some (.inl cf') → aG s0 x D Lx xs p l e R s m args below meth c Q n0 t0 (pc, L, S, h) := by
          intro hty hs
          simp only [aStep] at hs
          rw [show (100 * ci + k) / 100 = ci by omega, show (100 * ci + k) % 100 = k by omega] at hs
          split at hs
          · split at hs
            · rename_i hka
              simp only [aGo, Option.some.injEq, Sum.inl.injEq] at hs; subst hs
              refine st_getf M F hfl hka hd ?_ K
              rw [hty]; rfl
            · cases hs
          · cases hs
        have hgetR : ((∃ n, aFt ci k = .object n) ∨ ∃ u, aFt ci k = .array u) → aStep z (.dload (100 * ci + k), 3, ks, vJ) pc L S h = some (.inl cf') → aG s0 x D Lx xs p l e R s m args below meth c Q n0 t0 (pc, L, S, h) := by
          intro hty hs
          simp only [aStep] at hs
          rw [show (100 * ci + k) / 100 = ci by omega, show (100 * ci + k) % 100 = k by omega] at hs
          split at hs
          · split at hs
            · rename_i hka
              simp only [aGo, Option.some.injEq, Sum.inl.injEq] at hs; subst hs
              refine st_getf M F hfl hka hd ?_ K
              rcases hty with ⟨n, hty⟩ | ⟨u, hty⟩ <;> (rw [hty]; rfl)
            · cases hs
          · cases hs
        unfold aTyI at hI
        rcases aFt_ok ci k with hty | hty | hty | ⟨n, hty⟩ | ⟨u, hty⟩
        · rw [hty] at hI; simp only [if_true] at hI; subst hI; exact hget _ hty (Or.inl rfl) hs
        · rw [hty] at hI; simp only [if_true] at hI; subst hI; exact hgetL hty hs
        · rw [hty] at hI; simp only [if_true] at hI; subst hI; exact hget _ hty (Or.inr rfl) hs
        · rw [hty] at hI; simp only [if_true] at hI; subst hI; exact hgetR (Or.inl ⟨n, hty⟩) hs
        · rw [hty] at hI; simp only [if_true] at hI; subst hI; exact hgetR (Or.inr ⟨u, hty⟩) hs
      · cases htr
    | putfield j =>
      have hlen : nn = 3 := by simpa [iSw, iLen] using hlen
      subst hlen
      simp only [aTr] at htr
      split at htr
      · rename_i ci k rr e9
        have hk9 := aFl_k e9
        have hfl := aFl_ok e9
        simp only [Option.some.injEq, Prod.mk.injEq] at htr
        obtain ⟨hI, rfl⟩ := htr
        unfold aTyI at hI
        have e1 : (100 * ci + k) / 100 = ci := by omega
        have e2 : (100 * ci + k) % 100 = k := by omega
        rcases aFt_ok ci k with hty | hty | hty | ⟨n, hty⟩ | ⟨u, hty⟩
        · rw [hty] at hI; simp only [Bool.false_eq_true, if_false] at hI; subst hI
          simp only [aStep] at hs
          rw [e1, e2] at hs
          split at hs
          · split at hs
            · rename_i hka
              simp only [aGo, Option.some.injEq, Sum.inl.injEq] at hs; subst hs
              refine st_putf (h' := pI h _ k _) M F hfl (aFin_ok e9 hk9 hfn) hka.2 hd (fun w hw => ?_) rfl rfl (fun _ => rfl) (fun _ => rfl) (fun r i hri => ?_) (fun _ _ _ => rfl) (fun _ _ _ => rfl) K
              · rw [show w = .int _ from hw, hty]
                refine ⟨⟨rfl, rfl⟩, ?_⟩
                show Value.int (gI (pI h _ k _) _ k) = _
                rw [gI_pI, if_pos ⟨rfl, rfl⟩]
              · rw [gI_pI, if_neg (by rintro ⟨w1, w2⟩; exact hri.elim (fun q => q w1) (fun q => q w2))]
            · cases hs
          · cases hs
        · rw [hty] at hI; simp only [Bool.false_eq_true, if_false] at hI; subst hI
          simp only [aStep] at hs
          rw [e1, e2] at hs
          split at hs
          · split at hs
            · rename_i hka
              simp only [aGo, Option.some.injEq, Sum.inl.injEq] at hs; subst hs
              refine st_putf (h' := pJ h _ k _) M F hfl (aFin_ok e9 hk9 hfn) hka.2 hd (fun w hw => ?_) rfl rfl (fun _ => rfl) (fun _ => rfl) (fun _ _ _ => rfl) (fun r i hri => ?_) (fun _ _ _ => rfl) K
              · rw [show w = .long _ from hw, hty]
                refine ⟨⟨rfl, rfl⟩, ?_⟩
                show Value.long (gJ (pJ h _ k _) _ k) = _
                rw [gJ_pJ, if_pos ⟨rfl, rfl⟩]
              · rw [gJ_pJ, if_neg (by rintro ⟨w1, w2⟩; exact hri.elim (fun q => q w1) (fun q => q w2))]
            · cases hs
          · cases hs
        · rw [hty] at hI; simp only [Bool.false_eq_true, if_false] at hI; subst hI
          simp only [aStep] at hs
          rw [e1, e2] at hs
          split at hs
          · split at hs
            · rename_i hka
              simp only [aGo, Option.some.injEq, Sum.inl.injEq] at hs; subst hs
              refine st_putf (h' := pI h _ k _) M F hfl (aFin_ok e9 hk9 hfn) hka.2.1 hd (fun w hw => ?_) rfl rfl (fun _ => rfl) (fun _ => rfl) (fun r i hri => ?_) (fun _ _ _ => rfl) (fun _ _ _ => rfl) K
              · rw [show w = .int _ from hw, hty]
                refine ⟨⟨?_, ?_⟩, ?_⟩
                · show Value.int (_ &&& 1) = _
                  rw [hka.2.2]
                · rw [← hka.2.2]
                  exact aFitZ _
                · show Value.int (gI (pI h _ k _) _ k) = _
                  rw [gI_pI, if_pos ⟨rfl, rfl⟩]
              · rw [gI_pI, if_neg (by rintro ⟨w1, w2⟩; exact hri.elim (fun q => q w1) (fun q => q w2))]
            · cases hs
          · cases hs
        all_goals
          rw [hty] at hI; simp only [Bool.false_eq_true, if_false] at hI; subst hI
          simp only [aStep] at hs
          rw [e1, e2] at hs
          split at hs
          · split at hs
            · rename_i hka
              simp only [aGo, Option.some.injEq, Sum.inl.injEq] at hs; subst hs
              refine st_putf (h' := pR h _ k _) M F hfl (aFin_ok e9 hk9 hfn) hka.2 hd (fun w hw => ?_) rfl rfl (fun _ => rfl) (fun _ => rfl) (fun _ _ _ => rfl) (fun _ _ _ => rfl) (fun r i hri => ?_) K
              · have hw : w = rv s0.heap.size x _ := hw
                rw [hty]
                refine ⟨?_, ?_⟩
                · rw [hw]; rcases rv_cases (b := s0.heap.size) (x := x) _ with q | ⟨q, q2⟩
                  · rw [q]; exact ⟨rfl, rfl⟩
                  · rw [q2]; exact ⟨rfl, rfl⟩
                · show rv _ _ (gR (pR h _ k _) _ k) = _
                  rw [gR_pR, if_pos ⟨rfl, rfl⟩, hw]
              · rw [gR_pR, if_neg (by rintro ⟨w1, w2⟩; exact hri.elim (fun q => q w1) (fun q => q w2))]
            · cases hs
          · cases hs
      · cases htr
    | invokevirtual j =>
      have hlen : nn = 3 := by simpa [iSw, iLen] using hlen
      subst hlen
      simp only [aTr] at htr
      split at htr
      · simp only [Option.some.injEq, Prod.mk.injEq] at htr
        obtain ⟨rfl, rfl⟩ := htr
        simp only [aStep] at hs
        split at hs
        · split at hs <;> simp at hs
        · cases hs
      · simp only [Option.some.injEq, Prod.mk.injEq] at htr
        obtain ⟨rfl, rfl⟩ := htr
        simp only [aStep] at hs
        split at hs
        · split at hs <;> simp at hs
        · cases hs
      · cases htr
      · split at htr
        · rename_i e9
          simp only [Option.some.injEq, Prod.mk.injEq] at htr
          obtain ⟨rfl, rfl⟩ := htr
          simp only [aStep] at hs
          split at hs
          · split at hs
            · rename_i hc
              simp only [aGo, Option.some.injEq, Sum.inl.injEq] at hs; subst hs
              exact st_clone M F (aNl_ok e9) hc.2.1 hc.2.2 hL9 hf (by omega) hd hn0 ht0 hC hSl K
            · cases hs
          · cases hs
        · rename_i e9
          simp only [Option.some.injEq, Prod.mk.injEq] at htr
          obtain ⟨rfl, rfl⟩ := htr
          simp only [aStep] at hs
          split at hs
          · split at hs
            · rename_i hc
              simp only [aGo, Option.some.injEq, Sum.inl.injEq] at hs; subst hs
              exact st_getC M F (aNl_ok e9) hc.2.1 hc.2.2 hL9 hf (by omega) hd K
            · cases hs
          · cases hs
        · cases htr
    | invokespecial j =>
      have hlen : nn = 3 := by simpa [iSw, iLen] using hlen
      subst hlen
      simp only [aTr] at htr
      split at htr
      · simp only [Option.some.injEq, Prod.mk.injEq] at htr
        obtain ⟨rfl, rfl⟩ := htr
        simp only [aStep] at hs
        split at hs
        · split at hs <;> simp at hs
        · cases hs
      · simp only [Option.some.injEq, Prod.mk.injEq] at htr
        obtain ⟨rfl, rfl⟩ := htr
        simp only [aStep] at hs
        split at hs
        · split at hs <;> simp at hs
        · cases hs
      · cases htr
      · split at htr
        · rename_i e9
          simp only [Option.some.injEq, Prod.mk.injEq] at htr
          obtain ⟨rfl, rfl⟩ := htr
          simp only [aStep] at hs
          split at hs
          · split at hs
            · rename_i hc
              simp only [aGo, Option.some.injEq, Sum.inl.injEq] at hs; subst hs
              exact st_objInit M F (aNl_ok e9) hc.1 hc.2 hL9 hf (by omega) hd K
            · cases hs
          · cases hs
        · cases htr
    | invokestatic j =>
      have hlen : nn = 3 := by simpa [iSw, iLen] using hlen
      subst hlen
      simp only [aTr] at htr
      split at htr
      · simp only [Option.some.injEq, Prod.mk.injEq] at htr
        obtain ⟨rfl, rfl⟩ := htr
        simp only [aStep] at hs
        split at hs
        · split at hs <;> simp at hs
        · cases hs
      · simp only [Option.some.injEq, Prod.mk.injEq] at htr
        obtain ⟨rfl, rfl⟩ := htr
        simp only [aStep] at hs
        split at hs
        · split at hs <;> simp at hs
        · cases hs
      · cases htr
      · split at htr
        · rename_i e9
          simp only [Option.some.injEq, Prod.mk.injEq] at htr
          obtain ⟨rfl, rfl⟩ := htr
          simp only [aStep] at hs
          split at hs
          · split at hs
            · rename_i hc
              obtain ⟨c1, c2, c3, c4, c5, c6, c7, c8, c9⟩ := hc
              split at hs
              · rename_i hk
                simp only [aGo, Option.some.injEq, Sum.inl.injEq] at hs; subst hs
                exact st_copyI M F (aNl_ok e9) hk.1 hk.2 c5 c6 c7 c8 c9 c1 hL9 hf hl9 hd K
              · split at hs
                · rename_i hk
                  simp only [aGo, Option.some.injEq, Sum.inl.injEq] at hs; subst hs
                  exact st_copyR M F (aNl_ok e9) hk.1 hk.2.1 hk.2.2 c5 c6 c7 c8 c9 c1 hL9 hf hl9 hd K
                · cases hs
            · cases hs
          · cases hs
        · cases htr
    | ireturn =>
      simp only [aTr, Option.some.injEq, Prod.mk.injEq] at htr
      obtain ⟨rfl, rfl⟩ := htr
      simp only [aStep] at hs
      split at hs
      · first | (simp at hs; done) | (split at hs <;> simp at hs)
      · cases hs
    | lreturn =>
      simp only [aTr, Option.some.injEq, Prod.mk.injEq] at htr
      obtain ⟨rfl, rfl⟩ := htr
      simp only [aStep] at hs
      split at hs
      · first | (simp at hs; done) | (split at hs <;> simp at hs)
      · cases hs
    | areturn =>
      simp only [aTr, Option.some.injEq, Prod.mk.injEq] at htr
      obtain ⟨rfl, rfl⟩ := htr
      simp only [aStep] at hs
      split at hs
      · first | (simp at hs; done) | (split at hs <;> simp at hs)
      · cases hs
    | return_ =>
      simp only [aTr, Option.some.injEq, Prod.mk.injEq] at htr
      obtain ⟨rfl, rfl⟩ := htr
      simp only [aStep] at hs
      split at hs
      · first | (simp at hs; done) | (split at hs <;> simp at hs)
      · cases hs
    | _ => simp [aTr] at htr
end SNC
