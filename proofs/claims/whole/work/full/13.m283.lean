/-! THE FORMULAS OF THE METHODS 283 TO 299 (written by wip/tools/gen13.py): what a run from a cut point needs -/
-- CensusOffice$Table hide (III)I
theorem m283 {d : Nat} {a0 : Nat} {a1 : Int32} {a2 : Int32} {a3 : Int32} {h : aH} {K : Int32 → aH → Prop} {X : Nat → aH → Prop} (F : 8 ≤ a0 ∧ gK h a0 = 11 ∧ ∀ h0 : aH, h0 = pI h a0 12 0 → Wp (d + 1) 283 (8, [some (vR a0), some (vI a1), some (vI a2), some (vI a3), some (vI 0), none], [], h0) (RI K X)) : CI (d + 1) 283 [vR a0, vI a1, vI a2, vI a3] h K X := by
  show Wp (d + 1) 283 (0, [some (vR a0), some (vI a1), some (vI a2), some (vI a3), none, none], [], h) (RI K X)
  refine wp_aload rfl rfl rfl ?_
  refine wp_const rfl rfl ?_
  obtain ⟨f0, F⟩ := F
  obtain ⟨f1, F⟩ := F
  refine wp_putI rfl rfl rfl f0 f1 rfl ?_
  have f2 : gK (pI h a0 12 0) a0 = 11 := (gK_pI _ _ _ _ _).trans f1
  replace F := F _ rfl
  generalize pI h a0 12 0 = h0 at F f2 ⊢
  refine wp_const rfl rfl ?_
  refine wp_istore (L2 := [some (vR a0), some (vI a1), some (vI a2), some (vI a3), some (vI 0), none]) rfl rfl rfl rfl ?_
  exact F
theorem w283_8 {d : Nat} {l0 : Nat} {l1 : Int32} {l2 : Int32} {l3 : Int32} {l4 : Int32} {h : aH} {K : Int32 → aH → Prop} {X : Nat → aH → Prop} (F : gK h l0 = 11 ∧ ((l4.toInt < (gI h l0 6).toInt → ∃ i0 : Nat, inB h 100 (gR h l0 8) l4 i0 ∧ ((0 < (gI h (gR h l0 8) i0).toInt → ∃ i1 : Nat, inB h 100 (gR h l0 8) l4 i1 ∧ (((gI h (gR h l0 8) i1).toInt < l1.toInt → 8 ≤ l0 ∧ ∀ h0 : aH, h0 = pI h l0 12 ((gI h l0 12) ||| (1 <<< (l4 &&& 31))) → ∀ v0 : Int32, v0 = l4 + 1 → Wp (d + 1) 283 (8, [some (vR l0), some (vI l1), some (vI l2), some (vI l3), some (vI v0), none], [], h0) (RI K X)) ∧ (¬ (gI h (gR h l0 8) i1).toInt < l1.toInt → ∃ i2 : Nat, inB h 100 (gR h l0 9) l4 i2 ∧ ∃ i3 : Nat, inB h 100 (gR h l0 7) l4 i3 ∧ ((((l2.toInt64) * ((gI h (gR h l0 7) i3).toInt64)).toInt < (100 * ((gI h (gR h l0 9) i2).toInt64)).toInt → 8 ≤ l0 ∧ ∀ h1 : aH, h1 = pI h l0 12 ((gI h l0 12) ||| (1 <<< (l4 &&& 31))) → ∀ v1 : Int32, v1 = l4 + 1 → Wp (d + 1) 283 (8, [some (vR l0), some (vI l1), some (vI l2), some (vI l3), some (vI v1), none], [], h1) (RI K X)) ∧ (¬ ((l2.toInt64) * ((gI h (gR h l0 7) i3).toInt64)).toInt < (100 * ((gI h (gR h l0 9) i2).toInt64)).toInt → ∀ v2 : Int32, v2 = l4 + 1 → Wp (d + 1) 283 (8, [some (vR l0), some (vI l1), some (vI l2), some (vI l3), some (vI v2), none], [], h) (RI K X)))))) ∧ (¬ 0 < (gI h (gR h l0 8) i0).toInt → ∃ i4 : Nat, inB h 100 (gR h l0 9) l4 i4 ∧ ∃ i5 : Nat, inB h 100 (gR h l0 7) l4 i5 ∧ ((((l2.toInt64) * ((gI h (gR h l0 7) i5).toInt64)).toInt < (100 * ((gI h (gR h l0 9) i4).toInt64)).toInt → 8 ≤ l0 ∧ ∀ h2 : aH, h2 = pI h l0 12 ((gI h l0 12) ||| (1 <<< (l4 &&& 31))) → ∀ v3 : Int32, v3 = l4 + 1 → Wp (d + 1) 283 (8, [some (vR l0), some (vI l1), some (vI l2), some (vI l3), some (vI v3), none], [], h2) (RI K X)) ∧ (¬ ((l2.toInt64) * ((gI h (gR h l0 7) i5).toInt64)).toInt < (100 * ((gI h (gR h l0 9) i4).toInt64)).toInt → ∀ v4 : Int32, v4 = l4 + 1 → Wp (d + 1) 283 (8, [some (vR l0), some (vI l1), some (vI l2), some (vI l3), some (vI v4), none], [], h) (RI K X)))))) ∧ (¬ l4.toInt < (gI h l0 6).toInt → ∀ v5 : Int32, v5 = (1 <<< ((gI h l0 6) &&& 31)) - 1 → 8 ≤ l0 ∧ ∀ h3 : aH, h3 = pI h l0 14 (-1) → ∀ h4 : aH, h4 = pI h3 l0 15 2147483647 → CI d 281 [vR l0, vI v5, vI l3] h4 (fun y0 h5 => ((y0.toInt = 0 → Wp (d + 1) 283 (146, [some (vR l0), none, none, none, some (vI v5), none], [], h5) (RI K X)) ∧ (¬ y0.toInt = 0 → gK h5 l0 = 11 ∧ CV d 282 [vR l0, vI (gI h5 l0 12), vI (v5 &&& ((gI h5 l0 12) ^^^ (-1))), vI 0, vI l3] h5 (fun h6 => Wp (d + 1) 283 (146, [some (vR l0), none, none, none, some (vI v5), none], [], h6) (RI K X)) X))) X))) : Wp (d + 1) 283 (8, [some (vR l0), some (vI l1), some (vI l2), some (vI l3), some (vI l4), none], [], h) (RI K X) := by
  refine wp_iload' (L' := [some (vR l0), some (vI l1), some (vI l2), some (vI l3), some (vI l4), none]) rfl rfl rfl rfl ?_
  refine wp_aload rfl rfl rfl ?_
  obtain ⟨f0, F⟩ := F
  refine wp_getI rfl rfl rfl f0 rfl ?_
  refine wp_icmp_ge rfl rfl rfl rfl rfl (fun c => ?_) (fun c => ?_)
  · replace F := F.1 c
    refine wp_aload rfl rfl rfl ?_
    refine wp_getR rfl rfl rfl f0 rfl ?_
    refine wp_iload rfl rfl rfl ?_
    obtain ⟨i0, b9, F⟩ := F
    refine wp_iaload rfl b9 rfl ?_
    refine wp_if_le rfl rfl rfl rfl (fun c => ?_) (fun c => ?_)
    · replace F := F.1 c
      refine wp_aload rfl rfl rfl ?_
      refine wp_getR rfl rfl rfl f0 rfl ?_
      refine wp_iload rfl rfl rfl ?_
      obtain ⟨i1, b9, F⟩ := F
      refine wp_iaload rfl b9 rfl ?_
      refine wp_iload rfl rfl rfl ?_
      refine wp_icmp_ge rfl rfl rfl rfl rfl (fun c => ?_) (fun c => ?_)
      · replace F := F.1 c
        refine wp_const rfl rfl ?_
        refine wp_goto rfl rfl ?_
        refine wp_istore' (L' := [some (vR l0), some (vI l1), some (vI l2), some (vI l3), some (vI l4), none]) (L2 := [some (vR l0), some (vI l1), some (vI l2), some (vI l3), some (vI l4), some (vI 1)]) rfl rfl rfl rfl rfl ?_
        refine wp_iload rfl rfl rfl ?_
        refine wp_if_ne (X := 1) rfl rfl rfl rfl (fun c => absurd c (by decide)) (fun _ => ?_)
        refine wp_aload' (L' := [some (vR l0), some (vI l1), some (vI l2), some (vI l3), some (vI l4), none]) rfl rfl rfl rfl ?_
        refine wp_dup rfl rfl rfl ?_
        refine wp_getI rfl rfl rfl f0 rfl ?_
        refine wp_const rfl rfl ?_
        refine wp_iload rfl rfl rfl ?_
        refine wp_ishl rfl rfl ?_
        refine wp_ior rfl rfl ?_
        obtain ⟨f1, F⟩ := F
        refine wp_putI rfl rfl rfl f1 f0 rfl ?_
        have f2 : gK (pI h l0 12 ((gI h l0 12) ||| (1 <<< (l4 &&& 31)))) l0 = 11 := (gK_pI _ _ _ _ _).trans f0
        replace F := F _ rfl
        generalize pI h l0 12 ((gI h l0 12) ||| (1 <<< (l4 &&& 31))) = h0 at F f2 ⊢
        refine wp_iinc' (L' := [some (vR l0), some (vI l1), some (vI l2), some (vI l3), some (vI l4), none]) (y := 1) (L2 := [some (vR l0), some (vI l1), some (vI l2), some (vI l3), some (vI (l4 + 1)), none]) rfl rfl rfl rfl rfl rfl ?_
        replace F := F _ rfl
        generalize (l4 + 1 : Int32) = v0 at F ⊢
        refine wp_goto rfl rfl ?_
        exact F
      · replace F := F.2 c
        refine wp_const' (L' := [some (vR l0), some (vI l1), some (vI l2), some (vI l3), some (vI l4), none]) rfl rfl rfl ?_
        refine wp_istore' (L' := [some (vR l0), some (vI l1), some (vI l2), some (vI l3), some (vI l4), none]) (L2 := [some (vR l0), some (vI l1), some (vI l2), some (vI l3), some (vI l4), some (vI 0)]) rfl rfl rfl rfl rfl ?_
        refine wp_iload rfl rfl rfl ?_
        refine wp_if_ne (X := 0) rfl rfl rfl rfl (fun _ => ?_) (fun c => absurd (by decide) c)
        refine wp_const rfl rfl ?_
        refine wp_aload rfl rfl rfl ?_
        refine wp_getR rfl rfl rfl f0 rfl ?_
        refine wp_iload rfl rfl rfl ?_
        obtain ⟨i2, b9, F⟩ := F
        refine wp_iaload rfl b9 rfl ?_
        refine wp_i2l rfl rfl ?_
        refine wp_lmul rfl rfl ?_
        refine wp_iload rfl rfl rfl ?_
        refine wp_i2l rfl rfl ?_
        refine wp_aload rfl rfl rfl ?_
        refine wp_getR rfl rfl rfl f0 rfl ?_
        refine wp_iload rfl rfl rfl ?_
        obtain ⟨i3, b9, F⟩ := F
        refine wp_iaload rfl b9 rfl ?_
        refine wp_i2l rfl rfl ?_
        refine wp_lmul rfl rfl ?_
        refine wp_lcmp_le rfl rfl rfl rfl rfl rfl rfl (fun c => ?_) (fun c => ?_)
        · replace F := F.1 c
          refine wp_aload' (L' := [some (vR l0), some (vI l1), some (vI l2), some (vI l3), some (vI l4), none]) rfl rfl rfl rfl ?_
          refine wp_dup rfl rfl rfl ?_
          refine wp_getI rfl rfl rfl f0 rfl ?_
          refine wp_const rfl rfl ?_
          refine wp_iload rfl rfl rfl ?_
          refine wp_ishl rfl rfl ?_
          refine wp_ior rfl rfl ?_
          obtain ⟨f3, F⟩ := F
          refine wp_putI rfl rfl rfl f3 f0 rfl ?_
          have f4 : gK (pI h l0 12 ((gI h l0 12) ||| (1 <<< (l4 &&& 31)))) l0 = 11 := (gK_pI _ _ _ _ _).trans f0
          replace F := F _ rfl
          generalize pI h l0 12 ((gI h l0 12) ||| (1 <<< (l4 &&& 31))) = h1 at F f4 ⊢
          refine wp_iinc' (L' := [some (vR l0), some (vI l1), some (vI l2), some (vI l3), some (vI l4), none]) (y := 1) (L2 := [some (vR l0), some (vI l1), some (vI l2), some (vI l3), some (vI (l4 + 1)), none]) rfl rfl rfl rfl rfl rfl ?_
          replace F := F _ rfl
          generalize (l4 + 1 : Int32) = v1 at F ⊢
          refine wp_goto rfl rfl ?_
          exact F
        · replace F := F.2 c
          refine wp_iinc' (L' := [some (vR l0), some (vI l1), some (vI l2), some (vI l3), some (vI l4), none]) (y := 1) (L2 := [some (vR l0), some (vI l1), some (vI l2), some (vI l3), some (vI (l4 + 1)), none]) rfl rfl rfl rfl rfl rfl ?_
          replace F := F _ rfl
          generalize (l4 + 1 : Int32) = v2 at F ⊢
          refine wp_goto rfl rfl ?_
          exact F
    · replace F := F.2 c
      refine wp_const' (L' := [some (vR l0), some (vI l1), some (vI l2), some (vI l3), some (vI l4), none]) rfl rfl rfl ?_
      refine wp_istore' (L' := [some (vR l0), some (vI l1), some (vI l2), some (vI l3), some (vI l4), none]) (L2 := [some (vR l0), some (vI l1), some (vI l2), some (vI l3), some (vI l4), some (vI 0)]) rfl rfl rfl rfl rfl ?_
      refine wp_iload rfl rfl rfl ?_
      refine wp_if_ne (X := 0) rfl rfl rfl rfl (fun _ => ?_) (fun c => absurd (by decide) c)
      refine wp_const rfl rfl ?_
      refine wp_aload rfl rfl rfl ?_
      refine wp_getR rfl rfl rfl f0 rfl ?_
      refine wp_iload rfl rfl rfl ?_
      obtain ⟨i4, b9, F⟩ := F
      refine wp_iaload rfl b9 rfl ?_
      refine wp_i2l rfl rfl ?_
      refine wp_lmul rfl rfl ?_
      refine wp_iload rfl rfl rfl ?_
      refine wp_i2l rfl rfl ?_
      refine wp_aload rfl rfl rfl ?_
      refine wp_getR rfl rfl rfl f0 rfl ?_
      refine wp_iload rfl rfl rfl ?_
      obtain ⟨i5, b9, F⟩ := F
      refine wp_iaload rfl b9 rfl ?_
      refine wp_i2l rfl rfl ?_
      refine wp_lmul rfl rfl ?_
      refine wp_lcmp_le rfl rfl rfl rfl rfl rfl rfl (fun c => ?_) (fun c => ?_)
      · replace F := F.1 c
        refine wp_aload' (L' := [some (vR l0), some (vI l1), some (vI l2), some (vI l3), some (vI l4), none]) rfl rfl rfl rfl ?_
        refine wp_dup rfl rfl rfl ?_
        refine wp_getI rfl rfl rfl f0 rfl ?_
        refine wp_const rfl rfl ?_
        refine wp_iload rfl rfl rfl ?_
        refine wp_ishl rfl rfl ?_
        refine wp_ior rfl rfl ?_
        obtain ⟨f5, F⟩ := F
        refine wp_putI rfl rfl rfl f5 f0 rfl ?_
        have f6 : gK (pI h l0 12 ((gI h l0 12) ||| (1 <<< (l4 &&& 31)))) l0 = 11 := (gK_pI _ _ _ _ _).trans f0
        replace F := F _ rfl
        generalize pI h l0 12 ((gI h l0 12) ||| (1 <<< (l4 &&& 31))) = h2 at F f6 ⊢
        refine wp_iinc' (L' := [some (vR l0), some (vI l1), some (vI l2), some (vI l3), some (vI l4), none]) (y := 1) (L2 := [some (vR l0), some (vI l1), some (vI l2), some (vI l3), some (vI (l4 + 1)), none]) rfl rfl rfl rfl rfl rfl ?_
        replace F := F _ rfl
        generalize (l4 + 1 : Int32) = v3 at F ⊢
        refine wp_goto rfl rfl ?_
        exact F
      · replace F := F.2 c
        refine wp_iinc' (L' := [some (vR l0), some (vI l1), some (vI l2), some (vI l3), some (vI l4), none]) (y := 1) (L2 := [some (vR l0), some (vI l1), some (vI l2), some (vI l3), some (vI (l4 + 1)), none]) rfl rfl rfl rfl rfl rfl ?_
        replace F := F _ rfl
        generalize (l4 + 1 : Int32) = v4 at F ⊢
        refine wp_goto rfl rfl ?_
        exact F
  · replace F := F.2 c
    refine wp_const' (L' := [some (vR l0), none, none, some (vI l3), none, none]) rfl rfl rfl ?_
    refine wp_aload rfl rfl rfl ?_
    refine wp_getI rfl rfl rfl f0 rfl ?_
    refine wp_ishl rfl rfl ?_
    refine wp_const rfl rfl ?_
    refine wp_isub rfl rfl ?_
    replace F := F _ rfl
    generalize ((1 <<< ((gI h l0 6) &&& 31)) - 1 : Int32) = v5 at F ⊢
    refine wp_istore (L2 := [some (vR l0), none, none, some (vI l3), some (vI v5), none]) rfl rfl rfl rfl ?_
    refine wp_aload rfl rfl rfl ?_
    refine wp_const rfl rfl ?_
    obtain ⟨f7, F⟩ := F
    refine wp_putI rfl rfl rfl f7 f0 rfl ?_
    have f8 : gK (pI h l0 14 (-1)) l0 = 11 := (gK_pI _ _ _ _ _).trans f0
    replace F := F _ rfl
    generalize pI h l0 14 (-1) = h3 at F f8 ⊢
    refine wp_aload rfl rfl rfl ?_
    refine wp_const rfl rfl ?_
    refine wp_putI rfl rfl rfl f7 f8 rfl ?_
    have f9 : gK (pI h3 l0 15 2147483647) l0 = 11 := (gK_pI _ _ _ _ _).trans f8
    replace F := F _ rfl
    generalize pI h3 l0 15 2147483647 = h4 at F f9 ⊢
    refine wp_aload rfl rfl rfl ?_
    refine wp_iload rfl rfl rfl ?_
    refine wp_iload rfl rfl rfl ?_
    refine wp_callI rfl rfl rfl (rcv_v f7 f9 (by decide) (by decide)) rfl rfl rfl rfl ?_
    refine CI.mono F (fun y0 h5 F => ?_) (fun _ _ w => rx_I w)
    refine wp_if_eq rfl rfl rfl rfl (fun c => ?_) (fun c => ?_)
    · replace F := F.1 c
      refine wp_kill (L' := [some (vR l0), none, none, none, some (vI v5), none]) rfl rfl ?_
      exact F
    · replace F := F.2 c
      refine wp_aload rfl rfl rfl ?_
      refine wp_aload rfl rfl rfl ?_
      obtain ⟨f10, F⟩ := F
      refine wp_getI rfl rfl rfl f10 rfl ?_
      refine wp_iload rfl rfl rfl ?_
      refine wp_aload rfl rfl rfl ?_
      refine wp_getI rfl rfl rfl f10 rfl ?_
      refine wp_const rfl rfl ?_
      refine wp_ixor rfl rfl ?_
      refine wp_iand rfl rfl ?_
      refine wp_const rfl rfl ?_
      refine wp_iload rfl rfl rfl ?_
      refine wp_callV rfl rfl rfl (rcv_v f7 f10 (by decide) (by decide)) rfl rfl rfl rfl ?_
      refine CV.mono F (fun h6 F => ?_) (fun _ _ w => rx_I w)
      refine wp_kill (L' := [some (vR l0), none, none, none, some (vI v5), none]) rfl rfl ?_
      exact F
theorem w283_146 {d : Nat} {l0 : Nat} {l4 : Int32} {h : aH} {K : Int32 → aH → Prop} {X : Nat → aH → Prop} (F : gK h l0 = 11 ∧ (((gI h l0 14).toInt = (-1) → 8 ≤ l0 ∧ ∀ h0 : aH, h0 = pI h l0 13 l4 → (((gI h0 l0 14).toInt = (-1) → K (-1) h0) ∧ (¬ (gI h0 l0 14).toInt = (-1) → K (gI h0 l0 15) h0))) ∧ (¬ (gI h l0 14).toInt = (-1) → 8 ≤ l0 ∧ ∀ h1 : aH, h1 = pI h l0 13 (gI h l0 14) → (((gI h1 l0 14).toInt = (-1) → K (-1) h1) ∧ (¬ (gI h1 l0 14).toInt = (-1) → K (gI h1 l0 15) h1))))) : Wp (d + 1) 283 (146, [some (vR l0), none, none, none, some (vI l4), none], [], h) (RI K X) := by
  refine wp_aload' (L' := [some (vR l0), none, none, none, some (vI l4), none]) rfl rfl rfl rfl ?_
  refine wp_aload rfl rfl rfl ?_
  obtain ⟨f0, F⟩ := F
  refine wp_getI rfl rfl rfl f0 rfl ?_
  refine wp_const rfl rfl ?_
  refine wp_icmp_ne (Y := (-1)) rfl rfl rfl rfl rfl (fun c => ?_) (fun c => ?_)
  · replace F := F.1 c
    refine wp_iload rfl rfl rfl ?_
    refine wp_goto rfl rfl ?_
    obtain ⟨f1, F⟩ := F
    refine wp_putI' (L' := [some (vR l0), none, none, none, none, none]) rfl rfl rfl rfl f1 f0 rfl ?_
    have f2 : gK (pI h l0 13 l4) l0 = 11 := (gK_pI _ _ _ _ _).trans f0
    replace F := F _ rfl
    generalize pI h l0 13 l4 = h0 at F f2 ⊢
    refine wp_aload rfl rfl rfl ?_
    refine wp_getI rfl rfl rfl f2 rfl ?_
    refine wp_const rfl rfl ?_
    refine wp_icmp_ne (Y := (-1)) rfl rfl rfl rfl rfl (fun c => ?_) (fun c => ?_)
    · replace F := F.1 c
      refine wp_const rfl rfl ?_
      refine wp_goto rfl rfl ?_
      exact wp_retI rfl (Or.inl rfl) F
    · replace F := F.2 c
      refine wp_aload' (L' := [some (vR l0), none, none, none, none, none]) rfl rfl rfl rfl ?_
      refine wp_getI rfl rfl rfl f2 rfl ?_
      exact wp_retI rfl (Or.inl rfl) F
  · replace F := F.2 c
    refine wp_aload' (L' := [some (vR l0), none, none, none, none, none]) rfl rfl rfl rfl ?_
    refine wp_getI rfl rfl rfl f0 rfl ?_
    obtain ⟨f3, F⟩ := F
    refine wp_putI' (L' := [some (vR l0), none, none, none, none, none]) rfl rfl rfl rfl f3 f0 rfl ?_
    have f4 : gK (pI h l0 13 (gI h l0 14)) l0 = 11 := (gK_pI _ _ _ _ _).trans f0
    replace F := F _ rfl
    generalize pI h l0 13 (gI h l0 14) = h1 at F f4 ⊢
    refine wp_aload rfl rfl rfl ?_
    refine wp_getI rfl rfl rfl f4 rfl ?_
    refine wp_const rfl rfl ?_
    refine wp_icmp_ne (Y := (-1)) rfl rfl rfl rfl rfl (fun c => ?_) (fun c => ?_)
    · replace F := F.1 c
      refine wp_const rfl rfl ?_
      refine wp_goto rfl rfl ?_
      exact wp_retI rfl (Or.inl rfl) F
    · replace F := F.2 c
      refine wp_aload' (L' := [some (vR l0), none, none, none, none, none]) rfl rfl rfl rfl ?_
      refine wp_getI rfl rfl rfl f4 rfl ?_
      exact wp_retI rfl (Or.inl rfl) F
-- CensusOffice secrecy (IIII)I
theorem m284 {d : Nat} {a0 : Nat} {a1 : Int32} {a2 : Int32} {a3 : Int32} {a4 : Int32} {h : aH} {K : Int32 → aH → Prop} {X : Nat → aH → Prop} (F : 8 ≤ a0 ∧ gK h a0 = 1 ∧ CR d 267 [vR a0, vI a1] h (fun q0 h0 => ((a2.toInt < 0 → X 1 (gNew h0 200 6)) ∧ (¬ a2.toInt < 0 → ((100 < a2.toInt → X 1 (gNew h0 200 6)) ∧ (¬ 100 < a2.toInt → ((a3.toInt < 0 → X 1 (gNew h0 200 6)) ∧ (¬ a3.toInt < 0 → ((100 < a3.toInt → X 1 (gNew h0 200 6)) ∧ (¬ 100 < a3.toInt → ((a4.toInt < 0 → X 1 (gNew h0 200 6)) ∧ (¬ a4.toInt < 0 → ((1000000 < a4.toInt → X 1 (gNew h0 200 6)) ∧ (¬ 1000000 < a4.toInt → 8 ≤ q0 ∧ gK h0 q0 = 11 ∧ CI d 283 [vR q0, vI a2, vI a3, vI a4] h0 (fun y0 h1 => K y0 h1) X))))))))))))) X) : CI (d + 1) 284 [vR a0, vI a1, vI a2, vI a3, vI a4] h K X := by
  show Wp (d + 1) 284 (0, [some (vR a0), some (vI a1), some (vI a2), some (vI a3), some (vI a4), none], [], h) (RI K X)
  refine wp_aload rfl rfl rfl ?_
  refine wp_iload rfl rfl rfl ?_
  obtain ⟨f0, F⟩ := F
  obtain ⟨f1, F⟩ := F
  refine wp_callR rfl rfl rfl (rcv_v f0 f1 (by decide) (by decide)) rfl rfl rfl rfl ?_
  refine CR.mono F (fun q0 h0 F => ?_) (fun _ _ w => rx_I w)
  refine wp_astore (L2 := [some (vR a0), some (vI a1), some (vI a2), some (vI a3), some (vI a4), some (vR q0)]) rfl rfl rfl rfl ?_
  refine wp_iload rfl rfl rfl ?_
  refine wp_if_lt rfl rfl rfl rfl (fun c => ?_) (fun c => ?_)
  · replace F := F.1 c
    exact wp_thrI rfl F
  · replace F := F.2 c
    refine wp_iload rfl rfl rfl ?_
    refine wp_const rfl rfl ?_
    refine wp_icmp_gt (Y := 100) rfl rfl rfl rfl rfl (fun c => ?_) (fun c => ?_)
    · replace F := F.1 c
      exact wp_thrI rfl F
    · replace F := F.2 c
      refine wp_iload rfl rfl rfl ?_
      refine wp_if_lt rfl rfl rfl rfl (fun c => ?_) (fun c => ?_)
      · replace F := F.1 c
        exact wp_thrI rfl F
      · replace F := F.2 c
        refine wp_iload rfl rfl rfl ?_
        refine wp_const rfl rfl ?_
        refine wp_icmp_gt (Y := 100) rfl rfl rfl rfl rfl (fun c => ?_) (fun c => ?_)
        · replace F := F.1 c
          exact wp_thrI rfl F
        · replace F := F.2 c
          refine wp_iload rfl rfl rfl ?_
          refine wp_if_lt rfl rfl rfl rfl (fun c => ?_) (fun c => ?_)
          · replace F := F.1 c
            exact wp_thrI rfl F
          · replace F := F.2 c
            refine wp_iload rfl rfl rfl ?_
            refine wp_const rfl rfl ?_
            refine wp_icmp_le (Y := 1000000) rfl rfl rfl rfl rfl (fun c => ?_) (fun c => ?_)
            · replace F := F.1 c
              exact wp_thrI rfl F
            · replace F := F.2 c
              refine wp_aload' (L' := [none, none, some (vI a2), some (vI a3), some (vI a4), some (vR q0)]) rfl rfl rfl rfl ?_
              refine wp_iload rfl rfl rfl ?_
              refine wp_iload rfl rfl rfl ?_
              refine wp_iload rfl rfl rfl ?_
              obtain ⟨f2, F⟩ := F
              obtain ⟨f3, F⟩ := F
              refine wp_callI rfl rfl rfl (rcv_v f2 f3 (by decide) (by decide)) rfl rfl rfl rfl ?_
              refine CI.mono F (fun y0 h1 F => ?_) (fun _ _ w => rx_I w)
              exact wp_retI rfl (Or.inl rfl) F
-- CensusOfficeLaw secrecy (LCensusOffice;IIII[J)I
theorem m285 {d : Nat} {a0 : Nat} {a1 : Int32} {a2 : Int32} {a3 : Int32} {a4 : Int32} {a5 : Nat} {h : aH} {K : Int32 → aH → Prop} {X : Nat → aH → Prop} (F : 8 ≤ a0 ∧ gK h a0 = 1 ∧ CI d 284 [vR a0, vI a1, vI a2, vI a3, vI a4] h (fun y0 h0 => 8 ≤ a5 ∧ inB h0 101 a5 0 0 ∧ ∀ h1 : aH, h1 = pJ h0 a5 0 (y0.toInt64) → K 0 h1) (fun x9 h9 => (x9 = 3 ∧ K 1 h9) ∨ (x9 = 1 ∧ K 2 h9))) : CI (d + 1) 285 [vR a0, vI a1, vI a2, vI a3, vI a4, vR a5] h K X := by
  show Wp (d + 1) 285 (0, [some (vR a0), some (vI a1), some (vI a2), some (vI a3), some (vI a4), some (vR a5), none], [], h) (RI K X)
  refine wp_aload rfl rfl rfl ?_
  refine wp_const rfl rfl ?_
  refine wp_aload rfl rfl rfl ?_
  refine wp_iload rfl rfl rfl ?_
  refine wp_iload rfl rfl rfl ?_
  refine wp_iload rfl rfl rfl ?_
  refine wp_iload rfl rfl rfl ?_
  obtain ⟨f0, F⟩ := F
  obtain ⟨f1, F⟩ := F
  refine wp_callhI (X := (fun x9 h9 => (x9 = 3 ∧ K 1 h9) ∨ (x9 = 1 ∧ K 2 h9))) rfl rfl rfl (rcv_v f0 f1 (by decide) (by decide)) rfl rfl rfl (fun x9 h9 F => ?_) ?_
  · rcases F with ⟨rfl, F⟩ | ⟨rfl, F⟩
    · refine ⟨17, rfl, ?_⟩
      refine wp_astoreJ' (L' := [none, none, none, none, none, none, none]) (L2 := [none, none, none, none, none, none, some vJ]) rfl rfl rfl rfl rfl ?_
      refine wp_const rfl rfl ?_
      exact wp_retI rfl (Or.inl rfl) F
    · refine ⟨21, rfl, ?_⟩
      refine wp_astoreJ' (L' := [none, none, none, none, none, none, none]) (L2 := [none, none, none, none, none, none, some vJ]) rfl rfl rfl rfl rfl ?_
      refine wp_const rfl rfl ?_
      exact wp_retI rfl (Or.inl rfl) F
  · refine CI.mono F (fun y0 h0 F => ?_) (fun _ _ w => w)
    refine wp_i2l rfl rfl ?_
    obtain ⟨f2, F⟩ := F
    obtain ⟨b9, F⟩ := F
    refine wp_lastore rfl f2 b9 rfl ?_
    replace F := F _ rfl
    generalize pJ h0 a5 0 (y0.toInt64) = h1 at F ⊢
    refine wp_goto rfl rfl ?_
    refine wp_const' (L' := [none, none, none, none, none, none, none]) rfl rfl rfl ?_
    exact wp_retI rfl (Or.inl rfl) F
-- CensusOfficeModel most (IIIZ)I
theorem m286 {d : Nat} {a0 : Nat} {a1 : Int32} {a2 : Int32} {a3 : Int32} {a4 : Int32} {h : aH} {K : Int32 → aH → Prop} {X : Nat → aH → Prop} (F : gK h a0 = 14 ∧ ∃ i0 : Nat, inB h 100 (gR h a0 71) a1 i0 ∧ ∀ v0 : Int32, v0 = gI h (gR h a0 71) i0 → (¬ v0 = 0) ∧ ∀ v1 : Int32, v1 = a3 / v0 → (¬ v0 = 0) ∧ ∀ v2 : Int32, v2 = aIrem a3 v0 → ∃ i1 : Nat, inB h 100 (gR h a0 70) a1 i1 ∧ ∀ v3 : Int32, v3 = (gI h (gR h a0 70) i1) + v0 → Wp d 286 (39, [some (vR a0), some (vI a1), some (vI a2), some (vI a3), some (vI a4), some (vI v0), some (vI v1), some (vI v2), some (vI v3), some (vL (-1)), none, some (vI 0), none, none, none, none, none, none, none, none], [], h) (RI K X)) : CI d 286 [vR a0, vI a1, vI a2, vI a3, vI a4] h K X := by
  show Wp d 286 (0, [some (vR a0), some (vI a1), some (vI a2), some (vI a3), some (vI a4), none, none, none, none, none, none, none, none, none, none, none, none, none, none, none], [], h) (RI K X)
  refine wp_aload rfl rfl rfl ?_
  obtain ⟨f0, F⟩ := F
  refine wp_getR rfl rfl rfl f0 rfl ?_
  refine wp_iload rfl rfl rfl ?_
  obtain ⟨i0, b9, F⟩ := F
  refine wp_iaload rfl b9 rfl ?_
  replace F := F _ rfl
  generalize (gI h (gR h a0 71) i0 : Int32) = v0 at F ⊢
  refine wp_istore (L2 := [some (vR a0), some (vI a1), some (vI a2), some (vI a3), some (vI a4), some (vI v0), none, none, none, none, none, none, none, none, none, none, none, none, none, none]) rfl rfl rfl rfl ?_
  refine wp_iload rfl rfl rfl ?_
  refine wp_iload rfl rfl rfl ?_
  refine wp_idiv rfl F.1 rfl ?_
  replace F := F.2
  replace F := F _ rfl
  generalize (a3 / v0 : Int32) = v1 at F ⊢
  refine wp_istore (L2 := [some (vR a0), some (vI a1), some (vI a2), some (vI a3), some (vI a4), some (vI v0), some (vI v1), none, none, none, none, none, none, none, none, none, none, none, none, none]) rfl rfl rfl rfl ?_
  refine wp_iload rfl rfl rfl ?_
  refine wp_iload rfl rfl rfl ?_
  refine wp_irem rfl F.1 rfl ?_
  replace F := F.2
  replace F := F _ rfl
  generalize (aIrem a3 v0 : Int32) = v2 at F ⊢
  refine wp_istore (L2 := [some (vR a0), some (vI a1), some (vI a2), some (vI a3), some (vI a4), some (vI v0), some (vI v1), some (vI v2), none, none, none, none, none, none, none, none, none, none, none, none]) rfl rfl rfl rfl ?_
  refine wp_aload rfl rfl rfl ?_
  refine wp_getR rfl rfl rfl f0 rfl ?_
  refine wp_iload rfl rfl rfl ?_
  obtain ⟨i1, b9, F⟩ := F
  refine wp_iaload rfl b9 rfl ?_
  refine wp_iload rfl rfl rfl ?_
  refine wp_iadd rfl rfl ?_
  replace F := F _ rfl
  generalize ((gI h (gR h a0 70) i1) + v0 : Int32) = v3 at F ⊢
  refine wp_istore (L2 := [some (vR a0), some (vI a1), some (vI a2), some (vI a3), some (vI a4), some (vI v0), some (vI v1), some (vI v2), some (vI v3), none, none, none, none, none, none, none, none, none, none, none]) rfl rfl rfl rfl ?_
  refine wp_const rfl rfl ?_
  refine wp_lstore (L2 := [some (vR a0), some (vI a1), some (vI a2), some (vI a3), some (vI a4), some (vI v0), some (vI v1), some (vI v2), some (vI v3), some (vL (-1)), none, none, none, none, none, none, none, none, none, none]) rfl rfl rfl rfl ?_
  refine wp_const rfl rfl ?_
  refine wp_istore (L2 := [some (vR a0), some (vI a1), some (vI a2), some (vI a3), some (vI a4), some (vI v0), some (vI v1), some (vI v2), some (vI v3), some (vL (-1)), none, some (vI 0), none, none, none, none, none, none, none, none]) rfl rfl rfl rfl ?_
  exact F
theorem w286_39 {d : Nat} {l0 : Nat} {l1 : Int32} {l2 : Int32} {l3 : Int32} {l4 : Int32} {l5 : Int32} {l6 : Int32} {l7 : Int32} {l8 : Int32} {l9 : Int64} {l11 : Int32} {h : aH} {K : Int32 → aH → Prop} {X : Nat → aH → Prop} (F : ((l11.toInt < (1 <<< (l8 &&& 31)).toInt → ((((l11 >>> (l6 &&& 31)) &&& 1).toInt = 1 → gK h l0 = 14 ∧ ∃ i0 : Nat, inB h 100 (gR h l0 70) l1 i0 ∧ ((((l11 >>> (((gI h (gR h l0 70) i0) + l7) &&& 31)) &&& 1).toInt = 1 → Wp d 286 (89, [some (vR l0), some (vI l1), some (vI l2), some (vI l3), some (vI l4), some (vI l5), some (vI l6), some (vI l7), some (vI l8), some (vL l9), none, some (vI l11), some (vI 1), none, none, none, none, none, none, none], [vI 1], h) (RI K X)) ∧ (¬ ((l11 >>> (((gI h (gR h l0 70) i0) + l7) &&& 31)) &&& 1).toInt = 1 → Wp d 286 (89, [some (vR l0), some (vI l1), some (vI l2), some (vI l3), some (vI l4), some (vI l5), some (vI l6), some (vI l7), some (vI l8), some (vL l9), none, some (vI l11), some (vI 1), none, none, none, none, none, none, none], [vI 0], h) (RI K X)))) ∧ (¬ ((l11 >>> (l6 &&& 31)) &&& 1).toInt = 1 → gK h l0 = 14 ∧ ∃ i1 : Nat, inB h 100 (gR h l0 70) l1 i1 ∧ ((((l11 >>> (((gI h (gR h l0 70) i1) + l7) &&& 31)) &&& 1).toInt = 1 → Wp d 286 (89, [some (vR l0), some (vI l1), some (vI l2), some (vI l3), some (vI l4), some (vI l5), some (vI l6), some (vI l7), some (vI l8), some (vL l9), none, some (vI l11), some (vI 0), none, none, none, none, none, none, none], [vI 1], h) (RI K X)) ∧ (¬ ((l11 >>> (((gI h (gR h l0 70) i1) + l7) &&& 31)) &&& 1).toInt = 1 → Wp d 286 (89, [some (vR l0), some (vI l1), some (vI l2), some (vI l3), some (vI l4), some (vI l5), some (vI l6), some (vI l7), some (vI l8), some (vL l9), none, some (vI l11), some (vI 0), none, none, none, none, none, none, none], [vI 0], h) (RI K X)))))) ∧ (¬ l11.toInt < (1 <<< (l8 &&& 31)).toInt → gK h l0 = 14 ∧ ∃ i2 : Nat, inB h 100 (gR h l0 72) ((12 * l1) + l3) i2 ∧ ∀ v0 : Int32, v0 = gI h (gR h l0 72) i2 → ((l4.toInt = 0 → ((l9.toInt < (v0.toInt64).toInt → K (l9.toInt32) h) ∧ (¬ l9.toInt < (v0.toInt64).toInt → K v0 h))) ∧ (¬ l4.toInt = 0 → K (l9.toInt32) h))))) : Wp d 286 (39, [some (vR l0), some (vI l1), some (vI l2), some (vI l3), some (vI l4), some (vI l5), some (vI l6), some (vI l7), some (vI l8), some (vL l9), none, some (vI l11), none, none, none, none, none, none, none, none], [], h) (RI K X) := by
  refine wp_iload' (L' := [some (vR l0), some (vI l1), some (vI l2), some (vI l3), some (vI l4), some (vI l5), some (vI l6), some (vI l7), some (vI l8), some (vL l9), none, some (vI l11), none, none, none, none, none, none, none, none]) rfl rfl rfl rfl ?_
  refine wp_const rfl rfl ?_
  refine wp_iload rfl rfl rfl ?_
  refine wp_ishl rfl rfl ?_
  refine wp_icmp_ge rfl rfl rfl rfl rfl (fun c => ?_) (fun c => ?_)
  · replace F := F.1 c
    refine wp_iload rfl rfl rfl ?_
    refine wp_iload rfl rfl rfl ?_
    refine wp_ishr rfl rfl ?_
    refine wp_const rfl rfl ?_
    refine wp_iand rfl rfl ?_
    refine wp_const rfl rfl ?_
    refine wp_icmp_ne (Y := 1) rfl rfl rfl rfl rfl (fun c => ?_) (fun c => ?_)
    · replace F := F.1 c
      refine wp_const rfl rfl ?_
      refine wp_goto rfl rfl ?_
      refine wp_istore' (L' := [some (vR l0), some (vI l1), some (vI l2), some (vI l3), some (vI l4), some (vI l5), some (vI l6), some (vI l7), some (vI l8), some (vL l9), none, some (vI l11), none, none, none, none, none, none, none, none]) (L2 := [some (vR l0), some (vI l1), some (vI l2), some (vI l3), some (vI l4), some (vI l5), some (vI l6), some (vI l7), some (vI l8), some (vL l9), none, some (vI l11), some (vI 1), none, none, none, none, none, none, none]) rfl rfl rfl rfl rfl ?_
      refine wp_iload rfl rfl rfl ?_
      refine wp_aload rfl rfl rfl ?_
      obtain ⟨f0, F⟩ := F
      refine wp_getR rfl rfl rfl f0 rfl ?_
      refine wp_iload rfl rfl rfl ?_
      obtain ⟨i0, b9, F⟩ := F
      refine wp_iaload rfl b9 rfl ?_
      refine wp_iload rfl rfl rfl ?_
      refine wp_iadd rfl rfl ?_
      refine wp_ishr rfl rfl ?_
      refine wp_const rfl rfl ?_
      refine wp_iand rfl rfl ?_
      refine wp_const rfl rfl ?_
      refine wp_icmp_ne (Y := 1) rfl rfl rfl rfl rfl (fun c => ?_) (fun c => ?_)
      · replace F := F.1 c
        refine wp_const rfl rfl ?_
        refine wp_goto rfl rfl ?_
        exact F
      · replace F := F.2 c
        refine wp_const' (L' := [some (vR l0), some (vI l1), some (vI l2), some (vI l3), some (vI l4), some (vI l5), some (vI l6), some (vI l7), some (vI l8), some (vL l9), none, some (vI l11), some (vI 1), none, none, none, none, none, none, none]) rfl rfl rfl ?_
        exact F
    · replace F := F.2 c
      refine wp_const' (L' := [some (vR l0), some (vI l1), some (vI l2), some (vI l3), some (vI l4), some (vI l5), some (vI l6), some (vI l7), some (vI l8), some (vL l9), none, some (vI l11), none, none, none, none, none, none, none, none]) rfl rfl rfl ?_
      refine wp_istore' (L' := [some (vR l0), some (vI l1), some (vI l2), some (vI l3), some (vI l4), some (vI l5), some (vI l6), some (vI l7), some (vI l8), some (vL l9), none, some (vI l11), none, none, none, none, none, none, none, none]) (L2 := [some (vR l0), some (vI l1), some (vI l2), some (vI l3), some (vI l4), some (vI l5), some (vI l6), some (vI l7), some (vI l8), some (vL l9), none, some (vI l11), some (vI 0), none, none, none, none, none, none, none]) rfl rfl rfl rfl rfl ?_
      refine wp_iload rfl rfl rfl ?_
      refine wp_aload rfl rfl rfl ?_
      obtain ⟨f1, F⟩ := F
      refine wp_getR rfl rfl rfl f1 rfl ?_
      refine wp_iload rfl rfl rfl ?_
      obtain ⟨i1, b9, F⟩ := F
      refine wp_iaload rfl b9 rfl ?_
      refine wp_iload rfl rfl rfl ?_
      refine wp_iadd rfl rfl ?_
      refine wp_ishr rfl rfl ?_
      refine wp_const rfl rfl ?_
      refine wp_iand rfl rfl ?_
      refine wp_const rfl rfl ?_
      refine wp_icmp_ne (Y := 1) rfl rfl rfl rfl rfl (fun c => ?_) (fun c => ?_)
      · replace F := F.1 c
        refine wp_const rfl rfl ?_
        refine wp_goto rfl rfl ?_
        exact F
      · replace F := F.2 c
        refine wp_const' (L' := [some (vR l0), some (vI l1), some (vI l2), some (vI l3), some (vI l4), some (vI l5), some (vI l6), some (vI l7), some (vI l8), some (vL l9), none, some (vI l11), some (vI 0), none, none, none, none, none, none, none]) rfl rfl rfl ?_
        exact F
  · replace F := F.2 c
    refine wp_aload' (L' := [some (vR l0), some (vI l1), none, some (vI l3), some (vI l4), none, none, none, none, some (vL l9), none, none, none, none, none, none, none, none, none, none]) rfl rfl rfl rfl ?_
    obtain ⟨f2, F⟩ := F
    refine wp_getR rfl rfl rfl f2 rfl ?_
    refine wp_const rfl rfl ?_
    refine wp_iload rfl rfl rfl ?_
    refine wp_imul rfl rfl ?_
    refine wp_iload rfl rfl rfl ?_
    refine wp_iadd rfl rfl ?_
    obtain ⟨i2, b9, F⟩ := F
    refine wp_iaload rfl b9 rfl ?_
    replace F := F _ rfl
    generalize (gI h (gR h l0 72) i2 : Int32) = v0 at F ⊢
    refine wp_istore (L2 := [some (vR l0), some (vI l1), none, some (vI l3), some (vI l4), none, none, none, none, some (vL l9), none, some (vI v0), none, none, none, none, none, none, none, none]) rfl rfl rfl rfl ?_
    refine wp_iload rfl rfl rfl ?_
    refine wp_if_ne rfl rfl rfl rfl (fun c => ?_) (fun c => ?_)
    · replace F := F.1 c
      refine wp_lload rfl rfl rfl ?_
      refine wp_iload rfl rfl rfl ?_
      refine wp_i2l rfl rfl ?_
      refine wp_lcmp_ge rfl rfl rfl rfl rfl rfl rfl (fun c => ?_) (fun c => ?_)
      · replace F := F.1 c
        refine wp_lload' (L' := [none, none, none, none, none, none, none, none, none, some (vL l9), none, none, none, none, none, none, none, none, none, none]) rfl rfl rfl rfl ?_
        refine wp_l2i rfl rfl ?_
        refine wp_goto rfl rfl ?_
        exact wp_retI rfl (Or.inl rfl) F
      · replace F := F.2 c
        refine wp_iload' (L' := [none, none, none, none, none, none, none, none, none, none, none, some (vI v0), none, none, none, none, none, none, none, none]) rfl rfl rfl rfl ?_
        exact wp_retI rfl (Or.inl rfl) F
    · replace F := F.2 c
      refine wp_lload' (L' := [none, none, none, none, none, none, none, none, none, some (vL l9), none, none, none, none, none, none, none, none, none, none]) rfl rfl rfl rfl ?_
      refine wp_l2i rfl rfl ?_
      refine wp_goto rfl rfl ?_
      exact wp_retI rfl (Or.inl rfl) F
theorem w286_89 {d : Nat} {l0 : Nat} {l1 : Int32} {l2 : Int32} {l3 : Int32} {l4 : Int32} {l5 : Int32} {l6 : Int32} {l7 : Int32} {l8 : Int32} {l9 : Int64} {l11 : Int32} {l12 : Int32} {s0 : Int32} {h : aH} {K : Int32 → aH → Prop} {X : Nat → aH → Prop} (F : ((l4.toInt = 0 → ((s0.toInt = 0 → ((l12.toInt = 0 → ∀ v0 : Int32, v0 = l11 + 1 → Wp d 286 (39, [some (vR l0), some (vI l1), some (vI l2), some (vI l3), some (vI l4), some (vI l5), some (vI l6), some (vI l7), some (vI l8), some (vL l9), none, some (vI v0), none, none, none, none, none, none, none, none], [], h) (RI K X)) ∧ (¬ l12.toInt = 0 → Wp d 286 (131, [some (vR l0), some (vI l1), some (vI l2), some (vI l3), some (vI l4), some (vI l5), some (vI l6), some (vI l7), some (vI l8), some (vL l9), none, some (vI l11), none, none, some (vL 0), none, some (vI 1), some (vI 0), none, none], [], h) (RI K X)))) ∧ (¬ s0.toInt = 0 → ∀ v1 : Int32, v1 = l11 + 1 → Wp d 286 (39, [some (vR l0), some (vI l1), some (vI l2), some (vI l3), some (vI l4), some (vI l5), some (vI l6), some (vI l7), some (vI l8), some (vL l9), none, some (vI v1), none, none, none, none, none, none, none, none], [], h) (RI K X)))) ∧ (¬ l4.toInt = 0 → ((l12.toInt = 0 → ((s0.toInt = 0 → ∀ v2 : Int32, v2 = l11 + 1 → Wp d 286 (39, [some (vR l0), some (vI l1), some (vI l2), some (vI l3), some (vI l4), some (vI l5), some (vI l6), some (vI l7), some (vI l8), some (vL l9), none, some (vI v2), none, none, none, none, none, none, none, none], [], h) (RI K X)) ∧ (¬ s0.toInt = 0 → Wp d 286 (131, [some (vR l0), some (vI l1), some (vI l2), some (vI l3), some (vI l4), some (vI l5), some (vI l6), some (vI l7), some (vI l8), some (vL l9), none, some (vI l11), none, none, some (vL 0), none, some (vI 1), some (vI 0), none, none], [], h) (RI K X)))) ∧ (¬ l12.toInt = 0 → ∀ v3 : Int32, v3 = l11 + 1 → Wp d 286 (39, [some (vR l0), some (vI l1), some (vI l2), some (vI l3), some (vI l4), some (vI l5), some (vI l6), some (vI l7), some (vI l8), some (vL l9), none, some (vI v3), none, none, none, none, none, none, none, none], [], h) (RI K X)))))) : Wp d 286 (89, [some (vR l0), some (vI l1), some (vI l2), some (vI l3), some (vI l4), some (vI l5), some (vI l6), some (vI l7), some (vI l8), some (vL l9), none, some (vI l11), some (vI l12), none, none, none, none, none, none, none], [vI s0], h) (RI K X) := by
  refine wp_istore' (L' := [some (vR l0), some (vI l1), some (vI l2), some (vI l3), some (vI l4), some (vI l5), some (vI l6), some (vI l7), some (vI l8), some (vL l9), none, some (vI l11), some (vI l12), none, none, none, none, none, none, none]) (L2 := [some (vR l0), some (vI l1), some (vI l2), some (vI l3), some (vI l4), some (vI l5), some (vI l6), some (vI l7), some (vI l8), some (vL l9), none, some (vI l11), some (vI l12), some (vI s0), none, none, none, none, none, none]) rfl rfl rfl rfl rfl ?_
  refine wp_iload rfl rfl rfl ?_
  refine wp_if_eq rfl rfl rfl rfl (fun c => ?_) (fun c => ?_)
  · replace F := F.1 c
    refine wp_iload' (L' := [some (vR l0), some (vI l1), some (vI l2), some (vI l3), some (vI l4), some (vI l5), some (vI l6), some (vI l7), some (vI l8), some (vL l9), none, some (vI l11), some (vI l12), some (vI s0), none, none, none, none, none, none]) rfl rfl rfl rfl ?_
    refine wp_if_ne rfl rfl rfl rfl (fun c => ?_) (fun c => ?_)
    · replace F := F.1 c
      refine wp_iload rfl rfl rfl ?_
      refine wp_if_ne rfl rfl rfl rfl (fun c => ?_) (fun c => ?_)
      · replace F := F.1 c
        refine wp_goto rfl rfl ?_
        refine wp_iinc' (L' := [some (vR l0), some (vI l1), some (vI l2), some (vI l3), some (vI l4), some (vI l5), some (vI l6), some (vI l7), some (vI l8), some (vL l9), none, some (vI l11), none, none, none, none, none, none, none, none]) (y := 1) (L2 := [some (vR l0), some (vI l1), some (vI l2), some (vI l3), some (vI l4), some (vI l5), some (vI l6), some (vI l7), some (vI l8), some (vL l9), none, some (vI (l11 + 1)), none, none, none, none, none, none, none, none]) rfl rfl rfl rfl rfl rfl ?_
        replace F := F _ rfl
        generalize (l11 + 1 : Int32) = v0 at F ⊢
        refine wp_goto rfl rfl ?_
        exact F
      · replace F := F.2 c
        refine wp_const' (L' := [some (vR l0), some (vI l1), some (vI l2), some (vI l3), some (vI l4), some (vI l5), some (vI l6), some (vI l7), some (vI l8), some (vL l9), none, some (vI l11), none, none, none, none, none, none, none, none]) rfl rfl rfl ?_
        refine wp_lstore (L2 := [some (vR l0), some (vI l1), some (vI l2), some (vI l3), some (vI l4), some (vI l5), some (vI l6), some (vI l7), some (vI l8), some (vL l9), none, some (vI l11), none, none, some (vL 0), none, none, none, none, none]) rfl rfl rfl rfl ?_
        refine wp_const rfl rfl ?_
        refine wp_istore (L2 := [some (vR l0), some (vI l1), some (vI l2), some (vI l3), some (vI l4), some (vI l5), some (vI l6), some (vI l7), some (vI l8), some (vL l9), none, some (vI l11), none, none, some (vL 0), none, some (vI 1), none, none, none]) rfl rfl rfl rfl ?_
        refine wp_const rfl rfl ?_
        refine wp_istore (L2 := [some (vR l0), some (vI l1), some (vI l2), some (vI l3), some (vI l4), some (vI l5), some (vI l6), some (vI l7), some (vI l8), some (vL l9), none, some (vI l11), none, none, some (vL 0), none, some (vI 1), some (vI 0), none, none]) rfl rfl rfl rfl ?_
        exact F
    · replace F := F.2 c
      refine wp_iinc' (L' := [some (vR l0), some (vI l1), some (vI l2), some (vI l3), some (vI l4), some (vI l5), some (vI l6), some (vI l7), some (vI l8), some (vL l9), none, some (vI l11), none, none, none, none, none, none, none, none]) (y := 1) (L2 := [some (vR l0), some (vI l1), some (vI l2), some (vI l3), some (vI l4), some (vI l5), some (vI l6), some (vI l7), some (vI l8), some (vL l9), none, some (vI (l11 + 1)), none, none, none, none, none, none, none, none]) rfl rfl rfl rfl rfl rfl ?_
      replace F := F _ rfl
      generalize (l11 + 1 : Int32) = v1 at F ⊢
      refine wp_goto rfl rfl ?_
      exact F
  · replace F := F.2 c
    refine wp_iload rfl rfl rfl ?_
    refine wp_if_ne rfl rfl rfl rfl (fun c => ?_) (fun c => ?_)
    · replace F := F.1 c
      refine wp_iload rfl rfl rfl ?_
      refine wp_if_ne rfl rfl rfl rfl (fun c => ?_) (fun c => ?_)
      · replace F := F.1 c
        refine wp_goto rfl rfl ?_
        refine wp_iinc' (L' := [some (vR l0), some (vI l1), some (vI l2), some (vI l3), some (vI l4), some (vI l5), some (vI l6), some (vI l7), some (vI l8), some (vL l9), none, some (vI l11), none, none, none, none, none, none, none, none]) (y := 1) (L2 := [some (vR l0), some (vI l1), some (vI l2), some (vI l3), some (vI l4), some (vI l5), some (vI l6), some (vI l7), some (vI l8), some (vL l9), none, some (vI (l11 + 1)), none, none, none, none, none, none, none, none]) rfl rfl rfl rfl rfl rfl ?_
        replace F := F _ rfl
        generalize (l11 + 1 : Int32) = v2 at F ⊢
        refine wp_goto rfl rfl ?_
        exact F
      · replace F := F.2 c
        refine wp_const' (L' := [some (vR l0), some (vI l1), some (vI l2), some (vI l3), some (vI l4), some (vI l5), some (vI l6), some (vI l7), some (vI l8), some (vL l9), none, some (vI l11), none, none, none, none, none, none, none, none]) rfl rfl rfl ?_
        refine wp_lstore (L2 := [some (vR l0), some (vI l1), some (vI l2), some (vI l3), some (vI l4), some (vI l5), some (vI l6), some (vI l7), some (vI l8), some (vL l9), none, some (vI l11), none, none, some (vL 0), none, none, none, none, none]) rfl rfl rfl rfl ?_
        refine wp_const rfl rfl ?_
        refine wp_istore (L2 := [some (vR l0), some (vI l1), some (vI l2), some (vI l3), some (vI l4), some (vI l5), some (vI l6), some (vI l7), some (vI l8), some (vL l9), none, some (vI l11), none, none, some (vL 0), none, some (vI 1), none, none, none]) rfl rfl rfl rfl ?_
        refine wp_const rfl rfl ?_
        refine wp_istore (L2 := [some (vR l0), some (vI l1), some (vI l2), some (vI l3), some (vI l4), some (vI l5), some (vI l6), some (vI l7), some (vI l8), some (vL l9), none, some (vI l11), none, none, some (vL 0), none, some (vI 1), some (vI 0), none, none]) rfl rfl rfl rfl ?_
        exact F
    · replace F := F.2 c
      refine wp_iinc' (L' := [some (vR l0), some (vI l1), some (vI l2), some (vI l3), some (vI l4), some (vI l5), some (vI l6), some (vI l7), some (vI l8), some (vL l9), none, some (vI l11), none, none, none, none, none, none, none, none]) (y := 1) (L2 := [some (vR l0), some (vI l1), some (vI l2), some (vI l3), some (vI l4), some (vI l5), some (vI l6), some (vI l7), some (vI l8), some (vL l9), none, some (vI (l11 + 1)), none, none, none, none, none, none, none, none]) rfl rfl rfl rfl rfl rfl ?_
      replace F := F _ rfl
      generalize (l11 + 1 : Int32) = v3 at F ⊢
      refine wp_goto rfl rfl ?_
      exact F
theorem w286_131 {d : Nat} {l0 : Nat} {l1 : Int32} {l2 : Int32} {l3 : Int32} {l4 : Int32} {l5 : Int32} {l6 : Int32} {l7 : Int32} {l8 : Int32} {l9 : Int64} {l11 : Int32} {l14 : Int64} {l16 : Int32} {l17 : Int32} {h : aH} {K : Int32 → aH → Prop} {X : Nat → aH → Prop} (F : gK h l0 = 14 ∧ ∃ i0 : Nat, inB h 100 (gR h l0 70) l1 i0 ∧ ((l17.toInt < ((gI h (gR h l0 70) i0) * l5).toInt → ((l17.toInt = l3.toInt → ∀ v0 : Int32, v0 = l17 + 1 → Wp d 286 (131, [some (vR l0), some (vI l1), some (vI l2), some (vI l3), some (vI l4), some (vI l5), some (vI l6), some (vI l7), some (vI l8), some (vL l9), none, some (vI l11), none, none, some (vL l14), none, some (vI l16), some (vI v0), none, none], [], h) (RI K X)) ∧ (¬ l17.toInt = l3.toInt → ((((l2 >>> (l17 &&& 31)) &&& 1).toInt = 0 → ∀ v1 : Int32, v1 = l17 + 1 → Wp d 286 (131, [some (vR l0), some (vI l1), some (vI l2), some (vI l3), some (vI l4), some (vI l5), some (vI l6), some (vI l7), some (vI l8), some (vL l9), none, some (vI l11), none, none, some (vL l14), none, some (vI l16), some (vI v1), none, none], [], h) (RI K X)) ∧ (¬ ((l2 >>> (l17 &&& 31)) &&& 1).toInt = 0 → (¬ l5 = 0) ∧ ((((l11 >>> ((l17 / l5) &&& 31)) &&& 1).toInt = 1 → ∃ i1 : Nat, inB h 100 (gR h l0 70) l1 i1 ∧ (¬ l5 = 0) ∧ ((((l11 >>> (((gI h (gR h l0 70) i1) + (aIrem l17 l5)) &&& 31)) &&& 1).toInt = 1 → Wp d 286 (210, [some (vR l0), some (vI l1), some (vI l2), some (vI l3), some (vI l4), some (vI l5), some (vI l6), some (vI l7), some (vI l8), some (vL l9), none, some (vI l11), none, none, some (vL l14), none, some (vI l16), some (vI l17), some (vI 1), none], [vI 1], h) (RI K X)) ∧ (¬ ((l11 >>> (((gI h (gR h l0 70) i1) + (aIrem l17 l5)) &&& 31)) &&& 1).toInt = 1 → Wp d 286 (210, [some (vR l0), some (vI l1), some (vI l2), some (vI l3), some (vI l4), some (vI l5), some (vI l6), some (vI l7), some (vI l8), some (vL l9), none, some (vI l11), none, none, some (vL l14), none, some (vI l16), some (vI l17), some (vI 1), none], [vI 0], h) (RI K X)))) ∧ (¬ ((l11 >>> ((l17 / l5) &&& 31)) &&& 1).toInt = 1 → ∃ i2 : Nat, inB h 100 (gR h l0 70) l1 i2 ∧ (¬ l5 = 0) ∧ ((((l11 >>> (((gI h (gR h l0 70) i2) + (aIrem l17 l5)) &&& 31)) &&& 1).toInt = 1 → Wp d 286 (210, [some (vR l0), some (vI l1), some (vI l2), some (vI l3), some (vI l4), some (vI l5), some (vI l6), some (vI l7), some (vI l8), some (vL l9), none, some (vI l11), none, none, some (vL l14), none, some (vI l16), some (vI l17), some (vI 0), none], [vI 1], h) (RI K X)) ∧ (¬ ((l11 >>> (((gI h (gR h l0 70) i2) + (aIrem l17 l5)) &&& 31)) &&& 1).toInt = 1 → Wp d 286 (210, [some (vR l0), some (vI l1), some (vI l2), some (vI l3), some (vI l4), some (vI l5), some (vI l6), some (vI l7), some (vI l8), some (vL l9), none, some (vI l11), none, none, some (vL l14), none, some (vI l16), some (vI l17), some (vI 0), none], [vI 0], h) (RI K X)))))))))) ∧ (¬ l17.toInt < ((gI h (gR h l0 70) i0) * l5).toInt → ((l16.toInt = 0 → ∀ v2 : Int32, v2 = l11 + 1 → Wp d 286 (39, [some (vR l0), some (vI l1), some (vI l2), some (vI l3), some (vI l4), some (vI l5), some (vI l6), some (vI l7), some (vI l8), some (vL l9), none, some (vI v2), none, none, none, none, none, none, none, none], [], h) (RI K X)) ∧ (¬ l16.toInt = 0 → ((l9.toInt < 0 → ∀ v3 : Int32, v3 = l11 + 1 → Wp d 286 (39, [some (vR l0), some (vI l1), some (vI l2), some (vI l3), some (vI l4), some (vI l5), some (vI l6), some (vI l7), some (vI l8), some (vL l14), none, some (vI v3), none, none, none, none, none, none, none, none], [], h) (RI K X)) ∧ (¬ l9.toInt < 0 → ((l14.toInt < l9.toInt → ∀ v4 : Int32, v4 = l11 + 1 → Wp d 286 (39, [some (vR l0), some (vI l1), some (vI l2), some (vI l3), some (vI l4), some (vI l5), some (vI l6), some (vI l7), some (vI l8), some (vL l14), none, some (vI v4), none, none, none, none, none, none, none, none], [], h) (RI K X)) ∧ (¬ l14.toInt < l9.toInt → ∀ v5 : Int32, v5 = l11 + 1 → Wp d 286 (39, [some (vR l0), some (vI l1), some (vI l2), some (vI l3), some (vI l4), some (vI l5), some (vI l6), some (vI l7), some (vI l8), some (vL l9), none, some (vI v5), none, none, none, none, none, none, none, none], [], h) (RI K X)))))))))) : Wp d 286 (131, [some (vR l0), some (vI l1), some (vI l2), some (vI l3), some (vI l4), some (vI l5), some (vI l6), some (vI l7), some (vI l8), some (vL l9), none, some (vI l11), none, none, some (vL l14), none, some (vI l16), some (vI l17), none, none], [], h) (RI K X) := by
  refine wp_iload' (L' := [some (vR l0), some (vI l1), some (vI l2), some (vI l3), some (vI l4), some (vI l5), some (vI l6), some (vI l7), some (vI l8), some (vL l9), none, some (vI l11), none, none, some (vL l14), none, some (vI l16), some (vI l17), none, none]) rfl rfl rfl rfl ?_
  refine wp_aload rfl rfl rfl ?_
  obtain ⟨f0, F⟩ := F
  refine wp_getR rfl rfl rfl f0 rfl ?_
  refine wp_iload rfl rfl rfl ?_
  obtain ⟨i0, b9, F⟩ := F
  refine wp_iaload rfl b9 rfl ?_
  refine wp_iload rfl rfl rfl ?_
  refine wp_imul rfl rfl ?_
  refine wp_icmp_ge rfl rfl rfl rfl rfl (fun c => ?_) (fun c => ?_)
  · replace F := F.1 c
    refine wp_iload rfl rfl rfl ?_
    refine wp_iload rfl rfl rfl ?_
    refine wp_icmp_eq rfl rfl rfl rfl rfl (fun c => ?_) (fun c => ?_)
    · replace F := F.1 c
      refine wp_iinc' (L' := [some (vR l0), some (vI l1), some (vI l2), some (vI l3), some (vI l4), some (vI l5), some (vI l6), some (vI l7), some (vI l8), some (vL l9), none, some (vI l11), none, none, some (vL l14), none, some (vI l16), some (vI l17), none, none]) (y := 1) (L2 := [some (vR l0), some (vI l1), some (vI l2), some (vI l3), some (vI l4), some (vI l5), some (vI l6), some (vI l7), some (vI l8), some (vL l9), none, some (vI l11), none, none, some (vL l14), none, some (vI l16), some (vI (l17 + 1)), none, none]) rfl rfl rfl rfl rfl rfl ?_
      replace F := F _ rfl
      generalize (l17 + 1 : Int32) = v0 at F ⊢
      refine wp_goto rfl rfl ?_
      exact F
    · replace F := F.2 c
      refine wp_iload rfl rfl rfl ?_
      refine wp_iload rfl rfl rfl ?_
      refine wp_ishr rfl rfl ?_
      refine wp_const rfl rfl ?_
      refine wp_iand rfl rfl ?_
      refine wp_if_ne rfl rfl rfl rfl (fun c => ?_) (fun c => ?_)
      · replace F := F.1 c
        refine wp_goto rfl rfl ?_
        refine wp_iinc' (L' := [some (vR l0), some (vI l1), some (vI l2), some (vI l3), some (vI l4), some (vI l5), some (vI l6), some (vI l7), some (vI l8), some (vL l9), none, some (vI l11), none, none, some (vL l14), none, some (vI l16), some (vI l17), none, none]) (y := 1) (L2 := [some (vR l0), some (vI l1), some (vI l2), some (vI l3), some (vI l4), some (vI l5), some (vI l6), some (vI l7), some (vI l8), some (vL l9), none, some (vI l11), none, none, some (vL l14), none, some (vI l16), some (vI (l17 + 1)), none, none]) rfl rfl rfl rfl rfl rfl ?_
        replace F := F _ rfl
        generalize (l17 + 1 : Int32) = v1 at F ⊢
        refine wp_goto rfl rfl ?_
        exact F
      · replace F := F.2 c
        refine wp_iload' (L' := [some (vR l0), some (vI l1), some (vI l2), some (vI l3), some (vI l4), some (vI l5), some (vI l6), some (vI l7), some (vI l8), some (vL l9), none, some (vI l11), none, none, some (vL l14), none, some (vI l16), some (vI l17), none, none]) rfl rfl rfl rfl ?_
        refine wp_iload rfl rfl rfl ?_
        refine wp_iload rfl rfl rfl ?_
        refine wp_idiv rfl F.1 rfl ?_
        replace F := F.2
        refine wp_ishr rfl rfl ?_
        refine wp_const rfl rfl ?_
        refine wp_iand rfl rfl ?_
        refine wp_const rfl rfl ?_
        refine wp_icmp_ne (Y := 1) rfl rfl rfl rfl rfl (fun c => ?_) (fun c => ?_)
        · replace F := F.1 c
          refine wp_const rfl rfl ?_
          refine wp_goto rfl rfl ?_
          refine wp_istore' (L' := [some (vR l0), some (vI l1), some (vI l2), some (vI l3), some (vI l4), some (vI l5), some (vI l6), some (vI l7), some (vI l8), some (vL l9), none, some (vI l11), none, none, some (vL l14), none, some (vI l16), some (vI l17), none, none]) (L2 := [some (vR l0), some (vI l1), some (vI l2), some (vI l3), some (vI l4), some (vI l5), some (vI l6), some (vI l7), some (vI l8), some (vL l9), none, some (vI l11), none, none, some (vL l14), none, some (vI l16), some (vI l17), some (vI 1), none]) rfl rfl rfl rfl rfl ?_
          refine wp_iload rfl rfl rfl ?_
          refine wp_aload rfl rfl rfl ?_
          refine wp_getR rfl rfl rfl f0 rfl ?_
          refine wp_iload rfl rfl rfl ?_
          obtain ⟨i1, b9, F⟩ := F
          refine wp_iaload rfl b9 rfl ?_
          refine wp_iload rfl rfl rfl ?_
          refine wp_iload rfl rfl rfl ?_
          refine wp_irem rfl F.1 rfl ?_
          replace F := F.2
          refine wp_iadd rfl rfl ?_
          refine wp_ishr rfl rfl ?_
          refine wp_const rfl rfl ?_
          refine wp_iand rfl rfl ?_
          refine wp_const rfl rfl ?_
          refine wp_icmp_ne (Y := 1) rfl rfl rfl rfl rfl (fun c => ?_) (fun c => ?_)
          · replace F := F.1 c
            refine wp_const rfl rfl ?_
            refine wp_goto rfl rfl ?_
            exact F
          · replace F := F.2 c
            refine wp_const' (L' := [some (vR l0), some (vI l1), some (vI l2), some (vI l3), some (vI l4), some (vI l5), some (vI l6), some (vI l7), some (vI l8), some (vL l9), none, some (vI l11), none, none, some (vL l14), none, some (vI l16), some (vI l17), some (vI 1), none]) rfl rfl rfl ?_
            exact F
        · replace F := F.2 c
          refine wp_const' (L' := [some (vR l0), some (vI l1), some (vI l2), some (vI l3), some (vI l4), some (vI l5), some (vI l6), some (vI l7), some (vI l8), some (vL l9), none, some (vI l11), none, none, some (vL l14), none, some (vI l16), some (vI l17), none, none]) rfl rfl rfl ?_
          refine wp_istore' (L' := [some (vR l0), some (vI l1), some (vI l2), some (vI l3), some (vI l4), some (vI l5), some (vI l6), some (vI l7), some (vI l8), some (vL l9), none, some (vI l11), none, none, some (vL l14), none, some (vI l16), some (vI l17), none, none]) (L2 := [some (vR l0), some (vI l1), some (vI l2), some (vI l3), some (vI l4), some (vI l5), some (vI l6), some (vI l7), some (vI l8), some (vL l9), none, some (vI l11), none, none, some (vL l14), none, some (vI l16), some (vI l17), some (vI 0), none]) rfl rfl rfl rfl rfl ?_
          refine wp_iload rfl rfl rfl ?_
          refine wp_aload rfl rfl rfl ?_
          refine wp_getR rfl rfl rfl f0 rfl ?_
          refine wp_iload rfl rfl rfl ?_
          obtain ⟨i2, b9, F⟩ := F
          refine wp_iaload rfl b9 rfl ?_
          refine wp_iload rfl rfl rfl ?_
          refine wp_iload rfl rfl rfl ?_
          refine wp_irem rfl F.1 rfl ?_
          replace F := F.2
          refine wp_iadd rfl rfl ?_
          refine wp_ishr rfl rfl ?_
          refine wp_const rfl rfl ?_
          refine wp_iand rfl rfl ?_
          refine wp_const rfl rfl ?_
          refine wp_icmp_ne (Y := 1) rfl rfl rfl rfl rfl (fun c => ?_) (fun c => ?_)
          · replace F := F.1 c
            refine wp_const rfl rfl ?_
            refine wp_goto rfl rfl ?_
            exact F
          · replace F := F.2 c
            refine wp_const' (L' := [some (vR l0), some (vI l1), some (vI l2), some (vI l3), some (vI l4), some (vI l5), some (vI l6), some (vI l7), some (vI l8), some (vL l9), none, some (vI l11), none, none, some (vL l14), none, some (vI l16), some (vI l17), some (vI 0), none]) rfl rfl rfl ?_
            exact F
  · replace F := F.2 c
    refine wp_iload' (L' := [some (vR l0), some (vI l1), some (vI l2), some (vI l3), some (vI l4), some (vI l5), some (vI l6), some (vI l7), some (vI l8), some (vL l9), none, some (vI l11), none, none, some (vL l14), none, some (vI l16), none, none, none]) rfl rfl rfl rfl ?_
    refine wp_if_eq rfl rfl rfl rfl (fun c => ?_) (fun c => ?_)
    · replace F := F.1 c
      refine wp_iinc' (L' := [some (vR l0), some (vI l1), some (vI l2), some (vI l3), some (vI l4), some (vI l5), some (vI l6), some (vI l7), some (vI l8), some (vL l9), none, some (vI l11), none, none, none, none, none, none, none, none]) (y := 1) (L2 := [some (vR l0), some (vI l1), some (vI l2), some (vI l3), some (vI l4), some (vI l5), some (vI l6), some (vI l7), some (vI l8), some (vL l9), none, some (vI (l11 + 1)), none, none, none, none, none, none, none, none]) rfl rfl rfl rfl rfl rfl ?_
      replace F := F _ rfl
      generalize (l11 + 1 : Int32) = v2 at F ⊢
      refine wp_goto rfl rfl ?_
      exact F
    · replace F := F.2 c
      refine wp_lload rfl rfl rfl ?_
      refine wp_const rfl rfl ?_
      refine wp_lcmp_lt (Y := 0) rfl rfl rfl rfl rfl rfl rfl (fun c => ?_) (fun c => ?_)
      · replace F := F.1 c
        refine wp_lload' (L' := [some (vR l0), some (vI l1), some (vI l2), some (vI l3), some (vI l4), some (vI l5), some (vI l6), some (vI l7), some (vI l8), none, none, some (vI l11), none, none, some (vL l14), none, none, none, none, none]) rfl rfl rfl rfl ?_
        refine wp_lstore (L2 := [some (vR l0), some (vI l1), some (vI l2), some (vI l3), some (vI l4), some (vI l5), some (vI l6), some (vI l7), some (vI l8), some (vL l14), none, some (vI l11), none, none, some (vL l14), none, none, none, none, none]) rfl rfl rfl rfl ?_
        refine wp_iinc' (L' := [some (vR l0), some (vI l1), some (vI l2), some (vI l3), some (vI l4), some (vI l5), some (vI l6), some (vI l7), some (vI l8), some (vL l14), none, some (vI l11), none, none, none, none, none, none, none, none]) (y := 1) (L2 := [some (vR l0), some (vI l1), some (vI l2), some (vI l3), some (vI l4), some (vI l5), some (vI l6), some (vI l7), some (vI l8), some (vL l14), none, some (vI (l11 + 1)), none, none, none, none, none, none, none, none]) rfl rfl rfl rfl rfl rfl ?_
        replace F := F _ rfl
        generalize (l11 + 1 : Int32) = v3 at F ⊢
        refine wp_goto rfl rfl ?_
        exact F
      · replace F := F.2 c
        refine wp_lload rfl rfl rfl ?_
        refine wp_lload rfl rfl rfl ?_
        refine wp_lcmp_ge rfl rfl rfl rfl rfl rfl rfl (fun c => ?_) (fun c => ?_)
        · replace F := F.1 c
          refine wp_lload' (L' := [some (vR l0), some (vI l1), some (vI l2), some (vI l3), some (vI l4), some (vI l5), some (vI l6), some (vI l7), some (vI l8), none, none, some (vI l11), none, none, some (vL l14), none, none, none, none, none]) rfl rfl rfl rfl ?_
          refine wp_lstore (L2 := [some (vR l0), some (vI l1), some (vI l2), some (vI l3), some (vI l4), some (vI l5), some (vI l6), some (vI l7), some (vI l8), some (vL l14), none, some (vI l11), none, none, some (vL l14), none, none, none, none, none]) rfl rfl rfl rfl ?_
          refine wp_iinc' (L' := [some (vR l0), some (vI l1), some (vI l2), some (vI l3), some (vI l4), some (vI l5), some (vI l6), some (vI l7), some (vI l8), some (vL l14), none, some (vI l11), none, none, none, none, none, none, none, none]) (y := 1) (L2 := [some (vR l0), some (vI l1), some (vI l2), some (vI l3), some (vI l4), some (vI l5), some (vI l6), some (vI l7), some (vI l8), some (vL l14), none, some (vI (l11 + 1)), none, none, none, none, none, none, none, none]) rfl rfl rfl rfl rfl rfl ?_
          replace F := F _ rfl
          generalize (l11 + 1 : Int32) = v4 at F ⊢
          refine wp_goto rfl rfl ?_
          exact F
        · replace F := F.2 c
          refine wp_iinc' (L' := [some (vR l0), some (vI l1), some (vI l2), some (vI l3), some (vI l4), some (vI l5), some (vI l6), some (vI l7), some (vI l8), some (vL l9), none, some (vI l11), none, none, none, none, none, none, none, none]) (y := 1) (L2 := [some (vR l0), some (vI l1), some (vI l2), some (vI l3), some (vI l4), some (vI l5), some (vI l6), some (vI l7), some (vI l8), some (vL l9), none, some (vI (l11 + 1)), none, none, none, none, none, none, none, none]) rfl rfl rfl rfl rfl rfl ?_
          replace F := F _ rfl
          generalize (l11 + 1 : Int32) = v5 at F ⊢
          refine wp_goto rfl rfl ?_
          exact F
theorem w286_210 {d : Nat} {l0 : Nat} {l1 : Int32} {l2 : Int32} {l3 : Int32} {l4 : Int32} {l5 : Int32} {l6 : Int32} {l7 : Int32} {l8 : Int32} {l9 : Int64} {l11 : Int32} {l14 : Int64} {l16 : Int32} {l17 : Int32} {l18 : Int32} {s0 : Int32} {h : aH} {K : Int32 → aH → Prop} {X : Nat → aH → Prop} (F : ((l16.toInt = 0 → ((s0.toInt = 0 → ∀ v0 : Int64, v0 = l14 + 0 → ∀ v1 : Int32, v1 = l17 + 1 → Wp d 286 (131, [some (vR l0), some (vI l1), some (vI l2), some (vI l3), some (vI l4), some (vI l5), some (vI l6), some (vI l7), some (vI l8), some (vL l9), none, some (vI l11), none, none, some (vL v0), none, some (vI 0), some (vI v1), none, none], [], h) (RI K X)) ∧ (¬ s0.toInt = 0 → ((l18.toInt = 0 → gK h l0 = 14 ∧ ∃ i0 : Nat, inB h 100 (gR h l0 72) ((12 * l1) + l17) i0 ∧ ∀ v2 : Int64, v2 = l14 + ((gI h (gR h l0 72) i0).toInt64) → ∀ v3 : Int32, v3 = l17 + 1 → Wp d 286 (131, [some (vR l0), some (vI l1), some (vI l2), some (vI l3), some (vI l4), some (vI l5), some (vI l6), some (vI l7), some (vI l8), some (vL l9), none, some (vI l11), none, none, some (vL v2), none, some (vI 0), some (vI v3), none, none], [], h) (RI K X)) ∧ (¬ l18.toInt = 0 → ∀ v4 : Int64, v4 = l14 + 0 → ∀ v5 : Int32, v5 = l17 + 1 → Wp d 286 (131, [some (vR l0), some (vI l1), some (vI l2), some (vI l3), some (vI l4), some (vI l5), some (vI l6), some (vI l7), some (vI l8), some (vL l9), none, some (vI l11), none, none, some (vL v4), none, some (vI 0), some (vI v5), none, none], [], h) (RI K X)))))) ∧ (¬ l16.toInt = 0 → ((l18.toInt = 0 → ((s0.toInt = 0 → ∀ v6 : Int64, v6 = l14 + 0 → ∀ v7 : Int32, v7 = l17 + 1 → Wp d 286 (131, [some (vR l0), some (vI l1), some (vI l2), some (vI l3), some (vI l4), some (vI l5), some (vI l6), some (vI l7), some (vI l8), some (vL l9), none, some (vI l11), none, none, some (vL v6), none, some (vI 1), some (vI v7), none, none], [], h) (RI K X)) ∧ (¬ s0.toInt = 0 → ((l18.toInt = 0 → gK h l0 = 14 ∧ ∃ i1 : Nat, inB h 100 (gR h l0 72) ((12 * l1) + l17) i1 ∧ ∀ v8 : Int64, v8 = l14 + ((gI h (gR h l0 72) i1).toInt64) → ∀ v9 : Int32, v9 = l17 + 1 → Wp d 286 (131, [some (vR l0), some (vI l1), some (vI l2), some (vI l3), some (vI l4), some (vI l5), some (vI l6), some (vI l7), some (vI l8), some (vL l9), none, some (vI l11), none, none, some (vL v8), none, some (vI 1), some (vI v9), none, none], [], h) (RI K X)) ∧ (¬ l18.toInt = 0 → ∀ v10 : Int64, v10 = l14 + 0 → ∀ v11 : Int32, v11 = l17 + 1 → Wp d 286 (131, [some (vR l0), some (vI l1), some (vI l2), some (vI l3), some (vI l4), some (vI l5), some (vI l6), some (vI l7), some (vI l8), some (vL l9), none, some (vI l11), none, none, some (vL v10), none, some (vI 1), some (vI v11), none, none], [], h) (RI K X)))))) ∧ (¬ l18.toInt = 0 → ((s0.toInt = 0 → ((s0.toInt = 0 → ∀ v12 : Int64, v12 = l14 + 0 → ∀ v13 : Int32, v13 = l17 + 1 → Wp d 286 (131, [some (vR l0), some (vI l1), some (vI l2), some (vI l3), some (vI l4), some (vI l5), some (vI l6), some (vI l7), some (vI l8), some (vL l9), none, some (vI l11), none, none, some (vL v12), none, some (vI 0), some (vI v13), none, none], [], h) (RI K X)) ∧ (¬ s0.toInt = 0 → ((l18.toInt = 0 → gK h l0 = 14 ∧ ∃ i2 : Nat, inB h 100 (gR h l0 72) ((12 * l1) + l17) i2 ∧ ∀ v14 : Int64, v14 = l14 + ((gI h (gR h l0 72) i2).toInt64) → ∀ v15 : Int32, v15 = l17 + 1 → Wp d 286 (131, [some (vR l0), some (vI l1), some (vI l2), some (vI l3), some (vI l4), some (vI l5), some (vI l6), some (vI l7), some (vI l8), some (vL l9), none, some (vI l11), none, none, some (vL v14), none, some (vI 0), some (vI v15), none, none], [], h) (RI K X)) ∧ (¬ l18.toInt = 0 → ∀ v16 : Int64, v16 = l14 + 0 → ∀ v17 : Int32, v17 = l17 + 1 → Wp d 286 (131, [some (vR l0), some (vI l1), some (vI l2), some (vI l3), some (vI l4), some (vI l5), some (vI l6), some (vI l7), some (vI l8), some (vL l9), none, some (vI l11), none, none, some (vL v16), none, some (vI 0), some (vI v17), none, none], [], h) (RI K X)))))) ∧ (¬ s0.toInt = 0 → ((s0.toInt = 0 → ∀ v18 : Int64, v18 = l14 + 0 → ∀ v19 : Int32, v19 = l17 + 1 → Wp d 286 (131, [some (vR l0), some (vI l1), some (vI l2), some (vI l3), some (vI l4), some (vI l5), some (vI l6), some (vI l7), some (vI l8), some (vL l9), none, some (vI l11), none, none, some (vL v18), none, some (vI 1), some (vI v19), none, none], [], h) (RI K X)) ∧ (¬ s0.toInt = 0 → ((l18.toInt = 0 → gK h l0 = 14 ∧ ∃ i3 : Nat, inB h 100 (gR h l0 72) ((12 * l1) + l17) i3 ∧ ∀ v20 : Int64, v20 = l14 + ((gI h (gR h l0 72) i3).toInt64) → ∀ v21 : Int32, v21 = l17 + 1 → Wp d 286 (131, [some (vR l0), some (vI l1), some (vI l2), some (vI l3), some (vI l4), some (vI l5), some (vI l6), some (vI l7), some (vI l8), some (vL l9), none, some (vI l11), none, none, some (vL v20), none, some (vI 1), some (vI v21), none, none], [], h) (RI K X)) ∧ (¬ l18.toInt = 0 → ∀ v22 : Int64, v22 = l14 + 0 → ∀ v23 : Int32, v23 = l17 + 1 → Wp d 286 (131, [some (vR l0), some (vI l1), some (vI l2), some (vI l3), some (vI l4), some (vI l5), some (vI l6), some (vI l7), some (vI l8), some (vL l9), none, some (vI l11), none, none, some (vL v22), none, some (vI 1), some (vI v23), none, none], [], h) (RI K X)))))))))))) : Wp d 286 (210, [some (vR l0), some (vI l1), some (vI l2), some (vI l3), some (vI l4), some (vI l5), some (vI l6), some (vI l7), some (vI l8), some (vL l9), none, some (vI l11), none, none, some (vL l14), none, some (vI l16), some (vI l17), some (vI l18), none], [vI s0], h) (RI K X) := by
  refine wp_istore' (L' := [some (vR l0), some (vI l1), some (vI l2), some (vI l3), some (vI l4), some (vI l5), some (vI l6), some (vI l7), some (vI l8), some (vL l9), none, some (vI l11), none, none, some (vL l14), none, some (vI l16), some (vI l17), some (vI l18), none]) (L2 := [some (vR l0), some (vI l1), some (vI l2), some (vI l3), some (vI l4), some (vI l5), some (vI l6), some (vI l7), some (vI l8), some (vL l9), none, some (vI l11), none, none, some (vL l14), none, some (vI l16), some (vI l17), some (vI l18), some (vI s0)]) rfl rfl rfl rfl rfl ?_
  refine wp_iload rfl rfl rfl ?_
  refine wp_if_eq rfl rfl rfl rfl (fun c => ?_) (fun c => ?_)
  · replace F := F.1 c
    refine wp_const' (L' := [some (vR l0), some (vI l1), some (vI l2), some (vI l3), some (vI l4), some (vI l5), some (vI l6), some (vI l7), some (vI l8), some (vL l9), none, some (vI l11), none, none, some (vL l14), none, none, some (vI l17), some (vI l18), some (vI s0)]) rfl rfl rfl ?_
    refine wp_istore' (L' := [some (vR l0), some (vI l1), some (vI l2), some (vI l3), some (vI l4), some (vI l5), some (vI l6), some (vI l7), some (vI l8), some (vL l9), none, some (vI l11), none, none, some (vL l14), none, none, some (vI l17), some (vI l18), some (vI s0)]) (L2 := [some (vR l0), some (vI l1), some (vI l2), some (vI l3), some (vI l4), some (vI l5), some (vI l6), some (vI l7), some (vI l8), some (vL l9), none, some (vI l11), none, none, some (vL l14), none, some (vI 0), some (vI l17), some (vI l18), some (vI s0)]) rfl rfl rfl rfl rfl ?_
    refine wp_lload rfl rfl rfl ?_
    refine wp_iload rfl rfl rfl ?_
    refine wp_if_eq rfl rfl rfl rfl (fun c => ?_) (fun c => ?_)
    · replace F := F.1 c
      refine wp_const' (L' := [some (vR l0), some (vI l1), some (vI l2), some (vI l3), some (vI l4), some (vI l5), some (vI l6), some (vI l7), some (vI l8), some (vL l9), none, some (vI l11), none, none, none, none, some (vI 0), some (vI l17), none, none]) rfl rfl rfl ?_
      refine wp_ladd' (L' := [some (vR l0), some (vI l1), some (vI l2), some (vI l3), some (vI l4), some (vI l5), some (vI l6), some (vI l7), some (vI l8), some (vL l9), none, some (vI l11), none, none, none, none, some (vI 0), some (vI l17), none, none]) rfl rfl rfl ?_
      replace F := F _ rfl
      generalize (l14 + 0 : Int64) = v0 at F ⊢
      refine wp_lstore (L2 := [some (vR l0), some (vI l1), some (vI l2), some (vI l3), some (vI l4), some (vI l5), some (vI l6), some (vI l7), some (vI l8), some (vL l9), none, some (vI l11), none, none, some (vL v0), none, some (vI 0), some (vI l17), none, none]) rfl rfl rfl rfl ?_
      refine wp_iinc' (L' := [some (vR l0), some (vI l1), some (vI l2), some (vI l3), some (vI l4), some (vI l5), some (vI l6), some (vI l7), some (vI l8), some (vL l9), none, some (vI l11), none, none, some (vL v0), none, some (vI 0), some (vI l17), none, none]) (y := 1) (L2 := [some (vR l0), some (vI l1), some (vI l2), some (vI l3), some (vI l4), some (vI l5), some (vI l6), some (vI l7), some (vI l8), some (vL l9), none, some (vI l11), none, none, some (vL v0), none, some (vI 0), some (vI (l17 + 1)), none, none]) rfl rfl rfl rfl rfl rfl ?_
      replace F := F _ rfl
      generalize (l17 + 1 : Int32) = v1 at F ⊢
      refine wp_goto rfl rfl ?_
      exact F
    · replace F := F.2 c
      refine wp_iload rfl rfl rfl ?_
      refine wp_if_ne rfl rfl rfl rfl (fun c => ?_) (fun c => ?_)
      · replace F := F.1 c
        refine wp_aload rfl rfl rfl ?_
        obtain ⟨f0, F⟩ := F
        refine wp_getR rfl rfl rfl f0 rfl ?_
        refine wp_const rfl rfl ?_
        refine wp_iload rfl rfl rfl ?_
        refine wp_imul rfl rfl ?_
        refine wp_iload rfl rfl rfl ?_
        refine wp_iadd rfl rfl ?_
        obtain ⟨i0, b9, F⟩ := F
        refine wp_iaload rfl b9 rfl ?_
        refine wp_i2l rfl rfl ?_
        refine wp_goto rfl rfl ?_
        refine wp_ladd' (L' := [some (vR l0), some (vI l1), some (vI l2), some (vI l3), some (vI l4), some (vI l5), some (vI l6), some (vI l7), some (vI l8), some (vL l9), none, some (vI l11), none, none, none, none, some (vI 0), some (vI l17), none, none]) rfl rfl rfl ?_
        replace F := F _ rfl
        generalize (l14 + ((gI h (gR h l0 72) i0).toInt64) : Int64) = v2 at F ⊢
        refine wp_lstore (L2 := [some (vR l0), some (vI l1), some (vI l2), some (vI l3), some (vI l4), some (vI l5), some (vI l6), some (vI l7), some (vI l8), some (vL l9), none, some (vI l11), none, none, some (vL v2), none, some (vI 0), some (vI l17), none, none]) rfl rfl rfl rfl ?_
        refine wp_iinc' (L' := [some (vR l0), some (vI l1), some (vI l2), some (vI l3), some (vI l4), some (vI l5), some (vI l6), some (vI l7), some (vI l8), some (vL l9), none, some (vI l11), none, none, some (vL v2), none, some (vI 0), some (vI l17), none, none]) (y := 1) (L2 := [some (vR l0), some (vI l1), some (vI l2), some (vI l3), some (vI l4), some (vI l5), some (vI l6), some (vI l7), some (vI l8), some (vL l9), none, some (vI l11), none, none, some (vL v2), none, some (vI 0), some (vI (l17 + 1)), none, none]) rfl rfl rfl rfl rfl rfl ?_
        replace F := F _ rfl
        generalize (l17 + 1 : Int32) = v3 at F ⊢
        refine wp_goto rfl rfl ?_
        exact F
      · replace F := F.2 c
        refine wp_const' (L' := [some (vR l0), some (vI l1), some (vI l2), some (vI l3), some (vI l4), some (vI l5), some (vI l6), some (vI l7), some (vI l8), some (vL l9), none, some (vI l11), none, none, none, none, some (vI 0), some (vI l17), none, none]) rfl rfl rfl ?_
        refine wp_ladd' (L' := [some (vR l0), some (vI l1), some (vI l2), some (vI l3), some (vI l4), some (vI l5), some (vI l6), some (vI l7), some (vI l8), some (vL l9), none, some (vI l11), none, none, none, none, some (vI 0), some (vI l17), none, none]) rfl rfl rfl ?_
        replace F := F _ rfl
        generalize (l14 + 0 : Int64) = v4 at F ⊢
        refine wp_lstore (L2 := [some (vR l0), some (vI l1), some (vI l2), some (vI l3), some (vI l4), some (vI l5), some (vI l6), some (vI l7), some (vI l8), some (vL l9), none, some (vI l11), none, none, some (vL v4), none, some (vI 0), some (vI l17), none, none]) rfl rfl rfl rfl ?_
        refine wp_iinc' (L' := [some (vR l0), some (vI l1), some (vI l2), some (vI l3), some (vI l4), some (vI l5), some (vI l6), some (vI l7), some (vI l8), some (vL l9), none, some (vI l11), none, none, some (vL v4), none, some (vI 0), some (vI l17), none, none]) (y := 1) (L2 := [some (vR l0), some (vI l1), some (vI l2), some (vI l3), some (vI l4), some (vI l5), some (vI l6), some (vI l7), some (vI l8), some (vL l9), none, some (vI l11), none, none, some (vL v4), none, some (vI 0), some (vI (l17 + 1)), none, none]) rfl rfl rfl rfl rfl rfl ?_
        replace F := F _ rfl
        generalize (l17 + 1 : Int32) = v5 at F ⊢
        refine wp_goto rfl rfl ?_
        exact F
  · replace F := F.2 c
    refine wp_iload rfl rfl rfl ?_
    refine wp_if_eq rfl rfl rfl rfl (fun c => ?_) (fun c => ?_)
    · replace F := F.1 c
      refine wp_const' (L' := [some (vR l0), some (vI l1), some (vI l2), some (vI l3), some (vI l4), some (vI l5), some (vI l6), some (vI l7), some (vI l8), some (vL l9), none, some (vI l11), none, none, some (vL l14), none, none, some (vI l17), some (vI l18), some (vI s0)]) rfl rfl rfl ?_
      refine wp_goto rfl rfl ?_
      refine wp_istore' (L' := [some (vR l0), some (vI l1), some (vI l2), some (vI l3), some (vI l4), some (vI l5), some (vI l6), some (vI l7), some (vI l8), some (vL l9), none, some (vI l11), none, none, some (vL l14), none, none, some (vI l17), some (vI l18), some (vI s0)]) (L2 := [some (vR l0), some (vI l1), some (vI l2), some (vI l3), some (vI l4), some (vI l5), some (vI l6), some (vI l7), some (vI l8), some (vL l9), none, some (vI l11), none, none, some (vL l14), none, some (vI 1), some (vI l17), some (vI l18), some (vI s0)]) rfl rfl rfl rfl rfl ?_
      refine wp_lload rfl rfl rfl ?_
      refine wp_iload rfl rfl rfl ?_
      refine wp_if_eq rfl rfl rfl rfl (fun c => ?_) (fun c => ?_)
      · replace F := F.1 c
        refine wp_const' (L' := [some (vR l0), some (vI l1), some (vI l2), some (vI l3), some (vI l4), some (vI l5), some (vI l6), some (vI l7), some (vI l8), some (vL l9), none, some (vI l11), none, none, none, none, some (vI 1), some (vI l17), none, none]) rfl rfl rfl ?_
        refine wp_ladd' (L' := [some (vR l0), some (vI l1), some (vI l2), some (vI l3), some (vI l4), some (vI l5), some (vI l6), some (vI l7), some (vI l8), some (vL l9), none, some (vI l11), none, none, none, none, some (vI 1), some (vI l17), none, none]) rfl rfl rfl ?_
        replace F := F _ rfl
        generalize (l14 + 0 : Int64) = v6 at F ⊢
        refine wp_lstore (L2 := [some (vR l0), some (vI l1), some (vI l2), some (vI l3), some (vI l4), some (vI l5), some (vI l6), some (vI l7), some (vI l8), some (vL l9), none, some (vI l11), none, none, some (vL v6), none, some (vI 1), some (vI l17), none, none]) rfl rfl rfl rfl ?_
        refine wp_iinc' (L' := [some (vR l0), some (vI l1), some (vI l2), some (vI l3), some (vI l4), some (vI l5), some (vI l6), some (vI l7), some (vI l8), some (vL l9), none, some (vI l11), none, none, some (vL v6), none, some (vI 1), some (vI l17), none, none]) (y := 1) (L2 := [some (vR l0), some (vI l1), some (vI l2), some (vI l3), some (vI l4), some (vI l5), some (vI l6), some (vI l7), some (vI l8), some (vL l9), none, some (vI l11), none, none, some (vL v6), none, some (vI 1), some (vI (l17 + 1)), none, none]) rfl rfl rfl rfl rfl rfl ?_
        replace F := F _ rfl
        generalize (l17 + 1 : Int32) = v7 at F ⊢
        refine wp_goto rfl rfl ?_
        exact F
      · replace F := F.2 c
        refine wp_iload rfl rfl rfl ?_
        refine wp_if_ne rfl rfl rfl rfl (fun c => ?_) (fun c => ?_)
        · replace F := F.1 c
          refine wp_aload rfl rfl rfl ?_
          obtain ⟨f1, F⟩ := F
          refine wp_getR rfl rfl rfl f1 rfl ?_
          refine wp_const rfl rfl ?_
          refine wp_iload rfl rfl rfl ?_
          refine wp_imul rfl rfl ?_
          refine wp_iload rfl rfl rfl ?_
          refine wp_iadd rfl rfl ?_
          obtain ⟨i1, b9, F⟩ := F
          refine wp_iaload rfl b9 rfl ?_
          refine wp_i2l rfl rfl ?_
          refine wp_goto rfl rfl ?_
          refine wp_ladd' (L' := [some (vR l0), some (vI l1), some (vI l2), some (vI l3), some (vI l4), some (vI l5), some (vI l6), some (vI l7), some (vI l8), some (vL l9), none, some (vI l11), none, none, none, none, some (vI 1), some (vI l17), none, none]) rfl rfl rfl ?_
          replace F := F _ rfl
          generalize (l14 + ((gI h (gR h l0 72) i1).toInt64) : Int64) = v8 at F ⊢
          refine wp_lstore (L2 := [some (vR l0), some (vI l1), some (vI l2), some (vI l3), some (vI l4), some (vI l5), some (vI l6), some (vI l7), some (vI l8), some (vL l9), none, some (vI l11), none, none, some (vL v8), none, some (vI 1), some (vI l17), none, none]) rfl rfl rfl rfl ?_
          refine wp_iinc' (L' := [some (vR l0), some (vI l1), some (vI l2), some (vI l3), some (vI l4), some (vI l5), some (vI l6), some (vI l7), some (vI l8), some (vL l9), none, some (vI l11), none, none, some (vL v8), none, some (vI 1), some (vI l17), none, none]) (y := 1) (L2 := [some (vR l0), some (vI l1), some (vI l2), some (vI l3), some (vI l4), some (vI l5), some (vI l6), some (vI l7), some (vI l8), some (vL l9), none, some (vI l11), none, none, some (vL v8), none, some (vI 1), some (vI (l17 + 1)), none, none]) rfl rfl rfl rfl rfl rfl ?_
          replace F := F _ rfl
          generalize (l17 + 1 : Int32) = v9 at F ⊢
          refine wp_goto rfl rfl ?_
          exact F
        · replace F := F.2 c
          refine wp_const' (L' := [some (vR l0), some (vI l1), some (vI l2), some (vI l3), some (vI l4), some (vI l5), some (vI l6), some (vI l7), some (vI l8), some (vL l9), none, some (vI l11), none, none, none, none, some (vI 1), some (vI l17), none, none]) rfl rfl rfl ?_
          refine wp_ladd' (L' := [some (vR l0), some (vI l1), some (vI l2), some (vI l3), some (vI l4), some (vI l5), some (vI l6), some (vI l7), some (vI l8), some (vL l9), none, some (vI l11), none, none, none, none, some (vI 1), some (vI l17), none, none]) rfl rfl rfl ?_
          replace F := F _ rfl
          generalize (l14 + 0 : Int64) = v10 at F ⊢
          refine wp_lstore (L2 := [some (vR l0), some (vI l1), some (vI l2), some (vI l3), some (vI l4), some (vI l5), some (vI l6), some (vI l7), some (vI l8), some (vL l9), none, some (vI l11), none, none, some (vL v10), none, some (vI 1), some (vI l17), none, none]) rfl rfl rfl rfl ?_
          refine wp_iinc' (L' := [some (vR l0), some (vI l1), some (vI l2), some (vI l3), some (vI l4), some (vI l5), some (vI l6), some (vI l7), some (vI l8), some (vL l9), none, some (vI l11), none, none, some (vL v10), none, some (vI 1), some (vI l17), none, none]) (y := 1) (L2 := [some (vR l0), some (vI l1), some (vI l2), some (vI l3), some (vI l4), some (vI l5), some (vI l6), some (vI l7), some (vI l8), some (vL l9), none, some (vI l11), none, none, some (vL v10), none, some (vI 1), some (vI (l17 + 1)), none, none]) rfl rfl rfl rfl rfl rfl ?_
          replace F := F _ rfl
          generalize (l17 + 1 : Int32) = v11 at F ⊢
          refine wp_goto rfl rfl ?_
          exact F
    · replace F := F.2 c
      refine wp_iload rfl rfl rfl ?_
      refine wp_if_eq rfl rfl rfl rfl (fun c => ?_) (fun c => ?_)
      · replace F := F.1 c
        refine wp_const' (L' := [some (vR l0), some (vI l1), some (vI l2), some (vI l3), some (vI l4), some (vI l5), some (vI l6), some (vI l7), some (vI l8), some (vL l9), none, some (vI l11), none, none, some (vL l14), none, none, some (vI l17), some (vI l18), some (vI s0)]) rfl rfl rfl ?_
        refine wp_istore' (L' := [some (vR l0), some (vI l1), some (vI l2), some (vI l3), some (vI l4), some (vI l5), some (vI l6), some (vI l7), some (vI l8), some (vL l9), none, some (vI l11), none, none, some (vL l14), none, none, some (vI l17), some (vI l18), some (vI s0)]) (L2 := [some (vR l0), some (vI l1), some (vI l2), some (vI l3), some (vI l4), some (vI l5), some (vI l6), some (vI l7), some (vI l8), some (vL l9), none, some (vI l11), none, none, some (vL l14), none, some (vI 0), some (vI l17), some (vI l18), some (vI s0)]) rfl rfl rfl rfl rfl ?_
        refine wp_lload rfl rfl rfl ?_
        refine wp_iload rfl rfl rfl ?_
        refine wp_if_eq rfl rfl rfl rfl (fun c => ?_) (fun c => ?_)
        · replace F := F.1 c
          refine wp_const' (L' := [some (vR l0), some (vI l1), some (vI l2), some (vI l3), some (vI l4), some (vI l5), some (vI l6), some (vI l7), some (vI l8), some (vL l9), none, some (vI l11), none, none, none, none, some (vI 0), some (vI l17), none, none]) rfl rfl rfl ?_
          refine wp_ladd' (L' := [some (vR l0), some (vI l1), some (vI l2), some (vI l3), some (vI l4), some (vI l5), some (vI l6), some (vI l7), some (vI l8), some (vL l9), none, some (vI l11), none, none, none, none, some (vI 0), some (vI l17), none, none]) rfl rfl rfl ?_
          replace F := F _ rfl
          generalize (l14 + 0 : Int64) = v12 at F ⊢
          refine wp_lstore (L2 := [some (vR l0), some (vI l1), some (vI l2), some (vI l3), some (vI l4), some (vI l5), some (vI l6), some (vI l7), some (vI l8), some (vL l9), none, some (vI l11), none, none, some (vL v12), none, some (vI 0), some (vI l17), none, none]) rfl rfl rfl rfl ?_
          refine wp_iinc' (L' := [some (vR l0), some (vI l1), some (vI l2), some (vI l3), some (vI l4), some (vI l5), some (vI l6), some (vI l7), some (vI l8), some (vL l9), none, some (vI l11), none, none, some (vL v12), none, some (vI 0), some (vI l17), none, none]) (y := 1) (L2 := [some (vR l0), some (vI l1), some (vI l2), some (vI l3), some (vI l4), some (vI l5), some (vI l6), some (vI l7), some (vI l8), some (vL l9), none, some (vI l11), none, none, some (vL v12), none, some (vI 0), some (vI (l17 + 1)), none, none]) rfl rfl rfl rfl rfl rfl ?_
          replace F := F _ rfl
          generalize (l17 + 1 : Int32) = v13 at F ⊢
          refine wp_goto rfl rfl ?_
          exact F
        · replace F := F.2 c
          refine wp_iload rfl rfl rfl ?_
          refine wp_if_ne rfl rfl rfl rfl (fun c => ?_) (fun c => ?_)
          · replace F := F.1 c
            refine wp_aload rfl rfl rfl ?_
            obtain ⟨f2, F⟩ := F
            refine wp_getR rfl rfl rfl f2 rfl ?_
            refine wp_const rfl rfl ?_
            refine wp_iload rfl rfl rfl ?_
            refine wp_imul rfl rfl ?_
            refine wp_iload rfl rfl rfl ?_
            refine wp_iadd rfl rfl ?_
            obtain ⟨i2, b9, F⟩ := F
            refine wp_iaload rfl b9 rfl ?_
            refine wp_i2l rfl rfl ?_
            refine wp_goto rfl rfl ?_
            refine wp_ladd' (L' := [some (vR l0), some (vI l1), some (vI l2), some (vI l3), some (vI l4), some (vI l5), some (vI l6), some (vI l7), some (vI l8), some (vL l9), none, some (vI l11), none, none, none, none, some (vI 0), some (vI l17), none, none]) rfl rfl rfl ?_
            replace F := F _ rfl
            generalize (l14 + ((gI h (gR h l0 72) i2).toInt64) : Int64) = v14 at F ⊢
            refine wp_lstore (L2 := [some (vR l0), some (vI l1), some (vI l2), some (vI l3), some (vI l4), some (vI l5), some (vI l6), some (vI l7), some (vI l8), some (vL l9), none, some (vI l11), none, none, some (vL v14), none, some (vI 0), some (vI l17), none, none]) rfl rfl rfl rfl ?_
            refine wp_iinc' (L' := [some (vR l0), some (vI l1), some (vI l2), some (vI l3), some (vI l4), some (vI l5), some (vI l6), some (vI l7), some (vI l8), some (vL l9), none, some (vI l11), none, none, some (vL v14), none, some (vI 0), some (vI l17), none, none]) (y := 1) (L2 := [some (vR l0), some (vI l1), some (vI l2), some (vI l3), some (vI l4), some (vI l5), some (vI l6), some (vI l7), some (vI l8), some (vL l9), none, some (vI l11), none, none, some (vL v14), none, some (vI 0), some (vI (l17 + 1)), none, none]) rfl rfl rfl rfl rfl rfl ?_
            replace F := F _ rfl
            generalize (l17 + 1 : Int32) = v15 at F ⊢
            refine wp_goto rfl rfl ?_
            exact F
          · replace F := F.2 c
            refine wp_const' (L' := [some (vR l0), some (vI l1), some (vI l2), some (vI l3), some (vI l4), some (vI l5), some (vI l6), some (vI l7), some (vI l8), some (vL l9), none, some (vI l11), none, none, none, none, some (vI 0), some (vI l17), none, none]) rfl rfl rfl ?_
            refine wp_ladd' (L' := [some (vR l0), some (vI l1), some (vI l2), some (vI l3), some (vI l4), some (vI l5), some (vI l6), some (vI l7), some (vI l8), some (vL l9), none, some (vI l11), none, none, none, none, some (vI 0), some (vI l17), none, none]) rfl rfl rfl ?_
            replace F := F _ rfl
            generalize (l14 + 0 : Int64) = v16 at F ⊢
            refine wp_lstore (L2 := [some (vR l0), some (vI l1), some (vI l2), some (vI l3), some (vI l4), some (vI l5), some (vI l6), some (vI l7), some (vI l8), some (vL l9), none, some (vI l11), none, none, some (vL v16), none, some (vI 0), some (vI l17), none, none]) rfl rfl rfl rfl ?_
            refine wp_iinc' (L' := [some (vR l0), some (vI l1), some (vI l2), some (vI l3), some (vI l4), some (vI l5), some (vI l6), some (vI l7), some (vI l8), some (vL l9), none, some (vI l11), none, none, some (vL v16), none, some (vI 0), some (vI l17), none, none]) (y := 1) (L2 := [some (vR l0), some (vI l1), some (vI l2), some (vI l3), some (vI l4), some (vI l5), some (vI l6), some (vI l7), some (vI l8), some (vL l9), none, some (vI l11), none, none, some (vL v16), none, some (vI 0), some (vI (l17 + 1)), none, none]) rfl rfl rfl rfl rfl rfl ?_
            replace F := F _ rfl
            generalize (l17 + 1 : Int32) = v17 at F ⊢
            refine wp_goto rfl rfl ?_
            exact F
      · replace F := F.2 c
        refine wp_const' (L' := [some (vR l0), some (vI l1), some (vI l2), some (vI l3), some (vI l4), some (vI l5), some (vI l6), some (vI l7), some (vI l8), some (vL l9), none, some (vI l11), none, none, some (vL l14), none, none, some (vI l17), some (vI l18), some (vI s0)]) rfl rfl rfl ?_
        refine wp_goto rfl rfl ?_
        refine wp_istore' (L' := [some (vR l0), some (vI l1), some (vI l2), some (vI l3), some (vI l4), some (vI l5), some (vI l6), some (vI l7), some (vI l8), some (vL l9), none, some (vI l11), none, none, some (vL l14), none, none, some (vI l17), some (vI l18), some (vI s0)]) (L2 := [some (vR l0), some (vI l1), some (vI l2), some (vI l3), some (vI l4), some (vI l5), some (vI l6), some (vI l7), some (vI l8), some (vL l9), none, some (vI l11), none, none, some (vL l14), none, some (vI 1), some (vI l17), some (vI l18), some (vI s0)]) rfl rfl rfl rfl rfl ?_
        refine wp_lload rfl rfl rfl ?_
        refine wp_iload rfl rfl rfl ?_
        refine wp_if_eq rfl rfl rfl rfl (fun c => ?_) (fun c => ?_)
        · replace F := F.1 c
          refine wp_const' (L' := [some (vR l0), some (vI l1), some (vI l2), some (vI l3), some (vI l4), some (vI l5), some (vI l6), some (vI l7), some (vI l8), some (vL l9), none, some (vI l11), none, none, none, none, some (vI 1), some (vI l17), none, none]) rfl rfl rfl ?_
          refine wp_ladd' (L' := [some (vR l0), some (vI l1), some (vI l2), some (vI l3), some (vI l4), some (vI l5), some (vI l6), some (vI l7), some (vI l8), some (vL l9), none, some (vI l11), none, none, none, none, some (vI 1), some (vI l17), none, none]) rfl rfl rfl ?_
          replace F := F _ rfl
          generalize (l14 + 0 : Int64) = v18 at F ⊢
          refine wp_lstore (L2 := [some (vR l0), some (vI l1), some (vI l2), some (vI l3), some (vI l4), some (vI l5), some (vI l6), some (vI l7), some (vI l8), some (vL l9), none, some (vI l11), none, none, some (vL v18), none, some (vI 1), some (vI l17), none, none]) rfl rfl rfl rfl ?_
          refine wp_iinc' (L' := [some (vR l0), some (vI l1), some (vI l2), some (vI l3), some (vI l4), some (vI l5), some (vI l6), some (vI l7), some (vI l8), some (vL l9), none, some (vI l11), none, none, some (vL v18), none, some (vI 1), some (vI l17), none, none]) (y := 1) (L2 := [some (vR l0), some (vI l1), some (vI l2), some (vI l3), some (vI l4), some (vI l5), some (vI l6), some (vI l7), some (vI l8), some (vL l9), none, some (vI l11), none, none, some (vL v18), none, some (vI 1), some (vI (l17 + 1)), none, none]) rfl rfl rfl rfl rfl rfl ?_
          replace F := F _ rfl
          generalize (l17 + 1 : Int32) = v19 at F ⊢
          refine wp_goto rfl rfl ?_
          exact F
        · replace F := F.2 c
          refine wp_iload rfl rfl rfl ?_
          refine wp_if_ne rfl rfl rfl rfl (fun c => ?_) (fun c => ?_)
          · replace F := F.1 c
            refine wp_aload rfl rfl rfl ?_
            obtain ⟨f3, F⟩ := F
            refine wp_getR rfl rfl rfl f3 rfl ?_
            refine wp_const rfl rfl ?_
            refine wp_iload rfl rfl rfl ?_
            refine wp_imul rfl rfl ?_
            refine wp_iload rfl rfl rfl ?_
            refine wp_iadd rfl rfl ?_
            obtain ⟨i3, b9, F⟩ := F
            refine wp_iaload rfl b9 rfl ?_
            refine wp_i2l rfl rfl ?_
            refine wp_goto rfl rfl ?_
            refine wp_ladd' (L' := [some (vR l0), some (vI l1), some (vI l2), some (vI l3), some (vI l4), some (vI l5), some (vI l6), some (vI l7), some (vI l8), some (vL l9), none, some (vI l11), none, none, none, none, some (vI 1), some (vI l17), none, none]) rfl rfl rfl ?_
            replace F := F _ rfl
            generalize (l14 + ((gI h (gR h l0 72) i3).toInt64) : Int64) = v20 at F ⊢
            refine wp_lstore (L2 := [some (vR l0), some (vI l1), some (vI l2), some (vI l3), some (vI l4), some (vI l5), some (vI l6), some (vI l7), some (vI l8), some (vL l9), none, some (vI l11), none, none, some (vL v20), none, some (vI 1), some (vI l17), none, none]) rfl rfl rfl rfl ?_
            refine wp_iinc' (L' := [some (vR l0), some (vI l1), some (vI l2), some (vI l3), some (vI l4), some (vI l5), some (vI l6), some (vI l7), some (vI l8), some (vL l9), none, some (vI l11), none, none, some (vL v20), none, some (vI 1), some (vI l17), none, none]) (y := 1) (L2 := [some (vR l0), some (vI l1), some (vI l2), some (vI l3), some (vI l4), some (vI l5), some (vI l6), some (vI l7), some (vI l8), some (vL l9), none, some (vI l11), none, none, some (vL v20), none, some (vI 1), some (vI (l17 + 1)), none, none]) rfl rfl rfl rfl rfl rfl ?_
            replace F := F _ rfl
            generalize (l17 + 1 : Int32) = v21 at F ⊢
            refine wp_goto rfl rfl ?_
            exact F
          · replace F := F.2 c
            refine wp_const' (L' := [some (vR l0), some (vI l1), some (vI l2), some (vI l3), some (vI l4), some (vI l5), some (vI l6), some (vI l7), some (vI l8), some (vL l9), none, some (vI l11), none, none, none, none, some (vI 1), some (vI l17), none, none]) rfl rfl rfl ?_
            refine wp_ladd' (L' := [some (vR l0), some (vI l1), some (vI l2), some (vI l3), some (vI l4), some (vI l5), some (vI l6), some (vI l7), some (vI l8), some (vL l9), none, some (vI l11), none, none, none, none, some (vI 1), some (vI l17), none, none]) rfl rfl rfl ?_
            replace F := F _ rfl
            generalize (l14 + 0 : Int64) = v22 at F ⊢
            refine wp_lstore (L2 := [some (vR l0), some (vI l1), some (vI l2), some (vI l3), some (vI l4), some (vI l5), some (vI l6), some (vI l7), some (vI l8), some (vL l9), none, some (vI l11), none, none, some (vL v22), none, some (vI 1), some (vI l17), none, none]) rfl rfl rfl rfl ?_
            refine wp_iinc' (L' := [some (vR l0), some (vI l1), some (vI l2), some (vI l3), some (vI l4), some (vI l5), some (vI l6), some (vI l7), some (vI l8), some (vL l9), none, some (vI l11), none, none, some (vL v22), none, some (vI 1), some (vI l17), none, none]) (y := 1) (L2 := [some (vR l0), some (vI l1), some (vI l2), some (vI l3), some (vI l4), some (vI l5), some (vI l6), some (vI l7), some (vI l8), some (vL l9), none, some (vI l11), none, none, some (vL v22), none, some (vI 1), some (vI (l17 + 1)), none, none]) rfl rfl rfl rfl rfl rfl ?_
            replace F := F _ rfl
            generalize (l17 + 1 : Int32) = v23 at F ⊢
            refine wp_goto rfl rfl ?_
            exact F
-- CensusOfficeModel isGood (III)Z
theorem m287 {d : Nat} {a0 : Nat} {a1 : Int32} {a2 : Int32} {a3 : Int32} {h : aH} {K : Int32 → aH → Prop} {X : Nat → aH → Prop} (F : Wp (d + 1) 287 (3, [some (vR a0), some (vI a1), some (vI a2), some (vI a3), some (vI 0), none, none], [], h) (RI K X)) : CI (d + 1) 287 [vR a0, vI a1, vI a2, vI a3] h K X := by
  show Wp (d + 1) 287 (0, [some (vR a0), some (vI a1), some (vI a2), some (vI a3), none, none, none], [], h) (RI K X)
  refine wp_const rfl rfl ?_
  refine wp_istore (L2 := [some (vR a0), some (vI a1), some (vI a2), some (vI a3), some (vI 0), none, none]) rfl rfl rfl rfl ?_
  exact F
theorem w287_3 {d : Nat} {l0 : Nat} {l1 : Int32} {l2 : Int32} {l3 : Int32} {l4 : Int32} {h : aH} {K : Int32 → aH → Prop} {X : Nat → aH → Prop} (F : gK h l0 = 14 ∧ ∃ i0 : Nat, inB h 100 (gR h l0 70) l1 i0 ∧ ∃ i1 : Nat, inB h 100 (gR h l0 71) l1 i1 ∧ ((l4.toInt < ((gI h (gR h l0 70) i0) * (gI h (gR h l0 71) i1)).toInt → ∃ i2 : Nat, inB h 100 (gR h l0 78) l1 i2 ∧ (((((gI h (gR h l0 78) i2) >>> (l4 &&& 31)) &&& 1).toInt = 1 → ∃ i3 : Nat, inB h 100 (gR h l0 72) ((12 * l1) + l4) i3 ∧ ∀ v0 : Int32, v0 = gI h (gR h l0 72) i3 → ((v0.toInt < l3.toInt → Wp (d + 1) 287 (62, [some (vR l0), some (vI l1), some (vI l2), some (vI l3), some (vI l4), none, none], [vI v0], h) (RI K X)) ∧ (¬ v0.toInt < l3.toInt → Wp (d + 1) 287 (62, [some (vR l0), some (vI l1), some (vI l2), some (vI l3), some (vI l4), none, none], [vI l3], h) (RI K X)))) ∧ (¬ (((gI h (gR h l0 78) i2) >>> (l4 &&& 31)) &&& 1).toInt = 1 → ∀ v1 : Int32, v1 = l4 + 1 → Wp (d + 1) 287 (3, [some (vR l0), some (vI l1), some (vI l2), some (vI l3), some (vI v1), none, none], [], h) (RI K X)))) ∧ (¬ l4.toInt < ((gI h (gR h l0 70) i0) * (gI h (gR h l0 71) i1)).toInt → K 1 h))) : Wp (d + 1) 287 (3, [some (vR l0), some (vI l1), some (vI l2), some (vI l3), some (vI l4), none, none], [], h) (RI K X) := by
  refine wp_iload' (L' := [some (vR l0), some (vI l1), some (vI l2), some (vI l3), some (vI l4), none, none]) rfl rfl rfl rfl ?_
  refine wp_aload rfl rfl rfl ?_
  obtain ⟨f0, F⟩ := F
  refine wp_getR rfl rfl rfl f0 rfl ?_
  refine wp_iload rfl rfl rfl ?_
  obtain ⟨i0, b9, F⟩ := F
  refine wp_iaload rfl b9 rfl ?_
  refine wp_aload rfl rfl rfl ?_
  refine wp_getR rfl rfl rfl f0 rfl ?_
  refine wp_iload rfl rfl rfl ?_
  obtain ⟨i1, b9, F⟩ := F
  refine wp_iaload rfl b9 rfl ?_
  refine wp_imul rfl rfl ?_
  refine wp_icmp_ge rfl rfl rfl rfl rfl (fun c => ?_) (fun c => ?_)
  · replace F := F.1 c
    refine wp_aload rfl rfl rfl ?_
    refine wp_getR rfl rfl rfl f0 rfl ?_
    refine wp_iload rfl rfl rfl ?_
    obtain ⟨i2, b9, F⟩ := F
    refine wp_iaload rfl b9 rfl ?_
    refine wp_iload rfl rfl rfl ?_
    refine wp_ishr rfl rfl ?_
    refine wp_const rfl rfl ?_
    refine wp_iand rfl rfl ?_
    refine wp_const rfl rfl ?_
    refine wp_icmp_ne (Y := 1) rfl rfl rfl rfl rfl (fun c => ?_) (fun c => ?_)
    · replace F := F.1 c
      refine wp_aload rfl rfl rfl ?_
      refine wp_getR rfl rfl rfl f0 rfl ?_
      refine wp_const rfl rfl ?_
      refine wp_iload rfl rfl rfl ?_
      refine wp_imul rfl rfl ?_
      refine wp_iload rfl rfl rfl ?_
      refine wp_iadd rfl rfl ?_
      obtain ⟨i3, b9, F⟩ := F
      refine wp_iaload rfl b9 rfl ?_
      replace F := F _ rfl
      generalize (gI h (gR h l0 72) i3 : Int32) = v0 at F ⊢
      refine wp_istore (L2 := [some (vR l0), some (vI l1), some (vI l2), some (vI l3), some (vI l4), some (vI v0), none]) rfl rfl rfl rfl ?_
      refine wp_iload rfl rfl rfl ?_
      refine wp_iload rfl rfl rfl ?_
      refine wp_icmp_ge rfl rfl rfl rfl rfl (fun c => ?_) (fun c => ?_)
      · replace F := F.1 c
        refine wp_iload rfl rfl rfl ?_
        refine wp_goto rfl rfl ?_
        refine wp_kill (L' := [some (vR l0), some (vI l1), some (vI l2), some (vI l3), some (vI l4), none, none]) rfl rfl ?_
        exact F
      · replace F := F.2 c
        refine wp_iload' (L' := [some (vR l0), some (vI l1), some (vI l2), some (vI l3), some (vI l4), none, none]) rfl rfl rfl rfl ?_
        exact F
    · replace F := F.2 c
      refine wp_iinc' (L' := [some (vR l0), some (vI l1), some (vI l2), some (vI l3), some (vI l4), none, none]) (y := 1) (L2 := [some (vR l0), some (vI l1), some (vI l2), some (vI l3), some (vI (l4 + 1)), none, none]) rfl rfl rfl rfl rfl rfl ?_
      replace F := F _ rfl
      generalize (l4 + 1 : Int32) = v1 at F ⊢
      refine wp_goto rfl rfl ?_
      exact F
  · replace F := F.2 c
    refine wp_const' (L' := [none, none, none, none, none, none, none]) rfl rfl rfl ?_
    exact wp_retI rfl (Or.inr rfl) F
theorem w287_62 {d : Nat} {l0 : Nat} {l1 : Int32} {l2 : Int32} {l3 : Int32} {l4 : Int32} {s0 : Int32} {h : aH} {K : Int32 → aH → Prop} {X : Nat → aH → Prop} (F : 8 ≤ l0 ∧ gK h l0 = 14 ∧ CI d 286 [vR l0, vI l1, vI l2, vI l4, vI 1] h (fun y0 h0 => ((y0.toInt < l3.toInt → K 0 h0) ∧ (¬ y0.toInt < l3.toInt → gK h0 l0 = 14 ∧ CI d 286 [vR l0, vI l1, vI l2, vI l4, vI 0] h0 (fun y1 h1 => ((y1.toInt < s0.toInt → K 0 h1) ∧ (¬ y1.toInt < s0.toInt → ∀ v0 : Int32, v0 = l4 + 1 → Wp (d + 1) 287 (3, [some (vR l0), some (vI l1), some (vI l2), some (vI l3), some (vI v0), none, none], [], h1) (RI K X)))) X))) X) : Wp (d + 1) 287 (62, [some (vR l0), some (vI l1), some (vI l2), some (vI l3), some (vI l4), none, none], [vI s0], h) (RI K X) := by
  refine wp_istore' (L' := [some (vR l0), some (vI l1), some (vI l2), some (vI l3), some (vI l4), none, none]) (L2 := [some (vR l0), some (vI l1), some (vI l2), some (vI l3), some (vI l4), none, some (vI s0)]) rfl rfl rfl rfl rfl ?_
  refine wp_aload rfl rfl rfl ?_
  refine wp_iload rfl rfl rfl ?_
  refine wp_iload rfl rfl rfl ?_
  refine wp_iload rfl rfl rfl ?_
  refine wp_const rfl rfl ?_
  obtain ⟨f0, F⟩ := F
  obtain ⟨f1, F⟩ := F
  refine wp_callI rfl rfl rfl (rcv_v f0 f1 (by decide) (by decide)) rfl rfl rfl rfl ?_
  refine CI.mono F (fun y0 h0 F => ?_) (fun _ _ w => rx_I w)
  refine wp_iload rfl rfl rfl ?_
  refine wp_icmp_lt rfl rfl rfl rfl rfl (fun c => ?_) (fun c => ?_)
  · replace F := F.1 c
    refine wp_const' (L' := [none, none, none, none, none, none, none]) rfl rfl rfl ?_
    exact wp_retI rfl (Or.inr rfl) F
  · replace F := F.2 c
    refine wp_aload rfl rfl rfl ?_
    refine wp_iload rfl rfl rfl ?_
    refine wp_iload rfl rfl rfl ?_
    refine wp_iload rfl rfl rfl ?_
    refine wp_const rfl rfl ?_
    obtain ⟨f2, F⟩ := F
    refine wp_callI rfl rfl rfl (rcv_v f0 f2 (by decide) (by decide)) rfl rfl rfl rfl ?_
    refine CI.mono F (fun y1 h1 F => ?_) (fun _ _ w => rx_I w)
    refine wp_iload rfl rfl rfl ?_
    refine wp_icmp_ge rfl rfl rfl rfl rfl (fun c => ?_) (fun c => ?_)
    · replace F := F.1 c
      refine wp_const' (L' := [none, none, none, none, none, none, none]) rfl rfl rfl ?_
      exact wp_retI rfl (Or.inr rfl) F
    · replace F := F.2 c
      refine wp_iinc' (L' := [some (vR l0), some (vI l1), some (vI l2), some (vI l3), some (vI l4), none, none]) (y := 1) (L2 := [some (vR l0), some (vI l1), some (vI l2), some (vI l3), some (vI (l4 + 1)), none, none]) rfl rfl rfl rfl rfl rfl ?_
      replace F := F _ rfl
      generalize (l4 + 1 : Int32) = v0 at F ⊢
      refine wp_goto rfl rfl ?_
      exact F
-- CensusOfficeModel secrecy (IIII)I
theorem m288 {d : Nat} {a0 : Nat} {a1 : Int32} {a2 : Int32} {a3 : Int32} {a4 : Int32} {h : aH} {K : Int32 → aH → Prop} {X : Nat → aH → Prop} (F : 8 ≤ a0 ∧ gK h a0 = 14 ∧ ∀ h0 : aH, h0 = pI h a0 0 0 → CI d 274 [vR a0, vI a1] h0 (fun y0 h1 => ((y0.toInt = 0 → gK h1 a0 = 14 ∧ CI d 15 [vR a0, vI 1] h1 (fun y1 h2 => K y1 h2) X) ∧ (¬ y0.toInt = 0 → CI d 14 [vL (a2.toInt64), vL 0, vL 100] h1 (fun y2 h3 => ((y2.toInt = 0 → gK h3 a0 = 14 ∧ CI d 15 [vR a0, vI 2] h3 (fun y3 h4 => K y3 h4) X) ∧ (¬ y2.toInt = 0 → CI d 14 [vL (a3.toInt64), vL 0, vL 100] h3 (fun y4 h5 => ((y4.toInt = 0 → gK h5 a0 = 14 ∧ CI d 15 [vR a0, vI 2] h5 (fun y5 h6 => K y5 h6) X) ∧ (¬ y4.toInt = 0 → CI d 14 [vL (a4.toInt64), vL 0, vL 1000000] h5 (fun y6 h7 => ((y6.toInt = 0 → gK h7 a0 = 14 ∧ CI d 15 [vR a0, vI 2] h7 (fun y7 h8 => K y7 h8) X) ∧ (¬ y6.toInt = 0 → gK h7 a0 = 14 ∧ ∃ i0 : Nat, inB h7 100 (gR h7 a0 70) a1 i0 ∧ ∃ i1 : Nat, inB h7 100 (gR h7 a0 71) a1 i1 ∧ ∀ v0 : Int32, v0 = (gI h7 (gR h7 a0 70) i0) * (gI h7 (gR h7 a0 71) i1) → 8 ≤ (gR h7 a0 78) ∧ ∃ i2 : Nat, inB h7 100 (gR h7 a0 78) a1 i2 ∧ ∀ h9 : aH, h9 = pI h7 (gR h7 a0 78) i2 0 → Wp (d + 1) 288 (87, [some (vR a0), some (vI a1), some (vI a2), some (vI a3), some (vI a4), some (vI v0), some (vI 0), none, none, none, none, none], [], h9) (RI K X)))) X))) X))) X))) X) : CI (d + 1) 288 [vR a0, vI a1, vI a2, vI a3, vI a4] h K X := by
  show Wp (d + 1) 288 (0, [some (vR a0), some (vI a1), some (vI a2), some (vI a3), some (vI a4), none, none, none, none, none, none, none], [], h) (RI K X)
  refine wp_aload rfl rfl rfl ?_
  refine wp_const rfl rfl ?_
  obtain ⟨f0, F⟩ := F
  obtain ⟨f1, F⟩ := F
  refine wp_putI rfl rfl rfl f0 f1 rfl ?_
  have f2 : gK (pI h a0 0 0) a0 = 14 := (gK_pI _ _ _ _ _).trans f1
  replace F := F _ rfl
  generalize pI h a0 0 0 = h0 at F f2 ⊢
  refine wp_aload rfl rfl rfl ?_
  refine wp_iload rfl rfl rfl ?_
  refine wp_callI rfl rfl rfl (rcv_v f0 f2 (by decide) (by decide)) rfl rfl rfl rfl ?_
  refine CI.mono F (fun y0 h1 F => ?_) (fun _ _ w => rx_I w)
  refine wp_if_ne rfl rfl rfl rfl (fun c => ?_) (fun c => ?_)
  · replace F := F.1 c
    refine wp_aload rfl rfl rfl ?_
    refine wp_const rfl rfl ?_
    obtain ⟨f3, F⟩ := F
    refine wp_callI rfl rfl rfl (rcv_v f0 f3 (by decide) (by decide)) rfl rfl rfl rfl ?_
    refine CI.mono F (fun y1 h2 F => ?_) (fun _ _ w => rx_I w)
    exact wp_retI rfl (Or.inl rfl) F
  · replace F := F.2 c
    refine wp_iload' (L' := [some (vR a0), some (vI a1), some (vI a2), some (vI a3), some (vI a4), none, none, none, none, none, none, none]) rfl rfl rfl rfl ?_
    refine wp_i2l rfl rfl ?_
    refine wp_const rfl rfl ?_
    refine wp_const rfl rfl ?_
    refine wp_callI rfl rfl rfl rfl rfl rfl rfl rfl ?_
    refine CI.mono F (fun y2 h3 F => ?_) (fun _ _ w => rx_I w)
    refine wp_if_eq rfl rfl rfl rfl (fun c => ?_) (fun c => ?_)
    · replace F := F.1 c
      refine wp_aload' (L' := [some (vR a0), none, none, none, none, none, none, none, none, none, none, none]) rfl rfl rfl rfl ?_
      refine wp_const rfl rfl ?_
      obtain ⟨f4, F⟩ := F
      refine wp_callI rfl rfl rfl (rcv_v f0 f4 (by decide) (by decide)) rfl rfl rfl rfl ?_
      refine CI.mono F (fun y3 h4 F => ?_) (fun _ _ w => rx_I w)
      exact wp_retI rfl (Or.inl rfl) F
    · replace F := F.2 c
      refine wp_iload rfl rfl rfl ?_
      refine wp_i2l rfl rfl ?_
      refine wp_const rfl rfl ?_
      refine wp_const rfl rfl ?_
      refine wp_callI rfl rfl rfl rfl rfl rfl rfl rfl ?_
      refine CI.mono F (fun y4 h5 F => ?_) (fun _ _ w => rx_I w)
      refine wp_if_eq rfl rfl rfl rfl (fun c => ?_) (fun c => ?_)
      · replace F := F.1 c
        refine wp_aload' (L' := [some (vR a0), none, none, none, none, none, none, none, none, none, none, none]) rfl rfl rfl rfl ?_
        refine wp_const rfl rfl ?_
        obtain ⟨f5, F⟩ := F
        refine wp_callI rfl rfl rfl (rcv_v f0 f5 (by decide) (by decide)) rfl rfl rfl rfl ?_
        refine CI.mono F (fun y5 h6 F => ?_) (fun _ _ w => rx_I w)
        exact wp_retI rfl (Or.inl rfl) F
      · replace F := F.2 c
        refine wp_iload rfl rfl rfl ?_
        refine wp_i2l rfl rfl ?_
        refine wp_const rfl rfl ?_
        refine wp_const rfl rfl ?_
        refine wp_callI rfl rfl rfl rfl rfl rfl rfl rfl ?_
        refine CI.mono F (fun y6 h7 F => ?_) (fun _ _ w => rx_I w)
        refine wp_if_ne rfl rfl rfl rfl (fun c => ?_) (fun c => ?_)
        · replace F := F.1 c
          refine wp_aload' (L' := [some (vR a0), none, none, none, none, none, none, none, none, none, none, none]) rfl rfl rfl rfl ?_
          refine wp_const rfl rfl ?_
          obtain ⟨f6, F⟩ := F
          refine wp_callI rfl rfl rfl (rcv_v f0 f6 (by decide) (by decide)) rfl rfl rfl rfl ?_
          refine CI.mono F (fun y7 h8 F => ?_) (fun _ _ w => rx_I w)
          exact wp_retI rfl (Or.inl rfl) F
        · replace F := F.2 c
          refine wp_aload' (L' := [some (vR a0), some (vI a1), some (vI a2), some (vI a3), some (vI a4), none, none, none, none, none, none, none]) rfl rfl rfl rfl ?_
          obtain ⟨f7, F⟩ := F
          refine wp_getR rfl rfl rfl f7 rfl ?_
          refine wp_iload rfl rfl rfl ?_
          obtain ⟨i0, b9, F⟩ := F
          refine wp_iaload rfl b9 rfl ?_
          refine wp_aload rfl rfl rfl ?_
          refine wp_getR rfl rfl rfl f7 rfl ?_
          refine wp_iload rfl rfl rfl ?_
          obtain ⟨i1, b9, F⟩ := F
          refine wp_iaload rfl b9 rfl ?_
          refine wp_imul rfl rfl ?_
          replace F := F _ rfl
          generalize ((gI h7 (gR h7 a0 70) i0) * (gI h7 (gR h7 a0 71) i1) : Int32) = v0 at F ⊢
          refine wp_istore (L2 := [some (vR a0), some (vI a1), some (vI a2), some (vI a3), some (vI a4), some (vI v0), none, none, none, none, none, none]) rfl rfl rfl rfl ?_
          refine wp_aload rfl rfl rfl ?_
          refine wp_getR rfl rfl rfl f7 rfl ?_
          refine wp_iload rfl rfl rfl ?_
          refine wp_const rfl rfl ?_
          obtain ⟨f8, F⟩ := F
          obtain ⟨i2, b9, F⟩ := F
          refine wp_iastore rfl f8 b9 rfl ?_
          have f9 : gK (pI h7 (gR h7 a0 78) i2 0) a0 = 14 := (gK_pI _ _ _ _ _).trans f7
          replace F := F _ rfl
          generalize pI h7 (gR h7 a0 78) i2 0 = h9 at F f9 ⊢
          refine wp_const rfl rfl ?_
          refine wp_istore (L2 := [some (vR a0), some (vI a1), some (vI a2), some (vI a3), some (vI a4), some (vI v0), some (vI 0), none, none, none, none, none]) rfl rfl rfl rfl ?_
          exact F
theorem w288_87 {d : Nat} {l0 : Nat} {l1 : Int32} {l2 : Int32} {l3 : Int32} {l4 : Int32} {l5 : Int32} {l6 : Int32} {h : aH} {K : Int32 → aH → Prop} {X : Nat → aH → Prop} (F : ((l6.toInt < l5.toInt → ∀ v0 : Int32, v0 = (12 * l1) + l6 → gK h l0 = 14 ∧ ∃ i0 : Nat, inB h 100 (gR h l0 73) v0 i0 ∧ (((gI h (gR h l0 73) i0).toInt < 1 → Wp (d + 1) 288 (125, [some (vR l0), some (vI l1), some (vI l2), some (vI l3), some (vI l4), some (vI l5), some (vI l6), some (vI v0), none, none, none, none], [], h) (RI K X)) ∧ (¬ (gI h (gR h l0 73) i0).toInt < 1 → ∃ i1 : Nat, inB h 100 (gR h l0 73) v0 i1 ∧ (((gI h (gR h l0 73) i1).toInt < l2.toInt → ∃ i2 : Nat, inB h 100 (gR h l0 78) l1 i2 ∧ 8 ≤ (gR h l0 78) ∧ ∃ i3 : Nat, inB h 100 (gR h l0 78) l1 i3 ∧ ∀ h0 : aH, h0 = pI h (gR h l0 78) i3 ((gI h (gR h l0 78) i2) ||| (1 <<< (l6 &&& 31))) → ∀ v1 : Int32, v1 = l6 + 1 → Wp (d + 1) 288 (87, [some (vR l0), some (vI l1), some (vI l2), some (vI l3), some (vI l4), some (vI l5), some (vI v1), none, none, none, none, none], [], h0) (RI K X)) ∧ (¬ (gI h (gR h l0 73) i1).toInt < l2.toInt → Wp (d + 1) 288 (125, [some (vR l0), some (vI l1), some (vI l2), some (vI l3), some (vI l4), some (vI l5), some (vI l6), some (vI v0), none, none, none, none], [], h) (RI K X)))))) ∧ (¬ l6.toInt < l5.toInt → Wp (d + 1) 288 (195, [some (vR l0), some (vI l1), none, none, some (vI l4), some (vI l5), some (vL (-1)), none, some (vI 0), none, none, none], [], h) (RI K X)))) : Wp (d + 1) 288 (87, [some (vR l0), some (vI l1), some (vI l2), some (vI l3), some (vI l4), some (vI l5), some (vI l6), none, none, none, none, none], [], h) (RI K X) := by
  refine wp_iload' (L' := [some (vR l0), some (vI l1), some (vI l2), some (vI l3), some (vI l4), some (vI l5), some (vI l6), none, none, none, none, none]) rfl rfl rfl rfl ?_
  refine wp_iload rfl rfl rfl ?_
  refine wp_icmp_ge rfl rfl rfl rfl rfl (fun c => ?_) (fun c => ?_)
  · replace F := F.1 c
    refine wp_const rfl rfl ?_
    refine wp_iload rfl rfl rfl ?_
    refine wp_imul rfl rfl ?_
    refine wp_iload rfl rfl rfl ?_
    refine wp_iadd rfl rfl ?_
    replace F := F _ rfl
    generalize ((12 * l1) + l6 : Int32) = v0 at F ⊢
    refine wp_istore (L2 := [some (vR l0), some (vI l1), some (vI l2), some (vI l3), some (vI l4), some (vI l5), some (vI l6), some (vI v0), none, none, none, none]) rfl rfl rfl rfl ?_
    refine wp_aload rfl rfl rfl ?_
    obtain ⟨f0, F⟩ := F
    refine wp_getR rfl rfl rfl f0 rfl ?_
    refine wp_iload rfl rfl rfl ?_
    obtain ⟨i0, b9, F⟩ := F
    refine wp_iaload rfl b9 rfl ?_
    refine wp_const rfl rfl ?_
    refine wp_icmp_lt (Y := 1) rfl rfl rfl rfl rfl (fun c => ?_) (fun c => ?_)
    · replace F := F.1 c
      exact F
    · replace F := F.2 c
      refine wp_aload rfl rfl rfl ?_
      refine wp_getR rfl rfl rfl f0 rfl ?_
      refine wp_iload rfl rfl rfl ?_
      obtain ⟨i1, b9, F⟩ := F
      refine wp_iaload rfl b9 rfl ?_
      refine wp_iload rfl rfl rfl ?_
      refine wp_icmp_lt rfl rfl rfl rfl rfl (fun c => ?_) (fun c => ?_)
      · replace F := F.1 c
        refine wp_const' (L' := [some (vR l0), some (vI l1), some (vI l2), some (vI l3), some (vI l4), some (vI l5), some (vI l6), none, none, none, none, none]) rfl rfl rfl ?_
        refine wp_goto rfl rfl ?_
        refine wp_istore' (L' := [some (vR l0), some (vI l1), some (vI l2), some (vI l3), some (vI l4), some (vI l5), some (vI l6), none, none, none, none, none]) (L2 := [some (vR l0), some (vI l1), some (vI l2), some (vI l3), some (vI l4), some (vI l5), some (vI l6), none, some (vI 1), none, none, none]) rfl rfl rfl rfl rfl ?_
        refine wp_aload rfl rfl rfl ?_
        refine wp_getR rfl rfl rfl f0 rfl ?_
        refine wp_iload rfl rfl rfl ?_
        refine wp_dup2 rfl rfl rfl rfl ?_
        obtain ⟨i2, b9, F⟩ := F
        refine wp_iaload rfl b9 rfl ?_
        refine wp_iload rfl rfl rfl ?_
        refine wp_if_eq (X := 1) rfl rfl rfl rfl (fun c => absurd c (by decide)) (fun _ => ?_)
        refine wp_const rfl rfl ?_
        refine wp_iload rfl rfl rfl ?_
        refine wp_ishl rfl rfl ?_
        refine wp_goto rfl rfl ?_
        refine wp_ior' (L' := [some (vR l0), some (vI l1), some (vI l2), some (vI l3), some (vI l4), some (vI l5), some (vI l6), none, none, none, none, none]) rfl rfl rfl ?_
        obtain ⟨f1, F⟩ := F
        obtain ⟨i3, b9, F⟩ := F
        refine wp_iastore rfl f1 b9 rfl ?_
        have f2 : gK (pI h (gR h l0 78) i3 ((gI h (gR h l0 78) i2) ||| (1 <<< (l6 &&& 31)))) l0 = 14 := (gK_pI _ _ _ _ _).trans f0
        replace F := F _ rfl
        generalize pI h (gR h l0 78) i3 ((gI h (gR h l0 78) i2) ||| (1 <<< (l6 &&& 31))) = h0 at F f2 ⊢
        refine wp_iinc (y := 1) (L2 := [some (vR l0), some (vI l1), some (vI l2), some (vI l3), some (vI l4), some (vI l5), some (vI (l6 + 1)), none, none, none, none, none]) rfl rfl rfl rfl rfl ?_
        replace F := F _ rfl
        generalize (l6 + 1 : Int32) = v1 at F ⊢
        refine wp_goto rfl rfl ?_
        exact F
      · replace F := F.2 c
        exact F
  · replace F := F.2 c
    refine wp_const' (L' := [some (vR l0), some (vI l1), none, none, some (vI l4), some (vI l5), none, none, none, none, none, none]) rfl rfl rfl ?_
    refine wp_lstore (L2 := [some (vR l0), some (vI l1), none, none, some (vI l4), some (vI l5), some (vL (-1)), none, none, none, none, none]) rfl rfl rfl rfl ?_
    refine wp_const rfl rfl ?_
    refine wp_istore (L2 := [some (vR l0), some (vI l1), none, none, some (vI l4), some (vI l5), some (vL (-1)), none, some (vI 0), none, none, none]) rfl rfl rfl rfl ?_
    exact F
theorem w288_125 {d : Nat} {l0 : Nat} {l1 : Int32} {l2 : Int32} {l3 : Int32} {l4 : Int32} {l5 : Int32} {l6 : Int32} {l7 : Int32} {h : aH} {K : Int32 → aH → Prop} {X : Nat → aH → Prop} (F : gK h l0 = 14 ∧ ∃ i0 : Nat, inB h 100 (gR h l0 74) l7 i0 ∧ ∃ i1 : Nat, inB h 100 (gR h l0 72) l7 i1 ∧ ((((l3.toInt64) * ((gI h (gR h l0 72) i1).toInt64)).toInt < (100 * ((gI h (gR h l0 74) i0).toInt64)).toInt → ∃ i2 : Nat, inB h 100 (gR h l0 78) l1 i2 ∧ 8 ≤ (gR h l0 78) ∧ ∃ i3 : Nat, inB h 100 (gR h l0 78) l1 i3 ∧ ∀ h0 : aH, h0 = pI h (gR h l0 78) i3 ((gI h (gR h l0 78) i2) ||| (1 <<< (l6 &&& 31))) → ∀ v0 : Int32, v0 = l6 + 1 → Wp (d + 1) 288 (87, [some (vR l0), some (vI l1), some (vI l2), some (vI l3), some (vI l4), some (vI l5), some (vI v0), none, none, none, none, none], [], h0) (RI K X)) ∧ (¬ ((l3.toInt64) * ((gI h (gR h l0 72) i1).toInt64)).toInt < (100 * ((gI h (gR h l0 74) i0).toInt64)).toInt → ∃ i4 : Nat, inB h 100 (gR h l0 78) l1 i4 ∧ 8 ≤ (gR h l0 78) ∧ ∃ i5 : Nat, inB h 100 (gR h l0 78) l1 i5 ∧ ∀ h1 : aH, h1 = pI h (gR h l0 78) i5 ((gI h (gR h l0 78) i4) ||| 0) → ∀ v1 : Int32, v1 = l6 + 1 → Wp (d + 1) 288 (87, [some (vR l0), some (vI l1), some (vI l2), some (vI l3), some (vI l4), some (vI l5), some (vI v1), none, none, none, none, none], [], h1) (RI K X)))) : Wp (d + 1) 288 (125, [some (vR l0), some (vI l1), some (vI l2), some (vI l3), some (vI l4), some (vI l5), some (vI l6), some (vI l7), none, none, none, none], [], h) (RI K X) := by
  refine wp_const' (L' := [some (vR l0), some (vI l1), some (vI l2), some (vI l3), some (vI l4), some (vI l5), some (vI l6), some (vI l7), none, none, none, none]) rfl rfl rfl ?_
  refine wp_aload rfl rfl rfl ?_
  obtain ⟨f0, F⟩ := F
  refine wp_getR rfl rfl rfl f0 rfl ?_
  refine wp_iload rfl rfl rfl ?_
  obtain ⟨i0, b9, F⟩ := F
  refine wp_iaload rfl b9 rfl ?_
  refine wp_i2l rfl rfl ?_
  refine wp_lmul rfl rfl ?_
  refine wp_iload rfl rfl rfl ?_
  refine wp_i2l rfl rfl ?_
  refine wp_aload rfl rfl rfl ?_
  refine wp_getR rfl rfl rfl f0 rfl ?_
  refine wp_iload rfl rfl rfl ?_
  obtain ⟨i1, b9, F⟩ := F
  refine wp_iaload rfl b9 rfl ?_
  refine wp_i2l rfl rfl ?_
  refine wp_lmul rfl rfl ?_
  refine wp_lcmp_le rfl rfl rfl rfl rfl rfl rfl (fun c => ?_) (fun c => ?_)
  · replace F := F.1 c
    refine wp_const' (L' := [some (vR l0), some (vI l1), some (vI l2), some (vI l3), some (vI l4), some (vI l5), some (vI l6), none, none, none, none, none]) rfl rfl rfl ?_
    refine wp_goto rfl rfl ?_
    refine wp_istore' (L' := [some (vR l0), some (vI l1), some (vI l2), some (vI l3), some (vI l4), some (vI l5), some (vI l6), none, none, none, none, none]) (L2 := [some (vR l0), some (vI l1), some (vI l2), some (vI l3), some (vI l4), some (vI l5), some (vI l6), none, some (vI 1), none, none, none]) rfl rfl rfl rfl rfl ?_
    refine wp_aload rfl rfl rfl ?_
    refine wp_getR rfl rfl rfl f0 rfl ?_
    refine wp_iload rfl rfl rfl ?_
    refine wp_dup2 rfl rfl rfl rfl ?_
    obtain ⟨i2, b9, F⟩ := F
    refine wp_iaload rfl b9 rfl ?_
    refine wp_iload rfl rfl rfl ?_
    refine wp_if_eq (X := 1) rfl rfl rfl rfl (fun c => absurd c (by decide)) (fun _ => ?_)
    refine wp_const rfl rfl ?_
    refine wp_iload rfl rfl rfl ?_
    refine wp_ishl rfl rfl ?_
    refine wp_goto rfl rfl ?_
    refine wp_ior' (L' := [some (vR l0), some (vI l1), some (vI l2), some (vI l3), some (vI l4), some (vI l5), some (vI l6), none, none, none, none, none]) rfl rfl rfl ?_
    obtain ⟨f1, F⟩ := F
    obtain ⟨i3, b9, F⟩ := F
    refine wp_iastore rfl f1 b9 rfl ?_
    have f2 : gK (pI h (gR h l0 78) i3 ((gI h (gR h l0 78) i2) ||| (1 <<< (l6 &&& 31)))) l0 = 14 := (gK_pI _ _ _ _ _).trans f0
    replace F := F _ rfl
    generalize pI h (gR h l0 78) i3 ((gI h (gR h l0 78) i2) ||| (1 <<< (l6 &&& 31))) = h0 at F f2 ⊢
    refine wp_iinc (y := 1) (L2 := [some (vR l0), some (vI l1), some (vI l2), some (vI l3), some (vI l4), some (vI l5), some (vI (l6 + 1)), none, none, none, none, none]) rfl rfl rfl rfl rfl ?_
    replace F := F _ rfl
    generalize (l6 + 1 : Int32) = v0 at F ⊢
    refine wp_goto rfl rfl ?_
    exact F
  · replace F := F.2 c
    refine wp_const' (L' := [some (vR l0), some (vI l1), some (vI l2), some (vI l3), some (vI l4), some (vI l5), some (vI l6), none, none, none, none, none]) rfl rfl rfl ?_
    refine wp_istore' (L' := [some (vR l0), some (vI l1), some (vI l2), some (vI l3), some (vI l4), some (vI l5), some (vI l6), none, none, none, none, none]) (L2 := [some (vR l0), some (vI l1), some (vI l2), some (vI l3), some (vI l4), some (vI l5), some (vI l6), none, some (vI 0), none, none, none]) rfl rfl rfl rfl rfl ?_
    refine wp_aload rfl rfl rfl ?_
    refine wp_getR rfl rfl rfl f0 rfl ?_
    refine wp_iload rfl rfl rfl ?_
    refine wp_dup2 rfl rfl rfl rfl ?_
    obtain ⟨i4, b9, F⟩ := F
    refine wp_iaload rfl b9 rfl ?_
    refine wp_iload rfl rfl rfl ?_
    refine wp_if_eq (X := 0) rfl rfl rfl rfl (fun _ => ?_) (fun c => absurd (by decide) c)
    refine wp_const' (L' := [some (vR l0), some (vI l1), some (vI l2), some (vI l3), some (vI l4), some (vI l5), some (vI l6), none, none, none, none, none]) rfl rfl rfl ?_
    refine wp_ior' (L' := [some (vR l0), some (vI l1), some (vI l2), some (vI l3), some (vI l4), some (vI l5), some (vI l6), none, none, none, none, none]) rfl rfl rfl ?_
    obtain ⟨f3, F⟩ := F
    obtain ⟨i5, b9, F⟩ := F
    refine wp_iastore rfl f3 b9 rfl ?_
    have f4 : gK (pI h (gR h l0 78) i5 ((gI h (gR h l0 78) i4) ||| 0)) l0 = 14 := (gK_pI _ _ _ _ _).trans f0
    replace F := F _ rfl
    generalize pI h (gR h l0 78) i5 ((gI h (gR h l0 78) i4) ||| 0) = h1 at F f4 ⊢
    refine wp_iinc (y := 1) (L2 := [some (vR l0), some (vI l1), some (vI l2), some (vI l3), some (vI l4), some (vI l5), some (vI (l6 + 1)), none, none, none, none, none]) rfl rfl rfl rfl rfl ?_
    replace F := F _ rfl
    generalize (l6 + 1 : Int32) = v1 at F ⊢
    refine wp_goto rfl rfl ?_
    exact F
theorem w288_195 {d : Nat} {l0 : Nat} {l1 : Int32} {l4 : Int32} {l5 : Int32} {l6 : Int64} {l8 : Int32} {h : aH} {K : Int32 → aH → Prop} {X : Nat → aH → Prop} (F : ((l8.toInt < (1 <<< (l5 &&& 31)).toInt → Wp (d + 1) 288 (210, [some (vR l0), some (vI l1), none, none, some (vI l4), some (vI l5), some (vL l6), none, some (vI l8), some (vL 0), none, some (vI 0)], [], h) (RI K X)) ∧ (¬ l8.toInt < (1 <<< (l5 &&& 31)).toInt → ((l6.toInt < 0 → gK h l0 = 14 ∧ 8 ≤ (gR h l0 77) ∧ ∃ i0 : Nat, inB h 100 (gR h l0 77) l1 i0 ∧ ∀ h0 : aH, h0 = pI h (gR h l0 77) i0 ((1 <<< (l5 &&& 31)) - 1) → K (l6.toInt32) h0) ∧ (¬ l6.toInt < 0 → K (l6.toInt32) h))))) : Wp (d + 1) 288 (195, [some (vR l0), some (vI l1), none, none, some (vI l4), some (vI l5), some (vL l6), none, some (vI l8), none, none, none], [], h) (RI K X) := by
  refine wp_iload' (L' := [some (vR l0), some (vI l1), none, none, some (vI l4), some (vI l5), some (vL l6), none, some (vI l8), none, none, none]) rfl rfl rfl rfl ?_
  refine wp_const rfl rfl ?_
  refine wp_iload rfl rfl rfl ?_
  refine wp_ishl rfl rfl ?_
  refine wp_icmp_ge rfl rfl rfl rfl rfl (fun c => ?_) (fun c => ?_)
  · replace F := F.1 c
    refine wp_const rfl rfl ?_
    refine wp_lstore (L2 := [some (vR l0), some (vI l1), none, none, some (vI l4), some (vI l5), some (vL l6), none, some (vI l8), some (vL 0), none, none]) rfl rfl rfl rfl ?_
    refine wp_const rfl rfl ?_
    refine wp_istore (L2 := [some (vR l0), some (vI l1), none, none, some (vI l4), some (vI l5), some (vL l6), none, some (vI l8), some (vL 0), none, some (vI 0)]) rfl rfl rfl rfl ?_
    exact F
  · replace F := F.2 c
    refine wp_lload' (L' := [some (vR l0), some (vI l1), none, none, none, some (vI l5), some (vL l6), none, none, none, none, none]) rfl rfl rfl rfl ?_
    refine wp_const rfl rfl ?_
    refine wp_lcmp_ge (Y := 0) rfl rfl rfl rfl rfl rfl rfl (fun c => ?_) (fun c => ?_)
    · replace F := F.1 c
      refine wp_aload rfl rfl rfl ?_
      obtain ⟨f0, F⟩ := F
      refine wp_getR rfl rfl rfl f0 rfl ?_
      refine wp_iload rfl rfl rfl ?_
      refine wp_const rfl rfl ?_
      refine wp_iload rfl rfl rfl ?_
      refine wp_ishl rfl rfl ?_
      refine wp_const rfl rfl ?_
      refine wp_isub rfl rfl ?_
      obtain ⟨f1, F⟩ := F
      obtain ⟨i0, b9, F⟩ := F
      refine wp_iastore rfl f1 b9 rfl ?_
      have f2 : gK (pI h (gR h l0 77) i0 ((1 <<< (l5 &&& 31)) - 1)) l0 = 14 := (gK_pI _ _ _ _ _).trans f0
      replace F := F _ rfl
      generalize pI h (gR h l0 77) i0 ((1 <<< (l5 &&& 31)) - 1) = h0 at F f2 ⊢
      refine wp_lload' (L' := [none, none, none, none, none, none, some (vL l6), none, none, none, none, none]) rfl rfl rfl rfl ?_
      refine wp_l2i rfl rfl ?_
      exact wp_retI rfl (Or.inl rfl) F
    · replace F := F.2 c
      refine wp_lload' (L' := [none, none, none, none, none, none, some (vL l6), none, none, none, none, none]) rfl rfl rfl rfl ?_
      refine wp_l2i rfl rfl ?_
      exact wp_retI rfl (Or.inl rfl) F
theorem w288_210 {d : Nat} {l0 : Nat} {l1 : Int32} {l4 : Int32} {l5 : Int32} {l6 : Int64} {l8 : Int32} {l9 : Int64} {l11 : Int32} {h : aH} {K : Int32 → aH → Prop} {X : Nat → aH → Prop} (F : ((l11.toInt < l5.toInt → ((((l8 >>> (l11 &&& 31)) &&& 1).toInt = 1 → gK h l0 = 14 ∧ ∃ i0 : Nat, inB h 100 (gR h l0 78) l1 i0 ∧ (((((gI h (gR h l0 78) i0) >>> (l11 &&& 31)) &&& 1).toInt = 0 → ∃ i1 : Nat, inB h 100 (gR h l0 72) ((12 * l1) + l11) i1 ∧ ∀ v0 : Int64, v0 = l9 + (((gI h (gR h l0 72) i1).toInt64) + 1) → ∀ v1 : Int32, v1 = l11 + 1 → Wp (d + 1) 288 (210, [some (vR l0), some (vI l1), none, none, some (vI l4), some (vI l5), some (vL l6), none, some (vI l8), some (vL v0), none, some (vI v1)], [], h) (RI K X)) ∧ (¬ (((gI h (gR h l0 78) i0) >>> (l11 &&& 31)) &&& 1).toInt = 0 → ∀ v2 : Int64, v2 = l9 + 0 → ∀ v3 : Int32, v3 = l11 + 1 → Wp (d + 1) 288 (210, [some (vR l0), some (vI l1), none, none, some (vI l4), some (vI l5), some (vL l6), none, some (vI l8), some (vL v2), none, some (vI v3)], [], h) (RI K X)))) ∧ (¬ ((l8 >>> (l11 &&& 31)) &&& 1).toInt = 1 → ∀ v4 : Int64, v4 = l9 + 0 → ∀ v5 : Int32, v5 = l11 + 1 → Wp (d + 1) 288 (210, [some (vR l0), some (vI l1), none, none, some (vI l4), some (vI l5), some (vL l6), none, some (vI l8), some (vL v4), none, some (vI v5)], [], h) (RI K X)))) ∧ (¬ l11.toInt < l5.toInt → gK h l0 = 14 ∧ ∃ i2 : Nat, inB h 100 (gR h l0 78) l1 i2 ∧ ∃ i3 : Nat, inB h 100 (gR h l0 78) l1 i3 ∧ (((l8 &&& (gI h (gR h l0 78) i2)).toInt = (gI h (gR h l0 78) i3).toInt → ((l6.toInt < 0 → 8 ≤ l0 ∧ CI d 287 [vR l0, vI l1, vI l8, vI l4] h (fun y0 h0 => ((y0.toInt = 0 → ∀ v6 : Int32, v6 = l8 + 1 → Wp (d + 1) 288 (195, [some (vR l0), some (vI l1), none, none, some (vI l4), some (vI l5), some (vL l6), none, some (vI v6), none, none, none], [], h0) (RI K X)) ∧ (¬ y0.toInt = 0 → gK h0 l0 = 14 ∧ 8 ≤ (gR h0 l0 77) ∧ ∃ i4 : Nat, inB h0 100 (gR h0 l0 77) l1 i4 ∧ ∀ h1 : aH, h1 = pI h0 (gR h0 l0 77) i4 l8 → ∀ v7 : Int32, v7 = l8 + 1 → Wp (d + 1) 288 (195, [some (vR l0), some (vI l1), none, none, some (vI l4), some (vI l5), some (vL l9), none, some (vI v7), none, none, none], [], h1) (RI K X)))) X) ∧ (¬ l6.toInt < 0 → ((l9.toInt < l6.toInt → 8 ≤ l0 ∧ CI d 287 [vR l0, vI l1, vI l8, vI l4] h (fun y1 h2 => ((y1.toInt = 0 → ∀ v8 : Int32, v8 = l8 + 1 → Wp (d + 1) 288 (195, [some (vR l0), some (vI l1), none, none, some (vI l4), some (vI l5), some (vL l6), none, some (vI v8), none, none, none], [], h2) (RI K X)) ∧ (¬ y1.toInt = 0 → gK h2 l0 = 14 ∧ 8 ≤ (gR h2 l0 77) ∧ ∃ i5 : Nat, inB h2 100 (gR h2 l0 77) l1 i5 ∧ ∀ h3 : aH, h3 = pI h2 (gR h2 l0 77) i5 l8 → ∀ v9 : Int32, v9 = l8 + 1 → Wp (d + 1) 288 (195, [some (vR l0), some (vI l1), none, none, some (vI l4), some (vI l5), some (vL l9), none, some (vI v9), none, none, none], [], h3) (RI K X)))) X) ∧ (¬ l9.toInt < l6.toInt → ∀ v10 : Int32, v10 = l8 + 1 → Wp (d + 1) 288 (195, [some (vR l0), some (vI l1), none, none, some (vI l4), some (vI l5), some (vL l6), none, some (vI v10), none, none, none], [], h) (RI K X)))))) ∧ (¬ (l8 &&& (gI h (gR h l0 78) i2)).toInt = (gI h (gR h l0 78) i3).toInt → ∀ v11 : Int32, v11 = l8 + 1 → Wp (d + 1) 288 (195, [some (vR l0), some (vI l1), none, none, some (vI l4), some (vI l5), some (vL l6), none, some (vI v11), none, none, none], [], h) (RI K X)))))) : Wp (d + 1) 288 (210, [some (vR l0), some (vI l1), none, none, some (vI l4), some (vI l5), some (vL l6), none, some (vI l8), some (vL l9), none, some (vI l11)], [], h) (RI K X) := by
  refine wp_iload' (L' := [some (vR l0), some (vI l1), none, none, some (vI l4), some (vI l5), some (vL l6), none, some (vI l8), some (vL l9), none, some (vI l11)]) rfl rfl rfl rfl ?_
  refine wp_iload rfl rfl rfl ?_
  refine wp_icmp_ge rfl rfl rfl rfl rfl (fun c => ?_) (fun c => ?_)
  · replace F := F.1 c
    refine wp_lload rfl rfl rfl ?_
    refine wp_iload rfl rfl rfl ?_
    refine wp_iload rfl rfl rfl ?_
    refine wp_ishr rfl rfl ?_
    refine wp_const rfl rfl ?_
    refine wp_iand rfl rfl ?_
    refine wp_const rfl rfl ?_
    refine wp_icmp_ne (Y := 1) rfl rfl rfl rfl rfl (fun c => ?_) (fun c => ?_)
    · replace F := F.1 c
      refine wp_aload rfl rfl rfl ?_
      obtain ⟨f0, F⟩ := F
      refine wp_getR rfl rfl rfl f0 rfl ?_
      refine wp_iload rfl rfl rfl ?_
      obtain ⟨i0, b9, F⟩ := F
      refine wp_iaload rfl b9 rfl ?_
      refine wp_iload rfl rfl rfl ?_
      refine wp_ishr rfl rfl ?_
      refine wp_const rfl rfl ?_
      refine wp_iand rfl rfl ?_
      refine wp_if_ne rfl rfl rfl rfl (fun c => ?_) (fun c => ?_)
      · replace F := F.1 c
        refine wp_aload rfl rfl rfl ?_
        refine wp_getR rfl rfl rfl f0 rfl ?_
        refine wp_const rfl rfl ?_
        refine wp_iload rfl rfl rfl ?_
        refine wp_imul rfl rfl ?_
        refine wp_iload rfl rfl rfl ?_
        refine wp_iadd rfl rfl ?_
        obtain ⟨i1, b9, F⟩ := F
        refine wp_iaload rfl b9 rfl ?_
        refine wp_i2l rfl rfl ?_
        refine wp_const rfl rfl ?_
        refine wp_ladd rfl rfl ?_
        refine wp_goto rfl rfl ?_
        refine wp_ladd' (L' := [some (vR l0), some (vI l1), none, none, some (vI l4), some (vI l5), some (vL l6), none, some (vI l8), none, none, some (vI l11)]) rfl rfl rfl ?_
        replace F := F _ rfl
        generalize (l9 + (((gI h (gR h l0 72) i1).toInt64) + 1) : Int64) = v0 at F ⊢
        refine wp_lstore (L2 := [some (vR l0), some (vI l1), none, none, some (vI l4), some (vI l5), some (vL l6), none, some (vI l8), some (vL v0), none, some (vI l11)]) rfl rfl rfl rfl ?_
        refine wp_iinc (y := 1) (L2 := [some (vR l0), some (vI l1), none, none, some (vI l4), some (vI l5), some (vL l6), none, some (vI l8), some (vL v0), none, some (vI (l11 + 1))]) rfl rfl rfl rfl rfl ?_
        replace F := F _ rfl
        generalize (l11 + 1 : Int32) = v1 at F ⊢
        refine wp_goto rfl rfl ?_
        exact F
      · replace F := F.2 c
        refine wp_const' (L' := [some (vR l0), some (vI l1), none, none, some (vI l4), some (vI l5), some (vL l6), none, some (vI l8), none, none, some (vI l11)]) rfl rfl rfl ?_
        refine wp_ladd' (L' := [some (vR l0), some (vI l1), none, none, some (vI l4), some (vI l5), some (vL l6), none, some (vI l8), none, none, some (vI l11)]) rfl rfl rfl ?_
        replace F := F _ rfl
        generalize (l9 + 0 : Int64) = v2 at F ⊢
        refine wp_lstore (L2 := [some (vR l0), some (vI l1), none, none, some (vI l4), some (vI l5), some (vL l6), none, some (vI l8), some (vL v2), none, some (vI l11)]) rfl rfl rfl rfl ?_
        refine wp_iinc (y := 1) (L2 := [some (vR l0), some (vI l1), none, none, some (vI l4), some (vI l5), some (vL l6), none, some (vI l8), some (vL v2), none, some (vI (l11 + 1))]) rfl rfl rfl rfl rfl ?_
        replace F := F _ rfl
        generalize (l11 + 1 : Int32) = v3 at F ⊢
        refine wp_goto rfl rfl ?_
        exact F
    · replace F := F.2 c
      refine wp_const' (L' := [some (vR l0), some (vI l1), none, none, some (vI l4), some (vI l5), some (vL l6), none, some (vI l8), none, none, some (vI l11)]) rfl rfl rfl ?_
      refine wp_ladd' (L' := [some (vR l0), some (vI l1), none, none, some (vI l4), some (vI l5), some (vL l6), none, some (vI l8), none, none, some (vI l11)]) rfl rfl rfl ?_
      replace F := F _ rfl
      generalize (l9 + 0 : Int64) = v4 at F ⊢
      refine wp_lstore (L2 := [some (vR l0), some (vI l1), none, none, some (vI l4), some (vI l5), some (vL l6), none, some (vI l8), some (vL v4), none, some (vI l11)]) rfl rfl rfl rfl ?_
      refine wp_iinc (y := 1) (L2 := [some (vR l0), some (vI l1), none, none, some (vI l4), some (vI l5), some (vL l6), none, some (vI l8), some (vL v4), none, some (vI (l11 + 1))]) rfl rfl rfl rfl rfl ?_
      replace F := F _ rfl
      generalize (l11 + 1 : Int32) = v5 at F ⊢
      refine wp_goto rfl rfl ?_
      exact F
  · replace F := F.2 c
    refine wp_iload' (L' := [some (vR l0), some (vI l1), none, none, some (vI l4), some (vI l5), some (vL l6), none, some (vI l8), some (vL l9), none, none]) rfl rfl rfl rfl ?_
    refine wp_aload rfl rfl rfl ?_
    obtain ⟨f1, F⟩ := F
    refine wp_getR rfl rfl rfl f1 rfl ?_
    refine wp_iload rfl rfl rfl ?_
    obtain ⟨i2, b9, F⟩ := F
    refine wp_iaload rfl b9 rfl ?_
    refine wp_iand rfl rfl ?_
    refine wp_aload rfl rfl rfl ?_
    refine wp_getR rfl rfl rfl f1 rfl ?_
    refine wp_iload rfl rfl rfl ?_
    obtain ⟨i3, b9, F⟩ := F
    refine wp_iaload rfl b9 rfl ?_
    refine wp_icmp_ne rfl rfl rfl rfl rfl (fun c => ?_) (fun c => ?_)
    · replace F := F.1 c
      refine wp_lload rfl rfl rfl ?_
      refine wp_const rfl rfl ?_
      refine wp_lcmp_lt (Y := 0) rfl rfl rfl rfl rfl rfl rfl (fun c => ?_) (fun c => ?_)
      · replace F := F.1 c
        refine wp_aload' (L' := [some (vR l0), some (vI l1), none, none, some (vI l4), some (vI l5), some (vL l6), none, some (vI l8), some (vL l9), none, none]) rfl rfl rfl rfl ?_
        refine wp_iload rfl rfl rfl ?_
        refine wp_iload rfl rfl rfl ?_
        refine wp_iload rfl rfl rfl ?_
        obtain ⟨f2, F⟩ := F
        refine wp_callI rfl rfl rfl (rcv_v f2 f1 (by decide) (by decide)) rfl rfl rfl rfl ?_
        refine CI.mono F (fun y0 h0 F => ?_) (fun _ _ w => rx_I w)
        refine wp_if_eq rfl rfl rfl rfl (fun c => ?_) (fun c => ?_)
        · replace F := F.1 c
          refine wp_iinc' (L' := [some (vR l0), some (vI l1), none, none, some (vI l4), some (vI l5), some (vL l6), none, some (vI l8), none, none, none]) (y := 1) (L2 := [some (vR l0), some (vI l1), none, none, some (vI l4), some (vI l5), some (vL l6), none, some (vI (l8 + 1)), none, none, none]) rfl rfl rfl rfl rfl rfl ?_
          replace F := F _ rfl
          generalize (l8 + 1 : Int32) = v6 at F ⊢
          refine wp_goto rfl rfl ?_
          exact F
        · replace F := F.2 c
          refine wp_lload rfl rfl rfl ?_
          refine wp_lstore (L2 := [some (vR l0), some (vI l1), none, none, some (vI l4), some (vI l5), some (vL l9), none, some (vI l8), some (vL l9), none, none]) rfl rfl rfl rfl ?_
          refine wp_aload rfl rfl rfl ?_
          obtain ⟨f3, F⟩ := F
          refine wp_getR rfl rfl rfl f3 rfl ?_
          refine wp_iload rfl rfl rfl ?_
          refine wp_iload rfl rfl rfl ?_
          obtain ⟨f4, F⟩ := F
          obtain ⟨i4, b9, F⟩ := F
          refine wp_iastore rfl f4 b9 rfl ?_
          have f5 : gK (pI h0 (gR h0 l0 77) i4 l8) l0 = 14 := (gK_pI _ _ _ _ _).trans f3
          replace F := F _ rfl
          generalize pI h0 (gR h0 l0 77) i4 l8 = h1 at F f5 ⊢
          refine wp_iinc' (L' := [some (vR l0), some (vI l1), none, none, some (vI l4), some (vI l5), some (vL l9), none, some (vI l8), none, none, none]) (y := 1) (L2 := [some (vR l0), some (vI l1), none, none, some (vI l4), some (vI l5), some (vL l9), none, some (vI (l8 + 1)), none, none, none]) rfl rfl rfl rfl rfl rfl ?_
          replace F := F _ rfl
          generalize (l8 + 1 : Int32) = v7 at F ⊢
          refine wp_goto rfl rfl ?_
          exact F
      · replace F := F.2 c
        refine wp_lload rfl rfl rfl ?_
        refine wp_lload rfl rfl rfl ?_
        refine wp_lcmp_ge rfl rfl rfl rfl rfl rfl rfl (fun c => ?_) (fun c => ?_)
        · replace F := F.1 c
          refine wp_aload' (L' := [some (vR l0), some (vI l1), none, none, some (vI l4), some (vI l5), some (vL l6), none, some (vI l8), some (vL l9), none, none]) rfl rfl rfl rfl ?_
          refine wp_iload rfl rfl rfl ?_
          refine wp_iload rfl rfl rfl ?_
          refine wp_iload rfl rfl rfl ?_
          obtain ⟨f6, F⟩ := F
          refine wp_callI rfl rfl rfl (rcv_v f6 f1 (by decide) (by decide)) rfl rfl rfl rfl ?_
          refine CI.mono F (fun y1 h2 F => ?_) (fun _ _ w => rx_I w)
          refine wp_if_eq rfl rfl rfl rfl (fun c => ?_) (fun c => ?_)
          · replace F := F.1 c
            refine wp_iinc' (L' := [some (vR l0), some (vI l1), none, none, some (vI l4), some (vI l5), some (vL l6), none, some (vI l8), none, none, none]) (y := 1) (L2 := [some (vR l0), some (vI l1), none, none, some (vI l4), some (vI l5), some (vL l6), none, some (vI (l8 + 1)), none, none, none]) rfl rfl rfl rfl rfl rfl ?_
            replace F := F _ rfl
            generalize (l8 + 1 : Int32) = v8 at F ⊢
            refine wp_goto rfl rfl ?_
            exact F
          · replace F := F.2 c
            refine wp_lload rfl rfl rfl ?_
            refine wp_lstore (L2 := [some (vR l0), some (vI l1), none, none, some (vI l4), some (vI l5), some (vL l9), none, some (vI l8), some (vL l9), none, none]) rfl rfl rfl rfl ?_
            refine wp_aload rfl rfl rfl ?_
            obtain ⟨f7, F⟩ := F
            refine wp_getR rfl rfl rfl f7 rfl ?_
            refine wp_iload rfl rfl rfl ?_
            refine wp_iload rfl rfl rfl ?_
            obtain ⟨f8, F⟩ := F
            obtain ⟨i5, b9, F⟩ := F
            refine wp_iastore rfl f8 b9 rfl ?_
            have f9 : gK (pI h2 (gR h2 l0 77) i5 l8) l0 = 14 := (gK_pI _ _ _ _ _).trans f7
            replace F := F _ rfl
            generalize pI h2 (gR h2 l0 77) i5 l8 = h3 at F f9 ⊢
            refine wp_iinc' (L' := [some (vR l0), some (vI l1), none, none, some (vI l4), some (vI l5), some (vL l9), none, some (vI l8), none, none, none]) (y := 1) (L2 := [some (vR l0), some (vI l1), none, none, some (vI l4), some (vI l5), some (vL l9), none, some (vI (l8 + 1)), none, none, none]) rfl rfl rfl rfl rfl rfl ?_
            replace F := F _ rfl
            generalize (l8 + 1 : Int32) = v9 at F ⊢
            refine wp_goto rfl rfl ?_
            exact F
        · replace F := F.2 c
          refine wp_iinc' (L' := [some (vR l0), some (vI l1), none, none, some (vI l4), some (vI l5), some (vL l6), none, some (vI l8), none, none, none]) (y := 1) (L2 := [some (vR l0), some (vI l1), none, none, some (vI l4), some (vI l5), some (vL l6), none, some (vI (l8 + 1)), none, none, none]) rfl rfl rfl rfl rfl rfl ?_
          replace F := F _ rfl
          generalize (l8 + 1 : Int32) = v10 at F ⊢
          refine wp_goto rfl rfl ?_
          exact F
    · replace F := F.2 c
      refine wp_iinc' (L' := [some (vR l0), some (vI l1), none, none, some (vI l4), some (vI l5), some (vL l6), none, some (vI l8), none, none, none]) (y := 1) (L2 := [some (vR l0), some (vI l1), none, none, some (vI l4), some (vI l5), some (vL l6), none, some (vI (l8 + 1)), none, none, none]) rfl rfl rfl rfl rfl rfl ?_
      replace F := F _ rfl
      generalize (l8 + 1 : Int32) = v11 at F ⊢
      refine wp_goto rfl rfl ?_
      exact F
-- CensusOffice needCell (LCensusOffice$Table;II)V
theorem m289 {d : Nat} {a0 : Nat} {a1 : Nat} {a2 : Int32} {a3 : Int32} {h : aH} {K : aH → Prop} {X : Nat → aH → Prop} (F : gK h a1 = 11 ∧ CV d 29 [vI a2, vI (gI h a1 4)] h (fun h0 => gK h0 a1 = 11 ∧ CV d 29 [vI a3, vI (gI h0 a1 5)] h0 (fun h1 => K h1) X) X) : CV (d + 1) 289 [vR a0, vR a1, vI a2, vI a3] h K X := by
  show Wp (d + 1) 289 (0, [some (vR a0), some (vR a1), some (vI a2), some (vI a3)], [], h) (RV K X)
  refine wp_iload rfl rfl rfl ?_
  refine wp_aload rfl rfl rfl ?_
  obtain ⟨f0, F⟩ := F
  refine wp_getI rfl rfl rfl f0 rfl ?_
  refine wp_callV rfl rfl rfl rfl rfl rfl rfl rfl ?_
  refine CV.mono F (fun h0 F => ?_) (fun _ _ w => rx_V w)
  refine wp_iload rfl rfl rfl ?_
  refine wp_aload rfl rfl rfl ?_
  obtain ⟨f1, F⟩ := F
  refine wp_getI rfl rfl rfl f1 rfl ?_
  refine wp_callV rfl rfl rfl rfl rfl rfl rfl rfl ?_
  refine CV.mono F (fun h1 F => ?_) (fun _ _ w => rx_V w)
  exact wp_retV rfl F
-- CensusOffice$Table bitOf (II)I
theorem m290 {d : Nat} {a0 : Nat} {a1 : Int32} {a2 : Int32} {h : aH} {K : Int32 → aH → Prop} {X : Nat → aH → Prop} (F : gK h a0 = 11 ∧ K (1 <<< (((a1 * (gI h a0 5)) + a2) &&& 31)) h) : CI d 290 [vR a0, vI a1, vI a2] h K X := by
  show Wp d 290 (0, [some (vR a0), some (vI a1), some (vI a2)], [], h) (RI K X)
  refine wp_const rfl rfl ?_
  refine wp_iload rfl rfl rfl ?_
  refine wp_aload rfl rfl rfl ?_
  obtain ⟨f0, F⟩ := F
  refine wp_getI rfl rfl rfl f0 rfl ?_
  refine wp_imul rfl rfl ?_
  refine wp_iload rfl rfl rfl ?_
  refine wp_iadd rfl rfl ?_
  refine wp_ishl rfl rfl ?_
  exact wp_retI rfl (Or.inl rfl) F
-- CensusOffice secret (III)I
theorem m291 {d : Nat} {a0 : Nat} {a1 : Int32} {a2 : Int32} {a3 : Int32} {h : aH} {K : Int32 → aH → Prop} {X : Nat → aH → Prop} (F : 8 ≤ a0 ∧ gK h a0 = 1 ∧ CR d 267 [vR a0, vI a1] h (fun q0 h0 => gK h0 a0 = 1 ∧ CV d 289 [vR a0, vR q0, vI a2, vI a3] h0 (fun h1 => 8 ≤ q0 ∧ gK h1 q0 = 11 ∧ CI d 290 [vR q0, vI a2, vI a3] h1 (fun y0 h2 => gK h2 q0 = 11 ∧ ((((gI h2 q0 13) &&& y0).toInt = 0 → K 0 h2) ∧ (¬ ((gI h2 q0 13) &&& y0).toInt = 0 → ((((gI h2 q0 12) &&& y0).toInt = 0 → K 2 h2) ∧ (¬ ((gI h2 q0 12) &&& y0).toInt = 0 → K 1 h2))))) X) X) X) : CI (d + 1) 291 [vR a0, vI a1, vI a2, vI a3] h K X := by
  show Wp (d + 1) 291 (0, [some (vR a0), some (vI a1), some (vI a2), some (vI a3), none, none], [], h) (RI K X)
  refine wp_aload rfl rfl rfl ?_
  refine wp_iload rfl rfl rfl ?_
  obtain ⟨f0, F⟩ := F
  obtain ⟨f1, F⟩ := F
  refine wp_callR rfl rfl rfl (rcv_v f0 f1 (by decide) (by decide)) rfl rfl rfl rfl ?_
  refine CR.mono F (fun q0 h0 F => ?_) (fun _ _ w => rx_I w)
  refine wp_astore (L2 := [some (vR a0), some (vI a1), some (vI a2), some (vI a3), some (vR q0), none]) rfl rfl rfl rfl ?_
  refine wp_aload rfl rfl rfl ?_
  refine wp_aload rfl rfl rfl ?_
  refine wp_iload rfl rfl rfl ?_
  refine wp_iload rfl rfl rfl ?_
  obtain ⟨f2, F⟩ := F
  refine wp_callV rfl rfl rfl (rcv_v f0 f2 (by decide) (by decide)) rfl rfl rfl rfl ?_
  refine CV.mono F (fun h1 F => ?_) (fun _ _ w => rx_I w)
  refine wp_aload rfl rfl rfl ?_
  refine wp_iload rfl rfl rfl ?_
  refine wp_iload rfl rfl rfl ?_
  obtain ⟨f3, F⟩ := F
  obtain ⟨f4, F⟩ := F
  refine wp_callI rfl rfl rfl (rcv_v f3 f4 (by decide) (by decide)) rfl rfl rfl rfl ?_
  refine CI.mono F (fun y0 h2 F => ?_) (fun _ _ w => rx_I w)
  refine wp_istore (L2 := [some (vR a0), some (vI a1), some (vI a2), some (vI a3), some (vR q0), some (vI y0)]) rfl rfl rfl rfl ?_
  refine wp_aload rfl rfl rfl ?_
  obtain ⟨f5, F⟩ := F
  refine wp_getI rfl rfl rfl f5 rfl ?_
  refine wp_iload rfl rfl rfl ?_
  refine wp_iand rfl rfl ?_
  refine wp_if_ne rfl rfl rfl rfl (fun c => ?_) (fun c => ?_)
  · replace F := F.1 c
    refine wp_const rfl rfl ?_
    exact wp_retI rfl (Or.inl rfl) F
  · replace F := F.2 c
    refine wp_aload' (L' := [none, none, none, none, some (vR q0), some (vI y0)]) rfl rfl rfl rfl ?_
    refine wp_getI rfl rfl rfl f5 rfl ?_
    refine wp_iload rfl rfl rfl ?_
    refine wp_iand rfl rfl ?_
    refine wp_if_eq rfl rfl rfl rfl (fun c => ?_) (fun c => ?_)
    · replace F := F.1 c
      refine wp_const' (L' := [none, none, none, none, none, none]) rfl rfl rfl ?_
      exact wp_retI rfl (Or.inl rfl) F
    · replace F := F.2 c
      refine wp_const rfl rfl ?_
      refine wp_goto rfl rfl ?_
      exact wp_retI rfl (Or.inl rfl) F
-- CensusOfficeLaw secret (LCensusOffice;III[J)I
theorem m292 {d : Nat} {a0 : Nat} {a1 : Int32} {a2 : Int32} {a3 : Int32} {a4 : Nat} {h : aH} {K : Int32 → aH → Prop} {X : Nat → aH → Prop} (F : 8 ≤ a0 ∧ gK h a0 = 1 ∧ CI d 291 [vR a0, vI a1, vI a2, vI a3] h (fun y0 h0 => 8 ≤ a4 ∧ inB h0 101 a4 0 0 ∧ ∀ h1 : aH, h1 = pJ h0 a4 0 (y0.toInt64) → K 0 h1) (fun x9 h9 => (x9 = 3 ∧ K 1 h9))) : CI (d + 1) 292 [vR a0, vI a1, vI a2, vI a3, vR a4] h K X := by
  show Wp (d + 1) 292 (0, [some (vR a0), some (vI a1), some (vI a2), some (vI a3), some (vR a4), none], [], h) (RI K X)
  refine wp_aload rfl rfl rfl ?_
  refine wp_const rfl rfl ?_
  refine wp_aload rfl rfl rfl ?_
  refine wp_iload rfl rfl rfl ?_
  refine wp_iload rfl rfl rfl ?_
  refine wp_iload rfl rfl rfl ?_
  obtain ⟨f0, F⟩ := F
  obtain ⟨f1, F⟩ := F
  refine wp_callhI (X := (fun x9 h9 => (x9 = 3 ∧ K 1 h9))) rfl rfl rfl (rcv_v f0 f1 (by decide) (by decide)) rfl rfl rfl (fun x9 h9 F => ?_) ?_
  · rcases F with ⟨rfl, F⟩
    · refine ⟨15, rfl, ?_⟩
      refine wp_astoreJ' (L' := [none, none, none, none, none, none]) (L2 := [none, none, none, none, none, some vJ]) rfl rfl rfl rfl rfl ?_
      refine wp_const rfl rfl ?_
      exact wp_retI rfl (Or.inl rfl) F
  · refine CI.mono F (fun y0 h0 F => ?_) (fun _ _ w => w)
    refine wp_i2l rfl rfl ?_
    obtain ⟨f2, F⟩ := F
    obtain ⟨b9, F⟩ := F
    refine wp_lastore rfl f2 b9 rfl ?_
    replace F := F _ rfl
    generalize pJ h0 a4 0 (y0.toInt64) = h1 at F ⊢
    refine wp_goto rfl rfl ?_
    refine wp_const' (L' := [none, none, none, none, none, none]) rfl rfl rfl ?_
    exact wp_retI rfl (Or.inl rfl) F
-- CensusOfficeModel isCell (III)Z
theorem m293 {d : Nat} {a0 : Nat} {a1 : Int32} {a2 : Int32} {a3 : Int32} {h : aH} {K : Int32 → aH → Prop} {X : Nat → aH → Prop} (F : 8 ≤ a0 ∧ gK h a0 = 14 ∧ CI d 274 [vR a0, vI a1] h (fun y0 h0 => ((y0.toInt = 0 → K 0 h0) ∧ (¬ y0.toInt = 0 → gK h0 a0 = 14 ∧ ∃ i0 : Nat, inB h0 100 (gR h0 a0 70) a1 i0 ∧ CI d 14 [vL (a2.toInt64), vL 0, vL (((gI h0 (gR h0 a0 70) i0) - 1).toInt64)] h0 (fun y1 h1 => ((y1.toInt = 0 → K 0 h1) ∧ (¬ y1.toInt = 0 → gK h1 a0 = 14 ∧ ∃ i1 : Nat, inB h1 100 (gR h1 a0 71) a1 i1 ∧ CI d 14 [vL (a3.toInt64), vL 0, vL (((gI h1 (gR h1 a0 71) i1) - 1).toInt64)] h1 (fun y2 h2 => ((y2.toInt = 0 → K 0 h2) ∧ (¬ y2.toInt = 0 → K 1 h2))) X))) X))) X) : CI (d + 1) 293 [vR a0, vI a1, vI a2, vI a3] h K X := by
  show Wp (d + 1) 293 (0, [some (vR a0), some (vI a1), some (vI a2), some (vI a3)], [], h) (RI K X)
  refine wp_aload rfl rfl rfl ?_
  refine wp_iload rfl rfl rfl ?_
  obtain ⟨f0, F⟩ := F
  obtain ⟨f1, F⟩ := F
  refine wp_callI rfl rfl rfl (rcv_v f0 f1 (by decide) (by decide)) rfl rfl rfl rfl ?_
  refine CI.mono F (fun y0 h0 F => ?_) (fun _ _ w => rx_I w)
  refine wp_if_eq rfl rfl rfl rfl (fun c => ?_) (fun c => ?_)
  · replace F := F.1 c
    refine wp_const' (L' := [none, none, none, none]) rfl rfl rfl ?_
    exact wp_retI rfl (Or.inr rfl) F
  · replace F := F.2 c
    refine wp_iload rfl rfl rfl ?_
    refine wp_i2l rfl rfl ?_
    refine wp_const rfl rfl ?_
    refine wp_aload rfl rfl rfl ?_
    obtain ⟨f2, F⟩ := F
    refine wp_getR rfl rfl rfl f2 rfl ?_
    refine wp_iload rfl rfl rfl ?_
    obtain ⟨i0, b9, F⟩ := F
    refine wp_iaload rfl b9 rfl ?_
    refine wp_const rfl rfl ?_
    refine wp_isub rfl rfl ?_
    refine wp_i2l rfl rfl ?_
    refine wp_callI rfl rfl rfl rfl rfl rfl rfl rfl ?_
    refine CI.mono F (fun y1 h1 F => ?_) (fun _ _ w => rx_I w)
    refine wp_if_eq rfl rfl rfl rfl (fun c => ?_) (fun c => ?_)
    · replace F := F.1 c
      refine wp_const' (L' := [none, none, none, none]) rfl rfl rfl ?_
      exact wp_retI rfl (Or.inr rfl) F
    · replace F := F.2 c
      refine wp_iload rfl rfl rfl ?_
      refine wp_i2l rfl rfl ?_
      refine wp_const rfl rfl ?_
      refine wp_aload rfl rfl rfl ?_
      obtain ⟨f3, F⟩ := F
      refine wp_getR rfl rfl rfl f3 rfl ?_
      refine wp_iload rfl rfl rfl ?_
      obtain ⟨i1, b9, F⟩ := F
      refine wp_iaload rfl b9 rfl ?_
      refine wp_const rfl rfl ?_
      refine wp_isub rfl rfl ?_
      refine wp_i2l rfl rfl ?_
      refine wp_callI rfl rfl rfl rfl rfl rfl rfl rfl ?_
      refine CI.mono F (fun y2 h2 F => ?_) (fun _ _ w => rx_I w)
      refine wp_if_eq rfl rfl rfl rfl (fun c => ?_) (fun c => ?_)
      · replace F := F.1 c
        refine wp_const' (L' := [none, none, none, none]) rfl rfl rfl ?_
        exact wp_retI rfl (Or.inr rfl) F
      · replace F := F.2 c
        refine wp_const rfl rfl ?_
        refine wp_goto rfl rfl ?_
        exact wp_retI rfl (Or.inr rfl) F
-- CensusOfficeModel secret (III)I
theorem m294 {d : Nat} {a0 : Nat} {a1 : Int32} {a2 : Int32} {a3 : Int32} {h : aH} {K : Int32 → aH → Prop} {X : Nat → aH → Prop} (F : 8 ≤ a0 ∧ gK h a0 = 14 ∧ ∀ h0 : aH, h0 = pI h a0 0 0 → CI d 293 [vR a0, vI a1, vI a2, vI a3] h0 (fun y0 h1 => ((y0.toInt = 0 → gK h1 a0 = 14 ∧ CI d 15 [vR a0, vI 1] h1 (fun y1 h2 => K y1 h2) X) ∧ (¬ y0.toInt = 0 → gK h1 a0 = 14 ∧ ∃ i0 : Nat, inB h1 100 (gR h1 a0 71) a1 i0 ∧ ∀ v0 : Int32, v0 = (a2 * (gI h1 (gR h1 a0 71) i0)) + a3 → ∃ i1 : Nat, inB h1 100 (gR h1 a0 77) a1 i1 ∧ (((((gI h1 (gR h1 a0 77) i1) >>> (v0 &&& 31)) &&& 1).toInt = 0 → K 0 h1) ∧ (¬ (((gI h1 (gR h1 a0 77) i1) >>> (v0 &&& 31)) &&& 1).toInt = 0 → ∃ i2 : Nat, inB h1 100 (gR h1 a0 78) a1 i2 ∧ (((((gI h1 (gR h1 a0 78) i2) >>> (v0 &&& 31)) &&& 1).toInt = 1 → K 1 h1) ∧ (¬ (((gI h1 (gR h1 a0 78) i2) >>> (v0 &&& 31)) &&& 1).toInt = 1 → K 2 h1))))))) X) : CI (d + 1) 294 [vR a0, vI a1, vI a2, vI a3] h K X := by
  show Wp (d + 1) 294 (0, [some (vR a0), some (vI a1), some (vI a2), some (vI a3), none], [], h) (RI K X)
  refine wp_aload rfl rfl rfl ?_
  refine wp_const rfl rfl ?_
  obtain ⟨f0, F⟩ := F
  obtain ⟨f1, F⟩ := F
  refine wp_putI rfl rfl rfl f0 f1 rfl ?_
  have f2 : gK (pI h a0 0 0) a0 = 14 := (gK_pI _ _ _ _ _).trans f1
  replace F := F _ rfl
  generalize pI h a0 0 0 = h0 at F f2 ⊢
  refine wp_aload rfl rfl rfl ?_
  refine wp_iload rfl rfl rfl ?_
  refine wp_iload rfl rfl rfl ?_
  refine wp_iload rfl rfl rfl ?_
  refine wp_callI rfl rfl rfl (rcv_v f0 f2 (by decide) (by decide)) rfl rfl rfl rfl ?_
  refine CI.mono F (fun y0 h1 F => ?_) (fun _ _ w => rx_I w)
  refine wp_if_ne rfl rfl rfl rfl (fun c => ?_) (fun c => ?_)
  · replace F := F.1 c
    refine wp_aload rfl rfl rfl ?_
    refine wp_const rfl rfl ?_
    obtain ⟨f3, F⟩ := F
    refine wp_callI rfl rfl rfl (rcv_v f0 f3 (by decide) (by decide)) rfl rfl rfl rfl ?_
    refine CI.mono F (fun y1 h2 F => ?_) (fun _ _ w => rx_I w)
    exact wp_retI rfl (Or.inl rfl) F
  · replace F := F.2 c
    refine wp_iload' (L' := [some (vR a0), some (vI a1), some (vI a2), some (vI a3), none]) rfl rfl rfl rfl ?_
    refine wp_aload rfl rfl rfl ?_
    obtain ⟨f4, F⟩ := F
    refine wp_getR rfl rfl rfl f4 rfl ?_
    refine wp_iload rfl rfl rfl ?_
    obtain ⟨i0, b9, F⟩ := F
    refine wp_iaload rfl b9 rfl ?_
    refine wp_imul rfl rfl ?_
    refine wp_iload rfl rfl rfl ?_
    refine wp_iadd rfl rfl ?_
    replace F := F _ rfl
    generalize ((a2 * (gI h1 (gR h1 a0 71) i0)) + a3 : Int32) = v0 at F ⊢
    refine wp_istore (L2 := [some (vR a0), some (vI a1), some (vI a2), some (vI a3), some (vI v0)]) rfl rfl rfl rfl ?_
    refine wp_aload rfl rfl rfl ?_
    refine wp_getR rfl rfl rfl f4 rfl ?_
    refine wp_iload rfl rfl rfl ?_
    obtain ⟨i1, b9, F⟩ := F
    refine wp_iaload rfl b9 rfl ?_
    refine wp_iload rfl rfl rfl ?_
    refine wp_ishr rfl rfl ?_
    refine wp_const rfl rfl ?_
    refine wp_iand rfl rfl ?_
    refine wp_if_ne rfl rfl rfl rfl (fun c => ?_) (fun c => ?_)
    · replace F := F.1 c
      refine wp_const rfl rfl ?_
      refine wp_goto rfl rfl ?_
      exact wp_retI rfl (Or.inl rfl) F
    · replace F := F.2 c
      refine wp_aload' (L' := [some (vR a0), some (vI a1), none, none, some (vI v0)]) rfl rfl rfl rfl ?_
      refine wp_getR rfl rfl rfl f4 rfl ?_
      refine wp_iload rfl rfl rfl ?_
      obtain ⟨i2, b9, F⟩ := F
      refine wp_iaload rfl b9 rfl ?_
      refine wp_iload rfl rfl rfl ?_
      refine wp_ishr rfl rfl ?_
      refine wp_const rfl rfl ?_
      refine wp_iand rfl rfl ?_
      refine wp_const rfl rfl ?_
      refine wp_icmp_ne (Y := 1) rfl rfl rfl rfl rfl (fun c => ?_) (fun c => ?_)
      · replace F := F.1 c
        refine wp_const rfl rfl ?_
        refine wp_goto rfl rfl ?_
        exact wp_retI rfl (Or.inl rfl) F
      · replace F := F.2 c
        refine wp_const' (L' := [none, none, none, none, none]) rfl rfl rfl ?_
        exact wp_retI rfl (Or.inl rfl) F
-- CensusOffice$Table greatestGuess (II)I
theorem m295 {d : Nat} {a0 : Nat} {a1 : Int32} {a2 : Int32} {h : aH} {K : Int32 → aH → Prop} {X : Nat → aH → Prop} (F : gK h a0 = 11 ∧ ∀ v0 : Int32, v0 = (a1 * (gI h a0 5)) + a2 → ∃ i0 : Nat, inB h 100 (gR h a0 7) v0 i0 ∧ CI d 199 [vI (gI h a0 13), vI v0] h (fun y0 h0 => ((y0.toInt = 0 → K ((gI h (gR h a0 7) i0) + 0) h0) ∧ (¬ y0.toInt = 0 → gK h0 a0 = 11 ∧ 8 ≤ a0 ∧ CI d 279 [vR a0, vI (gI h0 a0 13), vI v0] h0 (fun y1 h1 => K ((gI h (gR h a0 7) i0) + y1) h1) X))) (fun _ _ => False)) : CI (d + 1) 295 [vR a0, vI a1, vI a2] h K X := by
  show Wp (d + 1) 295 (0, [some (vR a0), some (vI a1), some (vI a2), none], [], h) (RI K X)
  refine wp_iload rfl rfl rfl ?_
  refine wp_aload rfl rfl rfl ?_
  obtain ⟨f0, F⟩ := F
  refine wp_getI rfl rfl rfl f0 rfl ?_
  refine wp_imul rfl rfl ?_
  refine wp_iload rfl rfl rfl ?_
  refine wp_iadd rfl rfl ?_
  replace F := F _ rfl
  generalize ((a1 * (gI h a0 5)) + a2 : Int32) = v0 at F ⊢
  refine wp_istore (L2 := [some (vR a0), some (vI a1), some (vI a2), some (vI v0)]) rfl rfl rfl rfl ?_
  refine wp_aload rfl rfl rfl ?_
  refine wp_getR rfl rfl rfl f0 rfl ?_
  refine wp_iload rfl rfl rfl ?_
  obtain ⟨i0, b9, F⟩ := F
  refine wp_iaload rfl b9 rfl ?_
  refine wp_aload rfl rfl rfl ?_
  refine wp_getI rfl rfl rfl f0 rfl ?_
  refine wp_iload rfl rfl rfl ?_
  refine wp_callqI rfl rfl rfl rfl rfl rfl ?_
  refine CI.mono F (fun y0 h0 F => ?_) (fun _ _ w => w)
  refine wp_if_eq rfl rfl rfl rfl (fun c => ?_) (fun c => ?_)
  · replace F := F.1 c
    refine wp_const' (L' := [none, none, none, none]) rfl rfl rfl ?_
    refine wp_iadd' (L' := [none, none, none, none]) rfl rfl rfl ?_
    exact wp_retI rfl (Or.inl rfl) F
  · replace F := F.2 c
    refine wp_aload rfl rfl rfl ?_
    refine wp_aload rfl rfl rfl ?_
    obtain ⟨f1, F⟩ := F
    refine wp_getI rfl rfl rfl f1 rfl ?_
    refine wp_iload rfl rfl rfl ?_
    obtain ⟨f2, F⟩ := F
    refine wp_callI rfl rfl rfl (rcv_v f2 f1 (by decide) (by decide)) rfl rfl rfl rfl ?_
    refine CI.mono F (fun y1 h1 F => ?_) (fun _ _ w => rx_I w)
    refine wp_goto rfl rfl ?_
    refine wp_iadd' (L' := [none, none, none, none]) rfl rfl rfl ?_
    exact wp_retI rfl (Or.inl rfl) F
-- CensusOffice$Table leastGuess (II)I
theorem m296 {d : Nat} {a0 : Nat} {a1 : Int32} {a2 : Int32} {h : aH} {K : Int32 → aH → Prop} {X : Nat → aH → Prop} (F : gK h a0 = 11 ∧ ∀ v0 : Int32, v0 = (a1 * (gI h a0 5)) + a2 → ∃ i0 : Nat, inB h 100 (gR h a0 7) v0 i0 ∧ CI d 199 [vI (gI h a0 13), vI v0] h (fun y0 h0 => ((y0.toInt = 0 → K ((gI h (gR h a0 7) i0) - 0) h0) ∧ (¬ y0.toInt = 0 → gK h0 a0 = 11 ∧ 8 ≤ a0 ∧ CI d 280 [vR a0, vI (gI h0 a0 13), vI v0] h0 (fun y1 h1 => K ((gI h (gR h a0 7) i0) - y1) h1) X))) (fun _ _ => False)) : CI (d + 1) 296 [vR a0, vI a1, vI a2] h K X := by
  show Wp (d + 1) 296 (0, [some (vR a0), some (vI a1), some (vI a2), none], [], h) (RI K X)
  refine wp_iload rfl rfl rfl ?_
  refine wp_aload rfl rfl rfl ?_
  obtain ⟨f0, F⟩ := F
  refine wp_getI rfl rfl rfl f0 rfl ?_
  refine wp_imul rfl rfl ?_
  refine wp_iload rfl rfl rfl ?_
  refine wp_iadd rfl rfl ?_
  replace F := F _ rfl
  generalize ((a1 * (gI h a0 5)) + a2 : Int32) = v0 at F ⊢
  refine wp_istore (L2 := [some (vR a0), some (vI a1), some (vI a2), some (vI v0)]) rfl rfl rfl rfl ?_
  refine wp_aload rfl rfl rfl ?_
  refine wp_getR rfl rfl rfl f0 rfl ?_
  refine wp_iload rfl rfl rfl ?_
  obtain ⟨i0, b9, F⟩ := F
  refine wp_iaload rfl b9 rfl ?_
  refine wp_aload rfl rfl rfl ?_
  refine wp_getI rfl rfl rfl f0 rfl ?_
  refine wp_iload rfl rfl rfl ?_
  refine wp_callqI rfl rfl rfl rfl rfl rfl ?_
  refine CI.mono F (fun y0 h0 F => ?_) (fun _ _ w => w)
  refine wp_if_eq rfl rfl rfl rfl (fun c => ?_) (fun c => ?_)
  · replace F := F.1 c
    refine wp_const' (L' := [none, none, none, none]) rfl rfl rfl ?_
    refine wp_isub' (L' := [none, none, none, none]) rfl rfl rfl ?_
    exact wp_retI rfl (Or.inl rfl) F
  · replace F := F.2 c
    refine wp_aload rfl rfl rfl ?_
    refine wp_aload rfl rfl rfl ?_
    obtain ⟨f1, F⟩ := F
    refine wp_getI rfl rfl rfl f1 rfl ?_
    refine wp_iload rfl rfl rfl ?_
    obtain ⟨f2, F⟩ := F
    refine wp_callI rfl rfl rfl (rcv_v f2 f1 (by decide) (by decide)) rfl rfl rfl rfl ?_
    refine CI.mono F (fun y1 h1 F => ?_) (fun _ _ w => rx_I w)
    refine wp_goto rfl rfl ?_
    refine wp_isub' (L' := [none, none, none, none]) rfl rfl rfl ?_
    exact wp_retI rfl (Or.inl rfl) F
-- CensusOffice interval (IIIZ)I
theorem m297 {d : Nat} {a0 : Nat} {a1 : Int32} {a2 : Int32} {a3 : Int32} {a4 : Int32} {h : aH} {K : Int32 → aH → Prop} {X : Nat → aH → Prop} (F : 8 ≤ a0 ∧ gK h a0 = 1 ∧ CR d 267 [vR a0, vI a1] h (fun q0 h0 => gK h0 a0 = 1 ∧ CV d 289 [vR a0, vR q0, vI a2, vI a3] h0 (fun h1 => ((a4.toInt = 0 → 8 ≤ q0 ∧ gK h1 q0 = 11 ∧ CI d 296 [vR q0, vI a2, vI a3] h1 (fun y0 h2 => K y0 h2) X) ∧ (¬ a4.toInt = 0 → 8 ≤ q0 ∧ gK h1 q0 = 11 ∧ CI d 295 [vR q0, vI a2, vI a3] h1 (fun y1 h3 => K y1 h3) X))) X) X) : CI (d + 1) 297 [vR a0, vI a1, vI a2, vI a3, vI a4] h K X := by
  show Wp (d + 1) 297 (0, [some (vR a0), some (vI a1), some (vI a2), some (vI a3), some (vI a4), none], [], h) (RI K X)
  refine wp_aload rfl rfl rfl ?_
  refine wp_iload rfl rfl rfl ?_
  obtain ⟨f0, F⟩ := F
  obtain ⟨f1, F⟩ := F
  refine wp_callR rfl rfl rfl (rcv_v f0 f1 (by decide) (by decide)) rfl rfl rfl rfl ?_
  refine CR.mono F (fun q0 h0 F => ?_) (fun _ _ w => rx_I w)
  refine wp_astore (L2 := [some (vR a0), some (vI a1), some (vI a2), some (vI a3), some (vI a4), some (vR q0)]) rfl rfl rfl rfl ?_
  refine wp_aload rfl rfl rfl ?_
  refine wp_aload rfl rfl rfl ?_
  refine wp_iload rfl rfl rfl ?_
  refine wp_iload rfl rfl rfl ?_
  obtain ⟨f2, F⟩ := F
  refine wp_callV rfl rfl rfl (rcv_v f0 f2 (by decide) (by decide)) rfl rfl rfl rfl ?_
  refine CV.mono F (fun h1 F => ?_) (fun _ _ w => rx_I w)
  refine wp_iload rfl rfl rfl ?_
  refine wp_if_eq rfl rfl rfl rfl (fun c => ?_) (fun c => ?_)
  · replace F := F.1 c
    refine wp_aload' (L' := [none, none, some (vI a2), some (vI a3), none, some (vR q0)]) rfl rfl rfl rfl ?_
    refine wp_iload rfl rfl rfl ?_
    refine wp_iload rfl rfl rfl ?_
    obtain ⟨f3, F⟩ := F
    obtain ⟨f4, F⟩ := F
    refine wp_callI rfl rfl rfl (rcv_v f3 f4 (by decide) (by decide)) rfl rfl rfl rfl ?_
    refine CI.mono F (fun y0 h2 F => ?_) (fun _ _ w => rx_I w)
    exact wp_retI rfl (Or.inl rfl) F
  · replace F := F.2 c
    refine wp_aload rfl rfl rfl ?_
    refine wp_iload rfl rfl rfl ?_
    refine wp_iload rfl rfl rfl ?_
    obtain ⟨f5, F⟩ := F
    obtain ⟨f6, F⟩ := F
    refine wp_callI rfl rfl rfl (rcv_v f5 f6 (by decide) (by decide)) rfl rfl rfl rfl ?_
    refine CI.mono F (fun y1 h3 F => ?_) (fun _ _ w => rx_I w)
    refine wp_goto rfl rfl ?_
    exact wp_retI rfl (Or.inl rfl) F
-- CensusOfficeLaw interval (LCensusOffice;IIIZ[J)I
theorem m298 {d : Nat} {a0 : Nat} {a1 : Int32} {a2 : Int32} {a3 : Int32} {a4 : Int32} {a5 : Nat} {h : aH} {K : Int32 → aH → Prop} {X : Nat → aH → Prop} (F : 8 ≤ a0 ∧ gK h a0 = 1 ∧ CI d 297 [vR a0, vI a1, vI a2, vI a3, vI a4] h (fun y0 h0 => 8 ≤ a5 ∧ inB h0 101 a5 0 0 ∧ ∀ h1 : aH, h1 = pJ h0 a5 0 (y0.toInt64) → K 0 h1) (fun x9 h9 => (x9 = 3 ∧ K 1 h9))) : CI (d + 1) 298 [vR a0, vI a1, vI a2, vI a3, vI a4, vR a5] h K X := by
  show Wp (d + 1) 298 (0, [some (vR a0), some (vI a1), some (vI a2), some (vI a3), some (vI a4), some (vR a5), none], [], h) (RI K X)
  refine wp_aload rfl rfl rfl ?_
  refine wp_const rfl rfl ?_
  refine wp_aload rfl rfl rfl ?_
  refine wp_iload rfl rfl rfl ?_
  refine wp_iload rfl rfl rfl ?_
  refine wp_iload rfl rfl rfl ?_
  refine wp_iload rfl rfl rfl ?_
  obtain ⟨f0, F⟩ := F
  obtain ⟨f1, F⟩ := F
  refine wp_callhI (X := (fun x9 h9 => (x9 = 3 ∧ K 1 h9))) rfl rfl rfl (rcv_v f0 f1 (by decide) (by decide)) rfl rfl rfl (fun x9 h9 F => ?_) ?_
  · rcases F with ⟨rfl, F⟩
    · refine ⟨17, rfl, ?_⟩
      refine wp_astoreJ' (L' := [none, none, none, none, none, none, none]) (L2 := [none, none, none, none, none, none, some vJ]) rfl rfl rfl rfl rfl ?_
      refine wp_const rfl rfl ?_
      exact wp_retI rfl (Or.inl rfl) F
  · refine CI.mono F (fun y0 h0 F => ?_) (fun _ _ w => w)
    refine wp_i2l rfl rfl ?_
    obtain ⟨f2, F⟩ := F
    obtain ⟨b9, F⟩ := F
    refine wp_lastore rfl f2 b9 rfl ?_
    replace F := F _ rfl
    generalize pJ h0 a5 0 (y0.toInt64) = h1 at F ⊢
    refine wp_goto rfl rfl ?_
    refine wp_const' (L' := [none, none, none, none, none, none, none]) rfl rfl rfl ?_
    exact wp_retI rfl (Or.inl rfl) F
-- CensusOfficeModel interval (IIIZ)I
theorem m299 {d : Nat} {a0 : Nat} {a1 : Int32} {a2 : Int32} {a3 : Int32} {a4 : Int32} {h : aH} {K : Int32 → aH → Prop} {X : Nat → aH → Prop} (F : 8 ≤ a0 ∧ gK h a0 = 14 ∧ ∀ h0 : aH, h0 = pI h a0 0 0 → CI d 293 [vR a0, vI a1, vI a2, vI a3] h0 (fun y0 h1 => ((y0.toInt = 0 → gK h1 a0 = 14 ∧ CI d 15 [vR a0, vI 1] h1 (fun y1 h2 => K y1 h2) X) ∧ (¬ y0.toInt = 0 → gK h1 a0 = 14 ∧ ∃ i0 : Nat, inB h1 100 (gR h1 a0 71) a1 i0 ∧ ∀ v0 : Int32, v0 = (a2 * (gI h1 (gR h1 a0 71) i0)) + a3 → ∃ i1 : Nat, inB h1 100 (gR h1 a0 72) ((12 * a1) + v0) i1 ∧ ∀ v1 : Int32, v1 = gI h1 (gR h1 a0 72) i1 → ∃ i2 : Nat, inB h1 100 (gR h1 a0 77) a1 i2 ∧ (((((gI h1 (gR h1 a0 77) i2) >>> (v0 &&& 31)) &&& 1).toInt = 0 → K v1 h1) ∧ (¬ (((gI h1 (gR h1 a0 77) i2) >>> (v0 &&& 31)) &&& 1).toInt = 0 → ((a4.toInt = 0 → ∃ i3 : Nat, inB h1 100 (gR h1 a0 77) a1 i3 ∧ CI d 286 [vR a0, vI a1, vI (gI h1 (gR h1 a0 77) i3), vI v0, vI 0] h1 (fun y2 h3 => K (v1 - y2) h3) X) ∧ (¬ a4.toInt = 0 → ∃ i4 : Nat, inB h1 100 (gR h1 a0 77) a1 i4 ∧ CI d 286 [vR a0, vI a1, vI (gI h1 (gR h1 a0 77) i4), vI v0, vI 1] h1 (fun y3 h4 => K (v1 + y3) h4) X))))))) X) : CI (d + 1) 299 [vR a0, vI a1, vI a2, vI a3, vI a4] h K X := by
  show Wp (d + 1) 299 (0, [some (vR a0), some (vI a1), some (vI a2), some (vI a3), some (vI a4), none, none], [], h) (RI K X)
  refine wp_aload rfl rfl rfl ?_
  refine wp_const rfl rfl ?_
  obtain ⟨f0, F⟩ := F
  obtain ⟨f1, F⟩ := F
  refine wp_putI rfl rfl rfl f0 f1 rfl ?_
  have f2 : gK (pI h a0 0 0) a0 = 14 := (gK_pI _ _ _ _ _).trans f1
  replace F := F _ rfl
  generalize pI h a0 0 0 = h0 at F f2 ⊢
  refine wp_aload rfl rfl rfl ?_
  refine wp_iload rfl rfl rfl ?_
  refine wp_iload rfl rfl rfl ?_
  refine wp_iload rfl rfl rfl ?_
  refine wp_callI rfl rfl rfl (rcv_v f0 f2 (by decide) (by decide)) rfl rfl rfl rfl ?_
  refine CI.mono F (fun y0 h1 F => ?_) (fun _ _ w => rx_I w)
  refine wp_if_ne rfl rfl rfl rfl (fun c => ?_) (fun c => ?_)
  · replace F := F.1 c
    refine wp_aload rfl rfl rfl ?_
    refine wp_const rfl rfl ?_
    obtain ⟨f3, F⟩ := F
    refine wp_callI rfl rfl rfl (rcv_v f0 f3 (by decide) (by decide)) rfl rfl rfl rfl ?_
    refine CI.mono F (fun y1 h2 F => ?_) (fun _ _ w => rx_I w)
    exact wp_retI rfl (Or.inl rfl) F
  · replace F := F.2 c
    refine wp_iload' (L' := [some (vR a0), some (vI a1), some (vI a2), some (vI a3), some (vI a4), none, none]) rfl rfl rfl rfl ?_
    refine wp_aload rfl rfl rfl ?_
    obtain ⟨f4, F⟩ := F
    refine wp_getR rfl rfl rfl f4 rfl ?_
    refine wp_iload rfl rfl rfl ?_
    obtain ⟨i0, b9, F⟩ := F
    refine wp_iaload rfl b9 rfl ?_
    refine wp_imul rfl rfl ?_
    refine wp_iload rfl rfl rfl ?_
    refine wp_iadd rfl rfl ?_
    replace F := F _ rfl
    generalize ((a2 * (gI h1 (gR h1 a0 71) i0)) + a3 : Int32) = v0 at F ⊢
    refine wp_istore (L2 := [some (vR a0), some (vI a1), some (vI a2), some (vI a3), some (vI a4), some (vI v0), none]) rfl rfl rfl rfl ?_
    refine wp_aload rfl rfl rfl ?_
    refine wp_getR rfl rfl rfl f4 rfl ?_
    refine wp_const rfl rfl ?_
    refine wp_iload rfl rfl rfl ?_
    refine wp_imul rfl rfl ?_
    refine wp_iload rfl rfl rfl ?_
    refine wp_iadd rfl rfl ?_
    obtain ⟨i1, b9, F⟩ := F
    refine wp_iaload rfl b9 rfl ?_
    replace F := F _ rfl
    generalize (gI h1 (gR h1 a0 72) i1 : Int32) = v1 at F ⊢
    refine wp_istore (L2 := [some (vR a0), some (vI a1), some (vI a2), some (vI a3), some (vI a4), some (vI v0), some (vI v1)]) rfl rfl rfl rfl ?_
    refine wp_aload rfl rfl rfl ?_
    refine wp_getR rfl rfl rfl f4 rfl ?_
    refine wp_iload rfl rfl rfl ?_
    obtain ⟨i2, b9, F⟩ := F
    refine wp_iaload rfl b9 rfl ?_
    refine wp_iload rfl rfl rfl ?_
    refine wp_ishr rfl rfl ?_
    refine wp_const rfl rfl ?_
    refine wp_iand rfl rfl ?_
    refine wp_if_ne rfl rfl rfl rfl (fun c => ?_) (fun c => ?_)
    · replace F := F.1 c
      refine wp_iload rfl rfl rfl ?_
      refine wp_goto rfl rfl ?_
      exact wp_retI rfl (Or.inl rfl) F
    · replace F := F.2 c
      refine wp_iload' (L' := [some (vR a0), some (vI a1), none, none, some (vI a4), some (vI v0), some (vI v1)]) rfl rfl rfl rfl ?_
      refine wp_if_eq rfl rfl rfl rfl (fun c => ?_) (fun c => ?_)
      · replace F := F.1 c
        refine wp_iload' (L' := [some (vR a0), some (vI a1), none, none, none, some (vI v0), some (vI v1)]) rfl rfl rfl rfl ?_
        refine wp_aload rfl rfl rfl ?_
        refine wp_iload rfl rfl rfl ?_
        refine wp_aload rfl rfl rfl ?_
        refine wp_getR rfl rfl rfl f4 rfl ?_
        refine wp_iload rfl rfl rfl ?_
        obtain ⟨i3, b9, F⟩ := F
        refine wp_iaload rfl b9 rfl ?_
        refine wp_iload rfl rfl rfl ?_
        refine wp_const rfl rfl ?_
        refine wp_callI rfl rfl rfl (rcv_v f0 f4 (by decide) (by decide)) rfl rfl rfl rfl ?_
        refine CI.mono F (fun y2 h3 F => ?_) (fun _ _ w => rx_I w)
        refine wp_isub rfl rfl ?_
        exact wp_retI rfl (Or.inl rfl) F
      · replace F := F.2 c
        refine wp_iload rfl rfl rfl ?_
        refine wp_aload rfl rfl rfl ?_
        refine wp_iload rfl rfl rfl ?_
        refine wp_aload rfl rfl rfl ?_
        refine wp_getR rfl rfl rfl f4 rfl ?_
        refine wp_iload rfl rfl rfl ?_
        obtain ⟨i4, b9, F⟩ := F
        refine wp_iaload rfl b9 rfl ?_
        refine wp_iload rfl rfl rfl ?_
        refine wp_const rfl rfl ?_
        refine wp_callI rfl rfl rfl (rcv_v f0 f4 (by decide) (by decide)) rfl rfl rfl rfl ?_
        refine CI.mono F (fun y3 h4 F => ?_) (fun _ _ w => rx_I w)
        refine wp_iadd rfl rfl ?_
        refine wp_goto rfl rfl ?_
        exact wp_retI rfl (Or.inl rfl) F
