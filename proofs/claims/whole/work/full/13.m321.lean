/-! THE FORMULAS OF THE METHODS 321 TO 327 (written by wip/tools/gen13.py): what a run from a cut point needs -/
-- CensusOfficeModel look (IIII)I
theorem m321 {d : Nat} {a0 : Nat} {a1 : Int32} {a2 : Int32} {a3 : Int32} {a4 : Int32} {h : aH} {K : Int32 → aH → Prop} {X : Nat → aH → Prop} (F : 8 ≤ a0 ∧ gK h a0 = 14 ∧ ∀ h0 : aH, h0 = pI h a0 0 0 → CI d 14 [vL (a1.toInt64), vL 0, vL (((gI h0 a0 80) - 1).toInt64)] h0 (fun y0 h1 => ((y0.toInt = 0 → gK h1 a0 = 14 ∧ CI d 15 [vR a0, vI 1] h1 (fun y1 h2 => K y1 h2) X) ∧ (¬ y0.toInt = 0 → gK h1 a0 = 14 ∧ CI d 14 [vL (a2.toInt64), vL 0, vL (((gI h1 a0 82) - 1).toInt64)] h1 (fun y2 h3 => ((y2.toInt = 0 → gK h3 a0 = 14 ∧ CI d 15 [vR a0, vI 1] h3 (fun y3 h4 => K y3 h4) X) ∧ (¬ y2.toInt = 0 → gK h3 a0 = 14 ∧ ∃ i0 : Nat, inB h3 100 (gR h3 a0 85) a2 i0 ∧ CI d 14 [vL (a3.toInt64), vL 0, vL ((gI h3 (gR h3 a0 85) i0).toInt64)] h3 (fun y4 h5 => ((y4.toInt = 0 → gK h5 a0 = 14 ∧ CI d 15 [vR a0, vI 1] h5 (fun y5 h6 => K y5 h6) X) ∧ (¬ y4.toInt = 0 → gK h5 a0 = 14 ∧ ∃ i1 : Nat, inB h5 100 (gR h5 a0 86) a2 i1 ∧ CI d 14 [vL (a4.toInt64), vL 0, vL ((gI h5 (gR h5 a0 86) i1).toInt64)] h5 (fun y6 h7 => ((y6.toInt = 0 → gK h7 a0 = 14 ∧ CI d 15 [vR a0, vI 1] h7 (fun y7 h8 => K y7 h8) X) ∧ (¬ y6.toInt = 0 → gK h7 a0 = 14 ∧ (((gI h7 a0 89).toInt = 500 → CI d 15 [vR a0, vI 2] h7 (fun y8 h9 => K y8 h9) X) ∧ (¬ (gI h7 a0 89).toInt = 500 → ∃ i2 : Nat, inB h7 100 (gR h7 a0 86) a2 i2 ∧ ∀ v0 : Int32, v0 = gI h7 (gR h7 a0 86) i2 → Wp (d + 1) 321 (106, [some (vR a0), some (vI a1), some (vI a2), some (vI a3), some (vI a4), some (vI v0), some (vI 0), some (vI 0), none, none], [], h7) (RI K X)))))) X))) X))) X))) X) : CI (d + 1) 321 [vR a0, vI a1, vI a2, vI a3, vI a4] h K X := by
  show Wp (d + 1) 321 (0, [some (vR a0), some (vI a1), some (vI a2), some (vI a3), some (vI a4), none, none, none, none, none], [], h) (RI K X)
  refine wp_aload rfl rfl rfl ?_
  refine wp_const rfl rfl ?_
  obtain ⟨f0, F⟩ := F
  obtain ⟨f1, F⟩ := F
  refine wp_putI rfl rfl rfl f0 f1 rfl ?_
  have f2 : gK (pI h a0 0 0) a0 = 14 := (gK_pI _ _ _ _ _).trans f1
  replace F := F _ rfl
  generalize pI h a0 0 0 = h0 at F f2 ⊢
  refine wp_iload rfl rfl rfl ?_
  refine wp_i2l rfl rfl ?_
  refine wp_const rfl rfl ?_
  refine wp_aload rfl rfl rfl ?_
  refine wp_getI rfl rfl rfl f2 rfl ?_
  refine wp_const rfl rfl ?_
  refine wp_isub rfl rfl ?_
  refine wp_i2l rfl rfl ?_
  refine wp_callI rfl rfl rfl rfl rfl rfl rfl rfl ?_
  refine CI.mono F (fun y0 h1 F => ?_) (fun _ _ w => rx_I w)
  refine wp_if_eq rfl rfl rfl rfl (fun c => ?_) (fun c => ?_)
  · replace F := F.1 c
    refine wp_aload' (L' := [some (vR a0), none, none, none, none, none, none, none, none, none]) rfl rfl rfl rfl ?_
    refine wp_const rfl rfl ?_
    obtain ⟨f3, F⟩ := F
    refine wp_callI rfl rfl rfl (rcv_v f0 f3 (by decide) (by decide)) rfl rfl rfl rfl ?_
    refine CI.mono F (fun y1 h2 F => ?_) (fun _ _ w => rx_I w)
    exact wp_retI rfl (Or.inl rfl) F
  · replace F := F.2 c
    refine wp_iload rfl rfl rfl ?_
    refine wp_i2l rfl rfl ?_
    refine wp_const rfl rfl ?_
    refine wp_aload rfl rfl rfl ?_
    obtain ⟨f4, F⟩ := F
    refine wp_getI rfl rfl rfl f4 rfl ?_
    refine wp_const rfl rfl ?_
    refine wp_isub rfl rfl ?_
    refine wp_i2l rfl rfl ?_
    refine wp_callI rfl rfl rfl rfl rfl rfl rfl rfl ?_
    refine CI.mono F (fun y2 h3 F => ?_) (fun _ _ w => rx_I w)
    refine wp_if_eq rfl rfl rfl rfl (fun c => ?_) (fun c => ?_)
    · replace F := F.1 c
      refine wp_aload' (L' := [some (vR a0), none, none, none, none, none, none, none, none, none]) rfl rfl rfl rfl ?_
      refine wp_const rfl rfl ?_
      obtain ⟨f5, F⟩ := F
      refine wp_callI rfl rfl rfl (rcv_v f0 f5 (by decide) (by decide)) rfl rfl rfl rfl ?_
      refine CI.mono F (fun y3 h4 F => ?_) (fun _ _ w => rx_I w)
      exact wp_retI rfl (Or.inl rfl) F
    · replace F := F.2 c
      refine wp_iload rfl rfl rfl ?_
      refine wp_i2l rfl rfl ?_
      refine wp_const rfl rfl ?_
      refine wp_aload rfl rfl rfl ?_
      obtain ⟨f6, F⟩ := F
      refine wp_getR rfl rfl rfl f6 rfl ?_
      refine wp_iload rfl rfl rfl ?_
      obtain ⟨i0, b9, F⟩ := F
      refine wp_iaload rfl b9 rfl ?_
      refine wp_i2l rfl rfl ?_
      refine wp_callI rfl rfl rfl rfl rfl rfl rfl rfl ?_
      refine CI.mono F (fun y4 h5 F => ?_) (fun _ _ w => rx_I w)
      refine wp_if_eq rfl rfl rfl rfl (fun c => ?_) (fun c => ?_)
      · replace F := F.1 c
        refine wp_aload' (L' := [some (vR a0), none, none, none, none, none, none, none, none, none]) rfl rfl rfl rfl ?_
        refine wp_const rfl rfl ?_
        obtain ⟨f7, F⟩ := F
        refine wp_callI rfl rfl rfl (rcv_v f0 f7 (by decide) (by decide)) rfl rfl rfl rfl ?_
        refine CI.mono F (fun y5 h6 F => ?_) (fun _ _ w => rx_I w)
        exact wp_retI rfl (Or.inl rfl) F
      · replace F := F.2 c
        refine wp_iload rfl rfl rfl ?_
        refine wp_i2l rfl rfl ?_
        refine wp_const rfl rfl ?_
        refine wp_aload rfl rfl rfl ?_
        obtain ⟨f8, F⟩ := F
        refine wp_getR rfl rfl rfl f8 rfl ?_
        refine wp_iload rfl rfl rfl ?_
        obtain ⟨i1, b9, F⟩ := F
        refine wp_iaload rfl b9 rfl ?_
        refine wp_i2l rfl rfl ?_
        refine wp_callI rfl rfl rfl rfl rfl rfl rfl rfl ?_
        refine CI.mono F (fun y6 h7 F => ?_) (fun _ _ w => rx_I w)
        refine wp_if_ne rfl rfl rfl rfl (fun c => ?_) (fun c => ?_)
        · replace F := F.1 c
          refine wp_aload' (L' := [some (vR a0), none, none, none, none, none, none, none, none, none]) rfl rfl rfl rfl ?_
          refine wp_const rfl rfl ?_
          obtain ⟨f9, F⟩ := F
          refine wp_callI rfl rfl rfl (rcv_v f0 f9 (by decide) (by decide)) rfl rfl rfl rfl ?_
          refine CI.mono F (fun y7 h8 F => ?_) (fun _ _ w => rx_I w)
          exact wp_retI rfl (Or.inl rfl) F
        · replace F := F.2 c
          refine wp_aload' (L' := [some (vR a0), some (vI a1), some (vI a2), some (vI a3), some (vI a4), none, none, none, none, none]) rfl rfl rfl rfl ?_
          obtain ⟨f10, F⟩ := F
          refine wp_getI rfl rfl rfl f10 rfl ?_
          refine wp_const rfl rfl ?_
          refine wp_icmp_ne (Y := 500) rfl rfl rfl rfl rfl (fun c => ?_) (fun c => ?_)
          · replace F := F.1 c
            refine wp_aload rfl rfl rfl ?_
            refine wp_const rfl rfl ?_
            refine wp_callI rfl rfl rfl (rcv_v f0 f10 (by decide) (by decide)) rfl rfl rfl rfl ?_
            refine CI.mono F (fun y8 h9 F => ?_) (fun _ _ w => rx_I w)
            exact wp_retI rfl (Or.inl rfl) F
          · replace F := F.2 c
            refine wp_aload' (L' := [some (vR a0), some (vI a1), some (vI a2), some (vI a3), some (vI a4), none, none, none, none, none]) rfl rfl rfl rfl ?_
            refine wp_getR rfl rfl rfl f10 rfl ?_
            refine wp_iload rfl rfl rfl ?_
            obtain ⟨i2, b9, F⟩ := F
            refine wp_iaload rfl b9 rfl ?_
            replace F := F _ rfl
            generalize (gI h7 (gR h7 a0 86) i2 : Int32) = v0 at F ⊢
            refine wp_istore (L2 := [some (vR a0), some (vI a1), some (vI a2), some (vI a3), some (vI a4), some (vI v0), none, none, none, none]) rfl rfl rfl rfl ?_
            refine wp_const rfl rfl ?_
            refine wp_istore (L2 := [some (vR a0), some (vI a1), some (vI a2), some (vI a3), some (vI a4), some (vI v0), some (vI 0), none, none, none]) rfl rfl rfl rfl ?_
            refine wp_const rfl rfl ?_
            refine wp_istore (L2 := [some (vR a0), some (vI a1), some (vI a2), some (vI a3), some (vI a4), some (vI v0), some (vI 0), some (vI 0), none, none]) rfl rfl rfl rfl ?_
            exact F
theorem w321_106 {d : Nat} {l0 : Nat} {l1 : Int32} {l2 : Int32} {l3 : Int32} {l4 : Int32} {l5 : Int32} {l6 : Int32} {l7 : Int32} {h : aH} {K : Int32 → aH → Prop} {X : Nat → aH → Prop} (F : gK h l0 = 14 ∧ ∃ i0 : Nat, inB h 100 (gR h l0 85) l2 i0 ∧ ((l7.toInt < ((gI h (gR h l0 85) i0) * l5).toInt → ∃ i1 : Nat, inB h 100 (gR h l0 85) l2 i1 ∧ ((l3.toInt = (gI h (gR h l0 85) i1).toInt → ((l4.toInt = l5.toInt → ∃ i2 : Nat, inB h 100 (gR h l0 88) ((12 * l2) + l7) i2 ∧ ∀ v0 : Int32, v0 = l6 + (gI h (gR h l0 88) i2) → ∀ v1 : Int32, v1 = l7 + 1 → Wp (d + 1) 321 (106, [some (vR l0), some (vI l1), some (vI l2), some (vI l3), some (vI l4), some (vI l5), some (vI v0), some (vI v1), none, none], [], h) (RI K X)) ∧ (¬ l4.toInt = l5.toInt → (¬ l5 = 0) ∧ (((aIrem l7 l5).toInt = l4.toInt → ∃ i3 : Nat, inB h 100 (gR h l0 88) ((12 * l2) + l7) i3 ∧ ∀ v2 : Int32, v2 = l6 + (gI h (gR h l0 88) i3) → ∀ v3 : Int32, v3 = l7 + 1 → Wp (d + 1) 321 (106, [some (vR l0), some (vI l1), some (vI l2), some (vI l3), some (vI l4), some (vI l5), some (vI v2), some (vI v3), none, none], [], h) (RI K X)) ∧ (¬ (aIrem l7 l5).toInt = l4.toInt → ∀ v4 : Int32, v4 = l6 + 0 → ∀ v5 : Int32, v5 = l7 + 1 → Wp (d + 1) 321 (106, [some (vR l0), some (vI l1), some (vI l2), some (vI l3), some (vI l4), some (vI l5), some (vI v4), some (vI v5), none, none], [], h) (RI K X)))))) ∧ (¬ l3.toInt = (gI h (gR h l0 85) i1).toInt → (¬ l5 = 0) ∧ (((l7 / l5).toInt = l3.toInt → ((l4.toInt = l5.toInt → ∃ i4 : Nat, inB h 100 (gR h l0 88) ((12 * l2) + l7) i4 ∧ ∀ v6 : Int32, v6 = l6 + (gI h (gR h l0 88) i4) → ∀ v7 : Int32, v7 = l7 + 1 → Wp (d + 1) 321 (106, [some (vR l0), some (vI l1), some (vI l2), some (vI l3), some (vI l4), some (vI l5), some (vI v6), some (vI v7), none, none], [], h) (RI K X)) ∧ (¬ l4.toInt = l5.toInt → (¬ l5 = 0) ∧ (((aIrem l7 l5).toInt = l4.toInt → ∃ i5 : Nat, inB h 100 (gR h l0 88) ((12 * l2) + l7) i5 ∧ ∀ v8 : Int32, v8 = l6 + (gI h (gR h l0 88) i5) → ∀ v9 : Int32, v9 = l7 + 1 → Wp (d + 1) 321 (106, [some (vR l0), some (vI l1), some (vI l2), some (vI l3), some (vI l4), some (vI l5), some (vI v8), some (vI v9), none, none], [], h) (RI K X)) ∧ (¬ (aIrem l7 l5).toInt = l4.toInt → ∀ v10 : Int32, v10 = l6 + 0 → ∀ v11 : Int32, v11 = l7 + 1 → Wp (d + 1) 321 (106, [some (vR l0), some (vI l1), some (vI l2), some (vI l3), some (vI l4), some (vI l5), some (vI v10), some (vI v11), none, none], [], h) (RI K X)))))) ∧ (¬ (l7 / l5).toInt = l3.toInt → ∀ v12 : Int32, v12 = l6 + 0 → ∀ v13 : Int32, v13 = l7 + 1 → Wp (d + 1) 321 (106, [some (vR l0), some (vI l1), some (vI l2), some (vI l3), some (vI l4), some (vI l5), some (vI v12), some (vI v13), none, none], [], h) (RI K X)))))) ∧ (¬ l7.toInt < ((gI h (gR h l0 85) i0) * l5).toInt → ∃ i6 : Nat, inB h 100 (gR h l0 85) l2 i6 ∧ ((l3.toInt < (gI h (gR h l0 85) i6).toInt → ((l4.toInt < l5.toInt → ∃ i7 : Nat, inB h 100 (gR h l0 87) l2 i7 ∧ (((((gI h (gR h l0 87) i7) >>> (((l3 * l5) + l4) &&& 31)) &&& 1).toInt = 1 → ∃ i8 : Nat, inB h 100 (gR h l0 84) l2 i8 ∧ (((gI h l0 1).toInt < (gI h (gR h l0 84) i8).toInt → ∃ i9 : Nat, inB h 100 (gR h l0 83) l2 i9 ∧ (((gI h (gR h l0 83) i9).toInt = l1.toInt → Wp (d + 1) 321 (255, [some (vR l0), some (vI l1), some (vI l2), some (vI l3), some (vI l4), none, some (vI l6), some (vI 1), none, none], [], h) (RI K X)) ∧ (¬ (gI h (gR h l0 83) i9).toInt = l1.toInt → ∀ v14 : Int32, v14 = 6 * (gI h l0 89) → 8 ≤ (gR h l0 90) ∧ ∃ i10 : Nat, inB h 100 (gR h l0 90) v14 i10 ∧ ∀ h0 : aH, h0 = pI h (gR h l0 90) i10 l1 → 8 ≤ (gR h0 l0 90) ∧ ∃ i11 : Nat, inB h0 100 (gR h0 l0 90) (v14 + 1) i11 ∧ ∀ h1 : aH, h1 = pI h0 (gR h0 l0 90) i11 l2 → 8 ≤ (gR h1 l0 90) ∧ ∃ i12 : Nat, inB h1 100 (gR h1 l0 90) (v14 + 2) i12 ∧ ∀ h2 : aH, h2 = pI h1 (gR h1 l0 90) i12 l3 → 8 ≤ (gR h2 l0 90) ∧ ∃ i13 : Nat, inB h2 100 (gR h2 l0 90) (v14 + 3) i13 ∧ ∀ h3 : aH, h3 = pI h2 (gR h2 l0 90) i13 l4 → 8 ≤ (gR h3 l0 90) ∧ ∃ i14 : Nat, inB h3 100 (gR h3 l0 90) (v14 + 4) i14 ∧ ∀ h4 : aH, h4 = pI h3 (gR h3 l0 90) i14 (-12) → 8 ≤ (gR h4 l0 90) ∧ ∃ i15 : Nat, inB h4 100 (gR h4 l0 90) (v14 + 5) i15 ∧ ∀ h5 : aH, h5 = pI h4 (gR h4 l0 90) i15 (gI h4 l0 1) → 8 ≤ l0 ∧ ∀ h6 : aH, h6 = pI h5 l0 89 ((gI h5 l0 89) + 1) → K (-12) h6))) ∧ (¬ (gI h l0 1).toInt < (gI h (gR h l0 84) i8).toInt → Wp (d + 1) 321 (255, [some (vR l0), some (vI l1), some (vI l2), some (vI l3), some (vI l4), none, some (vI l6), some (vI 1), none, none], [], h) (RI K X)))) ∧ (¬ (((gI h (gR h l0 87) i7) >>> (((l3 * l5) + l4) &&& 31)) &&& 1).toInt = 1 → ∃ i16 : Nat, inB h 100 (gR h l0 84) l2 i16 ∧ (((gI h l0 1).toInt < (gI h (gR h l0 84) i16).toInt → ∃ i17 : Nat, inB h 100 (gR h l0 83) l2 i17 ∧ (((gI h (gR h l0 83) i17).toInt = l1.toInt → Wp (d + 1) 321 (255, [some (vR l0), some (vI l1), some (vI l2), some (vI l3), some (vI l4), none, some (vI l6), some (vI 0), none, none], [], h) (RI K X)) ∧ (¬ (gI h (gR h l0 83) i17).toInt = l1.toInt → ∀ v15 : Int32, v15 = 6 * (gI h l0 89) → 8 ≤ (gR h l0 90) ∧ ∃ i18 : Nat, inB h 100 (gR h l0 90) v15 i18 ∧ ∀ h7 : aH, h7 = pI h (gR h l0 90) i18 l1 → 8 ≤ (gR h7 l0 90) ∧ ∃ i19 : Nat, inB h7 100 (gR h7 l0 90) (v15 + 1) i19 ∧ ∀ h8 : aH, h8 = pI h7 (gR h7 l0 90) i19 l2 → 8 ≤ (gR h8 l0 90) ∧ ∃ i20 : Nat, inB h8 100 (gR h8 l0 90) (v15 + 2) i20 ∧ ∀ h9 : aH, h9 = pI h8 (gR h8 l0 90) i20 l3 → 8 ≤ (gR h9 l0 90) ∧ ∃ i21 : Nat, inB h9 100 (gR h9 l0 90) (v15 + 3) i21 ∧ ∀ h10 : aH, h10 = pI h9 (gR h9 l0 90) i21 l4 → 8 ≤ (gR h10 l0 90) ∧ ∃ i22 : Nat, inB h10 100 (gR h10 l0 90) (v15 + 4) i22 ∧ ∀ h11 : aH, h11 = pI h10 (gR h10 l0 90) i22 (-12) → 8 ≤ (gR h11 l0 90) ∧ ∃ i23 : Nat, inB h11 100 (gR h11 l0 90) (v15 + 5) i23 ∧ ∀ h12 : aH, h12 = pI h11 (gR h11 l0 90) i23 (gI h11 l0 1) → 8 ≤ l0 ∧ ∀ h13 : aH, h13 = pI h12 l0 89 ((gI h12 l0 89) + 1) → K (-12) h13))) ∧ (¬ (gI h l0 1).toInt < (gI h (gR h l0 84) i16).toInt → Wp (d + 1) 321 (255, [some (vR l0), some (vI l1), some (vI l2), some (vI l3), some (vI l4), none, some (vI l6), some (vI 0), none, none], [], h) (RI K X)))))) ∧ (¬ l4.toInt < l5.toInt → ∃ i24 : Nat, inB h 100 (gR h l0 84) l2 i24 ∧ (((gI h l0 1).toInt < (gI h (gR h l0 84) i24).toInt → ∃ i25 : Nat, inB h 100 (gR h l0 83) l2 i25 ∧ (((gI h (gR h l0 83) i25).toInt = l1.toInt → Wp (d + 1) 321 (255, [some (vR l0), some (vI l1), some (vI l2), some (vI l3), some (vI l4), none, some (vI l6), some (vI 0), none, none], [], h) (RI K X)) ∧ (¬ (gI h (gR h l0 83) i25).toInt = l1.toInt → ∀ v16 : Int32, v16 = 6 * (gI h l0 89) → 8 ≤ (gR h l0 90) ∧ ∃ i26 : Nat, inB h 100 (gR h l0 90) v16 i26 ∧ ∀ h14 : aH, h14 = pI h (gR h l0 90) i26 l1 → 8 ≤ (gR h14 l0 90) ∧ ∃ i27 : Nat, inB h14 100 (gR h14 l0 90) (v16 + 1) i27 ∧ ∀ h15 : aH, h15 = pI h14 (gR h14 l0 90) i27 l2 → 8 ≤ (gR h15 l0 90) ∧ ∃ i28 : Nat, inB h15 100 (gR h15 l0 90) (v16 + 2) i28 ∧ ∀ h16 : aH, h16 = pI h15 (gR h15 l0 90) i28 l3 → 8 ≤ (gR h16 l0 90) ∧ ∃ i29 : Nat, inB h16 100 (gR h16 l0 90) (v16 + 3) i29 ∧ ∀ h17 : aH, h17 = pI h16 (gR h16 l0 90) i29 l4 → 8 ≤ (gR h17 l0 90) ∧ ∃ i30 : Nat, inB h17 100 (gR h17 l0 90) (v16 + 4) i30 ∧ ∀ h18 : aH, h18 = pI h17 (gR h17 l0 90) i30 (-12) → 8 ≤ (gR h18 l0 90) ∧ ∃ i31 : Nat, inB h18 100 (gR h18 l0 90) (v16 + 5) i31 ∧ ∀ h19 : aH, h19 = pI h18 (gR h18 l0 90) i31 (gI h18 l0 1) → 8 ≤ l0 ∧ ∀ h20 : aH, h20 = pI h19 l0 89 ((gI h19 l0 89) + 1) → K (-12) h20))) ∧ (¬ (gI h l0 1).toInt < (gI h (gR h l0 84) i24).toInt → Wp (d + 1) 321 (255, [some (vR l0), some (vI l1), some (vI l2), some (vI l3), some (vI l4), none, some (vI l6), some (vI 0), none, none], [], h) (RI K X)))))) ∧ (¬ l3.toInt < (gI h (gR h l0 85) i6).toInt → ∃ i32 : Nat, inB h 100 (gR h l0 84) l2 i32 ∧ (((gI h l0 1).toInt < (gI h (gR h l0 84) i32).toInt → ∃ i33 : Nat, inB h 100 (gR h l0 83) l2 i33 ∧ (((gI h (gR h l0 83) i33).toInt = l1.toInt → Wp (d + 1) 321 (255, [some (vR l0), some (vI l1), some (vI l2), some (vI l3), some (vI l4), none, some (vI l6), some (vI 0), none, none], [], h) (RI K X)) ∧ (¬ (gI h (gR h l0 83) i33).toInt = l1.toInt → ∀ v17 : Int32, v17 = 6 * (gI h l0 89) → 8 ≤ (gR h l0 90) ∧ ∃ i34 : Nat, inB h 100 (gR h l0 90) v17 i34 ∧ ∀ h21 : aH, h21 = pI h (gR h l0 90) i34 l1 → 8 ≤ (gR h21 l0 90) ∧ ∃ i35 : Nat, inB h21 100 (gR h21 l0 90) (v17 + 1) i35 ∧ ∀ h22 : aH, h22 = pI h21 (gR h21 l0 90) i35 l2 → 8 ≤ (gR h22 l0 90) ∧ ∃ i36 : Nat, inB h22 100 (gR h22 l0 90) (v17 + 2) i36 ∧ ∀ h23 : aH, h23 = pI h22 (gR h22 l0 90) i36 l3 → 8 ≤ (gR h23 l0 90) ∧ ∃ i37 : Nat, inB h23 100 (gR h23 l0 90) (v17 + 3) i37 ∧ ∀ h24 : aH, h24 = pI h23 (gR h23 l0 90) i37 l4 → 8 ≤ (gR h24 l0 90) ∧ ∃ i38 : Nat, inB h24 100 (gR h24 l0 90) (v17 + 4) i38 ∧ ∀ h25 : aH, h25 = pI h24 (gR h24 l0 90) i38 (-12) → 8 ≤ (gR h25 l0 90) ∧ ∃ i39 : Nat, inB h25 100 (gR h25 l0 90) (v17 + 5) i39 ∧ ∀ h26 : aH, h26 = pI h25 (gR h25 l0 90) i39 (gI h25 l0 1) → 8 ≤ l0 ∧ ∀ h27 : aH, h27 = pI h26 l0 89 ((gI h26 l0 89) + 1) → K (-12) h27))) ∧ (¬ (gI h l0 1).toInt < (gI h (gR h l0 84) i32).toInt → Wp (d + 1) 321 (255, [some (vR l0), some (vI l1), some (vI l2), some (vI l3), some (vI l4), none, some (vI l6), some (vI 0), none, none], [], h) (RI K X)))))))) : Wp (d + 1) 321 (106, [some (vR l0), some (vI l1), some (vI l2), some (vI l3), some (vI l4), some (vI l5), some (vI l6), some (vI l7), none, none], [], h) (RI K X) := by
  refine wp_iload' (L' := [some (vR l0), some (vI l1), some (vI l2), some (vI l3), some (vI l4), some (vI l5), some (vI l6), some (vI l7), none, none]) rfl rfl rfl rfl ?_
  refine wp_aload rfl rfl rfl ?_
  obtain ⟨f0, F⟩ := F
  refine wp_getR rfl rfl rfl f0 rfl ?_
  refine wp_iload rfl rfl rfl ?_
  obtain ⟨i0, b9, F⟩ := F
  refine wp_iaload rfl b9 rfl ?_
  refine wp_iload rfl rfl rfl ?_
  refine wp_imul rfl rfl ?_
  refine wp_icmp_ge rfl rfl rfl rfl rfl (fun c => ?_) (fun c => ?_)
  · replace F := F.1 c
    refine wp_iload rfl rfl rfl ?_
    refine wp_iload rfl rfl rfl ?_
    refine wp_aload rfl rfl rfl ?_
    refine wp_getR rfl rfl rfl f0 rfl ?_
    refine wp_iload rfl rfl rfl ?_
    obtain ⟨i1, b9, F⟩ := F
    refine wp_iaload rfl b9 rfl ?_
    refine wp_icmp_eq rfl rfl rfl rfl rfl (fun c => ?_) (fun c => ?_)
    · replace F := F.1 c
      refine wp_iload' (L' := [some (vR l0), some (vI l1), some (vI l2), some (vI l3), some (vI l4), some (vI l5), none, some (vI l7), none, none]) rfl rfl rfl rfl ?_
      refine wp_iload rfl rfl rfl ?_
      refine wp_icmp_eq rfl rfl rfl rfl rfl (fun c => ?_) (fun c => ?_)
      · replace F := F.1 c
        refine wp_aload' (L' := [some (vR l0), some (vI l1), some (vI l2), some (vI l3), some (vI l4), some (vI l5), none, some (vI l7), none, none]) rfl rfl rfl rfl ?_
        refine wp_getR rfl rfl rfl f0 rfl ?_
        refine wp_const rfl rfl ?_
        refine wp_iload rfl rfl rfl ?_
        refine wp_imul rfl rfl ?_
        refine wp_iload rfl rfl rfl ?_
        refine wp_iadd rfl rfl ?_
        obtain ⟨i2, b9, F⟩ := F
        refine wp_iaload rfl b9 rfl ?_
        refine wp_goto rfl rfl ?_
        refine wp_iadd' (L' := [some (vR l0), some (vI l1), some (vI l2), some (vI l3), some (vI l4), some (vI l5), none, some (vI l7), none, none]) rfl rfl rfl ?_
        replace F := F _ rfl
        generalize (l6 + (gI h (gR h l0 88) i2) : Int32) = v0 at F ⊢
        refine wp_istore (L2 := [some (vR l0), some (vI l1), some (vI l2), some (vI l3), some (vI l4), some (vI l5), some (vI v0), some (vI l7), none, none]) rfl rfl rfl rfl ?_
        refine wp_iinc (y := 1) (L2 := [some (vR l0), some (vI l1), some (vI l2), some (vI l3), some (vI l4), some (vI l5), some (vI v0), some (vI (l7 + 1)), none, none]) rfl rfl rfl rfl rfl ?_
        replace F := F _ rfl
        generalize (l7 + 1 : Int32) = v1 at F ⊢
        refine wp_goto rfl rfl ?_
        exact F
      · replace F := F.2 c
        refine wp_iload rfl rfl rfl ?_
        refine wp_iload rfl rfl rfl ?_
        refine wp_irem rfl F.1 rfl ?_
        replace F := F.2
        refine wp_iload rfl rfl rfl ?_
        refine wp_icmp_ne rfl rfl rfl rfl rfl (fun c => ?_) (fun c => ?_)
        · replace F := F.1 c
          refine wp_aload' (L' := [some (vR l0), some (vI l1), some (vI l2), some (vI l3), some (vI l4), some (vI l5), none, some (vI l7), none, none]) rfl rfl rfl rfl ?_
          refine wp_getR rfl rfl rfl f0 rfl ?_
          refine wp_const rfl rfl ?_
          refine wp_iload rfl rfl rfl ?_
          refine wp_imul rfl rfl ?_
          refine wp_iload rfl rfl rfl ?_
          refine wp_iadd rfl rfl ?_
          obtain ⟨i3, b9, F⟩ := F
          refine wp_iaload rfl b9 rfl ?_
          refine wp_goto rfl rfl ?_
          refine wp_iadd' (L' := [some (vR l0), some (vI l1), some (vI l2), some (vI l3), some (vI l4), some (vI l5), none, some (vI l7), none, none]) rfl rfl rfl ?_
          replace F := F _ rfl
          generalize (l6 + (gI h (gR h l0 88) i3) : Int32) = v2 at F ⊢
          refine wp_istore (L2 := [some (vR l0), some (vI l1), some (vI l2), some (vI l3), some (vI l4), some (vI l5), some (vI v2), some (vI l7), none, none]) rfl rfl rfl rfl ?_
          refine wp_iinc (y := 1) (L2 := [some (vR l0), some (vI l1), some (vI l2), some (vI l3), some (vI l4), some (vI l5), some (vI v2), some (vI (l7 + 1)), none, none]) rfl rfl rfl rfl rfl ?_
          replace F := F _ rfl
          generalize (l7 + 1 : Int32) = v3 at F ⊢
          refine wp_goto rfl rfl ?_
          exact F
        · replace F := F.2 c
          refine wp_const' (L' := [some (vR l0), some (vI l1), some (vI l2), some (vI l3), some (vI l4), some (vI l5), none, some (vI l7), none, none]) rfl rfl rfl ?_
          refine wp_iadd' (L' := [some (vR l0), some (vI l1), some (vI l2), some (vI l3), some (vI l4), some (vI l5), none, some (vI l7), none, none]) rfl rfl rfl ?_
          replace F := F _ rfl
          generalize (l6 + 0 : Int32) = v4 at F ⊢
          refine wp_istore (L2 := [some (vR l0), some (vI l1), some (vI l2), some (vI l3), some (vI l4), some (vI l5), some (vI v4), some (vI l7), none, none]) rfl rfl rfl rfl ?_
          refine wp_iinc (y := 1) (L2 := [some (vR l0), some (vI l1), some (vI l2), some (vI l3), some (vI l4), some (vI l5), some (vI v4), some (vI (l7 + 1)), none, none]) rfl rfl rfl rfl rfl ?_
          replace F := F _ rfl
          generalize (l7 + 1 : Int32) = v5 at F ⊢
          refine wp_goto rfl rfl ?_
          exact F
    · replace F := F.2 c
      refine wp_iload rfl rfl rfl ?_
      refine wp_iload rfl rfl rfl ?_
      refine wp_idiv rfl F.1 rfl ?_
      replace F := F.2
      refine wp_iload rfl rfl rfl ?_
      refine wp_icmp_ne rfl rfl rfl rfl rfl (fun c => ?_) (fun c => ?_)
      · replace F := F.1 c
        refine wp_iload' (L' := [some (vR l0), some (vI l1), some (vI l2), some (vI l3), some (vI l4), some (vI l5), none, some (vI l7), none, none]) rfl rfl rfl rfl ?_
        refine wp_iload rfl rfl rfl ?_
        refine wp_icmp_eq rfl rfl rfl rfl rfl (fun c => ?_) (fun c => ?_)
        · replace F := F.1 c
          refine wp_aload' (L' := [some (vR l0), some (vI l1), some (vI l2), some (vI l3), some (vI l4), some (vI l5), none, some (vI l7), none, none]) rfl rfl rfl rfl ?_
          refine wp_getR rfl rfl rfl f0 rfl ?_
          refine wp_const rfl rfl ?_
          refine wp_iload rfl rfl rfl ?_
          refine wp_imul rfl rfl ?_
          refine wp_iload rfl rfl rfl ?_
          refine wp_iadd rfl rfl ?_
          obtain ⟨i4, b9, F⟩ := F
          refine wp_iaload rfl b9 rfl ?_
          refine wp_goto rfl rfl ?_
          refine wp_iadd' (L' := [some (vR l0), some (vI l1), some (vI l2), some (vI l3), some (vI l4), some (vI l5), none, some (vI l7), none, none]) rfl rfl rfl ?_
          replace F := F _ rfl
          generalize (l6 + (gI h (gR h l0 88) i4) : Int32) = v6 at F ⊢
          refine wp_istore (L2 := [some (vR l0), some (vI l1), some (vI l2), some (vI l3), some (vI l4), some (vI l5), some (vI v6), some (vI l7), none, none]) rfl rfl rfl rfl ?_
          refine wp_iinc (y := 1) (L2 := [some (vR l0), some (vI l1), some (vI l2), some (vI l3), some (vI l4), some (vI l5), some (vI v6), some (vI (l7 + 1)), none, none]) rfl rfl rfl rfl rfl ?_
          replace F := F _ rfl
          generalize (l7 + 1 : Int32) = v7 at F ⊢
          refine wp_goto rfl rfl ?_
          exact F
        · replace F := F.2 c
          refine wp_iload rfl rfl rfl ?_
          refine wp_iload rfl rfl rfl ?_
          refine wp_irem rfl F.1 rfl ?_
          replace F := F.2
          refine wp_iload rfl rfl rfl ?_
          refine wp_icmp_ne rfl rfl rfl rfl rfl (fun c => ?_) (fun c => ?_)
          · replace F := F.1 c
            refine wp_aload' (L' := [some (vR l0), some (vI l1), some (vI l2), some (vI l3), some (vI l4), some (vI l5), none, some (vI l7), none, none]) rfl rfl rfl rfl ?_
            refine wp_getR rfl rfl rfl f0 rfl ?_
            refine wp_const rfl rfl ?_
            refine wp_iload rfl rfl rfl ?_
            refine wp_imul rfl rfl ?_
            refine wp_iload rfl rfl rfl ?_
            refine wp_iadd rfl rfl ?_
            obtain ⟨i5, b9, F⟩ := F
            refine wp_iaload rfl b9 rfl ?_
            refine wp_goto rfl rfl ?_
            refine wp_iadd' (L' := [some (vR l0), some (vI l1), some (vI l2), some (vI l3), some (vI l4), some (vI l5), none, some (vI l7), none, none]) rfl rfl rfl ?_
            replace F := F _ rfl
            generalize (l6 + (gI h (gR h l0 88) i5) : Int32) = v8 at F ⊢
            refine wp_istore (L2 := [some (vR l0), some (vI l1), some (vI l2), some (vI l3), some (vI l4), some (vI l5), some (vI v8), some (vI l7), none, none]) rfl rfl rfl rfl ?_
            refine wp_iinc (y := 1) (L2 := [some (vR l0), some (vI l1), some (vI l2), some (vI l3), some (vI l4), some (vI l5), some (vI v8), some (vI (l7 + 1)), none, none]) rfl rfl rfl rfl rfl ?_
            replace F := F _ rfl
            generalize (l7 + 1 : Int32) = v9 at F ⊢
            refine wp_goto rfl rfl ?_
            exact F
          · replace F := F.2 c
            refine wp_const' (L' := [some (vR l0), some (vI l1), some (vI l2), some (vI l3), some (vI l4), some (vI l5), none, some (vI l7), none, none]) rfl rfl rfl ?_
            refine wp_iadd' (L' := [some (vR l0), some (vI l1), some (vI l2), some (vI l3), some (vI l4), some (vI l5), none, some (vI l7), none, none]) rfl rfl rfl ?_
            replace F := F _ rfl
            generalize (l6 + 0 : Int32) = v10 at F ⊢
            refine wp_istore (L2 := [some (vR l0), some (vI l1), some (vI l2), some (vI l3), some (vI l4), some (vI l5), some (vI v10), some (vI l7), none, none]) rfl rfl rfl rfl ?_
            refine wp_iinc (y := 1) (L2 := [some (vR l0), some (vI l1), some (vI l2), some (vI l3), some (vI l4), some (vI l5), some (vI v10), some (vI (l7 + 1)), none, none]) rfl rfl rfl rfl rfl ?_
            replace F := F _ rfl
            generalize (l7 + 1 : Int32) = v11 at F ⊢
            refine wp_goto rfl rfl ?_
            exact F
      · replace F := F.2 c
        refine wp_const' (L' := [some (vR l0), some (vI l1), some (vI l2), some (vI l3), some (vI l4), some (vI l5), none, some (vI l7), none, none]) rfl rfl rfl ?_
        refine wp_iadd' (L' := [some (vR l0), some (vI l1), some (vI l2), some (vI l3), some (vI l4), some (vI l5), none, some (vI l7), none, none]) rfl rfl rfl ?_
        replace F := F _ rfl
        generalize (l6 + 0 : Int32) = v12 at F ⊢
        refine wp_istore (L2 := [some (vR l0), some (vI l1), some (vI l2), some (vI l3), some (vI l4), some (vI l5), some (vI v12), some (vI l7), none, none]) rfl rfl rfl rfl ?_
        refine wp_iinc (y := 1) (L2 := [some (vR l0), some (vI l1), some (vI l2), some (vI l3), some (vI l4), some (vI l5), some (vI v12), some (vI (l7 + 1)), none, none]) rfl rfl rfl rfl rfl ?_
        replace F := F _ rfl
        generalize (l7 + 1 : Int32) = v13 at F ⊢
        refine wp_goto rfl rfl ?_
        exact F
  · replace F := F.2 c
    refine wp_iload' (L' := [some (vR l0), some (vI l1), some (vI l2), some (vI l3), some (vI l4), some (vI l5), some (vI l6), none, none, none]) rfl rfl rfl rfl ?_
    refine wp_aload rfl rfl rfl ?_
    refine wp_getR rfl rfl rfl f0 rfl ?_
    refine wp_iload rfl rfl rfl ?_
    obtain ⟨i6, b9, F⟩ := F
    refine wp_iaload rfl b9 rfl ?_
    refine wp_icmp_ge rfl rfl rfl rfl rfl (fun c => ?_) (fun c => ?_)
    · replace F := F.1 c
      refine wp_iload rfl rfl rfl ?_
      refine wp_iload rfl rfl rfl ?_
      refine wp_icmp_ge rfl rfl rfl rfl rfl (fun c => ?_) (fun c => ?_)
      · replace F := F.1 c
        refine wp_aload rfl rfl rfl ?_
        refine wp_getR rfl rfl rfl f0 rfl ?_
        refine wp_iload rfl rfl rfl ?_
        obtain ⟨i7, b9, F⟩ := F
        refine wp_iaload rfl b9 rfl ?_
        refine wp_iload rfl rfl rfl ?_
        refine wp_iload rfl rfl rfl ?_
        refine wp_imul rfl rfl ?_
        refine wp_iload rfl rfl rfl ?_
        refine wp_iadd rfl rfl ?_
        refine wp_ishr rfl rfl ?_
        refine wp_const rfl rfl ?_
        refine wp_iand rfl rfl ?_
        refine wp_const rfl rfl ?_
        refine wp_icmp_ne (Y := 1) rfl rfl rfl rfl rfl (fun c => ?_) (fun c => ?_)
        · replace F := F.1 c
          refine wp_const rfl rfl ?_
          refine wp_goto rfl rfl ?_
          refine wp_istore' (L' := [some (vR l0), some (vI l1), some (vI l2), some (vI l3), some (vI l4), none, some (vI l6), none, none, none]) (L2 := [some (vR l0), some (vI l1), some (vI l2), some (vI l3), some (vI l4), none, some (vI l6), some (vI 1), none, none]) rfl rfl rfl rfl rfl ?_
          refine wp_aload rfl rfl rfl ?_
          refine wp_getI rfl rfl rfl f0 rfl ?_
          refine wp_aload rfl rfl rfl ?_
          refine wp_getR rfl rfl rfl f0 rfl ?_
          refine wp_iload rfl rfl rfl ?_
          obtain ⟨i8, b9, F⟩ := F
          refine wp_iaload rfl b9 rfl ?_
          refine wp_icmp_ge rfl rfl rfl rfl rfl (fun c => ?_) (fun c => ?_)
          · replace F := F.1 c
            refine wp_aload rfl rfl rfl ?_
            refine wp_getR rfl rfl rfl f0 rfl ?_
            refine wp_iload rfl rfl rfl ?_
            obtain ⟨i9, b9, F⟩ := F
            refine wp_iaload rfl b9 rfl ?_
            refine wp_iload rfl rfl rfl ?_
            refine wp_icmp_eq rfl rfl rfl rfl rfl (fun c => ?_) (fun c => ?_)
            · replace F := F.1 c
              exact F
            · replace F := F.2 c
              refine wp_const rfl rfl ?_
              refine wp_goto rfl rfl ?_
              refine wp_istore' (L' := [some (vR l0), some (vI l1), some (vI l2), some (vI l3), some (vI l4), none, none, none, none, none]) (L2 := [some (vR l0), some (vI l1), some (vI l2), some (vI l3), some (vI l4), none, none, none, some (vI (-12)), none]) rfl rfl rfl rfl rfl ?_
              refine wp_const rfl rfl ?_
              refine wp_aload rfl rfl rfl ?_
              refine wp_getI rfl rfl rfl f0 rfl ?_
              refine wp_imul rfl rfl ?_
              replace F := F _ rfl
              generalize (6 * (gI h l0 89) : Int32) = v14 at F ⊢
              refine wp_istore (L2 := [some (vR l0), some (vI l1), some (vI l2), some (vI l3), some (vI l4), none, none, none, some (vI (-12)), some (vI v14)]) rfl rfl rfl rfl ?_
              refine wp_aload rfl rfl rfl ?_
              refine wp_getR rfl rfl rfl f0 rfl ?_
              refine wp_iload rfl rfl rfl ?_
              refine wp_iload rfl rfl rfl ?_
              obtain ⟨f1, F⟩ := F
              obtain ⟨i10, b9, F⟩ := F
              refine wp_iastore rfl f1 b9 rfl ?_
              have f2 : gK (pI h (gR h l0 90) i10 l1) l0 = 14 := (gK_pI _ _ _ _ _).trans f0
              replace F := F _ rfl
              generalize pI h (gR h l0 90) i10 l1 = h0 at F f2 ⊢
              refine wp_aload rfl rfl rfl ?_
              refine wp_getR rfl rfl rfl f2 rfl ?_
              refine wp_iload rfl rfl rfl ?_
              refine wp_const rfl rfl ?_
              refine wp_iadd rfl rfl ?_
              refine wp_iload rfl rfl rfl ?_
              obtain ⟨f3, F⟩ := F
              obtain ⟨i11, b9, F⟩ := F
              refine wp_iastore rfl f3 b9 rfl ?_
              have f4 : gK (pI h0 (gR h0 l0 90) i11 l2) l0 = 14 := (gK_pI _ _ _ _ _).trans f2
              replace F := F _ rfl
              generalize pI h0 (gR h0 l0 90) i11 l2 = h1 at F f4 ⊢
              refine wp_aload rfl rfl rfl ?_
              refine wp_getR rfl rfl rfl f4 rfl ?_
              refine wp_iload rfl rfl rfl ?_
              refine wp_const rfl rfl ?_
              refine wp_iadd rfl rfl ?_
              refine wp_iload rfl rfl rfl ?_
              obtain ⟨f5, F⟩ := F
              obtain ⟨i12, b9, F⟩ := F
              refine wp_iastore rfl f5 b9 rfl ?_
              have f6 : gK (pI h1 (gR h1 l0 90) i12 l3) l0 = 14 := (gK_pI _ _ _ _ _).trans f4
              replace F := F _ rfl
              generalize pI h1 (gR h1 l0 90) i12 l3 = h2 at F f6 ⊢
              refine wp_aload rfl rfl rfl ?_
              refine wp_getR rfl rfl rfl f6 rfl ?_
              refine wp_iload rfl rfl rfl ?_
              refine wp_const rfl rfl ?_
              refine wp_iadd rfl rfl ?_
              refine wp_iload rfl rfl rfl ?_
              obtain ⟨f7, F⟩ := F
              obtain ⟨i13, b9, F⟩ := F
              refine wp_iastore rfl f7 b9 rfl ?_
              have f8 : gK (pI h2 (gR h2 l0 90) i13 l4) l0 = 14 := (gK_pI _ _ _ _ _).trans f6
              replace F := F _ rfl
              generalize pI h2 (gR h2 l0 90) i13 l4 = h3 at F f8 ⊢
              refine wp_aload rfl rfl rfl ?_
              refine wp_getR rfl rfl rfl f8 rfl ?_
              refine wp_iload rfl rfl rfl ?_
              refine wp_const rfl rfl ?_
              refine wp_iadd rfl rfl ?_
              refine wp_iload rfl rfl rfl ?_
              obtain ⟨f9, F⟩ := F
              obtain ⟨i14, b9, F⟩ := F
              refine wp_iastore rfl f9 b9 rfl ?_
              have f10 : gK (pI h3 (gR h3 l0 90) i14 (-12)) l0 = 14 := (gK_pI _ _ _ _ _).trans f8
              replace F := F _ rfl
              generalize pI h3 (gR h3 l0 90) i14 (-12) = h4 at F f10 ⊢
              refine wp_aload rfl rfl rfl ?_
              refine wp_getR rfl rfl rfl f10 rfl ?_
              refine wp_iload rfl rfl rfl ?_
              refine wp_const rfl rfl ?_
              refine wp_iadd rfl rfl ?_
              refine wp_aload rfl rfl rfl ?_
              refine wp_getI rfl rfl rfl f10 rfl ?_
              obtain ⟨f11, F⟩ := F
              obtain ⟨i15, b9, F⟩ := F
              refine wp_iastore rfl f11 b9 rfl ?_
              have f12 : gK (pI h4 (gR h4 l0 90) i15 (gI h4 l0 1)) l0 = 14 := (gK_pI _ _ _ _ _).trans f10
              replace F := F _ rfl
              generalize pI h4 (gR h4 l0 90) i15 (gI h4 l0 1) = h5 at F f12 ⊢
              refine wp_aload rfl rfl rfl ?_
              refine wp_dup rfl rfl rfl ?_
              refine wp_getI rfl rfl rfl f12 rfl ?_
              refine wp_const rfl rfl ?_
              refine wp_iadd rfl rfl ?_
              obtain ⟨f13, F⟩ := F
              refine wp_putI rfl rfl rfl f13 f12 rfl ?_
              have f14 : gK (pI h5 l0 89 ((gI h5 l0 89) + 1)) l0 = 14 := (gK_pI _ _ _ _ _).trans f12
              replace F := F _ rfl
              generalize pI h5 l0 89 ((gI h5 l0 89) + 1) = h6 at F f14 ⊢
              refine wp_iload rfl rfl rfl ?_
              exact wp_retI rfl (Or.inl rfl) F
          · replace F := F.2 c
            exact F
        · replace F := F.2 c
          refine wp_const' (L' := [some (vR l0), some (vI l1), some (vI l2), some (vI l3), some (vI l4), none, some (vI l6), none, none, none]) rfl rfl rfl ?_
          refine wp_istore' (L' := [some (vR l0), some (vI l1), some (vI l2), some (vI l3), some (vI l4), none, some (vI l6), none, none, none]) (L2 := [some (vR l0), some (vI l1), some (vI l2), some (vI l3), some (vI l4), none, some (vI l6), some (vI 0), none, none]) rfl rfl rfl rfl rfl ?_
          refine wp_aload rfl rfl rfl ?_
          refine wp_getI rfl rfl rfl f0 rfl ?_
          refine wp_aload rfl rfl rfl ?_
          refine wp_getR rfl rfl rfl f0 rfl ?_
          refine wp_iload rfl rfl rfl ?_
          obtain ⟨i16, b9, F⟩ := F
          refine wp_iaload rfl b9 rfl ?_
          refine wp_icmp_ge rfl rfl rfl rfl rfl (fun c => ?_) (fun c => ?_)
          · replace F := F.1 c
            refine wp_aload rfl rfl rfl ?_
            refine wp_getR rfl rfl rfl f0 rfl ?_
            refine wp_iload rfl rfl rfl ?_
            obtain ⟨i17, b9, F⟩ := F
            refine wp_iaload rfl b9 rfl ?_
            refine wp_iload rfl rfl rfl ?_
            refine wp_icmp_eq rfl rfl rfl rfl rfl (fun c => ?_) (fun c => ?_)
            · replace F := F.1 c
              exact F
            · replace F := F.2 c
              refine wp_const rfl rfl ?_
              refine wp_goto rfl rfl ?_
              refine wp_istore' (L' := [some (vR l0), some (vI l1), some (vI l2), some (vI l3), some (vI l4), none, none, none, none, none]) (L2 := [some (vR l0), some (vI l1), some (vI l2), some (vI l3), some (vI l4), none, none, none, some (vI (-12)), none]) rfl rfl rfl rfl rfl ?_
              refine wp_const rfl rfl ?_
              refine wp_aload rfl rfl rfl ?_
              refine wp_getI rfl rfl rfl f0 rfl ?_
              refine wp_imul rfl rfl ?_
              replace F := F _ rfl
              generalize (6 * (gI h l0 89) : Int32) = v15 at F ⊢
              refine wp_istore (L2 := [some (vR l0), some (vI l1), some (vI l2), some (vI l3), some (vI l4), none, none, none, some (vI (-12)), some (vI v15)]) rfl rfl rfl rfl ?_
              refine wp_aload rfl rfl rfl ?_
              refine wp_getR rfl rfl rfl f0 rfl ?_
              refine wp_iload rfl rfl rfl ?_
              refine wp_iload rfl rfl rfl ?_
              obtain ⟨f15, F⟩ := F
              obtain ⟨i18, b9, F⟩ := F
              refine wp_iastore rfl f15 b9 rfl ?_
              have f16 : gK (pI h (gR h l0 90) i18 l1) l0 = 14 := (gK_pI _ _ _ _ _).trans f0
              replace F := F _ rfl
              generalize pI h (gR h l0 90) i18 l1 = h7 at F f16 ⊢
              refine wp_aload rfl rfl rfl ?_
              refine wp_getR rfl rfl rfl f16 rfl ?_
              refine wp_iload rfl rfl rfl ?_
              refine wp_const rfl rfl ?_
              refine wp_iadd rfl rfl ?_
              refine wp_iload rfl rfl rfl ?_
              obtain ⟨f17, F⟩ := F
              obtain ⟨i19, b9, F⟩ := F
              refine wp_iastore rfl f17 b9 rfl ?_
              have f18 : gK (pI h7 (gR h7 l0 90) i19 l2) l0 = 14 := (gK_pI _ _ _ _ _).trans f16
              replace F := F _ rfl
              generalize pI h7 (gR h7 l0 90) i19 l2 = h8 at F f18 ⊢
              refine wp_aload rfl rfl rfl ?_
              refine wp_getR rfl rfl rfl f18 rfl ?_
              refine wp_iload rfl rfl rfl ?_
              refine wp_const rfl rfl ?_
              refine wp_iadd rfl rfl ?_
              refine wp_iload rfl rfl rfl ?_
              obtain ⟨f19, F⟩ := F
              obtain ⟨i20, b9, F⟩ := F
              refine wp_iastore rfl f19 b9 rfl ?_
              have f20 : gK (pI h8 (gR h8 l0 90) i20 l3) l0 = 14 := (gK_pI _ _ _ _ _).trans f18
              replace F := F _ rfl
              generalize pI h8 (gR h8 l0 90) i20 l3 = h9 at F f20 ⊢
              refine wp_aload rfl rfl rfl ?_
              refine wp_getR rfl rfl rfl f20 rfl ?_
              refine wp_iload rfl rfl rfl ?_
              refine wp_const rfl rfl ?_
              refine wp_iadd rfl rfl ?_
              refine wp_iload rfl rfl rfl ?_
              obtain ⟨f21, F⟩ := F
              obtain ⟨i21, b9, F⟩ := F
              refine wp_iastore rfl f21 b9 rfl ?_
              have f22 : gK (pI h9 (gR h9 l0 90) i21 l4) l0 = 14 := (gK_pI _ _ _ _ _).trans f20
              replace F := F _ rfl
              generalize pI h9 (gR h9 l0 90) i21 l4 = h10 at F f22 ⊢
              refine wp_aload rfl rfl rfl ?_
              refine wp_getR rfl rfl rfl f22 rfl ?_
              refine wp_iload rfl rfl rfl ?_
              refine wp_const rfl rfl ?_
              refine wp_iadd rfl rfl ?_
              refine wp_iload rfl rfl rfl ?_
              obtain ⟨f23, F⟩ := F
              obtain ⟨i22, b9, F⟩ := F
              refine wp_iastore rfl f23 b9 rfl ?_
              have f24 : gK (pI h10 (gR h10 l0 90) i22 (-12)) l0 = 14 := (gK_pI _ _ _ _ _).trans f22
              replace F := F _ rfl
              generalize pI h10 (gR h10 l0 90) i22 (-12) = h11 at F f24 ⊢
              refine wp_aload rfl rfl rfl ?_
              refine wp_getR rfl rfl rfl f24 rfl ?_
              refine wp_iload rfl rfl rfl ?_
              refine wp_const rfl rfl ?_
              refine wp_iadd rfl rfl ?_
              refine wp_aload rfl rfl rfl ?_
              refine wp_getI rfl rfl rfl f24 rfl ?_
              obtain ⟨f25, F⟩ := F
              obtain ⟨i23, b9, F⟩ := F
              refine wp_iastore rfl f25 b9 rfl ?_
              have f26 : gK (pI h11 (gR h11 l0 90) i23 (gI h11 l0 1)) l0 = 14 := (gK_pI _ _ _ _ _).trans f24
              replace F := F _ rfl
              generalize pI h11 (gR h11 l0 90) i23 (gI h11 l0 1) = h12 at F f26 ⊢
              refine wp_aload rfl rfl rfl ?_
              refine wp_dup rfl rfl rfl ?_
              refine wp_getI rfl rfl rfl f26 rfl ?_
              refine wp_const rfl rfl ?_
              refine wp_iadd rfl rfl ?_
              obtain ⟨f27, F⟩ := F
              refine wp_putI rfl rfl rfl f27 f26 rfl ?_
              have f28 : gK (pI h12 l0 89 ((gI h12 l0 89) + 1)) l0 = 14 := (gK_pI _ _ _ _ _).trans f26
              replace F := F _ rfl
              generalize pI h12 l0 89 ((gI h12 l0 89) + 1) = h13 at F f28 ⊢
              refine wp_iload rfl rfl rfl ?_
              exact wp_retI rfl (Or.inl rfl) F
          · replace F := F.2 c
            exact F
      · replace F := F.2 c
        refine wp_const' (L' := [some (vR l0), some (vI l1), some (vI l2), some (vI l3), some (vI l4), none, some (vI l6), none, none, none]) rfl rfl rfl ?_
        refine wp_istore' (L' := [some (vR l0), some (vI l1), some (vI l2), some (vI l3), some (vI l4), none, some (vI l6), none, none, none]) (L2 := [some (vR l0), some (vI l1), some (vI l2), some (vI l3), some (vI l4), none, some (vI l6), some (vI 0), none, none]) rfl rfl rfl rfl rfl ?_
        refine wp_aload rfl rfl rfl ?_
        refine wp_getI rfl rfl rfl f0 rfl ?_
        refine wp_aload rfl rfl rfl ?_
        refine wp_getR rfl rfl rfl f0 rfl ?_
        refine wp_iload rfl rfl rfl ?_
        obtain ⟨i24, b9, F⟩ := F
        refine wp_iaload rfl b9 rfl ?_
        refine wp_icmp_ge rfl rfl rfl rfl rfl (fun c => ?_) (fun c => ?_)
        · replace F := F.1 c
          refine wp_aload rfl rfl rfl ?_
          refine wp_getR rfl rfl rfl f0 rfl ?_
          refine wp_iload rfl rfl rfl ?_
          obtain ⟨i25, b9, F⟩ := F
          refine wp_iaload rfl b9 rfl ?_
          refine wp_iload rfl rfl rfl ?_
          refine wp_icmp_eq rfl rfl rfl rfl rfl (fun c => ?_) (fun c => ?_)
          · replace F := F.1 c
            exact F
          · replace F := F.2 c
            refine wp_const rfl rfl ?_
            refine wp_goto rfl rfl ?_
            refine wp_istore' (L' := [some (vR l0), some (vI l1), some (vI l2), some (vI l3), some (vI l4), none, none, none, none, none]) (L2 := [some (vR l0), some (vI l1), some (vI l2), some (vI l3), some (vI l4), none, none, none, some (vI (-12)), none]) rfl rfl rfl rfl rfl ?_
            refine wp_const rfl rfl ?_
            refine wp_aload rfl rfl rfl ?_
            refine wp_getI rfl rfl rfl f0 rfl ?_
            refine wp_imul rfl rfl ?_
            replace F := F _ rfl
            generalize (6 * (gI h l0 89) : Int32) = v16 at F ⊢
            refine wp_istore (L2 := [some (vR l0), some (vI l1), some (vI l2), some (vI l3), some (vI l4), none, none, none, some (vI (-12)), some (vI v16)]) rfl rfl rfl rfl ?_
            refine wp_aload rfl rfl rfl ?_
            refine wp_getR rfl rfl rfl f0 rfl ?_
            refine wp_iload rfl rfl rfl ?_
            refine wp_iload rfl rfl rfl ?_
            obtain ⟨f29, F⟩ := F
            obtain ⟨i26, b9, F⟩ := F
            refine wp_iastore rfl f29 b9 rfl ?_
            have f30 : gK (pI h (gR h l0 90) i26 l1) l0 = 14 := (gK_pI _ _ _ _ _).trans f0
            replace F := F _ rfl
            generalize pI h (gR h l0 90) i26 l1 = h14 at F f30 ⊢
            refine wp_aload rfl rfl rfl ?_
            refine wp_getR rfl rfl rfl f30 rfl ?_
            refine wp_iload rfl rfl rfl ?_
            refine wp_const rfl rfl ?_
            refine wp_iadd rfl rfl ?_
            refine wp_iload rfl rfl rfl ?_
            obtain ⟨f31, F⟩ := F
            obtain ⟨i27, b9, F⟩ := F
            refine wp_iastore rfl f31 b9 rfl ?_
            have f32 : gK (pI h14 (gR h14 l0 90) i27 l2) l0 = 14 := (gK_pI _ _ _ _ _).trans f30
            replace F := F _ rfl
            generalize pI h14 (gR h14 l0 90) i27 l2 = h15 at F f32 ⊢
            refine wp_aload rfl rfl rfl ?_
            refine wp_getR rfl rfl rfl f32 rfl ?_
            refine wp_iload rfl rfl rfl ?_
            refine wp_const rfl rfl ?_
            refine wp_iadd rfl rfl ?_
            refine wp_iload rfl rfl rfl ?_
            obtain ⟨f33, F⟩ := F
            obtain ⟨i28, b9, F⟩ := F
            refine wp_iastore rfl f33 b9 rfl ?_
            have f34 : gK (pI h15 (gR h15 l0 90) i28 l3) l0 = 14 := (gK_pI _ _ _ _ _).trans f32
            replace F := F _ rfl
            generalize pI h15 (gR h15 l0 90) i28 l3 = h16 at F f34 ⊢
            refine wp_aload rfl rfl rfl ?_
            refine wp_getR rfl rfl rfl f34 rfl ?_
            refine wp_iload rfl rfl rfl ?_
            refine wp_const rfl rfl ?_
            refine wp_iadd rfl rfl ?_
            refine wp_iload rfl rfl rfl ?_
            obtain ⟨f35, F⟩ := F
            obtain ⟨i29, b9, F⟩ := F
            refine wp_iastore rfl f35 b9 rfl ?_
            have f36 : gK (pI h16 (gR h16 l0 90) i29 l4) l0 = 14 := (gK_pI _ _ _ _ _).trans f34
            replace F := F _ rfl
            generalize pI h16 (gR h16 l0 90) i29 l4 = h17 at F f36 ⊢
            refine wp_aload rfl rfl rfl ?_
            refine wp_getR rfl rfl rfl f36 rfl ?_
            refine wp_iload rfl rfl rfl ?_
            refine wp_const rfl rfl ?_
            refine wp_iadd rfl rfl ?_
            refine wp_iload rfl rfl rfl ?_
            obtain ⟨f37, F⟩ := F
            obtain ⟨i30, b9, F⟩ := F
            refine wp_iastore rfl f37 b9 rfl ?_
            have f38 : gK (pI h17 (gR h17 l0 90) i30 (-12)) l0 = 14 := (gK_pI _ _ _ _ _).trans f36
            replace F := F _ rfl
            generalize pI h17 (gR h17 l0 90) i30 (-12) = h18 at F f38 ⊢
            refine wp_aload rfl rfl rfl ?_
            refine wp_getR rfl rfl rfl f38 rfl ?_
            refine wp_iload rfl rfl rfl ?_
            refine wp_const rfl rfl ?_
            refine wp_iadd rfl rfl ?_
            refine wp_aload rfl rfl rfl ?_
            refine wp_getI rfl rfl rfl f38 rfl ?_
            obtain ⟨f39, F⟩ := F
            obtain ⟨i31, b9, F⟩ := F
            refine wp_iastore rfl f39 b9 rfl ?_
            have f40 : gK (pI h18 (gR h18 l0 90) i31 (gI h18 l0 1)) l0 = 14 := (gK_pI _ _ _ _ _).trans f38
            replace F := F _ rfl
            generalize pI h18 (gR h18 l0 90) i31 (gI h18 l0 1) = h19 at F f40 ⊢
            refine wp_aload rfl rfl rfl ?_
            refine wp_dup rfl rfl rfl ?_
            refine wp_getI rfl rfl rfl f40 rfl ?_
            refine wp_const rfl rfl ?_
            refine wp_iadd rfl rfl ?_
            obtain ⟨f41, F⟩ := F
            refine wp_putI rfl rfl rfl f41 f40 rfl ?_
            have f42 : gK (pI h19 l0 89 ((gI h19 l0 89) + 1)) l0 = 14 := (gK_pI _ _ _ _ _).trans f40
            replace F := F _ rfl
            generalize pI h19 l0 89 ((gI h19 l0 89) + 1) = h20 at F f42 ⊢
            refine wp_iload rfl rfl rfl ?_
            exact wp_retI rfl (Or.inl rfl) F
        · replace F := F.2 c
          exact F
    · replace F := F.2 c
      refine wp_const' (L' := [some (vR l0), some (vI l1), some (vI l2), some (vI l3), some (vI l4), none, some (vI l6), none, none, none]) rfl rfl rfl ?_
      refine wp_istore' (L' := [some (vR l0), some (vI l1), some (vI l2), some (vI l3), some (vI l4), none, some (vI l6), none, none, none]) (L2 := [some (vR l0), some (vI l1), some (vI l2), some (vI l3), some (vI l4), none, some (vI l6), some (vI 0), none, none]) rfl rfl rfl rfl rfl ?_
      refine wp_aload rfl rfl rfl ?_
      refine wp_getI rfl rfl rfl f0 rfl ?_
      refine wp_aload rfl rfl rfl ?_
      refine wp_getR rfl rfl rfl f0 rfl ?_
      refine wp_iload rfl rfl rfl ?_
      obtain ⟨i32, b9, F⟩ := F
      refine wp_iaload rfl b9 rfl ?_
      refine wp_icmp_ge rfl rfl rfl rfl rfl (fun c => ?_) (fun c => ?_)
      · replace F := F.1 c
        refine wp_aload rfl rfl rfl ?_
        refine wp_getR rfl rfl rfl f0 rfl ?_
        refine wp_iload rfl rfl rfl ?_
        obtain ⟨i33, b9, F⟩ := F
        refine wp_iaload rfl b9 rfl ?_
        refine wp_iload rfl rfl rfl ?_
        refine wp_icmp_eq rfl rfl rfl rfl rfl (fun c => ?_) (fun c => ?_)
        · replace F := F.1 c
          exact F
        · replace F := F.2 c
          refine wp_const rfl rfl ?_
          refine wp_goto rfl rfl ?_
          refine wp_istore' (L' := [some (vR l0), some (vI l1), some (vI l2), some (vI l3), some (vI l4), none, none, none, none, none]) (L2 := [some (vR l0), some (vI l1), some (vI l2), some (vI l3), some (vI l4), none, none, none, some (vI (-12)), none]) rfl rfl rfl rfl rfl ?_
          refine wp_const rfl rfl ?_
          refine wp_aload rfl rfl rfl ?_
          refine wp_getI rfl rfl rfl f0 rfl ?_
          refine wp_imul rfl rfl ?_
          replace F := F _ rfl
          generalize (6 * (gI h l0 89) : Int32) = v17 at F ⊢
          refine wp_istore (L2 := [some (vR l0), some (vI l1), some (vI l2), some (vI l3), some (vI l4), none, none, none, some (vI (-12)), some (vI v17)]) rfl rfl rfl rfl ?_
          refine wp_aload rfl rfl rfl ?_
          refine wp_getR rfl rfl rfl f0 rfl ?_
          refine wp_iload rfl rfl rfl ?_
          refine wp_iload rfl rfl rfl ?_
          obtain ⟨f43, F⟩ := F
          obtain ⟨i34, b9, F⟩ := F
          refine wp_iastore rfl f43 b9 rfl ?_
          have f44 : gK (pI h (gR h l0 90) i34 l1) l0 = 14 := (gK_pI _ _ _ _ _).trans f0
          replace F := F _ rfl
          generalize pI h (gR h l0 90) i34 l1 = h21 at F f44 ⊢
          refine wp_aload rfl rfl rfl ?_
          refine wp_getR rfl rfl rfl f44 rfl ?_
          refine wp_iload rfl rfl rfl ?_
          refine wp_const rfl rfl ?_
          refine wp_iadd rfl rfl ?_
          refine wp_iload rfl rfl rfl ?_
          obtain ⟨f45, F⟩ := F
          obtain ⟨i35, b9, F⟩ := F
          refine wp_iastore rfl f45 b9 rfl ?_
          have f46 : gK (pI h21 (gR h21 l0 90) i35 l2) l0 = 14 := (gK_pI _ _ _ _ _).trans f44
          replace F := F _ rfl
          generalize pI h21 (gR h21 l0 90) i35 l2 = h22 at F f46 ⊢
          refine wp_aload rfl rfl rfl ?_
          refine wp_getR rfl rfl rfl f46 rfl ?_
          refine wp_iload rfl rfl rfl ?_
          refine wp_const rfl rfl ?_
          refine wp_iadd rfl rfl ?_
          refine wp_iload rfl rfl rfl ?_
          obtain ⟨f47, F⟩ := F
          obtain ⟨i36, b9, F⟩ := F
          refine wp_iastore rfl f47 b9 rfl ?_
          have f48 : gK (pI h22 (gR h22 l0 90) i36 l3) l0 = 14 := (gK_pI _ _ _ _ _).trans f46
          replace F := F _ rfl
          generalize pI h22 (gR h22 l0 90) i36 l3 = h23 at F f48 ⊢
          refine wp_aload rfl rfl rfl ?_
          refine wp_getR rfl rfl rfl f48 rfl ?_
          refine wp_iload rfl rfl rfl ?_
          refine wp_const rfl rfl ?_
          refine wp_iadd rfl rfl ?_
          refine wp_iload rfl rfl rfl ?_
          obtain ⟨f49, F⟩ := F
          obtain ⟨i37, b9, F⟩ := F
          refine wp_iastore rfl f49 b9 rfl ?_
          have f50 : gK (pI h23 (gR h23 l0 90) i37 l4) l0 = 14 := (gK_pI _ _ _ _ _).trans f48
          replace F := F _ rfl
          generalize pI h23 (gR h23 l0 90) i37 l4 = h24 at F f50 ⊢
          refine wp_aload rfl rfl rfl ?_
          refine wp_getR rfl rfl rfl f50 rfl ?_
          refine wp_iload rfl rfl rfl ?_
          refine wp_const rfl rfl ?_
          refine wp_iadd rfl rfl ?_
          refine wp_iload rfl rfl rfl ?_
          obtain ⟨f51, F⟩ := F
          obtain ⟨i38, b9, F⟩ := F
          refine wp_iastore rfl f51 b9 rfl ?_
          have f52 : gK (pI h24 (gR h24 l0 90) i38 (-12)) l0 = 14 := (gK_pI _ _ _ _ _).trans f50
          replace F := F _ rfl
          generalize pI h24 (gR h24 l0 90) i38 (-12) = h25 at F f52 ⊢
          refine wp_aload rfl rfl rfl ?_
          refine wp_getR rfl rfl rfl f52 rfl ?_
          refine wp_iload rfl rfl rfl ?_
          refine wp_const rfl rfl ?_
          refine wp_iadd rfl rfl ?_
          refine wp_aload rfl rfl rfl ?_
          refine wp_getI rfl rfl rfl f52 rfl ?_
          obtain ⟨f53, F⟩ := F
          obtain ⟨i39, b9, F⟩ := F
          refine wp_iastore rfl f53 b9 rfl ?_
          have f54 : gK (pI h25 (gR h25 l0 90) i39 (gI h25 l0 1)) l0 = 14 := (gK_pI _ _ _ _ _).trans f52
          replace F := F _ rfl
          generalize pI h25 (gR h25 l0 90) i39 (gI h25 l0 1) = h26 at F f54 ⊢
          refine wp_aload rfl rfl rfl ?_
          refine wp_dup rfl rfl rfl ?_
          refine wp_getI rfl rfl rfl f54 rfl ?_
          refine wp_const rfl rfl ?_
          refine wp_iadd rfl rfl ?_
          obtain ⟨f55, F⟩ := F
          refine wp_putI rfl rfl rfl f55 f54 rfl ?_
          have f56 : gK (pI h26 l0 89 ((gI h26 l0 89) + 1)) l0 = 14 := (gK_pI _ _ _ _ _).trans f54
          replace F := F _ rfl
          generalize pI h26 l0 89 ((gI h26 l0 89) + 1) = h27 at F f56 ⊢
          refine wp_iload rfl rfl rfl ?_
          exact wp_retI rfl (Or.inl rfl) F
      · replace F := F.2 c
        exact F
theorem w321_255 {d : Nat} {l0 : Nat} {l1 : Int32} {l2 : Int32} {l3 : Int32} {l4 : Int32} {l6 : Int32} {l7 : Int32} {h : aH} {K : Int32 → aH → Prop} {X : Nat → aH → Prop} (F : gK h l0 = 14 ∧ ∃ i0 : Nat, inB h 100 (gR h l0 81) l1 i0 ∧ (((gI h (gR h l0 81) i0).toInt = 0 → ∀ v0 : Int32, v0 = 6 * (gI h l0 89) → 8 ≤ (gR h l0 90) ∧ ∃ i1 : Nat, inB h 100 (gR h l0 90) v0 i1 ∧ ∀ h0 : aH, h0 = pI h (gR h l0 90) i1 l1 → 8 ≤ (gR h0 l0 90) ∧ ∃ i2 : Nat, inB h0 100 (gR h0 l0 90) (v0 + 1) i2 ∧ ∀ h1 : aH, h1 = pI h0 (gR h0 l0 90) i2 l2 → 8 ≤ (gR h1 l0 90) ∧ ∃ i3 : Nat, inB h1 100 (gR h1 l0 90) (v0 + 2) i3 ∧ ∀ h2 : aH, h2 = pI h1 (gR h1 l0 90) i3 l3 → 8 ≤ (gR h2 l0 90) ∧ ∃ i4 : Nat, inB h2 100 (gR h2 l0 90) (v0 + 3) i4 ∧ ∀ h3 : aH, h3 = pI h2 (gR h2 l0 90) i4 l4 → 8 ≤ (gR h3 l0 90) ∧ ∃ i5 : Nat, inB h3 100 (gR h3 l0 90) (v0 + 4) i5 ∧ ∀ h4 : aH, h4 = pI h3 (gR h3 l0 90) i5 (-13) → 8 ≤ (gR h4 l0 90) ∧ ∃ i6 : Nat, inB h4 100 (gR h4 l0 90) (v0 + 5) i6 ∧ ∀ h5 : aH, h5 = pI h4 (gR h4 l0 90) i6 (gI h4 l0 1) → 8 ≤ l0 ∧ ∀ h6 : aH, h6 = pI h5 l0 89 ((gI h5 l0 89) + 1) → K (-13) h6) ∧ (¬ (gI h (gR h l0 81) i0).toInt = 0 → ((l7.toInt = 0 → ∀ v1 : Int32, v1 = 6 * (gI h l0 89) → 8 ≤ (gR h l0 90) ∧ ∃ i7 : Nat, inB h 100 (gR h l0 90) v1 i7 ∧ ∀ h7 : aH, h7 = pI h (gR h l0 90) i7 l1 → 8 ≤ (gR h7 l0 90) ∧ ∃ i8 : Nat, inB h7 100 (gR h7 l0 90) (v1 + 1) i8 ∧ ∀ h8 : aH, h8 = pI h7 (gR h7 l0 90) i8 l2 → 8 ≤ (gR h8 l0 90) ∧ ∃ i9 : Nat, inB h8 100 (gR h8 l0 90) (v1 + 2) i9 ∧ ∀ h9 : aH, h9 = pI h8 (gR h8 l0 90) i9 l3 → 8 ≤ (gR h9 l0 90) ∧ ∃ i10 : Nat, inB h9 100 (gR h9 l0 90) (v1 + 3) i10 ∧ ∀ h10 : aH, h10 = pI h9 (gR h9 l0 90) i10 l4 → 8 ≤ (gR h10 l0 90) ∧ ∃ i11 : Nat, inB h10 100 (gR h10 l0 90) (v1 + 4) i11 ∧ ∀ h11 : aH, h11 = pI h10 (gR h10 l0 90) i11 l6 → 8 ≤ (gR h11 l0 90) ∧ ∃ i12 : Nat, inB h11 100 (gR h11 l0 90) (v1 + 5) i12 ∧ ∀ h12 : aH, h12 = pI h11 (gR h11 l0 90) i12 (gI h11 l0 1) → 8 ≤ l0 ∧ ∀ h13 : aH, h13 = pI h12 l0 89 ((gI h12 l0 89) + 1) → K l6 h13) ∧ (¬ l7.toInt = 0 → ∃ i13 : Nat, inB h 100 (gR h l0 81) l1 i13 ∧ ((((gI h (gR h l0 81) i13) &&& 4).toInt = 0 → ∀ v2 : Int32, v2 = 6 * (gI h l0 89) → 8 ≤ (gR h l0 90) ∧ ∃ i14 : Nat, inB h 100 (gR h l0 90) v2 i14 ∧ ∀ h14 : aH, h14 = pI h (gR h l0 90) i14 l1 → 8 ≤ (gR h14 l0 90) ∧ ∃ i15 : Nat, inB h14 100 (gR h14 l0 90) (v2 + 1) i15 ∧ ∀ h15 : aH, h15 = pI h14 (gR h14 l0 90) i15 l2 → 8 ≤ (gR h15 l0 90) ∧ ∃ i16 : Nat, inB h15 100 (gR h15 l0 90) (v2 + 2) i16 ∧ ∀ h16 : aH, h16 = pI h15 (gR h15 l0 90) i16 l3 → 8 ≤ (gR h16 l0 90) ∧ ∃ i17 : Nat, inB h16 100 (gR h16 l0 90) (v2 + 3) i17 ∧ ∀ h17 : aH, h17 = pI h16 (gR h16 l0 90) i17 l4 → 8 ≤ (gR h17 l0 90) ∧ ∃ i18 : Nat, inB h17 100 (gR h17 l0 90) (v2 + 4) i18 ∧ ∀ h18 : aH, h18 = pI h17 (gR h17 l0 90) i18 (-14) → 8 ≤ (gR h18 l0 90) ∧ ∃ i19 : Nat, inB h18 100 (gR h18 l0 90) (v2 + 5) i19 ∧ ∀ h19 : aH, h19 = pI h18 (gR h18 l0 90) i19 (gI h18 l0 1) → 8 ≤ l0 ∧ ∀ h20 : aH, h20 = pI h19 l0 89 ((gI h19 l0 89) + 1) → K (-14) h20) ∧ (¬ ((gI h (gR h l0 81) i13) &&& 4).toInt = 0 → ∀ v3 : Int32, v3 = 6 * (gI h l0 89) → 8 ≤ (gR h l0 90) ∧ ∃ i20 : Nat, inB h 100 (gR h l0 90) v3 i20 ∧ ∀ h21 : aH, h21 = pI h (gR h l0 90) i20 l1 → 8 ≤ (gR h21 l0 90) ∧ ∃ i21 : Nat, inB h21 100 (gR h21 l0 90) (v3 + 1) i21 ∧ ∀ h22 : aH, h22 = pI h21 (gR h21 l0 90) i21 l2 → 8 ≤ (gR h22 l0 90) ∧ ∃ i22 : Nat, inB h22 100 (gR h22 l0 90) (v3 + 2) i22 ∧ ∀ h23 : aH, h23 = pI h22 (gR h22 l0 90) i22 l3 → 8 ≤ (gR h23 l0 90) ∧ ∃ i23 : Nat, inB h23 100 (gR h23 l0 90) (v3 + 3) i23 ∧ ∀ h24 : aH, h24 = pI h23 (gR h23 l0 90) i23 l4 → 8 ≤ (gR h24 l0 90) ∧ ∃ i24 : Nat, inB h24 100 (gR h24 l0 90) (v3 + 4) i24 ∧ ∀ h25 : aH, h25 = pI h24 (gR h24 l0 90) i24 l6 → 8 ≤ (gR h25 l0 90) ∧ ∃ i25 : Nat, inB h25 100 (gR h25 l0 90) (v3 + 5) i25 ∧ ∀ h26 : aH, h26 = pI h25 (gR h25 l0 90) i25 (gI h25 l0 1) → 8 ≤ l0 ∧ ∀ h27 : aH, h27 = pI h26 l0 89 ((gI h26 l0 89) + 1) → K l6 h27))))))) : Wp (d + 1) 321 (255, [some (vR l0), some (vI l1), some (vI l2), some (vI l3), some (vI l4), none, some (vI l6), some (vI l7), none, none], [], h) (RI K X) := by
  refine wp_aload' (L' := [some (vR l0), some (vI l1), some (vI l2), some (vI l3), some (vI l4), none, some (vI l6), some (vI l7), none, none]) rfl rfl rfl rfl ?_
  obtain ⟨f0, F⟩ := F
  refine wp_getR rfl rfl rfl f0 rfl ?_
  refine wp_iload rfl rfl rfl ?_
  obtain ⟨i0, b9, F⟩ := F
  refine wp_iaload rfl b9 rfl ?_
  refine wp_if_ne rfl rfl rfl rfl (fun c => ?_) (fun c => ?_)
  · replace F := F.1 c
    refine wp_const rfl rfl ?_
    refine wp_goto rfl rfl ?_
    refine wp_istore' (L' := [some (vR l0), some (vI l1), some (vI l2), some (vI l3), some (vI l4), none, none, none, none, none]) (L2 := [some (vR l0), some (vI l1), some (vI l2), some (vI l3), some (vI l4), none, none, none, some (vI (-13)), none]) rfl rfl rfl rfl rfl ?_
    refine wp_const rfl rfl ?_
    refine wp_aload rfl rfl rfl ?_
    refine wp_getI rfl rfl rfl f0 rfl ?_
    refine wp_imul rfl rfl ?_
    replace F := F _ rfl
    generalize (6 * (gI h l0 89) : Int32) = v0 at F ⊢
    refine wp_istore (L2 := [some (vR l0), some (vI l1), some (vI l2), some (vI l3), some (vI l4), none, none, none, some (vI (-13)), some (vI v0)]) rfl rfl rfl rfl ?_
    refine wp_aload rfl rfl rfl ?_
    refine wp_getR rfl rfl rfl f0 rfl ?_
    refine wp_iload rfl rfl rfl ?_
    refine wp_iload rfl rfl rfl ?_
    obtain ⟨f1, F⟩ := F
    obtain ⟨i1, b9, F⟩ := F
    refine wp_iastore rfl f1 b9 rfl ?_
    have f2 : gK (pI h (gR h l0 90) i1 l1) l0 = 14 := (gK_pI _ _ _ _ _).trans f0
    replace F := F _ rfl
    generalize pI h (gR h l0 90) i1 l1 = h0 at F f2 ⊢
    refine wp_aload rfl rfl rfl ?_
    refine wp_getR rfl rfl rfl f2 rfl ?_
    refine wp_iload rfl rfl rfl ?_
    refine wp_const rfl rfl ?_
    refine wp_iadd rfl rfl ?_
    refine wp_iload rfl rfl rfl ?_
    obtain ⟨f3, F⟩ := F
    obtain ⟨i2, b9, F⟩ := F
    refine wp_iastore rfl f3 b9 rfl ?_
    have f4 : gK (pI h0 (gR h0 l0 90) i2 l2) l0 = 14 := (gK_pI _ _ _ _ _).trans f2
    replace F := F _ rfl
    generalize pI h0 (gR h0 l0 90) i2 l2 = h1 at F f4 ⊢
    refine wp_aload rfl rfl rfl ?_
    refine wp_getR rfl rfl rfl f4 rfl ?_
    refine wp_iload rfl rfl rfl ?_
    refine wp_const rfl rfl ?_
    refine wp_iadd rfl rfl ?_
    refine wp_iload rfl rfl rfl ?_
    obtain ⟨f5, F⟩ := F
    obtain ⟨i3, b9, F⟩ := F
    refine wp_iastore rfl f5 b9 rfl ?_
    have f6 : gK (pI h1 (gR h1 l0 90) i3 l3) l0 = 14 := (gK_pI _ _ _ _ _).trans f4
    replace F := F _ rfl
    generalize pI h1 (gR h1 l0 90) i3 l3 = h2 at F f6 ⊢
    refine wp_aload rfl rfl rfl ?_
    refine wp_getR rfl rfl rfl f6 rfl ?_
    refine wp_iload rfl rfl rfl ?_
    refine wp_const rfl rfl ?_
    refine wp_iadd rfl rfl ?_
    refine wp_iload rfl rfl rfl ?_
    obtain ⟨f7, F⟩ := F
    obtain ⟨i4, b9, F⟩ := F
    refine wp_iastore rfl f7 b9 rfl ?_
    have f8 : gK (pI h2 (gR h2 l0 90) i4 l4) l0 = 14 := (gK_pI _ _ _ _ _).trans f6
    replace F := F _ rfl
    generalize pI h2 (gR h2 l0 90) i4 l4 = h3 at F f8 ⊢
    refine wp_aload rfl rfl rfl ?_
    refine wp_getR rfl rfl rfl f8 rfl ?_
    refine wp_iload rfl rfl rfl ?_
    refine wp_const rfl rfl ?_
    refine wp_iadd rfl rfl ?_
    refine wp_iload rfl rfl rfl ?_
    obtain ⟨f9, F⟩ := F
    obtain ⟨i5, b9, F⟩ := F
    refine wp_iastore rfl f9 b9 rfl ?_
    have f10 : gK (pI h3 (gR h3 l0 90) i5 (-13)) l0 = 14 := (gK_pI _ _ _ _ _).trans f8
    replace F := F _ rfl
    generalize pI h3 (gR h3 l0 90) i5 (-13) = h4 at F f10 ⊢
    refine wp_aload rfl rfl rfl ?_
    refine wp_getR rfl rfl rfl f10 rfl ?_
    refine wp_iload rfl rfl rfl ?_
    refine wp_const rfl rfl ?_
    refine wp_iadd rfl rfl ?_
    refine wp_aload rfl rfl rfl ?_
    refine wp_getI rfl rfl rfl f10 rfl ?_
    obtain ⟨f11, F⟩ := F
    obtain ⟨i6, b9, F⟩ := F
    refine wp_iastore rfl f11 b9 rfl ?_
    have f12 : gK (pI h4 (gR h4 l0 90) i6 (gI h4 l0 1)) l0 = 14 := (gK_pI _ _ _ _ _).trans f10
    replace F := F _ rfl
    generalize pI h4 (gR h4 l0 90) i6 (gI h4 l0 1) = h5 at F f12 ⊢
    refine wp_aload rfl rfl rfl ?_
    refine wp_dup rfl rfl rfl ?_
    refine wp_getI rfl rfl rfl f12 rfl ?_
    refine wp_const rfl rfl ?_
    refine wp_iadd rfl rfl ?_
    obtain ⟨f13, F⟩ := F
    refine wp_putI rfl rfl rfl f13 f12 rfl ?_
    have f14 : gK (pI h5 l0 89 ((gI h5 l0 89) + 1)) l0 = 14 := (gK_pI _ _ _ _ _).trans f12
    replace F := F _ rfl
    generalize pI h5 l0 89 ((gI h5 l0 89) + 1) = h6 at F f14 ⊢
    refine wp_iload rfl rfl rfl ?_
    exact wp_retI rfl (Or.inl rfl) F
  · replace F := F.2 c
    refine wp_iload' (L' := [some (vR l0), some (vI l1), some (vI l2), some (vI l3), some (vI l4), none, some (vI l6), some (vI l7), none, none]) rfl rfl rfl rfl ?_
    refine wp_if_eq rfl rfl rfl rfl (fun c => ?_) (fun c => ?_)
    · replace F := F.1 c
      refine wp_iload' (L' := [some (vR l0), some (vI l1), some (vI l2), some (vI l3), some (vI l4), none, some (vI l6), none, none, none]) rfl rfl rfl rfl ?_
      refine wp_istore' (L' := [some (vR l0), some (vI l1), some (vI l2), some (vI l3), some (vI l4), none, none, none, none, none]) (L2 := [some (vR l0), some (vI l1), some (vI l2), some (vI l3), some (vI l4), none, none, none, some (vI l6), none]) rfl rfl rfl rfl rfl ?_
      refine wp_const rfl rfl ?_
      refine wp_aload rfl rfl rfl ?_
      refine wp_getI rfl rfl rfl f0 rfl ?_
      refine wp_imul rfl rfl ?_
      replace F := F _ rfl
      generalize (6 * (gI h l0 89) : Int32) = v1 at F ⊢
      refine wp_istore (L2 := [some (vR l0), some (vI l1), some (vI l2), some (vI l3), some (vI l4), none, none, none, some (vI l6), some (vI v1)]) rfl rfl rfl rfl ?_
      refine wp_aload rfl rfl rfl ?_
      refine wp_getR rfl rfl rfl f0 rfl ?_
      refine wp_iload rfl rfl rfl ?_
      refine wp_iload rfl rfl rfl ?_
      obtain ⟨f15, F⟩ := F
      obtain ⟨i7, b9, F⟩ := F
      refine wp_iastore rfl f15 b9 rfl ?_
      have f16 : gK (pI h (gR h l0 90) i7 l1) l0 = 14 := (gK_pI _ _ _ _ _).trans f0
      replace F := F _ rfl
      generalize pI h (gR h l0 90) i7 l1 = h7 at F f16 ⊢
      refine wp_aload rfl rfl rfl ?_
      refine wp_getR rfl rfl rfl f16 rfl ?_
      refine wp_iload rfl rfl rfl ?_
      refine wp_const rfl rfl ?_
      refine wp_iadd rfl rfl ?_
      refine wp_iload rfl rfl rfl ?_
      obtain ⟨f17, F⟩ := F
      obtain ⟨i8, b9, F⟩ := F
      refine wp_iastore rfl f17 b9 rfl ?_
      have f18 : gK (pI h7 (gR h7 l0 90) i8 l2) l0 = 14 := (gK_pI _ _ _ _ _).trans f16
      replace F := F _ rfl
      generalize pI h7 (gR h7 l0 90) i8 l2 = h8 at F f18 ⊢
      refine wp_aload rfl rfl rfl ?_
      refine wp_getR rfl rfl rfl f18 rfl ?_
      refine wp_iload rfl rfl rfl ?_
      refine wp_const rfl rfl ?_
      refine wp_iadd rfl rfl ?_
      refine wp_iload rfl rfl rfl ?_
      obtain ⟨f19, F⟩ := F
      obtain ⟨i9, b9, F⟩ := F
      refine wp_iastore rfl f19 b9 rfl ?_
      have f20 : gK (pI h8 (gR h8 l0 90) i9 l3) l0 = 14 := (gK_pI _ _ _ _ _).trans f18
      replace F := F _ rfl
      generalize pI h8 (gR h8 l0 90) i9 l3 = h9 at F f20 ⊢
      refine wp_aload rfl rfl rfl ?_
      refine wp_getR rfl rfl rfl f20 rfl ?_
      refine wp_iload rfl rfl rfl ?_
      refine wp_const rfl rfl ?_
      refine wp_iadd rfl rfl ?_
      refine wp_iload rfl rfl rfl ?_
      obtain ⟨f21, F⟩ := F
      obtain ⟨i10, b9, F⟩ := F
      refine wp_iastore rfl f21 b9 rfl ?_
      have f22 : gK (pI h9 (gR h9 l0 90) i10 l4) l0 = 14 := (gK_pI _ _ _ _ _).trans f20
      replace F := F _ rfl
      generalize pI h9 (gR h9 l0 90) i10 l4 = h10 at F f22 ⊢
      refine wp_aload rfl rfl rfl ?_
      refine wp_getR rfl rfl rfl f22 rfl ?_
      refine wp_iload rfl rfl rfl ?_
      refine wp_const rfl rfl ?_
      refine wp_iadd rfl rfl ?_
      refine wp_iload rfl rfl rfl ?_
      obtain ⟨f23, F⟩ := F
      obtain ⟨i11, b9, F⟩ := F
      refine wp_iastore rfl f23 b9 rfl ?_
      have f24 : gK (pI h10 (gR h10 l0 90) i11 l6) l0 = 14 := (gK_pI _ _ _ _ _).trans f22
      replace F := F _ rfl
      generalize pI h10 (gR h10 l0 90) i11 l6 = h11 at F f24 ⊢
      refine wp_aload rfl rfl rfl ?_
      refine wp_getR rfl rfl rfl f24 rfl ?_
      refine wp_iload rfl rfl rfl ?_
      refine wp_const rfl rfl ?_
      refine wp_iadd rfl rfl ?_
      refine wp_aload rfl rfl rfl ?_
      refine wp_getI rfl rfl rfl f24 rfl ?_
      obtain ⟨f25, F⟩ := F
      obtain ⟨i12, b9, F⟩ := F
      refine wp_iastore rfl f25 b9 rfl ?_
      have f26 : gK (pI h11 (gR h11 l0 90) i12 (gI h11 l0 1)) l0 = 14 := (gK_pI _ _ _ _ _).trans f24
      replace F := F _ rfl
      generalize pI h11 (gR h11 l0 90) i12 (gI h11 l0 1) = h12 at F f26 ⊢
      refine wp_aload rfl rfl rfl ?_
      refine wp_dup rfl rfl rfl ?_
      refine wp_getI rfl rfl rfl f26 rfl ?_
      refine wp_const rfl rfl ?_
      refine wp_iadd rfl rfl ?_
      obtain ⟨f27, F⟩ := F
      refine wp_putI rfl rfl rfl f27 f26 rfl ?_
      have f28 : gK (pI h12 l0 89 ((gI h12 l0 89) + 1)) l0 = 14 := (gK_pI _ _ _ _ _).trans f26
      replace F := F _ rfl
      generalize pI h12 l0 89 ((gI h12 l0 89) + 1) = h13 at F f28 ⊢
      refine wp_iload rfl rfl rfl ?_
      exact wp_retI rfl (Or.inl rfl) F
    · replace F := F.2 c
      refine wp_aload rfl rfl rfl ?_
      refine wp_getR rfl rfl rfl f0 rfl ?_
      refine wp_iload rfl rfl rfl ?_
      obtain ⟨i13, b9, F⟩ := F
      refine wp_iaload rfl b9 rfl ?_
      refine wp_const rfl rfl ?_
      refine wp_iand rfl rfl ?_
      refine wp_if_ne rfl rfl rfl rfl (fun c => ?_) (fun c => ?_)
      · replace F := F.1 c
        refine wp_const rfl rfl ?_
        refine wp_goto rfl rfl ?_
        refine wp_istore' (L' := [some (vR l0), some (vI l1), some (vI l2), some (vI l3), some (vI l4), none, none, none, none, none]) (L2 := [some (vR l0), some (vI l1), some (vI l2), some (vI l3), some (vI l4), none, none, none, some (vI (-14)), none]) rfl rfl rfl rfl rfl ?_
        refine wp_const rfl rfl ?_
        refine wp_aload rfl rfl rfl ?_
        refine wp_getI rfl rfl rfl f0 rfl ?_
        refine wp_imul rfl rfl ?_
        replace F := F _ rfl
        generalize (6 * (gI h l0 89) : Int32) = v2 at F ⊢
        refine wp_istore (L2 := [some (vR l0), some (vI l1), some (vI l2), some (vI l3), some (vI l4), none, none, none, some (vI (-14)), some (vI v2)]) rfl rfl rfl rfl ?_
        refine wp_aload rfl rfl rfl ?_
        refine wp_getR rfl rfl rfl f0 rfl ?_
        refine wp_iload rfl rfl rfl ?_
        refine wp_iload rfl rfl rfl ?_
        obtain ⟨f29, F⟩ := F
        obtain ⟨i14, b9, F⟩ := F
        refine wp_iastore rfl f29 b9 rfl ?_
        have f30 : gK (pI h (gR h l0 90) i14 l1) l0 = 14 := (gK_pI _ _ _ _ _).trans f0
        replace F := F _ rfl
        generalize pI h (gR h l0 90) i14 l1 = h14 at F f30 ⊢
        refine wp_aload rfl rfl rfl ?_
        refine wp_getR rfl rfl rfl f30 rfl ?_
        refine wp_iload rfl rfl rfl ?_
        refine wp_const rfl rfl ?_
        refine wp_iadd rfl rfl ?_
        refine wp_iload rfl rfl rfl ?_
        obtain ⟨f31, F⟩ := F
        obtain ⟨i15, b9, F⟩ := F
        refine wp_iastore rfl f31 b9 rfl ?_
        have f32 : gK (pI h14 (gR h14 l0 90) i15 l2) l0 = 14 := (gK_pI _ _ _ _ _).trans f30
        replace F := F _ rfl
        generalize pI h14 (gR h14 l0 90) i15 l2 = h15 at F f32 ⊢
        refine wp_aload rfl rfl rfl ?_
        refine wp_getR rfl rfl rfl f32 rfl ?_
        refine wp_iload rfl rfl rfl ?_
        refine wp_const rfl rfl ?_
        refine wp_iadd rfl rfl ?_
        refine wp_iload rfl rfl rfl ?_
        obtain ⟨f33, F⟩ := F
        obtain ⟨i16, b9, F⟩ := F
        refine wp_iastore rfl f33 b9 rfl ?_
        have f34 : gK (pI h15 (gR h15 l0 90) i16 l3) l0 = 14 := (gK_pI _ _ _ _ _).trans f32
        replace F := F _ rfl
        generalize pI h15 (gR h15 l0 90) i16 l3 = h16 at F f34 ⊢
        refine wp_aload rfl rfl rfl ?_
        refine wp_getR rfl rfl rfl f34 rfl ?_
        refine wp_iload rfl rfl rfl ?_
        refine wp_const rfl rfl ?_
        refine wp_iadd rfl rfl ?_
        refine wp_iload rfl rfl rfl ?_
        obtain ⟨f35, F⟩ := F
        obtain ⟨i17, b9, F⟩ := F
        refine wp_iastore rfl f35 b9 rfl ?_
        have f36 : gK (pI h16 (gR h16 l0 90) i17 l4) l0 = 14 := (gK_pI _ _ _ _ _).trans f34
        replace F := F _ rfl
        generalize pI h16 (gR h16 l0 90) i17 l4 = h17 at F f36 ⊢
        refine wp_aload rfl rfl rfl ?_
        refine wp_getR rfl rfl rfl f36 rfl ?_
        refine wp_iload rfl rfl rfl ?_
        refine wp_const rfl rfl ?_
        refine wp_iadd rfl rfl ?_
        refine wp_iload rfl rfl rfl ?_
        obtain ⟨f37, F⟩ := F
        obtain ⟨i18, b9, F⟩ := F
        refine wp_iastore rfl f37 b9 rfl ?_
        have f38 : gK (pI h17 (gR h17 l0 90) i18 (-14)) l0 = 14 := (gK_pI _ _ _ _ _).trans f36
        replace F := F _ rfl
        generalize pI h17 (gR h17 l0 90) i18 (-14) = h18 at F f38 ⊢
        refine wp_aload rfl rfl rfl ?_
        refine wp_getR rfl rfl rfl f38 rfl ?_
        refine wp_iload rfl rfl rfl ?_
        refine wp_const rfl rfl ?_
        refine wp_iadd rfl rfl ?_
        refine wp_aload rfl rfl rfl ?_
        refine wp_getI rfl rfl rfl f38 rfl ?_
        obtain ⟨f39, F⟩ := F
        obtain ⟨i19, b9, F⟩ := F
        refine wp_iastore rfl f39 b9 rfl ?_
        have f40 : gK (pI h18 (gR h18 l0 90) i19 (gI h18 l0 1)) l0 = 14 := (gK_pI _ _ _ _ _).trans f38
        replace F := F _ rfl
        generalize pI h18 (gR h18 l0 90) i19 (gI h18 l0 1) = h19 at F f40 ⊢
        refine wp_aload rfl rfl rfl ?_
        refine wp_dup rfl rfl rfl ?_
        refine wp_getI rfl rfl rfl f40 rfl ?_
        refine wp_const rfl rfl ?_
        refine wp_iadd rfl rfl ?_
        obtain ⟨f41, F⟩ := F
        refine wp_putI rfl rfl rfl f41 f40 rfl ?_
        have f42 : gK (pI h19 l0 89 ((gI h19 l0 89) + 1)) l0 = 14 := (gK_pI _ _ _ _ _).trans f40
        replace F := F _ rfl
        generalize pI h19 l0 89 ((gI h19 l0 89) + 1) = h20 at F f42 ⊢
        refine wp_iload rfl rfl rfl ?_
        exact wp_retI rfl (Or.inl rfl) F
      · replace F := F.2 c
        refine wp_iload' (L' := [some (vR l0), some (vI l1), some (vI l2), some (vI l3), some (vI l4), none, some (vI l6), none, none, none]) rfl rfl rfl rfl ?_
        refine wp_istore' (L' := [some (vR l0), some (vI l1), some (vI l2), some (vI l3), some (vI l4), none, none, none, none, none]) (L2 := [some (vR l0), some (vI l1), some (vI l2), some (vI l3), some (vI l4), none, none, none, some (vI l6), none]) rfl rfl rfl rfl rfl ?_
        refine wp_const rfl rfl ?_
        refine wp_aload rfl rfl rfl ?_
        refine wp_getI rfl rfl rfl f0 rfl ?_
        refine wp_imul rfl rfl ?_
        replace F := F _ rfl
        generalize (6 * (gI h l0 89) : Int32) = v3 at F ⊢
        refine wp_istore (L2 := [some (vR l0), some (vI l1), some (vI l2), some (vI l3), some (vI l4), none, none, none, some (vI l6), some (vI v3)]) rfl rfl rfl rfl ?_
        refine wp_aload rfl rfl rfl ?_
        refine wp_getR rfl rfl rfl f0 rfl ?_
        refine wp_iload rfl rfl rfl ?_
        refine wp_iload rfl rfl rfl ?_
        obtain ⟨f43, F⟩ := F
        obtain ⟨i20, b9, F⟩ := F
        refine wp_iastore rfl f43 b9 rfl ?_
        have f44 : gK (pI h (gR h l0 90) i20 l1) l0 = 14 := (gK_pI _ _ _ _ _).trans f0
        replace F := F _ rfl
        generalize pI h (gR h l0 90) i20 l1 = h21 at F f44 ⊢
        refine wp_aload rfl rfl rfl ?_
        refine wp_getR rfl rfl rfl f44 rfl ?_
        refine wp_iload rfl rfl rfl ?_
        refine wp_const rfl rfl ?_
        refine wp_iadd rfl rfl ?_
        refine wp_iload rfl rfl rfl ?_
        obtain ⟨f45, F⟩ := F
        obtain ⟨i21, b9, F⟩ := F
        refine wp_iastore rfl f45 b9 rfl ?_
        have f46 : gK (pI h21 (gR h21 l0 90) i21 l2) l0 = 14 := (gK_pI _ _ _ _ _).trans f44
        replace F := F _ rfl
        generalize pI h21 (gR h21 l0 90) i21 l2 = h22 at F f46 ⊢
        refine wp_aload rfl rfl rfl ?_
        refine wp_getR rfl rfl rfl f46 rfl ?_
        refine wp_iload rfl rfl rfl ?_
        refine wp_const rfl rfl ?_
        refine wp_iadd rfl rfl ?_
        refine wp_iload rfl rfl rfl ?_
        obtain ⟨f47, F⟩ := F
        obtain ⟨i22, b9, F⟩ := F
        refine wp_iastore rfl f47 b9 rfl ?_
        have f48 : gK (pI h22 (gR h22 l0 90) i22 l3) l0 = 14 := (gK_pI _ _ _ _ _).trans f46
        replace F := F _ rfl
        generalize pI h22 (gR h22 l0 90) i22 l3 = h23 at F f48 ⊢
        refine wp_aload rfl rfl rfl ?_
        refine wp_getR rfl rfl rfl f48 rfl ?_
        refine wp_iload rfl rfl rfl ?_
        refine wp_const rfl rfl ?_
        refine wp_iadd rfl rfl ?_
        refine wp_iload rfl rfl rfl ?_
        obtain ⟨f49, F⟩ := F
        obtain ⟨i23, b9, F⟩ := F
        refine wp_iastore rfl f49 b9 rfl ?_
        have f50 : gK (pI h23 (gR h23 l0 90) i23 l4) l0 = 14 := (gK_pI _ _ _ _ _).trans f48
        replace F := F _ rfl
        generalize pI h23 (gR h23 l0 90) i23 l4 = h24 at F f50 ⊢
        refine wp_aload rfl rfl rfl ?_
        refine wp_getR rfl rfl rfl f50 rfl ?_
        refine wp_iload rfl rfl rfl ?_
        refine wp_const rfl rfl ?_
        refine wp_iadd rfl rfl ?_
        refine wp_iload rfl rfl rfl ?_
        obtain ⟨f51, F⟩ := F
        obtain ⟨i24, b9, F⟩ := F
        refine wp_iastore rfl f51 b9 rfl ?_
        have f52 : gK (pI h24 (gR h24 l0 90) i24 l6) l0 = 14 := (gK_pI _ _ _ _ _).trans f50
        replace F := F _ rfl
        generalize pI h24 (gR h24 l0 90) i24 l6 = h25 at F f52 ⊢
        refine wp_aload rfl rfl rfl ?_
        refine wp_getR rfl rfl rfl f52 rfl ?_
        refine wp_iload rfl rfl rfl ?_
        refine wp_const rfl rfl ?_
        refine wp_iadd rfl rfl ?_
        refine wp_aload rfl rfl rfl ?_
        refine wp_getI rfl rfl rfl f52 rfl ?_
        obtain ⟨f53, F⟩ := F
        obtain ⟨i25, b9, F⟩ := F
        refine wp_iastore rfl f53 b9 rfl ?_
        have f54 : gK (pI h25 (gR h25 l0 90) i25 (gI h25 l0 1)) l0 = 14 := (gK_pI _ _ _ _ _).trans f52
        replace F := F _ rfl
        generalize pI h25 (gR h25 l0 90) i25 (gI h25 l0 1) = h26 at F f54 ⊢
        refine wp_aload rfl rfl rfl ?_
        refine wp_dup rfl rfl rfl ?_
        refine wp_getI rfl rfl rfl f54 rfl ?_
        refine wp_const rfl rfl ?_
        refine wp_iadd rfl rfl ?_
        obtain ⟨f55, F⟩ := F
        refine wp_putI rfl rfl rfl f55 f54 rfl ?_
        have f56 : gK (pI h26 l0 89 ((gI h26 l0 89) + 1)) l0 = 14 := (gK_pI _ _ _ _ _).trans f54
        replace F := F _ rfl
        generalize pI h26 l0 89 ((gI h26 l0 89) + 1) = h27 at F f56 ⊢
        refine wp_iload rfl rfl rfl ?_
        exact wp_retI rfl (Or.inl rfl) F
-- CensusOffice looked (II)I
theorem m322 {d : Nat} {a0 : Nat} {a1 : Int32} {a2 : Int32} {h : aH} {K : Int32 → aH → Prop} {X : Nat → aH → Prop} (F : gK h a0 = 1 ∧ 8 ≤ (gR h a0 11) ∧ gK h (gR h a0 11) = 8 ∧ CI d 28 [vR (gR h a0 11)] h (fun y0 h0 => CV d 29 [vI a1, vI y0] h0 (fun h1 => ((a2.toInt < 0 → X 1 (gNew h1 200 6)) ∧ (¬ a2.toInt < 0 → ((a2.toInt < 6 → gK h1 a0 = 1 ∧ 8 ≤ (gR h1 a0 11) ∧ gK h1 (gR h1 a0 11) = 8 ∧ CI d 32 [vR (gR h1 a0 11), vI a1, vI a2] h1 (fun y1 h2 => K y1 h2) X) ∧ (¬ a2.toInt < 6 → X 1 (gNew h1 200 6)))))) X) X) : CI (d + 1) 322 [vR a0, vI a1, vI a2] h K X := by
  show Wp (d + 1) 322 (0, [some (vR a0), some (vI a1), some (vI a2)], [], h) (RI K X)
  refine wp_iload rfl rfl rfl ?_
  refine wp_aload rfl rfl rfl ?_
  obtain ⟨f0, F⟩ := F
  refine wp_getR rfl rfl rfl f0 rfl ?_
  obtain ⟨f1, F⟩ := F
  obtain ⟨f2, F⟩ := F
  refine wp_callI rfl rfl rfl (rcv_v f1 f2 (by decide) (by decide)) rfl rfl rfl rfl ?_
  refine CI.mono F (fun y0 h0 F => ?_) (fun _ _ w => rx_I w)
  refine wp_callV rfl rfl rfl rfl rfl rfl rfl rfl ?_
  refine CV.mono F (fun h1 F => ?_) (fun _ _ w => rx_I w)
  refine wp_iload rfl rfl rfl ?_
  refine wp_if_lt rfl rfl rfl rfl (fun c => ?_) (fun c => ?_)
  · replace F := F.1 c
    exact wp_thrI rfl F
  · replace F := F.2 c
    refine wp_iload rfl rfl rfl ?_
    refine wp_const rfl rfl ?_
    refine wp_icmp_lt (Y := 6) rfl rfl rfl rfl rfl (fun c => ?_) (fun c => ?_)
    · replace F := F.1 c
      refine wp_aload rfl rfl rfl ?_
      obtain ⟨f3, F⟩ := F
      refine wp_getR rfl rfl rfl f3 rfl ?_
      refine wp_iload rfl rfl rfl ?_
      refine wp_iload rfl rfl rfl ?_
      obtain ⟨f4, F⟩ := F
      obtain ⟨f5, F⟩ := F
      refine wp_callI rfl rfl rfl (rcv_v f4 f5 (by decide) (by decide)) rfl rfl rfl rfl ?_
      refine CI.mono F (fun y1 h2 F => ?_) (fun _ _ w => rx_I w)
      exact wp_retI rfl (Or.inl rfl) F
    · replace F := F.2 c
      exact wp_thrI rfl F
-- CensusOfficeLaw looked (LCensusOffice;II[J)I
theorem m323 {d : Nat} {a0 : Nat} {a1 : Int32} {a2 : Int32} {a3 : Nat} {h : aH} {K : Int32 → aH → Prop} {X : Nat → aH → Prop} (F : 8 ≤ a0 ∧ gK h a0 = 1 ∧ CI d 322 [vR a0, vI a1, vI a2] h (fun y0 h0 => 8 ≤ a3 ∧ inB h0 101 a3 0 0 ∧ ∀ h1 : aH, h1 = pJ h0 a3 0 (y0.toInt64) → K 0 h1) (fun x9 h9 => (x9 = 3 ∧ K 1 h9) ∨ (x9 = 1 ∧ K 2 h9))) : CI (d + 1) 323 [vR a0, vI a1, vI a2, vR a3] h K X := by
  show Wp (d + 1) 323 (0, [some (vR a0), some (vI a1), some (vI a2), some (vR a3), none], [], h) (RI K X)
  refine wp_aload rfl rfl rfl ?_
  refine wp_const rfl rfl ?_
  refine wp_aload rfl rfl rfl ?_
  refine wp_iload rfl rfl rfl ?_
  refine wp_iload rfl rfl rfl ?_
  obtain ⟨f0, F⟩ := F
  obtain ⟨f1, F⟩ := F
  refine wp_callhI (X := (fun x9 h9 => (x9 = 3 ∧ K 1 h9) ∨ (x9 = 1 ∧ K 2 h9))) rfl rfl rfl (rcv_v f0 f1 (by decide) (by decide)) rfl rfl rfl (fun x9 h9 F => ?_) ?_
  · rcases F with ⟨rfl, F⟩ | ⟨rfl, F⟩
    · refine ⟨13, rfl, ?_⟩
      refine wp_astoreJ' (L' := [none, none, none, none, none]) (L2 := [none, none, none, none, some vJ]) rfl rfl rfl rfl rfl ?_
      refine wp_const rfl rfl ?_
      exact wp_retI rfl (Or.inl rfl) F
    · refine ⟨17, rfl, ?_⟩
      refine wp_astoreJ' (L' := [none, none, none, none, none]) (L2 := [none, none, none, none, some vJ]) rfl rfl rfl rfl rfl ?_
      refine wp_const rfl rfl ?_
      exact wp_retI rfl (Or.inl rfl) F
  · refine CI.mono F (fun y0 h0 F => ?_) (fun _ _ w => w)
    refine wp_i2l rfl rfl ?_
    obtain ⟨f2, F⟩ := F
    obtain ⟨b9, F⟩ := F
    refine wp_lastore rfl f2 b9 rfl ?_
    replace F := F _ rfl
    generalize pJ h0 a3 0 (y0.toInt64) = h1 at F ⊢
    refine wp_goto rfl rfl ?_
    refine wp_const' (L' := [none, none, none, none, none]) rfl rfl rfl ?_
    exact wp_retI rfl (Or.inl rfl) F
-- CensusOfficeModel looked (II)I
theorem m324 {d : Nat} {a0 : Nat} {a1 : Int32} {a2 : Int32} {h : aH} {K : Int32 → aH → Prop} {X : Nat → aH → Prop} (F : 8 ≤ a0 ∧ gK h a0 = 14 ∧ ∀ h0 : aH, h0 = pI h a0 0 0 → CI d 14 [vL (a1.toInt64), vL 0, vL (((gI h0 a0 89) - 1).toInt64)] h0 (fun y0 h1 => ((y0.toInt = 0 → gK h1 a0 = 14 ∧ CI d 15 [vR a0, vI 1] h1 (fun y1 h2 => K y1 h2) X) ∧ (¬ y0.toInt = 0 → CI d 14 [vL (a2.toInt64), vL 0, vL 5] h1 (fun y2 h3 => ((y2.toInt = 0 → gK h3 a0 = 14 ∧ CI d 15 [vR a0, vI 2] h3 (fun y3 h4 => K y3 h4) X) ∧ (¬ y2.toInt = 0 → gK h3 a0 = 14 ∧ ∃ i0 : Nat, inB h3 100 (gR h3 a0 90) ((6 * a1) + a2) i0 ∧ K (gI h3 (gR h3 a0 90) i0) h3))) X))) X) : CI (d + 1) 324 [vR a0, vI a1, vI a2] h K X := by
  show Wp (d + 1) 324 (0, [some (vR a0), some (vI a1), some (vI a2)], [], h) (RI K X)
  refine wp_aload rfl rfl rfl ?_
  refine wp_const rfl rfl ?_
  obtain ⟨f0, F⟩ := F
  obtain ⟨f1, F⟩ := F
  refine wp_putI rfl rfl rfl f0 f1 rfl ?_
  have f2 : gK (pI h a0 0 0) a0 = 14 := (gK_pI _ _ _ _ _).trans f1
  replace F := F _ rfl
  generalize pI h a0 0 0 = h0 at F f2 ⊢
  refine wp_iload rfl rfl rfl ?_
  refine wp_i2l rfl rfl ?_
  refine wp_const rfl rfl ?_
  refine wp_aload rfl rfl rfl ?_
  refine wp_getI rfl rfl rfl f2 rfl ?_
  refine wp_const rfl rfl ?_
  refine wp_isub rfl rfl ?_
  refine wp_i2l rfl rfl ?_
  refine wp_callI rfl rfl rfl rfl rfl rfl rfl rfl ?_
  refine CI.mono F (fun y0 h1 F => ?_) (fun _ _ w => rx_I w)
  refine wp_if_ne rfl rfl rfl rfl (fun c => ?_) (fun c => ?_)
  · replace F := F.1 c
    refine wp_aload rfl rfl rfl ?_
    refine wp_const rfl rfl ?_
    obtain ⟨f3, F⟩ := F
    refine wp_callI rfl rfl rfl (rcv_v f0 f3 (by decide) (by decide)) rfl rfl rfl rfl ?_
    refine CI.mono F (fun y1 h2 F => ?_) (fun _ _ w => rx_I w)
    exact wp_retI rfl (Or.inl rfl) F
  · replace F := F.2 c
    refine wp_iload rfl rfl rfl ?_
    refine wp_i2l rfl rfl ?_
    refine wp_const rfl rfl ?_
    refine wp_const rfl rfl ?_
    refine wp_callI rfl rfl rfl rfl rfl rfl rfl rfl ?_
    refine CI.mono F (fun y2 h3 F => ?_) (fun _ _ w => rx_I w)
    refine wp_if_eq rfl rfl rfl rfl (fun c => ?_) (fun c => ?_)
    · replace F := F.1 c
      refine wp_aload' (L' := [some (vR a0), none, none]) rfl rfl rfl rfl ?_
      refine wp_const rfl rfl ?_
      obtain ⟨f4, F⟩ := F
      refine wp_callI rfl rfl rfl (rcv_v f0 f4 (by decide) (by decide)) rfl rfl rfl rfl ?_
      refine CI.mono F (fun y3 h4 F => ?_) (fun _ _ w => rx_I w)
      exact wp_retI rfl (Or.inl rfl) F
    · replace F := F.2 c
      refine wp_aload rfl rfl rfl ?_
      obtain ⟨f5, F⟩ := F
      refine wp_getR rfl rfl rfl f5 rfl ?_
      refine wp_const rfl rfl ?_
      refine wp_iload rfl rfl rfl ?_
      refine wp_imul rfl rfl ?_
      refine wp_iload rfl rfl rfl ?_
      refine wp_iadd rfl rfl ?_
      obtain ⟨i0, b9, F⟩ := F
      refine wp_iaload rfl b9 rfl ?_
      refine wp_goto rfl rfl ?_
      exact wp_retI rfl (Or.inl rfl) F
-- CensusOffice told (I)I
theorem m325 {d : Nat} {a0 : Nat} {a1 : Int32} {h : aH} {K : Int32 → aH → Prop} {X : Nat → aH → Prop} (F : ((a1.toInt = 0 → gK h a0 = 1 ∧ gK h (gR h a0 0) = 6 ∧ 8 ≤ (gR h (gR h a0 0) 0) ∧ gK h (gR h (gR h a0 0) 0) = 8 ∧ CI d 28 [vR (gR h (gR h a0 0) 0)] h (fun y0 h0 => K y0 h0) X) ∧ (a1.toInt = 1 → gK h a0 = 1 ∧ gK h (gR h a0 0) = 6 ∧ 8 ≤ (gR h (gR h a0 0) 1) ∧ gK h (gR h (gR h a0 0) 1) = 8 ∧ CI d 28 [vR (gR h (gR h a0 0) 1)] h (fun y1 h1 => K y1 h1) X) ∧ (a1.toInt = 2 → gK h a0 = 1 ∧ gK h (gR h a0 0) = 6 ∧ K (gI h (gR h a0 0) 5) h) ∧ (a1.toInt = 3 → gK h a0 = 1 ∧ 8 ≤ (gR h a0 4) ∧ gK h (gR h a0 4) = 13 ∧ CI d 65 [vR (gR h a0 4)] h (fun y2 h2 => K y2 h2) X) ∧ (a1.toInt = 4 → gK h a0 = 1 ∧ 8 ≤ (gR h a0 5) ∧ gK h (gR h a0 5) = 13 ∧ CI d 65 [vR (gR h a0 5)] h (fun y3 h3 => K y3 h3) X) ∧ (a1.toInt = 5 → gK h a0 = 1 ∧ 8 ≤ (gR h a0 5) ∧ gK h (gR h a0 5) = 13 ∧ CI d 65 [vR (gR h a0 5)] h (fun y4 h4 => gK h4 a0 = 1 ∧ 8 ≤ (gR h4 a0 6) ∧ gK h4 (gR h4 a0 6) = 13 ∧ CI d 65 [vR (gR h4 a0 6)] h4 (fun y5 h5 => K (y4 - y5) h5) X) X) ∧ (a1.toInt = 6 → gK h a0 = 1 ∧ 8 ≤ (gR h a0 6) ∧ gK h (gR h a0 6) = 13 ∧ CI d 65 [vR (gR h a0 6)] h (fun y6 h6 => K y6 h6) X) ∧ (a1.toInt = 7 → gK h a0 = 1 ∧ 8 ≤ (gR h a0 7) ∧ gK h (gR h a0 7) = 13 ∧ CI d 65 [vR (gR h a0 7)] h (fun y7 h7 => K y7 h7) X) ∧ (a1.toInt = 8 → gK h a0 = 1 ∧ 8 ≤ (gR h a0 8) ∧ gK h (gR h a0 8) = 13 ∧ CI d 65 [vR (gR h a0 8)] h (fun y8 h8 => K y8 h8) X) ∧ (a1.toInt = 9 → gK h a0 = 1 ∧ 8 ≤ (gR h a0 10) ∧ gK h (gR h a0 10) = 8 ∧ CI d 28 [vR (gR h a0 10)] h (fun y9 h9 => K y9 h9) X) ∧ (a1.toInt = 10 → gK h a0 = 1 ∧ 8 ≤ (gR h a0 9) ∧ gK h (gR h a0 9) = 13 ∧ CI d 65 [vR (gR h a0 9)] h (fun y10 h10 => K y10 h10) X) ∧ (a1.toInt = 11 → gK h a0 = 1 ∧ 8 ≤ (gR h a0 11) ∧ gK h (gR h a0 11) = 8 ∧ CI d 28 [vR (gR h a0 11)] h (fun y11 h11 => K y11 h11) X) ∧ (a1.toInt = 12 → gK h a0 = 1 ∧ gK h (gR h a0 1) = 12 ∧ K (gI h (gR h a0 1) 1) h) ∧ (a1.toInt = 13 → gK h a0 = 1 ∧ K (gI h a0 12) h) ∧ (a1.toInt = 14 → 8 ≤ a0 ∧ gK h a0 = 1 ∧ CI d 35 [vR a0] h (fun y12 h12 => K y12 h12) X) ∧ ((¬ a1.toInt = 0 ∧ ¬ a1.toInt = 1 ∧ ¬ a1.toInt = 2 ∧ ¬ a1.toInt = 3 ∧ ¬ a1.toInt = 4 ∧ ¬ a1.toInt = 5 ∧ ¬ a1.toInt = 6 ∧ ¬ a1.toInt = 7 ∧ ¬ a1.toInt = 8 ∧ ¬ a1.toInt = 9 ∧ ¬ a1.toInt = 10 ∧ ¬ a1.toInt = 11 ∧ ¬ a1.toInt = 12 ∧ ¬ a1.toInt = 13 ∧ ¬ a1.toInt = 14) → X 1 (gNew h 200 6)))) : CI (d + 1) 325 [vR a0, vI a1] h K X := by
  show Wp (d + 1) 325 (0, [some (vR a0), some (vI a1)], [], h) (RI K X)
  refine wp_iload rfl rfl rfl ?_
  by_cases c0 : a1.toInt = 0
  · refine wp_tsw (t := 76) rfl (by unfold aSw; rw [c0]; rfl) ?_
    replace F := F.1 c0
    refine wp_aload rfl rfl rfl ?_
    obtain ⟨f0, F⟩ := F
    refine wp_getR rfl rfl rfl f0 rfl ?_
    obtain ⟨f1, F⟩ := F
    refine wp_getR rfl rfl rfl f1 rfl ?_
    obtain ⟨f2, F⟩ := F
    obtain ⟨f3, F⟩ := F
    refine wp_callI rfl rfl rfl (rcv_v f2 f3 (by decide) (by decide)) rfl rfl rfl rfl ?_
    refine CI.mono F (fun y0 h0 F => ?_) (fun _ _ w => rx_I w)
    exact wp_retI rfl (Or.inl rfl) F
  by_cases c1 : a1.toInt = 1
  · refine wp_tsw (t := 87) rfl (by unfold aSw; rw [c1]; rfl) ?_
    replace F := F.2.1 c1
    refine wp_aload' (L' := [some (vR a0), none]) rfl rfl rfl rfl ?_
    obtain ⟨f4, F⟩ := F
    refine wp_getR rfl rfl rfl f4 rfl ?_
    obtain ⟨f5, F⟩ := F
    refine wp_getR rfl rfl rfl f5 rfl ?_
    obtain ⟨f6, F⟩ := F
    obtain ⟨f7, F⟩ := F
    refine wp_callI rfl rfl rfl (rcv_v f6 f7 (by decide) (by decide)) rfl rfl rfl rfl ?_
    refine CI.mono F (fun y1 h1 F => ?_) (fun _ _ w => rx_I w)
    exact wp_retI rfl (Or.inl rfl) F
  by_cases c2 : a1.toInt = 2
  · refine wp_tsw (t := 98) rfl (by unfold aSw; rw [c2]; rfl) ?_
    replace F := F.2.2.1 c2
    refine wp_aload' (L' := [some (vR a0), none]) rfl rfl rfl rfl ?_
    obtain ⟨f8, F⟩ := F
    refine wp_getR rfl rfl rfl f8 rfl ?_
    obtain ⟨f9, F⟩ := F
    refine wp_getI rfl rfl rfl f9 rfl ?_
    exact wp_retI rfl (Or.inl rfl) F
  by_cases c3 : a1.toInt = 3
  · refine wp_tsw (t := 106) rfl (by unfold aSw; rw [c3]; rfl) ?_
    replace F := F.2.2.2.1 c3
    refine wp_aload' (L' := [some (vR a0), none]) rfl rfl rfl rfl ?_
    obtain ⟨f10, F⟩ := F
    refine wp_getR rfl rfl rfl f10 rfl ?_
    obtain ⟨f11, F⟩ := F
    obtain ⟨f12, F⟩ := F
    refine wp_callI rfl rfl rfl (rcv_v f11 f12 (by decide) (by decide)) rfl rfl rfl rfl ?_
    refine CI.mono F (fun y2 h2 F => ?_) (fun _ _ w => rx_I w)
    exact wp_retI rfl (Or.inl rfl) F
  by_cases c4 : a1.toInt = 4
  · refine wp_tsw (t := 114) rfl (by unfold aSw; rw [c4]; rfl) ?_
    replace F := F.2.2.2.2.1 c4
    refine wp_aload' (L' := [some (vR a0), none]) rfl rfl rfl rfl ?_
    obtain ⟨f13, F⟩ := F
    refine wp_getR rfl rfl rfl f13 rfl ?_
    obtain ⟨f14, F⟩ := F
    obtain ⟨f15, F⟩ := F
    refine wp_callI rfl rfl rfl (rcv_v f14 f15 (by decide) (by decide)) rfl rfl rfl rfl ?_
    refine CI.mono F (fun y3 h3 F => ?_) (fun _ _ w => rx_I w)
    exact wp_retI rfl (Or.inl rfl) F
  by_cases c5 : a1.toInt = 5
  · refine wp_tsw (t := 122) rfl (by unfold aSw; rw [c5]; rfl) ?_
    replace F := F.2.2.2.2.2.1 c5
    refine wp_aload' (L' := [some (vR a0), none]) rfl rfl rfl rfl ?_
    obtain ⟨f16, F⟩ := F
    refine wp_getR rfl rfl rfl f16 rfl ?_
    obtain ⟨f17, F⟩ := F
    obtain ⟨f18, F⟩ := F
    refine wp_callI rfl rfl rfl (rcv_v f17 f18 (by decide) (by decide)) rfl rfl rfl rfl ?_
    refine CI.mono F (fun y4 h4 F => ?_) (fun _ _ w => rx_I w)
    refine wp_aload rfl rfl rfl ?_
    obtain ⟨f19, F⟩ := F
    refine wp_getR rfl rfl rfl f19 rfl ?_
    obtain ⟨f20, F⟩ := F
    obtain ⟨f21, F⟩ := F
    refine wp_callI rfl rfl rfl (rcv_v f20 f21 (by decide) (by decide)) rfl rfl rfl rfl ?_
    refine CI.mono F (fun y5 h5 F => ?_) (fun _ _ w => rx_I w)
    refine wp_isub rfl rfl ?_
    exact wp_retI rfl (Or.inl rfl) F
  by_cases c6 : a1.toInt = 6
  · refine wp_tsw (t := 138) rfl (by unfold aSw; rw [c6]; rfl) ?_
    replace F := F.2.2.2.2.2.2.1 c6
    refine wp_aload' (L' := [some (vR a0), none]) rfl rfl rfl rfl ?_
    obtain ⟨f22, F⟩ := F
    refine wp_getR rfl rfl rfl f22 rfl ?_
    obtain ⟨f23, F⟩ := F
    obtain ⟨f24, F⟩ := F
    refine wp_callI rfl rfl rfl (rcv_v f23 f24 (by decide) (by decide)) rfl rfl rfl rfl ?_
    refine CI.mono F (fun y6 h6 F => ?_) (fun _ _ w => rx_I w)
    exact wp_retI rfl (Or.inl rfl) F
  by_cases c7 : a1.toInt = 7
  · refine wp_tsw (t := 146) rfl (by unfold aSw; rw [c7]; rfl) ?_
    replace F := F.2.2.2.2.2.2.2.1 c7
    refine wp_aload' (L' := [some (vR a0), none]) rfl rfl rfl rfl ?_
    obtain ⟨f25, F⟩ := F
    refine wp_getR rfl rfl rfl f25 rfl ?_
    obtain ⟨f26, F⟩ := F
    obtain ⟨f27, F⟩ := F
    refine wp_callI rfl rfl rfl (rcv_v f26 f27 (by decide) (by decide)) rfl rfl rfl rfl ?_
    refine CI.mono F (fun y7 h7 F => ?_) (fun _ _ w => rx_I w)
    exact wp_retI rfl (Or.inl rfl) F
  by_cases c8 : a1.toInt = 8
  · refine wp_tsw (t := 154) rfl (by unfold aSw; rw [c8]; rfl) ?_
    replace F := F.2.2.2.2.2.2.2.2.1 c8
    refine wp_aload' (L' := [some (vR a0), none]) rfl rfl rfl rfl ?_
    obtain ⟨f28, F⟩ := F
    refine wp_getR rfl rfl rfl f28 rfl ?_
    obtain ⟨f29, F⟩ := F
    obtain ⟨f30, F⟩ := F
    refine wp_callI rfl rfl rfl (rcv_v f29 f30 (by decide) (by decide)) rfl rfl rfl rfl ?_
    refine CI.mono F (fun y8 h8 F => ?_) (fun _ _ w => rx_I w)
    exact wp_retI rfl (Or.inl rfl) F
  by_cases c9 : a1.toInt = 9
  · refine wp_tsw (t := 162) rfl (by unfold aSw; rw [c9]; rfl) ?_
    replace F := F.2.2.2.2.2.2.2.2.2.1 c9
    refine wp_aload' (L' := [some (vR a0), none]) rfl rfl rfl rfl ?_
    obtain ⟨f31, F⟩ := F
    refine wp_getR rfl rfl rfl f31 rfl ?_
    obtain ⟨f32, F⟩ := F
    obtain ⟨f33, F⟩ := F
    refine wp_callI rfl rfl rfl (rcv_v f32 f33 (by decide) (by decide)) rfl rfl rfl rfl ?_
    refine CI.mono F (fun y9 h9 F => ?_) (fun _ _ w => rx_I w)
    exact wp_retI rfl (Or.inl rfl) F
  by_cases c10 : a1.toInt = 10
  · refine wp_tsw (t := 170) rfl (by unfold aSw; rw [c10]; rfl) ?_
    replace F := F.2.2.2.2.2.2.2.2.2.2.1 c10
    refine wp_aload' (L' := [some (vR a0), none]) rfl rfl rfl rfl ?_
    obtain ⟨f34, F⟩ := F
    refine wp_getR rfl rfl rfl f34 rfl ?_
    obtain ⟨f35, F⟩ := F
    obtain ⟨f36, F⟩ := F
    refine wp_callI rfl rfl rfl (rcv_v f35 f36 (by decide) (by decide)) rfl rfl rfl rfl ?_
    refine CI.mono F (fun y10 h10 F => ?_) (fun _ _ w => rx_I w)
    exact wp_retI rfl (Or.inl rfl) F
  by_cases c11 : a1.toInt = 11
  · refine wp_tsw (t := 178) rfl (by unfold aSw; rw [c11]; rfl) ?_
    replace F := F.2.2.2.2.2.2.2.2.2.2.2.1 c11
    refine wp_aload' (L' := [some (vR a0), none]) rfl rfl rfl rfl ?_
    obtain ⟨f37, F⟩ := F
    refine wp_getR rfl rfl rfl f37 rfl ?_
    obtain ⟨f38, F⟩ := F
    obtain ⟨f39, F⟩ := F
    refine wp_callI rfl rfl rfl (rcv_v f38 f39 (by decide) (by decide)) rfl rfl rfl rfl ?_
    refine CI.mono F (fun y11 h11 F => ?_) (fun _ _ w => rx_I w)
    exact wp_retI rfl (Or.inl rfl) F
  by_cases c12 : a1.toInt = 12
  · refine wp_tsw (t := 186) rfl (by unfold aSw; rw [c12]; rfl) ?_
    replace F := F.2.2.2.2.2.2.2.2.2.2.2.2.1 c12
    refine wp_aload' (L' := [some (vR a0), none]) rfl rfl rfl rfl ?_
    obtain ⟨f40, F⟩ := F
    refine wp_getR rfl rfl rfl f40 rfl ?_
    obtain ⟨f41, F⟩ := F
    refine wp_getI rfl rfl rfl f41 rfl ?_
    exact wp_retI rfl (Or.inl rfl) F
  by_cases c13 : a1.toInt = 13
  · refine wp_tsw (t := 194) rfl (by unfold aSw; rw [c13]; rfl) ?_
    replace F := F.2.2.2.2.2.2.2.2.2.2.2.2.2.1 c13
    refine wp_aload' (L' := [some (vR a0), none]) rfl rfl rfl rfl ?_
    obtain ⟨f42, F⟩ := F
    refine wp_getI rfl rfl rfl f42 rfl ?_
    exact wp_retI rfl (Or.inl rfl) F
  by_cases c14 : a1.toInt = 14
  · refine wp_tsw (t := 199) rfl (by unfold aSw; rw [c14]; rfl) ?_
    replace F := F.2.2.2.2.2.2.2.2.2.2.2.2.2.2.1 c14
    refine wp_aload' (L' := [some (vR a0), none]) rfl rfl rfl rfl ?_
    obtain ⟨f43, F⟩ := F
    obtain ⟨f44, F⟩ := F
    refine wp_callI rfl rfl rfl (rcv_v f43 f44 (by decide) (by decide)) rfl rfl rfl rfl ?_
    refine CI.mono F (fun y12 h12 F => ?_) (fun _ _ w => rx_I w)
    exact wp_retI rfl (Or.inl rfl) F
  refine wp_tsw (t := 204) rfl (by unfold aSw; rw [if_pos (by omega)]; rfl) ?_
  replace F := F.2.2.2.2.2.2.2.2.2.2.2.2.2.2.2 ⟨c0, c1, c2, c3, c4, c5, c6, c7, c8, c9, c10, c11, c12, c13, c14⟩
  exact wp_thrI rfl F
-- CensusOfficeLaw told (LCensusOffice;I[J)I
theorem m326 {d : Nat} {a0 : Nat} {a1 : Int32} {a2 : Nat} {h : aH} {K : Int32 → aH → Prop} {X : Nat → aH → Prop} (F : 8 ≤ a0 ∧ gK h a0 = 1 ∧ CI d 325 [vR a0, vI a1] h (fun y0 h0 => 8 ≤ a2 ∧ inB h0 101 a2 0 0 ∧ ∀ h1 : aH, h1 = pJ h0 a2 0 (y0.toInt64) → K 0 h1) (fun x9 h9 => (x9 = 1 ∧ K 1 h9))) : CI (d + 1) 326 [vR a0, vI a1, vR a2] h K X := by
  show Wp (d + 1) 326 (0, [some (vR a0), some (vI a1), some (vR a2), none], [], h) (RI K X)
  refine wp_aload rfl rfl rfl ?_
  refine wp_const rfl rfl ?_
  refine wp_aload rfl rfl rfl ?_
  refine wp_iload rfl rfl rfl ?_
  obtain ⟨f0, F⟩ := F
  obtain ⟨f1, F⟩ := F
  refine wp_callhI (X := (fun x9 h9 => (x9 = 1 ∧ K 1 h9))) rfl rfl rfl (rcv_v f0 f1 (by decide) (by decide)) rfl rfl rfl (fun x9 h9 F => ?_) ?_
  · rcases F with ⟨rfl, F⟩
    · refine ⟨12, rfl, ?_⟩
      refine wp_astoreJ' (L' := [none, none, none, none]) (L2 := [none, none, none, some vJ]) rfl rfl rfl rfl rfl ?_
      refine wp_const rfl rfl ?_
      exact wp_retI rfl (Or.inl rfl) F
  · refine CI.mono F (fun y0 h0 F => ?_) (fun _ _ w => w)
    refine wp_i2l rfl rfl ?_
    obtain ⟨f2, F⟩ := F
    obtain ⟨b9, F⟩ := F
    refine wp_lastore rfl f2 b9 rfl ?_
    replace F := F _ rfl
    generalize pJ h0 a2 0 (y0.toInt64) = h1 at F ⊢
    refine wp_goto rfl rfl ?_
    refine wp_const' (L' := [none, none, none, none]) rfl rfl rfl ?_
    exact wp_retI rfl (Or.inl rfl) F
-- CensusOfficeModel told (I)I
theorem m327 {d : Nat} {a0 : Nat} {a1 : Int32} {h : aH} {K : Int32 → aH → Prop} {X : Nat → aH → Prop} (F : 8 ≤ a0 ∧ gK h a0 = 14 ∧ ∀ h0 : aH, h0 = pI h a0 0 0 → Wp (d + 1) 327 (9, [some (vR a0), some (vI a1), some (vI 0), some (vI 0)], [], h0) (RI K X)) : CI (d + 1) 327 [vR a0, vI a1] h K X := by
  show Wp (d + 1) 327 (0, [some (vR a0), some (vI a1), none, none], [], h) (RI K X)
  refine wp_aload rfl rfl rfl ?_
  refine wp_const rfl rfl ?_
  obtain ⟨f0, F⟩ := F
  obtain ⟨f1, F⟩ := F
  refine wp_putI rfl rfl rfl f0 f1 rfl ?_
  have f2 : gK (pI h a0 0 0) a0 = 14 := (gK_pI _ _ _ _ _).trans f1
  replace F := F _ rfl
  generalize pI h a0 0 0 = h0 at F f2 ⊢
  refine wp_const rfl rfl ?_
  refine wp_istore (L2 := [some (vR a0), some (vI a1), some (vI 0), none]) rfl rfl rfl rfl ?_
  refine wp_const rfl rfl ?_
  refine wp_istore (L2 := [some (vR a0), some (vI a1), some (vI 0), some (vI 0)]) rfl rfl rfl rfl ?_
  exact F
theorem w327_9 {d : Nat} {l0 : Nat} {l1 : Int32} {l2 : Int32} {l3 : Int32} {h : aH} {K : Int32 → aH → Prop} {X : Nat → aH → Prop} (F : gK h l0 = 14 ∧ ((l3.toInt < (gI h l0 38).toInt → ∃ i0 : Nat, inB h 102 (gR h l0 42) l3 i0 ∧ (((gI h (gR h l0 42) i0).toInt = 0 → ∀ v0 : Int32, v0 = l2 + 1 → ∀ v1 : Int32, v1 = l3 + 1 → Wp (d + 1) 327 (9, [some (vR l0), some (vI l1), some (vI v0), some (vI v1)], [], h) (RI K X)) ∧ (¬ (gI h (gR h l0 42) i0).toInt = 0 → ∀ v2 : Int32, v2 = l2 + 0 → ∀ v3 : Int32, v3 = l3 + 1 → Wp (d + 1) 327 (9, [some (vR l0), some (vI l1), some (vI v2), some (vI v3)], [], h) (RI K X)))) ∧ (¬ l3.toInt < (gI h l0 38).toInt → ((l1.toInt = 0 → K (gI h l0 2) h) ∧ (l1.toInt = 1 → K (gI h l0 6) h) ∧ (l1.toInt = 2 → K (gI h l0 5) h) ∧ (l1.toInt = 3 → K (gI h l0 14) h) ∧ (l1.toInt = 4 → K (gI h l0 38) h) ∧ (l1.toInt = 5 → K l2 h) ∧ (l1.toInt = 6 → K (gI h l0 53) h) ∧ (l1.toInt = 7 → K (gI h l0 64) h) ∧ (l1.toInt = 8 → K (gI h l0 69) h) ∧ (l1.toInt = 9 → K (gI h l0 80) h) ∧ (l1.toInt = 10 → K (gI h l0 82) h) ∧ (l1.toInt = 11 → K (gI h l0 89) h) ∧ (l1.toInt = 12 → K (gI h l0 13) h) ∧ (l1.toInt = 13 → K (gI h l0 1) h) ∧ (l1.toInt = 14 → 8 ≤ l0 ∧ CI d 40 [vR l0] h (fun y0 h0 => K y0 h0) X) ∧ ((¬ l1.toInt = 0 ∧ ¬ l1.toInt = 1 ∧ ¬ l1.toInt = 2 ∧ ¬ l1.toInt = 3 ∧ ¬ l1.toInt = 4 ∧ ¬ l1.toInt = 5 ∧ ¬ l1.toInt = 6 ∧ ¬ l1.toInt = 7 ∧ ¬ l1.toInt = 8 ∧ ¬ l1.toInt = 9 ∧ ¬ l1.toInt = 10 ∧ ¬ l1.toInt = 11 ∧ ¬ l1.toInt = 12 ∧ ¬ l1.toInt = 13 ∧ ¬ l1.toInt = 14) → 8 ≤ l0 ∧ CI d 15 [vR l0, vI 1] h (fun y1 h1 => K y1 h1) X))))) : Wp (d + 1) 327 (9, [some (vR l0), some (vI l1), some (vI l2), some (vI l3)], [], h) (RI K X) := by
  refine wp_iload rfl rfl rfl ?_
  refine wp_aload rfl rfl rfl ?_
  obtain ⟨f0, F⟩ := F
  refine wp_getI rfl rfl rfl f0 rfl ?_
  refine wp_icmp_ge rfl rfl rfl rfl rfl (fun c => ?_) (fun c => ?_)
  · replace F := F.1 c
    refine wp_iload rfl rfl rfl ?_
    refine wp_aload rfl rfl rfl ?_
    refine wp_getR rfl rfl rfl f0 rfl ?_
    refine wp_iload rfl rfl rfl ?_
    obtain ⟨i0, b9, F⟩ := F
    refine wp_zaload rfl b9 rfl ?_
    refine wp_if_eq rfl rfl rfl rfl (fun c => ?_) (fun c => ?_)
    · replace F := F.1 c
      refine wp_const' (L' := [some (vR l0), some (vI l1), none, some (vI l3)]) rfl rfl rfl ?_
      refine wp_iadd' (L' := [some (vR l0), some (vI l1), none, some (vI l3)]) rfl rfl rfl ?_
      replace F := F _ rfl
      generalize (l2 + 1 : Int32) = v0 at F ⊢
      refine wp_istore (L2 := [some (vR l0), some (vI l1), some (vI v0), some (vI l3)]) rfl rfl rfl rfl ?_
      refine wp_iinc (y := 1) (L2 := [some (vR l0), some (vI l1), some (vI v0), some (vI (l3 + 1))]) rfl rfl rfl rfl rfl ?_
      replace F := F _ rfl
      generalize (l3 + 1 : Int32) = v1 at F ⊢
      refine wp_goto rfl rfl ?_
      exact F
    · replace F := F.2 c
      refine wp_const rfl rfl ?_
      refine wp_goto rfl rfl ?_
      refine wp_iadd' (L' := [some (vR l0), some (vI l1), none, some (vI l3)]) rfl rfl rfl ?_
      replace F := F _ rfl
      generalize (l2 + 0 : Int32) = v2 at F ⊢
      refine wp_istore (L2 := [some (vR l0), some (vI l1), some (vI v2), some (vI l3)]) rfl rfl rfl rfl ?_
      refine wp_iinc (y := 1) (L2 := [some (vR l0), some (vI l1), some (vI v2), some (vI (l3 + 1))]) rfl rfl rfl rfl rfl ?_
      replace F := F _ rfl
      generalize (l3 + 1 : Int32) = v3 at F ⊢
      refine wp_goto rfl rfl ?_
      exact F
  · replace F := F.2 c
    refine wp_iload' (L' := [some (vR l0), some (vI l1), some (vI l2), none]) rfl rfl rfl rfl ?_
    by_cases c0 : l1.toInt = 0
    · refine wp_tsw (t := 116) rfl (by unfold aSw; rw [c0]; rfl) ?_
      replace F := F.1 c0
      refine wp_aload rfl rfl rfl ?_
      refine wp_getI rfl rfl rfl f0 rfl ?_
      exact wp_retI rfl (Or.inl rfl) F
    by_cases c1 : l1.toInt = 1
    · refine wp_tsw (t := 121) rfl (by unfold aSw; rw [c1]; rfl) ?_
      replace F := F.2.1 c1
      refine wp_aload' (L' := [some (vR l0), none, none, none]) rfl rfl rfl rfl ?_
      refine wp_getI rfl rfl rfl f0 rfl ?_
      exact wp_retI rfl (Or.inl rfl) F
    by_cases c2 : l1.toInt = 2
    · refine wp_tsw (t := 126) rfl (by unfold aSw; rw [c2]; rfl) ?_
      replace F := F.2.2.1 c2
      refine wp_aload' (L' := [some (vR l0), none, none, none]) rfl rfl rfl rfl ?_
      refine wp_getI rfl rfl rfl f0 rfl ?_
      exact wp_retI rfl (Or.inl rfl) F
    by_cases c3 : l1.toInt = 3
    · refine wp_tsw (t := 131) rfl (by unfold aSw; rw [c3]; rfl) ?_
      replace F := F.2.2.2.1 c3
      refine wp_aload' (L' := [some (vR l0), none, none, none]) rfl rfl rfl rfl ?_
      refine wp_getI rfl rfl rfl f0 rfl ?_
      exact wp_retI rfl (Or.inl rfl) F
    by_cases c4 : l1.toInt = 4
    · refine wp_tsw (t := 136) rfl (by unfold aSw; rw [c4]; rfl) ?_
      replace F := F.2.2.2.2.1 c4
      refine wp_aload' (L' := [some (vR l0), none, none, none]) rfl rfl rfl rfl ?_
      refine wp_getI rfl rfl rfl f0 rfl ?_
      exact wp_retI rfl (Or.inl rfl) F
    by_cases c5 : l1.toInt = 5
    · refine wp_tsw (t := 141) rfl (by unfold aSw; rw [c5]; rfl) ?_
      replace F := F.2.2.2.2.2.1 c5
      refine wp_iload' (L' := [none, none, some (vI l2), none]) rfl rfl rfl rfl ?_
      exact wp_retI rfl (Or.inl rfl) F
    by_cases c6 : l1.toInt = 6
    · refine wp_tsw (t := 143) rfl (by unfold aSw; rw [c6]; rfl) ?_
      replace F := F.2.2.2.2.2.2.1 c6
      refine wp_aload' (L' := [some (vR l0), none, none, none]) rfl rfl rfl rfl ?_
      refine wp_getI rfl rfl rfl f0 rfl ?_
      exact wp_retI rfl (Or.inl rfl) F
    by_cases c7 : l1.toInt = 7
    · refine wp_tsw (t := 148) rfl (by unfold aSw; rw [c7]; rfl) ?_
      replace F := F.2.2.2.2.2.2.2.1 c7
      refine wp_aload' (L' := [some (vR l0), none, none, none]) rfl rfl rfl rfl ?_
      refine wp_getI rfl rfl rfl f0 rfl ?_
      exact wp_retI rfl (Or.inl rfl) F
    by_cases c8 : l1.toInt = 8
    · refine wp_tsw (t := 153) rfl (by unfold aSw; rw [c8]; rfl) ?_
      replace F := F.2.2.2.2.2.2.2.2.1 c8
      refine wp_aload' (L' := [some (vR l0), none, none, none]) rfl rfl rfl rfl ?_
      refine wp_getI rfl rfl rfl f0 rfl ?_
      exact wp_retI rfl (Or.inl rfl) F
    by_cases c9 : l1.toInt = 9
    · refine wp_tsw (t := 158) rfl (by unfold aSw; rw [c9]; rfl) ?_
      replace F := F.2.2.2.2.2.2.2.2.2.1 c9
      refine wp_aload' (L' := [some (vR l0), none, none, none]) rfl rfl rfl rfl ?_
      refine wp_getI rfl rfl rfl f0 rfl ?_
      exact wp_retI rfl (Or.inl rfl) F
    by_cases c10 : l1.toInt = 10
    · refine wp_tsw (t := 163) rfl (by unfold aSw; rw [c10]; rfl) ?_
      replace F := F.2.2.2.2.2.2.2.2.2.2.1 c10
      refine wp_aload' (L' := [some (vR l0), none, none, none]) rfl rfl rfl rfl ?_
      refine wp_getI rfl rfl rfl f0 rfl ?_
      exact wp_retI rfl (Or.inl rfl) F
    by_cases c11 : l1.toInt = 11
    · refine wp_tsw (t := 168) rfl (by unfold aSw; rw [c11]; rfl) ?_
      replace F := F.2.2.2.2.2.2.2.2.2.2.2.1 c11
      refine wp_aload' (L' := [some (vR l0), none, none, none]) rfl rfl rfl rfl ?_
      refine wp_getI rfl rfl rfl f0 rfl ?_
      exact wp_retI rfl (Or.inl rfl) F
    by_cases c12 : l1.toInt = 12
    · refine wp_tsw (t := 173) rfl (by unfold aSw; rw [c12]; rfl) ?_
      replace F := F.2.2.2.2.2.2.2.2.2.2.2.2.1 c12
      refine wp_aload' (L' := [some (vR l0), none, none, none]) rfl rfl rfl rfl ?_
      refine wp_getI rfl rfl rfl f0 rfl ?_
      exact wp_retI rfl (Or.inl rfl) F
    by_cases c13 : l1.toInt = 13
    · refine wp_tsw (t := 178) rfl (by unfold aSw; rw [c13]; rfl) ?_
      replace F := F.2.2.2.2.2.2.2.2.2.2.2.2.2.1 c13
      refine wp_aload' (L' := [some (vR l0), none, none, none]) rfl rfl rfl rfl ?_
      refine wp_getI rfl rfl rfl f0 rfl ?_
      exact wp_retI rfl (Or.inl rfl) F
    by_cases c14 : l1.toInt = 14
    · refine wp_tsw (t := 183) rfl (by unfold aSw; rw [c14]; rfl) ?_
      replace F := F.2.2.2.2.2.2.2.2.2.2.2.2.2.2.1 c14
      refine wp_aload' (L' := [some (vR l0), none, none, none]) rfl rfl rfl rfl ?_
      obtain ⟨f1, F⟩ := F
      refine wp_callI rfl rfl rfl (rcv_v f1 f0 (by decide) (by decide)) rfl rfl rfl rfl ?_
      refine CI.mono F (fun y0 h0 F => ?_) (fun _ _ w => rx_I w)
      exact wp_retI rfl (Or.inl rfl) F
    refine wp_tsw (t := 188) rfl (by unfold aSw; rw [if_pos (by omega)]; rfl) ?_
    replace F := F.2.2.2.2.2.2.2.2.2.2.2.2.2.2.2 ⟨c0, c1, c2, c3, c4, c5, c6, c7, c8, c9, c10, c11, c12, c13, c14⟩
    refine wp_aload' (L' := [some (vR l0), none, none, none]) rfl rfl rfl rfl ?_
    refine wp_const rfl rfl ?_
    obtain ⟨f2, F⟩ := F
    refine wp_callI rfl rfl rfl (rcv_v f2 f0 (by decide) (by decide)) rfl rfl rfl rfl ?_
    refine CI.mono F (fun y1 h1 F => ?_) (fun _ _ w => rx_I w)
    exact wp_retI rfl (Or.inl rfl) F
