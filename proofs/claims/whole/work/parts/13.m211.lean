/-! THE FORMULAS OF THE METHODS 211 TO 227 (written by wip/tools/gen13.py): what a run from a cut point needs -/
-- CensusOfficeModel find (I)V
theorem m211 {d : Nat} {a0 : Nat} {a1 : Int32} {h : aH} {K : aH → Prop} {X : Nat → aH → Prop} (F : 8 ≤ a0 ∧ gK h a0 = 14 ∧ CI d 175 [vR a0, vI a1] h (fun y0 h0 => gK h0 a0 = 14 ∧ ∀ h1 : aH, h1 = pI h0 a0 62 (-1) → ∀ h2 : aH, h2 = pI h1 a0 63 (-1) → Wp (d + 1) 211 (21, [some (vR a0), some (vI a1), some (vI y0), some (vI 0), some (vI 0), none, none, none], [], h2) (RV K X)) X) : CV (d + 1) 211 [vR a0, vI a1] h K X := by
  show Wp (d + 1) 211 (0, [some (vR a0), some (vI a1), none, none, none, none, none, none], [], h) (RV K X)
  refine wp_aload rfl rfl rfl ?_
  refine wp_iload rfl rfl rfl ?_
  obtain ⟨f0, F⟩ := F
  obtain ⟨f1, F⟩ := F
  refine wp_callI rfl rfl rfl (rcv_v f0 f1 (by decide) (by decide)) rfl rfl rfl rfl ?_
  refine CI.mono F (fun y0 h0 F => ?_) (fun _ _ w => rx_V w)
  refine wp_istore (L2 := [some (vR a0), some (vI a1), some (vI y0), none, none, none, none, none]) rfl rfl rfl rfl ?_
  refine wp_aload rfl rfl rfl ?_
  refine wp_const rfl rfl ?_
  obtain ⟨f2, F⟩ := F
  refine wp_putI rfl rfl rfl f0 f2 rfl ?_
  have f3 : gK (pI h0 a0 62 (-1)) a0 = 14 := (gK_pI _ _ _ _ _).trans f2
  replace F := F _ rfl
  generalize pI h0 a0 62 (-1) = h1 at F f3 ⊢
  refine wp_aload rfl rfl rfl ?_
  refine wp_const rfl rfl ?_
  refine wp_putI rfl rfl rfl f0 f3 rfl ?_
  have f4 : gK (pI h1 a0 63 (-1)) a0 = 14 := (gK_pI _ _ _ _ _).trans f3
  replace F := F _ rfl
  generalize pI h1 a0 63 (-1) = h2 at F f4 ⊢
  refine wp_const rfl rfl ?_
  refine wp_istore (L2 := [some (vR a0), some (vI a1), some (vI y0), some (vI 0), none, none, none, none]) rfl rfl rfl rfl ?_
  refine wp_const rfl rfl ?_
  refine wp_istore (L2 := [some (vR a0), some (vI a1), some (vI y0), some (vI 0), some (vI 0), none, none, none]) rfl rfl rfl rfl ?_
  exact F
theorem w211_21 {d : Nat} {l0 : Nat} {l1 : Int32} {l2 : Int32} {l3 : Int32} {l4 : Int32} {h : aH} {K : aH → Prop} {X : Nat → aH → Prop} (F : gK h l0 = 14 ∧ ∃ i0 : Nat, inB h 100 (gR h l0 57) l2 i0 ∧ ((l4.toInt < (gI h (gR h l0 57) i0).toInt → ∃ i1 : Nat, inB h 100 (gR h l0 58) ((16 * l2) + l4) i1 ∧ ∀ v0 : Int32, v0 = gI h (gR h l0 58) i1 → ∃ i2 : Nat, inB h 100 (gR h l0 59) ((16 * l2) + l4) i2 ∧ ∀ v1 : Int32, v1 = gI h (gR h l0 59) i2 → ((v0.toInt = (-1) → ∀ v2 : Int32, v2 = l3 ||| 0 → ((v1.toInt = (-1) → ∀ v3 : Int32, v3 = v2 ||| 0 → ∀ v4 : Int32, v4 = l4 + 1 → Wp (d + 1) 211 (21, [some (vR l0), some (vI l1), some (vI l2), some (vI v3), some (vI v4), none, none, none], [], h) (RV K X)) ∧ (¬ v1.toInt = (-1) → ∃ i3 : Nat, inB h 100 (gR h l0 55) ((20 * l1) + v1) i3 ∧ (((gI h (gR h l0 55) i3).toInt = (-2000000) → ∀ v5 : Int32, v5 = v2 ||| 0 → ∀ v6 : Int32, v6 = l4 + 1 → Wp (d + 1) 211 (21, [some (vR l0), some (vI l1), some (vI l2), some (vI v5), some (vI v6), none, none, none], [], h) (RV K X)) ∧ (¬ (gI h (gR h l0 55) i3).toInt = (-2000000) → ∀ v7 : Int32, v7 = v2 ||| (1 <<< (v1 &&& 31)) → ∀ v8 : Int32, v8 = l4 + 1 → Wp (d + 1) 211 (21, [some (vR l0), some (vI l1), some (vI l2), some (vI v7), some (vI v8), none, none, none], [], h) (RV K X)))))) ∧ (¬ v0.toInt = (-1) → ∃ i4 : Nat, inB h 100 (gR h l0 55) ((20 * l1) + v0) i4 ∧ (((gI h (gR h l0 55) i4).toInt = (-2000000) → ∀ v9 : Int32, v9 = l3 ||| 0 → ((v1.toInt = (-1) → ∀ v10 : Int32, v10 = v9 ||| 0 → ∀ v11 : Int32, v11 = l4 + 1 → Wp (d + 1) 211 (21, [some (vR l0), some (vI l1), some (vI l2), some (vI v10), some (vI v11), none, none, none], [], h) (RV K X)) ∧ (¬ v1.toInt = (-1) → ∃ i5 : Nat, inB h 100 (gR h l0 55) ((20 * l1) + v1) i5 ∧ (((gI h (gR h l0 55) i5).toInt = (-2000000) → ∀ v12 : Int32, v12 = v9 ||| 0 → ∀ v13 : Int32, v13 = l4 + 1 → Wp (d + 1) 211 (21, [some (vR l0), some (vI l1), some (vI l2), some (vI v12), some (vI v13), none, none, none], [], h) (RV K X)) ∧ (¬ (gI h (gR h l0 55) i5).toInt = (-2000000) → ∀ v14 : Int32, v14 = v9 ||| (1 <<< (v1 &&& 31)) → ∀ v15 : Int32, v15 = l4 + 1 → Wp (d + 1) 211 (21, [some (vR l0), some (vI l1), some (vI l2), some (vI v14), some (vI v15), none, none, none], [], h) (RV K X)))))) ∧ (¬ (gI h (gR h l0 55) i4).toInt = (-2000000) → ∀ v16 : Int32, v16 = l3 ||| (1 <<< (v0 &&& 31)) → ((v1.toInt = (-1) → ∀ v17 : Int32, v17 = v16 ||| 0 → ∀ v18 : Int32, v18 = l4 + 1 → Wp (d + 1) 211 (21, [some (vR l0), some (vI l1), some (vI l2), some (vI v17), some (vI v18), none, none, none], [], h) (RV K X)) ∧ (¬ v1.toInt = (-1) → ∃ i6 : Nat, inB h 100 (gR h l0 55) ((20 * l1) + v1) i6 ∧ (((gI h (gR h l0 55) i6).toInt = (-2000000) → ∀ v19 : Int32, v19 = v16 ||| 0 → ∀ v20 : Int32, v20 = l4 + 1 → Wp (d + 1) 211 (21, [some (vR l0), some (vI l1), some (vI l2), some (vI v19), some (vI v20), none, none, none], [], h) (RV K X)) ∧ (¬ (gI h (gR h l0 55) i6).toInt = (-2000000) → ∀ v21 : Int32, v21 = v16 ||| (1 <<< (v1 &&& 31)) → ∀ v22 : Int32, v22 = l4 + 1 → Wp (d + 1) 211 (21, [some (vR l0), some (vI l1), some (vI l2), some (vI v21), some (vI v22), none, none, none], [], h) (RV K X)))))))))) ∧ (¬ l4.toInt < (gI h (gR h l0 57) i0).toInt → Wp (d + 1) 211 (140, [some (vR l0), some (vI l1), some (vI l2), some (vI l3), some (vI 0), some (vI 1), none, none], [], h) (RV K X)))) : Wp (d + 1) 211 (21, [some (vR l0), some (vI l1), some (vI l2), some (vI l3), some (vI l4), none, none, none], [], h) (RV K X) := by
  refine wp_iload' (L' := [some (vR l0), some (vI l1), some (vI l2), some (vI l3), some (vI l4), none, none, none]) rfl rfl rfl rfl ?_
  refine wp_aload rfl rfl rfl ?_
  obtain ⟨f0, F⟩ := F
  refine wp_getR rfl rfl rfl f0 rfl ?_
  refine wp_iload rfl rfl rfl ?_
  obtain ⟨i0, b9, F⟩ := F
  refine wp_iaload rfl b9 rfl ?_
  refine wp_icmp_ge rfl rfl rfl rfl rfl (fun c => ?_) (fun c => ?_)
  · replace F := F.1 c
    refine wp_aload rfl rfl rfl ?_
    refine wp_getR rfl rfl rfl f0 rfl ?_
    refine wp_const rfl rfl ?_
    refine wp_iload rfl rfl rfl ?_
    refine wp_imul rfl rfl ?_
    refine wp_iload rfl rfl rfl ?_
    refine wp_iadd rfl rfl ?_
    obtain ⟨i1, b9, F⟩ := F
    refine wp_iaload rfl b9 rfl ?_
    replace F := F _ rfl
    generalize (gI h (gR h l0 58) i1 : Int32) = v0 at F ⊢
    refine wp_istore (L2 := [some (vR l0), some (vI l1), some (vI l2), some (vI l3), some (vI l4), some (vI v0), none, none]) rfl rfl rfl rfl ?_
    refine wp_aload rfl rfl rfl ?_
    refine wp_getR rfl rfl rfl f0 rfl ?_
    refine wp_const rfl rfl ?_
    refine wp_iload rfl rfl rfl ?_
    refine wp_imul rfl rfl ?_
    refine wp_iload rfl rfl rfl ?_
    refine wp_iadd rfl rfl ?_
    obtain ⟨i2, b9, F⟩ := F
    refine wp_iaload rfl b9 rfl ?_
    replace F := F _ rfl
    generalize (gI h (gR h l0 59) i2 : Int32) = v1 at F ⊢
    refine wp_istore (L2 := [some (vR l0), some (vI l1), some (vI l2), some (vI l3), some (vI l4), some (vI v0), some (vI v1), none]) rfl rfl rfl rfl ?_
    refine wp_iload rfl rfl rfl ?_
    refine wp_iload rfl rfl rfl ?_
    refine wp_const rfl rfl ?_
    refine wp_icmp_eq (Y := (-1)) rfl rfl rfl rfl rfl (fun c => ?_) (fun c => ?_)
    · replace F := F.1 c
      refine wp_const' (L' := [some (vR l0), some (vI l1), some (vI l2), none, some (vI l4), none, some (vI v1), none]) rfl rfl rfl ?_
      refine wp_ior' (L' := [some (vR l0), some (vI l1), some (vI l2), none, some (vI l4), none, some (vI v1), none]) rfl rfl rfl ?_
      replace F := F _ rfl
      generalize (l3 ||| 0 : Int32) = v2 at F ⊢
      refine wp_istore (L2 := [some (vR l0), some (vI l1), some (vI l2), some (vI v2), some (vI l4), none, some (vI v1), none]) rfl rfl rfl rfl ?_
      refine wp_iload rfl rfl rfl ?_
      refine wp_iload rfl rfl rfl ?_
      refine wp_const rfl rfl ?_
      refine wp_icmp_eq (Y := (-1)) rfl rfl rfl rfl rfl (fun c => ?_) (fun c => ?_)
      · replace F := F.1 c
        refine wp_const' (L' := [some (vR l0), some (vI l1), some (vI l2), none, some (vI l4), none, none, none]) rfl rfl rfl ?_
        refine wp_ior' (L' := [some (vR l0), some (vI l1), some (vI l2), none, some (vI l4), none, none, none]) rfl rfl rfl ?_
        replace F := F _ rfl
        generalize (v2 ||| 0 : Int32) = v3 at F ⊢
        refine wp_istore (L2 := [some (vR l0), some (vI l1), some (vI l2), some (vI v3), some (vI l4), none, none, none]) rfl rfl rfl rfl ?_
        refine wp_iinc (y := 1) (L2 := [some (vR l0), some (vI l1), some (vI l2), some (vI v3), some (vI (l4 + 1)), none, none, none]) rfl rfl rfl rfl rfl ?_
        replace F := F _ rfl
        generalize (l4 + 1 : Int32) = v4 at F ⊢
        refine wp_goto rfl rfl ?_
        exact F
      · replace F := F.2 c
        refine wp_aload rfl rfl rfl ?_
        refine wp_getR rfl rfl rfl f0 rfl ?_
        refine wp_const rfl rfl ?_
        refine wp_iload rfl rfl rfl ?_
        refine wp_imul rfl rfl ?_
        refine wp_iload rfl rfl rfl ?_
        refine wp_iadd rfl rfl ?_
        obtain ⟨i3, b9, F⟩ := F
        refine wp_iaload rfl b9 rfl ?_
        refine wp_const rfl rfl ?_
        refine wp_icmp_eq (Y := (-2000000)) rfl rfl rfl rfl rfl (fun c => ?_) (fun c => ?_)
        · replace F := F.1 c
          refine wp_const' (L' := [some (vR l0), some (vI l1), some (vI l2), none, some (vI l4), none, none, none]) rfl rfl rfl ?_
          refine wp_ior' (L' := [some (vR l0), some (vI l1), some (vI l2), none, some (vI l4), none, none, none]) rfl rfl rfl ?_
          replace F := F _ rfl
          generalize (v2 ||| 0 : Int32) = v5 at F ⊢
          refine wp_istore (L2 := [some (vR l0), some (vI l1), some (vI l2), some (vI v5), some (vI l4), none, none, none]) rfl rfl rfl rfl ?_
          refine wp_iinc (y := 1) (L2 := [some (vR l0), some (vI l1), some (vI l2), some (vI v5), some (vI (l4 + 1)), none, none, none]) rfl rfl rfl rfl rfl ?_
          replace F := F _ rfl
          generalize (l4 + 1 : Int32) = v6 at F ⊢
          refine wp_goto rfl rfl ?_
          exact F
        · replace F := F.2 c
          refine wp_const rfl rfl ?_
          refine wp_iload rfl rfl rfl ?_
          refine wp_ishl rfl rfl ?_
          refine wp_goto rfl rfl ?_
          refine wp_ior' (L' := [some (vR l0), some (vI l1), some (vI l2), none, some (vI l4), none, none, none]) rfl rfl rfl ?_
          replace F := F _ rfl
          generalize (v2 ||| (1 <<< (v1 &&& 31)) : Int32) = v7 at F ⊢
          refine wp_istore (L2 := [some (vR l0), some (vI l1), some (vI l2), some (vI v7), some (vI l4), none, none, none]) rfl rfl rfl rfl ?_
          refine wp_iinc (y := 1) (L2 := [some (vR l0), some (vI l1), some (vI l2), some (vI v7), some (vI (l4 + 1)), none, none, none]) rfl rfl rfl rfl rfl ?_
          replace F := F _ rfl
          generalize (l4 + 1 : Int32) = v8 at F ⊢
          refine wp_goto rfl rfl ?_
          exact F
    · replace F := F.2 c
      refine wp_aload rfl rfl rfl ?_
      refine wp_getR rfl rfl rfl f0 rfl ?_
      refine wp_const rfl rfl ?_
      refine wp_iload rfl rfl rfl ?_
      refine wp_imul rfl rfl ?_
      refine wp_iload rfl rfl rfl ?_
      refine wp_iadd rfl rfl ?_
      obtain ⟨i4, b9, F⟩ := F
      refine wp_iaload rfl b9 rfl ?_
      refine wp_const rfl rfl ?_
      refine wp_icmp_eq (Y := (-2000000)) rfl rfl rfl rfl rfl (fun c => ?_) (fun c => ?_)
      · replace F := F.1 c
        refine wp_const' (L' := [some (vR l0), some (vI l1), some (vI l2), none, some (vI l4), none, some (vI v1), none]) rfl rfl rfl ?_
        refine wp_ior' (L' := [some (vR l0), some (vI l1), some (vI l2), none, some (vI l4), none, some (vI v1), none]) rfl rfl rfl ?_
        replace F := F _ rfl
        generalize (l3 ||| 0 : Int32) = v9 at F ⊢
        refine wp_istore (L2 := [some (vR l0), some (vI l1), some (vI l2), some (vI v9), some (vI l4), none, some (vI v1), none]) rfl rfl rfl rfl ?_
        refine wp_iload rfl rfl rfl ?_
        refine wp_iload rfl rfl rfl ?_
        refine wp_const rfl rfl ?_
        refine wp_icmp_eq (Y := (-1)) rfl rfl rfl rfl rfl (fun c => ?_) (fun c => ?_)
        · replace F := F.1 c
          refine wp_const' (L' := [some (vR l0), some (vI l1), some (vI l2), none, some (vI l4), none, none, none]) rfl rfl rfl ?_
          refine wp_ior' (L' := [some (vR l0), some (vI l1), some (vI l2), none, some (vI l4), none, none, none]) rfl rfl rfl ?_
          replace F := F _ rfl
          generalize (v9 ||| 0 : Int32) = v10 at F ⊢
          refine wp_istore (L2 := [some (vR l0), some (vI l1), some (vI l2), some (vI v10), some (vI l4), none, none, none]) rfl rfl rfl rfl ?_
          refine wp_iinc (y := 1) (L2 := [some (vR l0), some (vI l1), some (vI l2), some (vI v10), some (vI (l4 + 1)), none, none, none]) rfl rfl rfl rfl rfl ?_
          replace F := F _ rfl
          generalize (l4 + 1 : Int32) = v11 at F ⊢
          refine wp_goto rfl rfl ?_
          exact F
        · replace F := F.2 c
          refine wp_aload rfl rfl rfl ?_
          refine wp_getR rfl rfl rfl f0 rfl ?_
          refine wp_const rfl rfl ?_
          refine wp_iload rfl rfl rfl ?_
          refine wp_imul rfl rfl ?_
          refine wp_iload rfl rfl rfl ?_
          refine wp_iadd rfl rfl ?_
          obtain ⟨i5, b9, F⟩ := F
          refine wp_iaload rfl b9 rfl ?_
          refine wp_const rfl rfl ?_
          refine wp_icmp_eq (Y := (-2000000)) rfl rfl rfl rfl rfl (fun c => ?_) (fun c => ?_)
          · replace F := F.1 c
            refine wp_const' (L' := [some (vR l0), some (vI l1), some (vI l2), none, some (vI l4), none, none, none]) rfl rfl rfl ?_
            refine wp_ior' (L' := [some (vR l0), some (vI l1), some (vI l2), none, some (vI l4), none, none, none]) rfl rfl rfl ?_
            replace F := F _ rfl
            generalize (v9 ||| 0 : Int32) = v12 at F ⊢
            refine wp_istore (L2 := [some (vR l0), some (vI l1), some (vI l2), some (vI v12), some (vI l4), none, none, none]) rfl rfl rfl rfl ?_
            refine wp_iinc (y := 1) (L2 := [some (vR l0), some (vI l1), some (vI l2), some (vI v12), some (vI (l4 + 1)), none, none, none]) rfl rfl rfl rfl rfl ?_
            replace F := F _ rfl
            generalize (l4 + 1 : Int32) = v13 at F ⊢
            refine wp_goto rfl rfl ?_
            exact F
          · replace F := F.2 c
            refine wp_const rfl rfl ?_
            refine wp_iload rfl rfl rfl ?_
            refine wp_ishl rfl rfl ?_
            refine wp_goto rfl rfl ?_
            refine wp_ior' (L' := [some (vR l0), some (vI l1), some (vI l2), none, some (vI l4), none, none, none]) rfl rfl rfl ?_
            replace F := F _ rfl
            generalize (v9 ||| (1 <<< (v1 &&& 31)) : Int32) = v14 at F ⊢
            refine wp_istore (L2 := [some (vR l0), some (vI l1), some (vI l2), some (vI v14), some (vI l4), none, none, none]) rfl rfl rfl rfl ?_
            refine wp_iinc (y := 1) (L2 := [some (vR l0), some (vI l1), some (vI l2), some (vI v14), some (vI (l4 + 1)), none, none, none]) rfl rfl rfl rfl rfl ?_
            replace F := F _ rfl
            generalize (l4 + 1 : Int32) = v15 at F ⊢
            refine wp_goto rfl rfl ?_
            exact F
      · replace F := F.2 c
        refine wp_const rfl rfl ?_
        refine wp_iload rfl rfl rfl ?_
        refine wp_ishl rfl rfl ?_
        refine wp_goto rfl rfl ?_
        refine wp_ior' (L' := [some (vR l0), some (vI l1), some (vI l2), none, some (vI l4), none, some (vI v1), none]) rfl rfl rfl ?_
        replace F := F _ rfl
        generalize (l3 ||| (1 <<< (v0 &&& 31)) : Int32) = v16 at F ⊢
        refine wp_istore (L2 := [some (vR l0), some (vI l1), some (vI l2), some (vI v16), some (vI l4), none, some (vI v1), none]) rfl rfl rfl rfl ?_
        refine wp_iload rfl rfl rfl ?_
        refine wp_iload rfl rfl rfl ?_
        refine wp_const rfl rfl ?_
        refine wp_icmp_eq (Y := (-1)) rfl rfl rfl rfl rfl (fun c => ?_) (fun c => ?_)
        · replace F := F.1 c
          refine wp_const' (L' := [some (vR l0), some (vI l1), some (vI l2), none, some (vI l4), none, none, none]) rfl rfl rfl ?_
          refine wp_ior' (L' := [some (vR l0), some (vI l1), some (vI l2), none, some (vI l4), none, none, none]) rfl rfl rfl ?_
          replace F := F _ rfl
          generalize (v16 ||| 0 : Int32) = v17 at F ⊢
          refine wp_istore (L2 := [some (vR l0), some (vI l1), some (vI l2), some (vI v17), some (vI l4), none, none, none]) rfl rfl rfl rfl ?_
          refine wp_iinc (y := 1) (L2 := [some (vR l0), some (vI l1), some (vI l2), some (vI v17), some (vI (l4 + 1)), none, none, none]) rfl rfl rfl rfl rfl ?_
          replace F := F _ rfl
          generalize (l4 + 1 : Int32) = v18 at F ⊢
          refine wp_goto rfl rfl ?_
          exact F
        · replace F := F.2 c
          refine wp_aload rfl rfl rfl ?_
          refine wp_getR rfl rfl rfl f0 rfl ?_
          refine wp_const rfl rfl ?_
          refine wp_iload rfl rfl rfl ?_
          refine wp_imul rfl rfl ?_
          refine wp_iload rfl rfl rfl ?_
          refine wp_iadd rfl rfl ?_
          obtain ⟨i6, b9, F⟩ := F
          refine wp_iaload rfl b9 rfl ?_
          refine wp_const rfl rfl ?_
          refine wp_icmp_eq (Y := (-2000000)) rfl rfl rfl rfl rfl (fun c => ?_) (fun c => ?_)
          · replace F := F.1 c
            refine wp_const' (L' := [some (vR l0), some (vI l1), some (vI l2), none, some (vI l4), none, none, none]) rfl rfl rfl ?_
            refine wp_ior' (L' := [some (vR l0), some (vI l1), some (vI l2), none, some (vI l4), none, none, none]) rfl rfl rfl ?_
            replace F := F _ rfl
            generalize (v16 ||| 0 : Int32) = v19 at F ⊢
            refine wp_istore (L2 := [some (vR l0), some (vI l1), some (vI l2), some (vI v19), some (vI l4), none, none, none]) rfl rfl rfl rfl ?_
            refine wp_iinc (y := 1) (L2 := [some (vR l0), some (vI l1), some (vI l2), some (vI v19), some (vI (l4 + 1)), none, none, none]) rfl rfl rfl rfl rfl ?_
            replace F := F _ rfl
            generalize (l4 + 1 : Int32) = v20 at F ⊢
            refine wp_goto rfl rfl ?_
            exact F
          · replace F := F.2 c
            refine wp_const rfl rfl ?_
            refine wp_iload rfl rfl rfl ?_
            refine wp_ishl rfl rfl ?_
            refine wp_goto rfl rfl ?_
            refine wp_ior' (L' := [some (vR l0), some (vI l1), some (vI l2), none, some (vI l4), none, none, none]) rfl rfl rfl ?_
            replace F := F _ rfl
            generalize (v16 ||| (1 <<< (v1 &&& 31)) : Int32) = v21 at F ⊢
            refine wp_istore (L2 := [some (vR l0), some (vI l1), some (vI l2), some (vI v21), some (vI l4), none, none, none]) rfl rfl rfl rfl ?_
            refine wp_iinc (y := 1) (L2 := [some (vR l0), some (vI l1), some (vI l2), some (vI v21), some (vI (l4 + 1)), none, none, none]) rfl rfl rfl rfl rfl ?_
            replace F := F _ rfl
            generalize (l4 + 1 : Int32) = v22 at F ⊢
            refine wp_goto rfl rfl ?_
            exact F
  · replace F := F.2 c
    refine wp_const' (L' := [some (vR l0), some (vI l1), some (vI l2), some (vI l3), none, none, none, none]) rfl rfl rfl ?_
    refine wp_istore (L2 := [some (vR l0), some (vI l1), some (vI l2), some (vI l3), some (vI 0), none, none, none]) rfl rfl rfl rfl ?_
    refine wp_const rfl rfl ?_
    refine wp_istore (L2 := [some (vR l0), some (vI l1), some (vI l2), some (vI l3), some (vI 0), some (vI 1), none, none]) rfl rfl rfl rfl ?_
    exact F
theorem w211_140 {d : Nat} {l0 : Nat} {l1 : Int32} {l2 : Int32} {l3 : Int32} {l4 : Int32} {l5 : Int32} {h : aH} {K : aH → Prop} {X : Nat → aH → Prop} (F : ((l5.toInt = 0 → K h) ∧ (¬ l5.toInt = 0 → Wp (d + 1) 211 (151, [some (vR l0), some (vI l1), some (vI l2), some (vI l3), some (vI l4), none, some (vI 0), some (vI 0)], [], h) (RV K X)))) : Wp (d + 1) 211 (140, [some (vR l0), some (vI l1), some (vI l2), some (vI l3), some (vI l4), some (vI l5), none, none], [], h) (RV K X) := by
  refine wp_iload' (L' := [some (vR l0), some (vI l1), some (vI l2), some (vI l3), some (vI l4), some (vI l5), none, none]) rfl rfl rfl rfl ?_
  refine wp_if_eq rfl rfl rfl rfl (fun c => ?_) (fun c => ?_)
  · replace F := F.1 c
    exact wp_retV rfl F
  · replace F := F.2 c
    refine wp_const rfl rfl ?_
    refine wp_istore (L2 := [some (vR l0), some (vI l1), some (vI l2), some (vI l3), some (vI l4), some (vI l5), some (vI 0), none]) rfl rfl rfl rfl ?_
    refine wp_const rfl rfl ?_
    refine wp_istore (L2 := [some (vR l0), some (vI l1), some (vI l2), some (vI l3), some (vI l4), some (vI l5), some (vI 0), some (vI 0)]) rfl rfl rfl rfl ?_
    refine wp_kill (L' := [some (vR l0), some (vI l1), some (vI l2), some (vI l3), some (vI l4), none, some (vI 0), some (vI 0)]) rfl rfl ?_
    exact F
theorem w211_151 {d : Nat} {l0 : Nat} {l1 : Int32} {l2 : Int32} {l3 : Int32} {l4 : Int32} {l6 : Int32} {l7 : Int32} {h : aH} {K : aH → Prop} {X : Nat → aH → Prop} (F : gK h l0 = 14 ∧ ∃ i0 : Nat, inB h 100 (gR h l0 15) l2 i0 ∧ ((l7.toInt < (gI h (gR h l0 15) i0).toInt → ∃ i1 : Nat, inB h 100 (gR h l0 20) ((20 * l2) + l7) i1 ∧ ∀ v0 : Int32, v0 = l6 + (((l4 >>> (l7 &&& 31)) &&& 1) * (gI h (gR h l0 20) i1)) → ∀ v1 : Int32, v1 = l7 + 1 → Wp (d + 1) 211 (151, [some (vR l0), some (vI l1), some (vI l2), some (vI l3), some (vI l4), none, some (vI v0), some (vI v1)], [], h) (RV K X)) ∧ (¬ l7.toInt < (gI h (gR h l0 15) i0).toInt → (((gI h l0 62).toInt = (-1) → Wp (d + 1) 211 (210, [some (vR l0), some (vI l1), some (vI l2), some (vI l3), some (vI l4), none, some (vI l6), none], [], h) (RV K X)) ∧ (¬ (gI h l0 62).toInt = (-1) → ((l6.toInt < (gI h l0 62).toInt → Wp (d + 1) 211 (210, [some (vR l0), some (vI l1), some (vI l2), some (vI l3), some (vI l4), none, some (vI l6), none], [], h) (RV K X)) ∧ (¬ l6.toInt < (gI h l0 62).toInt → ((l4.toInt = l3.toInt → ∀ v2 : Int32, v2 = (l4 - l3) &&& l3 → Wp (d + 1) 211 (140, [some (vR l0), some (vI l1), some (vI l2), some (vI l3), some (vI v2), some (vI 0), none, none], [], h) (RV K X)) ∧ (¬ l4.toInt = l3.toInt → ∀ v3 : Int32, v3 = (l4 - l3) &&& l3 → Wp (d + 1) 211 (140, [some (vR l0), some (vI l1), some (vI l2), some (vI l3), some (vI v3), some (vI 1), none, none], [], h) (RV K X)))))))))) : Wp (d + 1) 211 (151, [some (vR l0), some (vI l1), some (vI l2), some (vI l3), some (vI l4), none, some (vI l6), some (vI l7)], [], h) (RV K X) := by
  refine wp_iload' (L' := [some (vR l0), some (vI l1), some (vI l2), some (vI l3), some (vI l4), none, some (vI l6), some (vI l7)]) rfl rfl rfl rfl ?_
  refine wp_aload rfl rfl rfl ?_
  obtain ⟨f0, F⟩ := F
  refine wp_getR rfl rfl rfl f0 rfl ?_
  refine wp_iload rfl rfl rfl ?_
  obtain ⟨i0, b9, F⟩ := F
  refine wp_iaload rfl b9 rfl ?_
  refine wp_icmp_ge rfl rfl rfl rfl rfl (fun c => ?_) (fun c => ?_)
  · replace F := F.1 c
    refine wp_iload rfl rfl rfl ?_
    refine wp_iload rfl rfl rfl ?_
    refine wp_iload rfl rfl rfl ?_
    refine wp_ishr rfl rfl ?_
    refine wp_const rfl rfl ?_
    refine wp_iand rfl rfl ?_
    refine wp_aload rfl rfl rfl ?_
    refine wp_getR rfl rfl rfl f0 rfl ?_
    refine wp_const rfl rfl ?_
    refine wp_iload rfl rfl rfl ?_
    refine wp_imul rfl rfl ?_
    refine wp_iload rfl rfl rfl ?_
    refine wp_iadd rfl rfl ?_
    obtain ⟨i1, b9, F⟩ := F
    refine wp_iaload rfl b9 rfl ?_
    refine wp_imul rfl rfl ?_
    refine wp_iadd rfl rfl ?_
    replace F := F _ rfl
    generalize (l6 + (((l4 >>> (l7 &&& 31)) &&& 1) * (gI h (gR h l0 20) i1)) : Int32) = v0 at F ⊢
    refine wp_istore (L2 := [some (vR l0), some (vI l1), some (vI l2), some (vI l3), some (vI l4), none, some (vI v0), some (vI l7)]) rfl rfl rfl rfl ?_
    refine wp_iinc (y := 1) (L2 := [some (vR l0), some (vI l1), some (vI l2), some (vI l3), some (vI l4), none, some (vI v0), some (vI (l7 + 1))]) rfl rfl rfl rfl rfl ?_
    replace F := F _ rfl
    generalize (l7 + 1 : Int32) = v1 at F ⊢
    refine wp_goto rfl rfl ?_
    exact F
  · replace F := F.2 c
    refine wp_aload' (L' := [some (vR l0), some (vI l1), some (vI l2), some (vI l3), some (vI l4), none, some (vI l6), none]) rfl rfl rfl rfl ?_
    refine wp_getI rfl rfl rfl f0 rfl ?_
    refine wp_const rfl rfl ?_
    refine wp_icmp_eq (Y := (-1)) rfl rfl rfl rfl rfl (fun c => ?_) (fun c => ?_)
    · replace F := F.1 c
      exact F
    · replace F := F.2 c
      refine wp_iload rfl rfl rfl ?_
      refine wp_aload rfl rfl rfl ?_
      refine wp_getI rfl rfl rfl f0 rfl ?_
      refine wp_icmp_ge rfl rfl rfl rfl rfl (fun c => ?_) (fun c => ?_)
      · replace F := F.1 c
        exact F
      · replace F := F.2 c
        refine wp_iload' (L' := [some (vR l0), some (vI l1), some (vI l2), some (vI l3), some (vI l4), none, none, none]) rfl rfl rfl rfl ?_
        refine wp_iload rfl rfl rfl ?_
        refine wp_icmp_eq rfl rfl rfl rfl rfl (fun c => ?_) (fun c => ?_)
        · replace F := F.1 c
          refine wp_const' (L' := [some (vR l0), some (vI l1), some (vI l2), some (vI l3), some (vI l4), none, none, none]) rfl rfl rfl ?_
          refine wp_istore' (L' := [some (vR l0), some (vI l1), some (vI l2), some (vI l3), some (vI l4), none, none, none]) (L2 := [some (vR l0), some (vI l1), some (vI l2), some (vI l3), some (vI l4), some (vI 0), none, none]) rfl rfl rfl rfl rfl ?_
          refine wp_iload rfl rfl rfl ?_
          refine wp_iload rfl rfl rfl ?_
          refine wp_isub rfl rfl ?_
          refine wp_iload rfl rfl rfl ?_
          refine wp_iand rfl rfl ?_
          replace F := F _ rfl
          generalize ((l4 - l3) &&& l3 : Int32) = v2 at F ⊢
          refine wp_istore (L2 := [some (vR l0), some (vI l1), some (vI l2), some (vI l3), some (vI v2), some (vI 0), none, none]) rfl rfl rfl rfl ?_
          refine wp_goto rfl rfl ?_
          exact F
        · replace F := F.2 c
          refine wp_const rfl rfl ?_
          refine wp_goto rfl rfl ?_
          refine wp_istore' (L' := [some (vR l0), some (vI l1), some (vI l2), some (vI l3), some (vI l4), none, none, none]) (L2 := [some (vR l0), some (vI l1), some (vI l2), some (vI l3), some (vI l4), some (vI 1), none, none]) rfl rfl rfl rfl rfl ?_
          refine wp_iload rfl rfl rfl ?_
          refine wp_iload rfl rfl rfl ?_
          refine wp_isub rfl rfl ?_
          refine wp_iload rfl rfl rfl ?_
          refine wp_iand rfl rfl ?_
          replace F := F _ rfl
          generalize ((l4 - l3) &&& l3 : Int32) = v3 at F ⊢
          refine wp_istore (L2 := [some (vR l0), some (vI l1), some (vI l2), some (vI l3), some (vI v3), some (vI 1), none, none]) rfl rfl rfl rfl ?_
          refine wp_goto rfl rfl ?_
          exact F
theorem w211_210 {d : Nat} {l0 : Nat} {l1 : Int32} {l2 : Int32} {l3 : Int32} {l4 : Int32} {l6 : Int32} {h : aH} {K : aH → Prop} {X : Nat → aH → Prop} (F : 8 ≤ l0 ∧ gK h l0 = 14 ∧ CI d 210 [vR l0, vI l1, vI l4] h (fun y0 h0 => ((y0.toInt = 0 → ((l4.toInt = l3.toInt → ∀ v0 : Int32, v0 = (l4 - l3) &&& l3 → Wp (d + 1) 211 (140, [some (vR l0), some (vI l1), some (vI l2), some (vI l3), some (vI v0), some (vI 0), none, none], [], h0) (RV K X)) ∧ (¬ l4.toInt = l3.toInt → ∀ v1 : Int32, v1 = (l4 - l3) &&& l3 → Wp (d + 1) 211 (140, [some (vR l0), some (vI l1), some (vI l2), some (vI l3), some (vI v1), some (vI 1), none, none], [], h0) (RV K X)))) ∧ (¬ y0.toInt = 0 → gK h0 l0 = 14 ∧ ∀ h1 : aH, h1 = pI h0 l0 62 l6 → ∀ h2 : aH, h2 = pI h1 l0 63 l4 → ((l4.toInt = l3.toInt → ∀ v2 : Int32, v2 = (l4 - l3) &&& l3 → Wp (d + 1) 211 (140, [some (vR l0), some (vI l1), some (vI l2), some (vI l3), some (vI v2), some (vI 0), none, none], [], h2) (RV K X)) ∧ (¬ l4.toInt = l3.toInt → ∀ v3 : Int32, v3 = (l4 - l3) &&& l3 → Wp (d + 1) 211 (140, [some (vR l0), some (vI l1), some (vI l2), some (vI l3), some (vI v3), some (vI 1), none, none], [], h2) (RV K X)))))) X) : Wp (d + 1) 211 (210, [some (vR l0), some (vI l1), some (vI l2), some (vI l3), some (vI l4), none, some (vI l6), none], [], h) (RV K X) := by
  refine wp_aload' (L' := [some (vR l0), some (vI l1), some (vI l2), some (vI l3), some (vI l4), none, some (vI l6), none]) rfl rfl rfl rfl ?_
  refine wp_iload rfl rfl rfl ?_
  refine wp_iload rfl rfl rfl ?_
  obtain ⟨f0, F⟩ := F
  obtain ⟨f1, F⟩ := F
  refine wp_callI rfl rfl rfl (rcv_v f0 f1 (by decide) (by decide)) rfl rfl rfl rfl ?_
  refine CI.mono F (fun y0 h0 F => ?_) (fun _ _ w => rx_V w)
  refine wp_if_eq rfl rfl rfl rfl (fun c => ?_) (fun c => ?_)
  · replace F := F.1 c
    refine wp_iload' (L' := [some (vR l0), some (vI l1), some (vI l2), some (vI l3), some (vI l4), none, none, none]) rfl rfl rfl rfl ?_
    refine wp_iload rfl rfl rfl ?_
    refine wp_icmp_eq rfl rfl rfl rfl rfl (fun c => ?_) (fun c => ?_)
    · replace F := F.1 c
      refine wp_const' (L' := [some (vR l0), some (vI l1), some (vI l2), some (vI l3), some (vI l4), none, none, none]) rfl rfl rfl ?_
      refine wp_istore' (L' := [some (vR l0), some (vI l1), some (vI l2), some (vI l3), some (vI l4), none, none, none]) (L2 := [some (vR l0), some (vI l1), some (vI l2), some (vI l3), some (vI l4), some (vI 0), none, none]) rfl rfl rfl rfl rfl ?_
      refine wp_iload rfl rfl rfl ?_
      refine wp_iload rfl rfl rfl ?_
      refine wp_isub rfl rfl ?_
      refine wp_iload rfl rfl rfl ?_
      refine wp_iand rfl rfl ?_
      replace F := F _ rfl
      generalize ((l4 - l3) &&& l3 : Int32) = v0 at F ⊢
      refine wp_istore (L2 := [some (vR l0), some (vI l1), some (vI l2), some (vI l3), some (vI v0), some (vI 0), none, none]) rfl rfl rfl rfl ?_
      refine wp_goto rfl rfl ?_
      exact F
    · replace F := F.2 c
      refine wp_const rfl rfl ?_
      refine wp_goto rfl rfl ?_
      refine wp_istore' (L' := [some (vR l0), some (vI l1), some (vI l2), some (vI l3), some (vI l4), none, none, none]) (L2 := [some (vR l0), some (vI l1), some (vI l2), some (vI l3), some (vI l4), some (vI 1), none, none]) rfl rfl rfl rfl rfl ?_
      refine wp_iload rfl rfl rfl ?_
      refine wp_iload rfl rfl rfl ?_
      refine wp_isub rfl rfl ?_
      refine wp_iload rfl rfl rfl ?_
      refine wp_iand rfl rfl ?_
      replace F := F _ rfl
      generalize ((l4 - l3) &&& l3 : Int32) = v1 at F ⊢
      refine wp_istore (L2 := [some (vR l0), some (vI l1), some (vI l2), some (vI l3), some (vI v1), some (vI 1), none, none]) rfl rfl rfl rfl ?_
      refine wp_goto rfl rfl ?_
      exact F
  · replace F := F.2 c
    refine wp_aload rfl rfl rfl ?_
    refine wp_iload rfl rfl rfl ?_
    obtain ⟨f2, F⟩ := F
    refine wp_putI rfl rfl rfl f0 f2 rfl ?_
    have f3 : gK (pI h0 l0 62 l6) l0 = 14 := (gK_pI _ _ _ _ _).trans f2
    replace F := F _ rfl
    generalize pI h0 l0 62 l6 = h1 at F f3 ⊢
    refine wp_aload rfl rfl rfl ?_
    refine wp_iload rfl rfl rfl ?_
    refine wp_putI rfl rfl rfl f0 f3 rfl ?_
    have f4 : gK (pI h1 l0 63 l4) l0 = 14 := (gK_pI _ _ _ _ _).trans f3
    replace F := F _ rfl
    generalize pI h1 l0 63 l4 = h2 at F f4 ⊢
    refine wp_iload' (L' := [some (vR l0), some (vI l1), some (vI l2), some (vI l3), some (vI l4), none, none, none]) rfl rfl rfl rfl ?_
    refine wp_iload rfl rfl rfl ?_
    refine wp_icmp_eq rfl rfl rfl rfl rfl (fun c => ?_) (fun c => ?_)
    · replace F := F.1 c
      refine wp_const' (L' := [some (vR l0), some (vI l1), some (vI l2), some (vI l3), some (vI l4), none, none, none]) rfl rfl rfl ?_
      refine wp_istore' (L' := [some (vR l0), some (vI l1), some (vI l2), some (vI l3), some (vI l4), none, none, none]) (L2 := [some (vR l0), some (vI l1), some (vI l2), some (vI l3), some (vI l4), some (vI 0), none, none]) rfl rfl rfl rfl rfl ?_
      refine wp_iload rfl rfl rfl ?_
      refine wp_iload rfl rfl rfl ?_
      refine wp_isub rfl rfl ?_
      refine wp_iload rfl rfl rfl ?_
      refine wp_iand rfl rfl ?_
      replace F := F _ rfl
      generalize ((l4 - l3) &&& l3 : Int32) = v2 at F ⊢
      refine wp_istore (L2 := [some (vR l0), some (vI l1), some (vI l2), some (vI l3), some (vI v2), some (vI 0), none, none]) rfl rfl rfl rfl ?_
      refine wp_goto rfl rfl ?_
      exact F
    · replace F := F.2 c
      refine wp_const rfl rfl ?_
      refine wp_goto rfl rfl ?_
      refine wp_istore' (L' := [some (vR l0), some (vI l1), some (vI l2), some (vI l3), some (vI l4), none, none, none]) (L2 := [some (vR l0), some (vI l1), some (vI l2), some (vI l3), some (vI l4), some (vI 1), none, none]) rfl rfl rfl rfl rfl ?_
      refine wp_iload rfl rfl rfl ?_
      refine wp_iload rfl rfl rfl ?_
      refine wp_isub rfl rfl ?_
      refine wp_iload rfl rfl rfl ?_
      refine wp_iand rfl rfl ?_
      replace F := F _ rfl
      generalize ((l4 - l3) &&& l3 : Int32) = v3 at F ⊢
      refine wp_istore (L2 := [some (vR l0), some (vI l1), some (vI l2), some (vI l3), some (vI v3), some (vI 1), none, none]) rfl rfl rfl rfl ?_
      refine wp_goto rfl rfl ?_
      exact F
-- CensusOfficeModel least (IZ)I
theorem m212 {d : Nat} {a0 : Nat} {a1 : Int32} {a2 : Int32} {h : aH} {K : Int32 → aH → Prop} {X : Nat → aH → Prop} (F : 8 ≤ a0 ∧ gK h a0 = 14 ∧ ∀ h0 : aH, h0 = pI h a0 0 0 → CI d 14 [vL (a1.toInt64), vL 0, vL (((gI h0 a0 53) - 1).toInt64)] h0 (fun y0 h1 => ((y0.toInt = 0 → gK h1 a0 = 14 ∧ CI d 15 [vR a0, vI 1] h1 (fun y1 h2 => K y1 h2) X) ∧ (¬ y0.toInt = 0 → gK h1 a0 = 14 ∧ CV d 211 [vR a0, vI a1] h1 (fun h3 => ((a2.toInt = 0 → gK h3 a0 = 14 ∧ K (gI h3 a0 62) h3) ∧ (¬ a2.toInt = 0 → gK h3 a0 = 14 ∧ K (gI h3 a0 63) h3))) X))) X) : CI (d + 1) 212 [vR a0, vI a1, vI a2] h K X := by
  show Wp (d + 1) 212 (0, [some (vR a0), some (vI a1), some (vI a2)], [], h) (RI K X)
  refine wp_aload rfl rfl rfl ?_
  refine wp_const rfl rfl ?_
  obtain ⟨f0, F⟩ := F
  obtain ⟨f1, F⟩ := F
  refine wp_putI rfl rfl rfl f0 f1 rfl ?_
  have f2 : gK (pI h a0 0 0) a0 = 14 := (gK_pI _ _ _ _ _).trans f1
  replace F := F _ rfl
  generalize pI h a0 0 0 = h0 at F f2 ⊢
  refine wp_iload rfl rfl rfl ?_
  refine wp_i2l rfl rfl ?_
  refine wp_const rfl rfl ?_
  refine wp_aload rfl rfl rfl ?_
  refine wp_getI rfl rfl rfl f2 rfl ?_
  refine wp_const rfl rfl ?_
  refine wp_isub rfl rfl ?_
  refine wp_i2l rfl rfl ?_
  refine wp_callI rfl rfl rfl rfl rfl rfl rfl rfl ?_
  refine CI.mono F (fun y0 h1 F => ?_) (fun _ _ w => rx_I w)
  refine wp_if_ne rfl rfl rfl rfl (fun c => ?_) (fun c => ?_)
  · replace F := F.1 c
    refine wp_aload rfl rfl rfl ?_
    refine wp_const rfl rfl ?_
    obtain ⟨f3, F⟩ := F
    refine wp_callI rfl rfl rfl (rcv_v f0 f3 (by decide) (by decide)) rfl rfl rfl rfl ?_
    refine CI.mono F (fun y1 h2 F => ?_) (fun _ _ w => rx_I w)
    exact wp_retI rfl (Or.inl rfl) F
  · replace F := F.2 c
    refine wp_aload rfl rfl rfl ?_
    refine wp_iload rfl rfl rfl ?_
    obtain ⟨f4, F⟩ := F
    refine wp_callV rfl rfl rfl (rcv_v f0 f4 (by decide) (by decide)) rfl rfl rfl rfl ?_
    refine CV.mono F (fun h3 F => ?_) (fun _ _ w => rx_I w)
    refine wp_iload rfl rfl rfl ?_
    refine wp_if_eq rfl rfl rfl rfl (fun c => ?_) (fun c => ?_)
    · replace F := F.1 c
      refine wp_aload' (L' := [some (vR a0), none, none]) rfl rfl rfl rfl ?_
      obtain ⟨f5, F⟩ := F
      refine wp_getI rfl rfl rfl f5 rfl ?_
      exact wp_retI rfl (Or.inl rfl) F
    · replace F := F.2 c
      refine wp_aload rfl rfl rfl ?_
      obtain ⟨f6, F⟩ := F
      refine wp_getI rfl rfl rfl f6 rfl ?_
      refine wp_goto rfl rfl ?_
      exact wp_retI rfl (Or.inl rfl) F
-- CensusOffice$Rec breaksNone ()Z
theorem m213 {d : Nat} {a0 : Nat} {h : aH} {K : Int32 → aH → Prop} {X : Nat → aH → Prop} (F : gK h a0 = 5 ∧ 8 ≤ (gR h a0 0) ∧ gK h (gR h a0 0) = 3 ∧ CI d 193 [vR (gR h a0 0), vR (gR h a0 3)] h (fun y0 h0 => ((y0.toInt = 0 → K 1 h0) ∧ (¬ y0.toInt = 0 → K 0 h0))) X) : CI (d + 1) 213 [vR a0] h K X := by
  show Wp (d + 1) 213 (0, [some (vR a0)], [], h) (RI K X)
  refine wp_aload rfl rfl rfl ?_
  obtain ⟨f0, F⟩ := F
  refine wp_getR rfl rfl rfl f0 rfl ?_
  refine wp_aload rfl rfl rfl ?_
  refine wp_getR rfl rfl rfl f0 rfl ?_
  obtain ⟨f1, F⟩ := F
  obtain ⟨f2, F⟩ := F
  refine wp_callI rfl rfl rfl (rcv_v f1 f2 (by decide) (by decide)) rfl rfl rfl rfl ?_
  refine CI.mono F (fun y0 h0 F => ?_) (fun _ _ w => rx_I w)
  refine wp_if_ne rfl rfl rfl rfl (fun c => ?_) (fun c => ?_)
  · replace F := F.1 c
    refine wp_const rfl rfl ?_
    refine wp_goto rfl rfl ?_
    exact wp_retI rfl (Or.inr rfl) F
  · replace F := F.2 c
    refine wp_const' (L' := [none]) rfl rfl rfl ?_
    exact wp_retI rfl (Or.inr rfl) F
-- CensusOffice$Editor canGive (LCensusOffice$Rec;LCensusOffice$Rec;I)Z
theorem m214 {d : Nat} {a0 : Nat} {a1 : Nat} {a2 : Nat} {a3 : Int32} {h : aH} {K : Int32 → aH → Prop} {X : Nat → aH → Prop} (F : Wp (d + 1) 214 (3, [some (vR a0), some (vR a1), some (vR a2), some (vI a3), some (vI 0)], [], h) (RI K X)) : CI (d + 1) 214 [vR a0, vR a1, vR a2, vI a3] h K X := by
  show Wp (d + 1) 214 (0, [some (vR a0), some (vR a1), some (vR a2), some (vI a3), none], [], h) (RI K X)
  refine wp_const rfl rfl ?_
  refine wp_istore (L2 := [some (vR a0), some (vR a1), some (vR a2), some (vI a3), some (vI 0)]) rfl rfl rfl rfl ?_
  exact F
theorem w214_3 {d : Nat} {l0 : Nat} {l1 : Nat} {l2 : Nat} {l3 : Int32} {l4 : Int32} {h : aH} {K : Int32 → aH → Prop} {X : Nat → aH → Prop} (F : gK h l2 = 5 ∧ gK h (gR h l2 0) = 3 ∧ ((l4.toInt < (gI h (gR h l2 0) 11).toInt → gK h l0 = 2 ∧ CI d 199 [vI l3, vI l4] h (fun y0 h0 => ((y0.toInt = 0 → gK h0 l2 = 5 ∧ ∃ i0 : Nat, inB h0 100 (gR h0 l2 3) l4 i0 ∧ Wp (d + 1) 214 (47, [some (vR l0), some (vR l1), some (vR l2), some (vI l3), some (vI l4)], [vI (gI h0 (gR h0 l2 3) i0), vI l4, vR (gR h l0 0)], h0) (RI K X)) ∧ (¬ y0.toInt = 0 → gK h0 l1 = 5 ∧ ∃ i1 : Nat, inB h0 100 (gR h0 l1 3) l4 i1 ∧ Wp (d + 1) 214 (47, [some (vR l0), some (vR l1), some (vR l2), some (vI l3), some (vI l4)], [vI (gI h0 (gR h0 l1 3) i1), vI l4, vR (gR h l0 0)], h0) (RI K X)))) (fun _ _ => False)) ∧ (¬ l4.toInt < (gI h (gR h l2 0) 11).toInt → 8 ≤ l1 ∧ gK h l1 = 5 ∧ CI d 213 [vR l1] h (fun y1 h1 => ((y1.toInt = 0 → K 0 h1) ∧ (¬ y1.toInt = 0 → gK h1 l2 = 5 ∧ gK h1 l0 = 2 ∧ 8 ≤ (gR h1 l2 0) ∧ gK h1 (gR h1 l2 0) = 3 ∧ CI d 193 [vR (gR h1 l2 0), vR (gR h1 l0 0)] h1 (fun y2 h2 => ((y2.toInt = 0 → K 1 h2) ∧ (¬ y2.toInt = 0 → K 0 h2))) X))) X))) : Wp (d + 1) 214 (3, [some (vR l0), some (vR l1), some (vR l2), some (vI l3), some (vI l4)], [], h) (RI K X) := by
  refine wp_iload rfl rfl rfl ?_
  refine wp_aload rfl rfl rfl ?_
  obtain ⟨f0, F⟩ := F
  refine wp_getR rfl rfl rfl f0 rfl ?_
  obtain ⟨f1, F⟩ := F
  refine wp_getI rfl rfl rfl f1 rfl ?_
  refine wp_icmp_ge rfl rfl rfl rfl rfl (fun c => ?_) (fun c => ?_)
  · replace F := F.1 c
    refine wp_aload rfl rfl rfl ?_
    obtain ⟨f2, F⟩ := F
    refine wp_getR rfl rfl rfl f2 rfl ?_
    refine wp_iload rfl rfl rfl ?_
    refine wp_iload rfl rfl rfl ?_
    refine wp_iload rfl rfl rfl ?_
    refine wp_callqI rfl rfl rfl rfl rfl rfl ?_
    refine CI.mono F (fun y0 h0 F => ?_) (fun _ _ w => w)
    refine wp_if_eq rfl rfl rfl rfl (fun c => ?_) (fun c => ?_)
    · replace F := F.1 c
      refine wp_aload rfl rfl rfl ?_
      obtain ⟨f3, F⟩ := F
      refine wp_getR rfl rfl rfl f3 rfl ?_
      refine wp_iload rfl rfl rfl ?_
      obtain ⟨i0, b9, F⟩ := F
      refine wp_iaload rfl b9 rfl ?_
      exact F
    · replace F := F.2 c
      refine wp_aload rfl rfl rfl ?_
      obtain ⟨f4, F⟩ := F
      refine wp_getR rfl rfl rfl f4 rfl ?_
      refine wp_iload rfl rfl rfl ?_
      obtain ⟨i1, b9, F⟩ := F
      refine wp_iaload rfl b9 rfl ?_
      refine wp_goto rfl rfl ?_
      exact F
  · replace F := F.2 c
    refine wp_aload' (L' := [some (vR l0), some (vR l1), some (vR l2), none, none]) rfl rfl rfl rfl ?_
    obtain ⟨f5, F⟩ := F
    obtain ⟨f6, F⟩ := F
    refine wp_callI rfl rfl rfl (rcv_v f5 f6 (by decide) (by decide)) rfl rfl rfl rfl ?_
    refine CI.mono F (fun y1 h1 F => ?_) (fun _ _ w => rx_I w)
    refine wp_if_eq rfl rfl rfl rfl (fun c => ?_) (fun c => ?_)
    · replace F := F.1 c
      refine wp_const' (L' := [none, none, none, none, none]) rfl rfl rfl ?_
      exact wp_retI rfl (Or.inr rfl) F
    · replace F := F.2 c
      refine wp_aload rfl rfl rfl ?_
      obtain ⟨f7, F⟩ := F
      refine wp_getR rfl rfl rfl f7 rfl ?_
      refine wp_aload rfl rfl rfl ?_
      obtain ⟨f8, F⟩ := F
      refine wp_getR rfl rfl rfl f8 rfl ?_
      obtain ⟨f9, F⟩ := F
      obtain ⟨f10, F⟩ := F
      refine wp_callI rfl rfl rfl (rcv_v f9 f10 (by decide) (by decide)) rfl rfl rfl rfl ?_
      refine CI.mono F (fun y2 h2 F => ?_) (fun _ _ w => rx_I w)
      refine wp_if_ne rfl rfl rfl rfl (fun c => ?_) (fun c => ?_)
      · replace F := F.1 c
        refine wp_const rfl rfl ?_
        refine wp_goto rfl rfl ?_
        exact wp_retI rfl (Or.inr rfl) F
      · replace F := F.2 c
        refine wp_const' (L' := [none, none, none, none, none]) rfl rfl rfl ?_
        exact wp_retI rfl (Or.inr rfl) F
theorem w214_47 {d : Nat} {l0 : Nat} {l1 : Nat} {l2 : Nat} {l3 : Int32} {l4 : Int32} {s0 : Int32} {s1 : Int32} {s2 : Nat} {h : aH} {K : Int32 → aH → Prop} {X : Nat → aH → Prop} (F : 8 ≤ s2 ∧ ∃ i0 : Nat, inB h 100 s2 s1 i0 ∧ ∀ h0 : aH, h0 = pI h s2 i0 s0 → CI d 199 [vI l3, vI l4] h0 (fun y0 h1 => ((y0.toInt = 0 → ∀ v0 : Int32, v0 = l4 + 1 → Wp (d + 1) 214 (3, [some (vR l0), some (vR l1), some (vR l2), some (vI l3), some (vI v0)], [], h1) (RI K X)) ∧ (¬ y0.toInt = 0 → gK h1 l1 = 5 ∧ ∃ i1 : Nat, inB h1 100 (gR h1 l1 3) l4 i1 ∧ (((gI h1 (gR h1 l1 3) i1).toInt = (-2000000) → K 0 h1) ∧ (¬ (gI h1 (gR h1 l1 3) i1).toInt = (-2000000) → ∀ v1 : Int32, v1 = l4 + 1 → Wp (d + 1) 214 (3, [some (vR l0), some (vR l1), some (vR l2), some (vI l3), some (vI v1)], [], h1) (RI K X)))))) (fun _ _ => False)) : Wp (d + 1) 214 (47, [some (vR l0), some (vR l1), some (vR l2), some (vI l3), some (vI l4)], [vI s0, vI s1, vR s2], h) (RI K X) := by
  obtain ⟨f0, F⟩ := F
  obtain ⟨i0, b9, F⟩ := F
  refine wp_iastore rfl f0 b9 rfl ?_
  replace F := F _ rfl
  generalize pI h s2 i0 s0 = h0 at F ⊢
  refine wp_iload rfl rfl rfl ?_
  refine wp_iload rfl rfl rfl ?_
  refine wp_callqI rfl rfl rfl rfl rfl rfl ?_
  refine CI.mono F (fun y0 h1 F => ?_) (fun _ _ w => w)
  refine wp_if_eq rfl rfl rfl rfl (fun c => ?_) (fun c => ?_)
  · replace F := F.1 c
    refine wp_iinc (y := 1) (L2 := [some (vR l0), some (vR l1), some (vR l2), some (vI l3), some (vI (l4 + 1))]) rfl rfl rfl rfl rfl ?_
    replace F := F _ rfl
    generalize (l4 + 1 : Int32) = v0 at F ⊢
    refine wp_goto rfl rfl ?_
    exact F
  · replace F := F.2 c
    refine wp_aload rfl rfl rfl ?_
    obtain ⟨f1, F⟩ := F
    refine wp_getR rfl rfl rfl f1 rfl ?_
    refine wp_iload rfl rfl rfl ?_
    obtain ⟨i1, b9, F⟩ := F
    refine wp_iaload rfl b9 rfl ?_
    refine wp_const rfl rfl ?_
    refine wp_icmp_ne (Y := (-2000000)) rfl rfl rfl rfl rfl (fun c => ?_) (fun c => ?_)
    · replace F := F.1 c
      refine wp_const rfl rfl ?_
      exact wp_retI rfl (Or.inr rfl) F
    · replace F := F.2 c
      refine wp_iinc (y := 1) (L2 := [some (vR l0), some (vR l1), some (vR l2), some (vI l3), some (vI (l4 + 1))]) rfl rfl rfl rfl rfl ?_
      replace F := F _ rfl
      generalize (l4 + 1 : Int32) = v1 at F ⊢
      refine wp_goto rfl rfl ?_
      exact F
-- java/lang/Math abs (I)I
theorem m215 {d : Nat} {a0 : Int32} {h : aH} {K : Int32 → aH → Prop} {X : Nat → aH → Prop} (F : ((a0.toInt < 0 → K (-a0) h) ∧ (¬ a0.toInt < 0 → K a0 h))) : CI d 215 [vI a0] h K X := by
  show Wp d 215 (0, [some (vI a0)], [], h) (RI K X)
  refine wp_iload rfl rfl rfl ?_
  refine wp_if_ge rfl rfl rfl rfl (fun c => ?_) (fun c => ?_)
  · replace F := F.1 c
    refine wp_iload rfl rfl rfl ?_
    refine wp_ineg rfl rfl ?_
    refine wp_goto rfl rfl ?_
    exact wp_retI rfl (Or.inl rfl) F
  · replace F := F.2 c
    refine wp_iload rfl rfl rfl ?_
    exact wp_retI rfl (Or.inl rfl) F
-- CensusOffice$Editor distance (LCensusOffice$Rec;LCensusOffice$Rec;I)I
theorem m216 {d : Nat} {a0 : Nat} {a1 : Nat} {a2 : Nat} {a3 : Int32} {h : aH} {K : Int32 → aH → Prop} {X : Nat → aH → Prop} (F : Wp (d + 1) 216 (6, [none, some (vR a1), some (vR a2), some (vI a3), some (vI 0), some (vI 0)], [], h) (RI K X)) : CI (d + 1) 216 [vR a0, vR a1, vR a2, vI a3] h K X := by
  show Wp (d + 1) 216 (0, [some (vR a0), some (vR a1), some (vR a2), some (vI a3), none, none], [], h) (RI K X)
  refine wp_const rfl rfl ?_
  refine wp_istore (L2 := [some (vR a0), some (vR a1), some (vR a2), some (vI a3), some (vI 0), none]) rfl rfl rfl rfl ?_
  refine wp_const rfl rfl ?_
  refine wp_istore (L2 := [some (vR a0), some (vR a1), some (vR a2), some (vI a3), some (vI 0), some (vI 0)]) rfl rfl rfl rfl ?_
  refine wp_kill (L' := [none, some (vR a1), some (vR a2), some (vI a3), some (vI 0), some (vI 0)]) rfl rfl ?_
  exact F
theorem w216_6 {d : Nat} {l1 : Nat} {l2 : Nat} {l3 : Int32} {l4 : Int32} {l5 : Int32} {h : aH} {K : Int32 → aH → Prop} {X : Nat → aH → Prop} (F : gK h l2 = 5 ∧ gK h (gR h l2 0) = 3 ∧ ((l5.toInt < (gI h (gR h l2 0) 11).toInt → 8 ≤ (gR h l2 0) ∧ CI d 182 [vR (gR h l2 0), vI l5] h (fun y0 h0 => ((y0.toInt = 0 → ∀ v0 : Int32, v0 = l5 + 1 → Wp (d + 1) 216 (6, [none, some (vR l1), some (vR l2), some (vI l3), some (vI l4), some (vI v0)], [], h0) (RI K X)) ∧ (¬ y0.toInt = 0 → CI d 199 [vI l3, vI l5] h0 (fun y1 h1 => ((y1.toInt = 0 → gK h1 l1 = 5 ∧ ∃ i0 : Nat, inB h1 100 (gR h1 l1 3) l5 i0 ∧ (((gI h1 (gR h1 l1 3) i0).toInt = (-2000000) → ∀ v1 : Int32, v1 = l5 + 1 → Wp (d + 1) 216 (6, [none, some (vR l1), some (vR l2), some (vI l3), some (vI l4), some (vI v1)], [], h1) (RI K X)) ∧ (¬ (gI h1 (gR h1 l1 3) i0).toInt = (-2000000) → gK h1 l2 = 5 ∧ ∃ i1 : Nat, inB h1 100 (gR h1 l2 3) l5 i1 ∧ (((gI h1 (gR h1 l2 3) i1).toInt = (-2000000) → ∀ v2 : Int32, v2 = l5 + 1 → Wp (d + 1) 216 (6, [none, some (vR l1), some (vR l2), some (vI l3), some (vI l4), some (vI v2)], [], h1) (RI K X)) ∧ (¬ (gI h1 (gR h1 l2 3) i1).toInt = (-2000000) → ∃ i2 : Nat, inB h1 100 (gR h1 l1 3) l5 i2 ∧ ∃ i3 : Nat, inB h1 100 (gR h1 l2 3) l5 i3 ∧ CI d 215 [vI ((gI h1 (gR h1 l1 3) i2) - (gI h1 (gR h1 l2 3) i3))] h1 (fun y2 h2 => ∀ v3 : Int32, v3 = l4 + y2 → ∀ v4 : Int32, v4 = l5 + 1 → Wp (d + 1) 216 (6, [none, some (vR l1), some (vR l2), some (vI l3), some (vI v3), some (vI v4)], [], h2) (RI K X)) X))))) ∧ (¬ y1.toInt = 0 → ∀ v5 : Int32, v5 = l5 + 1 → Wp (d + 1) 216 (6, [none, some (vR l1), some (vR l2), some (vI l3), some (vI l4), some (vI v5)], [], h1) (RI K X)))) (fun _ _ => False)))) X) ∧ (¬ l5.toInt < (gI h (gR h l2 0) 11).toInt → K l4 h))) : Wp (d + 1) 216 (6, [none, some (vR l1), some (vR l2), some (vI l3), some (vI l4), some (vI l5)], [], h) (RI K X) := by
  refine wp_iload' (L' := [none, some (vR l1), some (vR l2), some (vI l3), some (vI l4), some (vI l5)]) rfl rfl rfl rfl ?_
  refine wp_aload rfl rfl rfl ?_
  obtain ⟨f0, F⟩ := F
  refine wp_getR rfl rfl rfl f0 rfl ?_
  obtain ⟨f1, F⟩ := F
  refine wp_getI rfl rfl rfl f1 rfl ?_
  refine wp_icmp_ge rfl rfl rfl rfl rfl (fun c => ?_) (fun c => ?_)
  · replace F := F.1 c
    refine wp_aload rfl rfl rfl ?_
    refine wp_getR rfl rfl rfl f0 rfl ?_
    refine wp_iload rfl rfl rfl ?_
    obtain ⟨f2, F⟩ := F
    refine wp_callI rfl rfl rfl (rcv_v f2 f1 (by decide) (by decide)) rfl rfl rfl rfl ?_
    refine CI.mono F (fun y0 h0 F => ?_) (fun _ _ w => rx_I w)
    refine wp_if_eq rfl rfl rfl rfl (fun c => ?_) (fun c => ?_)
    · replace F := F.1 c
      refine wp_iinc' (L' := [none, some (vR l1), some (vR l2), some (vI l3), some (vI l4), some (vI l5)]) (y := 1) (L2 := [none, some (vR l1), some (vR l2), some (vI l3), some (vI l4), some (vI (l5 + 1))]) rfl rfl rfl rfl rfl rfl ?_
      replace F := F _ rfl
      generalize (l5 + 1 : Int32) = v0 at F ⊢
      refine wp_goto rfl rfl ?_
      exact F
    · replace F := F.2 c
      refine wp_iload rfl rfl rfl ?_
      refine wp_iload rfl rfl rfl ?_
      refine wp_callqI rfl rfl rfl rfl rfl rfl ?_
      refine CI.mono F (fun y1 h1 F => ?_) (fun _ _ w => w)
      refine wp_if_ne rfl rfl rfl rfl (fun c => ?_) (fun c => ?_)
      · replace F := F.1 c
        refine wp_aload rfl rfl rfl ?_
        obtain ⟨f3, F⟩ := F
        refine wp_getR rfl rfl rfl f3 rfl ?_
        refine wp_iload rfl rfl rfl ?_
        obtain ⟨i0, b9, F⟩ := F
        refine wp_iaload rfl b9 rfl ?_
        refine wp_const rfl rfl ?_
        refine wp_icmp_eq (Y := (-2000000)) rfl rfl rfl rfl rfl (fun c => ?_) (fun c => ?_)
        · replace F := F.1 c
          refine wp_iinc' (L' := [none, some (vR l1), some (vR l2), some (vI l3), some (vI l4), some (vI l5)]) (y := 1) (L2 := [none, some (vR l1), some (vR l2), some (vI l3), some (vI l4), some (vI (l5 + 1))]) rfl rfl rfl rfl rfl rfl ?_
          replace F := F _ rfl
          generalize (l5 + 1 : Int32) = v1 at F ⊢
          refine wp_goto rfl rfl ?_
          exact F
        · replace F := F.2 c
          refine wp_aload rfl rfl rfl ?_
          obtain ⟨f4, F⟩ := F
          refine wp_getR rfl rfl rfl f4 rfl ?_
          refine wp_iload rfl rfl rfl ?_
          obtain ⟨i1, b9, F⟩ := F
          refine wp_iaload rfl b9 rfl ?_
          refine wp_const rfl rfl ?_
          refine wp_icmp_eq (Y := (-2000000)) rfl rfl rfl rfl rfl (fun c => ?_) (fun c => ?_)
          · replace F := F.1 c
            refine wp_iinc' (L' := [none, some (vR l1), some (vR l2), some (vI l3), some (vI l4), some (vI l5)]) (y := 1) (L2 := [none, some (vR l1), some (vR l2), some (vI l3), some (vI l4), some (vI (l5 + 1))]) rfl rfl rfl rfl rfl rfl ?_
            replace F := F _ rfl
            generalize (l5 + 1 : Int32) = v2 at F ⊢
            refine wp_goto rfl rfl ?_
            exact F
          · replace F := F.2 c
            refine wp_iload rfl rfl rfl ?_
            refine wp_aload rfl rfl rfl ?_
            refine wp_getR rfl rfl rfl f3 rfl ?_
            refine wp_iload rfl rfl rfl ?_
            obtain ⟨i2, b9, F⟩ := F
            refine wp_iaload rfl b9 rfl ?_
            refine wp_aload rfl rfl rfl ?_
            refine wp_getR rfl rfl rfl f4 rfl ?_
            refine wp_iload rfl rfl rfl ?_
            obtain ⟨i3, b9, F⟩ := F
            refine wp_iaload rfl b9 rfl ?_
            refine wp_isub rfl rfl ?_
            refine wp_callI rfl rfl rfl rfl rfl rfl rfl rfl ?_
            refine CI.mono F (fun y2 h2 F => ?_) (fun _ _ w => rx_I w)
            refine wp_iadd rfl rfl ?_
            replace F := F _ rfl
            generalize (l4 + y2 : Int32) = v3 at F ⊢
            refine wp_istore (L2 := [none, some (vR l1), some (vR l2), some (vI l3), some (vI v3), some (vI l5)]) rfl rfl rfl rfl ?_
            refine wp_iinc' (L' := [none, some (vR l1), some (vR l2), some (vI l3), some (vI v3), some (vI l5)]) (y := 1) (L2 := [none, some (vR l1), some (vR l2), some (vI l3), some (vI v3), some (vI (l5 + 1))]) rfl rfl rfl rfl rfl rfl ?_
            replace F := F _ rfl
            generalize (l5 + 1 : Int32) = v4 at F ⊢
            refine wp_goto rfl rfl ?_
            exact F
      · replace F := F.2 c
        refine wp_iinc' (L' := [none, some (vR l1), some (vR l2), some (vI l3), some (vI l4), some (vI l5)]) (y := 1) (L2 := [none, some (vR l1), some (vR l2), some (vI l3), some (vI l4), some (vI (l5 + 1))]) rfl rfl rfl rfl rfl rfl ?_
        replace F := F _ rfl
        generalize (l5 + 1 : Int32) = v5 at F ⊢
        refine wp_goto rfl rfl ?_
        exact F
  · replace F := F.2 c
    refine wp_iload' (L' := [none, none, none, none, some (vI l4), none]) rfl rfl rfl rfl ?_
    exact wp_retI rfl (Or.inl rfl) F
-- CensusOffice$Editor donorOf (Ljava/util/ArrayList;LCensusOffice$Rec;I)I
theorem m217 {d : Nat} {a0 : Nat} {a1 : Nat} {a2 : Nat} {a3 : Int32} {h : aH} {K : Int32 → aH → Prop} {X : Nat → aH → Prop} (F : Wp (d + 1) 217 (10, [some (vR a0), some (vR a1), some (vR a2), some (vI a3), some (vI (-1)), some (vI 2147483647), some (vI 0), none, none], [], h) (RI K X)) : CI (d + 1) 217 [vR a0, vR a1, vR a2, vI a3] h K X := by
  show Wp (d + 1) 217 (0, [some (vR a0), some (vR a1), some (vR a2), some (vI a3), none, none, none, none, none], [], h) (RI K X)
  refine wp_const rfl rfl ?_
  refine wp_istore (L2 := [some (vR a0), some (vR a1), some (vR a2), some (vI a3), some (vI (-1)), none, none, none, none]) rfl rfl rfl rfl ?_
  refine wp_const rfl rfl ?_
  refine wp_istore (L2 := [some (vR a0), some (vR a1), some (vR a2), some (vI a3), some (vI (-1)), some (vI 2147483647), none, none, none]) rfl rfl rfl rfl ?_
  refine wp_const rfl rfl ?_
  refine wp_istore (L2 := [some (vR a0), some (vR a1), some (vR a2), some (vI a3), some (vI (-1)), some (vI 2147483647), some (vI 0), none, none]) rfl rfl rfl rfl ?_
  exact F
theorem w217_10 {d : Nat} {l0 : Nat} {l1 : Nat} {l2 : Nat} {l3 : Int32} {l4 : Int32} {l5 : Int32} {l6 : Int32} {h : aH} {K : Int32 → aH → Prop} {X : Nat → aH → Prop} (F : 8 ≤ l1 ∧ gK h l1 = 13 ∧ CI d 65 [vR l1] h (fun y0 h0 => ((l6.toInt < y0.toInt → gK h0 l1 = 13 ∧ CR d 119 [vR l1, vI l6] h0 (fun q0 h1 => (q0 = 0 ∨ gK h1 q0 = 5) ∧ ((q0 = l2 ∨ ((8 ≤ q0 ∨ q0 = 0 ∨ q0 = 2) ∧ (8 ≤ l2 ∨ l2 = 0 ∨ l2 = 2))) ∧ (q0 = l2 → ∀ v0 : Int32, v0 = l6 + 1 → Wp (d + 1) 217 (10, [some (vR l0), some (vR l1), some (vR l2), some (vI l3), some (vI l4), some (vI l5), some (vI v0), none, none], [], h1) (RI K X)) ∧ (¬ q0 = l2 → gK h1 q0 = 5 ∧ gK h1 l2 = 5 ∧ (((gR h1 q0 0) = (gR h1 l2 0) ∨ ((8 ≤ (gR h1 q0 0) ∨ (gR h1 q0 0) = 0 ∨ (gR h1 q0 0) = 2) ∧ (8 ≤ (gR h1 l2 0) ∨ (gR h1 l2 0) = 0 ∨ (gR h1 l2 0) = 2))) ∧ ((gR h1 q0 0) = (gR h1 l2 0) → 8 ≤ l0 ∧ gK h1 l0 = 2 ∧ CI d 214 [vR l0, vR q0, vR l2, vI l3] h1 (fun y1 h2 => ((y1.toInt = 0 → ∀ v1 : Int32, v1 = l6 + 1 → Wp (d + 1) 217 (10, [some (vR l0), some (vR l1), some (vR l2), some (vI l3), some (vI l4), some (vI l5), some (vI v1), none, none], [], h2) (RI K X)) ∧ (¬ y1.toInt = 0 → gK h2 l0 = 2 ∧ CI d 216 [vR l0, vR q0, vR l2, vI l3] h2 (fun y2 h3 => ((y2.toInt < l5.toInt → ∀ v2 : Int32, v2 = l6 + 1 → Wp (d + 1) 217 (10, [some (vR l0), some (vR l1), some (vR l2), some (vI l3), some (vI l6), some (vI y2), some (vI v2), none, none], [], h3) (RI K X)) ∧ (¬ y2.toInt < l5.toInt → ∀ v3 : Int32, v3 = l6 + 1 → Wp (d + 1) 217 (10, [some (vR l0), some (vR l1), some (vR l2), some (vI l3), some (vI l4), some (vI l5), some (vI v3), none, none], [], h3) (RI K X)))) X))) X) ∧ (¬ (gR h1 q0 0) = (gR h1 l2 0) → ∀ v4 : Int32, v4 = l6 + 1 → Wp (d + 1) 217 (10, [some (vR l0), some (vR l1), some (vR l2), some (vI l3), some (vI l4), some (vI l5), some (vI v4), none, none], [], h1) (RI K X)))))) X) ∧ (¬ l6.toInt < y0.toInt → K l4 h0))) X) : Wp (d + 1) 217 (10, [some (vR l0), some (vR l1), some (vR l2), some (vI l3), some (vI l4), some (vI l5), some (vI l6), none, none], [], h) (RI K X) := by
  refine wp_iload' (L' := [some (vR l0), some (vR l1), some (vR l2), some (vI l3), some (vI l4), some (vI l5), some (vI l6), none, none]) rfl rfl rfl rfl ?_
  refine wp_aload rfl rfl rfl ?_
  obtain ⟨f0, F⟩ := F
  obtain ⟨f1, F⟩ := F
  refine wp_callI rfl rfl rfl (rcv_v f0 f1 (by decide) (by decide)) rfl rfl rfl rfl ?_
  refine CI.mono F (fun y0 h0 F => ?_) (fun _ _ w => rx_I w)
  refine wp_icmp_ge rfl rfl rfl rfl rfl (fun c => ?_) (fun c => ?_)
  · replace F := F.1 c
    refine wp_aload rfl rfl rfl ?_
    refine wp_iload rfl rfl rfl ?_
    obtain ⟨f2, F⟩ := F
    refine wp_callR rfl rfl rfl (rcv_v f0 f2 (by decide) (by decide)) rfl rfl rfl rfl ?_
    refine CR.mono F (fun q0 h1 F => ?_) (fun _ _ w => rx_I w)
    refine wp_cast rfl F.1 rfl ?_
    replace F := F.2
    refine wp_astore (L2 := [some (vR l0), some (vR l1), some (vR l2), some (vI l3), some (vI l4), some (vI l5), some (vI l6), some (vR q0), none]) rfl rfl rfl rfl ?_
    refine wp_aload rfl rfl rfl ?_
    refine wp_aload rfl rfl rfl ?_
    refine wp_acmp_eq rfl F.1 rfl rfl (fun c => ?_) (fun c => ?_)
    · replace F := F.2.1 c
      refine wp_iinc' (L' := [some (vR l0), some (vR l1), some (vR l2), some (vI l3), some (vI l4), some (vI l5), some (vI l6), none, none]) (y := 1) (L2 := [some (vR l0), some (vR l1), some (vR l2), some (vI l3), some (vI l4), some (vI l5), some (vI (l6 + 1)), none, none]) rfl rfl rfl rfl rfl rfl ?_
      replace F := F _ rfl
      generalize (l6 + 1 : Int32) = v0 at F ⊢
      refine wp_goto rfl rfl ?_
      exact F
    · replace F := F.2.2 c
      refine wp_aload rfl rfl rfl ?_
      obtain ⟨f3, F⟩ := F
      refine wp_getR rfl rfl rfl f3 rfl ?_
      refine wp_aload rfl rfl rfl ?_
      obtain ⟨f4, F⟩ := F
      refine wp_getR rfl rfl rfl f4 rfl ?_
      refine wp_acmp_ne rfl F.1 rfl rfl (fun c => ?_) (fun c => ?_)
      · replace F := F.2.1 c
        refine wp_aload rfl rfl rfl ?_
        refine wp_aload rfl rfl rfl ?_
        refine wp_aload rfl rfl rfl ?_
        refine wp_iload rfl rfl rfl ?_
        obtain ⟨f5, F⟩ := F
        obtain ⟨f6, F⟩ := F
        refine wp_callI rfl rfl rfl (rcv_v f5 f6 (by decide) (by decide)) rfl rfl rfl rfl ?_
        refine CI.mono F (fun y1 h2 F => ?_) (fun _ _ w => rx_I w)
        refine wp_if_eq rfl rfl rfl rfl (fun c => ?_) (fun c => ?_)
        · replace F := F.1 c
          refine wp_iinc' (L' := [some (vR l0), some (vR l1), some (vR l2), some (vI l3), some (vI l4), some (vI l5), some (vI l6), none, none]) (y := 1) (L2 := [some (vR l0), some (vR l1), some (vR l2), some (vI l3), some (vI l4), some (vI l5), some (vI (l6 + 1)), none, none]) rfl rfl rfl rfl rfl rfl ?_
          replace F := F _ rfl
          generalize (l6 + 1 : Int32) = v1 at F ⊢
          refine wp_goto rfl rfl ?_
          exact F
        · replace F := F.2 c
          refine wp_aload rfl rfl rfl ?_
          refine wp_aload rfl rfl rfl ?_
          refine wp_aload rfl rfl rfl ?_
          refine wp_iload rfl rfl rfl ?_
          obtain ⟨f7, F⟩ := F
          refine wp_callI rfl rfl rfl (rcv_v f5 f7 (by decide) (by decide)) rfl rfl rfl rfl ?_
          refine CI.mono F (fun y2 h3 F => ?_) (fun _ _ w => rx_I w)
          refine wp_istore (L2 := [some (vR l0), some (vR l1), some (vR l2), some (vI l3), some (vI l4), some (vI l5), some (vI l6), some (vR q0), some (vI y2)]) rfl rfl rfl rfl ?_
          refine wp_iload rfl rfl rfl ?_
          refine wp_iload rfl rfl rfl ?_
          refine wp_icmp_ge rfl rfl rfl rfl rfl (fun c => ?_) (fun c => ?_)
          · replace F := F.1 c
            refine wp_iload rfl rfl rfl ?_
            refine wp_istore (L2 := [some (vR l0), some (vR l1), some (vR l2), some (vI l3), some (vI l6), some (vI l5), some (vI l6), some (vR q0), some (vI y2)]) rfl rfl rfl rfl ?_
            refine wp_iload rfl rfl rfl ?_
            refine wp_istore (L2 := [some (vR l0), some (vR l1), some (vR l2), some (vI l3), some (vI l6), some (vI y2), some (vI l6), some (vR q0), some (vI y2)]) rfl rfl rfl rfl ?_
            refine wp_iinc' (L' := [some (vR l0), some (vR l1), some (vR l2), some (vI l3), some (vI l6), some (vI y2), some (vI l6), none, none]) (y := 1) (L2 := [some (vR l0), some (vR l1), some (vR l2), some (vI l3), some (vI l6), some (vI y2), some (vI (l6 + 1)), none, none]) rfl rfl rfl rfl rfl rfl ?_
            replace F := F _ rfl
            generalize (l6 + 1 : Int32) = v2 at F ⊢
            refine wp_goto rfl rfl ?_
            exact F
          · replace F := F.2 c
            refine wp_iinc' (L' := [some (vR l0), some (vR l1), some (vR l2), some (vI l3), some (vI l4), some (vI l5), some (vI l6), none, none]) (y := 1) (L2 := [some (vR l0), some (vR l1), some (vR l2), some (vI l3), some (vI l4), some (vI l5), some (vI (l6 + 1)), none, none]) rfl rfl rfl rfl rfl rfl ?_
            replace F := F _ rfl
            generalize (l6 + 1 : Int32) = v3 at F ⊢
            refine wp_goto rfl rfl ?_
            exact F
      · replace F := F.2.2 c
        refine wp_iinc' (L' := [some (vR l0), some (vR l1), some (vR l2), some (vI l3), some (vI l4), some (vI l5), some (vI l6), none, none]) (y := 1) (L2 := [some (vR l0), some (vR l1), some (vR l2), some (vI l3), some (vI l4), some (vI l5), some (vI (l6 + 1)), none, none]) rfl rfl rfl rfl rfl rfl ?_
        replace F := F _ rfl
        generalize (l6 + 1 : Int32) = v4 at F ⊢
        refine wp_goto rfl rfl ?_
        exact F
  · replace F := F.2 c
    refine wp_iload' (L' := [none, none, none, none, some (vI l4), none, none, none, none]) rfl rfl rfl rfl ?_
    exact wp_retI rfl (Or.inl rfl) F
-- CensusOffice$Rec change (I[II)V
theorem m218 {d : Nat} {a0 : Nat} {a1 : Int32} {a2 : Nat} {a3 : Int32} {h : aH} {K : aH → Prop} {X : Nat → aH → Prop} (F : Wp (d + 1) 218 (3, [some (vR a0), some (vI a1), some (vR a2), some (vI a3), some (vI 0)], [], h) (RV K X)) : CV (d + 1) 218 [vR a0, vI a1, vR a2, vI a3] h K X := by
  show Wp (d + 1) 218 (0, [some (vR a0), some (vI a1), some (vR a2), some (vI a3), none], [], h) (RV K X)
  refine wp_const rfl rfl ?_
  refine wp_istore (L2 := [some (vR a0), some (vI a1), some (vR a2), some (vI a3), some (vI 0)]) rfl rfl rfl rfl ?_
  exact F
theorem w218_3 {d : Nat} {l0 : Nat} {l1 : Int32} {l2 : Nat} {l3 : Int32} {l4 : Int32} {h : aH} {K : aH → Prop} {X : Nat → aH → Prop} (F : gK h l0 = 5 ∧ gK h (gR h l0 0) = 3 ∧ ((l4.toInt < (gI h (gR h l0 0) 11).toInt → CI d 199 [vI l1, vI l4] h (fun y0 h0 => ((y0.toInt = 0 → ∀ v0 : Int32, v0 = l4 + 1 → Wp (d + 1) 218 (3, [some (vR l0), some (vI l1), some (vR l2), some (vI l3), some (vI v0)], [], h0) (RV K X)) ∧ (¬ y0.toInt = 0 → (100 ≤ gK h0 l2 ∧ gK h0 l2 ≤ 106) ∧ ((l4.toInt < (nI (gL h0 l2)).toInt → gK h0 l0 = 5 ∧ ∃ i0 : Nat, inB h0 100 l2 l4 i0 ∧ 8 ≤ (gR h0 l0 3) ∧ ∃ i1 : Nat, inB h0 100 (gR h0 l0 3) l4 i1 ∧ ∀ h1 : aH, h1 = pI h0 (gR h0 l0 3) i1 (gI h0 l2 i0) → 8 ≤ (gR h1 l0 4) ∧ ∃ i2 : Nat, inB h1 100 (gR h1 l0 4) l4 i2 ∧ ∀ h2 : aH, h2 = pI h1 (gR h1 l0 4) i2 l3 → ∀ v1 : Int32, v1 = l4 + 1 → Wp (d + 1) 218 (3, [some (vR l0), some (vI l1), some (vR l2), some (vI l3), some (vI v1)], [], h2) (RV K X)) ∧ (¬ l4.toInt < (nI (gL h0 l2)).toInt → ∀ v2 : Int32, v2 = l4 + 1 → Wp (d + 1) 218 (3, [some (vR l0), some (vI l1), some (vR l2), some (vI l3), some (vI v2)], [], h0) (RV K X)))))) (fun _ _ => False)) ∧ (¬ l4.toInt < (gI h (gR h l0 0) 11).toInt → Wp (d + 1) 218 (59, [some (vR l0), none, none, none, some (vI 0)], [], h) (RV K X)))) : Wp (d + 1) 218 (3, [some (vR l0), some (vI l1), some (vR l2), some (vI l3), some (vI l4)], [], h) (RV K X) := by
  refine wp_iload rfl rfl rfl ?_
  refine wp_aload rfl rfl rfl ?_
  obtain ⟨f0, F⟩ := F
  refine wp_getR rfl rfl rfl f0 rfl ?_
  obtain ⟨f1, F⟩ := F
  refine wp_getI rfl rfl rfl f1 rfl ?_
  refine wp_icmp_ge rfl rfl rfl rfl rfl (fun c => ?_) (fun c => ?_)
  · replace F := F.1 c
    refine wp_iload rfl rfl rfl ?_
    refine wp_iload rfl rfl rfl ?_
    refine wp_callqI rfl rfl rfl rfl rfl rfl ?_
    refine CI.mono F (fun y0 h0 F => ?_) (fun _ _ w => w)
    refine wp_if_eq rfl rfl rfl rfl (fun c => ?_) (fun c => ?_)
    · replace F := F.1 c
      refine wp_iinc (y := 1) (L2 := [some (vR l0), some (vI l1), some (vR l2), some (vI l3), some (vI (l4 + 1))]) rfl rfl rfl rfl rfl ?_
      replace F := F _ rfl
      generalize (l4 + 1 : Int32) = v0 at F ⊢
      refine wp_goto rfl rfl ?_
      exact F
    · replace F := F.2 c
      refine wp_iload rfl rfl rfl ?_
      refine wp_aload rfl rfl rfl ?_
      obtain ⟨f2, F⟩ := F
      refine wp_alen rfl f2 rfl ?_
      refine wp_icmp_ge rfl rfl rfl rfl rfl (fun c => ?_) (fun c => ?_)
      · replace F := F.1 c
        refine wp_aload rfl rfl rfl ?_
        obtain ⟨f3, F⟩ := F
        refine wp_getR rfl rfl rfl f3 rfl ?_
        refine wp_iload rfl rfl rfl ?_
        refine wp_aload rfl rfl rfl ?_
        refine wp_iload rfl rfl rfl ?_
        obtain ⟨i0, b9, F⟩ := F
        refine wp_iaload rfl b9 rfl ?_
        obtain ⟨f4, F⟩ := F
        obtain ⟨i1, b9, F⟩ := F
        refine wp_iastore rfl f4 b9 rfl ?_
        have f5 : gK (pI h0 (gR h0 l0 3) i1 (gI h0 l2 i0)) l0 = 5 := (gK_pI _ _ _ _ _).trans f3
        replace F := F _ rfl
        generalize pI h0 (gR h0 l0 3) i1 (gI h0 l2 i0) = h1 at F f5 ⊢
        refine wp_aload rfl rfl rfl ?_
        refine wp_getR rfl rfl rfl f5 rfl ?_
        refine wp_iload rfl rfl rfl ?_
        refine wp_iload rfl rfl rfl ?_
        obtain ⟨f6, F⟩ := F
        obtain ⟨i2, b9, F⟩ := F
        refine wp_iastore rfl f6 b9 rfl ?_
        have f7 : gK (pI h1 (gR h1 l0 4) i2 l3) l0 = 5 := (gK_pI _ _ _ _ _).trans f5
        replace F := F _ rfl
        generalize pI h1 (gR h1 l0 4) i2 l3 = h2 at F f7 ⊢
        refine wp_iinc (y := 1) (L2 := [some (vR l0), some (vI l1), some (vR l2), some (vI l3), some (vI (l4 + 1))]) rfl rfl rfl rfl rfl ?_
        replace F := F _ rfl
        generalize (l4 + 1 : Int32) = v1 at F ⊢
        refine wp_goto rfl rfl ?_
        exact F
      · replace F := F.2 c
        refine wp_iinc (y := 1) (L2 := [some (vR l0), some (vI l1), some (vR l2), some (vI l3), some (vI (l4 + 1))]) rfl rfl rfl rfl rfl ?_
        replace F := F _ rfl
        generalize (l4 + 1 : Int32) = v2 at F ⊢
        refine wp_goto rfl rfl ?_
        exact F
  · replace F := F.2 c
    refine wp_const' (L' := [some (vR l0), none, none, none, none]) rfl rfl rfl ?_
    refine wp_istore (L2 := [some (vR l0), none, none, none, some (vI 0)]) rfl rfl rfl rfl ?_
    exact F
theorem w218_59 {d : Nat} {l0 : Nat} {l4 : Int32} {h : aH} {K : aH → Prop} {X : Nat → aH → Prop} (F : gK h l0 = 5 ∧ gK h (gR h l0 0) = 3 ∧ ((l4.toInt < (gI h (gR h l0 0) 11).toInt → ∃ i0 : Nat, inB h 100 (gR h (gR h l0 0) 2) l4 i0 ∧ (((gI h (gR h (gR h l0 0) 2) i0).toInt = 1 → 8 ≤ (gR h l0 0) ∧ CI d 134 [vR (gR h l0 0), vI l4, vR (gR h l0 3), vR (gR h l0 2)] h (fun y0 h0 => 8 ≤ (gR h l0 3) ∧ ∃ i1 : Nat, inB h0 100 (gR h l0 3) l4 i1 ∧ ∀ h1 : aH, h1 = pI h0 (gR h l0 3) i1 y0 → ∀ v0 : Int32, v0 = l4 + 1 → Wp (d + 1) 218 (59, [some (vR l0), none, none, none, some (vI v0)], [], h1) (RV K X)) X) ∧ (¬ (gI h (gR h (gR h l0 0) 2) i0).toInt = 1 → ∀ v1 : Int32, v1 = l4 + 1 → Wp (d + 1) 218 (59, [some (vR l0), none, none, none, some (vI v1)], [], h) (RV K X)))) ∧ (¬ l4.toInt < (gI h (gR h l0 0) 11).toInt → K h))) : Wp (d + 1) 218 (59, [some (vR l0), none, none, none, some (vI l4)], [], h) (RV K X) := by
  refine wp_iload' (L' := [some (vR l0), none, none, none, some (vI l4)]) rfl rfl rfl rfl ?_
  refine wp_aload rfl rfl rfl ?_
  obtain ⟨f0, F⟩ := F
  refine wp_getR rfl rfl rfl f0 rfl ?_
  obtain ⟨f1, F⟩ := F
  refine wp_getI rfl rfl rfl f1 rfl ?_
  refine wp_icmp_ge rfl rfl rfl rfl rfl (fun c => ?_) (fun c => ?_)
  · replace F := F.1 c
    refine wp_aload rfl rfl rfl ?_
    refine wp_getR rfl rfl rfl f0 rfl ?_
    refine wp_getR rfl rfl rfl f1 rfl ?_
    refine wp_iload rfl rfl rfl ?_
    obtain ⟨i0, b9, F⟩ := F
    refine wp_iaload rfl b9 rfl ?_
    refine wp_const rfl rfl ?_
    refine wp_icmp_ne (Y := 1) rfl rfl rfl rfl rfl (fun c => ?_) (fun c => ?_)
    · replace F := F.1 c
      refine wp_aload rfl rfl rfl ?_
      refine wp_getR rfl rfl rfl f0 rfl ?_
      refine wp_iload rfl rfl rfl ?_
      refine wp_aload rfl rfl rfl ?_
      refine wp_getR rfl rfl rfl f0 rfl ?_
      refine wp_iload rfl rfl rfl ?_
      refine wp_aload rfl rfl rfl ?_
      refine wp_getR rfl rfl rfl f0 rfl ?_
      refine wp_aload rfl rfl rfl ?_
      refine wp_getR rfl rfl rfl f0 rfl ?_
      obtain ⟨f2, F⟩ := F
      refine wp_callI rfl rfl rfl (rcv_v f2 f1 (by decide) (by decide)) rfl rfl rfl rfl ?_
      refine CI.mono F (fun y0 h0 F => ?_) (fun _ _ w => rx_V w)
      obtain ⟨f3, F⟩ := F
      obtain ⟨i1, b9, F⟩ := F
      refine wp_iastore rfl f3 b9 rfl ?_
      replace F := F _ rfl
      generalize pI h0 (gR h l0 3) i1 y0 = h1 at F ⊢
      refine wp_iinc' (L' := [some (vR l0), none, none, none, some (vI l4)]) (y := 1) (L2 := [some (vR l0), none, none, none, some (vI (l4 + 1))]) rfl rfl rfl rfl rfl rfl ?_
      replace F := F _ rfl
      generalize (l4 + 1 : Int32) = v0 at F ⊢
      refine wp_goto rfl rfl ?_
      exact F
    · replace F := F.2 c
      refine wp_iinc' (L' := [some (vR l0), none, none, none, some (vI l4)]) (y := 1) (L2 := [some (vR l0), none, none, none, some (vI (l4 + 1))]) rfl rfl rfl rfl rfl rfl ?_
      replace F := F _ rfl
      generalize (l4 + 1 : Int32) = v1 at F ⊢
      refine wp_goto rfl rfl ?_
      exact F
  · replace F := F.2 c
    exact wp_retV rfl F
-- CensusOffice$Editor greatestOf (LCensusOffice$Rec;I)[I
theorem m219 {d : Nat} {a0 : Nat} {a1 : Nat} {a2 : Int32} {h : aH} {K : Nat → aH → Prop} {X : Nat → aH → Prop} (F : 8 ≤ a0 ∧ gK h a0 = 2 ∧ CI d 201 [vR a0, vR a1, vI a2] h (fun y0 h0 => gK h0 a0 = 2 ∧ K (gR h0 a0 0) h0) X) : CR (d + 1) 219 [vR a0, vR a1, vI a2] h K X := by
  show Wp (d + 1) 219 (0, [some (vR a0), some (vR a1), some (vI a2)], [], h) (RR K X)
  refine wp_aload rfl rfl rfl ?_
  refine wp_aload rfl rfl rfl ?_
  refine wp_iload rfl rfl rfl ?_
  obtain ⟨f0, F⟩ := F
  obtain ⟨f1, F⟩ := F
  refine wp_callI rfl rfl rfl (rcv_v f0 f1 (by decide) (by decide)) rfl rfl rfl rfl ?_
  refine CI.mono F (fun y0 h0 F => ?_) (fun _ _ w => rx_R w)
  refine wp_pop rfl rfl rfl ?_
  refine wp_aload rfl rfl rfl ?_
  obtain ⟨f2, F⟩ := F
  refine wp_getR rfl rfl rfl f2 rfl ?_
  exact wp_retR rfl F
-- java/lang/Integer bitCount (I)I
theorem m220 {d : Nat} {a0 : Int32} {h : aH} {K : Int32 → aH → Prop} {X : Nat → aH → Prop} (F : ∀ v0 : Int32, v0 = a0 - ((aUshr a0 1) &&& 1431655765) → ∀ v1 : Int32, v1 = (v0 &&& 858993459) + ((aUshr v0 2) &&& 858993459) → ∀ v2 : Int32, v2 = (v1 + (aUshr v1 4)) &&& 252645135 → ∀ v3 : Int32, v3 = v2 + (aUshr v2 8) → ∀ v4 : Int32, v4 = v3 + (aUshr v3 16) → K (v4 &&& 63) h) : CI d 220 [vI a0] h K X := by
  show Wp d 220 (0, [some (vI a0)], [], h) (RI K X)
  refine wp_iload rfl rfl rfl ?_
  refine wp_iload rfl rfl rfl ?_
  refine wp_const rfl rfl ?_
  refine wp_iushr rfl rfl ?_
  refine wp_const rfl rfl ?_
  refine wp_iand rfl rfl ?_
  refine wp_isub rfl rfl ?_
  replace F := F _ rfl
  generalize (a0 - ((aUshr a0 1) &&& 1431655765) : Int32) = v0 at F ⊢
  refine wp_istore (L2 := [some (vI v0)]) rfl rfl rfl rfl ?_
  refine wp_iload rfl rfl rfl ?_
  refine wp_const rfl rfl ?_
  refine wp_iand rfl rfl ?_
  refine wp_iload rfl rfl rfl ?_
  refine wp_const rfl rfl ?_
  refine wp_iushr rfl rfl ?_
  refine wp_const rfl rfl ?_
  refine wp_iand rfl rfl ?_
  refine wp_iadd rfl rfl ?_
  replace F := F _ rfl
  generalize ((v0 &&& 858993459) + ((aUshr v0 2) &&& 858993459) : Int32) = v1 at F ⊢
  refine wp_istore (L2 := [some (vI v1)]) rfl rfl rfl rfl ?_
  refine wp_iload rfl rfl rfl ?_
  refine wp_iload rfl rfl rfl ?_
  refine wp_const rfl rfl ?_
  refine wp_iushr rfl rfl ?_
  refine wp_iadd rfl rfl ?_
  refine wp_const rfl rfl ?_
  refine wp_iand rfl rfl ?_
  replace F := F _ rfl
  generalize ((v1 + (aUshr v1 4)) &&& 252645135 : Int32) = v2 at F ⊢
  refine wp_istore (L2 := [some (vI v2)]) rfl rfl rfl rfl ?_
  refine wp_iload rfl rfl rfl ?_
  refine wp_iload rfl rfl rfl ?_
  refine wp_const rfl rfl ?_
  refine wp_iushr rfl rfl ?_
  refine wp_iadd rfl rfl ?_
  replace F := F _ rfl
  generalize (v2 + (aUshr v2 8) : Int32) = v3 at F ⊢
  refine wp_istore (L2 := [some (vI v3)]) rfl rfl rfl rfl ?_
  refine wp_iload rfl rfl rfl ?_
  refine wp_iload rfl rfl rfl ?_
  refine wp_const rfl rfl ?_
  refine wp_iushr rfl rfl ?_
  refine wp_iadd rfl rfl ?_
  replace F := F _ rfl
  generalize (v3 + (aUshr v3 16) : Int32) = v4 at F ⊢
  refine wp_istore (L2 := [some (vI v4)]) rfl rfl rfl rfl ?_
  refine wp_iload rfl rfl rfl ?_
  refine wp_const rfl rfl ?_
  refine wp_iand rfl rfl ?_
  exact wp_retI rfl (Or.inl rfl) F
-- CensusOffice impute (II)I
theorem m221 {d : Nat} {a0 : Nat} {a1 : Int32} {a2 : Int32} {h : aH} {K : Int32 → aH → Prop} {X : Nat → aH → Prop} (F : 8 ≤ a0 ∧ gK h a0 = 1 ∧ CR d 172 [vR a0, vI a1] h (fun q0 h0 => ((a2.toInt < 0 → X 1 (gNew h0 200 6)) ∧ (¬ a2.toInt < 0 → ((1 < a2.toInt → X 1 (gNew h0 200 6)) ∧ (¬ 1 < a2.toInt → gK h0 a0 = 1 ∧ 8 ≤ (gR h0 a0 3) ∧ gK h0 (gR h0 a0 3) = 2 ∧ CI d 206 [vR (gR h0 a0 3), vR q0] h0 (fun y0 h1 => ((y0.toInt = (-1) → X 2 (gNew h1 200 6)) ∧ (¬ y0.toInt = (-1) → ((a2.toInt = 1 → gK h1 a0 = 1 ∧ 8 ≤ (gR h1 a0 3) ∧ gK h1 (gR h1 a0 3) = 2 ∧ CI d 217 [vR (gR h1 a0 3), vR (gR h1 a0 6), vR q0, vI y0] h1 (fun y1 h2 => Wp (d + 1) 221 (76, [some (vR a0), none, none, some (vR q0), some (vI y0), none], [vI y1], h2) (RI K X)) X) ∧ (¬ a2.toInt = 1 → Wp (d + 1) 221 (76, [some (vR a0), none, none, some (vR q0), some (vI y0), none], [vI (-1)], h1) (RI K X)))))) X))))) X) : CI (d + 1) 221 [vR a0, vI a1, vI a2] h K X := by
  show Wp (d + 1) 221 (0, [some (vR a0), some (vI a1), some (vI a2), none, none, none], [], h) (RI K X)
  refine wp_aload rfl rfl rfl ?_
  refine wp_iload rfl rfl rfl ?_
  obtain ⟨f0, F⟩ := F
  obtain ⟨f1, F⟩ := F
  refine wp_callR rfl rfl rfl (rcv_v f0 f1 (by decide) (by decide)) rfl rfl rfl rfl ?_
  refine CR.mono F (fun q0 h0 F => ?_) (fun _ _ w => rx_I w)
  refine wp_astore (L2 := [some (vR a0), some (vI a1), some (vI a2), some (vR q0), none, none]) rfl rfl rfl rfl ?_
  refine wp_iload rfl rfl rfl ?_
  refine wp_if_lt rfl rfl rfl rfl (fun c => ?_) (fun c => ?_)
  · replace F := F.1 c
    exact wp_thrI rfl F
  · replace F := F.2 c
    refine wp_iload rfl rfl rfl ?_
    refine wp_const rfl rfl ?_
    refine wp_icmp_le (Y := 1) rfl rfl rfl rfl rfl (fun c => ?_) (fun c => ?_)
    · replace F := F.1 c
      exact wp_thrI rfl F
    · replace F := F.2 c
      refine wp_aload' (L' := [some (vR a0), none, some (vI a2), some (vR q0), none, none]) rfl rfl rfl rfl ?_
      obtain ⟨f2, F⟩ := F
      refine wp_getR rfl rfl rfl f2 rfl ?_
      refine wp_aload rfl rfl rfl ?_
      obtain ⟨f3, F⟩ := F
      obtain ⟨f4, F⟩ := F
      refine wp_callI rfl rfl rfl (rcv_v f3 f4 (by decide) (by decide)) rfl rfl rfl rfl ?_
      refine CI.mono F (fun y0 h1 F => ?_) (fun _ _ w => rx_I w)
      refine wp_istore (L2 := [some (vR a0), none, some (vI a2), some (vR q0), some (vI y0), none]) rfl rfl rfl rfl ?_
      refine wp_iload rfl rfl rfl ?_
      refine wp_const rfl rfl ?_
      refine wp_icmp_ne (Y := (-1)) rfl rfl rfl rfl rfl (fun c => ?_) (fun c => ?_)
      · replace F := F.1 c
        exact wp_thrI rfl F
      · replace F := F.2 c
        refine wp_iload' (L' := [some (vR a0), none, some (vI a2), some (vR q0), some (vI y0), none]) rfl rfl rfl rfl ?_
        refine wp_const rfl rfl ?_
        refine wp_icmp_ne (Y := 1) rfl rfl rfl rfl rfl (fun c => ?_) (fun c => ?_)
        · replace F := F.1 c
          refine wp_aload rfl rfl rfl ?_
          obtain ⟨f5, F⟩ := F
          refine wp_getR rfl rfl rfl f5 rfl ?_
          refine wp_aload rfl rfl rfl ?_
          refine wp_getR rfl rfl rfl f5 rfl ?_
          refine wp_aload rfl rfl rfl ?_
          refine wp_iload rfl rfl rfl ?_
          obtain ⟨f6, F⟩ := F
          obtain ⟨f7, F⟩ := F
          refine wp_callI rfl rfl rfl (rcv_v f6 f7 (by decide) (by decide)) rfl rfl rfl rfl ?_
          refine CI.mono F (fun y1 h2 F => ?_) (fun _ _ w => rx_I w)
          refine wp_goto rfl rfl ?_
          refine wp_kill (L' := [some (vR a0), none, none, some (vR q0), some (vI y0), none]) rfl rfl ?_
          exact F
        · replace F := F.2 c
          refine wp_const' (L' := [some (vR a0), none, none, some (vR q0), some (vI y0), none]) rfl rfl rfl ?_
          exact F
theorem w221_76 {d : Nat} {l0 : Nat} {l3 : Nat} {l4 : Int32} {s0 : Int32} {h : aH} {K : Int32 → aH → Prop} {X : Nat → aH → Prop} (F : ((s0.toInt = (-1) → gK h l0 = 1 ∧ 8 ≤ (gR h l0 3) ∧ gK h (gR h l0 3) = 2 ∧ CR d 219 [vR (gR h l0 3), vR l3, vI l4] h (fun q0 h0 => 8 ≤ l3 ∧ gK h0 l3 = 5 ∧ CV d 218 [vR l3, vI l4, vR q0, vI 1] h0 (fun h1 => CI d 220 [vI l4] h1 (fun y0 h2 => K y0 h2) X) X) X) ∧ (¬ s0.toInt = (-1) → 8 ≤ l0 ∧ gK h l0 = 1 ∧ CR d 172 [vR l0, vI s0] h (fun q1 h3 => gK h3 q1 = 5 ∧ 8 ≤ l3 ∧ gK h3 l3 = 5 ∧ CV d 218 [vR l3, vI l4, vR (gR h3 q1 3), vI 2] h3 (fun h4 => CI d 220 [vI l4] h4 (fun y1 h5 => K y1 h5) X) X) X))) : Wp (d + 1) 221 (76, [some (vR l0), none, none, some (vR l3), some (vI l4), none], [vI s0], h) (RI K X) := by
  refine wp_istore' (L' := [some (vR l0), none, none, some (vR l3), some (vI l4), none]) (L2 := [some (vR l0), none, none, some (vR l3), some (vI l4), some (vI s0)]) rfl rfl rfl rfl rfl ?_
  refine wp_iload rfl rfl rfl ?_
  refine wp_const rfl rfl ?_
  refine wp_icmp_eq (Y := (-1)) rfl rfl rfl rfl rfl (fun c => ?_) (fun c => ?_)
  · replace F := F.1 c
    refine wp_aload' (L' := [some (vR l0), none, none, some (vR l3), some (vI l4), none]) rfl rfl rfl rfl ?_
    refine wp_iload rfl rfl rfl ?_
    refine wp_aload rfl rfl rfl ?_
    obtain ⟨f0, F⟩ := F
    refine wp_getR rfl rfl rfl f0 rfl ?_
    refine wp_aload rfl rfl rfl ?_
    refine wp_iload rfl rfl rfl ?_
    obtain ⟨f1, F⟩ := F
    obtain ⟨f2, F⟩ := F
    refine wp_callR rfl rfl rfl (rcv_v f1 f2 (by decide) (by decide)) rfl rfl rfl rfl ?_
    refine CR.mono F (fun q0 h0 F => ?_) (fun _ _ w => rx_I w)
    refine wp_const rfl rfl ?_
    obtain ⟨f3, F⟩ := F
    obtain ⟨f4, F⟩ := F
    refine wp_callV rfl rfl rfl (rcv_v f3 f4 (by decide) (by decide)) rfl rfl rfl rfl ?_
    refine CV.mono F (fun h1 F => ?_) (fun _ _ w => rx_I w)
    refine wp_iload' (L' := [none, none, none, none, some (vI l4), none]) rfl rfl rfl rfl ?_
    refine wp_callI rfl rfl rfl rfl rfl rfl rfl rfl ?_
    refine CI.mono F (fun y0 h2 F => ?_) (fun _ _ w => rx_I w)
    exact wp_retI rfl (Or.inl rfl) F
  · replace F := F.2 c
    refine wp_aload rfl rfl rfl ?_
    refine wp_iload rfl rfl rfl ?_
    refine wp_aload rfl rfl rfl ?_
    refine wp_iload rfl rfl rfl ?_
    obtain ⟨f5, F⟩ := F
    obtain ⟨f6, F⟩ := F
    refine wp_callR rfl rfl rfl (rcv_v f5 f6 (by decide) (by decide)) rfl rfl rfl rfl ?_
    refine CR.mono F (fun q1 h3 F => ?_) (fun _ _ w => rx_I w)
    obtain ⟨f7, F⟩ := F
    refine wp_getR rfl rfl rfl f7 rfl ?_
    refine wp_const rfl rfl ?_
    obtain ⟨f8, F⟩ := F
    obtain ⟨f9, F⟩ := F
    refine wp_callV rfl rfl rfl (rcv_v f8 f9 (by decide) (by decide)) rfl rfl rfl rfl ?_
    refine CV.mono F (fun h4 F => ?_) (fun _ _ w => rx_I w)
    refine wp_goto rfl rfl ?_
    refine wp_iload' (L' := [none, none, none, none, some (vI l4), none]) rfl rfl rfl rfl ?_
    refine wp_callI rfl rfl rfl rfl rfl rfl rfl rfl ?_
    refine CI.mono F (fun y1 h5 F => ?_) (fun _ _ w => rx_I w)
    exact wp_retI rfl (Or.inl rfl) F
-- CensusOfficeLaw impute (LCensusOffice;II[J)I
theorem m222 {d : Nat} {a0 : Nat} {a1 : Int32} {a2 : Int32} {a3 : Nat} {h : aH} {K : Int32 → aH → Prop} {X : Nat → aH → Prop} (F : 8 ≤ a0 ∧ gK h a0 = 1 ∧ CI d 221 [vR a0, vI a1, vI a2] h (fun y0 h0 => 8 ≤ a3 ∧ inB h0 101 a3 0 0 ∧ ∀ h1 : aH, h1 = pJ h0 a3 0 (y0.toInt64) → K 0 h1) (fun x9 h9 => (x9 = 3 ∧ K 1 h9) ∨ (x9 = 1 ∧ K 2 h9) ∨ (x9 = 2 ∧ K 3 h9))) : CI (d + 1) 222 [vR a0, vI a1, vI a2, vR a3] h K X := by
  show Wp (d + 1) 222 (0, [some (vR a0), some (vI a1), some (vI a2), some (vR a3), none], [], h) (RI K X)
  refine wp_aload rfl rfl rfl ?_
  refine wp_const rfl rfl ?_
  refine wp_aload rfl rfl rfl ?_
  refine wp_iload rfl rfl rfl ?_
  refine wp_iload rfl rfl rfl ?_
  obtain ⟨f0, F⟩ := F
  obtain ⟨f1, F⟩ := F
  refine wp_callhI (X := (fun x9 h9 => (x9 = 3 ∧ K 1 h9) ∨ (x9 = 1 ∧ K 2 h9) ∨ (x9 = 2 ∧ K 3 h9))) rfl rfl rfl (rcv_v f0 f1 (by decide) (by decide)) rfl rfl rfl (fun x9 h9 F => ?_) ?_
  · rcases F with ⟨rfl, F⟩ | ⟨rfl, F⟩ | ⟨rfl, F⟩
    · refine ⟨13, rfl, ?_⟩
      refine wp_astoreJ' (L' := [none, none, none, none, none]) (L2 := [none, none, none, none, some vJ]) rfl rfl rfl rfl rfl ?_
      refine wp_const rfl rfl ?_
      exact wp_retI rfl (Or.inl rfl) F
    · refine ⟨17, rfl, ?_⟩
      refine wp_astoreJ' (L' := [none, none, none, none, none]) (L2 := [none, none, none, none, some vJ]) rfl rfl rfl rfl rfl ?_
      refine wp_const rfl rfl ?_
      exact wp_retI rfl (Or.inl rfl) F
    · refine ⟨21, rfl, ?_⟩
      refine wp_astoreJ' (L' := [none, none, none, none, none]) (L2 := [none, none, none, none, some vJ]) rfl rfl rfl rfl rfl ?_
      refine wp_const rfl rfl ?_
      exact wp_retI rfl (Or.inl rfl) F
  · refine CI.mono F (fun y0 h0 F => ?_) (fun _ _ w => w)
    refine wp_i2l rfl rfl ?_
    obtain ⟨f2, F⟩ := F
    obtain ⟨b9, F⟩ := F
    refine wp_lastore rfl f2 b9 rfl ?_
    replace F := F _ rfl
    generalize pJ h0 a3 0 (y0.toInt64) = h1 at F ⊢
    refine wp_goto rfl rfl ?_
    refine wp_const' (L' := [none, none, none, none, none]) rfl rfl rfl ?_
    exact wp_retI rfl (Or.inl rfl) F
-- CensusOfficeModel isClean (I)Z
theorem m223 {d : Nat} {a0 : Nat} {a1 : Int32} {h : aH} {K : Int32 → aH → Prop} {X : Nat → aH → Prop} (F : 8 ≤ a0 ∧ gK h a0 = 14 ∧ CI d 175 [vR a0, vI a1] h (fun y0 h0 => Wp (d + 1) 223 (8, [some (vR a0), some (vI a1), some (vI y0), some (vI 0)], [], h0) (RI K X)) X) : CI (d + 1) 223 [vR a0, vI a1] h K X := by
  show Wp (d + 1) 223 (0, [some (vR a0), some (vI a1), none, none], [], h) (RI K X)
  refine wp_aload rfl rfl rfl ?_
  refine wp_iload rfl rfl rfl ?_
  obtain ⟨f0, F⟩ := F
  obtain ⟨f1, F⟩ := F
  refine wp_callI rfl rfl rfl (rcv_v f0 f1 (by decide) (by decide)) rfl rfl rfl rfl ?_
  refine CI.mono F (fun y0 h0 F => ?_) (fun _ _ w => rx_I w)
  refine wp_istore (L2 := [some (vR a0), some (vI a1), some (vI y0), none]) rfl rfl rfl rfl ?_
  refine wp_const rfl rfl ?_
  refine wp_istore (L2 := [some (vR a0), some (vI a1), some (vI y0), some (vI 0)]) rfl rfl rfl rfl ?_
  exact F
theorem w223_8 {d : Nat} {l0 : Nat} {l1 : Int32} {l2 : Int32} {l3 : Int32} {h : aH} {K : Int32 → aH → Prop} {X : Nat → aH → Prop} (F : gK h l0 = 14 ∧ ∃ i0 : Nat, inB h 100 (gR h l0 57) l2 i0 ∧ ((l3.toInt < (gI h (gR h l0 57) i0).toInt → 8 ≤ l0 ∧ CI d 197 [vR l0, vI l1, vI ((16 * l2) + l3)] h (fun y0 h0 => ((y0.toInt = 0 → ∀ v0 : Int32, v0 = l3 + 1 → Wp (d + 1) 223 (8, [some (vR l0), some (vI l1), some (vI l2), some (vI v0)], [], h0) (RI K X)) ∧ (¬ y0.toInt = 0 → K 0 h0))) X) ∧ (¬ l3.toInt < (gI h (gR h l0 57) i0).toInt → K 1 h))) : Wp (d + 1) 223 (8, [some (vR l0), some (vI l1), some (vI l2), some (vI l3)], [], h) (RI K X) := by
  refine wp_iload rfl rfl rfl ?_
  refine wp_aload rfl rfl rfl ?_
  obtain ⟨f0, F⟩ := F
  refine wp_getR rfl rfl rfl f0 rfl ?_
  refine wp_iload rfl rfl rfl ?_
  obtain ⟨i0, b9, F⟩ := F
  refine wp_iaload rfl b9 rfl ?_
  refine wp_icmp_ge rfl rfl rfl rfl rfl (fun c => ?_) (fun c => ?_)
  · replace F := F.1 c
    refine wp_aload rfl rfl rfl ?_
    refine wp_iload rfl rfl rfl ?_
    refine wp_const rfl rfl ?_
    refine wp_iload rfl rfl rfl ?_
    refine wp_imul rfl rfl ?_
    refine wp_iload rfl rfl rfl ?_
    refine wp_iadd rfl rfl ?_
    obtain ⟨f1, F⟩ := F
    refine wp_callI rfl rfl rfl (rcv_v f1 f0 (by decide) (by decide)) rfl rfl rfl rfl ?_
    refine CI.mono F (fun y0 h0 F => ?_) (fun _ _ w => rx_I w)
    refine wp_if_eq rfl rfl rfl rfl (fun c => ?_) (fun c => ?_)
    · replace F := F.1 c
      refine wp_iinc (y := 1) (L2 := [some (vR l0), some (vI l1), some (vI l2), some (vI (l3 + 1))]) rfl rfl rfl rfl rfl ?_
      replace F := F _ rfl
      generalize (l3 + 1 : Int32) = v0 at F ⊢
      refine wp_goto rfl rfl ?_
      exact F
    · replace F := F.2 c
      refine wp_const rfl rfl ?_
      exact wp_retI rfl (Or.inr rfl) F
  · replace F := F.2 c
    refine wp_const' (L' := [none, none, none, none]) rfl rfl rfl ?_
    exact wp_retI rfl (Or.inr rfl) F
-- CensusOfficeModel mayGive (III)Z
theorem m224 {d : Nat} {a0 : Nat} {a1 : Int32} {a2 : Int32} {a3 : Int32} {h : aH} {K : Int32 → aH → Prop} {X : Nat → aH → Prop} (F : 8 ≤ a0 ∧ gK h a0 = 14 ∧ CI d 175 [vR a0, vI a1] h (fun y0 h0 => ((a2.toInt = a1.toInt → Wp (d + 1) 224 (40, [some (vR a0), some (vI a1), some (vI a2), some (vI a3), some (vI y0), some (vI 0), some (vI 0), none, none, none], [], h0) (RI K X)) ∧ (¬ a2.toInt = a1.toInt → gK h0 a0 = 14 ∧ CI d 175 [vR a0, vI a2] h0 (fun y1 h1 => ((y1.toInt = y0.toInt → gK h1 a0 = 14 ∧ CI d 223 [vR a0, vI a2] h1 (fun y2 h2 => ((y2.toInt = 0 → Wp (d + 1) 224 (40, [some (vR a0), some (vI a1), some (vI a2), some (vI a3), some (vI y0), some (vI 0), some (vI 0), none, none, none], [], h2) (RI K X)) ∧ (¬ y2.toInt = 0 → Wp (d + 1) 224 (40, [some (vR a0), some (vI a1), some (vI a2), some (vI a3), some (vI y0), some (vI 1), some (vI 0), none, none, none], [], h2) (RI K X)))) X) ∧ (¬ y1.toInt = y0.toInt → Wp (d + 1) 224 (40, [some (vR a0), some (vI a1), some (vI a2), some (vI a3), some (vI y0), some (vI 0), some (vI 0), none, none, none], [], h1) (RI K X)))) X))) X) : CI (d + 1) 224 [vR a0, vI a1, vI a2, vI a3] h K X := by
  show Wp (d + 1) 224 (0, [some (vR a0), some (vI a1), some (vI a2), some (vI a3), none, none, none, none, none, none], [], h) (RI K X)
  refine wp_aload rfl rfl rfl ?_
  refine wp_iload rfl rfl rfl ?_
  obtain ⟨f0, F⟩ := F
  obtain ⟨f1, F⟩ := F
  refine wp_callI rfl rfl rfl (rcv_v f0 f1 (by decide) (by decide)) rfl rfl rfl rfl ?_
  refine CI.mono F (fun y0 h0 F => ?_) (fun _ _ w => rx_I w)
  refine wp_istore (L2 := [some (vR a0), some (vI a1), some (vI a2), some (vI a3), some (vI y0), none, none, none, none, none]) rfl rfl rfl rfl ?_
  refine wp_iload rfl rfl rfl ?_
  refine wp_iload rfl rfl rfl ?_
  refine wp_icmp_eq rfl rfl rfl rfl rfl (fun c => ?_) (fun c => ?_)
  · replace F := F.1 c
    refine wp_const' (L' := [some (vR a0), some (vI a1), some (vI a2), some (vI a3), some (vI y0), none, none, none, none, none]) rfl rfl rfl ?_
    refine wp_istore' (L' := [some (vR a0), some (vI a1), some (vI a2), some (vI a3), some (vI y0), none, none, none, none, none]) (L2 := [some (vR a0), some (vI a1), some (vI a2), some (vI a3), some (vI y0), some (vI 0), none, none, none, none]) rfl rfl rfl rfl rfl ?_
    refine wp_const rfl rfl ?_
    refine wp_istore (L2 := [some (vR a0), some (vI a1), some (vI a2), some (vI a3), some (vI y0), some (vI 0), some (vI 0), none, none, none]) rfl rfl rfl rfl ?_
    exact F
  · replace F := F.2 c
    refine wp_aload rfl rfl rfl ?_
    refine wp_iload rfl rfl rfl ?_
    obtain ⟨f2, F⟩ := F
    refine wp_callI rfl rfl rfl (rcv_v f0 f2 (by decide) (by decide)) rfl rfl rfl rfl ?_
    refine CI.mono F (fun y1 h1 F => ?_) (fun _ _ w => rx_I w)
    refine wp_iload rfl rfl rfl ?_
    refine wp_icmp_ne rfl rfl rfl rfl rfl (fun c => ?_) (fun c => ?_)
    · replace F := F.1 c
      refine wp_aload rfl rfl rfl ?_
      refine wp_iload rfl rfl rfl ?_
      obtain ⟨f3, F⟩ := F
      refine wp_callI rfl rfl rfl (rcv_v f0 f3 (by decide) (by decide)) rfl rfl rfl rfl ?_
      refine CI.mono F (fun y2 h2 F => ?_) (fun _ _ w => rx_I w)
      refine wp_if_eq rfl rfl rfl rfl (fun c => ?_) (fun c => ?_)
      · replace F := F.1 c
        refine wp_const' (L' := [some (vR a0), some (vI a1), some (vI a2), some (vI a3), some (vI y0), none, none, none, none, none]) rfl rfl rfl ?_
        refine wp_istore' (L' := [some (vR a0), some (vI a1), some (vI a2), some (vI a3), some (vI y0), none, none, none, none, none]) (L2 := [some (vR a0), some (vI a1), some (vI a2), some (vI a3), some (vI y0), some (vI 0), none, none, none, none]) rfl rfl rfl rfl rfl ?_
        refine wp_const rfl rfl ?_
        refine wp_istore (L2 := [some (vR a0), some (vI a1), some (vI a2), some (vI a3), some (vI y0), some (vI 0), some (vI 0), none, none, none]) rfl rfl rfl rfl ?_
        exact F
      · replace F := F.2 c
        refine wp_const rfl rfl ?_
        refine wp_goto rfl rfl ?_
        refine wp_istore' (L' := [some (vR a0), some (vI a1), some (vI a2), some (vI a3), some (vI y0), none, none, none, none, none]) (L2 := [some (vR a0), some (vI a1), some (vI a2), some (vI a3), some (vI y0), some (vI 1), none, none, none, none]) rfl rfl rfl rfl rfl ?_
        refine wp_const rfl rfl ?_
        refine wp_istore (L2 := [some (vR a0), some (vI a1), some (vI a2), some (vI a3), some (vI y0), some (vI 1), some (vI 0), none, none, none]) rfl rfl rfl rfl ?_
        exact F
    · replace F := F.2 c
      refine wp_const' (L' := [some (vR a0), some (vI a1), some (vI a2), some (vI a3), some (vI y0), none, none, none, none, none]) rfl rfl rfl ?_
      refine wp_istore' (L' := [some (vR a0), some (vI a1), some (vI a2), some (vI a3), some (vI y0), none, none, none, none, none]) (L2 := [some (vR a0), some (vI a1), some (vI a2), some (vI a3), some (vI y0), some (vI 0), none, none, none, none]) rfl rfl rfl rfl rfl ?_
      refine wp_const rfl rfl ?_
      refine wp_istore (L2 := [some (vR a0), some (vI a1), some (vI a2), some (vI a3), some (vI y0), some (vI 0), some (vI 0), none, none, none]) rfl rfl rfl rfl ?_
      exact F
theorem w224_40 {d : Nat} {l0 : Nat} {l1 : Int32} {l2 : Int32} {l3 : Int32} {l4 : Int32} {l5 : Int32} {l6 : Int32} {h : aH} {K : Int32 → aH → Prop} {X : Nat → aH → Prop} (F : gK h l0 = 14 ∧ ∃ i0 : Nat, inB h 100 (gR h l0 15) l4 i0 ∧ ((l6.toInt < (gI h (gR h l0 15) i0).toInt → ((l5.toInt = 0 → ∀ v0 : Int32, v0 = l6 + 1 → Wp (d + 1) 224 (40, [some (vR l0), some (vI l1), some (vI l2), some (vI l3), some (vI l4), some (vI 0), some (vI v0), none, none, none], [], h) (RI K X)) ∧ (¬ l5.toInt = 0 → ((((l3 >>> (l6 &&& 31)) &&& 1).toInt = 0 → ∀ v1 : Int32, v1 = l6 + 1 → Wp (d + 1) 224 (40, [some (vR l0), some (vI l1), some (vI l2), some (vI l3), some (vI l4), some (vI 1), some (vI v1), none, none, none], [], h) (RI K X)) ∧ (¬ ((l3 >>> (l6 &&& 31)) &&& 1).toInt = 0 → ∃ i1 : Nat, inB h 100 (gR h l0 55) ((20 * l2) + l6) i1 ∧ (((gI h (gR h l0 55) i1).toInt = (-2000000) → ∀ v2 : Int32, v2 = l6 + 1 → Wp (d + 1) 224 (40, [some (vR l0), some (vI l1), some (vI l2), some (vI l3), some (vI l4), some (vI 0), some (vI v2), none, none, none], [], h) (RI K X)) ∧ (¬ (gI h (gR h l0 55) i1).toInt = (-2000000) → ∀ v3 : Int32, v3 = l6 + 1 → Wp (d + 1) 224 (40, [some (vR l0), some (vI l1), some (vI l2), some (vI l3), some (vI l4), some (vI 1), some (vI v3), none, none, none], [], h) (RI K X)))))))) ∧ (¬ l6.toInt < (gI h (gR h l0 15) i0).toInt → ((l5.toInt = 0 → K 0 h) ∧ (¬ l5.toInt = 0 → Wp (d + 1) 224 (106, [some (vR l0), some (vI l1), some (vI l2), some (vI l3), some (vI l4), some (vI l5), some (vI 0), none, none, none], [], h) (RI K X)))))) : Wp (d + 1) 224 (40, [some (vR l0), some (vI l1), some (vI l2), some (vI l3), some (vI l4), some (vI l5), some (vI l6), none, none, none], [], h) (RI K X) := by
  refine wp_iload' (L' := [some (vR l0), some (vI l1), some (vI l2), some (vI l3), some (vI l4), some (vI l5), some (vI l6), none, none, none]) rfl rfl rfl rfl ?_
  refine wp_aload rfl rfl rfl ?_
  obtain ⟨f0, F⟩ := F
  refine wp_getR rfl rfl rfl f0 rfl ?_
  refine wp_iload rfl rfl rfl ?_
  obtain ⟨i0, b9, F⟩ := F
  refine wp_iaload rfl b9 rfl ?_
  refine wp_icmp_ge rfl rfl rfl rfl rfl (fun c => ?_) (fun c => ?_)
  · replace F := F.1 c
    refine wp_iload rfl rfl rfl ?_
    refine wp_if_eq rfl rfl rfl rfl (fun c => ?_) (fun c => ?_)
    · replace F := F.1 c
      refine wp_const' (L' := [some (vR l0), some (vI l1), some (vI l2), some (vI l3), some (vI l4), none, some (vI l6), none, none, none]) rfl rfl rfl ?_
      refine wp_istore' (L' := [some (vR l0), some (vI l1), some (vI l2), some (vI l3), some (vI l4), none, some (vI l6), none, none, none]) (L2 := [some (vR l0), some (vI l1), some (vI l2), some (vI l3), some (vI l4), some (vI 0), some (vI l6), none, none, none]) rfl rfl rfl rfl rfl ?_
      refine wp_iinc (y := 1) (L2 := [some (vR l0), some (vI l1), some (vI l2), some (vI l3), some (vI l4), some (vI 0), some (vI (l6 + 1)), none, none, none]) rfl rfl rfl rfl rfl ?_
      replace F := F _ rfl
      generalize (l6 + 1 : Int32) = v0 at F ⊢
      refine wp_goto rfl rfl ?_
      exact F
    · replace F := F.2 c
      refine wp_iload rfl rfl rfl ?_
      refine wp_iload rfl rfl rfl ?_
      refine wp_ishr rfl rfl ?_
      refine wp_const rfl rfl ?_
      refine wp_iand rfl rfl ?_
      refine wp_if_eq rfl rfl rfl rfl (fun c => ?_) (fun c => ?_)
      · replace F := F.1 c
        refine wp_const' (L' := [some (vR l0), some (vI l1), some (vI l2), some (vI l3), some (vI l4), none, some (vI l6), none, none, none]) rfl rfl rfl ?_
        refine wp_goto rfl rfl ?_
        refine wp_istore' (L' := [some (vR l0), some (vI l1), some (vI l2), some (vI l3), some (vI l4), none, some (vI l6), none, none, none]) (L2 := [some (vR l0), some (vI l1), some (vI l2), some (vI l3), some (vI l4), some (vI 1), some (vI l6), none, none, none]) rfl rfl rfl rfl rfl ?_
        refine wp_iinc (y := 1) (L2 := [some (vR l0), some (vI l1), some (vI l2), some (vI l3), some (vI l4), some (vI 1), some (vI (l6 + 1)), none, none, none]) rfl rfl rfl rfl rfl ?_
        replace F := F _ rfl
        generalize (l6 + 1 : Int32) = v1 at F ⊢
        refine wp_goto rfl rfl ?_
        exact F
      · replace F := F.2 c
        refine wp_aload rfl rfl rfl ?_
        refine wp_getR rfl rfl rfl f0 rfl ?_
        refine wp_const rfl rfl ?_
        refine wp_iload rfl rfl rfl ?_
        refine wp_imul rfl rfl ?_
        refine wp_iload rfl rfl rfl ?_
        refine wp_iadd rfl rfl ?_
        obtain ⟨i1, b9, F⟩ := F
        refine wp_iaload rfl b9 rfl ?_
        refine wp_const rfl rfl ?_
        refine wp_icmp_eq (Y := (-2000000)) rfl rfl rfl rfl rfl (fun c => ?_) (fun c => ?_)
        · replace F := F.1 c
          refine wp_const' (L' := [some (vR l0), some (vI l1), some (vI l2), some (vI l3), some (vI l4), none, some (vI l6), none, none, none]) rfl rfl rfl ?_
          refine wp_istore' (L' := [some (vR l0), some (vI l1), some (vI l2), some (vI l3), some (vI l4), none, some (vI l6), none, none, none]) (L2 := [some (vR l0), some (vI l1), some (vI l2), some (vI l3), some (vI l4), some (vI 0), some (vI l6), none, none, none]) rfl rfl rfl rfl rfl ?_
          refine wp_iinc (y := 1) (L2 := [some (vR l0), some (vI l1), some (vI l2), some (vI l3), some (vI l4), some (vI 0), some (vI (l6 + 1)), none, none, none]) rfl rfl rfl rfl rfl ?_
          replace F := F _ rfl
          generalize (l6 + 1 : Int32) = v2 at F ⊢
          refine wp_goto rfl rfl ?_
          exact F
        · replace F := F.2 c
          refine wp_const' (L' := [some (vR l0), some (vI l1), some (vI l2), some (vI l3), some (vI l4), none, some (vI l6), none, none, none]) rfl rfl rfl ?_
          refine wp_goto rfl rfl ?_
          refine wp_istore' (L' := [some (vR l0), some (vI l1), some (vI l2), some (vI l3), some (vI l4), none, some (vI l6), none, none, none]) (L2 := [some (vR l0), some (vI l1), some (vI l2), some (vI l3), some (vI l4), some (vI 1), some (vI l6), none, none, none]) rfl rfl rfl rfl rfl ?_
          refine wp_iinc (y := 1) (L2 := [some (vR l0), some (vI l1), some (vI l2), some (vI l3), some (vI l4), some (vI 1), some (vI (l6 + 1)), none, none, none]) rfl rfl rfl rfl rfl ?_
          replace F := F _ rfl
          generalize (l6 + 1 : Int32) = v3 at F ⊢
          refine wp_goto rfl rfl ?_
          exact F
  · replace F := F.2 c
    refine wp_iload' (L' := [some (vR l0), some (vI l1), some (vI l2), some (vI l3), some (vI l4), some (vI l5), none, none, none, none]) rfl rfl rfl rfl ?_
    refine wp_if_ne rfl rfl rfl rfl (fun c => ?_) (fun c => ?_)
    · replace F := F.1 c
      refine wp_const rfl rfl ?_
      exact wp_retI rfl (Or.inr rfl) F
    · replace F := F.2 c
      refine wp_const' (L' := [some (vR l0), some (vI l1), some (vI l2), some (vI l3), some (vI l4), some (vI l5), none, none, none, none]) rfl rfl rfl ?_
      refine wp_istore (L2 := [some (vR l0), some (vI l1), some (vI l2), some (vI l3), some (vI l4), some (vI l5), some (vI 0), none, none, none]) rfl rfl rfl rfl ?_
      exact F
theorem w224_106 {d : Nat} {l0 : Nat} {l1 : Int32} {l2 : Int32} {l3 : Int32} {l4 : Int32} {l5 : Int32} {l6 : Int32} {h : aH} {K : Int32 → aH → Prop} {X : Nat → aH → Prop} (F : gK h l0 = 14 ∧ ∃ i0 : Nat, inB h 100 (gR h l0 15) l4 i0 ∧ ((l6.toInt < (gI h (gR h l0 15) i0).toInt → ∃ i1 : Nat, inB h 100 (gR h l0 55) ((20 * l2) + l6) i1 ∧ 8 ≤ (gR h l0 61) ∧ ∃ i2 : Nat, inB h 100 (gR h l0 61) l6 i2 ∧ ∀ h0 : aH, h0 = pI h (gR h l0 61) i2 (gI h (gR h l0 55) i1) → ∀ v0 : Int32, v0 = l6 + 1 → Wp (d + 1) 224 (106, [some (vR l0), some (vI l1), some (vI l2), some (vI l3), some (vI l4), some (vI l5), some (vI v0), none, none, none], [], h0) (RI K X)) ∧ (¬ l6.toInt < (gI h (gR h l0 15) i0).toInt → Wp (d + 1) 224 (146, [some (vR l0), some (vI l1), none, some (vI l3), some (vI l4), some (vI l5), some (vI 0), none, none, none], [], h) (RI K X)))) : Wp (d + 1) 224 (106, [some (vR l0), some (vI l1), some (vI l2), some (vI l3), some (vI l4), some (vI l5), some (vI l6), none, none, none], [], h) (RI K X) := by
  refine wp_iload' (L' := [some (vR l0), some (vI l1), some (vI l2), some (vI l3), some (vI l4), some (vI l5), some (vI l6), none, none, none]) rfl rfl rfl rfl ?_
  refine wp_aload rfl rfl rfl ?_
  obtain ⟨f0, F⟩ := F
  refine wp_getR rfl rfl rfl f0 rfl ?_
  refine wp_iload rfl rfl rfl ?_
  obtain ⟨i0, b9, F⟩ := F
  refine wp_iaload rfl b9 rfl ?_
  refine wp_icmp_ge rfl rfl rfl rfl rfl (fun c => ?_) (fun c => ?_)
  · replace F := F.1 c
    refine wp_aload rfl rfl rfl ?_
    refine wp_getR rfl rfl rfl f0 rfl ?_
    refine wp_iload rfl rfl rfl ?_
    refine wp_aload rfl rfl rfl ?_
    refine wp_getR rfl rfl rfl f0 rfl ?_
    refine wp_const rfl rfl ?_
    refine wp_iload rfl rfl rfl ?_
    refine wp_imul rfl rfl ?_
    refine wp_iload rfl rfl rfl ?_
    refine wp_iadd rfl rfl ?_
    obtain ⟨i1, b9, F⟩ := F
    refine wp_iaload rfl b9 rfl ?_
    obtain ⟨f1, F⟩ := F
    obtain ⟨i2, b9, F⟩ := F
    refine wp_iastore rfl f1 b9 rfl ?_
    have f2 : gK (pI h (gR h l0 61) i2 (gI h (gR h l0 55) i1)) l0 = 14 := (gK_pI _ _ _ _ _).trans f0
    replace F := F _ rfl
    generalize pI h (gR h l0 61) i2 (gI h (gR h l0 55) i1) = h0 at F f2 ⊢
    refine wp_iinc (y := 1) (L2 := [some (vR l0), some (vI l1), some (vI l2), some (vI l3), some (vI l4), some (vI l5), some (vI (l6 + 1)), none, none, none]) rfl rfl rfl rfl rfl ?_
    replace F := F _ rfl
    generalize (l6 + 1 : Int32) = v0 at F ⊢
    refine wp_goto rfl rfl ?_
    exact F
  · replace F := F.2 c
    refine wp_const' (L' := [some (vR l0), some (vI l1), none, some (vI l3), some (vI l4), some (vI l5), none, none, none, none]) rfl rfl rfl ?_
    refine wp_istore (L2 := [some (vR l0), some (vI l1), none, some (vI l3), some (vI l4), some (vI l5), some (vI 0), none, none, none]) rfl rfl rfl rfl ?_
    exact F
theorem w224_146 {d : Nat} {l0 : Nat} {l1 : Int32} {l3 : Int32} {l4 : Int32} {l5 : Int32} {l6 : Int32} {h : aH} {K : Int32 → aH → Prop} {X : Nat → aH → Prop} (F : gK h l0 = 14 ∧ ∃ i0 : Nat, inB h 100 (gR h l0 57) l4 i0 ∧ ((l6.toInt < (gI h (gR h l0 57) i0).toInt → ∀ v0 : Int32, v0 = (16 * l4) + l6 → ∃ i1 : Nat, inB h 100 (gR h l0 58) v0 i1 ∧ 8 ≤ l0 ∧ CI d 209 [vR l0, vI l1, vI (gI h (gR h l0 58) i1), vI l3] h (fun y0 h0 => gK h0 l0 = 14 ∧ ∃ i2 : Nat, inB h0 100 (gR h0 l0 59) v0 i2 ∧ CI d 209 [vR l0, vI l1, vI (gI h0 (gR h0 l0 59) i2), vI l3] h0 (fun y1 h1 => ((l5.toInt = 0 → ∀ v1 : Int32, v1 = l6 + 1 → Wp (d + 1) 224 (146, [some (vR l0), some (vI l1), none, some (vI l3), some (vI l4), some (vI 0), some (vI v1), none, none, none], [], h1) (RI K X)) ∧ (¬ l5.toInt = 0 → ((y0.toInt = (-2000000) → ∀ v2 : Int32, v2 = l6 + 1 → Wp (d + 1) 224 (146, [some (vR l0), some (vI l1), none, some (vI l3), some (vI l4), some (vI 1), some (vI v2), none, none, none], [], h1) (RI K X)) ∧ (¬ y0.toInt = (-2000000) → ((y1.toInt = (-2000000) → ∀ v3 : Int32, v3 = l6 + 1 → Wp (d + 1) 224 (146, [some (vR l0), some (vI l1), none, some (vI l3), some (vI l4), some (vI 1), some (vI v3), none, none, none], [], h1) (RI K X)) ∧ (¬ y1.toInt = (-2000000) → gK h1 l0 = 14 ∧ ∃ i3 : Nat, inB h1 100 (gR h1 l0 60) v0 i3 ∧ (((gI h1 (gR h1 l0 60) i3).toInt < (y0 - y1).toInt → ∀ v4 : Int32, v4 = l6 + 1 → Wp (d + 1) 224 (146, [some (vR l0), some (vI l1), none, some (vI l3), some (vI l4), some (vI 0), some (vI v4), none, none, none], [], h1) (RI K X)) ∧ (¬ (gI h1 (gR h1 l0 60) i3).toInt < (y0 - y1).toInt → ∀ v5 : Int32, v5 = l6 + 1 → Wp (d + 1) 224 (146, [some (vR l0), some (vI l1), none, some (vI l3), some (vI l4), some (vI 1), some (vI v5), none, none, none], [], h1) (RI K X)))))))))) X) X) ∧ (¬ l6.toInt < (gI h (gR h l0 57) i0).toInt → l5 &&& 1 = l5 ∧ K l5 h))) : Wp (d + 1) 224 (146, [some (vR l0), some (vI l1), none, some (vI l3), some (vI l4), some (vI l5), some (vI l6), none, none, none], [], h) (RI K X) := by
  refine wp_iload' (L' := [some (vR l0), some (vI l1), none, some (vI l3), some (vI l4), some (vI l5), some (vI l6), none, none, none]) rfl rfl rfl rfl ?_
  refine wp_aload rfl rfl rfl ?_
  obtain ⟨f0, F⟩ := F
  refine wp_getR rfl rfl rfl f0 rfl ?_
  refine wp_iload rfl rfl rfl ?_
  obtain ⟨i0, b9, F⟩ := F
  refine wp_iaload rfl b9 rfl ?_
  refine wp_icmp_ge rfl rfl rfl rfl rfl (fun c => ?_) (fun c => ?_)
  · replace F := F.1 c
    refine wp_const rfl rfl ?_
    refine wp_iload rfl rfl rfl ?_
    refine wp_imul rfl rfl ?_
    refine wp_iload rfl rfl rfl ?_
    refine wp_iadd rfl rfl ?_
    replace F := F _ rfl
    generalize ((16 * l4) + l6 : Int32) = v0 at F ⊢
    refine wp_istore (L2 := [some (vR l0), some (vI l1), none, some (vI l3), some (vI l4), some (vI l5), some (vI l6), some (vI v0), none, none]) rfl rfl rfl rfl ?_
    refine wp_aload rfl rfl rfl ?_
    refine wp_iload rfl rfl rfl ?_
    refine wp_aload rfl rfl rfl ?_
    refine wp_getR rfl rfl rfl f0 rfl ?_
    refine wp_iload rfl rfl rfl ?_
    obtain ⟨i1, b9, F⟩ := F
    refine wp_iaload rfl b9 rfl ?_
    refine wp_iload rfl rfl rfl ?_
    obtain ⟨f1, F⟩ := F
    refine wp_callI rfl rfl rfl (rcv_v f1 f0 (by decide) (by decide)) rfl rfl rfl rfl ?_
    refine CI.mono F (fun y0 h0 F => ?_) (fun _ _ w => rx_I w)
    refine wp_istore (L2 := [some (vR l0), some (vI l1), none, some (vI l3), some (vI l4), some (vI l5), some (vI l6), some (vI v0), some (vI y0), none]) rfl rfl rfl rfl ?_
    refine wp_aload rfl rfl rfl ?_
    refine wp_iload rfl rfl rfl ?_
    refine wp_aload rfl rfl rfl ?_
    obtain ⟨f2, F⟩ := F
    refine wp_getR rfl rfl rfl f2 rfl ?_
    refine wp_iload rfl rfl rfl ?_
    obtain ⟨i2, b9, F⟩ := F
    refine wp_iaload rfl b9 rfl ?_
    refine wp_iload rfl rfl rfl ?_
    refine wp_callI rfl rfl rfl (rcv_v f1 f2 (by decide) (by decide)) rfl rfl rfl rfl ?_
    refine CI.mono F (fun y1 h1 F => ?_) (fun _ _ w => rx_I w)
    refine wp_istore (L2 := [some (vR l0), some (vI l1), none, some (vI l3), some (vI l4), some (vI l5), some (vI l6), some (vI v0), some (vI y0), some (vI y1)]) rfl rfl rfl rfl ?_
    refine wp_iload rfl rfl rfl ?_
    refine wp_if_eq rfl rfl rfl rfl (fun c => ?_) (fun c => ?_)
    · replace F := F.1 c
      refine wp_const' (L' := [some (vR l0), some (vI l1), none, some (vI l3), some (vI l4), none, some (vI l6), none, none, none]) rfl rfl rfl ?_
      refine wp_istore' (L' := [some (vR l0), some (vI l1), none, some (vI l3), some (vI l4), none, some (vI l6), none, none, none]) (L2 := [some (vR l0), some (vI l1), none, some (vI l3), some (vI l4), some (vI 0), some (vI l6), none, none, none]) rfl rfl rfl rfl rfl ?_
      refine wp_iinc (y := 1) (L2 := [some (vR l0), some (vI l1), none, some (vI l3), some (vI l4), some (vI 0), some (vI (l6 + 1)), none, none, none]) rfl rfl rfl rfl rfl ?_
      replace F := F _ rfl
      generalize (l6 + 1 : Int32) = v1 at F ⊢
      refine wp_goto rfl rfl ?_
      exact F
    · replace F := F.2 c
      refine wp_iload rfl rfl rfl ?_
      refine wp_const rfl rfl ?_
      refine wp_icmp_eq (Y := (-2000000)) rfl rfl rfl rfl rfl (fun c => ?_) (fun c => ?_)
      · replace F := F.1 c
        refine wp_const' (L' := [some (vR l0), some (vI l1), none, some (vI l3), some (vI l4), none, some (vI l6), none, none, none]) rfl rfl rfl ?_
        refine wp_goto rfl rfl ?_
        refine wp_istore' (L' := [some (vR l0), some (vI l1), none, some (vI l3), some (vI l4), none, some (vI l6), none, none, none]) (L2 := [some (vR l0), some (vI l1), none, some (vI l3), some (vI l4), some (vI 1), some (vI l6), none, none, none]) rfl rfl rfl rfl rfl ?_
        refine wp_iinc (y := 1) (L2 := [some (vR l0), some (vI l1), none, some (vI l3), some (vI l4), some (vI 1), some (vI (l6 + 1)), none, none, none]) rfl rfl rfl rfl rfl ?_
        replace F := F _ rfl
        generalize (l6 + 1 : Int32) = v2 at F ⊢
        refine wp_goto rfl rfl ?_
        exact F
      · replace F := F.2 c
        refine wp_iload rfl rfl rfl ?_
        refine wp_const rfl rfl ?_
        refine wp_icmp_eq (Y := (-2000000)) rfl rfl rfl rfl rfl (fun c => ?_) (fun c => ?_)
        · replace F := F.1 c
          refine wp_const' (L' := [some (vR l0), some (vI l1), none, some (vI l3), some (vI l4), none, some (vI l6), none, none, none]) rfl rfl rfl ?_
          refine wp_goto rfl rfl ?_
          refine wp_istore' (L' := [some (vR l0), some (vI l1), none, some (vI l3), some (vI l4), none, some (vI l6), none, none, none]) (L2 := [some (vR l0), some (vI l1), none, some (vI l3), some (vI l4), some (vI 1), some (vI l6), none, none, none]) rfl rfl rfl rfl rfl ?_
          refine wp_iinc (y := 1) (L2 := [some (vR l0), some (vI l1), none, some (vI l3), some (vI l4), some (vI 1), some (vI (l6 + 1)), none, none, none]) rfl rfl rfl rfl rfl ?_
          replace F := F _ rfl
          generalize (l6 + 1 : Int32) = v3 at F ⊢
          refine wp_goto rfl rfl ?_
          exact F
        · replace F := F.2 c
          refine wp_iload rfl rfl rfl ?_
          refine wp_iload rfl rfl rfl ?_
          refine wp_isub rfl rfl ?_
          refine wp_aload rfl rfl rfl ?_
          obtain ⟨f3, F⟩ := F
          refine wp_getR rfl rfl rfl f3 rfl ?_
          refine wp_iload rfl rfl rfl ?_
          obtain ⟨i3, b9, F⟩ := F
          refine wp_iaload rfl b9 rfl ?_
          refine wp_icmp_gt rfl rfl rfl rfl rfl (fun c => ?_) (fun c => ?_)
          · replace F := F.1 c
            refine wp_const' (L' := [some (vR l0), some (vI l1), none, some (vI l3), some (vI l4), none, some (vI l6), none, none, none]) rfl rfl rfl ?_
            refine wp_istore' (L' := [some (vR l0), some (vI l1), none, some (vI l3), some (vI l4), none, some (vI l6), none, none, none]) (L2 := [some (vR l0), some (vI l1), none, some (vI l3), some (vI l4), some (vI 0), some (vI l6), none, none, none]) rfl rfl rfl rfl rfl ?_
            refine wp_iinc (y := 1) (L2 := [some (vR l0), some (vI l1), none, some (vI l3), some (vI l4), some (vI 0), some (vI (l6 + 1)), none, none, none]) rfl rfl rfl rfl rfl ?_
            replace F := F _ rfl
            generalize (l6 + 1 : Int32) = v4 at F ⊢
            refine wp_goto rfl rfl ?_
            exact F
          · replace F := F.2 c
            refine wp_const' (L' := [some (vR l0), some (vI l1), none, some (vI l3), some (vI l4), none, some (vI l6), none, none, none]) rfl rfl rfl ?_
            refine wp_goto rfl rfl ?_
            refine wp_istore' (L' := [some (vR l0), some (vI l1), none, some (vI l3), some (vI l4), none, some (vI l6), none, none, none]) (L2 := [some (vR l0), some (vI l1), none, some (vI l3), some (vI l4), some (vI 1), some (vI l6), none, none, none]) rfl rfl rfl rfl rfl ?_
            refine wp_iinc (y := 1) (L2 := [some (vR l0), some (vI l1), none, some (vI l3), some (vI l4), some (vI 1), some (vI (l6 + 1)), none, none, none]) rfl rfl rfl rfl rfl ?_
            replace F := F _ rfl
            generalize (l6 + 1 : Int32) = v5 at F ⊢
            refine wp_goto rfl rfl ?_
            exact F
  · replace F := F.2 c
    refine wp_iload' (L' := [none, none, none, none, none, some (vI l5), none, none, none, none]) rfl rfl rfl rfl ?_
    exact wp_retI rfl (Or.inr F.1) F.2
-- CensusOfficeModel distance (III)J
theorem m225 {d : Nat} {a0 : Nat} {a1 : Int32} {a2 : Int32} {a3 : Int32} {h : aH} {K : Int64 → aH → Prop} {X : Nat → aH → Prop} (F : 8 ≤ a0 ∧ gK h a0 = 14 ∧ CI d 175 [vR a0, vI a1] h (fun y0 h0 => Wp (d + 1) 225 (13, [some (vR a0), some (vI a1), some (vI a2), some (vI a3), some (vI y0), some (vL 0), none, some (vI 0), none, none, none], [], h0) (RL K X)) X) : CL (d + 1) 225 [vR a0, vI a1, vI a2, vI a3] h K X := by
  show Wp (d + 1) 225 (0, [some (vR a0), some (vI a1), some (vI a2), some (vI a3), none, none, none, none, none, none, none], [], h) (RL K X)
  refine wp_aload rfl rfl rfl ?_
  refine wp_iload rfl rfl rfl ?_
  obtain ⟨f0, F⟩ := F
  obtain ⟨f1, F⟩ := F
  refine wp_callI rfl rfl rfl (rcv_v f0 f1 (by decide) (by decide)) rfl rfl rfl rfl ?_
  refine CI.mono F (fun y0 h0 F => ?_) (fun _ _ w => rx_L w)
  refine wp_istore (L2 := [some (vR a0), some (vI a1), some (vI a2), some (vI a3), some (vI y0), none, none, none, none, none, none]) rfl rfl rfl rfl ?_
  refine wp_const rfl rfl ?_
  refine wp_lstore (L2 := [some (vR a0), some (vI a1), some (vI a2), some (vI a3), some (vI y0), some (vL 0), none, none, none, none, none]) rfl rfl rfl rfl ?_
  refine wp_const rfl rfl ?_
  refine wp_istore (L2 := [some (vR a0), some (vI a1), some (vI a2), some (vI a3), some (vI y0), some (vL 0), none, some (vI 0), none, none, none]) rfl rfl rfl rfl ?_
  exact F
theorem w225_13 {d : Nat} {l0 : Nat} {l1 : Int32} {l2 : Int32} {l3 : Int32} {l4 : Int32} {l5 : Int64} {l7 : Int32} {h : aH} {K : Int64 → aH → Prop} {X : Nat → aH → Prop} (F : gK h l0 = 14 ∧ ∃ i0 : Nat, inB h 100 (gR h l0 15) l4 i0 ∧ ((l7.toInt < (gI h (gR h l0 15) i0).toInt → ∃ i1 : Nat, inB h 100 (gR h l0 55) ((20 * l1) + l7) i1 ∧ ∀ v0 : Int32, v0 = gI h (gR h l0 55) i1 → ∃ i2 : Nat, inB h 100 (gR h l0 55) ((20 * l2) + l7) i2 ∧ ∀ v1 : Int32, v1 = gI h (gR h l0 55) i2 → 8 ≤ l0 ∧ CI d 186 [vR l0, vI l4, vI l7] h (fun y0 h0 => ((y0.toInt = 0 → ∀ v2 : Int64, v2 = l5 + 0 → ∀ v3 : Int32, v3 = l7 + 1 → Wp (d + 1) 225 (13, [some (vR l0), some (vI l1), some (vI l2), some (vI l3), some (vI l4), some (vL v2), none, some (vI v3), none, none, none], [], h0) (RL K X)) ∧ (¬ y0.toInt = 0 → ((((l3 >>> (l7 &&& 31)) &&& 1).toInt = 0 → ((v0.toInt = (-2000000) → ∀ v4 : Int64, v4 = l5 + 0 → ∀ v5 : Int32, v5 = l7 + 1 → Wp (d + 1) 225 (13, [some (vR l0), some (vI l1), some (vI l2), some (vI l3), some (vI l4), some (vL v4), none, some (vI v5), none, none, none], [], h0) (RL K X)) ∧ (¬ v0.toInt = (-2000000) → ((v1.toInt = (-2000000) → ∀ v6 : Int64, v6 = l5 + 0 → ∀ v7 : Int32, v7 = l7 + 1 → Wp (d + 1) 225 (13, [some (vR l0), some (vI l1), some (vI l2), some (vI l3), some (vI l4), some (vL v6), none, some (vI v7), none, none, none], [], h0) (RL K X)) ∧ (¬ v1.toInt = (-2000000) → ((v0.toInt < v1.toInt → ∀ v8 : Int64, v8 = l5 + ((v1 - v0).toInt64) → ∀ v9 : Int32, v9 = l7 + 1 → Wp (d + 1) 225 (13, [some (vR l0), some (vI l1), some (vI l2), some (vI l3), some (vI l4), some (vL v8), none, some (vI v9), none, none, none], [], h0) (RL K X)) ∧ (¬ v0.toInt < v1.toInt → ∀ v10 : Int64, v10 = l5 + ((v0 - v1).toInt64) → ∀ v11 : Int32, v11 = l7 + 1 → Wp (d + 1) 225 (13, [some (vR l0), some (vI l1), some (vI l2), some (vI l3), some (vI l4), some (vL v10), none, some (vI v11), none, none, none], [], h0) (RL K X)))))))) ∧ (¬ ((l3 >>> (l7 &&& 31)) &&& 1).toInt = 0 → ∀ v12 : Int64, v12 = l5 + 0 → ∀ v13 : Int32, v13 = l7 + 1 → Wp (d + 1) 225 (13, [some (vR l0), some (vI l1), some (vI l2), some (vI l3), some (vI l4), some (vL v12), none, some (vI v13), none, none, none], [], h0) (RL K X)))))) X) ∧ (¬ l7.toInt < (gI h (gR h l0 15) i0).toInt → K l5 h))) : Wp (d + 1) 225 (13, [some (vR l0), some (vI l1), some (vI l2), some (vI l3), some (vI l4), some (vL l5), none, some (vI l7), none, none, none], [], h) (RL K X) := by
  refine wp_iload' (L' := [some (vR l0), some (vI l1), some (vI l2), some (vI l3), some (vI l4), some (vL l5), none, some (vI l7), none, none, none]) rfl rfl rfl rfl ?_
  refine wp_aload rfl rfl rfl ?_
  obtain ⟨f0, F⟩ := F
  refine wp_getR rfl rfl rfl f0 rfl ?_
  refine wp_iload rfl rfl rfl ?_
  obtain ⟨i0, b9, F⟩ := F
  refine wp_iaload rfl b9 rfl ?_
  refine wp_icmp_ge rfl rfl rfl rfl rfl (fun c => ?_) (fun c => ?_)
  · replace F := F.1 c
    refine wp_aload rfl rfl rfl ?_
    refine wp_getR rfl rfl rfl f0 rfl ?_
    refine wp_const rfl rfl ?_
    refine wp_iload rfl rfl rfl ?_
    refine wp_imul rfl rfl ?_
    refine wp_iload rfl rfl rfl ?_
    refine wp_iadd rfl rfl ?_
    obtain ⟨i1, b9, F⟩ := F
    refine wp_iaload rfl b9 rfl ?_
    replace F := F _ rfl
    generalize (gI h (gR h l0 55) i1 : Int32) = v0 at F ⊢
    refine wp_istore (L2 := [some (vR l0), some (vI l1), some (vI l2), some (vI l3), some (vI l4), some (vL l5), none, some (vI l7), some (vI v0), none, none]) rfl rfl rfl rfl ?_
    refine wp_aload rfl rfl rfl ?_
    refine wp_getR rfl rfl rfl f0 rfl ?_
    refine wp_const rfl rfl ?_
    refine wp_iload rfl rfl rfl ?_
    refine wp_imul rfl rfl ?_
    refine wp_iload rfl rfl rfl ?_
    refine wp_iadd rfl rfl ?_
    obtain ⟨i2, b9, F⟩ := F
    refine wp_iaload rfl b9 rfl ?_
    replace F := F _ rfl
    generalize (gI h (gR h l0 55) i2 : Int32) = v1 at F ⊢
    refine wp_istore (L2 := [some (vR l0), some (vI l1), some (vI l2), some (vI l3), some (vI l4), some (vL l5), none, some (vI l7), some (vI v0), some (vI v1), none]) rfl rfl rfl rfl ?_
    refine wp_aload rfl rfl rfl ?_
    refine wp_iload rfl rfl rfl ?_
    refine wp_iload rfl rfl rfl ?_
    obtain ⟨f1, F⟩ := F
    refine wp_callI rfl rfl rfl (rcv_v f1 f0 (by decide) (by decide)) rfl rfl rfl rfl ?_
    refine CI.mono F (fun y0 h0 F => ?_) (fun _ _ w => rx_L w)
    refine wp_if_eq rfl rfl rfl rfl (fun c => ?_) (fun c => ?_)
    · replace F := F.1 c
      refine wp_const' (L' := [some (vR l0), some (vI l1), some (vI l2), some (vI l3), some (vI l4), some (vL l5), none, some (vI l7), some (vI v0), some (vI v1), none]) rfl rfl rfl ?_
      refine wp_istore' (L' := [some (vR l0), some (vI l1), some (vI l2), some (vI l3), some (vI l4), some (vL l5), none, some (vI l7), some (vI v0), some (vI v1), none]) (L2 := [some (vR l0), some (vI l1), some (vI l2), some (vI l3), some (vI l4), some (vL l5), none, some (vI l7), some (vI v0), some (vI v1), some (vI 0)]) rfl rfl rfl rfl rfl ?_
      refine wp_lload rfl rfl rfl ?_
      refine wp_iload rfl rfl rfl ?_
      refine wp_if_ne (X := 0) rfl rfl rfl rfl (fun _ => ?_) (fun c => absurd (by decide) c)
      refine wp_const rfl rfl ?_
      refine wp_goto rfl rfl ?_
      refine wp_ladd' (L' := [some (vR l0), some (vI l1), some (vI l2), some (vI l3), some (vI l4), none, none, some (vI l7), none, none, none]) rfl rfl rfl ?_
      replace F := F _ rfl
      generalize (l5 + 0 : Int64) = v2 at F ⊢
      refine wp_lstore (L2 := [some (vR l0), some (vI l1), some (vI l2), some (vI l3), some (vI l4), some (vL v2), none, some (vI l7), none, none, none]) rfl rfl rfl rfl ?_
      refine wp_iinc (y := 1) (L2 := [some (vR l0), some (vI l1), some (vI l2), some (vI l3), some (vI l4), some (vL v2), none, some (vI (l7 + 1)), none, none, none]) rfl rfl rfl rfl rfl ?_
      replace F := F _ rfl
      generalize (l7 + 1 : Int32) = v3 at F ⊢
      refine wp_goto rfl rfl ?_
      exact F
    · replace F := F.2 c
      refine wp_iload rfl rfl rfl ?_
      refine wp_iload rfl rfl rfl ?_
      refine wp_ishr rfl rfl ?_
      refine wp_const rfl rfl ?_
      refine wp_iand rfl rfl ?_
      refine wp_if_ne rfl rfl rfl rfl (fun c => ?_) (fun c => ?_)
      · replace F := F.1 c
        refine wp_iload rfl rfl rfl ?_
        refine wp_const rfl rfl ?_
        refine wp_icmp_eq (Y := (-2000000)) rfl rfl rfl rfl rfl (fun c => ?_) (fun c => ?_)
        · replace F := F.1 c
          refine wp_const' (L' := [some (vR l0), some (vI l1), some (vI l2), some (vI l3), some (vI l4), some (vL l5), none, some (vI l7), some (vI v0), some (vI v1), none]) rfl rfl rfl ?_
          refine wp_istore' (L' := [some (vR l0), some (vI l1), some (vI l2), some (vI l3), some (vI l4), some (vL l5), none, some (vI l7), some (vI v0), some (vI v1), none]) (L2 := [some (vR l0), some (vI l1), some (vI l2), some (vI l3), some (vI l4), some (vL l5), none, some (vI l7), some (vI v0), some (vI v1), some (vI 0)]) rfl rfl rfl rfl rfl ?_
          refine wp_lload rfl rfl rfl ?_
          refine wp_iload rfl rfl rfl ?_
          refine wp_if_ne (X := 0) rfl rfl rfl rfl (fun _ => ?_) (fun c => absurd (by decide) c)
          refine wp_const rfl rfl ?_
          refine wp_goto rfl rfl ?_
          refine wp_ladd' (L' := [some (vR l0), some (vI l1), some (vI l2), some (vI l3), some (vI l4), none, none, some (vI l7), none, none, none]) rfl rfl rfl ?_
          replace F := F _ rfl
          generalize (l5 + 0 : Int64) = v4 at F ⊢
          refine wp_lstore (L2 := [some (vR l0), some (vI l1), some (vI l2), some (vI l3), some (vI l4), some (vL v4), none, some (vI l7), none, none, none]) rfl rfl rfl rfl ?_
          refine wp_iinc (y := 1) (L2 := [some (vR l0), some (vI l1), some (vI l2), some (vI l3), some (vI l4), some (vL v4), none, some (vI (l7 + 1)), none, none, none]) rfl rfl rfl rfl rfl ?_
          replace F := F _ rfl
          generalize (l7 + 1 : Int32) = v5 at F ⊢
          refine wp_goto rfl rfl ?_
          exact F
        · replace F := F.2 c
          refine wp_iload rfl rfl rfl ?_
          refine wp_const rfl rfl ?_
          refine wp_icmp_eq (Y := (-2000000)) rfl rfl rfl rfl rfl (fun c => ?_) (fun c => ?_)
          · replace F := F.1 c
            refine wp_const' (L' := [some (vR l0), some (vI l1), some (vI l2), some (vI l3), some (vI l4), some (vL l5), none, some (vI l7), some (vI v0), some (vI v1), none]) rfl rfl rfl ?_
            refine wp_istore' (L' := [some (vR l0), some (vI l1), some (vI l2), some (vI l3), some (vI l4), some (vL l5), none, some (vI l7), some (vI v0), some (vI v1), none]) (L2 := [some (vR l0), some (vI l1), some (vI l2), some (vI l3), some (vI l4), some (vL l5), none, some (vI l7), some (vI v0), some (vI v1), some (vI 0)]) rfl rfl rfl rfl rfl ?_
            refine wp_lload rfl rfl rfl ?_
            refine wp_iload rfl rfl rfl ?_
            refine wp_if_ne (X := 0) rfl rfl rfl rfl (fun _ => ?_) (fun c => absurd (by decide) c)
            refine wp_const rfl rfl ?_
            refine wp_goto rfl rfl ?_
            refine wp_ladd' (L' := [some (vR l0), some (vI l1), some (vI l2), some (vI l3), some (vI l4), none, none, some (vI l7), none, none, none]) rfl rfl rfl ?_
            replace F := F _ rfl
            generalize (l5 + 0 : Int64) = v6 at F ⊢
            refine wp_lstore (L2 := [some (vR l0), some (vI l1), some (vI l2), some (vI l3), some (vI l4), some (vL v6), none, some (vI l7), none, none, none]) rfl rfl rfl rfl ?_
            refine wp_iinc (y := 1) (L2 := [some (vR l0), some (vI l1), some (vI l2), some (vI l3), some (vI l4), some (vL v6), none, some (vI (l7 + 1)), none, none, none]) rfl rfl rfl rfl rfl ?_
            replace F := F _ rfl
            generalize (l7 + 1 : Int32) = v7 at F ⊢
            refine wp_goto rfl rfl ?_
            exact F
          · replace F := F.2 c
            refine wp_const rfl rfl ?_
            refine wp_goto rfl rfl ?_
            refine wp_istore' (L' := [some (vR l0), some (vI l1), some (vI l2), some (vI l3), some (vI l4), some (vL l5), none, some (vI l7), some (vI v0), some (vI v1), none]) (L2 := [some (vR l0), some (vI l1), some (vI l2), some (vI l3), some (vI l4), some (vL l5), none, some (vI l7), some (vI v0), some (vI v1), some (vI 1)]) rfl rfl rfl rfl rfl ?_
            refine wp_lload rfl rfl rfl ?_
            refine wp_iload rfl rfl rfl ?_
            refine wp_if_ne (X := 1) rfl rfl rfl rfl (fun c => absurd c (by decide)) (fun _ => ?_)
            refine wp_iload' (L' := [some (vR l0), some (vI l1), some (vI l2), some (vI l3), some (vI l4), none, none, some (vI l7), some (vI v0), some (vI v1), none]) rfl rfl rfl rfl ?_
            refine wp_iload rfl rfl rfl ?_
            refine wp_icmp_ge rfl rfl rfl rfl rfl (fun c => ?_) (fun c => ?_)
            · replace F := F.1 c
              refine wp_iload rfl rfl rfl ?_
              refine wp_iload rfl rfl rfl ?_
              refine wp_isub rfl rfl ?_
              refine wp_i2l rfl rfl ?_
              refine wp_goto rfl rfl ?_
              refine wp_ladd' (L' := [some (vR l0), some (vI l1), some (vI l2), some (vI l3), some (vI l4), none, none, some (vI l7), none, none, none]) rfl rfl rfl ?_
              replace F := F _ rfl
              generalize (l5 + ((v1 - v0).toInt64) : Int64) = v8 at F ⊢
              refine wp_lstore (L2 := [some (vR l0), some (vI l1), some (vI l2), some (vI l3), some (vI l4), some (vL v8), none, some (vI l7), none, none, none]) rfl rfl rfl rfl ?_
              refine wp_iinc (y := 1) (L2 := [some (vR l0), some (vI l1), some (vI l2), some (vI l3), some (vI l4), some (vL v8), none, some (vI (l7 + 1)), none, none, none]) rfl rfl rfl rfl rfl ?_
              replace F := F _ rfl
              generalize (l7 + 1 : Int32) = v9 at F ⊢
              refine wp_goto rfl rfl ?_
              exact F
            · replace F := F.2 c
              refine wp_iload' (L' := [some (vR l0), some (vI l1), some (vI l2), some (vI l3), some (vI l4), none, none, some (vI l7), some (vI v0), some (vI v1), none]) rfl rfl rfl rfl ?_
              refine wp_iload rfl rfl rfl ?_
              refine wp_isub rfl rfl ?_
              refine wp_i2l rfl rfl ?_
              refine wp_ladd' (L' := [some (vR l0), some (vI l1), some (vI l2), some (vI l3), some (vI l4), none, none, some (vI l7), none, none, none]) rfl rfl rfl ?_
              replace F := F _ rfl
              generalize (l5 + ((v0 - v1).toInt64) : Int64) = v10 at F ⊢
              refine wp_lstore (L2 := [some (vR l0), some (vI l1), some (vI l2), some (vI l3), some (vI l4), some (vL v10), none, some (vI l7), none, none, none]) rfl rfl rfl rfl ?_
              refine wp_iinc (y := 1) (L2 := [some (vR l0), some (vI l1), some (vI l2), some (vI l3), some (vI l4), some (vL v10), none, some (vI (l7 + 1)), none, none, none]) rfl rfl rfl rfl rfl ?_
              replace F := F _ rfl
              generalize (l7 + 1 : Int32) = v11 at F ⊢
              refine wp_goto rfl rfl ?_
              exact F
      · replace F := F.2 c
        refine wp_const' (L' := [some (vR l0), some (vI l1), some (vI l2), some (vI l3), some (vI l4), some (vL l5), none, some (vI l7), some (vI v0), some (vI v1), none]) rfl rfl rfl ?_
        refine wp_istore' (L' := [some (vR l0), some (vI l1), some (vI l2), some (vI l3), some (vI l4), some (vL l5), none, some (vI l7), some (vI v0), some (vI v1), none]) (L2 := [some (vR l0), some (vI l1), some (vI l2), some (vI l3), some (vI l4), some (vL l5), none, some (vI l7), some (vI v0), some (vI v1), some (vI 0)]) rfl rfl rfl rfl rfl ?_
        refine wp_lload rfl rfl rfl ?_
        refine wp_iload rfl rfl rfl ?_
        refine wp_if_ne (X := 0) rfl rfl rfl rfl (fun _ => ?_) (fun c => absurd (by decide) c)
        refine wp_const rfl rfl ?_
        refine wp_goto rfl rfl ?_
        refine wp_ladd' (L' := [some (vR l0), some (vI l1), some (vI l2), some (vI l3), some (vI l4), none, none, some (vI l7), none, none, none]) rfl rfl rfl ?_
        replace F := F _ rfl
        generalize (l5 + 0 : Int64) = v12 at F ⊢
        refine wp_lstore (L2 := [some (vR l0), some (vI l1), some (vI l2), some (vI l3), some (vI l4), some (vL v12), none, some (vI l7), none, none, none]) rfl rfl rfl rfl ?_
        refine wp_iinc (y := 1) (L2 := [some (vR l0), some (vI l1), some (vI l2), some (vI l3), some (vI l4), some (vL v12), none, some (vI (l7 + 1)), none, none, none]) rfl rfl rfl rfl rfl ?_
        replace F := F _ rfl
        generalize (l7 + 1 : Int32) = v13 at F ⊢
        refine wp_goto rfl rfl ?_
        exact F
  · replace F := F.2 c
    refine wp_lload' (L' := [none, none, none, none, none, some (vL l5), none, none, none, none, none]) rfl rfl rfl rfl ?_
    exact wp_retL rfl F
-- CensusOfficeModel letsOf (I)V
theorem m226 {d : Nat} {a0 : Nat} {a1 : Int32} {h : aH} {K : aH → Prop} {X : Nat → aH → Prop} (F : 8 ≤ a0 ∧ gK h a0 = 14 ∧ CI d 175 [vR a0, vI a1] h (fun y0 h0 => Wp (d + 1) 226 (8, [some (vR a0), some (vI a1), some (vI y0), some (vI 0), none, none], [], h0) (RV K X)) X) : CV (d + 1) 226 [vR a0, vI a1] h K X := by
  show Wp (d + 1) 226 (0, [some (vR a0), some (vI a1), none, none, none, none], [], h) (RV K X)
  refine wp_aload rfl rfl rfl ?_
  refine wp_iload rfl rfl rfl ?_
  obtain ⟨f0, F⟩ := F
  obtain ⟨f1, F⟩ := F
  refine wp_callI rfl rfl rfl (rcv_v f0 f1 (by decide) (by decide)) rfl rfl rfl rfl ?_
  refine CI.mono F (fun y0 h0 F => ?_) (fun _ _ w => rx_V w)
  refine wp_istore (L2 := [some (vR a0), some (vI a1), some (vI y0), none, none, none]) rfl rfl rfl rfl ?_
  refine wp_const rfl rfl ?_
  refine wp_istore (L2 := [some (vR a0), some (vI a1), some (vI y0), some (vI 0), none, none]) rfl rfl rfl rfl ?_
  exact F
theorem w226_8 {d : Nat} {l0 : Nat} {l1 : Int32} {l2 : Int32} {l3 : Int32} {h : aH} {K : aH → Prop} {X : Nat → aH → Prop} (F : ((l3.toInt < 20 → gK h l0 = 14 ∧ ∃ i0 : Nat, inB h 100 (gR h l0 55) ((20 * l1) + l3) i0 ∧ 8 ≤ (gR h l0 34) ∧ ∃ i1 : Nat, inB h 100 (gR h l0 34) l3 i1 ∧ ∀ h0 : aH, h0 = pI h (gR h l0 34) i1 (gI h (gR h l0 55) i0) → ∀ v0 : Int32, v0 = l3 + 1 → Wp (d + 1) 226 (8, [some (vR l0), some (vI l1), some (vI l2), some (vI v0), none, none], [], h0) (RV K X)) ∧ (¬ l3.toInt < 20 → Wp (d + 1) 226 (39, [some (vR l0), some (vI l1), some (vI l2), some (vI 0), none, none], [], h) (RV K X)))) : Wp (d + 1) 226 (8, [some (vR l0), some (vI l1), some (vI l2), some (vI l3), none, none], [], h) (RV K X) := by
  refine wp_iload' (L' := [some (vR l0), some (vI l1), some (vI l2), some (vI l3), none, none]) rfl rfl rfl rfl ?_
  refine wp_const rfl rfl ?_
  refine wp_icmp_ge (Y := 20) rfl rfl rfl rfl rfl (fun c => ?_) (fun c => ?_)
  · replace F := F.1 c
    refine wp_aload rfl rfl rfl ?_
    obtain ⟨f0, F⟩ := F
    refine wp_getR rfl rfl rfl f0 rfl ?_
    refine wp_iload rfl rfl rfl ?_
    refine wp_aload rfl rfl rfl ?_
    refine wp_getR rfl rfl rfl f0 rfl ?_
    refine wp_const rfl rfl ?_
    refine wp_iload rfl rfl rfl ?_
    refine wp_imul rfl rfl ?_
    refine wp_iload rfl rfl rfl ?_
    refine wp_iadd rfl rfl ?_
    obtain ⟨i0, b9, F⟩ := F
    refine wp_iaload rfl b9 rfl ?_
    obtain ⟨f1, F⟩ := F
    obtain ⟨i1, b9, F⟩ := F
    refine wp_iastore rfl f1 b9 rfl ?_
    have f2 : gK (pI h (gR h l0 34) i1 (gI h (gR h l0 55) i0)) l0 = 14 := (gK_pI _ _ _ _ _).trans f0
    replace F := F _ rfl
    generalize pI h (gR h l0 34) i1 (gI h (gR h l0 55) i0) = h0 at F f2 ⊢
    refine wp_iinc (y := 1) (L2 := [some (vR l0), some (vI l1), some (vI l2), some (vI (l3 + 1)), none, none]) rfl rfl rfl rfl rfl ?_
    replace F := F _ rfl
    generalize (l3 + 1 : Int32) = v0 at F ⊢
    refine wp_goto rfl rfl ?_
    exact F
  · replace F := F.2 c
    refine wp_const' (L' := [some (vR l0), some (vI l1), some (vI l2), none, none, none]) rfl rfl rfl ?_
    refine wp_istore (L2 := [some (vR l0), some (vI l1), some (vI l2), some (vI 0), none, none]) rfl rfl rfl rfl ?_
    exact F
theorem w226_39 {d : Nat} {l0 : Nat} {l1 : Int32} {l2 : Int32} {l3 : Int32} {h : aH} {K : aH → Prop} {X : Nat → aH → Prop} (F : ((l3.toInt < 6 → gK h l0 = 14 ∧ ∃ i0 : Nat, inB h 100 (gR h l0 54) l1 i0 ∧ ∃ i1 : Nat, inB h 100 (gR h l0 41) ((6 * (gI h (gR h l0 54) i0)) + l3) i1 ∧ 8 ≤ (gR h l0 35) ∧ ∃ i2 : Nat, inB h 100 (gR h l0 35) l3 i2 ∧ ∀ h0 : aH, h0 = pI h (gR h l0 35) i2 (gI h (gR h l0 41) i1) → ∀ v0 : Int32, v0 = l3 + 1 → Wp (d + 1) 226 (39, [some (vR l0), some (vI l1), some (vI l2), some (vI v0), none, none], [], h0) (RV K X)) ∧ (¬ l3.toInt < 6 → Wp (d + 1) 226 (75, [some (vR l0), some (vI l1), some (vI l2), some (vI 0), none, none], [], h) (RV K X)))) : Wp (d + 1) 226 (39, [some (vR l0), some (vI l1), some (vI l2), some (vI l3), none, none], [], h) (RV K X) := by
  refine wp_iload' (L' := [some (vR l0), some (vI l1), some (vI l2), some (vI l3), none, none]) rfl rfl rfl rfl ?_
  refine wp_const rfl rfl ?_
  refine wp_icmp_ge (Y := 6) rfl rfl rfl rfl rfl (fun c => ?_) (fun c => ?_)
  · replace F := F.1 c
    refine wp_aload rfl rfl rfl ?_
    obtain ⟨f0, F⟩ := F
    refine wp_getR rfl rfl rfl f0 rfl ?_
    refine wp_iload rfl rfl rfl ?_
    refine wp_aload rfl rfl rfl ?_
    refine wp_getR rfl rfl rfl f0 rfl ?_
    refine wp_const rfl rfl ?_
    refine wp_aload rfl rfl rfl ?_
    refine wp_getR rfl rfl rfl f0 rfl ?_
    refine wp_iload rfl rfl rfl ?_
    obtain ⟨i0, b9, F⟩ := F
    refine wp_iaload rfl b9 rfl ?_
    refine wp_imul rfl rfl ?_
    refine wp_iload rfl rfl rfl ?_
    refine wp_iadd rfl rfl ?_
    obtain ⟨i1, b9, F⟩ := F
    refine wp_iaload rfl b9 rfl ?_
    obtain ⟨f1, F⟩ := F
    obtain ⟨i2, b9, F⟩ := F
    refine wp_iastore rfl f1 b9 rfl ?_
    have f2 : gK (pI h (gR h l0 35) i2 (gI h (gR h l0 41) i1)) l0 = 14 := (gK_pI _ _ _ _ _).trans f0
    replace F := F _ rfl
    generalize pI h (gR h l0 35) i2 (gI h (gR h l0 41) i1) = h0 at F f2 ⊢
    refine wp_iinc (y := 1) (L2 := [some (vR l0), some (vI l1), some (vI l2), some (vI (l3 + 1)), none, none]) rfl rfl rfl rfl rfl ?_
    replace F := F _ rfl
    generalize (l3 + 1 : Int32) = v0 at F ⊢
    refine wp_goto rfl rfl ?_
    exact F
  · replace F := F.2 c
    refine wp_const' (L' := [some (vR l0), some (vI l1), some (vI l2), none, none, none]) rfl rfl rfl ?_
    refine wp_istore (L2 := [some (vR l0), some (vI l1), some (vI l2), some (vI 0), none, none]) rfl rfl rfl rfl ?_
    exact F
theorem w226_75 {d : Nat} {l0 : Nat} {l1 : Int32} {l2 : Int32} {l3 : Int32} {h : aH} {K : aH → Prop} {X : Nat → aH → Prop} (F : gK h l0 = 14 ∧ ∃ i0 : Nat, inB h 100 (gR h l0 15) l2 i0 ∧ ((l3.toInt < (gI h (gR h l0 15) i0).toInt → ∀ v0 : Int32, v0 = (20 * l2) + l3 → ∃ i1 : Nat, inB h 100 (gR h l0 16) v0 i1 ∧ (((gI h (gR h l0 16) i1).toInt = 1 → ∃ i2 : Nat, inB h 100 (gR h l0 23) v0 i2 ∧ (((gI h (gR h l0 23) i2).toInt = (-1) → ∃ i3 : Nat, inB h 100 (gR h l0 21) v0 i3 ∧ ∃ i4 : Nat, inB h 100 (gR h l0 22) v0 i4 ∧ 8 ≤ l0 ∧ CI d 146 [vR l0, vI (gI h (gR h l0 21) i3), vI (gI h (gR h l0 22) i4)] h (fun y0 h0 => 8 ≤ (gR h l0 34) ∧ ∃ i5 : Nat, inB h0 100 (gR h l0 34) l3 i5 ∧ ∀ h1 : aH, h1 = pI h0 (gR h l0 34) i5 y0 → gK h1 l0 = 14 ∧ ∃ i6 : Nat, inB h1 100 (gR h1 l0 34) l3 i6 ∧ 8 ≤ (gR h1 l0 55) ∧ ∃ i7 : Nat, inB h1 100 (gR h1 l0 55) ((20 * l1) + l3) i7 ∧ ∀ h2 : aH, h2 = pI h1 (gR h1 l0 55) i7 (gI h1 (gR h1 l0 34) i6) → ∀ v1 : Int32, v1 = l3 + 1 → Wp (d + 1) 226 (75, [some (vR l0), some (vI l1), some (vI l2), some (vI v1), none, none], [], h2) (RV K X)) X) ∧ (¬ (gI h (gR h l0 23) i2).toInt = (-1) → ∃ i8 : Nat, inB h 100 (gR h l0 23) v0 i8 ∧ ∃ i9 : Nat, inB h 100 (gR h l0 24) v0 i9 ∧ 8 ≤ l0 ∧ CI d 147 [vR l0, vI (gI h (gR h l0 23) i8), vI (gI h (gR h l0 24) i9)] h (fun y1 h3 => ((y1.toInt = 0 → gK h3 l0 = 14 ∧ 8 ≤ (gR h3 l0 34) ∧ ∃ i10 : Nat, inB h3 100 (gR h3 l0 34) l3 i10 ∧ ∀ h4 : aH, h4 = pI h3 (gR h3 l0 34) i10 (-2000000) → ∃ i11 : Nat, inB h4 100 (gR h4 l0 34) l3 i11 ∧ 8 ≤ (gR h4 l0 55) ∧ ∃ i12 : Nat, inB h4 100 (gR h4 l0 55) ((20 * l1) + l3) i12 ∧ ∀ h5 : aH, h5 = pI h4 (gR h4 l0 55) i12 (gI h4 (gR h4 l0 34) i11) → ∀ v2 : Int32, v2 = l3 + 1 → Wp (d + 1) 226 (75, [some (vR l0), some (vI l1), some (vI l2), some (vI v2), none, none], [], h5) (RV K X)) ∧ (¬ y1.toInt = 0 → gK h3 l0 = 14 ∧ ∃ i13 : Nat, inB h3 100 (gR h3 l0 21) v0 i13 ∧ ∃ i14 : Nat, inB h3 100 (gR h3 l0 22) v0 i14 ∧ CI d 146 [vR l0, vI (gI h3 (gR h3 l0 21) i13), vI (gI h3 (gR h3 l0 22) i14)] h3 (fun y2 h6 => 8 ≤ (gR h3 l0 34) ∧ ∃ i15 : Nat, inB h6 100 (gR h3 l0 34) l3 i15 ∧ ∀ h7 : aH, h7 = pI h6 (gR h3 l0 34) i15 y2 → gK h7 l0 = 14 ∧ ∃ i16 : Nat, inB h7 100 (gR h7 l0 34) l3 i16 ∧ 8 ≤ (gR h7 l0 55) ∧ ∃ i17 : Nat, inB h7 100 (gR h7 l0 55) ((20 * l1) + l3) i17 ∧ ∀ h8 : aH, h8 = pI h7 (gR h7 l0 55) i17 (gI h7 (gR h7 l0 34) i16) → ∀ v3 : Int32, v3 = l3 + 1 → Wp (d + 1) 226 (75, [some (vR l0), some (vI l1), some (vI l2), some (vI v3), none, none], [], h8) (RV K X)) X))) X))) ∧ (¬ (gI h (gR h l0 16) i1).toInt = 1 → ∀ v4 : Int32, v4 = l3 + 1 → Wp (d + 1) 226 (75, [some (vR l0), some (vI l1), some (vI l2), some (vI v4), none, none], [], h) (RV K X)))) ∧ (¬ l3.toInt < (gI h (gR h l0 15) i0).toInt → K h))) : Wp (d + 1) 226 (75, [some (vR l0), some (vI l1), some (vI l2), some (vI l3), none, none], [], h) (RV K X) := by
  refine wp_iload' (L' := [some (vR l0), some (vI l1), some (vI l2), some (vI l3), none, none]) rfl rfl rfl rfl ?_
  refine wp_aload rfl rfl rfl ?_
  obtain ⟨f0, F⟩ := F
  refine wp_getR rfl rfl rfl f0 rfl ?_
  refine wp_iload rfl rfl rfl ?_
  obtain ⟨i0, b9, F⟩ := F
  refine wp_iaload rfl b9 rfl ?_
  refine wp_icmp_ge rfl rfl rfl rfl rfl (fun c => ?_) (fun c => ?_)
  · replace F := F.1 c
    refine wp_const rfl rfl ?_
    refine wp_iload rfl rfl rfl ?_
    refine wp_imul rfl rfl ?_
    refine wp_iload rfl rfl rfl ?_
    refine wp_iadd rfl rfl ?_
    replace F := F _ rfl
    generalize ((20 * l2) + l3 : Int32) = v0 at F ⊢
    refine wp_istore (L2 := [some (vR l0), some (vI l1), some (vI l2), some (vI l3), some (vI v0), none]) rfl rfl rfl rfl ?_
    refine wp_aload rfl rfl rfl ?_
    refine wp_getR rfl rfl rfl f0 rfl ?_
    refine wp_iload rfl rfl rfl ?_
    obtain ⟨i1, b9, F⟩ := F
    refine wp_iaload rfl b9 rfl ?_
    refine wp_const rfl rfl ?_
    refine wp_icmp_ne (Y := 1) rfl rfl rfl rfl rfl (fun c => ?_) (fun c => ?_)
    · replace F := F.1 c
      refine wp_aload rfl rfl rfl ?_
      refine wp_getR rfl rfl rfl f0 rfl ?_
      refine wp_iload rfl rfl rfl ?_
      obtain ⟨i2, b9, F⟩ := F
      refine wp_iaload rfl b9 rfl ?_
      refine wp_const rfl rfl ?_
      refine wp_icmp_eq (Y := (-1)) rfl rfl rfl rfl rfl (fun c => ?_) (fun c => ?_)
      · replace F := F.1 c
        refine wp_const' (L' := [some (vR l0), some (vI l1), some (vI l2), some (vI l3), some (vI v0), none]) rfl rfl rfl ?_
        refine wp_goto rfl rfl ?_
        refine wp_istore' (L' := [some (vR l0), some (vI l1), some (vI l2), some (vI l3), some (vI v0), none]) (L2 := [some (vR l0), some (vI l1), some (vI l2), some (vI l3), some (vI v0), some (vI 1)]) rfl rfl rfl rfl rfl ?_
        refine wp_aload rfl rfl rfl ?_
        refine wp_getR rfl rfl rfl f0 rfl ?_
        refine wp_iload rfl rfl rfl ?_
        refine wp_iload rfl rfl rfl ?_
        refine wp_if_eq (X := 1) rfl rfl rfl rfl (fun c => absurd c (by decide)) (fun _ => ?_)
        refine wp_aload rfl rfl rfl ?_
        refine wp_aload rfl rfl rfl ?_
        refine wp_getR rfl rfl rfl f0 rfl ?_
        refine wp_iload rfl rfl rfl ?_
        obtain ⟨i3, b9, F⟩ := F
        refine wp_iaload rfl b9 rfl ?_
        refine wp_aload rfl rfl rfl ?_
        refine wp_getR rfl rfl rfl f0 rfl ?_
        refine wp_iload rfl rfl rfl ?_
        obtain ⟨i4, b9, F⟩ := F
        refine wp_iaload rfl b9 rfl ?_
        obtain ⟨f1, F⟩ := F
        refine wp_callI rfl rfl rfl (rcv_v f1 f0 (by decide) (by decide)) rfl rfl rfl rfl ?_
        refine CI.mono F (fun y0 h0 F => ?_) (fun _ _ w => rx_V w)
        refine wp_goto rfl rfl ?_
        obtain ⟨f2, F⟩ := F
        obtain ⟨i5, b9, F⟩ := F
        refine wp_iastore' (L' := [some (vR l0), some (vI l1), some (vI l2), some (vI l3), none, none]) rfl rfl f2 b9 rfl ?_
        replace F := F _ rfl
        generalize pI h0 (gR h l0 34) i5 y0 = h1 at F ⊢
        refine wp_aload rfl rfl rfl ?_
        obtain ⟨f3, F⟩ := F
        refine wp_getR rfl rfl rfl f3 rfl ?_
        refine wp_const rfl rfl ?_
        refine wp_iload rfl rfl rfl ?_
        refine wp_imul rfl rfl ?_
        refine wp_iload rfl rfl rfl ?_
        refine wp_iadd rfl rfl ?_
        refine wp_aload rfl rfl rfl ?_
        refine wp_getR rfl rfl rfl f3 rfl ?_
        refine wp_iload rfl rfl rfl ?_
        obtain ⟨i6, b9, F⟩ := F
        refine wp_iaload rfl b9 rfl ?_
        obtain ⟨f4, F⟩ := F
        obtain ⟨i7, b9, F⟩ := F
        refine wp_iastore rfl f4 b9 rfl ?_
        have f5 : gK (pI h1 (gR h1 l0 55) i7 (gI h1 (gR h1 l0 34) i6)) l0 = 14 := (gK_pI _ _ _ _ _).trans f3
        replace F := F _ rfl
        generalize pI h1 (gR h1 l0 55) i7 (gI h1 (gR h1 l0 34) i6) = h2 at F f5 ⊢
        refine wp_iinc' (L' := [some (vR l0), some (vI l1), some (vI l2), some (vI l3), none, none]) (y := 1) (L2 := [some (vR l0), some (vI l1), some (vI l2), some (vI (l3 + 1)), none, none]) rfl rfl rfl rfl rfl rfl ?_
        replace F := F _ rfl
        generalize (l3 + 1 : Int32) = v1 at F ⊢
        refine wp_goto rfl rfl ?_
        exact F
      · replace F := F.2 c
        refine wp_aload rfl rfl rfl ?_
        refine wp_aload rfl rfl rfl ?_
        refine wp_getR rfl rfl rfl f0 rfl ?_
        refine wp_iload rfl rfl rfl ?_
        obtain ⟨i8, b9, F⟩ := F
        refine wp_iaload rfl b9 rfl ?_
        refine wp_aload rfl rfl rfl ?_
        refine wp_getR rfl rfl rfl f0 rfl ?_
        refine wp_iload rfl rfl rfl ?_
        obtain ⟨i9, b9, F⟩ := F
        refine wp_iaload rfl b9 rfl ?_
        obtain ⟨f6, F⟩ := F
        refine wp_callI rfl rfl rfl (rcv_v f6 f0 (by decide) (by decide)) rfl rfl rfl rfl ?_
        refine CI.mono F (fun y1 h3 F => ?_) (fun _ _ w => rx_V w)
        refine wp_if_eq rfl rfl rfl rfl (fun c => ?_) (fun c => ?_)
        · replace F := F.1 c
          refine wp_const' (L' := [some (vR l0), some (vI l1), some (vI l2), some (vI l3), some (vI v0), none]) rfl rfl rfl ?_
          refine wp_istore' (L' := [some (vR l0), some (vI l1), some (vI l2), some (vI l3), some (vI v0), none]) (L2 := [some (vR l0), some (vI l1), some (vI l2), some (vI l3), some (vI v0), some (vI 0)]) rfl rfl rfl rfl rfl ?_
          refine wp_aload rfl rfl rfl ?_
          obtain ⟨f7, F⟩ := F
          refine wp_getR rfl rfl rfl f7 rfl ?_
          refine wp_iload rfl rfl rfl ?_
          refine wp_iload rfl rfl rfl ?_
          refine wp_if_eq (X := 0) rfl rfl rfl rfl (fun _ => ?_) (fun c => absurd (by decide) c)
          refine wp_const' (L' := [some (vR l0), some (vI l1), some (vI l2), some (vI l3), none, none]) rfl rfl rfl ?_
          obtain ⟨f8, F⟩ := F
          obtain ⟨i10, b9, F⟩ := F
          refine wp_iastore' (L' := [some (vR l0), some (vI l1), some (vI l2), some (vI l3), none, none]) rfl rfl f8 b9 rfl ?_
          have f9 : gK (pI h3 (gR h3 l0 34) i10 (-2000000)) l0 = 14 := (gK_pI _ _ _ _ _).trans f7
          replace F := F _ rfl
          generalize pI h3 (gR h3 l0 34) i10 (-2000000) = h4 at F f9 ⊢
          refine wp_aload rfl rfl rfl ?_
          refine wp_getR rfl rfl rfl f9 rfl ?_
          refine wp_const rfl rfl ?_
          refine wp_iload rfl rfl rfl ?_
          refine wp_imul rfl rfl ?_
          refine wp_iload rfl rfl rfl ?_
          refine wp_iadd rfl rfl ?_
          refine wp_aload rfl rfl rfl ?_
          refine wp_getR rfl rfl rfl f9 rfl ?_
          refine wp_iload rfl rfl rfl ?_
          obtain ⟨i11, b9, F⟩ := F
          refine wp_iaload rfl b9 rfl ?_
          obtain ⟨f10, F⟩ := F
          obtain ⟨i12, b9, F⟩ := F
          refine wp_iastore rfl f10 b9 rfl ?_
          have f11 : gK (pI h4 (gR h4 l0 55) i12 (gI h4 (gR h4 l0 34) i11)) l0 = 14 := (gK_pI _ _ _ _ _).trans f9
          replace F := F _ rfl
          generalize pI h4 (gR h4 l0 55) i12 (gI h4 (gR h4 l0 34) i11) = h5 at F f11 ⊢
          refine wp_iinc' (L' := [some (vR l0), some (vI l1), some (vI l2), some (vI l3), none, none]) (y := 1) (L2 := [some (vR l0), some (vI l1), some (vI l2), some (vI (l3 + 1)), none, none]) rfl rfl rfl rfl rfl rfl ?_
          replace F := F _ rfl
          generalize (l3 + 1 : Int32) = v2 at F ⊢
          refine wp_goto rfl rfl ?_
          exact F
        · replace F := F.2 c
          refine wp_const' (L' := [some (vR l0), some (vI l1), some (vI l2), some (vI l3), some (vI v0), none]) rfl rfl rfl ?_
          refine wp_goto rfl rfl ?_
          refine wp_istore' (L' := [some (vR l0), some (vI l1), some (vI l2), some (vI l3), some (vI v0), none]) (L2 := [some (vR l0), some (vI l1), some (vI l2), some (vI l3), some (vI v0), some (vI 1)]) rfl rfl rfl rfl rfl ?_
          refine wp_aload rfl rfl rfl ?_
          obtain ⟨f12, F⟩ := F
          refine wp_getR rfl rfl rfl f12 rfl ?_
          refine wp_iload rfl rfl rfl ?_
          refine wp_iload rfl rfl rfl ?_
          refine wp_if_eq (X := 1) rfl rfl rfl rfl (fun c => absurd c (by decide)) (fun _ => ?_)
          refine wp_aload rfl rfl rfl ?_
          refine wp_aload rfl rfl rfl ?_
          refine wp_getR rfl rfl rfl f12 rfl ?_
          refine wp_iload rfl rfl rfl ?_
          obtain ⟨i13, b9, F⟩ := F
          refine wp_iaload rfl b9 rfl ?_
          refine wp_aload rfl rfl rfl ?_
          refine wp_getR rfl rfl rfl f12 rfl ?_
          refine wp_iload rfl rfl rfl ?_
          obtain ⟨i14, b9, F⟩ := F
          refine wp_iaload rfl b9 rfl ?_
          refine wp_callI rfl rfl rfl (rcv_v f6 f12 (by decide) (by decide)) rfl rfl rfl rfl ?_
          refine CI.mono F (fun y2 h6 F => ?_) (fun _ _ w => rx_V w)
          refine wp_goto rfl rfl ?_
          obtain ⟨f13, F⟩ := F
          obtain ⟨i15, b9, F⟩ := F
          refine wp_iastore' (L' := [some (vR l0), some (vI l1), some (vI l2), some (vI l3), none, none]) rfl rfl f13 b9 rfl ?_
          replace F := F _ rfl
          generalize pI h6 (gR h3 l0 34) i15 y2 = h7 at F ⊢
          refine wp_aload rfl rfl rfl ?_
          obtain ⟨f14, F⟩ := F
          refine wp_getR rfl rfl rfl f14 rfl ?_
          refine wp_const rfl rfl ?_
          refine wp_iload rfl rfl rfl ?_
          refine wp_imul rfl rfl ?_
          refine wp_iload rfl rfl rfl ?_
          refine wp_iadd rfl rfl ?_
          refine wp_aload rfl rfl rfl ?_
          refine wp_getR rfl rfl rfl f14 rfl ?_
          refine wp_iload rfl rfl rfl ?_
          obtain ⟨i16, b9, F⟩ := F
          refine wp_iaload rfl b9 rfl ?_
          obtain ⟨f15, F⟩ := F
          obtain ⟨i17, b9, F⟩ := F
          refine wp_iastore rfl f15 b9 rfl ?_
          have f16 : gK (pI h7 (gR h7 l0 55) i17 (gI h7 (gR h7 l0 34) i16)) l0 = 14 := (gK_pI _ _ _ _ _).trans f14
          replace F := F _ rfl
          generalize pI h7 (gR h7 l0 55) i17 (gI h7 (gR h7 l0 34) i16) = h8 at F f16 ⊢
          refine wp_iinc' (L' := [some (vR l0), some (vI l1), some (vI l2), some (vI l3), none, none]) (y := 1) (L2 := [some (vR l0), some (vI l1), some (vI l2), some (vI (l3 + 1)), none, none]) rfl rfl rfl rfl rfl rfl ?_
          replace F := F _ rfl
          generalize (l3 + 1 : Int32) = v3 at F ⊢
          refine wp_goto rfl rfl ?_
          exact F
    · replace F := F.2 c
      refine wp_iinc' (L' := [some (vR l0), some (vI l1), some (vI l2), some (vI l3), none, none]) (y := 1) (L2 := [some (vR l0), some (vI l1), some (vI l2), some (vI (l3 + 1)), none, none]) rfl rfl rfl rfl rfl rfl ?_
      replace F := F _ rfl
      generalize (l3 + 1 : Int32) = v4 at F ⊢
      refine wp_goto rfl rfl ?_
      exact F
  · replace F := F.2 c
    exact wp_retV rfl F
-- CensusOfficeModel impute (II)I
theorem m227 {d : Nat} {a0 : Nat} {a1 : Int32} {a2 : Int32} {h : aH} {K : Int32 → aH → Prop} {X : Nat → aH → Prop} (F : 8 ≤ a0 ∧ gK h a0 = 14 ∧ ∀ h0 : aH, h0 = pI h a0 0 0 → CI d 14 [vL (a1.toInt64), vL 0, vL (((gI h0 a0 53) - 1).toInt64)] h0 (fun y0 h1 => ((y0.toInt = 0 → gK h1 a0 = 14 ∧ CI d 15 [vR a0, vI 1] h1 (fun y1 h2 => K y1 h2) X) ∧ (¬ y0.toInt = 0 → CI d 14 [vL (a2.toInt64), vL 0, vL 1] h1 (fun y2 h3 => ((y2.toInt = 0 → gK h3 a0 = 14 ∧ CI d 15 [vR a0, vI 2] h3 (fun y3 h4 => K y3 h4) X) ∧ (¬ y2.toInt = 0 → gK h3 a0 = 14 ∧ CV d 211 [vR a0, vI a1] h3 (fun h5 => gK h5 a0 = 14 ∧ (((gI h5 a0 63).toInt = (-1) → CI d 15 [vR a0, vI 3] h5 (fun y4 h6 => K y4 h6) X) ∧ (¬ (gI h5 a0 63).toInt = (-1) → CI d 175 [vR a0, vI a1] h5 (fun y5 h7 => gK h7 a0 = 14 ∧ ∀ v0 : Int32, v0 = gI h7 a0 63 → Wp (d + 1) 227 (80, [some (vR a0), some (vI a1), some (vI a2), some (vI y5), some (vI v0), some (vI (-1)), some (vI 0), none], [], h7) (RI K X)) X))) X))) X))) X) : CI (d + 1) 227 [vR a0, vI a1, vI a2] h K X := by
  show Wp (d + 1) 227 (0, [some (vR a0), some (vI a1), some (vI a2), none, none, none, none, none], [], h) (RI K X)
  refine wp_aload rfl rfl rfl ?_
  refine wp_const rfl rfl ?_
  obtain ⟨f0, F⟩ := F
  obtain ⟨f1, F⟩ := F
  refine wp_putI rfl rfl rfl f0 f1 rfl ?_
  have f2 : gK (pI h a0 0 0) a0 = 14 := (gK_pI _ _ _ _ _).trans f1
  replace F := F _ rfl
  generalize pI h a0 0 0 = h0 at F f2 ⊢
  refine wp_iload rfl rfl rfl ?_
  refine wp_i2l rfl rfl ?_
  refine wp_const rfl rfl ?_
  refine wp_aload rfl rfl rfl ?_
  refine wp_getI rfl rfl rfl f2 rfl ?_
  refine wp_const rfl rfl ?_
  refine wp_isub rfl rfl ?_
  refine wp_i2l rfl rfl ?_
  refine wp_callI rfl rfl rfl rfl rfl rfl rfl rfl ?_
  refine CI.mono F (fun y0 h1 F => ?_) (fun _ _ w => rx_I w)
  refine wp_if_ne rfl rfl rfl rfl (fun c => ?_) (fun c => ?_)
  · replace F := F.1 c
    refine wp_aload rfl rfl rfl ?_
    refine wp_const rfl rfl ?_
    obtain ⟨f3, F⟩ := F
    refine wp_callI rfl rfl rfl (rcv_v f0 f3 (by decide) (by decide)) rfl rfl rfl rfl ?_
    refine CI.mono F (fun y1 h2 F => ?_) (fun _ _ w => rx_I w)
    exact wp_retI rfl (Or.inl rfl) F
  · replace F := F.2 c
    refine wp_iload' (L' := [some (vR a0), some (vI a1), some (vI a2), none, none, none, none, none]) rfl rfl rfl rfl ?_
    refine wp_i2l rfl rfl ?_
    refine wp_const rfl rfl ?_
    refine wp_const rfl rfl ?_
    refine wp_callI rfl rfl rfl rfl rfl rfl rfl rfl ?_
    refine CI.mono F (fun y2 h3 F => ?_) (fun _ _ w => rx_I w)
    refine wp_if_ne rfl rfl rfl rfl (fun c => ?_) (fun c => ?_)
    · replace F := F.1 c
      refine wp_aload rfl rfl rfl ?_
      refine wp_const rfl rfl ?_
      obtain ⟨f4, F⟩ := F
      refine wp_callI rfl rfl rfl (rcv_v f0 f4 (by decide) (by decide)) rfl rfl rfl rfl ?_
      refine CI.mono F (fun y3 h4 F => ?_) (fun _ _ w => rx_I w)
      exact wp_retI rfl (Or.inl rfl) F
    · replace F := F.2 c
      refine wp_aload' (L' := [some (vR a0), some (vI a1), some (vI a2), none, none, none, none, none]) rfl rfl rfl rfl ?_
      refine wp_iload rfl rfl rfl ?_
      obtain ⟨f5, F⟩ := F
      refine wp_callV rfl rfl rfl (rcv_v f0 f5 (by decide) (by decide)) rfl rfl rfl rfl ?_
      refine CV.mono F (fun h5 F => ?_) (fun _ _ w => rx_I w)
      refine wp_aload rfl rfl rfl ?_
      obtain ⟨f6, F⟩ := F
      refine wp_getI rfl rfl rfl f6 rfl ?_
      refine wp_const rfl rfl ?_
      refine wp_icmp_ne (Y := (-1)) rfl rfl rfl rfl rfl (fun c => ?_) (fun c => ?_)
      · replace F := F.1 c
        refine wp_aload rfl rfl rfl ?_
        refine wp_const rfl rfl ?_
        refine wp_callI rfl rfl rfl (rcv_v f0 f6 (by decide) (by decide)) rfl rfl rfl rfl ?_
        refine CI.mono F (fun y4 h6 F => ?_) (fun _ _ w => rx_I w)
        exact wp_retI rfl (Or.inl rfl) F
      · replace F := F.2 c
        refine wp_aload' (L' := [some (vR a0), some (vI a1), some (vI a2), none, none, none, none, none]) rfl rfl rfl rfl ?_
        refine wp_iload rfl rfl rfl ?_
        refine wp_callI rfl rfl rfl (rcv_v f0 f6 (by decide) (by decide)) rfl rfl rfl rfl ?_
        refine CI.mono F (fun y5 h7 F => ?_) (fun _ _ w => rx_I w)
        refine wp_istore (L2 := [some (vR a0), some (vI a1), some (vI a2), some (vI y5), none, none, none, none]) rfl rfl rfl rfl ?_
        refine wp_aload rfl rfl rfl ?_
        obtain ⟨f7, F⟩ := F
        refine wp_getI rfl rfl rfl f7 rfl ?_
        replace F := F _ rfl
        generalize (gI h7 a0 63 : Int32) = v0 at F ⊢
        refine wp_istore (L2 := [some (vR a0), some (vI a1), some (vI a2), some (vI y5), some (vI v0), none, none, none]) rfl rfl rfl rfl ?_
        refine wp_const rfl rfl ?_
        refine wp_istore (L2 := [some (vR a0), some (vI a1), some (vI a2), some (vI y5), some (vI v0), some (vI (-1)), none, none]) rfl rfl rfl rfl ?_
        refine wp_const rfl rfl ?_
        refine wp_istore (L2 := [some (vR a0), some (vI a1), some (vI a2), some (vI y5), some (vI v0), some (vI (-1)), some (vI 0), none]) rfl rfl rfl rfl ?_
        exact F
theorem w227_80 {d : Nat} {l0 : Nat} {l1 : Int32} {l2 : Int32} {l3 : Int32} {l4 : Int32} {l5 : Int32} {l6 : Int32} {h : aH} {K : Int32 → aH → Prop} {X : Nat → aH → Prop} (F : gK h l0 = 14 ∧ ((l6.toInt < (gI h l0 53).toInt → ((l2.toInt = 1 → 8 ≤ l0 ∧ CI d 224 [vR l0, vI l1, vI l6, vI l4] h (fun y0 h0 => ((y0.toInt = 0 → ∀ v0 : Int32, v0 = l6 + 1 → Wp (d + 1) 227 (80, [some (vR l0), some (vI l1), some (vI l2), some (vI l3), some (vI l4), some (vI l5), some (vI v0), none], [], h0) (RI K X)) ∧ (¬ y0.toInt = 0 → ((l5.toInt = (-1) → ∀ v1 : Int32, v1 = l6 + 1 → Wp (d + 1) 227 (80, [some (vR l0), some (vI l1), some (vI l2), some (vI l3), some (vI l4), some (vI l6), some (vI v1), none], [], h0) (RI K X)) ∧ (¬ l5.toInt = (-1) → gK h0 l0 = 14 ∧ CL d 225 [vR l0, vI l1, vI l6, vI l4] h0 (fun y1 h1 => gK h1 l0 = 14 ∧ CL d 225 [vR l0, vI l1, vI l5, vI l4] h1 (fun y2 h2 => ((y1.toInt < y2.toInt → ∀ v2 : Int32, v2 = l6 + 1 → Wp (d + 1) 227 (80, [some (vR l0), some (vI l1), some (vI l2), some (vI l3), some (vI l4), some (vI l6), some (vI v2), none], [], h2) (RI K X)) ∧ (¬ y1.toInt < y2.toInt → ∀ v3 : Int32, v3 = l6 + 1 → Wp (d + 1) 227 (80, [some (vR l0), some (vI l1), some (vI l2), some (vI l3), some (vI l4), some (vI l5), some (vI v3), none], [], h2) (RI K X)))) X) X))))) X) ∧ (¬ l2.toInt = 1 → ((l5.toInt = (-1) → 8 ≤ l0 ∧ CI d 210 [vR l0, vI l1, vI l4] h (fun y3 h3 => Wp (d + 1) 227 (164, [some (vR l0), some (vI l1), none, some (vI l3), some (vI l4), some (vI l5), some (vI 0), some (vI 0)], [], h3) (RI K X)) X) ∧ (¬ l5.toInt = (-1) → Wp (d + 1) 227 (164, [some (vR l0), some (vI l1), none, some (vI l3), some (vI l4), some (vI l5), some (vI 0), some (vI 0)], [], h) (RI K X)))))) ∧ (¬ l6.toInt < (gI h l0 53).toInt → ((l5.toInt = (-1) → 8 ≤ l0 ∧ CI d 210 [vR l0, vI l1, vI l4] h (fun y4 h4 => Wp (d + 1) 227 (164, [some (vR l0), some (vI l1), none, some (vI l3), some (vI l4), some (vI l5), some (vI 0), some (vI 0)], [], h4) (RI K X)) X) ∧ (¬ l5.toInt = (-1) → Wp (d + 1) 227 (164, [some (vR l0), some (vI l1), none, some (vI l3), some (vI l4), some (vI l5), some (vI 0), some (vI 0)], [], h) (RI K X)))))) : Wp (d + 1) 227 (80, [some (vR l0), some (vI l1), some (vI l2), some (vI l3), some (vI l4), some (vI l5), some (vI l6), none], [], h) (RI K X) := by
  refine wp_iload' (L' := [some (vR l0), some (vI l1), some (vI l2), some (vI l3), some (vI l4), some (vI l5), some (vI l6), none]) rfl rfl rfl rfl ?_
  refine wp_aload rfl rfl rfl ?_
  obtain ⟨f0, F⟩ := F
  refine wp_getI rfl rfl rfl f0 rfl ?_
  refine wp_icmp_ge rfl rfl rfl rfl rfl (fun c => ?_) (fun c => ?_)
  · replace F := F.1 c
    refine wp_iload rfl rfl rfl ?_
    refine wp_const rfl rfl ?_
    refine wp_icmp_ne (Y := 1) rfl rfl rfl rfl rfl (fun c => ?_) (fun c => ?_)
    · replace F := F.1 c
      refine wp_aload rfl rfl rfl ?_
      refine wp_iload rfl rfl rfl ?_
      refine wp_iload rfl rfl rfl ?_
      refine wp_iload rfl rfl rfl ?_
      obtain ⟨f1, F⟩ := F
      refine wp_callI rfl rfl rfl (rcv_v f1 f0 (by decide) (by decide)) rfl rfl rfl rfl ?_
      refine CI.mono F (fun y0 h0 F => ?_) (fun _ _ w => rx_I w)
      refine wp_if_eq rfl rfl rfl rfl (fun c => ?_) (fun c => ?_)
      · replace F := F.1 c
        refine wp_iinc' (L' := [some (vR l0), some (vI l1), some (vI l2), some (vI l3), some (vI l4), some (vI l5), some (vI l6), none]) (y := 1) (L2 := [some (vR l0), some (vI l1), some (vI l2), some (vI l3), some (vI l4), some (vI l5), some (vI (l6 + 1)), none]) rfl rfl rfl rfl rfl rfl ?_
        replace F := F _ rfl
        generalize (l6 + 1 : Int32) = v0 at F ⊢
        refine wp_goto rfl rfl ?_
        exact F
      · replace F := F.2 c
        refine wp_iload rfl rfl rfl ?_
        refine wp_const rfl rfl ?_
        refine wp_icmp_eq (Y := (-1)) rfl rfl rfl rfl rfl (fun c => ?_) (fun c => ?_)
        · replace F := F.1 c
          refine wp_iload' (L' := [some (vR l0), some (vI l1), some (vI l2), some (vI l3), some (vI l4), none, some (vI l6), none]) rfl rfl rfl rfl ?_
          refine wp_istore (L2 := [some (vR l0), some (vI l1), some (vI l2), some (vI l3), some (vI l4), some (vI l6), some (vI l6), none]) rfl rfl rfl rfl ?_
          refine wp_iinc' (L' := [some (vR l0), some (vI l1), some (vI l2), some (vI l3), some (vI l4), some (vI l6), some (vI l6), none]) (y := 1) (L2 := [some (vR l0), some (vI l1), some (vI l2), some (vI l3), some (vI l4), some (vI l6), some (vI (l6 + 1)), none]) rfl rfl rfl rfl rfl rfl ?_
          replace F := F _ rfl
          generalize (l6 + 1 : Int32) = v1 at F ⊢
          refine wp_goto rfl rfl ?_
          exact F
        · replace F := F.2 c
          refine wp_aload rfl rfl rfl ?_
          refine wp_iload rfl rfl rfl ?_
          refine wp_iload rfl rfl rfl ?_
          refine wp_iload rfl rfl rfl ?_
          obtain ⟨f2, F⟩ := F
          refine wp_callL rfl rfl rfl (rcv_v f1 f2 (by decide) (by decide)) rfl rfl rfl rfl ?_
          refine CL.mono F (fun y1 h1 F => ?_) (fun _ _ w => rx_I w)
          refine wp_aload rfl rfl rfl ?_
          refine wp_iload rfl rfl rfl ?_
          refine wp_iload rfl rfl rfl ?_
          refine wp_iload rfl rfl rfl ?_
          obtain ⟨f3, F⟩ := F
          refine wp_callL rfl rfl rfl (rcv_v f1 f3 (by decide) (by decide)) rfl rfl rfl rfl ?_
          refine CL.mono F (fun y2 h2 F => ?_) (fun _ _ w => rx_I w)
          refine wp_lcmp_ge rfl rfl rfl rfl rfl rfl rfl (fun c => ?_) (fun c => ?_)
          · replace F := F.1 c
            refine wp_iload' (L' := [some (vR l0), some (vI l1), some (vI l2), some (vI l3), some (vI l4), none, some (vI l6), none]) rfl rfl rfl rfl ?_
            refine wp_istore (L2 := [some (vR l0), some (vI l1), some (vI l2), some (vI l3), some (vI l4), some (vI l6), some (vI l6), none]) rfl rfl rfl rfl ?_
            refine wp_iinc' (L' := [some (vR l0), some (vI l1), some (vI l2), some (vI l3), some (vI l4), some (vI l6), some (vI l6), none]) (y := 1) (L2 := [some (vR l0), some (vI l1), some (vI l2), some (vI l3), some (vI l4), some (vI l6), some (vI (l6 + 1)), none]) rfl rfl rfl rfl rfl rfl ?_
            replace F := F _ rfl
            generalize (l6 + 1 : Int32) = v2 at F ⊢
            refine wp_goto rfl rfl ?_
            exact F
          · replace F := F.2 c
            refine wp_iinc' (L' := [some (vR l0), some (vI l1), some (vI l2), some (vI l3), some (vI l4), some (vI l5), some (vI l6), none]) (y := 1) (L2 := [some (vR l0), some (vI l1), some (vI l2), some (vI l3), some (vI l4), some (vI l5), some (vI (l6 + 1)), none]) rfl rfl rfl rfl rfl rfl ?_
            replace F := F _ rfl
            generalize (l6 + 1 : Int32) = v3 at F ⊢
            refine wp_goto rfl rfl ?_
            exact F
    · replace F := F.2 c
      refine wp_iload' (L' := [some (vR l0), some (vI l1), none, some (vI l3), some (vI l4), some (vI l5), none, none]) rfl rfl rfl rfl ?_
      refine wp_const rfl rfl ?_
      refine wp_icmp_ne (Y := (-1)) rfl rfl rfl rfl rfl (fun c => ?_) (fun c => ?_)
      · replace F := F.1 c
        refine wp_aload rfl rfl rfl ?_
        refine wp_iload rfl rfl rfl ?_
        refine wp_iload rfl rfl rfl ?_
        obtain ⟨f4, F⟩ := F
        refine wp_callI rfl rfl rfl (rcv_v f4 f0 (by decide) (by decide)) rfl rfl rfl rfl ?_
        refine CI.mono F (fun y3 h3 F => ?_) (fun _ _ w => rx_I w)
        refine wp_pop rfl rfl rfl ?_
        refine wp_const' (L' := [some (vR l0), some (vI l1), none, some (vI l3), some (vI l4), some (vI l5), none, none]) rfl rfl rfl ?_
        refine wp_istore (L2 := [some (vR l0), some (vI l1), none, some (vI l3), some (vI l4), some (vI l5), some (vI 0), none]) rfl rfl rfl rfl ?_
        refine wp_const rfl rfl ?_
        refine wp_istore (L2 := [some (vR l0), some (vI l1), none, some (vI l3), some (vI l4), some (vI l5), some (vI 0), some (vI 0)]) rfl rfl rfl rfl ?_
        exact F
      · replace F := F.2 c
        refine wp_const' (L' := [some (vR l0), some (vI l1), none, some (vI l3), some (vI l4), some (vI l5), none, none]) rfl rfl rfl ?_
        refine wp_istore (L2 := [some (vR l0), some (vI l1), none, some (vI l3), some (vI l4), some (vI l5), some (vI 0), none]) rfl rfl rfl rfl ?_
        refine wp_const rfl rfl ?_
        refine wp_istore (L2 := [some (vR l0), some (vI l1), none, some (vI l3), some (vI l4), some (vI l5), some (vI 0), some (vI 0)]) rfl rfl rfl rfl ?_
        exact F
  · replace F := F.2 c
    refine wp_iload' (L' := [some (vR l0), some (vI l1), none, some (vI l3), some (vI l4), some (vI l5), none, none]) rfl rfl rfl rfl ?_
    refine wp_const rfl rfl ?_
    refine wp_icmp_ne (Y := (-1)) rfl rfl rfl rfl rfl (fun c => ?_) (fun c => ?_)
    · replace F := F.1 c
      refine wp_aload rfl rfl rfl ?_
      refine wp_iload rfl rfl rfl ?_
      refine wp_iload rfl rfl rfl ?_
      obtain ⟨f5, F⟩ := F
      refine wp_callI rfl rfl rfl (rcv_v f5 f0 (by decide) (by decide)) rfl rfl rfl rfl ?_
      refine CI.mono F (fun y4 h4 F => ?_) (fun _ _ w => rx_I w)
      refine wp_pop rfl rfl rfl ?_
      refine wp_const' (L' := [some (vR l0), some (vI l1), none, some (vI l3), some (vI l4), some (vI l5), none, none]) rfl rfl rfl ?_
      refine wp_istore (L2 := [some (vR l0), some (vI l1), none, some (vI l3), some (vI l4), some (vI l5), some (vI 0), none]) rfl rfl rfl rfl ?_
      refine wp_const rfl rfl ?_
      refine wp_istore (L2 := [some (vR l0), some (vI l1), none, some (vI l3), some (vI l4), some (vI l5), some (vI 0), some (vI 0)]) rfl rfl rfl rfl ?_
      exact F
    · replace F := F.2 c
      refine wp_const' (L' := [some (vR l0), some (vI l1), none, some (vI l3), some (vI l4), some (vI l5), none, none]) rfl rfl rfl ?_
      refine wp_istore (L2 := [some (vR l0), some (vI l1), none, some (vI l3), some (vI l4), some (vI l5), some (vI 0), none]) rfl rfl rfl rfl ?_
      refine wp_const rfl rfl ?_
      refine wp_istore (L2 := [some (vR l0), some (vI l1), none, some (vI l3), some (vI l4), some (vI l5), some (vI 0), some (vI 0)]) rfl rfl rfl rfl ?_
      exact F
theorem w227_164 {d : Nat} {l0 : Nat} {l1 : Int32} {l3 : Int32} {l4 : Int32} {l5 : Int32} {l6 : Int32} {l7 : Int32} {h : aH} {K : Int32 → aH → Prop} {X : Nat → aH → Prop} (F : gK h l0 = 14 ∧ ∃ i0 : Nat, inB h 100 (gR h l0 15) l3 i0 ∧ ((l7.toInt < (gI h (gR h l0 15) i0).toInt → ((((l4 >>> (l7 &&& 31)) &&& 1).toInt = 1 → ((l5.toInt = (-1) → ∃ i1 : Nat, inB h 100 (gR h l0 61) l7 i1 ∧ 8 ≤ (gR h l0 55) ∧ ∃ i2 : Nat, inB h 100 (gR h l0 55) ((20 * l1) + l7) i2 ∧ ∀ h0 : aH, h0 = pI h (gR h l0 55) i2 (gI h (gR h l0 61) i1) → ((l5.toInt = (-1) → 8 ≤ (gR h0 l0 56) ∧ ∃ i3 : Nat, inB h0 100 (gR h0 l0 56) ((20 * l1) + l7) i3 ∧ ∀ h1 : aH, h1 = pI h0 (gR h0 l0 56) i3 1 → ∀ v0 : Int32, v0 = l6 + 1 → ∀ v1 : Int32, v1 = l7 + 1 → Wp (d + 1) 227 (164, [some (vR l0), some (vI l1), none, some (vI l3), some (vI l4), some (vI l5), some (vI v0), some (vI v1)], [], h1) (RI K X)) ∧ (¬ l5.toInt = (-1) → 8 ≤ (gR h0 l0 56) ∧ ∃ i4 : Nat, inB h0 100 (gR h0 l0 56) ((20 * l1) + l7) i4 ∧ ∀ h2 : aH, h2 = pI h0 (gR h0 l0 56) i4 2 → ∀ v2 : Int32, v2 = l6 + 1 → ∀ v3 : Int32, v3 = l7 + 1 → Wp (d + 1) 227 (164, [some (vR l0), some (vI l1), none, some (vI l3), some (vI l4), some (vI l5), some (vI v2), some (vI v3)], [], h2) (RI K X)))) ∧ (¬ l5.toInt = (-1) → ∃ i5 : Nat, inB h 100 (gR h l0 55) ((20 * l5) + l7) i5 ∧ 8 ≤ (gR h l0 55) ∧ ∃ i6 : Nat, inB h 100 (gR h l0 55) ((20 * l1) + l7) i6 ∧ ∀ h3 : aH, h3 = pI h (gR h l0 55) i6 (gI h (gR h l0 55) i5) → ((l5.toInt = (-1) → 8 ≤ (gR h3 l0 56) ∧ ∃ i7 : Nat, inB h3 100 (gR h3 l0 56) ((20 * l1) + l7) i7 ∧ ∀ h4 : aH, h4 = pI h3 (gR h3 l0 56) i7 1 → ∀ v4 : Int32, v4 = l6 + 1 → ∀ v5 : Int32, v5 = l7 + 1 → Wp (d + 1) 227 (164, [some (vR l0), some (vI l1), none, some (vI l3), some (vI l4), some (vI l5), some (vI v4), some (vI v5)], [], h4) (RI K X)) ∧ (¬ l5.toInt = (-1) → 8 ≤ (gR h3 l0 56) ∧ ∃ i8 : Nat, inB h3 100 (gR h3 l0 56) ((20 * l1) + l7) i8 ∧ ∀ h5 : aH, h5 = pI h3 (gR h3 l0 56) i8 2 → ∀ v6 : Int32, v6 = l6 + 1 → ∀ v7 : Int32, v7 = l7 + 1 → Wp (d + 1) 227 (164, [some (vR l0), some (vI l1), none, some (vI l3), some (vI l4), some (vI l5), some (vI v6), some (vI v7)], [], h5) (RI K X)))))) ∧ (¬ ((l4 >>> (l7 &&& 31)) &&& 1).toInt = 1 → ∀ v8 : Int32, v8 = l7 + 1 → Wp (d + 1) 227 (164, [some (vR l0), some (vI l1), none, some (vI l3), some (vI l4), some (vI l5), some (vI l6), some (vI v8)], [], h) (RI K X)))) ∧ (¬ l7.toInt < (gI h (gR h l0 15) i0).toInt → 8 ≤ l0 ∧ CV d 226 [vR l0, vI l1] h (fun h6 => K l6 h6) X))) : Wp (d + 1) 227 (164, [some (vR l0), some (vI l1), none, some (vI l3), some (vI l4), some (vI l5), some (vI l6), some (vI l7)], [], h) (RI K X) := by
  refine wp_iload' (L' := [some (vR l0), some (vI l1), none, some (vI l3), some (vI l4), some (vI l5), some (vI l6), some (vI l7)]) rfl rfl rfl rfl ?_
  refine wp_aload rfl rfl rfl ?_
  obtain ⟨f0, F⟩ := F
  refine wp_getR rfl rfl rfl f0 rfl ?_
  refine wp_iload rfl rfl rfl ?_
  obtain ⟨i0, b9, F⟩ := F
  refine wp_iaload rfl b9 rfl ?_
  refine wp_icmp_ge rfl rfl rfl rfl rfl (fun c => ?_) (fun c => ?_)
  · replace F := F.1 c
    refine wp_iload rfl rfl rfl ?_
    refine wp_iload rfl rfl rfl ?_
    refine wp_ishr rfl rfl ?_
    refine wp_const rfl rfl ?_
    refine wp_iand rfl rfl ?_
    refine wp_const rfl rfl ?_
    refine wp_icmp_ne (Y := 1) rfl rfl rfl rfl rfl (fun c => ?_) (fun c => ?_)
    · replace F := F.1 c
      refine wp_aload rfl rfl rfl ?_
      refine wp_getR rfl rfl rfl f0 rfl ?_
      refine wp_const rfl rfl ?_
      refine wp_iload rfl rfl rfl ?_
      refine wp_imul rfl rfl ?_
      refine wp_iload rfl rfl rfl ?_
      refine wp_iadd rfl rfl ?_
      refine wp_iload rfl rfl rfl ?_
      refine wp_const rfl rfl ?_
      refine wp_icmp_ne (Y := (-1)) rfl rfl rfl rfl rfl (fun c => ?_) (fun c => ?_)
      · replace F := F.1 c
        refine wp_aload rfl rfl rfl ?_
        refine wp_getR rfl rfl rfl f0 rfl ?_
        refine wp_iload rfl rfl rfl ?_
        obtain ⟨i1, b9, F⟩ := F
        refine wp_iaload rfl b9 rfl ?_
        refine wp_goto rfl rfl ?_
        obtain ⟨f1, F⟩ := F
        obtain ⟨i2, b9, F⟩ := F
        refine wp_iastore' (L' := [some (vR l0), some (vI l1), none, some (vI l3), some (vI l4), some (vI l5), some (vI l6), some (vI l7)]) rfl rfl f1 b9 rfl ?_
        have f2 : gK (pI h (gR h l0 55) i2 (gI h (gR h l0 61) i1)) l0 = 14 := (gK_pI _ _ _ _ _).trans f0
        replace F := F _ rfl
        generalize pI h (gR h l0 55) i2 (gI h (gR h l0 61) i1) = h0 at F f2 ⊢
        refine wp_aload rfl rfl rfl ?_
        refine wp_getR rfl rfl rfl f2 rfl ?_
        refine wp_const rfl rfl ?_
        refine wp_iload rfl rfl rfl ?_
        refine wp_imul rfl rfl ?_
        refine wp_iload rfl rfl rfl ?_
        refine wp_iadd rfl rfl ?_
        refine wp_iload rfl rfl rfl ?_
        refine wp_const rfl rfl ?_
        refine wp_icmp_ne (Y := (-1)) rfl rfl rfl rfl rfl (fun c => ?_) (fun c => ?_)
        · replace F := F.1 c
          refine wp_const rfl rfl ?_
          refine wp_goto rfl rfl ?_
          obtain ⟨f3, F⟩ := F
          obtain ⟨i3, b9, F⟩ := F
          refine wp_iastore' (L' := [some (vR l0), some (vI l1), none, some (vI l3), some (vI l4), some (vI l5), some (vI l6), some (vI l7)]) rfl rfl f3 b9 rfl ?_
          have f4 : gK (pI h0 (gR h0 l0 56) i3 1) l0 = 14 := (gK_pI _ _ _ _ _).trans f2
          replace F := F _ rfl
          generalize pI h0 (gR h0 l0 56) i3 1 = h1 at F f4 ⊢
          refine wp_iinc (y := 1) (L2 := [some (vR l0), some (vI l1), none, some (vI l3), some (vI l4), some (vI l5), some (vI (l6 + 1)), some (vI l7)]) rfl rfl rfl rfl rfl ?_
          replace F := F _ rfl
          generalize (l6 + 1 : Int32) = v0 at F ⊢
          refine wp_iinc' (L' := [some (vR l0), some (vI l1), none, some (vI l3), some (vI l4), some (vI l5), some (vI v0), some (vI l7)]) (y := 1) (L2 := [some (vR l0), some (vI l1), none, some (vI l3), some (vI l4), some (vI l5), some (vI v0), some (vI (l7 + 1))]) rfl rfl rfl rfl rfl rfl ?_
          replace F := F _ rfl
          generalize (l7 + 1 : Int32) = v1 at F ⊢
          refine wp_goto rfl rfl ?_
          exact F
        · replace F := F.2 c
          refine wp_const' (L' := [some (vR l0), some (vI l1), none, some (vI l3), some (vI l4), some (vI l5), some (vI l6), some (vI l7)]) rfl rfl rfl ?_
          obtain ⟨f5, F⟩ := F
          obtain ⟨i4, b9, F⟩ := F
          refine wp_iastore' (L' := [some (vR l0), some (vI l1), none, some (vI l3), some (vI l4), some (vI l5), some (vI l6), some (vI l7)]) rfl rfl f5 b9 rfl ?_
          have f6 : gK (pI h0 (gR h0 l0 56) i4 2) l0 = 14 := (gK_pI _ _ _ _ _).trans f2
          replace F := F _ rfl
          generalize pI h0 (gR h0 l0 56) i4 2 = h2 at F f6 ⊢
          refine wp_iinc (y := 1) (L2 := [some (vR l0), some (vI l1), none, some (vI l3), some (vI l4), some (vI l5), some (vI (l6 + 1)), some (vI l7)]) rfl rfl rfl rfl rfl ?_
          replace F := F _ rfl
          generalize (l6 + 1 : Int32) = v2 at F ⊢
          refine wp_iinc' (L' := [some (vR l0), some (vI l1), none, some (vI l3), some (vI l4), some (vI l5), some (vI v2), some (vI l7)]) (y := 1) (L2 := [some (vR l0), some (vI l1), none, some (vI l3), some (vI l4), some (vI l5), some (vI v2), some (vI (l7 + 1))]) rfl rfl rfl rfl rfl rfl ?_
          replace F := F _ rfl
          generalize (l7 + 1 : Int32) = v3 at F ⊢
          refine wp_goto rfl rfl ?_
          exact F
      · replace F := F.2 c
        refine wp_aload' (L' := [some (vR l0), some (vI l1), none, some (vI l3), some (vI l4), some (vI l5), some (vI l6), some (vI l7)]) rfl rfl rfl rfl ?_
        refine wp_getR rfl rfl rfl f0 rfl ?_
        refine wp_const rfl rfl ?_
        refine wp_iload rfl rfl rfl ?_
        refine wp_imul rfl rfl ?_
        refine wp_iload rfl rfl rfl ?_
        refine wp_iadd rfl rfl ?_
        obtain ⟨i5, b9, F⟩ := F
        refine wp_iaload rfl b9 rfl ?_
        obtain ⟨f7, F⟩ := F
        obtain ⟨i6, b9, F⟩ := F
        refine wp_iastore' (L' := [some (vR l0), some (vI l1), none, some (vI l3), some (vI l4), some (vI l5), some (vI l6), some (vI l7)]) rfl rfl f7 b9 rfl ?_
        have f8 : gK (pI h (gR h l0 55) i6 (gI h (gR h l0 55) i5)) l0 = 14 := (gK_pI _ _ _ _ _).trans f0
        replace F := F _ rfl
        generalize pI h (gR h l0 55) i6 (gI h (gR h l0 55) i5) = h3 at F f8 ⊢
        refine wp_aload rfl rfl rfl ?_
        refine wp_getR rfl rfl rfl f8 rfl ?_
        refine wp_const rfl rfl ?_
        refine wp_iload rfl rfl rfl ?_
        refine wp_imul rfl rfl ?_
        refine wp_iload rfl rfl rfl ?_
        refine wp_iadd rfl rfl ?_
        refine wp_iload rfl rfl rfl ?_
        refine wp_const rfl rfl ?_
        refine wp_icmp_ne (Y := (-1)) rfl rfl rfl rfl rfl (fun c => ?_) (fun c => ?_)
        · replace F := F.1 c
          refine wp_const rfl rfl ?_
          refine wp_goto rfl rfl ?_
          obtain ⟨f9, F⟩ := F
          obtain ⟨i7, b9, F⟩ := F
          refine wp_iastore' (L' := [some (vR l0), some (vI l1), none, some (vI l3), some (vI l4), some (vI l5), some (vI l6), some (vI l7)]) rfl rfl f9 b9 rfl ?_
          have f10 : gK (pI h3 (gR h3 l0 56) i7 1) l0 = 14 := (gK_pI _ _ _ _ _).trans f8
          replace F := F _ rfl
          generalize pI h3 (gR h3 l0 56) i7 1 = h4 at F f10 ⊢
          refine wp_iinc (y := 1) (L2 := [some (vR l0), some (vI l1), none, some (vI l3), some (vI l4), some (vI l5), some (vI (l6 + 1)), some (vI l7)]) rfl rfl rfl rfl rfl ?_
          replace F := F _ rfl
          generalize (l6 + 1 : Int32) = v4 at F ⊢
          refine wp_iinc' (L' := [some (vR l0), some (vI l1), none, some (vI l3), some (vI l4), some (vI l5), some (vI v4), some (vI l7)]) (y := 1) (L2 := [some (vR l0), some (vI l1), none, some (vI l3), some (vI l4), some (vI l5), some (vI v4), some (vI (l7 + 1))]) rfl rfl rfl rfl rfl rfl ?_
          replace F := F _ rfl
          generalize (l7 + 1 : Int32) = v5 at F ⊢
          refine wp_goto rfl rfl ?_
          exact F
        · replace F := F.2 c
          refine wp_const' (L' := [some (vR l0), some (vI l1), none, some (vI l3), some (vI l4), some (vI l5), some (vI l6), some (vI l7)]) rfl rfl rfl ?_
          obtain ⟨f11, F⟩ := F
          obtain ⟨i8, b9, F⟩ := F
          refine wp_iastore' (L' := [some (vR l0), some (vI l1), none, some (vI l3), some (vI l4), some (vI l5), some (vI l6), some (vI l7)]) rfl rfl f11 b9 rfl ?_
          have f12 : gK (pI h3 (gR h3 l0 56) i8 2) l0 = 14 := (gK_pI _ _ _ _ _).trans f8
          replace F := F _ rfl
          generalize pI h3 (gR h3 l0 56) i8 2 = h5 at F f12 ⊢
          refine wp_iinc (y := 1) (L2 := [some (vR l0), some (vI l1), none, some (vI l3), some (vI l4), some (vI l5), some (vI (l6 + 1)), some (vI l7)]) rfl rfl rfl rfl rfl ?_
          replace F := F _ rfl
          generalize (l6 + 1 : Int32) = v6 at F ⊢
          refine wp_iinc' (L' := [some (vR l0), some (vI l1), none, some (vI l3), some (vI l4), some (vI l5), some (vI v6), some (vI l7)]) (y := 1) (L2 := [some (vR l0), some (vI l1), none, some (vI l3), some (vI l4), some (vI l5), some (vI v6), some (vI (l7 + 1))]) rfl rfl rfl rfl rfl rfl ?_
          replace F := F _ rfl
          generalize (l7 + 1 : Int32) = v7 at F ⊢
          refine wp_goto rfl rfl ?_
          exact F
    · replace F := F.2 c
      refine wp_iinc' (L' := [some (vR l0), some (vI l1), none, some (vI l3), some (vI l4), some (vI l5), some (vI l6), some (vI l7)]) (y := 1) (L2 := [some (vR l0), some (vI l1), none, some (vI l3), some (vI l4), some (vI l5), some (vI l6), some (vI (l7 + 1))]) rfl rfl rfl rfl rfl rfl ?_
      replace F := F _ rfl
      generalize (l7 + 1 : Int32) = v8 at F ⊢
      refine wp_goto rfl rfl ?_
      exact F
  · replace F := F.2 c
    refine wp_aload' (L' := [some (vR l0), some (vI l1), none, none, none, none, some (vI l6), none]) rfl rfl rfl rfl ?_
    refine wp_iload rfl rfl rfl ?_
    obtain ⟨f13, F⟩ := F
    refine wp_callV rfl rfl rfl (rcv_v f13 f0 (by decide) (by decide)) rfl rfl rfl rfl ?_
    refine CV.mono F (fun h6 F => ?_) (fun _ _ w => rx_I w)
    refine wp_iload rfl rfl rfl ?_
    exact wp_retI rfl (Or.inl rfl) F
