/-! THE FORMULAS OF THE METHODS 228 TO 240 (written by wip/tools/gen13.py): what a run from a cut point needs -/
-- CensusOffice$Register frame (IIIII)I
theorem m228 {d : Nat} {a0 : Nat} {a1 : Int32} {a2 : Int32} {a3 : Int32} {a4 : Int32} {a5 : Int32} {h : aH} {K : Int32 → aH → Prop} {X : Nat → aH → Prop} (F : gK h a0 = 6 ∧ CV d 48 [vR (gR h a0 4), vI (-2000000)] h (fun h0 => 8 ≤ a0 ∧ gK h0 a0 = 6 ∧ CV d 49 [vR a0, vI a1, vI a5, vI a5] h0 (fun h1 => Wp (d + 1) 228 (21, [some (vR a0), none, some (vI a2), some (vI a3), some (vI a4), some (vI a5), some (vI 0), none], [], h1) (RI K X)) X) X) : CI (d + 1) 228 [vR a0, vI a1, vI a2, vI a3, vI a4, vI a5] h K X := by
  show Wp (d + 1) 228 (0, [some (vR a0), some (vI a1), some (vI a2), some (vI a3), some (vI a4), some (vI a5), none, none], [], h) (RI K X)
  refine wp_aload rfl rfl rfl ?_
  obtain ⟨f0, F⟩ := F
  refine wp_getR rfl rfl rfl f0 rfl ?_
  refine wp_const rfl rfl ?_
  refine wp_callV rfl rfl rfl rfl rfl rfl rfl rfl ?_
  refine CV.mono F (fun h0 F => ?_) (fun _ _ w => rx_I w)
  refine wp_aload rfl rfl rfl ?_
  refine wp_iload rfl rfl rfl ?_
  refine wp_iload rfl rfl rfl ?_
  refine wp_iload rfl rfl rfl ?_
  obtain ⟨f1, F⟩ := F
  obtain ⟨f2, F⟩ := F
  refine wp_callV rfl rfl rfl (rcv_v f1 f2 (by decide) (by decide)) rfl rfl rfl rfl ?_
  refine CV.mono F (fun h1 F => ?_) (fun _ _ w => rx_I w)
  refine wp_const rfl rfl ?_
  refine wp_istore (L2 := [some (vR a0), some (vI a1), some (vI a2), some (vI a3), some (vI a4), some (vI a5), some (vI 0), none]) rfl rfl rfl rfl ?_
  refine wp_kill (L' := [some (vR a0), none, some (vI a2), some (vI a3), some (vI a4), some (vI a5), some (vI 0), none]) rfl rfl ?_
  exact F
theorem w228_21 {d : Nat} {l0 : Nat} {l2 : Int32} {l3 : Int32} {l4 : Int32} {l5 : Int32} {l6 : Int32} {h : aH} {K : Int32 → aH → Prop} {X : Nat → aH → Prop} (F : gK h l0 = 6 ∧ 8 ≤ (gR h l0 0) ∧ gK h (gR h l0 0) = 8 ∧ CI d 28 [vR (gR h l0 0)] h (fun y0 h0 => ((l6.toInt < y0.toInt → ((l6.toInt < 100 → 8 ≤ l0 ∧ gK h0 l0 = 6 ∧ CI d 33 [vR l0, vI l6] h0 (fun y1 h1 => ((y1.toInt = 0 → gK h1 l0 = 6 ∧ ∃ i0 : Nat, inB h1 100 (gR h1 l0 3) l6 i0 ∧ (((gI h1 (gR h1 l0 3) i0).toInt = (-2000000) → ∀ v0 : Int32, v0 = l6 + 1 → Wp (d + 1) 228 (21, [some (vR l0), none, some (vI l2), some (vI l3), some (vI l4), some (vI l5), some (vI v0), none], [], h1) (RI K X)) ∧ (¬ (gI h1 (gR h1 l0 3) i0).toInt = (-2000000) → ∃ i1 : Nat, inB h1 100 (gR h1 l0 3) l6 i1 ∧ (((gI h1 (gR h1 l0 3) i1).toInt < l2.toInt → ∀ v1 : Int32, v1 = l6 + 1 → Wp (d + 1) 228 (21, [some (vR l0), none, some (vI l2), some (vI l3), some (vI l4), some (vI l5), some (vI v1), none], [], h1) (RI K X)) ∧ (¬ (gI h1 (gR h1 l0 3) i1).toInt < l2.toInt → ∃ i2 : Nat, inB h1 100 (gR h1 l0 3) l6 i2 ∧ ((l3.toInt < (gI h1 (gR h1 l0 3) i2).toInt → ∀ v2 : Int32, v2 = l6 + 1 → Wp (d + 1) 228 (21, [some (vR l0), none, some (vI l2), some (vI l3), some (vI l4), some (vI l5), some (vI v2), none], [], h1) (RI K X)) ∧ (¬ l3.toInt < (gI h1 (gR h1 l0 3) i2).toInt → 8 ≤ (gR h1 l0 4) ∧ ∃ i3 : Nat, inB h1 100 (gR h1 l0 4) l6 i3 ∧ ∀ h2 : aH, h2 = pI h1 (gR h1 l0 4) i3 0 → ∀ v3 : Int32, v3 = l6 + 1 → Wp (d + 1) 228 (21, [some (vR l0), none, some (vI l2), some (vI l3), some (vI l4), some (vI l5), some (vI v3), none], [], h2) (RI K X)))))))) ∧ (¬ y1.toInt = 0 → ∀ v4 : Int32, v4 = l6 + 1 → Wp (d + 1) 228 (21, [some (vR l0), none, some (vI l2), some (vI l3), some (vI l4), some (vI l5), some (vI v4), none], [], h1) (RI K X)))) X) ∧ (¬ l6.toInt < 100 → 8 ≤ l0 ∧ gK h0 l0 = 6 ∧ CV d 49 [vR l0, vI l4, vI l5, vI l5] h0 (fun h3 => Wp (d + 1) 228 (113, [some (vR l0), none, none, none, none, none, some (vI 0), some (vI 0)], [], h3) (RI K X)) X))) ∧ (¬ l6.toInt < y0.toInt → 8 ≤ l0 ∧ gK h0 l0 = 6 ∧ CV d 49 [vR l0, vI l4, vI l5, vI l5] h0 (fun h4 => Wp (d + 1) 228 (113, [some (vR l0), none, none, none, none, none, some (vI 0), some (vI 0)], [], h4) (RI K X)) X))) X) : Wp (d + 1) 228 (21, [some (vR l0), none, some (vI l2), some (vI l3), some (vI l4), some (vI l5), some (vI l6), none], [], h) (RI K X) := by
  refine wp_iload' (L' := [some (vR l0), none, some (vI l2), some (vI l3), some (vI l4), some (vI l5), some (vI l6), none]) rfl rfl rfl rfl ?_
  refine wp_aload rfl rfl rfl ?_
  obtain ⟨f0, F⟩ := F
  refine wp_getR rfl rfl rfl f0 rfl ?_
  obtain ⟨f1, F⟩ := F
  obtain ⟨f2, F⟩ := F
  refine wp_callI rfl rfl rfl (rcv_v f1 f2 (by decide) (by decide)) rfl rfl rfl rfl ?_
  refine CI.mono F (fun y0 h0 F => ?_) (fun _ _ w => rx_I w)
  refine wp_icmp_ge rfl rfl rfl rfl rfl (fun c => ?_) (fun c => ?_)
  · replace F := F.1 c
    refine wp_iload rfl rfl rfl ?_
    refine wp_const rfl rfl ?_
    refine wp_icmp_ge (Y := 100) rfl rfl rfl rfl rfl (fun c => ?_) (fun c => ?_)
    · replace F := F.1 c
      refine wp_aload rfl rfl rfl ?_
      refine wp_iload rfl rfl rfl ?_
      obtain ⟨f3, F⟩ := F
      obtain ⟨f4, F⟩ := F
      refine wp_callI rfl rfl rfl (rcv_v f3 f4 (by decide) (by decide)) rfl rfl rfl rfl ?_
      refine CI.mono F (fun y1 h1 F => ?_) (fun _ _ w => rx_I w)
      refine wp_if_ne rfl rfl rfl rfl (fun c => ?_) (fun c => ?_)
      · replace F := F.1 c
        refine wp_aload rfl rfl rfl ?_
        obtain ⟨f5, F⟩ := F
        refine wp_getR rfl rfl rfl f5 rfl ?_
        refine wp_iload rfl rfl rfl ?_
        obtain ⟨i0, b9, F⟩ := F
        refine wp_iaload rfl b9 rfl ?_
        refine wp_const rfl rfl ?_
        refine wp_icmp_eq (Y := (-2000000)) rfl rfl rfl rfl rfl (fun c => ?_) (fun c => ?_)
        · replace F := F.1 c
          refine wp_iinc' (L' := [some (vR l0), none, some (vI l2), some (vI l3), some (vI l4), some (vI l5), some (vI l6), none]) (y := 1) (L2 := [some (vR l0), none, some (vI l2), some (vI l3), some (vI l4), some (vI l5), some (vI (l6 + 1)), none]) rfl rfl rfl rfl rfl rfl ?_
          replace F := F _ rfl
          generalize (l6 + 1 : Int32) = v0 at F ⊢
          refine wp_goto rfl rfl ?_
          exact F
        · replace F := F.2 c
          refine wp_aload rfl rfl rfl ?_
          refine wp_getR rfl rfl rfl f5 rfl ?_
          refine wp_iload rfl rfl rfl ?_
          obtain ⟨i1, b9, F⟩ := F
          refine wp_iaload rfl b9 rfl ?_
          refine wp_iload rfl rfl rfl ?_
          refine wp_icmp_lt rfl rfl rfl rfl rfl (fun c => ?_) (fun c => ?_)
          · replace F := F.1 c
            refine wp_iinc' (L' := [some (vR l0), none, some (vI l2), some (vI l3), some (vI l4), some (vI l5), some (vI l6), none]) (y := 1) (L2 := [some (vR l0), none, some (vI l2), some (vI l3), some (vI l4), some (vI l5), some (vI (l6 + 1)), none]) rfl rfl rfl rfl rfl rfl ?_
            replace F := F _ rfl
            generalize (l6 + 1 : Int32) = v1 at F ⊢
            refine wp_goto rfl rfl ?_
            exact F
          · replace F := F.2 c
            refine wp_aload rfl rfl rfl ?_
            refine wp_getR rfl rfl rfl f5 rfl ?_
            refine wp_iload rfl rfl rfl ?_
            obtain ⟨i2, b9, F⟩ := F
            refine wp_iaload rfl b9 rfl ?_
            refine wp_iload rfl rfl rfl ?_
            refine wp_icmp_gt rfl rfl rfl rfl rfl (fun c => ?_) (fun c => ?_)
            · replace F := F.1 c
              refine wp_iinc' (L' := [some (vR l0), none, some (vI l2), some (vI l3), some (vI l4), some (vI l5), some (vI l6), none]) (y := 1) (L2 := [some (vR l0), none, some (vI l2), some (vI l3), some (vI l4), some (vI l5), some (vI (l6 + 1)), none]) rfl rfl rfl rfl rfl rfl ?_
              replace F := F _ rfl
              generalize (l6 + 1 : Int32) = v2 at F ⊢
              refine wp_goto rfl rfl ?_
              exact F
            · replace F := F.2 c
              refine wp_aload rfl rfl rfl ?_
              refine wp_getR rfl rfl rfl f5 rfl ?_
              refine wp_iload rfl rfl rfl ?_
              refine wp_const rfl rfl ?_
              obtain ⟨f6, F⟩ := F
              obtain ⟨i3, b9, F⟩ := F
              refine wp_iastore rfl f6 b9 rfl ?_
              have f7 : gK (pI h1 (gR h1 l0 4) i3 0) l0 = 6 := (gK_pI _ _ _ _ _).trans f5
              replace F := F _ rfl
              generalize pI h1 (gR h1 l0 4) i3 0 = h2 at F f7 ⊢
              refine wp_iinc' (L' := [some (vR l0), none, some (vI l2), some (vI l3), some (vI l4), some (vI l5), some (vI l6), none]) (y := 1) (L2 := [some (vR l0), none, some (vI l2), some (vI l3), some (vI l4), some (vI l5), some (vI (l6 + 1)), none]) rfl rfl rfl rfl rfl rfl ?_
              replace F := F _ rfl
              generalize (l6 + 1 : Int32) = v3 at F ⊢
              refine wp_goto rfl rfl ?_
              exact F
      · replace F := F.2 c
        refine wp_iinc' (L' := [some (vR l0), none, some (vI l2), some (vI l3), some (vI l4), some (vI l5), some (vI l6), none]) (y := 1) (L2 := [some (vR l0), none, some (vI l2), some (vI l3), some (vI l4), some (vI l5), some (vI (l6 + 1)), none]) rfl rfl rfl rfl rfl rfl ?_
        replace F := F _ rfl
        generalize (l6 + 1 : Int32) = v4 at F ⊢
        refine wp_goto rfl rfl ?_
        exact F
    · replace F := F.2 c
      refine wp_aload' (L' := [some (vR l0), none, none, none, some (vI l4), some (vI l5), none, none]) rfl rfl rfl rfl ?_
      refine wp_iload rfl rfl rfl ?_
      refine wp_iload rfl rfl rfl ?_
      refine wp_iload rfl rfl rfl ?_
      obtain ⟨f8, F⟩ := F
      obtain ⟨f9, F⟩ := F
      refine wp_callV rfl rfl rfl (rcv_v f8 f9 (by decide) (by decide)) rfl rfl rfl rfl ?_
      refine CV.mono F (fun h3 F => ?_) (fun _ _ w => rx_I w)
      refine wp_const rfl rfl ?_
      refine wp_istore (L2 := [some (vR l0), none, none, none, some (vI l4), some (vI l5), some (vI 0), none]) rfl rfl rfl rfl ?_
      refine wp_const rfl rfl ?_
      refine wp_istore (L2 := [some (vR l0), none, none, none, some (vI l4), some (vI l5), some (vI 0), some (vI 0)]) rfl rfl rfl rfl ?_
      refine wp_kill (L' := [some (vR l0), none, none, none, none, none, some (vI 0), some (vI 0)]) rfl rfl ?_
      exact F
  · replace F := F.2 c
    refine wp_aload' (L' := [some (vR l0), none, none, none, some (vI l4), some (vI l5), none, none]) rfl rfl rfl rfl ?_
    refine wp_iload rfl rfl rfl ?_
    refine wp_iload rfl rfl rfl ?_
    refine wp_iload rfl rfl rfl ?_
    obtain ⟨f10, F⟩ := F
    obtain ⟨f11, F⟩ := F
    refine wp_callV rfl rfl rfl (rcv_v f10 f11 (by decide) (by decide)) rfl rfl rfl rfl ?_
    refine CV.mono F (fun h4 F => ?_) (fun _ _ w => rx_I w)
    refine wp_const rfl rfl ?_
    refine wp_istore (L2 := [some (vR l0), none, none, none, some (vI l4), some (vI l5), some (vI 0), none]) rfl rfl rfl rfl ?_
    refine wp_const rfl rfl ?_
    refine wp_istore (L2 := [some (vR l0), none, none, none, some (vI l4), some (vI l5), some (vI 0), some (vI 0)]) rfl rfl rfl rfl ?_
    refine wp_kill (L' := [some (vR l0), none, none, none, none, none, some (vI 0), some (vI 0)]) rfl rfl ?_
    exact F
theorem w228_113 {d : Nat} {l0 : Nat} {l6 : Int32} {l7 : Int32} {h : aH} {K : Int32 → aH → Prop} {X : Nat → aH → Prop} (F : ((l7.toInt < 100 → gK h l0 = 6 ∧ ∃ i0 : Nat, inB h 100 (gR h l0 4) l7 i0 ∧ (((gI h (gR h l0 4) i0).toInt = (-2000000) → ∀ v0 : Int32, v0 = l7 + 1 → Wp (d + 1) 228 (113, [some (vR l0), none, none, none, none, none, some (vI l6), some (vI v0)], [], h) (RI K X)) ∧ (¬ (gI h (gR h l0 4) i0).toInt = (-2000000) → ∃ i1 : Nat, inB h 100 (gR h l0 3) l7 i1 ∧ 8 ≤ (gR h l0 4) ∧ ∃ i2 : Nat, inB h 100 (gR h l0 4) l7 i2 ∧ ∀ h0 : aH, h0 = pI h (gR h l0 4) i2 (gI h (gR h l0 3) i1) → ∃ i3 : Nat, inB h0 100 (gR h0 l0 4) l7 i3 ∧ (((gI h0 (gR h0 l0 4) i3).toInt = (-2000000) → ∀ v1 : Int32, v1 = l6 + 0 → ∀ v2 : Int32, v2 = l7 + 1 → Wp (d + 1) 228 (113, [some (vR l0), none, none, none, none, none, some (vI v1), some (vI v2)], [], h0) (RI K X)) ∧ (¬ (gI h0 (gR h0 l0 4) i3).toInt = (-2000000) → ∀ v3 : Int32, v3 = l6 + 1 → ∀ v4 : Int32, v4 = l7 + 1 → Wp (d + 1) 228 (113, [some (vR l0), none, none, none, none, none, some (vI v3), some (vI v4)], [], h0) (RI K X)))))) ∧ (¬ l7.toInt < 100 → K l6 h))) : Wp (d + 1) 228 (113, [some (vR l0), none, none, none, none, none, some (vI l6), some (vI l7)], [], h) (RI K X) := by
  refine wp_iload' (L' := [some (vR l0), none, none, none, none, none, some (vI l6), some (vI l7)]) rfl rfl rfl rfl ?_
  refine wp_const rfl rfl ?_
  refine wp_icmp_ge (Y := 100) rfl rfl rfl rfl rfl (fun c => ?_) (fun c => ?_)
  · replace F := F.1 c
    refine wp_aload rfl rfl rfl ?_
    obtain ⟨f0, F⟩ := F
    refine wp_getR rfl rfl rfl f0 rfl ?_
    refine wp_iload rfl rfl rfl ?_
    obtain ⟨i0, b9, F⟩ := F
    refine wp_iaload rfl b9 rfl ?_
    refine wp_const rfl rfl ?_
    refine wp_icmp_eq (Y := (-2000000)) rfl rfl rfl rfl rfl (fun c => ?_) (fun c => ?_)
    · replace F := F.1 c
      refine wp_iinc' (L' := [some (vR l0), none, none, none, none, none, some (vI l6), some (vI l7)]) (y := 1) (L2 := [some (vR l0), none, none, none, none, none, some (vI l6), some (vI (l7 + 1))]) rfl rfl rfl rfl rfl rfl ?_
      replace F := F _ rfl
      generalize (l7 + 1 : Int32) = v0 at F ⊢
      refine wp_goto rfl rfl ?_
      exact F
    · replace F := F.2 c
      refine wp_aload rfl rfl rfl ?_
      refine wp_getR rfl rfl rfl f0 rfl ?_
      refine wp_iload rfl rfl rfl ?_
      refine wp_aload rfl rfl rfl ?_
      refine wp_getR rfl rfl rfl f0 rfl ?_
      refine wp_iload rfl rfl rfl ?_
      obtain ⟨i1, b9, F⟩ := F
      refine wp_iaload rfl b9 rfl ?_
      obtain ⟨f1, F⟩ := F
      obtain ⟨i2, b9, F⟩ := F
      refine wp_iastore rfl f1 b9 rfl ?_
      have f2 : gK (pI h (gR h l0 4) i2 (gI h (gR h l0 3) i1)) l0 = 6 := (gK_pI _ _ _ _ _).trans f0
      replace F := F _ rfl
      generalize pI h (gR h l0 4) i2 (gI h (gR h l0 3) i1) = h0 at F f2 ⊢
      refine wp_iload rfl rfl rfl ?_
      refine wp_aload rfl rfl rfl ?_
      refine wp_getR rfl rfl rfl f2 rfl ?_
      refine wp_iload rfl rfl rfl ?_
      obtain ⟨i3, b9, F⟩ := F
      refine wp_iaload rfl b9 rfl ?_
      refine wp_const rfl rfl ?_
      refine wp_icmp_ne (Y := (-2000000)) rfl rfl rfl rfl rfl (fun c => ?_) (fun c => ?_)
      · replace F := F.1 c
        refine wp_const rfl rfl ?_
        refine wp_goto rfl rfl ?_
        refine wp_iadd' (L' := [some (vR l0), none, none, none, none, none, none, some (vI l7)]) rfl rfl rfl ?_
        replace F := F _ rfl
        generalize (l6 + 0 : Int32) = v1 at F ⊢
        refine wp_istore (L2 := [some (vR l0), none, none, none, none, none, some (vI v1), some (vI l7)]) rfl rfl rfl rfl ?_
        refine wp_iinc' (L' := [some (vR l0), none, none, none, none, none, some (vI v1), some (vI l7)]) (y := 1) (L2 := [some (vR l0), none, none, none, none, none, some (vI v1), some (vI (l7 + 1))]) rfl rfl rfl rfl rfl rfl ?_
        replace F := F _ rfl
        generalize (l7 + 1 : Int32) = v2 at F ⊢
        refine wp_goto rfl rfl ?_
        exact F
      · replace F := F.2 c
        refine wp_const' (L' := [some (vR l0), none, none, none, none, none, none, some (vI l7)]) rfl rfl rfl ?_
        refine wp_iadd' (L' := [some (vR l0), none, none, none, none, none, none, some (vI l7)]) rfl rfl rfl ?_
        replace F := F _ rfl
        generalize (l6 + 1 : Int32) = v3 at F ⊢
        refine wp_istore (L2 := [some (vR l0), none, none, none, none, none, some (vI v3), some (vI l7)]) rfl rfl rfl rfl ?_
        refine wp_iinc' (L' := [some (vR l0), none, none, none, none, none, some (vI v3), some (vI l7)]) (y := 1) (L2 := [some (vR l0), none, none, none, none, none, some (vI v3), some (vI (l7 + 1))]) rfl rfl rfl rfl rfl rfl ?_
        replace F := F _ rfl
        generalize (l7 + 1 : Int32) = v4 at F ⊢
        refine wp_goto rfl rfl ?_
        exact F
  · replace F := F.2 c
    refine wp_iload' (L' := [none, none, none, none, none, none, some (vI l6), none]) rfl rfl rfl rfl ?_
    exact wp_retI rfl (Or.inl rfl) F
-- CensusOffice$Sample <init> (I)V
theorem m229 {d : Nat} {a0 : Nat} {a1 : Int32} {h : aH} {K : aH → Prop} {X : Nat → aH → Prop} (F : 8 ≤ a0 ∧ CI d 0 [vI 0, vI a1] h (fun y0 h0 => ∃ i0 : Nat, y0 = nI i0 ∧ i0 ≤ 1000000 ∧ ∀ (r0 : Nat) (h1 : aH), r0 = gN h0 → h1 = gNew h0 100 i0 → gK h1 a0 = 9 ∧ ∀ h2 : aH, h2 = pR h1 a0 0 r0 → CI d 0 [vI 0, vI a1] h2 (fun y1 h3 => ∃ i1 : Nat, y1 = nI i1 ∧ i1 ≤ 1000000 ∧ ∀ (r1 : Nat) (h4 : aH), r1 = gN h3 → h4 = gNew h3 100 i1 → gK h4 a0 = 9 ∧ ∀ h5 : aH, h5 = pR h4 a0 1 r1 → CI d 0 [vI 0, vI a1] h5 (fun y2 h6 => ∃ i2 : Nat, y2 = nI i2 ∧ i2 ≤ 1000000 ∧ ∀ (r2 : Nat) (h7 : aH), r2 = gN h6 → h7 = gNew h6 102 i2 → gK h7 a0 = 9 ∧ ∀ h8 : aH, h8 = pR h7 a0 2 r2 → K h8) X) X) X) : CV (d + 1) 229 [vR a0, vI a1] h K X := by
  show Wp (d + 1) 229 (0, [some (vR a0), some (vI a1)], [], h) (RV K X)
  refine wp_aload rfl rfl rfl ?_
  obtain ⟨f0, F⟩ := F
  refine wp_obj rfl f0 rfl rfl ?_
  refine wp_aload rfl rfl rfl ?_
  refine wp_const rfl rfl ?_
  refine wp_iload rfl rfl rfl ?_
  refine wp_callI rfl rfl rfl rfl rfl rfl rfl rfl ?_
  refine CI.mono F (fun y0 h0 F => ?_) (fun _ _ w => rx_V w)
  obtain ⟨i0, e9, b9, F⟩ := F
  refine wp_newI rfl e9 b9 rfl ?_
  replace F := F _ _ rfl rfl
  generalize gNew h0 100 i0 = h1 at F ⊢
  generalize gN h0 = r0 at F ⊢
  obtain ⟨f1, F⟩ := F
  refine wp_putR rfl rfl rfl f0 f1 rfl ?_
  have f2 : gK (pR h1 a0 0 r0) a0 = 9 := (gK_pR _ _ _ _ _).trans f1
  replace F := F _ rfl
  generalize pR h1 a0 0 r0 = h2 at F f2 ⊢
  refine wp_aload rfl rfl rfl ?_
  refine wp_const rfl rfl ?_
  refine wp_iload rfl rfl rfl ?_
  refine wp_callI rfl rfl rfl rfl rfl rfl rfl rfl ?_
  refine CI.mono F (fun y1 h3 F => ?_) (fun _ _ w => rx_V w)
  obtain ⟨i1, e9, b9, F⟩ := F
  refine wp_newI rfl e9 b9 rfl ?_
  replace F := F _ _ rfl rfl
  generalize gNew h3 100 i1 = h4 at F ⊢
  generalize gN h3 = r1 at F ⊢
  obtain ⟨f3, F⟩ := F
  refine wp_putR rfl rfl rfl f0 f3 rfl ?_
  have f4 : gK (pR h4 a0 1 r1) a0 = 9 := (gK_pR _ _ _ _ _).trans f3
  replace F := F _ rfl
  generalize pR h4 a0 1 r1 = h5 at F f4 ⊢
  refine wp_aload rfl rfl rfl ?_
  refine wp_const rfl rfl ?_
  refine wp_iload rfl rfl rfl ?_
  refine wp_callI rfl rfl rfl rfl rfl rfl rfl rfl ?_
  refine CI.mono F (fun y2 h6 F => ?_) (fun _ _ w => rx_V w)
  obtain ⟨i2, e9, b9, F⟩ := F
  refine wp_newZ rfl e9 b9 rfl ?_
  replace F := F _ _ rfl rfl
  generalize gNew h6 102 i2 = h7 at F ⊢
  generalize gN h6 = r2 at F ⊢
  obtain ⟨f5, F⟩ := F
  refine wp_putR rfl rfl rfl f0 f5 rfl ?_
  have f6 : gK (pR h7 a0 2 r2) a0 = 9 := (gK_pR _ _ _ _ _).trans f5
  replace F := F _ rfl
  generalize pR h7 a0 2 r2 = h8 at F f6 ⊢
  exact wp_retV rfl F
-- CensusOffice$Sample leaders ([I)[I
theorem m230 {d : Nat} {a0 : Nat} {a1 : Nat} {h : aH} {K : Nat → aH → Prop} {X : Nat → aH → Prop} (F : gK h a0 = 9 ∧ (100 ≤ gK h (gR h a0 1) ∧ gK h (gR h a0 1) ≤ 106) ∧ ∃ i0 : Nat, (nI (gL h (gR h a0 1))) = nI i0 ∧ i0 ≤ 1000000 ∧ ∀ (r0 : Nat) (h0 : aH), r0 = gN h → h0 = gNew h 100 i0 → Wp (d + 1) 230 (13, [some (vR a0), some (vR a1), some (vR r0), some (vI 0), some (vI 0), none, none], [], h0) (RR K X)) : CR (d + 1) 230 [vR a0, vR a1] h K X := by
  show Wp (d + 1) 230 (0, [some (vR a0), some (vR a1), none, none, none, none, none], [], h) (RR K X)
  refine wp_aload rfl rfl rfl ?_
  obtain ⟨f0, F⟩ := F
  refine wp_getR rfl rfl rfl f0 rfl ?_
  obtain ⟨f1, F⟩ := F
  refine wp_alen rfl f1 rfl ?_
  obtain ⟨i0, e9, b9, F⟩ := F
  refine wp_newI rfl e9 b9 rfl ?_
  replace F := F _ _ rfl rfl
  generalize gNew h 100 i0 = h0 at F ⊢
  generalize gN h = r0 at F ⊢
  refine wp_astore (L2 := [some (vR a0), some (vR a1), some (vR r0), none, none, none, none]) rfl rfl rfl rfl ?_
  refine wp_const rfl rfl ?_
  refine wp_istore (L2 := [some (vR a0), some (vR a1), some (vR r0), some (vI 0), none, none, none]) rfl rfl rfl rfl ?_
  refine wp_const rfl rfl ?_
  refine wp_istore (L2 := [some (vR a0), some (vR a1), some (vR r0), some (vI 0), some (vI 0), none, none]) rfl rfl rfl rfl ?_
  exact F
theorem w230_13 {d : Nat} {l0 : Nat} {l1 : Nat} {l2 : Nat} {l3 : Int32} {l4 : Int32} {h : aH} {K : Nat → aH → Prop} {X : Nat → aH → Prop} (F : gK h l0 = 9 ∧ (100 ≤ gK h (gR h l0 1) ∧ gK h (gR h l0 1) ≤ 106) ∧ ((l4.toInt < (nI (gL h (gR h l0 1))).toInt → ∃ i0 : Nat, inB h 100 l1 l4 i0 ∧ (((gI h l1 i0).toInt = (-2000000) → Wp (d + 1) 230 (42, [some (vR l0), some (vR l1), some (vR l2), some (vI l3), some (vI l4), some (vI 0), some (vI 0)], [], h) (RR K X)) ∧ (¬ (gI h l1 i0).toInt = (-2000000) → Wp (d + 1) 230 (42, [some (vR l0), some (vR l1), some (vR l2), some (vI l3), some (vI l4), some (vI 1), some (vI 0)], [], h) (RR K X)))) ∧ (¬ l4.toInt < (nI (gL h (gR h l0 1))).toInt → CR d 20 [vR l2, vI l3] h (fun q0 h0 => K q0 h0) X))) : Wp (d + 1) 230 (13, [some (vR l0), some (vR l1), some (vR l2), some (vI l3), some (vI l4), none, none], [], h) (RR K X) := by
  refine wp_iload' (L' := [some (vR l0), some (vR l1), some (vR l2), some (vI l3), some (vI l4), none, none]) rfl rfl rfl rfl ?_
  refine wp_aload rfl rfl rfl ?_
  obtain ⟨f0, F⟩ := F
  refine wp_getR rfl rfl rfl f0 rfl ?_
  obtain ⟨f1, F⟩ := F
  refine wp_alen rfl f1 rfl ?_
  refine wp_icmp_ge rfl rfl rfl rfl rfl (fun c => ?_) (fun c => ?_)
  · replace F := F.1 c
    refine wp_aload rfl rfl rfl ?_
    refine wp_iload rfl rfl rfl ?_
    obtain ⟨i0, b9, F⟩ := F
    refine wp_iaload rfl b9 rfl ?_
    refine wp_const rfl rfl ?_
    refine wp_icmp_eq (Y := (-2000000)) rfl rfl rfl rfl rfl (fun c => ?_) (fun c => ?_)
    · replace F := F.1 c
      refine wp_const' (L' := [some (vR l0), some (vR l1), some (vR l2), some (vI l3), some (vI l4), none, none]) rfl rfl rfl ?_
      refine wp_istore' (L' := [some (vR l0), some (vR l1), some (vR l2), some (vI l3), some (vI l4), none, none]) (L2 := [some (vR l0), some (vR l1), some (vR l2), some (vI l3), some (vI l4), some (vI 0), none]) rfl rfl rfl rfl rfl ?_
      refine wp_const rfl rfl ?_
      refine wp_istore (L2 := [some (vR l0), some (vR l1), some (vR l2), some (vI l3), some (vI l4), some (vI 0), some (vI 0)]) rfl rfl rfl rfl ?_
      exact F
    · replace F := F.2 c
      refine wp_const rfl rfl ?_
      refine wp_goto rfl rfl ?_
      refine wp_istore' (L' := [some (vR l0), some (vR l1), some (vR l2), some (vI l3), some (vI l4), none, none]) (L2 := [some (vR l0), some (vR l1), some (vR l2), some (vI l3), some (vI l4), some (vI 1), none]) rfl rfl rfl rfl rfl ?_
      refine wp_const rfl rfl ?_
      refine wp_istore (L2 := [some (vR l0), some (vR l1), some (vR l2), some (vI l3), some (vI l4), some (vI 1), some (vI 0)]) rfl rfl rfl rfl ?_
      exact F
  · replace F := F.2 c
    refine wp_aload' (L' := [none, none, some (vR l2), some (vI l3), none, none, none]) rfl rfl rfl rfl ?_
    refine wp_iload rfl rfl rfl ?_
    refine wp_callR rfl rfl rfl rfl rfl rfl rfl rfl ?_
    refine CR.mono F (fun q0 h0 F => ?_) (fun _ _ w => rx_R w)
    exact wp_retR rfl F
theorem w230_42 {d : Nat} {l0 : Nat} {l1 : Nat} {l2 : Nat} {l3 : Int32} {l4 : Int32} {l5 : Int32} {l6 : Int32} {h : aH} {K : Nat → aH → Prop} {X : Nat → aH → Prop} (F : gK h l0 = 9 ∧ (100 ≤ gK h (gR h l0 1) ∧ gK h (gR h l0 1) ≤ 106) ∧ ((l6.toInt < (nI (gL h (gR h l0 1))).toInt → ∃ i0 : Nat, inB h 100 l1 l4 i0 ∧ (((gI h l1 i0).toInt = (-2000000) → ((l5.toInt = 0 → ∀ v0 : Int32, v0 = l4 + 1 → Wp (d + 1) 230 (13, [some (vR l0), some (vR l1), some (vR l2), some (vI l3), some (vI v0), none, none], [], h) (RR K X)) ∧ (¬ l5.toInt = 0 → 8 ≤ l2 ∧ ∃ i1 : Nat, inB h 100 l2 l3 i1 ∧ ∀ h0 : aH, h0 = pI h l2 i1 l4 → ∀ v1 : Int32, v1 = l3 + 1 → ∀ v2 : Int32, v2 = l4 + 1 → Wp (d + 1) 230 (13, [some (vR l0), some (vR l1), some (vR l2), some (vI v1), some (vI v2), none, none], [], h0) (RR K X)))) ∧ (¬ (gI h l1 i0).toInt = (-2000000) → ∃ i2 : Nat, inB h 100 l1 l6 i2 ∧ ∃ i3 : Nat, inB h 100 l1 l4 i3 ∧ (((gI h l1 i2).toInt = (gI h l1 i3).toInt → ∃ i4 : Nat, inB h 100 (gR h l0 1) l4 i4 ∧ 8 ≤ (gR h l0 1) ∧ ∃ i5 : Nat, inB h 100 (gR h l0 1) l4 i5 ∧ ∀ h1 : aH, h1 = pI h (gR h l0 1) i5 ((gI h (gR h l0 1) i4) + 1) → ((l5.toInt = 0 → ∀ v3 : Int32, v3 = l6 + 1 → Wp (d + 1) 230 (42, [some (vR l0), some (vR l1), some (vR l2), some (vI l3), some (vI l4), some (vI 0), some (vI v3)], [], h1) (RR K X)) ∧ (¬ l5.toInt = 0 → ((l6.toInt < l4.toInt → ∀ v4 : Int32, v4 = l6 + 1 → Wp (d + 1) 230 (42, [some (vR l0), some (vR l1), some (vR l2), some (vI l3), some (vI l4), some (vI 0), some (vI v4)], [], h1) (RR K X)) ∧ (¬ l6.toInt < l4.toInt → ∀ v5 : Int32, v5 = l6 + 1 → Wp (d + 1) 230 (42, [some (vR l0), some (vR l1), some (vR l2), some (vI l3), some (vI l4), some (vI 1), some (vI v5)], [], h1) (RR K X)))))) ∧ (¬ (gI h l1 i2).toInt = (gI h l1 i3).toInt → ∀ v6 : Int32, v6 = l6 + 1 → Wp (d + 1) 230 (42, [some (vR l0), some (vR l1), some (vR l2), some (vI l3), some (vI l4), some (vI l5), some (vI v6)], [], h) (RR K X)))))) ∧ (¬ l6.toInt < (nI (gL h (gR h l0 1))).toInt → ((l5.toInt = 0 → ∀ v7 : Int32, v7 = l4 + 1 → Wp (d + 1) 230 (13, [some (vR l0), some (vR l1), some (vR l2), some (vI l3), some (vI v7), none, none], [], h) (RR K X)) ∧ (¬ l5.toInt = 0 → 8 ≤ l2 ∧ ∃ i6 : Nat, inB h 100 l2 l3 i6 ∧ ∀ h2 : aH, h2 = pI h l2 i6 l4 → ∀ v8 : Int32, v8 = l3 + 1 → ∀ v9 : Int32, v9 = l4 + 1 → Wp (d + 1) 230 (13, [some (vR l0), some (vR l1), some (vR l2), some (vI v8), some (vI v9), none, none], [], h2) (RR K X)))))) : Wp (d + 1) 230 (42, [some (vR l0), some (vR l1), some (vR l2), some (vI l3), some (vI l4), some (vI l5), some (vI l6)], [], h) (RR K X) := by
  refine wp_iload rfl rfl rfl ?_
  refine wp_aload rfl rfl rfl ?_
  obtain ⟨f0, F⟩ := F
  refine wp_getR rfl rfl rfl f0 rfl ?_
  obtain ⟨f1, F⟩ := F
  refine wp_alen rfl f1 rfl ?_
  refine wp_icmp_ge rfl rfl rfl rfl rfl (fun c => ?_) (fun c => ?_)
  · replace F := F.1 c
    refine wp_aload rfl rfl rfl ?_
    refine wp_iload rfl rfl rfl ?_
    obtain ⟨i0, b9, F⟩ := F
    refine wp_iaload rfl b9 rfl ?_
    refine wp_const rfl rfl ?_
    refine wp_icmp_eq (Y := (-2000000)) rfl rfl rfl rfl rfl (fun c => ?_) (fun c => ?_)
    · replace F := F.1 c
      refine wp_iload' (L' := [some (vR l0), some (vR l1), some (vR l2), some (vI l3), some (vI l4), some (vI l5), none]) rfl rfl rfl rfl ?_
      refine wp_if_eq rfl rfl rfl rfl (fun c => ?_) (fun c => ?_)
      · replace F := F.1 c
        refine wp_iinc' (L' := [some (vR l0), some (vR l1), some (vR l2), some (vI l3), some (vI l4), none, none]) (y := 1) (L2 := [some (vR l0), some (vR l1), some (vR l2), some (vI l3), some (vI (l4 + 1)), none, none]) rfl rfl rfl rfl rfl rfl ?_
        replace F := F _ rfl
        generalize (l4 + 1 : Int32) = v0 at F ⊢
        refine wp_goto rfl rfl ?_
        exact F
      · replace F := F.2 c
        refine wp_aload rfl rfl rfl ?_
        refine wp_iload rfl rfl rfl ?_
        refine wp_iload rfl rfl rfl ?_
        obtain ⟨f2, F⟩ := F
        obtain ⟨i1, b9, F⟩ := F
        refine wp_iastore rfl f2 b9 rfl ?_
        have f3 : gK (pI h l2 i1 l4) l0 = 9 := (gK_pI _ _ _ _ _).trans f0
        replace F := F _ rfl
        generalize pI h l2 i1 l4 = h0 at F f3 ⊢
        refine wp_iinc (y := 1) (L2 := [some (vR l0), some (vR l1), some (vR l2), some (vI (l3 + 1)), some (vI l4), some (vI l5), none]) rfl rfl rfl rfl rfl ?_
        replace F := F _ rfl
        generalize (l3 + 1 : Int32) = v1 at F ⊢
        refine wp_iinc' (L' := [some (vR l0), some (vR l1), some (vR l2), some (vI v1), some (vI l4), none, none]) (y := 1) (L2 := [some (vR l0), some (vR l1), some (vR l2), some (vI v1), some (vI (l4 + 1)), none, none]) rfl rfl rfl rfl rfl rfl ?_
        replace F := F _ rfl
        generalize (l4 + 1 : Int32) = v2 at F ⊢
        refine wp_goto rfl rfl ?_
        exact F
    · replace F := F.2 c
      refine wp_aload rfl rfl rfl ?_
      refine wp_iload rfl rfl rfl ?_
      obtain ⟨i2, b9, F⟩ := F
      refine wp_iaload rfl b9 rfl ?_
      refine wp_aload rfl rfl rfl ?_
      refine wp_iload rfl rfl rfl ?_
      obtain ⟨i3, b9, F⟩ := F
      refine wp_iaload rfl b9 rfl ?_
      refine wp_icmp_ne rfl rfl rfl rfl rfl (fun c => ?_) (fun c => ?_)
      · replace F := F.1 c
        refine wp_aload rfl rfl rfl ?_
        refine wp_getR rfl rfl rfl f0 rfl ?_
        refine wp_iload rfl rfl rfl ?_
        refine wp_dup2 rfl rfl rfl rfl ?_
        obtain ⟨i4, b9, F⟩ := F
        refine wp_iaload rfl b9 rfl ?_
        refine wp_const rfl rfl ?_
        refine wp_iadd rfl rfl ?_
        obtain ⟨f4, F⟩ := F
        obtain ⟨i5, b9, F⟩ := F
        refine wp_iastore rfl f4 b9 rfl ?_
        have f5 : gK (pI h (gR h l0 1) i5 ((gI h (gR h l0 1) i4) + 1)) l0 = 9 := (gK_pI _ _ _ _ _).trans f0
        replace F := F _ rfl
        generalize pI h (gR h l0 1) i5 ((gI h (gR h l0 1) i4) + 1) = h1 at F f5 ⊢
        refine wp_iload rfl rfl rfl ?_
        refine wp_if_eq rfl rfl rfl rfl (fun c => ?_) (fun c => ?_)
        · replace F := F.1 c
          refine wp_const' (L' := [some (vR l0), some (vR l1), some (vR l2), some (vI l3), some (vI l4), none, some (vI l6)]) rfl rfl rfl ?_
          refine wp_istore' (L' := [some (vR l0), some (vR l1), some (vR l2), some (vI l3), some (vI l4), none, some (vI l6)]) (L2 := [some (vR l0), some (vR l1), some (vR l2), some (vI l3), some (vI l4), some (vI 0), some (vI l6)]) rfl rfl rfl rfl rfl ?_
          refine wp_iinc (y := 1) (L2 := [some (vR l0), some (vR l1), some (vR l2), some (vI l3), some (vI l4), some (vI 0), some (vI (l6 + 1))]) rfl rfl rfl rfl rfl ?_
          replace F := F _ rfl
          generalize (l6 + 1 : Int32) = v3 at F ⊢
          refine wp_goto rfl rfl ?_
          exact F
        · replace F := F.2 c
          refine wp_iload rfl rfl rfl ?_
          refine wp_iload rfl rfl rfl ?_
          refine wp_icmp_lt rfl rfl rfl rfl rfl (fun c => ?_) (fun c => ?_)
          · replace F := F.1 c
            refine wp_const' (L' := [some (vR l0), some (vR l1), some (vR l2), some (vI l3), some (vI l4), none, some (vI l6)]) rfl rfl rfl ?_
            refine wp_istore' (L' := [some (vR l0), some (vR l1), some (vR l2), some (vI l3), some (vI l4), none, some (vI l6)]) (L2 := [some (vR l0), some (vR l1), some (vR l2), some (vI l3), some (vI l4), some (vI 0), some (vI l6)]) rfl rfl rfl rfl rfl ?_
            refine wp_iinc (y := 1) (L2 := [some (vR l0), some (vR l1), some (vR l2), some (vI l3), some (vI l4), some (vI 0), some (vI (l6 + 1))]) rfl rfl rfl rfl rfl ?_
            replace F := F _ rfl
            generalize (l6 + 1 : Int32) = v4 at F ⊢
            refine wp_goto rfl rfl ?_
            exact F
          · replace F := F.2 c
            refine wp_const rfl rfl ?_
            refine wp_goto rfl rfl ?_
            refine wp_istore' (L' := [some (vR l0), some (vR l1), some (vR l2), some (vI l3), some (vI l4), none, some (vI l6)]) (L2 := [some (vR l0), some (vR l1), some (vR l2), some (vI l3), some (vI l4), some (vI 1), some (vI l6)]) rfl rfl rfl rfl rfl ?_
            refine wp_iinc (y := 1) (L2 := [some (vR l0), some (vR l1), some (vR l2), some (vI l3), some (vI l4), some (vI 1), some (vI (l6 + 1))]) rfl rfl rfl rfl rfl ?_
            replace F := F _ rfl
            generalize (l6 + 1 : Int32) = v5 at F ⊢
            refine wp_goto rfl rfl ?_
            exact F
      · replace F := F.2 c
        refine wp_iinc (y := 1) (L2 := [some (vR l0), some (vR l1), some (vR l2), some (vI l3), some (vI l4), some (vI l5), some (vI (l6 + 1))]) rfl rfl rfl rfl rfl ?_
        replace F := F _ rfl
        generalize (l6 + 1 : Int32) = v6 at F ⊢
        refine wp_goto rfl rfl ?_
        exact F
  · replace F := F.2 c
    refine wp_iload' (L' := [some (vR l0), some (vR l1), some (vR l2), some (vI l3), some (vI l4), some (vI l5), none]) rfl rfl rfl rfl ?_
    refine wp_if_eq rfl rfl rfl rfl (fun c => ?_) (fun c => ?_)
    · replace F := F.1 c
      refine wp_iinc' (L' := [some (vR l0), some (vR l1), some (vR l2), some (vI l3), some (vI l4), none, none]) (y := 1) (L2 := [some (vR l0), some (vR l1), some (vR l2), some (vI l3), some (vI (l4 + 1)), none, none]) rfl rfl rfl rfl rfl rfl ?_
      replace F := F _ rfl
      generalize (l4 + 1 : Int32) = v7 at F ⊢
      refine wp_goto rfl rfl ?_
      exact F
    · replace F := F.2 c
      refine wp_aload rfl rfl rfl ?_
      refine wp_iload rfl rfl rfl ?_
      refine wp_iload rfl rfl rfl ?_
      obtain ⟨f6, F⟩ := F
      obtain ⟨i6, b9, F⟩ := F
      refine wp_iastore rfl f6 b9 rfl ?_
      have f7 : gK (pI h l2 i6 l4) l0 = 9 := (gK_pI _ _ _ _ _).trans f0
      replace F := F _ rfl
      generalize pI h l2 i6 l4 = h2 at F f7 ⊢
      refine wp_iinc (y := 1) (L2 := [some (vR l0), some (vR l1), some (vR l2), some (vI (l3 + 1)), some (vI l4), some (vI l5), none]) rfl rfl rfl rfl rfl ?_
      replace F := F _ rfl
      generalize (l3 + 1 : Int32) = v8 at F ⊢
      refine wp_iinc' (L' := [some (vR l0), some (vR l1), some (vR l2), some (vI v8), some (vI l4), none, none]) (y := 1) (L2 := [some (vR l0), some (vR l1), some (vR l2), some (vI v8), some (vI (l4 + 1)), none, none]) rfl rfl rfl rfl rfl rfl ?_
      replace F := F _ rfl
      generalize (l4 + 1 : Int32) = v9 at F ⊢
      refine wp_goto rfl rfl ?_
      exact F
-- CensusOffice$Sample allot ([I[III)V
theorem m231 {d : Nat} {a0 : Nat} {a1 : Nat} {a2 : Nat} {a3 : Int32} {a4 : Int32} {h : aH} {K : aH → Prop} {X : Nat → aH → Prop} (F : ((0 < a4.toInt → (100 ≤ gK h a2 ∧ gK h a2 ≤ 106) ∧ ∀ v0 : Int32, v0 = nI (gL h a2) → Wp d 231 (20, [some (vR a0), some (vR a1), some (vR a2), some (vI a3), some (vI a4), some (vI a3), some (vR a2), some (vI v0), some (vI 0), none, none, none, none, none], [], h) (RV K X)) ∧ (¬ 0 < a4.toInt → K h))) : CV d 231 [vR a0, vR a1, vR a2, vI a3, vI a4] h K X := by
  show Wp d 231 (0, [some (vR a0), some (vR a1), some (vR a2), some (vI a3), some (vI a4), none, none, none, none, none, none, none, none, none], [], h) (RV K X)
  refine wp_iload rfl rfl rfl ?_
  refine wp_if_gt rfl rfl rfl rfl (fun c => ?_) (fun c => ?_)
  · replace F := F.1 c
    refine wp_iload' (L' := [some (vR a0), some (vR a1), some (vR a2), some (vI a3), some (vI a4), none, none, none, none, none, none, none, none, none]) rfl rfl rfl rfl ?_
    refine wp_istore (L2 := [some (vR a0), some (vR a1), some (vR a2), some (vI a3), some (vI a4), some (vI a3), none, none, none, none, none, none, none, none]) rfl rfl rfl rfl ?_
    refine wp_aload rfl rfl rfl ?_
    refine wp_astore (L2 := [some (vR a0), some (vR a1), some (vR a2), some (vI a3), some (vI a4), some (vI a3), some (vR a2), none, none, none, none, none, none, none]) rfl rfl rfl rfl ?_
    refine wp_aload rfl rfl rfl ?_
    obtain ⟨f0, F⟩ := F
    refine wp_alen rfl f0 rfl ?_
    replace F := F _ rfl
    generalize (nI (gL h a2) : Int32) = v0 at F ⊢
    refine wp_istore (L2 := [some (vR a0), some (vR a1), some (vR a2), some (vI a3), some (vI a4), some (vI a3), some (vR a2), some (vI v0), none, none, none, none, none, none]) rfl rfl rfl rfl ?_
    refine wp_const rfl rfl ?_
    refine wp_istore (L2 := [some (vR a0), some (vR a1), some (vR a2), some (vI a3), some (vI a4), some (vI a3), some (vR a2), some (vI v0), some (vI 0), none, none, none, none, none]) rfl rfl rfl rfl ?_
    exact F
  · replace F := F.2 c
    exact wp_retV rfl F
theorem w231_20 {d : Nat} {l0 : Nat} {l1 : Nat} {l2 : Nat} {l3 : Int32} {l4 : Int32} {l5 : Int32} {l6 : Nat} {l7 : Int32} {l8 : Int32} {h : aH} {K : aH → Prop} {X : Nat → aH → Prop} (F : ((l8.toInt < l7.toInt → ∃ i0 : Nat, inB h 100 l6 l8 i0 ∧ ∀ v0 : Int32, v0 = gI h l6 i0 → gK h l0 = 9 ∧ ∃ i1 : Nat, inB h 100 (gR h l0 1) v0 i1 ∧ (¬ l4 = 0) ∧ ∀ v1 : Int32, v1 = l5 - ((l3 * (gI h (gR h l0 1) i1)) / l4) → ∀ v2 : Int32, v2 = l8 + 1 → Wp d 231 (20, [some (vR l0), some (vR l1), some (vR l2), some (vI l3), some (vI l4), some (vI v1), some (vR l6), some (vI l7), some (vI v2), none, none, none, none, none], [], h) (RV K X)) ∧ (¬ l8.toInt < l7.toInt → Wp d 231 (60, [some (vR l0), some (vR l1), some (vR l2), some (vI l3), some (vI l4), some (vI l5), some (vI 0), none, none, none, none, none, none, none], [], h) (RV K X)))) : Wp d 231 (20, [some (vR l0), some (vR l1), some (vR l2), some (vI l3), some (vI l4), some (vI l5), some (vR l6), some (vI l7), some (vI l8), none, none, none, none, none], [], h) (RV K X) := by
  refine wp_iload' (L' := [some (vR l0), some (vR l1), some (vR l2), some (vI l3), some (vI l4), some (vI l5), some (vR l6), some (vI l7), some (vI l8), none, none, none, none, none]) rfl rfl rfl rfl ?_
  refine wp_iload rfl rfl rfl ?_
  refine wp_icmp_ge rfl rfl rfl rfl rfl (fun c => ?_) (fun c => ?_)
  · replace F := F.1 c
    refine wp_aload rfl rfl rfl ?_
    refine wp_iload rfl rfl rfl ?_
    obtain ⟨i0, b9, F⟩ := F
    refine wp_iaload rfl b9 rfl ?_
    replace F := F _ rfl
    generalize (gI h l6 i0 : Int32) = v0 at F ⊢
    refine wp_istore (L2 := [some (vR l0), some (vR l1), some (vR l2), some (vI l3), some (vI l4), some (vI l5), some (vR l6), some (vI l7), some (vI l8), some (vI v0), none, none, none, none]) rfl rfl rfl rfl ?_
    refine wp_iload rfl rfl rfl ?_
    refine wp_iload rfl rfl rfl ?_
    refine wp_aload rfl rfl rfl ?_
    obtain ⟨f0, F⟩ := F
    refine wp_getR rfl rfl rfl f0 rfl ?_
    refine wp_iload rfl rfl rfl ?_
    obtain ⟨i1, b9, F⟩ := F
    refine wp_iaload rfl b9 rfl ?_
    refine wp_imul rfl rfl ?_
    refine wp_iload rfl rfl rfl ?_
    refine wp_idiv rfl F.1 rfl ?_
    replace F := F.2
    refine wp_isub rfl rfl ?_
    replace F := F _ rfl
    generalize (l5 - ((l3 * (gI h (gR h l0 1) i1)) / l4) : Int32) = v1 at F ⊢
    refine wp_istore (L2 := [some (vR l0), some (vR l1), some (vR l2), some (vI l3), some (vI l4), some (vI v1), some (vR l6), some (vI l7), some (vI l8), some (vI v0), none, none, none, none]) rfl rfl rfl rfl ?_
    refine wp_iinc (y := 1) (L2 := [some (vR l0), some (vR l1), some (vR l2), some (vI l3), some (vI l4), some (vI v1), some (vR l6), some (vI l7), some (vI (l8 + 1)), some (vI v0), none, none, none, none]) rfl rfl rfl rfl rfl ?_
    replace F := F _ rfl
    generalize (l8 + 1 : Int32) = v2 at F ⊢
    refine wp_goto rfl rfl ?_
    refine wp_kill (L' := [some (vR l0), some (vR l1), some (vR l2), some (vI l3), some (vI l4), some (vI v1), some (vR l6), some (vI l7), some (vI v2), none, none, none, none, none]) rfl rfl ?_
    exact F
  · replace F := F.2 c
    refine wp_const' (L' := [some (vR l0), some (vR l1), some (vR l2), some (vI l3), some (vI l4), some (vI l5), none, none, none, none, none, none, none, none]) rfl rfl rfl ?_
    refine wp_istore (L2 := [some (vR l0), some (vR l1), some (vR l2), some (vI l3), some (vI l4), some (vI l5), some (vI 0), none, none, none, none, none, none, none]) rfl rfl rfl rfl ?_
    exact F
theorem w231_60 {d : Nat} {l0 : Nat} {l1 : Nat} {l2 : Nat} {l3 : Int32} {l4 : Int32} {l5 : Int32} {l6 : Int32} {h : aH} {K : aH → Prop} {X : Nat → aH → Prop} (F : gK h l0 = 9 ∧ (100 ≤ gK h (gR h l0 0) ∧ gK h (gR h l0 0) ≤ 106) ∧ ((l6.toInt < (nI (gL h (gR h l0 0))).toInt → ∃ i0 : Nat, inB h 100 (gR h l0 1) l6 i0 ∧ (¬ l4 = 0) ∧ ∀ v0 : Int32, v0 = aIrem (l3 * (gI h (gR h l0 1) i0)) l4 → (100 ≤ gK h l2 ∧ gK h l2 ≤ 106) ∧ ∀ v1 : Int32, v1 = nI (gL h l2) → Wp d 231 (98, [some (vR l0), some (vR l1), some (vR l2), some (vI l3), some (vI l4), some (vI l5), some (vI l6), some (vI v0), some (vI 0), some (vR l2), some (vI v1), some (vI 0), none, none], [], h) (RV K X)) ∧ (¬ l6.toInt < (nI (gL h (gR h l0 0))).toInt → K h))) : Wp d 231 (60, [some (vR l0), some (vR l1), some (vR l2), some (vI l3), some (vI l4), some (vI l5), some (vI l6), none, none, none, none, none, none, none], [], h) (RV K X) := by
  refine wp_iload' (L' := [some (vR l0), some (vR l1), some (vR l2), some (vI l3), some (vI l4), some (vI l5), some (vI l6), none, none, none, none, none, none, none]) rfl rfl rfl rfl ?_
  refine wp_aload rfl rfl rfl ?_
  obtain ⟨f0, F⟩ := F
  refine wp_getR rfl rfl rfl f0 rfl ?_
  obtain ⟨f1, F⟩ := F
  refine wp_alen rfl f1 rfl ?_
  refine wp_icmp_ge rfl rfl rfl rfl rfl (fun c => ?_) (fun c => ?_)
  · replace F := F.1 c
    refine wp_iload rfl rfl rfl ?_
    refine wp_aload rfl rfl rfl ?_
    refine wp_getR rfl rfl rfl f0 rfl ?_
    refine wp_iload rfl rfl rfl ?_
    obtain ⟨i0, b9, F⟩ := F
    refine wp_iaload rfl b9 rfl ?_
    refine wp_imul rfl rfl ?_
    refine wp_iload rfl rfl rfl ?_
    refine wp_irem rfl F.1 rfl ?_
    replace F := F.2
    replace F := F _ rfl
    generalize (aIrem (l3 * (gI h (gR h l0 1) i0)) l4 : Int32) = v0 at F ⊢
    refine wp_istore (L2 := [some (vR l0), some (vR l1), some (vR l2), some (vI l3), some (vI l4), some (vI l5), some (vI l6), some (vI v0), none, none, none, none, none, none]) rfl rfl rfl rfl ?_
    refine wp_const rfl rfl ?_
    refine wp_istore (L2 := [some (vR l0), some (vR l1), some (vR l2), some (vI l3), some (vI l4), some (vI l5), some (vI l6), some (vI v0), some (vI 0), none, none, none, none, none]) rfl rfl rfl rfl ?_
    refine wp_aload rfl rfl rfl ?_
    refine wp_astore (L2 := [some (vR l0), some (vR l1), some (vR l2), some (vI l3), some (vI l4), some (vI l5), some (vI l6), some (vI v0), some (vI 0), some (vR l2), none, none, none, none]) rfl rfl rfl rfl ?_
    refine wp_aload rfl rfl rfl ?_
    obtain ⟨f2, F⟩ := F
    refine wp_alen rfl f2 rfl ?_
    replace F := F _ rfl
    generalize (nI (gL h l2) : Int32) = v1 at F ⊢
    refine wp_istore (L2 := [some (vR l0), some (vR l1), some (vR l2), some (vI l3), some (vI l4), some (vI l5), some (vI l6), some (vI v0), some (vI 0), some (vR l2), some (vI v1), none, none, none]) rfl rfl rfl rfl ?_
    refine wp_const rfl rfl ?_
    refine wp_istore (L2 := [some (vR l0), some (vR l1), some (vR l2), some (vI l3), some (vI l4), some (vI l5), some (vI l6), some (vI v0), some (vI 0), some (vR l2), some (vI v1), some (vI 0), none, none]) rfl rfl rfl rfl ?_
    exact F
  · replace F := F.2 c
    exact wp_retV rfl F
theorem w231_98 {d : Nat} {l0 : Nat} {l1 : Nat} {l2 : Nat} {l3 : Int32} {l4 : Int32} {l5 : Int32} {l6 : Int32} {l7 : Int32} {l8 : Int32} {l9 : Nat} {l10 : Int32} {l11 : Int32} {h : aH} {K : aH → Prop} {X : Nat → aH → Prop} (F : ((l11.toInt < l10.toInt → ∃ i0 : Nat, inB h 100 l9 l11 i0 ∧ ∀ v0 : Int32, v0 = gI h l9 i0 → gK h l0 = 9 ∧ ∃ i1 : Nat, inB h 100 (gR h l0 1) v0 i1 ∧ (¬ l4 = 0) ∧ ∀ v1 : Int32, v1 = (aIrem (l3 * (gI h (gR h l0 1) i1)) l4) - l7 → ((0 < v1.toInt → ∀ v2 : Int32, v2 = l8 + 1 → ∀ v3 : Int32, v3 = l11 + 1 → Wp d 231 (98, [some (vR l0), some (vR l1), some (vR l2), some (vI l3), some (vI l4), some (vI l5), some (vI l6), some (vI l7), some (vI v2), some (vR l9), some (vI l10), some (vI v3), none, none], [], h) (RV K X)) ∧ (¬ 0 < v1.toInt → ((v1.toInt = 0 → ∃ i2 : Nat, inB h 100 l1 v0 i2 ∧ ∃ i3 : Nat, inB h 100 l1 l6 i3 ∧ (((gI h l1 i2).toInt < (gI h l1 i3).toInt → ∀ v4 : Int32, v4 = l8 + 1 → ∀ v5 : Int32, v5 = l11 + 1 → Wp d 231 (98, [some (vR l0), some (vR l1), some (vR l2), some (vI l3), some (vI l4), some (vI l5), some (vI l6), some (vI l7), some (vI v4), some (vR l9), some (vI l10), some (vI v5), none, none], [], h) (RV K X)) ∧ (¬ (gI h l1 i2).toInt < (gI h l1 i3).toInt → ∀ v6 : Int32, v6 = l8 + 0 → ∀ v7 : Int32, v7 = l11 + 1 → Wp d 231 (98, [some (vR l0), some (vR l1), some (vR l2), some (vI l3), some (vI l4), some (vI l5), some (vI l6), some (vI l7), some (vI v6), some (vR l9), some (vI l10), some (vI v7), none, none], [], h) (RV K X)))) ∧ (¬ v1.toInt = 0 → ∀ v8 : Int32, v8 = l8 + 0 → ∀ v9 : Int32, v9 = l11 + 1 → Wp d 231 (98, [some (vR l0), some (vR l1), some (vR l2), some (vI l3), some (vI l4), some (vI l5), some (vI l6), some (vI l7), some (vI v8), some (vR l9), some (vI l10), some (vI v9), none, none], [], h) (RV K X)))))) ∧ (¬ l11.toInt < l10.toInt → ∃ i4 : Nat, inB h 100 l1 l6 i4 ∧ (((gI h l1 i4).toInt = (-2000000) → ∀ v10 : Int32, v10 = l6 + 1 → Wp d 231 (60, [some (vR l0), some (vR l1), some (vR l2), some (vI l3), some (vI l4), some (vI l5), some (vI v10), none, none, none, none, none, none, none], [], h) (RV K X)) ∧ (¬ (gI h l1 i4).toInt = (-2000000) → gK h l0 = 9 ∧ ∃ i5 : Nat, inB h 100 (gR h l0 1) l6 i5 ∧ (¬ l4 = 0) ∧ ((l8.toInt < l5.toInt → 8 ≤ (gR h l0 0) ∧ ∃ i6 : Nat, inB h 100 (gR h l0 0) l6 i6 ∧ ∀ h0 : aH, h0 = pI h (gR h l0 0) i6 (((l3 * (gI h (gR h l0 1) i5)) / l4) + 1) → ∀ v11 : Int32, v11 = l6 + 1 → Wp d 231 (60, [some (vR l0), some (vR l1), some (vR l2), some (vI l3), some (vI l4), some (vI l5), some (vI v11), none, none, none, none, none, none, none], [], h0) (RV K X)) ∧ (¬ l8.toInt < l5.toInt → 8 ≤ (gR h l0 0) ∧ ∃ i7 : Nat, inB h 100 (gR h l0 0) l6 i7 ∧ ∀ h1 : aH, h1 = pI h (gR h l0 0) i7 (((l3 * (gI h (gR h l0 1) i5)) / l4) + 0) → ∀ v12 : Int32, v12 = l6 + 1 → Wp d 231 (60, [some (vR l0), some (vR l1), some (vR l2), some (vI l3), some (vI l4), some (vI l5), some (vI v12), none, none, none, none, none, none, none], [], h1) (RV K X)))))))) : Wp d 231 (98, [some (vR l0), some (vR l1), some (vR l2), some (vI l3), some (vI l4), some (vI l5), some (vI l6), some (vI l7), some (vI l8), some (vR l9), some (vI l10), some (vI l11), none, none], [], h) (RV K X) := by
  refine wp_iload' (L' := [some (vR l0), some (vR l1), some (vR l2), some (vI l3), some (vI l4), some (vI l5), some (vI l6), some (vI l7), some (vI l8), some (vR l9), some (vI l10), some (vI l11), none, none]) rfl rfl rfl rfl ?_
  refine wp_iload rfl rfl rfl ?_
  refine wp_icmp_ge rfl rfl rfl rfl rfl (fun c => ?_) (fun c => ?_)
  · replace F := F.1 c
    refine wp_aload rfl rfl rfl ?_
    refine wp_iload rfl rfl rfl ?_
    obtain ⟨i0, b9, F⟩ := F
    refine wp_iaload rfl b9 rfl ?_
    replace F := F _ rfl
    generalize (gI h l9 i0 : Int32) = v0 at F ⊢
    refine wp_istore (L2 := [some (vR l0), some (vR l1), some (vR l2), some (vI l3), some (vI l4), some (vI l5), some (vI l6), some (vI l7), some (vI l8), some (vR l9), some (vI l10), some (vI l11), some (vI v0), none]) rfl rfl rfl rfl ?_
    refine wp_iload rfl rfl rfl ?_
    refine wp_aload rfl rfl rfl ?_
    obtain ⟨f0, F⟩ := F
    refine wp_getR rfl rfl rfl f0 rfl ?_
    refine wp_iload rfl rfl rfl ?_
    obtain ⟨i1, b9, F⟩ := F
    refine wp_iaload rfl b9 rfl ?_
    refine wp_imul rfl rfl ?_
    refine wp_iload rfl rfl rfl ?_
    refine wp_irem rfl F.1 rfl ?_
    replace F := F.2
    refine wp_iload rfl rfl rfl ?_
    refine wp_isub rfl rfl ?_
    replace F := F _ rfl
    generalize ((aIrem (l3 * (gI h (gR h l0 1) i1)) l4) - l7 : Int32) = v1 at F ⊢
    refine wp_istore (L2 := [some (vR l0), some (vR l1), some (vR l2), some (vI l3), some (vI l4), some (vI l5), some (vI l6), some (vI l7), some (vI l8), some (vR l9), some (vI l10), some (vI l11), some (vI v0), some (vI v1)]) rfl rfl rfl rfl ?_
    refine wp_iload rfl rfl rfl ?_
    refine wp_iload rfl rfl rfl ?_
    refine wp_if_gt rfl rfl rfl rfl (fun c => ?_) (fun c => ?_)
    · replace F := F.1 c
      refine wp_const' (L' := [some (vR l0), some (vR l1), some (vR l2), some (vI l3), some (vI l4), some (vI l5), some (vI l6), some (vI l7), none, some (vR l9), some (vI l10), some (vI l11), none, none]) rfl rfl rfl ?_
      refine wp_goto rfl rfl ?_
      refine wp_iadd' (L' := [some (vR l0), some (vR l1), some (vR l2), some (vI l3), some (vI l4), some (vI l5), some (vI l6), some (vI l7), none, some (vR l9), some (vI l10), some (vI l11), none, none]) rfl rfl rfl ?_
      replace F := F _ rfl
      generalize (l8 + 1 : Int32) = v2 at F ⊢
      refine wp_istore (L2 := [some (vR l0), some (vR l1), some (vR l2), some (vI l3), some (vI l4), some (vI l5), some (vI l6), some (vI l7), some (vI v2), some (vR l9), some (vI l10), some (vI l11), none, none]) rfl rfl rfl rfl ?_
      refine wp_iinc (y := 1) (L2 := [some (vR l0), some (vR l1), some (vR l2), some (vI l3), some (vI l4), some (vI l5), some (vI l6), some (vI l7), some (vI v2), some (vR l9), some (vI l10), some (vI (l11 + 1)), none, none]) rfl rfl rfl rfl rfl ?_
      replace F := F _ rfl
      generalize (l11 + 1 : Int32) = v3 at F ⊢
      refine wp_goto rfl rfl ?_
      exact F
    · replace F := F.2 c
      refine wp_iload rfl rfl rfl ?_
      refine wp_if_ne rfl rfl rfl rfl (fun c => ?_) (fun c => ?_)
      · replace F := F.1 c
        refine wp_aload rfl rfl rfl ?_
        refine wp_iload rfl rfl rfl ?_
        obtain ⟨i2, b9, F⟩ := F
        refine wp_iaload rfl b9 rfl ?_
        refine wp_aload rfl rfl rfl ?_
        refine wp_iload rfl rfl rfl ?_
        obtain ⟨i3, b9, F⟩ := F
        refine wp_iaload rfl b9 rfl ?_
        refine wp_icmp_ge rfl rfl rfl rfl rfl (fun c => ?_) (fun c => ?_)
        · replace F := F.1 c
          refine wp_const' (L' := [some (vR l0), some (vR l1), some (vR l2), some (vI l3), some (vI l4), some (vI l5), some (vI l6), some (vI l7), none, some (vR l9), some (vI l10), some (vI l11), none, none]) rfl rfl rfl ?_
          refine wp_goto rfl rfl ?_
          refine wp_iadd' (L' := [some (vR l0), some (vR l1), some (vR l2), some (vI l3), some (vI l4), some (vI l5), some (vI l6), some (vI l7), none, some (vR l9), some (vI l10), some (vI l11), none, none]) rfl rfl rfl ?_
          replace F := F _ rfl
          generalize (l8 + 1 : Int32) = v4 at F ⊢
          refine wp_istore (L2 := [some (vR l0), some (vR l1), some (vR l2), some (vI l3), some (vI l4), some (vI l5), some (vI l6), some (vI l7), some (vI v4), some (vR l9), some (vI l10), some (vI l11), none, none]) rfl rfl rfl rfl ?_
          refine wp_iinc (y := 1) (L2 := [some (vR l0), some (vR l1), some (vR l2), some (vI l3), some (vI l4), some (vI l5), some (vI l6), some (vI l7), some (vI v4), some (vR l9), some (vI l10), some (vI (l11 + 1)), none, none]) rfl rfl rfl rfl rfl ?_
          replace F := F _ rfl
          generalize (l11 + 1 : Int32) = v5 at F ⊢
          refine wp_goto rfl rfl ?_
          exact F
        · replace F := F.2 c
          refine wp_const' (L' := [some (vR l0), some (vR l1), some (vR l2), some (vI l3), some (vI l4), some (vI l5), some (vI l6), some (vI l7), none, some (vR l9), some (vI l10), some (vI l11), none, none]) rfl rfl rfl ?_
          refine wp_iadd' (L' := [some (vR l0), some (vR l1), some (vR l2), some (vI l3), some (vI l4), some (vI l5), some (vI l6), some (vI l7), none, some (vR l9), some (vI l10), some (vI l11), none, none]) rfl rfl rfl ?_
          replace F := F _ rfl
          generalize (l8 + 0 : Int32) = v6 at F ⊢
          refine wp_istore (L2 := [some (vR l0), some (vR l1), some (vR l2), some (vI l3), some (vI l4), some (vI l5), some (vI l6), some (vI l7), some (vI v6), some (vR l9), some (vI l10), some (vI l11), none, none]) rfl rfl rfl rfl ?_
          refine wp_iinc (y := 1) (L2 := [some (vR l0), some (vR l1), some (vR l2), some (vI l3), some (vI l4), some (vI l5), some (vI l6), some (vI l7), some (vI v6), some (vR l9), some (vI l10), some (vI (l11 + 1)), none, none]) rfl rfl rfl rfl rfl ?_
          replace F := F _ rfl
          generalize (l11 + 1 : Int32) = v7 at F ⊢
          refine wp_goto rfl rfl ?_
          exact F
      · replace F := F.2 c
        refine wp_const' (L' := [some (vR l0), some (vR l1), some (vR l2), some (vI l3), some (vI l4), some (vI l5), some (vI l6), some (vI l7), none, some (vR l9), some (vI l10), some (vI l11), none, none]) rfl rfl rfl ?_
        refine wp_iadd' (L' := [some (vR l0), some (vR l1), some (vR l2), some (vI l3), some (vI l4), some (vI l5), some (vI l6), some (vI l7), none, some (vR l9), some (vI l10), some (vI l11), none, none]) rfl rfl rfl ?_
        replace F := F _ rfl
        generalize (l8 + 0 : Int32) = v8 at F ⊢
        refine wp_istore (L2 := [some (vR l0), some (vR l1), some (vR l2), some (vI l3), some (vI l4), some (vI l5), some (vI l6), some (vI l7), some (vI v8), some (vR l9), some (vI l10), some (vI l11), none, none]) rfl rfl rfl rfl ?_
        refine wp_iinc (y := 1) (L2 := [some (vR l0), some (vR l1), some (vR l2), some (vI l3), some (vI l4), some (vI l5), some (vI l6), some (vI l7), some (vI v8), some (vR l9), some (vI l10), some (vI (l11 + 1)), none, none]) rfl rfl rfl rfl rfl ?_
        replace F := F _ rfl
        generalize (l11 + 1 : Int32) = v9 at F ⊢
        refine wp_goto rfl rfl ?_
        exact F
  · replace F := F.2 c
    refine wp_aload' (L' := [some (vR l0), some (vR l1), some (vR l2), some (vI l3), some (vI l4), some (vI l5), some (vI l6), none, some (vI l8), none, none, none, none, none]) rfl rfl rfl rfl ?_
    refine wp_iload rfl rfl rfl ?_
    obtain ⟨i4, b9, F⟩ := F
    refine wp_iaload rfl b9 rfl ?_
    refine wp_const rfl rfl ?_
    refine wp_icmp_eq (Y := (-2000000)) rfl rfl rfl rfl rfl (fun c => ?_) (fun c => ?_)
    · replace F := F.1 c
      refine wp_iinc' (L' := [some (vR l0), some (vR l1), some (vR l2), some (vI l3), some (vI l4), some (vI l5), some (vI l6), none, none, none, none, none, none, none]) (y := 1) (L2 := [some (vR l0), some (vR l1), some (vR l2), some (vI l3), some (vI l4), some (vI l5), some (vI (l6 + 1)), none, none, none, none, none, none, none]) rfl rfl rfl rfl rfl rfl ?_
      replace F := F _ rfl
      generalize (l6 + 1 : Int32) = v10 at F ⊢
      refine wp_goto rfl rfl ?_
      exact F
    · replace F := F.2 c
      refine wp_aload rfl rfl rfl ?_
      obtain ⟨f1, F⟩ := F
      refine wp_getR rfl rfl rfl f1 rfl ?_
      refine wp_iload rfl rfl rfl ?_
      refine wp_iload rfl rfl rfl ?_
      refine wp_aload rfl rfl rfl ?_
      refine wp_getR rfl rfl rfl f1 rfl ?_
      refine wp_iload rfl rfl rfl ?_
      obtain ⟨i5, b9, F⟩ := F
      refine wp_iaload rfl b9 rfl ?_
      refine wp_imul rfl rfl ?_
      refine wp_iload rfl rfl rfl ?_
      refine wp_idiv rfl F.1 rfl ?_
      replace F := F.2
      refine wp_iload rfl rfl rfl ?_
      refine wp_iload rfl rfl rfl ?_
      refine wp_icmp_ge rfl rfl rfl rfl rfl (fun c => ?_) (fun c => ?_)
      · replace F := F.1 c
        refine wp_const rfl rfl ?_
        refine wp_goto rfl rfl ?_
        refine wp_iadd' (L' := [some (vR l0), some (vR l1), some (vR l2), some (vI l3), some (vI l4), some (vI l5), some (vI l6), none, none, none, none, none, none, none]) rfl rfl rfl ?_
        obtain ⟨f2, F⟩ := F
        obtain ⟨i6, b9, F⟩ := F
        refine wp_iastore rfl f2 b9 rfl ?_
        have f3 : gK (pI h (gR h l0 0) i6 (((l3 * (gI h (gR h l0 1) i5)) / l4) + 1)) l0 = 9 := (gK_pI _ _ _ _ _).trans f1
        replace F := F _ rfl
        generalize pI h (gR h l0 0) i6 (((l3 * (gI h (gR h l0 1) i5)) / l4) + 1) = h0 at F f3 ⊢
        refine wp_iinc' (L' := [some (vR l0), some (vR l1), some (vR l2), some (vI l3), some (vI l4), some (vI l5), some (vI l6), none, none, none, none, none, none, none]) (y := 1) (L2 := [some (vR l0), some (vR l1), some (vR l2), some (vI l3), some (vI l4), some (vI l5), some (vI (l6 + 1)), none, none, none, none, none, none, none]) rfl rfl rfl rfl rfl rfl ?_
        replace F := F _ rfl
        generalize (l6 + 1 : Int32) = v11 at F ⊢
        refine wp_goto rfl rfl ?_
        exact F
      · replace F := F.2 c
        refine wp_const' (L' := [some (vR l0), some (vR l1), some (vR l2), some (vI l3), some (vI l4), some (vI l5), some (vI l6), none, none, none, none, none, none, none]) rfl rfl rfl ?_
        refine wp_iadd' (L' := [some (vR l0), some (vR l1), some (vR l2), some (vI l3), some (vI l4), some (vI l5), some (vI l6), none, none, none, none, none, none, none]) rfl rfl rfl ?_
        obtain ⟨f4, F⟩ := F
        obtain ⟨i7, b9, F⟩ := F
        refine wp_iastore rfl f4 b9 rfl ?_
        have f5 : gK (pI h (gR h l0 0) i7 (((l3 * (gI h (gR h l0 1) i5)) / l4) + 0)) l0 = 9 := (gK_pI _ _ _ _ _).trans f1
        replace F := F _ rfl
        generalize pI h (gR h l0 0) i7 (((l3 * (gI h (gR h l0 1) i5)) / l4) + 0) = h1 at F f5 ⊢
        refine wp_iinc' (L' := [some (vR l0), some (vR l1), some (vR l2), some (vI l3), some (vI l4), some (vI l5), some (vI l6), none, none, none, none, none, none, none]) (y := 1) (L2 := [some (vR l0), some (vR l1), some (vR l2), some (vI l3), some (vI l4), some (vI l5), some (vI (l6 + 1)), none, none, none, none, none, none, none]) rfl rfl rfl rfl rfl rfl ?_
        replace F := F _ rfl
        generalize (l6 + 1 : Int32) = v12 at F ⊢
        refine wp_goto rfl rfl ?_
        exact F
-- CensusOffice$Sample key (II)I
theorem m232 {d : Nat} {a0 : Nat} {a1 : Int32} {a2 : Int32} {h : aH} {K : Int32 → aH → Prop} {X : Nat → aH → Prop} (F : ∀ v0 : Int32, v0 = a1 ^^^ (a2 * (-1640531527)) → ∀ v1 : Int32, v1 = v0 * (-2048144789) → ∀ v2 : Int32, v2 = v1 ^^^ (aUshr v1 13) → ∀ v3 : Int32, v3 = v2 * (-1028477387) → K (v3 ^^^ (aUshr v3 16)) h) : CI d 232 [vR a0, vI a1, vI a2] h K X := by
  show Wp d 232 (0, [some (vR a0), some (vI a1), some (vI a2), none], [], h) (RI K X)
  refine wp_iload rfl rfl rfl ?_
  refine wp_iload rfl rfl rfl ?_
  refine wp_const rfl rfl ?_
  refine wp_imul rfl rfl ?_
  refine wp_ixor rfl rfl ?_
  replace F := F _ rfl
  generalize (a1 ^^^ (a2 * (-1640531527)) : Int32) = v0 at F ⊢
  refine wp_istore (L2 := [some (vR a0), some (vI a1), some (vI a2), some (vI v0)]) rfl rfl rfl rfl ?_
  refine wp_iload rfl rfl rfl ?_
  refine wp_const rfl rfl ?_
  refine wp_imul rfl rfl ?_
  replace F := F _ rfl
  generalize (v0 * (-2048144789) : Int32) = v1 at F ⊢
  refine wp_istore (L2 := [some (vR a0), some (vI a1), some (vI a2), some (vI v1)]) rfl rfl rfl rfl ?_
  refine wp_iload rfl rfl rfl ?_
  refine wp_iload rfl rfl rfl ?_
  refine wp_const rfl rfl ?_
  refine wp_iushr rfl rfl ?_
  refine wp_ixor rfl rfl ?_
  replace F := F _ rfl
  generalize (v1 ^^^ (aUshr v1 13) : Int32) = v2 at F ⊢
  refine wp_istore (L2 := [some (vR a0), some (vI a1), some (vI a2), some (vI v2)]) rfl rfl rfl rfl ?_
  refine wp_iload rfl rfl rfl ?_
  refine wp_const rfl rfl ?_
  refine wp_imul rfl rfl ?_
  replace F := F _ rfl
  generalize (v2 * (-1028477387) : Int32) = v3 at F ⊢
  refine wp_istore (L2 := [some (vR a0), some (vI a1), some (vI a2), some (vI v3)]) rfl rfl rfl rfl ?_
  refine wp_iload rfl rfl rfl ?_
  refine wp_iload rfl rfl rfl ?_
  refine wp_const rfl rfl ?_
  refine wp_iushr rfl rfl ?_
  refine wp_ixor rfl rfl ?_
  exact wp_retI rfl (Or.inl rfl) F
-- CensusOffice$Sample rank ([III)I
theorem m233 {d : Nat} {a0 : Nat} {a1 : Nat} {a2 : Int32} {a3 : Int32} {h : aH} {K : Int32 → aH → Prop} {X : Nat → aH → Prop} (F : 8 ≤ a0 ∧ gK h a0 = 9 ∧ CI d 232 [vR a0, vI a3, vI a2] h (fun y0 h0 => Wp (d + 1) 233 (14, [some (vR a0), some (vR a1), some (vI a2), some (vI a3), some (vI 0), some (vI y0), some (vI 0), none], [], h0) (RI K X)) X) : CI (d + 1) 233 [vR a0, vR a1, vI a2, vI a3] h K X := by
  show Wp (d + 1) 233 (0, [some (vR a0), some (vR a1), some (vI a2), some (vI a3), none, none, none, none], [], h) (RI K X)
  refine wp_const rfl rfl ?_
  refine wp_istore (L2 := [some (vR a0), some (vR a1), some (vI a2), some (vI a3), some (vI 0), none, none, none]) rfl rfl rfl rfl ?_
  refine wp_aload rfl rfl rfl ?_
  refine wp_iload rfl rfl rfl ?_
  refine wp_iload rfl rfl rfl ?_
  obtain ⟨f0, F⟩ := F
  obtain ⟨f1, F⟩ := F
  refine wp_callI rfl rfl rfl (rcv_v f0 f1 (by decide) (by decide)) rfl rfl rfl rfl ?_
  refine CI.mono F (fun y0 h0 F => ?_) (fun _ _ w => rx_I w)
  refine wp_istore (L2 := [some (vR a0), some (vR a1), some (vI a2), some (vI a3), some (vI 0), some (vI y0), none, none]) rfl rfl rfl rfl ?_
  refine wp_const rfl rfl ?_
  refine wp_istore (L2 := [some (vR a0), some (vR a1), some (vI a2), some (vI a3), some (vI 0), some (vI y0), some (vI 0), none]) rfl rfl rfl rfl ?_
  exact F
theorem w233_14 {d : Nat} {l0 : Nat} {l1 : Nat} {l2 : Int32} {l3 : Int32} {l4 : Int32} {l5 : Int32} {l6 : Int32} {h : aH} {K : Int32 → aH → Prop} {X : Nat → aH → Prop} (F : gK h l0 = 9 ∧ (100 ≤ gK h (gR h l0 2) ∧ gK h (gR h l0 2) ≤ 106) ∧ ((l6.toInt < (nI (gL h (gR h l0 2))).toInt → ∃ i0 : Nat, inB h 100 l1 l6 i0 ∧ ∃ i1 : Nat, inB h 100 l1 l2 i1 ∧ (((gI h l1 i0).toInt = (gI h l1 i1).toInt → 8 ≤ l0 ∧ CI d 232 [vR l0, vI l3, vI l6] h (fun y0 h0 => ((y0.toInt < l5.toInt → ∀ v0 : Int32, v0 = l4 + 1 → ∀ v1 : Int32, v1 = l6 + 1 → Wp (d + 1) 233 (14, [some (vR l0), some (vR l1), some (vI l2), some (vI l3), some (vI v0), some (vI l5), some (vI v1), none], [], h0) (RI K X)) ∧ (¬ y0.toInt < l5.toInt → ((y0.toInt = l5.toInt → ((l6.toInt < l2.toInt → ∀ v2 : Int32, v2 = l4 + 1 → ∀ v3 : Int32, v3 = l6 + 1 → Wp (d + 1) 233 (14, [some (vR l0), some (vR l1), some (vI l2), some (vI l3), some (vI v2), some (vI l5), some (vI v3), none], [], h0) (RI K X)) ∧ (¬ l6.toInt < l2.toInt → ∀ v4 : Int32, v4 = l4 + 0 → ∀ v5 : Int32, v5 = l6 + 1 → Wp (d + 1) 233 (14, [some (vR l0), some (vR l1), some (vI l2), some (vI l3), some (vI v4), some (vI l5), some (vI v5), none], [], h0) (RI K X)))) ∧ (¬ y0.toInt = l5.toInt → ∀ v6 : Int32, v6 = l4 + 0 → ∀ v7 : Int32, v7 = l6 + 1 → Wp (d + 1) 233 (14, [some (vR l0), some (vR l1), some (vI l2), some (vI l3), some (vI v6), some (vI l5), some (vI v7), none], [], h0) (RI K X)))))) X) ∧ (¬ (gI h l1 i0).toInt = (gI h l1 i1).toInt → ∀ v8 : Int32, v8 = l6 + 1 → Wp (d + 1) 233 (14, [some (vR l0), some (vR l1), some (vI l2), some (vI l3), some (vI l4), some (vI l5), some (vI v8), none], [], h) (RI K X)))) ∧ (¬ l6.toInt < (nI (gL h (gR h l0 2))).toInt → K l4 h))) : Wp (d + 1) 233 (14, [some (vR l0), some (vR l1), some (vI l2), some (vI l3), some (vI l4), some (vI l5), some (vI l6), none], [], h) (RI K X) := by
  refine wp_iload' (L' := [some (vR l0), some (vR l1), some (vI l2), some (vI l3), some (vI l4), some (vI l5), some (vI l6), none]) rfl rfl rfl rfl ?_
  refine wp_aload rfl rfl rfl ?_
  obtain ⟨f0, F⟩ := F
  refine wp_getR rfl rfl rfl f0 rfl ?_
  obtain ⟨f1, F⟩ := F
  refine wp_alen rfl f1 rfl ?_
  refine wp_icmp_ge rfl rfl rfl rfl rfl (fun c => ?_) (fun c => ?_)
  · replace F := F.1 c
    refine wp_aload rfl rfl rfl ?_
    refine wp_iload rfl rfl rfl ?_
    obtain ⟨i0, b9, F⟩ := F
    refine wp_iaload rfl b9 rfl ?_
    refine wp_aload rfl rfl rfl ?_
    refine wp_iload rfl rfl rfl ?_
    obtain ⟨i1, b9, F⟩ := F
    refine wp_iaload rfl b9 rfl ?_
    refine wp_icmp_ne rfl rfl rfl rfl rfl (fun c => ?_) (fun c => ?_)
    · replace F := F.1 c
      refine wp_aload rfl rfl rfl ?_
      refine wp_iload rfl rfl rfl ?_
      refine wp_iload rfl rfl rfl ?_
      obtain ⟨f2, F⟩ := F
      refine wp_callI rfl rfl rfl (rcv_v f2 f0 (by decide) (by decide)) rfl rfl rfl rfl ?_
      refine CI.mono F (fun y0 h0 F => ?_) (fun _ _ w => rx_I w)
      refine wp_istore (L2 := [some (vR l0), some (vR l1), some (vI l2), some (vI l3), some (vI l4), some (vI l5), some (vI l6), some (vI y0)]) rfl rfl rfl rfl ?_
      refine wp_iload rfl rfl rfl ?_
      refine wp_iload rfl rfl rfl ?_
      refine wp_iload rfl rfl rfl ?_
      refine wp_icmp_lt rfl rfl rfl rfl rfl (fun c => ?_) (fun c => ?_)
      · replace F := F.1 c
        refine wp_const' (L' := [some (vR l0), some (vR l1), some (vI l2), some (vI l3), none, some (vI l5), some (vI l6), none]) rfl rfl rfl ?_
        refine wp_goto rfl rfl ?_
        refine wp_iadd' (L' := [some (vR l0), some (vR l1), some (vI l2), some (vI l3), none, some (vI l5), some (vI l6), none]) rfl rfl rfl ?_
        replace F := F _ rfl
        generalize (l4 + 1 : Int32) = v0 at F ⊢
        refine wp_istore (L2 := [some (vR l0), some (vR l1), some (vI l2), some (vI l3), some (vI v0), some (vI l5), some (vI l6), none]) rfl rfl rfl rfl ?_
        refine wp_iinc' (L' := [some (vR l0), some (vR l1), some (vI l2), some (vI l3), some (vI v0), some (vI l5), some (vI l6), none]) (y := 1) (L2 := [some (vR l0), some (vR l1), some (vI l2), some (vI l3), some (vI v0), some (vI l5), some (vI (l6 + 1)), none]) rfl rfl rfl rfl rfl rfl ?_
        replace F := F _ rfl
        generalize (l6 + 1 : Int32) = v1 at F ⊢
        refine wp_goto rfl rfl ?_
        exact F
      · replace F := F.2 c
        refine wp_iload rfl rfl rfl ?_
        refine wp_iload rfl rfl rfl ?_
        refine wp_icmp_ne rfl rfl rfl rfl rfl (fun c => ?_) (fun c => ?_)
        · replace F := F.1 c
          refine wp_iload rfl rfl rfl ?_
          refine wp_iload rfl rfl rfl ?_
          refine wp_icmp_ge rfl rfl rfl rfl rfl (fun c => ?_) (fun c => ?_)
          · replace F := F.1 c
            refine wp_const' (L' := [some (vR l0), some (vR l1), some (vI l2), some (vI l3), none, some (vI l5), some (vI l6), none]) rfl rfl rfl ?_
            refine wp_goto rfl rfl ?_
            refine wp_iadd' (L' := [some (vR l0), some (vR l1), some (vI l2), some (vI l3), none, some (vI l5), some (vI l6), none]) rfl rfl rfl ?_
            replace F := F _ rfl
            generalize (l4 + 1 : Int32) = v2 at F ⊢
            refine wp_istore (L2 := [some (vR l0), some (vR l1), some (vI l2), some (vI l3), some (vI v2), some (vI l5), some (vI l6), none]) rfl rfl rfl rfl ?_
            refine wp_iinc' (L' := [some (vR l0), some (vR l1), some (vI l2), some (vI l3), some (vI v2), some (vI l5), some (vI l6), none]) (y := 1) (L2 := [some (vR l0), some (vR l1), some (vI l2), some (vI l3), some (vI v2), some (vI l5), some (vI (l6 + 1)), none]) rfl rfl rfl rfl rfl rfl ?_
            replace F := F _ rfl
            generalize (l6 + 1 : Int32) = v3 at F ⊢
            refine wp_goto rfl rfl ?_
            exact F
          · replace F := F.2 c
            refine wp_const' (L' := [some (vR l0), some (vR l1), some (vI l2), some (vI l3), none, some (vI l5), some (vI l6), none]) rfl rfl rfl ?_
            refine wp_iadd' (L' := [some (vR l0), some (vR l1), some (vI l2), some (vI l3), none, some (vI l5), some (vI l6), none]) rfl rfl rfl ?_
            replace F := F _ rfl
            generalize (l4 + 0 : Int32) = v4 at F ⊢
            refine wp_istore (L2 := [some (vR l0), some (vR l1), some (vI l2), some (vI l3), some (vI v4), some (vI l5), some (vI l6), none]) rfl rfl rfl rfl ?_
            refine wp_iinc' (L' := [some (vR l0), some (vR l1), some (vI l2), some (vI l3), some (vI v4), some (vI l5), some (vI l6), none]) (y := 1) (L2 := [some (vR l0), some (vR l1), some (vI l2), some (vI l3), some (vI v4), some (vI l5), some (vI (l6 + 1)), none]) rfl rfl rfl rfl rfl rfl ?_
            replace F := F _ rfl
            generalize (l6 + 1 : Int32) = v5 at F ⊢
            refine wp_goto rfl rfl ?_
            exact F
        · replace F := F.2 c
          refine wp_const' (L' := [some (vR l0), some (vR l1), some (vI l2), some (vI l3), none, some (vI l5), some (vI l6), none]) rfl rfl rfl ?_
          refine wp_iadd' (L' := [some (vR l0), some (vR l1), some (vI l2), some (vI l3), none, some (vI l5), some (vI l6), none]) rfl rfl rfl ?_
          replace F := F _ rfl
          generalize (l4 + 0 : Int32) = v6 at F ⊢
          refine wp_istore (L2 := [some (vR l0), some (vR l1), some (vI l2), some (vI l3), some (vI v6), some (vI l5), some (vI l6), none]) rfl rfl rfl rfl ?_
          refine wp_iinc' (L' := [some (vR l0), some (vR l1), some (vI l2), some (vI l3), some (vI v6), some (vI l5), some (vI l6), none]) (y := 1) (L2 := [some (vR l0), some (vR l1), some (vI l2), some (vI l3), some (vI v6), some (vI l5), some (vI (l6 + 1)), none]) rfl rfl rfl rfl rfl rfl ?_
          replace F := F _ rfl
          generalize (l6 + 1 : Int32) = v7 at F ⊢
          refine wp_goto rfl rfl ?_
          exact F
    · replace F := F.2 c
      refine wp_iinc' (L' := [some (vR l0), some (vR l1), some (vI l2), some (vI l3), some (vI l4), some (vI l5), some (vI l6), none]) (y := 1) (L2 := [some (vR l0), some (vR l1), some (vI l2), some (vI l3), some (vI l4), some (vI l5), some (vI (l6 + 1)), none]) rfl rfl rfl rfl rfl rfl ?_
      replace F := F _ rfl
      generalize (l6 + 1 : Int32) = v8 at F ⊢
      refine wp_goto rfl rfl ?_
      exact F
  · replace F := F.2 c
    refine wp_iload' (L' := [none, none, none, none, some (vI l4), none, none, none]) rfl rfl rfl rfl ?_
    exact wp_retI rfl (Or.inl rfl) F
-- CensusOffice$Sample commonDivisor (II)I
theorem m234 {d : Nat} {a0 : Nat} {a1 : Int32} {a2 : Int32} {h : aH} {K : Int32 → aH → Prop} {X : Nat → aH → Prop} (F : CI d 0 [vI a1, vI a2] h (fun y0 h0 => CI d 19 [vI a1, vI a2] h0 (fun y1 h1 => Wp (d + 1) 234 (16, [none, none, none, some (vI y0), some (vI y1), some (vI 0), none], [], h1) (RI K X)) X) X) : CI (d + 1) 234 [vR a0, vI a1, vI a2] h K X := by
  show Wp (d + 1) 234 (0, [some (vR a0), some (vI a1), some (vI a2), none, none, none, none], [], h) (RI K X)
  refine wp_iload rfl rfl rfl ?_
  refine wp_iload rfl rfl rfl ?_
  refine wp_callI rfl rfl rfl rfl rfl rfl rfl rfl ?_
  refine CI.mono F (fun y0 h0 F => ?_) (fun _ _ w => rx_I w)
  refine wp_istore (L2 := [some (vR a0), some (vI a1), some (vI a2), some (vI y0), none, none, none]) rfl rfl rfl rfl ?_
  refine wp_iload rfl rfl rfl ?_
  refine wp_iload rfl rfl rfl ?_
  refine wp_callI rfl rfl rfl rfl rfl rfl rfl rfl ?_
  refine CI.mono F (fun y1 h1 F => ?_) (fun _ _ w => rx_I w)
  refine wp_istore (L2 := [some (vR a0), some (vI a1), some (vI a2), some (vI y0), some (vI y1), none, none]) rfl rfl rfl rfl ?_
  refine wp_const rfl rfl ?_
  refine wp_istore (L2 := [some (vR a0), some (vI a1), some (vI a2), some (vI y0), some (vI y1), some (vI 0), none]) rfl rfl rfl rfl ?_
  refine wp_kill (L' := [none, none, none, some (vI y0), some (vI y1), some (vI 0), none]) rfl rfl ?_
  exact F
theorem w234_16 {d : Nat} {l3 : Int32} {l4 : Int32} {l5 : Int32} {h : aH} {K : Int32 → aH → Prop} {X : Nat → aH → Prop} (F : ((l5.toInt < 100 → ((0 < l4.toInt → (¬ l4 = 0) ∧ ∀ v0 : Int32, v0 = aIrem l3 l4 → ∀ v1 : Int32, v1 = l5 + 1 → Wp (d + 1) 234 (16, [none, none, none, some (vI l4), some (vI v0), some (vI v1), none], [], h) (RI K X)) ∧ (¬ 0 < l4.toInt → K l3 h))) ∧ (¬ l5.toInt < 100 → K l3 h))) : Wp (d + 1) 234 (16, [none, none, none, some (vI l3), some (vI l4), some (vI l5), none], [], h) (RI K X) := by
  refine wp_iload' (L' := [none, none, none, some (vI l3), some (vI l4), some (vI l5), none]) rfl rfl rfl rfl ?_
  refine wp_const rfl rfl ?_
  refine wp_icmp_ge (Y := 100) rfl rfl rfl rfl rfl (fun c => ?_) (fun c => ?_)
  · replace F := F.1 c
    refine wp_iload rfl rfl rfl ?_
    refine wp_if_le rfl rfl rfl rfl (fun c => ?_) (fun c => ?_)
    · replace F := F.1 c
      refine wp_iload rfl rfl rfl ?_
      refine wp_iload rfl rfl rfl ?_
      refine wp_irem rfl F.1 rfl ?_
      replace F := F.2
      replace F := F _ rfl
      generalize (aIrem l3 l4 : Int32) = v0 at F ⊢
      refine wp_istore (L2 := [none, none, none, some (vI l3), some (vI l4), some (vI l5), some (vI v0)]) rfl rfl rfl rfl ?_
      refine wp_iload rfl rfl rfl ?_
      refine wp_istore (L2 := [none, none, none, some (vI l4), some (vI l4), some (vI l5), some (vI v0)]) rfl rfl rfl rfl ?_
      refine wp_iload rfl rfl rfl ?_
      refine wp_istore (L2 := [none, none, none, some (vI l4), some (vI v0), some (vI l5), some (vI v0)]) rfl rfl rfl rfl ?_
      refine wp_iinc (y := 1) (L2 := [none, none, none, some (vI l4), some (vI v0), some (vI (l5 + 1)), some (vI v0)]) rfl rfl rfl rfl rfl ?_
      replace F := F _ rfl
      generalize (l5 + 1 : Int32) = v1 at F ⊢
      refine wp_goto rfl rfl ?_
      refine wp_kill (L' := [none, none, none, some (vI l4), some (vI v0), some (vI v1), none]) rfl rfl ?_
      exact F
    · replace F := F.2 c
      refine wp_iload' (L' := [none, none, none, some (vI l3), none, none, none]) rfl rfl rfl rfl ?_
      exact wp_retI rfl (Or.inl rfl) F
  · replace F := F.2 c
    refine wp_iload' (L' := [none, none, none, some (vI l3), none, none, none]) rfl rfl rfl rfl ?_
    exact wp_retI rfl (Or.inl rfl) F
-- CensusOffice$Sample draw ([IIII)V
theorem m235 {d : Nat} {a0 : Nat} {a1 : Nat} {a2 : Int32} {a3 : Int32} {a4 : Int32} {h : aH} {K : aH → Prop} {X : Nat → aH → Prop} (F : 8 ≤ a0 ∧ gK h a0 = 9 ∧ CR d 230 [vR a0, vR a1] h (fun q0 h0 => gK h0 a0 = 9 ∧ CV d 231 [vR a0, vR a1, vR q0, vI a2, vI a3] h0 (fun h1 => Wp (d + 1) 235 (15, [some (vR a0), some (vR a1), none, none, some (vI a4), some (vI 0), none], [], h1) (RV K X)) X) X) : CV (d + 1) 235 [vR a0, vR a1, vI a2, vI a3, vI a4] h K X := by
  show Wp (d + 1) 235 (0, [some (vR a0), some (vR a1), some (vI a2), some (vI a3), some (vI a4), none, none], [], h) (RV K X)
  refine wp_aload rfl rfl rfl ?_
  refine wp_aload rfl rfl rfl ?_
  refine wp_aload rfl rfl rfl ?_
  refine wp_aload rfl rfl rfl ?_
  obtain ⟨f0, F⟩ := F
  obtain ⟨f1, F⟩ := F
  refine wp_callR rfl rfl rfl (rcv_v f0 f1 (by decide) (by decide)) rfl rfl rfl rfl ?_
  refine CR.mono F (fun q0 h0 F => ?_) (fun _ _ w => rx_V w)
  refine wp_iload rfl rfl rfl ?_
  refine wp_iload rfl rfl rfl ?_
  obtain ⟨f2, F⟩ := F
  refine wp_callV rfl rfl rfl (rcv_v f0 f2 (by decide) (by decide)) rfl rfl rfl rfl ?_
  refine CV.mono F (fun h1 F => ?_) (fun _ _ w => rx_V w)
  refine wp_const rfl rfl ?_
  refine wp_istore (L2 := [some (vR a0), some (vR a1), some (vI a2), some (vI a3), some (vI a4), some (vI 0), none]) rfl rfl rfl rfl ?_
  refine wp_kill (L' := [some (vR a0), some (vR a1), none, none, some (vI a4), some (vI 0), none]) rfl rfl ?_
  exact F
theorem w235_15 {d : Nat} {l0 : Nat} {l1 : Nat} {l4 : Int32} {l5 : Int32} {h : aH} {K : aH → Prop} {X : Nat → aH → Prop} (F : gK h l0 = 9 ∧ (100 ≤ gK h (gR h l0 2) ∧ gK h (gR h l0 2) ≤ 106) ∧ ((l5.toInt < (nI (gL h (gR h l0 2))).toInt → ∃ i0 : Nat, inB h 100 (gR h l0 0) l5 i0 ∧ ((0 < (gI h (gR h l0 0) i0).toInt → 8 ≤ l0 ∧ CI d 233 [vR l0, vR l1, vI l5, vI l4] h (fun y0 h0 => gK h0 l0 = 9 ∧ ∃ i1 : Nat, inB h0 100 (gR h0 l0 0) l5 i1 ∧ ((y0.toInt < (gI h0 (gR h0 l0 0) i1).toInt → 8 ≤ (gR h l0 2) ∧ ∃ i2 : Nat, inB h0 102 (gR h l0 2) l5 i2 ∧ ∀ h1 : aH, h1 = pI h0 (gR h l0 2) i2 (1 &&& 1) → ∀ v0 : Int32, v0 = l5 + 1 → Wp (d + 1) 235 (15, [some (vR l0), some (vR l1), none, none, some (vI l4), some (vI v0), none], [], h1) (RV K X)) ∧ (¬ y0.toInt < (gI h0 (gR h0 l0 0) i1).toInt → 8 ≤ (gR h l0 2) ∧ ∃ i3 : Nat, inB h0 102 (gR h l0 2) l5 i3 ∧ ∀ h2 : aH, h2 = pI h0 (gR h l0 2) i3 (0 &&& 1) → ∀ v1 : Int32, v1 = l5 + 1 → Wp (d + 1) 235 (15, [some (vR l0), some (vR l1), none, none, some (vI l4), some (vI v1), none], [], h2) (RV K X)))) X) ∧ (¬ 0 < (gI h (gR h l0 0) i0).toInt → 8 ≤ (gR h l0 2) ∧ ∃ i4 : Nat, inB h 102 (gR h l0 2) l5 i4 ∧ ∀ h3 : aH, h3 = pI h (gR h l0 2) i4 (0 &&& 1) → ∀ v2 : Int32, v2 = l5 + 1 → Wp (d + 1) 235 (15, [some (vR l0), some (vR l1), none, none, some (vI l4), some (vI v2), none], [], h3) (RV K X)))) ∧ (¬ l5.toInt < (nI (gL h (gR h l0 2))).toInt → Wp (d + 1) 235 (75, [some (vR l0), none, none, none, none, some (vI 0), none], [], h) (RV K X)))) : Wp (d + 1) 235 (15, [some (vR l0), some (vR l1), none, none, some (vI l4), some (vI l5), none], [], h) (RV K X) := by
  refine wp_iload' (L' := [some (vR l0), some (vR l1), none, none, some (vI l4), some (vI l5), none]) rfl rfl rfl rfl ?_
  refine wp_aload rfl rfl rfl ?_
  obtain ⟨f0, F⟩ := F
  refine wp_getR rfl rfl rfl f0 rfl ?_
  obtain ⟨f1, F⟩ := F
  refine wp_alen rfl f1 rfl ?_
  refine wp_icmp_ge rfl rfl rfl rfl rfl (fun c => ?_) (fun c => ?_)
  · replace F := F.1 c
    refine wp_aload rfl rfl rfl ?_
    refine wp_getR rfl rfl rfl f0 rfl ?_
    refine wp_iload rfl rfl rfl ?_
    refine wp_aload rfl rfl rfl ?_
    refine wp_getR rfl rfl rfl f0 rfl ?_
    refine wp_iload rfl rfl rfl ?_
    obtain ⟨i0, b9, F⟩ := F
    refine wp_iaload rfl b9 rfl ?_
    refine wp_if_le rfl rfl rfl rfl (fun c => ?_) (fun c => ?_)
    · replace F := F.1 c
      refine wp_aload rfl rfl rfl ?_
      refine wp_aload rfl rfl rfl ?_
      refine wp_iload rfl rfl rfl ?_
      refine wp_iload rfl rfl rfl ?_
      obtain ⟨f2, F⟩ := F
      refine wp_callI rfl rfl rfl (rcv_v f2 f0 (by decide) (by decide)) rfl rfl rfl rfl ?_
      refine CI.mono F (fun y0 h0 F => ?_) (fun _ _ w => rx_V w)
      refine wp_aload rfl rfl rfl ?_
      obtain ⟨f3, F⟩ := F
      refine wp_getR rfl rfl rfl f3 rfl ?_
      refine wp_iload rfl rfl rfl ?_
      obtain ⟨i1, b9, F⟩ := F
      refine wp_iaload rfl b9 rfl ?_
      refine wp_icmp_ge rfl rfl rfl rfl rfl (fun c => ?_) (fun c => ?_)
      · replace F := F.1 c
        refine wp_const rfl rfl ?_
        refine wp_goto rfl rfl ?_
        obtain ⟨f4, F⟩ := F
        obtain ⟨i2, b9, F⟩ := F
        refine wp_zastore' (L' := [some (vR l0), some (vR l1), none, none, some (vI l4), some (vI l5), none]) rfl rfl f4 b9 rfl ?_
        have f5 : gK (pI h0 (gR h l0 2) i2 (1 &&& 1)) l0 = 9 := (gK_pI _ _ _ _ _).trans f3
        replace F := F _ rfl
        generalize pI h0 (gR h l0 2) i2 (1 &&& 1) = h1 at F f5 ⊢
        refine wp_iinc (y := 1) (L2 := [some (vR l0), some (vR l1), none, none, some (vI l4), some (vI (l5 + 1)), none]) rfl rfl rfl rfl rfl ?_
        replace F := F _ rfl
        generalize (l5 + 1 : Int32) = v0 at F ⊢
        refine wp_goto rfl rfl ?_
        exact F
      · replace F := F.2 c
        refine wp_const' (L' := [some (vR l0), some (vR l1), none, none, some (vI l4), some (vI l5), none]) rfl rfl rfl ?_
        obtain ⟨f6, F⟩ := F
        obtain ⟨i3, b9, F⟩ := F
        refine wp_zastore' (L' := [some (vR l0), some (vR l1), none, none, some (vI l4), some (vI l5), none]) rfl rfl f6 b9 rfl ?_
        have f7 : gK (pI h0 (gR h l0 2) i3 (0 &&& 1)) l0 = 9 := (gK_pI _ _ _ _ _).trans f3
        replace F := F _ rfl
        generalize pI h0 (gR h l0 2) i3 (0 &&& 1) = h2 at F f7 ⊢
        refine wp_iinc (y := 1) (L2 := [some (vR l0), some (vR l1), none, none, some (vI l4), some (vI (l5 + 1)), none]) rfl rfl rfl rfl rfl ?_
        replace F := F _ rfl
        generalize (l5 + 1 : Int32) = v1 at F ⊢
        refine wp_goto rfl rfl ?_
        exact F
    · replace F := F.2 c
      refine wp_const' (L' := [some (vR l0), some (vR l1), none, none, some (vI l4), some (vI l5), none]) rfl rfl rfl ?_
      obtain ⟨f8, F⟩ := F
      obtain ⟨i4, b9, F⟩ := F
      refine wp_zastore' (L' := [some (vR l0), some (vR l1), none, none, some (vI l4), some (vI l5), none]) rfl rfl f8 b9 rfl ?_
      have f9 : gK (pI h (gR h l0 2) i4 (0 &&& 1)) l0 = 9 := (gK_pI _ _ _ _ _).trans f0
      replace F := F _ rfl
      generalize pI h (gR h l0 2) i4 (0 &&& 1) = h3 at F f9 ⊢
      refine wp_iinc (y := 1) (L2 := [some (vR l0), some (vR l1), none, none, some (vI l4), some (vI (l5 + 1)), none]) rfl rfl rfl rfl rfl ?_
      replace F := F _ rfl
      generalize (l5 + 1 : Int32) = v2 at F ⊢
      refine wp_goto rfl rfl ?_
      exact F
  · replace F := F.2 c
    refine wp_const' (L' := [some (vR l0), none, none, none, none, none, none]) rfl rfl rfl ?_
    refine wp_istore (L2 := [some (vR l0), none, none, none, none, some (vI 0), none]) rfl rfl rfl rfl ?_
    exact F
theorem w235_75 {d : Nat} {l0 : Nat} {l5 : Int32} {h : aH} {K : aH → Prop} {X : Nat → aH → Prop} (F : gK h l0 = 9 ∧ (100 ≤ gK h (gR h l0 2) ∧ gK h (gR h l0 2) ≤ 106) ∧ ((l5.toInt < (nI (gL h (gR h l0 2))).toInt → ∃ i0 : Nat, inB h 100 (gR h l0 0) l5 i0 ∧ ∃ i1 : Nat, inB h 100 (gR h l0 1) l5 i1 ∧ 8 ≤ l0 ∧ CI d 234 [vR l0, vI (gI h (gR h l0 0) i0), vI (gI h (gR h l0 1) i1)] h (fun y0 h0 => ((0 < y0.toInt → gK h0 l0 = 9 ∧ ∃ i2 : Nat, inB h0 100 (gR h0 l0 0) l5 i2 ∧ (¬ y0 = 0) ∧ 8 ≤ (gR h0 l0 0) ∧ ∃ i3 : Nat, inB h0 100 (gR h0 l0 0) l5 i3 ∧ ∀ h1 : aH, h1 = pI h0 (gR h0 l0 0) i3 ((gI h0 (gR h0 l0 0) i2) / y0) → ∃ i4 : Nat, inB h1 100 (gR h1 l0 1) l5 i4 ∧ (¬ y0 = 0) ∧ 8 ≤ (gR h1 l0 1) ∧ ∃ i5 : Nat, inB h1 100 (gR h1 l0 1) l5 i5 ∧ ∀ h2 : aH, h2 = pI h1 (gR h1 l0 1) i5 ((gI h1 (gR h1 l0 1) i4) / y0) → ∀ v0 : Int32, v0 = l5 + 1 → Wp (d + 1) 235 (75, [some (vR l0), none, none, none, none, some (vI v0), none], [], h2) (RV K X)) ∧ (¬ 0 < y0.toInt → gK h0 l0 = 9 ∧ 8 ≤ (gR h0 l0 1) ∧ ∃ i6 : Nat, inB h0 100 (gR h0 l0 1) l5 i6 ∧ ∀ h3 : aH, h3 = pI h0 (gR h0 l0 1) i6 1 → ∀ v1 : Int32, v1 = l5 + 1 → Wp (d + 1) 235 (75, [some (vR l0), none, none, none, none, some (vI v1), none], [], h3) (RV K X)))) X) ∧ (¬ l5.toInt < (nI (gL h (gR h l0 2))).toInt → K h))) : Wp (d + 1) 235 (75, [some (vR l0), none, none, none, none, some (vI l5), none], [], h) (RV K X) := by
  refine wp_iload' (L' := [some (vR l0), none, none, none, none, some (vI l5), none]) rfl rfl rfl rfl ?_
  refine wp_aload rfl rfl rfl ?_
  obtain ⟨f0, F⟩ := F
  refine wp_getR rfl rfl rfl f0 rfl ?_
  obtain ⟨f1, F⟩ := F
  refine wp_alen rfl f1 rfl ?_
  refine wp_icmp_ge rfl rfl rfl rfl rfl (fun c => ?_) (fun c => ?_)
  · replace F := F.1 c
    refine wp_aload rfl rfl rfl ?_
    refine wp_aload rfl rfl rfl ?_
    refine wp_getR rfl rfl rfl f0 rfl ?_
    refine wp_iload rfl rfl rfl ?_
    obtain ⟨i0, b9, F⟩ := F
    refine wp_iaload rfl b9 rfl ?_
    refine wp_aload rfl rfl rfl ?_
    refine wp_getR rfl rfl rfl f0 rfl ?_
    refine wp_iload rfl rfl rfl ?_
    obtain ⟨i1, b9, F⟩ := F
    refine wp_iaload rfl b9 rfl ?_
    obtain ⟨f2, F⟩ := F
    refine wp_callI rfl rfl rfl (rcv_v f2 f0 (by decide) (by decide)) rfl rfl rfl rfl ?_
    refine CI.mono F (fun y0 h0 F => ?_) (fun _ _ w => rx_V w)
    refine wp_istore (L2 := [some (vR l0), none, none, none, none, some (vI l5), some (vI y0)]) rfl rfl rfl rfl ?_
    refine wp_iload rfl rfl rfl ?_
    refine wp_if_le rfl rfl rfl rfl (fun c => ?_) (fun c => ?_)
    · replace F := F.1 c
      refine wp_aload rfl rfl rfl ?_
      obtain ⟨f3, F⟩ := F
      refine wp_getR rfl rfl rfl f3 rfl ?_
      refine wp_iload rfl rfl rfl ?_
      refine wp_dup2 rfl rfl rfl rfl ?_
      obtain ⟨i2, b9, F⟩ := F
      refine wp_iaload rfl b9 rfl ?_
      refine wp_iload rfl rfl rfl ?_
      refine wp_idiv rfl F.1 rfl ?_
      replace F := F.2
      obtain ⟨f4, F⟩ := F
      obtain ⟨i3, b9, F⟩ := F
      refine wp_iastore rfl f4 b9 rfl ?_
      have f5 : gK (pI h0 (gR h0 l0 0) i3 ((gI h0 (gR h0 l0 0) i2) / y0)) l0 = 9 := (gK_pI _ _ _ _ _).trans f3
      replace F := F _ rfl
      generalize pI h0 (gR h0 l0 0) i3 ((gI h0 (gR h0 l0 0) i2) / y0) = h1 at F f5 ⊢
      refine wp_aload rfl rfl rfl ?_
      refine wp_getR rfl rfl rfl f5 rfl ?_
      refine wp_iload rfl rfl rfl ?_
      refine wp_dup2 rfl rfl rfl rfl ?_
      obtain ⟨i4, b9, F⟩ := F
      refine wp_iaload rfl b9 rfl ?_
      refine wp_iload rfl rfl rfl ?_
      refine wp_idiv rfl F.1 rfl ?_
      replace F := F.2
      obtain ⟨f6, F⟩ := F
      obtain ⟨i5, b9, F⟩ := F
      refine wp_iastore rfl f6 b9 rfl ?_
      have f7 : gK (pI h1 (gR h1 l0 1) i5 ((gI h1 (gR h1 l0 1) i4) / y0)) l0 = 9 := (gK_pI _ _ _ _ _).trans f5
      replace F := F _ rfl
      generalize pI h1 (gR h1 l0 1) i5 ((gI h1 (gR h1 l0 1) i4) / y0) = h2 at F f7 ⊢
      refine wp_goto rfl rfl ?_
      refine wp_iinc' (L' := [some (vR l0), none, none, none, none, some (vI l5), none]) (y := 1) (L2 := [some (vR l0), none, none, none, none, some (vI (l5 + 1)), none]) rfl rfl rfl rfl rfl rfl ?_
      replace F := F _ rfl
      generalize (l5 + 1 : Int32) = v0 at F ⊢
      refine wp_goto rfl rfl ?_
      exact F
    · replace F := F.2 c
      refine wp_aload' (L' := [some (vR l0), none, none, none, none, some (vI l5), none]) rfl rfl rfl rfl ?_
      obtain ⟨f8, F⟩ := F
      refine wp_getR rfl rfl rfl f8 rfl ?_
      refine wp_iload rfl rfl rfl ?_
      refine wp_const rfl rfl ?_
      obtain ⟨f9, F⟩ := F
      obtain ⟨i6, b9, F⟩ := F
      refine wp_iastore rfl f9 b9 rfl ?_
      have f10 : gK (pI h0 (gR h0 l0 1) i6 1) l0 = 9 := (gK_pI _ _ _ _ _).trans f8
      replace F := F _ rfl
      generalize pI h0 (gR h0 l0 1) i6 1 = h3 at F f10 ⊢
      refine wp_iinc' (L' := [some (vR l0), none, none, none, none, some (vI l5), none]) (y := 1) (L2 := [some (vR l0), none, none, none, none, some (vI (l5 + 1)), none]) rfl rfl rfl rfl rfl rfl ?_
      replace F := F _ rfl
      generalize (l5 + 1 : Int32) = v1 at F ⊢
      refine wp_goto rfl rfl ?_
      exact F
  · replace F := F.2 c
    exact wp_retV rfl F
-- CensusOffice sample (IIIIII)I
theorem m236 {d : Nat} {a0 : Nat} {a1 : Int32} {a2 : Int32} {a3 : Int32} {a4 : Int32} {a5 : Int32} {a6 : Int32} {h : aH} {K : Int32 → aH → Prop} {X : Nat → aH → Prop} (F : 8 ≤ a0 ∧ gK h a0 = 1 ∧ CV d 31 [vR a0, vI a1] h (fun h0 => gK h0 a0 = 1 ∧ CV d 31 [vR a0, vI a4] h0 (fun h1 => gK h1 a0 = 1 ∧ CI d 35 [vR a0] h1 (fun y0 h2 => 8 ≤ (gR h1 a0 0) ∧ gK h2 (gR h1 a0 0) = 6 ∧ CI d 228 [vR (gR h1 a0 0), vI a1, vI a2, vI a3, vI a4, vI y0] h2 (fun y1 h3 => ((a5.toInt < 0 → X 1 (gNew h3 200 6)) ∧ (¬ a5.toInt < 0 → ((y1.toInt < a5.toInt → X 1 (gNew h3 200 6)) ∧ (¬ y1.toInt < a5.toInt → gK h3 a0 = 1 ∧ 8 ≤ (gR h3 a0 7) ∧ gK h3 (gR h3 a0 7) = 13 ∧ CI d 65 [vR (gR h3 a0 7)] h3 (fun y2 h4 => ((y2.toInt < 12 → ∀ (r0 : Nat) (h5 : aH), r0 = gN h4 → h5 = gNew h4 9 3 → gK h5 a0 = 1 ∧ gK h5 (gR h5 a0 0) = 6 ∧ 8 ≤ (gR h5 (gR h5 a0 0) 0) ∧ gK h5 (gR h5 (gR h5 a0 0) 0) = 8 ∧ CI d 28 [vR (gR h5 (gR h5 a0 0) 0)] h5 (fun y3 h6 => 8 ≤ r0 ∧ CV d 229 [vR r0, vI y3] h6 (fun h7 => gK h7 a0 = 1 ∧ gK h7 (gR h7 a0 0) = 6 ∧ gK h7 r0 = 9 ∧ CV d 235 [vR r0, vR (gR h7 (gR h7 a0 0) 4), vI a5, vI y1, vI a6] h7 (fun h8 => gK h8 a0 = 1 ∧ 8 ≤ (gR h8 a0 7) ∧ gK h8 (gR h8 a0 7) = 13 ∧ CI d 98 [vR (gR h8 a0 7), vR r0] h8 (fun y4 h9 => gK h9 a0 = 1 ∧ 8 ≤ (gR h9 a0 7) ∧ gK h9 (gR h9 a0 7) = 13 ∧ CI d 65 [vR (gR h9 a0 7)] h9 (fun y5 h10 => K (y5 - 1) h10) X) X) X) (fun _ _ => False)) X) ∧ (¬ y2.toInt < 12 → X 4 (gNew h4 200 6)))) X))))) X) X) X) X) : CI (d + 1) 236 [vR a0, vI a1, vI a2, vI a3, vI a4, vI a5, vI a6] h K X := by
  show Wp (d + 1) 236 (0, [some (vR a0), some (vI a1), some (vI a2), some (vI a3), some (vI a4), some (vI a5), some (vI a6), none, none], [], h) (RI K X)
  refine wp_aload rfl rfl rfl ?_
  refine wp_iload rfl rfl rfl ?_
  obtain ⟨f0, F⟩ := F
  obtain ⟨f1, F⟩ := F
  refine wp_callV rfl rfl rfl (rcv_v f0 f1 (by decide) (by decide)) rfl rfl rfl rfl ?_
  refine CV.mono F (fun h0 F => ?_) (fun _ _ w => rx_I w)
  refine wp_aload rfl rfl rfl ?_
  refine wp_iload rfl rfl rfl ?_
  obtain ⟨f2, F⟩ := F
  refine wp_callV rfl rfl rfl (rcv_v f0 f2 (by decide) (by decide)) rfl rfl rfl rfl ?_
  refine CV.mono F (fun h1 F => ?_) (fun _ _ w => rx_I w)
  refine wp_aload rfl rfl rfl ?_
  obtain ⟨f3, F⟩ := F
  refine wp_getR rfl rfl rfl f3 rfl ?_
  refine wp_iload rfl rfl rfl ?_
  refine wp_iload rfl rfl rfl ?_
  refine wp_iload rfl rfl rfl ?_
  refine wp_iload rfl rfl rfl ?_
  refine wp_aload rfl rfl rfl ?_
  refine wp_callI rfl rfl rfl (rcv_v f0 f3 (by decide) (by decide)) rfl rfl rfl rfl ?_
  refine CI.mono F (fun y0 h2 F => ?_) (fun _ _ w => rx_I w)
  obtain ⟨f4, F⟩ := F
  obtain ⟨f5, F⟩ := F
  refine wp_callI rfl rfl rfl (rcv_v f4 f5 (by decide) (by decide)) rfl rfl rfl rfl ?_
  refine CI.mono F (fun y1 h3 F => ?_) (fun _ _ w => rx_I w)
  refine wp_istore (L2 := [some (vR a0), some (vI a1), some (vI a2), some (vI a3), some (vI a4), some (vI a5), some (vI a6), some (vI y1), none]) rfl rfl rfl rfl ?_
  refine wp_iload rfl rfl rfl ?_
  refine wp_if_lt rfl rfl rfl rfl (fun c => ?_) (fun c => ?_)
  · replace F := F.1 c
    exact wp_thrI rfl F
  · replace F := F.2 c
    refine wp_iload rfl rfl rfl ?_
    refine wp_iload rfl rfl rfl ?_
    refine wp_icmp_le rfl rfl rfl rfl rfl (fun c => ?_) (fun c => ?_)
    · replace F := F.1 c
      exact wp_thrI rfl F
    · replace F := F.2 c
      refine wp_aload' (L' := [some (vR a0), none, none, none, none, some (vI a5), some (vI a6), some (vI y1), none]) rfl rfl rfl rfl ?_
      obtain ⟨f6, F⟩ := F
      refine wp_getR rfl rfl rfl f6 rfl ?_
      obtain ⟨f7, F⟩ := F
      obtain ⟨f8, F⟩ := F
      refine wp_callI rfl rfl rfl (rcv_v f7 f8 (by decide) (by decide)) rfl rfl rfl rfl ?_
      refine CI.mono F (fun y2 h4 F => ?_) (fun _ _ w => rx_I w)
      refine wp_const rfl rfl ?_
      refine wp_icmp_lt (Y := 12) rfl rfl rfl rfl rfl (fun c => ?_) (fun c => ?_)
      · replace F := F.1 c
        refine wp_new' (L' := [some (vR a0), none, none, none, none, some (vI a5), some (vI a6), some (vI y1), none]) rfl rfl rfl rfl rfl ?_
        replace F := F _ _ rfl rfl
        generalize gNew h4 9 3 = h5 at F ⊢
        generalize gN h4 = r0 at F ⊢
        refine wp_dup rfl rfl rfl ?_
        refine wp_aload rfl rfl rfl ?_
        obtain ⟨f9, F⟩ := F
        refine wp_getR rfl rfl rfl f9 rfl ?_
        obtain ⟨f10, F⟩ := F
        refine wp_getR rfl rfl rfl f10 rfl ?_
        obtain ⟨f11, F⟩ := F
        obtain ⟨f12, F⟩ := F
        refine wp_callI rfl rfl rfl (rcv_v f11 f12 (by decide) (by decide)) rfl rfl rfl rfl ?_
        refine CI.mono F (fun y3 h6 F => ?_) (fun _ _ w => rx_I w)
        obtain ⟨f13, F⟩ := F
        refine wp_callqV rfl rfl rfl (rcv_c f13) rfl rfl ?_
        refine CV.mono F (fun h7 F => ?_) (fun _ _ w => w)
        refine wp_astore (L2 := [some (vR a0), none, none, none, none, some (vI a5), some (vI a6), some (vI y1), some (vR r0)]) rfl rfl rfl rfl ?_
        refine wp_aload rfl rfl rfl ?_
        refine wp_aload rfl rfl rfl ?_
        obtain ⟨f14, F⟩ := F
        refine wp_getR rfl rfl rfl f14 rfl ?_
        obtain ⟨f15, F⟩ := F
        refine wp_getR rfl rfl rfl f15 rfl ?_
        refine wp_iload rfl rfl rfl ?_
        refine wp_iload rfl rfl rfl ?_
        refine wp_iload rfl rfl rfl ?_
        obtain ⟨f16, F⟩ := F
        refine wp_callV rfl rfl rfl (rcv_v f13 f16 (by decide) (by decide)) rfl rfl rfl rfl ?_
        refine CV.mono F (fun h8 F => ?_) (fun _ _ w => rx_I w)
        refine wp_aload rfl rfl rfl ?_
        obtain ⟨f17, F⟩ := F
        refine wp_getR rfl rfl rfl f17 rfl ?_
        refine wp_aload rfl rfl rfl ?_
        obtain ⟨f18, F⟩ := F
        obtain ⟨f19, F⟩ := F
        refine wp_callI rfl rfl rfl (rcv_v f18 f19 (by decide) (by decide)) rfl rfl rfl rfl ?_
        refine CI.mono F (fun y4 h9 F => ?_) (fun _ _ w => rx_I w)
        refine wp_pop rfl rfl rfl ?_
        refine wp_aload rfl rfl rfl ?_
        obtain ⟨f20, F⟩ := F
        refine wp_getR rfl rfl rfl f20 rfl ?_
        obtain ⟨f21, F⟩ := F
        obtain ⟨f22, F⟩ := F
        refine wp_callI rfl rfl rfl (rcv_v f21 f22 (by decide) (by decide)) rfl rfl rfl rfl ?_
        refine CI.mono F (fun y5 h10 F => ?_) (fun _ _ w => rx_I w)
        refine wp_const rfl rfl ?_
        refine wp_isub rfl rfl ?_
        exact wp_retI rfl (Or.inl rfl) F
      · replace F := F.2 c
        exact wp_thrI rfl F
-- CensusOfficeLaw sample (LCensusOffice;IIIIII[J)I
theorem m237 {d : Nat} {a0 : Nat} {a1 : Int32} {a2 : Int32} {a3 : Int32} {a4 : Int32} {a5 : Int32} {a6 : Int32} {a7 : Nat} {h : aH} {K : Int32 → aH → Prop} {X : Nat → aH → Prop} (F : 8 ≤ a0 ∧ gK h a0 = 1 ∧ CI d 236 [vR a0, vI a1, vI a2, vI a3, vI a4, vI a5, vI a6] h (fun y0 h0 => 8 ≤ a7 ∧ inB h0 101 a7 0 0 ∧ ∀ h1 : aH, h1 = pJ h0 a7 0 (y0.toInt64) → K 0 h1) (fun x9 h9 => (x9 = 3 ∧ K 1 h9) ∨ (x9 = 1 ∧ K 2 h9) ∨ (x9 = 4 ∧ K 3 h9))) : CI (d + 1) 237 [vR a0, vI a1, vI a2, vI a3, vI a4, vI a5, vI a6, vR a7] h K X := by
  show Wp (d + 1) 237 (0, [some (vR a0), some (vI a1), some (vI a2), some (vI a3), some (vI a4), some (vI a5), some (vI a6), some (vR a7), none], [], h) (RI K X)
  refine wp_aload rfl rfl rfl ?_
  refine wp_const rfl rfl ?_
  refine wp_aload rfl rfl rfl ?_
  refine wp_iload rfl rfl rfl ?_
  refine wp_iload rfl rfl rfl ?_
  refine wp_iload rfl rfl rfl ?_
  refine wp_iload rfl rfl rfl ?_
  refine wp_iload rfl rfl rfl ?_
  refine wp_iload rfl rfl rfl ?_
  obtain ⟨f0, F⟩ := F
  obtain ⟨f1, F⟩ := F
  refine wp_callhI (X := (fun x9 h9 => (x9 = 3 ∧ K 1 h9) ∨ (x9 = 1 ∧ K 2 h9) ∨ (x9 = 4 ∧ K 3 h9))) rfl rfl rfl (rcv_v f0 f1 (by decide) (by decide)) rfl rfl rfl (fun x9 h9 F => ?_) ?_
  · rcases F with ⟨rfl, F⟩ | ⟨rfl, F⟩ | ⟨rfl, F⟩
    · refine ⟨21, rfl, ?_⟩
      refine wp_astoreJ' (L' := [none, none, none, none, none, none, none, none, none]) (L2 := [none, none, none, none, none, none, none, none, some vJ]) rfl rfl rfl rfl rfl ?_
      refine wp_const rfl rfl ?_
      exact wp_retI rfl (Or.inl rfl) F
    · refine ⟨25, rfl, ?_⟩
      refine wp_astoreJ' (L' := [none, none, none, none, none, none, none, none, none]) (L2 := [none, none, none, none, none, none, none, none, some vJ]) rfl rfl rfl rfl rfl ?_
      refine wp_const rfl rfl ?_
      exact wp_retI rfl (Or.inl rfl) F
    · refine ⟨29, rfl, ?_⟩
      refine wp_astoreJ' (L' := [none, none, none, none, none, none, none, none, none]) (L2 := [none, none, none, none, none, none, none, none, some vJ]) rfl rfl rfl rfl rfl ?_
      refine wp_const rfl rfl ?_
      exact wp_retI rfl (Or.inl rfl) F
  · refine CI.mono F (fun y0 h0 F => ?_) (fun _ _ w => w)
    refine wp_i2l rfl rfl ?_
    obtain ⟨f2, F⟩ := F
    obtain ⟨b9, F⟩ := F
    refine wp_lastore rfl f2 b9 rfl ?_
    replace F := F _ rfl
    generalize pJ h0 a7 0 (y0.toInt64) = h1 at F ⊢
    refine wp_goto rfl rfl ?_
    refine wp_const' (L' := [none, none, none, none, none, none, none, none, none]) rfl rfl rfl ?_
    exact wp_retI rfl (Or.inl rfl) F
-- CensusOfficeModel isFirst (I)Z
theorem m238 {d : Nat} {a0 : Nat} {a1 : Int32} {h : aH} {K : Int32 → aH → Prop} {X : Nat → aH → Prop} (F : gK h a0 = 14 ∧ ∃ i0 : Nat, inB h 100 (gR h a0 68) a1 i0 ∧ (((gI h (gR h a0 68) i0).toInt = (-2000000) → Wp d 238 (19, [some (vR a0), some (vI a1), some (vI 0), some (vI 0)], [], h) (RI K X)) ∧ (¬ (gI h (gR h a0 68) i0).toInt = (-2000000) → Wp d 238 (19, [some (vR a0), some (vI a1), some (vI 1), some (vI 0)], [], h) (RI K X)))) : CI d 238 [vR a0, vI a1] h K X := by
  show Wp d 238 (0, [some (vR a0), some (vI a1), none, none], [], h) (RI K X)
  refine wp_aload rfl rfl rfl ?_
  obtain ⟨f0, F⟩ := F
  refine wp_getR rfl rfl rfl f0 rfl ?_
  refine wp_iload rfl rfl rfl ?_
  obtain ⟨i0, b9, F⟩ := F
  refine wp_iaload rfl b9 rfl ?_
  refine wp_const rfl rfl ?_
  refine wp_icmp_eq (Y := (-2000000)) rfl rfl rfl rfl rfl (fun c => ?_) (fun c => ?_)
  · replace F := F.1 c
    refine wp_const' (L' := [some (vR a0), some (vI a1), none, none]) rfl rfl rfl ?_
    refine wp_istore' (L' := [some (vR a0), some (vI a1), none, none]) (L2 := [some (vR a0), some (vI a1), some (vI 0), none]) rfl rfl rfl rfl rfl ?_
    refine wp_const rfl rfl ?_
    refine wp_istore (L2 := [some (vR a0), some (vI a1), some (vI 0), some (vI 0)]) rfl rfl rfl rfl ?_
    exact F
  · replace F := F.2 c
    refine wp_const rfl rfl ?_
    refine wp_goto rfl rfl ?_
    refine wp_istore' (L' := [some (vR a0), some (vI a1), none, none]) (L2 := [some (vR a0), some (vI a1), some (vI 1), none]) rfl rfl rfl rfl rfl ?_
    refine wp_const rfl rfl ?_
    refine wp_istore (L2 := [some (vR a0), some (vI a1), some (vI 1), some (vI 0)]) rfl rfl rfl rfl ?_
    exact F
theorem w238_19 {d : Nat} {l0 : Nat} {l1 : Int32} {l2 : Int32} {l3 : Int32} {h : aH} {K : Int32 → aH → Prop} {X : Nat → aH → Prop} (F : ((l3.toInt < l1.toInt → ((l2.toInt = 0 → ∀ v0 : Int32, v0 = l3 + 1 → Wp d 238 (19, [some (vR l0), some (vI l1), some (vI 0), some (vI v0)], [], h) (RI K X)) ∧ (¬ l2.toInt = 0 → gK h l0 = 14 ∧ ∃ i0 : Nat, inB h 100 (gR h l0 68) l3 i0 ∧ ∃ i1 : Nat, inB h 100 (gR h l0 68) l1 i1 ∧ (((gI h (gR h l0 68) i0).toInt = (gI h (gR h l0 68) i1).toInt → ∀ v1 : Int32, v1 = l3 + 1 → Wp d 238 (19, [some (vR l0), some (vI l1), some (vI 0), some (vI v1)], [], h) (RI K X)) ∧ (¬ (gI h (gR h l0 68) i0).toInt = (gI h (gR h l0 68) i1).toInt → ∀ v2 : Int32, v2 = l3 + 1 → Wp d 238 (19, [some (vR l0), some (vI l1), some (vI 1), some (vI v2)], [], h) (RI K X)))))) ∧ (¬ l3.toInt < l1.toInt → l2 &&& 1 = l2 ∧ K l2 h))) : Wp d 238 (19, [some (vR l0), some (vI l1), some (vI l2), some (vI l3)], [], h) (RI K X) := by
  refine wp_iload rfl rfl rfl ?_
  refine wp_iload rfl rfl rfl ?_
  refine wp_icmp_ge rfl rfl rfl rfl rfl (fun c => ?_) (fun c => ?_)
  · replace F := F.1 c
    refine wp_iload rfl rfl rfl ?_
    refine wp_if_eq rfl rfl rfl rfl (fun c => ?_) (fun c => ?_)
    · replace F := F.1 c
      refine wp_const' (L' := [some (vR l0), some (vI l1), none, some (vI l3)]) rfl rfl rfl ?_
      refine wp_istore' (L' := [some (vR l0), some (vI l1), none, some (vI l3)]) (L2 := [some (vR l0), some (vI l1), some (vI 0), some (vI l3)]) rfl rfl rfl rfl rfl ?_
      refine wp_iinc (y := 1) (L2 := [some (vR l0), some (vI l1), some (vI 0), some (vI (l3 + 1))]) rfl rfl rfl rfl rfl ?_
      replace F := F _ rfl
      generalize (l3 + 1 : Int32) = v0 at F ⊢
      refine wp_goto rfl rfl ?_
      exact F
    · replace F := F.2 c
      refine wp_aload rfl rfl rfl ?_
      obtain ⟨f0, F⟩ := F
      refine wp_getR rfl rfl rfl f0 rfl ?_
      refine wp_iload rfl rfl rfl ?_
      obtain ⟨i0, b9, F⟩ := F
      refine wp_iaload rfl b9 rfl ?_
      refine wp_aload rfl rfl rfl ?_
      refine wp_getR rfl rfl rfl f0 rfl ?_
      refine wp_iload rfl rfl rfl ?_
      obtain ⟨i1, b9, F⟩ := F
      refine wp_iaload rfl b9 rfl ?_
      refine wp_icmp_eq rfl rfl rfl rfl rfl (fun c => ?_) (fun c => ?_)
      · replace F := F.1 c
        refine wp_const' (L' := [some (vR l0), some (vI l1), none, some (vI l3)]) rfl rfl rfl ?_
        refine wp_istore' (L' := [some (vR l0), some (vI l1), none, some (vI l3)]) (L2 := [some (vR l0), some (vI l1), some (vI 0), some (vI l3)]) rfl rfl rfl rfl rfl ?_
        refine wp_iinc (y := 1) (L2 := [some (vR l0), some (vI l1), some (vI 0), some (vI (l3 + 1))]) rfl rfl rfl rfl rfl ?_
        replace F := F _ rfl
        generalize (l3 + 1 : Int32) = v1 at F ⊢
        refine wp_goto rfl rfl ?_
        exact F
      · replace F := F.2 c
        refine wp_const rfl rfl ?_
        refine wp_goto rfl rfl ?_
        refine wp_istore' (L' := [some (vR l0), some (vI l1), none, some (vI l3)]) (L2 := [some (vR l0), some (vI l1), some (vI 1), some (vI l3)]) rfl rfl rfl rfl rfl ?_
        refine wp_iinc (y := 1) (L2 := [some (vR l0), some (vI l1), some (vI 1), some (vI (l3 + 1))]) rfl rfl rfl rfl rfl ?_
        replace F := F _ rfl
        generalize (l3 + 1 : Int32) = v2 at F ⊢
        refine wp_goto rfl rfl ?_
        exact F
  · replace F := F.2 c
    refine wp_iload' (L' := [none, none, some (vI l2), none]) rfl rfl rfl rfl ?_
    exact wp_retI rfl (Or.inr F.1) F.2
-- CensusOfficeModel keyOf (II)I
theorem m239 {d : Nat} {a0 : Int32} {a1 : Int32} {h : aH} {K : Int32 → aH → Prop} {X : Nat → aH → Prop} (F : ∀ v0 : Int32, v0 = a0 ^^^ (a1 * (-1640531527)) → ∀ v1 : Int32, v1 = v0 * (-2048144789) → ∀ v2 : Int32, v2 = v1 ^^^ (aUshr v1 13) → ∀ v3 : Int32, v3 = v2 * (-1028477387) → K (v3 ^^^ (aUshr v3 16)) h) : CI d 239 [vI a0, vI a1] h K X := by
  show Wp d 239 (0, [some (vI a0), some (vI a1), none], [], h) (RI K X)
  refine wp_iload rfl rfl rfl ?_
  refine wp_iload rfl rfl rfl ?_
  refine wp_const rfl rfl ?_
  refine wp_imul rfl rfl ?_
  refine wp_ixor rfl rfl ?_
  replace F := F _ rfl
  generalize (a0 ^^^ (a1 * (-1640531527)) : Int32) = v0 at F ⊢
  refine wp_istore (L2 := [some (vI a0), some (vI a1), some (vI v0)]) rfl rfl rfl rfl ?_
  refine wp_iload rfl rfl rfl ?_
  refine wp_const rfl rfl ?_
  refine wp_imul rfl rfl ?_
  replace F := F _ rfl
  generalize (v0 * (-2048144789) : Int32) = v1 at F ⊢
  refine wp_istore (L2 := [some (vI a0), some (vI a1), some (vI v1)]) rfl rfl rfl rfl ?_
  refine wp_iload rfl rfl rfl ?_
  refine wp_iload rfl rfl rfl ?_
  refine wp_const rfl rfl ?_
  refine wp_iushr rfl rfl ?_
  refine wp_ixor rfl rfl ?_
  replace F := F _ rfl
  generalize (v1 ^^^ (aUshr v1 13) : Int32) = v2 at F ⊢
  refine wp_istore (L2 := [some (vI a0), some (vI a1), some (vI v2)]) rfl rfl rfl rfl ?_
  refine wp_iload rfl rfl rfl ?_
  refine wp_const rfl rfl ?_
  refine wp_imul rfl rfl ?_
  replace F := F _ rfl
  generalize (v2 * (-1028477387) : Int32) = v3 at F ⊢
  refine wp_istore (L2 := [some (vI a0), some (vI a1), some (vI v3)]) rfl rfl rfl rfl ?_
  refine wp_iload rfl rfl rfl ?_
  refine wp_iload rfl rfl rfl ?_
  refine wp_const rfl rfl ?_
  refine wp_iushr rfl rfl ?_
  refine wp_ixor rfl rfl ?_
  exact wp_retI rfl (Or.inl rfl) F
-- CensusOfficeModel isBefore (III)Z
theorem m240 {d : Nat} {a0 : Nat} {a1 : Int32} {a2 : Int32} {a3 : Int32} {h : aH} {K : Int32 → aH → Prop} {X : Nat → aH → Prop} (F : CI d 239 [vI a1, vI a2] h (fun y0 h0 => CI d 239 [vI a1, vI a3] h0 (fun y1 h1 => ((y0.toInt < y1.toInt → K 1 h1) ∧ (¬ y0.toInt < y1.toInt → ((y0.toInt = y1.toInt → ((a2.toInt < a3.toInt → K 1 h1) ∧ (¬ a2.toInt < a3.toInt → K 0 h1))) ∧ (¬ y0.toInt = y1.toInt → K 0 h1))))) X) X) : CI (d + 1) 240 [vR a0, vI a1, vI a2, vI a3] h K X := by
  show Wp (d + 1) 240 (0, [some (vR a0), some (vI a1), some (vI a2), some (vI a3), none, none], [], h) (RI K X)
  refine wp_iload rfl rfl rfl ?_
  refine wp_iload rfl rfl rfl ?_
  refine wp_callI rfl rfl rfl rfl rfl rfl rfl rfl ?_
  refine CI.mono F (fun y0 h0 F => ?_) (fun _ _ w => rx_I w)
  refine wp_istore (L2 := [some (vR a0), some (vI a1), some (vI a2), some (vI a3), some (vI y0), none]) rfl rfl rfl rfl ?_
  refine wp_iload rfl rfl rfl ?_
  refine wp_iload rfl rfl rfl ?_
  refine wp_callI rfl rfl rfl rfl rfl rfl rfl rfl ?_
  refine CI.mono F (fun y1 h1 F => ?_) (fun _ _ w => rx_I w)
  refine wp_istore (L2 := [some (vR a0), some (vI a1), some (vI a2), some (vI a3), some (vI y0), some (vI y1)]) rfl rfl rfl rfl ?_
  refine wp_iload rfl rfl rfl ?_
  refine wp_iload rfl rfl rfl ?_
  refine wp_icmp_lt rfl rfl rfl rfl rfl (fun c => ?_) (fun c => ?_)
  · replace F := F.1 c
    refine wp_const' (L' := [none, none, none, none, none, none]) rfl rfl rfl ?_
    refine wp_goto rfl rfl ?_
    exact wp_retI rfl (Or.inr rfl) F
  · replace F := F.2 c
    refine wp_iload rfl rfl rfl ?_
    refine wp_iload rfl rfl rfl ?_
    refine wp_icmp_ne rfl rfl rfl rfl rfl (fun c => ?_) (fun c => ?_)
    · replace F := F.1 c
      refine wp_iload rfl rfl rfl ?_
      refine wp_iload rfl rfl rfl ?_
      refine wp_icmp_ge rfl rfl rfl rfl rfl (fun c => ?_) (fun c => ?_)
      · replace F := F.1 c
        refine wp_const' (L' := [none, none, none, none, none, none]) rfl rfl rfl ?_
        refine wp_goto rfl rfl ?_
        exact wp_retI rfl (Or.inr rfl) F
      · replace F := F.2 c
        refine wp_const' (L' := [none, none, none, none, none, none]) rfl rfl rfl ?_
        exact wp_retI rfl (Or.inr rfl) F
    · replace F := F.2 c
      refine wp_const' (L' := [none, none, none, none, none, none]) rfl rfl rfl ?_
      exact wp_retI rfl (Or.inr rfl) F
