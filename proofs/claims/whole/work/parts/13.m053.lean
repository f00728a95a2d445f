/-! THE FORMULAS OF THE METHODS 53 TO 88 (written by wip/tools/gen13.py): what a run from a cut point needs -/
-- CensusOfficeModel valueOf (IIII)I
theorem m53 {d : Nat} {a0 : Nat} {a1 : Int32} {a2 : Int32} {a3 : Int32} {a4 : Int32} {h : aH} {K : Int32 → aH → Prop} {X : Nat → aH → Prop} (F : Wp (d + 1) 53 (6, [some (vR a0), some (vI a1), some (vI a2), some (vI a3), some (vI a4), some (vI (-1)), some (vI 0), none], [], h) (RI K X)) : CI (d + 1) 53 [vR a0, vI a1, vI a2, vI a3, vI a4] h K X := by
  show Wp (d + 1) 53 (0, [some (vR a0), some (vI a1), some (vI a2), some (vI a3), some (vI a4), none, none, none], [], h) (RI K X)
  refine wp_const rfl rfl ?_
  refine wp_istore (L2 := [some (vR a0), some (vI a1), some (vI a2), some (vI a3), some (vI a4), some (vI (-1)), none, none]) rfl rfl rfl rfl ?_
  refine wp_const rfl rfl ?_
  refine wp_istore (L2 := [some (vR a0), some (vI a1), some (vI a2), some (vI a3), some (vI a4), some (vI (-1)), some (vI 0), none]) rfl rfl rfl rfl ?_
  exact F
theorem w53_6 {d : Nat} {l0 : Nat} {l1 : Int32} {l2 : Int32} {l3 : Int32} {l4 : Int32} {l5 : Int32} {l6 : Int32} {h : aH} {K : Int32 → aH → Prop} {X : Nat → aH → Prop} (F : gK h l0 = 14 ∧ ((l6.toInt < (gI h l0 6).toInt → ∃ i0 : Nat, inB h 100 (gR h l0 8) l6 i0 ∧ (((gI h (gR h l0 8) i0).toInt = l2.toInt → ∃ i1 : Nat, inB h 100 (gR h l0 11) l6 i1 ∧ ((l4.toInt < (gI h (gR h l0 11) i1).toInt → Wp (d + 1) 53 (77, [some (vR l0), some (vI l1), some (vI l2), some (vI l3), some (vI l4), some (vI l5), some (vI l6), none], [vI 0], h) (RI K X)) ∧ (¬ l4.toInt < (gI h (gR h l0 11) i1).toInt → ∃ i2 : Nat, inB h 100 (gR h l0 9) l6 i2 ∧ ((l3.toInt < (gI h (gR h l0 9) i2).toInt → Wp (d + 1) 53 (77, [some (vR l0), some (vI l1), some (vI l2), some (vI l3), some (vI l4), some (vI l5), some (vI l6), none], [vI 0], h) (RI K X)) ∧ (¬ l3.toInt < (gI h (gR h l0 9) i2).toInt → ∃ i3 : Nat, inB h 100 (gR h l0 7) l6 i3 ∧ 8 ≤ l0 ∧ CI d 46 [vR l0, vI (gI h (gR h l0 7) i3), vI l4] h (fun y0 h0 => gK h0 l0 = 14 ∧ CI d 46 [vR l0, vI l1, vI l4] h0 (fun y1 h1 => ((y0.toInt = y1.toInt → Wp (d + 1) 53 (77, [some (vR l0), some (vI l1), some (vI l2), some (vI l3), some (vI l4), some (vI l5), some (vI l6), none], [vI 1], h1) (RI K X)) ∧ (¬ y0.toInt = y1.toInt → Wp (d + 1) 53 (77, [some (vR l0), some (vI l1), some (vI l2), some (vI l3), some (vI l4), some (vI l5), some (vI l6), none], [vI 0], h1) (RI K X)))) X) X))))) ∧ (¬ (gI h (gR h l0 8) i0).toInt = l2.toInt → Wp (d + 1) 53 (77, [some (vR l0), some (vI l1), some (vI l2), some (vI l3), some (vI l4), some (vI l5), some (vI l6), none], [vI 0], h) (RI K X)))) ∧ (¬ l6.toInt < (gI h l0 6).toInt → ((l5.toInt = (-1) → K (-2000000) h) ∧ (¬ l5.toInt = (-1) → ∃ i4 : Nat, inB h 100 (gR h l0 10) l5 i4 ∧ K (gI h (gR h l0 10) i4) h))))) : Wp (d + 1) 53 (6, [some (vR l0), some (vI l1), some (vI l2), some (vI l3), some (vI l4), some (vI l5), some (vI l6), none], [], h) (RI K X) := by
  refine wp_iload' (L' := [some (vR l0), some (vI l1), some (vI l2), some (vI l3), some (vI l4), some (vI l5), some (vI l6), none]) rfl rfl rfl rfl ?_
  refine wp_aload rfl rfl rfl ?_
  obtain ⟨f0, F⟩ := F
  refine wp_getI rfl rfl rfl f0 rfl ?_
  refine wp_icmp_ge rfl rfl rfl rfl rfl (fun c => ?_) (fun c => ?_)
  · replace F := F.1 c
    refine wp_aload rfl rfl rfl ?_
    refine wp_getR rfl rfl rfl f0 rfl ?_
    refine wp_iload rfl rfl rfl ?_
    obtain ⟨i0, b9, F⟩ := F
    refine wp_iaload rfl b9 rfl ?_
    refine wp_iload rfl rfl rfl ?_
    refine wp_icmp_ne rfl rfl rfl rfl rfl (fun c => ?_) (fun c => ?_)
    · replace F := F.1 c
      refine wp_aload rfl rfl rfl ?_
      refine wp_getR rfl rfl rfl f0 rfl ?_
      refine wp_iload rfl rfl rfl ?_
      obtain ⟨i1, b9, F⟩ := F
      refine wp_iaload rfl b9 rfl ?_
      refine wp_iload rfl rfl rfl ?_
      refine wp_icmp_gt rfl rfl rfl rfl rfl (fun c => ?_) (fun c => ?_)
      · replace F := F.1 c
        refine wp_const' (L' := [some (vR l0), some (vI l1), some (vI l2), some (vI l3), some (vI l4), some (vI l5), some (vI l6), none]) rfl rfl rfl ?_
        exact F
      · replace F := F.2 c
        refine wp_aload rfl rfl rfl ?_
        refine wp_getR rfl rfl rfl f0 rfl ?_
        refine wp_iload rfl rfl rfl ?_
        obtain ⟨i2, b9, F⟩ := F
        refine wp_iaload rfl b9 rfl ?_
        refine wp_iload rfl rfl rfl ?_
        refine wp_icmp_gt rfl rfl rfl rfl rfl (fun c => ?_) (fun c => ?_)
        · replace F := F.1 c
          refine wp_const' (L' := [some (vR l0), some (vI l1), some (vI l2), some (vI l3), some (vI l4), some (vI l5), some (vI l6), none]) rfl rfl rfl ?_
          exact F
        · replace F := F.2 c
          refine wp_aload rfl rfl rfl ?_
          refine wp_aload rfl rfl rfl ?_
          refine wp_getR rfl rfl rfl f0 rfl ?_
          refine wp_iload rfl rfl rfl ?_
          obtain ⟨i3, b9, F⟩ := F
          refine wp_iaload rfl b9 rfl ?_
          refine wp_iload rfl rfl rfl ?_
          obtain ⟨f1, F⟩ := F
          refine wp_callI rfl rfl rfl (rcv_v f1 f0 (by decide) (by decide)) rfl rfl rfl rfl ?_
          refine CI.mono F (fun y0 h0 F => ?_) (fun _ _ w => rx_I w)
          refine wp_aload rfl rfl rfl ?_
          refine wp_iload rfl rfl rfl ?_
          refine wp_iload rfl rfl rfl ?_
          obtain ⟨f2, F⟩ := F
          refine wp_callI rfl rfl rfl (rcv_v f1 f2 (by decide) (by decide)) rfl rfl rfl rfl ?_
          refine CI.mono F (fun y1 h1 F => ?_) (fun _ _ w => rx_I w)
          refine wp_icmp_ne rfl rfl rfl rfl rfl (fun c => ?_) (fun c => ?_)
          · replace F := F.1 c
            refine wp_const rfl rfl ?_
            refine wp_goto rfl rfl ?_
            exact F
          · replace F := F.2 c
            refine wp_const' (L' := [some (vR l0), some (vI l1), some (vI l2), some (vI l3), some (vI l4), some (vI l5), some (vI l6), none]) rfl rfl rfl ?_
            exact F
    · replace F := F.2 c
      refine wp_const' (L' := [some (vR l0), some (vI l1), some (vI l2), some (vI l3), some (vI l4), some (vI l5), some (vI l6), none]) rfl rfl rfl ?_
      exact F
  · replace F := F.2 c
    refine wp_iload' (L' := [some (vR l0), none, none, none, none, some (vI l5), none, none]) rfl rfl rfl rfl ?_
    refine wp_const rfl rfl ?_
    refine wp_icmp_ne (Y := (-1)) rfl rfl rfl rfl rfl (fun c => ?_) (fun c => ?_)
    · replace F := F.1 c
      refine wp_const rfl rfl ?_
      refine wp_goto rfl rfl ?_
      exact wp_retI rfl (Or.inl rfl) F
    · replace F := F.2 c
      refine wp_aload' (L' := [some (vR l0), none, none, none, none, some (vI l5), none, none]) rfl rfl rfl rfl ?_
      refine wp_getR rfl rfl rfl f0 rfl ?_
      refine wp_iload rfl rfl rfl ?_
      obtain ⟨i4, b9, F⟩ := F
      refine wp_iaload rfl b9 rfl ?_
      exact wp_retI rfl (Or.inl rfl) F
theorem w53_77 {d : Nat} {l0 : Nat} {l1 : Int32} {l2 : Int32} {l3 : Int32} {l4 : Int32} {l5 : Int32} {l6 : Int32} {s0 : Int32} {h : aH} {K : Int32 → aH → Prop} {X : Nat → aH → Prop} (F : ((s0.toInt = 0 → ∀ v0 : Int32, v0 = l6 + 1 → Wp (d + 1) 53 (6, [some (vR l0), some (vI l1), some (vI l2), some (vI l3), some (vI l4), some (vI l5), some (vI v0), none], [], h) (RI K X)) ∧ (¬ s0.toInt = 0 → ((l5.toInt = (-1) → ∀ v1 : Int32, v1 = l6 + 1 → Wp (d + 1) 53 (6, [some (vR l0), some (vI l1), some (vI l2), some (vI l3), some (vI l4), some (vI l6), some (vI v1), none], [], h) (RI K X)) ∧ (¬ l5.toInt = (-1) → gK h l0 = 14 ∧ ∃ i0 : Nat, inB h 100 (gR h l0 9) l6 i0 ∧ ∃ i1 : Nat, inB h 100 (gR h l0 9) l5 i1 ∧ (((gI h (gR h l0 9) i0).toInt < (gI h (gR h l0 9) i1).toInt → ∀ v2 : Int32, v2 = l6 + 1 → Wp (d + 1) 53 (6, [some (vR l0), some (vI l1), some (vI l2), some (vI l3), some (vI l4), some (vI l5), some (vI v2), none], [], h) (RI K X)) ∧ (¬ (gI h (gR h l0 9) i0).toInt < (gI h (gR h l0 9) i1).toInt → ∀ v3 : Int32, v3 = l6 + 1 → Wp (d + 1) 53 (6, [some (vR l0), some (vI l1), some (vI l2), some (vI l3), some (vI l4), some (vI l6), some (vI v3), none], [], h) (RI K X)))))))) : Wp (d + 1) 53 (77, [some (vR l0), some (vI l1), some (vI l2), some (vI l3), some (vI l4), some (vI l5), some (vI l6), none], [vI s0], h) (RI K X) := by
  refine wp_istore' (L' := [some (vR l0), some (vI l1), some (vI l2), some (vI l3), some (vI l4), some (vI l5), some (vI l6), none]) (L2 := [some (vR l0), some (vI l1), some (vI l2), some (vI l3), some (vI l4), some (vI l5), some (vI l6), some (vI s0)]) rfl rfl rfl rfl rfl ?_
  refine wp_iload rfl rfl rfl ?_
  refine wp_if_eq rfl rfl rfl rfl (fun c => ?_) (fun c => ?_)
  · replace F := F.1 c
    refine wp_iload' (L' := [some (vR l0), some (vI l1), some (vI l2), some (vI l3), some (vI l4), some (vI l5), some (vI l6), none]) rfl rfl rfl rfl ?_
    refine wp_istore' (L' := [some (vR l0), some (vI l1), some (vI l2), some (vI l3), some (vI l4), none, some (vI l6), none]) (L2 := [some (vR l0), some (vI l1), some (vI l2), some (vI l3), some (vI l4), some (vI l5), some (vI l6), none]) rfl rfl rfl rfl rfl ?_
    refine wp_iinc (y := 1) (L2 := [some (vR l0), some (vI l1), some (vI l2), some (vI l3), some (vI l4), some (vI l5), some (vI (l6 + 1)), none]) rfl rfl rfl rfl rfl ?_
    replace F := F _ rfl
    generalize (l6 + 1 : Int32) = v0 at F ⊢
    refine wp_goto rfl rfl ?_
    exact F
  · replace F := F.2 c
    refine wp_iload rfl rfl rfl ?_
    refine wp_const rfl rfl ?_
    refine wp_icmp_eq (Y := (-1)) rfl rfl rfl rfl rfl (fun c => ?_) (fun c => ?_)
    · replace F := F.1 c
      refine wp_iload' (L' := [some (vR l0), some (vI l1), some (vI l2), some (vI l3), some (vI l4), none, some (vI l6), none]) rfl rfl rfl rfl ?_
      refine wp_goto rfl rfl ?_
      refine wp_istore' (L' := [some (vR l0), some (vI l1), some (vI l2), some (vI l3), some (vI l4), none, some (vI l6), none]) (L2 := [some (vR l0), some (vI l1), some (vI l2), some (vI l3), some (vI l4), some (vI l6), some (vI l6), none]) rfl rfl rfl rfl rfl ?_
      refine wp_iinc (y := 1) (L2 := [some (vR l0), some (vI l1), some (vI l2), some (vI l3), some (vI l4), some (vI l6), some (vI (l6 + 1)), none]) rfl rfl rfl rfl rfl ?_
      replace F := F _ rfl
      generalize (l6 + 1 : Int32) = v1 at F ⊢
      refine wp_goto rfl rfl ?_
      exact F
    · replace F := F.2 c
      refine wp_aload rfl rfl rfl ?_
      obtain ⟨f0, F⟩ := F
      refine wp_getR rfl rfl rfl f0 rfl ?_
      refine wp_iload rfl rfl rfl ?_
      obtain ⟨i0, b9, F⟩ := F
      refine wp_iaload rfl b9 rfl ?_
      refine wp_aload rfl rfl rfl ?_
      refine wp_getR rfl rfl rfl f0 rfl ?_
      refine wp_iload rfl rfl rfl ?_
      obtain ⟨i1, b9, F⟩ := F
      refine wp_iaload rfl b9 rfl ?_
      refine wp_icmp_lt rfl rfl rfl rfl rfl (fun c => ?_) (fun c => ?_)
      · replace F := F.1 c
        refine wp_iload' (L' := [some (vR l0), some (vI l1), some (vI l2), some (vI l3), some (vI l4), some (vI l5), some (vI l6), none]) rfl rfl rfl rfl ?_
        refine wp_istore' (L' := [some (vR l0), some (vI l1), some (vI l2), some (vI l3), some (vI l4), none, some (vI l6), none]) (L2 := [some (vR l0), some (vI l1), some (vI l2), some (vI l3), some (vI l4), some (vI l5), some (vI l6), none]) rfl rfl rfl rfl rfl ?_
        refine wp_iinc (y := 1) (L2 := [some (vR l0), some (vI l1), some (vI l2), some (vI l3), some (vI l4), some (vI l5), some (vI (l6 + 1)), none]) rfl rfl rfl rfl rfl ?_
        replace F := F _ rfl
        generalize (l6 + 1 : Int32) = v2 at F ⊢
        refine wp_goto rfl rfl ?_
        exact F
      · replace F := F.2 c
        refine wp_iload' (L' := [some (vR l0), some (vI l1), some (vI l2), some (vI l3), some (vI l4), none, some (vI l6), none]) rfl rfl rfl rfl ?_
        refine wp_goto rfl rfl ?_
        refine wp_istore' (L' := [some (vR l0), some (vI l1), some (vI l2), some (vI l3), some (vI l4), none, some (vI l6), none]) (L2 := [some (vR l0), some (vI l1), some (vI l2), some (vI l3), some (vI l4), some (vI l6), some (vI l6), none]) rfl rfl rfl rfl rfl ?_
        refine wp_iinc (y := 1) (L2 := [some (vR l0), some (vI l1), some (vI l2), some (vI l3), some (vI l4), some (vI l6), some (vI (l6 + 1)), none]) rfl rfl rfl rfl rfl ?_
        replace F := F _ rfl
        generalize (l6 + 1 : Int32) = v3 at F ⊢
        refine wp_goto rfl rfl ?_
        exact F
-- CensusOfficeModel value (IIII)I
theorem m54 {d : Nat} {a0 : Nat} {a1 : Int32} {a2 : Int32} {a3 : Int32} {a4 : Int32} {h : aH} {K : Int32 → aH → Prop} {X : Nat → aH → Prop} (F : 8 ≤ a0 ∧ gK h a0 = 14 ∧ ∀ h0 : aH, h0 = pI h a0 0 0 → CI d 39 [vR a0, vI a1] h0 (fun y0 h1 => ((y0.toInt = 0 → gK h1 a0 = 14 ∧ CI d 15 [vR a0, vI 1] h1 (fun y1 h2 => K y1 h2) X) ∧ (¬ y0.toInt = 0 → CI d 14 [vL (a2.toInt64), vL 0, vL 5] h1 (fun y2 h3 => ((y2.toInt = 0 → gK h3 a0 = 14 ∧ CI d 15 [vR a0, vI 1] h3 (fun y3 h4 => K y3 h4) X) ∧ (¬ y2.toInt = 0 → ((a3.toInt < 0 → gK h3 a0 = 14 ∧ CI d 15 [vR a0, vI 2] h3 (fun y4 h5 => K y4 h5) X) ∧ (¬ a3.toInt < 0 → ((a4.toInt < 0 → gK h3 a0 = 14 ∧ CI d 15 [vR a0, vI 2] h3 (fun y5 h6 => K y5 h6) X) ∧ (¬ a4.toInt < 0 → gK h3 a0 = 14 ∧ CI d 53 [vR a0, vI a1, vI a2, vI a3, vI a4] h3 (fun y6 h7 => K y6 h7) X))))))) X))) X) : CI (d + 1) 54 [vR a0, vI a1, vI a2, vI a3, vI a4] h K X := by
  show Wp (d + 1) 54 (0, [some (vR a0), some (vI a1), some (vI a2), some (vI a3), some (vI a4)], [], h) (RI K X)
  refine wp_aload rfl rfl rfl ?_
  refine wp_const rfl rfl ?_
  obtain ⟨f0, F⟩ := F
  obtain ⟨f1, F⟩ := F
  refine wp_putI rfl rfl rfl f0 f1 rfl ?_
  have f2 : gK (pI h a0 0 0) a0 = 14 := (gK_pI _ _ _ _ _).trans f1
  replace F := F _ rfl
  generalize pI h a0 0 0 = h0 at F f2 ⊢
  refine wp_aload rfl rfl rfl ?_
  refine wp_iload rfl rfl rfl ?_
  refine wp_callI rfl rfl rfl (rcv_v f0 f2 (by decide) (by decide)) rfl rfl rfl rfl ?_
  refine CI.mono F (fun y0 h1 F => ?_) (fun _ _ w => rx_I w)
  refine wp_if_eq rfl rfl rfl rfl (fun c => ?_) (fun c => ?_)
  · replace F := F.1 c
    refine wp_aload' (L' := [some (vR a0), none, none, none, none]) rfl rfl rfl rfl ?_
    refine wp_const rfl rfl ?_
    obtain ⟨f3, F⟩ := F
    refine wp_callI rfl rfl rfl (rcv_v f0 f3 (by decide) (by decide)) rfl rfl rfl rfl ?_
    refine CI.mono F (fun y1 h2 F => ?_) (fun _ _ w => rx_I w)
    exact wp_retI rfl (Or.inl rfl) F
  · replace F := F.2 c
    refine wp_iload rfl rfl rfl ?_
    refine wp_i2l rfl rfl ?_
    refine wp_const rfl rfl ?_
    refine wp_const rfl rfl ?_
    refine wp_callI rfl rfl rfl rfl rfl rfl rfl rfl ?_
    refine CI.mono F (fun y2 h3 F => ?_) (fun _ _ w => rx_I w)
    refine wp_if_ne rfl rfl rfl rfl (fun c => ?_) (fun c => ?_)
    · replace F := F.1 c
      refine wp_aload' (L' := [some (vR a0), none, none, none, none]) rfl rfl rfl rfl ?_
      refine wp_const rfl rfl ?_
      obtain ⟨f4, F⟩ := F
      refine wp_callI rfl rfl rfl (rcv_v f0 f4 (by decide) (by decide)) rfl rfl rfl rfl ?_
      refine CI.mono F (fun y3 h4 F => ?_) (fun _ _ w => rx_I w)
      exact wp_retI rfl (Or.inl rfl) F
    · replace F := F.2 c
      refine wp_iload rfl rfl rfl ?_
      refine wp_if_lt rfl rfl rfl rfl (fun c => ?_) (fun c => ?_)
      · replace F := F.1 c
        refine wp_aload' (L' := [some (vR a0), none, none, none, none]) rfl rfl rfl rfl ?_
        refine wp_const rfl rfl ?_
        obtain ⟨f5, F⟩ := F
        refine wp_callI rfl rfl rfl (rcv_v f0 f5 (by decide) (by decide)) rfl rfl rfl rfl ?_
        refine CI.mono F (fun y4 h5 F => ?_) (fun _ _ w => rx_I w)
        refine wp_goto rfl rfl ?_
        exact wp_retI rfl (Or.inl rfl) F
      · replace F := F.2 c
        refine wp_iload rfl rfl rfl ?_
        refine wp_if_ge rfl rfl rfl rfl (fun c => ?_) (fun c => ?_)
        · replace F := F.1 c
          refine wp_aload' (L' := [some (vR a0), none, none, none, none]) rfl rfl rfl rfl ?_
          refine wp_const rfl rfl ?_
          obtain ⟨f6, F⟩ := F
          refine wp_callI rfl rfl rfl (rcv_v f0 f6 (by decide) (by decide)) rfl rfl rfl rfl ?_
          refine CI.mono F (fun y5 h6 F => ?_) (fun _ _ w => rx_I w)
          refine wp_goto rfl rfl ?_
          exact wp_retI rfl (Or.inl rfl) F
        · replace F := F.2 c
          refine wp_aload rfl rfl rfl ?_
          refine wp_iload rfl rfl rfl ?_
          refine wp_iload rfl rfl rfl ?_
          refine wp_iload rfl rfl rfl ?_
          refine wp_iload rfl rfl rfl ?_
          obtain ⟨f7, F⟩ := F
          refine wp_callI rfl rfl rfl (rcv_v f0 f7 (by decide) (by decide)) rfl rfl rfl rfl ?_
          refine CI.mono F (fun y6 h7 F => ?_) (fun _ _ w => rx_I w)
          exact wp_retI rfl (Or.inl rfl) F
-- CensusOffice last (I)I
theorem m55 {d : Nat} {a0 : Nat} {a1 : Int32} {h : aH} {K : Int32 → aH → Prop} {X : Nat → aH → Prop} (F : 8 ≤ a0 ∧ gK h a0 = 1 ∧ CV d 30 [vR a0, vI a1] h (fun h0 => gK h0 a0 = 1 ∧ CI d 35 [vR a0] h0 (fun y0 h1 => 8 ≤ (gR h0 a0 0) ∧ gK h1 (gR h0 a0 0) = 6 ∧ CI d 42 [vR (gR h0 a0 0), vI a1, vI y0] h1 (fun y1 h2 => K y1 h2) X) X) X) : CI (d + 1) 55 [vR a0, vI a1] h K X := by
  show Wp (d + 1) 55 (0, [some (vR a0), some (vI a1)], [], h) (RI K X)
  refine wp_aload rfl rfl rfl ?_
  refine wp_iload rfl rfl rfl ?_
  obtain ⟨f0, F⟩ := F
  obtain ⟨f1, F⟩ := F
  refine wp_callV rfl rfl rfl (rcv_v f0 f1 (by decide) (by decide)) rfl rfl rfl rfl ?_
  refine CV.mono F (fun h0 F => ?_) (fun _ _ w => rx_I w)
  refine wp_aload rfl rfl rfl ?_
  obtain ⟨f2, F⟩ := F
  refine wp_getR rfl rfl rfl f2 rfl ?_
  refine wp_iload rfl rfl rfl ?_
  refine wp_aload rfl rfl rfl ?_
  refine wp_callI rfl rfl rfl (rcv_v f0 f2 (by decide) (by decide)) rfl rfl rfl rfl ?_
  refine CI.mono F (fun y0 h1 F => ?_) (fun _ _ w => rx_I w)
  obtain ⟨f3, F⟩ := F
  obtain ⟨f4, F⟩ := F
  refine wp_callI rfl rfl rfl (rcv_v f3 f4 (by decide) (by decide)) rfl rfl rfl rfl ?_
  refine CI.mono F (fun y1 h2 F => ?_) (fun _ _ w => rx_I w)
  exact wp_retI rfl (Or.inl rfl) F
-- CensusOfficeLaw last (LCensusOffice;I[J)I
theorem m56 {d : Nat} {a0 : Nat} {a1 : Int32} {a2 : Nat} {h : aH} {K : Int32 → aH → Prop} {X : Nat → aH → Prop} (F : 8 ≤ a0 ∧ gK h a0 = 1 ∧ CI d 55 [vR a0, vI a1] h (fun y0 h0 => 8 ≤ a2 ∧ inB h0 101 a2 0 0 ∧ ∀ h1 : aH, h1 = pJ h0 a2 0 (y0.toInt64) → K 0 h1) (fun x9 h9 => (x9 = 3 ∧ K 1 h9))) : CI (d + 1) 56 [vR a0, vI a1, vR a2] h K X := by
  show Wp (d + 1) 56 (0, [some (vR a0), some (vI a1), some (vR a2), none], [], h) (RI K X)
  refine wp_aload rfl rfl rfl ?_
  refine wp_const rfl rfl ?_
  refine wp_aload rfl rfl rfl ?_
  refine wp_iload rfl rfl rfl ?_
  obtain ⟨f0, F⟩ := F
  obtain ⟨f1, F⟩ := F
  refine wp_callhI (X := (fun x9 h9 => (x9 = 3 ∧ K 1 h9))) rfl rfl rfl (rcv_v f0 f1 (by decide) (by decide)) rfl rfl rfl (fun x9 h9 F => ?_) ?_
  · rcases F with ⟨rfl, F⟩
    · refine ⟨12, rfl, ?_⟩
      refine wp_astoreJ' (L' := [none, none, none, none]) (L2 := [none, none, none, some vJ]) rfl rfl rfl rfl rfl ?_
      refine wp_const rfl rfl ?_
      exact wp_retI rfl (Or.inl rfl) F
  · refine CI.mono F (fun y0 h0 F => ?_) (fun _ _ w => w)
    refine wp_i2l rfl rfl ?_
    obtain ⟨f2, F⟩ := F
    obtain ⟨b9, F⟩ := F
    refine wp_lastore rfl f2 b9 rfl ?_
    replace F := F _ rfl
    generalize pJ h0 a2 0 (y0.toInt64) = h1 at F ⊢
    refine wp_goto rfl rfl ?_
    refine wp_const' (L' := [none, none, none, none]) rfl rfl rfl ?_
    exact wp_retI rfl (Or.inl rfl) F
-- CensusOfficeModel last (I)I
theorem m57 {d : Nat} {a0 : Nat} {a1 : Int32} {h : aH} {K : Int32 → aH → Prop} {X : Nat → aH → Prop} (F : 8 ≤ a0 ∧ gK h a0 = 14 ∧ ∀ h0 : aH, h0 = pI h a0 0 0 → CI d 39 [vR a0, vI a1] h0 (fun y0 h1 => ((y0.toInt = 0 → gK h1 a0 = 14 ∧ CI d 15 [vR a0, vI 1] h1 (fun y1 h2 => K y1 h2) X) ∧ (¬ y0.toInt = 0 → gK h1 a0 = 14 ∧ CI d 40 [vR a0] h1 (fun y2 h3 => gK h3 a0 = 14 ∧ CI d 46 [vR a0, vI a1, vI y2] h3 (fun y3 h4 => K y3 h4) X) X))) X) : CI (d + 1) 57 [vR a0, vI a1] h K X := by
  show Wp (d + 1) 57 (0, [some (vR a0), some (vI a1)], [], h) (RI K X)
  refine wp_aload rfl rfl rfl ?_
  refine wp_const rfl rfl ?_
  obtain ⟨f0, F⟩ := F
  obtain ⟨f1, F⟩ := F
  refine wp_putI rfl rfl rfl f0 f1 rfl ?_
  have f2 : gK (pI h a0 0 0) a0 = 14 := (gK_pI _ _ _ _ _).trans f1
  replace F := F _ rfl
  generalize pI h a0 0 0 = h0 at F f2 ⊢
  refine wp_aload rfl rfl rfl ?_
  refine wp_iload rfl rfl rfl ?_
  refine wp_callI rfl rfl rfl (rcv_v f0 f2 (by decide) (by decide)) rfl rfl rfl rfl ?_
  refine CI.mono F (fun y0 h1 F => ?_) (fun _ _ w => rx_I w)
  refine wp_if_eq rfl rfl rfl rfl (fun c => ?_) (fun c => ?_)
  · replace F := F.1 c
    refine wp_aload' (L' := [some (vR a0), none]) rfl rfl rfl rfl ?_
    refine wp_const rfl rfl ?_
    obtain ⟨f3, F⟩ := F
    refine wp_callI rfl rfl rfl (rcv_v f0 f3 (by decide) (by decide)) rfl rfl rfl rfl ?_
    refine CI.mono F (fun y1 h2 F => ?_) (fun _ _ w => rx_I w)
    exact wp_retI rfl (Or.inl rfl) F
  · replace F := F.2 c
    refine wp_aload rfl rfl rfl ?_
    refine wp_iload rfl rfl rfl ?_
    refine wp_aload rfl rfl rfl ?_
    obtain ⟨f4, F⟩ := F
    refine wp_callI rfl rfl rfl (rcv_v f0 f4 (by decide) (by decide)) rfl rfl rfl rfl ?_
    refine CI.mono F (fun y2 h3 F => ?_) (fun _ _ w => rx_I w)
    obtain ⟨f5, F⟩ := F
    refine wp_callI rfl rfl rfl (rcv_v f0 f5 (by decide) (by decide)) rfl rfl rfl rfl ?_
    refine CI.mono F (fun y3 h4 F => ?_) (fun _ _ w => rx_I w)
    refine wp_goto rfl rfl ?_
    exact wp_retI rfl (Or.inl rfl) F
-- CensusOffice$Tape put (I)V
theorem m58 {d : Nat} {a0 : Nat} {a1 : Int32} {h : aH} {K : aH → Prop} {X : Nat → aH → Prop} (F : Wp d 58 (3, [some (vR a0), some (vI a1), some (vI 24)], [], h) (RV K X)) : CV d 58 [vR a0, vI a1] h K X := by
  show Wp d 58 (0, [some (vR a0), some (vI a1), none], [], h) (RV K X)
  refine wp_const rfl rfl ?_
  refine wp_istore (L2 := [some (vR a0), some (vI a1), some (vI 24)]) rfl rfl rfl rfl ?_
  exact F
theorem w58_3 {d : Nat} {l0 : Nat} {l1 : Int32} {l2 : Int32} {h : aH} {K : aH → Prop} {X : Nat → aH → Prop} (F : ((l2.toInt < 0 → K h) ∧ (¬ l2.toInt < 0 → gK h l0 = 12 ∧ (((gI h l0 1).toInt < 1200 → 8 ≤ (gR h l0 0) ∧ ∃ i0 : Nat, inB h 103 (gR h l0 0) (gI h l0 1) i0 ∧ ∀ h0 : aH, h0 = pI h (gR h l0 0) i0 ((l1 >>> (l2 &&& 31)).toInt8.toInt32).toInt8.toInt32 → 8 ≤ l0 ∧ ∀ h1 : aH, h1 = pI h0 l0 1 ((gI h0 l0 1) + 1) → ∀ v0 : Int32, v0 = l2 + (-8) → Wp d 58 (3, [some (vR l0), some (vI l1), some (vI v0)], [], h1) (RV K X)) ∧ (¬ (gI h l0 1).toInt < 1200 → K h))))) : Wp d 58 (3, [some (vR l0), some (vI l1), some (vI l2)], [], h) (RV K X) := by
  refine wp_iload rfl rfl rfl ?_
  refine wp_if_lt rfl rfl rfl rfl (fun c => ?_) (fun c => ?_)
  · replace F := F.1 c
    exact wp_retV rfl F
  · replace F := F.2 c
    refine wp_aload rfl rfl rfl ?_
    obtain ⟨f0, F⟩ := F
    refine wp_getI rfl rfl rfl f0 rfl ?_
    refine wp_const rfl rfl ?_
    refine wp_icmp_ge (Y := 1200) rfl rfl rfl rfl rfl (fun c => ?_) (fun c => ?_)
    · replace F := F.1 c
      refine wp_aload rfl rfl rfl ?_
      refine wp_getR rfl rfl rfl f0 rfl ?_
      refine wp_aload rfl rfl rfl ?_
      refine wp_getI rfl rfl rfl f0 rfl ?_
      refine wp_iload rfl rfl rfl ?_
      refine wp_iload rfl rfl rfl ?_
      refine wp_ishr rfl rfl ?_
      refine wp_i2b rfl rfl ?_
      obtain ⟨f1, F⟩ := F
      obtain ⟨i0, b9, F⟩ := F
      refine wp_bastore rfl f1 b9 rfl ?_
      have f2 : gK (pI h (gR h l0 0) i0 ((l1 >>> (l2 &&& 31)).toInt8.toInt32).toInt8.toInt32) l0 = 12 := (gK_pI _ _ _ _ _).trans f0
      replace F := F _ rfl
      generalize pI h (gR h l0 0) i0 ((l1 >>> (l2 &&& 31)).toInt8.toInt32).toInt8.toInt32 = h0 at F f2 ⊢
      refine wp_aload rfl rfl rfl ?_
      refine wp_dup rfl rfl rfl ?_
      refine wp_getI rfl rfl rfl f2 rfl ?_
      refine wp_const rfl rfl ?_
      refine wp_iadd rfl rfl ?_
      obtain ⟨f3, F⟩ := F
      refine wp_putI rfl rfl rfl f3 f2 rfl ?_
      have f4 : gK (pI h0 l0 1 ((gI h0 l0 1) + 1)) l0 = 12 := (gK_pI _ _ _ _ _).trans f2
      replace F := F _ rfl
      generalize pI h0 l0 1 ((gI h0 l0 1) + 1) = h1 at F f4 ⊢
      refine wp_iinc (y := (-8)) (L2 := [some (vR l0), some (vI l1), some (vI (l2 + (-8)))]) rfl rfl rfl rfl rfl ?_
      replace F := F _ rfl
      generalize (l2 + (-8) : Int32) = v0 at F ⊢
      refine wp_goto rfl rfl ?_
      exact F
    · replace F := F.2 c
      exact wp_retV rfl F
-- CensusOffice feed (IIIII)I
theorem m59 {d : Nat} {a0 : Nat} {a1 : Int32} {a2 : Int32} {a3 : Int32} {a4 : Int32} {a5 : Int32} {h : aH} {K : Int32 → aH → Prop} {X : Nat → aH → Prop} (F : gK h a0 = 1 ∧ gK h (gR h a0 1) = 12 ∧ ((1200 < ((gI h (gR h a0 1) 1) + 20).toInt → X 4 (gNew h 200 6)) ∧ (¬ 1200 < ((gI h (gR h a0 1) 1) + 20).toInt → 8 ≤ (gR h a0 1) ∧ CV d 58 [vR (gR h a0 1), vI a1] h (fun h0 => gK h0 a0 = 1 ∧ 8 ≤ (gR h0 a0 1) ∧ gK h0 (gR h0 a0 1) = 12 ∧ CV d 58 [vR (gR h0 a0 1), vI a2] h0 (fun h1 => gK h1 a0 = 1 ∧ 8 ≤ (gR h1 a0 1) ∧ gK h1 (gR h1 a0 1) = 12 ∧ CV d 58 [vR (gR h1 a0 1), vI a3] h1 (fun h2 => gK h2 a0 = 1 ∧ 8 ≤ (gR h2 a0 1) ∧ gK h2 (gR h2 a0 1) = 12 ∧ CV d 58 [vR (gR h2 a0 1), vI a4] h2 (fun h3 => gK h3 a0 = 1 ∧ 8 ≤ (gR h3 a0 1) ∧ gK h3 (gR h3 a0 1) = 12 ∧ CV d 58 [vR (gR h3 a0 1), vI a5] h3 (fun h4 => gK h4 a0 = 1 ∧ gK h4 (gR h4 a0 1) = 12 ∧ K (gI h4 (gR h4 a0 1) 1) h4) X) X) X) X) X))) : CI (d + 1) 59 [vR a0, vI a1, vI a2, vI a3, vI a4, vI a5] h K X := by
  show Wp (d + 1) 59 (0, [some (vR a0), some (vI a1), some (vI a2), some (vI a3), some (vI a4), some (vI a5)], [], h) (RI K X)
  refine wp_aload rfl rfl rfl ?_
  obtain ⟨f0, F⟩ := F
  refine wp_getR rfl rfl rfl f0 rfl ?_
  obtain ⟨f1, F⟩ := F
  refine wp_getI rfl rfl rfl f1 rfl ?_
  refine wp_const rfl rfl ?_
  refine wp_iadd rfl rfl ?_
  refine wp_const rfl rfl ?_
  refine wp_icmp_le (Y := 1200) rfl rfl rfl rfl rfl (fun c => ?_) (fun c => ?_)
  · replace F := F.1 c
    exact wp_thrI rfl F
  · replace F := F.2 c
    refine wp_aload rfl rfl rfl ?_
    refine wp_getR rfl rfl rfl f0 rfl ?_
    refine wp_iload rfl rfl rfl ?_
    obtain ⟨f2, F⟩ := F
    refine wp_callV rfl rfl rfl (rcv_v f2 f1 (by decide) (by decide)) rfl rfl rfl rfl ?_
    refine CV.mono F (fun h0 F => ?_) (fun _ _ w => rx_I w)
    refine wp_aload rfl rfl rfl ?_
    obtain ⟨f3, F⟩ := F
    refine wp_getR rfl rfl rfl f3 rfl ?_
    refine wp_iload rfl rfl rfl ?_
    obtain ⟨f4, F⟩ := F
    obtain ⟨f5, F⟩ := F
    refine wp_callV rfl rfl rfl (rcv_v f4 f5 (by decide) (by decide)) rfl rfl rfl rfl ?_
    refine CV.mono F (fun h1 F => ?_) (fun _ _ w => rx_I w)
    refine wp_aload rfl rfl rfl ?_
    obtain ⟨f6, F⟩ := F
    refine wp_getR rfl rfl rfl f6 rfl ?_
    refine wp_iload rfl rfl rfl ?_
    obtain ⟨f7, F⟩ := F
    obtain ⟨f8, F⟩ := F
    refine wp_callV rfl rfl rfl (rcv_v f7 f8 (by decide) (by decide)) rfl rfl rfl rfl ?_
    refine CV.mono F (fun h2 F => ?_) (fun _ _ w => rx_I w)
    refine wp_aload rfl rfl rfl ?_
    obtain ⟨f9, F⟩ := F
    refine wp_getR rfl rfl rfl f9 rfl ?_
    refine wp_iload rfl rfl rfl ?_
    obtain ⟨f10, F⟩ := F
    obtain ⟨f11, F⟩ := F
    refine wp_callV rfl rfl rfl (rcv_v f10 f11 (by decide) (by decide)) rfl rfl rfl rfl ?_
    refine CV.mono F (fun h3 F => ?_) (fun _ _ w => rx_I w)
    refine wp_aload rfl rfl rfl ?_
    obtain ⟨f12, F⟩ := F
    refine wp_getR rfl rfl rfl f12 rfl ?_
    refine wp_iload rfl rfl rfl ?_
    obtain ⟨f13, F⟩ := F
    obtain ⟨f14, F⟩ := F
    refine wp_callV rfl rfl rfl (rcv_v f13 f14 (by decide) (by decide)) rfl rfl rfl rfl ?_
    refine CV.mono F (fun h4 F => ?_) (fun _ _ w => rx_I w)
    refine wp_aload rfl rfl rfl ?_
    obtain ⟨f15, F⟩ := F
    refine wp_getR rfl rfl rfl f15 rfl ?_
    obtain ⟨f16, F⟩ := F
    refine wp_getI rfl rfl rfl f16 rfl ?_
    exact wp_retI rfl (Or.inl rfl) F
-- CensusOfficeLaw feed (LCensusOffice;IIIII[J)I
theorem m60 {d : Nat} {a0 : Nat} {a1 : Int32} {a2 : Int32} {a3 : Int32} {a4 : Int32} {a5 : Int32} {a6 : Nat} {h : aH} {K : Int32 → aH → Prop} {X : Nat → aH → Prop} (F : 8 ≤ a0 ∧ gK h a0 = 1 ∧ CI d 59 [vR a0, vI a1, vI a2, vI a3, vI a4, vI a5] h (fun y0 h0 => 8 ≤ a6 ∧ inB h0 101 a6 0 0 ∧ ∀ h1 : aH, h1 = pJ h0 a6 0 (y0.toInt64) → K 0 h1) (fun x9 h9 => (x9 = 4 ∧ K 1 h9))) : CI (d + 1) 60 [vR a0, vI a1, vI a2, vI a3, vI a4, vI a5, vR a6] h K X := by
  show Wp (d + 1) 60 (0, [some (vR a0), some (vI a1), some (vI a2), some (vI a3), some (vI a4), some (vI a5), some (vR a6), none], [], h) (RI K X)
  refine wp_aload rfl rfl rfl ?_
  refine wp_const rfl rfl ?_
  refine wp_aload rfl rfl rfl ?_
  refine wp_iload rfl rfl rfl ?_
  refine wp_iload rfl rfl rfl ?_
  refine wp_iload rfl rfl rfl ?_
  refine wp_iload rfl rfl rfl ?_
  refine wp_iload rfl rfl rfl ?_
  obtain ⟨f0, F⟩ := F
  obtain ⟨f1, F⟩ := F
  refine wp_callhI (X := (fun x9 h9 => (x9 = 4 ∧ K 1 h9))) rfl rfl rfl (rcv_v f0 f1 (by decide) (by decide)) rfl rfl rfl (fun x9 h9 F => ?_) ?_
  · rcases F with ⟨rfl, F⟩
    · refine ⟨19, rfl, ?_⟩
      refine wp_astoreJ' (L' := [none, none, none, none, none, none, none, none]) (L2 := [none, none, none, none, none, none, none, some vJ]) rfl rfl rfl rfl rfl ?_
      refine wp_const rfl rfl ?_
      exact wp_retI rfl (Or.inl rfl) F
  · refine CI.mono F (fun y0 h0 F => ?_) (fun _ _ w => w)
    refine wp_i2l rfl rfl ?_
    obtain ⟨f2, F⟩ := F
    obtain ⟨b9, F⟩ := F
    refine wp_lastore rfl f2 b9 rfl ?_
    replace F := F _ rfl
    generalize pJ h0 a6 0 (y0.toInt64) = h1 at F ⊢
    refine wp_goto rfl rfl ?_
    refine wp_const' (L' := [none, none, none, none, none, none, none, none]) rfl rfl rfl ?_
    exact wp_retI rfl (Or.inl rfl) F
-- CensusOfficeModel feed (IIIII)I
theorem m61 {d : Nat} {a0 : Nat} {a1 : Int32} {a2 : Int32} {a3 : Int32} {a4 : Int32} {a5 : Int32} {h : aH} {K : Int32 → aH → Prop} {X : Nat → aH → Prop} (F : 8 ≤ a0 ∧ gK h a0 = 14 ∧ ∀ h0 : aH, h0 = pI h a0 0 0 → ((1200 < ((gI h0 a0 13) + 20).toInt → CI d 15 [vR a0, vI 1] h0 (fun y0 h1 => K y0 h1) X) ∧ (¬ 1200 < ((gI h0 a0 13) + 20).toInt → Wp (d + 1) 61 (27, [some (vR a0), some (vI a1), some (vI a2), some (vI a3), some (vI a4), some (vI a5), some (vI 0), none], [], h0) (RI K X)))) : CI (d + 1) 61 [vR a0, vI a1, vI a2, vI a3, vI a4, vI a5] h K X := by
  show Wp (d + 1) 61 (0, [some (vR a0), some (vI a1), some (vI a2), some (vI a3), some (vI a4), some (vI a5), none, none], [], h) (RI K X)
  refine wp_aload rfl rfl rfl ?_
  refine wp_const rfl rfl ?_
  obtain ⟨f0, F⟩ := F
  obtain ⟨f1, F⟩ := F
  refine wp_putI rfl rfl rfl f0 f1 rfl ?_
  have f2 : gK (pI h a0 0 0) a0 = 14 := (gK_pI _ _ _ _ _).trans f1
  replace F := F _ rfl
  generalize pI h a0 0 0 = h0 at F f2 ⊢
  refine wp_aload rfl rfl rfl ?_
  refine wp_getI rfl rfl rfl f2 rfl ?_
  refine wp_const rfl rfl ?_
  refine wp_iadd rfl rfl ?_
  refine wp_const rfl rfl ?_
  refine wp_icmp_le (Y := 1200) rfl rfl rfl rfl rfl (fun c => ?_) (fun c => ?_)
  · replace F := F.1 c
    refine wp_aload rfl rfl rfl ?_
    refine wp_const rfl rfl ?_
    refine wp_callI rfl rfl rfl (rcv_v f0 f2 (by decide) (by decide)) rfl rfl rfl rfl ?_
    refine CI.mono F (fun y0 h1 F => ?_) (fun _ _ w => rx_I w)
    exact wp_retI rfl (Or.inl rfl) F
  · replace F := F.2 c
    refine wp_const' (L' := [some (vR a0), some (vI a1), some (vI a2), some (vI a3), some (vI a4), some (vI a5), none, none]) rfl rfl rfl ?_
    refine wp_istore (L2 := [some (vR a0), some (vI a1), some (vI a2), some (vI a3), some (vI a4), some (vI a5), some (vI 0), none]) rfl rfl rfl rfl ?_
    exact F
theorem w61_27 {d : Nat} {l0 : Nat} {l1 : Int32} {l2 : Int32} {l3 : Int32} {l4 : Int32} {l5 : Int32} {l6 : Int32} {h : aH} {K : Int32 → aH → Prop} {X : Nat → aH → Prop} (F : ((l6.toInt < 20 → ((l6.toInt < 4 → gK h l0 = 14 ∧ 8 ≤ (gR h l0 12) ∧ ∃ i0 : Nat, inB h 100 (gR h l0 12) (gI h l0 13) i0 ∧ ∀ h0 : aH, h0 = pI h (gR h l0 12) i0 ((aUshr l1 (24 - (8 * (aIrem l6 4)))) &&& 255) → 8 ≤ l0 ∧ ∀ h1 : aH, h1 = pI h0 l0 13 ((gI h0 l0 13) + 1) → ∀ v0 : Int32, v0 = l6 + 1 → Wp (d + 1) 61 (27, [some (vR l0), some (vI l1), some (vI l2), some (vI l3), some (vI l4), some (vI l5), some (vI v0), none], [], h1) (RI K X)) ∧ (¬ l6.toInt < 4 → ((l6.toInt < 8 → gK h l0 = 14 ∧ 8 ≤ (gR h l0 12) ∧ ∃ i1 : Nat, inB h 100 (gR h l0 12) (gI h l0 13) i1 ∧ ∀ h2 : aH, h2 = pI h (gR h l0 12) i1 ((aUshr l2 (24 - (8 * (aIrem l6 4)))) &&& 255) → 8 ≤ l0 ∧ ∀ h3 : aH, h3 = pI h2 l0 13 ((gI h2 l0 13) + 1) → ∀ v1 : Int32, v1 = l6 + 1 → Wp (d + 1) 61 (27, [some (vR l0), some (vI l1), some (vI l2), some (vI l3), some (vI l4), some (vI l5), some (vI v1), none], [], h3) (RI K X)) ∧ (¬ l6.toInt < 8 → ((l6.toInt < 12 → gK h l0 = 14 ∧ 8 ≤ (gR h l0 12) ∧ ∃ i2 : Nat, inB h 100 (gR h l0 12) (gI h l0 13) i2 ∧ ∀ h4 : aH, h4 = pI h (gR h l0 12) i2 ((aUshr l3 (24 - (8 * (aIrem l6 4)))) &&& 255) → 8 ≤ l0 ∧ ∀ h5 : aH, h5 = pI h4 l0 13 ((gI h4 l0 13) + 1) → ∀ v2 : Int32, v2 = l6 + 1 → Wp (d + 1) 61 (27, [some (vR l0), some (vI l1), some (vI l2), some (vI l3), some (vI l4), some (vI l5), some (vI v2), none], [], h5) (RI K X)) ∧ (¬ l6.toInt < 12 → ((l6.toInt < 16 → gK h l0 = 14 ∧ 8 ≤ (gR h l0 12) ∧ ∃ i3 : Nat, inB h 100 (gR h l0 12) (gI h l0 13) i3 ∧ ∀ h6 : aH, h6 = pI h (gR h l0 12) i3 ((aUshr l4 (24 - (8 * (aIrem l6 4)))) &&& 255) → 8 ≤ l0 ∧ ∀ h7 : aH, h7 = pI h6 l0 13 ((gI h6 l0 13) + 1) → ∀ v3 : Int32, v3 = l6 + 1 → Wp (d + 1) 61 (27, [some (vR l0), some (vI l1), some (vI l2), some (vI l3), some (vI l4), some (vI l5), some (vI v3), none], [], h7) (RI K X)) ∧ (¬ l6.toInt < 16 → gK h l0 = 14 ∧ 8 ≤ (gR h l0 12) ∧ ∃ i4 : Nat, inB h 100 (gR h l0 12) (gI h l0 13) i4 ∧ ∀ h8 : aH, h8 = pI h (gR h l0 12) i4 ((aUshr l5 (24 - (8 * (aIrem l6 4)))) &&& 255) → 8 ≤ l0 ∧ ∀ h9 : aH, h9 = pI h8 l0 13 ((gI h8 l0 13) + 1) → ∀ v4 : Int32, v4 = l6 + 1 → Wp (d + 1) 61 (27, [some (vR l0), some (vI l1), some (vI l2), some (vI l3), some (vI l4), some (vI l5), some (vI v4), none], [], h9) (RI K X)))))))))) ∧ (¬ l6.toInt < 20 → gK h l0 = 14 ∧ K (gI h l0 13) h))) : Wp (d + 1) 61 (27, [some (vR l0), some (vI l1), some (vI l2), some (vI l3), some (vI l4), some (vI l5), some (vI l6), none], [], h) (RI K X) := by
  refine wp_iload' (L' := [some (vR l0), some (vI l1), some (vI l2), some (vI l3), some (vI l4), some (vI l5), some (vI l6), none]) rfl rfl rfl rfl ?_
  refine wp_const rfl rfl ?_
  refine wp_icmp_ge (Y := 20) rfl rfl rfl rfl rfl (fun c => ?_) (fun c => ?_)
  · replace F := F.1 c
    refine wp_iload rfl rfl rfl ?_
    refine wp_const rfl rfl ?_
    refine wp_icmp_ge (Y := 4) rfl rfl rfl rfl rfl (fun c => ?_) (fun c => ?_)
    · replace F := F.1 c
      refine wp_iload rfl rfl rfl ?_
      refine wp_goto rfl rfl ?_
      refine wp_istore' (L' := [some (vR l0), some (vI l1), some (vI l2), some (vI l3), some (vI l4), some (vI l5), some (vI l6), none]) (L2 := [some (vR l0), some (vI l1), some (vI l2), some (vI l3), some (vI l4), some (vI l5), some (vI l6), some (vI l1)]) rfl rfl rfl rfl rfl ?_
      refine wp_aload rfl rfl rfl ?_
      obtain ⟨f0, F⟩ := F
      refine wp_getR rfl rfl rfl f0 rfl ?_
      refine wp_aload rfl rfl rfl ?_
      refine wp_getI rfl rfl rfl f0 rfl ?_
      refine wp_iload rfl rfl rfl ?_
      refine wp_const rfl rfl ?_
      refine wp_const rfl rfl ?_
      refine wp_iload rfl rfl rfl ?_
      refine wp_const rfl rfl ?_
      refine wp_irem rfl (by decide) rfl ?_
      refine wp_imul rfl rfl ?_
      refine wp_isub rfl rfl ?_
      refine wp_iushr rfl rfl ?_
      refine wp_const rfl rfl ?_
      refine wp_iand rfl rfl ?_
      obtain ⟨f1, F⟩ := F
      obtain ⟨i0, b9, F⟩ := F
      refine wp_iastore rfl f1 b9 rfl ?_
      have f2 : gK (pI h (gR h l0 12) i0 ((aUshr l1 (24 - (8 * (aIrem l6 4)))) &&& 255)) l0 = 14 := (gK_pI _ _ _ _ _).trans f0
      replace F := F _ rfl
      generalize pI h (gR h l0 12) i0 ((aUshr l1 (24 - (8 * (aIrem l6 4)))) &&& 255) = h0 at F f2 ⊢
      refine wp_aload rfl rfl rfl ?_
      refine wp_dup rfl rfl rfl ?_
      refine wp_getI rfl rfl rfl f2 rfl ?_
      refine wp_const rfl rfl ?_
      refine wp_iadd rfl rfl ?_
      obtain ⟨f3, F⟩ := F
      refine wp_putI rfl rfl rfl f3 f2 rfl ?_
      have f4 : gK (pI h0 l0 13 ((gI h0 l0 13) + 1)) l0 = 14 := (gK_pI _ _ _ _ _).trans f2
      replace F := F _ rfl
      generalize pI h0 l0 13 ((gI h0 l0 13) + 1) = h1 at F f4 ⊢
      refine wp_iinc (y := 1) (L2 := [some (vR l0), some (vI l1), some (vI l2), some (vI l3), some (vI l4), some (vI l5), some (vI (l6 + 1)), some (vI l1)]) rfl rfl rfl rfl rfl ?_
      replace F := F _ rfl
      generalize (l6 + 1 : Int32) = v0 at F ⊢
      refine wp_goto rfl rfl ?_
      refine wp_kill (L' := [some (vR l0), some (vI l1), some (vI l2), some (vI l3), some (vI l4), some (vI l5), some (vI v0), none]) rfl rfl ?_
      exact F
    · replace F := F.2 c
      refine wp_iload' (L' := [some (vR l0), some (vI l1), some (vI l2), some (vI l3), some (vI l4), some (vI l5), some (vI l6), none]) rfl rfl rfl rfl ?_
      refine wp_const rfl rfl ?_
      refine wp_icmp_ge (Y := 8) rfl rfl rfl rfl rfl (fun c => ?_) (fun c => ?_)
      · replace F := F.1 c
        refine wp_iload rfl rfl rfl ?_
        refine wp_goto rfl rfl ?_
        refine wp_istore' (L' := [some (vR l0), some (vI l1), some (vI l2), some (vI l3), some (vI l4), some (vI l5), some (vI l6), none]) (L2 := [some (vR l0), some (vI l1), some (vI l2), some (vI l3), some (vI l4), some (vI l5), some (vI l6), some (vI l2)]) rfl rfl rfl rfl rfl ?_
        refine wp_aload rfl rfl rfl ?_
        obtain ⟨f5, F⟩ := F
        refine wp_getR rfl rfl rfl f5 rfl ?_
        refine wp_aload rfl rfl rfl ?_
        refine wp_getI rfl rfl rfl f5 rfl ?_
        refine wp_iload rfl rfl rfl ?_
        refine wp_const rfl rfl ?_
        refine wp_const rfl rfl ?_
        refine wp_iload rfl rfl rfl ?_
        refine wp_const rfl rfl ?_
        refine wp_irem rfl (by decide) rfl ?_
        refine wp_imul rfl rfl ?_
        refine wp_isub rfl rfl ?_
        refine wp_iushr rfl rfl ?_
        refine wp_const rfl rfl ?_
        refine wp_iand rfl rfl ?_
        obtain ⟨f6, F⟩ := F
        obtain ⟨i1, b9, F⟩ := F
        refine wp_iastore rfl f6 b9 rfl ?_
        have f7 : gK (pI h (gR h l0 12) i1 ((aUshr l2 (24 - (8 * (aIrem l6 4)))) &&& 255)) l0 = 14 := (gK_pI _ _ _ _ _).trans f5
        replace F := F _ rfl
        generalize pI h (gR h l0 12) i1 ((aUshr l2 (24 - (8 * (aIrem l6 4)))) &&& 255) = h2 at F f7 ⊢
        refine wp_aload rfl rfl rfl ?_
        refine wp_dup rfl rfl rfl ?_
        refine wp_getI rfl rfl rfl f7 rfl ?_
        refine wp_const rfl rfl ?_
        refine wp_iadd rfl rfl ?_
        obtain ⟨f8, F⟩ := F
        refine wp_putI rfl rfl rfl f8 f7 rfl ?_
        have f9 : gK (pI h2 l0 13 ((gI h2 l0 13) + 1)) l0 = 14 := (gK_pI _ _ _ _ _).trans f7
        replace F := F _ rfl
        generalize pI h2 l0 13 ((gI h2 l0 13) + 1) = h3 at F f9 ⊢
        refine wp_iinc (y := 1) (L2 := [some (vR l0), some (vI l1), some (vI l2), some (vI l3), some (vI l4), some (vI l5), some (vI (l6 + 1)), some (vI l2)]) rfl rfl rfl rfl rfl ?_
        replace F := F _ rfl
        generalize (l6 + 1 : Int32) = v1 at F ⊢
        refine wp_goto rfl rfl ?_
        refine wp_kill (L' := [some (vR l0), some (vI l1), some (vI l2), some (vI l3), some (vI l4), some (vI l5), some (vI v1), none]) rfl rfl ?_
        exact F
      · replace F := F.2 c
        refine wp_iload' (L' := [some (vR l0), some (vI l1), some (vI l2), some (vI l3), some (vI l4), some (vI l5), some (vI l6), none]) rfl rfl rfl rfl ?_
        refine wp_const rfl rfl ?_
        refine wp_icmp_ge (Y := 12) rfl rfl rfl rfl rfl (fun c => ?_) (fun c => ?_)
        · replace F := F.1 c
          refine wp_iload rfl rfl rfl ?_
          refine wp_goto rfl rfl ?_
          refine wp_istore' (L' := [some (vR l0), some (vI l1), some (vI l2), some (vI l3), some (vI l4), some (vI l5), some (vI l6), none]) (L2 := [some (vR l0), some (vI l1), some (vI l2), some (vI l3), some (vI l4), some (vI l5), some (vI l6), some (vI l3)]) rfl rfl rfl rfl rfl ?_
          refine wp_aload rfl rfl rfl ?_
          obtain ⟨f10, F⟩ := F
          refine wp_getR rfl rfl rfl f10 rfl ?_
          refine wp_aload rfl rfl rfl ?_
          refine wp_getI rfl rfl rfl f10 rfl ?_
          refine wp_iload rfl rfl rfl ?_
          refine wp_const rfl rfl ?_
          refine wp_const rfl rfl ?_
          refine wp_iload rfl rfl rfl ?_
          refine wp_const rfl rfl ?_
          refine wp_irem rfl (by decide) rfl ?_
          refine wp_imul rfl rfl ?_
          refine wp_isub rfl rfl ?_
          refine wp_iushr rfl rfl ?_
          refine wp_const rfl rfl ?_
          refine wp_iand rfl rfl ?_
          obtain ⟨f11, F⟩ := F
          obtain ⟨i2, b9, F⟩ := F
          refine wp_iastore rfl f11 b9 rfl ?_
          have f12 : gK (pI h (gR h l0 12) i2 ((aUshr l3 (24 - (8 * (aIrem l6 4)))) &&& 255)) l0 = 14 := (gK_pI _ _ _ _ _).trans f10
          replace F := F _ rfl
          generalize pI h (gR h l0 12) i2 ((aUshr l3 (24 - (8 * (aIrem l6 4)))) &&& 255) = h4 at F f12 ⊢
          refine wp_aload rfl rfl rfl ?_
          refine wp_dup rfl rfl rfl ?_
          refine wp_getI rfl rfl rfl f12 rfl ?_
          refine wp_const rfl rfl ?_
          refine wp_iadd rfl rfl ?_
          obtain ⟨f13, F⟩ := F
          refine wp_putI rfl rfl rfl f13 f12 rfl ?_
          have f14 : gK (pI h4 l0 13 ((gI h4 l0 13) + 1)) l0 = 14 := (gK_pI _ _ _ _ _).trans f12
          replace F := F _ rfl
          generalize pI h4 l0 13 ((gI h4 l0 13) + 1) = h5 at F f14 ⊢
          refine wp_iinc (y := 1) (L2 := [some (vR l0), some (vI l1), some (vI l2), some (vI l3), some (vI l4), some (vI l5), some (vI (l6 + 1)), some (vI l3)]) rfl rfl rfl rfl rfl ?_
          replace F := F _ rfl
          generalize (l6 + 1 : Int32) = v2 at F ⊢
          refine wp_goto rfl rfl ?_
          refine wp_kill (L' := [some (vR l0), some (vI l1), some (vI l2), some (vI l3), some (vI l4), some (vI l5), some (vI v2), none]) rfl rfl ?_
          exact F
        · replace F := F.2 c
          refine wp_iload' (L' := [some (vR l0), some (vI l1), some (vI l2), some (vI l3), some (vI l4), some (vI l5), some (vI l6), none]) rfl rfl rfl rfl ?_
          refine wp_const rfl rfl ?_
          refine wp_icmp_ge (Y := 16) rfl rfl rfl rfl rfl (fun c => ?_) (fun c => ?_)
          · replace F := F.1 c
            refine wp_iload rfl rfl rfl ?_
            refine wp_goto rfl rfl ?_
            refine wp_istore' (L' := [some (vR l0), some (vI l1), some (vI l2), some (vI l3), some (vI l4), some (vI l5), some (vI l6), none]) (L2 := [some (vR l0), some (vI l1), some (vI l2), some (vI l3), some (vI l4), some (vI l5), some (vI l6), some (vI l4)]) rfl rfl rfl rfl rfl ?_
            refine wp_aload rfl rfl rfl ?_
            obtain ⟨f15, F⟩ := F
            refine wp_getR rfl rfl rfl f15 rfl ?_
            refine wp_aload rfl rfl rfl ?_
            refine wp_getI rfl rfl rfl f15 rfl ?_
            refine wp_iload rfl rfl rfl ?_
            refine wp_const rfl rfl ?_
            refine wp_const rfl rfl ?_
            refine wp_iload rfl rfl rfl ?_
            refine wp_const rfl rfl ?_
            refine wp_irem rfl (by decide) rfl ?_
            refine wp_imul rfl rfl ?_
            refine wp_isub rfl rfl ?_
            refine wp_iushr rfl rfl ?_
            refine wp_const rfl rfl ?_
            refine wp_iand rfl rfl ?_
            obtain ⟨f16, F⟩ := F
            obtain ⟨i3, b9, F⟩ := F
            refine wp_iastore rfl f16 b9 rfl ?_
            have f17 : gK (pI h (gR h l0 12) i3 ((aUshr l4 (24 - (8 * (aIrem l6 4)))) &&& 255)) l0 = 14 := (gK_pI _ _ _ _ _).trans f15
            replace F := F _ rfl
            generalize pI h (gR h l0 12) i3 ((aUshr l4 (24 - (8 * (aIrem l6 4)))) &&& 255) = h6 at F f17 ⊢
            refine wp_aload rfl rfl rfl ?_
            refine wp_dup rfl rfl rfl ?_
            refine wp_getI rfl rfl rfl f17 rfl ?_
            refine wp_const rfl rfl ?_
            refine wp_iadd rfl rfl ?_
            obtain ⟨f18, F⟩ := F
            refine wp_putI rfl rfl rfl f18 f17 rfl ?_
            have f19 : gK (pI h6 l0 13 ((gI h6 l0 13) + 1)) l0 = 14 := (gK_pI _ _ _ _ _).trans f17
            replace F := F _ rfl
            generalize pI h6 l0 13 ((gI h6 l0 13) + 1) = h7 at F f19 ⊢
            refine wp_iinc (y := 1) (L2 := [some (vR l0), some (vI l1), some (vI l2), some (vI l3), some (vI l4), some (vI l5), some (vI (l6 + 1)), some (vI l4)]) rfl rfl rfl rfl rfl ?_
            replace F := F _ rfl
            generalize (l6 + 1 : Int32) = v3 at F ⊢
            refine wp_goto rfl rfl ?_
            refine wp_kill (L' := [some (vR l0), some (vI l1), some (vI l2), some (vI l3), some (vI l4), some (vI l5), some (vI v3), none]) rfl rfl ?_
            exact F
          · replace F := F.2 c
            refine wp_iload' (L' := [some (vR l0), some (vI l1), some (vI l2), some (vI l3), some (vI l4), some (vI l5), some (vI l6), none]) rfl rfl rfl rfl ?_
            refine wp_istore' (L' := [some (vR l0), some (vI l1), some (vI l2), some (vI l3), some (vI l4), some (vI l5), some (vI l6), none]) (L2 := [some (vR l0), some (vI l1), some (vI l2), some (vI l3), some (vI l4), some (vI l5), some (vI l6), some (vI l5)]) rfl rfl rfl rfl rfl ?_
            refine wp_aload rfl rfl rfl ?_
            obtain ⟨f20, F⟩ := F
            refine wp_getR rfl rfl rfl f20 rfl ?_
            refine wp_aload rfl rfl rfl ?_
            refine wp_getI rfl rfl rfl f20 rfl ?_
            refine wp_iload rfl rfl rfl ?_
            refine wp_const rfl rfl ?_
            refine wp_const rfl rfl ?_
            refine wp_iload rfl rfl rfl ?_
            refine wp_const rfl rfl ?_
            refine wp_irem rfl (by decide) rfl ?_
            refine wp_imul rfl rfl ?_
            refine wp_isub rfl rfl ?_
            refine wp_iushr rfl rfl ?_
            refine wp_const rfl rfl ?_
            refine wp_iand rfl rfl ?_
            obtain ⟨f21, F⟩ := F
            obtain ⟨i4, b9, F⟩ := F
            refine wp_iastore rfl f21 b9 rfl ?_
            have f22 : gK (pI h (gR h l0 12) i4 ((aUshr l5 (24 - (8 * (aIrem l6 4)))) &&& 255)) l0 = 14 := (gK_pI _ _ _ _ _).trans f20
            replace F := F _ rfl
            generalize pI h (gR h l0 12) i4 ((aUshr l5 (24 - (8 * (aIrem l6 4)))) &&& 255) = h8 at F f22 ⊢
            refine wp_aload rfl rfl rfl ?_
            refine wp_dup rfl rfl rfl ?_
            refine wp_getI rfl rfl rfl f22 rfl ?_
            refine wp_const rfl rfl ?_
            refine wp_iadd rfl rfl ?_
            obtain ⟨f23, F⟩ := F
            refine wp_putI rfl rfl rfl f23 f22 rfl ?_
            have f24 : gK (pI h8 l0 13 ((gI h8 l0 13) + 1)) l0 = 14 := (gK_pI _ _ _ _ _).trans f22
            replace F := F _ rfl
            generalize pI h8 l0 13 ((gI h8 l0 13) + 1) = h9 at F f24 ⊢
            refine wp_iinc (y := 1) (L2 := [some (vR l0), some (vI l1), some (vI l2), some (vI l3), some (vI l4), some (vI l5), some (vI (l6 + 1)), some (vI l5)]) rfl rfl rfl rfl rfl ?_
            replace F := F _ rfl
            generalize (l6 + 1 : Int32) = v4 at F ⊢
            refine wp_goto rfl rfl ?_
            refine wp_kill (L' := [some (vR l0), some (vI l1), some (vI l2), some (vI l3), some (vI l4), some (vI l5), some (vI v4), none]) rfl rfl ?_
            exact F
  · replace F := F.2 c
    refine wp_aload' (L' := [some (vR l0), none, none, none, none, none, none, none]) rfl rfl rfl rfl ?_
    obtain ⟨f25, F⟩ := F
    refine wp_getI rfl rfl rfl f25 rfl ?_
    exact wp_retI rfl (Or.inl rfl) F
-- CensusOffice trim (I)I
theorem m62 {d : Nat} {a0 : Nat} {a1 : Int32} {h : aH} {K : Int32 → aH → Prop} {X : Nat → aH → Prop} (F : ((a1.toInt < 0 → X 1 (gNew h 200 6)) ∧ (¬ a1.toInt < 0 → gK h a0 = 1 ∧ gK h (gR h a0 1) = 12 ∧ (((gI h (gR h a0 1) 1).toInt < a1.toInt → X 1 (gNew h 200 6)) ∧ (¬ (gI h (gR h a0 1) 1).toInt < a1.toInt → ∀ v0 : Int32, v0 = gI h (gR h a0 1) 1 → 8 ≤ (gR h a0 1) ∧ ∀ h0 : aH, h0 = pI h (gR h a0 1) 1 a1 → K v0 h0))))) : CI d 62 [vR a0, vI a1] h K X := by
  show Wp d 62 (0, [some (vR a0), some (vI a1), none], [], h) (RI K X)
  refine wp_iload rfl rfl rfl ?_
  refine wp_if_lt rfl rfl rfl rfl (fun c => ?_) (fun c => ?_)
  · replace F := F.1 c
    exact wp_thrI rfl F
  · replace F := F.2 c
    refine wp_iload rfl rfl rfl ?_
    refine wp_aload rfl rfl rfl ?_
    obtain ⟨f0, F⟩ := F
    refine wp_getR rfl rfl rfl f0 rfl ?_
    obtain ⟨f1, F⟩ := F
    refine wp_getI rfl rfl rfl f1 rfl ?_
    refine wp_icmp_le rfl rfl rfl rfl rfl (fun c => ?_) (fun c => ?_)
    · replace F := F.1 c
      exact wp_thrI rfl F
    · replace F := F.2 c
      refine wp_aload' (L' := [some (vR a0), some (vI a1), none]) rfl rfl rfl rfl ?_
      refine wp_getR rfl rfl rfl f0 rfl ?_
      refine wp_getI rfl rfl rfl f1 rfl ?_
      replace F := F _ rfl
      generalize (gI h (gR h a0 1) 1 : Int32) = v0 at F ⊢
      refine wp_istore (L2 := [some (vR a0), some (vI a1), some (vI v0)]) rfl rfl rfl rfl ?_
      refine wp_aload rfl rfl rfl ?_
      refine wp_getR rfl rfl rfl f0 rfl ?_
      refine wp_iload rfl rfl rfl ?_
      obtain ⟨f2, F⟩ := F
      refine wp_putI rfl rfl rfl f2 f1 rfl ?_
      have f3 : gK (pI h (gR h a0 1) 1 a1) a0 = 1 := (gK_pI _ _ _ _ _).trans f0
      have f4 : gK (pI h (gR h a0 1) 1 a1) (gR (pI h (gR h a0 1) 1 a1) a0 1) = 12 := (by simp only [gK_pI, gR_pI]; exact f1)
      replace F := F _ rfl
      generalize pI h (gR h a0 1) 1 a1 = h0 at F f3 f4 ⊢
      refine wp_iload rfl rfl rfl ?_
      exact wp_retI rfl (Or.inl rfl) F
-- CensusOfficeLaw trim (LCensusOffice;I[J)I
theorem m63 {d : Nat} {a0 : Nat} {a1 : Int32} {a2 : Nat} {h : aH} {K : Int32 → aH → Prop} {X : Nat → aH → Prop} (F : 8 ≤ a0 ∧ gK h a0 = 1 ∧ CI d 62 [vR a0, vI a1] h (fun y0 h0 => 8 ≤ a2 ∧ inB h0 101 a2 0 0 ∧ ∀ h1 : aH, h1 = pJ h0 a2 0 (y0.toInt64) → K 0 h1) (fun x9 h9 => (x9 = 1 ∧ K 1 h9))) : CI (d + 1) 63 [vR a0, vI a1, vR a2] h K X := by
  show Wp (d + 1) 63 (0, [some (vR a0), some (vI a1), some (vR a2), none], [], h) (RI K X)
  refine wp_aload rfl rfl rfl ?_
  refine wp_const rfl rfl ?_
  refine wp_aload rfl rfl rfl ?_
  refine wp_iload rfl rfl rfl ?_
  obtain ⟨f0, F⟩ := F
  obtain ⟨f1, F⟩ := F
  refine wp_callhI (X := (fun x9 h9 => (x9 = 1 ∧ K 1 h9))) rfl rfl rfl (rcv_v f0 f1 (by decide) (by decide)) rfl rfl rfl (fun x9 h9 F => ?_) ?_
  · rcases F with ⟨rfl, F⟩
    · refine ⟨12, rfl, ?_⟩
      refine wp_astoreJ' (L' := [none, none, none, none]) (L2 := [none, none, none, some vJ]) rfl rfl rfl rfl rfl ?_
      refine wp_const rfl rfl ?_
      exact wp_retI rfl (Or.inl rfl) F
  · refine CI.mono F (fun y0 h0 F => ?_) (fun _ _ w => w)
    refine wp_i2l rfl rfl ?_
    obtain ⟨f2, F⟩ := F
    obtain ⟨b9, F⟩ := F
    refine wp_lastore rfl f2 b9 rfl ?_
    replace F := F _ rfl
    generalize pJ h0 a2 0 (y0.toInt64) = h1 at F ⊢
    refine wp_goto rfl rfl ?_
    refine wp_const' (L' := [none, none, none, none]) rfl rfl rfl ?_
    exact wp_retI rfl (Or.inl rfl) F
-- CensusOfficeModel trim (I)I
theorem m64 {d : Nat} {a0 : Nat} {a1 : Int32} {h : aH} {K : Int32 → aH → Prop} {X : Nat → aH → Prop} (F : 8 ≤ a0 ∧ gK h a0 = 14 ∧ ∀ h0 : aH, h0 = pI h a0 0 0 → CI d 14 [vL (a1.toInt64), vL 0, vL ((gI h0 a0 13).toInt64)] h0 (fun y0 h1 => ((y0.toInt = 0 → gK h1 a0 = 14 ∧ CI d 15 [vR a0, vI 1] h1 (fun y1 h2 => K y1 h2) X) ∧ (¬ y0.toInt = 0 → gK h1 a0 = 14 ∧ ∀ v0 : Int32, v0 = gI h1 a0 13 → ∀ h3 : aH, h3 = pI h1 a0 13 a1 → K v0 h3))) X) : CI (d + 1) 64 [vR a0, vI a1] h K X := by
  show Wp (d + 1) 64 (0, [some (vR a0), some (vI a1), none], [], h) (RI K X)
  refine wp_aload rfl rfl rfl ?_
  refine wp_const rfl rfl ?_
  obtain ⟨f0, F⟩ := F
  obtain ⟨f1, F⟩ := F
  refine wp_putI rfl rfl rfl f0 f1 rfl ?_
  have f2 : gK (pI h a0 0 0) a0 = 14 := (gK_pI _ _ _ _ _).trans f1
  replace F := F _ rfl
  generalize pI h a0 0 0 = h0 at F f2 ⊢
  refine wp_iload rfl rfl rfl ?_
  refine wp_i2l rfl rfl ?_
  refine wp_const rfl rfl ?_
  refine wp_aload rfl rfl rfl ?_
  refine wp_getI rfl rfl rfl f2 rfl ?_
  refine wp_i2l rfl rfl ?_
  refine wp_callI rfl rfl rfl rfl rfl rfl rfl rfl ?_
  refine CI.mono F (fun y0 h1 F => ?_) (fun _ _ w => rx_I w)
  refine wp_if_ne rfl rfl rfl rfl (fun c => ?_) (fun c => ?_)
  · replace F := F.1 c
    refine wp_aload rfl rfl rfl ?_
    refine wp_const rfl rfl ?_
    obtain ⟨f3, F⟩ := F
    refine wp_callI rfl rfl rfl (rcv_v f0 f3 (by decide) (by decide)) rfl rfl rfl rfl ?_
    refine CI.mono F (fun y1 h2 F => ?_) (fun _ _ w => rx_I w)
    exact wp_retI rfl (Or.inl rfl) F
  · replace F := F.2 c
    refine wp_aload' (L' := [some (vR a0), some (vI a1), none]) rfl rfl rfl rfl ?_
    obtain ⟨f4, F⟩ := F
    refine wp_getI rfl rfl rfl f4 rfl ?_
    replace F := F _ rfl
    generalize (gI h1 a0 13 : Int32) = v0 at F ⊢
    refine wp_istore (L2 := [some (vR a0), some (vI a1), some (vI v0)]) rfl rfl rfl rfl ?_
    refine wp_aload rfl rfl rfl ?_
    refine wp_iload rfl rfl rfl ?_
    refine wp_putI rfl rfl rfl f0 f4 rfl ?_
    have f5 : gK (pI h1 a0 13 a1) a0 = 14 := (gK_pI _ _ _ _ _).trans f4
    replace F := F _ rfl
    generalize pI h1 a0 13 a1 = h3 at F f5 ⊢
    refine wp_iload rfl rfl rfl ?_
    exact wp_retI rfl (Or.inl rfl) F
-- java/util/ArrayList size ()I
theorem m65 {d : Nat} {a0 : Nat} {h : aH} {K : Int32 → aH → Prop} {X : Nat → aH → Prop} (F : gK h a0 = 13 ∧ K (gI h a0 1) h) : CI d 65 [vR a0] h K X := by
  show Wp d 65 (0, [some (vR a0)], [], h) (RI K X)
  refine wp_aload rfl rfl rfl ?_
  obtain ⟨f0, F⟩ := F
  refine wp_getI rfl rfl rfl f0 rfl ?_
  exact wp_retI rfl (Or.inl rfl) F
-- CensusOffice$Tape isBlank (I)Z
theorem m66 {d : Nat} {a0 : Nat} {a1 : Int32} {h : aH} {K : Int32 → aH → Prop} {X : Nat → aH → Prop} (F : ((a1.toInt = 9 → K 1 h) ∧ (¬ a1.toInt = 9 → ((a1.toInt = 10 → K 1 h) ∧ (¬ a1.toInt = 10 → ((a1.toInt = 13 → K 1 h) ∧ (¬ a1.toInt = 13 → ((a1.toInt = 32 → K 1 h) ∧ (¬ a1.toInt = 32 → K 0 h))))))))) : CI d 66 [vR a0, vI a1] h K X := by
  show Wp d 66 (0, [some (vR a0), some (vI a1)], [], h) (RI K X)
  refine wp_iload rfl rfl rfl ?_
  refine wp_const rfl rfl ?_
  refine wp_icmp_eq (Y := 9) rfl rfl rfl rfl rfl (fun c => ?_) (fun c => ?_)
  · replace F := F.1 c
    refine wp_const' (L' := [none, none]) rfl rfl rfl ?_
    refine wp_goto rfl rfl ?_
    exact wp_retI rfl (Or.inr rfl) F
  · replace F := F.2 c
    refine wp_iload rfl rfl rfl ?_
    refine wp_const rfl rfl ?_
    refine wp_icmp_eq (Y := 10) rfl rfl rfl rfl rfl (fun c => ?_) (fun c => ?_)
    · replace F := F.1 c
      refine wp_const' (L' := [none, none]) rfl rfl rfl ?_
      refine wp_goto rfl rfl ?_
      exact wp_retI rfl (Or.inr rfl) F
    · replace F := F.2 c
      refine wp_iload rfl rfl rfl ?_
      refine wp_const rfl rfl ?_
      refine wp_icmp_eq (Y := 13) rfl rfl rfl rfl rfl (fun c => ?_) (fun c => ?_)
      · replace F := F.1 c
        refine wp_const' (L' := [none, none]) rfl rfl rfl ?_
        refine wp_goto rfl rfl ?_
        exact wp_retI rfl (Or.inr rfl) F
      · replace F := F.2 c
        refine wp_iload rfl rfl rfl ?_
        refine wp_const rfl rfl ?_
        refine wp_icmp_ne (Y := 32) rfl rfl rfl rfl rfl (fun c => ?_) (fun c => ?_)
        · replace F := F.1 c
          refine wp_const' (L' := [none, none]) rfl rfl rfl ?_
          refine wp_goto rfl rfl ?_
          exact wp_retI rfl (Or.inr rfl) F
        · replace F := F.2 c
          refine wp_const' (L' := [none, none]) rfl rfl rfl ?_
          exact wp_retI rfl (Or.inr rfl) F
-- CensusOffice$Tape takeWord ()V
theorem m67 {d : Nat} {a0 : Nat} {h : aH} {K : aH → Prop} {X : Nat → aH → Prop} (F : 8 ≤ a0 ∧ gK h a0 = 12 ∧ ∀ h0 : aH, h0 = pJ h a0 6 0 → Wp d 67 (5, [some (vR a0)], [], h0) (RV K X)) : CV d 67 [vR a0] h K X := by
  show Wp d 67 (0, [some (vR a0)], [], h) (RV K X)
  refine wp_aload rfl rfl rfl ?_
  refine wp_const rfl rfl ?_
  obtain ⟨f0, F⟩ := F
  obtain ⟨f1, F⟩ := F
  refine wp_putJ rfl rfl rfl f0 f1 rfl ?_
  have f2 : gK (pJ h a0 6 0) a0 = 12 := (gK_pJ _ _ _ _ _).trans f1
  replace F := F _ rfl
  generalize pJ h a0 6 0 = h0 at F f2 ⊢
  exact F
theorem w67_5 {d : Nat} {l0 : Nat} {h : aH} {K : aH → Prop} {X : Nat → aH → Prop} (F : gK h l0 = 12 ∧ (((gI h l0 2).toInt < (gI h l0 1).toInt → ∃ i0 : Nat, inB h 103 (gR h l0 0) (gI h l0 2) i0 ∧ (((gI h (gR h l0 0) i0).toInt < 97 → ((8 < ((gI h l0 2) - (gI h l0 4)).toInt → 8 ≤ l0 ∧ ∀ h0 : aH, h0 = pI h l0 3 7 → K h0) ∧ (¬ 8 < ((gI h l0 2) - (gI h l0 4)).toInt → 8 ≤ l0 ∧ ∀ h1 : aH, h1 = pI h l0 3 0 → K h1))) ∧ (¬ (gI h (gR h l0 0) i0).toInt < 97 → ∃ i1 : Nat, inB h 103 (gR h l0 0) (gI h l0 2) i1 ∧ ((122 < (gI h (gR h l0 0) i1).toInt → ((8 < ((gI h l0 2) - (gI h l0 4)).toInt → 8 ≤ l0 ∧ ∀ h2 : aH, h2 = pI h l0 3 7 → K h2) ∧ (¬ 8 < ((gI h l0 2) - (gI h l0 4)).toInt → 8 ≤ l0 ∧ ∀ h3 : aH, h3 = pI h l0 3 0 → K h3))) ∧ (¬ 122 < (gI h (gR h l0 0) i1).toInt → ∃ i2 : Nat, inB h 103 (gR h l0 0) (gI h l0 2) i2 ∧ 8 ≤ l0 ∧ ∀ h4 : aH, h4 = pJ h l0 6 (((gJ h l0 6) <<< ((8 : Int32).toInt64 &&& 63)) ||| ((gI h (gR h l0 0) i2).toInt64)) → ∀ h5 : aH, h5 = pI h4 l0 2 ((gI h4 l0 2) + 1) → Wp d 67 (5, [some (vR l0)], [], h5) (RV K X)))))) ∧ (¬ (gI h l0 2).toInt < (gI h l0 1).toInt → ((8 < ((gI h l0 2) - (gI h l0 4)).toInt → 8 ≤ l0 ∧ ∀ h6 : aH, h6 = pI h l0 3 7 → K h6) ∧ (¬ 8 < ((gI h l0 2) - (gI h l0 4)).toInt → 8 ≤ l0 ∧ ∀ h7 : aH, h7 = pI h l0 3 0 → K h7))))) : Wp d 67 (5, [some (vR l0)], [], h) (RV K X) := by
  refine wp_aload rfl rfl rfl ?_
  obtain ⟨f0, F⟩ := F
  refine wp_getI rfl rfl rfl f0 rfl ?_
  refine wp_aload rfl rfl rfl ?_
  refine wp_getI rfl rfl rfl f0 rfl ?_
  refine wp_icmp_ge rfl rfl rfl rfl rfl (fun c => ?_) (fun c => ?_)
  · replace F := F.1 c
    refine wp_aload rfl rfl rfl ?_
    refine wp_getR rfl rfl rfl f0 rfl ?_
    refine wp_aload rfl rfl rfl ?_
    refine wp_getI rfl rfl rfl f0 rfl ?_
    obtain ⟨i0, b9, F⟩ := F
    refine wp_baload rfl b9 rfl ?_
    refine wp_const rfl rfl ?_
    refine wp_icmp_lt (Y := 97) rfl rfl rfl rfl rfl (fun c => ?_) (fun c => ?_)
    · replace F := F.1 c
      refine wp_aload rfl rfl rfl ?_
      refine wp_aload rfl rfl rfl ?_
      refine wp_getI rfl rfl rfl f0 rfl ?_
      refine wp_aload rfl rfl rfl ?_
      refine wp_getI rfl rfl rfl f0 rfl ?_
      refine wp_isub rfl rfl ?_
      refine wp_const rfl rfl ?_
      refine wp_icmp_le (Y := 8) rfl rfl rfl rfl rfl (fun c => ?_) (fun c => ?_)
      · replace F := F.1 c
        refine wp_const rfl rfl ?_
        refine wp_goto rfl rfl ?_
        obtain ⟨f1, F⟩ := F
        refine wp_putI' (L' := [none]) rfl rfl rfl rfl f1 f0 rfl ?_
        have f2 : gK (pI h l0 3 7) l0 = 12 := (gK_pI _ _ _ _ _).trans f0
        replace F := F _ rfl
        generalize pI h l0 3 7 = h0 at F f2 ⊢
        exact wp_retV rfl F
      · replace F := F.2 c
        refine wp_const' (L' := [none]) rfl rfl rfl ?_
        obtain ⟨f3, F⟩ := F
        refine wp_putI' (L' := [none]) rfl rfl rfl rfl f3 f0 rfl ?_
        have f4 : gK (pI h l0 3 0) l0 = 12 := (gK_pI _ _ _ _ _).trans f0
        replace F := F _ rfl
        generalize pI h l0 3 0 = h1 at F f4 ⊢
        exact wp_retV rfl F
    · replace F := F.2 c
      refine wp_aload rfl rfl rfl ?_
      refine wp_getR rfl rfl rfl f0 rfl ?_
      refine wp_aload rfl rfl rfl ?_
      refine wp_getI rfl rfl rfl f0 rfl ?_
      obtain ⟨i1, b9, F⟩ := F
      refine wp_baload rfl b9 rfl ?_
      refine wp_const rfl rfl ?_
      refine wp_icmp_gt (Y := 122) rfl rfl rfl rfl rfl (fun c => ?_) (fun c => ?_)
      · replace F := F.1 c
        refine wp_aload rfl rfl rfl ?_
        refine wp_aload rfl rfl rfl ?_
        refine wp_getI rfl rfl rfl f0 rfl ?_
        refine wp_aload rfl rfl rfl ?_
        refine wp_getI rfl rfl rfl f0 rfl ?_
        refine wp_isub rfl rfl ?_
        refine wp_const rfl rfl ?_
        refine wp_icmp_le (Y := 8) rfl rfl rfl rfl rfl (fun c => ?_) (fun c => ?_)
        · replace F := F.1 c
          refine wp_const rfl rfl ?_
          refine wp_goto rfl rfl ?_
          obtain ⟨f5, F⟩ := F
          refine wp_putI' (L' := [none]) rfl rfl rfl rfl f5 f0 rfl ?_
          have f6 : gK (pI h l0 3 7) l0 = 12 := (gK_pI _ _ _ _ _).trans f0
          replace F := F _ rfl
          generalize pI h l0 3 7 = h2 at F f6 ⊢
          exact wp_retV rfl F
        · replace F := F.2 c
          refine wp_const' (L' := [none]) rfl rfl rfl ?_
          obtain ⟨f7, F⟩ := F
          refine wp_putI' (L' := [none]) rfl rfl rfl rfl f7 f0 rfl ?_
          have f8 : gK (pI h l0 3 0) l0 = 12 := (gK_pI _ _ _ _ _).trans f0
          replace F := F _ rfl
          generalize pI h l0 3 0 = h3 at F f8 ⊢
          exact wp_retV rfl F
      · replace F := F.2 c
        refine wp_aload rfl rfl rfl ?_
        refine wp_aload rfl rfl rfl ?_
        refine wp_getJ rfl rfl rfl f0 rfl ?_
        refine wp_const rfl rfl ?_
        refine wp_lshl rfl rfl ?_
        refine wp_aload rfl rfl rfl ?_
        refine wp_getR rfl rfl rfl f0 rfl ?_
        refine wp_aload rfl rfl rfl ?_
        refine wp_getI rfl rfl rfl f0 rfl ?_
        obtain ⟨i2, b9, F⟩ := F
        refine wp_baload rfl b9 rfl ?_
        refine wp_i2l rfl rfl ?_
        refine wp_lor rfl rfl ?_
        obtain ⟨f9, F⟩ := F
        refine wp_putJ rfl rfl rfl f9 f0 rfl ?_
        have f10 : gK (pJ h l0 6 (((gJ h l0 6) <<< ((8 : Int32).toInt64 &&& 63)) ||| ((gI h (gR h l0 0) i2).toInt64))) l0 = 12 := (gK_pJ _ _ _ _ _).trans f0
        replace F := F _ rfl
        generalize pJ h l0 6 (((gJ h l0 6) <<< ((8 : Int32).toInt64 &&& 63)) ||| ((gI h (gR h l0 0) i2).toInt64)) = h4 at F f10 ⊢
        refine wp_aload rfl rfl rfl ?_
        refine wp_dup rfl rfl rfl ?_
        refine wp_getI rfl rfl rfl f10 rfl ?_
        refine wp_const rfl rfl ?_
        refine wp_iadd rfl rfl ?_
        refine wp_putI rfl rfl rfl f9 f10 rfl ?_
        have f11 : gK (pI h4 l0 2 ((gI h4 l0 2) + 1)) l0 = 12 := (gK_pI _ _ _ _ _).trans f10
        replace F := F _ rfl
        generalize pI h4 l0 2 ((gI h4 l0 2) + 1) = h5 at F f11 ⊢
        refine wp_goto rfl rfl ?_
        exact F
  · replace F := F.2 c
    refine wp_aload rfl rfl rfl ?_
    refine wp_aload rfl rfl rfl ?_
    refine wp_getI rfl rfl rfl f0 rfl ?_
    refine wp_aload rfl rfl rfl ?_
    refine wp_getI rfl rfl rfl f0 rfl ?_
    refine wp_isub rfl rfl ?_
    refine wp_const rfl rfl ?_
    refine wp_icmp_le (Y := 8) rfl rfl rfl rfl rfl (fun c => ?_) (fun c => ?_)
    · replace F := F.1 c
      refine wp_const rfl rfl ?_
      refine wp_goto rfl rfl ?_
      obtain ⟨f12, F⟩ := F
      refine wp_putI' (L' := [none]) rfl rfl rfl rfl f12 f0 rfl ?_
      have f13 : gK (pI h l0 3 7) l0 = 12 := (gK_pI _ _ _ _ _).trans f0
      replace F := F _ rfl
      generalize pI h l0 3 7 = h6 at F f13 ⊢
      exact wp_retV rfl F
    · replace F := F.2 c
      refine wp_const' (L' := [none]) rfl rfl rfl ?_
      obtain ⟨f14, F⟩ := F
      refine wp_putI' (L' := [none]) rfl rfl rfl rfl f14 f0 rfl ?_
      have f15 : gK (pI h l0 3 0) l0 = 12 := (gK_pI _ _ _ _ _).trans f0
      replace F := F _ rfl
      generalize pI h l0 3 0 = h7 at F f15 ⊢
      exact wp_retV rfl F
-- CensusOffice$Tape takeNumber ()V
theorem m68 {d : Nat} {a0 : Nat} {h : aH} {K : aH → Prop} {X : Nat → aH → Prop} (F : 8 ≤ a0 ∧ gK h a0 = 12 ∧ ∀ h0 : aH, h0 = pI h a0 5 0 → Wp d 68 (5, [some (vR a0)], [], h0) (RV K X)) : CV d 68 [vR a0] h K X := by
  show Wp d 68 (0, [some (vR a0)], [], h) (RV K X)
  refine wp_aload rfl rfl rfl ?_
  refine wp_const rfl rfl ?_
  obtain ⟨f0, F⟩ := F
  obtain ⟨f1, F⟩ := F
  refine wp_putI rfl rfl rfl f0 f1 rfl ?_
  have f2 : gK (pI h a0 5 0) a0 = 12 := (gK_pI _ _ _ _ _).trans f1
  replace F := F _ rfl
  generalize pI h a0 5 0 = h0 at F f2 ⊢
  exact F
theorem w68_5 {d : Nat} {l0 : Nat} {h : aH} {K : aH → Prop} {X : Nat → aH → Prop} (F : gK h l0 = 12 ∧ (((gI h l0 2).toInt < (gI h l0 1).toInt → ∃ i0 : Nat, inB h 103 (gR h l0 0) (gI h l0 2) i0 ∧ (((gI h (gR h l0 0) i0).toInt < 48 → ((6 < ((gI h l0 2) - (gI h l0 4)).toInt → 8 ≤ l0 ∧ ∀ h0 : aH, h0 = pI h l0 3 7 → K h0) ∧ (¬ 6 < ((gI h l0 2) - (gI h l0 4)).toInt → 8 ≤ l0 ∧ ∀ h1 : aH, h1 = pI h l0 3 1 → K h1))) ∧ (¬ (gI h (gR h l0 0) i0).toInt < 48 → ∃ i1 : Nat, inB h 103 (gR h l0 0) (gI h l0 2) i1 ∧ ((57 < (gI h (gR h l0 0) i1).toInt → ((6 < ((gI h l0 2) - (gI h l0 4)).toInt → 8 ≤ l0 ∧ ∀ h2 : aH, h2 = pI h l0 3 7 → K h2) ∧ (¬ 6 < ((gI h l0 2) - (gI h l0 4)).toInt → 8 ≤ l0 ∧ ∀ h3 : aH, h3 = pI h l0 3 1 → K h3))) ∧ (¬ 57 < (gI h (gR h l0 0) i1).toInt → ∃ i2 : Nat, inB h 103 (gR h l0 0) (gI h l0 2) i2 ∧ 8 ≤ l0 ∧ ∀ h4 : aH, h4 = pI h l0 5 ((((gI h l0 5) * 10) + (gI h (gR h l0 0) i2)) - 48) → ∀ h5 : aH, h5 = pI h4 l0 2 ((gI h4 l0 2) + 1) → Wp d 68 (5, [some (vR l0)], [], h5) (RV K X)))))) ∧ (¬ (gI h l0 2).toInt < (gI h l0 1).toInt → ((6 < ((gI h l0 2) - (gI h l0 4)).toInt → 8 ≤ l0 ∧ ∀ h6 : aH, h6 = pI h l0 3 7 → K h6) ∧ (¬ 6 < ((gI h l0 2) - (gI h l0 4)).toInt → 8 ≤ l0 ∧ ∀ h7 : aH, h7 = pI h l0 3 1 → K h7))))) : Wp d 68 (5, [some (vR l0)], [], h) (RV K X) := by
  refine wp_aload rfl rfl rfl ?_
  obtain ⟨f0, F⟩ := F
  refine wp_getI rfl rfl rfl f0 rfl ?_
  refine wp_aload rfl rfl rfl ?_
  refine wp_getI rfl rfl rfl f0 rfl ?_
  refine wp_icmp_ge rfl rfl rfl rfl rfl (fun c => ?_) (fun c => ?_)
  · replace F := F.1 c
    refine wp_aload rfl rfl rfl ?_
    refine wp_getR rfl rfl rfl f0 rfl ?_
    refine wp_aload rfl rfl rfl ?_
    refine wp_getI rfl rfl rfl f0 rfl ?_
    obtain ⟨i0, b9, F⟩ := F
    refine wp_baload rfl b9 rfl ?_
    refine wp_const rfl rfl ?_
    refine wp_icmp_lt (Y := 48) rfl rfl rfl rfl rfl (fun c => ?_) (fun c => ?_)
    · replace F := F.1 c
      refine wp_aload rfl rfl rfl ?_
      refine wp_aload rfl rfl rfl ?_
      refine wp_getI rfl rfl rfl f0 rfl ?_
      refine wp_aload rfl rfl rfl ?_
      refine wp_getI rfl rfl rfl f0 rfl ?_
      refine wp_isub rfl rfl ?_
      refine wp_const rfl rfl ?_
      refine wp_icmp_le (Y := 6) rfl rfl rfl rfl rfl (fun c => ?_) (fun c => ?_)
      · replace F := F.1 c
        refine wp_const rfl rfl ?_
        refine wp_goto rfl rfl ?_
        obtain ⟨f1, F⟩ := F
        refine wp_putI' (L' := [none]) rfl rfl rfl rfl f1 f0 rfl ?_
        have f2 : gK (pI h l0 3 7) l0 = 12 := (gK_pI _ _ _ _ _).trans f0
        replace F := F _ rfl
        generalize pI h l0 3 7 = h0 at F f2 ⊢
        exact wp_retV rfl F
      · replace F := F.2 c
        refine wp_const' (L' := [none]) rfl rfl rfl ?_
        obtain ⟨f3, F⟩ := F
        refine wp_putI' (L' := [none]) rfl rfl rfl rfl f3 f0 rfl ?_
        have f4 : gK (pI h l0 3 1) l0 = 12 := (gK_pI _ _ _ _ _).trans f0
        replace F := F _ rfl
        generalize pI h l0 3 1 = h1 at F f4 ⊢
        exact wp_retV rfl F
    · replace F := F.2 c
      refine wp_aload rfl rfl rfl ?_
      refine wp_getR rfl rfl rfl f0 rfl ?_
      refine wp_aload rfl rfl rfl ?_
      refine wp_getI rfl rfl rfl f0 rfl ?_
      obtain ⟨i1, b9, F⟩ := F
      refine wp_baload rfl b9 rfl ?_
      refine wp_const rfl rfl ?_
      refine wp_icmp_gt (Y := 57) rfl rfl rfl rfl rfl (fun c => ?_) (fun c => ?_)
      · replace F := F.1 c
        refine wp_aload rfl rfl rfl ?_
        refine wp_aload rfl rfl rfl ?_
        refine wp_getI rfl rfl rfl f0 rfl ?_
        refine wp_aload rfl rfl rfl ?_
        refine wp_getI rfl rfl rfl f0 rfl ?_
        refine wp_isub rfl rfl ?_
        refine wp_const rfl rfl ?_
        refine wp_icmp_le (Y := 6) rfl rfl rfl rfl rfl (fun c => ?_) (fun c => ?_)
        · replace F := F.1 c
          refine wp_const rfl rfl ?_
          refine wp_goto rfl rfl ?_
          obtain ⟨f5, F⟩ := F
          refine wp_putI' (L' := [none]) rfl rfl rfl rfl f5 f0 rfl ?_
          have f6 : gK (pI h l0 3 7) l0 = 12 := (gK_pI _ _ _ _ _).trans f0
          replace F := F _ rfl
          generalize pI h l0 3 7 = h2 at F f6 ⊢
          exact wp_retV rfl F
        · replace F := F.2 c
          refine wp_const' (L' := [none]) rfl rfl rfl ?_
          obtain ⟨f7, F⟩ := F
          refine wp_putI' (L' := [none]) rfl rfl rfl rfl f7 f0 rfl ?_
          have f8 : gK (pI h l0 3 1) l0 = 12 := (gK_pI _ _ _ _ _).trans f0
          replace F := F _ rfl
          generalize pI h l0 3 1 = h3 at F f8 ⊢
          exact wp_retV rfl F
      · replace F := F.2 c
        refine wp_aload rfl rfl rfl ?_
        refine wp_aload rfl rfl rfl ?_
        refine wp_getI rfl rfl rfl f0 rfl ?_
        refine wp_const rfl rfl ?_
        refine wp_imul rfl rfl ?_
        refine wp_aload rfl rfl rfl ?_
        refine wp_getR rfl rfl rfl f0 rfl ?_
        refine wp_aload rfl rfl rfl ?_
        refine wp_getI rfl rfl rfl f0 rfl ?_
        obtain ⟨i2, b9, F⟩ := F
        refine wp_baload rfl b9 rfl ?_
        refine wp_iadd rfl rfl ?_
        refine wp_const rfl rfl ?_
        refine wp_isub rfl rfl ?_
        obtain ⟨f9, F⟩ := F
        refine wp_putI rfl rfl rfl f9 f0 rfl ?_
        have f10 : gK (pI h l0 5 ((((gI h l0 5) * 10) + (gI h (gR h l0 0) i2)) - 48)) l0 = 12 := (gK_pI _ _ _ _ _).trans f0
        replace F := F _ rfl
        generalize pI h l0 5 ((((gI h l0 5) * 10) + (gI h (gR h l0 0) i2)) - 48) = h4 at F f10 ⊢
        refine wp_aload rfl rfl rfl ?_
        refine wp_dup rfl rfl rfl ?_
        refine wp_getI rfl rfl rfl f10 rfl ?_
        refine wp_const rfl rfl ?_
        refine wp_iadd rfl rfl ?_
        refine wp_putI rfl rfl rfl f9 f10 rfl ?_
        have f11 : gK (pI h4 l0 2 ((gI h4 l0 2) + 1)) l0 = 12 := (gK_pI _ _ _ _ _).trans f10
        replace F := F _ rfl
        generalize pI h4 l0 2 ((gI h4 l0 2) + 1) = h5 at F f11 ⊢
        refine wp_goto rfl rfl ?_
        exact F
  · replace F := F.2 c
    refine wp_aload rfl rfl rfl ?_
    refine wp_aload rfl rfl rfl ?_
    refine wp_getI rfl rfl rfl f0 rfl ?_
    refine wp_aload rfl rfl rfl ?_
    refine wp_getI rfl rfl rfl f0 rfl ?_
    refine wp_isub rfl rfl ?_
    refine wp_const rfl rfl ?_
    refine wp_icmp_le (Y := 6) rfl rfl rfl rfl rfl (fun c => ?_) (fun c => ?_)
    · replace F := F.1 c
      refine wp_const rfl rfl ?_
      refine wp_goto rfl rfl ?_
      obtain ⟨f12, F⟩ := F
      refine wp_putI' (L' := [none]) rfl rfl rfl rfl f12 f0 rfl ?_
      have f13 : gK (pI h l0 3 7) l0 = 12 := (gK_pI _ _ _ _ _).trans f0
      replace F := F _ rfl
      generalize pI h l0 3 7 = h6 at F f13 ⊢
      exact wp_retV rfl F
    · replace F := F.2 c
      refine wp_const' (L' := [none]) rfl rfl rfl ?_
      obtain ⟨f14, F⟩ := F
      refine wp_putI' (L' := [none]) rfl rfl rfl rfl f14 f0 rfl ?_
      have f15 : gK (pI h l0 3 1) l0 = 12 := (gK_pI _ _ _ _ _).trans f0
      replace F := F _ rfl
      generalize pI h l0 3 1 = h7 at F f15 ⊢
      exact wp_retV rfl F
-- CensusOffice$Tape takeRelation (I)V
theorem m69 {d : Nat} {a0 : Nat} {a1 : Int32} {h : aH} {K : aH → Prop} {X : Nat → aH → Prop} (F : gK h a0 = 12 ∧ 8 ≤ a0 ∧ ∀ h0 : aH, h0 = pI h a0 2 ((gI h a0 2) + 1) → ∀ h1 : aH, h1 = pI h0 a0 3 2 → ((a1.toInt = 60 → ∀ h2 : aH, h2 = pI h1 a0 5 1 → (((gI h2 a0 2).toInt < (gI h2 a0 1).toInt → ∃ i0 : Nat, inB h2 103 (gR h2 a0 0) (gI h2 a0 2) i0 ∧ Wp d 69 (64, [some (vR a0), some (vI a1), none], [vI (gI h2 (gR h2 a0 0) i0)], h2) (RV K X)) ∧ (¬ (gI h2 a0 2).toInt < (gI h2 a0 1).toInt → Wp d 69 (64, [some (vR a0), some (vI a1), none], [vI 0], h2) (RV K X)))) ∧ (¬ a1.toInt = 60 → ((a1.toInt = 61 → ∀ h3 : aH, h3 = pI h1 a0 5 2 → (((gI h3 a0 2).toInt < (gI h3 a0 1).toInt → ∃ i1 : Nat, inB h3 103 (gR h3 a0 0) (gI h3 a0 2) i1 ∧ Wp d 69 (64, [some (vR a0), some (vI a1), none], [vI (gI h3 (gR h3 a0 0) i1)], h3) (RV K X)) ∧ (¬ (gI h3 a0 2).toInt < (gI h3 a0 1).toInt → Wp d 69 (64, [some (vR a0), some (vI a1), none], [vI 0], h3) (RV K X)))) ∧ (¬ a1.toInt = 61 → ∀ h4 : aH, h4 = pI h1 a0 5 4 → (((gI h4 a0 2).toInt < (gI h4 a0 1).toInt → ∃ i2 : Nat, inB h4 103 (gR h4 a0 0) (gI h4 a0 2) i2 ∧ Wp d 69 (64, [some (vR a0), some (vI a1), none], [vI (gI h4 (gR h4 a0 0) i2)], h4) (RV K X)) ∧ (¬ (gI h4 a0 2).toInt < (gI h4 a0 1).toInt → Wp d 69 (64, [some (vR a0), some (vI a1), none], [vI 0], h4) (RV K X)))))))) : CV d 69 [vR a0, vI a1] h K X := by
  show Wp d 69 (0, [some (vR a0), some (vI a1), none], [], h) (RV K X)
  refine wp_aload rfl rfl rfl ?_
  refine wp_dup rfl rfl rfl ?_
  obtain ⟨f0, F⟩ := F
  refine wp_getI rfl rfl rfl f0 rfl ?_
  refine wp_const rfl rfl ?_
  refine wp_iadd rfl rfl ?_
  obtain ⟨f1, F⟩ := F
  refine wp_putI rfl rfl rfl f1 f0 rfl ?_
  have f2 : gK (pI h a0 2 ((gI h a0 2) + 1)) a0 = 12 := (gK_pI _ _ _ _ _).trans f0
  replace F := F _ rfl
  generalize pI h a0 2 ((gI h a0 2) + 1) = h0 at F f2 ⊢
  refine wp_aload rfl rfl rfl ?_
  refine wp_const rfl rfl ?_
  refine wp_putI rfl rfl rfl f1 f2 rfl ?_
  have f3 : gK (pI h0 a0 3 2) a0 = 12 := (gK_pI _ _ _ _ _).trans f2
  replace F := F _ rfl
  generalize pI h0 a0 3 2 = h1 at F f3 ⊢
  refine wp_aload rfl rfl rfl ?_
  refine wp_iload rfl rfl rfl ?_
  refine wp_const rfl rfl ?_
  refine wp_icmp_ne (Y := 60) rfl rfl rfl rfl rfl (fun c => ?_) (fun c => ?_)
  · replace F := F.1 c
    refine wp_const rfl rfl ?_
    refine wp_goto rfl rfl ?_
    refine wp_putI' (L' := [some (vR a0), some (vI a1), none]) rfl rfl rfl rfl f1 f3 rfl ?_
    have f4 : gK (pI h1 a0 5 1) a0 = 12 := (gK_pI _ _ _ _ _).trans f3
    replace F := F _ rfl
    generalize pI h1 a0 5 1 = h2 at F f4 ⊢
    refine wp_aload rfl rfl rfl ?_
    refine wp_getI rfl rfl rfl f4 rfl ?_
    refine wp_aload rfl rfl rfl ?_
    refine wp_getI rfl rfl rfl f4 rfl ?_
    refine wp_icmp_ge rfl rfl rfl rfl rfl (fun c => ?_) (fun c => ?_)
    · replace F := F.1 c
      refine wp_aload rfl rfl rfl ?_
      refine wp_getR rfl rfl rfl f4 rfl ?_
      refine wp_aload rfl rfl rfl ?_
      refine wp_getI rfl rfl rfl f4 rfl ?_
      obtain ⟨i0, b9, F⟩ := F
      refine wp_baload rfl b9 rfl ?_
      refine wp_goto rfl rfl ?_
      exact F
    · replace F := F.2 c
      refine wp_const' (L' := [some (vR a0), some (vI a1), none]) rfl rfl rfl ?_
      exact F
  · replace F := F.2 c
    refine wp_iload' (L' := [some (vR a0), some (vI a1), none]) rfl rfl rfl rfl ?_
    refine wp_const rfl rfl ?_
    refine wp_icmp_ne (Y := 61) rfl rfl rfl rfl rfl (fun c => ?_) (fun c => ?_)
    · replace F := F.1 c
      refine wp_const rfl rfl ?_
      refine wp_goto rfl rfl ?_
      refine wp_putI' (L' := [some (vR a0), some (vI a1), none]) rfl rfl rfl rfl f1 f3 rfl ?_
      have f5 : gK (pI h1 a0 5 2) a0 = 12 := (gK_pI _ _ _ _ _).trans f3
      replace F := F _ rfl
      generalize pI h1 a0 5 2 = h3 at F f5 ⊢
      refine wp_aload rfl rfl rfl ?_
      refine wp_getI rfl rfl rfl f5 rfl ?_
      refine wp_aload rfl rfl rfl ?_
      refine wp_getI rfl rfl rfl f5 rfl ?_
      refine wp_icmp_ge rfl rfl rfl rfl rfl (fun c => ?_) (fun c => ?_)
      · replace F := F.1 c
        refine wp_aload rfl rfl rfl ?_
        refine wp_getR rfl rfl rfl f5 rfl ?_
        refine wp_aload rfl rfl rfl ?_
        refine wp_getI rfl rfl rfl f5 rfl ?_
        obtain ⟨i1, b9, F⟩ := F
        refine wp_baload rfl b9 rfl ?_
        refine wp_goto rfl rfl ?_
        exact F
      · replace F := F.2 c
        refine wp_const' (L' := [some (vR a0), some (vI a1), none]) rfl rfl rfl ?_
        exact F
    · replace F := F.2 c
      refine wp_const' (L' := [some (vR a0), some (vI a1), none]) rfl rfl rfl ?_
      refine wp_putI' (L' := [some (vR a0), some (vI a1), none]) rfl rfl rfl rfl f1 f3 rfl ?_
      have f6 : gK (pI h1 a0 5 4) a0 = 12 := (gK_pI _ _ _ _ _).trans f3
      replace F := F _ rfl
      generalize pI h1 a0 5 4 = h4 at F f6 ⊢
      refine wp_aload rfl rfl rfl ?_
      refine wp_getI rfl rfl rfl f6 rfl ?_
      refine wp_aload rfl rfl rfl ?_
      refine wp_getI rfl rfl rfl f6 rfl ?_
      refine wp_icmp_ge rfl rfl rfl rfl rfl (fun c => ?_) (fun c => ?_)
      · replace F := F.1 c
        refine wp_aload rfl rfl rfl ?_
        refine wp_getR rfl rfl rfl f6 rfl ?_
        refine wp_aload rfl rfl rfl ?_
        refine wp_getI rfl rfl rfl f6 rfl ?_
        obtain ⟨i2, b9, F⟩ := F
        refine wp_baload rfl b9 rfl ?_
        refine wp_goto rfl rfl ?_
        exact F
      · replace F := F.2 c
        refine wp_const' (L' := [some (vR a0), some (vI a1), none]) rfl rfl rfl ?_
        exact F
theorem w69_64 {d : Nat} {l0 : Nat} {l1 : Int32} {s0 : Int32} {h : aH} {K : aH → Prop} {X : Nat → aH → Prop} (F : ((s0.toInt = 61 → ((l1.toInt = 61 → ((s0.toInt = 62 → ((l1.toInt = 60 → gK h l0 = 12 ∧ 8 ≤ l0 ∧ ∀ h0 : aH, h0 = pI h l0 5 ((gI h l0 5) ||| 4) → ∀ h1 : aH, h1 = pI h0 l0 2 ((gI h0 l0 2) + 1) → K h1) ∧ (¬ l1.toInt = 60 → K h))) ∧ (¬ s0.toInt = 62 → K h))) ∧ (¬ l1.toInt = 61 → gK h l0 = 12 ∧ 8 ≤ l0 ∧ ∀ h2 : aH, h2 = pI h l0 5 ((gI h l0 5) ||| 2) → ∀ h3 : aH, h3 = pI h2 l0 2 ((gI h2 l0 2) + 1) → K h3))) ∧ (¬ s0.toInt = 61 → ((s0.toInt = 62 → ((l1.toInt = 60 → gK h l0 = 12 ∧ 8 ≤ l0 ∧ ∀ h4 : aH, h4 = pI h l0 5 ((gI h l0 5) ||| 4) → ∀ h5 : aH, h5 = pI h4 l0 2 ((gI h4 l0 2) + 1) → K h5) ∧ (¬ l1.toInt = 60 → K h))) ∧ (¬ s0.toInt = 62 → K h))))) : Wp d 69 (64, [some (vR l0), some (vI l1), none], [vI s0], h) (RV K X) := by
  refine wp_istore' (L' := [some (vR l0), some (vI l1), none]) (L2 := [some (vR l0), some (vI l1), some (vI s0)]) rfl rfl rfl rfl rfl ?_
  refine wp_iload rfl rfl rfl ?_
  refine wp_const rfl rfl ?_
  refine wp_icmp_ne (Y := 61) rfl rfl rfl rfl rfl (fun c => ?_) (fun c => ?_)
  · replace F := F.1 c
    refine wp_iload rfl rfl rfl ?_
    refine wp_const rfl rfl ?_
    refine wp_icmp_eq (Y := 61) rfl rfl rfl rfl rfl (fun c => ?_) (fun c => ?_)
    · replace F := F.1 c
      refine wp_iload rfl rfl rfl ?_
      refine wp_const rfl rfl ?_
      refine wp_icmp_ne (Y := 62) rfl rfl rfl rfl rfl (fun c => ?_) (fun c => ?_)
      · replace F := F.1 c
        refine wp_iload rfl rfl rfl ?_
        refine wp_const rfl rfl ?_
        refine wp_icmp_ne (Y := 60) rfl rfl rfl rfl rfl (fun c => ?_) (fun c => ?_)
        · replace F := F.1 c
          refine wp_aload rfl rfl rfl ?_
          refine wp_dup rfl rfl rfl ?_
          obtain ⟨f0, F⟩ := F
          refine wp_getI rfl rfl rfl f0 rfl ?_
          refine wp_const rfl rfl ?_
          refine wp_ior rfl rfl ?_
          obtain ⟨f1, F⟩ := F
          refine wp_putI rfl rfl rfl f1 f0 rfl ?_
          have f2 : gK (pI h l0 5 ((gI h l0 5) ||| 4)) l0 = 12 := (gK_pI _ _ _ _ _).trans f0
          replace F := F _ rfl
          generalize pI h l0 5 ((gI h l0 5) ||| 4) = h0 at F f2 ⊢
          refine wp_aload rfl rfl rfl ?_
          refine wp_dup rfl rfl rfl ?_
          refine wp_getI rfl rfl rfl f2 rfl ?_
          refine wp_const rfl rfl ?_
          refine wp_iadd rfl rfl ?_
          refine wp_putI rfl rfl rfl f1 f2 rfl ?_
          have f3 : gK (pI h0 l0 2 ((gI h0 l0 2) + 1)) l0 = 12 := (gK_pI _ _ _ _ _).trans f2
          replace F := F _ rfl
          generalize pI h0 l0 2 ((gI h0 l0 2) + 1) = h1 at F f3 ⊢
          exact wp_retV rfl F
        · replace F := F.2 c
          exact wp_retV rfl F
      · replace F := F.2 c
        exact wp_retV rfl F
    · replace F := F.2 c
      refine wp_aload rfl rfl rfl ?_
      refine wp_dup rfl rfl rfl ?_
      obtain ⟨f4, F⟩ := F
      refine wp_getI rfl rfl rfl f4 rfl ?_
      refine wp_const rfl rfl ?_
      refine wp_ior rfl rfl ?_
      obtain ⟨f5, F⟩ := F
      refine wp_putI rfl rfl rfl f5 f4 rfl ?_
      have f6 : gK (pI h l0 5 ((gI h l0 5) ||| 2)) l0 = 12 := (gK_pI _ _ _ _ _).trans f4
      replace F := F _ rfl
      generalize pI h l0 5 ((gI h l0 5) ||| 2) = h2 at F f6 ⊢
      refine wp_aload rfl rfl rfl ?_
      refine wp_dup rfl rfl rfl ?_
      refine wp_getI rfl rfl rfl f6 rfl ?_
      refine wp_const rfl rfl ?_
      refine wp_iadd rfl rfl ?_
      refine wp_putI rfl rfl rfl f5 f6 rfl ?_
      have f7 : gK (pI h2 l0 2 ((gI h2 l0 2) + 1)) l0 = 12 := (gK_pI _ _ _ _ _).trans f6
      replace F := F _ rfl
      generalize pI h2 l0 2 ((gI h2 l0 2) + 1) = h3 at F f7 ⊢
      refine wp_goto rfl rfl ?_
      exact wp_retV rfl F
  · replace F := F.2 c
    refine wp_iload rfl rfl rfl ?_
    refine wp_const rfl rfl ?_
    refine wp_icmp_ne (Y := 62) rfl rfl rfl rfl rfl (fun c => ?_) (fun c => ?_)
    · replace F := F.1 c
      refine wp_iload rfl rfl rfl ?_
      refine wp_const rfl rfl ?_
      refine wp_icmp_ne (Y := 60) rfl rfl rfl rfl rfl (fun c => ?_) (fun c => ?_)
      · replace F := F.1 c
        refine wp_aload rfl rfl rfl ?_
        refine wp_dup rfl rfl rfl ?_
        obtain ⟨f8, F⟩ := F
        refine wp_getI rfl rfl rfl f8 rfl ?_
        refine wp_const rfl rfl ?_
        refine wp_ior rfl rfl ?_
        obtain ⟨f9, F⟩ := F
        refine wp_putI rfl rfl rfl f9 f8 rfl ?_
        have f10 : gK (pI h l0 5 ((gI h l0 5) ||| 4)) l0 = 12 := (gK_pI _ _ _ _ _).trans f8
        replace F := F _ rfl
        generalize pI h l0 5 ((gI h l0 5) ||| 4) = h4 at F f10 ⊢
        refine wp_aload rfl rfl rfl ?_
        refine wp_dup rfl rfl rfl ?_
        refine wp_getI rfl rfl rfl f10 rfl ?_
        refine wp_const rfl rfl ?_
        refine wp_iadd rfl rfl ?_
        refine wp_putI rfl rfl rfl f9 f10 rfl ?_
        have f11 : gK (pI h4 l0 2 ((gI h4 l0 2) + 1)) l0 = 12 := (gK_pI _ _ _ _ _).trans f10
        replace F := F _ rfl
        generalize pI h4 l0 2 ((gI h4 l0 2) + 1) = h5 at F f11 ⊢
        exact wp_retV rfl F
      · replace F := F.2 c
        exact wp_retV rfl F
    · replace F := F.2 c
      exact wp_retV rfl F
-- CensusOffice$Tape takeSign (I)V
theorem m70 {d : Nat} {a0 : Nat} {a1 : Int32} {h : aH} {K : aH → Prop} {X : Nat → aH → Prop} (F : gK h a0 = 12 ∧ 8 ≤ a0 ∧ ∀ h0 : aH, h0 = pI h a0 2 ((gI h a0 2) + 1) → ((a1.toInt = 43 → ∀ h1 : aH, h1 = pI h0 a0 3 3 → K h1) ∧ (a1.toInt = 45 → ∀ h2 : aH, h2 = pI h0 a0 3 4 → K h2) ∧ (a1.toInt = 59 → ∀ h3 : aH, h3 = pI h0 a0 3 5 → K h3) ∧ ((¬ a1.toInt = 43 ∧ ¬ a1.toInt = 45 ∧ ¬ a1.toInt = 59) → ∀ h4 : aH, h4 = pI h0 a0 3 7 → K h4))) : CV d 70 [vR a0, vI a1] h K X := by
  show Wp d 70 (0, [some (vR a0), some (vI a1)], [], h) (RV K X)
  refine wp_aload rfl rfl rfl ?_
  refine wp_dup rfl rfl rfl ?_
  obtain ⟨f0, F⟩ := F
  refine wp_getI rfl rfl rfl f0 rfl ?_
  refine wp_const rfl rfl ?_
  refine wp_iadd rfl rfl ?_
  obtain ⟨f1, F⟩ := F
  refine wp_putI rfl rfl rfl f1 f0 rfl ?_
  have f2 : gK (pI h a0 2 ((gI h a0 2) + 1)) a0 = 12 := (gK_pI _ _ _ _ _).trans f0
  replace F := F _ rfl
  generalize pI h a0 2 ((gI h a0 2) + 1) = h0 at F f2 ⊢
  refine wp_iload rfl rfl rfl ?_
  by_cases c0 : a1.toInt = 43
  · refine wp_lsw (t := 52) rfl (by rw [c0]; rfl) ?_
    replace F := F.1 c0
    refine wp_aload' (L' := [some (vR a0), none]) rfl rfl rfl rfl ?_
    refine wp_const rfl rfl ?_
    refine wp_putI rfl rfl rfl f1 f2 rfl ?_
    have f3 : gK (pI h0 a0 3 3) a0 = 12 := (gK_pI _ _ _ _ _).trans f2
    replace F := F _ rfl
    generalize pI h0 a0 3 3 = h1 at F f3 ⊢
    refine wp_goto rfl rfl ?_
    exact wp_retV rfl F
  by_cases c1 : a1.toInt = 45
  · refine wp_lsw (t := 60) rfl (by rw [c1]; rfl) ?_
    replace F := F.2.1 c1
    refine wp_aload' (L' := [some (vR a0), none]) rfl rfl rfl rfl ?_
    refine wp_const rfl rfl ?_
    refine wp_putI rfl rfl rfl f1 f2 rfl ?_
    have f4 : gK (pI h0 a0 3 4) a0 = 12 := (gK_pI _ _ _ _ _).trans f2
    replace F := F _ rfl
    generalize pI h0 a0 3 4 = h2 at F f4 ⊢
    refine wp_goto rfl rfl ?_
    exact wp_retV rfl F
  by_cases c2 : a1.toInt = 59
  · refine wp_lsw (t := 44) rfl (by rw [c2]; rfl) ?_
    replace F := F.2.2.1 c2
    refine wp_aload rfl rfl rfl ?_
    refine wp_const rfl rfl ?_
    refine wp_putI rfl rfl rfl f1 f2 rfl ?_
    have f5 : gK (pI h0 a0 3 5) a0 = 12 := (gK_pI _ _ _ _ _).trans f2
    replace F := F _ rfl
    generalize pI h0 a0 3 5 = h3 at F f5 ⊢
    refine wp_goto rfl rfl ?_
    exact wp_retV rfl F
  refine wp_lsw (t := 68) rfl (by simp [aLook, c0, c1, c2]) ?_
  replace F := F.2.2.2 ⟨c0, c1, c2⟩
  refine wp_aload' (L' := [some (vR a0), none]) rfl rfl rfl rfl ?_
  refine wp_const rfl rfl ?_
  refine wp_putI rfl rfl rfl f1 f2 rfl ?_
  have f6 : gK (pI h0 a0 3 7) a0 = 12 := (gK_pI _ _ _ _ _).trans f2
  replace F := F _ rfl
  generalize pI h0 a0 3 7 = h4 at F f6 ⊢
  exact wp_retV rfl F
-- CensusOffice$Tape advance ()V
theorem m71 {d : Nat} {a0 : Nat} {h : aH} {K : aH → Prop} {X : Nat → aH → Prop} (F : Wp (d + 1) 71 (0, [some (vR a0), none], [], h) (RV K X)) : CV (d + 1) 71 [vR a0] h K X := by
  show Wp (d + 1) 71 (0, [some (vR a0), none], [], h) (RV K X)
  exact F
theorem w71_0 {d : Nat} {l0 : Nat} {h : aH} {K : aH → Prop} {X : Nat → aH → Prop} (F : gK h l0 = 12 ∧ (((gI h l0 2).toInt < (gI h l0 1).toInt → ∃ i0 : Nat, inB h 103 (gR h l0 0) (gI h l0 2) i0 ∧ 8 ≤ l0 ∧ CI d 66 [vR l0, vI (gI h (gR h l0 0) i0)] h (fun y0 h0 => ((y0.toInt = 0 → Wp (d + 1) 71 (40, [some (vR l0), none], [], h0) (RV K X)) ∧ (¬ y0.toInt = 0 → gK h0 l0 = 12 ∧ ∀ h1 : aH, h1 = pI h0 l0 2 ((gI h0 l0 2) + 1) → Wp (d + 1) 71 (0, [some (vR l0), none], [], h1) (RV K X)))) X) ∧ (¬ (gI h l0 2).toInt < (gI h l0 1).toInt → Wp (d + 1) 71 (40, [some (vR l0), none], [], h) (RV K X)))) : Wp (d + 1) 71 (0, [some (vR l0), none], [], h) (RV K X) := by
  refine wp_aload' (L' := [some (vR l0), none]) rfl rfl rfl rfl ?_
  obtain ⟨f0, F⟩ := F
  refine wp_getI rfl rfl rfl f0 rfl ?_
  refine wp_aload rfl rfl rfl ?_
  refine wp_getI rfl rfl rfl f0 rfl ?_
  refine wp_icmp_ge rfl rfl rfl rfl rfl (fun c => ?_) (fun c => ?_)
  · replace F := F.1 c
    refine wp_aload rfl rfl rfl ?_
    refine wp_aload rfl rfl rfl ?_
    refine wp_getR rfl rfl rfl f0 rfl ?_
    refine wp_aload rfl rfl rfl ?_
    refine wp_getI rfl rfl rfl f0 rfl ?_
    obtain ⟨i0, b9, F⟩ := F
    refine wp_baload rfl b9 rfl ?_
    obtain ⟨f1, F⟩ := F
    refine wp_callI rfl rfl rfl (rcv_v f1 f0 (by decide) (by decide)) rfl rfl rfl rfl ?_
    refine CI.mono F (fun y0 h0 F => ?_) (fun _ _ w => rx_V w)
    refine wp_if_eq rfl rfl rfl rfl (fun c => ?_) (fun c => ?_)
    · replace F := F.1 c
      exact F
    · replace F := F.2 c
      refine wp_aload rfl rfl rfl ?_
      refine wp_dup rfl rfl rfl ?_
      obtain ⟨f2, F⟩ := F
      refine wp_getI rfl rfl rfl f2 rfl ?_
      refine wp_const rfl rfl ?_
      refine wp_iadd rfl rfl ?_
      refine wp_putI rfl rfl rfl f1 f2 rfl ?_
      have f3 : gK (pI h0 l0 2 ((gI h0 l0 2) + 1)) l0 = 12 := (gK_pI _ _ _ _ _).trans f2
      replace F := F _ rfl
      generalize pI h0 l0 2 ((gI h0 l0 2) + 1) = h1 at F f3 ⊢
      refine wp_goto rfl rfl ?_
      exact F
  · replace F := F.2 c
    exact F
theorem w71_40 {d : Nat} {l0 : Nat} {h : aH} {K : aH → Prop} {X : Nat → aH → Prop} (F : gK h l0 = 12 ∧ 8 ≤ l0 ∧ ∀ h0 : aH, h0 = pI h l0 4 (gI h l0 2) → ∀ h1 : aH, h1 = pI h0 l0 3 6 → (((gI h1 l0 2).toInt < (gI h1 l0 1).toInt → ∃ i0 : Nat, inB h1 103 (gR h1 l0 0) (gI h1 l0 2) i0 ∧ ∀ v0 : Int32, v0 = gI h1 (gR h1 l0 0) i0 → ((v0.toInt < 97 → Wp (d + 1) 71 (95, [some (vR l0), some (vI v0)], [], h1) (RV K X)) ∧ (¬ v0.toInt < 97 → ((122 < v0.toInt → Wp (d + 1) 71 (95, [some (vR l0), some (vI v0)], [], h1) (RV K X)) ∧ (¬ 122 < v0.toInt → CV d 67 [vR l0] h1 (fun h2 => K h2) X))))) ∧ (¬ (gI h1 l0 2).toInt < (gI h1 l0 1).toInt → K h1))) : Wp (d + 1) 71 (40, [some (vR l0), none], [], h) (RV K X) := by
  refine wp_aload' (L' := [some (vR l0), none]) rfl rfl rfl rfl ?_
  refine wp_aload rfl rfl rfl ?_
  obtain ⟨f0, F⟩ := F
  refine wp_getI rfl rfl rfl f0 rfl ?_
  obtain ⟨f1, F⟩ := F
  refine wp_putI rfl rfl rfl f1 f0 rfl ?_
  have f2 : gK (pI h l0 4 (gI h l0 2)) l0 = 12 := (gK_pI _ _ _ _ _).trans f0
  replace F := F _ rfl
  generalize pI h l0 4 (gI h l0 2) = h0 at F f2 ⊢
  refine wp_aload rfl rfl rfl ?_
  refine wp_const rfl rfl ?_
  refine wp_putI rfl rfl rfl f1 f2 rfl ?_
  have f3 : gK (pI h0 l0 3 6) l0 = 12 := (gK_pI _ _ _ _ _).trans f2
  replace F := F _ rfl
  generalize pI h0 l0 3 6 = h1 at F f3 ⊢
  refine wp_aload rfl rfl rfl ?_
  refine wp_getI rfl rfl rfl f3 rfl ?_
  refine wp_aload rfl rfl rfl ?_
  refine wp_getI rfl rfl rfl f3 rfl ?_
  refine wp_icmp_lt rfl rfl rfl rfl rfl (fun c => ?_) (fun c => ?_)
  · replace F := F.1 c
    refine wp_aload' (L' := [some (vR l0), none]) rfl rfl rfl rfl ?_
    refine wp_getR rfl rfl rfl f3 rfl ?_
    refine wp_aload rfl rfl rfl ?_
    refine wp_getI rfl rfl rfl f3 rfl ?_
    obtain ⟨i0, b9, F⟩ := F
    refine wp_baload rfl b9 rfl ?_
    replace F := F _ rfl
    generalize (gI h1 (gR h1 l0 0) i0 : Int32) = v0 at F ⊢
    refine wp_istore (L2 := [some (vR l0), some (vI v0)]) rfl rfl rfl rfl ?_
    refine wp_iload rfl rfl rfl ?_
    refine wp_const rfl rfl ?_
    refine wp_icmp_lt (Y := 97) rfl rfl rfl rfl rfl (fun c => ?_) (fun c => ?_)
    · replace F := F.1 c
      exact F
    · replace F := F.2 c
      refine wp_iload rfl rfl rfl ?_
      refine wp_const rfl rfl ?_
      refine wp_icmp_gt (Y := 122) rfl rfl rfl rfl rfl (fun c => ?_) (fun c => ?_)
      · replace F := F.1 c
        exact F
      · replace F := F.2 c
        refine wp_aload rfl rfl rfl ?_
        refine wp_callV rfl rfl rfl (rcv_v f1 f3 (by decide) (by decide)) rfl rfl rfl rfl ?_
        refine CV.mono F (fun h2 F => ?_) (fun _ _ w => rx_V w)
        refine wp_goto rfl rfl ?_
        exact wp_retV rfl F
  · replace F := F.2 c
    exact wp_retV rfl F
theorem w71_95 {d : Nat} {l0 : Nat} {l1 : Int32} {h : aH} {K : aH → Prop} {X : Nat → aH → Prop} (F : ((l1.toInt < 48 → Wp (d + 1) 71 (114, [some (vR l0), some (vI l1)], [], h) (RV K X)) ∧ (¬ l1.toInt < 48 → ((57 < l1.toInt → Wp (d + 1) 71 (114, [some (vR l0), some (vI l1)], [], h) (RV K X)) ∧ (¬ 57 < l1.toInt → 8 ≤ l0 ∧ gK h l0 = 12 ∧ CV d 68 [vR l0] h (fun h0 => K h0) X))))) : Wp (d + 1) 71 (95, [some (vR l0), some (vI l1)], [], h) (RV K X) := by
  refine wp_iload rfl rfl rfl ?_
  refine wp_const rfl rfl ?_
  refine wp_icmp_lt (Y := 48) rfl rfl rfl rfl rfl (fun c => ?_) (fun c => ?_)
  · replace F := F.1 c
    exact F
  · replace F := F.2 c
    refine wp_iload rfl rfl rfl ?_
    refine wp_const rfl rfl ?_
    refine wp_icmp_gt (Y := 57) rfl rfl rfl rfl rfl (fun c => ?_) (fun c => ?_)
    · replace F := F.1 c
      exact F
    · replace F := F.2 c
      refine wp_aload rfl rfl rfl ?_
      obtain ⟨f0, F⟩ := F
      obtain ⟨f1, F⟩ := F
      refine wp_callV rfl rfl rfl (rcv_v f0 f1 (by decide) (by decide)) rfl rfl rfl rfl ?_
      refine CV.mono F (fun h0 F => ?_) (fun _ _ w => rx_V w)
      refine wp_goto rfl rfl ?_
      exact wp_retV rfl F
theorem w71_114 {d : Nat} {l0 : Nat} {l1 : Int32} {h : aH} {K : aH → Prop} {X : Nat → aH → Prop} (F : ((l1.toInt < 60 → 8 ≤ l0 ∧ gK h l0 = 12 ∧ CV d 70 [vR l0, vI l1] h (fun h0 => K h0) X) ∧ (¬ l1.toInt < 60 → ((62 < l1.toInt → 8 ≤ l0 ∧ gK h l0 = 12 ∧ CV d 70 [vR l0, vI l1] h (fun h1 => K h1) X) ∧ (¬ 62 < l1.toInt → 8 ≤ l0 ∧ gK h l0 = 12 ∧ CV d 69 [vR l0, vI l1] h (fun h2 => K h2) X))))) : Wp (d + 1) 71 (114, [some (vR l0), some (vI l1)], [], h) (RV K X) := by
  refine wp_iload rfl rfl rfl ?_
  refine wp_const rfl rfl ?_
  refine wp_icmp_lt (Y := 60) rfl rfl rfl rfl rfl (fun c => ?_) (fun c => ?_)
  · replace F := F.1 c
    refine wp_aload rfl rfl rfl ?_
    refine wp_iload rfl rfl rfl ?_
    obtain ⟨f0, F⟩ := F
    obtain ⟨f1, F⟩ := F
    refine wp_callV rfl rfl rfl (rcv_v f0 f1 (by decide) (by decide)) rfl rfl rfl rfl ?_
    refine CV.mono F (fun h0 F => ?_) (fun _ _ w => rx_V w)
    exact wp_retV rfl F
  · replace F := F.2 c
    refine wp_iload rfl rfl rfl ?_
    refine wp_const rfl rfl ?_
    refine wp_icmp_gt (Y := 62) rfl rfl rfl rfl rfl (fun c => ?_) (fun c => ?_)
    · replace F := F.1 c
      refine wp_aload rfl rfl rfl ?_
      refine wp_iload rfl rfl rfl ?_
      obtain ⟨f2, F⟩ := F
      obtain ⟨f3, F⟩ := F
      refine wp_callV rfl rfl rfl (rcv_v f2 f3 (by decide) (by decide)) rfl rfl rfl rfl ?_
      refine CV.mono F (fun h1 F => ?_) (fun _ _ w => rx_V w)
      exact wp_retV rfl F
    · replace F := F.2 c
      refine wp_aload rfl rfl rfl ?_
      refine wp_iload rfl rfl rfl ?_
      obtain ⟨f4, F⟩ := F
      obtain ⟨f5, F⟩ := F
      refine wp_callV rfl rfl rfl (rcv_v f4 f5 (by decide) (by decide)) rfl rfl rfl rfl ?_
      refine CV.mono F (fun h2 F => ?_) (fun _ _ w => rx_V w)
      refine wp_goto rfl rfl ?_
      exact wp_retV rfl F
-- CensusOffice$Tape rewind ()V
theorem m72 {d : Nat} {a0 : Nat} {h : aH} {K : aH → Prop} {X : Nat → aH → Prop} (F : 8 ≤ a0 ∧ gK h a0 = 12 ∧ ∀ h0 : aH, h0 = pI h a0 2 0 → CV d 71 [vR a0] h0 (fun h1 => K h1) X) : CV (d + 1) 72 [vR a0] h K X := by
  show Wp (d + 1) 72 (0, [some (vR a0)], [], h) (RV K X)
  refine wp_aload rfl rfl rfl ?_
  refine wp_const rfl rfl ?_
  obtain ⟨f0, F⟩ := F
  obtain ⟨f1, F⟩ := F
  refine wp_putI rfl rfl rfl f0 f1 rfl ?_
  have f2 : gK (pI h a0 2 0) a0 = 12 := (gK_pI _ _ _ _ _).trans f1
  replace F := F _ rfl
  generalize pI h a0 2 0 = h0 at F f2 ⊢
  refine wp_aload rfl rfl rfl ?_
  refine wp_callV rfl rfl rfl (rcv_v f0 f2 (by decide) (by decide)) rfl rfl rfl rfl ?_
  refine CV.mono F (fun h1 F => ?_) (fun _ _ w => rx_V w)
  exact wp_retV rfl F
-- CensusOffice$Tape isAtWord (J)Z
theorem m73 {d : Nat} {a0 : Nat} {a1 : Int64} {h : aH} {K : Int32 → aH → Prop} {X : Nat → aH → Prop} (F : gK h a0 = 12 ∧ (((gI h a0 3).toInt = 0 → (((gJ h a0 6).toInt = a1.toInt → K 1 h) ∧ (¬ (gJ h a0 6).toInt = a1.toInt → K 0 h))) ∧ (¬ (gI h a0 3).toInt = 0 → K 0 h))) : CI d 73 [vR a0, vL a1] h K X := by
  show Wp d 73 (0, [some (vR a0), some (vL a1), none], [], h) (RI K X)
  refine wp_aload rfl rfl rfl ?_
  obtain ⟨f0, F⟩ := F
  refine wp_getI rfl rfl rfl f0 rfl ?_
  refine wp_if_ne rfl rfl rfl rfl (fun c => ?_) (fun c => ?_)
  · replace F := F.1 c
    refine wp_aload rfl rfl rfl ?_
    refine wp_getJ rfl rfl rfl f0 rfl ?_
    refine wp_lload rfl rfl rfl ?_
    refine wp_lcmp_ne rfl rfl rfl rfl rfl rfl rfl (fun c => ?_) (fun c => ?_)
    · replace F := F.1 c
      refine wp_const rfl rfl ?_
      refine wp_goto rfl rfl ?_
      exact wp_retI rfl (Or.inr rfl) F
    · replace F := F.2 c
      refine wp_const' (L' := [none, none, none]) rfl rfl rfl ?_
      exact wp_retI rfl (Or.inr rfl) F
  · replace F := F.2 c
    refine wp_const' (L' := [none, none, none]) rfl rfl rfl ?_
    exact wp_retI rfl (Or.inr rfl) F
-- CensusOffice$Reader sortHere ()I
theorem m74 {d : Nat} {a0 : Nat} {h : aH} {K : Int32 → aH → Prop} {X : Nat → aH → Prop} (F : gK h a0 = 4 ∧ 8 ≤ (gR h a0 0) ∧ gK h (gR h a0 0) = 12 ∧ CI d 73 [vR (gR h a0 0), vL 6386539] h (fun y0 h0 => ((y0.toInt = 0 → gK h0 a0 = 4 ∧ 8 ≤ (gR h0 a0 0) ∧ gK h0 (gR h0 a0 0) = 12 ∧ CI d 73 [vR (gR h0 a0 0), vL 7103860] h0 (fun y1 h1 => ((y1.toInt = 0 → gK h1 a0 = 4 ∧ 8 ≤ (gR h1 a0 0) ∧ gK h1 (gR h1 a0 0) = 12 ∧ CI d 73 [vR (gR h1 a0 0), vL 1836413812] h1 (fun y2 h2 => ((y2.toInt = 0 → gK h2 a0 = 4 ∧ 8 ≤ (gR h2 a0 0) ∧ gK h2 (gR h2 a0 0) = 12 ∧ CI d 73 [vR (gR h2 a0 0), vL 2002874990] h2 (fun y3 h3 => ((y3.toInt = 0 → K (-1) h3) ∧ (¬ y3.toInt = 0 → K 3 h3))) X) ∧ (¬ y2.toInt = 0 → K 2 h2))) X) ∧ (¬ y1.toInt = 0 → K 1 h1))) X) ∧ (¬ y0.toInt = 0 → K 0 h0))) X) : CI (d + 1) 74 [vR a0] h K X := by
  show Wp (d + 1) 74 (0, [some (vR a0)], [], h) (RI K X)
  refine wp_aload rfl rfl rfl ?_
  obtain ⟨f0, F⟩ := F
  refine wp_getR rfl rfl rfl f0 rfl ?_
  refine wp_const rfl rfl ?_
  obtain ⟨f1, F⟩ := F
  obtain ⟨f2, F⟩ := F
  refine wp_callI rfl rfl rfl (rcv_v f1 f2 (by decide) (by decide)) rfl rfl rfl rfl ?_
  refine CI.mono F (fun y0 h0 F => ?_) (fun _ _ w => rx_I w)
  refine wp_if_eq rfl rfl rfl rfl (fun c => ?_) (fun c => ?_)
  · replace F := F.1 c
    refine wp_aload rfl rfl rfl ?_
    obtain ⟨f3, F⟩ := F
    refine wp_getR rfl rfl rfl f3 rfl ?_
    refine wp_const rfl rfl ?_
    obtain ⟨f4, F⟩ := F
    obtain ⟨f5, F⟩ := F
    refine wp_callI rfl rfl rfl (rcv_v f4 f5 (by decide) (by decide)) rfl rfl rfl rfl ?_
    refine CI.mono F (fun y1 h1 F => ?_) (fun _ _ w => rx_I w)
    refine wp_if_eq rfl rfl rfl rfl (fun c => ?_) (fun c => ?_)
    · replace F := F.1 c
      refine wp_aload rfl rfl rfl ?_
      obtain ⟨f6, F⟩ := F
      refine wp_getR rfl rfl rfl f6 rfl ?_
      refine wp_const rfl rfl ?_
      obtain ⟨f7, F⟩ := F
      obtain ⟨f8, F⟩ := F
      refine wp_callI rfl rfl rfl (rcv_v f7 f8 (by decide) (by decide)) rfl rfl rfl rfl ?_
      refine CI.mono F (fun y2 h2 F => ?_) (fun _ _ w => rx_I w)
      refine wp_if_eq rfl rfl rfl rfl (fun c => ?_) (fun c => ?_)
      · replace F := F.1 c
        refine wp_aload rfl rfl rfl ?_
        obtain ⟨f9, F⟩ := F
        refine wp_getR rfl rfl rfl f9 rfl ?_
        refine wp_const rfl rfl ?_
        obtain ⟨f10, F⟩ := F
        obtain ⟨f11, F⟩ := F
        refine wp_callI rfl rfl rfl (rcv_v f10 f11 (by decide) (by decide)) rfl rfl rfl rfl ?_
        refine CI.mono F (fun y3 h3 F => ?_) (fun _ _ w => rx_I w)
        refine wp_if_eq rfl rfl rfl rfl (fun c => ?_) (fun c => ?_)
        · replace F := F.1 c
          refine wp_const' (L' := [none]) rfl rfl rfl ?_
          exact wp_retI rfl (Or.inl rfl) F
        · replace F := F.2 c
          refine wp_const rfl rfl ?_
          refine wp_goto rfl rfl ?_
          exact wp_retI rfl (Or.inl rfl) F
      · replace F := F.2 c
        refine wp_const rfl rfl ?_
        exact wp_retI rfl (Or.inl rfl) F
    · replace F := F.2 c
      refine wp_const rfl rfl ?_
      exact wp_retI rfl (Or.inl rfl) F
  · replace F := F.2 c
    refine wp_const rfl rfl ?_
    exact wp_retI rfl (Or.inl rfl) F
-- CensusOffice$Reader failAt (I)Z
theorem m75 {d : Nat} {a0 : Nat} {a1 : Int32} {h : aH} {K : Int32 → aH → Prop} {X : Nat → aH → Prop} (F : 8 ≤ a0 ∧ gK h a0 = 4 ∧ ∀ h0 : aH, h0 = pI h a0 4 a1 → K 0 h0) : CI d 75 [vR a0, vI a1] h K X := by
  show Wp d 75 (0, [some (vR a0), some (vI a1)], [], h) (RI K X)
  refine wp_aload rfl rfl rfl ?_
  refine wp_iload rfl rfl rfl ?_
  obtain ⟨f0, F⟩ := F
  obtain ⟨f1, F⟩ := F
  refine wp_putI rfl rfl rfl f0 f1 rfl ?_
  have f2 : gK (pI h a0 4 a1) a0 = 4 := (gK_pI _ _ _ _ _).trans f1
  replace F := F _ rfl
  generalize pI h a0 4 a1 = h0 at F f2 ⊢
  refine wp_const rfl rfl ?_
  exact wp_retI rfl (Or.inr rfl) F
-- CensusOffice$Form begin (I)V
theorem m76 {d : Nat} {a0 : Nat} {a1 : Int32} {h : aH} {K : aH → Prop} {X : Nat → aH → Prop} (F : gK h a0 = 3 ∧ (((gI h a0 11).toInt < 20 → 8 ≤ (gR h a0 2) ∧ ∃ i0 : Nat, inB h 100 (gR h a0 2) (gI h a0 11) i0 ∧ ∀ h0 : aH, h0 = pI h (gR h a0 2) i0 a1 → K h0) ∧ (¬ (gI h a0 11).toInt < 20 → K h))) : CV d 76 [vR a0, vI a1] h K X := by
  show Wp d 76 (0, [some (vR a0), some (vI a1)], [], h) (RV K X)
  refine wp_aload rfl rfl rfl ?_
  obtain ⟨f0, F⟩ := F
  refine wp_getI rfl rfl rfl f0 rfl ?_
  refine wp_const rfl rfl ?_
  refine wp_icmp_ge (Y := 20) rfl rfl rfl rfl rfl (fun c => ?_) (fun c => ?_)
  · replace F := F.1 c
    refine wp_aload rfl rfl rfl ?_
    refine wp_getR rfl rfl rfl f0 rfl ?_
    refine wp_aload rfl rfl rfl ?_
    refine wp_getI rfl rfl rfl f0 rfl ?_
    refine wp_iload rfl rfl rfl ?_
    obtain ⟨f1, F⟩ := F
    obtain ⟨i0, b9, F⟩ := F
    refine wp_iastore rfl f1 b9 rfl ?_
    have f2 : gK (pI h (gR h a0 2) i0 a1) a0 = 3 := (gK_pI _ _ _ _ _).trans f0
    replace F := F _ rfl
    generalize pI h (gR h a0 2) i0 a1 = h0 at F f2 ⊢
    exact wp_retV rfl F
  · replace F := F.2 c
    exact wp_retV rfl F
-- CensusOffice$Reader isKept (J)Z
theorem m77 {d : Nat} {a0 : Nat} {a1 : Int64} {h : aH} {K : Int32 → aH → Prop} {X : Nat → aH → Prop} (F : ((a1.toInt = 6386539 → K 1 h) ∧ (¬ a1.toInt = 6386539 → ((a1.toInt = 7103860 → K 1 h) ∧ (¬ a1.toInt = 7103860 → ((a1.toInt = 1836413812 → K 1 h) ∧ (¬ a1.toInt = 1836413812 → ((a1.toInt = 2002874990 → K 1 h) ∧ (¬ a1.toInt = 2002874990 → ((a1.toInt = 26982 → K 1 h) ∧ (¬ a1.toInt = 26982 → ((a1.toInt = 6385252 → K 1 h) ∧ (¬ a1.toInt = 6385252 → ((a1.toInt = 28530 → K 1 h) ∧ (¬ a1.toInt = 28530 → ((a1.toInt = 7497063 → K 1 h) ∧ (¬ a1.toInt = 7497063 → K 0 h))))))))))))))))) : CI d 77 [vR a0, vL a1] h K X := by
  show Wp d 77 (0, [some (vR a0), some (vL a1), none], [], h) (RI K X)
  refine wp_lload rfl rfl rfl ?_
  refine wp_const rfl rfl ?_
  refine wp_lcmp_eq (Y := 6386539) rfl rfl rfl rfl rfl rfl rfl (fun c => ?_) (fun c => ?_)
  · replace F := F.1 c
    refine wp_const' (L' := [none, none, none]) rfl rfl rfl ?_
    refine wp_goto rfl rfl ?_
    exact wp_retI rfl (Or.inr rfl) F
  · replace F := F.2 c
    refine wp_lload rfl rfl rfl ?_
    refine wp_const rfl rfl ?_
    refine wp_lcmp_eq (Y := 7103860) rfl rfl rfl rfl rfl rfl rfl (fun c => ?_) (fun c => ?_)
    · replace F := F.1 c
      refine wp_const' (L' := [none, none, none]) rfl rfl rfl ?_
      refine wp_goto rfl rfl ?_
      exact wp_retI rfl (Or.inr rfl) F
    · replace F := F.2 c
      refine wp_lload rfl rfl rfl ?_
      refine wp_const rfl rfl ?_
      refine wp_lcmp_eq (Y := 1836413812) rfl rfl rfl rfl rfl rfl rfl (fun c => ?_) (fun c => ?_)
      · replace F := F.1 c
        refine wp_const' (L' := [none, none, none]) rfl rfl rfl ?_
        refine wp_goto rfl rfl ?_
        exact wp_retI rfl (Or.inr rfl) F
      · replace F := F.2 c
        refine wp_lload rfl rfl rfl ?_
        refine wp_const rfl rfl ?_
        refine wp_lcmp_eq (Y := 2002874990) rfl rfl rfl rfl rfl rfl rfl (fun c => ?_) (fun c => ?_)
        · replace F := F.1 c
          refine wp_const' (L' := [none, none, none]) rfl rfl rfl ?_
          refine wp_goto rfl rfl ?_
          exact wp_retI rfl (Or.inr rfl) F
        · replace F := F.2 c
          refine wp_lload rfl rfl rfl ?_
          refine wp_const rfl rfl ?_
          refine wp_lcmp_eq (Y := 26982) rfl rfl rfl rfl rfl rfl rfl (fun c => ?_) (fun c => ?_)
          · replace F := F.1 c
            refine wp_const' (L' := [none, none, none]) rfl rfl rfl ?_
            refine wp_goto rfl rfl ?_
            exact wp_retI rfl (Or.inr rfl) F
          · replace F := F.2 c
            refine wp_lload rfl rfl rfl ?_
            refine wp_const rfl rfl ?_
            refine wp_lcmp_eq (Y := 6385252) rfl rfl rfl rfl rfl rfl rfl (fun c => ?_) (fun c => ?_)
            · replace F := F.1 c
              refine wp_const' (L' := [none, none, none]) rfl rfl rfl ?_
              refine wp_goto rfl rfl ?_
              exact wp_retI rfl (Or.inr rfl) F
            · replace F := F.2 c
              refine wp_lload rfl rfl rfl ?_
              refine wp_const rfl rfl ?_
              refine wp_lcmp_eq (Y := 28530) rfl rfl rfl rfl rfl rfl rfl (fun c => ?_) (fun c => ?_)
              · replace F := F.1 c
                refine wp_const' (L' := [none, none, none]) rfl rfl rfl ?_
                refine wp_goto rfl rfl ?_
                exact wp_retI rfl (Or.inr rfl) F
              · replace F := F.2 c
                refine wp_lload rfl rfl rfl ?_
                refine wp_const rfl rfl ?_
                refine wp_lcmp_ne (Y := 7497063) rfl rfl rfl rfl rfl rfl rfl (fun c => ?_) (fun c => ?_)
                · replace F := F.1 c
                  refine wp_const' (L' := [none, none, none]) rfl rfl rfl ?_
                  refine wp_goto rfl rfl ?_
                  exact wp_retI rfl (Or.inr rfl) F
                · replace F := F.2 c
                  refine wp_const' (L' := [none, none, none]) rfl rfl rfl ?_
                  exact wp_retI rfl (Or.inr rfl) F
-- CensusOffice$Form named (J)I
theorem m78 {d : Nat} {a0 : Nat} {a1 : Int64} {h : aH} {K : Int32 → aH → Prop} {X : Nat → aH → Prop} (F : Wp d 78 (2, [some (vR a0), some (vL a1), none, some (vI 0)], [], h) (RI K X)) : CI d 78 [vR a0, vL a1] h K X := by
  show Wp d 78 (0, [some (vR a0), some (vL a1), none, none], [], h) (RI K X)
  refine wp_const rfl rfl ?_
  refine wp_istore (L2 := [some (vR a0), some (vL a1), none, some (vI 0)]) rfl rfl rfl rfl ?_
  exact F
theorem w78_2 {d : Nat} {l0 : Nat} {l1 : Int64} {l3 : Int32} {h : aH} {K : Int32 → aH → Prop} {X : Nat → aH → Prop} (F : gK h l0 = 3 ∧ ((l3.toInt < (gI h l0 11).toInt → ∃ i0 : Nat, inB h 101 (gR h l0 6) l3 i0 ∧ (((gJ h (gR h l0 6) i0).toInt = l1.toInt → K l3 h) ∧ (¬ (gJ h (gR h l0 6) i0).toInt = l1.toInt → ∀ v0 : Int32, v0 = l3 + 1 → Wp d 78 (2, [some (vR l0), some (vL l1), none, some (vI v0)], [], h) (RI K X)))) ∧ (¬ l3.toInt < (gI h l0 11).toInt → K (-1) h))) : Wp d 78 (2, [some (vR l0), some (vL l1), none, some (vI l3)], [], h) (RI K X) := by
  refine wp_iload rfl rfl rfl ?_
  refine wp_aload rfl rfl rfl ?_
  obtain ⟨f0, F⟩ := F
  refine wp_getI rfl rfl rfl f0 rfl ?_
  refine wp_icmp_ge rfl rfl rfl rfl rfl (fun c => ?_) (fun c => ?_)
  · replace F := F.1 c
    refine wp_aload rfl rfl rfl ?_
    refine wp_getR rfl rfl rfl f0 rfl ?_
    refine wp_iload rfl rfl rfl ?_
    obtain ⟨i0, b9, F⟩ := F
    refine wp_laload rfl b9 rfl ?_
    refine wp_lload rfl rfl rfl ?_
    refine wp_lcmp_ne rfl rfl rfl rfl rfl rfl rfl (fun c => ?_) (fun c => ?_)
    · replace F := F.1 c
      refine wp_iload rfl rfl rfl ?_
      exact wp_retI rfl (Or.inl rfl) F
    · replace F := F.2 c
      refine wp_iinc (y := 1) (L2 := [some (vR l0), some (vL l1), none, some (vI (l3 + 1))]) rfl rfl rfl rfl rfl ?_
      replace F := F _ rfl
      generalize (l3 + 1 : Int32) = v0 at F ⊢
      refine wp_goto rfl rfl ?_
      exact F
  · replace F := F.2 c
    refine wp_const' (L' := [none, none, none, none]) rfl rfl rfl ?_
    exact wp_retI rfl (Or.inl rfl) F
-- CensusOffice$Reader readName ()Z
theorem m79 {d : Nat} {a0 : Nat} {h : aH} {K : Int32 → aH → Prop} {X : Nat → aH → Prop} (F : gK h a0 = 4 ∧ gK h (gR h a0 0) = 12 ∧ (((gI h (gR h a0 0) 3).toInt = 0 → 8 ≤ a0 ∧ CI d 77 [vR a0, vL (gJ h (gR h a0 0) 6)] h (fun y0 h0 => ((y0.toInt = 0 → gK h0 a0 = 4 ∧ gK h0 (gR h0 a0 0) = 12 ∧ 8 ≤ (gR h0 a0 1) ∧ gK h0 (gR h0 a0 1) = 3 ∧ CI d 78 [vR (gR h0 a0 1), vL (gJ h0 (gR h0 a0 0) 6)] h0 (fun y1 h1 => ((y1.toInt = (-1) → gK h1 a0 = 4 ∧ gK h1 (gR h1 a0 0) = 12 ∧ ∀ h2 : aH, h2 = pJ h1 a0 2 (gJ h1 (gR h1 a0 0) 6) → 8 ≤ (gR h2 a0 0) ∧ CV d 71 [vR (gR h2 a0 0)] h2 (fun h3 => K 1 h3) X) ∧ (¬ y1.toInt = (-1) → gK h1 a0 = 4 ∧ gK h1 (gR h1 a0 0) = 12 ∧ CI d 75 [vR a0, vI (gI h1 (gR h1 a0 0) 4)] h1 (fun y2 h4 => y2 &&& 1 = y2 ∧ K y2 h4) X))) X) ∧ (¬ y0.toInt = 0 → gK h0 a0 = 4 ∧ gK h0 (gR h0 a0 0) = 12 ∧ CI d 75 [vR a0, vI (gI h0 (gR h0 a0 0) 4)] h0 (fun y3 h5 => y3 &&& 1 = y3 ∧ K y3 h5) X))) X) ∧ (¬ (gI h (gR h a0 0) 3).toInt = 0 → 8 ≤ a0 ∧ CI d 75 [vR a0, vI (gI h (gR h a0 0) 4)] h (fun y4 h6 => y4 &&& 1 = y4 ∧ K y4 h6) X))) : CI (d + 1) 79 [vR a0] h K X := by
  show Wp (d + 1) 79 (0, [some (vR a0)], [], h) (RI K X)
  refine wp_aload rfl rfl rfl ?_
  obtain ⟨f0, F⟩ := F
  refine wp_getR rfl rfl rfl f0 rfl ?_
  obtain ⟨f1, F⟩ := F
  refine wp_getI rfl rfl rfl f1 rfl ?_
  refine wp_if_ne rfl rfl rfl rfl (fun c => ?_) (fun c => ?_)
  · replace F := F.1 c
    refine wp_aload rfl rfl rfl ?_
    refine wp_aload rfl rfl rfl ?_
    refine wp_getR rfl rfl rfl f0 rfl ?_
    refine wp_getJ rfl rfl rfl f1 rfl ?_
    obtain ⟨f2, F⟩ := F
    refine wp_callI rfl rfl rfl (rcv_v f2 f0 (by decide) (by decide)) rfl rfl rfl rfl ?_
    refine CI.mono F (fun y0 h0 F => ?_) (fun _ _ w => rx_I w)
    refine wp_if_ne rfl rfl rfl rfl (fun c => ?_) (fun c => ?_)
    · replace F := F.1 c
      refine wp_aload rfl rfl rfl ?_
      obtain ⟨f3, F⟩ := F
      refine wp_getR rfl rfl rfl f3 rfl ?_
      refine wp_aload rfl rfl rfl ?_
      refine wp_getR rfl rfl rfl f3 rfl ?_
      obtain ⟨f4, F⟩ := F
      refine wp_getJ rfl rfl rfl f4 rfl ?_
      obtain ⟨f5, F⟩ := F
      obtain ⟨f6, F⟩ := F
      refine wp_callI rfl rfl rfl (rcv_v f5 f6 (by decide) (by decide)) rfl rfl rfl rfl ?_
      refine CI.mono F (fun y1 h1 F => ?_) (fun _ _ w => rx_I w)
      refine wp_const rfl rfl ?_
      refine wp_icmp_eq (Y := (-1)) rfl rfl rfl rfl rfl (fun c => ?_) (fun c => ?_)
      · replace F := F.1 c
        refine wp_aload rfl rfl rfl ?_
        refine wp_aload rfl rfl rfl ?_
        obtain ⟨f7, F⟩ := F
        refine wp_getR rfl rfl rfl f7 rfl ?_
        obtain ⟨f8, F⟩ := F
        refine wp_getJ rfl rfl rfl f8 rfl ?_
        refine wp_putJ rfl rfl rfl f2 f7 rfl ?_
        have f9 : gK (pJ h1 a0 2 (gJ h1 (gR h1 a0 0) 6)) a0 = 4 := (gK_pJ _ _ _ _ _).trans f7
        have f10 : gK (pJ h1 a0 2 (gJ h1 (gR h1 a0 0) 6)) (gR (pJ h1 a0 2 (gJ h1 (gR h1 a0 0) 6)) a0 0) = 12 := (by simp only [gK_pJ, gR_pJ]; exact f8)
        replace F := F _ rfl
        generalize pJ h1 a0 2 (gJ h1 (gR h1 a0 0) 6) = h2 at F f9 f10 ⊢
        refine wp_aload rfl rfl rfl ?_
        refine wp_getR rfl rfl rfl f9 rfl ?_
        obtain ⟨f11, F⟩ := F
        refine wp_callV rfl rfl rfl (rcv_v f11 f10 (by decide) (by decide)) rfl rfl rfl rfl ?_
        refine CV.mono F (fun h3 F => ?_) (fun _ _ w => rx_I w)
        refine wp_const rfl rfl ?_
        exact wp_retI rfl (Or.inr rfl) F
      · replace F := F.2 c
        refine wp_aload rfl rfl rfl ?_
        refine wp_aload rfl rfl rfl ?_
        obtain ⟨f12, F⟩ := F
        refine wp_getR rfl rfl rfl f12 rfl ?_
        obtain ⟨f13, F⟩ := F
        refine wp_getI rfl rfl rfl f13 rfl ?_
        refine wp_callI rfl rfl rfl (rcv_v f2 f12 (by decide) (by decide)) rfl rfl rfl rfl ?_
        refine CI.mono F (fun y2 h4 F => ?_) (fun _ _ w => rx_I w)
        exact wp_retI rfl (Or.inr F.1) F.2
    · replace F := F.2 c
      refine wp_aload rfl rfl rfl ?_
      refine wp_aload rfl rfl rfl ?_
      obtain ⟨f14, F⟩ := F
      refine wp_getR rfl rfl rfl f14 rfl ?_
      obtain ⟨f15, F⟩ := F
      refine wp_getI rfl rfl rfl f15 rfl ?_
      refine wp_callI rfl rfl rfl (rcv_v f2 f14 (by decide) (by decide)) rfl rfl rfl rfl ?_
      refine CI.mono F (fun y3 h5 F => ?_) (fun _ _ w => rx_I w)
      exact wp_retI rfl (Or.inr F.1) F.2
  · replace F := F.2 c
    refine wp_aload rfl rfl rfl ?_
    refine wp_aload rfl rfl rfl ?_
    refine wp_getR rfl rfl rfl f0 rfl ?_
    refine wp_getI rfl rfl rfl f1 rfl ?_
    obtain ⟨f16, F⟩ := F
    refine wp_callI rfl rfl rfl (rcv_v f16 f0 (by decide) (by decide)) rfl rfl rfl rfl ?_
    refine CI.mono F (fun y4 h6 F => ?_) (fun _ _ w => rx_I w)
    exact wp_retI rfl (Or.inr F.1) F.2
-- CensusOffice$Reader readBound ()Z
theorem m80 {d : Nat} {a0 : Nat} {h : aH} {K : Int32 → aH → Prop} {X : Nat → aH → Prop} (F : gK h a0 = 4 ∧ gK h (gR h a0 0) = 12 ∧ (((gI h (gR h a0 0) 3).toInt = 4 → 8 ≤ (gR h a0 0) ∧ CV d 71 [vR (gR h a0 0)] h (fun h0 => gK h0 a0 = 4 ∧ gK h0 (gR h0 a0 0) = 12 ∧ (((gI h0 (gR h0 a0 0) 3).toInt = 1 → 8 ≤ a0 ∧ ∀ h1 : aH, h1 = pI h0 a0 3 ((-1) * (gI h0 (gR h0 a0 0) 5)) → 8 ≤ (gR h1 a0 0) ∧ CV d 71 [vR (gR h1 a0 0)] h1 (fun h2 => K 1 h2) X) ∧ (¬ (gI h0 (gR h0 a0 0) 3).toInt = 1 → 8 ≤ a0 ∧ CI d 75 [vR a0, vI (gI h0 (gR h0 a0 0) 4)] h0 (fun y0 h3 => y0 &&& 1 = y0 ∧ K y0 h3) X))) X) ∧ (¬ (gI h (gR h a0 0) 3).toInt = 4 → (((gI h (gR h a0 0) 3).toInt = 1 → 8 ≤ a0 ∧ ∀ h4 : aH, h4 = pI h a0 3 (1 * (gI h (gR h a0 0) 5)) → 8 ≤ (gR h4 a0 0) ∧ CV d 71 [vR (gR h4 a0 0)] h4 (fun h5 => K 1 h5) X) ∧ (¬ (gI h (gR h a0 0) 3).toInt = 1 → 8 ≤ a0 ∧ CI d 75 [vR a0, vI (gI h (gR h a0 0) 4)] h (fun y1 h6 => y1 &&& 1 = y1 ∧ K y1 h6) X))))) : CI (d + 1) 80 [vR a0] h K X := by
  show Wp (d + 1) 80 (0, [some (vR a0), none], [], h) (RI K X)
  refine wp_const rfl rfl ?_
  refine wp_istore (L2 := [some (vR a0), some (vI 1)]) rfl rfl rfl rfl ?_
  refine wp_aload rfl rfl rfl ?_
  obtain ⟨f0, F⟩ := F
  refine wp_getR rfl rfl rfl f0 rfl ?_
  obtain ⟨f1, F⟩ := F
  refine wp_getI rfl rfl rfl f1 rfl ?_
  refine wp_const rfl rfl ?_
  refine wp_icmp_ne (Y := 4) rfl rfl rfl rfl rfl (fun c => ?_) (fun c => ?_)
  · replace F := F.1 c
    refine wp_const rfl rfl ?_
    refine wp_istore (L2 := [some (vR a0), some (vI (-1))]) rfl rfl rfl rfl ?_
    refine wp_aload rfl rfl rfl ?_
    refine wp_getR rfl rfl rfl f0 rfl ?_
    obtain ⟨f2, F⟩ := F
    refine wp_callV rfl rfl rfl (rcv_v f2 f1 (by decide) (by decide)) rfl rfl rfl rfl ?_
    refine CV.mono F (fun h0 F => ?_) (fun _ _ w => rx_I w)
    refine wp_aload rfl rfl rfl ?_
    obtain ⟨f3, F⟩ := F
    refine wp_getR rfl rfl rfl f3 rfl ?_
    obtain ⟨f4, F⟩ := F
    refine wp_getI rfl rfl rfl f4 rfl ?_
    refine wp_const rfl rfl ?_
    refine wp_icmp_eq (Y := 1) rfl rfl rfl rfl rfl (fun c => ?_) (fun c => ?_)
    · replace F := F.1 c
      refine wp_aload rfl rfl rfl ?_
      refine wp_iload rfl rfl rfl ?_
      refine wp_aload rfl rfl rfl ?_
      refine wp_getR rfl rfl rfl f3 rfl ?_
      refine wp_getI rfl rfl rfl f4 rfl ?_
      refine wp_imul rfl rfl ?_
      obtain ⟨f5, F⟩ := F
      refine wp_putI rfl rfl rfl f5 f3 rfl ?_
      have f6 : gK (pI h0 a0 3 ((-1) * (gI h0 (gR h0 a0 0) 5))) a0 = 4 := (gK_pI _ _ _ _ _).trans f3
      have f7 : gK (pI h0 a0 3 ((-1) * (gI h0 (gR h0 a0 0) 5))) (gR (pI h0 a0 3 ((-1) * (gI h0 (gR h0 a0 0) 5))) a0 0) = 12 := (by simp only [gK_pI, gR_pI]; exact f4)
      replace F := F _ rfl
      generalize pI h0 a0 3 ((-1) * (gI h0 (gR h0 a0 0) 5)) = h1 at F f6 f7 ⊢
      refine wp_aload rfl rfl rfl ?_
      refine wp_getR rfl rfl rfl f6 rfl ?_
      obtain ⟨f8, F⟩ := F
      refine wp_callV rfl rfl rfl (rcv_v f8 f7 (by decide) (by decide)) rfl rfl rfl rfl ?_
      refine CV.mono F (fun h2 F => ?_) (fun _ _ w => rx_I w)
      refine wp_const rfl rfl ?_
      exact wp_retI rfl (Or.inr rfl) F
    · replace F := F.2 c
      refine wp_aload rfl rfl rfl ?_
      refine wp_aload rfl rfl rfl ?_
      refine wp_getR rfl rfl rfl f3 rfl ?_
      refine wp_getI rfl rfl rfl f4 rfl ?_
      obtain ⟨f9, F⟩ := F
      refine wp_callI rfl rfl rfl (rcv_v f9 f3 (by decide) (by decide)) rfl rfl rfl rfl ?_
      refine CI.mono F (fun y0 h3 F => ?_) (fun _ _ w => rx_I w)
      exact wp_retI rfl (Or.inr F.1) F.2
  · replace F := F.2 c
    refine wp_aload rfl rfl rfl ?_
    refine wp_getR rfl rfl rfl f0 rfl ?_
    refine wp_getI rfl rfl rfl f1 rfl ?_
    refine wp_const rfl rfl ?_
    refine wp_icmp_eq (Y := 1) rfl rfl rfl rfl rfl (fun c => ?_) (fun c => ?_)
    · replace F := F.1 c
      refine wp_aload rfl rfl rfl ?_
      refine wp_iload rfl rfl rfl ?_
      refine wp_aload rfl rfl rfl ?_
      refine wp_getR rfl rfl rfl f0 rfl ?_
      refine wp_getI rfl rfl rfl f1 rfl ?_
      refine wp_imul rfl rfl ?_
      obtain ⟨f10, F⟩ := F
      refine wp_putI rfl rfl rfl f10 f0 rfl ?_
      have f11 : gK (pI h a0 3 (1 * (gI h (gR h a0 0) 5))) a0 = 4 := (gK_pI _ _ _ _ _).trans f0
      have f12 : gK (pI h a0 3 (1 * (gI h (gR h a0 0) 5))) (gR (pI h a0 3 (1 * (gI h (gR h a0 0) 5))) a0 0) = 12 := (by simp only [gK_pI, gR_pI]; exact f1)
      replace F := F _ rfl
      generalize pI h a0 3 (1 * (gI h (gR h a0 0) 5)) = h4 at F f11 f12 ⊢
      refine wp_aload rfl rfl rfl ?_
      refine wp_getR rfl rfl rfl f11 rfl ?_
      obtain ⟨f13, F⟩ := F
      refine wp_callV rfl rfl rfl (rcv_v f13 f12 (by decide) (by decide)) rfl rfl rfl rfl ?_
      refine CV.mono F (fun h5 F => ?_) (fun _ _ w => rx_I w)
      refine wp_const rfl rfl ?_
      exact wp_retI rfl (Or.inr rfl) F
    · replace F := F.2 c
      refine wp_aload rfl rfl rfl ?_
      refine wp_aload rfl rfl rfl ?_
      refine wp_getR rfl rfl rfl f0 rfl ?_
      refine wp_getI rfl rfl rfl f1 rfl ?_
      obtain ⟨f14, F⟩ := F
      refine wp_callI rfl rfl rfl (rcv_v f14 f0 (by decide) (by decide)) rfl rfl rfl rfl ?_
      refine CI.mono F (fun y1 h6 F => ?_) (fun _ _ w => rx_I w)
      exact wp_retI rfl (Or.inr F.1) F.2
-- CensusOffice$Form bind (II)V
theorem m81 {d : Nat} {a0 : Nat} {a1 : Int32} {a2 : Int32} {h : aH} {K : aH → Prop} {X : Nat → aH → Prop} (F : gK h a0 = 3 ∧ (((gI h a0 11).toInt < 20 → 8 ≤ (gR h a0 3) ∧ ∃ i0 : Nat, inB h 100 (gR h a0 3) (gI h a0 11) i0 ∧ ∀ h0 : aH, h0 = pI h (gR h a0 3) i0 a1 → 8 ≤ (gR h0 a0 4) ∧ ∃ i1 : Nat, inB h0 100 (gR h0 a0 4) (gI h0 a0 11) i1 ∧ ∀ h1 : aH, h1 = pI h0 (gR h0 a0 4) i1 a2 → 8 ≤ (gR h1 a0 5) ∧ ∃ i2 : Nat, inB h1 100 (gR h1 a0 5) (gI h1 a0 11) i2 ∧ ∀ h2 : aH, h2 = pI h1 (gR h1 a0 5) i2 1 → 8 ≤ a0 ∧ ∀ h3 : aH, h3 = pI h2 a0 12 ((gI h2 a0 12) + 1) → K h3) ∧ (¬ (gI h a0 11).toInt < 20 → K h))) : CV d 81 [vR a0, vI a1, vI a2] h K X := by
  show Wp d 81 (0, [some (vR a0), some (vI a1), some (vI a2)], [], h) (RV K X)
  refine wp_aload rfl rfl rfl ?_
  obtain ⟨f0, F⟩ := F
  refine wp_getI rfl rfl rfl f0 rfl ?_
  refine wp_const rfl rfl ?_
  refine wp_icmp_ge (Y := 20) rfl rfl rfl rfl rfl (fun c => ?_) (fun c => ?_)
  · replace F := F.1 c
    refine wp_aload rfl rfl rfl ?_
    refine wp_getR rfl rfl rfl f0 rfl ?_
    refine wp_aload rfl rfl rfl ?_
    refine wp_getI rfl rfl rfl f0 rfl ?_
    refine wp_iload rfl rfl rfl ?_
    obtain ⟨f1, F⟩ := F
    obtain ⟨i0, b9, F⟩ := F
    refine wp_iastore rfl f1 b9 rfl ?_
    have f2 : gK (pI h (gR h a0 3) i0 a1) a0 = 3 := (gK_pI _ _ _ _ _).trans f0
    replace F := F _ rfl
    generalize pI h (gR h a0 3) i0 a1 = h0 at F f2 ⊢
    refine wp_aload rfl rfl rfl ?_
    refine wp_getR rfl rfl rfl f2 rfl ?_
    refine wp_aload rfl rfl rfl ?_
    refine wp_getI rfl rfl rfl f2 rfl ?_
    refine wp_iload rfl rfl rfl ?_
    obtain ⟨f3, F⟩ := F
    obtain ⟨i1, b9, F⟩ := F
    refine wp_iastore rfl f3 b9 rfl ?_
    have f4 : gK (pI h0 (gR h0 a0 4) i1 a2) a0 = 3 := (gK_pI _ _ _ _ _).trans f2
    replace F := F _ rfl
    generalize pI h0 (gR h0 a0 4) i1 a2 = h1 at F f4 ⊢
    refine wp_aload rfl rfl rfl ?_
    refine wp_getR rfl rfl rfl f4 rfl ?_
    refine wp_aload rfl rfl rfl ?_
    refine wp_getI rfl rfl rfl f4 rfl ?_
    refine wp_const rfl rfl ?_
    obtain ⟨f5, F⟩ := F
    obtain ⟨i2, b9, F⟩ := F
    refine wp_iastore rfl f5 b9 rfl ?_
    have f6 : gK (pI h1 (gR h1 a0 5) i2 1) a0 = 3 := (gK_pI _ _ _ _ _).trans f4
    replace F := F _ rfl
    generalize pI h1 (gR h1 a0 5) i2 1 = h2 at F f6 ⊢
    refine wp_aload rfl rfl rfl ?_
    refine wp_dup rfl rfl rfl ?_
    refine wp_getI rfl rfl rfl f6 rfl ?_
    refine wp_const rfl rfl ?_
    refine wp_iadd rfl rfl ?_
    obtain ⟨f7, F⟩ := F
    refine wp_putI rfl rfl rfl f7 f6 rfl ?_
    have f8 : gK (pI h2 a0 12 ((gI h2 a0 12) + 1)) a0 = 3 := (gK_pI _ _ _ _ _).trans f6
    replace F := F _ rfl
    generalize pI h2 a0 12 ((gI h2 a0 12) + 1) = h3 at F f8 ⊢
    exact wp_retV rfl F
  · replace F := F.2 c
    exact wp_retV rfl F
-- CensusOffice$Reader readBounds ()Z
theorem m82 {d : Nat} {a0 : Nat} {h : aH} {K : Int32 → aH → Prop} {X : Nat → aH → Prop} (F : 8 ≤ a0 ∧ gK h a0 = 4 ∧ CI d 80 [vR a0] h (fun y0 h0 => ((y0.toInt = 0 → K 0 h0) ∧ (¬ y0.toInt = 0 → gK h0 a0 = 4 ∧ ∀ v0 : Int32, v0 = gI h0 a0 3 → gK h0 (gR h0 a0 0) = 12 ∧ ∀ v1 : Int32, v1 = gI h0 (gR h0 a0 0) 4 → CI d 80 [vR a0] h0 (fun y1 h1 => ((y1.toInt = 0 → K 0 h1) ∧ (¬ y1.toInt = 0 → gK h1 a0 = 4 ∧ (((gI h1 a0 3).toInt < v0.toInt → CI d 75 [vR a0, vI v1] h1 (fun y2 h2 => y2 &&& 1 = y2 ∧ K y2 h2) X) ∧ (¬ (gI h1 a0 3).toInt < v0.toInt → 8 ≤ (gR h1 a0 1) ∧ gK h1 (gR h1 a0 1) = 3 ∧ CV d 81 [vR (gR h1 a0 1), vI v0, vI (gI h1 a0 3)] h1 (fun h3 => K 1 h3) X))))) X))) X) : CI (d + 1) 82 [vR a0] h K X := by
  show Wp (d + 1) 82 (0, [some (vR a0), none, none], [], h) (RI K X)
  refine wp_aload rfl rfl rfl ?_
  obtain ⟨f0, F⟩ := F
  obtain ⟨f1, F⟩ := F
  refine wp_callI rfl rfl rfl (rcv_v f0 f1 (by decide) (by decide)) rfl rfl rfl rfl ?_
  refine CI.mono F (fun y0 h0 F => ?_) (fun _ _ w => rx_I w)
  refine wp_if_ne rfl rfl rfl rfl (fun c => ?_) (fun c => ?_)
  · replace F := F.1 c
    refine wp_const rfl rfl ?_
    exact wp_retI rfl (Or.inr rfl) F
  · replace F := F.2 c
    refine wp_aload' (L' := [some (vR a0), none, none]) rfl rfl rfl rfl ?_
    obtain ⟨f2, F⟩ := F
    refine wp_getI rfl rfl rfl f2 rfl ?_
    replace F := F _ rfl
    generalize (gI h0 a0 3 : Int32) = v0 at F ⊢
    refine wp_istore (L2 := [some (vR a0), some (vI v0), none]) rfl rfl rfl rfl ?_
    refine wp_aload rfl rfl rfl ?_
    refine wp_getR rfl rfl rfl f2 rfl ?_
    obtain ⟨f3, F⟩ := F
    refine wp_getI rfl rfl rfl f3 rfl ?_
    replace F := F _ rfl
    generalize (gI h0 (gR h0 a0 0) 4 : Int32) = v1 at F ⊢
    refine wp_istore (L2 := [some (vR a0), some (vI v0), some (vI v1)]) rfl rfl rfl rfl ?_
    refine wp_aload rfl rfl rfl ?_
    refine wp_callI rfl rfl rfl (rcv_v f0 f2 (by decide) (by decide)) rfl rfl rfl rfl ?_
    refine CI.mono F (fun y1 h1 F => ?_) (fun _ _ w => rx_I w)
    refine wp_if_ne rfl rfl rfl rfl (fun c => ?_) (fun c => ?_)
    · replace F := F.1 c
      refine wp_const rfl rfl ?_
      exact wp_retI rfl (Or.inr rfl) F
    · replace F := F.2 c
      refine wp_aload rfl rfl rfl ?_
      obtain ⟨f4, F⟩ := F
      refine wp_getI rfl rfl rfl f4 rfl ?_
      refine wp_iload rfl rfl rfl ?_
      refine wp_icmp_ge rfl rfl rfl rfl rfl (fun c => ?_) (fun c => ?_)
      · replace F := F.1 c
        refine wp_aload rfl rfl rfl ?_
        refine wp_iload rfl rfl rfl ?_
        refine wp_callI rfl rfl rfl (rcv_v f0 f4 (by decide) (by decide)) rfl rfl rfl rfl ?_
        refine CI.mono F (fun y2 h2 F => ?_) (fun _ _ w => rx_I w)
        exact wp_retI rfl (Or.inr F.1) F.2
      · replace F := F.2 c
        refine wp_aload' (L' := [some (vR a0), some (vI v0), none]) rfl rfl rfl rfl ?_
        refine wp_getR rfl rfl rfl f4 rfl ?_
        refine wp_iload rfl rfl rfl ?_
        refine wp_aload rfl rfl rfl ?_
        refine wp_getI rfl rfl rfl f4 rfl ?_
        obtain ⟨f5, F⟩ := F
        obtain ⟨f6, F⟩ := F
        refine wp_callV rfl rfl rfl (rcv_v f5 f6 (by decide) (by decide)) rfl rfl rfl rfl ?_
        refine CV.mono F (fun h3 F => ?_) (fun _ _ w => rx_I w)
        refine wp_const rfl rfl ?_
        exact wp_retI rfl (Or.inr rfl) F
-- CensusOffice$Form write (II)V
theorem m83 {d : Nat} {a0 : Nat} {a1 : Int32} {a2 : Int32} {h : aH} {K : aH → Prop} {X : Nat → aH → Prop} (F : gK h a0 = 3 ∧ (100 ≤ gK h (gR h a0 0) ∧ gK h (gR h a0 0) ≤ 106) ∧ (((gI h a0 10).toInt < (nI (gL h (gR h a0 0))).toInt → 8 ≤ (gR h a0 0) ∧ ∃ i0 : Nat, inB h 100 (gR h a0 0) (gI h a0 10) i0 ∧ ∀ h0 : aH, h0 = pI h (gR h a0 0) i0 a1 → 8 ≤ (gR h0 a0 1) ∧ ∃ i1 : Nat, inB h0 100 (gR h0 a0 1) (gI h0 a0 10) i1 ∧ ∀ h1 : aH, h1 = pI h0 (gR h0 a0 1) i1 a2 → 8 ≤ a0 ∧ ∀ h2 : aH, h2 = pI h1 a0 10 ((gI h1 a0 10) + 1) → K h2) ∧ (¬ (gI h a0 10).toInt < (nI (gL h (gR h a0 0))).toInt → K h))) : CV d 83 [vR a0, vI a1, vI a2] h K X := by
  show Wp d 83 (0, [some (vR a0), some (vI a1), some (vI a2)], [], h) (RV K X)
  refine wp_aload rfl rfl rfl ?_
  obtain ⟨f0, F⟩ := F
  refine wp_getI rfl rfl rfl f0 rfl ?_
  refine wp_aload rfl rfl rfl ?_
  refine wp_getR rfl rfl rfl f0 rfl ?_
  obtain ⟨f1, F⟩ := F
  refine wp_alen rfl f1 rfl ?_
  refine wp_icmp_ge rfl rfl rfl rfl rfl (fun c => ?_) (fun c => ?_)
  · replace F := F.1 c
    refine wp_aload rfl rfl rfl ?_
    refine wp_getR rfl rfl rfl f0 rfl ?_
    refine wp_aload rfl rfl rfl ?_
    refine wp_getI rfl rfl rfl f0 rfl ?_
    refine wp_iload rfl rfl rfl ?_
    obtain ⟨f2, F⟩ := F
    obtain ⟨i0, b9, F⟩ := F
    refine wp_iastore rfl f2 b9 rfl ?_
    have f3 : gK (pI h (gR h a0 0) i0 a1) a0 = 3 := (gK_pI _ _ _ _ _).trans f0
    replace F := F _ rfl
    generalize pI h (gR h a0 0) i0 a1 = h0 at F f3 ⊢
    refine wp_aload rfl rfl rfl ?_
    refine wp_getR rfl rfl rfl f3 rfl ?_
    refine wp_aload rfl rfl rfl ?_
    refine wp_getI rfl rfl rfl f3 rfl ?_
    refine wp_iload rfl rfl rfl ?_
    obtain ⟨f4, F⟩ := F
    obtain ⟨i1, b9, F⟩ := F
    refine wp_iastore rfl f4 b9 rfl ?_
    have f5 : gK (pI h0 (gR h0 a0 1) i1 a2) a0 = 3 := (gK_pI _ _ _ _ _).trans f3
    replace F := F _ rfl
    generalize pI h0 (gR h0 a0 1) i1 a2 = h1 at F f5 ⊢
    refine wp_aload rfl rfl rfl ?_
    refine wp_dup rfl rfl rfl ?_
    refine wp_getI rfl rfl rfl f5 rfl ?_
    refine wp_const rfl rfl ?_
    refine wp_iadd rfl rfl ?_
    obtain ⟨f6, F⟩ := F
    refine wp_putI rfl rfl rfl f6 f5 rfl ?_
    have f7 : gK (pI h1 a0 10 ((gI h1 a0 10) + 1)) a0 = 3 := (gK_pI _ _ _ _ _).trans f5
    replace F := F _ rfl
    generalize pI h1 a0 10 ((gI h1 a0 10) + 1) = h2 at F f7 ⊢
    exact wp_retV rfl F
  · replace F := F.2 c
    exact wp_retV rfl F
-- CensusOffice$Reader readTerm (I)Z
theorem m84 {d : Nat} {a0 : Nat} {a1 : Int32} {h : aH} {K : Int32 → aH → Prop} {X : Nat → aH → Prop} (F : gK h a0 = 4 ∧ gK h (gR h a0 0) = 12 ∧ (((gI h (gR h a0 0) 3).toInt = 0 → 8 ≤ (gR h a0 1) ∧ gK h (gR h a0 1) = 3 ∧ CI d 78 [vR (gR h a0 1), vL (gJ h (gR h a0 0) 6)] h (fun y0 h0 => Wp (d + 1) 84 (30, [some (vR a0), some (vI a1), some (vI 1), none, none], [vI y0], h0) (RI K X)) X) ∧ (¬ (gI h (gR h a0 0) 3).toInt = 0 → Wp (d + 1) 84 (30, [some (vR a0), some (vI a1), some (vI 1), none, none], [vI (-1)], h) (RI K X)))) : CI (d + 1) 84 [vR a0, vI a1] h K X := by
  show Wp (d + 1) 84 (0, [some (vR a0), some (vI a1), none, none, none], [], h) (RI K X)
  refine wp_const rfl rfl ?_
  refine wp_istore (L2 := [some (vR a0), some (vI a1), some (vI 1), none, none]) rfl rfl rfl rfl ?_
  refine wp_aload rfl rfl rfl ?_
  obtain ⟨f0, F⟩ := F
  refine wp_getR rfl rfl rfl f0 rfl ?_
  obtain ⟨f1, F⟩ := F
  refine wp_getI rfl rfl rfl f1 rfl ?_
  refine wp_if_ne rfl rfl rfl rfl (fun c => ?_) (fun c => ?_)
  · replace F := F.1 c
    refine wp_aload rfl rfl rfl ?_
    refine wp_getR rfl rfl rfl f0 rfl ?_
    refine wp_aload rfl rfl rfl ?_
    refine wp_getR rfl rfl rfl f0 rfl ?_
    refine wp_getJ rfl rfl rfl f1 rfl ?_
    obtain ⟨f2, F⟩ := F
    obtain ⟨f3, F⟩ := F
    refine wp_callI rfl rfl rfl (rcv_v f2 f3 (by decide) (by decide)) rfl rfl rfl rfl ?_
    refine CI.mono F (fun y0 h0 F => ?_) (fun _ _ w => rx_I w)
    refine wp_goto rfl rfl ?_
    exact F
  · replace F := F.2 c
    refine wp_const' (L' := [some (vR a0), some (vI a1), some (vI 1), none, none]) rfl rfl rfl ?_
    exact F
theorem w84_30 {d : Nat} {l0 : Nat} {l1 : Int32} {l2 : Int32} {s0 : Int32} {h : aH} {K : Int32 → aH → Prop} {X : Nat → aH → Prop} (F : gK h l0 = 4 ∧ gK h (gR h l0 0) = 12 ∧ (((gI h (gR h l0 0) 3).toInt = 1 → ∀ v0 : Int32, v0 = l1 * (gI h (gR h l0 0) 5) → Wp (d + 1) 84 (163, [some (vR l0), some (vI l1), some (vI 0), some (vI v0), none], [], h) (RI K X)) ∧ (¬ (gI h (gR h l0 0) 3).toInt = 1 → (((gI h (gR h l0 0) 3).toInt = 4 → 8 ≤ (gR h l0 0) ∧ CV d 71 [vR (gR h l0 0)] h (fun h0 => gK h0 l0 = 4 ∧ gK h0 (gR h0 l0 0) = 12 ∧ (((gI h0 (gR h0 l0 0) 3).toInt = 1 → ∀ v1 : Int32, v1 = (-l1) * (gI h0 (gR h0 l0 0) 5) → Wp (d + 1) 84 (163, [some (vR l0), some (vI l1), some (vI 0), some (vI v1), none], [], h0) (RI K X)) ∧ (¬ (gI h0 (gR h0 l0 0) 3).toInt = 1 → Wp (d + 1) 84 (163, [some (vR l0), some (vI l1), some (vI 0), some (vI (-1)), none], [], h0) (RI K X)))) X) ∧ (¬ (gI h (gR h l0 0) 3).toInt = 4 → 8 ≤ (gR h l0 0) ∧ CI d 73 [vR (gR h l0 0), vL 7497063] h (fun y0 h1 => ((y0.toInt = 0 → Wp (d + 1) 84 (163, [some (vR l0), some (vI l1), some (vI l2), some (vI s0), none], [], h1) (RI K X)) ∧ (¬ y0.toInt = 0 → gK h1 l0 = 4 ∧ 8 ≤ (gR h1 l0 0) ∧ gK h1 (gR h1 l0 0) = 12 ∧ CV d 71 [vR (gR h1 l0 0)] h1 (fun h2 => gK h2 l0 = 4 ∧ gK h2 (gR h2 l0 0) = 12 ∧ (((gI h2 (gR h2 l0 0) 3).toInt = 1 → (((gI h2 (gR h2 l0 0) 5).toInt < 6 → ∀ v2 : Int32, v2 = gI h2 (gR h2 l0 0) 5 → Wp (d + 1) 84 (163, [some (vR l0), some (vI l1), some (vI 2), some (vI v2), none], [], h2) (RI K X)) ∧ (¬ (gI h2 (gR h2 l0 0) 5).toInt < 6 → Wp (d + 1) 84 (163, [some (vR l0), some (vI l1), some (vI 2), some (vI (-1)), none], [], h2) (RI K X)))) ∧ (¬ (gI h2 (gR h2 l0 0) 3).toInt = 1 → Wp (d + 1) 84 (163, [some (vR l0), some (vI l1), some (vI 2), some (vI (-1)), none], [], h2) (RI K X)))) X))) X))))) : Wp (d + 1) 84 (30, [some (vR l0), some (vI l1), some (vI l2), none, none], [vI s0], h) (RI K X) := by
  refine wp_istore' (L' := [some (vR l0), some (vI l1), some (vI l2), none, none]) (L2 := [some (vR l0), some (vI l1), some (vI l2), some (vI s0), none]) rfl rfl rfl rfl rfl ?_
  refine wp_aload rfl rfl rfl ?_
  obtain ⟨f0, F⟩ := F
  refine wp_getR rfl rfl rfl f0 rfl ?_
  obtain ⟨f1, F⟩ := F
  refine wp_getI rfl rfl rfl f1 rfl ?_
  refine wp_const rfl rfl ?_
  refine wp_icmp_ne (Y := 1) rfl rfl rfl rfl rfl (fun c => ?_) (fun c => ?_)
  · replace F := F.1 c
    refine wp_const rfl rfl ?_
    refine wp_istore (L2 := [some (vR l0), some (vI l1), some (vI 0), some (vI s0), none]) rfl rfl rfl rfl ?_
    refine wp_iload rfl rfl rfl ?_
    refine wp_aload rfl rfl rfl ?_
    refine wp_getR rfl rfl rfl f0 rfl ?_
    refine wp_getI rfl rfl rfl f1 rfl ?_
    refine wp_imul rfl rfl ?_
    replace F := F _ rfl
    generalize (l1 * (gI h (gR h l0 0) 5) : Int32) = v0 at F ⊢
    refine wp_istore (L2 := [some (vR l0), some (vI l1), some (vI 0), some (vI v0), none]) rfl rfl rfl rfl ?_
    refine wp_goto rfl rfl ?_
    exact F
  · replace F := F.2 c
    refine wp_aload' (L' := [some (vR l0), some (vI l1), some (vI l2), some (vI s0), none]) rfl rfl rfl rfl ?_
    refine wp_getR rfl rfl rfl f0 rfl ?_
    refine wp_getI rfl rfl rfl f1 rfl ?_
    refine wp_const rfl rfl ?_
    refine wp_icmp_ne (Y := 4) rfl rfl rfl rfl rfl (fun c => ?_) (fun c => ?_)
    · replace F := F.1 c
      refine wp_const rfl rfl ?_
      refine wp_istore (L2 := [some (vR l0), some (vI l1), some (vI 0), some (vI s0), none]) rfl rfl rfl rfl ?_
      refine wp_aload rfl rfl rfl ?_
      refine wp_getR rfl rfl rfl f0 rfl ?_
      obtain ⟨f2, F⟩ := F
      refine wp_callV rfl rfl rfl (rcv_v f2 f1 (by decide) (by decide)) rfl rfl rfl rfl ?_
      refine CV.mono F (fun h0 F => ?_) (fun _ _ w => rx_I w)
      refine wp_aload rfl rfl rfl ?_
      obtain ⟨f3, F⟩ := F
      refine wp_getR rfl rfl rfl f3 rfl ?_
      obtain ⟨f4, F⟩ := F
      refine wp_getI rfl rfl rfl f4 rfl ?_
      refine wp_const rfl rfl ?_
      refine wp_icmp_ne (Y := 1) rfl rfl rfl rfl rfl (fun c => ?_) (fun c => ?_)
      · replace F := F.1 c
        refine wp_iload rfl rfl rfl ?_
        refine wp_ineg rfl rfl ?_
        refine wp_aload rfl rfl rfl ?_
        refine wp_getR rfl rfl rfl f3 rfl ?_
        refine wp_getI rfl rfl rfl f4 rfl ?_
        refine wp_imul rfl rfl ?_
        refine wp_goto rfl rfl ?_
        replace F := F _ rfl
        generalize ((-l1) * (gI h0 (gR h0 l0 0) 5) : Int32) = v1 at F ⊢
        refine wp_istore' (L' := [some (vR l0), some (vI l1), some (vI 0), none, none]) (L2 := [some (vR l0), some (vI l1), some (vI 0), some (vI v1), none]) rfl rfl rfl rfl rfl ?_
        refine wp_goto rfl rfl ?_
        exact F
      · replace F := F.2 c
        refine wp_const' (L' := [some (vR l0), some (vI l1), some (vI 0), none, none]) rfl rfl rfl ?_
        refine wp_istore' (L' := [some (vR l0), some (vI l1), some (vI 0), none, none]) (L2 := [some (vR l0), some (vI l1), some (vI 0), some (vI (-1)), none]) rfl rfl rfl rfl rfl ?_
        refine wp_goto rfl rfl ?_
        exact F
    · replace F := F.2 c
      refine wp_aload' (L' := [some (vR l0), some (vI l1), some (vI l2), some (vI s0), none]) rfl rfl rfl rfl ?_
      refine wp_getR rfl rfl rfl f0 rfl ?_
      refine wp_const rfl rfl ?_
      obtain ⟨f5, F⟩ := F
      refine wp_callI rfl rfl rfl (rcv_v f5 f1 (by decide) (by decide)) rfl rfl rfl rfl ?_
      refine CI.mono F (fun y0 h1 F => ?_) (fun _ _ w => rx_I w)
      refine wp_if_eq rfl rfl rfl rfl (fun c => ?_) (fun c => ?_)
      · replace F := F.1 c
        exact F
      · replace F := F.2 c
        refine wp_const rfl rfl ?_
        refine wp_istore (L2 := [some (vR l0), some (vI l1), some (vI 2), some (vI s0), none]) rfl rfl rfl rfl ?_
        refine wp_aload rfl rfl rfl ?_
        obtain ⟨f6, F⟩ := F
        refine wp_getR rfl rfl rfl f6 rfl ?_
        obtain ⟨f7, F⟩ := F
        obtain ⟨f8, F⟩ := F
        refine wp_callV rfl rfl rfl (rcv_v f7 f8 (by decide) (by decide)) rfl rfl rfl rfl ?_
        refine CV.mono F (fun h2 F => ?_) (fun _ _ w => rx_I w)
        refine wp_aload rfl rfl rfl ?_
        obtain ⟨f9, F⟩ := F
        refine wp_getR rfl rfl rfl f9 rfl ?_
        obtain ⟨f10, F⟩ := F
        refine wp_getI rfl rfl rfl f10 rfl ?_
        refine wp_const rfl rfl ?_
        refine wp_icmp_ne (Y := 1) rfl rfl rfl rfl rfl (fun c => ?_) (fun c => ?_)
        · replace F := F.1 c
          refine wp_aload rfl rfl rfl ?_
          refine wp_getR rfl rfl rfl f9 rfl ?_
          refine wp_getI rfl rfl rfl f10 rfl ?_
          refine wp_const rfl rfl ?_
          refine wp_icmp_ge (Y := 6) rfl rfl rfl rfl rfl (fun c => ?_) (fun c => ?_)
          · replace F := F.1 c
            refine wp_aload rfl rfl rfl ?_
            refine wp_getR rfl rfl rfl f9 rfl ?_
            refine wp_getI rfl rfl rfl f10 rfl ?_
            refine wp_goto rfl rfl ?_
            replace F := F _ rfl
            generalize (gI h2 (gR h2 l0 0) 5 : Int32) = v2 at F ⊢
            refine wp_istore' (L' := [some (vR l0), some (vI l1), some (vI 2), none, none]) (L2 := [some (vR l0), some (vI l1), some (vI 2), some (vI v2), none]) rfl rfl rfl rfl rfl ?_
            exact F
          · replace F := F.2 c
            refine wp_const' (L' := [some (vR l0), some (vI l1), some (vI 2), none, none]) rfl rfl rfl ?_
            refine wp_istore' (L' := [some (vR l0), some (vI l1), some (vI 2), none, none]) (L2 := [some (vR l0), some (vI l1), some (vI 2), some (vI (-1)), none]) rfl rfl rfl rfl rfl ?_
            exact F
        · replace F := F.2 c
          refine wp_const' (L' := [some (vR l0), some (vI l1), some (vI 2), none, none]) rfl rfl rfl ?_
          refine wp_istore' (L' := [some (vR l0), some (vI l1), some (vI 2), none, none]) (L2 := [some (vR l0), some (vI l1), some (vI 2), some (vI (-1)), none]) rfl rfl rfl rfl rfl ?_
          exact F
theorem w84_163 {d : Nat} {l0 : Nat} {l1 : Int32} {l2 : Int32} {l3 : Int32} {h : aH} {K : Int32 → aH → Prop} {X : Nat → aH → Prop} (F : ((l2.toInt = 0 → gK h l0 = 4 ∧ gK h (gR h l0 0) = 12 ∧ (((gI h (gR h l0 0) 3).toInt = 1 → Wp (d + 1) 84 (196, [some (vR l0), some (vI l1), some (vI l2), some (vI l3), none], [vI 1], h) (RI K X)) ∧ (¬ (gI h (gR h l0 0) 3).toInt = 1 → Wp (d + 1) 84 (196, [some (vR l0), some (vI l1), some (vI l2), some (vI l3), none], [vI 0], h) (RI K X)))) ∧ (¬ l2.toInt = 0 → ((l3.toInt = (-1) → Wp (d + 1) 84 (196, [some (vR l0), some (vI l1), some (vI l2), some (vI l3), none], [vI 0], h) (RI K X)) ∧ (¬ l3.toInt = (-1) → Wp (d + 1) 84 (196, [some (vR l0), some (vI l1), some (vI l2), some (vI l3), none], [vI 1], h) (RI K X)))))) : Wp (d + 1) 84 (163, [some (vR l0), some (vI l1), some (vI l2), some (vI l3), none], [], h) (RI K X) := by
  refine wp_iload' (L' := [some (vR l0), some (vI l1), some (vI l2), some (vI l3), none]) rfl rfl rfl rfl ?_
  refine wp_if_ne rfl rfl rfl rfl (fun c => ?_) (fun c => ?_)
  · replace F := F.1 c
    refine wp_aload rfl rfl rfl ?_
    obtain ⟨f0, F⟩ := F
    refine wp_getR rfl rfl rfl f0 rfl ?_
    obtain ⟨f1, F⟩ := F
    refine wp_getI rfl rfl rfl f1 rfl ?_
    refine wp_const rfl rfl ?_
    refine wp_icmp_ne (Y := 1) rfl rfl rfl rfl rfl (fun c => ?_) (fun c => ?_)
    · replace F := F.1 c
      refine wp_const rfl rfl ?_
      refine wp_goto rfl rfl ?_
      exact F
    · replace F := F.2 c
      refine wp_const' (L' := [some (vR l0), some (vI l1), some (vI l2), some (vI l3), none]) rfl rfl rfl ?_
      refine wp_goto rfl rfl ?_
      exact F
  · replace F := F.2 c
    refine wp_iload' (L' := [some (vR l0), some (vI l1), some (vI l2), some (vI l3), none]) rfl rfl rfl rfl ?_
    refine wp_const rfl rfl ?_
    refine wp_icmp_eq (Y := (-1)) rfl rfl rfl rfl rfl (fun c => ?_) (fun c => ?_)
    · replace F := F.1 c
      refine wp_const' (L' := [some (vR l0), some (vI l1), some (vI l2), some (vI l3), none]) rfl rfl rfl ?_
      exact F
    · replace F := F.2 c
      refine wp_const rfl rfl ?_
      refine wp_goto rfl rfl ?_
      exact F
theorem w84_196 {d : Nat} {l0 : Nat} {l1 : Int32} {l2 : Int32} {l3 : Int32} {s0 : Int32} {h : aH} {K : Int32 → aH → Prop} {X : Nat → aH → Prop} (F : ((s0.toInt = 0 → gK h l0 = 4 ∧ gK h (gR h l0 0) = 12 ∧ 8 ≤ l0 ∧ CI d 75 [vR l0, vI (gI h (gR h l0 0) 4)] h (fun y0 h0 => y0 &&& 1 = y0 ∧ K y0 h0) X) ∧ (¬ s0.toInt = 0 → gK h l0 = 4 ∧ ((l2.toInt = 0 → 8 ≤ (gR h l0 1) ∧ gK h (gR h l0 1) = 3 ∧ CV d 83 [vR (gR h l0 1), vI l2, vI l3] h (fun h1 => gK h1 l0 = 4 ∧ 8 ≤ (gR h1 l0 0) ∧ gK h1 (gR h1 l0 0) = 12 ∧ CV d 71 [vR (gR h1 l0 0)] h1 (fun h2 => K 1 h2) X) X) ∧ (¬ l2.toInt = 0 → ((0 < l1.toInt → 8 ≤ (gR h l0 1) ∧ gK h (gR h l0 1) = 3 ∧ CV d 83 [vR (gR h l0 1), vI l2, vI l3] h (fun h3 => gK h3 l0 = 4 ∧ 8 ≤ (gR h3 l0 0) ∧ gK h3 (gR h3 l0 0) = 12 ∧ CV d 71 [vR (gR h3 l0 0)] h3 (fun h4 => K 1 h4) X) X) ∧ (¬ 0 < l1.toInt → 8 ≤ (gR h l0 1) ∧ gK h (gR h l0 1) = 3 ∧ CV d 83 [vR (gR h l0 1), vI (l2 + 2), vI l3] h (fun h5 => gK h5 l0 = 4 ∧ 8 ≤ (gR h5 l0 0) ∧ gK h5 (gR h5 l0 0) = 12 ∧ CV d 71 [vR (gR h5 l0 0)] h5 (fun h6 => K 1 h6) X) X))))))) : Wp (d + 1) 84 (196, [some (vR l0), some (vI l1), some (vI l2), some (vI l3), none], [vI s0], h) (RI K X) := by
  refine wp_istore' (L' := [some (vR l0), some (vI l1), some (vI l2), some (vI l3), none]) (L2 := [some (vR l0), some (vI l1), some (vI l2), some (vI l3), some (vI s0)]) rfl rfl rfl rfl rfl ?_
  refine wp_iload rfl rfl rfl ?_
  refine wp_if_ne rfl rfl rfl rfl (fun c => ?_) (fun c => ?_)
  · replace F := F.1 c
    refine wp_aload rfl rfl rfl ?_
    refine wp_aload rfl rfl rfl ?_
    obtain ⟨f0, F⟩ := F
    refine wp_getR rfl rfl rfl f0 rfl ?_
    obtain ⟨f1, F⟩ := F
    refine wp_getI rfl rfl rfl f1 rfl ?_
    obtain ⟨f2, F⟩ := F
    refine wp_callI rfl rfl rfl (rcv_v f2 f0 (by decide) (by decide)) rfl rfl rfl rfl ?_
    refine CI.mono F (fun y0 h0 F => ?_) (fun _ _ w => rx_I w)
    exact wp_retI rfl (Or.inr F.1) F.2
  · replace F := F.2 c
    refine wp_aload' (L' := [some (vR l0), some (vI l1), some (vI l2), some (vI l3), none]) rfl rfl rfl rfl ?_
    obtain ⟨f3, F⟩ := F
    refine wp_getR rfl rfl rfl f3 rfl ?_
    refine wp_iload rfl rfl rfl ?_
    refine wp_if_eq rfl rfl rfl rfl (fun c => ?_) (fun c => ?_)
    · replace F := F.1 c
      refine wp_iload' (L' := [some (vR l0), none, some (vI l2), some (vI l3), none]) rfl rfl rfl rfl ?_
      refine wp_goto rfl rfl ?_
      refine wp_iload' (L' := [some (vR l0), none, none, some (vI l3), none]) rfl rfl rfl rfl ?_
      obtain ⟨f4, F⟩ := F
      obtain ⟨f5, F⟩ := F
      refine wp_callV rfl rfl rfl (rcv_v f4 f5 (by decide) (by decide)) rfl rfl rfl rfl ?_
      refine CV.mono F (fun h1 F => ?_) (fun _ _ w => rx_I w)
      refine wp_aload rfl rfl rfl ?_
      obtain ⟨f6, F⟩ := F
      refine wp_getR rfl rfl rfl f6 rfl ?_
      obtain ⟨f7, F⟩ := F
      obtain ⟨f8, F⟩ := F
      refine wp_callV rfl rfl rfl (rcv_v f7 f8 (by decide) (by decide)) rfl rfl rfl rfl ?_
      refine CV.mono F (fun h2 F => ?_) (fun _ _ w => rx_I w)
      refine wp_const rfl rfl ?_
      exact wp_retI rfl (Or.inr rfl) F
    · replace F := F.2 c
      refine wp_iload rfl rfl rfl ?_
      refine wp_if_le rfl rfl rfl rfl (fun c => ?_) (fun c => ?_)
      · replace F := F.1 c
        refine wp_iload' (L' := [some (vR l0), none, some (vI l2), some (vI l3), none]) rfl rfl rfl rfl ?_
        refine wp_goto rfl rfl ?_
        refine wp_iload' (L' := [some (vR l0), none, none, some (vI l3), none]) rfl rfl rfl rfl ?_
        obtain ⟨f9, F⟩ := F
        obtain ⟨f10, F⟩ := F
        refine wp_callV rfl rfl rfl (rcv_v f9 f10 (by decide) (by decide)) rfl rfl rfl rfl ?_
        refine CV.mono F (fun h3 F => ?_) (fun _ _ w => rx_I w)
        refine wp_aload rfl rfl rfl ?_
        obtain ⟨f11, F⟩ := F
        refine wp_getR rfl rfl rfl f11 rfl ?_
        obtain ⟨f12, F⟩ := F
        obtain ⟨f13, F⟩ := F
        refine wp_callV rfl rfl rfl (rcv_v f12 f13 (by decide) (by decide)) rfl rfl rfl rfl ?_
        refine CV.mono F (fun h4 F => ?_) (fun _ _ w => rx_I w)
        refine wp_const rfl rfl ?_
        exact wp_retI rfl (Or.inr rfl) F
      · replace F := F.2 c
        refine wp_iload' (L' := [some (vR l0), none, some (vI l2), some (vI l3), none]) rfl rfl rfl rfl ?_
        refine wp_const rfl rfl ?_
        refine wp_iadd rfl rfl ?_
        refine wp_iload' (L' := [some (vR l0), none, none, some (vI l3), none]) rfl rfl rfl rfl ?_
        obtain ⟨f14, F⟩ := F
        obtain ⟨f15, F⟩ := F
        refine wp_callV rfl rfl rfl (rcv_v f14 f15 (by decide) (by decide)) rfl rfl rfl rfl ?_
        refine CV.mono F (fun h5 F => ?_) (fun _ _ w => rx_I w)
        refine wp_aload rfl rfl rfl ?_
        obtain ⟨f16, F⟩ := F
        refine wp_getR rfl rfl rfl f16 rfl ?_
        obtain ⟨f17, F⟩ := F
        obtain ⟨f18, F⟩ := F
        refine wp_callV rfl rfl rfl (rcv_v f17 f18 (by decide) (by decide)) rfl rfl rfl rfl ?_
        refine CV.mono F (fun h6 F => ?_) (fun _ _ w => rx_I w)
        refine wp_const rfl rfl ?_
        exact wp_retI rfl (Or.inr rfl) F
-- CensusOffice$Reader readExpression ()Z
theorem m85 {d : Nat} {a0 : Nat} {h : aH} {K : Int32 → aH → Prop} {X : Nat → aH → Prop} (F : Wp (d + 1) 85 (4, [some (vR a0), some (vI 1), some (vI 0)], [], h) (RI K X)) : CI (d + 1) 85 [vR a0] h K X := by
  show Wp (d + 1) 85 (0, [some (vR a0), none, none], [], h) (RI K X)
  refine wp_const rfl rfl ?_
  refine wp_istore (L2 := [some (vR a0), some (vI 1), none]) rfl rfl rfl rfl ?_
  refine wp_const rfl rfl ?_
  refine wp_istore (L2 := [some (vR a0), some (vI 1), some (vI 0)]) rfl rfl rfl rfl ?_
  exact F
theorem w85_4 {d : Nat} {l0 : Nat} {l1 : Int32} {l2 : Int32} {h : aH} {K : Int32 → aH → Prop} {X : Nat → aH → Prop} (F : ((l2.toInt < 1200 → 8 ≤ l0 ∧ gK h l0 = 4 ∧ CI d 84 [vR l0, vI l1] h (fun y0 h0 => ((y0.toInt = 0 → K 0 h0) ∧ (¬ y0.toInt = 0 → gK h0 l0 = 4 ∧ gK h0 (gR h0 l0 0) = 12 ∧ (((gI h0 (gR h0 l0 0) 3).toInt = 3 → (((gI h0 (gR h0 l0 0) 3).toInt = 3 → 8 ≤ (gR h0 l0 0) ∧ CV d 71 [vR (gR h0 l0 0)] h0 (fun h1 => ∀ v0 : Int32, v0 = l2 + 1 → Wp (d + 1) 85 (4, [some (vR l0), some (vI 1), some (vI v0)], [], h1) (RI K X)) X) ∧ (¬ (gI h0 (gR h0 l0 0) 3).toInt = 3 → 8 ≤ (gR h0 l0 0) ∧ CV d 71 [vR (gR h0 l0 0)] h0 (fun h2 => ∀ v1 : Int32, v1 = l2 + 1 → Wp (d + 1) 85 (4, [some (vR l0), some (vI (-1)), some (vI v1)], [], h2) (RI K X)) X))) ∧ (¬ (gI h0 (gR h0 l0 0) 3).toInt = 3 → (((gI h0 (gR h0 l0 0) 3).toInt = 4 → (((gI h0 (gR h0 l0 0) 3).toInt = 3 → 8 ≤ (gR h0 l0 0) ∧ CV d 71 [vR (gR h0 l0 0)] h0 (fun h3 => ∀ v2 : Int32, v2 = l2 + 1 → Wp (d + 1) 85 (4, [some (vR l0), some (vI 1), some (vI v2)], [], h3) (RI K X)) X) ∧ (¬ (gI h0 (gR h0 l0 0) 3).toInt = 3 → 8 ≤ (gR h0 l0 0) ∧ CV d 71 [vR (gR h0 l0 0)] h0 (fun h4 => ∀ v3 : Int32, v3 = l2 + 1 → Wp (d + 1) 85 (4, [some (vR l0), some (vI (-1)), some (vI v3)], [], h4) (RI K X)) X))) ∧ (¬ (gI h0 (gR h0 l0 0) 3).toInt = 4 → K 1 h0))))))) X) ∧ (¬ l2.toInt < 1200 → gK h l0 = 4 ∧ gK h (gR h l0 0) = 12 ∧ 8 ≤ l0 ∧ CI d 75 [vR l0, vI (gI h (gR h l0 0) 4)] h (fun y1 h5 => y1 &&& 1 = y1 ∧ K y1 h5) X))) : Wp (d + 1) 85 (4, [some (vR l0), some (vI l1), some (vI l2)], [], h) (RI K X) := by
  refine wp_iload rfl rfl rfl ?_
  refine wp_const rfl rfl ?_
  refine wp_icmp_ge (Y := 1200) rfl rfl rfl rfl rfl (fun c => ?_) (fun c => ?_)
  · replace F := F.1 c
    refine wp_aload rfl rfl rfl ?_
    refine wp_iload rfl rfl rfl ?_
    obtain ⟨f0, F⟩ := F
    obtain ⟨f1, F⟩ := F
    refine wp_callI rfl rfl rfl (rcv_v f0 f1 (by decide) (by decide)) rfl rfl rfl rfl ?_
    refine CI.mono F (fun y0 h0 F => ?_) (fun _ _ w => rx_I w)
    refine wp_if_ne rfl rfl rfl rfl (fun c => ?_) (fun c => ?_)
    · replace F := F.1 c
      refine wp_const rfl rfl ?_
      exact wp_retI rfl (Or.inr rfl) F
    · replace F := F.2 c
      refine wp_aload' (L' := [some (vR l0), none, some (vI l2)]) rfl rfl rfl rfl ?_
      obtain ⟨f2, F⟩ := F
      refine wp_getR rfl rfl rfl f2 rfl ?_
      obtain ⟨f3, F⟩ := F
      refine wp_getI rfl rfl rfl f3 rfl ?_
      refine wp_const rfl rfl ?_
      refine wp_icmp_eq (Y := 3) rfl rfl rfl rfl rfl (fun c => ?_) (fun c => ?_)
      · replace F := F.1 c
        refine wp_aload' (L' := [some (vR l0), none, some (vI l2)]) rfl rfl rfl rfl ?_
        refine wp_getR rfl rfl rfl f2 rfl ?_
        refine wp_getI rfl rfl rfl f3 rfl ?_
        refine wp_const rfl rfl ?_
        refine wp_icmp_ne (Y := 3) rfl rfl rfl rfl rfl (fun c => ?_) (fun c => ?_)
        · replace F := F.1 c
          refine wp_const rfl rfl ?_
          refine wp_goto rfl rfl ?_
          refine wp_istore' (L' := [some (vR l0), none, some (vI l2)]) (L2 := [some (vR l0), some (vI 1), some (vI l2)]) rfl rfl rfl rfl rfl ?_
          refine wp_aload rfl rfl rfl ?_
          refine wp_getR rfl rfl rfl f2 rfl ?_
          obtain ⟨f4, F⟩ := F
          refine wp_callV rfl rfl rfl (rcv_v f4 f3 (by decide) (by decide)) rfl rfl rfl rfl ?_
          refine CV.mono F (fun h1 F => ?_) (fun _ _ w => rx_I w)
          refine wp_iinc (y := 1) (L2 := [some (vR l0), some (vI 1), some (vI (l2 + 1))]) rfl rfl rfl rfl rfl ?_
          replace F := F _ rfl
          generalize (l2 + 1 : Int32) = v0 at F ⊢
          refine wp_goto rfl rfl ?_
          exact F
        · replace F := F.2 c
          refine wp_const' (L' := [some (vR l0), none, some (vI l2)]) rfl rfl rfl ?_
          refine wp_istore' (L' := [some (vR l0), none, some (vI l2)]) (L2 := [some (vR l0), some (vI (-1)), some (vI l2)]) rfl rfl rfl rfl rfl ?_
          refine wp_aload rfl rfl rfl ?_
          refine wp_getR rfl rfl rfl f2 rfl ?_
          obtain ⟨f5, F⟩ := F
          refine wp_callV rfl rfl rfl (rcv_v f5 f3 (by decide) (by decide)) rfl rfl rfl rfl ?_
          refine CV.mono F (fun h2 F => ?_) (fun _ _ w => rx_I w)
          refine wp_iinc (y := 1) (L2 := [some (vR l0), some (vI (-1)), some (vI (l2 + 1))]) rfl rfl rfl rfl rfl ?_
          replace F := F _ rfl
          generalize (l2 + 1 : Int32) = v1 at F ⊢
          refine wp_goto rfl rfl ?_
          exact F
      · replace F := F.2 c
        refine wp_aload rfl rfl rfl ?_
        refine wp_getR rfl rfl rfl f2 rfl ?_
        refine wp_getI rfl rfl rfl f3 rfl ?_
        refine wp_const rfl rfl ?_
        refine wp_icmp_eq (Y := 4) rfl rfl rfl rfl rfl (fun c => ?_) (fun c => ?_)
        · replace F := F.1 c
          refine wp_aload' (L' := [some (vR l0), none, some (vI l2)]) rfl rfl rfl rfl ?_
          refine wp_getR rfl rfl rfl f2 rfl ?_
          refine wp_getI rfl rfl rfl f3 rfl ?_
          refine wp_const rfl rfl ?_
          refine wp_icmp_ne (Y := 3) rfl rfl rfl rfl rfl (fun c => ?_) (fun c => ?_)
          · replace F := F.1 c
            refine wp_const rfl rfl ?_
            refine wp_goto rfl rfl ?_
            refine wp_istore' (L' := [some (vR l0), none, some (vI l2)]) (L2 := [some (vR l0), some (vI 1), some (vI l2)]) rfl rfl rfl rfl rfl ?_
            refine wp_aload rfl rfl rfl ?_
            refine wp_getR rfl rfl rfl f2 rfl ?_
            obtain ⟨f6, F⟩ := F
            refine wp_callV rfl rfl rfl (rcv_v f6 f3 (by decide) (by decide)) rfl rfl rfl rfl ?_
            refine CV.mono F (fun h3 F => ?_) (fun _ _ w => rx_I w)
            refine wp_iinc (y := 1) (L2 := [some (vR l0), some (vI 1), some (vI (l2 + 1))]) rfl rfl rfl rfl rfl ?_
            replace F := F _ rfl
            generalize (l2 + 1 : Int32) = v2 at F ⊢
            refine wp_goto rfl rfl ?_
            exact F
          · replace F := F.2 c
            refine wp_const' (L' := [some (vR l0), none, some (vI l2)]) rfl rfl rfl ?_
            refine wp_istore' (L' := [some (vR l0), none, some (vI l2)]) (L2 := [some (vR l0), some (vI (-1)), some (vI l2)]) rfl rfl rfl rfl rfl ?_
            refine wp_aload rfl rfl rfl ?_
            refine wp_getR rfl rfl rfl f2 rfl ?_
            obtain ⟨f7, F⟩ := F
            refine wp_callV rfl rfl rfl (rcv_v f7 f3 (by decide) (by decide)) rfl rfl rfl rfl ?_
            refine CV.mono F (fun h4 F => ?_) (fun _ _ w => rx_I w)
            refine wp_iinc (y := 1) (L2 := [some (vR l0), some (vI (-1)), some (vI (l2 + 1))]) rfl rfl rfl rfl rfl ?_
            replace F := F _ rfl
            generalize (l2 + 1 : Int32) = v3 at F ⊢
            refine wp_goto rfl rfl ?_
            exact F
        · replace F := F.2 c
          refine wp_const rfl rfl ?_
          exact wp_retI rfl (Or.inr rfl) F
  · replace F := F.2 c
    refine wp_aload' (L' := [some (vR l0), none, none]) rfl rfl rfl rfl ?_
    refine wp_aload rfl rfl rfl ?_
    obtain ⟨f8, F⟩ := F
    refine wp_getR rfl rfl rfl f8 rfl ?_
    obtain ⟨f9, F⟩ := F
    refine wp_getI rfl rfl rfl f9 rfl ?_
    obtain ⟨f10, F⟩ := F
    refine wp_callI rfl rfl rfl (rcv_v f10 f8 (by decide) (by decide)) rfl rfl rfl rfl ?_
    refine CI.mono F (fun y1 h5 F => ?_) (fun _ _ w => rx_I w)
    exact wp_retI rfl (Or.inr F.1) F.2
-- CensusOffice$Form split ()V
theorem m86 {d : Nat} {a0 : Nat} {h : aH} {K : aH → Prop} {X : Nat → aH → Prop} (F : gK h a0 = 3 ∧ (((gI h a0 11).toInt < 20 → 8 ≤ (gR h a0 8) ∧ ∃ i0 : Nat, inB h 100 (gR h a0 8) (gI h a0 11) i0 ∧ ∀ h0 : aH, h0 = pI h (gR h a0 8) i0 (gI h a0 10) → K h0) ∧ (¬ (gI h a0 11).toInt < 20 → K h))) : CV d 86 [vR a0] h K X := by
  show Wp d 86 (0, [some (vR a0)], [], h) (RV K X)
  refine wp_aload rfl rfl rfl ?_
  obtain ⟨f0, F⟩ := F
  refine wp_getI rfl rfl rfl f0 rfl ?_
  refine wp_const rfl rfl ?_
  refine wp_icmp_ge (Y := 20) rfl rfl rfl rfl rfl (fun c => ?_) (fun c => ?_)
  · replace F := F.1 c
    refine wp_aload rfl rfl rfl ?_
    refine wp_getR rfl rfl rfl f0 rfl ?_
    refine wp_aload rfl rfl rfl ?_
    refine wp_getI rfl rfl rfl f0 rfl ?_
    refine wp_aload rfl rfl rfl ?_
    refine wp_getI rfl rfl rfl f0 rfl ?_
    obtain ⟨f1, F⟩ := F
    obtain ⟨i0, b9, F⟩ := F
    refine wp_iastore rfl f1 b9 rfl ?_
    have f2 : gK (pI h (gR h a0 8) i0 (gI h a0 10)) a0 = 3 := (gK_pI _ _ _ _ _).trans f0
    replace F := F _ rfl
    generalize pI h (gR h a0 8) i0 (gI h a0 10) = h0 at F f2 ⊢
    exact wp_retV rfl F
  · replace F := F.2 c
    exact wp_retV rfl F
-- CensusOffice$Reader readCondition ()Z
theorem m87 {d : Nat} {a0 : Nat} {h : aH} {K : Int32 → aH → Prop} {X : Nat → aH → Prop} (F : Wp (d + 1) 87 (2, [some (vR a0), some (vI 0), none], [], h) (RI K X)) : CI (d + 1) 87 [vR a0] h K X := by
  show Wp (d + 1) 87 (0, [some (vR a0), none, none], [], h) (RI K X)
  refine wp_const rfl rfl ?_
  refine wp_istore (L2 := [some (vR a0), some (vI 0), none]) rfl rfl rfl rfl ?_
  exact F
theorem w87_2 {d : Nat} {l0 : Nat} {l1 : Int32} {h : aH} {K : Int32 → aH → Prop} {X : Nat → aH → Prop} (F : ((l1.toInt < 1200 → 8 ≤ l0 ∧ gK h l0 = 4 ∧ CI d 85 [vR l0] h (fun y0 h0 => ((y0.toInt = 0 → K 0 h0) ∧ (¬ y0.toInt = 0 → gK h0 l0 = 4 ∧ gK h0 (gR h0 l0 0) = 12 ∧ (((gI h0 (gR h0 l0 0) 3).toInt = 2 → 8 ≤ (gR h0 l0 1) ∧ gK h0 (gR h0 l0 1) = 3 ∧ CV d 83 [vR (gR h0 l0 1), vI 5, vI (gI h0 (gR h0 l0 0) 5)] h0 (fun h1 => gK h1 l0 = 4 ∧ 8 ≤ (gR h1 l0 0) ∧ gK h1 (gR h1 l0 0) = 12 ∧ CV d 71 [vR (gR h1 l0 0)] h1 (fun h2 => gK h2 l0 = 4 ∧ CI d 85 [vR l0] h2 (fun y1 h3 => ((y1.toInt = 0 → K 0 h3) ∧ (¬ y1.toInt = 0 → gK h3 l0 = 4 ∧ 8 ≤ (gR h3 l0 0) ∧ gK h3 (gR h3 l0 0) = 12 ∧ CI d 73 [vR (gR h3 l0 0), vL 6385252] h3 (fun y2 h4 => gK h4 l0 = 4 ∧ ((y2.toInt = 0 → Wp (d + 1) 87 (98, [some (vR l0), some (vI l1), some (vI y2)], [vI 7, vR (gR h4 l0 1)], h4) (RI K X)) ∧ (¬ y2.toInt = 0 → Wp (d + 1) 87 (98, [some (vR l0), some (vI l1), some (vI y2)], [vI 6, vR (gR h4 l0 1)], h4) (RI K X)))) X))) X) X) X) ∧ (¬ (gI h0 (gR h0 l0 0) 3).toInt = 2 → CI d 75 [vR l0, vI (gI h0 (gR h0 l0 0) 4)] h0 (fun y3 h5 => y3 &&& 1 = y3 ∧ K y3 h5) X))))) X) ∧ (¬ l1.toInt < 1200 → gK h l0 = 4 ∧ gK h (gR h l0 0) = 12 ∧ 8 ≤ l0 ∧ CI d 75 [vR l0, vI (gI h (gR h l0 0) 4)] h (fun y4 h6 => y4 &&& 1 = y4 ∧ K y4 h6) X))) : Wp (d + 1) 87 (2, [some (vR l0), some (vI l1), none], [], h) (RI K X) := by
  refine wp_iload' (L' := [some (vR l0), some (vI l1), none]) rfl rfl rfl rfl ?_
  refine wp_const rfl rfl ?_
  refine wp_icmp_ge (Y := 1200) rfl rfl rfl rfl rfl (fun c => ?_) (fun c => ?_)
  · replace F := F.1 c
    refine wp_aload rfl rfl rfl ?_
    obtain ⟨f0, F⟩ := F
    obtain ⟨f1, F⟩ := F
    refine wp_callI rfl rfl rfl (rcv_v f0 f1 (by decide) (by decide)) rfl rfl rfl rfl ?_
    refine CI.mono F (fun y0 h0 F => ?_) (fun _ _ w => rx_I w)
    refine wp_if_ne rfl rfl rfl rfl (fun c => ?_) (fun c => ?_)
    · replace F := F.1 c
      refine wp_const rfl rfl ?_
      exact wp_retI rfl (Or.inr rfl) F
    · replace F := F.2 c
      refine wp_aload' (L' := [some (vR l0), some (vI l1), none]) rfl rfl rfl rfl ?_
      obtain ⟨f2, F⟩ := F
      refine wp_getR rfl rfl rfl f2 rfl ?_
      obtain ⟨f3, F⟩ := F
      refine wp_getI rfl rfl rfl f3 rfl ?_
      refine wp_const rfl rfl ?_
      refine wp_icmp_eq (Y := 2) rfl rfl rfl rfl rfl (fun c => ?_) (fun c => ?_)
      · replace F := F.1 c
        refine wp_aload' (L' := [some (vR l0), some (vI l1), none]) rfl rfl rfl rfl ?_
        refine wp_getR rfl rfl rfl f2 rfl ?_
        refine wp_const rfl rfl ?_
        refine wp_aload rfl rfl rfl ?_
        refine wp_getR rfl rfl rfl f2 rfl ?_
        refine wp_getI rfl rfl rfl f3 rfl ?_
        obtain ⟨f4, F⟩ := F
        obtain ⟨f5, F⟩ := F
        refine wp_callV rfl rfl rfl (rcv_v f4 f5 (by decide) (by decide)) rfl rfl rfl rfl ?_
        refine CV.mono F (fun h1 F => ?_) (fun _ _ w => rx_I w)
        refine wp_aload rfl rfl rfl ?_
        obtain ⟨f6, F⟩ := F
        refine wp_getR rfl rfl rfl f6 rfl ?_
        obtain ⟨f7, F⟩ := F
        obtain ⟨f8, F⟩ := F
        refine wp_callV rfl rfl rfl (rcv_v f7 f8 (by decide) (by decide)) rfl rfl rfl rfl ?_
        refine CV.mono F (fun h2 F => ?_) (fun _ _ w => rx_I w)
        refine wp_aload rfl rfl rfl ?_
        obtain ⟨f9, F⟩ := F
        refine wp_callI rfl rfl rfl (rcv_v f0 f9 (by decide) (by decide)) rfl rfl rfl rfl ?_
        refine CI.mono F (fun y1 h3 F => ?_) (fun _ _ w => rx_I w)
        refine wp_if_ne rfl rfl rfl rfl (fun c => ?_) (fun c => ?_)
        · replace F := F.1 c
          refine wp_const rfl rfl ?_
          exact wp_retI rfl (Or.inr rfl) F
        · replace F := F.2 c
          refine wp_aload' (L' := [some (vR l0), some (vI l1), none]) rfl rfl rfl rfl ?_
          obtain ⟨f10, F⟩ := F
          refine wp_getR rfl rfl rfl f10 rfl ?_
          refine wp_const rfl rfl ?_
          obtain ⟨f11, F⟩ := F
          obtain ⟨f12, F⟩ := F
          refine wp_callI rfl rfl rfl (rcv_v f11 f12 (by decide) (by decide)) rfl rfl rfl rfl ?_
          refine CI.mono F (fun y2 h4 F => ?_) (fun _ _ w => rx_I w)
          refine wp_istore (L2 := [some (vR l0), some (vI l1), some (vI y2)]) rfl rfl rfl rfl ?_
          refine wp_aload rfl rfl rfl ?_
          obtain ⟨f13, F⟩ := F
          refine wp_getR rfl rfl rfl f13 rfl ?_
          refine wp_iload rfl rfl rfl ?_
          refine wp_if_eq rfl rfl rfl rfl (fun c => ?_) (fun c => ?_)
          · replace F := F.1 c
            refine wp_const rfl rfl ?_
            exact F
          · replace F := F.2 c
            refine wp_const rfl rfl ?_
            refine wp_goto rfl rfl ?_
            exact F
      · replace F := F.2 c
        refine wp_aload rfl rfl rfl ?_
        refine wp_aload rfl rfl rfl ?_
        refine wp_getR rfl rfl rfl f2 rfl ?_
        refine wp_getI rfl rfl rfl f3 rfl ?_
        refine wp_callI rfl rfl rfl (rcv_v f0 f2 (by decide) (by decide)) rfl rfl rfl rfl ?_
        refine CI.mono F (fun y3 h5 F => ?_) (fun _ _ w => rx_I w)
        exact wp_retI rfl (Or.inr F.1) F.2
  · replace F := F.2 c
    refine wp_aload' (L' := [some (vR l0), none, none]) rfl rfl rfl rfl ?_
    refine wp_aload rfl rfl rfl ?_
    obtain ⟨f14, F⟩ := F
    refine wp_getR rfl rfl rfl f14 rfl ?_
    obtain ⟨f15, F⟩ := F
    refine wp_getI rfl rfl rfl f15 rfl ?_
    obtain ⟨f16, F⟩ := F
    refine wp_callI rfl rfl rfl (rcv_v f16 f14 (by decide) (by decide)) rfl rfl rfl rfl ?_
    refine CI.mono F (fun y4 h6 F => ?_) (fun _ _ w => rx_I w)
    exact wp_retI rfl (Or.inr F.1) F.2
theorem w87_98 {d : Nat} {l0 : Nat} {l1 : Int32} {l2 : Int32} {s0 : Int32} {s1 : Nat} {h : aH} {K : Int32 → aH → Prop} {X : Nat → aH → Prop} (F : 8 ≤ s1 ∧ gK h s1 = 3 ∧ CV d 83 [vR s1, vI s0, vI 0] h (fun h0 => ((l2.toInt = 0 → gK h0 l0 = 4 ∧ 8 ≤ (gR h0 l0 0) ∧ gK h0 (gR h0 l0 0) = 12 ∧ CI d 73 [vR (gR h0 l0 0), vL 28530] h0 (fun y0 h1 => ((y0.toInt = 0 → K 1 h1) ∧ (¬ y0.toInt = 0 → gK h1 l0 = 4 ∧ 8 ≤ (gR h1 l0 0) ∧ gK h1 (gR h1 l0 0) = 12 ∧ CV d 71 [vR (gR h1 l0 0)] h1 (fun h2 => ∀ v0 : Int32, v0 = l1 + 1 → Wp (d + 1) 87 (2, [some (vR l0), some (vI v0), none], [], h2) (RI K X)) X))) X) ∧ (¬ l2.toInt = 0 → gK h0 l0 = 4 ∧ 8 ≤ (gR h0 l0 0) ∧ gK h0 (gR h0 l0 0) = 12 ∧ CV d 71 [vR (gR h0 l0 0)] h0 (fun h3 => ∀ v1 : Int32, v1 = l1 + 1 → Wp (d + 1) 87 (2, [some (vR l0), some (vI v1), none], [], h3) (RI K X)) X))) X) : Wp (d + 1) 87 (98, [some (vR l0), some (vI l1), some (vI l2)], [vI s0, vR s1], h) (RI K X) := by
  refine wp_const rfl rfl ?_
  obtain ⟨f0, F⟩ := F
  obtain ⟨f1, F⟩ := F
  refine wp_callV rfl rfl rfl (rcv_v f0 f1 (by decide) (by decide)) rfl rfl rfl rfl ?_
  refine CV.mono F (fun h0 F => ?_) (fun _ _ w => rx_I w)
  refine wp_iload rfl rfl rfl ?_
  refine wp_if_ne rfl rfl rfl rfl (fun c => ?_) (fun c => ?_)
  · replace F := F.1 c
    refine wp_aload rfl rfl rfl ?_
    obtain ⟨f2, F⟩ := F
    refine wp_getR rfl rfl rfl f2 rfl ?_
    refine wp_const rfl rfl ?_
    obtain ⟨f3, F⟩ := F
    obtain ⟨f4, F⟩ := F
    refine wp_callI rfl rfl rfl (rcv_v f3 f4 (by decide) (by decide)) rfl rfl rfl rfl ?_
    refine CI.mono F (fun y0 h1 F => ?_) (fun _ _ w => rx_I w)
    refine wp_if_ne rfl rfl rfl rfl (fun c => ?_) (fun c => ?_)
    · replace F := F.1 c
      refine wp_const rfl rfl ?_
      exact wp_retI rfl (Or.inr rfl) F
    · replace F := F.2 c
      refine wp_aload' (L' := [some (vR l0), some (vI l1), none]) rfl rfl rfl rfl ?_
      obtain ⟨f5, F⟩ := F
      refine wp_getR rfl rfl rfl f5 rfl ?_
      obtain ⟨f6, F⟩ := F
      obtain ⟨f7, F⟩ := F
      refine wp_callV rfl rfl rfl (rcv_v f6 f7 (by decide) (by decide)) rfl rfl rfl rfl ?_
      refine CV.mono F (fun h2 F => ?_) (fun _ _ w => rx_I w)
      refine wp_iinc (y := 1) (L2 := [some (vR l0), some (vI (l1 + 1)), none]) rfl rfl rfl rfl rfl ?_
      replace F := F _ rfl
      generalize (l1 + 1 : Int32) = v0 at F ⊢
      refine wp_goto rfl rfl ?_
      exact F
  · replace F := F.2 c
    refine wp_aload' (L' := [some (vR l0), some (vI l1), none]) rfl rfl rfl rfl ?_
    obtain ⟨f8, F⟩ := F
    refine wp_getR rfl rfl rfl f8 rfl ?_
    obtain ⟨f9, F⟩ := F
    obtain ⟨f10, F⟩ := F
    refine wp_callV rfl rfl rfl (rcv_v f9 f10 (by decide) (by decide)) rfl rfl rfl rfl ?_
    refine CV.mono F (fun h3 F => ?_) (fun _ _ w => rx_I w)
    refine wp_iinc (y := 1) (L2 := [some (vR l0), some (vI (l1 + 1)), none]) rfl rfl rfl rfl rfl ?_
    replace F := F _ rfl
    generalize (l1 + 1 : Int32) = v1 at F ⊢
    refine wp_goto rfl rfl ?_
    exact F
-- CensusOffice$Form finish (J)V
theorem m88 {d : Nat} {a0 : Nat} {a1 : Int64} {h : aH} {K : aH → Prop} {X : Nat → aH → Prop} (F : gK h a0 = 3 ∧ (((gI h a0 11).toInt < 20 → 8 ≤ (gR h a0 6) ∧ ∃ i0 : Nat, inB h 101 (gR h a0 6) (gI h a0 11) i0 ∧ ∀ h0 : aH, h0 = pJ h (gR h a0 6) i0 a1 → 8 ≤ a0 ∧ ∀ h1 : aH, h1 = pI h0 a0 11 ((gI h0 a0 11) + 1) → 8 ≤ (gR h1 a0 7) ∧ ∃ i1 : Nat, inB h1 100 (gR h1 a0 7) (gI h1 a0 11) i1 ∧ ∀ h2 : aH, h2 = pI h1 (gR h1 a0 7) i1 (gI h1 a0 10) → K h2) ∧ (¬ (gI h a0 11).toInt < 20 → K h))) : CV d 88 [vR a0, vL a1] h K X := by
  show Wp d 88 (0, [some (vR a0), some (vL a1), none], [], h) (RV K X)
  refine wp_aload rfl rfl rfl ?_
  obtain ⟨f0, F⟩ := F
  refine wp_getI rfl rfl rfl f0 rfl ?_
  refine wp_const rfl rfl ?_
  refine wp_icmp_ge (Y := 20) rfl rfl rfl rfl rfl (fun c => ?_) (fun c => ?_)
  · replace F := F.1 c
    refine wp_aload rfl rfl rfl ?_
    refine wp_getR rfl rfl rfl f0 rfl ?_
    refine wp_aload rfl rfl rfl ?_
    refine wp_getI rfl rfl rfl f0 rfl ?_
    refine wp_lload rfl rfl rfl ?_
    obtain ⟨f1, F⟩ := F
    obtain ⟨i0, b9, F⟩ := F
    refine wp_lastore rfl f1 b9 rfl ?_
    have f2 : gK (pJ h (gR h a0 6) i0 a1) a0 = 3 := (gK_pJ _ _ _ _ _).trans f0
    replace F := F _ rfl
    generalize pJ h (gR h a0 6) i0 a1 = h0 at F f2 ⊢
    refine wp_aload rfl rfl rfl ?_
    refine wp_dup rfl rfl rfl ?_
    refine wp_getI rfl rfl rfl f2 rfl ?_
    refine wp_const rfl rfl ?_
    refine wp_iadd rfl rfl ?_
    obtain ⟨f3, F⟩ := F
    refine wp_putI rfl rfl rfl f3 f2 rfl ?_
    have f4 : gK (pI h0 a0 11 ((gI h0 a0 11) + 1)) a0 = 3 := (gK_pI _ _ _ _ _).trans f2
    replace F := F _ rfl
    generalize pI h0 a0 11 ((gI h0 a0 11) + 1) = h1 at F f4 ⊢
    refine wp_aload rfl rfl rfl ?_
    refine wp_getR rfl rfl rfl f4 rfl ?_
    refine wp_aload rfl rfl rfl ?_
    refine wp_getI rfl rfl rfl f4 rfl ?_
    refine wp_aload rfl rfl rfl ?_
    refine wp_getI rfl rfl rfl f4 rfl ?_
    obtain ⟨f5, F⟩ := F
    obtain ⟨i1, b9, F⟩ := F
    refine wp_iastore rfl f5 b9 rfl ?_
    have f6 : gK (pI h1 (gR h1 a0 7) i1 (gI h1 a0 10)) a0 = 3 := (gK_pI _ _ _ _ _).trans f4
    replace F := F _ rfl
    generalize pI h1 (gR h1 a0 7) i1 (gI h1 a0 10) = h2 at F f6 ⊢
    exact wp_retV rfl F
  · replace F := F.2 c
    exact wp_retV rfl F
