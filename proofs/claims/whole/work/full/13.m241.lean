/-! THE FORMULAS OF THE METHODS 241 TO 263 (written by wip/tools/gen13.py): what a run from a cut point needs -/
-- CensusOfficeModel sample (IIIIII)I
theorem m241 {d : Nat} {a0 : Nat} {a1 : Int32} {a2 : Int32} {a3 : Int32} {a4 : Int32} {a5 : Int32} {a6 : Int32} {h : aH} {K : Int32 → aH → Prop} {X : Nat → aH → Prop} (F : 8 ≤ a0 ∧ gK h a0 = 14 ∧ ∀ h0 : aH, h0 = pI h a0 0 0 → CI d 14 [vL (a1.toInt64), vL 0, vL 5] h0 (fun y0 h1 => ((y0.toInt = 0 → gK h1 a0 = 14 ∧ CI d 15 [vR a0, vI 1] h1 (fun y1 h2 => K y1 h2) X) ∧ (¬ y0.toInt = 0 → CI d 14 [vL (a4.toInt64), vL 0, vL 5] h1 (fun y2 h3 => ((y2.toInt = 0 → gK h3 a0 = 14 ∧ CI d 15 [vR a0, vI 1] h3 (fun y3 h4 => K y3 h4) X) ∧ (¬ y2.toInt = 0 → Wp (d + 1) 241 (42, [some (vR a0), some (vI a1), some (vI a2), some (vI a3), some (vI a4), some (vI a5), some (vI a6), some (vI 0), some (vI 0), none, none, none, none, none, none], [], h3) (RI K X)))) X))) X) : CI (d + 1) 241 [vR a0, vI a1, vI a2, vI a3, vI a4, vI a5, vI a6] h K X := by
  show Wp (d + 1) 241 (0, [some (vR a0), some (vI a1), some (vI a2), some (vI a3), some (vI a4), some (vI a5), some (vI a6), none, none, none, none, none, none, none, none], [], h) (RI K X)
  refine wp_aload rfl rfl rfl ?_
  refine wp_const rfl rfl ?_
  obtain ⟨f0, F⟩ := F
  obtain ⟨f1, F⟩ := F
  refine wp_putI rfl rfl rfl f0 f1 rfl ?_
  have f2 : gK (pI h a0 0 0) a0 = 14 := (gK_pI _ _ _ _ _).trans f1
  replace F := F _ rfl
  generalize pI h a0 0 0 = h0 at F f2 ⊢
  refine wp_iload rfl rfl rfl ?_
  refine wp_i2l rfl rfl ?_
  refine wp_const rfl rfl ?_
  refine wp_const rfl rfl ?_
  refine wp_callI rfl rfl rfl rfl rfl rfl rfl rfl ?_
  refine CI.mono F (fun y0 h1 F => ?_) (fun _ _ w => rx_I w)
  refine wp_if_eq rfl rfl rfl rfl (fun c => ?_) (fun c => ?_)
  · replace F := F.1 c
    refine wp_aload' (L' := [some (vR a0), none, none, none, none, none, none, none, none, none, none, none, none, none, none]) rfl rfl rfl rfl ?_
    refine wp_const rfl rfl ?_
    obtain ⟨f3, F⟩ := F
    refine wp_callI rfl rfl rfl (rcv_v f0 f3 (by decide) (by decide)) rfl rfl rfl rfl ?_
    refine CI.mono F (fun y1 h2 F => ?_) (fun _ _ w => rx_I w)
    exact wp_retI rfl (Or.inl rfl) F
  · replace F := F.2 c
    refine wp_iload rfl rfl rfl ?_
    refine wp_i2l rfl rfl ?_
    refine wp_const rfl rfl ?_
    refine wp_const rfl rfl ?_
    refine wp_callI rfl rfl rfl rfl rfl rfl rfl rfl ?_
    refine CI.mono F (fun y2 h3 F => ?_) (fun _ _ w => rx_I w)
    refine wp_if_ne rfl rfl rfl rfl (fun c => ?_) (fun c => ?_)
    · replace F := F.1 c
      refine wp_aload' (L' := [some (vR a0), none, none, none, none, none, none, none, none, none, none, none, none, none, none]) rfl rfl rfl rfl ?_
      refine wp_const rfl rfl ?_
      obtain ⟨f4, F⟩ := F
      refine wp_callI rfl rfl rfl (rcv_v f0 f4 (by decide) (by decide)) rfl rfl rfl rfl ?_
      refine CI.mono F (fun y3 h4 F => ?_) (fun _ _ w => rx_I w)
      exact wp_retI rfl (Or.inl rfl) F
    · replace F := F.2 c
      refine wp_const' (L' := [some (vR a0), some (vI a1), some (vI a2), some (vI a3), some (vI a4), some (vI a5), some (vI a6), none, none, none, none, none, none, none, none]) rfl rfl rfl ?_
      refine wp_istore (L2 := [some (vR a0), some (vI a1), some (vI a2), some (vI a3), some (vI a4), some (vI a5), some (vI a6), some (vI 0), none, none, none, none, none, none, none]) rfl rfl rfl rfl ?_
      refine wp_const rfl rfl ?_
      refine wp_istore (L2 := [some (vR a0), some (vI a1), some (vI a2), some (vI a3), some (vI a4), some (vI a5), some (vI a6), some (vI 0), some (vI 0), none, none, none, none, none, none]) rfl rfl rfl rfl ?_
      exact F
theorem w241_42 {d : Nat} {l0 : Nat} {l1 : Int32} {l2 : Int32} {l3 : Int32} {l4 : Int32} {l5 : Int32} {l6 : Int32} {l7 : Int32} {l8 : Int32} {h : aH} {K : Int32 → aH → Prop} {X : Nat → aH → Prop} (F : gK h l0 = 14 ∧ ((l8.toInt < (gI h l0 2).toInt → 8 ≤ l0 ∧ CI d 40 [vR l0] h (fun y0 h0 => gK h0 l0 = 14 ∧ CI d 40 [vR l0] h0 (fun y1 h1 => gK h1 l0 = 14 ∧ CI d 53 [vR l0, vI l8, vI l1, vI y0, vI y1] h1 (fun y2 h2 => gK h2 l0 = 14 ∧ ∃ i0 : Nat, inB h2 100 (gR h2 l0 3) l8 i0 ∧ (((gI h2 (gR h2 l0 3) i0).toInt = (-1) → ((y2.toInt = (-2000000) → Wp (d + 1) 241 (104, [some (vR l0), some (vI l1), some (vI l2), some (vI l3), some (vI l4), some (vI l5), some (vI l6), some (vI l7), some (vI l8), none, none, none, none, none, none], [vI 0], h2) (RI K X)) ∧ (¬ y2.toInt = (-2000000) → CI d 14 [vL (y2.toInt64), vL (l2.toInt64), vL (l3.toInt64)] h2 (fun y3 h3 => ((y3.toInt = 0 → Wp (d + 1) 241 (104, [some (vR l0), some (vI l1), some (vI l2), some (vI l3), some (vI l4), some (vI l5), some (vI l6), some (vI l7), some (vI l8), none, none, none, none, none, none], [vI 0], h3) (RI K X)) ∧ (¬ y3.toInt = 0 → Wp (d + 1) 241 (104, [some (vR l0), some (vI l1), some (vI l2), some (vI l3), some (vI l4), some (vI l5), some (vI l6), some (vI l7), some (vI l8), none, none, none, none, none, none], [vI 1], h3) (RI K X)))) X))) ∧ (¬ (gI h2 (gR h2 l0 3) i0).toInt = (-1) → Wp (d + 1) 241 (104, [some (vR l0), some (vI l1), some (vI l2), some (vI l3), some (vI l4), some (vI l5), some (vI l6), some (vI l7), some (vI l8), none, none, none, none, none, none], [vI 0], h2) (RI K X)))) X) X) X) ∧ (¬ l8.toInt < (gI h l0 2).toInt → ((l5.toInt < 0 → 8 ≤ l0 ∧ CI d 15 [vR l0, vI 2] h (fun y4 h4 => K y4 h4) X) ∧ (¬ l5.toInt < 0 → ((l7.toInt < l5.toInt → 8 ≤ l0 ∧ CI d 15 [vR l0, vI 2] h (fun y5 h5 => K y5 h5) X) ∧ (¬ l7.toInt < l5.toInt → (((gI h l0 64).toInt = 12 → 8 ≤ l0 ∧ CI d 15 [vR l0, vI 3] h (fun y6 h6 => K y6 h6) X) ∧ (¬ (gI h l0 64).toInt = 12 → ∀ v0 : Int32, v0 = 100 * (gI h l0 64) → Wp (d + 1) 241 (216, [some (vR l0), none, none, none, none, some (vI l5), some (vI l6), some (vI l7), some (vI v0), some (vI l5), some (vI 0), none, none, none, none], [], h) (RI K X)))))))))) : Wp (d + 1) 241 (42, [some (vR l0), some (vI l1), some (vI l2), some (vI l3), some (vI l4), some (vI l5), some (vI l6), some (vI l7), some (vI l8), none, none, none, none, none, none], [], h) (RI K X) := by
  refine wp_iload' (L' := [some (vR l0), some (vI l1), some (vI l2), some (vI l3), some (vI l4), some (vI l5), some (vI l6), some (vI l7), some (vI l8), none, none, none, none, none, none]) rfl rfl rfl rfl ?_
  refine wp_aload rfl rfl rfl ?_
  obtain ⟨f0, F⟩ := F
  refine wp_getI rfl rfl rfl f0 rfl ?_
  refine wp_icmp_ge rfl rfl rfl rfl rfl (fun c => ?_) (fun c => ?_)
  · replace F := F.1 c
    refine wp_aload rfl rfl rfl ?_
    refine wp_iload rfl rfl rfl ?_
    refine wp_iload rfl rfl rfl ?_
    refine wp_aload rfl rfl rfl ?_
    obtain ⟨f1, F⟩ := F
    refine wp_callI rfl rfl rfl (rcv_v f1 f0 (by decide) (by decide)) rfl rfl rfl rfl ?_
    refine CI.mono F (fun y0 h0 F => ?_) (fun _ _ w => rx_I w)
    refine wp_aload rfl rfl rfl ?_
    obtain ⟨f2, F⟩ := F
    refine wp_callI rfl rfl rfl (rcv_v f1 f2 (by decide) (by decide)) rfl rfl rfl rfl ?_
    refine CI.mono F (fun y1 h1 F => ?_) (fun _ _ w => rx_I w)
    obtain ⟨f3, F⟩ := F
    refine wp_callI rfl rfl rfl (rcv_v f1 f3 (by decide) (by decide)) rfl rfl rfl rfl ?_
    refine CI.mono F (fun y2 h2 F => ?_) (fun _ _ w => rx_I w)
    refine wp_istore (L2 := [some (vR l0), some (vI l1), some (vI l2), some (vI l3), some (vI l4), some (vI l5), some (vI l6), some (vI l7), some (vI l8), some (vI y2), none, none, none, none, none]) rfl rfl rfl rfl ?_
    refine wp_aload rfl rfl rfl ?_
    obtain ⟨f4, F⟩ := F
    refine wp_getR rfl rfl rfl f4 rfl ?_
    refine wp_iload rfl rfl rfl ?_
    obtain ⟨i0, b9, F⟩ := F
    refine wp_iaload rfl b9 rfl ?_
    refine wp_const rfl rfl ?_
    refine wp_icmp_ne (Y := (-1)) rfl rfl rfl rfl rfl (fun c => ?_) (fun c => ?_)
    · replace F := F.1 c
      refine wp_iload rfl rfl rfl ?_
      refine wp_const rfl rfl ?_
      refine wp_icmp_eq (Y := (-2000000)) rfl rfl rfl rfl rfl (fun c => ?_) (fun c => ?_)
      · replace F := F.1 c
        refine wp_const' (L' := [some (vR l0), some (vI l1), some (vI l2), some (vI l3), some (vI l4), some (vI l5), some (vI l6), some (vI l7), some (vI l8), none, none, none, none, none, none]) rfl rfl rfl ?_
        exact F
      · replace F := F.2 c
        refine wp_iload rfl rfl rfl ?_
        refine wp_i2l rfl rfl ?_
        refine wp_iload rfl rfl rfl ?_
        refine wp_i2l rfl rfl ?_
        refine wp_iload rfl rfl rfl ?_
        refine wp_i2l rfl rfl ?_
        refine wp_callI rfl rfl rfl rfl rfl rfl rfl rfl ?_
        refine CI.mono F (fun y3 h3 F => ?_) (fun _ _ w => rx_I w)
        refine wp_if_eq rfl rfl rfl rfl (fun c => ?_) (fun c => ?_)
        · replace F := F.1 c
          refine wp_const' (L' := [some (vR l0), some (vI l1), some (vI l2), some (vI l3), some (vI l4), some (vI l5), some (vI l6), some (vI l7), some (vI l8), none, none, none, none, none, none]) rfl rfl rfl ?_
          exact F
        · replace F := F.2 c
          refine wp_const rfl rfl ?_
          refine wp_goto rfl rfl ?_
          refine wp_kill (L' := [some (vR l0), some (vI l1), some (vI l2), some (vI l3), some (vI l4), some (vI l5), some (vI l6), some (vI l7), some (vI l8), none, none, none, none, none, none]) rfl rfl ?_
          exact F
    · replace F := F.2 c
      refine wp_const' (L' := [some (vR l0), some (vI l1), some (vI l2), some (vI l3), some (vI l4), some (vI l5), some (vI l6), some (vI l7), some (vI l8), none, none, none, none, none, none]) rfl rfl rfl ?_
      exact F
  · replace F := F.2 c
    refine wp_iload' (L' := [some (vR l0), none, none, none, none, some (vI l5), some (vI l6), some (vI l7), none, none, none, none, none, none, none]) rfl rfl rfl rfl ?_
    refine wp_if_lt rfl rfl rfl rfl (fun c => ?_) (fun c => ?_)
    · replace F := F.1 c
      refine wp_aload' (L' := [some (vR l0), none, none, none, none, none, none, none, none, none, none, none, none, none, none]) rfl rfl rfl rfl ?_
      refine wp_const rfl rfl ?_
      obtain ⟨f5, F⟩ := F
      refine wp_callI rfl rfl rfl (rcv_v f5 f0 (by decide) (by decide)) rfl rfl rfl rfl ?_
      refine CI.mono F (fun y4 h4 F => ?_) (fun _ _ w => rx_I w)
      exact wp_retI rfl (Or.inl rfl) F
    · replace F := F.2 c
      refine wp_iload rfl rfl rfl ?_
      refine wp_iload rfl rfl rfl ?_
      refine wp_icmp_le rfl rfl rfl rfl rfl (fun c => ?_) (fun c => ?_)
      · replace F := F.1 c
        refine wp_aload' (L' := [some (vR l0), none, none, none, none, none, none, none, none, none, none, none, none, none, none]) rfl rfl rfl rfl ?_
        refine wp_const rfl rfl ?_
        obtain ⟨f6, F⟩ := F
        refine wp_callI rfl rfl rfl (rcv_v f6 f0 (by decide) (by decide)) rfl rfl rfl rfl ?_
        refine CI.mono F (fun y5 h5 F => ?_) (fun _ _ w => rx_I w)
        exact wp_retI rfl (Or.inl rfl) F
      · replace F := F.2 c
        refine wp_aload' (L' := [some (vR l0), none, none, none, none, some (vI l5), some (vI l6), some (vI l7), none, none, none, none, none, none, none]) rfl rfl rfl rfl ?_
        refine wp_getI rfl rfl rfl f0 rfl ?_
        refine wp_const rfl rfl ?_
        refine wp_icmp_ne (Y := 12) rfl rfl rfl rfl rfl (fun c => ?_) (fun c => ?_)
        · replace F := F.1 c
          refine wp_aload rfl rfl rfl ?_
          refine wp_const rfl rfl ?_
          obtain ⟨f7, F⟩ := F
          refine wp_callI rfl rfl rfl (rcv_v f7 f0 (by decide) (by decide)) rfl rfl rfl rfl ?_
          refine CI.mono F (fun y6 h6 F => ?_) (fun _ _ w => rx_I w)
          exact wp_retI rfl (Or.inl rfl) F
        · replace F := F.2 c
          refine wp_const' (L' := [some (vR l0), none, none, none, none, some (vI l5), some (vI l6), some (vI l7), none, none, none, none, none, none, none]) rfl rfl rfl ?_
          refine wp_aload rfl rfl rfl ?_
          refine wp_getI rfl rfl rfl f0 rfl ?_
          refine wp_imul rfl rfl ?_
          replace F := F _ rfl
          generalize (100 * (gI h l0 64) : Int32) = v0 at F ⊢
          refine wp_istore (L2 := [some (vR l0), none, none, none, none, some (vI l5), some (vI l6), some (vI l7), some (vI v0), none, none, none, none, none, none]) rfl rfl rfl rfl ?_
          refine wp_iload rfl rfl rfl ?_
          refine wp_istore (L2 := [some (vR l0), none, none, none, none, some (vI l5), some (vI l6), some (vI l7), some (vI v0), some (vI l5), none, none, none, none, none]) rfl rfl rfl rfl ?_
          refine wp_const rfl rfl ?_
          refine wp_istore (L2 := [some (vR l0), none, none, none, none, some (vI l5), some (vI l6), some (vI l7), some (vI v0), some (vI l5), some (vI 0), none, none, none, none]) rfl rfl rfl rfl ?_
          exact F
theorem w241_104 {d : Nat} {l0 : Nat} {l1 : Int32} {l2 : Int32} {l3 : Int32} {l4 : Int32} {l5 : Int32} {l6 : Int32} {l7 : Int32} {l8 : Int32} {s0 : Int32} {h : aH} {K : Int32 → aH → Prop} {X : Nat → aH → Prop} (F : gK h l0 = 14 ∧ ((s0.toInt = 0 → 8 ≤ (gR h l0 68) ∧ ∃ i0 : Nat, inB h 100 (gR h l0 68) l8 i0 ∧ ∀ h0 : aH, h0 = pI h (gR h l0 68) i0 (-2000000) → ∃ i1 : Nat, inB h0 100 (gR h0 l0 68) l8 i1 ∧ (((gI h0 (gR h0 l0 68) i1).toInt = (-2000000) → ∀ v0 : Int32, v0 = l7 + 0 → ∀ v1 : Int32, v1 = l8 + 1 → Wp (d + 1) 241 (42, [some (vR l0), some (vI l1), some (vI l2), some (vI l3), some (vI l4), some (vI l5), some (vI l6), some (vI v0), some (vI v1), none, none, none, none, none, none], [], h0) (RI K X)) ∧ (¬ (gI h0 (gR h0 l0 68) i1).toInt = (-2000000) → ∀ v2 : Int32, v2 = l7 + 1 → ∀ v3 : Int32, v3 = l8 + 1 → Wp (d + 1) 241 (42, [some (vR l0), some (vI l1), some (vI l2), some (vI l3), some (vI l4), some (vI l5), some (vI l6), some (vI v2), some (vI v3), none, none, none, none, none, none], [], h0) (RI K X)))) ∧ (¬ s0.toInt = 0 → 8 ≤ l0 ∧ CI d 40 [vR l0] h (fun y0 h1 => gK h1 l0 = 14 ∧ CI d 40 [vR l0] h1 (fun y1 h2 => gK h2 l0 = 14 ∧ CI d 53 [vR l0, vI l8, vI l4, vI y0, vI y1] h2 (fun y2 h3 => 8 ≤ (gR h l0 68) ∧ ∃ i2 : Nat, inB h3 100 (gR h l0 68) l8 i2 ∧ ∀ h4 : aH, h4 = pI h3 (gR h l0 68) i2 y2 → gK h4 l0 = 14 ∧ ∃ i3 : Nat, inB h4 100 (gR h4 l0 68) l8 i3 ∧ (((gI h4 (gR h4 l0 68) i3).toInt = (-2000000) → ∀ v4 : Int32, v4 = l7 + 0 → ∀ v5 : Int32, v5 = l8 + 1 → Wp (d + 1) 241 (42, [some (vR l0), some (vI l1), some (vI l2), some (vI l3), some (vI l4), some (vI l5), some (vI l6), some (vI v4), some (vI v5), none, none, none, none, none, none], [], h4) (RI K X)) ∧ (¬ (gI h4 (gR h4 l0 68) i3).toInt = (-2000000) → ∀ v6 : Int32, v6 = l7 + 1 → ∀ v7 : Int32, v7 = l8 + 1 → Wp (d + 1) 241 (42, [some (vR l0), some (vI l1), some (vI l2), some (vI l3), some (vI l4), some (vI l5), some (vI l6), some (vI v6), some (vI v7), none, none, none, none, none, none], [], h4) (RI K X)))) X) X) X))) : Wp (d + 1) 241 (104, [some (vR l0), some (vI l1), some (vI l2), some (vI l3), some (vI l4), some (vI l5), some (vI l6), some (vI l7), some (vI l8), none, none, none, none, none, none], [vI s0], h) (RI K X) := by
  refine wp_istore' (L' := [some (vR l0), some (vI l1), some (vI l2), some (vI l3), some (vI l4), some (vI l5), some (vI l6), some (vI l7), some (vI l8), none, none, none, none, none, none]) (L2 := [some (vR l0), some (vI l1), some (vI l2), some (vI l3), some (vI l4), some (vI l5), some (vI l6), some (vI l7), some (vI l8), none, some (vI s0), none, none, none, none]) rfl rfl rfl rfl rfl ?_
  refine wp_aload rfl rfl rfl ?_
  obtain ⟨f0, F⟩ := F
  refine wp_getR rfl rfl rfl f0 rfl ?_
  refine wp_iload rfl rfl rfl ?_
  refine wp_iload rfl rfl rfl ?_
  refine wp_if_eq rfl rfl rfl rfl (fun c => ?_) (fun c => ?_)
  · replace F := F.1 c
    refine wp_const' (L' := [some (vR l0), some (vI l1), some (vI l2), some (vI l3), some (vI l4), some (vI l5), some (vI l6), some (vI l7), some (vI l8), none, none, none, none, none, none]) rfl rfl rfl ?_
    obtain ⟨f1, F⟩ := F
    obtain ⟨i0, b9, F⟩ := F
    refine wp_iastore' (L' := [some (vR l0), some (vI l1), some (vI l2), some (vI l3), some (vI l4), some (vI l5), some (vI l6), some (vI l7), some (vI l8), none, none, none, none, none, none]) rfl rfl f1 b9 rfl ?_
    have f2 : gK (pI h (gR h l0 68) i0 (-2000000)) l0 = 14 := (gK_pI _ _ _ _ _).trans f0
    replace F := F _ rfl
    generalize pI h (gR h l0 68) i0 (-2000000) = h0 at F f2 ⊢
    refine wp_iload rfl rfl rfl ?_
    refine wp_aload rfl rfl rfl ?_
    refine wp_getR rfl rfl rfl f2 rfl ?_
    refine wp_iload rfl rfl rfl ?_
    obtain ⟨i1, b9, F⟩ := F
    refine wp_iaload rfl b9 rfl ?_
    refine wp_const rfl rfl ?_
    refine wp_icmp_eq (Y := (-2000000)) rfl rfl rfl rfl rfl (fun c => ?_) (fun c => ?_)
    · replace F := F.1 c
      refine wp_const' (L' := [some (vR l0), some (vI l1), some (vI l2), some (vI l3), some (vI l4), some (vI l5), some (vI l6), none, some (vI l8), none, none, none, none, none, none]) rfl rfl rfl ?_
      refine wp_iadd' (L' := [some (vR l0), some (vI l1), some (vI l2), some (vI l3), some (vI l4), some (vI l5), some (vI l6), none, some (vI l8), none, none, none, none, none, none]) rfl rfl rfl ?_
      replace F := F _ rfl
      generalize (l7 + 0 : Int32) = v0 at F ⊢
      refine wp_istore (L2 := [some (vR l0), some (vI l1), some (vI l2), some (vI l3), some (vI l4), some (vI l5), some (vI l6), some (vI v0), some (vI l8), none, none, none, none, none, none]) rfl rfl rfl rfl ?_
      refine wp_iinc (y := 1) (L2 := [some (vR l0), some (vI l1), some (vI l2), some (vI l3), some (vI l4), some (vI l5), some (vI l6), some (vI v0), some (vI (l8 + 1)), none, none, none, none, none, none]) rfl rfl rfl rfl rfl ?_
      replace F := F _ rfl
      generalize (l8 + 1 : Int32) = v1 at F ⊢
      refine wp_goto rfl rfl ?_
      exact F
    · replace F := F.2 c
      refine wp_const rfl rfl ?_
      refine wp_goto rfl rfl ?_
      refine wp_iadd' (L' := [some (vR l0), some (vI l1), some (vI l2), some (vI l3), some (vI l4), some (vI l5), some (vI l6), none, some (vI l8), none, none, none, none, none, none]) rfl rfl rfl ?_
      replace F := F _ rfl
      generalize (l7 + 1 : Int32) = v2 at F ⊢
      refine wp_istore (L2 := [some (vR l0), some (vI l1), some (vI l2), some (vI l3), some (vI l4), some (vI l5), some (vI l6), some (vI v2), some (vI l8), none, none, none, none, none, none]) rfl rfl rfl rfl ?_
      refine wp_iinc (y := 1) (L2 := [some (vR l0), some (vI l1), some (vI l2), some (vI l3), some (vI l4), some (vI l5), some (vI l6), some (vI v2), some (vI (l8 + 1)), none, none, none, none, none, none]) rfl rfl rfl rfl rfl ?_
      replace F := F _ rfl
      generalize (l8 + 1 : Int32) = v3 at F ⊢
      refine wp_goto rfl rfl ?_
      exact F
  · replace F := F.2 c
    refine wp_aload rfl rfl rfl ?_
    refine wp_iload rfl rfl rfl ?_
    refine wp_iload rfl rfl rfl ?_
    refine wp_aload rfl rfl rfl ?_
    obtain ⟨f3, F⟩ := F
    refine wp_callI rfl rfl rfl (rcv_v f3 f0 (by decide) (by decide)) rfl rfl rfl rfl ?_
    refine CI.mono F (fun y0 h1 F => ?_) (fun _ _ w => rx_I w)
    refine wp_aload rfl rfl rfl ?_
    obtain ⟨f4, F⟩ := F
    refine wp_callI rfl rfl rfl (rcv_v f3 f4 (by decide) (by decide)) rfl rfl rfl rfl ?_
    refine CI.mono F (fun y1 h2 F => ?_) (fun _ _ w => rx_I w)
    obtain ⟨f5, F⟩ := F
    refine wp_callI rfl rfl rfl (rcv_v f3 f5 (by decide) (by decide)) rfl rfl rfl rfl ?_
    refine CI.mono F (fun y2 h3 F => ?_) (fun _ _ w => rx_I w)
    refine wp_goto rfl rfl ?_
    obtain ⟨f6, F⟩ := F
    obtain ⟨i2, b9, F⟩ := F
    refine wp_iastore' (L' := [some (vR l0), some (vI l1), some (vI l2), some (vI l3), some (vI l4), some (vI l5), some (vI l6), some (vI l7), some (vI l8), none, none, none, none, none, none]) rfl rfl f6 b9 rfl ?_
    replace F := F _ rfl
    generalize pI h3 (gR h l0 68) i2 y2 = h4 at F ⊢
    refine wp_iload rfl rfl rfl ?_
    refine wp_aload rfl rfl rfl ?_
    obtain ⟨f7, F⟩ := F
    refine wp_getR rfl rfl rfl f7 rfl ?_
    refine wp_iload rfl rfl rfl ?_
    obtain ⟨i3, b9, F⟩ := F
    refine wp_iaload rfl b9 rfl ?_
    refine wp_const rfl rfl ?_
    refine wp_icmp_eq (Y := (-2000000)) rfl rfl rfl rfl rfl (fun c => ?_) (fun c => ?_)
    · replace F := F.1 c
      refine wp_const' (L' := [some (vR l0), some (vI l1), some (vI l2), some (vI l3), some (vI l4), some (vI l5), some (vI l6), none, some (vI l8), none, none, none, none, none, none]) rfl rfl rfl ?_
      refine wp_iadd' (L' := [some (vR l0), some (vI l1), some (vI l2), some (vI l3), some (vI l4), some (vI l5), some (vI l6), none, some (vI l8), none, none, none, none, none, none]) rfl rfl rfl ?_
      replace F := F _ rfl
      generalize (l7 + 0 : Int32) = v4 at F ⊢
      refine wp_istore (L2 := [some (vR l0), some (vI l1), some (vI l2), some (vI l3), some (vI l4), some (vI l5), some (vI l6), some (vI v4), some (vI l8), none, none, none, none, none, none]) rfl rfl rfl rfl ?_
      refine wp_iinc (y := 1) (L2 := [some (vR l0), some (vI l1), some (vI l2), some (vI l3), some (vI l4), some (vI l5), some (vI l6), some (vI v4), some (vI (l8 + 1)), none, none, none, none, none, none]) rfl rfl rfl rfl rfl ?_
      replace F := F _ rfl
      generalize (l8 + 1 : Int32) = v5 at F ⊢
      refine wp_goto rfl rfl ?_
      exact F
    · replace F := F.2 c
      refine wp_const rfl rfl ?_
      refine wp_goto rfl rfl ?_
      refine wp_iadd' (L' := [some (vR l0), some (vI l1), some (vI l2), some (vI l3), some (vI l4), some (vI l5), some (vI l6), none, some (vI l8), none, none, none, none, none, none]) rfl rfl rfl ?_
      replace F := F _ rfl
      generalize (l7 + 1 : Int32) = v6 at F ⊢
      refine wp_istore (L2 := [some (vR l0), some (vI l1), some (vI l2), some (vI l3), some (vI l4), some (vI l5), some (vI l6), some (vI v6), some (vI l8), none, none, none, none, none, none]) rfl rfl rfl rfl ?_
      refine wp_iinc (y := 1) (L2 := [some (vR l0), some (vI l1), some (vI l2), some (vI l3), some (vI l4), some (vI l5), some (vI l6), some (vI v6), some (vI (l8 + 1)), none, none, none, none, none, none]) rfl rfl rfl rfl rfl ?_
      replace F := F _ rfl
      generalize (l8 + 1 : Int32) = v7 at F ⊢
      refine wp_goto rfl rfl ?_
      exact F
theorem w241_216 {d : Nat} {l0 : Nat} {l5 : Int32} {l6 : Int32} {l7 : Int32} {l8 : Int32} {l9 : Int32} {l10 : Int32} {h : aH} {K : Int32 → aH → Prop} {X : Nat → aH → Prop} (F : gK h l0 = 14 ∧ ((l10.toInt < (gI h l0 2).toInt → Wp (d + 1) 241 (231, [some (vR l0), none, none, none, none, some (vI l5), some (vI l6), some (vI l7), some (vI l8), some (vI l9), some (vI l10), some (vI 0), some (vI 0), none, none], [], h) (RI K X)) ∧ (¬ l10.toInt < (gI h l0 2).toInt → Wp (d + 1) 241 (372, [some (vR l0), none, none, none, none, some (vI l5), some (vI l6), some (vI l7), some (vI l8), some (vI l9), some (vI 0), none, none, none, none], [], h) (RI K X)))) : Wp (d + 1) 241 (216, [some (vR l0), none, none, none, none, some (vI l5), some (vI l6), some (vI l7), some (vI l8), some (vI l9), some (vI l10), none, none, none, none], [], h) (RI K X) := by
  refine wp_iload' (L' := [some (vR l0), none, none, none, none, some (vI l5), some (vI l6), some (vI l7), some (vI l8), some (vI l9), some (vI l10), none, none, none, none]) rfl rfl rfl rfl ?_
  refine wp_aload rfl rfl rfl ?_
  obtain ⟨f0, F⟩ := F
  refine wp_getI rfl rfl rfl f0 rfl ?_
  refine wp_icmp_ge rfl rfl rfl rfl rfl (fun c => ?_) (fun c => ?_)
  · replace F := F.1 c
    refine wp_const rfl rfl ?_
    refine wp_istore (L2 := [some (vR l0), none, none, none, none, some (vI l5), some (vI l6), some (vI l7), some (vI l8), some (vI l9), some (vI l10), some (vI 0), none, none, none]) rfl rfl rfl rfl ?_
    refine wp_const rfl rfl ?_
    refine wp_istore (L2 := [some (vR l0), none, none, none, none, some (vI l5), some (vI l6), some (vI l7), some (vI l8), some (vI l9), some (vI l10), some (vI 0), some (vI 0), none, none]) rfl rfl rfl rfl ?_
    exact F
  · replace F := F.2 c
    refine wp_const' (L' := [some (vR l0), none, none, none, none, some (vI l5), some (vI l6), some (vI l7), some (vI l8), some (vI l9), none, none, none, none, none]) rfl rfl rfl ?_
    refine wp_istore (L2 := [some (vR l0), none, none, none, none, some (vI l5), some (vI l6), some (vI l7), some (vI l8), some (vI l9), some (vI 0), none, none, none, none]) rfl rfl rfl rfl ?_
    exact F
theorem w241_231 {d : Nat} {l0 : Nat} {l5 : Int32} {l6 : Int32} {l7 : Int32} {l8 : Int32} {l9 : Int32} {l10 : Int32} {l11 : Int32} {l12 : Int32} {h : aH} {K : Int32 → aH → Prop} {X : Nat → aH → Prop} (F : gK h l0 = 14 ∧ ((l12.toInt < (gI h l0 2).toInt → ∃ i0 : Nat, inB h 100 (gR h l0 68) l10 i0 ∧ (((gI h (gR h l0 68) i0).toInt = (-2000000) → ∀ v0 : Int32, v0 = l11 + 0 → ∀ v1 : Int32, v1 = l12 + 1 → Wp (d + 1) 241 (231, [some (vR l0), none, none, none, none, some (vI l5), some (vI l6), some (vI l7), some (vI l8), some (vI l9), some (vI l10), some (vI v0), some (vI v1), none, none], [], h) (RI K X)) ∧ (¬ (gI h (gR h l0 68) i0).toInt = (-2000000) → ∃ i1 : Nat, inB h 100 (gR h l0 68) l12 i1 ∧ ∃ i2 : Nat, inB h 100 (gR h l0 68) l10 i2 ∧ (((gI h (gR h l0 68) i1).toInt = (gI h (gR h l0 68) i2).toInt → ∀ v2 : Int32, v2 = l11 + 1 → ∀ v3 : Int32, v3 = l12 + 1 → Wp (d + 1) 241 (231, [some (vR l0), none, none, none, none, some (vI l5), some (vI l6), some (vI l7), some (vI l8), some (vI l9), some (vI l10), some (vI v2), some (vI v3), none, none], [], h) (RI K X)) ∧ (¬ (gI h (gR h l0 68) i1).toInt = (gI h (gR h l0 68) i2).toInt → ∀ v4 : Int32, v4 = l11 + 0 → ∀ v5 : Int32, v5 = l12 + 1 → Wp (d + 1) 241 (231, [some (vR l0), none, none, none, none, some (vI l5), some (vI l6), some (vI l7), some (vI l8), some (vI l9), some (vI l10), some (vI v4), some (vI v5), none, none], [], h) (RI K X)))))) ∧ (¬ l12.toInt < (gI h l0 2).toInt → 8 ≤ (gR h l0 66) ∧ ∃ i3 : Nat, inB h 100 (gR h l0 66) (l8 + l10) i3 ∧ ∀ h0 : aH, h0 = pI h (gR h l0 66) i3 l11 → ((l7.toInt = 0 → 8 ≤ (gR h0 l0 65) ∧ ∃ i4 : Nat, inB h0 100 (gR h0 l0 65) (l8 + l10) i4 ∧ ∀ h1 : aH, h1 = pI h0 (gR h0 l0 65) i4 0 → 8 ≤ (gR h1 l0 67) ∧ ∃ i5 : Nat, inB h1 102 (gR h1 l0 67) (l8 + l10) i5 ∧ ∀ h2 : aH, h2 = pI h1 (gR h1 l0 67) i5 (0 &&& 1) → 8 ≤ l0 ∧ CI d 238 [vR l0, vI l10] h2 (fun y0 h3 => ((y0.toInt = 0 → ∀ v6 : Int32, v6 = l9 - 0 → ∀ v7 : Int32, v7 = l10 + 1 → Wp (d + 1) 241 (216, [some (vR l0), none, none, none, none, some (vI l5), some (vI l6), some (vI l7), some (vI l8), some (vI v6), some (vI v7), none, none, none, none], [], h3) (RI K X)) ∧ (¬ y0.toInt = 0 → gK h3 l0 = 14 ∧ ∃ i6 : Nat, inB h3 100 (gR h3 l0 65) (l8 + l10) i6 ∧ ∀ v8 : Int32, v8 = l9 - (gI h3 (gR h3 l0 65) i6) → ∀ v9 : Int32, v9 = l10 + 1 → Wp (d + 1) 241 (216, [some (vR l0), none, none, none, none, some (vI l5), some (vI l6), some (vI l7), some (vI l8), some (vI v8), some (vI v9), none, none, none, none], [], h3) (RI K X)))) X) ∧ (¬ l7.toInt = 0 → (¬ l7 = 0) ∧ 8 ≤ (gR h0 l0 65) ∧ ∃ i7 : Nat, inB h0 100 (gR h0 l0 65) (l8 + l10) i7 ∧ ∀ h4 : aH, h4 = pI h0 (gR h0 l0 65) i7 ((l5 * l11) / l7) → 8 ≤ (gR h4 l0 67) ∧ ∃ i8 : Nat, inB h4 102 (gR h4 l0 67) (l8 + l10) i8 ∧ ∀ h5 : aH, h5 = pI h4 (gR h4 l0 67) i8 (0 &&& 1) → 8 ≤ l0 ∧ CI d 238 [vR l0, vI l10] h5 (fun y1 h6 => ((y1.toInt = 0 → ∀ v10 : Int32, v10 = l9 - 0 → ∀ v11 : Int32, v11 = l10 + 1 → Wp (d + 1) 241 (216, [some (vR l0), none, none, none, none, some (vI l5), some (vI l6), some (vI l7), some (vI l8), some (vI v10), some (vI v11), none, none, none, none], [], h6) (RI K X)) ∧ (¬ y1.toInt = 0 → gK h6 l0 = 14 ∧ ∃ i9 : Nat, inB h6 100 (gR h6 l0 65) (l8 + l10) i9 ∧ ∀ v12 : Int32, v12 = l9 - (gI h6 (gR h6 l0 65) i9) → ∀ v13 : Int32, v13 = l10 + 1 → Wp (d + 1) 241 (216, [some (vR l0), none, none, none, none, some (vI l5), some (vI l6), some (vI l7), some (vI l8), some (vI v12), some (vI v13), none, none, none, none], [], h6) (RI K X)))) X))))) : Wp (d + 1) 241 (231, [some (vR l0), none, none, none, none, some (vI l5), some (vI l6), some (vI l7), some (vI l8), some (vI l9), some (vI l10), some (vI l11), some (vI l12), none, none], [], h) (RI K X) := by
  refine wp_iload' (L' := [some (vR l0), none, none, none, none, some (vI l5), some (vI l6), some (vI l7), some (vI l8), some (vI l9), some (vI l10), some (vI l11), some (vI l12), none, none]) rfl rfl rfl rfl ?_
  refine wp_aload rfl rfl rfl ?_
  obtain ⟨f0, F⟩ := F
  refine wp_getI rfl rfl rfl f0 rfl ?_
  refine wp_icmp_ge rfl rfl rfl rfl rfl (fun c => ?_) (fun c => ?_)
  · replace F := F.1 c
    refine wp_iload rfl rfl rfl ?_
    refine wp_aload rfl rfl rfl ?_
    refine wp_getR rfl rfl rfl f0 rfl ?_
    refine wp_iload rfl rfl rfl ?_
    obtain ⟨i0, b9, F⟩ := F
    refine wp_iaload rfl b9 rfl ?_
    refine wp_const rfl rfl ?_
    refine wp_icmp_eq (Y := (-2000000)) rfl rfl rfl rfl rfl (fun c => ?_) (fun c => ?_)
    · replace F := F.1 c
      refine wp_const' (L' := [some (vR l0), none, none, none, none, some (vI l5), some (vI l6), some (vI l7), some (vI l8), some (vI l9), some (vI l10), none, some (vI l12), none, none]) rfl rfl rfl ?_
      refine wp_iadd' (L' := [some (vR l0), none, none, none, none, some (vI l5), some (vI l6), some (vI l7), some (vI l8), some (vI l9), some (vI l10), none, some (vI l12), none, none]) rfl rfl rfl ?_
      replace F := F _ rfl
      generalize (l11 + 0 : Int32) = v0 at F ⊢
      refine wp_istore (L2 := [some (vR l0), none, none, none, none, some (vI l5), some (vI l6), some (vI l7), some (vI l8), some (vI l9), some (vI l10), some (vI v0), some (vI l12), none, none]) rfl rfl rfl rfl ?_
      refine wp_iinc (y := 1) (L2 := [some (vR l0), none, none, none, none, some (vI l5), some (vI l6), some (vI l7), some (vI l8), some (vI l9), some (vI l10), some (vI v0), some (vI (l12 + 1)), none, none]) rfl rfl rfl rfl rfl ?_
      replace F := F _ rfl
      generalize (l12 + 1 : Int32) = v1 at F ⊢
      refine wp_goto rfl rfl ?_
      exact F
    · replace F := F.2 c
      refine wp_aload rfl rfl rfl ?_
      refine wp_getR rfl rfl rfl f0 rfl ?_
      refine wp_iload rfl rfl rfl ?_
      obtain ⟨i1, b9, F⟩ := F
      refine wp_iaload rfl b9 rfl ?_
      refine wp_aload rfl rfl rfl ?_
      refine wp_getR rfl rfl rfl f0 rfl ?_
      refine wp_iload rfl rfl rfl ?_
      obtain ⟨i2, b9, F⟩ := F
      refine wp_iaload rfl b9 rfl ?_
      refine wp_icmp_ne rfl rfl rfl rfl rfl (fun c => ?_) (fun c => ?_)
      · replace F := F.1 c
        refine wp_const rfl rfl ?_
        refine wp_goto rfl rfl ?_
        refine wp_iadd' (L' := [some (vR l0), none, none, none, none, some (vI l5), some (vI l6), some (vI l7), some (vI l8), some (vI l9), some (vI l10), none, some (vI l12), none, none]) rfl rfl rfl ?_
        replace F := F _ rfl
        generalize (l11 + 1 : Int32) = v2 at F ⊢
        refine wp_istore (L2 := [some (vR l0), none, none, none, none, some (vI l5), some (vI l6), some (vI l7), some (vI l8), some (vI l9), some (vI l10), some (vI v2), some (vI l12), none, none]) rfl rfl rfl rfl ?_
        refine wp_iinc (y := 1) (L2 := [some (vR l0), none, none, none, none, some (vI l5), some (vI l6), some (vI l7), some (vI l8), some (vI l9), some (vI l10), some (vI v2), some (vI (l12 + 1)), none, none]) rfl rfl rfl rfl rfl ?_
        replace F := F _ rfl
        generalize (l12 + 1 : Int32) = v3 at F ⊢
        refine wp_goto rfl rfl ?_
        exact F
      · replace F := F.2 c
        refine wp_const' (L' := [some (vR l0), none, none, none, none, some (vI l5), some (vI l6), some (vI l7), some (vI l8), some (vI l9), some (vI l10), none, some (vI l12), none, none]) rfl rfl rfl ?_
        refine wp_iadd' (L' := [some (vR l0), none, none, none, none, some (vI l5), some (vI l6), some (vI l7), some (vI l8), some (vI l9), some (vI l10), none, some (vI l12), none, none]) rfl rfl rfl ?_
        replace F := F _ rfl
        generalize (l11 + 0 : Int32) = v4 at F ⊢
        refine wp_istore (L2 := [some (vR l0), none, none, none, none, some (vI l5), some (vI l6), some (vI l7), some (vI l8), some (vI l9), some (vI l10), some (vI v4), some (vI l12), none, none]) rfl rfl rfl rfl ?_
        refine wp_iinc (y := 1) (L2 := [some (vR l0), none, none, none, none, some (vI l5), some (vI l6), some (vI l7), some (vI l8), some (vI l9), some (vI l10), some (vI v4), some (vI (l12 + 1)), none, none]) rfl rfl rfl rfl rfl ?_
        replace F := F _ rfl
        generalize (l12 + 1 : Int32) = v5 at F ⊢
        refine wp_goto rfl rfl ?_
        exact F
  · replace F := F.2 c
    refine wp_aload' (L' := [some (vR l0), none, none, none, none, some (vI l5), some (vI l6), some (vI l7), some (vI l8), some (vI l9), some (vI l10), some (vI l11), none, none, none]) rfl rfl rfl rfl ?_
    refine wp_getR rfl rfl rfl f0 rfl ?_
    refine wp_iload rfl rfl rfl ?_
    refine wp_iload rfl rfl rfl ?_
    refine wp_iadd rfl rfl ?_
    refine wp_iload rfl rfl rfl ?_
    obtain ⟨f1, F⟩ := F
    obtain ⟨i3, b9, F⟩ := F
    refine wp_iastore rfl f1 b9 rfl ?_
    have f2 : gK (pI h (gR h l0 66) i3 l11) l0 = 14 := (gK_pI _ _ _ _ _).trans f0
    replace F := F _ rfl
    generalize pI h (gR h l0 66) i3 l11 = h0 at F f2 ⊢
    refine wp_aload rfl rfl rfl ?_
    refine wp_getR rfl rfl rfl f2 rfl ?_
    refine wp_iload rfl rfl rfl ?_
    refine wp_iload rfl rfl rfl ?_
    refine wp_iadd rfl rfl ?_
    refine wp_iload rfl rfl rfl ?_
    refine wp_if_ne rfl rfl rfl rfl (fun c => ?_) (fun c => ?_)
    · replace F := F.1 c
      refine wp_const rfl rfl ?_
      refine wp_goto rfl rfl ?_
      obtain ⟨f3, F⟩ := F
      obtain ⟨i4, b9, F⟩ := F
      refine wp_iastore' (L' := [some (vR l0), none, none, none, none, some (vI l5), some (vI l6), some (vI l7), some (vI l8), some (vI l9), some (vI l10), none, none, none, none]) rfl rfl f3 b9 rfl ?_
      have f4 : gK (pI h0 (gR h0 l0 65) i4 0) l0 = 14 := (gK_pI _ _ _ _ _).trans f2
      replace F := F _ rfl
      generalize pI h0 (gR h0 l0 65) i4 0 = h1 at F f4 ⊢
      refine wp_aload rfl rfl rfl ?_
      refine wp_getR rfl rfl rfl f4 rfl ?_
      refine wp_iload rfl rfl rfl ?_
      refine wp_iload rfl rfl rfl ?_
      refine wp_iadd rfl rfl ?_
      refine wp_const rfl rfl ?_
      obtain ⟨f5, F⟩ := F
      obtain ⟨i5, b9, F⟩ := F
      refine wp_zastore rfl f5 b9 rfl ?_
      have f6 : gK (pI h1 (gR h1 l0 67) i5 (0 &&& 1)) l0 = 14 := (gK_pI _ _ _ _ _).trans f4
      replace F := F _ rfl
      generalize pI h1 (gR h1 l0 67) i5 (0 &&& 1) = h2 at F f6 ⊢
      refine wp_iload rfl rfl rfl ?_
      refine wp_aload rfl rfl rfl ?_
      refine wp_iload rfl rfl rfl ?_
      obtain ⟨f7, F⟩ := F
      refine wp_callI rfl rfl rfl (rcv_v f7 f6 (by decide) (by decide)) rfl rfl rfl rfl ?_
      refine CI.mono F (fun y0 h3 F => ?_) (fun _ _ w => rx_I w)
      refine wp_if_eq rfl rfl rfl rfl (fun c => ?_) (fun c => ?_)
      · replace F := F.1 c
        refine wp_const' (L' := [some (vR l0), none, none, none, none, some (vI l5), some (vI l6), some (vI l7), some (vI l8), none, some (vI l10), none, none, none, none]) rfl rfl rfl ?_
        refine wp_isub' (L' := [some (vR l0), none, none, none, none, some (vI l5), some (vI l6), some (vI l7), some (vI l8), none, some (vI l10), none, none, none, none]) rfl rfl rfl ?_
        replace F := F _ rfl
        generalize (l9 - 0 : Int32) = v6 at F ⊢
        refine wp_istore (L2 := [some (vR l0), none, none, none, none, some (vI l5), some (vI l6), some (vI l7), some (vI l8), some (vI v6), some (vI l10), none, none, none, none]) rfl rfl rfl rfl ?_
        refine wp_iinc (y := 1) (L2 := [some (vR l0), none, none, none, none, some (vI l5), some (vI l6), some (vI l7), some (vI l8), some (vI v6), some (vI (l10 + 1)), none, none, none, none]) rfl rfl rfl rfl rfl ?_
        replace F := F _ rfl
        generalize (l10 + 1 : Int32) = v7 at F ⊢
        refine wp_goto rfl rfl ?_
        exact F
      · replace F := F.2 c
        refine wp_aload rfl rfl rfl ?_
        obtain ⟨f8, F⟩ := F
        refine wp_getR rfl rfl rfl f8 rfl ?_
        refine wp_iload rfl rfl rfl ?_
        refine wp_iload rfl rfl rfl ?_
        refine wp_iadd rfl rfl ?_
        obtain ⟨i6, b9, F⟩ := F
        refine wp_iaload rfl b9 rfl ?_
        refine wp_goto rfl rfl ?_
        refine wp_isub' (L' := [some (vR l0), none, none, none, none, some (vI l5), some (vI l6), some (vI l7), some (vI l8), none, some (vI l10), none, none, none, none]) rfl rfl rfl ?_
        replace F := F _ rfl
        generalize (l9 - (gI h3 (gR h3 l0 65) i6) : Int32) = v8 at F ⊢
        refine wp_istore (L2 := [some (vR l0), none, none, none, none, some (vI l5), some (vI l6), some (vI l7), some (vI l8), some (vI v8), some (vI l10), none, none, none, none]) rfl rfl rfl rfl ?_
        refine wp_iinc (y := 1) (L2 := [some (vR l0), none, none, none, none, some (vI l5), some (vI l6), some (vI l7), some (vI l8), some (vI v8), some (vI (l10 + 1)), none, none, none, none]) rfl rfl rfl rfl rfl ?_
        replace F := F _ rfl
        generalize (l10 + 1 : Int32) = v9 at F ⊢
        refine wp_goto rfl rfl ?_
        exact F
    · replace F := F.2 c
      refine wp_iload' (L' := [some (vR l0), none, none, none, none, some (vI l5), some (vI l6), some (vI l7), some (vI l8), some (vI l9), some (vI l10), some (vI l11), none, none, none]) rfl rfl rfl rfl ?_
      refine wp_iload rfl rfl rfl ?_
      refine wp_imul rfl rfl ?_
      refine wp_iload rfl rfl rfl ?_
      refine wp_idiv rfl F.1 rfl ?_
      replace F := F.2
      obtain ⟨f9, F⟩ := F
      obtain ⟨i7, b9, F⟩ := F
      refine wp_iastore' (L' := [some (vR l0), none, none, none, none, some (vI l5), some (vI l6), some (vI l7), some (vI l8), some (vI l9), some (vI l10), none, none, none, none]) rfl rfl f9 b9 rfl ?_
      have f10 : gK (pI h0 (gR h0 l0 65) i7 ((l5 * l11) / l7)) l0 = 14 := (gK_pI _ _ _ _ _).trans f2
      replace F := F _ rfl
      generalize pI h0 (gR h0 l0 65) i7 ((l5 * l11) / l7) = h4 at F f10 ⊢
      refine wp_aload rfl rfl rfl ?_
      refine wp_getR rfl rfl rfl f10 rfl ?_
      refine wp_iload rfl rfl rfl ?_
      refine wp_iload rfl rfl rfl ?_
      refine wp_iadd rfl rfl ?_
      refine wp_const rfl rfl ?_
      obtain ⟨f11, F⟩ := F
      obtain ⟨i8, b9, F⟩ := F
      refine wp_zastore rfl f11 b9 rfl ?_
      have f12 : gK (pI h4 (gR h4 l0 67) i8 (0 &&& 1)) l0 = 14 := (gK_pI _ _ _ _ _).trans f10
      replace F := F _ rfl
      generalize pI h4 (gR h4 l0 67) i8 (0 &&& 1) = h5 at F f12 ⊢
      refine wp_iload rfl rfl rfl ?_
      refine wp_aload rfl rfl rfl ?_
      refine wp_iload rfl rfl rfl ?_
      obtain ⟨f13, F⟩ := F
      refine wp_callI rfl rfl rfl (rcv_v f13 f12 (by decide) (by decide)) rfl rfl rfl rfl ?_
      refine CI.mono F (fun y1 h6 F => ?_) (fun _ _ w => rx_I w)
      refine wp_if_eq rfl rfl rfl rfl (fun c => ?_) (fun c => ?_)
      · replace F := F.1 c
        refine wp_const' (L' := [some (vR l0), none, none, none, none, some (vI l5), some (vI l6), some (vI l7), some (vI l8), none, some (vI l10), none, none, none, none]) rfl rfl rfl ?_
        refine wp_isub' (L' := [some (vR l0), none, none, none, none, some (vI l5), some (vI l6), some (vI l7), some (vI l8), none, some (vI l10), none, none, none, none]) rfl rfl rfl ?_
        replace F := F _ rfl
        generalize (l9 - 0 : Int32) = v10 at F ⊢
        refine wp_istore (L2 := [some (vR l0), none, none, none, none, some (vI l5), some (vI l6), some (vI l7), some (vI l8), some (vI v10), some (vI l10), none, none, none, none]) rfl rfl rfl rfl ?_
        refine wp_iinc (y := 1) (L2 := [some (vR l0), none, none, none, none, some (vI l5), some (vI l6), some (vI l7), some (vI l8), some (vI v10), some (vI (l10 + 1)), none, none, none, none]) rfl rfl rfl rfl rfl ?_
        replace F := F _ rfl
        generalize (l10 + 1 : Int32) = v11 at F ⊢
        refine wp_goto rfl rfl ?_
        exact F
      · replace F := F.2 c
        refine wp_aload rfl rfl rfl ?_
        obtain ⟨f14, F⟩ := F
        refine wp_getR rfl rfl rfl f14 rfl ?_
        refine wp_iload rfl rfl rfl ?_
        refine wp_iload rfl rfl rfl ?_
        refine wp_iadd rfl rfl ?_
        obtain ⟨i9, b9, F⟩ := F
        refine wp_iaload rfl b9 rfl ?_
        refine wp_goto rfl rfl ?_
        refine wp_isub' (L' := [some (vR l0), none, none, none, none, some (vI l5), some (vI l6), some (vI l7), some (vI l8), none, some (vI l10), none, none, none, none]) rfl rfl rfl ?_
        replace F := F _ rfl
        generalize (l9 - (gI h6 (gR h6 l0 65) i9) : Int32) = v12 at F ⊢
        refine wp_istore (L2 := [some (vR l0), none, none, none, none, some (vI l5), some (vI l6), some (vI l7), some (vI l8), some (vI v12), some (vI l10), none, none, none, none]) rfl rfl rfl rfl ?_
        refine wp_iinc (y := 1) (L2 := [some (vR l0), none, none, none, none, some (vI l5), some (vI l6), some (vI l7), some (vI l8), some (vI v12), some (vI (l10 + 1)), none, none, none, none]) rfl rfl rfl rfl rfl ?_
        replace F := F _ rfl
        generalize (l10 + 1 : Int32) = v13 at F ⊢
        refine wp_goto rfl rfl ?_
        exact F
theorem w241_372 {d : Nat} {l0 : Nat} {l5 : Int32} {l6 : Int32} {l7 : Int32} {l8 : Int32} {l9 : Int32} {l10 : Int32} {h : aH} {K : Int32 → aH → Prop} {X : Nat → aH → Prop} (F : gK h l0 = 14 ∧ ((l10.toInt < (gI h l0 2).toInt → Wp (d + 1) 241 (387, [some (vR l0), none, none, none, none, some (vI l5), some (vI l6), some (vI l7), some (vI l8), some (vI l9), some (vI l10), some (vI 0), some (vI 0), none, none], [], h) (RI K X)) ∧ (¬ l10.toInt < (gI h l0 2).toInt → Wp (d + 1) 241 (563, [some (vR l0), none, none, none, none, none, some (vI l6), none, some (vI l8), none, some (vI 0), none, none, none, none], [], h) (RI K X)))) : Wp (d + 1) 241 (372, [some (vR l0), none, none, none, none, some (vI l5), some (vI l6), some (vI l7), some (vI l8), some (vI l9), some (vI l10), none, none, none, none], [], h) (RI K X) := by
  refine wp_iload' (L' := [some (vR l0), none, none, none, none, some (vI l5), some (vI l6), some (vI l7), some (vI l8), some (vI l9), some (vI l10), none, none, none, none]) rfl rfl rfl rfl ?_
  refine wp_aload rfl rfl rfl ?_
  obtain ⟨f0, F⟩ := F
  refine wp_getI rfl rfl rfl f0 rfl ?_
  refine wp_icmp_ge rfl rfl rfl rfl rfl (fun c => ?_) (fun c => ?_)
  · replace F := F.1 c
    refine wp_const rfl rfl ?_
    refine wp_istore (L2 := [some (vR l0), none, none, none, none, some (vI l5), some (vI l6), some (vI l7), some (vI l8), some (vI l9), some (vI l10), some (vI 0), none, none, none]) rfl rfl rfl rfl ?_
    refine wp_const rfl rfl ?_
    refine wp_istore (L2 := [some (vR l0), none, none, none, none, some (vI l5), some (vI l6), some (vI l7), some (vI l8), some (vI l9), some (vI l10), some (vI 0), some (vI 0), none, none]) rfl rfl rfl rfl ?_
    exact F
  · replace F := F.2 c
    refine wp_const' (L' := [some (vR l0), none, none, none, none, none, some (vI l6), none, some (vI l8), none, none, none, none, none, none]) rfl rfl rfl ?_
    refine wp_istore (L2 := [some (vR l0), none, none, none, none, none, some (vI l6), none, some (vI l8), none, some (vI 0), none, none, none, none]) rfl rfl rfl rfl ?_
    exact F
theorem w241_387 {d : Nat} {l0 : Nat} {l5 : Int32} {l6 : Int32} {l7 : Int32} {l8 : Int32} {l9 : Int32} {l10 : Int32} {l11 : Int32} {l12 : Int32} {h : aH} {K : Int32 → aH → Prop} {X : Nat → aH → Prop} (F : gK h l0 = 14 ∧ ((l12.toInt < (gI h l0 2).toInt → ∃ i0 : Nat, inB h 100 (gR h l0 68) l10 i0 ∧ (((gI h (gR h l0 68) i0).toInt = (-2000000) → ∀ v0 : Int32, v0 = l8 + l10 → ∃ i1 : Nat, inB h 100 (gR h l0 65) v0 i1 ∧ ∃ i2 : Nat, inB h 100 (gR h l0 68) l10 i2 ∧ (((gI h (gR h l0 68) i2).toInt = (-2000000) → 8 ≤ (gR h l0 65) ∧ ∃ i3 : Nat, inB h 100 (gR h l0 65) v0 i3 ∧ ∀ h0 : aH, h0 = pI h (gR h l0 65) i3 ((gI h (gR h l0 65) i1) + 0) → ∀ v1 : Int32, v1 = l10 + 1 → Wp (d + 1) 241 (372, [some (vR l0), none, none, none, none, some (vI l5), some (vI l6), some (vI l7), some (vI l8), some (vI l9), some (vI v1), none, none, none, none], [], h0) (RI K X)) ∧ (¬ (gI h (gR h l0 68) i2).toInt = (-2000000) → ((l11.toInt < l9.toInt → 8 ≤ (gR h l0 65) ∧ ∃ i4 : Nat, inB h 100 (gR h l0 65) v0 i4 ∧ ∀ h1 : aH, h1 = pI h (gR h l0 65) i4 ((gI h (gR h l0 65) i1) + 1) → ∀ v2 : Int32, v2 = l10 + 1 → Wp (d + 1) 241 (372, [some (vR l0), none, none, none, none, some (vI l5), some (vI l6), some (vI l7), some (vI l8), some (vI l9), some (vI v2), none, none, none, none], [], h1) (RI K X)) ∧ (¬ l11.toInt < l9.toInt → 8 ≤ (gR h l0 65) ∧ ∃ i5 : Nat, inB h 100 (gR h l0 65) v0 i5 ∧ ∀ h2 : aH, h2 = pI h (gR h l0 65) i5 ((gI h (gR h l0 65) i1) + 0) → ∀ v3 : Int32, v3 = l10 + 1 → Wp (d + 1) 241 (372, [some (vR l0), none, none, none, none, some (vI l5), some (vI l6), some (vI l7), some (vI l8), some (vI l9), some (vI v3), none, none, none, none], [], h2) (RI K X)))))) ∧ (¬ (gI h (gR h l0 68) i0).toInt = (-2000000) → ∃ i6 : Nat, inB h 100 (gR h l0 66) (l8 + l12) i6 ∧ (¬ l7 = 0) ∧ ∀ v4 : Int32, v4 = aIrem (l5 * (gI h (gR h l0 66) i6)) l7 → ∃ i7 : Nat, inB h 100 (gR h l0 66) (l8 + l10) i7 ∧ (¬ l7 = 0) ∧ ∀ v5 : Int32, v5 = aIrem (l5 * (gI h (gR h l0 66) i7)) l7 → 8 ≤ l0 ∧ CI d 238 [vR l0, vI l12] h (fun y0 h3 => ((y0.toInt = 0 → ∀ v6 : Int32, v6 = l11 + 0 → ∀ v7 : Int32, v7 = l12 + 1 → Wp (d + 1) 241 (387, [some (vR l0), none, none, none, none, some (vI l5), some (vI l6), some (vI l7), some (vI l8), some (vI l9), some (vI l10), some (vI v6), some (vI v7), none, none], [], h3) (RI K X)) ∧ (¬ y0.toInt = 0 → gK h3 l0 = 14 ∧ ∃ i8 : Nat, inB h3 100 (gR h3 l0 68) l12 i8 ∧ ∃ i9 : Nat, inB h3 100 (gR h3 l0 68) l10 i9 ∧ (((gI h3 (gR h3 l0 68) i8).toInt = (gI h3 (gR h3 l0 68) i9).toInt → ∀ v8 : Int32, v8 = l11 + 0 → ∀ v9 : Int32, v9 = l12 + 1 → Wp (d + 1) 241 (387, [some (vR l0), none, none, none, none, some (vI l5), some (vI l6), some (vI l7), some (vI l8), some (vI l9), some (vI l10), some (vI v8), some (vI v9), none, none], [], h3) (RI K X)) ∧ (¬ (gI h3 (gR h3 l0 68) i8).toInt = (gI h3 (gR h3 l0 68) i9).toInt → ((v5.toInt < v4.toInt → ∀ v10 : Int32, v10 = l11 + 1 → ∀ v11 : Int32, v11 = l12 + 1 → Wp (d + 1) 241 (387, [some (vR l0), none, none, none, none, some (vI l5), some (vI l6), some (vI l7), some (vI l8), some (vI l9), some (vI l10), some (vI v10), some (vI v11), none, none], [], h3) (RI K X)) ∧ (¬ v5.toInt < v4.toInt → ((v4.toInt = v5.toInt → ∃ i10 : Nat, inB h3 100 (gR h3 l0 68) l12 i10 ∧ ∃ i11 : Nat, inB h3 100 (gR h3 l0 68) l10 i11 ∧ (((gI h3 (gR h3 l0 68) i10).toInt < (gI h3 (gR h3 l0 68) i11).toInt → ∀ v12 : Int32, v12 = l11 + 1 → ∀ v13 : Int32, v13 = l12 + 1 → Wp (d + 1) 241 (387, [some (vR l0), none, none, none, none, some (vI l5), some (vI l6), some (vI l7), some (vI l8), some (vI l9), some (vI l10), some (vI v12), some (vI v13), none, none], [], h3) (RI K X)) ∧ (¬ (gI h3 (gR h3 l0 68) i10).toInt < (gI h3 (gR h3 l0 68) i11).toInt → ∀ v14 : Int32, v14 = l11 + 0 → ∀ v15 : Int32, v15 = l12 + 1 → Wp (d + 1) 241 (387, [some (vR l0), none, none, none, none, some (vI l5), some (vI l6), some (vI l7), some (vI l8), some (vI l9), some (vI l10), some (vI v14), some (vI v15), none, none], [], h3) (RI K X)))) ∧ (¬ v4.toInt = v5.toInt → ∀ v16 : Int32, v16 = l11 + 0 → ∀ v17 : Int32, v17 = l12 + 1 → Wp (d + 1) 241 (387, [some (vR l0), none, none, none, none, some (vI l5), some (vI l6), some (vI l7), some (vI l8), some (vI l9), some (vI l10), some (vI v16), some (vI v17), none, none], [], h3) (RI K X)))))))))) X))) ∧ (¬ l12.toInt < (gI h l0 2).toInt → ∀ v18 : Int32, v18 = l8 + l10 → ∃ i12 : Nat, inB h 100 (gR h l0 65) v18 i12 ∧ ∃ i13 : Nat, inB h 100 (gR h l0 68) l10 i13 ∧ (((gI h (gR h l0 68) i13).toInt = (-2000000) → 8 ≤ (gR h l0 65) ∧ ∃ i14 : Nat, inB h 100 (gR h l0 65) v18 i14 ∧ ∀ h4 : aH, h4 = pI h (gR h l0 65) i14 ((gI h (gR h l0 65) i12) + 0) → ∀ v19 : Int32, v19 = l10 + 1 → Wp (d + 1) 241 (372, [some (vR l0), none, none, none, none, some (vI l5), some (vI l6), some (vI l7), some (vI l8), some (vI l9), some (vI v19), none, none, none, none], [], h4) (RI K X)) ∧ (¬ (gI h (gR h l0 68) i13).toInt = (-2000000) → ((l11.toInt < l9.toInt → 8 ≤ (gR h l0 65) ∧ ∃ i15 : Nat, inB h 100 (gR h l0 65) v18 i15 ∧ ∀ h5 : aH, h5 = pI h (gR h l0 65) i15 ((gI h (gR h l0 65) i12) + 1) → ∀ v20 : Int32, v20 = l10 + 1 → Wp (d + 1) 241 (372, [some (vR l0), none, none, none, none, some (vI l5), some (vI l6), some (vI l7), some (vI l8), some (vI l9), some (vI v20), none, none, none, none], [], h5) (RI K X)) ∧ (¬ l11.toInt < l9.toInt → 8 ≤ (gR h l0 65) ∧ ∃ i16 : Nat, inB h 100 (gR h l0 65) v18 i16 ∧ ∀ h6 : aH, h6 = pI h (gR h l0 65) i16 ((gI h (gR h l0 65) i12) + 0) → ∀ v21 : Int32, v21 = l10 + 1 → Wp (d + 1) 241 (372, [some (vR l0), none, none, none, none, some (vI l5), some (vI l6), some (vI l7), some (vI l8), some (vI l9), some (vI v21), none, none, none, none], [], h6) (RI K X)))))))) : Wp (d + 1) 241 (387, [some (vR l0), none, none, none, none, some (vI l5), some (vI l6), some (vI l7), some (vI l8), some (vI l9), some (vI l10), some (vI l11), some (vI l12), none, none], [], h) (RI K X) := by
  refine wp_iload' (L' := [some (vR l0), none, none, none, none, some (vI l5), some (vI l6), some (vI l7), some (vI l8), some (vI l9), some (vI l10), some (vI l11), some (vI l12), none, none]) rfl rfl rfl rfl ?_
  refine wp_aload rfl rfl rfl ?_
  obtain ⟨f0, F⟩ := F
  refine wp_getI rfl rfl rfl f0 rfl ?_
  refine wp_icmp_ge rfl rfl rfl rfl rfl (fun c => ?_) (fun c => ?_)
  · replace F := F.1 c
    refine wp_aload rfl rfl rfl ?_
    refine wp_getR rfl rfl rfl f0 rfl ?_
    refine wp_iload rfl rfl rfl ?_
    obtain ⟨i0, b9, F⟩ := F
    refine wp_iaload rfl b9 rfl ?_
    refine wp_const rfl rfl ?_
    refine wp_icmp_eq (Y := (-2000000)) rfl rfl rfl rfl rfl (fun c => ?_) (fun c => ?_)
    · replace F := F.1 c
      refine wp_aload' (L' := [some (vR l0), none, none, none, none, some (vI l5), some (vI l6), some (vI l7), some (vI l8), some (vI l9), some (vI l10), some (vI l11), none, none, none]) rfl rfl rfl rfl ?_
      refine wp_getR rfl rfl rfl f0 rfl ?_
      refine wp_iload rfl rfl rfl ?_
      refine wp_iload rfl rfl rfl ?_
      refine wp_iadd rfl rfl ?_
      replace F := F _ rfl
      generalize (l8 + l10 : Int32) = v0 at F ⊢
      refine wp_dup2 rfl rfl rfl rfl ?_
      obtain ⟨i1, b9, F⟩ := F
      refine wp_iaload rfl b9 rfl ?_
      refine wp_aload rfl rfl rfl ?_
      refine wp_getR rfl rfl rfl f0 rfl ?_
      refine wp_iload rfl rfl rfl ?_
      obtain ⟨i2, b9, F⟩ := F
      refine wp_iaload rfl b9 rfl ?_
      refine wp_const rfl rfl ?_
      refine wp_icmp_eq (Y := (-2000000)) rfl rfl rfl rfl rfl (fun c => ?_) (fun c => ?_)
      · replace F := F.1 c
        refine wp_const' (L' := [some (vR l0), none, none, none, none, some (vI l5), some (vI l6), some (vI l7), some (vI l8), some (vI l9), some (vI l10), none, none, none, none]) rfl rfl rfl ?_
        refine wp_iadd' (L' := [some (vR l0), none, none, none, none, some (vI l5), some (vI l6), some (vI l7), some (vI l8), some (vI l9), some (vI l10), none, none, none, none]) rfl rfl rfl ?_
        obtain ⟨f1, F⟩ := F
        obtain ⟨i3, b9, F⟩ := F
        refine wp_iastore rfl f1 b9 rfl ?_
        have f2 : gK (pI h (gR h l0 65) i3 ((gI h (gR h l0 65) i1) + 0)) l0 = 14 := (gK_pI _ _ _ _ _).trans f0
        replace F := F _ rfl
        generalize pI h (gR h l0 65) i3 ((gI h (gR h l0 65) i1) + 0) = h0 at F f2 ⊢
        refine wp_iinc (y := 1) (L2 := [some (vR l0), none, none, none, none, some (vI l5), some (vI l6), some (vI l7), some (vI l8), some (vI l9), some (vI (l10 + 1)), none, none, none, none]) rfl rfl rfl rfl rfl ?_
        replace F := F _ rfl
        generalize (l10 + 1 : Int32) = v1 at F ⊢
        refine wp_goto rfl rfl ?_
        exact F
      · replace F := F.2 c
        refine wp_iload rfl rfl rfl ?_
        refine wp_iload rfl rfl rfl ?_
        refine wp_icmp_ge rfl rfl rfl rfl rfl (fun c => ?_) (fun c => ?_)
        · replace F := F.1 c
          refine wp_const rfl rfl ?_
          refine wp_goto rfl rfl ?_
          refine wp_iadd' (L' := [some (vR l0), none, none, none, none, some (vI l5), some (vI l6), some (vI l7), some (vI l8), some (vI l9), some (vI l10), none, none, none, none]) rfl rfl rfl ?_
          obtain ⟨f3, F⟩ := F
          obtain ⟨i4, b9, F⟩ := F
          refine wp_iastore rfl f3 b9 rfl ?_
          have f4 : gK (pI h (gR h l0 65) i4 ((gI h (gR h l0 65) i1) + 1)) l0 = 14 := (gK_pI _ _ _ _ _).trans f0
          replace F := F _ rfl
          generalize pI h (gR h l0 65) i4 ((gI h (gR h l0 65) i1) + 1) = h1 at F f4 ⊢
          refine wp_iinc (y := 1) (L2 := [some (vR l0), none, none, none, none, some (vI l5), some (vI l6), some (vI l7), some (vI l8), some (vI l9), some (vI (l10 + 1)), none, none, none, none]) rfl rfl rfl rfl rfl ?_
          replace F := F _ rfl
          generalize (l10 + 1 : Int32) = v2 at F ⊢
          refine wp_goto rfl rfl ?_
          exact F
        · replace F := F.2 c
          refine wp_const' (L' := [some (vR l0), none, none, none, none, some (vI l5), some (vI l6), some (vI l7), some (vI l8), some (vI l9), some (vI l10), none, none, none, none]) rfl rfl rfl ?_
          refine wp_iadd' (L' := [some (vR l0), none, none, none, none, some (vI l5), some (vI l6), some (vI l7), some (vI l8), some (vI l9), some (vI l10), none, none, none, none]) rfl rfl rfl ?_
          obtain ⟨f5, F⟩ := F
          obtain ⟨i5, b9, F⟩ := F
          refine wp_iastore rfl f5 b9 rfl ?_
          have f6 : gK (pI h (gR h l0 65) i5 ((gI h (gR h l0 65) i1) + 0)) l0 = 14 := (gK_pI _ _ _ _ _).trans f0
          replace F := F _ rfl
          generalize pI h (gR h l0 65) i5 ((gI h (gR h l0 65) i1) + 0) = h2 at F f6 ⊢
          refine wp_iinc (y := 1) (L2 := [some (vR l0), none, none, none, none, some (vI l5), some (vI l6), some (vI l7), some (vI l8), some (vI l9), some (vI (l10 + 1)), none, none, none, none]) rfl rfl rfl rfl rfl ?_
          replace F := F _ rfl
          generalize (l10 + 1 : Int32) = v3 at F ⊢
          refine wp_goto rfl rfl ?_
          exact F
    · replace F := F.2 c
      refine wp_iload rfl rfl rfl ?_
      refine wp_aload rfl rfl rfl ?_
      refine wp_getR rfl rfl rfl f0 rfl ?_
      refine wp_iload rfl rfl rfl ?_
      refine wp_iload rfl rfl rfl ?_
      refine wp_iadd rfl rfl ?_
      obtain ⟨i6, b9, F⟩ := F
      refine wp_iaload rfl b9 rfl ?_
      refine wp_imul rfl rfl ?_
      refine wp_iload rfl rfl rfl ?_
      refine wp_irem rfl F.1 rfl ?_
      replace F := F.2
      replace F := F _ rfl
      generalize (aIrem (l5 * (gI h (gR h l0 66) i6)) l7 : Int32) = v4 at F ⊢
      refine wp_istore (L2 := [some (vR l0), none, none, none, none, some (vI l5), some (vI l6), some (vI l7), some (vI l8), some (vI l9), some (vI l10), some (vI l11), some (vI l12), some (vI v4), none]) rfl rfl rfl rfl ?_
      refine wp_iload rfl rfl rfl ?_
      refine wp_aload rfl rfl rfl ?_
      refine wp_getR rfl rfl rfl f0 rfl ?_
      refine wp_iload rfl rfl rfl ?_
      refine wp_iload rfl rfl rfl ?_
      refine wp_iadd rfl rfl ?_
      obtain ⟨i7, b9, F⟩ := F
      refine wp_iaload rfl b9 rfl ?_
      refine wp_imul rfl rfl ?_
      refine wp_iload rfl rfl rfl ?_
      refine wp_irem rfl F.1 rfl ?_
      replace F := F.2
      replace F := F _ rfl
      generalize (aIrem (l5 * (gI h (gR h l0 66) i7)) l7 : Int32) = v5 at F ⊢
      refine wp_istore (L2 := [some (vR l0), none, none, none, none, some (vI l5), some (vI l6), some (vI l7), some (vI l8), some (vI l9), some (vI l10), some (vI l11), some (vI l12), some (vI v4), some (vI v5)]) rfl rfl rfl rfl ?_
      refine wp_iload rfl rfl rfl ?_
      refine wp_aload rfl rfl rfl ?_
      refine wp_iload rfl rfl rfl ?_
      obtain ⟨f7, F⟩ := F
      refine wp_callI rfl rfl rfl (rcv_v f7 f0 (by decide) (by decide)) rfl rfl rfl rfl ?_
      refine CI.mono F (fun y0 h3 F => ?_) (fun _ _ w => rx_I w)
      refine wp_if_eq rfl rfl rfl rfl (fun c => ?_) (fun c => ?_)
      · replace F := F.1 c
        refine wp_const' (L' := [some (vR l0), none, none, none, none, some (vI l5), some (vI l6), some (vI l7), some (vI l8), some (vI l9), some (vI l10), none, some (vI l12), none, none]) rfl rfl rfl ?_
        refine wp_iadd' (L' := [some (vR l0), none, none, none, none, some (vI l5), some (vI l6), some (vI l7), some (vI l8), some (vI l9), some (vI l10), none, some (vI l12), none, none]) rfl rfl rfl ?_
        replace F := F _ rfl
        generalize (l11 + 0 : Int32) = v6 at F ⊢
        refine wp_istore (L2 := [some (vR l0), none, none, none, none, some (vI l5), some (vI l6), some (vI l7), some (vI l8), some (vI l9), some (vI l10), some (vI v6), some (vI l12), none, none]) rfl rfl rfl rfl ?_
        refine wp_iinc (y := 1) (L2 := [some (vR l0), none, none, none, none, some (vI l5), some (vI l6), some (vI l7), some (vI l8), some (vI l9), some (vI l10), some (vI v6), some (vI (l12 + 1)), none, none]) rfl rfl rfl rfl rfl ?_
        replace F := F _ rfl
        generalize (l12 + 1 : Int32) = v7 at F ⊢
        refine wp_goto rfl rfl ?_
        exact F
      · replace F := F.2 c
        refine wp_aload rfl rfl rfl ?_
        obtain ⟨f8, F⟩ := F
        refine wp_getR rfl rfl rfl f8 rfl ?_
        refine wp_iload rfl rfl rfl ?_
        obtain ⟨i8, b9, F⟩ := F
        refine wp_iaload rfl b9 rfl ?_
        refine wp_aload rfl rfl rfl ?_
        refine wp_getR rfl rfl rfl f8 rfl ?_
        refine wp_iload rfl rfl rfl ?_
        obtain ⟨i9, b9, F⟩ := F
        refine wp_iaload rfl b9 rfl ?_
        refine wp_icmp_eq rfl rfl rfl rfl rfl (fun c => ?_) (fun c => ?_)
        · replace F := F.1 c
          refine wp_const' (L' := [some (vR l0), none, none, none, none, some (vI l5), some (vI l6), some (vI l7), some (vI l8), some (vI l9), some (vI l10), none, some (vI l12), none, none]) rfl rfl rfl ?_
          refine wp_iadd' (L' := [some (vR l0), none, none, none, none, some (vI l5), some (vI l6), some (vI l7), some (vI l8), some (vI l9), some (vI l10), none, some (vI l12), none, none]) rfl rfl rfl ?_
          replace F := F _ rfl
          generalize (l11 + 0 : Int32) = v8 at F ⊢
          refine wp_istore (L2 := [some (vR l0), none, none, none, none, some (vI l5), some (vI l6), some (vI l7), some (vI l8), some (vI l9), some (vI l10), some (vI v8), some (vI l12), none, none]) rfl rfl rfl rfl ?_
          refine wp_iinc (y := 1) (L2 := [some (vR l0), none, none, none, none, some (vI l5), some (vI l6), some (vI l7), some (vI l8), some (vI l9), some (vI l10), some (vI v8), some (vI (l12 + 1)), none, none]) rfl rfl rfl rfl rfl ?_
          replace F := F _ rfl
          generalize (l12 + 1 : Int32) = v9 at F ⊢
          refine wp_goto rfl rfl ?_
          exact F
        · replace F := F.2 c
          refine wp_iload rfl rfl rfl ?_
          refine wp_iload rfl rfl rfl ?_
          refine wp_icmp_gt rfl rfl rfl rfl rfl (fun c => ?_) (fun c => ?_)
          · replace F := F.1 c
            refine wp_const' (L' := [some (vR l0), none, none, none, none, some (vI l5), some (vI l6), some (vI l7), some (vI l8), some (vI l9), some (vI l10), none, some (vI l12), none, none]) rfl rfl rfl ?_
            refine wp_goto rfl rfl ?_
            refine wp_iadd' (L' := [some (vR l0), none, none, none, none, some (vI l5), some (vI l6), some (vI l7), some (vI l8), some (vI l9), some (vI l10), none, some (vI l12), none, none]) rfl rfl rfl ?_
            replace F := F _ rfl
            generalize (l11 + 1 : Int32) = v10 at F ⊢
            refine wp_istore (L2 := [some (vR l0), none, none, none, none, some (vI l5), some (vI l6), some (vI l7), some (vI l8), some (vI l9), some (vI l10), some (vI v10), some (vI l12), none, none]) rfl rfl rfl rfl ?_
            refine wp_iinc (y := 1) (L2 := [some (vR l0), none, none, none, none, some (vI l5), some (vI l6), some (vI l7), some (vI l8), some (vI l9), some (vI l10), some (vI v10), some (vI (l12 + 1)), none, none]) rfl rfl rfl rfl rfl ?_
            replace F := F _ rfl
            generalize (l12 + 1 : Int32) = v11 at F ⊢
            refine wp_goto rfl rfl ?_
            exact F
          · replace F := F.2 c
            refine wp_iload rfl rfl rfl ?_
            refine wp_iload rfl rfl rfl ?_
            refine wp_icmp_ne rfl rfl rfl rfl rfl (fun c => ?_) (fun c => ?_)
            · replace F := F.1 c
              refine wp_aload rfl rfl rfl ?_
              refine wp_getR rfl rfl rfl f8 rfl ?_
              refine wp_iload rfl rfl rfl ?_
              obtain ⟨i10, b9, F⟩ := F
              refine wp_iaload rfl b9 rfl ?_
              refine wp_aload rfl rfl rfl ?_
              refine wp_getR rfl rfl rfl f8 rfl ?_
              refine wp_iload rfl rfl rfl ?_
              obtain ⟨i11, b9, F⟩ := F
              refine wp_iaload rfl b9 rfl ?_
              refine wp_icmp_ge rfl rfl rfl rfl rfl (fun c => ?_) (fun c => ?_)
              · replace F := F.1 c
                refine wp_const' (L' := [some (vR l0), none, none, none, none, some (vI l5), some (vI l6), some (vI l7), some (vI l8), some (vI l9), some (vI l10), none, some (vI l12), none, none]) rfl rfl rfl ?_
                refine wp_goto rfl rfl ?_
                refine wp_iadd' (L' := [some (vR l0), none, none, none, none, some (vI l5), some (vI l6), some (vI l7), some (vI l8), some (vI l9), some (vI l10), none, some (vI l12), none, none]) rfl rfl rfl ?_
                replace F := F _ rfl
                generalize (l11 + 1 : Int32) = v12 at F ⊢
                refine wp_istore (L2 := [some (vR l0), none, none, none, none, some (vI l5), some (vI l6), some (vI l7), some (vI l8), some (vI l9), some (vI l10), some (vI v12), some (vI l12), none, none]) rfl rfl rfl rfl ?_
                refine wp_iinc (y := 1) (L2 := [some (vR l0), none, none, none, none, some (vI l5), some (vI l6), some (vI l7), some (vI l8), some (vI l9), some (vI l10), some (vI v12), some (vI (l12 + 1)), none, none]) rfl rfl rfl rfl rfl ?_
                replace F := F _ rfl
                generalize (l12 + 1 : Int32) = v13 at F ⊢
                refine wp_goto rfl rfl ?_
                exact F
              · replace F := F.2 c
                refine wp_const' (L' := [some (vR l0), none, none, none, none, some (vI l5), some (vI l6), some (vI l7), some (vI l8), some (vI l9), some (vI l10), none, some (vI l12), none, none]) rfl rfl rfl ?_
                refine wp_iadd' (L' := [some (vR l0), none, none, none, none, some (vI l5), some (vI l6), some (vI l7), some (vI l8), some (vI l9), some (vI l10), none, some (vI l12), none, none]) rfl rfl rfl ?_
                replace F := F _ rfl
                generalize (l11 + 0 : Int32) = v14 at F ⊢
                refine wp_istore (L2 := [some (vR l0), none, none, none, none, some (vI l5), some (vI l6), some (vI l7), some (vI l8), some (vI l9), some (vI l10), some (vI v14), some (vI l12), none, none]) rfl rfl rfl rfl ?_
                refine wp_iinc (y := 1) (L2 := [some (vR l0), none, none, none, none, some (vI l5), some (vI l6), some (vI l7), some (vI l8), some (vI l9), some (vI l10), some (vI v14), some (vI (l12 + 1)), none, none]) rfl rfl rfl rfl rfl ?_
                replace F := F _ rfl
                generalize (l12 + 1 : Int32) = v15 at F ⊢
                refine wp_goto rfl rfl ?_
                exact F
            · replace F := F.2 c
              refine wp_const' (L' := [some (vR l0), none, none, none, none, some (vI l5), some (vI l6), some (vI l7), some (vI l8), some (vI l9), some (vI l10), none, some (vI l12), none, none]) rfl rfl rfl ?_
              refine wp_iadd' (L' := [some (vR l0), none, none, none, none, some (vI l5), some (vI l6), some (vI l7), some (vI l8), some (vI l9), some (vI l10), none, some (vI l12), none, none]) rfl rfl rfl ?_
              replace F := F _ rfl
              generalize (l11 + 0 : Int32) = v16 at F ⊢
              refine wp_istore (L2 := [some (vR l0), none, none, none, none, some (vI l5), some (vI l6), some (vI l7), some (vI l8), some (vI l9), some (vI l10), some (vI v16), some (vI l12), none, none]) rfl rfl rfl rfl ?_
              refine wp_iinc (y := 1) (L2 := [some (vR l0), none, none, none, none, some (vI l5), some (vI l6), some (vI l7), some (vI l8), some (vI l9), some (vI l10), some (vI v16), some (vI (l12 + 1)), none, none]) rfl rfl rfl rfl rfl ?_
              replace F := F _ rfl
              generalize (l12 + 1 : Int32) = v17 at F ⊢
              refine wp_goto rfl rfl ?_
              exact F
  · replace F := F.2 c
    refine wp_aload' (L' := [some (vR l0), none, none, none, none, some (vI l5), some (vI l6), some (vI l7), some (vI l8), some (vI l9), some (vI l10), some (vI l11), none, none, none]) rfl rfl rfl rfl ?_
    refine wp_getR rfl rfl rfl f0 rfl ?_
    refine wp_iload rfl rfl rfl ?_
    refine wp_iload rfl rfl rfl ?_
    refine wp_iadd rfl rfl ?_
    replace F := F _ rfl
    generalize (l8 + l10 : Int32) = v18 at F ⊢
    refine wp_dup2 rfl rfl rfl rfl ?_
    obtain ⟨i12, b9, F⟩ := F
    refine wp_iaload rfl b9 rfl ?_
    refine wp_aload rfl rfl rfl ?_
    refine wp_getR rfl rfl rfl f0 rfl ?_
    refine wp_iload rfl rfl rfl ?_
    obtain ⟨i13, b9, F⟩ := F
    refine wp_iaload rfl b9 rfl ?_
    refine wp_const rfl rfl ?_
    refine wp_icmp_eq (Y := (-2000000)) rfl rfl rfl rfl rfl (fun c => ?_) (fun c => ?_)
    · replace F := F.1 c
      refine wp_const' (L' := [some (vR l0), none, none, none, none, some (vI l5), some (vI l6), some (vI l7), some (vI l8), some (vI l9), some (vI l10), none, none, none, none]) rfl rfl rfl ?_
      refine wp_iadd' (L' := [some (vR l0), none, none, none, none, some (vI l5), some (vI l6), some (vI l7), some (vI l8), some (vI l9), some (vI l10), none, none, none, none]) rfl rfl rfl ?_
      obtain ⟨f9, F⟩ := F
      obtain ⟨i14, b9, F⟩ := F
      refine wp_iastore rfl f9 b9 rfl ?_
      have f10 : gK (pI h (gR h l0 65) i14 ((gI h (gR h l0 65) i12) + 0)) l0 = 14 := (gK_pI _ _ _ _ _).trans f0
      replace F := F _ rfl
      generalize pI h (gR h l0 65) i14 ((gI h (gR h l0 65) i12) + 0) = h4 at F f10 ⊢
      refine wp_iinc (y := 1) (L2 := [some (vR l0), none, none, none, none, some (vI l5), some (vI l6), some (vI l7), some (vI l8), some (vI l9), some (vI (l10 + 1)), none, none, none, none]) rfl rfl rfl rfl rfl ?_
      replace F := F _ rfl
      generalize (l10 + 1 : Int32) = v19 at F ⊢
      refine wp_goto rfl rfl ?_
      exact F
    · replace F := F.2 c
      refine wp_iload rfl rfl rfl ?_
      refine wp_iload rfl rfl rfl ?_
      refine wp_icmp_ge rfl rfl rfl rfl rfl (fun c => ?_) (fun c => ?_)
      · replace F := F.1 c
        refine wp_const rfl rfl ?_
        refine wp_goto rfl rfl ?_
        refine wp_iadd' (L' := [some (vR l0), none, none, none, none, some (vI l5), some (vI l6), some (vI l7), some (vI l8), some (vI l9), some (vI l10), none, none, none, none]) rfl rfl rfl ?_
        obtain ⟨f11, F⟩ := F
        obtain ⟨i15, b9, F⟩ := F
        refine wp_iastore rfl f11 b9 rfl ?_
        have f12 : gK (pI h (gR h l0 65) i15 ((gI h (gR h l0 65) i12) + 1)) l0 = 14 := (gK_pI _ _ _ _ _).trans f0
        replace F := F _ rfl
        generalize pI h (gR h l0 65) i15 ((gI h (gR h l0 65) i12) + 1) = h5 at F f12 ⊢
        refine wp_iinc (y := 1) (L2 := [some (vR l0), none, none, none, none, some (vI l5), some (vI l6), some (vI l7), some (vI l8), some (vI l9), some (vI (l10 + 1)), none, none, none, none]) rfl rfl rfl rfl rfl ?_
        replace F := F _ rfl
        generalize (l10 + 1 : Int32) = v20 at F ⊢
        refine wp_goto rfl rfl ?_
        exact F
      · replace F := F.2 c
        refine wp_const' (L' := [some (vR l0), none, none, none, none, some (vI l5), some (vI l6), some (vI l7), some (vI l8), some (vI l9), some (vI l10), none, none, none, none]) rfl rfl rfl ?_
        refine wp_iadd' (L' := [some (vR l0), none, none, none, none, some (vI l5), some (vI l6), some (vI l7), some (vI l8), some (vI l9), some (vI l10), none, none, none, none]) rfl rfl rfl ?_
        obtain ⟨f13, F⟩ := F
        obtain ⟨i16, b9, F⟩ := F
        refine wp_iastore rfl f13 b9 rfl ?_
        have f14 : gK (pI h (gR h l0 65) i16 ((gI h (gR h l0 65) i12) + 0)) l0 = 14 := (gK_pI _ _ _ _ _).trans f0
        replace F := F _ rfl
        generalize pI h (gR h l0 65) i16 ((gI h (gR h l0 65) i12) + 0) = h6 at F f14 ⊢
        refine wp_iinc (y := 1) (L2 := [some (vR l0), none, none, none, none, some (vI l5), some (vI l6), some (vI l7), some (vI l8), some (vI l9), some (vI (l10 + 1)), none, none, none, none]) rfl rfl rfl rfl rfl ?_
        replace F := F _ rfl
        generalize (l10 + 1 : Int32) = v21 at F ⊢
        refine wp_goto rfl rfl ?_
        exact F
theorem w241_563 {d : Nat} {l0 : Nat} {l6 : Int32} {l8 : Int32} {l10 : Int32} {h : aH} {K : Int32 → aH → Prop} {X : Nat → aH → Prop} (F : gK h l0 = 14 ∧ ((l10.toInt < (gI h l0 2).toInt → Wp (d + 1) 241 (578, [some (vR l0), none, none, none, none, none, some (vI l6), none, some (vI l8), none, some (vI l10), some (vI 0), some (vI 0), none, none], [], h) (RI K X)) ∧ (¬ l10.toInt < (gI h l0 2).toInt → 8 ≤ l0 ∧ ∀ h0 : aH, h0 = pI h l0 64 ((gI h l0 64) + 1) → K ((gI h0 l0 64) - 1) h0))) : Wp (d + 1) 241 (563, [some (vR l0), none, none, none, none, none, some (vI l6), none, some (vI l8), none, some (vI l10), none, none, none, none], [], h) (RI K X) := by
  refine wp_iload' (L' := [some (vR l0), none, none, none, none, none, some (vI l6), none, some (vI l8), none, some (vI l10), none, none, none, none]) rfl rfl rfl rfl ?_
  refine wp_aload rfl rfl rfl ?_
  obtain ⟨f0, F⟩ := F
  refine wp_getI rfl rfl rfl f0 rfl ?_
  refine wp_icmp_ge rfl rfl rfl rfl rfl (fun c => ?_) (fun c => ?_)
  · replace F := F.1 c
    refine wp_const rfl rfl ?_
    refine wp_istore (L2 := [some (vR l0), none, none, none, none, none, some (vI l6), none, some (vI l8), none, some (vI l10), some (vI 0), none, none, none]) rfl rfl rfl rfl ?_
    refine wp_const rfl rfl ?_
    refine wp_istore (L2 := [some (vR l0), none, none, none, none, none, some (vI l6), none, some (vI l8), none, some (vI l10), some (vI 0), some (vI 0), none, none]) rfl rfl rfl rfl ?_
    exact F
  · replace F := F.2 c
    refine wp_aload' (L' := [some (vR l0), none, none, none, none, none, none, none, none, none, none, none, none, none, none]) rfl rfl rfl rfl ?_
    refine wp_dup rfl rfl rfl ?_
    refine wp_getI rfl rfl rfl f0 rfl ?_
    refine wp_const rfl rfl ?_
    refine wp_iadd rfl rfl ?_
    obtain ⟨f1, F⟩ := F
    refine wp_putI rfl rfl rfl f1 f0 rfl ?_
    have f2 : gK (pI h l0 64 ((gI h l0 64) + 1)) l0 = 14 := (gK_pI _ _ _ _ _).trans f0
    replace F := F _ rfl
    generalize pI h l0 64 ((gI h l0 64) + 1) = h0 at F f2 ⊢
    refine wp_aload rfl rfl rfl ?_
    refine wp_getI rfl rfl rfl f2 rfl ?_
    refine wp_const rfl rfl ?_
    refine wp_isub rfl rfl ?_
    exact wp_retI rfl (Or.inl rfl) F
theorem w241_578 {d : Nat} {l0 : Nat} {l6 : Int32} {l8 : Int32} {l10 : Int32} {l11 : Int32} {l12 : Int32} {h : aH} {K : Int32 → aH → Prop} {X : Nat → aH → Prop} (F : gK h l0 = 14 ∧ ((l12.toInt < (gI h l0 2).toInt → ∃ i0 : Nat, inB h 100 (gR h l0 68) l10 i0 ∧ (((gI h (gR h l0 68) i0).toInt = (-2000000) → ∀ v0 : Int32, v0 = l11 + 0 → ∀ v1 : Int32, v1 = l12 + 1 → Wp (d + 1) 241 (578, [some (vR l0), none, none, none, none, none, some (vI l6), none, some (vI l8), none, some (vI l10), some (vI v0), some (vI v1), none, none], [], h) (RI K X)) ∧ (¬ (gI h (gR h l0 68) i0).toInt = (-2000000) → ∃ i1 : Nat, inB h 100 (gR h l0 68) l12 i1 ∧ ∃ i2 : Nat, inB h 100 (gR h l0 68) l10 i2 ∧ (((gI h (gR h l0 68) i1).toInt = (gI h (gR h l0 68) i2).toInt → 8 ≤ l0 ∧ CI d 240 [vR l0, vI l6, vI l12, vI l10] h (fun y0 h0 => ((y0.toInt = 0 → ∀ v2 : Int32, v2 = l11 + 0 → ∀ v3 : Int32, v3 = l12 + 1 → Wp (d + 1) 241 (578, [some (vR l0), none, none, none, none, none, some (vI l6), none, some (vI l8), none, some (vI l10), some (vI v2), some (vI v3), none, none], [], h0) (RI K X)) ∧ (¬ y0.toInt = 0 → ∀ v4 : Int32, v4 = l11 + 1 → ∀ v5 : Int32, v5 = l12 + 1 → Wp (d + 1) 241 (578, [some (vR l0), none, none, none, none, none, some (vI l6), none, some (vI l8), none, some (vI l10), some (vI v4), some (vI v5), none, none], [], h0) (RI K X)))) X) ∧ (¬ (gI h (gR h l0 68) i1).toInt = (gI h (gR h l0 68) i2).toInt → ∀ v6 : Int32, v6 = l11 + 0 → ∀ v7 : Int32, v7 = l12 + 1 → Wp (d + 1) 241 (578, [some (vR l0), none, none, none, none, none, some (vI l6), none, some (vI l8), none, some (vI l10), some (vI v6), some (vI v7), none, none], [], h) (RI K X)))))) ∧ (¬ l12.toInt < (gI h l0 2).toInt → ∃ i3 : Nat, inB h 100 (gR h l0 68) l10 i3 ∧ (((gI h (gR h l0 68) i3).toInt = (-2000000) → 8 ≤ (gR h l0 67) ∧ ∃ i4 : Nat, inB h 102 (gR h l0 67) (l8 + l10) i4 ∧ ∀ h1 : aH, h1 = pI h (gR h l0 67) i4 (0 &&& 1) → ∀ v8 : Int32, v8 = l10 + 1 → Wp (d + 1) 241 (563, [some (vR l0), none, none, none, none, none, some (vI l6), none, some (vI l8), none, some (vI v8), none, none, none, none], [], h1) (RI K X)) ∧ (¬ (gI h (gR h l0 68) i3).toInt = (-2000000) → ∃ i5 : Nat, inB h 100 (gR h l0 65) (l8 + l10) i5 ∧ ((l11.toInt < (gI h (gR h l0 65) i5).toInt → 8 ≤ (gR h l0 67) ∧ ∃ i6 : Nat, inB h 102 (gR h l0 67) (l8 + l10) i6 ∧ ∀ h2 : aH, h2 = pI h (gR h l0 67) i6 (1 &&& 1) → ∀ v9 : Int32, v9 = l10 + 1 → Wp (d + 1) 241 (563, [some (vR l0), none, none, none, none, none, some (vI l6), none, some (vI l8), none, some (vI v9), none, none, none, none], [], h2) (RI K X)) ∧ (¬ l11.toInt < (gI h (gR h l0 65) i5).toInt → 8 ≤ (gR h l0 67) ∧ ∃ i7 : Nat, inB h 102 (gR h l0 67) (l8 + l10) i7 ∧ ∀ h3 : aH, h3 = pI h (gR h l0 67) i7 (0 &&& 1) → ∀ v10 : Int32, v10 = l10 + 1 → Wp (d + 1) 241 (563, [some (vR l0), none, none, none, none, none, some (vI l6), none, some (vI l8), none, some (vI v10), none, none, none, none], [], h3) (RI K X)))))))) : Wp (d + 1) 241 (578, [some (vR l0), none, none, none, none, none, some (vI l6), none, some (vI l8), none, some (vI l10), some (vI l11), some (vI l12), none, none], [], h) (RI K X) := by
  refine wp_iload' (L' := [some (vR l0), none, none, none, none, none, some (vI l6), none, some (vI l8), none, some (vI l10), some (vI l11), some (vI l12), none, none]) rfl rfl rfl rfl ?_
  refine wp_aload rfl rfl rfl ?_
  obtain ⟨f0, F⟩ := F
  refine wp_getI rfl rfl rfl f0 rfl ?_
  refine wp_icmp_ge rfl rfl rfl rfl rfl (fun c => ?_) (fun c => ?_)
  · replace F := F.1 c
    refine wp_iload rfl rfl rfl ?_
    refine wp_aload rfl rfl rfl ?_
    refine wp_getR rfl rfl rfl f0 rfl ?_
    refine wp_iload rfl rfl rfl ?_
    obtain ⟨i0, b9, F⟩ := F
    refine wp_iaload rfl b9 rfl ?_
    refine wp_const rfl rfl ?_
    refine wp_icmp_eq (Y := (-2000000)) rfl rfl rfl rfl rfl (fun c => ?_) (fun c => ?_)
    · replace F := F.1 c
      refine wp_const' (L' := [some (vR l0), none, none, none, none, none, some (vI l6), none, some (vI l8), none, some (vI l10), none, some (vI l12), none, none]) rfl rfl rfl ?_
      refine wp_iadd' (L' := [some (vR l0), none, none, none, none, none, some (vI l6), none, some (vI l8), none, some (vI l10), none, some (vI l12), none, none]) rfl rfl rfl ?_
      replace F := F _ rfl
      generalize (l11 + 0 : Int32) = v0 at F ⊢
      refine wp_istore (L2 := [some (vR l0), none, none, none, none, none, some (vI l6), none, some (vI l8), none, some (vI l10), some (vI v0), some (vI l12), none, none]) rfl rfl rfl rfl ?_
      refine wp_iinc (y := 1) (L2 := [some (vR l0), none, none, none, none, none, some (vI l6), none, some (vI l8), none, some (vI l10), some (vI v0), some (vI (l12 + 1)), none, none]) rfl rfl rfl rfl rfl ?_
      replace F := F _ rfl
      generalize (l12 + 1 : Int32) = v1 at F ⊢
      refine wp_goto rfl rfl ?_
      exact F
    · replace F := F.2 c
      refine wp_aload rfl rfl rfl ?_
      refine wp_getR rfl rfl rfl f0 rfl ?_
      refine wp_iload rfl rfl rfl ?_
      obtain ⟨i1, b9, F⟩ := F
      refine wp_iaload rfl b9 rfl ?_
      refine wp_aload rfl rfl rfl ?_
      refine wp_getR rfl rfl rfl f0 rfl ?_
      refine wp_iload rfl rfl rfl ?_
      obtain ⟨i2, b9, F⟩ := F
      refine wp_iaload rfl b9 rfl ?_
      refine wp_icmp_ne rfl rfl rfl rfl rfl (fun c => ?_) (fun c => ?_)
      · replace F := F.1 c
        refine wp_aload rfl rfl rfl ?_
        refine wp_iload rfl rfl rfl ?_
        refine wp_iload rfl rfl rfl ?_
        refine wp_iload rfl rfl rfl ?_
        obtain ⟨f1, F⟩ := F
        refine wp_callI rfl rfl rfl (rcv_v f1 f0 (by decide) (by decide)) rfl rfl rfl rfl ?_
        refine CI.mono F (fun y0 h0 F => ?_) (fun _ _ w => rx_I w)
        refine wp_if_eq rfl rfl rfl rfl (fun c => ?_) (fun c => ?_)
        · replace F := F.1 c
          refine wp_const' (L' := [some (vR l0), none, none, none, none, none, some (vI l6), none, some (vI l8), none, some (vI l10), none, some (vI l12), none, none]) rfl rfl rfl ?_
          refine wp_iadd' (L' := [some (vR l0), none, none, none, none, none, some (vI l6), none, some (vI l8), none, some (vI l10), none, some (vI l12), none, none]) rfl rfl rfl ?_
          replace F := F _ rfl
          generalize (l11 + 0 : Int32) = v2 at F ⊢
          refine wp_istore (L2 := [some (vR l0), none, none, none, none, none, some (vI l6), none, some (vI l8), none, some (vI l10), some (vI v2), some (vI l12), none, none]) rfl rfl rfl rfl ?_
          refine wp_iinc (y := 1) (L2 := [some (vR l0), none, none, none, none, none, some (vI l6), none, some (vI l8), none, some (vI l10), some (vI v2), some (vI (l12 + 1)), none, none]) rfl rfl rfl rfl rfl ?_
          replace F := F _ rfl
          generalize (l12 + 1 : Int32) = v3 at F ⊢
          refine wp_goto rfl rfl ?_
          exact F
        · replace F := F.2 c
          refine wp_const rfl rfl ?_
          refine wp_goto rfl rfl ?_
          refine wp_iadd' (L' := [some (vR l0), none, none, none, none, none, some (vI l6), none, some (vI l8), none, some (vI l10), none, some (vI l12), none, none]) rfl rfl rfl ?_
          replace F := F _ rfl
          generalize (l11 + 1 : Int32) = v4 at F ⊢
          refine wp_istore (L2 := [some (vR l0), none, none, none, none, none, some (vI l6), none, some (vI l8), none, some (vI l10), some (vI v4), some (vI l12), none, none]) rfl rfl rfl rfl ?_
          refine wp_iinc (y := 1) (L2 := [some (vR l0), none, none, none, none, none, some (vI l6), none, some (vI l8), none, some (vI l10), some (vI v4), some (vI (l12 + 1)), none, none]) rfl rfl rfl rfl rfl ?_
          replace F := F _ rfl
          generalize (l12 + 1 : Int32) = v5 at F ⊢
          refine wp_goto rfl rfl ?_
          exact F
      · replace F := F.2 c
        refine wp_const' (L' := [some (vR l0), none, none, none, none, none, some (vI l6), none, some (vI l8), none, some (vI l10), none, some (vI l12), none, none]) rfl rfl rfl ?_
        refine wp_iadd' (L' := [some (vR l0), none, none, none, none, none, some (vI l6), none, some (vI l8), none, some (vI l10), none, some (vI l12), none, none]) rfl rfl rfl ?_
        replace F := F _ rfl
        generalize (l11 + 0 : Int32) = v6 at F ⊢
        refine wp_istore (L2 := [some (vR l0), none, none, none, none, none, some (vI l6), none, some (vI l8), none, some (vI l10), some (vI v6), some (vI l12), none, none]) rfl rfl rfl rfl ?_
        refine wp_iinc (y := 1) (L2 := [some (vR l0), none, none, none, none, none, some (vI l6), none, some (vI l8), none, some (vI l10), some (vI v6), some (vI (l12 + 1)), none, none]) rfl rfl rfl rfl rfl ?_
        replace F := F _ rfl
        generalize (l12 + 1 : Int32) = v7 at F ⊢
        refine wp_goto rfl rfl ?_
        exact F
  · replace F := F.2 c
    refine wp_aload' (L' := [some (vR l0), none, none, none, none, none, some (vI l6), none, some (vI l8), none, some (vI l10), some (vI l11), none, none, none]) rfl rfl rfl rfl ?_
    refine wp_getR rfl rfl rfl f0 rfl ?_
    refine wp_iload rfl rfl rfl ?_
    refine wp_iload rfl rfl rfl ?_
    refine wp_iadd rfl rfl ?_
    refine wp_aload rfl rfl rfl ?_
    refine wp_getR rfl rfl rfl f0 rfl ?_
    refine wp_iload rfl rfl rfl ?_
    obtain ⟨i3, b9, F⟩ := F
    refine wp_iaload rfl b9 rfl ?_
    refine wp_const rfl rfl ?_
    refine wp_icmp_eq (Y := (-2000000)) rfl rfl rfl rfl rfl (fun c => ?_) (fun c => ?_)
    · replace F := F.1 c
      refine wp_const' (L' := [some (vR l0), none, none, none, none, none, some (vI l6), none, some (vI l8), none, some (vI l10), none, none, none, none]) rfl rfl rfl ?_
      obtain ⟨f2, F⟩ := F
      obtain ⟨i4, b9, F⟩ := F
      refine wp_zastore' (L' := [some (vR l0), none, none, none, none, none, some (vI l6), none, some (vI l8), none, some (vI l10), none, none, none, none]) rfl rfl f2 b9 rfl ?_
      have f3 : gK (pI h (gR h l0 67) i4 (0 &&& 1)) l0 = 14 := (gK_pI _ _ _ _ _).trans f0
      replace F := F _ rfl
      generalize pI h (gR h l0 67) i4 (0 &&& 1) = h1 at F f3 ⊢
      refine wp_iinc (y := 1) (L2 := [some (vR l0), none, none, none, none, none, some (vI l6), none, some (vI l8), none, some (vI (l10 + 1)), none, none, none, none]) rfl rfl rfl rfl rfl ?_
      replace F := F _ rfl
      generalize (l10 + 1 : Int32) = v8 at F ⊢
      refine wp_goto rfl rfl ?_
      exact F
    · replace F := F.2 c
      refine wp_iload rfl rfl rfl ?_
      refine wp_aload rfl rfl rfl ?_
      refine wp_getR rfl rfl rfl f0 rfl ?_
      refine wp_iload rfl rfl rfl ?_
      refine wp_iload rfl rfl rfl ?_
      refine wp_iadd rfl rfl ?_
      obtain ⟨i5, b9, F⟩ := F
      refine wp_iaload rfl b9 rfl ?_
      refine wp_icmp_ge rfl rfl rfl rfl rfl (fun c => ?_) (fun c => ?_)
      · replace F := F.1 c
        refine wp_const rfl rfl ?_
        refine wp_goto rfl rfl ?_
        obtain ⟨f4, F⟩ := F
        obtain ⟨i6, b9, F⟩ := F
        refine wp_zastore' (L' := [some (vR l0), none, none, none, none, none, some (vI l6), none, some (vI l8), none, some (vI l10), none, none, none, none]) rfl rfl f4 b9 rfl ?_
        have f5 : gK (pI h (gR h l0 67) i6 (1 &&& 1)) l0 = 14 := (gK_pI _ _ _ _ _).trans f0
        replace F := F _ rfl
        generalize pI h (gR h l0 67) i6 (1 &&& 1) = h2 at F f5 ⊢
        refine wp_iinc (y := 1) (L2 := [some (vR l0), none, none, none, none, none, some (vI l6), none, some (vI l8), none, some (vI (l10 + 1)), none, none, none, none]) rfl rfl rfl rfl rfl ?_
        replace F := F _ rfl
        generalize (l10 + 1 : Int32) = v9 at F ⊢
        refine wp_goto rfl rfl ?_
        exact F
      · replace F := F.2 c
        refine wp_const' (L' := [some (vR l0), none, none, none, none, none, some (vI l6), none, some (vI l8), none, some (vI l10), none, none, none, none]) rfl rfl rfl ?_
        obtain ⟨f6, F⟩ := F
        obtain ⟨i7, b9, F⟩ := F
        refine wp_zastore' (L' := [some (vR l0), none, none, none, none, none, some (vI l6), none, some (vI l8), none, some (vI l10), none, none, none, none]) rfl rfl f6 b9 rfl ?_
        have f7 : gK (pI h (gR h l0 67) i7 (0 &&& 1)) l0 = 14 := (gK_pI _ _ _ _ _).trans f0
        replace F := F _ rfl
        generalize pI h (gR h l0 67) i7 (0 &&& 1) = h3 at F f7 ⊢
        refine wp_iinc (y := 1) (L2 := [some (vR l0), none, none, none, none, none, some (vI l6), none, some (vI l8), none, some (vI (l10 + 1)), none, none, none, none]) rfl rfl rfl rfl rfl ?_
        replace F := F _ rfl
        generalize (l10 + 1 : Int32) = v10 at F ⊢
        refine wp_goto rfl rfl ?_
        exact F
-- CensusOffice sampleAt (I)LCensusOffice$Sample;
theorem m242 {d : Nat} {a0 : Nat} {a1 : Int32} {h : aH} {K : Nat → aH → Prop} {X : Nat → aH → Prop} (F : gK h a0 = 1 ∧ 8 ≤ (gR h a0 7) ∧ gK h (gR h a0 7) = 13 ∧ CI d 65 [vR (gR h a0 7)] h (fun y0 h0 => CV d 29 [vI a1, vI y0] h0 (fun h1 => gK h1 a0 = 1 ∧ 8 ≤ (gR h1 a0 7) ∧ gK h1 (gR h1 a0 7) = 13 ∧ CR d 119 [vR (gR h1 a0 7), vI a1] h1 (fun q0 h2 => (q0 = 0 ∨ gK h2 q0 = 9) ∧ K q0 h2) X) X) X) : CR (d + 1) 242 [vR a0, vI a1] h K X := by
  show Wp (d + 1) 242 (0, [some (vR a0), some (vI a1)], [], h) (RR K X)
  refine wp_iload rfl rfl rfl ?_
  refine wp_aload rfl rfl rfl ?_
  obtain ⟨f0, F⟩ := F
  refine wp_getR rfl rfl rfl f0 rfl ?_
  obtain ⟨f1, F⟩ := F
  obtain ⟨f2, F⟩ := F
  refine wp_callI rfl rfl rfl (rcv_v f1 f2 (by decide) (by decide)) rfl rfl rfl rfl ?_
  refine CI.mono F (fun y0 h0 F => ?_) (fun _ _ w => rx_R w)
  refine wp_callV rfl rfl rfl rfl rfl rfl rfl rfl ?_
  refine CV.mono F (fun h1 F => ?_) (fun _ _ w => rx_R w)
  refine wp_aload rfl rfl rfl ?_
  obtain ⟨f3, F⟩ := F
  refine wp_getR rfl rfl rfl f3 rfl ?_
  refine wp_iload rfl rfl rfl ?_
  obtain ⟨f4, F⟩ := F
  obtain ⟨f5, F⟩ := F
  refine wp_callR rfl rfl rfl (rcv_v f4 f5 (by decide) (by decide)) rfl rfl rfl rfl ?_
  refine CR.mono F (fun q0 h2 F => ?_) (fun _ _ w => rx_R w)
  refine wp_cast rfl F.1 rfl ?_
  replace F := F.2
  exact wp_retR rfl F
-- CensusOffice$Sample unitAt (I)I
theorem m243 {d : Nat} {a0 : Nat} {a1 : Int32} {h : aH} {K : Int32 → aH → Prop} {X : Nat → aH → Prop} (F : Wp d 243 (4, [some (vR a0), some (vI a1), some (vI 0), some (vI 0)], [], h) (RI K X)) : CI d 243 [vR a0, vI a1] h K X := by
  show Wp d 243 (0, [some (vR a0), some (vI a1), none, none], [], h) (RI K X)
  refine wp_const rfl rfl ?_
  refine wp_istore (L2 := [some (vR a0), some (vI a1), some (vI 0), none]) rfl rfl rfl rfl ?_
  refine wp_const rfl rfl ?_
  refine wp_istore (L2 := [some (vR a0), some (vI a1), some (vI 0), some (vI 0)]) rfl rfl rfl rfl ?_
  exact F
theorem w243_4 {d : Nat} {l0 : Nat} {l1 : Int32} {l2 : Int32} {l3 : Int32} {h : aH} {K : Int32 → aH → Prop} {X : Nat → aH → Prop} (F : gK h l0 = 9 ∧ (100 ≤ gK h (gR h l0 2) ∧ gK h (gR h l0 2) ≤ 106) ∧ ((l3.toInt < (nI (gL h (gR h l0 2))).toInt → ∃ i0 : Nat, inB h 102 (gR h l0 2) l3 i0 ∧ (((gI h (gR h l0 2) i0).toInt = 0 → ∀ v0 : Int32, v0 = l3 + 1 → Wp d 243 (4, [some (vR l0), some (vI l1), some (vI l2), some (vI v0)], [], h) (RI K X)) ∧ (¬ (gI h (gR h l0 2) i0).toInt = 0 → ((l2.toInt = l1.toInt → K l3 h) ∧ (¬ l2.toInt = l1.toInt → ∀ v1 : Int32, v1 = l2 + 1 → ∀ v2 : Int32, v2 = l3 + 1 → Wp d 243 (4, [some (vR l0), some (vI l1), some (vI v1), some (vI v2)], [], h) (RI K X)))))) ∧ (¬ l3.toInt < (nI (gL h (gR h l0 2))).toInt → K (-1) h))) : Wp d 243 (4, [some (vR l0), some (vI l1), some (vI l2), some (vI l3)], [], h) (RI K X) := by
  refine wp_iload rfl rfl rfl ?_
  refine wp_aload rfl rfl rfl ?_
  obtain ⟨f0, F⟩ := F
  refine wp_getR rfl rfl rfl f0 rfl ?_
  obtain ⟨f1, F⟩ := F
  refine wp_alen rfl f1 rfl ?_
  refine wp_icmp_ge rfl rfl rfl rfl rfl (fun c => ?_) (fun c => ?_)
  · replace F := F.1 c
    refine wp_aload rfl rfl rfl ?_
    refine wp_getR rfl rfl rfl f0 rfl ?_
    refine wp_iload rfl rfl rfl ?_
    obtain ⟨i0, b9, F⟩ := F
    refine wp_zaload rfl b9 rfl ?_
    refine wp_if_eq rfl rfl rfl rfl (fun c => ?_) (fun c => ?_)
    · replace F := F.1 c
      refine wp_iinc (y := 1) (L2 := [some (vR l0), some (vI l1), some (vI l2), some (vI (l3 + 1))]) rfl rfl rfl rfl rfl ?_
      replace F := F _ rfl
      generalize (l3 + 1 : Int32) = v0 at F ⊢
      refine wp_goto rfl rfl ?_
      exact F
    · replace F := F.2 c
      refine wp_iload rfl rfl rfl ?_
      refine wp_iload rfl rfl rfl ?_
      refine wp_icmp_ne rfl rfl rfl rfl rfl (fun c => ?_) (fun c => ?_)
      · replace F := F.1 c
        refine wp_iload rfl rfl rfl ?_
        exact wp_retI rfl (Or.inl rfl) F
      · replace F := F.2 c
        refine wp_iinc (y := 1) (L2 := [some (vR l0), some (vI l1), some (vI (l2 + 1)), some (vI l3)]) rfl rfl rfl rfl rfl ?_
        replace F := F _ rfl
        generalize (l2 + 1 : Int32) = v1 at F ⊢
        refine wp_iinc (y := 1) (L2 := [some (vR l0), some (vI l1), some (vI v1), some (vI (l3 + 1))]) rfl rfl rfl rfl rfl ?_
        replace F := F _ rfl
        generalize (l3 + 1 : Int32) = v2 at F ⊢
        refine wp_goto rfl rfl ?_
        exact F
  · replace F := F.2 c
    refine wp_const' (L' := [none, none, none, none]) rfl rfl rfl ?_
    exact wp_retI rfl (Or.inl rfl) F
-- CensusOffice drawn (II)I
theorem m244 {d : Nat} {a0 : Nat} {a1 : Int32} {a2 : Int32} {h : aH} {K : Int32 → aH → Prop} {X : Nat → aH → Prop} (F : 8 ≤ a0 ∧ gK h a0 = 1 ∧ CR d 242 [vR a0, vI a1] h (fun q0 h0 => ((a2.toInt < 0 → X 3 (gNew h0 200 6)) ∧ (¬ a2.toInt < 0 → 8 ≤ q0 ∧ gK h0 q0 = 9 ∧ CI d 243 [vR q0, vI a2] h0 (fun y0 h1 => K y0 h1) X))) X) : CI (d + 1) 244 [vR a0, vI a1, vI a2] h K X := by
  show Wp (d + 1) 244 (0, [some (vR a0), some (vI a1), some (vI a2), none], [], h) (RI K X)
  refine wp_aload rfl rfl rfl ?_
  refine wp_iload rfl rfl rfl ?_
  obtain ⟨f0, F⟩ := F
  obtain ⟨f1, F⟩ := F
  refine wp_callR rfl rfl rfl (rcv_v f0 f1 (by decide) (by decide)) rfl rfl rfl rfl ?_
  refine CR.mono F (fun q0 h0 F => ?_) (fun _ _ w => rx_I w)
  refine wp_astore (L2 := [some (vR a0), some (vI a1), some (vI a2), some (vR q0)]) rfl rfl rfl rfl ?_
  refine wp_iload rfl rfl rfl ?_
  refine wp_if_ge rfl rfl rfl rfl (fun c => ?_) (fun c => ?_)
  · replace F := F.1 c
    exact wp_thrI rfl F
  · replace F := F.2 c
    refine wp_aload' (L' := [none, none, some (vI a2), some (vR q0)]) rfl rfl rfl rfl ?_
    refine wp_iload rfl rfl rfl ?_
    obtain ⟨f2, F⟩ := F
    obtain ⟨f3, F⟩ := F
    refine wp_callI rfl rfl rfl (rcv_v f2 f3 (by decide) (by decide)) rfl rfl rfl rfl ?_
    refine CI.mono F (fun y0 h1 F => ?_) (fun _ _ w => rx_I w)
    exact wp_retI rfl (Or.inl rfl) F
-- CensusOfficeLaw drawn (LCensusOffice;II[J)I
theorem m245 {d : Nat} {a0 : Nat} {a1 : Int32} {a2 : Int32} {a3 : Nat} {h : aH} {K : Int32 → aH → Prop} {X : Nat → aH → Prop} (F : 8 ≤ a0 ∧ gK h a0 = 1 ∧ CI d 244 [vR a0, vI a1, vI a2] h (fun y0 h0 => 8 ≤ a3 ∧ inB h0 101 a3 0 0 ∧ ∀ h1 : aH, h1 = pJ h0 a3 0 (y0.toInt64) → K 0 h1) (fun x9 h9 => (x9 = 3 ∧ K 1 h9))) : CI (d + 1) 245 [vR a0, vI a1, vI a2, vR a3] h K X := by
  show Wp (d + 1) 245 (0, [some (vR a0), some (vI a1), some (vI a2), some (vR a3), none], [], h) (RI K X)
  refine wp_aload rfl rfl rfl ?_
  refine wp_const rfl rfl ?_
  refine wp_aload rfl rfl rfl ?_
  refine wp_iload rfl rfl rfl ?_
  refine wp_iload rfl rfl rfl ?_
  obtain ⟨f0, F⟩ := F
  obtain ⟨f1, F⟩ := F
  refine wp_callhI (X := (fun x9 h9 => (x9 = 3 ∧ K 1 h9))) rfl rfl rfl (rcv_v f0 f1 (by decide) (by decide)) rfl rfl rfl (fun x9 h9 F => ?_) ?_
  · rcases F with ⟨rfl, F⟩
    · refine ⟨13, rfl, ?_⟩
      refine wp_astoreJ' (L' := [none, none, none, none, none]) (L2 := [none, none, none, none, some vJ]) rfl rfl rfl rfl rfl ?_
      refine wp_const rfl rfl ?_
      exact wp_retI rfl (Or.inl rfl) F
  · refine CI.mono F (fun y0 h0 F => ?_) (fun _ _ w => w)
    refine wp_i2l rfl rfl ?_
    obtain ⟨f2, F⟩ := F
    obtain ⟨b9, F⟩ := F
    refine wp_lastore rfl f2 b9 rfl ?_
    replace F := F _ rfl
    generalize pJ h0 a3 0 (y0.toInt64) = h1 at F ⊢
    refine wp_goto rfl rfl ?_
    refine wp_const' (L' := [none, none, none, none, none]) rfl rfl rfl ?_
    exact wp_retI rfl (Or.inl rfl) F
-- CensusOfficeModel isSample (I)Z
theorem m246 {d : Nat} {a0 : Nat} {a1 : Int32} {h : aH} {K : Int32 → aH → Prop} {X : Nat → aH → Prop} (F : gK h a0 = 14 ∧ CI d 14 [vL (a1.toInt64), vL 0, vL (((gI h a0 64) - 1).toInt64)] h (fun y0 h0 => y0 &&& 1 = y0 ∧ K y0 h0) X) : CI (d + 1) 246 [vR a0, vI a1] h K X := by
  show Wp (d + 1) 246 (0, [some (vR a0), some (vI a1)], [], h) (RI K X)
  refine wp_iload rfl rfl rfl ?_
  refine wp_i2l rfl rfl ?_
  refine wp_const rfl rfl ?_
  refine wp_aload rfl rfl rfl ?_
  obtain ⟨f0, F⟩ := F
  refine wp_getI rfl rfl rfl f0 rfl ?_
  refine wp_const rfl rfl ?_
  refine wp_isub rfl rfl ?_
  refine wp_i2l rfl rfl ?_
  refine wp_callI rfl rfl rfl rfl rfl rfl rfl rfl ?_
  refine CI.mono F (fun y0 h0 F => ?_) (fun _ _ w => rx_I w)
  exact wp_retI rfl (Or.inr F.1) F.2
-- CensusOfficeModel drawn (II)I
theorem m247 {d : Nat} {a0 : Nat} {a1 : Int32} {a2 : Int32} {h : aH} {K : Int32 → aH → Prop} {X : Nat → aH → Prop} (F : 8 ≤ a0 ∧ gK h a0 = 14 ∧ ∀ h0 : aH, h0 = pI h a0 0 0 → CI d 246 [vR a0, vI a1] h0 (fun y0 h1 => ((y0.toInt = 0 → gK h1 a0 = 14 ∧ CI d 15 [vR a0, vI 1] h1 (fun y1 h2 => K y1 h2) X) ∧ (¬ y0.toInt = 0 → ((a2.toInt < 0 → gK h1 a0 = 14 ∧ CI d 15 [vR a0, vI 1] h1 (fun y2 h3 => K y2 h3) X) ∧ (¬ a2.toInt < 0 → Wp (d + 1) 247 (28, [some (vR a0), some (vI a1), some (vI a2), some (vI 0), some (vI 0)], [], h1) (RI K X)))))) X) : CI (d + 1) 247 [vR a0, vI a1, vI a2] h K X := by
  show Wp (d + 1) 247 (0, [some (vR a0), some (vI a1), some (vI a2), none, none], [], h) (RI K X)
  refine wp_aload rfl rfl rfl ?_
  refine wp_const rfl rfl ?_
  obtain ⟨f0, F⟩ := F
  obtain ⟨f1, F⟩ := F
  refine wp_putI rfl rfl rfl f0 f1 rfl ?_
  have f2 : gK (pI h a0 0 0) a0 = 14 := (gK_pI _ _ _ _ _).trans f1
  replace F := F _ rfl
  generalize pI h a0 0 0 = h0 at F f2 ⊢
  refine wp_aload rfl rfl rfl ?_
  refine wp_iload rfl rfl rfl ?_
  refine wp_callI rfl rfl rfl (rcv_v f0 f2 (by decide) (by decide)) rfl rfl rfl rfl ?_
  refine CI.mono F (fun y0 h1 F => ?_) (fun _ _ w => rx_I w)
  refine wp_if_eq rfl rfl rfl rfl (fun c => ?_) (fun c => ?_)
  · replace F := F.1 c
    refine wp_aload' (L' := [some (vR a0), none, none, none, none]) rfl rfl rfl rfl ?_
    refine wp_const rfl rfl ?_
    obtain ⟨f3, F⟩ := F
    refine wp_callI rfl rfl rfl (rcv_v f0 f3 (by decide) (by decide)) rfl rfl rfl rfl ?_
    refine CI.mono F (fun y1 h2 F => ?_) (fun _ _ w => rx_I w)
    exact wp_retI rfl (Or.inl rfl) F
  · replace F := F.2 c
    refine wp_iload rfl rfl rfl ?_
    refine wp_if_ge rfl rfl rfl rfl (fun c => ?_) (fun c => ?_)
    · replace F := F.1 c
      refine wp_aload' (L' := [some (vR a0), none, none, none, none]) rfl rfl rfl rfl ?_
      refine wp_const rfl rfl ?_
      obtain ⟨f4, F⟩ := F
      refine wp_callI rfl rfl rfl (rcv_v f0 f4 (by decide) (by decide)) rfl rfl rfl rfl ?_
      refine CI.mono F (fun y2 h3 F => ?_) (fun _ _ w => rx_I w)
      exact wp_retI rfl (Or.inl rfl) F
    · replace F := F.2 c
      refine wp_const' (L' := [some (vR a0), some (vI a1), some (vI a2), none, none]) rfl rfl rfl ?_
      refine wp_istore (L2 := [some (vR a0), some (vI a1), some (vI a2), some (vI 0), none]) rfl rfl rfl rfl ?_
      refine wp_const rfl rfl ?_
      refine wp_istore (L2 := [some (vR a0), some (vI a1), some (vI a2), some (vI 0), some (vI 0)]) rfl rfl rfl rfl ?_
      exact F
theorem w247_28 {d : Nat} {l0 : Nat} {l1 : Int32} {l2 : Int32} {l3 : Int32} {l4 : Int32} {h : aH} {K : Int32 → aH → Prop} {X : Nat → aH → Prop} (F : ((l4.toInt < 100 → gK h l0 = 14 ∧ ∃ i0 : Nat, inB h 102 (gR h l0 67) ((100 * l1) + l4) i0 ∧ (((gI h (gR h l0 67) i0).toInt = 0 → ∀ v0 : Int32, v0 = l4 + 1 → Wp (d + 1) 247 (28, [some (vR l0), some (vI l1), some (vI l2), some (vI l3), some (vI v0)], [], h) (RI K X)) ∧ (¬ (gI h (gR h l0 67) i0).toInt = 0 → ((l3.toInt = l2.toInt → K l4 h) ∧ (¬ l3.toInt = l2.toInt → ∀ v1 : Int32, v1 = l3 + 1 → ∀ v2 : Int32, v2 = l4 + 1 → Wp (d + 1) 247 (28, [some (vR l0), some (vI l1), some (vI l2), some (vI v1), some (vI v2)], [], h) (RI K X)))))) ∧ (¬ l4.toInt < 100 → K (-1) h))) : Wp (d + 1) 247 (28, [some (vR l0), some (vI l1), some (vI l2), some (vI l3), some (vI l4)], [], h) (RI K X) := by
  refine wp_iload rfl rfl rfl ?_
  refine wp_const rfl rfl ?_
  refine wp_icmp_ge (Y := 100) rfl rfl rfl rfl rfl (fun c => ?_) (fun c => ?_)
  · replace F := F.1 c
    refine wp_aload rfl rfl rfl ?_
    obtain ⟨f0, F⟩ := F
    refine wp_getR rfl rfl rfl f0 rfl ?_
    refine wp_const rfl rfl ?_
    refine wp_iload rfl rfl rfl ?_
    refine wp_imul rfl rfl ?_
    refine wp_iload rfl rfl rfl ?_
    refine wp_iadd rfl rfl ?_
    obtain ⟨i0, b9, F⟩ := F
    refine wp_zaload rfl b9 rfl ?_
    refine wp_if_eq rfl rfl rfl rfl (fun c => ?_) (fun c => ?_)
    · replace F := F.1 c
      refine wp_iinc (y := 1) (L2 := [some (vR l0), some (vI l1), some (vI l2), some (vI l3), some (vI (l4 + 1))]) rfl rfl rfl rfl rfl ?_
      replace F := F _ rfl
      generalize (l4 + 1 : Int32) = v0 at F ⊢
      refine wp_goto rfl rfl ?_
      exact F
    · replace F := F.2 c
      refine wp_iload rfl rfl rfl ?_
      refine wp_iload rfl rfl rfl ?_
      refine wp_icmp_ne rfl rfl rfl rfl rfl (fun c => ?_) (fun c => ?_)
      · replace F := F.1 c
        refine wp_iload rfl rfl rfl ?_
        exact wp_retI rfl (Or.inl rfl) F
      · replace F := F.2 c
        refine wp_iinc (y := 1) (L2 := [some (vR l0), some (vI l1), some (vI l2), some (vI (l3 + 1)), some (vI l4)]) rfl rfl rfl rfl rfl ?_
        replace F := F _ rfl
        generalize (l3 + 1 : Int32) = v1 at F ⊢
        refine wp_iinc (y := 1) (L2 := [some (vR l0), some (vI l1), some (vI l2), some (vI v1), some (vI (l4 + 1))]) rfl rfl rfl rfl rfl ?_
        replace F := F _ rfl
        generalize (l4 + 1 : Int32) = v2 at F ⊢
        refine wp_goto rfl rfl ?_
        exact F
  · replace F := F.2 c
    refine wp_const' (L' := [none, none, none, none, none]) rfl rfl rfl ?_
    exact wp_retI rfl (Or.inl rfl) F
-- CensusOffice$Sample chanceBelow (I)I
theorem m248 {d : Nat} {a0 : Nat} {a1 : Int32} {h : aH} {K : Int32 → aH → Prop} {X : Nat → aH → Prop} (F : ((a1.toInt < 0 → K 1 h) ∧ (¬ a1.toInt < 0 → gK h a0 = 9 ∧ (100 ≤ gK h (gR h a0 1) ∧ gK h (gR h a0 1) ≤ 106) ∧ ((a1.toInt < (nI (gL h (gR h a0 1))).toInt → ∃ i0 : Nat, inB h 100 (gR h a0 1) a1 i0 ∧ K (gI h (gR h a0 1) i0) h) ∧ (¬ a1.toInt < (nI (gL h (gR h a0 1))).toInt → K 1 h))))) : CI d 248 [vR a0, vI a1] h K X := by
  show Wp d 248 (0, [some (vR a0), some (vI a1)], [], h) (RI K X)
  refine wp_iload rfl rfl rfl ?_
  refine wp_if_lt rfl rfl rfl rfl (fun c => ?_) (fun c => ?_)
  · replace F := F.1 c
    refine wp_const' (L' := [none, none]) rfl rfl rfl ?_
    exact wp_retI rfl (Or.inl rfl) F
  · replace F := F.2 c
    refine wp_iload rfl rfl rfl ?_
    refine wp_aload rfl rfl rfl ?_
    obtain ⟨f0, F⟩ := F
    refine wp_getR rfl rfl rfl f0 rfl ?_
    obtain ⟨f1, F⟩ := F
    refine wp_alen rfl f1 rfl ?_
    refine wp_icmp_ge rfl rfl rfl rfl rfl (fun c => ?_) (fun c => ?_)
    · replace F := F.1 c
      refine wp_aload rfl rfl rfl ?_
      refine wp_getR rfl rfl rfl f0 rfl ?_
      refine wp_iload rfl rfl rfl ?_
      obtain ⟨i0, b9, F⟩ := F
      refine wp_iaload rfl b9 rfl ?_
      refine wp_goto rfl rfl ?_
      exact wp_retI rfl (Or.inl rfl) F
    · replace F := F.2 c
      refine wp_const' (L' := [none, none]) rfl rfl rfl ?_
      exact wp_retI rfl (Or.inl rfl) F
-- CensusOffice$Sample chanceAbove (I)I
theorem m249 {d : Nat} {a0 : Nat} {a1 : Int32} {h : aH} {K : Int32 → aH → Prop} {X : Nat → aH → Prop} (F : ((a1.toInt < 0 → K 0 h) ∧ (¬ a1.toInt < 0 → gK h a0 = 9 ∧ (100 ≤ gK h (gR h a0 0) ∧ gK h (gR h a0 0) ≤ 106) ∧ ((a1.toInt < (nI (gL h (gR h a0 0))).toInt → ∃ i0 : Nat, inB h 100 (gR h a0 0) a1 i0 ∧ K (gI h (gR h a0 0) i0) h) ∧ (¬ a1.toInt < (nI (gL h (gR h a0 0))).toInt → K 0 h))))) : CI d 249 [vR a0, vI a1] h K X := by
  show Wp d 249 (0, [some (vR a0), some (vI a1)], [], h) (RI K X)
  refine wp_iload rfl rfl rfl ?_
  refine wp_if_lt rfl rfl rfl rfl (fun c => ?_) (fun c => ?_)
  · replace F := F.1 c
    refine wp_const' (L' := [none, none]) rfl rfl rfl ?_
    exact wp_retI rfl (Or.inl rfl) F
  · replace F := F.2 c
    refine wp_iload rfl rfl rfl ?_
    refine wp_aload rfl rfl rfl ?_
    obtain ⟨f0, F⟩ := F
    refine wp_getR rfl rfl rfl f0 rfl ?_
    obtain ⟨f1, F⟩ := F
    refine wp_alen rfl f1 rfl ?_
    refine wp_icmp_ge rfl rfl rfl rfl rfl (fun c => ?_) (fun c => ?_)
    · replace F := F.1 c
      refine wp_aload rfl rfl rfl ?_
      refine wp_getR rfl rfl rfl f0 rfl ?_
      refine wp_iload rfl rfl rfl ?_
      obtain ⟨i0, b9, F⟩ := F
      refine wp_iaload rfl b9 rfl ?_
      refine wp_goto rfl rfl ?_
      exact wp_retI rfl (Or.inl rfl) F
    · replace F := F.2 c
      refine wp_const' (L' := [none, none]) rfl rfl rfl ?_
      exact wp_retI rfl (Or.inl rfl) F
-- CensusOffice chance (IIZ)I
theorem m250 {d : Nat} {a0 : Nat} {a1 : Int32} {a2 : Int32} {a3 : Int32} {h : aH} {K : Int32 → aH → Prop} {X : Nat → aH → Prop} (F : 8 ≤ a0 ∧ gK h a0 = 1 ∧ CR d 242 [vR a0, vI a1] h (fun q0 h0 => gK h0 a0 = 1 ∧ CV d 30 [vR a0, vI a2] h0 (fun h1 => ((a3.toInt = 0 → 8 ≤ q0 ∧ gK h1 q0 = 9 ∧ CI d 249 [vR q0, vI a2] h1 (fun y0 h2 => K y0 h2) X) ∧ (¬ a3.toInt = 0 → 8 ≤ q0 ∧ gK h1 q0 = 9 ∧ CI d 248 [vR q0, vI a2] h1 (fun y1 h3 => K y1 h3) X))) X) X) : CI (d + 1) 250 [vR a0, vI a1, vI a2, vI a3] h K X := by
  show Wp (d + 1) 250 (0, [some (vR a0), some (vI a1), some (vI a2), some (vI a3), none], [], h) (RI K X)
  refine wp_aload rfl rfl rfl ?_
  refine wp_iload rfl rfl rfl ?_
  obtain ⟨f0, F⟩ := F
  obtain ⟨f1, F⟩ := F
  refine wp_callR rfl rfl rfl (rcv_v f0 f1 (by decide) (by decide)) rfl rfl rfl rfl ?_
  refine CR.mono F (fun q0 h0 F => ?_) (fun _ _ w => rx_I w)
  refine wp_astore (L2 := [some (vR a0), some (vI a1), some (vI a2), some (vI a3), some (vR q0)]) rfl rfl rfl rfl ?_
  refine wp_aload rfl rfl rfl ?_
  refine wp_iload rfl rfl rfl ?_
  obtain ⟨f2, F⟩ := F
  refine wp_callV rfl rfl rfl (rcv_v f0 f2 (by decide) (by decide)) rfl rfl rfl rfl ?_
  refine CV.mono F (fun h1 F => ?_) (fun _ _ w => rx_I w)
  refine wp_iload rfl rfl rfl ?_
  refine wp_if_eq rfl rfl rfl rfl (fun c => ?_) (fun c => ?_)
  · replace F := F.1 c
    refine wp_aload' (L' := [none, none, some (vI a2), none, some (vR q0)]) rfl rfl rfl rfl ?_
    refine wp_iload rfl rfl rfl ?_
    obtain ⟨f3, F⟩ := F
    obtain ⟨f4, F⟩ := F
    refine wp_callI rfl rfl rfl (rcv_v f3 f4 (by decide) (by decide)) rfl rfl rfl rfl ?_
    refine CI.mono F (fun y0 h2 F => ?_) (fun _ _ w => rx_I w)
    exact wp_retI rfl (Or.inl rfl) F
  · replace F := F.2 c
    refine wp_aload rfl rfl rfl ?_
    refine wp_iload rfl rfl rfl ?_
    obtain ⟨f5, F⟩ := F
    obtain ⟨f6, F⟩ := F
    refine wp_callI rfl rfl rfl (rcv_v f5 f6 (by decide) (by decide)) rfl rfl rfl rfl ?_
    refine CI.mono F (fun y1 h3 F => ?_) (fun _ _ w => rx_I w)
    refine wp_goto rfl rfl ?_
    exact wp_retI rfl (Or.inl rfl) F
-- CensusOfficeLaw chance (LCensusOffice;IIZ[J)I
theorem m251 {d : Nat} {a0 : Nat} {a1 : Int32} {a2 : Int32} {a3 : Int32} {a4 : Nat} {h : aH} {K : Int32 → aH → Prop} {X : Nat → aH → Prop} (F : 8 ≤ a0 ∧ gK h a0 = 1 ∧ CI d 250 [vR a0, vI a1, vI a2, vI a3] h (fun y0 h0 => 8 ≤ a4 ∧ inB h0 101 a4 0 0 ∧ ∀ h1 : aH, h1 = pJ h0 a4 0 (y0.toInt64) → K 0 h1) (fun x9 h9 => (x9 = 3 ∧ K 1 h9))) : CI (d + 1) 251 [vR a0, vI a1, vI a2, vI a3, vR a4] h K X := by
  show Wp (d + 1) 251 (0, [some (vR a0), some (vI a1), some (vI a2), some (vI a3), some (vR a4), none], [], h) (RI K X)
  refine wp_aload rfl rfl rfl ?_
  refine wp_const rfl rfl ?_
  refine wp_aload rfl rfl rfl ?_
  refine wp_iload rfl rfl rfl ?_
  refine wp_iload rfl rfl rfl ?_
  refine wp_iload rfl rfl rfl ?_
  obtain ⟨f0, F⟩ := F
  obtain ⟨f1, F⟩ := F
  refine wp_callhI (X := (fun x9 h9 => (x9 = 3 ∧ K 1 h9))) rfl rfl rfl (rcv_v f0 f1 (by decide) (by decide)) rfl rfl rfl (fun x9 h9 F => ?_) ?_
  · rcases F with ⟨rfl, F⟩
    · refine ⟨15, rfl, ?_⟩
      refine wp_astoreJ' (L' := [none, none, none, none, none, none]) (L2 := [none, none, none, none, none, some vJ]) rfl rfl rfl rfl rfl ?_
      refine wp_const rfl rfl ?_
      exact wp_retI rfl (Or.inl rfl) F
  · refine CI.mono F (fun y0 h0 F => ?_) (fun _ _ w => w)
    refine wp_i2l rfl rfl ?_
    obtain ⟨f2, F⟩ := F
    obtain ⟨b9, F⟩ := F
    refine wp_lastore rfl f2 b9 rfl ?_
    replace F := F _ rfl
    generalize pJ h0 a4 0 (y0.toInt64) = h1 at F ⊢
    refine wp_goto rfl rfl ?_
    refine wp_const' (L' := [none, none, none, none, none, none]) rfl rfl rfl ?_
    exact wp_retI rfl (Or.inl rfl) F
-- CensusOfficeModel divisor (II)I
theorem m252 {d : Nat} {a0 : Int32} {a1 : Int32} {h : aH} {K : Int32 → aH → Prop} {X : Nat → aH → Prop} (F : Wp d 252 (4, [none, none, some (vI a0), some (vI a1), none], [], h) (RI K X)) : CI d 252 [vI a0, vI a1] h K X := by
  show Wp d 252 (0, [some (vI a0), some (vI a1), none, none, none], [], h) (RI K X)
  refine wp_iload rfl rfl rfl ?_
  refine wp_istore (L2 := [some (vI a0), some (vI a1), some (vI a0), none, none]) rfl rfl rfl rfl ?_
  refine wp_iload rfl rfl rfl ?_
  refine wp_istore (L2 := [some (vI a0), some (vI a1), some (vI a0), some (vI a1), none]) rfl rfl rfl rfl ?_
  refine wp_kill (L' := [none, none, some (vI a0), some (vI a1), none]) rfl rfl ?_
  exact F
theorem w252_4 {d : Nat} {l2 : Int32} {l3 : Int32} {h : aH} {K : Int32 → aH → Prop} {X : Nat → aH → Prop} (F : ((0 < l3.toInt → (¬ l3 = 0) ∧ ∀ v0 : Int32, v0 = aIrem l2 l3 → Wp d 252 (4, [none, none, some (vI l3), some (vI v0), none], [], h) (RI K X)) ∧ (¬ 0 < l3.toInt → K l2 h))) : Wp d 252 (4, [none, none, some (vI l2), some (vI l3), none], [], h) (RI K X) := by
  refine wp_iload' (L' := [none, none, some (vI l2), some (vI l3), none]) rfl rfl rfl rfl ?_
  refine wp_if_le rfl rfl rfl rfl (fun c => ?_) (fun c => ?_)
  · replace F := F.1 c
    refine wp_iload rfl rfl rfl ?_
    refine wp_iload rfl rfl rfl ?_
    refine wp_irem rfl F.1 rfl ?_
    replace F := F.2
    replace F := F _ rfl
    generalize (aIrem l2 l3 : Int32) = v0 at F ⊢
    refine wp_istore (L2 := [none, none, some (vI l2), some (vI l3), some (vI v0)]) rfl rfl rfl rfl ?_
    refine wp_iload rfl rfl rfl ?_
    refine wp_istore (L2 := [none, none, some (vI l3), some (vI l3), some (vI v0)]) rfl rfl rfl rfl ?_
    refine wp_iload rfl rfl rfl ?_
    refine wp_istore (L2 := [none, none, some (vI l3), some (vI v0), some (vI v0)]) rfl rfl rfl rfl ?_
    refine wp_goto rfl rfl ?_
    refine wp_kill (L' := [none, none, some (vI l3), some (vI v0), none]) rfl rfl ?_
    exact F
  · replace F := F.2 c
    refine wp_iload' (L' := [none, none, some (vI l2), none, none]) rfl rfl rfl rfl ?_
    exact wp_retI rfl (Or.inl rfl) F
-- CensusOfficeModel chance (IIZ)I
theorem m253 {d : Nat} {a0 : Nat} {a1 : Int32} {a2 : Int32} {a3 : Int32} {h : aH} {K : Int32 → aH → Prop} {X : Nat → aH → Prop} (F : 8 ≤ a0 ∧ gK h a0 = 14 ∧ ∀ h0 : aH, h0 = pI h a0 0 0 → CI d 246 [vR a0, vI a1] h0 (fun y0 h1 => ((y0.toInt = 0 → gK h1 a0 = 14 ∧ CI d 15 [vR a0, vI 1] h1 (fun y1 h2 => K y1 h2) X) ∧ (¬ y0.toInt = 0 → gK h1 a0 = 14 ∧ CI d 39 [vR a0, vI a2] h1 (fun y2 h3 => ((y2.toInt = 0 → gK h3 a0 = 14 ∧ CI d 15 [vR a0, vI 1] h3 (fun y3 h4 => K y3 h4) X) ∧ (¬ y2.toInt = 0 → gK h3 a0 = 14 ∧ ∃ i0 : Nat, inB h3 100 (gR h3 a0 65) ((100 * a1) + a2) i0 ∧ ∀ v0 : Int32, v0 = gI h3 (gR h3 a0 65) i0 → ∃ i1 : Nat, inB h3 100 (gR h3 a0 66) ((100 * a1) + a2) i1 ∧ ∀ v1 : Int32, v1 = gI h3 (gR h3 a0 66) i1 → ((v1.toInt = 0 → ((a3.toInt = 0 → K 0 h3) ∧ (¬ a3.toInt = 0 → K 1 h3))) ∧ (¬ v1.toInt = 0 → CI d 252 [vI v0, vI v1] h3 (fun y4 h5 => ((a3.toInt = 0 → (¬ y4 = 0) ∧ K (v0 / y4) h5) ∧ (¬ a3.toInt = 0 → (¬ y4 = 0) ∧ K (v1 / y4) h5))) X))))) X))) X) : CI (d + 1) 253 [vR a0, vI a1, vI a2, vI a3] h K X := by
  show Wp (d + 1) 253 (0, [some (vR a0), some (vI a1), some (vI a2), some (vI a3), none, none, none], [], h) (RI K X)
  refine wp_aload rfl rfl rfl ?_
  refine wp_const rfl rfl ?_
  obtain ⟨f0, F⟩ := F
  obtain ⟨f1, F⟩ := F
  refine wp_putI rfl rfl rfl f0 f1 rfl ?_
  have f2 : gK (pI h a0 0 0) a0 = 14 := (gK_pI _ _ _ _ _).trans f1
  replace F := F _ rfl
  generalize pI h a0 0 0 = h0 at F f2 ⊢
  refine wp_aload rfl rfl rfl ?_
  refine wp_iload rfl rfl rfl ?_
  refine wp_callI rfl rfl rfl (rcv_v f0 f2 (by decide) (by decide)) rfl rfl rfl rfl ?_
  refine CI.mono F (fun y0 h1 F => ?_) (fun _ _ w => rx_I w)
  refine wp_if_eq rfl rfl rfl rfl (fun c => ?_) (fun c => ?_)
  · replace F := F.1 c
    refine wp_aload' (L' := [some (vR a0), none, none, none, none, none, none]) rfl rfl rfl rfl ?_
    refine wp_const rfl rfl ?_
    obtain ⟨f3, F⟩ := F
    refine wp_callI rfl rfl rfl (rcv_v f0 f3 (by decide) (by decide)) rfl rfl rfl rfl ?_
    refine CI.mono F (fun y1 h2 F => ?_) (fun _ _ w => rx_I w)
    exact wp_retI rfl (Or.inl rfl) F
  · replace F := F.2 c
    refine wp_aload rfl rfl rfl ?_
    refine wp_iload rfl rfl rfl ?_
    obtain ⟨f4, F⟩ := F
    refine wp_callI rfl rfl rfl (rcv_v f0 f4 (by decide) (by decide)) rfl rfl rfl rfl ?_
    refine CI.mono F (fun y2 h3 F => ?_) (fun _ _ w => rx_I w)
    refine wp_if_ne rfl rfl rfl rfl (fun c => ?_) (fun c => ?_)
    · replace F := F.1 c
      refine wp_aload' (L' := [some (vR a0), none, none, none, none, none, none]) rfl rfl rfl rfl ?_
      refine wp_const rfl rfl ?_
      obtain ⟨f5, F⟩ := F
      refine wp_callI rfl rfl rfl (rcv_v f0 f5 (by decide) (by decide)) rfl rfl rfl rfl ?_
      refine CI.mono F (fun y3 h4 F => ?_) (fun _ _ w => rx_I w)
      exact wp_retI rfl (Or.inl rfl) F
    · replace F := F.2 c
      refine wp_aload' (L' := [some (vR a0), some (vI a1), some (vI a2), some (vI a3), none, none, none]) rfl rfl rfl rfl ?_
      obtain ⟨f6, F⟩ := F
      refine wp_getR rfl rfl rfl f6 rfl ?_
      refine wp_const rfl rfl ?_
      refine wp_iload rfl rfl rfl ?_
      refine wp_imul rfl rfl ?_
      refine wp_iload rfl rfl rfl ?_
      refine wp_iadd rfl rfl ?_
      obtain ⟨i0, b9, F⟩ := F
      refine wp_iaload rfl b9 rfl ?_
      replace F := F _ rfl
      generalize (gI h3 (gR h3 a0 65) i0 : Int32) = v0 at F ⊢
      refine wp_istore (L2 := [some (vR a0), some (vI a1), some (vI a2), some (vI a3), some (vI v0), none, none]) rfl rfl rfl rfl ?_
      refine wp_aload rfl rfl rfl ?_
      refine wp_getR rfl rfl rfl f6 rfl ?_
      refine wp_const rfl rfl ?_
      refine wp_iload rfl rfl rfl ?_
      refine wp_imul rfl rfl ?_
      refine wp_iload rfl rfl rfl ?_
      refine wp_iadd rfl rfl ?_
      obtain ⟨i1, b9, F⟩ := F
      refine wp_iaload rfl b9 rfl ?_
      replace F := F _ rfl
      generalize (gI h3 (gR h3 a0 66) i1 : Int32) = v1 at F ⊢
      refine wp_istore (L2 := [some (vR a0), some (vI a1), some (vI a2), some (vI a3), some (vI v0), some (vI v1), none]) rfl rfl rfl rfl ?_
      refine wp_iload rfl rfl rfl ?_
      refine wp_if_ne rfl rfl rfl rfl (fun c => ?_) (fun c => ?_)
      · replace F := F.1 c
        refine wp_iload rfl rfl rfl ?_
        refine wp_if_eq rfl rfl rfl rfl (fun c => ?_) (fun c => ?_)
        · replace F := F.1 c
          refine wp_const' (L' := [none, none, none, none, none, none, none]) rfl rfl rfl ?_
          exact wp_retI rfl (Or.inl rfl) F
        · replace F := F.2 c
          refine wp_const rfl rfl ?_
          refine wp_goto rfl rfl ?_
          exact wp_retI rfl (Or.inl rfl) F
      · replace F := F.2 c
        refine wp_iload' (L' := [none, none, none, some (vI a3), some (vI v0), some (vI v1), none]) rfl rfl rfl rfl ?_
        refine wp_iload rfl rfl rfl ?_
        refine wp_callI rfl rfl rfl rfl rfl rfl rfl rfl ?_
        refine CI.mono F (fun y4 h5 F => ?_) (fun _ _ w => rx_I w)
        refine wp_istore (L2 := [none, none, none, some (vI a3), some (vI v0), some (vI v1), some (vI y4)]) rfl rfl rfl rfl ?_
        refine wp_iload rfl rfl rfl ?_
        refine wp_if_eq rfl rfl rfl rfl (fun c => ?_) (fun c => ?_)
        · replace F := F.1 c
          refine wp_iload' (L' := [none, none, none, none, some (vI v0), none, some (vI y4)]) rfl rfl rfl rfl ?_
          refine wp_iload rfl rfl rfl ?_
          refine wp_idiv rfl F.1 rfl ?_
          replace F := F.2
          exact wp_retI rfl (Or.inl rfl) F
        · replace F := F.2 c
          refine wp_iload rfl rfl rfl ?_
          refine wp_iload rfl rfl rfl ?_
          refine wp_idiv rfl F.1 rfl ?_
          replace F := F.2
          refine wp_goto rfl rfl ?_
          exact wp_retI rfl (Or.inl rfl) F
-- CensusOffice$Sample drew (I)Z
theorem m254 {d : Nat} {a0 : Nat} {a1 : Int32} {h : aH} {K : Int32 → aH → Prop} {X : Nat → aH → Prop} (F : ((a1.toInt < 0 → K 0 h) ∧ (¬ a1.toInt < 0 → gK h a0 = 9 ∧ (100 ≤ gK h (gR h a0 2) ∧ gK h (gR h a0 2) ≤ 106) ∧ ((a1.toInt < (nI (gL h (gR h a0 2))).toInt → ∃ i0 : Nat, inB h 102 (gR h a0 2) a1 i0 ∧ (((gI h (gR h a0 2) i0).toInt = 0 → K 0 h) ∧ (¬ (gI h (gR h a0 2) i0).toInt = 0 → K 1 h))) ∧ (¬ a1.toInt < (nI (gL h (gR h a0 2))).toInt → K 0 h))))) : CI d 254 [vR a0, vI a1] h K X := by
  show Wp d 254 (0, [some (vR a0), some (vI a1)], [], h) (RI K X)
  refine wp_iload rfl rfl rfl ?_
  refine wp_if_lt rfl rfl rfl rfl (fun c => ?_) (fun c => ?_)
  · replace F := F.1 c
    refine wp_const' (L' := [none, none]) rfl rfl rfl ?_
    exact wp_retI rfl (Or.inr rfl) F
  · replace F := F.2 c
    refine wp_iload rfl rfl rfl ?_
    refine wp_aload rfl rfl rfl ?_
    obtain ⟨f0, F⟩ := F
    refine wp_getR rfl rfl rfl f0 rfl ?_
    obtain ⟨f1, F⟩ := F
    refine wp_alen rfl f1 rfl ?_
    refine wp_icmp_ge rfl rfl rfl rfl rfl (fun c => ?_) (fun c => ?_)
    · replace F := F.1 c
      refine wp_aload rfl rfl rfl ?_
      refine wp_getR rfl rfl rfl f0 rfl ?_
      refine wp_iload rfl rfl rfl ?_
      obtain ⟨i0, b9, F⟩ := F
      refine wp_zaload rfl b9 rfl ?_
      refine wp_if_eq rfl rfl rfl rfl (fun c => ?_) (fun c => ?_)
      · replace F := F.1 c
        refine wp_const' (L' := [none, none]) rfl rfl rfl ?_
        exact wp_retI rfl (Or.inr rfl) F
      · replace F := F.2 c
        refine wp_const rfl rfl ?_
        refine wp_goto rfl rfl ?_
        exact wp_retI rfl (Or.inr rfl) F
    · replace F := F.2 c
      refine wp_const' (L' := [none, none]) rfl rfl rfl ?_
      exact wp_retI rfl (Or.inr rfl) F
-- CensusOffice overlap (II)I
theorem m255 {d : Nat} {a0 : Nat} {a1 : Int32} {a2 : Int32} {h : aH} {K : Int32 → aH → Prop} {X : Nat → aH → Prop} (F : 8 ≤ a0 ∧ gK h a0 = 1 ∧ CR d 242 [vR a0, vI a1] h (fun q0 h0 => gK h0 a0 = 1 ∧ CR d 242 [vR a0, vI a2] h0 (fun q1 h1 => Wp (d + 1) 255 (19, [some (vR a0), none, none, some (vR q0), some (vR q1), some (vI 0), some (vI 0)], [], h1) (RI K X)) X) X) : CI (d + 1) 255 [vR a0, vI a1, vI a2] h K X := by
  show Wp (d + 1) 255 (0, [some (vR a0), some (vI a1), some (vI a2), none, none, none, none], [], h) (RI K X)
  refine wp_aload rfl rfl rfl ?_
  refine wp_iload rfl rfl rfl ?_
  obtain ⟨f0, F⟩ := F
  obtain ⟨f1, F⟩ := F
  refine wp_callR rfl rfl rfl (rcv_v f0 f1 (by decide) (by decide)) rfl rfl rfl rfl ?_
  refine CR.mono F (fun q0 h0 F => ?_) (fun _ _ w => rx_I w)
  refine wp_astore (L2 := [some (vR a0), some (vI a1), some (vI a2), some (vR q0), none, none, none]) rfl rfl rfl rfl ?_
  refine wp_aload rfl rfl rfl ?_
  refine wp_iload rfl rfl rfl ?_
  obtain ⟨f2, F⟩ := F
  refine wp_callR rfl rfl rfl (rcv_v f0 f2 (by decide) (by decide)) rfl rfl rfl rfl ?_
  refine CR.mono F (fun q1 h1 F => ?_) (fun _ _ w => rx_I w)
  refine wp_astore (L2 := [some (vR a0), some (vI a1), some (vI a2), some (vR q0), some (vR q1), none, none]) rfl rfl rfl rfl ?_
  refine wp_const rfl rfl ?_
  refine wp_istore (L2 := [some (vR a0), some (vI a1), some (vI a2), some (vR q0), some (vR q1), some (vI 0), none]) rfl rfl rfl rfl ?_
  refine wp_const rfl rfl ?_
  refine wp_istore (L2 := [some (vR a0), some (vI a1), some (vI a2), some (vR q0), some (vR q1), some (vI 0), some (vI 0)]) rfl rfl rfl rfl ?_
  refine wp_kill (L' := [some (vR a0), none, none, some (vR q0), some (vR q1), some (vI 0), some (vI 0)]) rfl rfl ?_
  exact F
theorem w255_19 {d : Nat} {l0 : Nat} {l3 : Nat} {l4 : Nat} {l5 : Int32} {l6 : Int32} {h : aH} {K : Int32 → aH → Prop} {X : Nat → aH → Prop} (F : gK h l0 = 1 ∧ gK h (gR h l0 0) = 6 ∧ 8 ≤ (gR h (gR h l0 0) 0) ∧ gK h (gR h (gR h l0 0) 0) = 8 ∧ CI d 28 [vR (gR h (gR h l0 0) 0)] h (fun y0 h0 => ((l6.toInt < y0.toInt → 8 ≤ l3 ∧ gK h0 l3 = 9 ∧ CI d 254 [vR l3, vI l6] h0 (fun y1 h1 => ((y1.toInt = 0 → ∀ v0 : Int32, v0 = l6 + 1 → Wp (d + 1) 255 (19, [some (vR l0), none, none, some (vR l3), some (vR l4), some (vI l5), some (vI v0)], [], h1) (RI K X)) ∧ (¬ y1.toInt = 0 → 8 ≤ l4 ∧ gK h1 l4 = 9 ∧ CI d 254 [vR l4, vI l6] h1 (fun y2 h2 => ((y2.toInt = 0 → ∀ v1 : Int32, v1 = l6 + 1 → Wp (d + 1) 255 (19, [some (vR l0), none, none, some (vR l3), some (vR l4), some (vI l5), some (vI v1)], [], h2) (RI K X)) ∧ (¬ y2.toInt = 0 → ∀ v2 : Int32, v2 = l5 + 1 → ∀ v3 : Int32, v3 = l6 + 1 → Wp (d + 1) 255 (19, [some (vR l0), none, none, some (vR l3), some (vR l4), some (vI v2), some (vI v3)], [], h2) (RI K X)))) X))) X) ∧ (¬ l6.toInt < y0.toInt → K l5 h0))) X) : Wp (d + 1) 255 (19, [some (vR l0), none, none, some (vR l3), some (vR l4), some (vI l5), some (vI l6)], [], h) (RI K X) := by
  refine wp_iload' (L' := [some (vR l0), none, none, some (vR l3), some (vR l4), some (vI l5), some (vI l6)]) rfl rfl rfl rfl ?_
  refine wp_aload rfl rfl rfl ?_
  obtain ⟨f0, F⟩ := F
  refine wp_getR rfl rfl rfl f0 rfl ?_
  obtain ⟨f1, F⟩ := F
  refine wp_getR rfl rfl rfl f1 rfl ?_
  obtain ⟨f2, F⟩ := F
  obtain ⟨f3, F⟩ := F
  refine wp_callI rfl rfl rfl (rcv_v f2 f3 (by decide) (by decide)) rfl rfl rfl rfl ?_
  refine CI.mono F (fun y0 h0 F => ?_) (fun _ _ w => rx_I w)
  refine wp_icmp_ge rfl rfl rfl rfl rfl (fun c => ?_) (fun c => ?_)
  · replace F := F.1 c
    refine wp_aload rfl rfl rfl ?_
    refine wp_iload rfl rfl rfl ?_
    obtain ⟨f4, F⟩ := F
    obtain ⟨f5, F⟩ := F
    refine wp_callI rfl rfl rfl (rcv_v f4 f5 (by decide) (by decide)) rfl rfl rfl rfl ?_
    refine CI.mono F (fun y1 h1 F => ?_) (fun _ _ w => rx_I w)
    refine wp_if_eq rfl rfl rfl rfl (fun c => ?_) (fun c => ?_)
    · replace F := F.1 c
      refine wp_iinc' (L' := [some (vR l0), none, none, some (vR l3), some (vR l4), some (vI l5), some (vI l6)]) (y := 1) (L2 := [some (vR l0), none, none, some (vR l3), some (vR l4), some (vI l5), some (vI (l6 + 1))]) rfl rfl rfl rfl rfl rfl ?_
      replace F := F _ rfl
      generalize (l6 + 1 : Int32) = v0 at F ⊢
      refine wp_goto rfl rfl ?_
      exact F
    · replace F := F.2 c
      refine wp_aload rfl rfl rfl ?_
      refine wp_iload rfl rfl rfl ?_
      obtain ⟨f6, F⟩ := F
      obtain ⟨f7, F⟩ := F
      refine wp_callI rfl rfl rfl (rcv_v f6 f7 (by decide) (by decide)) rfl rfl rfl rfl ?_
      refine CI.mono F (fun y2 h2 F => ?_) (fun _ _ w => rx_I w)
      refine wp_if_eq rfl rfl rfl rfl (fun c => ?_) (fun c => ?_)
      · replace F := F.1 c
        refine wp_iinc' (L' := [some (vR l0), none, none, some (vR l3), some (vR l4), some (vI l5), some (vI l6)]) (y := 1) (L2 := [some (vR l0), none, none, some (vR l3), some (vR l4), some (vI l5), some (vI (l6 + 1))]) rfl rfl rfl rfl rfl rfl ?_
        replace F := F _ rfl
        generalize (l6 + 1 : Int32) = v1 at F ⊢
        refine wp_goto rfl rfl ?_
        exact F
      · replace F := F.2 c
        refine wp_iinc (y := 1) (L2 := [some (vR l0), none, none, some (vR l3), some (vR l4), some (vI (l5 + 1)), some (vI l6)]) rfl rfl rfl rfl rfl ?_
        replace F := F _ rfl
        generalize (l5 + 1 : Int32) = v2 at F ⊢
        refine wp_iinc' (L' := [some (vR l0), none, none, some (vR l3), some (vR l4), some (vI v2), some (vI l6)]) (y := 1) (L2 := [some (vR l0), none, none, some (vR l3), some (vR l4), some (vI v2), some (vI (l6 + 1))]) rfl rfl rfl rfl rfl rfl ?_
        replace F := F _ rfl
        generalize (l6 + 1 : Int32) = v3 at F ⊢
        refine wp_goto rfl rfl ?_
        exact F
  · replace F := F.2 c
    refine wp_iload' (L' := [none, none, none, none, none, some (vI l5), none]) rfl rfl rfl rfl ?_
    exact wp_retI rfl (Or.inl rfl) F
-- CensusOfficeLaw overlap (LCensusOffice;II[J)I
theorem m256 {d : Nat} {a0 : Nat} {a1 : Int32} {a2 : Int32} {a3 : Nat} {h : aH} {K : Int32 → aH → Prop} {X : Nat → aH → Prop} (F : 8 ≤ a0 ∧ gK h a0 = 1 ∧ CI d 255 [vR a0, vI a1, vI a2] h (fun y0 h0 => 8 ≤ a3 ∧ inB h0 101 a3 0 0 ∧ ∀ h1 : aH, h1 = pJ h0 a3 0 (y0.toInt64) → K 0 h1) (fun x9 h9 => (x9 = 3 ∧ K 1 h9))) : CI (d + 1) 256 [vR a0, vI a1, vI a2, vR a3] h K X := by
  show Wp (d + 1) 256 (0, [some (vR a0), some (vI a1), some (vI a2), some (vR a3), none], [], h) (RI K X)
  refine wp_aload rfl rfl rfl ?_
  refine wp_const rfl rfl ?_
  refine wp_aload rfl rfl rfl ?_
  refine wp_iload rfl rfl rfl ?_
  refine wp_iload rfl rfl rfl ?_
  obtain ⟨f0, F⟩ := F
  obtain ⟨f1, F⟩ := F
  refine wp_callhI (X := (fun x9 h9 => (x9 = 3 ∧ K 1 h9))) rfl rfl rfl (rcv_v f0 f1 (by decide) (by decide)) rfl rfl rfl (fun x9 h9 F => ?_) ?_
  · rcases F with ⟨rfl, F⟩
    · refine ⟨13, rfl, ?_⟩
      refine wp_astoreJ' (L' := [none, none, none, none, none]) (L2 := [none, none, none, none, some vJ]) rfl rfl rfl rfl rfl ?_
      refine wp_const rfl rfl ?_
      exact wp_retI rfl (Or.inl rfl) F
  · refine CI.mono F (fun y0 h0 F => ?_) (fun _ _ w => w)
    refine wp_i2l rfl rfl ?_
    obtain ⟨f2, F⟩ := F
    obtain ⟨b9, F⟩ := F
    refine wp_lastore rfl f2 b9 rfl ?_
    replace F := F _ rfl
    generalize pJ h0 a3 0 (y0.toInt64) = h1 at F ⊢
    refine wp_goto rfl rfl ?_
    refine wp_const' (L' := [none, none, none, none, none]) rfl rfl rfl ?_
    exact wp_retI rfl (Or.inl rfl) F
-- CensusOfficeModel overlap (II)I
theorem m257 {d : Nat} {a0 : Nat} {a1 : Int32} {a2 : Int32} {h : aH} {K : Int32 → aH → Prop} {X : Nat → aH → Prop} (F : 8 ≤ a0 ∧ gK h a0 = 14 ∧ ∀ h0 : aH, h0 = pI h a0 0 0 → CI d 246 [vR a0, vI a1] h0 (fun y0 h1 => ((y0.toInt = 0 → gK h1 a0 = 14 ∧ CI d 15 [vR a0, vI 1] h1 (fun y1 h2 => K y1 h2) X) ∧ (¬ y0.toInt = 0 → gK h1 a0 = 14 ∧ CI d 246 [vR a0, vI a2] h1 (fun y2 h3 => ((y2.toInt = 0 → gK h3 a0 = 14 ∧ CI d 15 [vR a0, vI 1] h3 (fun y3 h4 => K y3 h4) X) ∧ (¬ y2.toInt = 0 → Wp (d + 1) 257 (32, [some (vR a0), some (vI a1), some (vI a2), some (vI 0), some (vI 0)], [], h3) (RI K X)))) X))) X) : CI (d + 1) 257 [vR a0, vI a1, vI a2] h K X := by
  show Wp (d + 1) 257 (0, [some (vR a0), some (vI a1), some (vI a2), none, none], [], h) (RI K X)
  refine wp_aload rfl rfl rfl ?_
  refine wp_const rfl rfl ?_
  obtain ⟨f0, F⟩ := F
  obtain ⟨f1, F⟩ := F
  refine wp_putI rfl rfl rfl f0 f1 rfl ?_
  have f2 : gK (pI h a0 0 0) a0 = 14 := (gK_pI _ _ _ _ _).trans f1
  replace F := F _ rfl
  generalize pI h a0 0 0 = h0 at F f2 ⊢
  refine wp_aload rfl rfl rfl ?_
  refine wp_iload rfl rfl rfl ?_
  refine wp_callI rfl rfl rfl (rcv_v f0 f2 (by decide) (by decide)) rfl rfl rfl rfl ?_
  refine CI.mono F (fun y0 h1 F => ?_) (fun _ _ w => rx_I w)
  refine wp_if_eq rfl rfl rfl rfl (fun c => ?_) (fun c => ?_)
  · replace F := F.1 c
    refine wp_aload' (L' := [some (vR a0), none, none, none, none]) rfl rfl rfl rfl ?_
    refine wp_const rfl rfl ?_
    obtain ⟨f3, F⟩ := F
    refine wp_callI rfl rfl rfl (rcv_v f0 f3 (by decide) (by decide)) rfl rfl rfl rfl ?_
    refine CI.mono F (fun y1 h2 F => ?_) (fun _ _ w => rx_I w)
    exact wp_retI rfl (Or.inl rfl) F
  · replace F := F.2 c
    refine wp_aload rfl rfl rfl ?_
    refine wp_iload rfl rfl rfl ?_
    obtain ⟨f4, F⟩ := F
    refine wp_callI rfl rfl rfl (rcv_v f0 f4 (by decide) (by decide)) rfl rfl rfl rfl ?_
    refine CI.mono F (fun y2 h3 F => ?_) (fun _ _ w => rx_I w)
    refine wp_if_ne rfl rfl rfl rfl (fun c => ?_) (fun c => ?_)
    · replace F := F.1 c
      refine wp_aload' (L' := [some (vR a0), none, none, none, none]) rfl rfl rfl rfl ?_
      refine wp_const rfl rfl ?_
      obtain ⟨f5, F⟩ := F
      refine wp_callI rfl rfl rfl (rcv_v f0 f5 (by decide) (by decide)) rfl rfl rfl rfl ?_
      refine CI.mono F (fun y3 h4 F => ?_) (fun _ _ w => rx_I w)
      exact wp_retI rfl (Or.inl rfl) F
    · replace F := F.2 c
      refine wp_const' (L' := [some (vR a0), some (vI a1), some (vI a2), none, none]) rfl rfl rfl ?_
      refine wp_istore (L2 := [some (vR a0), some (vI a1), some (vI a2), some (vI 0), none]) rfl rfl rfl rfl ?_
      refine wp_const rfl rfl ?_
      refine wp_istore (L2 := [some (vR a0), some (vI a1), some (vI a2), some (vI 0), some (vI 0)]) rfl rfl rfl rfl ?_
      exact F
theorem w257_32 {d : Nat} {l0 : Nat} {l1 : Int32} {l2 : Int32} {l3 : Int32} {l4 : Int32} {h : aH} {K : Int32 → aH → Prop} {X : Nat → aH → Prop} (F : ((l4.toInt < 100 → gK h l0 = 14 ∧ ∃ i0 : Nat, inB h 102 (gR h l0 67) ((100 * l1) + l4) i0 ∧ (((gI h (gR h l0 67) i0).toInt = 0 → ∀ v0 : Int32, v0 = l3 + 0 → ∀ v1 : Int32, v1 = l4 + 1 → Wp (d + 1) 257 (32, [some (vR l0), some (vI l1), some (vI l2), some (vI v0), some (vI v1)], [], h) (RI K X)) ∧ (¬ (gI h (gR h l0 67) i0).toInt = 0 → ∃ i1 : Nat, inB h 102 (gR h l0 67) ((100 * l2) + l4) i1 ∧ (((gI h (gR h l0 67) i1).toInt = 0 → ∀ v2 : Int32, v2 = l3 + 0 → ∀ v3 : Int32, v3 = l4 + 1 → Wp (d + 1) 257 (32, [some (vR l0), some (vI l1), some (vI l2), some (vI v2), some (vI v3)], [], h) (RI K X)) ∧ (¬ (gI h (gR h l0 67) i1).toInt = 0 → ∀ v4 : Int32, v4 = l3 + 1 → ∀ v5 : Int32, v5 = l4 + 1 → Wp (d + 1) 257 (32, [some (vR l0), some (vI l1), some (vI l2), some (vI v4), some (vI v5)], [], h) (RI K X)))))) ∧ (¬ l4.toInt < 100 → K l3 h))) : Wp (d + 1) 257 (32, [some (vR l0), some (vI l1), some (vI l2), some (vI l3), some (vI l4)], [], h) (RI K X) := by
  refine wp_iload rfl rfl rfl ?_
  refine wp_const rfl rfl ?_
  refine wp_icmp_ge (Y := 100) rfl rfl rfl rfl rfl (fun c => ?_) (fun c => ?_)
  · replace F := F.1 c
    refine wp_iload rfl rfl rfl ?_
    refine wp_aload rfl rfl rfl ?_
    obtain ⟨f0, F⟩ := F
    refine wp_getR rfl rfl rfl f0 rfl ?_
    refine wp_const rfl rfl ?_
    refine wp_iload rfl rfl rfl ?_
    refine wp_imul rfl rfl ?_
    refine wp_iload rfl rfl rfl ?_
    refine wp_iadd rfl rfl ?_
    obtain ⟨i0, b9, F⟩ := F
    refine wp_zaload rfl b9 rfl ?_
    refine wp_if_eq rfl rfl rfl rfl (fun c => ?_) (fun c => ?_)
    · replace F := F.1 c
      refine wp_const' (L' := [some (vR l0), some (vI l1), some (vI l2), none, some (vI l4)]) rfl rfl rfl ?_
      refine wp_iadd' (L' := [some (vR l0), some (vI l1), some (vI l2), none, some (vI l4)]) rfl rfl rfl ?_
      replace F := F _ rfl
      generalize (l3 + 0 : Int32) = v0 at F ⊢
      refine wp_istore (L2 := [some (vR l0), some (vI l1), some (vI l2), some (vI v0), some (vI l4)]) rfl rfl rfl rfl ?_
      refine wp_iinc (y := 1) (L2 := [some (vR l0), some (vI l1), some (vI l2), some (vI v0), some (vI (l4 + 1))]) rfl rfl rfl rfl rfl ?_
      replace F := F _ rfl
      generalize (l4 + 1 : Int32) = v1 at F ⊢
      refine wp_goto rfl rfl ?_
      exact F
    · replace F := F.2 c
      refine wp_aload rfl rfl rfl ?_
      refine wp_getR rfl rfl rfl f0 rfl ?_
      refine wp_const rfl rfl ?_
      refine wp_iload rfl rfl rfl ?_
      refine wp_imul rfl rfl ?_
      refine wp_iload rfl rfl rfl ?_
      refine wp_iadd rfl rfl ?_
      obtain ⟨i1, b9, F⟩ := F
      refine wp_zaload rfl b9 rfl ?_
      refine wp_if_eq rfl rfl rfl rfl (fun c => ?_) (fun c => ?_)
      · replace F := F.1 c
        refine wp_const' (L' := [some (vR l0), some (vI l1), some (vI l2), none, some (vI l4)]) rfl rfl rfl ?_
        refine wp_iadd' (L' := [some (vR l0), some (vI l1), some (vI l2), none, some (vI l4)]) rfl rfl rfl ?_
        replace F := F _ rfl
        generalize (l3 + 0 : Int32) = v2 at F ⊢
        refine wp_istore (L2 := [some (vR l0), some (vI l1), some (vI l2), some (vI v2), some (vI l4)]) rfl rfl rfl rfl ?_
        refine wp_iinc (y := 1) (L2 := [some (vR l0), some (vI l1), some (vI l2), some (vI v2), some (vI (l4 + 1))]) rfl rfl rfl rfl rfl ?_
        replace F := F _ rfl
        generalize (l4 + 1 : Int32) = v3 at F ⊢
        refine wp_goto rfl rfl ?_
        exact F
      · replace F := F.2 c
        refine wp_const rfl rfl ?_
        refine wp_goto rfl rfl ?_
        refine wp_iadd' (L' := [some (vR l0), some (vI l1), some (vI l2), none, some (vI l4)]) rfl rfl rfl ?_
        replace F := F _ rfl
        generalize (l3 + 1 : Int32) = v4 at F ⊢
        refine wp_istore (L2 := [some (vR l0), some (vI l1), some (vI l2), some (vI v4), some (vI l4)]) rfl rfl rfl rfl ?_
        refine wp_iinc (y := 1) (L2 := [some (vR l0), some (vI l1), some (vI l2), some (vI v4), some (vI (l4 + 1))]) rfl rfl rfl rfl rfl ?_
        replace F := F _ rfl
        generalize (l4 + 1 : Int32) = v5 at F ⊢
        refine wp_goto rfl rfl ?_
        exact F
  · replace F := F.2 c
    refine wp_iload' (L' := [none, none, none, some (vI l3), none]) rfl rfl rfl rfl ?_
    exact wp_retI rfl (Or.inl rfl) F
-- CensusOffice$Form isItem (I)Z
theorem m258 {d : Nat} {a0 : Nat} {a1 : Int32} {h : aH} {K : Int32 → aH → Prop} {X : Nat → aH → Prop} (F : 8 ≤ a0 ∧ gK h a0 = 3 ∧ CI d 141 [vR a0, vI a1] h (fun y0 h0 => ((y0.toInt = 0 → K 0 h0) ∧ (¬ y0.toInt = 0 → gK h0 a0 = 3 ∧ ∃ i0 : Nat, inB h0 100 (gR h0 a0 2) a1 i0 ∧ ((1 < (gI h0 (gR h0 a0 2) i0).toInt → K 0 h0) ∧ (¬ 1 < (gI h0 (gR h0 a0 2) i0).toInt → K 1 h0))))) X) : CI (d + 1) 258 [vR a0, vI a1] h K X := by
  show Wp (d + 1) 258 (0, [some (vR a0), some (vI a1)], [], h) (RI K X)
  refine wp_aload rfl rfl rfl ?_
  refine wp_iload rfl rfl rfl ?_
  obtain ⟨f0, F⟩ := F
  obtain ⟨f1, F⟩ := F
  refine wp_callI rfl rfl rfl (rcv_v f0 f1 (by decide) (by decide)) rfl rfl rfl rfl ?_
  refine CI.mono F (fun y0 h0 F => ?_) (fun _ _ w => rx_I w)
  refine wp_if_eq rfl rfl rfl rfl (fun c => ?_) (fun c => ?_)
  · replace F := F.1 c
    refine wp_const' (L' := [none, none]) rfl rfl rfl ?_
    exact wp_retI rfl (Or.inr rfl) F
  · replace F := F.2 c
    refine wp_aload rfl rfl rfl ?_
    obtain ⟨f2, F⟩ := F
    refine wp_getR rfl rfl rfl f2 rfl ?_
    refine wp_iload rfl rfl rfl ?_
    obtain ⟨i0, b9, F⟩ := F
    refine wp_iaload rfl b9 rfl ?_
    refine wp_const rfl rfl ?_
    refine wp_icmp_gt (Y := 1) rfl rfl rfl rfl rfl (fun c => ?_) (fun c => ?_)
    · replace F := F.1 c
      refine wp_const' (L' := [none, none]) rfl rfl rfl ?_
      exact wp_retI rfl (Or.inr rfl) F
    · replace F := F.2 c
      refine wp_const rfl rfl ?_
      refine wp_goto rfl rfl ?_
      exact wp_retI rfl (Or.inr rfl) F
-- CensusOffice$Form span (I)I
theorem m259 {d : Nat} {a0 : Nat} {a1 : Int32} {h : aH} {K : Int32 → aH → Prop} {X : Nat → aH → Prop} (F : 8 ≤ a0 ∧ gK h a0 = 3 ∧ CI d 141 [vR a0, vI a1] h (fun y0 h0 => ((y0.toInt = 0 → K 0 h0) ∧ (¬ y0.toInt = 0 → gK h0 a0 = 3 ∧ ∃ i0 : Nat, inB h0 100 (gR h0 a0 4) a1 i0 ∧ ∃ i1 : Nat, inB h0 100 (gR h0 a0 3) a1 i1 ∧ K (((gI h0 (gR h0 a0 4) i0) - (gI h0 (gR h0 a0 3) i1)) + 1) h0))) X) : CI (d + 1) 259 [vR a0, vI a1] h K X := by
  show Wp (d + 1) 259 (0, [some (vR a0), some (vI a1)], [], h) (RI K X)
  refine wp_aload rfl rfl rfl ?_
  refine wp_iload rfl rfl rfl ?_
  obtain ⟨f0, F⟩ := F
  obtain ⟨f1, F⟩ := F
  refine wp_callI rfl rfl rfl (rcv_v f0 f1 (by decide) (by decide)) rfl rfl rfl rfl ?_
  refine CI.mono F (fun y0 h0 F => ?_) (fun _ _ w => rx_I w)
  refine wp_if_eq rfl rfl rfl rfl (fun c => ?_) (fun c => ?_)
  · replace F := F.1 c
    refine wp_const' (L' := [none, none]) rfl rfl rfl ?_
    exact wp_retI rfl (Or.inl rfl) F
  · replace F := F.2 c
    refine wp_aload rfl rfl rfl ?_
    obtain ⟨f2, F⟩ := F
    refine wp_getR rfl rfl rfl f2 rfl ?_
    refine wp_iload rfl rfl rfl ?_
    obtain ⟨i0, b9, F⟩ := F
    refine wp_iaload rfl b9 rfl ?_
    refine wp_aload rfl rfl rfl ?_
    refine wp_getR rfl rfl rfl f2 rfl ?_
    refine wp_iload rfl rfl rfl ?_
    obtain ⟨i1, b9, F⟩ := F
    refine wp_iaload rfl b9 rfl ?_
    refine wp_isub rfl rfl ?_
    refine wp_const rfl rfl ?_
    refine wp_iadd rfl rfl ?_
    refine wp_goto rfl rfl ?_
    exact wp_retI rfl (Or.inl rfl) F
-- CensusOffice$Table <init> (LCensusOffice$Form;III)V
theorem m260 {d : Nat} {a0 : Nat} {a1 : Nat} {a2 : Int32} {a3 : Int32} {a4 : Int32} {h : aH} {K : aH → Prop} {X : Nat → aH → Prop} (F : 8 ≤ a0 ∧ ∀ (r0 : Nat) (h0 : aH), r0 = gN h → h0 = gNew h 100 32 → gK h0 a0 = 11 ∧ ∀ h1 : aH, h1 = pR h0 a0 11 r0 → ∀ h2 : aH, h2 = pI h1 a0 12 0 → ∀ h3 : aH, h3 = pI h2 a0 13 0 → ∀ h4 : aH, h4 = pI h3 a0 14 (-1) → Wp (d + 1) 260 (27, [some (vR a0), some (vR a1), some (vI a2), some (vI a3), some (vI a4)], [], h4) (RV K X)) : CV (d + 1) 260 [vR a0, vR a1, vI a2, vI a3, vI a4] h K X := by
  show Wp (d + 1) 260 (0, [some (vR a0), some (vR a1), some (vI a2), some (vI a3), some (vI a4)], [], h) (RV K X)
  refine wp_aload rfl rfl rfl ?_
  obtain ⟨f0, F⟩ := F
  refine wp_obj rfl f0 rfl rfl ?_
  refine wp_aload rfl rfl rfl ?_
  refine wp_const rfl rfl ?_
  refine wp_newI (j := 32) rfl rfl (by decide) rfl ?_
  replace F := F _ _ rfl rfl
  generalize gNew h 100 32 = h0 at F ⊢
  generalize gN h = r0 at F ⊢
  obtain ⟨f1, F⟩ := F
  refine wp_putR rfl rfl rfl f0 f1 rfl ?_
  have f2 : gK (pR h0 a0 11 r0) a0 = 11 := (gK_pR _ _ _ _ _).trans f1
  replace F := F _ rfl
  generalize pR h0 a0 11 r0 = h1 at F f2 ⊢
  refine wp_aload rfl rfl rfl ?_
  refine wp_const rfl rfl ?_
  refine wp_putI rfl rfl rfl f0 f2 rfl ?_
  have f3 : gK (pI h1 a0 12 0) a0 = 11 := (gK_pI _ _ _ _ _).trans f2
  replace F := F _ rfl
  generalize pI h1 a0 12 0 = h2 at F f3 ⊢
  refine wp_aload rfl rfl rfl ?_
  refine wp_const rfl rfl ?_
  refine wp_putI rfl rfl rfl f0 f3 rfl ?_
  have f4 : gK (pI h2 a0 13 0) a0 = 11 := (gK_pI _ _ _ _ _).trans f3
  replace F := F _ rfl
  generalize pI h2 a0 13 0 = h3 at F f4 ⊢
  refine wp_aload rfl rfl rfl ?_
  refine wp_const rfl rfl ?_
  refine wp_putI rfl rfl rfl f0 f4 rfl ?_
  have f5 : gK (pI h3 a0 14 (-1)) a0 = 11 := (gK_pI _ _ _ _ _).trans f4
  replace F := F _ rfl
  generalize pI h3 a0 14 (-1) = h4 at F f5 ⊢
  exact F
theorem w260_27 {d : Nat} {l0 : Nat} {l1 : Nat} {l2 : Int32} {l3 : Int32} {l4 : Int32} {h : aH} {K : aH → Prop} {X : Nat → aH → Prop} (F : 8 ≤ l0 ∧ gK h l0 = 11 ∧ ∀ h0 : aH, h0 = pI h l0 15 0 → ∀ h1 : aH, h1 = pR h0 l0 0 l1 → ∀ h2 : aH, h2 = pI h1 l0 1 l2 → ∀ h3 : aH, h3 = pI h2 l0 2 l3 → Wp (d + 1) 260 (47, [some (vR l0), some (vR l1), some (vI l2), some (vI l3), some (vI l4)], [], h3) (RV K X)) : Wp (d + 1) 260 (27, [some (vR l0), some (vR l1), some (vI l2), some (vI l3), some (vI l4)], [], h) (RV K X) := by
  refine wp_aload rfl rfl rfl ?_
  refine wp_const rfl rfl ?_
  obtain ⟨f0, F⟩ := F
  obtain ⟨f1, F⟩ := F
  refine wp_putI rfl rfl rfl f0 f1 rfl ?_
  have f2 : gK (pI h l0 15 0) l0 = 11 := (gK_pI _ _ _ _ _).trans f1
  replace F := F _ rfl
  generalize pI h l0 15 0 = h0 at F f2 ⊢
  refine wp_aload rfl rfl rfl ?_
  refine wp_aload rfl rfl rfl ?_
  refine wp_putR rfl rfl rfl f0 f2 rfl ?_
  have f3 : gK (pR h0 l0 0 l1) l0 = 11 := (gK_pR _ _ _ _ _).trans f2
  replace F := F _ rfl
  generalize pR h0 l0 0 l1 = h1 at F f3 ⊢
  refine wp_aload rfl rfl rfl ?_
  refine wp_iload rfl rfl rfl ?_
  refine wp_putI rfl rfl rfl f0 f3 rfl ?_
  have f4 : gK (pI h1 l0 1 l2) l0 = 11 := (gK_pI _ _ _ _ _).trans f3
  replace F := F _ rfl
  generalize pI h1 l0 1 l2 = h2 at F f4 ⊢
  refine wp_aload rfl rfl rfl ?_
  refine wp_iload rfl rfl rfl ?_
  refine wp_putI rfl rfl rfl f0 f4 rfl ?_
  have f5 : gK (pI h2 l0 2 l3) l0 = 11 := (gK_pI _ _ _ _ _).trans f4
  replace F := F _ rfl
  generalize pI h2 l0 2 l3 = h3 at F f5 ⊢
  exact F
theorem w260_47 {d : Nat} {l0 : Nat} {l1 : Nat} {l2 : Int32} {l3 : Int32} {l4 : Int32} {h : aH} {K : aH → Prop} {X : Nat → aH → Prop} (F : 8 ≤ l0 ∧ gK h l0 = 11 ∧ ∀ h0 : aH, h0 = pI h l0 3 l4 → 8 ≤ l1 ∧ gK h0 l1 = 3 ∧ CI d 259 [vR l1, vI l2] h0 (fun y0 h1 => CI d 19 [vI 4, vI y0] h1 (fun y1 h2 => CI d 0 [vI 0, vI y1] h2 (fun y2 h3 => gK h3 l0 = 11 ∧ ∀ h4 : aH, h4 = pI h3 l0 4 y2 → gK h4 l1 = 3 ∧ CI d 259 [vR l1, vI l3] h4 (fun y3 h5 => CI d 19 [vI 3, vI y3] h5 (fun y4 h6 => CI d 0 [vI 0, vI y4] h6 (fun y5 h7 => gK h7 l0 = 11 ∧ ∀ h8 : aH, h8 = pI h7 l0 5 y5 → ∀ h9 : aH, h9 = pI h8 l0 6 ((gI h8 l0 4) * (gI h8 l0 5)) → Wp (d + 1) 260 (100, [some (vR l0), some (vR l1), some (vI l2), some (vI l3), some (vI l4)], [], h9) (RV K X)) X) X) X) X) X) X) : Wp (d + 1) 260 (47, [some (vR l0), some (vR l1), some (vI l2), some (vI l3), some (vI l4)], [], h) (RV K X) := by
  refine wp_aload rfl rfl rfl ?_
  refine wp_iload rfl rfl rfl ?_
  obtain ⟨f0, F⟩ := F
  obtain ⟨f1, F⟩ := F
  refine wp_putI rfl rfl rfl f0 f1 rfl ?_
  have f2 : gK (pI h l0 3 l4) l0 = 11 := (gK_pI _ _ _ _ _).trans f1
  replace F := F _ rfl
  generalize pI h l0 3 l4 = h0 at F f2 ⊢
  refine wp_aload rfl rfl rfl ?_
  refine wp_const rfl rfl ?_
  refine wp_const rfl rfl ?_
  refine wp_aload rfl rfl rfl ?_
  refine wp_iload rfl rfl rfl ?_
  obtain ⟨f3, F⟩ := F
  obtain ⟨f4, F⟩ := F
  refine wp_callI rfl rfl rfl (rcv_v f3 f4 (by decide) (by decide)) rfl rfl rfl rfl ?_
  refine CI.mono F (fun y0 h1 F => ?_) (fun _ _ w => rx_V w)
  refine wp_callI rfl rfl rfl rfl rfl rfl rfl rfl ?_
  refine CI.mono F (fun y1 h2 F => ?_) (fun _ _ w => rx_V w)
  refine wp_callI rfl rfl rfl rfl rfl rfl rfl rfl ?_
  refine CI.mono F (fun y2 h3 F => ?_) (fun _ _ w => rx_V w)
  obtain ⟨f5, F⟩ := F
  refine wp_putI rfl rfl rfl f0 f5 rfl ?_
  have f6 : gK (pI h3 l0 4 y2) l0 = 11 := (gK_pI _ _ _ _ _).trans f5
  replace F := F _ rfl
  generalize pI h3 l0 4 y2 = h4 at F f6 ⊢
  refine wp_aload rfl rfl rfl ?_
  refine wp_const rfl rfl ?_
  refine wp_const rfl rfl ?_
  refine wp_aload rfl rfl rfl ?_
  refine wp_iload rfl rfl rfl ?_
  obtain ⟨f7, F⟩ := F
  refine wp_callI rfl rfl rfl (rcv_v f3 f7 (by decide) (by decide)) rfl rfl rfl rfl ?_
  refine CI.mono F (fun y3 h5 F => ?_) (fun _ _ w => rx_V w)
  refine wp_callI rfl rfl rfl rfl rfl rfl rfl rfl ?_
  refine CI.mono F (fun y4 h6 F => ?_) (fun _ _ w => rx_V w)
  refine wp_callI rfl rfl rfl rfl rfl rfl rfl rfl ?_
  refine CI.mono F (fun y5 h7 F => ?_) (fun _ _ w => rx_V w)
  obtain ⟨f8, F⟩ := F
  refine wp_putI rfl rfl rfl f0 f8 rfl ?_
  have f9 : gK (pI h7 l0 5 y5) l0 = 11 := (gK_pI _ _ _ _ _).trans f8
  replace F := F _ rfl
  generalize pI h7 l0 5 y5 = h8 at F f9 ⊢
  refine wp_aload rfl rfl rfl ?_
  refine wp_aload rfl rfl rfl ?_
  refine wp_getI rfl rfl rfl f9 rfl ?_
  refine wp_aload rfl rfl rfl ?_
  refine wp_getI rfl rfl rfl f9 rfl ?_
  refine wp_imul rfl rfl ?_
  refine wp_putI rfl rfl rfl f0 f9 rfl ?_
  have f10 : gK (pI h8 l0 6 ((gI h8 l0 4) * (gI h8 l0 5))) l0 = 11 := (gK_pI _ _ _ _ _).trans f9
  replace F := F _ rfl
  generalize pI h8 l0 6 ((gI h8 l0 4) * (gI h8 l0 5)) = h9 at F f10 ⊢
  exact F
theorem w260_100 {d : Nat} {l0 : Nat} {l1 : Nat} {l2 : Int32} {l3 : Int32} {l4 : Int32} {h : aH} {K : aH → Prop} {X : Nat → aH → Prop} (F : gK h l0 = 11 ∧ ∃ i0 : Nat, (gI h l0 6) = nI i0 ∧ i0 ≤ 1000000 ∧ ∀ (r0 : Nat) (h0 : aH), r0 = gN h → h0 = gNew h 100 i0 → 8 ≤ l0 ∧ gK h0 l0 = 11 ∧ ∀ h1 : aH, h1 = pR h0 l0 7 r0 → ∃ i1 : Nat, (gI h1 l0 6) = nI i1 ∧ i1 ≤ 1000000 ∧ ∀ (r1 : Nat) (h2 : aH), r1 = gN h1 → h2 = gNew h1 100 i1 → gK h2 l0 = 11 ∧ ∀ h3 : aH, h3 = pR h2 l0 8 r1 → ∃ i2 : Nat, (gI h3 l0 6) = nI i2 ∧ i2 ≤ 1000000 ∧ ∀ (r2 : Nat) (h4 : aH), r2 = gN h3 → h4 = gNew h3 100 i2 → gK h4 l0 = 11 ∧ ∀ h5 : aH, h5 = pR h4 l0 9 r2 → ∃ i3 : Nat, (gI h5 l0 6) = nI i3 ∧ i3 ≤ 1000000 ∧ ∀ (r3 : Nat) (h6 : aH), r3 = gN h5 → h6 = gNew h5 100 i3 → gK h6 l0 = 11 ∧ ∀ h7 : aH, h7 = pR h6 l0 10 r3 → Wp (d + 1) 260 (140, [some (vR l0), some (vR l1), some (vI l2), some (vI l3), some (vI l4)], [], h7) (RV K X)) : Wp (d + 1) 260 (100, [some (vR l0), some (vR l1), some (vI l2), some (vI l3), some (vI l4)], [], h) (RV K X) := by
  refine wp_aload rfl rfl rfl ?_
  refine wp_aload rfl rfl rfl ?_
  obtain ⟨f0, F⟩ := F
  refine wp_getI rfl rfl rfl f0 rfl ?_
  obtain ⟨i0, e9, b9, F⟩ := F
  refine wp_newI rfl e9 b9 rfl ?_
  replace F := F _ _ rfl rfl
  generalize gNew h 100 i0 = h0 at F ⊢
  generalize gN h = r0 at F ⊢
  obtain ⟨f1, F⟩ := F
  obtain ⟨f2, F⟩ := F
  refine wp_putR rfl rfl rfl f1 f2 rfl ?_
  have f3 : gK (pR h0 l0 7 r0) l0 = 11 := (gK_pR _ _ _ _ _).trans f2
  replace F := F _ rfl
  generalize pR h0 l0 7 r0 = h1 at F f3 ⊢
  refine wp_aload rfl rfl rfl ?_
  refine wp_aload rfl rfl rfl ?_
  refine wp_getI rfl rfl rfl f3 rfl ?_
  obtain ⟨i1, e9, b9, F⟩ := F
  refine wp_newI rfl e9 b9 rfl ?_
  replace F := F _ _ rfl rfl
  generalize gNew h1 100 i1 = h2 at F ⊢
  generalize gN h1 = r1 at F ⊢
  obtain ⟨f4, F⟩ := F
  refine wp_putR rfl rfl rfl f1 f4 rfl ?_
  have f5 : gK (pR h2 l0 8 r1) l0 = 11 := (gK_pR _ _ _ _ _).trans f4
  replace F := F _ rfl
  generalize pR h2 l0 8 r1 = h3 at F f5 ⊢
  refine wp_aload rfl rfl rfl ?_
  refine wp_aload rfl rfl rfl ?_
  refine wp_getI rfl rfl rfl f5 rfl ?_
  obtain ⟨i2, e9, b9, F⟩ := F
  refine wp_newI rfl e9 b9 rfl ?_
  replace F := F _ _ rfl rfl
  generalize gNew h3 100 i2 = h4 at F ⊢
  generalize gN h3 = r2 at F ⊢
  obtain ⟨f6, F⟩ := F
  refine wp_putR rfl rfl rfl f1 f6 rfl ?_
  have f7 : gK (pR h4 l0 9 r2) l0 = 11 := (gK_pR _ _ _ _ _).trans f6
  replace F := F _ rfl
  generalize pR h4 l0 9 r2 = h5 at F f7 ⊢
  refine wp_aload rfl rfl rfl ?_
  refine wp_aload rfl rfl rfl ?_
  refine wp_getI rfl rfl rfl f7 rfl ?_
  obtain ⟨i3, e9, b9, F⟩ := F
  refine wp_newI rfl e9 b9 rfl ?_
  replace F := F _ _ rfl rfl
  generalize gNew h5 100 i3 = h6 at F ⊢
  generalize gN h5 = r3 at F ⊢
  obtain ⟨f8, F⟩ := F
  refine wp_putR rfl rfl rfl f1 f8 rfl ?_
  have f9 : gK (pR h6 l0 10 r3) l0 = 11 := (gK_pR _ _ _ _ _).trans f8
  replace F := F _ rfl
  generalize pR h6 l0 10 r3 = h7 at F f9 ⊢
  exact F
theorem w260_140 {d : Nat} {l0 : Nat} {l1 : Nat} {l2 : Int32} {l3 : Int32} {l4 : Int32} {h : aH} {K : aH → Prop} {X : Nat → aH → Prop} (F : K h) : Wp (d + 1) 260 (140, [some (vR l0), some (vR l1), some (vI l2), some (vI l3), some (vI l4)], [], h) (RV K X) := by
  exact wp_retV rfl F
-- CensusOffice isOfSample (LCensusOffice$Rec;I)Z
theorem m261 {d : Nat} {a0 : Nat} {a1 : Nat} {a2 : Int32} {h : aH} {K : Int32 → aH → Prop} {X : Nat → aH → Prop} (F : ((a2.toInt = (-1) → K 1 h) ∧ (¬ a2.toInt = (-1) → 8 ≤ a0 ∧ gK h a0 = 1 ∧ CR d 242 [vR a0, vI a2] h (fun q0 h0 => gK h0 a0 = 1 ∧ gK h0 a1 = 5 ∧ CI d 35 [vR a0] h0 (fun y0 h1 => 8 ≤ (gR h0 a0 0) ∧ gK h1 (gR h0 a0 0) = 6 ∧ CI d 42 [vR (gR h0 a0 0), vI (gI h0 a1 1), vI y0] h1 (fun y1 h2 => 8 ≤ q0 ∧ gK h2 q0 = 9 ∧ CI d 254 [vR q0, vI y1] h2 (fun y2 h3 => ((y2.toInt = 0 → K 0 h3) ∧ (¬ y2.toInt = 0 → K 1 h3))) X) X) X) X))) : CI (d + 1) 261 [vR a0, vR a1, vI a2] h K X := by
  show Wp (d + 1) 261 (0, [some (vR a0), some (vR a1), some (vI a2)], [], h) (RI K X)
  refine wp_iload rfl rfl rfl ?_
  refine wp_const rfl rfl ?_
  refine wp_icmp_eq (Y := (-1)) rfl rfl rfl rfl rfl (fun c => ?_) (fun c => ?_)
  · replace F := F.1 c
    refine wp_const' (L' := [none, none, none]) rfl rfl rfl ?_
    refine wp_goto rfl rfl ?_
    exact wp_retI rfl (Or.inr rfl) F
  · replace F := F.2 c
    refine wp_aload rfl rfl rfl ?_
    refine wp_iload rfl rfl rfl ?_
    obtain ⟨f0, F⟩ := F
    obtain ⟨f1, F⟩ := F
    refine wp_callR rfl rfl rfl (rcv_v f0 f1 (by decide) (by decide)) rfl rfl rfl rfl ?_
    refine CR.mono F (fun q0 h0 F => ?_) (fun _ _ w => rx_I w)
    refine wp_aload rfl rfl rfl ?_
    obtain ⟨f2, F⟩ := F
    refine wp_getR rfl rfl rfl f2 rfl ?_
    refine wp_aload rfl rfl rfl ?_
    obtain ⟨f3, F⟩ := F
    refine wp_getI rfl rfl rfl f3 rfl ?_
    refine wp_aload rfl rfl rfl ?_
    refine wp_callI rfl rfl rfl (rcv_v f0 f2 (by decide) (by decide)) rfl rfl rfl rfl ?_
    refine CI.mono F (fun y0 h1 F => ?_) (fun _ _ w => rx_I w)
    obtain ⟨f4, F⟩ := F
    obtain ⟨f5, F⟩ := F
    refine wp_callI rfl rfl rfl (rcv_v f4 f5 (by decide) (by decide)) rfl rfl rfl rfl ?_
    refine CI.mono F (fun y1 h2 F => ?_) (fun _ _ w => rx_I w)
    obtain ⟨f6, F⟩ := F
    obtain ⟨f7, F⟩ := F
    refine wp_callI rfl rfl rfl (rcv_v f6 f7 (by decide) (by decide)) rfl rfl rfl rfl ?_
    refine CI.mono F (fun y2 h3 F => ?_) (fun _ _ w => rx_I w)
    refine wp_if_eq rfl rfl rfl rfl (fun c => ?_) (fun c => ?_)
    · replace F := F.1 c
      refine wp_const' (L' := [none, none, none]) rfl rfl rfl ?_
      exact wp_retI rfl (Or.inr rfl) F
    · replace F := F.2 c
      refine wp_const' (L' := [none, none, none]) rfl rfl rfl ?_
      refine wp_goto rfl rfl ?_
      exact wp_retI rfl (Or.inr rfl) F
-- CensusOffice$Table count (LCensusOffice$Rec;)V
theorem m262 {d : Nat} {a0 : Nat} {a1 : Nat} {h : aH} {K : aH → Prop} {X : Nat → aH → Prop} (F : gK h a1 = 5 ∧ gK h a0 = 11 ∧ ∃ i0 : Nat, inB h 100 (gR h a1 3) (gI h a0 1) i0 ∧ ∀ v0 : Int32, v0 = gI h (gR h a1 3) i0 → ∃ i1 : Nat, inB h 100 (gR h a1 3) (gI h a0 2) i1 ∧ ∀ v1 : Int32, v1 = gI h (gR h a1 3) i1 → (((gI h a0 3).toInt = (-1) → Wp (d + 1) 262 (41, [some (vR a0), some (vR a1), some (vI v0), some (vI v1), none, none], [vI 1], h) (RV K X)) ∧ (¬ (gI h a0 3).toInt = (-1) → ∃ i2 : Nat, inB h 100 (gR h a1 3) (gI h a0 3) i2 ∧ Wp (d + 1) 262 (41, [some (vR a0), some (vR a1), some (vI v0), some (vI v1), none, none], [vI (gI h (gR h a1 3) i2)], h) (RV K X)))) : CV (d + 1) 262 [vR a0, vR a1] h K X := by
  show Wp (d + 1) 262 (0, [some (vR a0), some (vR a1), none, none, none, none], [], h) (RV K X)
  refine wp_aload rfl rfl rfl ?_
  obtain ⟨f0, F⟩ := F
  refine wp_getR rfl rfl rfl f0 rfl ?_
  refine wp_aload rfl rfl rfl ?_
  obtain ⟨f1, F⟩ := F
  refine wp_getI rfl rfl rfl f1 rfl ?_
  obtain ⟨i0, b9, F⟩ := F
  refine wp_iaload rfl b9 rfl ?_
  replace F := F _ rfl
  generalize (gI h (gR h a1 3) i0 : Int32) = v0 at F ⊢
  refine wp_istore (L2 := [some (vR a0), some (vR a1), some (vI v0), none, none, none]) rfl rfl rfl rfl ?_
  refine wp_aload rfl rfl rfl ?_
  refine wp_getR rfl rfl rfl f0 rfl ?_
  refine wp_aload rfl rfl rfl ?_
  refine wp_getI rfl rfl rfl f1 rfl ?_
  obtain ⟨i1, b9, F⟩ := F
  refine wp_iaload rfl b9 rfl ?_
  replace F := F _ rfl
  generalize (gI h (gR h a1 3) i1 : Int32) = v1 at F ⊢
  refine wp_istore (L2 := [some (vR a0), some (vR a1), some (vI v0), some (vI v1), none, none]) rfl rfl rfl rfl ?_
  refine wp_aload rfl rfl rfl ?_
  refine wp_getI rfl rfl rfl f1 rfl ?_
  refine wp_const rfl rfl ?_
  refine wp_icmp_ne (Y := (-1)) rfl rfl rfl rfl rfl (fun c => ?_) (fun c => ?_)
  · replace F := F.1 c
    refine wp_const rfl rfl ?_
    refine wp_goto rfl rfl ?_
    exact F
  · replace F := F.2 c
    refine wp_aload' (L' := [some (vR a0), some (vR a1), some (vI v0), some (vI v1), none, none]) rfl rfl rfl rfl ?_
    refine wp_getR rfl rfl rfl f0 rfl ?_
    refine wp_aload rfl rfl rfl ?_
    refine wp_getI rfl rfl rfl f1 rfl ?_
    obtain ⟨i2, b9, F⟩ := F
    refine wp_iaload rfl b9 rfl ?_
    exact F
theorem w262_41 {d : Nat} {l0 : Nat} {l1 : Nat} {l2 : Int32} {l3 : Int32} {s0 : Int32} {h : aH} {K : aH → Prop} {X : Nat → aH → Prop} (F : ((l2.toInt = (-2000000) → K h) ∧ (¬ l2.toInt = (-2000000) → ((l3.toInt = (-2000000) → K h) ∧ (¬ l3.toInt = (-2000000) → ((s0.toInt < 0 → K h) ∧ (¬ s0.toInt < 0 → 8 ≤ l1 ∧ gK h l1 = 5 ∧ CI d 213 [vR l1] h (fun y0 h0 => ((y0.toInt = 0 → K h0) ∧ (¬ y0.toInt = 0 → gK h0 l0 = 11 ∧ gK h0 (gR h0 l0 0) = 3 ∧ ∃ i0 : Nat, inB h0 100 (gR h0 (gR h0 l0 0) 3) (gI h0 l0 1) i0 ∧ ∃ i1 : Nat, inB h0 100 (gR h0 (gR h0 l0 0) 3) (gI h0 l0 2) i1 ∧ ∀ v0 : Int32, v0 = (((l2 - (gI h0 (gR h0 (gR h0 l0 0) 3) i0)) * (gI h0 l0 5)) + l3) - (gI h0 (gR h0 (gR h0 l0 0) 3) i1) → ((v0.toInt < 0 → K h0) ∧ (¬ v0.toInt < 0 → ((v0.toInt < (gI h0 l0 6).toInt → ∃ i2 : Nat, inB h0 100 (gR h0 l0 7) v0 i2 ∧ 8 ≤ (gR h0 l0 7) ∧ ∃ i3 : Nat, inB h0 100 (gR h0 l0 7) v0 i3 ∧ ∀ h1 : aH, h1 = pI h0 (gR h0 l0 7) i3 ((gI h0 (gR h0 l0 7) i2) + s0) → ∃ i4 : Nat, inB h1 100 (gR h1 l0 8) v0 i4 ∧ 8 ≤ (gR h1 l0 8) ∧ ∃ i5 : Nat, inB h1 100 (gR h1 l0 8) v0 i5 ∧ ∀ h2 : aH, h2 = pI h1 (gR h1 l0 8) i5 ((gI h1 (gR h1 l0 8) i4) + 1) → ∃ i6 : Nat, inB h2 100 (gR h2 l0 9) v0 i6 ∧ CI d 0 [vI (gI h2 (gR h2 l0 9) i6), vI s0] h2 (fun y1 h3 => 8 ≤ (gR h2 l0 9) ∧ ∃ i7 : Nat, inB h3 100 (gR h2 l0 9) v0 i7 ∧ ∀ h4 : aH, h4 = pI h3 (gR h2 l0 9) i7 y1 → K h4) X) ∧ (¬ v0.toInt < (gI h0 l0 6).toInt → K h0))))))) X))))))) : Wp (d + 1) 262 (41, [some (vR l0), some (vR l1), some (vI l2), some (vI l3), none, none], [vI s0], h) (RV K X) := by
  refine wp_istore' (L' := [some (vR l0), some (vR l1), some (vI l2), some (vI l3), none, none]) (L2 := [some (vR l0), some (vR l1), some (vI l2), some (vI l3), some (vI s0), none]) rfl rfl rfl rfl rfl ?_
  refine wp_iload rfl rfl rfl ?_
  refine wp_const rfl rfl ?_
  refine wp_icmp_eq (Y := (-2000000)) rfl rfl rfl rfl rfl (fun c => ?_) (fun c => ?_)
  · replace F := F.1 c
    exact wp_retV rfl F
  · replace F := F.2 c
    refine wp_iload rfl rfl rfl ?_
    refine wp_const rfl rfl ?_
    refine wp_icmp_eq (Y := (-2000000)) rfl rfl rfl rfl rfl (fun c => ?_) (fun c => ?_)
    · replace F := F.1 c
      exact wp_retV rfl F
    · replace F := F.2 c
      refine wp_iload rfl rfl rfl ?_
      refine wp_if_lt rfl rfl rfl rfl (fun c => ?_) (fun c => ?_)
      · replace F := F.1 c
        exact wp_retV rfl F
      · replace F := F.2 c
        refine wp_aload rfl rfl rfl ?_
        obtain ⟨f0, F⟩ := F
        obtain ⟨f1, F⟩ := F
        refine wp_callI rfl rfl rfl (rcv_v f0 f1 (by decide) (by decide)) rfl rfl rfl rfl ?_
        refine CI.mono F (fun y0 h0 F => ?_) (fun _ _ w => rx_V w)
        refine wp_if_ne rfl rfl rfl rfl (fun c => ?_) (fun c => ?_)
        · replace F := F.1 c
          exact wp_retV rfl F
        · replace F := F.2 c
          refine wp_iload' (L' := [some (vR l0), none, some (vI l2), some (vI l3), some (vI s0), none]) rfl rfl rfl rfl ?_
          refine wp_aload rfl rfl rfl ?_
          obtain ⟨f2, F⟩ := F
          refine wp_getR rfl rfl rfl f2 rfl ?_
          obtain ⟨f3, F⟩ := F
          refine wp_getR rfl rfl rfl f3 rfl ?_
          refine wp_aload rfl rfl rfl ?_
          refine wp_getI rfl rfl rfl f2 rfl ?_
          obtain ⟨i0, b9, F⟩ := F
          refine wp_iaload rfl b9 rfl ?_
          refine wp_isub rfl rfl ?_
          refine wp_aload rfl rfl rfl ?_
          refine wp_getI rfl rfl rfl f2 rfl ?_
          refine wp_imul rfl rfl ?_
          refine wp_iload rfl rfl rfl ?_
          refine wp_iadd rfl rfl ?_
          refine wp_aload rfl rfl rfl ?_
          refine wp_getR rfl rfl rfl f2 rfl ?_
          refine wp_getR rfl rfl rfl f3 rfl ?_
          refine wp_aload rfl rfl rfl ?_
          refine wp_getI rfl rfl rfl f2 rfl ?_
          obtain ⟨i1, b9, F⟩ := F
          refine wp_iaload rfl b9 rfl ?_
          refine wp_isub rfl rfl ?_
          replace F := F _ rfl
          generalize ((((l2 - (gI h0 (gR h0 (gR h0 l0 0) 3) i0)) * (gI h0 l0 5)) + l3) - (gI h0 (gR h0 (gR h0 l0 0) 3) i1) : Int32) = v0 at F ⊢
          refine wp_istore (L2 := [some (vR l0), none, some (vI l2), some (vI l3), some (vI s0), some (vI v0)]) rfl rfl rfl rfl ?_
          refine wp_iload rfl rfl rfl ?_
          refine wp_if_lt rfl rfl rfl rfl (fun c => ?_) (fun c => ?_)
          · replace F := F.1 c
            exact wp_retV rfl F
          · replace F := F.2 c
            refine wp_iload rfl rfl rfl ?_
            refine wp_aload rfl rfl rfl ?_
            refine wp_getI rfl rfl rfl f2 rfl ?_
            refine wp_icmp_ge rfl rfl rfl rfl rfl (fun c => ?_) (fun c => ?_)
            · replace F := F.1 c
              refine wp_aload rfl rfl rfl ?_
              refine wp_getR rfl rfl rfl f2 rfl ?_
              refine wp_iload rfl rfl rfl ?_
              refine wp_dup2 rfl rfl rfl rfl ?_
              obtain ⟨i2, b9, F⟩ := F
              refine wp_iaload rfl b9 rfl ?_
              refine wp_iload rfl rfl rfl ?_
              refine wp_iadd rfl rfl ?_
              obtain ⟨f4, F⟩ := F
              obtain ⟨i3, b9, F⟩ := F
              refine wp_iastore rfl f4 b9 rfl ?_
              have f5 : gK (pI h0 (gR h0 l0 7) i3 ((gI h0 (gR h0 l0 7) i2) + s0)) l0 = 11 := (gK_pI _ _ _ _ _).trans f2
              have f6 : gK (pI h0 (gR h0 l0 7) i3 ((gI h0 (gR h0 l0 7) i2) + s0)) (gR (pI h0 (gR h0 l0 7) i3 ((gI h0 (gR h0 l0 7) i2) + s0)) l0 0) = 3 := (by simp only [gK_pI, gR_pI]; exact f3)
              replace F := F _ rfl
              generalize pI h0 (gR h0 l0 7) i3 ((gI h0 (gR h0 l0 7) i2) + s0) = h1 at F f5 f6 ⊢
              refine wp_aload rfl rfl rfl ?_
              refine wp_getR rfl rfl rfl f5 rfl ?_
              refine wp_iload rfl rfl rfl ?_
              refine wp_dup2 rfl rfl rfl rfl ?_
              obtain ⟨i4, b9, F⟩ := F
              refine wp_iaload rfl b9 rfl ?_
              refine wp_const rfl rfl ?_
              refine wp_iadd rfl rfl ?_
              obtain ⟨f7, F⟩ := F
              obtain ⟨i5, b9, F⟩ := F
              refine wp_iastore rfl f7 b9 rfl ?_
              have f8 : gK (pI h1 (gR h1 l0 8) i5 ((gI h1 (gR h1 l0 8) i4) + 1)) l0 = 11 := (gK_pI _ _ _ _ _).trans f5
              have f9 : gK (pI h1 (gR h1 l0 8) i5 ((gI h1 (gR h1 l0 8) i4) + 1)) (gR (pI h1 (gR h1 l0 8) i5 ((gI h1 (gR h1 l0 8) i4) + 1)) l0 0) = 3 := (by simp only [gK_pI, gR_pI]; exact f6)
              replace F := F _ rfl
              generalize pI h1 (gR h1 l0 8) i5 ((gI h1 (gR h1 l0 8) i4) + 1) = h2 at F f8 f9 ⊢
              refine wp_aload rfl rfl rfl ?_
              refine wp_getR rfl rfl rfl f8 rfl ?_
              refine wp_iload rfl rfl rfl ?_
              refine wp_aload rfl rfl rfl ?_
              refine wp_getR rfl rfl rfl f8 rfl ?_
              refine wp_iload rfl rfl rfl ?_
              obtain ⟨i6, b9, F⟩ := F
              refine wp_iaload rfl b9 rfl ?_
              refine wp_iload rfl rfl rfl ?_
              refine wp_callI rfl rfl rfl rfl rfl rfl rfl rfl ?_
              refine CI.mono F (fun y1 h3 F => ?_) (fun _ _ w => rx_V w)
              obtain ⟨f10, F⟩ := F
              obtain ⟨i7, b9, F⟩ := F
              refine wp_iastore rfl f10 b9 rfl ?_
              replace F := F _ rfl
              generalize pI h3 (gR h2 l0 9) i7 y1 = h4 at F ⊢
              exact wp_retV rfl F
            · replace F := F.2 c
              exact wp_retV rfl F
-- CensusOffice$Table settle ()V
theorem m263 {d : Nat} {a0 : Nat} {h : aH} {K : aH → Prop} {X : Nat → aH → Prop} (F : gK h a0 = 11 ∧ ∃ i0 i1 i2 : Nat, cpOK h (gR h a0 7) 0 (gR h a0 10) 0 (gI h a0 6) i0 i1 i2 ∧ gK h (gR h a0 7) = 100 ∧ gK h (gR h a0 10) = 100 ∧ ∀ h0 : aH, h0 = gCopyI h (gR h a0 7) i0 (gR h a0 10) i1 i2 → Wp (d + 1) 263 (19, [some (vR a0), some (vI 0), none, none], [], h0) (RV K X)) : CV (d + 1) 263 [vR a0] h K X := by
  show Wp (d + 1) 263 (0, [some (vR a0), none, none, none], [], h) (RV K X)
  refine wp_aload rfl rfl rfl ?_
  obtain ⟨f0, F⟩ := F
  refine wp_getR rfl rfl rfl f0 rfl ?_
  refine wp_const rfl rfl ?_
  refine wp_aload rfl rfl rfl ?_
  refine wp_getR rfl rfl rfl f0 rfl ?_
  refine wp_const rfl rfl ?_
  refine wp_aload rfl rfl rfl ?_
  refine wp_getI rfl rfl rfl f0 rfl ?_
  obtain ⟨i0, i1, i2, c9, ka, kb, F⟩ := F
  refine wp_copyI rfl rfl c9 ka kb rfl ?_
  have f1 : gK (gCopyI h (gR h a0 7) i0 (gR h a0 10) i1 i2) a0 = 11 := f0
  replace F := F _ rfl
  generalize gCopyI h (gR h a0 7) i0 (gR h a0 10) i1 i2 = h0 at F f1 ⊢
  refine wp_const rfl rfl ?_
  refine wp_istore (L2 := [some (vR a0), some (vI 0), none, none]) rfl rfl rfl rfl ?_
  exact F
theorem w263_19 {d : Nat} {l0 : Nat} {l1 : Int32} {h : aH} {K : aH → Prop} {X : Nat → aH → Prop} (F : gK h l0 = 11 ∧ ((l1.toInt < (gI h l0 4).toInt → Wp (d + 1) 263 (29, [some (vR l0), some (vI l1), some (vI 0), none], [], h) (RV K X)) ∧ (¬ l1.toInt < (gI h l0 4).toInt → K h))) : Wp (d + 1) 263 (19, [some (vR l0), some (vI l1), none, none], [], h) (RV K X) := by
  refine wp_iload' (L' := [some (vR l0), some (vI l1), none, none]) rfl rfl rfl rfl ?_
  refine wp_aload rfl rfl rfl ?_
  obtain ⟨f0, F⟩ := F
  refine wp_getI rfl rfl rfl f0 rfl ?_
  refine wp_icmp_ge rfl rfl rfl rfl rfl (fun c => ?_) (fun c => ?_)
  · replace F := F.1 c
    refine wp_const rfl rfl ?_
    refine wp_istore (L2 := [some (vR l0), some (vI l1), some (vI 0), none]) rfl rfl rfl rfl ?_
    exact F
  · replace F := F.2 c
    exact wp_retV rfl F
theorem w263_29 {d : Nat} {l0 : Nat} {l1 : Int32} {l2 : Int32} {h : aH} {K : aH → Prop} {X : Nat → aH → Prop} (F : gK h l0 = 11 ∧ ((l2.toInt < (1 <<< ((gI h l0 5) &&& 31)).toInt → Wp (d + 1) 263 (41, [some (vR l0), some (vI l1), some (vI l2), some (vI 0)], [], h) (RV K X)) ∧ (¬ l2.toInt < (1 <<< ((gI h l0 5) &&& 31)).toInt → ∀ v0 : Int32, v0 = l1 + 1 → Wp (d + 1) 263 (19, [some (vR l0), some (vI v0), none, none], [], h) (RV K X)))) : Wp (d + 1) 263 (29, [some (vR l0), some (vI l1), some (vI l2), none], [], h) (RV K X) := by
  refine wp_iload' (L' := [some (vR l0), some (vI l1), some (vI l2), none]) rfl rfl rfl rfl ?_
  refine wp_const rfl rfl ?_
  refine wp_aload rfl rfl rfl ?_
  obtain ⟨f0, F⟩ := F
  refine wp_getI rfl rfl rfl f0 rfl ?_
  refine wp_ishl rfl rfl ?_
  refine wp_icmp_ge rfl rfl rfl rfl rfl (fun c => ?_) (fun c => ?_)
  · replace F := F.1 c
    refine wp_const rfl rfl ?_
    refine wp_istore (L2 := [some (vR l0), some (vI l1), some (vI l2), some (vI 0)]) rfl rfl rfl rfl ?_
    exact F
  · replace F := F.2 c
    refine wp_iinc' (L' := [some (vR l0), some (vI l1), none, none]) (y := 1) (L2 := [some (vR l0), some (vI (l1 + 1)), none, none]) rfl rfl rfl rfl rfl rfl ?_
    replace F := F _ rfl
    generalize (l1 + 1 : Int32) = v0 at F ⊢
    refine wp_goto rfl rfl ?_
    exact F
theorem w263_41 {d : Nat} {l0 : Nat} {l1 : Int32} {l2 : Int32} {l3 : Int32} {h : aH} {K : aH → Prop} {X : Nat → aH → Prop} (F : gK h l0 = 11 ∧ ((l3.toInt < (gI h l0 5).toInt → ∀ v0 : Int32, v0 = (l1 <<< (3 &&& 31)) ||| l2 → ∃ i0 : Nat, inB h 100 (gR h l0 11) v0 i0 ∧ CI d 199 [vI l2, vI l3] h (fun y0 h0 => ((y0.toInt = 0 → 8 ≤ (gR h l0 11) ∧ ∃ i1 : Nat, inB h0 100 (gR h l0 11) v0 i1 ∧ ∀ h1 : aH, h1 = pI h0 (gR h l0 11) i1 ((gI h (gR h l0 11) i0) + 0) → ∀ v1 : Int32, v1 = l3 + 1 → Wp (d + 1) 263 (41, [some (vR l0), some (vI l1), some (vI l2), some (vI v1)], [], h1) (RV K X)) ∧ (¬ y0.toInt = 0 → gK h0 l0 = 11 ∧ ∃ i2 : Nat, inB h0 100 (gR h0 l0 7) ((l1 * (gI h0 l0 5)) + l3) i2 ∧ 8 ≤ (gR h l0 11) ∧ ∃ i3 : Nat, inB h0 100 (gR h l0 11) v0 i3 ∧ ∀ h2 : aH, h2 = pI h0 (gR h l0 11) i3 ((gI h (gR h l0 11) i0) + (gI h0 (gR h0 l0 7) i2)) → ∀ v2 : Int32, v2 = l3 + 1 → Wp (d + 1) 263 (41, [some (vR l0), some (vI l1), some (vI l2), some (vI v2)], [], h2) (RV K X)))) (fun _ _ => False)) ∧ (¬ l3.toInt < (gI h l0 5).toInt → ∀ v3 : Int32, v3 = l2 + 1 → Wp (d + 1) 263 (29, [some (vR l0), some (vI l1), some (vI v3), none], [], h) (RV K X)))) : Wp (d + 1) 263 (41, [some (vR l0), some (vI l1), some (vI l2), some (vI l3)], [], h) (RV K X) := by
  refine wp_iload rfl rfl rfl ?_
  refine wp_aload rfl rfl rfl ?_
  obtain ⟨f0, F⟩ := F
  refine wp_getI rfl rfl rfl f0 rfl ?_
  refine wp_icmp_ge rfl rfl rfl rfl rfl (fun c => ?_) (fun c => ?_)
  · replace F := F.1 c
    refine wp_aload rfl rfl rfl ?_
    refine wp_getR rfl rfl rfl f0 rfl ?_
    refine wp_iload rfl rfl rfl ?_
    refine wp_const rfl rfl ?_
    refine wp_ishl rfl rfl ?_
    refine wp_iload rfl rfl rfl ?_
    refine wp_ior rfl rfl ?_
    replace F := F _ rfl
    generalize ((l1 <<< (3 &&& 31)) ||| l2 : Int32) = v0 at F ⊢
    refine wp_dup2 rfl rfl rfl rfl ?_
    obtain ⟨i0, b9, F⟩ := F
    refine wp_iaload rfl b9 rfl ?_
    refine wp_iload rfl rfl rfl ?_
    refine wp_iload rfl rfl rfl ?_
    refine wp_callqI rfl rfl rfl rfl rfl rfl ?_
    refine CI.mono F (fun y0 h0 F => ?_) (fun _ _ w => w)
    refine wp_if_eq rfl rfl rfl rfl (fun c => ?_) (fun c => ?_)
    · replace F := F.1 c
      refine wp_const rfl rfl ?_
      refine wp_iadd rfl rfl ?_
      obtain ⟨f1, F⟩ := F
      obtain ⟨i1, b9, F⟩ := F
      refine wp_iastore rfl f1 b9 rfl ?_
      replace F := F _ rfl
      generalize pI h0 (gR h l0 11) i1 ((gI h (gR h l0 11) i0) + 0) = h1 at F ⊢
      refine wp_iinc (y := 1) (L2 := [some (vR l0), some (vI l1), some (vI l2), some (vI (l3 + 1))]) rfl rfl rfl rfl rfl ?_
      replace F := F _ rfl
      generalize (l3 + 1 : Int32) = v1 at F ⊢
      refine wp_goto rfl rfl ?_
      exact F
    · replace F := F.2 c
      refine wp_aload rfl rfl rfl ?_
      obtain ⟨f2, F⟩ := F
      refine wp_getR rfl rfl rfl f2 rfl ?_
      refine wp_iload rfl rfl rfl ?_
      refine wp_aload rfl rfl rfl ?_
      refine wp_getI rfl rfl rfl f2 rfl ?_
      refine wp_imul rfl rfl ?_
      refine wp_iload rfl rfl rfl ?_
      refine wp_iadd rfl rfl ?_
      obtain ⟨i2, b9, F⟩ := F
      refine wp_iaload rfl b9 rfl ?_
      refine wp_goto rfl rfl ?_
      refine wp_iadd rfl rfl ?_
      obtain ⟨f3, F⟩ := F
      obtain ⟨i3, b9, F⟩ := F
      refine wp_iastore rfl f3 b9 rfl ?_
      have f4 : gK (pI h0 (gR h l0 11) i3 ((gI h (gR h l0 11) i0) + (gI h0 (gR h0 l0 7) i2))) l0 = 11 := (gK_pI _ _ _ _ _).trans f2
      replace F := F _ rfl
      generalize pI h0 (gR h l0 11) i3 ((gI h (gR h l0 11) i0) + (gI h0 (gR h0 l0 7) i2)) = h2 at F f4 ⊢
      refine wp_iinc (y := 1) (L2 := [some (vR l0), some (vI l1), some (vI l2), some (vI (l3 + 1))]) rfl rfl rfl rfl rfl ?_
      replace F := F _ rfl
      generalize (l3 + 1 : Int32) = v2 at F ⊢
      refine wp_goto rfl rfl ?_
      exact F
  · replace F := F.2 c
    refine wp_iinc' (L' := [some (vR l0), some (vI l1), some (vI l2), none]) (y := 1) (L2 := [some (vR l0), some (vI l1), some (vI (l2 + 1)), none]) rfl rfl rfl rfl rfl rfl ?_
    replace F := F _ rfl
    generalize (l2 + 1 : Int32) = v3 at F ⊢
    refine wp_goto rfl rfl ?_
    exact F
