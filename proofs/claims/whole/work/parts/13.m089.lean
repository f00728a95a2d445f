/-! THE FORMULAS OF THE METHODS 89 TO 122 (written by wip/tools/gen13.py): what a run from a cut point needs -/
-- CensusOffice$Reader readStatement ()Z
theorem m89 {d : Nat} {a0 : Nat} {h : aH} {K : Int32 → aH → Prop} {X : Nat → aH → Prop} (F : 8 ≤ a0 ∧ gK h a0 = 4 ∧ CI d 74 [vR a0] h (fun y0 h0 => ((y0.toInt = (-1) → gK h0 a0 = 4 ∧ gK h0 (gR h0 a0 0) = 12 ∧ CI d 75 [vR a0, vI (gI h0 (gR h0 a0 0) 4)] h0 (fun y1 h1 => y1 &&& 1 = y1 ∧ K y1 h1) X) ∧ (¬ y0.toInt = (-1) → ((y0.toInt = 0 → gK h0 a0 = 4 ∧ gK h0 (gR h0 a0 1) = 3 ∧ (((gI h0 (gR h0 a0 1) 12).toInt < 10 → Wp (d + 1) 89 (38, [some (vR a0), some (vI y0), none], [], h0) (RI K X)) ∧ (¬ (gI h0 (gR h0 a0 1) 12).toInt < 10 → gK h0 (gR h0 a0 0) = 12 ∧ CI d 75 [vR a0, vI (gI h0 (gR h0 a0 0) 4)] h0 (fun y2 h2 => y2 &&& 1 = y2 ∧ K y2 h2) X))) ∧ (¬ y0.toInt = 0 → Wp (d + 1) 89 (38, [some (vR a0), some (vI y0), none], [], h0) (RI K X)))))) X) : CI (d + 1) 89 [vR a0] h K X := by
  show Wp (d + 1) 89 (0, [some (vR a0), none, none], [], h) (RI K X)
  refine wp_aload rfl rfl rfl ?_
  obtain ⟨f0, F⟩ := F
  obtain ⟨f1, F⟩ := F
  refine wp_callI rfl rfl rfl (rcv_v f0 f1 (by decide) (by decide)) rfl rfl rfl rfl ?_
  refine CI.mono F (fun y0 h0 F => ?_) (fun _ _ w => rx_I w)
  refine wp_istore (L2 := [some (vR a0), some (vI y0), none]) rfl rfl rfl rfl ?_
  refine wp_iload rfl rfl rfl ?_
  refine wp_const rfl rfl ?_
  refine wp_icmp_eq (Y := (-1)) rfl rfl rfl rfl rfl (fun c => ?_) (fun c => ?_)
  · replace F := F.1 c
    refine wp_aload' (L' := [some (vR a0), none, none]) rfl rfl rfl rfl ?_
    refine wp_aload rfl rfl rfl ?_
    obtain ⟨f2, F⟩ := F
    refine wp_getR rfl rfl rfl f2 rfl ?_
    obtain ⟨f3, F⟩ := F
    refine wp_getI rfl rfl rfl f3 rfl ?_
    refine wp_callI rfl rfl rfl (rcv_v f0 f2 (by decide) (by decide)) rfl rfl rfl rfl ?_
    refine CI.mono F (fun y1 h1 F => ?_) (fun _ _ w => rx_I w)
    exact wp_retI rfl (Or.inr F.1) F.2
  · replace F := F.2 c
    refine wp_iload rfl rfl rfl ?_
    refine wp_if_ne rfl rfl rfl rfl (fun c => ?_) (fun c => ?_)
    · replace F := F.1 c
      refine wp_aload rfl rfl rfl ?_
      obtain ⟨f4, F⟩ := F
      refine wp_getR rfl rfl rfl f4 rfl ?_
      obtain ⟨f5, F⟩ := F
      refine wp_getI rfl rfl rfl f5 rfl ?_
      refine wp_const rfl rfl ?_
      refine wp_icmp_lt (Y := 10) rfl rfl rfl rfl rfl (fun c => ?_) (fun c => ?_)
      · replace F := F.1 c
        exact F
      · replace F := F.2 c
        refine wp_aload' (L' := [some (vR a0), none, none]) rfl rfl rfl rfl ?_
        refine wp_aload rfl rfl rfl ?_
        refine wp_getR rfl rfl rfl f4 rfl ?_
        obtain ⟨f6, F⟩ := F
        refine wp_getI rfl rfl rfl f6 rfl ?_
        refine wp_callI rfl rfl rfl (rcv_v f0 f4 (by decide) (by decide)) rfl rfl rfl rfl ?_
        refine CI.mono F (fun y2 h2 F => ?_) (fun _ _ w => rx_I w)
        exact wp_retI rfl (Or.inr F.1) F.2
    · replace F := F.2 c
      exact F
theorem w89_38 {d : Nat} {l0 : Nat} {l1 : Int32} {h : aH} {K : Int32 → aH → Prop} {X : Nat → aH → Prop} (F : gK h l0 = 4 ∧ 8 ≤ (gR h l0 0) ∧ gK h (gR h l0 0) = 12 ∧ CV d 71 [vR (gR h l0 0)] h (fun h0 => gK h0 l0 = 4 ∧ 8 ≤ (gR h0 l0 1) ∧ gK h0 (gR h0 l0 1) = 3 ∧ CV d 76 [vR (gR h0 l0 1), vI l1] h0 (fun h1 => ((1 < l1.toInt → Wp (d + 1) 89 (67, [some (vR l0), some (vI l1), none], [], h1) (RI K X)) ∧ (¬ 1 < l1.toInt → 8 ≤ l0 ∧ gK h1 l0 = 4 ∧ CI d 79 [vR l0] h1 (fun y0 h2 => ((y0.toInt = 0 → K 0 h2) ∧ (¬ y0.toInt = 0 → Wp (d + 1) 89 (67, [some (vR l0), some (vI l1), none], [], h2) (RI K X)))) X))) X) X) : Wp (d + 1) 89 (38, [some (vR l0), some (vI l1), none], [], h) (RI K X) := by
  refine wp_aload' (L' := [some (vR l0), some (vI l1), none]) rfl rfl rfl rfl ?_
  obtain ⟨f0, F⟩ := F
  refine wp_getR rfl rfl rfl f0 rfl ?_
  obtain ⟨f1, F⟩ := F
  obtain ⟨f2, F⟩ := F
  refine wp_callV rfl rfl rfl (rcv_v f1 f2 (by decide) (by decide)) rfl rfl rfl rfl ?_
  refine CV.mono F (fun h0 F => ?_) (fun _ _ w => rx_I w)
  refine wp_aload rfl rfl rfl ?_
  obtain ⟨f3, F⟩ := F
  refine wp_getR rfl rfl rfl f3 rfl ?_
  refine wp_iload rfl rfl rfl ?_
  obtain ⟨f4, F⟩ := F
  obtain ⟨f5, F⟩ := F
  refine wp_callV rfl rfl rfl (rcv_v f4 f5 (by decide) (by decide)) rfl rfl rfl rfl ?_
  refine CV.mono F (fun h1 F => ?_) (fun _ _ w => rx_I w)
  refine wp_iload rfl rfl rfl ?_
  refine wp_const rfl rfl ?_
  refine wp_icmp_gt (Y := 1) rfl rfl rfl rfl rfl (fun c => ?_) (fun c => ?_)
  · replace F := F.1 c
    exact F
  · replace F := F.2 c
    refine wp_aload rfl rfl rfl ?_
    obtain ⟨f6, F⟩ := F
    obtain ⟨f7, F⟩ := F
    refine wp_callI rfl rfl rfl (rcv_v f6 f7 (by decide) (by decide)) rfl rfl rfl rfl ?_
    refine CI.mono F (fun y0 h2 F => ?_) (fun _ _ w => rx_I w)
    refine wp_if_ne rfl rfl rfl rfl (fun c => ?_) (fun c => ?_)
    · replace F := F.1 c
      refine wp_const rfl rfl ?_
      exact wp_retI rfl (Or.inr rfl) F
    · replace F := F.2 c
      exact F
theorem w89_67 {d : Nat} {l0 : Nat} {l1 : Int32} {h : aH} {K : Int32 → aH → Prop} {X : Nat → aH → Prop} (F : ((l1.toInt = 0 → 8 ≤ l0 ∧ gK h l0 = 4 ∧ CI d 82 [vR l0] h (fun y0 h0 => ((y0.toInt = 0 → K 0 h0) ∧ (¬ y0.toInt = 0 → Wp (d + 1) 89 (78, [some (vR l0), some (vI l1), none], [], h0) (RI K X)))) X) ∧ (¬ l1.toInt = 0 → Wp (d + 1) 89 (78, [some (vR l0), some (vI l1), none], [], h) (RI K X)))) : Wp (d + 1) 89 (67, [some (vR l0), some (vI l1), none], [], h) (RI K X) := by
  refine wp_iload' (L' := [some (vR l0), some (vI l1), none]) rfl rfl rfl rfl ?_
  refine wp_if_ne rfl rfl rfl rfl (fun c => ?_) (fun c => ?_)
  · replace F := F.1 c
    refine wp_aload rfl rfl rfl ?_
    obtain ⟨f0, F⟩ := F
    obtain ⟨f1, F⟩ := F
    refine wp_callI rfl rfl rfl (rcv_v f0 f1 (by decide) (by decide)) rfl rfl rfl rfl ?_
    refine CI.mono F (fun y0 h0 F => ?_) (fun _ _ w => rx_I w)
    refine wp_if_eq rfl rfl rfl rfl (fun c => ?_) (fun c => ?_)
    · replace F := F.1 c
      refine wp_const' (L' := [none, none, none]) rfl rfl rfl ?_
      exact wp_retI rfl (Or.inr rfl) F
    · replace F := F.2 c
      exact F
  · replace F := F.2 c
    exact F
theorem w89_78 {d : Nat} {l0 : Nat} {l1 : Int32} {h : aH} {K : Int32 → aH → Prop} {X : Nat → aH → Prop} (F : ((l1.toInt = 1 → 8 ≤ l0 ∧ gK h l0 = 4 ∧ CI d 85 [vR l0] h (fun y0 h0 => ((y0.toInt = 0 → K 0 h0) ∧ (¬ y0.toInt = 0 → gK h0 l0 = 4 ∧ 8 ≤ (gR h0 l0 1) ∧ gK h0 (gR h0 l0 1) = 3 ∧ CV d 86 [vR (gR h0 l0 1)] h0 (fun h1 => ((l1.toInt < 2 → Wp (d + 1) 89 (109, [some (vR l0), some (vI l1), none], [vI 0], h1) (RI K X)) ∧ (¬ l1.toInt < 2 → Wp (d + 1) 89 (109, [some (vR l0), some (vI l1), none], [vI 1], h1) (RI K X)))) X))) X) ∧ (¬ l1.toInt = 1 → gK h l0 = 4 ∧ 8 ≤ (gR h l0 1) ∧ gK h (gR h l0 1) = 3 ∧ CV d 86 [vR (gR h l0 1)] h (fun h2 => ((l1.toInt < 2 → Wp (d + 1) 89 (109, [some (vR l0), some (vI l1), none], [vI 0], h2) (RI K X)) ∧ (¬ l1.toInt < 2 → Wp (d + 1) 89 (109, [some (vR l0), some (vI l1), none], [vI 1], h2) (RI K X)))) X))) : Wp (d + 1) 89 (78, [some (vR l0), some (vI l1), none], [], h) (RI K X) := by
  refine wp_iload' (L' := [some (vR l0), some (vI l1), none]) rfl rfl rfl rfl ?_
  refine wp_const rfl rfl ?_
  refine wp_icmp_ne (Y := 1) rfl rfl rfl rfl rfl (fun c => ?_) (fun c => ?_)
  · replace F := F.1 c
    refine wp_aload rfl rfl rfl ?_
    obtain ⟨f0, F⟩ := F
    obtain ⟨f1, F⟩ := F
    refine wp_callI rfl rfl rfl (rcv_v f0 f1 (by decide) (by decide)) rfl rfl rfl rfl ?_
    refine CI.mono F (fun y0 h0 F => ?_) (fun _ _ w => rx_I w)
    refine wp_if_ne rfl rfl rfl rfl (fun c => ?_) (fun c => ?_)
    · replace F := F.1 c
      refine wp_const' (L' := [none, none, none]) rfl rfl rfl ?_
      exact wp_retI rfl (Or.inr rfl) F
    · replace F := F.2 c
      refine wp_aload' (L' := [some (vR l0), some (vI l1), none]) rfl rfl rfl rfl ?_
      obtain ⟨f2, F⟩ := F
      refine wp_getR rfl rfl rfl f2 rfl ?_
      obtain ⟨f3, F⟩ := F
      obtain ⟨f4, F⟩ := F
      refine wp_callV rfl rfl rfl (rcv_v f3 f4 (by decide) (by decide)) rfl rfl rfl rfl ?_
      refine CV.mono F (fun h1 F => ?_) (fun _ _ w => rx_I w)
      refine wp_iload rfl rfl rfl ?_
      refine wp_const rfl rfl ?_
      refine wp_icmp_lt (Y := 2) rfl rfl rfl rfl rfl (fun c => ?_) (fun c => ?_)
      · replace F := F.1 c
        refine wp_const' (L' := [some (vR l0), some (vI l1), none]) rfl rfl rfl ?_
        exact F
      · replace F := F.2 c
        refine wp_const rfl rfl ?_
        refine wp_goto rfl rfl ?_
        exact F
  · replace F := F.2 c
    refine wp_aload' (L' := [some (vR l0), some (vI l1), none]) rfl rfl rfl rfl ?_
    obtain ⟨f5, F⟩ := F
    refine wp_getR rfl rfl rfl f5 rfl ?_
    obtain ⟨f6, F⟩ := F
    obtain ⟨f7, F⟩ := F
    refine wp_callV rfl rfl rfl (rcv_v f6 f7 (by decide) (by decide)) rfl rfl rfl rfl ?_
    refine CV.mono F (fun h2 F => ?_) (fun _ _ w => rx_I w)
    refine wp_iload rfl rfl rfl ?_
    refine wp_const rfl rfl ?_
    refine wp_icmp_lt (Y := 2) rfl rfl rfl rfl rfl (fun c => ?_) (fun c => ?_)
    · replace F := F.1 c
      refine wp_const' (L' := [some (vR l0), some (vI l1), none]) rfl rfl rfl ?_
      exact F
    · replace F := F.2 c
      refine wp_const rfl rfl ?_
      refine wp_goto rfl rfl ?_
      exact F
theorem w89_109 {d : Nat} {l0 : Nat} {l1 : Int32} {s0 : Int32} {h : aH} {K : Int32 → aH → Prop} {X : Nat → aH → Prop} (F : ((s0.toInt = 0 → gK h l0 = 4 ∧ 8 ≤ (gR h l0 0) ∧ gK h (gR h l0 0) = 12 ∧ CI d 73 [vR (gR h l0 0), vL 26982] h (fun y0 h0 => ((y0.toInt = 0 → Wp (d + 1) 89 (136, [some (vR l0), some (vI l1), some (vI s0)], [], h0) (RI K X)) ∧ (¬ y0.toInt = 0 → gK h0 l0 = 4 ∧ 8 ≤ (gR h0 l0 0) ∧ gK h0 (gR h0 l0 0) = 12 ∧ CV d 71 [vR (gR h0 l0 0)] h0 (fun h1 => Wp (d + 1) 89 (136, [some (vR l0), some (vI l1), some (vI 1)], [], h1) (RI K X)) X))) X) ∧ (¬ s0.toInt = 0 → Wp (d + 1) 89 (136, [some (vR l0), some (vI l1), some (vI s0)], [], h) (RI K X)))) : Wp (d + 1) 89 (109, [some (vR l0), some (vI l1), none], [vI s0], h) (RI K X) := by
  refine wp_istore' (L' := [some (vR l0), some (vI l1), none]) (L2 := [some (vR l0), some (vI l1), some (vI s0)]) rfl rfl rfl rfl rfl ?_
  refine wp_iload rfl rfl rfl ?_
  refine wp_if_ne rfl rfl rfl rfl (fun c => ?_) (fun c => ?_)
  · replace F := F.1 c
    refine wp_aload rfl rfl rfl ?_
    obtain ⟨f0, F⟩ := F
    refine wp_getR rfl rfl rfl f0 rfl ?_
    refine wp_const rfl rfl ?_
    obtain ⟨f1, F⟩ := F
    obtain ⟨f2, F⟩ := F
    refine wp_callI rfl rfl rfl (rcv_v f1 f2 (by decide) (by decide)) rfl rfl rfl rfl ?_
    refine CI.mono F (fun y0 h0 F => ?_) (fun _ _ w => rx_I w)
    refine wp_if_eq rfl rfl rfl rfl (fun c => ?_) (fun c => ?_)
    · replace F := F.1 c
      exact F
    · replace F := F.2 c
      refine wp_const rfl rfl ?_
      refine wp_istore (L2 := [some (vR l0), some (vI l1), some (vI 1)]) rfl rfl rfl rfl ?_
      refine wp_aload rfl rfl rfl ?_
      obtain ⟨f3, F⟩ := F
      refine wp_getR rfl rfl rfl f3 rfl ?_
      obtain ⟨f4, F⟩ := F
      obtain ⟨f5, F⟩ := F
      refine wp_callV rfl rfl rfl (rcv_v f4 f5 (by decide) (by decide)) rfl rfl rfl rfl ?_
      refine CV.mono F (fun h1 F => ?_) (fun _ _ w => rx_I w)
      exact F
  · replace F := F.2 c
    exact F
theorem w89_136 {d : Nat} {l0 : Nat} {l1 : Int32} {l2 : Int32} {h : aH} {K : Int32 → aH → Prop} {X : Nat → aH → Prop} (F : ((l2.toInt = 0 → Wp (d + 1) 89 (149, [some (vR l0), some (vI l1), none], [], h) (RI K X)) ∧ (¬ l2.toInt = 0 → 8 ≤ l0 ∧ gK h l0 = 4 ∧ CI d 87 [vR l0] h (fun y0 h0 => ((y0.toInt = 0 → K 0 h0) ∧ (¬ y0.toInt = 0 → Wp (d + 1) 89 (149, [some (vR l0), some (vI l1), none], [], h0) (RI K X)))) X))) : Wp (d + 1) 89 (136, [some (vR l0), some (vI l1), some (vI l2)], [], h) (RI K X) := by
  refine wp_iload rfl rfl rfl ?_
  refine wp_if_eq rfl rfl rfl rfl (fun c => ?_) (fun c => ?_)
  · replace F := F.1 c
    refine wp_kill (L' := [some (vR l0), some (vI l1), none]) rfl rfl ?_
    exact F
  · replace F := F.2 c
    refine wp_aload rfl rfl rfl ?_
    obtain ⟨f0, F⟩ := F
    obtain ⟨f1, F⟩ := F
    refine wp_callI rfl rfl rfl (rcv_v f0 f1 (by decide) (by decide)) rfl rfl rfl rfl ?_
    refine CI.mono F (fun y0 h0 F => ?_) (fun _ _ w => rx_I w)
    refine wp_if_ne rfl rfl rfl rfl (fun c => ?_) (fun c => ?_)
    · replace F := F.1 c
      refine wp_const rfl rfl ?_
      exact wp_retI rfl (Or.inr rfl) F
    · replace F := F.2 c
      refine wp_kill (L' := [some (vR l0), some (vI l1), none]) rfl rfl ?_
      exact F
theorem w89_149 {d : Nat} {l0 : Nat} {l1 : Int32} {h : aH} {K : Int32 → aH → Prop} {X : Nat → aH → Prop} (F : gK h l0 = 4 ∧ gK h (gR h l0 0) = 12 ∧ (((gI h (gR h l0 0) 3).toInt = 5 → 8 ≤ (gR h l0 0) ∧ CV d 71 [vR (gR h l0 0)] h (fun h0 => gK h0 l0 = 4 ∧ ((1 < l1.toInt → 8 ≤ (gR h0 l0 1) ∧ gK h0 (gR h0 l0 1) = 3 ∧ CV d 88 [vR (gR h0 l0 1), vL 0] h0 (fun h1 => K 1 h1) X) ∧ (¬ 1 < l1.toInt → 8 ≤ (gR h0 l0 1) ∧ gK h0 (gR h0 l0 1) = 3 ∧ CV d 88 [vR (gR h0 l0 1), vL (gJ h0 l0 2)] h0 (fun h2 => K 1 h2) X))) X) ∧ (¬ (gI h (gR h l0 0) 3).toInt = 5 → 8 ≤ l0 ∧ CI d 75 [vR l0, vI (gI h (gR h l0 0) 4)] h (fun y0 h3 => y0 &&& 1 = y0 ∧ K y0 h3) X))) : Wp (d + 1) 89 (149, [some (vR l0), some (vI l1), none], [], h) (RI K X) := by
  refine wp_aload' (L' := [some (vR l0), some (vI l1), none]) rfl rfl rfl rfl ?_
  obtain ⟨f0, F⟩ := F
  refine wp_getR rfl rfl rfl f0 rfl ?_
  obtain ⟨f1, F⟩ := F
  refine wp_getI rfl rfl rfl f1 rfl ?_
  refine wp_const rfl rfl ?_
  refine wp_icmp_eq (Y := 5) rfl rfl rfl rfl rfl (fun c => ?_) (fun c => ?_)
  · replace F := F.1 c
    refine wp_aload' (L' := [some (vR l0), some (vI l1), none]) rfl rfl rfl rfl ?_
    refine wp_getR rfl rfl rfl f0 rfl ?_
    obtain ⟨f2, F⟩ := F
    refine wp_callV rfl rfl rfl (rcv_v f2 f1 (by decide) (by decide)) rfl rfl rfl rfl ?_
    refine CV.mono F (fun h0 F => ?_) (fun _ _ w => rx_I w)
    refine wp_aload rfl rfl rfl ?_
    obtain ⟨f3, F⟩ := F
    refine wp_getR rfl rfl rfl f3 rfl ?_
    refine wp_iload rfl rfl rfl ?_
    refine wp_const rfl rfl ?_
    refine wp_icmp_gt (Y := 1) rfl rfl rfl rfl rfl (fun c => ?_) (fun c => ?_)
    · replace F := F.1 c
      refine wp_const' (L' := [none, none, none]) rfl rfl rfl ?_
      obtain ⟨f4, F⟩ := F
      obtain ⟨f5, F⟩ := F
      refine wp_callV' (L' := [none, none, none]) rfl rfl rfl rfl (rcv_v f4 f5 (by decide) (by decide)) rfl rfl rfl rfl ?_
      refine CV.mono F (fun h1 F => ?_) (fun _ _ w => rx_I w)
      refine wp_const rfl rfl ?_
      exact wp_retI rfl (Or.inr rfl) F
    · replace F := F.2 c
      refine wp_aload rfl rfl rfl ?_
      refine wp_getJ rfl rfl rfl f3 rfl ?_
      refine wp_goto rfl rfl ?_
      obtain ⟨f6, F⟩ := F
      obtain ⟨f7, F⟩ := F
      refine wp_callV' (L' := [none, none, none]) rfl rfl rfl rfl (rcv_v f6 f7 (by decide) (by decide)) rfl rfl rfl rfl ?_
      refine CV.mono F (fun h2 F => ?_) (fun _ _ w => rx_I w)
      refine wp_const rfl rfl ?_
      exact wp_retI rfl (Or.inr rfl) F
  · replace F := F.2 c
    refine wp_aload rfl rfl rfl ?_
    refine wp_aload rfl rfl rfl ?_
    refine wp_getR rfl rfl rfl f0 rfl ?_
    refine wp_getI rfl rfl rfl f1 rfl ?_
    obtain ⟨f8, F⟩ := F
    refine wp_callI rfl rfl rfl (rcv_v f8 f0 (by decide) (by decide)) rfl rfl rfl rfl ?_
    refine CI.mono F (fun y0 h3 F => ?_) (fun _ _ w => rx_I w)
    exact wp_retI rfl (Or.inr F.1) F.2
-- CensusOffice$Reader read (LCensusOffice$Form;)I
theorem m90 {d : Nat} {a0 : Nat} {a1 : Nat} {h : aH} {K : Int32 → aH → Prop} {X : Nat → aH → Prop} (F : 8 ≤ a0 ∧ gK h a0 = 4 ∧ ∀ h0 : aH, h0 = pR h a0 1 a1 → 8 ≤ (gR h0 a0 0) ∧ gK h0 (gR h0 a0 0) = 12 ∧ CV d 72 [vR (gR h0 a0 0)] h0 (fun h1 => Wp (d + 1) 90 (14, [some (vR a0), none, some (vI 0)], [], h1) (RI K X)) X) : CI (d + 1) 90 [vR a0, vR a1] h K X := by
  show Wp (d + 1) 90 (0, [some (vR a0), some (vR a1), none], [], h) (RI K X)
  refine wp_aload rfl rfl rfl ?_
  refine wp_aload rfl rfl rfl ?_
  obtain ⟨f0, F⟩ := F
  obtain ⟨f1, F⟩ := F
  refine wp_putR rfl rfl rfl f0 f1 rfl ?_
  have f2 : gK (pR h a0 1 a1) a0 = 4 := (gK_pR _ _ _ _ _).trans f1
  replace F := F _ rfl
  generalize pR h a0 1 a1 = h0 at F f2 ⊢
  refine wp_aload rfl rfl rfl ?_
  refine wp_getR rfl rfl rfl f2 rfl ?_
  obtain ⟨f3, F⟩ := F
  obtain ⟨f4, F⟩ := F
  refine wp_callV rfl rfl rfl (rcv_v f3 f4 (by decide) (by decide)) rfl rfl rfl rfl ?_
  refine CV.mono F (fun h1 F => ?_) (fun _ _ w => rx_I w)
  refine wp_const rfl rfl ?_
  refine wp_istore (L2 := [some (vR a0), some (vR a1), some (vI 0)]) rfl rfl rfl rfl ?_
  refine wp_kill (L' := [some (vR a0), none, some (vI 0)]) rfl rfl ?_
  exact F
theorem w90_14 {d : Nat} {l0 : Nat} {l2 : Int32} {h : aH} {K : Int32 → aH → Prop} {X : Nat → aH → Prop} (F : ((l2.toInt < 20 → 8 ≤ l0 ∧ gK h l0 = 4 ∧ CI d 89 [vR l0] h (fun y0 h0 => ((y0.toInt = 0 → gK h0 l0 = 4 ∧ K (gI h0 l0 4) h0) ∧ (¬ y0.toInt = 0 → gK h0 l0 = 4 ∧ gK h0 (gR h0 l0 0) = 12 ∧ (((gI h0 (gR h0 l0 0) 3).toInt = 6 → K (-1) h0) ∧ (¬ (gI h0 (gR h0 l0 0) 3).toInt = 6 → ∀ v0 : Int32, v0 = l2 + 1 → Wp (d + 1) 90 (14, [some (vR l0), none, some (vI v0)], [], h0) (RI K X)))))) X) ∧ (¬ l2.toInt < 20 → gK h l0 = 4 ∧ gK h (gR h l0 0) = 12 ∧ K (gI h (gR h l0 0) 4) h))) : Wp (d + 1) 90 (14, [some (vR l0), none, some (vI l2)], [], h) (RI K X) := by
  refine wp_iload' (L' := [some (vR l0), none, some (vI l2)]) rfl rfl rfl rfl ?_
  refine wp_const rfl rfl ?_
  refine wp_icmp_ge (Y := 20) rfl rfl rfl rfl rfl (fun c => ?_) (fun c => ?_)
  · replace F := F.1 c
    refine wp_aload rfl rfl rfl ?_
    obtain ⟨f0, F⟩ := F
    obtain ⟨f1, F⟩ := F
    refine wp_callI rfl rfl rfl (rcv_v f0 f1 (by decide) (by decide)) rfl rfl rfl rfl ?_
    refine CI.mono F (fun y0 h0 F => ?_) (fun _ _ w => rx_I w)
    refine wp_if_ne rfl rfl rfl rfl (fun c => ?_) (fun c => ?_)
    · replace F := F.1 c
      refine wp_aload rfl rfl rfl ?_
      obtain ⟨f2, F⟩ := F
      refine wp_getI rfl rfl rfl f2 rfl ?_
      exact wp_retI rfl (Or.inl rfl) F
    · replace F := F.2 c
      refine wp_aload' (L' := [some (vR l0), none, some (vI l2)]) rfl rfl rfl rfl ?_
      obtain ⟨f3, F⟩ := F
      refine wp_getR rfl rfl rfl f3 rfl ?_
      obtain ⟨f4, F⟩ := F
      refine wp_getI rfl rfl rfl f4 rfl ?_
      refine wp_const rfl rfl ?_
      refine wp_icmp_ne (Y := 6) rfl rfl rfl rfl rfl (fun c => ?_) (fun c => ?_)
      · replace F := F.1 c
        refine wp_const rfl rfl ?_
        exact wp_retI rfl (Or.inl rfl) F
      · replace F := F.2 c
        refine wp_iinc' (L' := [some (vR l0), none, some (vI l2)]) (y := 1) (L2 := [some (vR l0), none, some (vI (l2 + 1))]) rfl rfl rfl rfl rfl rfl ?_
        replace F := F _ rfl
        generalize (l2 + 1 : Int32) = v0 at F ⊢
        refine wp_goto rfl rfl ?_
        exact F
  · replace F := F.2 c
    refine wp_aload' (L' := [some (vR l0), none, none]) rfl rfl rfl rfl ?_
    obtain ⟨f5, F⟩ := F
    refine wp_getR rfl rfl rfl f5 rfl ?_
    obtain ⟨f6, F⟩ := F
    refine wp_getI rfl rfl rfl f6 rfl ?_
    exact wp_retI rfl (Or.inl rfl) F
-- jdk/internal/util/ArraysSupport hugeLength (II)I
theorem m91 {d : Nat} {a0 : Int32} {a1 : Int32} {h : aH} {K : Int32 → aH → Prop} {X : Nat → aH → Prop} (F : ∀ v0 : Int32, v0 = a0 + a1 → ((v0.toInt < 0 → False) ∧ (¬ v0.toInt < 0 → ((2147483639 < v0.toInt → K v0 h) ∧ (¬ 2147483639 < v0.toInt → K 2147483639 h))))) : CI d 91 [vI a0, vI a1] h K X := by
  show Wp d 91 (0, [some (vI a0), some (vI a1), none], [], h) (RI K X)
  refine wp_iload rfl rfl rfl ?_
  refine wp_iload rfl rfl rfl ?_
  refine wp_iadd rfl rfl ?_
  replace F := F _ rfl
  generalize (a0 + a1 : Int32) = v0 at F ⊢
  refine wp_istore (L2 := [some (vI a0), some (vI a1), some (vI v0)]) rfl rfl rfl rfl ?_
  refine wp_iload rfl rfl rfl ?_
  refine wp_if_ge rfl rfl rfl rfl (fun c => ?_) (fun c => ?_)
  · replace F := F.1 c
    exact F.elim
  · replace F := F.2 c
    refine wp_iload' (L' := [none, none, some (vI v0)]) rfl rfl rfl rfl ?_
    refine wp_const rfl rfl ?_
    refine wp_icmp_gt (Y := 2147483639) rfl rfl rfl rfl rfl (fun c => ?_) (fun c => ?_)
    · replace F := F.1 c
      refine wp_iload' (L' := [none, none, some (vI v0)]) rfl rfl rfl rfl ?_
      exact wp_retI rfl (Or.inl rfl) F
    · replace F := F.2 c
      refine wp_const rfl rfl ?_
      exact wp_retI rfl (Or.inl rfl) F
-- jdk/internal/util/ArraysSupport newLength (III)I
theorem m92 {d : Nat} {a0 : Int32} {a1 : Int32} {a2 : Int32} {h : aH} {K : Int32 → aH → Prop} {X : Nat → aH → Prop} (F : CI d 0 [vI a1, vI a2] h (fun y0 h0 => ∀ v0 : Int32, v0 = a0 + y0 → (((0 : Int) < v0.toInt → ((2147483639 < v0.toInt → CI d 91 [vI a0, vI a1] h0 (fun y1 h1 => K y1 h1) X) ∧ (¬ 2147483639 < v0.toInt → K v0 h0))) ∧ (¬ (0 : Int) < v0.toInt → CI d 91 [vI a0, vI a1] h0 (fun y2 h2 => K y2 h2) X))) X) : CI (d + 1) 92 [vI a0, vI a1, vI a2] h K X := by
  show Wp (d + 1) 92 (0, [some (vI a0), some (vI a1), some (vI a2), none], [], h) (RI K X)
  refine wp_iload rfl rfl rfl ?_
  refine wp_iload rfl rfl rfl ?_
  refine wp_iload rfl rfl rfl ?_
  refine wp_callI rfl rfl rfl rfl rfl rfl rfl rfl ?_
  refine CI.mono F (fun y0 h0 F => ?_) (fun _ _ w => rx_I w)
  refine wp_iadd rfl rfl ?_
  replace F := F _ rfl
  generalize (a0 + y0 : Int32) = v0 at F ⊢
  refine wp_istore (L2 := [some (vI a0), some (vI a1), some (vI a2), some (vI v0)]) rfl rfl rfl rfl ?_
  refine wp_const rfl rfl ?_
  refine wp_iload rfl rfl rfl ?_
  refine wp_icmp_ge (X := 0) rfl rfl rfl rfl rfl (fun c => ?_) (fun c => ?_)
  · replace F := F.1 c
    refine wp_iload rfl rfl rfl ?_
    refine wp_const rfl rfl ?_
    refine wp_icmp_gt (Y := 2147483639) rfl rfl rfl rfl rfl (fun c => ?_) (fun c => ?_)
    · replace F := F.1 c
      refine wp_iload' (L' := [some (vI a0), some (vI a1), none, none]) rfl rfl rfl rfl ?_
      refine wp_iload rfl rfl rfl ?_
      refine wp_callI rfl rfl rfl rfl rfl rfl rfl rfl ?_
      refine CI.mono F (fun y1 h1 F => ?_) (fun _ _ w => rx_I w)
      exact wp_retI rfl (Or.inl rfl) F
    · replace F := F.2 c
      refine wp_iload rfl rfl rfl ?_
      exact wp_retI rfl (Or.inl rfl) F
  · replace F := F.2 c
    refine wp_iload' (L' := [some (vI a0), some (vI a1), none, none]) rfl rfl rfl rfl ?_
    refine wp_iload rfl rfl rfl ?_
    refine wp_callI rfl rfl rfl rfl rfl rfl rfl rfl ?_
    refine CI.mono F (fun y2 h2 F => ?_) (fun _ _ w => rx_I w)
    exact wp_retI rfl (Or.inl rfl) F
-- java/util/Arrays copyOf ([Ljava/lang/Object;ILjava/lang/Class;)[Ljava/lang/Object;
theorem m93 {d : Nat} {a0 : Nat} {a1 : Int32} {a2 : Nat} {h : aH} {K : Nat → aH → Prop} {X : Nat → aH → Prop} (F : ((a2 = 3 ∨ ((8 ≤ a2 ∨ a2 = 0 ∨ a2 = 2) ∧ (8 ≤ 3 ∨ 3 = 0 ∨ 3 = 2))) ∧ (a2 = 3 → ∃ i0 : Nat, a1 = nI i0 ∧ i0 ≤ 1000000 ∧ ∀ (r0 : Nat) (h0 : aH), r0 = gN h → h0 = gNew h 104 i0 → (100 ≤ gK h0 a0 ∧ gK h0 a0 ≤ 106) ∧ CI d 19 [vI (nI (gL h0 a0)), vI a1] h0 (fun y0 h1 => ∃ i1 i2 i3 : Nat, cpOK h1 a0 0 r0 0 y0 i1 i2 i3 ∧ gK h1 a0 = 104 ∧ gK h1 r0 = 104 ∧ (∀ q, q < i3 → aObj h1 (gR h1 a0 (i1 + q)) = true) ∧ ∀ h2 : aH, h2 = gCopyR h1 a0 i1 r0 i2 i3 → K r0 h2) X) ∧ (¬ a2 = 3 → False))) : CR (d + 1) 93 [vR a0, vI a1, vR a2] h K X := by
  show Wp (d + 1) 93 (0, [some (vR a0), some (vI a1), some (vR a2), none], [], h) (RR K X)
  refine wp_aload rfl rfl rfl ?_
  refine wp_const rfl rfl ?_
  refine wp_acmp_ne rfl F.1 rfl rfl (fun c => ?_) (fun c => ?_)
  · replace F := F.2.1 c
    refine wp_iload rfl rfl rfl ?_
    obtain ⟨i0, e9, b9, F⟩ := F
    refine wp_newA rfl e9 b9 rfl ?_
    replace F := F _ _ rfl rfl
    generalize gNew h 104 i0 = h0 at F ⊢
    generalize gN h = r0 at F ⊢
    refine wp_goto rfl rfl ?_
    refine wp_astore' (L' := [some (vR a0), some (vI a1), none, none]) (L2 := [some (vR a0), some (vI a1), none, some (vR r0)]) rfl rfl rfl rfl rfl ?_
    refine wp_aload rfl rfl rfl ?_
    refine wp_const rfl rfl ?_
    refine wp_aload rfl rfl rfl ?_
    refine wp_const rfl rfl ?_
    refine wp_aload rfl rfl rfl ?_
    obtain ⟨f0, F⟩ := F
    refine wp_alen rfl f0 rfl ?_
    refine wp_iload rfl rfl rfl ?_
    refine wp_callI rfl rfl rfl rfl rfl rfl rfl rfl ?_
    refine CI.mono F (fun y0 h1 F => ?_) (fun _ _ w => rx_R w)
    obtain ⟨i1, i2, i3, c9, ka, kb, o9, F⟩ := F
    refine wp_copyR rfl rfl c9 ka kb o9 rfl ?_
    replace F := F _ rfl
    generalize gCopyR h1 a0 i1 r0 i2 i3 = h2 at F ⊢
    refine wp_aload rfl rfl rfl ?_
    exact wp_retR rfl F
  · replace F := F.2.2 c
    refine wp_aload' (L' := [some (vR a0), some (vI a1), some (vR a2), none]) rfl rfl rfl rfl ?_
    exact F.elim
-- java/util/Arrays copyOf ([Ljava/lang/Object;I)[Ljava/lang/Object;
theorem m94 {d : Nat} {a0 : Nat} {a1 : Int32} {h : aH} {K : Nat → aH → Prop} {X : Nat → aH → Prop} (F : 8 ≤ a0 ∧ gK h a0 = 104 ∧ CR d 93 [vR a0, vI a1, vR 3] h (fun q0 h0 => K q0 h0) X) : CR (d + 1) 94 [vR a0, vI a1] h K X := by
  show Wp (d + 1) 94 (0, [some (vR a0), some (vI a1)], [], h) (RR K X)
  refine wp_aload rfl rfl rfl ?_
  refine wp_iload rfl rfl rfl ?_
  refine wp_aload rfl rfl rfl ?_
  refine wp_getC rfl F.1 F.2.1 rfl rfl ?_
  replace F := F.2.2
  refine wp_callR rfl rfl rfl rfl rfl rfl rfl rfl ?_
  refine CR.mono F (fun q0 h0 F => ?_) (fun _ _ w => rx_R w)
  exact wp_retR rfl F
-- java/util/ArrayList grow (I)[Ljava/lang/Object;
theorem m95 {d : Nat} {a0 : Nat} {a1 : Int32} {h : aH} {K : Nat → aH → Prop} {X : Nat → aH → Prop} (F : gK h a0 = 13 ∧ (100 ≤ gK h (gR h a0 0) ∧ gK h (gR h a0 0) ≤ 106) ∧ ∀ v0 : Int32, v0 = nI (gL h (gR h a0 0)) → ((0 < v0.toInt → CI d 92 [vI v0, vI (a1 - v0), vI (v0 >>> (1 &&& 31))] h (fun y0 h0 => gK h0 a0 = 13 ∧ CR d 94 [vR (gR h0 a0 0), vI y0] h0 (fun q0 h1 => 8 ≤ a0 ∧ gK h1 a0 = 13 ∧ ∀ h2 : aH, h2 = pR h1 a0 0 q0 → K q0 h2) X) X) ∧ (¬ 0 < v0.toInt → (((gR h a0 0) = 2 ∨ ((8 ≤ (gR h a0 0) ∨ (gR h a0 0) = 0 ∨ (gR h a0 0) = 2) ∧ (8 ≤ 2 ∨ 2 = 0 ∨ 2 = 2))) ∧ ((gR h a0 0) = 2 → CI d 0 [vI 10, vI a1] h (fun y1 h3 => ∃ i0 : Nat, y1 = nI i0 ∧ i0 ≤ 1000000 ∧ ∀ (r0 : Nat) (h4 : aH), r0 = gN h3 → h4 = gNew h3 104 i0 → 8 ≤ a0 ∧ gK h4 a0 = 13 ∧ ∀ h5 : aH, h5 = pR h4 a0 0 r0 → K r0 h5) X) ∧ (¬ (gR h a0 0) = 2 → CI d 92 [vI v0, vI (a1 - v0), vI (v0 >>> (1 &&& 31))] h (fun y2 h6 => gK h6 a0 = 13 ∧ CR d 94 [vR (gR h6 a0 0), vI y2] h6 (fun q1 h7 => 8 ≤ a0 ∧ gK h7 a0 = 13 ∧ ∀ h8 : aH, h8 = pR h7 a0 0 q1 → K q1 h8) X) X))))) : CR (d + 1) 95 [vR a0, vI a1] h K X := by
  show Wp (d + 1) 95 (0, [some (vR a0), some (vI a1), none, none], [], h) (RR K X)
  refine wp_aload rfl rfl rfl ?_
  obtain ⟨f0, F⟩ := F
  refine wp_getR rfl rfl rfl f0 rfl ?_
  obtain ⟨f1, F⟩ := F
  refine wp_alen rfl f1 rfl ?_
  replace F := F _ rfl
  generalize (nI (gL h (gR h a0 0)) : Int32) = v0 at F ⊢
  refine wp_istore (L2 := [some (vR a0), some (vI a1), some (vI v0), none]) rfl rfl rfl rfl ?_
  refine wp_iload rfl rfl rfl ?_
  refine wp_if_gt rfl rfl rfl rfl (fun c => ?_) (fun c => ?_)
  · replace F := F.1 c
    refine wp_iload' (L' := [some (vR a0), some (vI a1), some (vI v0), none]) rfl rfl rfl rfl ?_
    refine wp_iload rfl rfl rfl ?_
    refine wp_iload rfl rfl rfl ?_
    refine wp_isub rfl rfl ?_
    refine wp_iload rfl rfl rfl ?_
    refine wp_const rfl rfl ?_
    refine wp_ishr rfl rfl ?_
    refine wp_callI rfl rfl rfl rfl rfl rfl rfl rfl ?_
    refine CI.mono F (fun y0 h0 F => ?_) (fun _ _ w => rx_R w)
    refine wp_istore (L2 := [some (vR a0), some (vI a1), some (vI v0), some (vI y0)]) rfl rfl rfl rfl ?_
    refine wp_aload rfl rfl rfl ?_
    refine wp_aload rfl rfl rfl ?_
    obtain ⟨f2, F⟩ := F
    refine wp_getR rfl rfl rfl f2 rfl ?_
    refine wp_iload rfl rfl rfl ?_
    refine wp_callR rfl rfl rfl rfl rfl rfl rfl rfl ?_
    refine CR.mono F (fun q0 h1 F => ?_) (fun _ _ w => rx_R w)
    refine wp_dup_x1 rfl rfl rfl rfl ?_
    obtain ⟨f3, F⟩ := F
    obtain ⟨f4, F⟩ := F
    refine wp_putR rfl rfl rfl f3 f4 rfl ?_
    have f5 : gK (pR h1 a0 0 q0) a0 = 13 := (gK_pR _ _ _ _ _).trans f4
    replace F := F _ rfl
    generalize pR h1 a0 0 q0 = h2 at F f5 ⊢
    exact wp_retR rfl F
  · replace F := F.2 c
    refine wp_aload rfl rfl rfl ?_
    refine wp_getR rfl rfl rfl f0 rfl ?_
    refine wp_const rfl rfl ?_
    refine wp_acmp_eq rfl F.1 rfl rfl (fun c => ?_) (fun c => ?_)
    · replace F := F.2.1 c
      refine wp_aload' (L' := [some (vR a0), some (vI a1), none, none]) rfl rfl rfl rfl ?_
      refine wp_const rfl rfl ?_
      refine wp_iload rfl rfl rfl ?_
      refine wp_callI rfl rfl rfl rfl rfl rfl rfl rfl ?_
      refine CI.mono F (fun y1 h3 F => ?_) (fun _ _ w => rx_R w)
      obtain ⟨i0, e9, b9, F⟩ := F
      refine wp_newA rfl e9 b9 rfl ?_
      replace F := F _ _ rfl rfl
      generalize gNew h3 104 i0 = h4 at F ⊢
      generalize gN h3 = r0 at F ⊢
      refine wp_dup_x1 rfl rfl rfl rfl ?_
      obtain ⟨f6, F⟩ := F
      obtain ⟨f7, F⟩ := F
      refine wp_putR rfl rfl rfl f6 f7 rfl ?_
      have f8 : gK (pR h4 a0 0 r0) a0 = 13 := (gK_pR _ _ _ _ _).trans f7
      replace F := F _ rfl
      generalize pR h4 a0 0 r0 = h5 at F f8 ⊢
      exact wp_retR rfl F
    · replace F := F.2.2 c
      refine wp_iload' (L' := [some (vR a0), some (vI a1), some (vI v0), none]) rfl rfl rfl rfl ?_
      refine wp_iload rfl rfl rfl ?_
      refine wp_iload rfl rfl rfl ?_
      refine wp_isub rfl rfl ?_
      refine wp_iload rfl rfl rfl ?_
      refine wp_const rfl rfl ?_
      refine wp_ishr rfl rfl ?_
      refine wp_callI rfl rfl rfl rfl rfl rfl rfl rfl ?_
      refine CI.mono F (fun y2 h6 F => ?_) (fun _ _ w => rx_R w)
      refine wp_istore (L2 := [some (vR a0), some (vI a1), some (vI v0), some (vI y2)]) rfl rfl rfl rfl ?_
      refine wp_aload rfl rfl rfl ?_
      refine wp_aload rfl rfl rfl ?_
      obtain ⟨f9, F⟩ := F
      refine wp_getR rfl rfl rfl f9 rfl ?_
      refine wp_iload rfl rfl rfl ?_
      refine wp_callR rfl rfl rfl rfl rfl rfl rfl rfl ?_
      refine CR.mono F (fun q1 h7 F => ?_) (fun _ _ w => rx_R w)
      refine wp_dup_x1 rfl rfl rfl rfl ?_
      obtain ⟨f10, F⟩ := F
      obtain ⟨f11, F⟩ := F
      refine wp_putR rfl rfl rfl f10 f11 rfl ?_
      have f12 : gK (pR h7 a0 0 q1) a0 = 13 := (gK_pR _ _ _ _ _).trans f11
      replace F := F _ rfl
      generalize pR h7 a0 0 q1 = h8 at F f12 ⊢
      exact wp_retR rfl F
-- java/util/ArrayList grow ()[Ljava/lang/Object;
theorem m96 {d : Nat} {a0 : Nat} {h : aH} {K : Nat → aH → Prop} {X : Nat → aH → Prop} (F : gK h a0 = 13 ∧ 8 ≤ a0 ∧ CR d 95 [vR a0, vI ((gI h a0 1) + 1)] h (fun q0 h0 => K q0 h0) X) : CR (d + 1) 96 [vR a0] h K X := by
  show Wp (d + 1) 96 (0, [some (vR a0)], [], h) (RR K X)
  refine wp_aload rfl rfl rfl ?_
  refine wp_aload rfl rfl rfl ?_
  obtain ⟨f0, F⟩ := F
  refine wp_getI rfl rfl rfl f0 rfl ?_
  refine wp_const rfl rfl ?_
  refine wp_iadd rfl rfl ?_
  obtain ⟨f1, F⟩ := F
  refine wp_callR rfl rfl rfl (rcv_v f1 f0 (by decide) (by decide)) rfl rfl rfl rfl ?_
  refine CR.mono F (fun q0 h0 F => ?_) (fun _ _ w => rx_R w)
  exact wp_retR rfl F
-- java/util/ArrayList add (Ljava/lang/Object;[Ljava/lang/Object;I)V
theorem m97 {d : Nat} {a0 : Nat} {a1 : Nat} {a2 : Nat} {a3 : Int32} {h : aH} {K : aH → Prop} {X : Nat → aH → Prop} (F : (100 ≤ gK h a2 ∧ gK h a2 ≤ 106) ∧ ((a3.toInt = (nI (gL h a2)).toInt → 8 ≤ a0 ∧ gK h a0 = 13 ∧ CR d 96 [vR a0] h (fun q0 h0 => 8 ≤ q0 ∧ ∃ i0 : Nat, (8 ≤ a1 ∧ 0 < gK h0 a1 ∧ gK h0 a1 < 15 ∧ gK h0 a1 ≠ 13) ∧ inB h0 104 q0 a3 i0 ∧ ∀ h1 : aH, h1 = pR h0 q0 i0 a1 → gK h1 a0 = 13 ∧ ∀ h2 : aH, h2 = pI h1 a0 1 (a3 + 1) → K h2) X) ∧ (¬ a3.toInt = (nI (gL h a2)).toInt → 8 ≤ a2 ∧ ∃ i1 : Nat, (8 ≤ a1 ∧ 0 < gK h a1 ∧ gK h a1 < 15 ∧ gK h a1 ≠ 13) ∧ inB h 104 a2 a3 i1 ∧ ∀ h3 : aH, h3 = pR h a2 i1 a1 → 8 ≤ a0 ∧ gK h3 a0 = 13 ∧ ∀ h4 : aH, h4 = pI h3 a0 1 (a3 + 1) → K h4))) : CV (d + 1) 97 [vR a0, vR a1, vR a2, vI a3] h K X := by
  show Wp (d + 1) 97 (0, [some (vR a0), some (vR a1), some (vR a2), some (vI a3)], [], h) (RV K X)
  refine wp_iload rfl rfl rfl ?_
  refine wp_aload rfl rfl rfl ?_
  obtain ⟨f0, F⟩ := F
  refine wp_alen rfl f0 rfl ?_
  refine wp_icmp_ne rfl rfl rfl rfl rfl (fun c => ?_) (fun c => ?_)
  · replace F := F.1 c
    refine wp_aload rfl rfl rfl ?_
    obtain ⟨f1, F⟩ := F
    obtain ⟨f2, F⟩ := F
    refine wp_callR rfl rfl rfl (rcv_v f1 f2 (by decide) (by decide)) rfl rfl rfl rfl ?_
    refine CR.mono F (fun q0 h0 F => ?_) (fun _ _ w => rx_V w)
    refine wp_astore (L2 := [some (vR a0), some (vR a1), some (vR q0), some (vI a3)]) rfl rfl rfl rfl ?_
    refine wp_aload rfl rfl rfl ?_
    refine wp_iload rfl rfl rfl ?_
    refine wp_aload rfl rfl rfl ?_
    obtain ⟨f3, F⟩ := F
    obtain ⟨i0, x9, b9, F⟩ := F
    refine wp_aastore rfl f3 x9 b9 rfl ?_
    replace F := F _ rfl
    generalize pR h0 q0 i0 a1 = h1 at F ⊢
    refine wp_aload rfl rfl rfl ?_
    refine wp_iload rfl rfl rfl ?_
    refine wp_const rfl rfl ?_
    refine wp_iadd rfl rfl ?_
    obtain ⟨f4, F⟩ := F
    refine wp_putI rfl rfl rfl f1 f4 rfl ?_
    have f5 : gK (pI h1 a0 1 (a3 + 1)) a0 = 13 := (gK_pI _ _ _ _ _).trans f4
    replace F := F _ rfl
    generalize pI h1 a0 1 (a3 + 1) = h2 at F f5 ⊢
    exact wp_retV rfl F
  · replace F := F.2 c
    refine wp_aload rfl rfl rfl ?_
    refine wp_iload rfl rfl rfl ?_
    refine wp_aload rfl rfl rfl ?_
    obtain ⟨f6, F⟩ := F
    obtain ⟨i1, x9, b9, F⟩ := F
    refine wp_aastore rfl f6 x9 b9 rfl ?_
    replace F := F _ rfl
    generalize pR h a2 i1 a1 = h3 at F ⊢
    refine wp_aload rfl rfl rfl ?_
    refine wp_iload rfl rfl rfl ?_
    refine wp_const rfl rfl ?_
    refine wp_iadd rfl rfl ?_
    obtain ⟨f7, F⟩ := F
    obtain ⟨f8, F⟩ := F
    refine wp_putI rfl rfl rfl f7 f8 rfl ?_
    have f9 : gK (pI h3 a0 1 (a3 + 1)) a0 = 13 := (gK_pI _ _ _ _ _).trans f8
    replace F := F _ rfl
    generalize pI h3 a0 1 (a3 + 1) = h4 at F f9 ⊢
    exact wp_retV rfl F
-- java/util/ArrayList add (Ljava/lang/Object;)Z
theorem m98 {d : Nat} {a0 : Nat} {a1 : Nat} {h : aH} {K : Int32 → aH → Prop} {X : Nat → aH → Prop} (F : gK h a0 = 13 ∧ 8 ≤ a0 ∧ ∀ h0 : aH, h0 = pI h a0 2 ((gI h a0 2) + 1) → CV d 97 [vR a0, vR a1, vR (gR h0 a0 0), vI (gI h0 a0 1)] h0 (fun h1 => K 1 h1) X) : CI (d + 1) 98 [vR a0, vR a1] h K X := by
  show Wp (d + 1) 98 (0, [some (vR a0), some (vR a1)], [], h) (RI K X)
  refine wp_aload rfl rfl rfl ?_
  refine wp_dup rfl rfl rfl ?_
  obtain ⟨f0, F⟩ := F
  refine wp_getI rfl rfl rfl f0 rfl ?_
  refine wp_const rfl rfl ?_
  refine wp_iadd rfl rfl ?_
  obtain ⟨f1, F⟩ := F
  refine wp_putI rfl rfl rfl f1 f0 rfl ?_
  have f2 : gK (pI h a0 2 ((gI h a0 2) + 1)) a0 = 13 := (gK_pI _ _ _ _ _).trans f0
  replace F := F _ rfl
  generalize pI h a0 2 ((gI h a0 2) + 1) = h0 at F f2 ⊢
  refine wp_aload rfl rfl rfl ?_
  refine wp_aload rfl rfl rfl ?_
  refine wp_aload rfl rfl rfl ?_
  refine wp_getR rfl rfl rfl f2 rfl ?_
  refine wp_aload rfl rfl rfl ?_
  refine wp_getI rfl rfl rfl f2 rfl ?_
  refine wp_callV rfl rfl rfl (rcv_v f1 f2 (by decide) (by decide)) rfl rfl rfl rfl ?_
  refine CV.mono F (fun h1 F => ?_) (fun _ _ w => rx_I w)
  refine wp_const rfl rfl ?_
  exact wp_retI rfl (Or.inr rfl) F
-- CensusOffice form ()I
theorem m99 {d : Nat} {a0 : Nat} {h : aH} {K : Int32 → aH → Prop} {X : Nat → aH → Prop} (F : gK h a0 = 1 ∧ 8 ≤ (gR h a0 4) ∧ gK h (gR h a0 4) = 13 ∧ CI d 65 [vR (gR h a0 4)] h (fun y0 h0 => ((y0.toInt < 6 → ∀ (r0 : Nat) (h1 : aH), r0 = gN h0 → h1 = gNew h0 3 13 → gK h1 a0 = 1 ∧ gK h1 (gR h1 a0 1) = 12 ∧ 8 ≤ r0 ∧ CV d 4 [vR r0, vI (gI h1 (gR h1 a0 1) 1)] h1 (fun h2 => gK h2 a0 = 1 ∧ 8 ≤ (gR h2 a0 2) ∧ gK h2 (gR h2 a0 2) = 4 ∧ CI d 90 [vR (gR h2 a0 2), vR r0] h2 (fun y1 h3 => gK h3 a0 = 1 ∧ 8 ≤ (gR h3 a0 1) ∧ gK h3 (gR h3 a0 1) = 12 ∧ ∀ h4 : aH, h4 = pI h3 (gR h3 a0 1) 1 0 → ((y1.toInt = (-1) → 8 ≤ (gR h4 a0 4) ∧ gK h4 (gR h4 a0 4) = 13 ∧ CI d 98 [vR (gR h4 a0 4), vR r0] h4 (fun y2 h5 => gK h5 a0 = 1 ∧ 8 ≤ (gR h5 a0 4) ∧ gK h5 (gR h5 a0 4) = 13 ∧ CI d 65 [vR (gR h5 a0 4)] h5 (fun y3 h6 => K (y3 - 1) h6) X) X) ∧ (¬ y1.toInt = (-1) → K ((-1) - y1) h4))) X) (fun _ _ => False)) ∧ (¬ y0.toInt < 6 → X 4 (gNew h0 200 6)))) X) : CI (d + 1) 99 [vR a0] h K X := by
  show Wp (d + 1) 99 (0, [some (vR a0), none, none], [], h) (RI K X)
  refine wp_aload rfl rfl rfl ?_
  obtain ⟨f0, F⟩ := F
  refine wp_getR rfl rfl rfl f0 rfl ?_
  obtain ⟨f1, F⟩ := F
  obtain ⟨f2, F⟩ := F
  refine wp_callI rfl rfl rfl (rcv_v f1 f2 (by decide) (by decide)) rfl rfl rfl rfl ?_
  refine CI.mono F (fun y0 h0 F => ?_) (fun _ _ w => rx_I w)
  refine wp_const rfl rfl ?_
  refine wp_icmp_lt (Y := 6) rfl rfl rfl rfl rfl (fun c => ?_) (fun c => ?_)
  · replace F := F.1 c
    refine wp_new' (L' := [some (vR a0), none, none]) rfl rfl rfl rfl rfl ?_
    replace F := F _ _ rfl rfl
    generalize gNew h0 3 13 = h1 at F ⊢
    generalize gN h0 = r0 at F ⊢
    refine wp_dup rfl rfl rfl ?_
    refine wp_aload rfl rfl rfl ?_
    obtain ⟨f3, F⟩ := F
    refine wp_getR rfl rfl rfl f3 rfl ?_
    obtain ⟨f4, F⟩ := F
    refine wp_getI rfl rfl rfl f4 rfl ?_
    obtain ⟨f5, F⟩ := F
    refine wp_callqV rfl rfl rfl (rcv_c f5) rfl rfl ?_
    refine CV.mono F (fun h2 F => ?_) (fun _ _ w => w)
    refine wp_astore (L2 := [some (vR a0), some (vR r0), none]) rfl rfl rfl rfl ?_
    refine wp_aload rfl rfl rfl ?_
    obtain ⟨f6, F⟩ := F
    refine wp_getR rfl rfl rfl f6 rfl ?_
    refine wp_aload rfl rfl rfl ?_
    obtain ⟨f7, F⟩ := F
    obtain ⟨f8, F⟩ := F
    refine wp_callI rfl rfl rfl (rcv_v f7 f8 (by decide) (by decide)) rfl rfl rfl rfl ?_
    refine CI.mono F (fun y1 h3 F => ?_) (fun _ _ w => rx_I w)
    refine wp_istore (L2 := [some (vR a0), some (vR r0), some (vI y1)]) rfl rfl rfl rfl ?_
    refine wp_aload rfl rfl rfl ?_
    obtain ⟨f9, F⟩ := F
    refine wp_getR rfl rfl rfl f9 rfl ?_
    refine wp_const rfl rfl ?_
    obtain ⟨f10, F⟩ := F
    obtain ⟨f11, F⟩ := F
    refine wp_putI rfl rfl rfl f10 f11 rfl ?_
    have f12 : gK (pI h3 (gR h3 a0 1) 1 0) a0 = 1 := (gK_pI _ _ _ _ _).trans f9
    have f13 : gK (pI h3 (gR h3 a0 1) 1 0) (gR (pI h3 (gR h3 a0 1) 1 0) a0 1) = 12 := (by simp only [gK_pI, gR_pI]; exact f11)
    replace F := F _ rfl
    generalize pI h3 (gR h3 a0 1) 1 0 = h4 at F f12 f13 ⊢
    refine wp_iload rfl rfl rfl ?_
    refine wp_const rfl rfl ?_
    refine wp_icmp_eq (Y := (-1)) rfl rfl rfl rfl rfl (fun c => ?_) (fun c => ?_)
    · replace F := F.1 c
      refine wp_aload' (L' := [some (vR a0), some (vR r0), none]) rfl rfl rfl rfl ?_
      refine wp_getR rfl rfl rfl f12 rfl ?_
      refine wp_aload rfl rfl rfl ?_
      obtain ⟨f14, F⟩ := F
      obtain ⟨f15, F⟩ := F
      refine wp_callI rfl rfl rfl (rcv_v f14 f15 (by decide) (by decide)) rfl rfl rfl rfl ?_
      refine CI.mono F (fun y2 h5 F => ?_) (fun _ _ w => rx_I w)
      refine wp_pop rfl rfl rfl ?_
      refine wp_aload rfl rfl rfl ?_
      obtain ⟨f16, F⟩ := F
      refine wp_getR rfl rfl rfl f16 rfl ?_
      obtain ⟨f17, F⟩ := F
      obtain ⟨f18, F⟩ := F
      refine wp_callI rfl rfl rfl (rcv_v f17 f18 (by decide) (by decide)) rfl rfl rfl rfl ?_
      refine CI.mono F (fun y3 h6 F => ?_) (fun _ _ w => rx_I w)
      refine wp_const rfl rfl ?_
      refine wp_isub rfl rfl ?_
      exact wp_retI rfl (Or.inl rfl) F
    · replace F := F.2 c
      refine wp_const rfl rfl ?_
      refine wp_iload rfl rfl rfl ?_
      refine wp_isub rfl rfl ?_
      exact wp_retI rfl (Or.inl rfl) F
  · replace F := F.2 c
    exact wp_thrI rfl F
-- CensusOfficeLaw form (LCensusOffice;[J)I
theorem m100 {d : Nat} {a0 : Nat} {a1 : Nat} {h : aH} {K : Int32 → aH → Prop} {X : Nat → aH → Prop} (F : 8 ≤ a0 ∧ gK h a0 = 1 ∧ CI d 99 [vR a0] h (fun y0 h0 => 8 ≤ a1 ∧ inB h0 101 a1 0 0 ∧ ∀ h1 : aH, h1 = pJ h0 a1 0 (y0.toInt64) → K 0 h1) (fun x9 h9 => (x9 = 4 ∧ K 1 h9))) : CI (d + 1) 100 [vR a0, vR a1] h K X := by
  show Wp (d + 1) 100 (0, [some (vR a0), some (vR a1), none], [], h) (RI K X)
  refine wp_aload rfl rfl rfl ?_
  refine wp_const rfl rfl ?_
  refine wp_aload rfl rfl rfl ?_
  obtain ⟨f0, F⟩ := F
  obtain ⟨f1, F⟩ := F
  refine wp_callhI (X := (fun x9 h9 => (x9 = 4 ∧ K 1 h9))) rfl rfl rfl (rcv_v f0 f1 (by decide) (by decide)) rfl rfl rfl (fun x9 h9 F => ?_) ?_
  · rcases F with ⟨rfl, F⟩
    · refine ⟨11, rfl, ?_⟩
      refine wp_astoreJ' (L' := [none, none, none]) (L2 := [none, none, some vJ]) rfl rfl rfl rfl rfl ?_
      refine wp_const rfl rfl ?_
      exact wp_retI rfl (Or.inl rfl) F
  · refine CI.mono F (fun y0 h0 F => ?_) (fun _ _ w => w)
    refine wp_i2l rfl rfl ?_
    obtain ⟨f2, F⟩ := F
    obtain ⟨b9, F⟩ := F
    refine wp_lastore rfl f2 b9 rfl ?_
    replace F := F _ rfl
    generalize pJ h0 a1 0 (y0.toInt64) = h1 at F ⊢
    refine wp_goto rfl rfl ?_
    refine wp_const' (L' := [none, none, none]) rfl rfl rfl ?_
    exact wp_retI rfl (Or.inl rfl) F
-- CensusOfficeModel byteAt (I)I
theorem m101 {d : Nat} {a0 : Nat} {a1 : Int32} {h : aH} {K : Int32 → aH → Prop} {X : Nat → aH → Prop} (F : gK h a0 = 14 ∧ ((a1.toInt < (gI h a0 13).toInt → ∃ i0 : Nat, inB h 100 (gR h a0 12) a1 i0 ∧ K (gI h (gR h a0 12) i0) h) ∧ (¬ a1.toInt < (gI h a0 13).toInt → K 0 h))) : CI d 101 [vR a0, vI a1] h K X := by
  show Wp d 101 (0, [some (vR a0), some (vI a1)], [], h) (RI K X)
  refine wp_iload rfl rfl rfl ?_
  refine wp_aload rfl rfl rfl ?_
  obtain ⟨f0, F⟩ := F
  refine wp_getI rfl rfl rfl f0 rfl ?_
  refine wp_icmp_ge rfl rfl rfl rfl rfl (fun c => ?_) (fun c => ?_)
  · replace F := F.1 c
    refine wp_aload rfl rfl rfl ?_
    refine wp_getR rfl rfl rfl f0 rfl ?_
    refine wp_iload rfl rfl rfl ?_
    obtain ⟨i0, b9, F⟩ := F
    refine wp_iaload rfl b9 rfl ?_
    refine wp_goto rfl rfl ?_
    exact wp_retI rfl (Or.inl rfl) F
  · replace F := F.2 c
    refine wp_const' (L' := [none, none]) rfl rfl rfl ?_
    exact wp_retI rfl (Or.inl rfl) F
-- CensusOfficeModel letters (JI)J
theorem m102 {d : Nat} {a0 : Int64} {a1 : Int32} {h : aH} {K : Int64 → aH → Prop} {X : Nat → aH → Prop} (F : K ((a0 <<< ((8 : Int32).toInt64 &&& 63)) ||| (a1.toInt64)) h) : CL d 102 [vL a0, vI a1] h K X := by
  show Wp d 102 (0, [some (vL a0), none, some (vI a1)], [], h) (RL K X)
  refine wp_lload rfl rfl rfl ?_
  refine wp_const rfl rfl ?_
  refine wp_lshl rfl rfl ?_
  refine wp_iload rfl rfl rfl ?_
  refine wp_i2l rfl rfl ?_
  refine wp_lor rfl rfl ?_
  exact wp_retL rfl F
-- CensusOfficeModel nextSign (I)V
theorem m103 {d : Nat} {a0 : Nat} {a1 : Int32} {h : aH} {K : aH → Prop} {X : Nat → aH → Prop} (F : gK h a0 = 14 ∧ 8 ≤ a0 ∧ CI d 101 [vR a0, vI (gI h a0 28)] h (fun y0 h0 => ((a1.toInt = 59 → gK h0 a0 = 14 ∧ ∀ h1 : aH, h1 = pI h0 a0 29 6 → K h1) ∧ (¬ a1.toInt = 59 → ((a1.toInt = 43 → gK h0 a0 = 14 ∧ ∀ h2 : aH, h2 = pI h0 a0 29 4 → ((a1.toInt = 43 → ∀ h3 : aH, h3 = pI h2 a0 32 3 → K h3) ∧ (¬ a1.toInt = 43 → ∀ h4 : aH, h4 = pI h2 a0 32 4 → K h4))) ∧ (¬ a1.toInt = 43 → ((a1.toInt = 45 → gK h0 a0 = 14 ∧ ∀ h5 : aH, h5 = pI h0 a0 29 4 → ((a1.toInt = 43 → ∀ h6 : aH, h6 = pI h5 a0 32 3 → K h6) ∧ (¬ a1.toInt = 43 → ∀ h7 : aH, h7 = pI h5 a0 32 4 → K h7))) ∧ (¬ a1.toInt = 45 → ((a1.toInt = 60 → Wp (d + 1) 103 (77, [some (vR a0), some (vI a1), some (vI y0), none], [], h0) (RV K X)) ∧ (¬ a1.toInt = 60 → ((a1.toInt = 61 → Wp (d + 1) 103 (77, [some (vR a0), some (vI a1), some (vI y0), none], [], h0) (RV K X)) ∧ (¬ a1.toInt = 61 → ((a1.toInt = 62 → Wp (d + 1) 103 (77, [some (vR a0), some (vI a1), some (vI y0), none], [], h0) (RV K X)) ∧ (¬ a1.toInt = 62 → gK h0 a0 = 14 ∧ ∀ h8 : aH, h8 = pI h0 a0 29 1 → K h8))))))))))))) X) : CV (d + 1) 103 [vR a0, vI a1] h K X := by
  show Wp (d + 1) 103 (0, [some (vR a0), some (vI a1), none, none], [], h) (RV K X)
  refine wp_aload rfl rfl rfl ?_
  refine wp_aload rfl rfl rfl ?_
  obtain ⟨f0, F⟩ := F
  refine wp_getI rfl rfl rfl f0 rfl ?_
  obtain ⟨f1, F⟩ := F
  refine wp_callI rfl rfl rfl (rcv_v f1 f0 (by decide) (by decide)) rfl rfl rfl rfl ?_
  refine CI.mono F (fun y0 h0 F => ?_) (fun _ _ w => rx_V w)
  refine wp_istore (L2 := [some (vR a0), some (vI a1), some (vI y0), none]) rfl rfl rfl rfl ?_
  refine wp_iload rfl rfl rfl ?_
  refine wp_const rfl rfl ?_
  refine wp_icmp_ne (Y := 59) rfl rfl rfl rfl rfl (fun c => ?_) (fun c => ?_)
  · replace F := F.1 c
    refine wp_aload rfl rfl rfl ?_
    refine wp_const rfl rfl ?_
    obtain ⟨f2, F⟩ := F
    refine wp_putI rfl rfl rfl f1 f2 rfl ?_
    have f3 : gK (pI h0 a0 29 6) a0 = 14 := (gK_pI _ _ _ _ _).trans f2
    replace F := F _ rfl
    generalize pI h0 a0 29 6 = h1 at F f3 ⊢
    refine wp_goto rfl rfl ?_
    exact wp_retV rfl F
  · replace F := F.2 c
    refine wp_iload' (L' := [some (vR a0), some (vI a1), some (vI y0), none]) rfl rfl rfl rfl ?_
    refine wp_const rfl rfl ?_
    refine wp_icmp_eq (Y := 43) rfl rfl rfl rfl rfl (fun c => ?_) (fun c => ?_)
    · replace F := F.1 c
      refine wp_aload' (L' := [some (vR a0), some (vI a1), none, none]) rfl rfl rfl rfl ?_
      refine wp_const rfl rfl ?_
      obtain ⟨f4, F⟩ := F
      refine wp_putI rfl rfl rfl f1 f4 rfl ?_
      have f5 : gK (pI h0 a0 29 4) a0 = 14 := (gK_pI _ _ _ _ _).trans f4
      replace F := F _ rfl
      generalize pI h0 a0 29 4 = h2 at F f5 ⊢
      refine wp_aload rfl rfl rfl ?_
      refine wp_iload rfl rfl rfl ?_
      refine wp_const rfl rfl ?_
      refine wp_icmp_ne (Y := 43) rfl rfl rfl rfl rfl (fun c => ?_) (fun c => ?_)
      · replace F := F.1 c
        refine wp_const rfl rfl ?_
        refine wp_goto rfl rfl ?_
        refine wp_putI' (L' := [none, none, none, none]) rfl rfl rfl rfl f1 f5 rfl ?_
        have f6 : gK (pI h2 a0 32 3) a0 = 14 := (gK_pI _ _ _ _ _).trans f5
        replace F := F _ rfl
        generalize pI h2 a0 32 3 = h3 at F f6 ⊢
        refine wp_goto rfl rfl ?_
        exact wp_retV rfl F
      · replace F := F.2 c
        refine wp_const' (L' := [none, none, none, none]) rfl rfl rfl ?_
        refine wp_putI' (L' := [none, none, none, none]) rfl rfl rfl rfl f1 f5 rfl ?_
        have f7 : gK (pI h2 a0 32 4) a0 = 14 := (gK_pI _ _ _ _ _).trans f5
        replace F := F _ rfl
        generalize pI h2 a0 32 4 = h4 at F f7 ⊢
        refine wp_goto rfl rfl ?_
        exact wp_retV rfl F
    · replace F := F.2 c
      refine wp_iload rfl rfl rfl ?_
      refine wp_const rfl rfl ?_
      refine wp_icmp_ne (Y := 45) rfl rfl rfl rfl rfl (fun c => ?_) (fun c => ?_)
      · replace F := F.1 c
        refine wp_aload' (L' := [some (vR a0), some (vI a1), none, none]) rfl rfl rfl rfl ?_
        refine wp_const rfl rfl ?_
        obtain ⟨f8, F⟩ := F
        refine wp_putI rfl rfl rfl f1 f8 rfl ?_
        have f9 : gK (pI h0 a0 29 4) a0 = 14 := (gK_pI _ _ _ _ _).trans f8
        replace F := F _ rfl
        generalize pI h0 a0 29 4 = h5 at F f9 ⊢
        refine wp_aload rfl rfl rfl ?_
        refine wp_iload rfl rfl rfl ?_
        refine wp_const rfl rfl ?_
        refine wp_icmp_ne (Y := 43) rfl rfl rfl rfl rfl (fun c => ?_) (fun c => ?_)
        · replace F := F.1 c
          refine wp_const rfl rfl ?_
          refine wp_goto rfl rfl ?_
          refine wp_putI' (L' := [none, none, none, none]) rfl rfl rfl rfl f1 f9 rfl ?_
          have f10 : gK (pI h5 a0 32 3) a0 = 14 := (gK_pI _ _ _ _ _).trans f9
          replace F := F _ rfl
          generalize pI h5 a0 32 3 = h6 at F f10 ⊢
          refine wp_goto rfl rfl ?_
          exact wp_retV rfl F
        · replace F := F.2 c
          refine wp_const' (L' := [none, none, none, none]) rfl rfl rfl ?_
          refine wp_putI' (L' := [none, none, none, none]) rfl rfl rfl rfl f1 f9 rfl ?_
          have f11 : gK (pI h5 a0 32 4) a0 = 14 := (gK_pI _ _ _ _ _).trans f9
          replace F := F _ rfl
          generalize pI h5 a0 32 4 = h7 at F f11 ⊢
          refine wp_goto rfl rfl ?_
          exact wp_retV rfl F
      · replace F := F.2 c
        refine wp_iload' (L' := [some (vR a0), some (vI a1), some (vI y0), none]) rfl rfl rfl rfl ?_
        refine wp_const rfl rfl ?_
        refine wp_icmp_eq (Y := 60) rfl rfl rfl rfl rfl (fun c => ?_) (fun c => ?_)
        · replace F := F.1 c
          exact F
        · replace F := F.2 c
          refine wp_iload rfl rfl rfl ?_
          refine wp_const rfl rfl ?_
          refine wp_icmp_eq (Y := 61) rfl rfl rfl rfl rfl (fun c => ?_) (fun c => ?_)
          · replace F := F.1 c
            exact F
          · replace F := F.2 c
            refine wp_iload rfl rfl rfl ?_
            refine wp_const rfl rfl ?_
            refine wp_icmp_ne (Y := 62) rfl rfl rfl rfl rfl (fun c => ?_) (fun c => ?_)
            · replace F := F.1 c
              exact F
            · replace F := F.2 c
              refine wp_aload' (L' := [some (vR a0), none, none, none]) rfl rfl rfl rfl ?_
              refine wp_const rfl rfl ?_
              obtain ⟨f12, F⟩ := F
              refine wp_putI rfl rfl rfl f1 f12 rfl ?_
              have f13 : gK (pI h0 a0 29 1) a0 = 14 := (gK_pI _ _ _ _ _).trans f12
              replace F := F _ rfl
              generalize pI h0 a0 29 1 = h8 at F f13 ⊢
              exact wp_retV rfl F
theorem w103_77 {d : Nat} {l0 : Nat} {l1 : Int32} {l2 : Int32} {h : aH} {K : aH → Prop} {X : Nat → aH → Prop} (F : 8 ≤ l0 ∧ gK h l0 = 14 ∧ ∀ h0 : aH, h0 = pI h l0 29 5 → ((l1.toInt = 60 → ((l2.toInt = 61 → Wp (d + 1) 103 (132, [some (vR l0), some (vI l1), some (vI l2), some (vI 1)], [vI 1, vI (gI h0 l0 28), vR l0], h0) (RV K X)) ∧ (¬ l2.toInt = 61 → ((l2.toInt = 62 → Wp (d + 1) 103 (132, [some (vR l0), some (vI l1), some (vI l2), some (vI 1)], [vI 1, vI (gI h0 l0 28), vR l0], h0) (RV K X)) ∧ (¬ l2.toInt = 62 → Wp (d + 1) 103 (100, [some (vR l0), some (vI l1), some (vI l2), none], [], h0) (RV K X)))))) ∧ (¬ l1.toInt = 60 → Wp (d + 1) 103 (100, [some (vR l0), some (vI l1), some (vI l2), none], [], h0) (RV K X)))) : Wp (d + 1) 103 (77, [some (vR l0), some (vI l1), some (vI l2), none], [], h) (RV K X) := by
  refine wp_aload' (L' := [some (vR l0), some (vI l1), some (vI l2), none]) rfl rfl rfl rfl ?_
  refine wp_const rfl rfl ?_
  obtain ⟨f0, F⟩ := F
  obtain ⟨f1, F⟩ := F
  refine wp_putI rfl rfl rfl f0 f1 rfl ?_
  have f2 : gK (pI h l0 29 5) l0 = 14 := (gK_pI _ _ _ _ _).trans f1
  replace F := F _ rfl
  generalize pI h l0 29 5 = h0 at F f2 ⊢
  refine wp_iload rfl rfl rfl ?_
  refine wp_const rfl rfl ?_
  refine wp_icmp_ne (Y := 60) rfl rfl rfl rfl rfl (fun c => ?_) (fun c => ?_)
  · replace F := F.1 c
    refine wp_iload rfl rfl rfl ?_
    refine wp_const rfl rfl ?_
    refine wp_icmp_eq (Y := 61) rfl rfl rfl rfl rfl (fun c => ?_) (fun c => ?_)
    · replace F := F.1 c
      refine wp_const' (L' := [some (vR l0), some (vI l1), some (vI l2), none]) rfl rfl rfl ?_
      refine wp_goto rfl rfl ?_
      refine wp_istore' (L' := [some (vR l0), some (vI l1), some (vI l2), none]) (L2 := [some (vR l0), some (vI l1), some (vI l2), some (vI 1)]) rfl rfl rfl rfl rfl ?_
      refine wp_aload rfl rfl rfl ?_
      refine wp_dup rfl rfl rfl ?_
      refine wp_getI rfl rfl rfl f2 rfl ?_
      refine wp_iload rfl rfl rfl ?_
      refine wp_if_eq (X := 1) rfl rfl rfl rfl (fun c => absurd c (by decide)) (fun _ => ?_)
      refine wp_const rfl rfl ?_
      refine wp_goto rfl rfl ?_
      exact F
    · replace F := F.2 c
      refine wp_iload rfl rfl rfl ?_
      refine wp_const rfl rfl ?_
      refine wp_icmp_eq (Y := 62) rfl rfl rfl rfl rfl (fun c => ?_) (fun c => ?_)
      · replace F := F.1 c
        refine wp_const' (L' := [some (vR l0), some (vI l1), some (vI l2), none]) rfl rfl rfl ?_
        refine wp_goto rfl rfl ?_
        refine wp_istore' (L' := [some (vR l0), some (vI l1), some (vI l2), none]) (L2 := [some (vR l0), some (vI l1), some (vI l2), some (vI 1)]) rfl rfl rfl rfl rfl ?_
        refine wp_aload rfl rfl rfl ?_
        refine wp_dup rfl rfl rfl ?_
        refine wp_getI rfl rfl rfl f2 rfl ?_
        refine wp_iload rfl rfl rfl ?_
        refine wp_if_eq (X := 1) rfl rfl rfl rfl (fun c => absurd c (by decide)) (fun _ => ?_)
        refine wp_const rfl rfl ?_
        refine wp_goto rfl rfl ?_
        exact F
      · replace F := F.2 c
        exact F
  · replace F := F.2 c
    exact F
theorem w103_132 {d : Nat} {l0 : Nat} {l1 : Int32} {l2 : Int32} {l3 : Int32} {s0 : Int32} {s1 : Int32} {s2 : Nat} {h : aH} {K : aH → Prop} {X : Nat → aH → Prop} (F : 8 ≤ s2 ∧ gK h s2 = 14 ∧ ∀ h0 : aH, h0 = pI h s2 28 (s1 + s0) → ((l1.toInt = 61 → 8 ≤ l0 ∧ gK h0 l0 = 14 ∧ ∀ h1 : aH, h1 = pI h0 l0 32 7 → K h1) ∧ (¬ l1.toInt = 61 → ((l1.toInt = 60 → ((l3.toInt = 0 → 8 ≤ l0 ∧ gK h0 l0 = 14 ∧ ∀ h2 : aH, h2 = pI h0 l0 32 5 → K h2) ∧ (¬ l3.toInt = 0 → ((l2.toInt = 61 → 8 ≤ l0 ∧ gK h0 l0 = 14 ∧ ∀ h3 : aH, h3 = pI h0 l0 32 6 → K h3) ∧ (¬ l2.toInt = 61 → 8 ≤ l0 ∧ gK h0 l0 = 14 ∧ ∀ h4 : aH, h4 = pI h0 l0 32 8 → K h4))))) ∧ (¬ l1.toInt = 60 → ((l3.toInt = 0 → 8 ≤ l0 ∧ gK h0 l0 = 14 ∧ ∀ h5 : aH, h5 = pI h0 l0 32 10 → K h5) ∧ (¬ l3.toInt = 0 → 8 ≤ l0 ∧ gK h0 l0 = 14 ∧ ∀ h6 : aH, h6 = pI h0 l0 32 9 → K h6))))))) : Wp (d + 1) 103 (132, [some (vR l0), some (vI l1), some (vI l2), some (vI l3)], [vI s0, vI s1, vR s2], h) (RV K X) := by
  refine wp_iadd rfl rfl ?_
  obtain ⟨f0, F⟩ := F
  obtain ⟨f1, F⟩ := F
  refine wp_putI rfl rfl rfl f0 f1 rfl ?_
  have f2 : gK (pI h s2 28 (s1 + s0)) s2 = 14 := (gK_pI _ _ _ _ _).trans f1
  replace F := F _ rfl
  generalize pI h s2 28 (s1 + s0) = h0 at F f2 ⊢
  refine wp_aload rfl rfl rfl ?_
  refine wp_iload rfl rfl rfl ?_
  refine wp_const rfl rfl ?_
  refine wp_icmp_ne (Y := 61) rfl rfl rfl rfl rfl (fun c => ?_) (fun c => ?_)
  · replace F := F.1 c
    refine wp_const rfl rfl ?_
    refine wp_goto rfl rfl ?_
    obtain ⟨f3, F⟩ := F
    obtain ⟨f4, F⟩ := F
    refine wp_putI' (L' := [none, none, none, none]) rfl rfl rfl rfl f3 f4 rfl ?_
    have f5 : gK (pI h0 l0 32 7) s2 = 14 := (gK_pI _ _ _ _ _).trans f2
    have f6 : gK (pI h0 l0 32 7) l0 = 14 := (gK_pI _ _ _ _ _).trans f4
    replace F := F _ rfl
    generalize pI h0 l0 32 7 = h1 at F f5 f6 ⊢
    refine wp_goto rfl rfl ?_
    exact wp_retV rfl F
  · replace F := F.2 c
    refine wp_iload' (L' := [none, some (vI l1), some (vI l2), some (vI l3)]) rfl rfl rfl rfl ?_
    refine wp_const rfl rfl ?_
    refine wp_icmp_ne (Y := 60) rfl rfl rfl rfl rfl (fun c => ?_) (fun c => ?_)
    · replace F := F.1 c
      refine wp_iload rfl rfl rfl ?_
      refine wp_if_ne rfl rfl rfl rfl (fun c => ?_) (fun c => ?_)
      · replace F := F.1 c
        refine wp_const rfl rfl ?_
        refine wp_goto rfl rfl ?_
        obtain ⟨f7, F⟩ := F
        obtain ⟨f8, F⟩ := F
        refine wp_putI' (L' := [none, none, none, none]) rfl rfl rfl rfl f7 f8 rfl ?_
        have f9 : gK (pI h0 l0 32 5) s2 = 14 := (gK_pI _ _ _ _ _).trans f2
        have f10 : gK (pI h0 l0 32 5) l0 = 14 := (gK_pI _ _ _ _ _).trans f8
        replace F := F _ rfl
        generalize pI h0 l0 32 5 = h2 at F f9 f10 ⊢
        refine wp_goto rfl rfl ?_
        exact wp_retV rfl F
      · replace F := F.2 c
        refine wp_iload' (L' := [none, none, some (vI l2), none]) rfl rfl rfl rfl ?_
        refine wp_const rfl rfl ?_
        refine wp_icmp_ne (Y := 61) rfl rfl rfl rfl rfl (fun c => ?_) (fun c => ?_)
        · replace F := F.1 c
          refine wp_const rfl rfl ?_
          refine wp_goto rfl rfl ?_
          obtain ⟨f11, F⟩ := F
          obtain ⟨f12, F⟩ := F
          refine wp_putI' (L' := [none, none, none, none]) rfl rfl rfl rfl f11 f12 rfl ?_
          have f13 : gK (pI h0 l0 32 6) s2 = 14 := (gK_pI _ _ _ _ _).trans f2
          have f14 : gK (pI h0 l0 32 6) l0 = 14 := (gK_pI _ _ _ _ _).trans f12
          replace F := F _ rfl
          generalize pI h0 l0 32 6 = h3 at F f13 f14 ⊢
          refine wp_goto rfl rfl ?_
          exact wp_retV rfl F
        · replace F := F.2 c
          refine wp_const' (L' := [none, none, none, none]) rfl rfl rfl ?_
          refine wp_goto rfl rfl ?_
          obtain ⟨f15, F⟩ := F
          obtain ⟨f16, F⟩ := F
          refine wp_putI' (L' := [none, none, none, none]) rfl rfl rfl rfl f15 f16 rfl ?_
          have f17 : gK (pI h0 l0 32 8) s2 = 14 := (gK_pI _ _ _ _ _).trans f2
          have f18 : gK (pI h0 l0 32 8) l0 = 14 := (gK_pI _ _ _ _ _).trans f16
          replace F := F _ rfl
          generalize pI h0 l0 32 8 = h4 at F f17 f18 ⊢
          refine wp_goto rfl rfl ?_
          exact wp_retV rfl F
    · replace F := F.2 c
      refine wp_iload' (L' := [none, none, none, some (vI l3)]) rfl rfl rfl rfl ?_
      refine wp_if_eq rfl rfl rfl rfl (fun c => ?_) (fun c => ?_)
      · replace F := F.1 c
        refine wp_const' (L' := [none, none, none, none]) rfl rfl rfl ?_
        obtain ⟨f19, F⟩ := F
        obtain ⟨f20, F⟩ := F
        refine wp_putI' (L' := [none, none, none, none]) rfl rfl rfl rfl f19 f20 rfl ?_
        have f21 : gK (pI h0 l0 32 10) s2 = 14 := (gK_pI _ _ _ _ _).trans f2
        have f22 : gK (pI h0 l0 32 10) l0 = 14 := (gK_pI _ _ _ _ _).trans f20
        replace F := F _ rfl
        generalize pI h0 l0 32 10 = h5 at F f21 f22 ⊢
        refine wp_goto rfl rfl ?_
        exact wp_retV rfl F
      · replace F := F.2 c
        refine wp_const rfl rfl ?_
        refine wp_goto rfl rfl ?_
        obtain ⟨f23, F⟩ := F
        obtain ⟨f24, F⟩ := F
        refine wp_putI' (L' := [none, none, none, none]) rfl rfl rfl rfl f23 f24 rfl ?_
        have f25 : gK (pI h0 l0 32 9) s2 = 14 := (gK_pI _ _ _ _ _).trans f2
        have f26 : gK (pI h0 l0 32 9) l0 = 14 := (gK_pI _ _ _ _ _).trans f24
        replace F := F _ rfl
        generalize pI h0 l0 32 9 = h6 at F f25 f26 ⊢
        refine wp_goto rfl rfl ?_
        exact wp_retV rfl F
theorem w103_100 {d : Nat} {l0 : Nat} {l1 : Int32} {l2 : Int32} {h : aH} {K : aH → Prop} {X : Nat → aH → Prop} (F : ((l1.toInt = 62 → ((l2.toInt = 61 → gK h l0 = 14 ∧ Wp (d + 1) 103 (132, [some (vR l0), some (vI l1), some (vI l2), some (vI 1)], [vI 1, vI (gI h l0 28), vR l0], h) (RV K X)) ∧ (¬ l2.toInt = 61 → gK h l0 = 14 ∧ Wp (d + 1) 103 (132, [some (vR l0), some (vI l1), some (vI l2), some (vI 0)], [vI 0, vI (gI h l0 28), vR l0], h) (RV K X)))) ∧ (¬ l1.toInt = 62 → gK h l0 = 14 ∧ Wp (d + 1) 103 (132, [some (vR l0), some (vI l1), some (vI l2), some (vI 0)], [vI 0, vI (gI h l0 28), vR l0], h) (RV K X)))) : Wp (d + 1) 103 (100, [some (vR l0), some (vI l1), some (vI l2), none], [], h) (RV K X) := by
  refine wp_iload' (L' := [some (vR l0), some (vI l1), some (vI l2), none]) rfl rfl rfl rfl ?_
  refine wp_const rfl rfl ?_
  refine wp_icmp_ne (Y := 62) rfl rfl rfl rfl rfl (fun c => ?_) (fun c => ?_)
  · replace F := F.1 c
    refine wp_iload rfl rfl rfl ?_
    refine wp_const rfl rfl ?_
    refine wp_icmp_ne (Y := 61) rfl rfl rfl rfl rfl (fun c => ?_) (fun c => ?_)
    · replace F := F.1 c
      refine wp_const' (L' := [some (vR l0), some (vI l1), some (vI l2), none]) rfl rfl rfl ?_
      refine wp_goto rfl rfl ?_
      refine wp_istore' (L' := [some (vR l0), some (vI l1), some (vI l2), none]) (L2 := [some (vR l0), some (vI l1), some (vI l2), some (vI 1)]) rfl rfl rfl rfl rfl ?_
      refine wp_aload rfl rfl rfl ?_
      refine wp_dup rfl rfl rfl ?_
      obtain ⟨f0, F⟩ := F
      refine wp_getI rfl rfl rfl f0 rfl ?_
      refine wp_iload rfl rfl rfl ?_
      refine wp_if_eq (X := 1) rfl rfl rfl rfl (fun c => absurd c (by decide)) (fun _ => ?_)
      refine wp_const rfl rfl ?_
      refine wp_goto rfl rfl ?_
      exact F
    · replace F := F.2 c
      refine wp_const' (L' := [some (vR l0), some (vI l1), some (vI l2), none]) rfl rfl rfl ?_
      refine wp_istore' (L' := [some (vR l0), some (vI l1), some (vI l2), none]) (L2 := [some (vR l0), some (vI l1), some (vI l2), some (vI 0)]) rfl rfl rfl rfl rfl ?_
      refine wp_aload rfl rfl rfl ?_
      refine wp_dup rfl rfl rfl ?_
      obtain ⟨f1, F⟩ := F
      refine wp_getI rfl rfl rfl f1 rfl ?_
      refine wp_iload rfl rfl rfl ?_
      refine wp_if_eq (X := 0) rfl rfl rfl rfl (fun _ => ?_) (fun c => absurd (by decide) c)
      refine wp_const rfl rfl ?_
      exact F
  · replace F := F.2 c
    refine wp_const' (L' := [some (vR l0), some (vI l1), some (vI l2), none]) rfl rfl rfl ?_
    refine wp_istore' (L' := [some (vR l0), some (vI l1), some (vI l2), none]) (L2 := [some (vR l0), some (vI l1), some (vI l2), some (vI 0)]) rfl rfl rfl rfl rfl ?_
    refine wp_aload rfl rfl rfl ?_
    refine wp_dup rfl rfl rfl ?_
    obtain ⟨f2, F⟩ := F
    refine wp_getI rfl rfl rfl f2 rfl ?_
    refine wp_iload rfl rfl rfl ?_
    refine wp_if_eq (X := 0) rfl rfl rfl rfl (fun _ => ?_) (fun c => absurd (by decide) c)
    refine wp_const rfl rfl ?_
    exact F
-- CensusOfficeModel next ()V
theorem m104 {d : Nat} {a0 : Nat} {h : aH} {K : aH → Prop} {X : Nat → aH → Prop} (F : Wp (d + 1) 104 (0, [some (vR a0), none], [], h) (RV K X)) : CV (d + 1) 104 [vR a0] h K X := by
  show Wp (d + 1) 104 (0, [some (vR a0), none], [], h) (RV K X)
  exact F
theorem w104_0 {d : Nat} {l0 : Nat} {h : aH} {K : aH → Prop} {X : Nat → aH → Prop} (F : gK h l0 = 14 ∧ (((gI h l0 28).toInt < (gI h l0 13).toInt → ∃ i0 : Nat, inB h 100 (gR h l0 12) (gI h l0 28) i0 ∧ (((gI h (gR h l0 12) i0).toInt = 9 → 8 ≤ l0 ∧ ∀ h0 : aH, h0 = pI h l0 28 ((gI h l0 28) + 1) → Wp (d + 1) 104 (0, [some (vR l0), none], [], h0) (RV K X)) ∧ (¬ (gI h (gR h l0 12) i0).toInt = 9 → ∃ i1 : Nat, inB h 100 (gR h l0 12) (gI h l0 28) i1 ∧ (((gI h (gR h l0 12) i1).toInt = 10 → 8 ≤ l0 ∧ ∀ h1 : aH, h1 = pI h l0 28 ((gI h l0 28) + 1) → Wp (d + 1) 104 (0, [some (vR l0), none], [], h1) (RV K X)) ∧ (¬ (gI h (gR h l0 12) i1).toInt = 10 → ∃ i2 : Nat, inB h 100 (gR h l0 12) (gI h l0 28) i2 ∧ (((gI h (gR h l0 12) i2).toInt = 13 → 8 ≤ l0 ∧ ∀ h2 : aH, h2 = pI h l0 28 ((gI h l0 28) + 1) → Wp (d + 1) 104 (0, [some (vR l0), none], [], h2) (RV K X)) ∧ (¬ (gI h (gR h l0 12) i2).toInt = 13 → ∃ i3 : Nat, inB h 100 (gR h l0 12) (gI h l0 28) i3 ∧ (((gI h (gR h l0 12) i3).toInt = 32 → 8 ≤ l0 ∧ ∀ h3 : aH, h3 = pI h l0 28 ((gI h l0 28) + 1) → Wp (d + 1) 104 (0, [some (vR l0), none], [], h3) (RV K X)) ∧ (¬ (gI h (gR h l0 12) i3).toInt = 32 → Wp (d + 1) 104 (80, [some (vR l0), none], [], h) (RV K X)))))))))) ∧ (¬ (gI h l0 28).toInt < (gI h l0 13).toInt → Wp (d + 1) 104 (80, [some (vR l0), none], [], h) (RV K X)))) : Wp (d + 1) 104 (0, [some (vR l0), none], [], h) (RV K X) := by
  refine wp_aload' (L' := [some (vR l0), none]) rfl rfl rfl rfl ?_
  obtain ⟨f0, F⟩ := F
  refine wp_getI rfl rfl rfl f0 rfl ?_
  refine wp_aload rfl rfl rfl ?_
  refine wp_getI rfl rfl rfl f0 rfl ?_
  refine wp_icmp_ge rfl rfl rfl rfl rfl (fun c => ?_) (fun c => ?_)
  · replace F := F.1 c
    refine wp_aload rfl rfl rfl ?_
    refine wp_getR rfl rfl rfl f0 rfl ?_
    refine wp_aload rfl rfl rfl ?_
    refine wp_getI rfl rfl rfl f0 rfl ?_
    obtain ⟨i0, b9, F⟩ := F
    refine wp_iaload rfl b9 rfl ?_
    refine wp_const rfl rfl ?_
    refine wp_icmp_eq (Y := 9) rfl rfl rfl rfl rfl (fun c => ?_) (fun c => ?_)
    · replace F := F.1 c
      refine wp_aload' (L' := [some (vR l0), none]) rfl rfl rfl rfl ?_
      refine wp_dup rfl rfl rfl ?_
      refine wp_getI rfl rfl rfl f0 rfl ?_
      refine wp_const rfl rfl ?_
      refine wp_iadd rfl rfl ?_
      obtain ⟨f1, F⟩ := F
      refine wp_putI rfl rfl rfl f1 f0 rfl ?_
      have f2 : gK (pI h l0 28 ((gI h l0 28) + 1)) l0 = 14 := (gK_pI _ _ _ _ _).trans f0
      replace F := F _ rfl
      generalize pI h l0 28 ((gI h l0 28) + 1) = h0 at F f2 ⊢
      refine wp_goto rfl rfl ?_
      exact F
    · replace F := F.2 c
      refine wp_aload rfl rfl rfl ?_
      refine wp_getR rfl rfl rfl f0 rfl ?_
      refine wp_aload rfl rfl rfl ?_
      refine wp_getI rfl rfl rfl f0 rfl ?_
      obtain ⟨i1, b9, F⟩ := F
      refine wp_iaload rfl b9 rfl ?_
      refine wp_const rfl rfl ?_
      refine wp_icmp_eq (Y := 10) rfl rfl rfl rfl rfl (fun c => ?_) (fun c => ?_)
      · replace F := F.1 c
        refine wp_aload' (L' := [some (vR l0), none]) rfl rfl rfl rfl ?_
        refine wp_dup rfl rfl rfl ?_
        refine wp_getI rfl rfl rfl f0 rfl ?_
        refine wp_const rfl rfl ?_
        refine wp_iadd rfl rfl ?_
        obtain ⟨f3, F⟩ := F
        refine wp_putI rfl rfl rfl f3 f0 rfl ?_
        have f4 : gK (pI h l0 28 ((gI h l0 28) + 1)) l0 = 14 := (gK_pI _ _ _ _ _).trans f0
        replace F := F _ rfl
        generalize pI h l0 28 ((gI h l0 28) + 1) = h1 at F f4 ⊢
        refine wp_goto rfl rfl ?_
        exact F
      · replace F := F.2 c
        refine wp_aload rfl rfl rfl ?_
        refine wp_getR rfl rfl rfl f0 rfl ?_
        refine wp_aload rfl rfl rfl ?_
        refine wp_getI rfl rfl rfl f0 rfl ?_
        obtain ⟨i2, b9, F⟩ := F
        refine wp_iaload rfl b9 rfl ?_
        refine wp_const rfl rfl ?_
        refine wp_icmp_eq (Y := 13) rfl rfl rfl rfl rfl (fun c => ?_) (fun c => ?_)
        · replace F := F.1 c
          refine wp_aload' (L' := [some (vR l0), none]) rfl rfl rfl rfl ?_
          refine wp_dup rfl rfl rfl ?_
          refine wp_getI rfl rfl rfl f0 rfl ?_
          refine wp_const rfl rfl ?_
          refine wp_iadd rfl rfl ?_
          obtain ⟨f5, F⟩ := F
          refine wp_putI rfl rfl rfl f5 f0 rfl ?_
          have f6 : gK (pI h l0 28 ((gI h l0 28) + 1)) l0 = 14 := (gK_pI _ _ _ _ _).trans f0
          replace F := F _ rfl
          generalize pI h l0 28 ((gI h l0 28) + 1) = h2 at F f6 ⊢
          refine wp_goto rfl rfl ?_
          exact F
        · replace F := F.2 c
          refine wp_aload rfl rfl rfl ?_
          refine wp_getR rfl rfl rfl f0 rfl ?_
          refine wp_aload rfl rfl rfl ?_
          refine wp_getI rfl rfl rfl f0 rfl ?_
          obtain ⟨i3, b9, F⟩ := F
          refine wp_iaload rfl b9 rfl ?_
          refine wp_const rfl rfl ?_
          refine wp_icmp_ne (Y := 32) rfl rfl rfl rfl rfl (fun c => ?_) (fun c => ?_)
          · replace F := F.1 c
            refine wp_aload' (L' := [some (vR l0), none]) rfl rfl rfl rfl ?_
            refine wp_dup rfl rfl rfl ?_
            refine wp_getI rfl rfl rfl f0 rfl ?_
            refine wp_const rfl rfl ?_
            refine wp_iadd rfl rfl ?_
            obtain ⟨f7, F⟩ := F
            refine wp_putI rfl rfl rfl f7 f0 rfl ?_
            have f8 : gK (pI h l0 28 ((gI h l0 28) + 1)) l0 = 14 := (gK_pI _ _ _ _ _).trans f0
            replace F := F _ rfl
            generalize pI h l0 28 ((gI h l0 28) + 1) = h3 at F f8 ⊢
            refine wp_goto rfl rfl ?_
            exact F
          · replace F := F.2 c
            exact F
  · replace F := F.2 c
    exact F
theorem w104_80 {d : Nat} {l0 : Nat} {h : aH} {K : aH → Prop} {X : Nat → aH → Prop} (F : gK h l0 = 14 ∧ 8 ≤ l0 ∧ ∀ h0 : aH, h0 = pI h l0 30 (gI h l0 28) → CI d 101 [vR l0, vI (gI h0 l0 28)] h0 (fun y0 h1 => gK h1 l0 = 14 ∧ (((gI h1 l0 28).toInt = (gI h1 l0 13).toInt → ∀ h2 : aH, h2 = pI h1 l0 29 0 → K h2) ∧ (¬ (gI h1 l0 28).toInt = (gI h1 l0 13).toInt → CI d 14 [vL (y0.toInt64), vL 97, vL 122] h1 (fun y1 h3 => ((y1.toInt = 0 → CI d 14 [vL (y0.toInt64), vL 48, vL 57] h3 (fun y2 h4 => ((y2.toInt = 0 → gK h4 l0 = 14 ∧ ∀ h5 : aH, h5 = pI h4 l0 28 ((gI h4 l0 28) + 1) → CV d 103 [vR l0, vI y0] h5 (fun h6 => K h6) X) ∧ (¬ y2.toInt = 0 → gK h4 l0 = 14 ∧ ∀ h7 : aH, h7 = pI h4 l0 32 0 → Wp (d + 1) 104 (233, [some (vR l0), none], [], h7) (RV K X)))) X) ∧ (¬ y1.toInt = 0 → gK h3 l0 = 14 ∧ ∀ h8 : aH, h8 = pJ h3 l0 31 0 → Wp (d + 1) 104 (135, [some (vR l0), none], [], h8) (RV K X)))) X))) X) : Wp (d + 1) 104 (80, [some (vR l0), none], [], h) (RV K X) := by
  refine wp_aload' (L' := [some (vR l0), none]) rfl rfl rfl rfl ?_
  refine wp_aload rfl rfl rfl ?_
  obtain ⟨f0, F⟩ := F
  refine wp_getI rfl rfl rfl f0 rfl ?_
  obtain ⟨f1, F⟩ := F
  refine wp_putI rfl rfl rfl f1 f0 rfl ?_
  have f2 : gK (pI h l0 30 (gI h l0 28)) l0 = 14 := (gK_pI _ _ _ _ _).trans f0
  replace F := F _ rfl
  generalize pI h l0 30 (gI h l0 28) = h0 at F f2 ⊢
  refine wp_aload rfl rfl rfl ?_
  refine wp_aload rfl rfl rfl ?_
  refine wp_getI rfl rfl rfl f2 rfl ?_
  refine wp_callI rfl rfl rfl (rcv_v f1 f2 (by decide) (by decide)) rfl rfl rfl rfl ?_
  refine CI.mono F (fun y0 h1 F => ?_) (fun _ _ w => rx_V w)
  refine wp_istore (L2 := [some (vR l0), some (vI y0)]) rfl rfl rfl rfl ?_
  refine wp_aload rfl rfl rfl ?_
  obtain ⟨f3, F⟩ := F
  refine wp_getI rfl rfl rfl f3 rfl ?_
  refine wp_aload rfl rfl rfl ?_
  refine wp_getI rfl rfl rfl f3 rfl ?_
  refine wp_icmp_ne rfl rfl rfl rfl rfl (fun c => ?_) (fun c => ?_)
  · replace F := F.1 c
    refine wp_aload rfl rfl rfl ?_
    refine wp_const rfl rfl ?_
    refine wp_putI rfl rfl rfl f1 f3 rfl ?_
    have f4 : gK (pI h1 l0 29 0) l0 = 14 := (gK_pI _ _ _ _ _).trans f3
    replace F := F _ rfl
    generalize pI h1 l0 29 0 = h2 at F f4 ⊢
    refine wp_goto rfl rfl ?_
    exact wp_retV rfl F
  · replace F := F.2 c
    refine wp_iload rfl rfl rfl ?_
    refine wp_i2l rfl rfl ?_
    refine wp_const rfl rfl ?_
    refine wp_const rfl rfl ?_
    refine wp_callI rfl rfl rfl rfl rfl rfl rfl rfl ?_
    refine CI.mono F (fun y1 h3 F => ?_) (fun _ _ w => rx_V w)
    refine wp_if_eq rfl rfl rfl rfl (fun c => ?_) (fun c => ?_)
    · replace F := F.1 c
      refine wp_iload rfl rfl rfl ?_
      refine wp_i2l rfl rfl ?_
      refine wp_const rfl rfl ?_
      refine wp_const rfl rfl ?_
      refine wp_callI rfl rfl rfl rfl rfl rfl rfl rfl ?_
      refine CI.mono F (fun y2 h4 F => ?_) (fun _ _ w => rx_V w)
      refine wp_if_eq rfl rfl rfl rfl (fun c => ?_) (fun c => ?_)
      · replace F := F.1 c
        refine wp_aload rfl rfl rfl ?_
        refine wp_dup rfl rfl rfl ?_
        obtain ⟨f5, F⟩ := F
        refine wp_getI rfl rfl rfl f5 rfl ?_
        refine wp_const rfl rfl ?_
        refine wp_iadd rfl rfl ?_
        refine wp_putI rfl rfl rfl f1 f5 rfl ?_
        have f6 : gK (pI h4 l0 28 ((gI h4 l0 28) + 1)) l0 = 14 := (gK_pI _ _ _ _ _).trans f5
        replace F := F _ rfl
        generalize pI h4 l0 28 ((gI h4 l0 28) + 1) = h5 at F f6 ⊢
        refine wp_aload rfl rfl rfl ?_
        refine wp_iload rfl rfl rfl ?_
        refine wp_callV rfl rfl rfl (rcv_v f1 f6 (by decide) (by decide)) rfl rfl rfl rfl ?_
        refine CV.mono F (fun h6 F => ?_) (fun _ _ w => rx_V w)
        exact wp_retV rfl F
      · replace F := F.2 c
        refine wp_aload rfl rfl rfl ?_
        refine wp_const rfl rfl ?_
        obtain ⟨f7, F⟩ := F
        refine wp_putI rfl rfl rfl f1 f7 rfl ?_
        have f8 : gK (pI h4 l0 32 0) l0 = 14 := (gK_pI _ _ _ _ _).trans f7
        replace F := F _ rfl
        generalize pI h4 l0 32 0 = h7 at F f8 ⊢
        refine wp_kill (L' := [some (vR l0), none]) rfl rfl ?_
        exact F
    · replace F := F.2 c
      refine wp_aload rfl rfl rfl ?_
      refine wp_const rfl rfl ?_
      obtain ⟨f9, F⟩ := F
      refine wp_putJ rfl rfl rfl f1 f9 rfl ?_
      have f10 : gK (pJ h3 l0 31 0) l0 = 14 := (gK_pJ _ _ _ _ _).trans f9
      replace F := F _ rfl
      generalize pJ h3 l0 31 0 = h8 at F f10 ⊢
      refine wp_kill (L' := [some (vR l0), none]) rfl rfl ?_
      exact F
theorem w104_233 {d : Nat} {l0 : Nat} {h : aH} {K : aH → Prop} {X : Nat → aH → Prop} (F : gK h l0 = 14 ∧ 8 ≤ l0 ∧ CI d 101 [vR l0, vI (gI h l0 28)] h (fun y0 h0 => CI d 14 [vL (y0.toInt64), vL 48, vL 57] h0 (fun y1 h1 => ((y1.toInt = 0 → gK h1 l0 = 14 ∧ ((6 < ((gI h1 l0 28) - (gI h1 l0 30)).toInt → ∀ h2 : aH, h2 = pI h1 l0 29 1 → K h2) ∧ (¬ 6 < ((gI h1 l0 28) - (gI h1 l0 30)).toInt → ∀ h3 : aH, h3 = pI h1 l0 29 3 → K h3))) ∧ (¬ y1.toInt = 0 → gK h1 l0 = 14 ∧ ((((gI h1 l0 28) - (gI h1 l0 30)).toInt < 6 → CI d 101 [vR l0, vI (gI h1 l0 28)] h1 (fun y2 h4 => gK h4 l0 = 14 ∧ ∀ h5 : aH, h5 = pI h4 l0 32 (((10 * (gI h1 l0 32)) + y2) - 48) → ∀ h6 : aH, h6 = pI h5 l0 28 ((gI h5 l0 28) + 1) → Wp (d + 1) 104 (233, [some (vR l0), none], [], h6) (RV K X)) X) ∧ (¬ ((gI h1 l0 28) - (gI h1 l0 30)).toInt < 6 → ∀ h7 : aH, h7 = pI h1 l0 32 (gI h1 l0 32) → ∀ h8 : aH, h8 = pI h7 l0 28 ((gI h7 l0 28) + 1) → Wp (d + 1) 104 (233, [some (vR l0), none], [], h8) (RV K X)))))) X) X) : Wp (d + 1) 104 (233, [some (vR l0), none], [], h) (RV K X) := by
  refine wp_aload' (L' := [some (vR l0), none]) rfl rfl rfl rfl ?_
  refine wp_aload rfl rfl rfl ?_
  obtain ⟨f0, F⟩ := F
  refine wp_getI rfl rfl rfl f0 rfl ?_
  obtain ⟨f1, F⟩ := F
  refine wp_callI rfl rfl rfl (rcv_v f1 f0 (by decide) (by decide)) rfl rfl rfl rfl ?_
  refine CI.mono F (fun y0 h0 F => ?_) (fun _ _ w => rx_V w)
  refine wp_i2l rfl rfl ?_
  refine wp_const rfl rfl ?_
  refine wp_const rfl rfl ?_
  refine wp_callI rfl rfl rfl rfl rfl rfl rfl rfl ?_
  refine CI.mono F (fun y1 h1 F => ?_) (fun _ _ w => rx_V w)
  refine wp_if_eq rfl rfl rfl rfl (fun c => ?_) (fun c => ?_)
  · replace F := F.1 c
    refine wp_aload' (L' := [some (vR l0), none]) rfl rfl rfl rfl ?_
    refine wp_aload rfl rfl rfl ?_
    obtain ⟨f2, F⟩ := F
    refine wp_getI rfl rfl rfl f2 rfl ?_
    refine wp_aload rfl rfl rfl ?_
    refine wp_getI rfl rfl rfl f2 rfl ?_
    refine wp_isub rfl rfl ?_
    refine wp_const rfl rfl ?_
    refine wp_icmp_le (Y := 6) rfl rfl rfl rfl rfl (fun c => ?_) (fun c => ?_)
    · replace F := F.1 c
      refine wp_const rfl rfl ?_
      refine wp_goto rfl rfl ?_
      refine wp_putI' (L' := [none, none]) rfl rfl rfl rfl f1 f2 rfl ?_
      have f3 : gK (pI h1 l0 29 1) l0 = 14 := (gK_pI _ _ _ _ _).trans f2
      replace F := F _ rfl
      generalize pI h1 l0 29 1 = h2 at F f3 ⊢
      refine wp_goto rfl rfl ?_
      exact wp_retV rfl F
    · replace F := F.2 c
      refine wp_const' (L' := [none, none]) rfl rfl rfl ?_
      refine wp_putI' (L' := [none, none]) rfl rfl rfl rfl f1 f2 rfl ?_
      have f4 : gK (pI h1 l0 29 3) l0 = 14 := (gK_pI _ _ _ _ _).trans f2
      replace F := F _ rfl
      generalize pI h1 l0 29 3 = h3 at F f4 ⊢
      refine wp_goto rfl rfl ?_
      exact wp_retV rfl F
  · replace F := F.2 c
    refine wp_aload rfl rfl rfl ?_
    refine wp_aload rfl rfl rfl ?_
    obtain ⟨f5, F⟩ := F
    refine wp_getI rfl rfl rfl f5 rfl ?_
    refine wp_aload rfl rfl rfl ?_
    refine wp_getI rfl rfl rfl f5 rfl ?_
    refine wp_isub rfl rfl ?_
    refine wp_const rfl rfl ?_
    refine wp_icmp_ge (Y := 6) rfl rfl rfl rfl rfl (fun c => ?_) (fun c => ?_)
    · replace F := F.1 c
      refine wp_const rfl rfl ?_
      refine wp_aload rfl rfl rfl ?_
      refine wp_getI rfl rfl rfl f5 rfl ?_
      refine wp_imul rfl rfl ?_
      refine wp_aload rfl rfl rfl ?_
      refine wp_aload rfl rfl rfl ?_
      refine wp_getI rfl rfl rfl f5 rfl ?_
      refine wp_callI rfl rfl rfl (rcv_v f1 f5 (by decide) (by decide)) rfl rfl rfl rfl ?_
      refine CI.mono F (fun y2 h4 F => ?_) (fun _ _ w => rx_V w)
      refine wp_iadd rfl rfl ?_
      refine wp_const rfl rfl ?_
      refine wp_isub rfl rfl ?_
      refine wp_goto rfl rfl ?_
      obtain ⟨f6, F⟩ := F
      refine wp_putI' (L' := [some (vR l0), none]) rfl rfl rfl rfl f1 f6 rfl ?_
      have f7 : gK (pI h4 l0 32 (((10 * (gI h1 l0 32)) + y2) - 48)) l0 = 14 := (gK_pI _ _ _ _ _).trans f6
      replace F := F _ rfl
      generalize pI h4 l0 32 (((10 * (gI h1 l0 32)) + y2) - 48) = h5 at F f7 ⊢
      refine wp_aload rfl rfl rfl ?_
      refine wp_dup rfl rfl rfl ?_
      refine wp_getI rfl rfl rfl f7 rfl ?_
      refine wp_const rfl rfl ?_
      refine wp_iadd rfl rfl ?_
      refine wp_putI rfl rfl rfl f1 f7 rfl ?_
      have f8 : gK (pI h5 l0 28 ((gI h5 l0 28) + 1)) l0 = 14 := (gK_pI _ _ _ _ _).trans f7
      replace F := F _ rfl
      generalize pI h5 l0 28 ((gI h5 l0 28) + 1) = h6 at F f8 ⊢
      refine wp_goto rfl rfl ?_
      exact F
    · replace F := F.2 c
      refine wp_aload' (L' := [some (vR l0), none]) rfl rfl rfl rfl ?_
      refine wp_getI rfl rfl rfl f5 rfl ?_
      refine wp_putI' (L' := [some (vR l0), none]) rfl rfl rfl rfl f1 f5 rfl ?_
      have f9 : gK (pI h1 l0 32 (gI h1 l0 32)) l0 = 14 := (gK_pI _ _ _ _ _).trans f5
      replace F := F _ rfl
      generalize pI h1 l0 32 (gI h1 l0 32) = h7 at F f9 ⊢
      refine wp_aload rfl rfl rfl ?_
      refine wp_dup rfl rfl rfl ?_
      refine wp_getI rfl rfl rfl f9 rfl ?_
      refine wp_const rfl rfl ?_
      refine wp_iadd rfl rfl ?_
      refine wp_putI rfl rfl rfl f1 f9 rfl ?_
      have f10 : gK (pI h7 l0 28 ((gI h7 l0 28) + 1)) l0 = 14 := (gK_pI _ _ _ _ _).trans f9
      replace F := F _ rfl
      generalize pI h7 l0 28 ((gI h7 l0 28) + 1) = h8 at F f10 ⊢
      refine wp_goto rfl rfl ?_
      exact F
theorem w104_135 {d : Nat} {l0 : Nat} {h : aH} {K : aH → Prop} {X : Nat → aH → Prop} (F : gK h l0 = 14 ∧ 8 ≤ l0 ∧ CI d 101 [vR l0, vI (gI h l0 28)] h (fun y0 h0 => CI d 14 [vL (y0.toInt64), vL 97, vL 122] h0 (fun y1 h1 => ((y1.toInt = 0 → gK h1 l0 = 14 ∧ ((8 < ((gI h1 l0 28) - (gI h1 l0 30)).toInt → ∀ h2 : aH, h2 = pI h1 l0 29 1 → K h2) ∧ (¬ 8 < ((gI h1 l0 28) - (gI h1 l0 30)).toInt → ∀ h3 : aH, h3 = pI h1 l0 29 2 → K h3))) ∧ (¬ y1.toInt = 0 → gK h1 l0 = 14 ∧ CI d 101 [vR l0, vI (gI h1 l0 28)] h1 (fun y2 h4 => CL d 102 [vL (gJ h1 l0 31), vI y2] h4 (fun y3 h5 => gK h5 l0 = 14 ∧ ∀ h6 : aH, h6 = pJ h5 l0 31 y3 → ∀ h7 : aH, h7 = pI h6 l0 28 ((gI h6 l0 28) + 1) → Wp (d + 1) 104 (135, [some (vR l0), none], [], h7) (RV K X)) X) X))) X) X) : Wp (d + 1) 104 (135, [some (vR l0), none], [], h) (RV K X) := by
  refine wp_aload' (L' := [some (vR l0), none]) rfl rfl rfl rfl ?_
  refine wp_aload rfl rfl rfl ?_
  obtain ⟨f0, F⟩ := F
  refine wp_getI rfl rfl rfl f0 rfl ?_
  obtain ⟨f1, F⟩ := F
  refine wp_callI rfl rfl rfl (rcv_v f1 f0 (by decide) (by decide)) rfl rfl rfl rfl ?_
  refine CI.mono F (fun y0 h0 F => ?_) (fun _ _ w => rx_V w)
  refine wp_i2l rfl rfl ?_
  refine wp_const rfl rfl ?_
  refine wp_const rfl rfl ?_
  refine wp_callI rfl rfl rfl rfl rfl rfl rfl rfl ?_
  refine CI.mono F (fun y1 h1 F => ?_) (fun _ _ w => rx_V w)
  refine wp_if_eq rfl rfl rfl rfl (fun c => ?_) (fun c => ?_)
  · replace F := F.1 c
    refine wp_aload' (L' := [some (vR l0), none]) rfl rfl rfl rfl ?_
    refine wp_aload rfl rfl rfl ?_
    obtain ⟨f2, F⟩ := F
    refine wp_getI rfl rfl rfl f2 rfl ?_
    refine wp_aload rfl rfl rfl ?_
    refine wp_getI rfl rfl rfl f2 rfl ?_
    refine wp_isub rfl rfl ?_
    refine wp_const rfl rfl ?_
    refine wp_icmp_le (Y := 8) rfl rfl rfl rfl rfl (fun c => ?_) (fun c => ?_)
    · replace F := F.1 c
      refine wp_const rfl rfl ?_
      refine wp_goto rfl rfl ?_
      refine wp_putI' (L' := [none, none]) rfl rfl rfl rfl f1 f2 rfl ?_
      have f3 : gK (pI h1 l0 29 1) l0 = 14 := (gK_pI _ _ _ _ _).trans f2
      replace F := F _ rfl
      generalize pI h1 l0 29 1 = h2 at F f3 ⊢
      refine wp_goto rfl rfl ?_
      exact wp_retV rfl F
    · replace F := F.2 c
      refine wp_const' (L' := [none, none]) rfl rfl rfl ?_
      refine wp_putI' (L' := [none, none]) rfl rfl rfl rfl f1 f2 rfl ?_
      have f4 : gK (pI h1 l0 29 2) l0 = 14 := (gK_pI _ _ _ _ _).trans f2
      replace F := F _ rfl
      generalize pI h1 l0 29 2 = h3 at F f4 ⊢
      refine wp_goto rfl rfl ?_
      exact wp_retV rfl F
  · replace F := F.2 c
    refine wp_aload rfl rfl rfl ?_
    refine wp_aload rfl rfl rfl ?_
    obtain ⟨f5, F⟩ := F
    refine wp_getJ rfl rfl rfl f5 rfl ?_
    refine wp_aload rfl rfl rfl ?_
    refine wp_aload rfl rfl rfl ?_
    refine wp_getI rfl rfl rfl f5 rfl ?_
    refine wp_callI rfl rfl rfl (rcv_v f1 f5 (by decide) (by decide)) rfl rfl rfl rfl ?_
    refine CI.mono F (fun y2 h4 F => ?_) (fun _ _ w => rx_V w)
    refine wp_callL rfl rfl rfl rfl rfl rfl rfl rfl ?_
    refine CL.mono F (fun y3 h5 F => ?_) (fun _ _ w => rx_V w)
    obtain ⟨f6, F⟩ := F
    refine wp_putJ rfl rfl rfl f1 f6 rfl ?_
    have f7 : gK (pJ h5 l0 31 y3) l0 = 14 := (gK_pJ _ _ _ _ _).trans f6
    replace F := F _ rfl
    generalize pJ h5 l0 31 y3 = h6 at F f7 ⊢
    refine wp_aload rfl rfl rfl ?_
    refine wp_dup rfl rfl rfl ?_
    refine wp_getI rfl rfl rfl f7 rfl ?_
    refine wp_const rfl rfl ?_
    refine wp_iadd rfl rfl ?_
    refine wp_putI rfl rfl rfl f1 f7 rfl ?_
    have f8 : gK (pI h6 l0 28 ((gI h6 l0 28) + 1)) l0 = 14 := (gK_pI _ _ _ _ _).trans f7
    replace F := F _ rfl
    generalize pI h6 l0 28 ((gI h6 l0 28) + 1) = h7 at F f8 ⊢
    refine wp_goto rfl rfl ?_
    exact F
-- CensusOfficeModel isKept (J)Z
theorem m105 {d : Nat} {a0 : Int64} {h : aH} {K : Int32 → aH → Prop} {X : Nat → aH → Prop} (F : ((a0.toInt = 6386539 → K 1 h) ∧ (¬ a0.toInt = 6386539 → ((a0.toInt = 7103860 → K 1 h) ∧ (¬ a0.toInt = 7103860 → ((a0.toInt = 1836413812 → K 1 h) ∧ (¬ a0.toInt = 1836413812 → ((a0.toInt = 2002874990 → K 1 h) ∧ (¬ a0.toInt = 2002874990 → ((a0.toInt = 26982 → K 1 h) ∧ (¬ a0.toInt = 26982 → ((a0.toInt = 6385252 → K 1 h) ∧ (¬ a0.toInt = 6385252 → ((a0.toInt = 28530 → K 1 h) ∧ (¬ a0.toInt = 28530 → ((a0.toInt = 7497063 → K 1 h) ∧ (¬ a0.toInt = 7497063 → K 0 h))))))))))))))))) : CI d 105 [vL a0] h K X := by
  show Wp d 105 (0, [some (vL a0), none], [], h) (RI K X)
  refine wp_lload rfl rfl rfl ?_
  refine wp_const rfl rfl ?_
  refine wp_lcmp_eq (Y := 6386539) rfl rfl rfl rfl rfl rfl rfl (fun c => ?_) (fun c => ?_)
  · replace F := F.1 c
    refine wp_const' (L' := [none, none]) rfl rfl rfl ?_
    refine wp_goto rfl rfl ?_
    exact wp_retI rfl (Or.inr rfl) F
  · replace F := F.2 c
    refine wp_lload rfl rfl rfl ?_
    refine wp_const rfl rfl ?_
    refine wp_lcmp_eq (Y := 7103860) rfl rfl rfl rfl rfl rfl rfl (fun c => ?_) (fun c => ?_)
    · replace F := F.1 c
      refine wp_const' (L' := [none, none]) rfl rfl rfl ?_
      refine wp_goto rfl rfl ?_
      exact wp_retI rfl (Or.inr rfl) F
    · replace F := F.2 c
      refine wp_lload rfl rfl rfl ?_
      refine wp_const rfl rfl ?_
      refine wp_lcmp_eq (Y := 1836413812) rfl rfl rfl rfl rfl rfl rfl (fun c => ?_) (fun c => ?_)
      · replace F := F.1 c
        refine wp_const' (L' := [none, none]) rfl rfl rfl ?_
        refine wp_goto rfl rfl ?_
        exact wp_retI rfl (Or.inr rfl) F
      · replace F := F.2 c
        refine wp_lload rfl rfl rfl ?_
        refine wp_const rfl rfl ?_
        refine wp_lcmp_eq (Y := 2002874990) rfl rfl rfl rfl rfl rfl rfl (fun c => ?_) (fun c => ?_)
        · replace F := F.1 c
          refine wp_const' (L' := [none, none]) rfl rfl rfl ?_
          refine wp_goto rfl rfl ?_
          exact wp_retI rfl (Or.inr rfl) F
        · replace F := F.2 c
          refine wp_lload rfl rfl rfl ?_
          refine wp_const rfl rfl ?_
          refine wp_lcmp_eq (Y := 26982) rfl rfl rfl rfl rfl rfl rfl (fun c => ?_) (fun c => ?_)
          · replace F := F.1 c
            refine wp_const' (L' := [none, none]) rfl rfl rfl ?_
            refine wp_goto rfl rfl ?_
            exact wp_retI rfl (Or.inr rfl) F
          · replace F := F.2 c
            refine wp_lload rfl rfl rfl ?_
            refine wp_const rfl rfl ?_
            refine wp_lcmp_eq (Y := 6385252) rfl rfl rfl rfl rfl rfl rfl (fun c => ?_) (fun c => ?_)
            · replace F := F.1 c
              refine wp_const' (L' := [none, none]) rfl rfl rfl ?_
              refine wp_goto rfl rfl ?_
              exact wp_retI rfl (Or.inr rfl) F
            · replace F := F.2 c
              refine wp_lload rfl rfl rfl ?_
              refine wp_const rfl rfl ?_
              refine wp_lcmp_eq (Y := 28530) rfl rfl rfl rfl rfl rfl rfl (fun c => ?_) (fun c => ?_)
              · replace F := F.1 c
                refine wp_const' (L' := [none, none]) rfl rfl rfl ?_
                refine wp_goto rfl rfl ?_
                exact wp_retI rfl (Or.inr rfl) F
              · replace F := F.2 c
                refine wp_lload rfl rfl rfl ?_
                refine wp_const rfl rfl ?_
                refine wp_lcmp_ne (Y := 7497063) rfl rfl rfl rfl rfl rfl rfl (fun c => ?_) (fun c => ?_)
                · replace F := F.1 c
                  refine wp_const' (L' := [none, none]) rfl rfl rfl ?_
                  refine wp_goto rfl rfl ?_
                  exact wp_retI rfl (Or.inr rfl) F
                · replace F := F.2 c
                  refine wp_const' (L' := [none, none]) rfl rfl rfl ?_
                  exact wp_retI rfl (Or.inr rfl) F
-- CensusOfficeModel nameOf (IJ)I
theorem m106 {d : Nat} {a0 : Nat} {a1 : Int32} {a2 : Int64} {h : aH} {K : Int32 → aH → Prop} {X : Nat → aH → Prop} (F : Wp d 106 (3, [some (vR a0), some (vI a1), some (vL a2), none, some (vI 0)], [], h) (RI K X)) : CI d 106 [vR a0, vI a1, vL a2] h K X := by
  show Wp d 106 (0, [some (vR a0), some (vI a1), some (vL a2), none, none], [], h) (RI K X)
  refine wp_const rfl rfl ?_
  refine wp_istore (L2 := [some (vR a0), some (vI a1), some (vL a2), none, some (vI 0)]) rfl rfl rfl rfl ?_
  exact F
theorem w106_3 {d : Nat} {l0 : Nat} {l1 : Int32} {l2 : Int64} {l4 : Int32} {h : aH} {K : Int32 → aH → Prop} {X : Nat → aH → Prop} (F : gK h l0 = 14 ∧ ∃ i0 : Nat, inB h 100 (gR h l0 15) l1 i0 ∧ ((l4.toInt < (gI h (gR h l0 15) i0).toInt → ∃ i1 : Nat, inB h 100 (gR h l0 16) ((20 * l1) + l4) i1 ∧ ((1 < (gI h (gR h l0 16) i1).toInt → ∀ v0 : Int32, v0 = l4 + 1 → Wp d 106 (3, [some (vR l0), some (vI l1), some (vL l2), none, some (vI v0)], [], h) (RI K X)) ∧ (¬ 1 < (gI h (gR h l0 16) i1).toInt → ∃ i2 : Nat, inB h 101 (gR h l0 17) ((20 * l1) + l4) i2 ∧ (((gJ h (gR h l0 17) i2).toInt = l2.toInt → K l4 h) ∧ (¬ (gJ h (gR h l0 17) i2).toInt = l2.toInt → ∀ v1 : Int32, v1 = l4 + 1 → Wp d 106 (3, [some (vR l0), some (vI l1), some (vL l2), none, some (vI v1)], [], h) (RI K X)))))) ∧ (¬ l4.toInt < (gI h (gR h l0 15) i0).toInt → K (-1) h))) : Wp d 106 (3, [some (vR l0), some (vI l1), some (vL l2), none, some (vI l4)], [], h) (RI K X) := by
  refine wp_iload rfl rfl rfl ?_
  refine wp_aload rfl rfl rfl ?_
  obtain ⟨f0, F⟩ := F
  refine wp_getR rfl rfl rfl f0 rfl ?_
  refine wp_iload rfl rfl rfl ?_
  obtain ⟨i0, b9, F⟩ := F
  refine wp_iaload rfl b9 rfl ?_
  refine wp_icmp_ge rfl rfl rfl rfl rfl (fun c => ?_) (fun c => ?_)
  · replace F := F.1 c
    refine wp_aload rfl rfl rfl ?_
    refine wp_getR rfl rfl rfl f0 rfl ?_
    refine wp_const rfl rfl ?_
    refine wp_iload rfl rfl rfl ?_
    refine wp_imul rfl rfl ?_
    refine wp_iload rfl rfl rfl ?_
    refine wp_iadd rfl rfl ?_
    obtain ⟨i1, b9, F⟩ := F
    refine wp_iaload rfl b9 rfl ?_
    refine wp_const rfl rfl ?_
    refine wp_icmp_gt (Y := 1) rfl rfl rfl rfl rfl (fun c => ?_) (fun c => ?_)
    · replace F := F.1 c
      refine wp_iinc (y := 1) (L2 := [some (vR l0), some (vI l1), some (vL l2), none, some (vI (l4 + 1))]) rfl rfl rfl rfl rfl ?_
      replace F := F _ rfl
      generalize (l4 + 1 : Int32) = v0 at F ⊢
      refine wp_goto rfl rfl ?_
      exact F
    · replace F := F.2 c
      refine wp_aload rfl rfl rfl ?_
      refine wp_getR rfl rfl rfl f0 rfl ?_
      refine wp_const rfl rfl ?_
      refine wp_iload rfl rfl rfl ?_
      refine wp_imul rfl rfl ?_
      refine wp_iload rfl rfl rfl ?_
      refine wp_iadd rfl rfl ?_
      obtain ⟨i2, b9, F⟩ := F
      refine wp_laload rfl b9 rfl ?_
      refine wp_lload rfl rfl rfl ?_
      refine wp_lcmp_ne rfl rfl rfl rfl rfl rfl rfl (fun c => ?_) (fun c => ?_)
      · replace F := F.1 c
        refine wp_iload rfl rfl rfl ?_
        exact wp_retI rfl (Or.inl rfl) F
      · replace F := F.2 c
        refine wp_iinc (y := 1) (L2 := [some (vR l0), some (vI l1), some (vL l2), none, some (vI (l4 + 1))]) rfl rfl rfl rfl rfl ?_
        replace F := F _ rfl
        generalize (l4 + 1 : Int32) = v1 at F ⊢
        refine wp_goto rfl rfl ?_
        exact F
  · replace F := F.2 c
    refine wp_const' (L' := [none, none, none, none, none]) rfl rfl rfl ?_
    exact wp_retI rfl (Or.inl rfl) F
-- CensusOfficeModel isBound ()Z
theorem m107 {d : Nat} {a0 : Nat} {h : aH} {K : Int32 → aH → Prop} {X : Nat → aH → Prop} (F : gK h a0 = 14 ∧ (((gI h a0 29).toInt = 4 → (((gI h a0 32).toInt = 4 → Wp (d + 1) 107 (21, [some (vR a0), none], [vI 1], h) (RI K X)) ∧ (¬ (gI h a0 32).toInt = 4 → Wp (d + 1) 107 (21, [some (vR a0), none], [vI 0], h) (RI K X)))) ∧ (¬ (gI h a0 29).toInt = 4 → Wp (d + 1) 107 (21, [some (vR a0), none], [vI 0], h) (RI K X)))) : CI (d + 1) 107 [vR a0] h K X := by
  show Wp (d + 1) 107 (0, [some (vR a0), none], [], h) (RI K X)
  refine wp_aload rfl rfl rfl ?_
  obtain ⟨f0, F⟩ := F
  refine wp_getI rfl rfl rfl f0 rfl ?_
  refine wp_const rfl rfl ?_
  refine wp_icmp_ne (Y := 4) rfl rfl rfl rfl rfl (fun c => ?_) (fun c => ?_)
  · replace F := F.1 c
    refine wp_aload rfl rfl rfl ?_
    refine wp_getI rfl rfl rfl f0 rfl ?_
    refine wp_const rfl rfl ?_
    refine wp_icmp_ne (Y := 4) rfl rfl rfl rfl rfl (fun c => ?_) (fun c => ?_)
    · replace F := F.1 c
      refine wp_const rfl rfl ?_
      refine wp_goto rfl rfl ?_
      exact F
    · replace F := F.2 c
      refine wp_const' (L' := [some (vR a0), none]) rfl rfl rfl ?_
      exact F
  · replace F := F.2 c
    refine wp_const' (L' := [some (vR a0), none]) rfl rfl rfl ?_
    exact F
theorem w107_21 {d : Nat} {l0 : Nat} {s0 : Int32} {h : aH} {K : Int32 → aH → Prop} {X : Nat → aH → Prop} (F : ((s0.toInt = 0 → gK h l0 = 14 ∧ (((gI h l0 29).toInt = 3 → ((s0.toInt = 0 → 8 ≤ l0 ∧ ∀ h0 : aH, h0 = pI h l0 33 (gI h l0 32) → K 1 h0) ∧ (¬ s0.toInt = 0 → 8 ≤ l0 ∧ ∀ h1 : aH, h1 = pI h l0 33 (-(gI h l0 32)) → K 1 h1))) ∧ (¬ (gI h l0 29).toInt = 3 → K 0 h))) ∧ (¬ s0.toInt = 0 → 8 ≤ l0 ∧ gK h l0 = 14 ∧ CV d 104 [vR l0] h (fun h2 => gK h2 l0 = 14 ∧ (((gI h2 l0 29).toInt = 3 → ((s0.toInt = 0 → ∀ h3 : aH, h3 = pI h2 l0 33 (gI h2 l0 32) → K 1 h3) ∧ (¬ s0.toInt = 0 → ∀ h4 : aH, h4 = pI h2 l0 33 (-(gI h2 l0 32)) → K 1 h4))) ∧ (¬ (gI h2 l0 29).toInt = 3 → K 0 h2))) X))) : Wp (d + 1) 107 (21, [some (vR l0), none], [vI s0], h) (RI K X) := by
  refine wp_istore' (L' := [some (vR l0), none]) (L2 := [some (vR l0), some (vI s0)]) rfl rfl rfl rfl rfl ?_
  refine wp_iload rfl rfl rfl ?_
  refine wp_if_eq rfl rfl rfl rfl (fun c => ?_) (fun c => ?_)
  · replace F := F.1 c
    refine wp_aload rfl rfl rfl ?_
    obtain ⟨f0, F⟩ := F
    refine wp_getI rfl rfl rfl f0 rfl ?_
    refine wp_const rfl rfl ?_
    refine wp_icmp_eq (Y := 3) rfl rfl rfl rfl rfl (fun c => ?_) (fun c => ?_)
    · replace F := F.1 c
      refine wp_aload rfl rfl rfl ?_
      refine wp_iload rfl rfl rfl ?_
      refine wp_if_eq rfl rfl rfl rfl (fun c => ?_) (fun c => ?_)
      · replace F := F.1 c
        refine wp_aload' (L' := [some (vR l0), none]) rfl rfl rfl rfl ?_
        refine wp_getI rfl rfl rfl f0 rfl ?_
        obtain ⟨f1, F⟩ := F
        refine wp_putI' (L' := [none, none]) rfl rfl rfl rfl f1 f0 rfl ?_
        have f2 : gK (pI h l0 33 (gI h l0 32)) l0 = 14 := (gK_pI _ _ _ _ _).trans f0
        replace F := F _ rfl
        generalize pI h l0 33 (gI h l0 32) = h0 at F f2 ⊢
        refine wp_const rfl rfl ?_
        exact wp_retI rfl (Or.inr rfl) F
      · replace F := F.2 c
        refine wp_aload rfl rfl rfl ?_
        refine wp_getI rfl rfl rfl f0 rfl ?_
        refine wp_ineg rfl rfl ?_
        refine wp_goto rfl rfl ?_
        obtain ⟨f3, F⟩ := F
        refine wp_putI' (L' := [none, none]) rfl rfl rfl rfl f3 f0 rfl ?_
        have f4 : gK (pI h l0 33 (-(gI h l0 32))) l0 = 14 := (gK_pI _ _ _ _ _).trans f0
        replace F := F _ rfl
        generalize pI h l0 33 (-(gI h l0 32)) = h1 at F f4 ⊢
        refine wp_const rfl rfl ?_
        exact wp_retI rfl (Or.inr rfl) F
    · replace F := F.2 c
      refine wp_const rfl rfl ?_
      exact wp_retI rfl (Or.inr rfl) F
  · replace F := F.2 c
    refine wp_aload rfl rfl rfl ?_
    obtain ⟨f5, F⟩ := F
    obtain ⟨f6, F⟩ := F
    refine wp_callV rfl rfl rfl (rcv_v f5 f6 (by decide) (by decide)) rfl rfl rfl rfl ?_
    refine CV.mono F (fun h2 F => ?_) (fun _ _ w => rx_I w)
    refine wp_aload rfl rfl rfl ?_
    obtain ⟨f7, F⟩ := F
    refine wp_getI rfl rfl rfl f7 rfl ?_
    refine wp_const rfl rfl ?_
    refine wp_icmp_eq (Y := 3) rfl rfl rfl rfl rfl (fun c => ?_) (fun c => ?_)
    · replace F := F.1 c
      refine wp_aload rfl rfl rfl ?_
      refine wp_iload rfl rfl rfl ?_
      refine wp_if_eq rfl rfl rfl rfl (fun c => ?_) (fun c => ?_)
      · replace F := F.1 c
        refine wp_aload' (L' := [some (vR l0), none]) rfl rfl rfl rfl ?_
        refine wp_getI rfl rfl rfl f7 rfl ?_
        refine wp_putI' (L' := [none, none]) rfl rfl rfl rfl f5 f7 rfl ?_
        have f8 : gK (pI h2 l0 33 (gI h2 l0 32)) l0 = 14 := (gK_pI _ _ _ _ _).trans f7
        replace F := F _ rfl
        generalize pI h2 l0 33 (gI h2 l0 32) = h3 at F f8 ⊢
        refine wp_const rfl rfl ?_
        exact wp_retI rfl (Or.inr rfl) F
      · replace F := F.2 c
        refine wp_aload rfl rfl rfl ?_
        refine wp_getI rfl rfl rfl f7 rfl ?_
        refine wp_ineg rfl rfl ?_
        refine wp_goto rfl rfl ?_
        refine wp_putI' (L' := [none, none]) rfl rfl rfl rfl f5 f7 rfl ?_
        have f9 : gK (pI h2 l0 33 (-(gI h2 l0 32))) l0 = 14 := (gK_pI _ _ _ _ _).trans f7
        replace F := F _ rfl
        generalize pI h2 l0 33 (-(gI h2 l0 32)) = h4 at F f9 ⊢
        refine wp_const rfl rfl ?_
        exact wp_retI rfl (Or.inr rfl) F
    · replace F := F.2 c
      refine wp_const rfl rfl ?_
      exact wp_retI rfl (Or.inr rfl) F
-- CensusOfficeModel isBounds (I)Z
theorem m108 {d : Nat} {a0 : Nat} {a1 : Int32} {h : aH} {K : Int32 → aH → Prop} {X : Nat → aH → Prop} (F : 8 ≤ a0 ∧ gK h a0 = 14 ∧ CI d 107 [vR a0] h (fun y0 h0 => ((y0.toInt = 0 → K 0 h0) ∧ (¬ y0.toInt = 0 → gK h0 a0 = 14 ∧ 8 ≤ (gR h0 a0 18) ∧ ∃ i0 : Nat, inB h0 100 (gR h0 a0 18) a1 i0 ∧ ∀ h1 : aH, h1 = pI h0 (gR h0 a0 18) i0 (gI h0 a0 33) → CV d 104 [vR a0] h1 (fun h2 => gK h2 a0 = 14 ∧ ∀ v0 : Int32, v0 = gI h2 a0 30 → CI d 107 [vR a0] h2 (fun y1 h3 => ((y1.toInt = 0 → K 0 h3) ∧ (¬ y1.toInt = 0 → gK h3 a0 = 14 ∧ ∃ i1 : Nat, inB h3 100 (gR h3 a0 18) a1 i1 ∧ (((gI h3 a0 33).toInt < (gI h3 (gR h3 a0 18) i1).toInt → ∀ h4 : aH, h4 = pI h3 a0 30 v0 → K 0 h4) ∧ (¬ (gI h3 a0 33).toInt < (gI h3 (gR h3 a0 18) i1).toInt → 8 ≤ (gR h3 a0 19) ∧ ∃ i2 : Nat, inB h3 100 (gR h3 a0 19) a1 i2 ∧ ∀ h5 : aH, h5 = pI h3 (gR h3 a0 19) i2 (gI h3 a0 33) → CV d 104 [vR a0] h5 (fun h6 => K 1 h6) X))))) X) X))) X) : CI (d + 1) 108 [vR a0, vI a1] h K X := by
  show Wp (d + 1) 108 (0, [some (vR a0), some (vI a1), none], [], h) (RI K X)
  refine wp_aload rfl rfl rfl ?_
  obtain ⟨f0, F⟩ := F
  obtain ⟨f1, F⟩ := F
  refine wp_callI rfl rfl rfl (rcv_v f0 f1 (by decide) (by decide)) rfl rfl rfl rfl ?_
  refine CI.mono F (fun y0 h0 F => ?_) (fun _ _ w => rx_I w)
  refine wp_if_ne rfl rfl rfl rfl (fun c => ?_) (fun c => ?_)
  · replace F := F.1 c
    refine wp_const rfl rfl ?_
    exact wp_retI rfl (Or.inr rfl) F
  · replace F := F.2 c
    refine wp_aload' (L' := [some (vR a0), some (vI a1), none]) rfl rfl rfl rfl ?_
    obtain ⟨f2, F⟩ := F
    refine wp_getR rfl rfl rfl f2 rfl ?_
    refine wp_iload rfl rfl rfl ?_
    refine wp_aload rfl rfl rfl ?_
    refine wp_getI rfl rfl rfl f2 rfl ?_
    obtain ⟨f3, F⟩ := F
    obtain ⟨i0, b9, F⟩ := F
    refine wp_iastore rfl f3 b9 rfl ?_
    have f4 : gK (pI h0 (gR h0 a0 18) i0 (gI h0 a0 33)) a0 = 14 := (gK_pI _ _ _ _ _).trans f2
    replace F := F _ rfl
    generalize pI h0 (gR h0 a0 18) i0 (gI h0 a0 33) = h1 at F f4 ⊢
    refine wp_aload rfl rfl rfl ?_
    refine wp_callV rfl rfl rfl (rcv_v f0 f4 (by decide) (by decide)) rfl rfl rfl rfl ?_
    refine CV.mono F (fun h2 F => ?_) (fun _ _ w => rx_I w)
    refine wp_aload rfl rfl rfl ?_
    obtain ⟨f5, F⟩ := F
    refine wp_getI rfl rfl rfl f5 rfl ?_
    replace F := F _ rfl
    generalize (gI h2 a0 30 : Int32) = v0 at F ⊢
    refine wp_istore (L2 := [some (vR a0), some (vI a1), some (vI v0)]) rfl rfl rfl rfl ?_
    refine wp_aload rfl rfl rfl ?_
    refine wp_callI rfl rfl rfl (rcv_v f0 f5 (by decide) (by decide)) rfl rfl rfl rfl ?_
    refine CI.mono F (fun y1 h3 F => ?_) (fun _ _ w => rx_I w)
    refine wp_if_ne rfl rfl rfl rfl (fun c => ?_) (fun c => ?_)
    · replace F := F.1 c
      refine wp_const rfl rfl ?_
      exact wp_retI rfl (Or.inr rfl) F
    · replace F := F.2 c
      refine wp_aload rfl rfl rfl ?_
      obtain ⟨f6, F⟩ := F
      refine wp_getI rfl rfl rfl f6 rfl ?_
      refine wp_aload rfl rfl rfl ?_
      refine wp_getR rfl rfl rfl f6 rfl ?_
      refine wp_iload rfl rfl rfl ?_
      obtain ⟨i1, b9, F⟩ := F
      refine wp_iaload rfl b9 rfl ?_
      refine wp_icmp_ge rfl rfl rfl rfl rfl (fun c => ?_) (fun c => ?_)
      · replace F := F.1 c
        refine wp_aload rfl rfl rfl ?_
        refine wp_iload rfl rfl rfl ?_
        refine wp_putI rfl rfl rfl f0 f6 rfl ?_
        have f7 : gK (pI h3 a0 30 v0) a0 = 14 := (gK_pI _ _ _ _ _).trans f6
        replace F := F _ rfl
        generalize pI h3 a0 30 v0 = h4 at F f7 ⊢
        refine wp_const rfl rfl ?_
        exact wp_retI rfl (Or.inr rfl) F
      · replace F := F.2 c
        refine wp_aload' (L' := [some (vR a0), some (vI a1), none]) rfl rfl rfl rfl ?_
        refine wp_getR rfl rfl rfl f6 rfl ?_
        refine wp_iload rfl rfl rfl ?_
        refine wp_aload rfl rfl rfl ?_
        refine wp_getI rfl rfl rfl f6 rfl ?_
        obtain ⟨f8, F⟩ := F
        obtain ⟨i2, b9, F⟩ := F
        refine wp_iastore rfl f8 b9 rfl ?_
        have f9 : gK (pI h3 (gR h3 a0 19) i2 (gI h3 a0 33)) a0 = 14 := (gK_pI _ _ _ _ _).trans f6
        replace F := F _ rfl
        generalize pI h3 (gR h3 a0 19) i2 (gI h3 a0 33) = h5 at F f9 ⊢
        refine wp_aload rfl rfl rfl ?_
        refine wp_callV rfl rfl rfl (rcv_v f0 f9 (by decide) (by decide)) rfl rfl rfl rfl ?_
        refine CV.mono F (fun h6 F => ?_) (fun _ _ w => rx_I w)
        refine wp_const rfl rfl ?_
        exact wp_retI rfl (Or.inr rfl) F
-- CensusOfficeModel lay (II)V
theorem m109 {d : Nat} {a0 : Nat} {a1 : Int32} {a2 : Int32} {h : aH} {K : aH → Prop} {X : Nat → aH → Prop} (F : gK h a0 = 14 ∧ 8 ≤ (gR h a0 25) ∧ ∃ i0 : Nat, inB h 100 (gR h a0 25) (gI h a0 27) i0 ∧ ∀ h0 : aH, h0 = pI h (gR h a0 25) i0 a1 → 8 ≤ (gR h0 a0 26) ∧ ∃ i1 : Nat, inB h0 100 (gR h0 a0 26) (gI h0 a0 27) i1 ∧ ∀ h1 : aH, h1 = pI h0 (gR h0 a0 26) i1 a2 → 8 ≤ a0 ∧ ∀ h2 : aH, h2 = pI h1 a0 27 ((gI h1 a0 27) + 1) → K h2) : CV d 109 [vR a0, vI a1, vI a2] h K X := by
  show Wp d 109 (0, [some (vR a0), some (vI a1), some (vI a2)], [], h) (RV K X)
  refine wp_aload rfl rfl rfl ?_
  obtain ⟨f0, F⟩ := F
  refine wp_getR rfl rfl rfl f0 rfl ?_
  refine wp_aload rfl rfl rfl ?_
  refine wp_getI rfl rfl rfl f0 rfl ?_
  refine wp_iload rfl rfl rfl ?_
  obtain ⟨f1, F⟩ := F
  obtain ⟨i0, b9, F⟩ := F
  refine wp_iastore rfl f1 b9 rfl ?_
  have f2 : gK (pI h (gR h a0 25) i0 a1) a0 = 14 := (gK_pI _ _ _ _ _).trans f0
  replace F := F _ rfl
  generalize pI h (gR h a0 25) i0 a1 = h0 at F f2 ⊢
  refine wp_aload rfl rfl rfl ?_
  refine wp_getR rfl rfl rfl f2 rfl ?_
  refine wp_aload rfl rfl rfl ?_
  refine wp_getI rfl rfl rfl f2 rfl ?_
  refine wp_iload rfl rfl rfl ?_
  obtain ⟨f3, F⟩ := F
  obtain ⟨i1, b9, F⟩ := F
  refine wp_iastore rfl f3 b9 rfl ?_
  have f4 : gK (pI h0 (gR h0 a0 26) i1 a2) a0 = 14 := (gK_pI _ _ _ _ _).trans f2
  replace F := F _ rfl
  generalize pI h0 (gR h0 a0 26) i1 a2 = h1 at F f4 ⊢
  refine wp_aload rfl rfl rfl ?_
  refine wp_dup rfl rfl rfl ?_
  refine wp_getI rfl rfl rfl f4 rfl ?_
  refine wp_const rfl rfl ?_
  refine wp_iadd rfl rfl ?_
  obtain ⟨f5, F⟩ := F
  refine wp_putI rfl rfl rfl f5 f4 rfl ?_
  have f6 : gK (pI h1 a0 27 ((gI h1 a0 27) + 1)) a0 = 14 := (gK_pI _ _ _ _ _).trans f4
  replace F := F _ rfl
  generalize pI h1 a0 27 ((gI h1 a0 27) + 1) = h2 at F f6 ⊢
  exact wp_retV rfl F
-- CensusOfficeModel isWord (J)Z
theorem m110 {d : Nat} {a0 : Nat} {a1 : Int64} {h : aH} {K : Int32 → aH → Prop} {X : Nat → aH → Prop} (F : gK h a0 = 14 ∧ (((gI h a0 29).toInt = 2 → (((gJ h a0 31).toInt = a1.toInt → K 1 h) ∧ (¬ (gJ h a0 31).toInt = a1.toInt → K 0 h))) ∧ (¬ (gI h a0 29).toInt = 2 → K 0 h))) : CI d 110 [vR a0, vL a1] h K X := by
  show Wp d 110 (0, [some (vR a0), some (vL a1), none], [], h) (RI K X)
  refine wp_aload rfl rfl rfl ?_
  obtain ⟨f0, F⟩ := F
  refine wp_getI rfl rfl rfl f0 rfl ?_
  refine wp_const rfl rfl ?_
  refine wp_icmp_ne (Y := 2) rfl rfl rfl rfl rfl (fun c => ?_) (fun c => ?_)
  · replace F := F.1 c
    refine wp_aload rfl rfl rfl ?_
    refine wp_getJ rfl rfl rfl f0 rfl ?_
    refine wp_lload rfl rfl rfl ?_
    refine wp_lcmp_ne rfl rfl rfl rfl rfl rfl rfl (fun c => ?_) (fun c => ?_)
    · replace F := F.1 c
      refine wp_const rfl rfl ?_
      refine wp_goto rfl rfl ?_
      exact wp_retI rfl (Or.inr rfl) F
    · replace F := F.2 c
      refine wp_const' (L' := [none, none, none]) rfl rfl rfl ?_
      exact wp_retI rfl (Or.inr rfl) F
  · replace F := F.2 c
    refine wp_const' (L' := [none, none, none]) rfl rfl rfl ?_
    exact wp_retI rfl (Or.inr rfl) F
-- CensusOfficeModel term ()Z
theorem m111 {d : Nat} {a0 : Nat} {h : aH} {K : Int32 → aH → Prop} {X : Nat → aH → Prop} (F : gK h a0 = 14 ∧ (((gI h a0 29).toInt = 3 → 8 ≤ a0 ∧ CV d 109 [vR a0, vI 0, vI (gI h a0 32)] h (fun h0 => gK h0 a0 = 14 ∧ CV d 104 [vR a0] h0 (fun h1 => K 1 h1) X) X) ∧ (¬ (gI h a0 29).toInt = 3 → (((gI h a0 29).toInt = 4 → (((gI h a0 32).toInt = 4 → 8 ≤ a0 ∧ CV d 104 [vR a0] h (fun h2 => gK h2 a0 = 14 ∧ (((gI h2 a0 29).toInt = 3 → CV d 109 [vR a0, vI 0, vI (-(gI h2 a0 32))] h2 (fun h3 => gK h3 a0 = 14 ∧ CV d 104 [vR a0] h3 (fun h4 => K 1 h4) X) X) ∧ (¬ (gI h2 a0 29).toInt = 3 → K 0 h2))) X) ∧ (¬ (gI h a0 32).toInt = 4 → Wp (d + 1) 111 (69, [some (vR a0)], [], h) (RI K X)))) ∧ (¬ (gI h a0 29).toInt = 4 → Wp (d + 1) 111 (69, [some (vR a0)], [], h) (RI K X)))))) : CI (d + 1) 111 [vR a0] h K X := by
  show Wp (d + 1) 111 (0, [some (vR a0)], [], h) (RI K X)
  refine wp_aload rfl rfl rfl ?_
  obtain ⟨f0, F⟩ := F
  refine wp_getI rfl rfl rfl f0 rfl ?_
  refine wp_const rfl rfl ?_
  refine wp_icmp_ne (Y := 3) rfl rfl rfl rfl rfl (fun c => ?_) (fun c => ?_)
  · replace F := F.1 c
    refine wp_aload rfl rfl rfl ?_
    refine wp_const rfl rfl ?_
    refine wp_aload rfl rfl rfl ?_
    refine wp_getI rfl rfl rfl f0 rfl ?_
    obtain ⟨f1, F⟩ := F
    refine wp_callV rfl rfl rfl (rcv_v f1 f0 (by decide) (by decide)) rfl rfl rfl rfl ?_
    refine CV.mono F (fun h0 F => ?_) (fun _ _ w => rx_I w)
    refine wp_aload rfl rfl rfl ?_
    obtain ⟨f2, F⟩ := F
    refine wp_callV rfl rfl rfl (rcv_v f1 f2 (by decide) (by decide)) rfl rfl rfl rfl ?_
    refine CV.mono F (fun h1 F => ?_) (fun _ _ w => rx_I w)
    refine wp_const rfl rfl ?_
    exact wp_retI rfl (Or.inr rfl) F
  · replace F := F.2 c
    refine wp_aload rfl rfl rfl ?_
    refine wp_getI rfl rfl rfl f0 rfl ?_
    refine wp_const rfl rfl ?_
    refine wp_icmp_ne (Y := 4) rfl rfl rfl rfl rfl (fun c => ?_) (fun c => ?_)
    · replace F := F.1 c
      refine wp_aload rfl rfl rfl ?_
      refine wp_getI rfl rfl rfl f0 rfl ?_
      refine wp_const rfl rfl ?_
      refine wp_icmp_ne (Y := 4) rfl rfl rfl rfl rfl (fun c => ?_) (fun c => ?_)
      · replace F := F.1 c
        refine wp_aload rfl rfl rfl ?_
        obtain ⟨f3, F⟩ := F
        refine wp_callV rfl rfl rfl (rcv_v f3 f0 (by decide) (by decide)) rfl rfl rfl rfl ?_
        refine CV.mono F (fun h2 F => ?_) (fun _ _ w => rx_I w)
        refine wp_aload rfl rfl rfl ?_
        obtain ⟨f4, F⟩ := F
        refine wp_getI rfl rfl rfl f4 rfl ?_
        refine wp_const rfl rfl ?_
        refine wp_icmp_eq (Y := 3) rfl rfl rfl rfl rfl (fun c => ?_) (fun c => ?_)
        · replace F := F.1 c
          refine wp_aload rfl rfl rfl ?_
          refine wp_const rfl rfl ?_
          refine wp_aload rfl rfl rfl ?_
          refine wp_getI rfl rfl rfl f4 rfl ?_
          refine wp_ineg rfl rfl ?_
          refine wp_callV rfl rfl rfl (rcv_v f3 f4 (by decide) (by decide)) rfl rfl rfl rfl ?_
          refine CV.mono F (fun h3 F => ?_) (fun _ _ w => rx_I w)
          refine wp_aload rfl rfl rfl ?_
          obtain ⟨f5, F⟩ := F
          refine wp_callV rfl rfl rfl (rcv_v f3 f5 (by decide) (by decide)) rfl rfl rfl rfl ?_
          refine CV.mono F (fun h4 F => ?_) (fun _ _ w => rx_I w)
          refine wp_const rfl rfl ?_
          exact wp_retI rfl (Or.inr rfl) F
        · replace F := F.2 c
          refine wp_const rfl rfl ?_
          exact wp_retI rfl (Or.inr rfl) F
      · replace F := F.2 c
        exact F
    · replace F := F.2 c
      exact F
theorem w111_69 {d : Nat} {l0 : Nat} {h : aH} {K : Int32 → aH → Prop} {X : Nat → aH → Prop} (F : 8 ≤ l0 ∧ gK h l0 = 14 ∧ CI d 110 [vR l0, vL 7497063] h (fun y0 h0 => ((y0.toInt = 0 → gK h0 l0 = 14 ∧ (((gI h0 l0 29).toInt = 2 → CI d 105 [vL (gJ h0 l0 31)] h0 (fun y1 h1 => ((y1.toInt = 0 → gK h1 l0 = 14 ∧ CI d 106 [vR l0, vI (gI h1 l0 14), vL (gJ h1 l0 31)] h1 (fun y2 h2 => ((y2.toInt = (-1) → K 0 h2) ∧ (¬ y2.toInt = (-1) → gK h2 l0 = 14 ∧ CI d 106 [vR l0, vI (gI h2 l0 14), vL (gJ h2 l0 31)] h2 (fun y3 h3 => gK h3 l0 = 14 ∧ CV d 109 [vR l0, vI 1, vI y3] h3 (fun h4 => gK h4 l0 = 14 ∧ CV d 104 [vR l0] h4 (fun h5 => K 1 h5) X) X) X))) X) ∧ (¬ y1.toInt = 0 → K 0 h1))) X) ∧ (¬ (gI h0 l0 29).toInt = 2 → K 0 h0))) ∧ (¬ y0.toInt = 0 → gK h0 l0 = 14 ∧ CV d 104 [vR l0] h0 (fun h6 => gK h6 l0 = 14 ∧ (((gI h6 l0 29).toInt = 3 → ((5 < (gI h6 l0 32).toInt → K 0 h6) ∧ (¬ 5 < (gI h6 l0 32).toInt → CV d 109 [vR l0, vI 2, vI (gI h6 l0 32)] h6 (fun h7 => gK h7 l0 = 14 ∧ CV d 104 [vR l0] h7 (fun h8 => K 1 h8) X) X))) ∧ (¬ (gI h6 l0 29).toInt = 3 → K 0 h6))) X))) X) : Wp (d + 1) 111 (69, [some (vR l0)], [], h) (RI K X) := by
  refine wp_aload rfl rfl rfl ?_
  refine wp_const rfl rfl ?_
  obtain ⟨f0, F⟩ := F
  obtain ⟨f1, F⟩ := F
  refine wp_callI rfl rfl rfl (rcv_v f0 f1 (by decide) (by decide)) rfl rfl rfl rfl ?_
  refine CI.mono F (fun y0 h0 F => ?_) (fun _ _ w => rx_I w)
  refine wp_if_eq rfl rfl rfl rfl (fun c => ?_) (fun c => ?_)
  · replace F := F.1 c
    refine wp_aload rfl rfl rfl ?_
    obtain ⟨f2, F⟩ := F
    refine wp_getI rfl rfl rfl f2 rfl ?_
    refine wp_const rfl rfl ?_
    refine wp_icmp_ne (Y := 2) rfl rfl rfl rfl rfl (fun c => ?_) (fun c => ?_)
    · replace F := F.1 c
      refine wp_aload rfl rfl rfl ?_
      refine wp_getJ rfl rfl rfl f2 rfl ?_
      refine wp_callI rfl rfl rfl rfl rfl rfl rfl rfl ?_
      refine CI.mono F (fun y1 h1 F => ?_) (fun _ _ w => rx_I w)
      refine wp_if_ne rfl rfl rfl rfl (fun c => ?_) (fun c => ?_)
      · replace F := F.1 c
        refine wp_aload rfl rfl rfl ?_
        refine wp_aload rfl rfl rfl ?_
        obtain ⟨f3, F⟩ := F
        refine wp_getI rfl rfl rfl f3 rfl ?_
        refine wp_aload rfl rfl rfl ?_
        refine wp_getJ rfl rfl rfl f3 rfl ?_
        refine wp_callI rfl rfl rfl (rcv_v f0 f3 (by decide) (by decide)) rfl rfl rfl rfl ?_
        refine CI.mono F (fun y2 h2 F => ?_) (fun _ _ w => rx_I w)
        refine wp_const rfl rfl ?_
        refine wp_icmp_ne (Y := (-1)) rfl rfl rfl rfl rfl (fun c => ?_) (fun c => ?_)
        · replace F := F.1 c
          refine wp_const' (L' := [none]) rfl rfl rfl ?_
          exact wp_retI rfl (Or.inr rfl) F
        · replace F := F.2 c
          refine wp_aload rfl rfl rfl ?_
          refine wp_const rfl rfl ?_
          refine wp_aload rfl rfl rfl ?_
          refine wp_aload rfl rfl rfl ?_
          obtain ⟨f4, F⟩ := F
          refine wp_getI rfl rfl rfl f4 rfl ?_
          refine wp_aload rfl rfl rfl ?_
          refine wp_getJ rfl rfl rfl f4 rfl ?_
          refine wp_callI rfl rfl rfl (rcv_v f0 f4 (by decide) (by decide)) rfl rfl rfl rfl ?_
          refine CI.mono F (fun y3 h3 F => ?_) (fun _ _ w => rx_I w)
          obtain ⟨f5, F⟩ := F
          refine wp_callV rfl rfl rfl (rcv_v f0 f5 (by decide) (by decide)) rfl rfl rfl rfl ?_
          refine CV.mono F (fun h4 F => ?_) (fun _ _ w => rx_I w)
          refine wp_aload rfl rfl rfl ?_
          obtain ⟨f6, F⟩ := F
          refine wp_callV rfl rfl rfl (rcv_v f0 f6 (by decide) (by decide)) rfl rfl rfl rfl ?_
          refine CV.mono F (fun h5 F => ?_) (fun _ _ w => rx_I w)
          refine wp_const rfl rfl ?_
          exact wp_retI rfl (Or.inr rfl) F
      · replace F := F.2 c
        refine wp_const' (L' := [none]) rfl rfl rfl ?_
        exact wp_retI rfl (Or.inr rfl) F
    · replace F := F.2 c
      refine wp_const' (L' := [none]) rfl rfl rfl ?_
      exact wp_retI rfl (Or.inr rfl) F
  · replace F := F.2 c
    refine wp_aload rfl rfl rfl ?_
    obtain ⟨f7, F⟩ := F
    refine wp_callV rfl rfl rfl (rcv_v f0 f7 (by decide) (by decide)) rfl rfl rfl rfl ?_
    refine CV.mono F (fun h6 F => ?_) (fun _ _ w => rx_I w)
    refine wp_aload rfl rfl rfl ?_
    obtain ⟨f8, F⟩ := F
    refine wp_getI rfl rfl rfl f8 rfl ?_
    refine wp_const rfl rfl ?_
    refine wp_icmp_ne (Y := 3) rfl rfl rfl rfl rfl (fun c => ?_) (fun c => ?_)
    · replace F := F.1 c
      refine wp_aload rfl rfl rfl ?_
      refine wp_getI rfl rfl rfl f8 rfl ?_
      refine wp_const rfl rfl ?_
      refine wp_icmp_le (Y := 5) rfl rfl rfl rfl rfl (fun c => ?_) (fun c => ?_)
      · replace F := F.1 c
        refine wp_const' (L' := [none]) rfl rfl rfl ?_
        exact wp_retI rfl (Or.inr rfl) F
      · replace F := F.2 c
        refine wp_aload rfl rfl rfl ?_
        refine wp_const rfl rfl ?_
        refine wp_aload rfl rfl rfl ?_
        refine wp_getI rfl rfl rfl f8 rfl ?_
        refine wp_callV rfl rfl rfl (rcv_v f0 f8 (by decide) (by decide)) rfl rfl rfl rfl ?_
        refine CV.mono F (fun h7 F => ?_) (fun _ _ w => rx_I w)
        refine wp_aload rfl rfl rfl ?_
        obtain ⟨f9, F⟩ := F
        refine wp_callV rfl rfl rfl (rcv_v f0 f9 (by decide) (by decide)) rfl rfl rfl rfl ?_
        refine CV.mono F (fun h8 F => ?_) (fun _ _ w => rx_I w)
        refine wp_const rfl rfl ?_
        exact wp_retI rfl (Or.inr rfl) F
    · replace F := F.2 c
      refine wp_const' (L' := [none]) rfl rfl rfl ?_
      exact wp_retI rfl (Or.inr rfl) F
-- CensusOfficeModel expr ()Z
theorem m112 {d : Nat} {a0 : Nat} {h : aH} {K : Int32 → aH → Prop} {X : Nat → aH → Prop} (F : 8 ≤ a0 ∧ gK h a0 = 14 ∧ CI d 111 [vR a0] h (fun y0 h0 => ((y0.toInt = 0 → K 0 h0) ∧ (¬ y0.toInt = 0 → Wp (d + 1) 112 (9, [some (vR a0)], [], h0) (RI K X)))) X) : CI (d + 1) 112 [vR a0] h K X := by
  show Wp (d + 1) 112 (0, [some (vR a0)], [], h) (RI K X)
  refine wp_aload rfl rfl rfl ?_
  obtain ⟨f0, F⟩ := F
  obtain ⟨f1, F⟩ := F
  refine wp_callI rfl rfl rfl (rcv_v f0 f1 (by decide) (by decide)) rfl rfl rfl rfl ?_
  refine CI.mono F (fun y0 h0 F => ?_) (fun _ _ w => rx_I w)
  refine wp_if_ne rfl rfl rfl rfl (fun c => ?_) (fun c => ?_)
  · replace F := F.1 c
    refine wp_const rfl rfl ?_
    exact wp_retI rfl (Or.inr rfl) F
  · replace F := F.2 c
    exact F
theorem w112_9 {d : Nat} {l0 : Nat} {h : aH} {K : Int32 → aH → Prop} {X : Nat → aH → Prop} (F : gK h l0 = 14 ∧ (((gI h l0 29).toInt = 4 → 8 ≤ l0 ∧ CV d 109 [vR l0, vI (gI h l0 32), vI 0] h (fun h0 => gK h0 l0 = 14 ∧ CV d 104 [vR l0] h0 (fun h1 => gK h1 l0 = 14 ∧ CI d 111 [vR l0] h1 (fun y0 h2 => ((y0.toInt = 0 → K 0 h2) ∧ (¬ y0.toInt = 0 → Wp (d + 1) 112 (9, [some (vR l0)], [], h2) (RI K X)))) X) X) X) ∧ (¬ (gI h l0 29).toInt = 4 → K 1 h))) : Wp (d + 1) 112 (9, [some (vR l0)], [], h) (RI K X) := by
  refine wp_aload rfl rfl rfl ?_
  obtain ⟨f0, F⟩ := F
  refine wp_getI rfl rfl rfl f0 rfl ?_
  refine wp_const rfl rfl ?_
  refine wp_icmp_ne (Y := 4) rfl rfl rfl rfl rfl (fun c => ?_) (fun c => ?_)
  · replace F := F.1 c
    refine wp_aload rfl rfl rfl ?_
    refine wp_aload rfl rfl rfl ?_
    refine wp_getI rfl rfl rfl f0 rfl ?_
    refine wp_const rfl rfl ?_
    obtain ⟨f1, F⟩ := F
    refine wp_callV rfl rfl rfl (rcv_v f1 f0 (by decide) (by decide)) rfl rfl rfl rfl ?_
    refine CV.mono F (fun h0 F => ?_) (fun _ _ w => rx_I w)
    refine wp_aload rfl rfl rfl ?_
    obtain ⟨f2, F⟩ := F
    refine wp_callV rfl rfl rfl (rcv_v f1 f2 (by decide) (by decide)) rfl rfl rfl rfl ?_
    refine CV.mono F (fun h1 F => ?_) (fun _ _ w => rx_I w)
    refine wp_aload rfl rfl rfl ?_
    obtain ⟨f3, F⟩ := F
    refine wp_callI rfl rfl rfl (rcv_v f1 f3 (by decide) (by decide)) rfl rfl rfl rfl ?_
    refine CI.mono F (fun y0 h2 F => ?_) (fun _ _ w => rx_I w)
    refine wp_if_ne rfl rfl rfl rfl (fun c => ?_) (fun c => ?_)
    · replace F := F.1 c
      refine wp_const rfl rfl ?_
      exact wp_retI rfl (Or.inr rfl) F
    · replace F := F.2 c
      exact F
  · replace F := F.2 c
    refine wp_const' (L' := [none]) rfl rfl rfl ?_
    exact wp_retI rfl (Or.inr rfl) F
-- CensusOfficeModel cond ()Z
theorem m113 {d : Nat} {a0 : Nat} {h : aH} {K : Int32 → aH → Prop} {X : Nat → aH → Prop} (F : Wp (d + 1) 113 (2, [some (vR a0), some (vI 1)], [], h) (RI K X)) : CI (d + 1) 113 [vR a0] h K X := by
  show Wp (d + 1) 113 (0, [some (vR a0), none], [], h) (RI K X)
  refine wp_const rfl rfl ?_
  refine wp_istore (L2 := [some (vR a0), some (vI 1)]) rfl rfl rfl rfl ?_
  exact F
theorem w113_2 {d : Nat} {l0 : Nat} {l1 : Int32} {h : aH} {K : Int32 → aH → Prop} {X : Nat → aH → Prop} (F : ((l1.toInt = 0 → K 1 h) ∧ (¬ l1.toInt = 0 → 8 ≤ l0 ∧ gK h l0 = 14 ∧ CI d 112 [vR l0] h (fun y0 h0 => ((y0.toInt = 0 → K 0 h0) ∧ (¬ y0.toInt = 0 → gK h0 l0 = 14 ∧ (((gI h0 l0 29).toInt = 5 → CV d 109 [vR l0, vI (gI h0 l0 32), vI 0] h0 (fun h1 => gK h1 l0 = 14 ∧ CV d 104 [vR l0] h1 (fun h2 => gK h2 l0 = 14 ∧ CI d 112 [vR l0] h2 (fun y1 h3 => ((y1.toInt = 0 → K 0 h3) ∧ (¬ y1.toInt = 0 → gK h3 l0 = 14 ∧ CI d 110 [vR l0, vL 6385252] h3 (fun y2 h4 => ((y2.toInt = 0 → gK h4 l0 = 14 ∧ CI d 110 [vR l0, vL 28530] h4 (fun y3 h5 => ((y3.toInt = 0 → Wp (d + 1) 113 (70, [some (vR l0), none], [vI 0], h5) (RI K X)) ∧ (¬ y3.toInt = 0 → Wp (d + 1) 113 (70, [some (vR l0), none], [vI 1], h5) (RI K X)))) X) ∧ (¬ y2.toInt = 0 → Wp (d + 1) 113 (70, [some (vR l0), none], [vI 1], h4) (RI K X)))) X))) X) X) X) ∧ (¬ (gI h0 l0 29).toInt = 5 → K 0 h0))))) X))) : Wp (d + 1) 113 (2, [some (vR l0), some (vI l1)], [], h) (RI K X) := by
  refine wp_iload rfl rfl rfl ?_
  refine wp_if_eq rfl rfl rfl rfl (fun c => ?_) (fun c => ?_)
  · replace F := F.1 c
    refine wp_const' (L' := [none, none]) rfl rfl rfl ?_
    exact wp_retI rfl (Or.inr rfl) F
  · replace F := F.2 c
    refine wp_aload rfl rfl rfl ?_
    obtain ⟨f0, F⟩ := F
    obtain ⟨f1, F⟩ := F
    refine wp_callI rfl rfl rfl (rcv_v f0 f1 (by decide) (by decide)) rfl rfl rfl rfl ?_
    refine CI.mono F (fun y0 h0 F => ?_) (fun _ _ w => rx_I w)
    refine wp_if_eq rfl rfl rfl rfl (fun c => ?_) (fun c => ?_)
    · replace F := F.1 c
      refine wp_const' (L' := [none, none]) rfl rfl rfl ?_
      exact wp_retI rfl (Or.inr rfl) F
    · replace F := F.2 c
      refine wp_aload rfl rfl rfl ?_
      obtain ⟨f2, F⟩ := F
      refine wp_getI rfl rfl rfl f2 rfl ?_
      refine wp_const rfl rfl ?_
      refine wp_icmp_eq (Y := 5) rfl rfl rfl rfl rfl (fun c => ?_) (fun c => ?_)
      · replace F := F.1 c
        refine wp_aload' (L' := [some (vR l0), none]) rfl rfl rfl rfl ?_
        refine wp_aload rfl rfl rfl ?_
        refine wp_getI rfl rfl rfl f2 rfl ?_
        refine wp_const rfl rfl ?_
        refine wp_callV rfl rfl rfl (rcv_v f0 f2 (by decide) (by decide)) rfl rfl rfl rfl ?_
        refine CV.mono F (fun h1 F => ?_) (fun _ _ w => rx_I w)
        refine wp_aload rfl rfl rfl ?_
        obtain ⟨f3, F⟩ := F
        refine wp_callV rfl rfl rfl (rcv_v f0 f3 (by decide) (by decide)) rfl rfl rfl rfl ?_
        refine CV.mono F (fun h2 F => ?_) (fun _ _ w => rx_I w)
        refine wp_aload rfl rfl rfl ?_
        obtain ⟨f4, F⟩ := F
        refine wp_callI rfl rfl rfl (rcv_v f0 f4 (by decide) (by decide)) rfl rfl rfl rfl ?_
        refine CI.mono F (fun y1 h3 F => ?_) (fun _ _ w => rx_I w)
        refine wp_if_ne rfl rfl rfl rfl (fun c => ?_) (fun c => ?_)
        · replace F := F.1 c
          refine wp_const rfl rfl ?_
          exact wp_retI rfl (Or.inr rfl) F
        · replace F := F.2 c
          refine wp_aload' (L' := [some (vR l0), none]) rfl rfl rfl rfl ?_
          refine wp_const rfl rfl ?_
          obtain ⟨f5, F⟩ := F
          refine wp_callI rfl rfl rfl (rcv_v f0 f5 (by decide) (by decide)) rfl rfl rfl rfl ?_
          refine CI.mono F (fun y2 h4 F => ?_) (fun _ _ w => rx_I w)
          refine wp_if_ne rfl rfl rfl rfl (fun c => ?_) (fun c => ?_)
          · replace F := F.1 c
            refine wp_aload rfl rfl rfl ?_
            refine wp_const rfl rfl ?_
            obtain ⟨f6, F⟩ := F
            refine wp_callI rfl rfl rfl (rcv_v f0 f6 (by decide) (by decide)) rfl rfl rfl rfl ?_
            refine CI.mono F (fun y3 h5 F => ?_) (fun _ _ w => rx_I w)
            refine wp_if_eq rfl rfl rfl rfl (fun c => ?_) (fun c => ?_)
            · replace F := F.1 c
              refine wp_const' (L' := [some (vR l0), none]) rfl rfl rfl ?_
              exact F
            · replace F := F.2 c
              refine wp_const' (L' := [some (vR l0), none]) rfl rfl rfl ?_
              refine wp_goto rfl rfl ?_
              exact F
          · replace F := F.2 c
            refine wp_const' (L' := [some (vR l0), none]) rfl rfl rfl ?_
            refine wp_goto rfl rfl ?_
            exact F
      · replace F := F.2 c
        refine wp_const' (L' := [none, none]) rfl rfl rfl ?_
        exact wp_retI rfl (Or.inr rfl) F
theorem w113_70 {d : Nat} {l0 : Nat} {s0 : Int32} {h : aH} {K : Int32 → aH → Prop} {X : Nat → aH → Prop} (F : ((s0.toInt = 0 → Wp (d + 1) 113 (2, [some (vR l0), some (vI s0)], [], h) (RI K X)) ∧ (¬ s0.toInt = 0 → gK h l0 = 14 ∧ (((gJ h l0 31).toInt = 6385252 → 8 ≤ l0 ∧ CV d 109 [vR l0, vI 11, vI 0] h (fun h0 => gK h0 l0 = 14 ∧ CV d 104 [vR l0] h0 (fun h1 => Wp (d + 1) 113 (2, [some (vR l0), some (vI s0)], [], h1) (RI K X)) X) X) ∧ (¬ (gJ h l0 31).toInt = 6385252 → 8 ≤ l0 ∧ CV d 109 [vR l0, vI 12, vI 0] h (fun h2 => gK h2 l0 = 14 ∧ CV d 104 [vR l0] h2 (fun h3 => Wp (d + 1) 113 (2, [some (vR l0), some (vI s0)], [], h3) (RI K X)) X) X))))) : Wp (d + 1) 113 (70, [some (vR l0), none], [vI s0], h) (RI K X) := by
  refine wp_istore' (L' := [some (vR l0), none]) (L2 := [some (vR l0), some (vI s0)]) rfl rfl rfl rfl rfl ?_
  refine wp_iload rfl rfl rfl ?_
  refine wp_if_eq rfl rfl rfl rfl (fun c => ?_) (fun c => ?_)
  · replace F := F.1 c
    exact F
  · replace F := F.2 c
    refine wp_aload rfl rfl rfl ?_
    refine wp_aload rfl rfl rfl ?_
    obtain ⟨f0, F⟩ := F
    refine wp_getJ rfl rfl rfl f0 rfl ?_
    refine wp_const rfl rfl ?_
    refine wp_lcmp_ne (Y := 6385252) rfl rfl rfl rfl rfl rfl rfl (fun c => ?_) (fun c => ?_)
    · replace F := F.1 c
      refine wp_const rfl rfl ?_
      refine wp_goto rfl rfl ?_
      refine wp_const rfl rfl ?_
      obtain ⟨f1, F⟩ := F
      refine wp_callV rfl rfl rfl (rcv_v f1 f0 (by decide) (by decide)) rfl rfl rfl rfl ?_
      refine CV.mono F (fun h0 F => ?_) (fun _ _ w => rx_I w)
      refine wp_aload rfl rfl rfl ?_
      obtain ⟨f2, F⟩ := F
      refine wp_callV rfl rfl rfl (rcv_v f1 f2 (by decide) (by decide)) rfl rfl rfl rfl ?_
      refine CV.mono F (fun h1 F => ?_) (fun _ _ w => rx_I w)
      refine wp_goto rfl rfl ?_
      exact F
    · replace F := F.2 c
      refine wp_const rfl rfl ?_
      refine wp_const rfl rfl ?_
      obtain ⟨f3, F⟩ := F
      refine wp_callV rfl rfl rfl (rcv_v f3 f0 (by decide) (by decide)) rfl rfl rfl rfl ?_
      refine CV.mono F (fun h2 F => ?_) (fun _ _ w => rx_I w)
      refine wp_aload rfl rfl rfl ?_
      obtain ⟨f4, F⟩ := F
      refine wp_callV rfl rfl rfl (rcv_v f3 f4 (by decide) (by decide)) rfl rfl rfl rfl ?_
      refine CV.mono F (fun h3 F => ?_) (fun _ _ w => rx_I w)
      refine wp_goto rfl rfl ?_
      exact F
-- CensusOfficeModel isStatement ()Z
theorem m114 {d : Nat} {a0 : Nat} {h : aH} {K : Int32 → aH → Prop} {X : Nat → aH → Prop} (F : gK h a0 = 14 ∧ (((gI h a0 29).toInt = 2 → ∃ i0 : Nat, inB h 100 (gR h a0 15) (gI h a0 14) i0 ∧ (((gI h (gR h a0 15) i0).toInt = 20 → K 0 h) ∧ (¬ (gI h (gR h a0 15) i0).toInt = 20 → ∃ i1 : Nat, inB h 100 (gR h a0 15) (gI h a0 14) i1 ∧ ∀ v0 : Int32, v0 = (20 * (gI h a0 14)) + (gI h (gR h a0 15) i1) → (((gJ h a0 31).toInt = 6386539 → Wp (d + 1) 114 (109, [some (vR a0), some (vI v0), some (vI 0), some (vI 0), some (vI 0)], [], h) (RI K X)) ∧ (¬ (gJ h a0 31).toInt = 6386539 → (((gJ h a0 31).toInt = 7103860 → Wp (d + 1) 114 (109, [some (vR a0), some (vI v0), some (vI 1), some (vI 0), some (vI 0)], [], h) (RI K X)) ∧ (¬ (gJ h a0 31).toInt = 7103860 → (((gJ h a0 31).toInt = 1836413812 → Wp (d + 1) 114 (109, [some (vR a0), some (vI v0), some (vI 2), some (vI 0), some (vI 0)], [], h) (RI K X)) ∧ (¬ (gJ h a0 31).toInt = 1836413812 → (((gJ h a0 31).toInt = 2002874990 → Wp (d + 1) 114 (109, [some (vR a0), some (vI v0), some (vI 3), some (vI 0), some (vI 0)], [], h) (RI K X)) ∧ (¬ (gJ h a0 31).toInt = 2002874990 → Wp (d + 1) 114 (109, [some (vR a0), some (vI v0), some (vI (-1)), some (vI 0), some (vI 0)], [], h) (RI K X)))))))))))) ∧ (¬ (gI h a0 29).toInt = 2 → K 0 h))) : CI (d + 1) 114 [vR a0] h K X := by
  show Wp (d + 1) 114 (0, [some (vR a0), none, none, none, none], [], h) (RI K X)
  refine wp_aload rfl rfl rfl ?_
  obtain ⟨f0, F⟩ := F
  refine wp_getI rfl rfl rfl f0 rfl ?_
  refine wp_const rfl rfl ?_
  refine wp_icmp_ne (Y := 2) rfl rfl rfl rfl rfl (fun c => ?_) (fun c => ?_)
  · replace F := F.1 c
    refine wp_aload rfl rfl rfl ?_
    refine wp_getR rfl rfl rfl f0 rfl ?_
    refine wp_aload rfl rfl rfl ?_
    refine wp_getI rfl rfl rfl f0 rfl ?_
    obtain ⟨i0, b9, F⟩ := F
    refine wp_iaload rfl b9 rfl ?_
    refine wp_const rfl rfl ?_
    refine wp_icmp_ne (Y := 20) rfl rfl rfl rfl rfl (fun c => ?_) (fun c => ?_)
    · replace F := F.1 c
      refine wp_const' (L' := [none, none, none, none, none]) rfl rfl rfl ?_
      exact wp_retI rfl (Or.inr rfl) F
    · replace F := F.2 c
      refine wp_const' (L' := [some (vR a0), none, none, none, none]) rfl rfl rfl ?_
      refine wp_aload rfl rfl rfl ?_
      refine wp_getI rfl rfl rfl f0 rfl ?_
      refine wp_imul rfl rfl ?_
      refine wp_aload rfl rfl rfl ?_
      refine wp_getR rfl rfl rfl f0 rfl ?_
      refine wp_aload rfl rfl rfl ?_
      refine wp_getI rfl rfl rfl f0 rfl ?_
      obtain ⟨i1, b9, F⟩ := F
      refine wp_iaload rfl b9 rfl ?_
      refine wp_iadd rfl rfl ?_
      replace F := F _ rfl
      generalize ((20 * (gI h a0 14)) + (gI h (gR h a0 15) i1) : Int32) = v0 at F ⊢
      refine wp_istore (L2 := [some (vR a0), some (vI v0), none, none, none]) rfl rfl rfl rfl ?_
      refine wp_aload rfl rfl rfl ?_
      refine wp_getJ rfl rfl rfl f0 rfl ?_
      refine wp_const rfl rfl ?_
      refine wp_lcmp_ne (Y := 6386539) rfl rfl rfl rfl rfl rfl rfl (fun c => ?_) (fun c => ?_)
      · replace F := F.1 c
        refine wp_const rfl rfl ?_
        refine wp_goto rfl rfl ?_
        refine wp_istore' (L' := [some (vR a0), some (vI v0), none, none, none]) (L2 := [some (vR a0), some (vI v0), some (vI 0), none, none]) rfl rfl rfl rfl rfl ?_
        refine wp_const rfl rfl ?_
        refine wp_istore (L2 := [some (vR a0), some (vI v0), some (vI 0), some (vI 0), none]) rfl rfl rfl rfl ?_
        refine wp_const rfl rfl ?_
        refine wp_istore (L2 := [some (vR a0), some (vI v0), some (vI 0), some (vI 0), some (vI 0)]) rfl rfl rfl rfl ?_
        exact F
      · replace F := F.2 c
        refine wp_aload' (L' := [some (vR a0), some (vI v0), none, none, none]) rfl rfl rfl rfl ?_
        refine wp_getJ rfl rfl rfl f0 rfl ?_
        refine wp_const rfl rfl ?_
        refine wp_lcmp_ne (Y := 7103860) rfl rfl rfl rfl rfl rfl rfl (fun c => ?_) (fun c => ?_)
        · replace F := F.1 c
          refine wp_const rfl rfl ?_
          refine wp_goto rfl rfl ?_
          refine wp_istore' (L' := [some (vR a0), some (vI v0), none, none, none]) (L2 := [some (vR a0), some (vI v0), some (vI 1), none, none]) rfl rfl rfl rfl rfl ?_
          refine wp_const rfl rfl ?_
          refine wp_istore (L2 := [some (vR a0), some (vI v0), some (vI 1), some (vI 0), none]) rfl rfl rfl rfl ?_
          refine wp_const rfl rfl ?_
          refine wp_istore (L2 := [some (vR a0), some (vI v0), some (vI 1), some (vI 0), some (vI 0)]) rfl rfl rfl rfl ?_
          exact F
        · replace F := F.2 c
          refine wp_aload' (L' := [some (vR a0), some (vI v0), none, none, none]) rfl rfl rfl rfl ?_
          refine wp_getJ rfl rfl rfl f0 rfl ?_
          refine wp_const rfl rfl ?_
          refine wp_lcmp_ne (Y := 1836413812) rfl rfl rfl rfl rfl rfl rfl (fun c => ?_) (fun c => ?_)
          · replace F := F.1 c
            refine wp_const rfl rfl ?_
            refine wp_goto rfl rfl ?_
            refine wp_istore' (L' := [some (vR a0), some (vI v0), none, none, none]) (L2 := [some (vR a0), some (vI v0), some (vI 2), none, none]) rfl rfl rfl rfl rfl ?_
            refine wp_const rfl rfl ?_
            refine wp_istore (L2 := [some (vR a0), some (vI v0), some (vI 2), some (vI 0), none]) rfl rfl rfl rfl ?_
            refine wp_const rfl rfl ?_
            refine wp_istore (L2 := [some (vR a0), some (vI v0), some (vI 2), some (vI 0), some (vI 0)]) rfl rfl rfl rfl ?_
            exact F
          · replace F := F.2 c
            refine wp_aload' (L' := [some (vR a0), some (vI v0), none, none, none]) rfl rfl rfl rfl ?_
            refine wp_getJ rfl rfl rfl f0 rfl ?_
            refine wp_const rfl rfl ?_
            refine wp_lcmp_ne (Y := 2002874990) rfl rfl rfl rfl rfl rfl rfl (fun c => ?_) (fun c => ?_)
            · replace F := F.1 c
              refine wp_const rfl rfl ?_
              refine wp_goto rfl rfl ?_
              refine wp_istore' (L' := [some (vR a0), some (vI v0), none, none, none]) (L2 := [some (vR a0), some (vI v0), some (vI 3), none, none]) rfl rfl rfl rfl rfl ?_
              refine wp_const rfl rfl ?_
              refine wp_istore (L2 := [some (vR a0), some (vI v0), some (vI 3), some (vI 0), none]) rfl rfl rfl rfl ?_
              refine wp_const rfl rfl ?_
              refine wp_istore (L2 := [some (vR a0), some (vI v0), some (vI 3), some (vI 0), some (vI 0)]) rfl rfl rfl rfl ?_
              exact F
            · replace F := F.2 c
              refine wp_const' (L' := [some (vR a0), some (vI v0), none, none, none]) rfl rfl rfl ?_
              refine wp_istore' (L' := [some (vR a0), some (vI v0), none, none, none]) (L2 := [some (vR a0), some (vI v0), some (vI (-1)), none, none]) rfl rfl rfl rfl rfl ?_
              refine wp_const rfl rfl ?_
              refine wp_istore (L2 := [some (vR a0), some (vI v0), some (vI (-1)), some (vI 0), none]) rfl rfl rfl rfl ?_
              refine wp_const rfl rfl ?_
              refine wp_istore (L2 := [some (vR a0), some (vI v0), some (vI (-1)), some (vI 0), some (vI 0)]) rfl rfl rfl rfl ?_
              exact F
  · replace F := F.2 c
    refine wp_const' (L' := [none, none, none, none, none]) rfl rfl rfl ?_
    exact wp_retI rfl (Or.inr rfl) F
theorem w114_109 {d : Nat} {l0 : Nat} {l1 : Int32} {l2 : Int32} {l3 : Int32} {l4 : Int32} {h : aH} {K : Int32 → aH → Prop} {X : Nat → aH → Prop} (F : gK h l0 = 14 ∧ ∃ i0 : Nat, inB h 100 (gR h l0 15) (gI h l0 14) i0 ∧ ((l4.toInt < (gI h (gR h l0 15) i0).toInt → ∃ i1 : Nat, inB h 100 (gR h l0 16) ((20 * (gI h l0 14)) + l4) i1 ∧ (((gI h (gR h l0 16) i1).toInt = 0 → ∀ v0 : Int32, v0 = l3 + 1 → ∀ v1 : Int32, v1 = l4 + 1 → Wp (d + 1) 114 (109, [some (vR l0), some (vI l1), some (vI l2), some (vI v0), some (vI v1)], [], h) (RI K X)) ∧ (¬ (gI h (gR h l0 16) i1).toInt = 0 → ∀ v2 : Int32, v2 = l3 + 0 → ∀ v3 : Int32, v3 = l4 + 1 → Wp (d + 1) 114 (109, [some (vR l0), some (vI l1), some (vI l2), some (vI v2), some (vI v3)], [], h) (RI K X)))) ∧ (¬ l4.toInt < (gI h (gR h l0 15) i0).toInt → ((l2.toInt = (-1) → K 0 h) ∧ (¬ l2.toInt = (-1) → ((l2.toInt = 0 → ((l3.toInt = 10 → K 0 h) ∧ (¬ l3.toInt = 10 → 8 ≤ (gR h l0 16) ∧ ∃ i2 : Nat, inB h 100 (gR h l0 16) l1 i2 ∧ ∀ h0 : aH, h0 = pI h (gR h l0 16) i2 l2 → 8 ≤ (gR h0 l0 18) ∧ ∃ i3 : Nat, inB h0 100 (gR h0 l0 18) l1 i3 ∧ ∀ h1 : aH, h1 = pI h0 (gR h0 l0 18) i3 0 → 8 ≤ (gR h1 l0 19) ∧ ∃ i4 : Nat, inB h1 100 (gR h1 l0 19) l1 i4 ∧ ∀ h2 : aH, h2 = pI h1 (gR h1 l0 19) i4 0 → ((l2.toInt = 0 → Wp (d + 1) 114 (207, [some (vR l0), some (vI l1), some (vI l2), none, none], [vI 1, vI l1, vR (gR h2 l0 20)], h2) (RI K X)) ∧ (¬ l2.toInt = 0 → Wp (d + 1) 114 (207, [some (vR l0), some (vI l1), some (vI l2), none, none], [vI 0, vI l1, vR (gR h2 l0 20)], h2) (RI K X)))))) ∧ (¬ l2.toInt = 0 → 8 ≤ (gR h l0 16) ∧ ∃ i5 : Nat, inB h 100 (gR h l0 16) l1 i5 ∧ ∀ h3 : aH, h3 = pI h (gR h l0 16) i5 l2 → 8 ≤ (gR h3 l0 18) ∧ ∃ i6 : Nat, inB h3 100 (gR h3 l0 18) l1 i6 ∧ ∀ h4 : aH, h4 = pI h3 (gR h3 l0 18) i6 0 → 8 ≤ (gR h4 l0 19) ∧ ∃ i7 : Nat, inB h4 100 (gR h4 l0 19) l1 i7 ∧ ∀ h5 : aH, h5 = pI h4 (gR h4 l0 19) i7 0 → ((l2.toInt = 0 → Wp (d + 1) 114 (207, [some (vR l0), some (vI l1), some (vI l2), none, none], [vI 1, vI l1, vR (gR h5 l0 20)], h5) (RI K X)) ∧ (¬ l2.toInt = 0 → Wp (d + 1) 114 (207, [some (vR l0), some (vI l1), some (vI l2), none, none], [vI 0, vI l1, vR (gR h5 l0 20)], h5) (RI K X)))))))))) : Wp (d + 1) 114 (109, [some (vR l0), some (vI l1), some (vI l2), some (vI l3), some (vI l4)], [], h) (RI K X) := by
  refine wp_iload rfl rfl rfl ?_
  refine wp_aload rfl rfl rfl ?_
  obtain ⟨f0, F⟩ := F
  refine wp_getR rfl rfl rfl f0 rfl ?_
  refine wp_aload rfl rfl rfl ?_
  refine wp_getI rfl rfl rfl f0 rfl ?_
  obtain ⟨i0, b9, F⟩ := F
  refine wp_iaload rfl b9 rfl ?_
  refine wp_icmp_ge rfl rfl rfl rfl rfl (fun c => ?_) (fun c => ?_)
  · replace F := F.1 c
    refine wp_iload rfl rfl rfl ?_
    refine wp_aload rfl rfl rfl ?_
    refine wp_getR rfl rfl rfl f0 rfl ?_
    refine wp_const rfl rfl ?_
    refine wp_aload rfl rfl rfl ?_
    refine wp_getI rfl rfl rfl f0 rfl ?_
    refine wp_imul rfl rfl ?_
    refine wp_iload rfl rfl rfl ?_
    refine wp_iadd rfl rfl ?_
    obtain ⟨i1, b9, F⟩ := F
    refine wp_iaload rfl b9 rfl ?_
    refine wp_if_ne rfl rfl rfl rfl (fun c => ?_) (fun c => ?_)
    · replace F := F.1 c
      refine wp_const rfl rfl ?_
      refine wp_goto rfl rfl ?_
      refine wp_iadd' (L' := [some (vR l0), some (vI l1), some (vI l2), none, some (vI l4)]) rfl rfl rfl ?_
      replace F := F _ rfl
      generalize (l3 + 1 : Int32) = v0 at F ⊢
      refine wp_istore (L2 := [some (vR l0), some (vI l1), some (vI l2), some (vI v0), some (vI l4)]) rfl rfl rfl rfl ?_
      refine wp_iinc (y := 1) (L2 := [some (vR l0), some (vI l1), some (vI l2), some (vI v0), some (vI (l4 + 1))]) rfl rfl rfl rfl rfl ?_
      replace F := F _ rfl
      generalize (l4 + 1 : Int32) = v1 at F ⊢
      refine wp_goto rfl rfl ?_
      exact F
    · replace F := F.2 c
      refine wp_const' (L' := [some (vR l0), some (vI l1), some (vI l2), none, some (vI l4)]) rfl rfl rfl ?_
      refine wp_iadd' (L' := [some (vR l0), some (vI l1), some (vI l2), none, some (vI l4)]) rfl rfl rfl ?_
      replace F := F _ rfl
      generalize (l3 + 0 : Int32) = v2 at F ⊢
      refine wp_istore (L2 := [some (vR l0), some (vI l1), some (vI l2), some (vI v2), some (vI l4)]) rfl rfl rfl rfl ?_
      refine wp_iinc (y := 1) (L2 := [some (vR l0), some (vI l1), some (vI l2), some (vI v2), some (vI (l4 + 1))]) rfl rfl rfl rfl rfl ?_
      replace F := F _ rfl
      generalize (l4 + 1 : Int32) = v3 at F ⊢
      refine wp_goto rfl rfl ?_
      exact F
  · replace F := F.2 c
    refine wp_iload' (L' := [some (vR l0), some (vI l1), some (vI l2), some (vI l3), none]) rfl rfl rfl rfl ?_
    refine wp_const rfl rfl ?_
    refine wp_icmp_eq (Y := (-1)) rfl rfl rfl rfl rfl (fun c => ?_) (fun c => ?_)
    · replace F := F.1 c
      refine wp_const' (L' := [none, none, none, none, none]) rfl rfl rfl ?_
      exact wp_retI rfl (Or.inr rfl) F
    · replace F := F.2 c
      refine wp_iload rfl rfl rfl ?_
      refine wp_if_ne rfl rfl rfl rfl (fun c => ?_) (fun c => ?_)
      · replace F := F.1 c
        refine wp_iload rfl rfl rfl ?_
        refine wp_const rfl rfl ?_
        refine wp_icmp_ne (Y := 10) rfl rfl rfl rfl rfl (fun c => ?_) (fun c => ?_)
        · replace F := F.1 c
          refine wp_const' (L' := [none, none, none, none, none]) rfl rfl rfl ?_
          exact wp_retI rfl (Or.inr rfl) F
        · replace F := F.2 c
          refine wp_aload' (L' := [some (vR l0), some (vI l1), some (vI l2), none, none]) rfl rfl rfl rfl ?_
          refine wp_getR rfl rfl rfl f0 rfl ?_
          refine wp_iload rfl rfl rfl ?_
          refine wp_iload rfl rfl rfl ?_
          obtain ⟨f1, F⟩ := F
          obtain ⟨i2, b9, F⟩ := F
          refine wp_iastore rfl f1 b9 rfl ?_
          have f2 : gK (pI h (gR h l0 16) i2 l2) l0 = 14 := (gK_pI _ _ _ _ _).trans f0
          replace F := F _ rfl
          generalize pI h (gR h l0 16) i2 l2 = h0 at F f2 ⊢
          refine wp_aload rfl rfl rfl ?_
          refine wp_getR rfl rfl rfl f2 rfl ?_
          refine wp_iload rfl rfl rfl ?_
          refine wp_const rfl rfl ?_
          obtain ⟨f3, F⟩ := F
          obtain ⟨i3, b9, F⟩ := F
          refine wp_iastore rfl f3 b9 rfl ?_
          have f4 : gK (pI h0 (gR h0 l0 18) i3 0) l0 = 14 := (gK_pI _ _ _ _ _).trans f2
          replace F := F _ rfl
          generalize pI h0 (gR h0 l0 18) i3 0 = h1 at F f4 ⊢
          refine wp_aload rfl rfl rfl ?_
          refine wp_getR rfl rfl rfl f4 rfl ?_
          refine wp_iload rfl rfl rfl ?_
          refine wp_const rfl rfl ?_
          obtain ⟨f5, F⟩ := F
          obtain ⟨i4, b9, F⟩ := F
          refine wp_iastore rfl f5 b9 rfl ?_
          have f6 : gK (pI h1 (gR h1 l0 19) i4 0) l0 = 14 := (gK_pI _ _ _ _ _).trans f4
          replace F := F _ rfl
          generalize pI h1 (gR h1 l0 19) i4 0 = h2 at F f6 ⊢
          refine wp_aload rfl rfl rfl ?_
          refine wp_getR rfl rfl rfl f6 rfl ?_
          refine wp_iload rfl rfl rfl ?_
          refine wp_iload rfl rfl rfl ?_
          refine wp_if_ne rfl rfl rfl rfl (fun c => ?_) (fun c => ?_)
          · replace F := F.1 c
            refine wp_const rfl rfl ?_
            refine wp_goto rfl rfl ?_
            exact F
          · replace F := F.2 c
            refine wp_const' (L' := [some (vR l0), some (vI l1), some (vI l2), none, none]) rfl rfl rfl ?_
            exact F
      · replace F := F.2 c
        refine wp_aload' (L' := [some (vR l0), some (vI l1), some (vI l2), none, none]) rfl rfl rfl rfl ?_
        refine wp_getR rfl rfl rfl f0 rfl ?_
        refine wp_iload rfl rfl rfl ?_
        refine wp_iload rfl rfl rfl ?_
        obtain ⟨f7, F⟩ := F
        obtain ⟨i5, b9, F⟩ := F
        refine wp_iastore rfl f7 b9 rfl ?_
        have f8 : gK (pI h (gR h l0 16) i5 l2) l0 = 14 := (gK_pI _ _ _ _ _).trans f0
        replace F := F _ rfl
        generalize pI h (gR h l0 16) i5 l2 = h3 at F f8 ⊢
        refine wp_aload rfl rfl rfl ?_
        refine wp_getR rfl rfl rfl f8 rfl ?_
        refine wp_iload rfl rfl rfl ?_
        refine wp_const rfl rfl ?_
        obtain ⟨f9, F⟩ := F
        obtain ⟨i6, b9, F⟩ := F
        refine wp_iastore rfl f9 b9 rfl ?_
        have f10 : gK (pI h3 (gR h3 l0 18) i6 0) l0 = 14 := (gK_pI _ _ _ _ _).trans f8
        replace F := F _ rfl
        generalize pI h3 (gR h3 l0 18) i6 0 = h4 at F f10 ⊢
        refine wp_aload rfl rfl rfl ?_
        refine wp_getR rfl rfl rfl f10 rfl ?_
        refine wp_iload rfl rfl rfl ?_
        refine wp_const rfl rfl ?_
        obtain ⟨f11, F⟩ := F
        obtain ⟨i7, b9, F⟩ := F
        refine wp_iastore rfl f11 b9 rfl ?_
        have f12 : gK (pI h4 (gR h4 l0 19) i7 0) l0 = 14 := (gK_pI _ _ _ _ _).trans f10
        replace F := F _ rfl
        generalize pI h4 (gR h4 l0 19) i7 0 = h5 at F f12 ⊢
        refine wp_aload rfl rfl rfl ?_
        refine wp_getR rfl rfl rfl f12 rfl ?_
        refine wp_iload rfl rfl rfl ?_
        refine wp_iload rfl rfl rfl ?_
        refine wp_if_ne rfl rfl rfl rfl (fun c => ?_) (fun c => ?_)
        · replace F := F.1 c
          refine wp_const rfl rfl ?_
          refine wp_goto rfl rfl ?_
          exact F
        · replace F := F.2 c
          refine wp_const' (L' := [some (vR l0), some (vI l1), some (vI l2), none, none]) rfl rfl rfl ?_
          exact F
theorem w114_207 {d : Nat} {l0 : Nat} {l1 : Int32} {l2 : Int32} {s0 : Int32} {s1 : Int32} {s2 : Nat} {h : aH} {K : Int32 → aH → Prop} {X : Nat → aH → Prop} (F : 8 ≤ s2 ∧ ∃ i0 : Nat, inB h 100 s2 s1 i0 ∧ ∀ h0 : aH, h0 = pI h s2 i0 s0 → gK h0 l0 = 14 ∧ 8 ≤ (gR h0 l0 21) ∧ ∃ i1 : Nat, inB h0 100 (gR h0 l0 21) l1 i1 ∧ ∀ h1 : aH, h1 = pI h0 (gR h0 l0 21) i1 (gI h0 l0 27) → 8 ≤ (gR h1 l0 22) ∧ ∃ i2 : Nat, inB h1 100 (gR h1 l0 22) l1 i2 ∧ ∀ h2 : aH, h2 = pI h1 (gR h1 l0 22) i2 (gI h1 l0 27) → 8 ≤ (gR h2 l0 23) ∧ ∃ i3 : Nat, inB h2 100 (gR h2 l0 23) l1 i3 ∧ ∀ h3 : aH, h3 = pI h2 (gR h2 l0 23) i3 (-1) → 8 ≤ (gR h3 l0 24) ∧ ∃ i4 : Nat, inB h3 100 (gR h3 l0 24) l1 i4 ∧ ∀ h4 : aH, h4 = pI h3 (gR h3 l0 24) i4 (-1) → 8 ≤ l0 ∧ CV d 104 [vR l0] h4 (fun h5 => ((1 < l2.toInt → ((l2.toInt < 2 → Wp (d + 1) 114 (345, [some (vR l0), some (vI l1), some (vI l2), none, none], [vI 0], h5) (RI K X)) ∧ (¬ l2.toInt < 2 → Wp (d + 1) 114 (345, [some (vR l0), some (vI l1), some (vI l2), none, none], [vI 1], h5) (RI K X)))) ∧ (¬ 1 < l2.toInt → gK h5 l0 = 14 ∧ (((gI h5 l0 29).toInt = 2 → CI d 105 [vL (gJ h5 l0 31)] h5 (fun y0 h6 => ((y0.toInt = 0 → gK h6 l0 = 14 ∧ CI d 106 [vR l0, vI (gI h6 l0 14), vL (gJ h6 l0 31)] h6 (fun y1 h7 => ((y1.toInt = (-1) → gK h7 l0 = 14 ∧ 8 ≤ (gR h7 l0 17) ∧ ∃ i5 : Nat, inB h7 101 (gR h7 l0 17) l1 i5 ∧ ∀ h8 : aH, h8 = pJ h7 (gR h7 l0 17) i5 (gJ h7 l0 31) → CV d 104 [vR l0] h8 (fun h9 => ((l2.toInt = 0 → gK h9 l0 = 14 ∧ CI d 108 [vR l0, vI l1] h9 (fun y2 h10 => ((y2.toInt = 0 → K 0 h10) ∧ (¬ y2.toInt = 0 → gK h10 l0 = 14 ∧ 8 ≤ (gR h10 l0 22) ∧ ∃ i6 : Nat, inB h10 100 (gR h10 l0 22) l1 i6 ∧ ∀ h11 : aH, h11 = pI h10 (gR h10 l0 22) i6 (gI h10 l0 27) → ((l2.toInt < 2 → Wp (d + 1) 114 (345, [some (vR l0), some (vI l1), some (vI l2), none, none], [vI 0], h11) (RI K X)) ∧ (¬ l2.toInt < 2 → Wp (d + 1) 114 (345, [some (vR l0), some (vI l1), some (vI l2), none, none], [vI 1], h11) (RI K X)))))) X) ∧ (¬ l2.toInt = 0 → gK h9 l0 = 14 ∧ CI d 112 [vR l0] h9 (fun y3 h12 => ((y3.toInt = 0 → K 0 h12) ∧ (¬ y3.toInt = 0 → gK h12 l0 = 14 ∧ 8 ≤ (gR h12 l0 22) ∧ ∃ i7 : Nat, inB h12 100 (gR h12 l0 22) l1 i7 ∧ ∀ h13 : aH, h13 = pI h12 (gR h12 l0 22) i7 (gI h12 l0 27) → ((l2.toInt < 2 → Wp (d + 1) 114 (345, [some (vR l0), some (vI l1), some (vI l2), none, none], [vI 0], h13) (RI K X)) ∧ (¬ l2.toInt < 2 → Wp (d + 1) 114 (345, [some (vR l0), some (vI l1), some (vI l2), none, none], [vI 1], h13) (RI K X)))))) X))) X) ∧ (¬ y1.toInt = (-1) → K 0 h7))) X) ∧ (¬ y0.toInt = 0 → K 0 h6))) X) ∧ (¬ (gI h5 l0 29).toInt = 2 → K 0 h5))))) X) : Wp (d + 1) 114 (207, [some (vR l0), some (vI l1), some (vI l2), none, none], [vI s0, vI s1, vR s2], h) (RI K X) := by
  obtain ⟨f0, F⟩ := F
  obtain ⟨i0, b9, F⟩ := F
  refine wp_iastore' (L' := [some (vR l0), some (vI l1), some (vI l2), none, none]) rfl rfl f0 b9 rfl ?_
  replace F := F _ rfl
  generalize pI h s2 i0 s0 = h0 at F ⊢
  refine wp_aload rfl rfl rfl ?_
  obtain ⟨f1, F⟩ := F
  refine wp_getR rfl rfl rfl f1 rfl ?_
  refine wp_iload rfl rfl rfl ?_
  refine wp_aload rfl rfl rfl ?_
  refine wp_getI rfl rfl rfl f1 rfl ?_
  obtain ⟨f2, F⟩ := F
  obtain ⟨i1, b9, F⟩ := F
  refine wp_iastore rfl f2 b9 rfl ?_
  have f3 : gK (pI h0 (gR h0 l0 21) i1 (gI h0 l0 27)) l0 = 14 := (gK_pI _ _ _ _ _).trans f1
  replace F := F _ rfl
  generalize pI h0 (gR h0 l0 21) i1 (gI h0 l0 27) = h1 at F f3 ⊢
  refine wp_aload rfl rfl rfl ?_
  refine wp_getR rfl rfl rfl f3 rfl ?_
  refine wp_iload rfl rfl rfl ?_
  refine wp_aload rfl rfl rfl ?_
  refine wp_getI rfl rfl rfl f3 rfl ?_
  obtain ⟨f4, F⟩ := F
  obtain ⟨i2, b9, F⟩ := F
  refine wp_iastore rfl f4 b9 rfl ?_
  have f5 : gK (pI h1 (gR h1 l0 22) i2 (gI h1 l0 27)) l0 = 14 := (gK_pI _ _ _ _ _).trans f3
  replace F := F _ rfl
  generalize pI h1 (gR h1 l0 22) i2 (gI h1 l0 27) = h2 at F f5 ⊢
  refine wp_aload rfl rfl rfl ?_
  refine wp_getR rfl rfl rfl f5 rfl ?_
  refine wp_iload rfl rfl rfl ?_
  refine wp_const rfl rfl ?_
  obtain ⟨f6, F⟩ := F
  obtain ⟨i3, b9, F⟩ := F
  refine wp_iastore rfl f6 b9 rfl ?_
  have f7 : gK (pI h2 (gR h2 l0 23) i3 (-1)) l0 = 14 := (gK_pI _ _ _ _ _).trans f5
  replace F := F _ rfl
  generalize pI h2 (gR h2 l0 23) i3 (-1) = h3 at F f7 ⊢
  refine wp_aload rfl rfl rfl ?_
  refine wp_getR rfl rfl rfl f7 rfl ?_
  refine wp_iload rfl rfl rfl ?_
  refine wp_const rfl rfl ?_
  obtain ⟨f8, F⟩ := F
  obtain ⟨i4, b9, F⟩ := F
  refine wp_iastore rfl f8 b9 rfl ?_
  have f9 : gK (pI h3 (gR h3 l0 24) i4 (-1)) l0 = 14 := (gK_pI _ _ _ _ _).trans f7
  replace F := F _ rfl
  generalize pI h3 (gR h3 l0 24) i4 (-1) = h4 at F f9 ⊢
  refine wp_aload rfl rfl rfl ?_
  obtain ⟨f10, F⟩ := F
  refine wp_callV rfl rfl rfl (rcv_v f10 f9 (by decide) (by decide)) rfl rfl rfl rfl ?_
  refine CV.mono F (fun h5 F => ?_) (fun _ _ w => rx_I w)
  refine wp_iload rfl rfl rfl ?_
  refine wp_const rfl rfl ?_
  refine wp_icmp_gt (Y := 1) rfl rfl rfl rfl rfl (fun c => ?_) (fun c => ?_)
  · replace F := F.1 c
    refine wp_iload' (L' := [some (vR l0), some (vI l1), some (vI l2), none, none]) rfl rfl rfl rfl ?_
    refine wp_const rfl rfl ?_
    refine wp_icmp_lt (Y := 2) rfl rfl rfl rfl rfl (fun c => ?_) (fun c => ?_)
    · replace F := F.1 c
      refine wp_const' (L' := [some (vR l0), some (vI l1), some (vI l2), none, none]) rfl rfl rfl ?_
      exact F
    · replace F := F.2 c
      refine wp_const rfl rfl ?_
      refine wp_goto rfl rfl ?_
      exact F
  · replace F := F.2 c
    refine wp_aload rfl rfl rfl ?_
    obtain ⟨f11, F⟩ := F
    refine wp_getI rfl rfl rfl f11 rfl ?_
    refine wp_const rfl rfl ?_
    refine wp_icmp_ne (Y := 2) rfl rfl rfl rfl rfl (fun c => ?_) (fun c => ?_)
    · replace F := F.1 c
      refine wp_aload rfl rfl rfl ?_
      refine wp_getJ rfl rfl rfl f11 rfl ?_
      refine wp_callI rfl rfl rfl rfl rfl rfl rfl rfl ?_
      refine CI.mono F (fun y0 h6 F => ?_) (fun _ _ w => rx_I w)
      refine wp_if_ne rfl rfl rfl rfl (fun c => ?_) (fun c => ?_)
      · replace F := F.1 c
        refine wp_aload rfl rfl rfl ?_
        refine wp_aload rfl rfl rfl ?_
        obtain ⟨f12, F⟩ := F
        refine wp_getI rfl rfl rfl f12 rfl ?_
        refine wp_aload rfl rfl rfl ?_
        refine wp_getJ rfl rfl rfl f12 rfl ?_
        refine wp_callI rfl rfl rfl (rcv_v f10 f12 (by decide) (by decide)) rfl rfl rfl rfl ?_
        refine CI.mono F (fun y1 h7 F => ?_) (fun _ _ w => rx_I w)
        refine wp_const rfl rfl ?_
        refine wp_icmp_eq (Y := (-1)) rfl rfl rfl rfl rfl (fun c => ?_) (fun c => ?_)
        · replace F := F.1 c
          refine wp_aload' (L' := [some (vR l0), some (vI l1), some (vI l2), none, none]) rfl rfl rfl rfl ?_
          obtain ⟨f13, F⟩ := F
          refine wp_getR rfl rfl rfl f13 rfl ?_
          refine wp_iload rfl rfl rfl ?_
          refine wp_aload rfl rfl rfl ?_
          refine wp_getJ rfl rfl rfl f13 rfl ?_
          obtain ⟨f14, F⟩ := F
          obtain ⟨i5, b9, F⟩ := F
          refine wp_lastore rfl f14 b9 rfl ?_
          have f15 : gK (pJ h7 (gR h7 l0 17) i5 (gJ h7 l0 31)) l0 = 14 := (gK_pJ _ _ _ _ _).trans f13
          replace F := F _ rfl
          generalize pJ h7 (gR h7 l0 17) i5 (gJ h7 l0 31) = h8 at F f15 ⊢
          refine wp_aload rfl rfl rfl ?_
          refine wp_callV rfl rfl rfl (rcv_v f10 f15 (by decide) (by decide)) rfl rfl rfl rfl ?_
          refine CV.mono F (fun h9 F => ?_) (fun _ _ w => rx_I w)
          refine wp_iload rfl rfl rfl ?_
          refine wp_if_ne rfl rfl rfl rfl (fun c => ?_) (fun c => ?_)
          · replace F := F.1 c
            refine wp_aload rfl rfl rfl ?_
            refine wp_iload rfl rfl rfl ?_
            obtain ⟨f16, F⟩ := F
            refine wp_callI rfl rfl rfl (rcv_v f10 f16 (by decide) (by decide)) rfl rfl rfl rfl ?_
            refine CI.mono F (fun y2 h10 F => ?_) (fun _ _ w => rx_I w)
            refine wp_if_ne rfl rfl rfl rfl (fun c => ?_) (fun c => ?_)
            · replace F := F.1 c
              refine wp_goto rfl rfl ?_
              refine wp_const' (L' := [none, none, none, none, none]) rfl rfl rfl ?_
              exact wp_retI rfl (Or.inr rfl) F
            · replace F := F.2 c
              refine wp_aload' (L' := [some (vR l0), some (vI l1), some (vI l2), none, none]) rfl rfl rfl rfl ?_
              obtain ⟨f17, F⟩ := F
              refine wp_getR rfl rfl rfl f17 rfl ?_
              refine wp_iload rfl rfl rfl ?_
              refine wp_aload rfl rfl rfl ?_
              refine wp_getI rfl rfl rfl f17 rfl ?_
              obtain ⟨f18, F⟩ := F
              obtain ⟨i6, b9, F⟩ := F
              refine wp_iastore rfl f18 b9 rfl ?_
              have f19 : gK (pI h10 (gR h10 l0 22) i6 (gI h10 l0 27)) l0 = 14 := (gK_pI _ _ _ _ _).trans f17
              replace F := F _ rfl
              generalize pI h10 (gR h10 l0 22) i6 (gI h10 l0 27) = h11 at F f19 ⊢
              refine wp_iload' (L' := [some (vR l0), some (vI l1), some (vI l2), none, none]) rfl rfl rfl rfl ?_
              refine wp_const rfl rfl ?_
              refine wp_icmp_lt (Y := 2) rfl rfl rfl rfl rfl (fun c => ?_) (fun c => ?_)
              · replace F := F.1 c
                refine wp_const' (L' := [some (vR l0), some (vI l1), some (vI l2), none, none]) rfl rfl rfl ?_
                exact F
              · replace F := F.2 c
                refine wp_const rfl rfl ?_
                refine wp_goto rfl rfl ?_
                exact F
          · replace F := F.2 c
            refine wp_aload' (L' := [some (vR l0), some (vI l1), some (vI l2), none, none]) rfl rfl rfl rfl ?_
            obtain ⟨f20, F⟩ := F
            refine wp_callI rfl rfl rfl (rcv_v f10 f20 (by decide) (by decide)) rfl rfl rfl rfl ?_
            refine CI.mono F (fun y3 h12 F => ?_) (fun _ _ w => rx_I w)
            refine wp_if_ne rfl rfl rfl rfl (fun c => ?_) (fun c => ?_)
            · replace F := F.1 c
              refine wp_const' (L' := [none, none, none, none, none]) rfl rfl rfl ?_
              exact wp_retI rfl (Or.inr rfl) F
            · replace F := F.2 c
              refine wp_aload' (L' := [some (vR l0), some (vI l1), some (vI l2), none, none]) rfl rfl rfl rfl ?_
              obtain ⟨f21, F⟩ := F
              refine wp_getR rfl rfl rfl f21 rfl ?_
              refine wp_iload rfl rfl rfl ?_
              refine wp_aload rfl rfl rfl ?_
              refine wp_getI rfl rfl rfl f21 rfl ?_
              obtain ⟨f22, F⟩ := F
              obtain ⟨i7, b9, F⟩ := F
              refine wp_iastore rfl f22 b9 rfl ?_
              have f23 : gK (pI h12 (gR h12 l0 22) i7 (gI h12 l0 27)) l0 = 14 := (gK_pI _ _ _ _ _).trans f21
              replace F := F _ rfl
              generalize pI h12 (gR h12 l0 22) i7 (gI h12 l0 27) = h13 at F f23 ⊢
              refine wp_iload' (L' := [some (vR l0), some (vI l1), some (vI l2), none, none]) rfl rfl rfl rfl ?_
              refine wp_const rfl rfl ?_
              refine wp_icmp_lt (Y := 2) rfl rfl rfl rfl rfl (fun c => ?_) (fun c => ?_)
              · replace F := F.1 c
                refine wp_const' (L' := [some (vR l0), some (vI l1), some (vI l2), none, none]) rfl rfl rfl ?_
                exact F
              · replace F := F.2 c
                refine wp_const rfl rfl ?_
                refine wp_goto rfl rfl ?_
                exact F
        · replace F := F.2 c
          refine wp_const' (L' := [none, none, none, none, none]) rfl rfl rfl ?_
          exact wp_retI rfl (Or.inr rfl) F
      · replace F := F.2 c
        refine wp_const' (L' := [none, none, none, none, none]) rfl rfl rfl ?_
        exact wp_retI rfl (Or.inr rfl) F
    · replace F := F.2 c
      refine wp_const' (L' := [none, none, none, none, none]) rfl rfl rfl ?_
      exact wp_retI rfl (Or.inr rfl) F
theorem w114_345 {d : Nat} {l0 : Nat} {l1 : Int32} {l2 : Int32} {s0 : Int32} {h : aH} {K : Int32 → aH → Prop} {X : Nat → aH → Prop} (F : ((1 < l2.toInt → Wp (d + 1) 114 (369, [some (vR l0), some (vI l1), none, none, some (vI s0)], [], h) (RI K X)) ∧ (¬ 1 < l2.toInt → 8 ≤ l0 ∧ gK h l0 = 14 ∧ CI d 110 [vR l0, vL 26982] h (fun y0 h0 => ((y0.toInt = 0 → Wp (d + 1) 114 (369, [some (vR l0), some (vI l1), none, none, some (vI s0)], [], h0) (RI K X)) ∧ (¬ y0.toInt = 0 → gK h0 l0 = 14 ∧ CV d 104 [vR l0] h0 (fun h1 => Wp (d + 1) 114 (369, [some (vR l0), some (vI l1), none, none, some (vI 1)], [], h1) (RI K X)) X))) X))) : Wp (d + 1) 114 (345, [some (vR l0), some (vI l1), some (vI l2), none, none], [vI s0], h) (RI K X) := by
  refine wp_istore' (L' := [some (vR l0), some (vI l1), some (vI l2), none, none]) (L2 := [some (vR l0), some (vI l1), some (vI l2), none, some (vI s0)]) rfl rfl rfl rfl rfl ?_
  refine wp_iload rfl rfl rfl ?_
  refine wp_const rfl rfl ?_
  refine wp_icmp_gt (Y := 1) rfl rfl rfl rfl rfl (fun c => ?_) (fun c => ?_)
  · replace F := F.1 c
    refine wp_kill (L' := [some (vR l0), some (vI l1), none, none, some (vI s0)]) rfl rfl ?_
    exact F
  · replace F := F.2 c
    refine wp_aload rfl rfl rfl ?_
    refine wp_const rfl rfl ?_
    obtain ⟨f0, F⟩ := F
    obtain ⟨f1, F⟩ := F
    refine wp_callI rfl rfl rfl (rcv_v f0 f1 (by decide) (by decide)) rfl rfl rfl rfl ?_
    refine CI.mono F (fun y0 h0 F => ?_) (fun _ _ w => rx_I w)
    refine wp_if_eq rfl rfl rfl rfl (fun c => ?_) (fun c => ?_)
    · replace F := F.1 c
      refine wp_kill (L' := [some (vR l0), some (vI l1), none, none, some (vI s0)]) rfl rfl ?_
      exact F
    · replace F := F.2 c
      refine wp_const rfl rfl ?_
      refine wp_istore (L2 := [some (vR l0), some (vI l1), some (vI l2), none, some (vI 1)]) rfl rfl rfl rfl ?_
      refine wp_aload rfl rfl rfl ?_
      obtain ⟨f2, F⟩ := F
      refine wp_callV rfl rfl rfl (rcv_v f0 f2 (by decide) (by decide)) rfl rfl rfl rfl ?_
      refine CV.mono F (fun h1 F => ?_) (fun _ _ w => rx_I w)
      refine wp_kill (L' := [some (vR l0), some (vI l1), none, none, some (vI 1)]) rfl rfl ?_
      exact F
theorem w114_369 {d : Nat} {l0 : Nat} {l1 : Int32} {l4 : Int32} {h : aH} {K : Int32 → aH → Prop} {X : Nat → aH → Prop} (F : ((l4.toInt = 0 → gK h l0 = 14 ∧ (((gI h l0 29).toInt = 6 → K 1 h) ∧ (¬ (gI h l0 29).toInt = 6 → K 0 h))) ∧ (¬ l4.toInt = 0 → gK h l0 = 14 ∧ 8 ≤ (gR h l0 23) ∧ ∃ i0 : Nat, inB h 100 (gR h l0 23) l1 i0 ∧ ∀ h0 : aH, h0 = pI h (gR h l0 23) i0 (gI h l0 27) → 8 ≤ l0 ∧ CI d 113 [vR l0] h0 (fun y0 h1 => ((y0.toInt = 0 → K 0 h1) ∧ (¬ y0.toInt = 0 → gK h1 l0 = 14 ∧ 8 ≤ (gR h1 l0 24) ∧ ∃ i1 : Nat, inB h1 100 (gR h1 l0 24) l1 i1 ∧ ∀ h2 : aH, h2 = pI h1 (gR h1 l0 24) i1 (gI h1 l0 27) → (((gI h2 l0 29).toInt = 6 → K 1 h2) ∧ (¬ (gI h2 l0 29).toInt = 6 → K 0 h2))))) X))) : Wp (d + 1) 114 (369, [some (vR l0), some (vI l1), none, none, some (vI l4)], [], h) (RI K X) := by
  refine wp_iload' (L' := [some (vR l0), some (vI l1), none, none, some (vI l4)]) rfl rfl rfl rfl ?_
  refine wp_if_eq rfl rfl rfl rfl (fun c => ?_) (fun c => ?_)
  · replace F := F.1 c
    refine wp_aload' (L' := [some (vR l0), none, none, none, none]) rfl rfl rfl rfl ?_
    obtain ⟨f0, F⟩ := F
    refine wp_getI rfl rfl rfl f0 rfl ?_
    refine wp_const rfl rfl ?_
    refine wp_icmp_ne (Y := 6) rfl rfl rfl rfl rfl (fun c => ?_) (fun c => ?_)
    · replace F := F.1 c
      refine wp_const rfl rfl ?_
      refine wp_goto rfl rfl ?_
      exact wp_retI rfl (Or.inr rfl) F
    · replace F := F.2 c
      refine wp_const' (L' := [none, none, none, none, none]) rfl rfl rfl ?_
      exact wp_retI rfl (Or.inr rfl) F
  · replace F := F.2 c
    refine wp_aload rfl rfl rfl ?_
    obtain ⟨f1, F⟩ := F
    refine wp_getR rfl rfl rfl f1 rfl ?_
    refine wp_iload rfl rfl rfl ?_
    refine wp_aload rfl rfl rfl ?_
    refine wp_getI rfl rfl rfl f1 rfl ?_
    obtain ⟨f2, F⟩ := F
    obtain ⟨i0, b9, F⟩ := F
    refine wp_iastore rfl f2 b9 rfl ?_
    have f3 : gK (pI h (gR h l0 23) i0 (gI h l0 27)) l0 = 14 := (gK_pI _ _ _ _ _).trans f1
    replace F := F _ rfl
    generalize pI h (gR h l0 23) i0 (gI h l0 27) = h0 at F f3 ⊢
    refine wp_aload rfl rfl rfl ?_
    obtain ⟨f4, F⟩ := F
    refine wp_callI rfl rfl rfl (rcv_v f4 f3 (by decide) (by decide)) rfl rfl rfl rfl ?_
    refine CI.mono F (fun y0 h1 F => ?_) (fun _ _ w => rx_I w)
    refine wp_if_ne rfl rfl rfl rfl (fun c => ?_) (fun c => ?_)
    · replace F := F.1 c
      refine wp_const rfl rfl ?_
      exact wp_retI rfl (Or.inr rfl) F
    · replace F := F.2 c
      refine wp_aload' (L' := [some (vR l0), some (vI l1), none, none, none]) rfl rfl rfl rfl ?_
      obtain ⟨f5, F⟩ := F
      refine wp_getR rfl rfl rfl f5 rfl ?_
      refine wp_iload rfl rfl rfl ?_
      refine wp_aload rfl rfl rfl ?_
      refine wp_getI rfl rfl rfl f5 rfl ?_
      obtain ⟨f6, F⟩ := F
      obtain ⟨i1, b9, F⟩ := F
      refine wp_iastore rfl f6 b9 rfl ?_
      have f7 : gK (pI h1 (gR h1 l0 24) i1 (gI h1 l0 27)) l0 = 14 := (gK_pI _ _ _ _ _).trans f5
      replace F := F _ rfl
      generalize pI h1 (gR h1 l0 24) i1 (gI h1 l0 27) = h2 at F f7 ⊢
      refine wp_aload' (L' := [some (vR l0), none, none, none, none]) rfl rfl rfl rfl ?_
      refine wp_getI rfl rfl rfl f7 rfl ?_
      refine wp_const rfl rfl ?_
      refine wp_icmp_ne (Y := 6) rfl rfl rfl rfl rfl (fun c => ?_) (fun c => ?_)
      · replace F := F.1 c
        refine wp_const rfl rfl ?_
        refine wp_goto rfl rfl ?_
        exact wp_retI rfl (Or.inr rfl) F
      · replace F := F.2 c
        refine wp_const' (L' := [none, none, none, none, none]) rfl rfl rfl ?_
        exact wp_retI rfl (Or.inr rfl) F
-- CensusOfficeModel form ()I
theorem m115 {d : Nat} {a0 : Nat} {h : aH} {K : Int32 → aH → Prop} {X : Nat → aH → Prop} (F : 8 ≤ a0 ∧ gK h a0 = 14 ∧ ∀ h0 : aH, h0 = pI h a0 0 0 → (((gI h0 a0 14).toInt = 6 → CI d 15 [vR a0, vI 1] h0 (fun y0 h1 => K y0 h1) X) ∧ (¬ (gI h0 a0 14).toInt = 6 → ∀ v0 : Int32, v0 = gI h0 a0 27 → 8 ≤ (gR h0 a0 15) ∧ ∃ i0 : Nat, inB h0 100 (gR h0 a0 15) (gI h0 a0 14) i0 ∧ ∀ h2 : aH, h2 = pI h0 (gR h0 a0 15) i0 0 → ∀ h3 : aH, h3 = pI h2 a0 28 0 → CV d 104 [vR a0] h3 (fun h4 => gK h4 a0 = 14 ∧ (((gI h4 a0 29).toInt = 0 → Wp (d + 1) 115 (57, [some (vR a0), some (vI v0), some (vI 0)], [], h4) (RI K X)) ∧ (¬ (gI h4 a0 29).toInt = 0 → Wp (d + 1) 115 (57, [some (vR a0), some (vI v0), some (vI 1)], [], h4) (RI K X)))) X))) : CI (d + 1) 115 [vR a0] h K X := by
  show Wp (d + 1) 115 (0, [some (vR a0), none, none], [], h) (RI K X)
  refine wp_aload rfl rfl rfl ?_
  refine wp_const rfl rfl ?_
  obtain ⟨f0, F⟩ := F
  obtain ⟨f1, F⟩ := F
  refine wp_putI rfl rfl rfl f0 f1 rfl ?_
  have f2 : gK (pI h a0 0 0) a0 = 14 := (gK_pI _ _ _ _ _).trans f1
  replace F := F _ rfl
  generalize pI h a0 0 0 = h0 at F f2 ⊢
  refine wp_aload rfl rfl rfl ?_
  refine wp_getI rfl rfl rfl f2 rfl ?_
  refine wp_const rfl rfl ?_
  refine wp_icmp_ne (Y := 6) rfl rfl rfl rfl rfl (fun c => ?_) (fun c => ?_)
  · replace F := F.1 c
    refine wp_aload rfl rfl rfl ?_
    refine wp_const rfl rfl ?_
    refine wp_callI rfl rfl rfl (rcv_v f0 f2 (by decide) (by decide)) rfl rfl rfl rfl ?_
    refine CI.mono F (fun y0 h1 F => ?_) (fun _ _ w => rx_I w)
    exact wp_retI rfl (Or.inl rfl) F
  · replace F := F.2 c
    refine wp_aload' (L' := [some (vR a0), none, none]) rfl rfl rfl rfl ?_
    refine wp_getI rfl rfl rfl f2 rfl ?_
    replace F := F _ rfl
    generalize (gI h0 a0 27 : Int32) = v0 at F ⊢
    refine wp_istore (L2 := [some (vR a0), some (vI v0), none]) rfl rfl rfl rfl ?_
    refine wp_aload rfl rfl rfl ?_
    refine wp_getR rfl rfl rfl f2 rfl ?_
    refine wp_aload rfl rfl rfl ?_
    refine wp_getI rfl rfl rfl f2 rfl ?_
    refine wp_const rfl rfl ?_
    obtain ⟨f3, F⟩ := F
    obtain ⟨i0, b9, F⟩ := F
    refine wp_iastore rfl f3 b9 rfl ?_
    have f4 : gK (pI h0 (gR h0 a0 15) i0 0) a0 = 14 := (gK_pI _ _ _ _ _).trans f2
    replace F := F _ rfl
    generalize pI h0 (gR h0 a0 15) i0 0 = h2 at F f4 ⊢
    refine wp_aload rfl rfl rfl ?_
    refine wp_const rfl rfl ?_
    refine wp_putI rfl rfl rfl f0 f4 rfl ?_
    have f5 : gK (pI h2 a0 28 0) a0 = 14 := (gK_pI _ _ _ _ _).trans f4
    replace F := F _ rfl
    generalize pI h2 a0 28 0 = h3 at F f5 ⊢
    refine wp_aload rfl rfl rfl ?_
    refine wp_callV rfl rfl rfl (rcv_v f0 f5 (by decide) (by decide)) rfl rfl rfl rfl ?_
    refine CV.mono F (fun h4 F => ?_) (fun _ _ w => rx_I w)
    refine wp_aload rfl rfl rfl ?_
    obtain ⟨f6, F⟩ := F
    refine wp_getI rfl rfl rfl f6 rfl ?_
    refine wp_if_eq rfl rfl rfl rfl (fun c => ?_) (fun c => ?_)
    · replace F := F.1 c
      refine wp_const' (L' := [some (vR a0), some (vI v0), none]) rfl rfl rfl ?_
      refine wp_istore' (L' := [some (vR a0), some (vI v0), none]) (L2 := [some (vR a0), some (vI v0), some (vI 0)]) rfl rfl rfl rfl rfl ?_
      exact F
    · replace F := F.2 c
      refine wp_const rfl rfl ?_
      refine wp_goto rfl rfl ?_
      refine wp_istore' (L' := [some (vR a0), some (vI v0), none]) (L2 := [some (vR a0), some (vI v0), some (vI 1)]) rfl rfl rfl rfl rfl ?_
      exact F
theorem w115_57 {d : Nat} {l0 : Nat} {l1 : Int32} {l2 : Int32} {h : aH} {K : Int32 → aH → Prop} {X : Nat → aH → Prop} (F : ((l2.toInt = 0 → 8 ≤ l0 ∧ gK h l0 = 14 ∧ ∀ h0 : aH, h0 = pI h l0 13 0 → ((l2.toInt = 0 → ∀ h1 : aH, h1 = pI h0 l0 27 l1 → K ((-1) - (gI h1 l0 30)) h1) ∧ (¬ l2.toInt = 0 → ∀ h2 : aH, h2 = pI h0 l0 14 ((gI h0 l0 14) + 1) → K ((gI h2 l0 14) - 1) h2))) ∧ (¬ l2.toInt = 0 → gK h l0 = 14 ∧ (((gI h l0 29).toInt = 0 → 8 ≤ l0 ∧ ∀ h3 : aH, h3 = pI h l0 13 0 → ((l2.toInt = 0 → ∀ h4 : aH, h4 = pI h3 l0 27 l1 → K ((-1) - (gI h4 l0 30)) h4) ∧ (¬ l2.toInt = 0 → ∀ h5 : aH, h5 = pI h3 l0 14 ((gI h3 l0 14) + 1) → K ((gI h5 l0 14) - 1) h5))) ∧ (¬ (gI h l0 29).toInt = 0 → 8 ≤ l0 ∧ CI d 114 [vR l0] h (fun y0 h6 => ((y0.toInt = 0 → Wp (d + 1) 115 (57, [some (vR l0), some (vI l1), some (vI y0)], [], h6) (RI K X)) ∧ (¬ y0.toInt = 0 → gK h6 l0 = 14 ∧ ∀ v0 : Int32, v0 = gI h6 l0 14 → ∃ i0 : Nat, inB h6 100 (gR h6 l0 15) v0 i0 ∧ 8 ≤ (gR h6 l0 15) ∧ ∃ i1 : Nat, inB h6 100 (gR h6 l0 15) v0 i1 ∧ ∀ h7 : aH, h7 = pI h6 (gR h6 l0 15) i1 ((gI h6 (gR h6 l0 15) i0) + 1) → CV d 104 [vR l0] h7 (fun h8 => Wp (d + 1) 115 (57, [some (vR l0), some (vI l1), some (vI y0)], [], h8) (RI K X)) X))) X))))) : Wp (d + 1) 115 (57, [some (vR l0), some (vI l1), some (vI l2)], [], h) (RI K X) := by
  refine wp_iload rfl rfl rfl ?_
  refine wp_if_eq rfl rfl rfl rfl (fun c => ?_) (fun c => ?_)
  · replace F := F.1 c
    refine wp_aload rfl rfl rfl ?_
    refine wp_const rfl rfl ?_
    obtain ⟨f0, F⟩ := F
    obtain ⟨f1, F⟩ := F
    refine wp_putI rfl rfl rfl f0 f1 rfl ?_
    have f2 : gK (pI h l0 13 0) l0 = 14 := (gK_pI _ _ _ _ _).trans f1
    replace F := F _ rfl
    generalize pI h l0 13 0 = h0 at F f2 ⊢
    refine wp_iload rfl rfl rfl ?_
    refine wp_if_ne rfl rfl rfl rfl (fun c => ?_) (fun c => ?_)
    · replace F := F.1 c
      refine wp_aload rfl rfl rfl ?_
      refine wp_iload rfl rfl rfl ?_
      refine wp_putI rfl rfl rfl f0 f2 rfl ?_
      have f3 : gK (pI h0 l0 27 l1) l0 = 14 := (gK_pI _ _ _ _ _).trans f2
      replace F := F _ rfl
      generalize pI h0 l0 27 l1 = h1 at F f3 ⊢
      refine wp_const rfl rfl ?_
      refine wp_aload rfl rfl rfl ?_
      refine wp_getI rfl rfl rfl f3 rfl ?_
      refine wp_isub rfl rfl ?_
      exact wp_retI rfl (Or.inl rfl) F
    · replace F := F.2 c
      refine wp_aload' (L' := [some (vR l0), none, none]) rfl rfl rfl rfl ?_
      refine wp_dup rfl rfl rfl ?_
      refine wp_getI rfl rfl rfl f2 rfl ?_
      refine wp_const rfl rfl ?_
      refine wp_iadd rfl rfl ?_
      refine wp_putI rfl rfl rfl f0 f2 rfl ?_
      have f4 : gK (pI h0 l0 14 ((gI h0 l0 14) + 1)) l0 = 14 := (gK_pI _ _ _ _ _).trans f2
      replace F := F _ rfl
      generalize pI h0 l0 14 ((gI h0 l0 14) + 1) = h2 at F f4 ⊢
      refine wp_aload rfl rfl rfl ?_
      refine wp_getI rfl rfl rfl f4 rfl ?_
      refine wp_const rfl rfl ?_
      refine wp_isub rfl rfl ?_
      exact wp_retI rfl (Or.inl rfl) F
  · replace F := F.2 c
    refine wp_aload rfl rfl rfl ?_
    obtain ⟨f5, F⟩ := F
    refine wp_getI rfl rfl rfl f5 rfl ?_
    refine wp_if_eq rfl rfl rfl rfl (fun c => ?_) (fun c => ?_)
    · replace F := F.1 c
      refine wp_aload rfl rfl rfl ?_
      refine wp_const rfl rfl ?_
      obtain ⟨f6, F⟩ := F
      refine wp_putI rfl rfl rfl f6 f5 rfl ?_
      have f7 : gK (pI h l0 13 0) l0 = 14 := (gK_pI _ _ _ _ _).trans f5
      replace F := F _ rfl
      generalize pI h l0 13 0 = h3 at F f7 ⊢
      refine wp_iload rfl rfl rfl ?_
      refine wp_if_ne rfl rfl rfl rfl (fun c => ?_) (fun c => ?_)
      · replace F := F.1 c
        refine wp_aload rfl rfl rfl ?_
        refine wp_iload rfl rfl rfl ?_
        refine wp_putI rfl rfl rfl f6 f7 rfl ?_
        have f8 : gK (pI h3 l0 27 l1) l0 = 14 := (gK_pI _ _ _ _ _).trans f7
        replace F := F _ rfl
        generalize pI h3 l0 27 l1 = h4 at F f8 ⊢
        refine wp_const rfl rfl ?_
        refine wp_aload rfl rfl rfl ?_
        refine wp_getI rfl rfl rfl f8 rfl ?_
        refine wp_isub rfl rfl ?_
        exact wp_retI rfl (Or.inl rfl) F
      · replace F := F.2 c
        refine wp_aload' (L' := [some (vR l0), none, none]) rfl rfl rfl rfl ?_
        refine wp_dup rfl rfl rfl ?_
        refine wp_getI rfl rfl rfl f7 rfl ?_
        refine wp_const rfl rfl ?_
        refine wp_iadd rfl rfl ?_
        refine wp_putI rfl rfl rfl f6 f7 rfl ?_
        have f9 : gK (pI h3 l0 14 ((gI h3 l0 14) + 1)) l0 = 14 := (gK_pI _ _ _ _ _).trans f7
        replace F := F _ rfl
        generalize pI h3 l0 14 ((gI h3 l0 14) + 1) = h5 at F f9 ⊢
        refine wp_aload rfl rfl rfl ?_
        refine wp_getI rfl rfl rfl f9 rfl ?_
        refine wp_const rfl rfl ?_
        refine wp_isub rfl rfl ?_
        exact wp_retI rfl (Or.inl rfl) F
    · replace F := F.2 c
      refine wp_aload rfl rfl rfl ?_
      obtain ⟨f10, F⟩ := F
      refine wp_callI rfl rfl rfl (rcv_v f10 f5 (by decide) (by decide)) rfl rfl rfl rfl ?_
      refine CI.mono F (fun y0 h6 F => ?_) (fun _ _ w => rx_I w)
      refine wp_istore (L2 := [some (vR l0), some (vI l1), some (vI y0)]) rfl rfl rfl rfl ?_
      refine wp_iload rfl rfl rfl ?_
      refine wp_if_eq rfl rfl rfl rfl (fun c => ?_) (fun c => ?_)
      · replace F := F.1 c
        exact F
      · replace F := F.2 c
        refine wp_aload rfl rfl rfl ?_
        obtain ⟨f11, F⟩ := F
        refine wp_getR rfl rfl rfl f11 rfl ?_
        refine wp_aload rfl rfl rfl ?_
        refine wp_getI rfl rfl rfl f11 rfl ?_
        replace F := F _ rfl
        generalize (gI h6 l0 14 : Int32) = v0 at F ⊢
        refine wp_dup2 rfl rfl rfl rfl ?_
        obtain ⟨i0, b9, F⟩ := F
        refine wp_iaload rfl b9 rfl ?_
        refine wp_const rfl rfl ?_
        refine wp_iadd rfl rfl ?_
        obtain ⟨f12, F⟩ := F
        obtain ⟨i1, b9, F⟩ := F
        refine wp_iastore rfl f12 b9 rfl ?_
        have f13 : gK (pI h6 (gR h6 l0 15) i1 ((gI h6 (gR h6 l0 15) i0) + 1)) l0 = 14 := (gK_pI _ _ _ _ _).trans f11
        replace F := F _ rfl
        generalize pI h6 (gR h6 l0 15) i1 ((gI h6 (gR h6 l0 15) i0) + 1) = h7 at F f13 ⊢
        refine wp_aload rfl rfl rfl ?_
        refine wp_callV rfl rfl rfl (rcv_v f10 f13 (by decide) (by decide)) rfl rfl rfl rfl ?_
        refine CV.mono F (fun h8 F => ?_) (fun _ _ w => rx_I w)
        refine wp_goto rfl rfl ?_
        exact F
-- jdk/internal/util/Preconditions checkIndex (IILjava/util/function/BiFunction;)I
theorem m116 {d : Nat} {a0 : Int32} {a1 : Int32} {a2 : Nat} {h : aH} {K : Int32 → aH → Prop} {X : Nat → aH → Prop} (F : ((a0.toInt < 0 → False) ∧ (¬ a0.toInt < 0 → ((a0.toInt < a1.toInt → K a0 h) ∧ (¬ a0.toInt < a1.toInt → False))))) : CI d 116 [vI a0, vI a1, vR a2] h K X := by
  show Wp d 116 (0, [some (vI a0), some (vI a1), some (vR a2)], [], h) (RI K X)
  refine wp_iload rfl rfl rfl ?_
  refine wp_if_lt rfl rfl rfl rfl (fun c => ?_) (fun c => ?_)
  · replace F := F.1 c
    refine wp_aload rfl rfl rfl ?_
    refine wp_iload rfl rfl rfl ?_
    refine wp_iload rfl rfl rfl ?_
    exact F.elim
  · replace F := F.2 c
    refine wp_iload rfl rfl rfl ?_
    refine wp_iload rfl rfl rfl ?_
    refine wp_icmp_lt rfl rfl rfl rfl rfl (fun c => ?_) (fun c => ?_)
    · replace F := F.1 c
      refine wp_iload' (L' := [some (vI a0), none, none]) rfl rfl rfl rfl ?_
      exact wp_retI rfl (Or.inl rfl) F
    · replace F := F.2 c
      refine wp_aload rfl rfl rfl ?_
      refine wp_iload rfl rfl rfl ?_
      refine wp_iload rfl rfl rfl ?_
      exact F.elim
-- java/util/Objects checkIndex (II)I
theorem m117 {d : Nat} {a0 : Int32} {a1 : Int32} {h : aH} {K : Int32 → aH → Prop} {X : Nat → aH → Prop} (F : CI d 116 [vI a0, vI a1, vR 0] h (fun y0 h0 => K y0 h0) X) : CI (d + 1) 117 [vI a0, vI a1] h K X := by
  show Wp (d + 1) 117 (0, [some (vI a0), some (vI a1)], [], h) (RI K X)
  refine wp_iload rfl rfl rfl ?_
  refine wp_iload rfl rfl rfl ?_
  refine wp_const rfl rfl ?_
  refine wp_callI rfl rfl rfl rfl rfl rfl rfl rfl ?_
  refine CI.mono F (fun y0 h0 F => ?_) (fun _ _ w => rx_I w)
  exact wp_retI rfl (Or.inl rfl) F
-- java/util/ArrayList elementData (I)Ljava/lang/Object;
theorem m118 {d : Nat} {a0 : Nat} {a1 : Int32} {h : aH} {K : Nat → aH → Prop} {X : Nat → aH → Prop} (F : gK h a0 = 13 ∧ ∃ i0 : Nat, inB h 104 (gR h a0 0) a1 i0 ∧ K (gR h (gR h a0 0) i0) h) : CR d 118 [vR a0, vI a1] h K X := by
  show Wp d 118 (0, [some (vR a0), some (vI a1)], [], h) (RR K X)
  refine wp_aload rfl rfl rfl ?_
  obtain ⟨f0, F⟩ := F
  refine wp_getR rfl rfl rfl f0 rfl ?_
  refine wp_iload rfl rfl rfl ?_
  obtain ⟨i0, b9, F⟩ := F
  refine wp_aaload rfl b9 rfl ?_
  exact wp_retR rfl F
-- java/util/ArrayList get (I)Ljava/lang/Object;
theorem m119 {d : Nat} {a0 : Nat} {a1 : Int32} {h : aH} {K : Nat → aH → Prop} {X : Nat → aH → Prop} (F : gK h a0 = 13 ∧ CI d 117 [vI a1, vI (gI h a0 1)] h (fun y0 h0 => 8 ≤ a0 ∧ gK h0 a0 = 13 ∧ CR d 118 [vR a0, vI a1] h0 (fun q0 h1 => K q0 h1) X) X) : CR (d + 1) 119 [vR a0, vI a1] h K X := by
  show Wp (d + 1) 119 (0, [some (vR a0), some (vI a1)], [], h) (RR K X)
  refine wp_iload rfl rfl rfl ?_
  refine wp_aload rfl rfl rfl ?_
  obtain ⟨f0, F⟩ := F
  refine wp_getI rfl rfl rfl f0 rfl ?_
  refine wp_callI rfl rfl rfl rfl rfl rfl rfl rfl ?_
  refine CI.mono F (fun y0 h0 F => ?_) (fun _ _ w => rx_R w)
  refine wp_pop rfl rfl rfl ?_
  refine wp_aload rfl rfl rfl ?_
  refine wp_iload rfl rfl rfl ?_
  obtain ⟨f1, F⟩ := F
  obtain ⟨f2, F⟩ := F
  refine wp_callR rfl rfl rfl (rcv_v f1 f2 (by decide) (by decide)) rfl rfl rfl rfl ?_
  refine CR.mono F (fun q0 h1 F => ?_) (fun _ _ w => rx_R w)
  exact wp_retR rfl F
-- CensusOffice formAt (I)LCensusOffice$Form;
theorem m120 {d : Nat} {a0 : Nat} {a1 : Int32} {h : aH} {K : Nat → aH → Prop} {X : Nat → aH → Prop} (F : gK h a0 = 1 ∧ 8 ≤ (gR h a0 4) ∧ gK h (gR h a0 4) = 13 ∧ CI d 65 [vR (gR h a0 4)] h (fun y0 h0 => CV d 29 [vI a1, vI y0] h0 (fun h1 => gK h1 a0 = 1 ∧ 8 ≤ (gR h1 a0 4) ∧ gK h1 (gR h1 a0 4) = 13 ∧ CR d 119 [vR (gR h1 a0 4), vI a1] h1 (fun q0 h2 => (q0 = 0 ∨ gK h2 q0 = 3) ∧ K q0 h2) X) X) X) : CR (d + 1) 120 [vR a0, vI a1] h K X := by
  show Wp (d + 1) 120 (0, [some (vR a0), some (vI a1)], [], h) (RR K X)
  refine wp_iload rfl rfl rfl ?_
  refine wp_aload rfl rfl rfl ?_
  obtain ⟨f0, F⟩ := F
  refine wp_getR rfl rfl rfl f0 rfl ?_
  obtain ⟨f1, F⟩ := F
  obtain ⟨f2, F⟩ := F
  refine wp_callI rfl rfl rfl (rcv_v f1 f2 (by decide) (by decide)) rfl rfl rfl rfl ?_
  refine CI.mono F (fun y0 h0 F => ?_) (fun _ _ w => rx_R w)
  refine wp_callV rfl rfl rfl rfl rfl rfl rfl rfl ?_
  refine CV.mono F (fun h1 F => ?_) (fun _ _ w => rx_R w)
  refine wp_aload rfl rfl rfl ?_
  obtain ⟨f3, F⟩ := F
  refine wp_getR rfl rfl rfl f3 rfl ?_
  refine wp_iload rfl rfl rfl ?_
  obtain ⟨f4, F⟩ := F
  obtain ⟨f5, F⟩ := F
  refine wp_callR rfl rfl rfl (rcv_v f4 f5 (by decide) (by decide)) rfl rfl rfl rfl ?_
  refine CR.mono F (fun q0 h2 F => ?_) (fun _ _ w => rx_R w)
  refine wp_cast rfl F.1 rfl ?_
  replace F := F.2
  exact wp_retR rfl F
-- CensusOffice needStatement (LCensusOffice$Form;I)V
theorem m121 {d : Nat} {a0 : Nat} {a1 : Nat} {a2 : Int32} {h : aH} {K : aH → Prop} {X : Nat → aH → Prop} (F : gK h a1 = 3 ∧ CV d 29 [vI a2, vI (gI h a1 11)] h (fun h0 => K h0) X) : CV (d + 1) 121 [vR a0, vR a1, vI a2] h K X := by
  show Wp (d + 1) 121 (0, [some (vR a0), some (vR a1), some (vI a2)], [], h) (RV K X)
  refine wp_iload rfl rfl rfl ?_
  refine wp_aload rfl rfl rfl ?_
  obtain ⟨f0, F⟩ := F
  refine wp_getI rfl rfl rfl f0 rfl ?_
  refine wp_callV rfl rfl rfl rfl rfl rfl rfl rfl ?_
  refine CV.mono F (fun h0 F => ?_) (fun _ _ w => rx_V w)
  exact wp_retV rfl F
-- CensusOffice statement (III)I
theorem m122 {d : Nat} {a0 : Nat} {a1 : Int32} {a2 : Int32} {a3 : Int32} {h : aH} {K : Int32 → aH → Prop} {X : Nat → aH → Prop} (F : 8 ≤ a0 ∧ gK h a0 = 1 ∧ CR d 120 [vR a0, vI a1] h (fun q0 h0 => gK h0 a0 = 1 ∧ CV d 121 [vR a0, vR q0, vI a2] h0 (fun h1 => ((a3.toInt < 0 → X 1 (gNew h1 200 6)) ∧ (¬ a3.toInt < 0 → ((3 < a3.toInt → X 1 (gNew h1 200 6)) ∧ (¬ 3 < a3.toInt → ((a3.toInt = 0 → gK h1 q0 = 3 ∧ ∃ i0 : Nat, inB h1 100 (gR h1 q0 2) a2 i0 ∧ K (gI h1 (gR h1 q0 2) i0) h1) ∧ (a3.toInt = 1 → gK h1 q0 = 3 ∧ ∃ i1 : Nat, inB h1 100 (gR h1 q0 3) a2 i1 ∧ K (gI h1 (gR h1 q0 3) i1) h1) ∧ (a3.toInt = 2 → gK h1 q0 = 3 ∧ ∃ i2 : Nat, inB h1 100 (gR h1 q0 4) a2 i2 ∧ K (gI h1 (gR h1 q0 4) i2) h1) ∧ ((¬ a3.toInt = 0 ∧ ¬ a3.toInt = 1 ∧ ¬ a3.toInt = 2) → gK h1 q0 = 3 ∧ ∃ i3 : Nat, inB h1 100 (gR h1 q0 5) a2 i3 ∧ K (gI h1 (gR h1 q0 5) i3) h1))))))) X) X) : CI (d + 1) 122 [vR a0, vI a1, vI a2, vI a3] h K X := by
  show Wp (d + 1) 122 (0, [some (vR a0), some (vI a1), some (vI a2), some (vI a3), none], [], h) (RI K X)
  refine wp_aload rfl rfl rfl ?_
  refine wp_iload rfl rfl rfl ?_
  obtain ⟨f0, F⟩ := F
  obtain ⟨f1, F⟩ := F
  refine wp_callR rfl rfl rfl (rcv_v f0 f1 (by decide) (by decide)) rfl rfl rfl rfl ?_
  refine CR.mono F (fun q0 h0 F => ?_) (fun _ _ w => rx_I w)
  refine wp_astore (L2 := [some (vR a0), some (vI a1), some (vI a2), some (vI a3), some (vR q0)]) rfl rfl rfl rfl ?_
  refine wp_aload rfl rfl rfl ?_
  refine wp_aload rfl rfl rfl ?_
  refine wp_iload rfl rfl rfl ?_
  obtain ⟨f2, F⟩ := F
  refine wp_callV rfl rfl rfl (rcv_v f0 f2 (by decide) (by decide)) rfl rfl rfl rfl ?_
  refine CV.mono F (fun h1 F => ?_) (fun _ _ w => rx_I w)
  refine wp_iload rfl rfl rfl ?_
  refine wp_if_lt rfl rfl rfl rfl (fun c => ?_) (fun c => ?_)
  · replace F := F.1 c
    exact wp_thrI rfl F
  · replace F := F.2 c
    refine wp_iload rfl rfl rfl ?_
    refine wp_const rfl rfl ?_
    refine wp_icmp_le (Y := 3) rfl rfl rfl rfl rfl (fun c => ?_) (fun c => ?_)
    · replace F := F.1 c
      exact wp_thrI rfl F
    · replace F := F.2 c
      refine wp_iload' (L' := [none, none, some (vI a2), some (vI a3), some (vR q0)]) rfl rfl rfl rfl ?_
      by_cases c0 : a3.toInt = 0
      · refine wp_tsw (t := 60) rfl (by unfold aSw; rw [c0]; rfl) ?_
        replace F := F.1 c0
        refine wp_aload rfl rfl rfl ?_
        obtain ⟨f3, F⟩ := F
        refine wp_getR rfl rfl rfl f3 rfl ?_
        refine wp_iload rfl rfl rfl ?_
        obtain ⟨i0, b9, F⟩ := F
        refine wp_iaload rfl b9 rfl ?_
        exact wp_retI rfl (Or.inl rfl) F
      by_cases c1 : a3.toInt = 1
      · refine wp_tsw (t := 68) rfl (by unfold aSw; rw [c1]; rfl) ?_
        replace F := F.2.1 c1
        refine wp_aload' (L' := [none, none, some (vI a2), none, some (vR q0)]) rfl rfl rfl rfl ?_
        obtain ⟨f4, F⟩ := F
        refine wp_getR rfl rfl rfl f4 rfl ?_
        refine wp_iload rfl rfl rfl ?_
        obtain ⟨i1, b9, F⟩ := F
        refine wp_iaload rfl b9 rfl ?_
        exact wp_retI rfl (Or.inl rfl) F
      by_cases c2 : a3.toInt = 2
      · refine wp_tsw (t := 76) rfl (by unfold aSw; rw [c2]; rfl) ?_
        replace F := F.2.2.1 c2
        refine wp_aload' (L' := [none, none, some (vI a2), none, some (vR q0)]) rfl rfl rfl rfl ?_
        obtain ⟨f5, F⟩ := F
        refine wp_getR rfl rfl rfl f5 rfl ?_
        refine wp_iload rfl rfl rfl ?_
        obtain ⟨i2, b9, F⟩ := F
        refine wp_iaload rfl b9 rfl ?_
        exact wp_retI rfl (Or.inl rfl) F
      refine wp_tsw (t := 84) rfl (by unfold aSw; rw [if_pos (by omega)]; rfl) ?_
      replace F := F.2.2.2 ⟨c0, c1, c2⟩
      refine wp_aload' (L' := [none, none, some (vI a2), none, some (vR q0)]) rfl rfl rfl rfl ?_
      obtain ⟨f6, F⟩ := F
      refine wp_getR rfl rfl rfl f6 rfl ?_
      refine wp_iload rfl rfl rfl ?_
      obtain ⟨i3, b9, F⟩ := F
      refine wp_iaload rfl b9 rfl ?_
      exact wp_retI rfl (Or.inl rfl) F
