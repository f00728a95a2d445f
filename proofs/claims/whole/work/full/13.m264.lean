/-! THE FORMULAS OF THE METHODS 264 TO 282 (written by wip/tools/gen13.py): what a run from a cut point needs -/
-- CensusOffice table (IIIII)I
theorem m264 {d : Nat} {a0 : Nat} {a1 : Int32} {a2 : Int32} {a3 : Int32} {a4 : Int32} {a5 : Int32} {h : aH} {K : Int32 → aH → Prop} {X : Nat → aH → Prop} (F : 8 ≤ a0 ∧ gK h a0 = 1 ∧ CR d 120 [vR a0, vI a1] h (fun q0 h0 => gK h0 a0 = 1 ∧ CV d 121 [vR a0, vR q0, vI a2] h0 (fun h1 => gK h1 a0 = 1 ∧ CV d 121 [vR a0, vR q0, vI a3] h1 (fun h2 => gK h2 a0 = 1 ∧ CV d 181 [vR a0, vR q0, vI a4] h2 (fun h3 => ((a5.toInt = (-1) → Wp (d + 1) 264 (42, [some (vR a0), none, some (vI a2), some (vI a3), some (vI a4), some (vI a5), some (vR q0), none, none, none], [], h3) (RI K X)) ∧ (¬ a5.toInt = (-1) → gK h3 a0 = 1 ∧ CR d 242 [vR a0, vI a5] h3 (fun q1 h4 => Wp (d + 1) 264 (42, [some (vR a0), none, some (vI a2), some (vI a3), some (vI a4), some (vI a5), some (vR q0), none, none, none], [], h4) (RI K X)) X))) X) X) X) X) : CI (d + 1) 264 [vR a0, vI a1, vI a2, vI a3, vI a4, vI a5] h K X := by
  show Wp (d + 1) 264 (0, [some (vR a0), some (vI a1), some (vI a2), some (vI a3), some (vI a4), some (vI a5), none, none, none, none], [], h) (RI K X)
  refine wp_aload rfl rfl rfl ?_
  refine wp_iload rfl rfl rfl ?_
  obtain ⟨f0, F⟩ := F
  obtain ⟨f1, F⟩ := F
  refine wp_callR rfl rfl rfl (rcv_v f0 f1 (by decide) (by decide)) rfl rfl rfl rfl ?_
  refine CR.mono F (fun q0 h0 F => ?_) (fun _ _ w => rx_I w)
  refine wp_astore (L2 := [some (vR a0), some (vI a1), some (vI a2), some (vI a3), some (vI a4), some (vI a5), some (vR q0), none, none, none]) rfl rfl rfl rfl ?_
  refine wp_aload rfl rfl rfl ?_
  refine wp_aload rfl rfl rfl ?_
  refine wp_iload rfl rfl rfl ?_
  obtain ⟨f2, F⟩ := F
  refine wp_callV rfl rfl rfl (rcv_v f0 f2 (by decide) (by decide)) rfl rfl rfl rfl ?_
  refine CV.mono F (fun h1 F => ?_) (fun _ _ w => rx_I w)
  refine wp_aload rfl rfl rfl ?_
  refine wp_aload rfl rfl rfl ?_
  refine wp_iload rfl rfl rfl ?_
  obtain ⟨f3, F⟩ := F
  refine wp_callV rfl rfl rfl (rcv_v f0 f3 (by decide) (by decide)) rfl rfl rfl rfl ?_
  refine CV.mono F (fun h2 F => ?_) (fun _ _ w => rx_I w)
  refine wp_aload rfl rfl rfl ?_
  refine wp_aload rfl rfl rfl ?_
  refine wp_iload rfl rfl rfl ?_
  obtain ⟨f4, F⟩ := F
  refine wp_callV rfl rfl rfl (rcv_v f0 f4 (by decide) (by decide)) rfl rfl rfl rfl ?_
  refine CV.mono F (fun h3 F => ?_) (fun _ _ w => rx_I w)
  refine wp_iload rfl rfl rfl ?_
  refine wp_const rfl rfl ?_
  refine wp_icmp_eq (Y := (-1)) rfl rfl rfl rfl rfl (fun c => ?_) (fun c => ?_)
  · replace F := F.1 c
    refine wp_kill (L' := [some (vR a0), none, some (vI a2), some (vI a3), some (vI a4), some (vI a5), some (vR q0), none, none, none]) rfl rfl ?_
    exact F
  · replace F := F.2 c
    refine wp_aload rfl rfl rfl ?_
    refine wp_iload rfl rfl rfl ?_
    obtain ⟨f5, F⟩ := F
    refine wp_callR rfl rfl rfl (rcv_v f0 f5 (by decide) (by decide)) rfl rfl rfl rfl ?_
    refine CR.mono F (fun q1 h4 F => ?_) (fun _ _ w => rx_I w)
    refine wp_pop rfl rfl rfl ?_
    refine wp_kill (L' := [some (vR a0), none, some (vI a2), some (vI a3), some (vI a4), some (vI a5), some (vR q0), none, none, none]) rfl rfl ?_
    exact F
theorem w264_42 {d : Nat} {l0 : Nat} {l2 : Int32} {l3 : Int32} {l4 : Int32} {l5 : Int32} {l6 : Nat} {h : aH} {K : Int32 → aH → Prop} {X : Nat → aH → Prop} (F : 8 ≤ l6 ∧ gK h l6 = 3 ∧ CI d 182 [vR l6, vI l2] h (fun y0 h0 => ((y0.toInt = 0 → X 1 (gNew h0 200 6)) ∧ (¬ y0.toInt = 0 → gK h0 l6 = 3 ∧ CI d 182 [vR l6, vI l3] h0 (fun y1 h1 => ((y1.toInt = 0 → X 1 (gNew h1 200 6)) ∧ (¬ y1.toInt = 0 → ((l2.toInt = l3.toInt → X 1 (gNew h1 200 6)) ∧ (¬ l2.toInt = l3.toInt → ((l4.toInt = (-1) → Wp (d + 1) 264 (103, [some (vR l0), none, some (vI l2), some (vI l3), some (vI l4), some (vI l5), some (vR l6), none, none, none], [], h1) (RI K X)) ∧ (¬ l4.toInt = (-1) → gK h1 l6 = 3 ∧ CI d 258 [vR l6, vI l4] h1 (fun y2 h2 => ((y2.toInt = 0 → X 1 (gNew h2 200 6)) ∧ (¬ y2.toInt = 0 → Wp (d + 1) 264 (103, [some (vR l0), none, some (vI l2), some (vI l3), some (vI l4), some (vI l5), some (vR l6), none, none, none], [], h2) (RI K X)))) X))))))) X))) X) : Wp (d + 1) 264 (42, [some (vR l0), none, some (vI l2), some (vI l3), some (vI l4), some (vI l5), some (vR l6), none, none, none], [], h) (RI K X) := by
  refine wp_aload' (L' := [some (vR l0), none, some (vI l2), some (vI l3), some (vI l4), some (vI l5), some (vR l6), none, none, none]) rfl rfl rfl rfl ?_
  refine wp_iload rfl rfl rfl ?_
  obtain ⟨f0, F⟩ := F
  obtain ⟨f1, F⟩ := F
  refine wp_callI rfl rfl rfl (rcv_v f0 f1 (by decide) (by decide)) rfl rfl rfl rfl ?_
  refine CI.mono F (fun y0 h0 F => ?_) (fun _ _ w => rx_I w)
  refine wp_if_eq rfl rfl rfl rfl (fun c => ?_) (fun c => ?_)
  · replace F := F.1 c
    exact wp_thrI rfl F
  · replace F := F.2 c
    refine wp_aload rfl rfl rfl ?_
    refine wp_iload rfl rfl rfl ?_
    obtain ⟨f2, F⟩ := F
    refine wp_callI rfl rfl rfl (rcv_v f0 f2 (by decide) (by decide)) rfl rfl rfl rfl ?_
    refine CI.mono F (fun y1 h1 F => ?_) (fun _ _ w => rx_I w)
    refine wp_if_eq rfl rfl rfl rfl (fun c => ?_) (fun c => ?_)
    · replace F := F.1 c
      exact wp_thrI rfl F
    · replace F := F.2 c
      refine wp_iload rfl rfl rfl ?_
      refine wp_iload rfl rfl rfl ?_
      refine wp_icmp_ne rfl rfl rfl rfl rfl (fun c => ?_) (fun c => ?_)
      · replace F := F.1 c
        exact wp_thrI rfl F
      · replace F := F.2 c
        refine wp_iload' (L' := [some (vR l0), none, some (vI l2), some (vI l3), some (vI l4), some (vI l5), some (vR l6), none, none, none]) rfl rfl rfl rfl ?_
        refine wp_const rfl rfl ?_
        refine wp_icmp_eq (Y := (-1)) rfl rfl rfl rfl rfl (fun c => ?_) (fun c => ?_)
        · replace F := F.1 c
          exact F
        · replace F := F.2 c
          refine wp_aload rfl rfl rfl ?_
          refine wp_iload rfl rfl rfl ?_
          obtain ⟨f3, F⟩ := F
          refine wp_callI rfl rfl rfl (rcv_v f0 f3 (by decide) (by decide)) rfl rfl rfl rfl ?_
          refine CI.mono F (fun y2 h2 F => ?_) (fun _ _ w => rx_I w)
          refine wp_if_ne rfl rfl rfl rfl (fun c => ?_) (fun c => ?_)
          · replace F := F.1 c
            exact wp_thrI rfl F
          · replace F := F.2 c
            exact F
theorem w264_103 {d : Nat} {l0 : Nat} {l2 : Int32} {l3 : Int32} {l4 : Int32} {l5 : Int32} {l6 : Nat} {h : aH} {K : Int32 → aH → Prop} {X : Nat → aH → Prop} (F : 8 ≤ l6 ∧ gK h l6 = 3 ∧ CI d 259 [vR l6, vI l2] h (fun y0 h0 => ((4 < y0.toInt → X 1 (gNew h0 200 6)) ∧ (¬ 4 < y0.toInt → gK h0 l6 = 3 ∧ CI d 259 [vR l6, vI l3] h0 (fun y1 h1 => ((3 < y1.toInt → X 1 (gNew h1 200 6)) ∧ (¬ 3 < y1.toInt → gK h1 l0 = 1 ∧ 8 ≤ (gR h1 l0 8) ∧ gK h1 (gR h1 l0 8) = 13 ∧ CI d 65 [vR (gR h1 l0 8)] h1 (fun y2 h2 => ((y2.toInt < 12 → ∀ (r0 : Nat) (h3 : aH), r0 = gN h2 → h3 = gNew h2 11 16 → 8 ≤ r0 ∧ CV d 260 [vR r0, vR l6, vI l2, vI l3, vI l4] h3 (fun h4 => Wp (d + 1) 264 (175, [some (vR l0), none, none, none, none, some (vI l5), some (vR l6), some (vR r0), some (vI 0), none], [], h4) (RI K X)) (fun _ _ => False)) ∧ (¬ y2.toInt < 12 → X 4 (gNew h2 200 6)))) X))) X))) X) : Wp (d + 1) 264 (103, [some (vR l0), none, some (vI l2), some (vI l3), some (vI l4), some (vI l5), some (vR l6), none, none, none], [], h) (RI K X) := by
  refine wp_aload' (L' := [some (vR l0), none, some (vI l2), some (vI l3), some (vI l4), some (vI l5), some (vR l6), none, none, none]) rfl rfl rfl rfl ?_
  refine wp_iload rfl rfl rfl ?_
  obtain ⟨f0, F⟩ := F
  obtain ⟨f1, F⟩ := F
  refine wp_callI rfl rfl rfl (rcv_v f0 f1 (by decide) (by decide)) rfl rfl rfl rfl ?_
  refine CI.mono F (fun y0 h0 F => ?_) (fun _ _ w => rx_I w)
  refine wp_const rfl rfl ?_
  refine wp_icmp_gt (Y := 4) rfl rfl rfl rfl rfl (fun c => ?_) (fun c => ?_)
  · replace F := F.1 c
    exact wp_thrI rfl F
  · replace F := F.2 c
    refine wp_aload rfl rfl rfl ?_
    refine wp_iload rfl rfl rfl ?_
    obtain ⟨f2, F⟩ := F
    refine wp_callI rfl rfl rfl (rcv_v f0 f2 (by decide) (by decide)) rfl rfl rfl rfl ?_
    refine CI.mono F (fun y1 h1 F => ?_) (fun _ _ w => rx_I w)
    refine wp_const rfl rfl ?_
    refine wp_icmp_le (Y := 3) rfl rfl rfl rfl rfl (fun c => ?_) (fun c => ?_)
    · replace F := F.1 c
      exact wp_thrI rfl F
    · replace F := F.2 c
      refine wp_aload' (L' := [some (vR l0), none, some (vI l2), some (vI l3), some (vI l4), some (vI l5), some (vR l6), none, none, none]) rfl rfl rfl rfl ?_
      obtain ⟨f3, F⟩ := F
      refine wp_getR rfl rfl rfl f3 rfl ?_
      obtain ⟨f4, F⟩ := F
      obtain ⟨f5, F⟩ := F
      refine wp_callI rfl rfl rfl (rcv_v f4 f5 (by decide) (by decide)) rfl rfl rfl rfl ?_
      refine CI.mono F (fun y2 h2 F => ?_) (fun _ _ w => rx_I w)
      refine wp_const rfl rfl ?_
      refine wp_icmp_lt (Y := 12) rfl rfl rfl rfl rfl (fun c => ?_) (fun c => ?_)
      · replace F := F.1 c
        refine wp_new' (L' := [some (vR l0), none, some (vI l2), some (vI l3), some (vI l4), some (vI l5), some (vR l6), none, none, none]) rfl rfl rfl rfl rfl ?_
        replace F := F _ _ rfl rfl
        generalize gNew h2 11 16 = h3 at F ⊢
        generalize gN h2 = r0 at F ⊢
        refine wp_dup rfl rfl rfl ?_
        refine wp_aload rfl rfl rfl ?_
        refine wp_iload rfl rfl rfl ?_
        refine wp_iload rfl rfl rfl ?_
        refine wp_iload rfl rfl rfl ?_
        obtain ⟨f6, F⟩ := F
        refine wp_callqV rfl rfl rfl (rcv_c f6) rfl rfl ?_
        refine CV.mono F (fun h4 F => ?_) (fun _ _ w => w)
        refine wp_astore (L2 := [some (vR l0), none, some (vI l2), some (vI l3), some (vI l4), some (vI l5), some (vR l6), some (vR r0), none, none]) rfl rfl rfl rfl ?_
        refine wp_const rfl rfl ?_
        refine wp_istore (L2 := [some (vR l0), none, some (vI l2), some (vI l3), some (vI l4), some (vI l5), some (vR l6), some (vR r0), some (vI 0), none]) rfl rfl rfl rfl ?_
        refine wp_kill (L' := [some (vR l0), none, none, none, none, some (vI l5), some (vR l6), some (vR r0), some (vI 0), none]) rfl rfl ?_
        exact F
      · replace F := F.2 c
        exact wp_thrI rfl F
theorem w264_175 {d : Nat} {l0 : Nat} {l5 : Int32} {l6 : Nat} {l7 : Nat} {l8 : Int32} {h : aH} {K : Int32 → aH → Prop} {X : Nat → aH → Prop} (F : gK h l0 = 1 ∧ 8 ≤ (gR h l0 6) ∧ gK h (gR h l0 6) = 13 ∧ CI d 65 [vR (gR h l0 6)] h (fun y0 h0 => ((l8.toInt < y0.toInt → gK h0 l0 = 1 ∧ 8 ≤ (gR h0 l0 6) ∧ gK h0 (gR h0 l0 6) = 13 ∧ CR d 119 [vR (gR h0 l0 6), vI l8] h0 (fun q0 h1 => (q0 = 0 ∨ gK h1 q0 = 5) ∧ gK h1 q0 = 5 ∧ (((gR h1 q0 0) = l6 ∨ ((8 ≤ (gR h1 q0 0) ∨ (gR h1 q0 0) = 0 ∨ (gR h1 q0 0) = 2) ∧ (8 ≤ l6 ∨ l6 = 0 ∨ l6 = 2))) ∧ ((gR h1 q0 0) = l6 → 8 ≤ l0 ∧ gK h1 l0 = 1 ∧ CI d 261 [vR l0, vR q0, vI l5] h1 (fun y1 h2 => ((y1.toInt = 0 → ∀ v0 : Int32, v0 = l8 + 1 → Wp (d + 1) 264 (175, [some (vR l0), none, none, none, none, some (vI l5), some (vR l6), some (vR l7), some (vI v0), none], [], h2) (RI K X)) ∧ (¬ y1.toInt = 0 → 8 ≤ l7 ∧ gK h2 l7 = 11 ∧ CV d 262 [vR l7, vR q0] h2 (fun h3 => ∀ v1 : Int32, v1 = l8 + 1 → Wp (d + 1) 264 (175, [some (vR l0), none, none, none, none, some (vI l5), some (vR l6), some (vR l7), some (vI v1), none], [], h3) (RI K X)) X))) X) ∧ (¬ (gR h1 q0 0) = l6 → ∀ v2 : Int32, v2 = l8 + 1 → Wp (d + 1) 264 (175, [some (vR l0), none, none, none, none, some (vI l5), some (vR l6), some (vR l7), some (vI v2), none], [], h1) (RI K X)))) X) ∧ (¬ l8.toInt < y0.toInt → 8 ≤ l7 ∧ gK h0 l7 = 11 ∧ CV d 263 [vR l7] h0 (fun h4 => gK h4 l0 = 1 ∧ 8 ≤ (gR h4 l0 8) ∧ gK h4 (gR h4 l0 8) = 13 ∧ CI d 98 [vR (gR h4 l0 8), vR l7] h4 (fun y2 h5 => gK h5 l0 = 1 ∧ 8 ≤ (gR h5 l0 8) ∧ gK h5 (gR h5 l0 8) = 13 ∧ CI d 65 [vR (gR h5 l0 8)] h5 (fun y3 h6 => K (y3 - 1) h6) X) X) X))) X) : Wp (d + 1) 264 (175, [some (vR l0), none, none, none, none, some (vI l5), some (vR l6), some (vR l7), some (vI l8), none], [], h) (RI K X) := by
  refine wp_iload' (L' := [some (vR l0), none, none, none, none, some (vI l5), some (vR l6), some (vR l7), some (vI l8), none]) rfl rfl rfl rfl ?_
  refine wp_aload rfl rfl rfl ?_
  obtain ⟨f0, F⟩ := F
  refine wp_getR rfl rfl rfl f0 rfl ?_
  obtain ⟨f1, F⟩ := F
  obtain ⟨f2, F⟩ := F
  refine wp_callI rfl rfl rfl (rcv_v f1 f2 (by decide) (by decide)) rfl rfl rfl rfl ?_
  refine CI.mono F (fun y0 h0 F => ?_) (fun _ _ w => rx_I w)
  refine wp_icmp_ge rfl rfl rfl rfl rfl (fun c => ?_) (fun c => ?_)
  · replace F := F.1 c
    refine wp_aload rfl rfl rfl ?_
    obtain ⟨f3, F⟩ := F
    refine wp_getR rfl rfl rfl f3 rfl ?_
    refine wp_iload rfl rfl rfl ?_
    obtain ⟨f4, F⟩ := F
    obtain ⟨f5, F⟩ := F
    refine wp_callR rfl rfl rfl (rcv_v f4 f5 (by decide) (by decide)) rfl rfl rfl rfl ?_
    refine CR.mono F (fun q0 h1 F => ?_) (fun _ _ w => rx_I w)
    refine wp_cast rfl F.1 rfl ?_
    replace F := F.2
    refine wp_astore (L2 := [some (vR l0), none, none, none, none, some (vI l5), some (vR l6), some (vR l7), some (vI l8), some (vR q0)]) rfl rfl rfl rfl ?_
    refine wp_aload rfl rfl rfl ?_
    obtain ⟨f6, F⟩ := F
    refine wp_getR rfl rfl rfl f6 rfl ?_
    refine wp_aload rfl rfl rfl ?_
    refine wp_acmp_ne rfl F.1 rfl rfl (fun c => ?_) (fun c => ?_)
    · replace F := F.2.1 c
      refine wp_aload rfl rfl rfl ?_
      refine wp_aload rfl rfl rfl ?_
      refine wp_iload rfl rfl rfl ?_
      obtain ⟨f7, F⟩ := F
      obtain ⟨f8, F⟩ := F
      refine wp_callI rfl rfl rfl (rcv_v f7 f8 (by decide) (by decide)) rfl rfl rfl rfl ?_
      refine CI.mono F (fun y1 h2 F => ?_) (fun _ _ w => rx_I w)
      refine wp_if_eq rfl rfl rfl rfl (fun c => ?_) (fun c => ?_)
      · replace F := F.1 c
        refine wp_iinc' (L' := [some (vR l0), none, none, none, none, some (vI l5), some (vR l6), some (vR l7), some (vI l8), none]) (y := 1) (L2 := [some (vR l0), none, none, none, none, some (vI l5), some (vR l6), some (vR l7), some (vI (l8 + 1)), none]) rfl rfl rfl rfl rfl rfl ?_
        replace F := F _ rfl
        generalize (l8 + 1 : Int32) = v0 at F ⊢
        refine wp_goto rfl rfl ?_
        exact F
      · replace F := F.2 c
        refine wp_aload rfl rfl rfl ?_
        refine wp_aload rfl rfl rfl ?_
        obtain ⟨f9, F⟩ := F
        obtain ⟨f10, F⟩ := F
        refine wp_callV rfl rfl rfl (rcv_v f9 f10 (by decide) (by decide)) rfl rfl rfl rfl ?_
        refine CV.mono F (fun h3 F => ?_) (fun _ _ w => rx_I w)
        refine wp_iinc' (L' := [some (vR l0), none, none, none, none, some (vI l5), some (vR l6), some (vR l7), some (vI l8), none]) (y := 1) (L2 := [some (vR l0), none, none, none, none, some (vI l5), some (vR l6), some (vR l7), some (vI (l8 + 1)), none]) rfl rfl rfl rfl rfl rfl ?_
        replace F := F _ rfl
        generalize (l8 + 1 : Int32) = v1 at F ⊢
        refine wp_goto rfl rfl ?_
        exact F
    · replace F := F.2.2 c
      refine wp_iinc' (L' := [some (vR l0), none, none, none, none, some (vI l5), some (vR l6), some (vR l7), some (vI l8), none]) (y := 1) (L2 := [some (vR l0), none, none, none, none, some (vI l5), some (vR l6), some (vR l7), some (vI (l8 + 1)), none]) rfl rfl rfl rfl rfl rfl ?_
      replace F := F _ rfl
      generalize (l8 + 1 : Int32) = v2 at F ⊢
      refine wp_goto rfl rfl ?_
      exact F
  · replace F := F.2 c
    refine wp_aload' (L' := [some (vR l0), none, none, none, none, none, none, some (vR l7), none, none]) rfl rfl rfl rfl ?_
    obtain ⟨f11, F⟩ := F
    obtain ⟨f12, F⟩ := F
    refine wp_callV rfl rfl rfl (rcv_v f11 f12 (by decide) (by decide)) rfl rfl rfl rfl ?_
    refine CV.mono F (fun h4 F => ?_) (fun _ _ w => rx_I w)
    refine wp_aload rfl rfl rfl ?_
    obtain ⟨f13, F⟩ := F
    refine wp_getR rfl rfl rfl f13 rfl ?_
    refine wp_aload rfl rfl rfl ?_
    obtain ⟨f14, F⟩ := F
    obtain ⟨f15, F⟩ := F
    refine wp_callI rfl rfl rfl (rcv_v f14 f15 (by decide) (by decide)) rfl rfl rfl rfl ?_
    refine CI.mono F (fun y2 h5 F => ?_) (fun _ _ w => rx_I w)
    refine wp_pop rfl rfl rfl ?_
    refine wp_aload rfl rfl rfl ?_
    obtain ⟨f16, F⟩ := F
    refine wp_getR rfl rfl rfl f16 rfl ?_
    obtain ⟨f17, F⟩ := F
    obtain ⟨f18, F⟩ := F
    refine wp_callI rfl rfl rfl (rcv_v f17 f18 (by decide) (by decide)) rfl rfl rfl rfl ?_
    refine CI.mono F (fun y3 h6 F => ?_) (fun _ _ w => rx_I w)
    refine wp_const rfl rfl ?_
    refine wp_isub rfl rfl ?_
    exact wp_retI rfl (Or.inl rfl) F
-- CensusOfficeLaw table (LCensusOffice;IIIII[J)I
theorem m265 {d : Nat} {a0 : Nat} {a1 : Int32} {a2 : Int32} {a3 : Int32} {a4 : Int32} {a5 : Int32} {a6 : Nat} {h : aH} {K : Int32 → aH → Prop} {X : Nat → aH → Prop} (F : 8 ≤ a0 ∧ gK h a0 = 1 ∧ CI d 264 [vR a0, vI a1, vI a2, vI a3, vI a4, vI a5] h (fun y0 h0 => 8 ≤ a6 ∧ inB h0 101 a6 0 0 ∧ ∀ h1 : aH, h1 = pJ h0 a6 0 (y0.toInt64) → K 0 h1) (fun x9 h9 => (x9 = 3 ∧ K 1 h9) ∨ (x9 = 1 ∧ K 2 h9) ∨ (x9 = 4 ∧ K 3 h9))) : CI (d + 1) 265 [vR a0, vI a1, vI a2, vI a3, vI a4, vI a5, vR a6] h K X := by
  show Wp (d + 1) 265 (0, [some (vR a0), some (vI a1), some (vI a2), some (vI a3), some (vI a4), some (vI a5), some (vR a6), none], [], h) (RI K X)
  refine wp_aload rfl rfl rfl ?_
  refine wp_const rfl rfl ?_
  refine wp_aload rfl rfl rfl ?_
  refine wp_iload rfl rfl rfl ?_
  refine wp_iload rfl rfl rfl ?_
  refine wp_iload rfl rfl rfl ?_
  refine wp_iload rfl rfl rfl ?_
  refine wp_iload rfl rfl rfl ?_
  obtain ⟨f0, F⟩ := F
  obtain ⟨f1, F⟩ := F
  refine wp_callhI (X := (fun x9 h9 => (x9 = 3 ∧ K 1 h9) ∨ (x9 = 1 ∧ K 2 h9) ∨ (x9 = 4 ∧ K 3 h9))) rfl rfl rfl (rcv_v f0 f1 (by decide) (by decide)) rfl rfl rfl (fun x9 h9 F => ?_) ?_
  · rcases F with ⟨rfl, F⟩ | ⟨rfl, F⟩ | ⟨rfl, F⟩
    · refine ⟨19, rfl, ?_⟩
      refine wp_astoreJ' (L' := [none, none, none, none, none, none, none, none]) (L2 := [none, none, none, none, none, none, none, some vJ]) rfl rfl rfl rfl rfl ?_
      refine wp_const rfl rfl ?_
      exact wp_retI rfl (Or.inl rfl) F
    · refine ⟨23, rfl, ?_⟩
      refine wp_astoreJ' (L' := [none, none, none, none, none, none, none, none]) (L2 := [none, none, none, none, none, none, none, some vJ]) rfl rfl rfl rfl rfl ?_
      refine wp_const rfl rfl ?_
      exact wp_retI rfl (Or.inl rfl) F
    · refine ⟨27, rfl, ?_⟩
      refine wp_astoreJ' (L' := [none, none, none, none, none, none, none, none]) (L2 := [none, none, none, none, none, none, none, some vJ]) rfl rfl rfl rfl rfl ?_
      refine wp_const rfl rfl ?_
      exact wp_retI rfl (Or.inl rfl) F
  · refine CI.mono F (fun y0 h0 F => ?_) (fun _ _ w => w)
    refine wp_i2l rfl rfl ?_
    obtain ⟨f2, F⟩ := F
    obtain ⟨b9, F⟩ := F
    refine wp_lastore rfl f2 b9 rfl ?_
    replace F := F _ rfl
    generalize pJ h0 a6 0 (y0.toInt64) = h1 at F ⊢
    refine wp_goto rfl rfl ?_
    refine wp_const' (L' := [none, none, none, none, none, none, none, none]) rfl rfl rfl ?_
    exact wp_retI rfl (Or.inl rfl) F
-- CensusOfficeModel table (IIIII)I
theorem m266 {d : Nat} {a0 : Nat} {a1 : Int32} {a2 : Int32} {a3 : Int32} {a4 : Int32} {a5 : Int32} {h : aH} {K : Int32 → aH → Prop} {X : Nat → aH → Prop} (F : 8 ≤ a0 ∧ gK h a0 = 14 ∧ ∀ h0 : aH, h0 = pI h a0 0 0 → CI d 125 [vR a0, vI a1, vI a2] h0 (fun y0 h1 => ((y0.toInt = 0 → gK h1 a0 = 14 ∧ CI d 15 [vR a0, vI 1] h1 (fun y1 h2 => K y1 h2) X) ∧ (¬ y0.toInt = 0 → gK h1 a0 = 14 ∧ CI d 125 [vR a0, vI a1, vI a3] h1 (fun y2 h3 => ((y2.toInt = 0 → gK h3 a0 = 14 ∧ CI d 15 [vR a0, vI 1] h3 (fun y3 h4 => K y3 h4) X) ∧ (¬ y2.toInt = 0 → ((a4.toInt = (-1) → Wp (d + 1) 266 (39, [some (vR a0), some (vI a1), some (vI a2), some (vI a3), some (vI a4), some (vI a5), none, none, none, none, none, none, none, none], [], h3) (RI K X)) ∧ (¬ a4.toInt = (-1) → gK h3 a0 = 14 ∧ CI d 125 [vR a0, vI a1, vI a4] h3 (fun y4 h5 => ((y4.toInt = 0 → gK h5 a0 = 14 ∧ CI d 15 [vR a0, vI 1] h5 (fun y5 h6 => K y5 h6) X) ∧ (¬ y4.toInt = 0 → Wp (d + 1) 266 (39, [some (vR a0), some (vI a1), some (vI a2), some (vI a3), some (vI a4), some (vI a5), none, none, none, none, none, none, none, none], [], h5) (RI K X)))) X))))) X))) X) : CI (d + 1) 266 [vR a0, vI a1, vI a2, vI a3, vI a4, vI a5] h K X := by
  show Wp (d + 1) 266 (0, [some (vR a0), some (vI a1), some (vI a2), some (vI a3), some (vI a4), some (vI a5), none, none, none, none, none, none, none, none], [], h) (RI K X)
  refine wp_aload rfl rfl rfl ?_
  refine wp_const rfl rfl ?_
  obtain ⟨f0, F⟩ := F
  obtain ⟨f1, F⟩ := F
  refine wp_putI rfl rfl rfl f0 f1 rfl ?_
  have f2 : gK (pI h a0 0 0) a0 = 14 := (gK_pI _ _ _ _ _).trans f1
  replace F := F _ rfl
  generalize pI h a0 0 0 = h0 at F f2 ⊢
  refine wp_aload rfl rfl rfl ?_
  refine wp_iload rfl rfl rfl ?_
  refine wp_iload rfl rfl rfl ?_
  refine wp_callI rfl rfl rfl (rcv_v f0 f2 (by decide) (by decide)) rfl rfl rfl rfl ?_
  refine CI.mono F (fun y0 h1 F => ?_) (fun _ _ w => rx_I w)
  refine wp_if_eq rfl rfl rfl rfl (fun c => ?_) (fun c => ?_)
  · replace F := F.1 c
    refine wp_aload' (L' := [some (vR a0), none, none, none, none, none, none, none, none, none, none, none, none, none]) rfl rfl rfl rfl ?_
    refine wp_const rfl rfl ?_
    obtain ⟨f3, F⟩ := F
    refine wp_callI rfl rfl rfl (rcv_v f0 f3 (by decide) (by decide)) rfl rfl rfl rfl ?_
    refine CI.mono F (fun y1 h2 F => ?_) (fun _ _ w => rx_I w)
    exact wp_retI rfl (Or.inl rfl) F
  · replace F := F.2 c
    refine wp_aload rfl rfl rfl ?_
    refine wp_iload rfl rfl rfl ?_
    refine wp_iload rfl rfl rfl ?_
    obtain ⟨f4, F⟩ := F
    refine wp_callI rfl rfl rfl (rcv_v f0 f4 (by decide) (by decide)) rfl rfl rfl rfl ?_
    refine CI.mono F (fun y2 h3 F => ?_) (fun _ _ w => rx_I w)
    refine wp_if_eq rfl rfl rfl rfl (fun c => ?_) (fun c => ?_)
    · replace F := F.1 c
      refine wp_aload' (L' := [some (vR a0), none, none, none, none, none, none, none, none, none, none, none, none, none]) rfl rfl rfl rfl ?_
      refine wp_const rfl rfl ?_
      obtain ⟨f5, F⟩ := F
      refine wp_callI rfl rfl rfl (rcv_v f0 f5 (by decide) (by decide)) rfl rfl rfl rfl ?_
      refine CI.mono F (fun y3 h4 F => ?_) (fun _ _ w => rx_I w)
      exact wp_retI rfl (Or.inl rfl) F
    · replace F := F.2 c
      refine wp_iload rfl rfl rfl ?_
      refine wp_const rfl rfl ?_
      refine wp_icmp_eq (Y := (-1)) rfl rfl rfl rfl rfl (fun c => ?_) (fun c => ?_)
      · replace F := F.1 c
        exact F
      · replace F := F.2 c
        refine wp_aload rfl rfl rfl ?_
        refine wp_iload rfl rfl rfl ?_
        refine wp_iload rfl rfl rfl ?_
        obtain ⟨f6, F⟩ := F
        refine wp_callI rfl rfl rfl (rcv_v f0 f6 (by decide) (by decide)) rfl rfl rfl rfl ?_
        refine CI.mono F (fun y4 h5 F => ?_) (fun _ _ w => rx_I w)
        refine wp_if_eq rfl rfl rfl rfl (fun c => ?_) (fun c => ?_)
        · replace F := F.1 c
          refine wp_aload' (L' := [some (vR a0), none, none, none, none, none, none, none, none, none, none, none, none, none]) rfl rfl rfl rfl ?_
          refine wp_const rfl rfl ?_
          obtain ⟨f7, F⟩ := F
          refine wp_callI rfl rfl rfl (rcv_v f0 f7 (by decide) (by decide)) rfl rfl rfl rfl ?_
          refine CI.mono F (fun y5 h6 F => ?_) (fun _ _ w => rx_I w)
          exact wp_retI rfl (Or.inl rfl) F
        · replace F := F.2 c
          exact F
theorem w266_39 {d : Nat} {l0 : Nat} {l1 : Int32} {l2 : Int32} {l3 : Int32} {l4 : Int32} {l5 : Int32} {h : aH} {K : Int32 → aH → Prop} {X : Nat → aH → Prop} (F : ((l5.toInt = (-1) → Wp (d + 1) 266 (60, [some (vR l0), some (vI l1), some (vI l2), some (vI l3), some (vI l4), some (vI l5), none, none, none, none, none, none, none, none], [], h) (RI K X)) ∧ (¬ l5.toInt = (-1) → 8 ≤ l0 ∧ gK h l0 = 14 ∧ CI d 246 [vR l0, vI l5] h (fun y0 h0 => ((y0.toInt = 0 → gK h0 l0 = 14 ∧ CI d 15 [vR l0, vI 1] h0 (fun y1 h1 => K y1 h1) X) ∧ (¬ y0.toInt = 0 → Wp (d + 1) 266 (60, [some (vR l0), some (vI l1), some (vI l2), some (vI l3), some (vI l4), some (vI l5), none, none, none, none, none, none, none, none], [], h0) (RI K X)))) X))) : Wp (d + 1) 266 (39, [some (vR l0), some (vI l1), some (vI l2), some (vI l3), some (vI l4), some (vI l5), none, none, none, none, none, none, none, none], [], h) (RI K X) := by
  refine wp_iload' (L' := [some (vR l0), some (vI l1), some (vI l2), some (vI l3), some (vI l4), some (vI l5), none, none, none, none, none, none, none, none]) rfl rfl rfl rfl ?_
  refine wp_const rfl rfl ?_
  refine wp_icmp_eq (Y := (-1)) rfl rfl rfl rfl rfl (fun c => ?_) (fun c => ?_)
  · replace F := F.1 c
    exact F
  · replace F := F.2 c
    refine wp_aload rfl rfl rfl ?_
    refine wp_iload rfl rfl rfl ?_
    obtain ⟨f0, F⟩ := F
    obtain ⟨f1, F⟩ := F
    refine wp_callI rfl rfl rfl (rcv_v f0 f1 (by decide) (by decide)) rfl rfl rfl rfl ?_
    refine CI.mono F (fun y0 h0 F => ?_) (fun _ _ w => rx_I w)
    refine wp_if_ne rfl rfl rfl rfl (fun c => ?_) (fun c => ?_)
    · replace F := F.1 c
      refine wp_aload' (L' := [some (vR l0), none, none, none, none, none, none, none, none, none, none, none, none, none]) rfl rfl rfl rfl ?_
      refine wp_const rfl rfl ?_
      obtain ⟨f2, F⟩ := F
      refine wp_callI rfl rfl rfl (rcv_v f0 f2 (by decide) (by decide)) rfl rfl rfl rfl ?_
      refine CI.mono F (fun y1 h1 F => ?_) (fun _ _ w => rx_I w)
      exact wp_retI rfl (Or.inl rfl) F
    · replace F := F.2 c
      exact F
theorem w266_60 {d : Nat} {l0 : Nat} {l1 : Int32} {l2 : Int32} {l3 : Int32} {l4 : Int32} {l5 : Int32} {h : aH} {K : Int32 → aH → Prop} {X : Nat → aH → Prop} (F : ∀ v0 : Int32, v0 = 20 * l1 → 8 ≤ l0 ∧ gK h l0 = 14 ∧ CI d 186 [vR l0, vI l1, vI l2] h (fun y0 h0 => ((y0.toInt = 0 → gK h0 l0 = 14 ∧ CI d 15 [vR l0, vI 2] h0 (fun y1 h1 => K y1 h1) X) ∧ (¬ y0.toInt = 0 → gK h0 l0 = 14 ∧ CI d 186 [vR l0, vI l1, vI l3] h0 (fun y2 h2 => ((y2.toInt = 0 → gK h2 l0 = 14 ∧ CI d 15 [vR l0, vI 2] h2 (fun y3 h3 => K y3 h3) X) ∧ (¬ y2.toInt = 0 → ((l2.toInt = l3.toInt → gK h2 l0 = 14 ∧ CI d 15 [vR l0, vI 2] h2 (fun y4 h4 => K y4 h4) X) ∧ (¬ l2.toInt = l3.toInt → ((l4.toInt = (-1) → Wp (d + 1) 266 (109, [some (vR l0), some (vI l1), some (vI l2), some (vI l3), some (vI l4), some (vI l5), some (vI v0), none, none, none, none, none, none, none], [], h2) (RI K X)) ∧ (¬ l4.toInt = (-1) → gK h2 l0 = 14 ∧ ∃ i0 : Nat, inB h2 100 (gR h2 l0 16) (v0 + l4) i0 ∧ ((1 < (gI h2 (gR h2 l0 16) i0).toInt → CI d 15 [vR l0, vI 2] h2 (fun y5 h5 => K y5 h5) X) ∧ (¬ 1 < (gI h2 (gR h2 l0 16) i0).toInt → Wp (d + 1) 266 (109, [some (vR l0), some (vI l1), some (vI l2), some (vI l3), some (vI l4), some (vI l5), some (vI v0), none, none, none, none, none, none, none], [], h2) (RI K X)))))))))) X))) X) : Wp (d + 1) 266 (60, [some (vR l0), some (vI l1), some (vI l2), some (vI l3), some (vI l4), some (vI l5), none, none, none, none, none, none, none, none], [], h) (RI K X) := by
  refine wp_const' (L' := [some (vR l0), some (vI l1), some (vI l2), some (vI l3), some (vI l4), some (vI l5), none, none, none, none, none, none, none, none]) rfl rfl rfl ?_
  refine wp_iload rfl rfl rfl ?_
  refine wp_imul rfl rfl ?_
  replace F := F _ rfl
  generalize (20 * l1 : Int32) = v0 at F ⊢
  refine wp_istore (L2 := [some (vR l0), some (vI l1), some (vI l2), some (vI l3), some (vI l4), some (vI l5), some (vI v0), none, none, none, none, none, none, none]) rfl rfl rfl rfl ?_
  refine wp_aload rfl rfl rfl ?_
  refine wp_iload rfl rfl rfl ?_
  refine wp_iload rfl rfl rfl ?_
  obtain ⟨f0, F⟩ := F
  obtain ⟨f1, F⟩ := F
  refine wp_callI rfl rfl rfl (rcv_v f0 f1 (by decide) (by decide)) rfl rfl rfl rfl ?_
  refine CI.mono F (fun y0 h0 F => ?_) (fun _ _ w => rx_I w)
  refine wp_if_eq rfl rfl rfl rfl (fun c => ?_) (fun c => ?_)
  · replace F := F.1 c
    refine wp_aload' (L' := [some (vR l0), none, none, none, none, none, none, none, none, none, none, none, none, none]) rfl rfl rfl rfl ?_
    refine wp_const rfl rfl ?_
    obtain ⟨f2, F⟩ := F
    refine wp_callI rfl rfl rfl (rcv_v f0 f2 (by decide) (by decide)) rfl rfl rfl rfl ?_
    refine CI.mono F (fun y1 h1 F => ?_) (fun _ _ w => rx_I w)
    exact wp_retI rfl (Or.inl rfl) F
  · replace F := F.2 c
    refine wp_aload rfl rfl rfl ?_
    refine wp_iload rfl rfl rfl ?_
    refine wp_iload rfl rfl rfl ?_
    obtain ⟨f3, F⟩ := F
    refine wp_callI rfl rfl rfl (rcv_v f0 f3 (by decide) (by decide)) rfl rfl rfl rfl ?_
    refine CI.mono F (fun y2 h2 F => ?_) (fun _ _ w => rx_I w)
    refine wp_if_eq rfl rfl rfl rfl (fun c => ?_) (fun c => ?_)
    · replace F := F.1 c
      refine wp_aload' (L' := [some (vR l0), none, none, none, none, none, none, none, none, none, none, none, none, none]) rfl rfl rfl rfl ?_
      refine wp_const rfl rfl ?_
      obtain ⟨f4, F⟩ := F
      refine wp_callI rfl rfl rfl (rcv_v f0 f4 (by decide) (by decide)) rfl rfl rfl rfl ?_
      refine CI.mono F (fun y3 h3 F => ?_) (fun _ _ w => rx_I w)
      exact wp_retI rfl (Or.inl rfl) F
    · replace F := F.2 c
      refine wp_iload rfl rfl rfl ?_
      refine wp_iload rfl rfl rfl ?_
      refine wp_icmp_eq rfl rfl rfl rfl rfl (fun c => ?_) (fun c => ?_)
      · replace F := F.1 c
        refine wp_aload' (L' := [some (vR l0), none, none, none, none, none, none, none, none, none, none, none, none, none]) rfl rfl rfl rfl ?_
        refine wp_const rfl rfl ?_
        obtain ⟨f5, F⟩ := F
        refine wp_callI rfl rfl rfl (rcv_v f0 f5 (by decide) (by decide)) rfl rfl rfl rfl ?_
        refine CI.mono F (fun y4 h4 F => ?_) (fun _ _ w => rx_I w)
        exact wp_retI rfl (Or.inl rfl) F
      · replace F := F.2 c
        refine wp_iload rfl rfl rfl ?_
        refine wp_const rfl rfl ?_
        refine wp_icmp_eq (Y := (-1)) rfl rfl rfl rfl rfl (fun c => ?_) (fun c => ?_)
        · replace F := F.1 c
          exact F
        · replace F := F.2 c
          refine wp_aload rfl rfl rfl ?_
          obtain ⟨f6, F⟩ := F
          refine wp_getR rfl rfl rfl f6 rfl ?_
          refine wp_iload rfl rfl rfl ?_
          refine wp_iload rfl rfl rfl ?_
          refine wp_iadd rfl rfl ?_
          obtain ⟨i0, b9, F⟩ := F
          refine wp_iaload rfl b9 rfl ?_
          refine wp_const rfl rfl ?_
          refine wp_icmp_gt (Y := 1) rfl rfl rfl rfl rfl (fun c => ?_) (fun c => ?_)
          · replace F := F.1 c
            refine wp_aload' (L' := [some (vR l0), none, none, none, none, none, none, none, none, none, none, none, none, none]) rfl rfl rfl rfl ?_
            refine wp_const rfl rfl ?_
            refine wp_callI rfl rfl rfl (rcv_v f0 f6 (by decide) (by decide)) rfl rfl rfl rfl ?_
            refine CI.mono F (fun y5 h5 F => ?_) (fun _ _ w => rx_I w)
            exact wp_retI rfl (Or.inl rfl) F
          · replace F := F.2 c
            exact F
theorem w266_109 {d : Nat} {l0 : Nat} {l1 : Int32} {l2 : Int32} {l3 : Int32} {l4 : Int32} {l5 : Int32} {l6 : Int32} {h : aH} {K : Int32 → aH → Prop} {X : Nat → aH → Prop} (F : gK h l0 = 14 ∧ ∃ i0 : Nat, inB h 100 (gR h l0 19) (l6 + l2) i0 ∧ ∃ i1 : Nat, inB h 100 (gR h l0 18) (l6 + l2) i1 ∧ ((3 < ((gI h (gR h l0 19) i0) - (gI h (gR h l0 18) i1)).toInt → 8 ≤ l0 ∧ CI d 15 [vR l0, vI 2] h (fun y0 h0 => K y0 h0) X) ∧ (¬ 3 < ((gI h (gR h l0 19) i0) - (gI h (gR h l0 18) i1)).toInt → ∃ i2 : Nat, inB h 100 (gR h l0 19) (l6 + l3) i2 ∧ ∃ i3 : Nat, inB h 100 (gR h l0 18) (l6 + l3) i3 ∧ ((2 < ((gI h (gR h l0 19) i2) - (gI h (gR h l0 18) i3)).toInt → 8 ≤ l0 ∧ CI d 15 [vR l0, vI 2] h (fun y1 h1 => K y1 h1) X) ∧ (¬ 2 < ((gI h (gR h l0 19) i2) - (gI h (gR h l0 18) i3)).toInt → (((gI h l0 69).toInt = 12 → 8 ≤ l0 ∧ CI d 15 [vR l0, vI 3] h (fun y2 h2 => K y2 h2) X) ∧ (¬ (gI h l0 69).toInt = 12 → ∀ v0 : Int32, v0 = gI h l0 69 → ∃ i4 : Nat, inB h 100 (gR h l0 19) (l6 + l2) i4 ∧ ∃ i5 : Nat, inB h 100 (gR h l0 18) (l6 + l2) i5 ∧ 8 ≤ (gR h l0 70) ∧ ∃ i6 : Nat, inB h 100 (gR h l0 70) v0 i6 ∧ ∀ h3 : aH, h3 = pI h (gR h l0 70) i6 (((gI h (gR h l0 19) i4) - (gI h (gR h l0 18) i5)) + 1) → ∃ i7 : Nat, inB h3 100 (gR h3 l0 19) (l6 + l3) i7 ∧ ∃ i8 : Nat, inB h3 100 (gR h3 l0 18) (l6 + l3) i8 ∧ 8 ≤ (gR h3 l0 71) ∧ ∃ i9 : Nat, inB h3 100 (gR h3 l0 71) v0 i9 ∧ ∀ h4 : aH, h4 = pI h3 (gR h3 l0 71) i9 (((gI h3 (gR h3 l0 19) i7) - (gI h3 (gR h3 l0 18) i8)) + 1) → 8 ≤ (gR h4 l0 76) ∧ ∃ i10 : Nat, inB h4 102 (gR h4 l0 76) v0 i10 ∧ ∀ h5 : aH, h5 = pI h4 (gR h4 l0 76) i10 (0 &&& 1) → 8 ≤ (gR h5 l0 77) ∧ ∃ i11 : Nat, inB h5 100 (gR h5 l0 77) v0 i11 ∧ ∀ h6 : aH, h6 = pI h5 (gR h5 l0 77) i11 0 → 8 ≤ (gR h6 l0 78) ∧ ∃ i12 : Nat, inB h6 100 (gR h6 l0 78) v0 i12 ∧ ∀ h7 : aH, h7 = pI h6 (gR h6 l0 78) i12 0 → Wp (d + 1) 266 (265, [some (vR l0), some (vI l1), some (vI l2), some (vI l3), some (vI l4), some (vI l5), some (vI l6), some (vI v0), some (vI 0), none, none, none, none, none], [], h7) (RI K X)))))))) : Wp (d + 1) 266 (109, [some (vR l0), some (vI l1), some (vI l2), some (vI l3), some (vI l4), some (vI l5), some (vI l6), none, none, none, none, none, none, none], [], h) (RI K X) := by
  refine wp_aload' (L' := [some (vR l0), some (vI l1), some (vI l2), some (vI l3), some (vI l4), some (vI l5), some (vI l6), none, none, none, none, none, none, none]) rfl rfl rfl rfl ?_
  obtain ⟨f0, F⟩ := F
  refine wp_getR rfl rfl rfl f0 rfl ?_
  refine wp_iload rfl rfl rfl ?_
  refine wp_iload rfl rfl rfl ?_
  refine wp_iadd rfl rfl ?_
  obtain ⟨i0, b9, F⟩ := F
  refine wp_iaload rfl b9 rfl ?_
  refine wp_aload rfl rfl rfl ?_
  refine wp_getR rfl rfl rfl f0 rfl ?_
  refine wp_iload rfl rfl rfl ?_
  refine wp_iload rfl rfl rfl ?_
  refine wp_iadd rfl rfl ?_
  obtain ⟨i1, b9, F⟩ := F
  refine wp_iaload rfl b9 rfl ?_
  refine wp_isub rfl rfl ?_
  refine wp_const rfl rfl ?_
  refine wp_icmp_gt (Y := 3) rfl rfl rfl rfl rfl (fun c => ?_) (fun c => ?_)
  · replace F := F.1 c
    refine wp_aload' (L' := [some (vR l0), none, none, none, none, none, none, none, none, none, none, none, none, none]) rfl rfl rfl rfl ?_
    refine wp_const rfl rfl ?_
    obtain ⟨f1, F⟩ := F
    refine wp_callI rfl rfl rfl (rcv_v f1 f0 (by decide) (by decide)) rfl rfl rfl rfl ?_
    refine CI.mono F (fun y0 h0 F => ?_) (fun _ _ w => rx_I w)
    exact wp_retI rfl (Or.inl rfl) F
  · replace F := F.2 c
    refine wp_aload rfl rfl rfl ?_
    refine wp_getR rfl rfl rfl f0 rfl ?_
    refine wp_iload rfl rfl rfl ?_
    refine wp_iload rfl rfl rfl ?_
    refine wp_iadd rfl rfl ?_
    obtain ⟨i2, b9, F⟩ := F
    refine wp_iaload rfl b9 rfl ?_
    refine wp_aload rfl rfl rfl ?_
    refine wp_getR rfl rfl rfl f0 rfl ?_
    refine wp_iload rfl rfl rfl ?_
    refine wp_iload rfl rfl rfl ?_
    refine wp_iadd rfl rfl ?_
    obtain ⟨i3, b9, F⟩ := F
    refine wp_iaload rfl b9 rfl ?_
    refine wp_isub rfl rfl ?_
    refine wp_const rfl rfl ?_
    refine wp_icmp_le (Y := 2) rfl rfl rfl rfl rfl (fun c => ?_) (fun c => ?_)
    · replace F := F.1 c
      refine wp_aload' (L' := [some (vR l0), none, none, none, none, none, none, none, none, none, none, none, none, none]) rfl rfl rfl rfl ?_
      refine wp_const rfl rfl ?_
      obtain ⟨f2, F⟩ := F
      refine wp_callI rfl rfl rfl (rcv_v f2 f0 (by decide) (by decide)) rfl rfl rfl rfl ?_
      refine CI.mono F (fun y1 h1 F => ?_) (fun _ _ w => rx_I w)
      exact wp_retI rfl (Or.inl rfl) F
    · replace F := F.2 c
      refine wp_aload' (L' := [some (vR l0), some (vI l1), some (vI l2), some (vI l3), some (vI l4), some (vI l5), some (vI l6), none, none, none, none, none, none, none]) rfl rfl rfl rfl ?_
      refine wp_getI rfl rfl rfl f0 rfl ?_
      refine wp_const rfl rfl ?_
      refine wp_icmp_ne (Y := 12) rfl rfl rfl rfl rfl (fun c => ?_) (fun c => ?_)
      · replace F := F.1 c
        refine wp_aload rfl rfl rfl ?_
        refine wp_const rfl rfl ?_
        obtain ⟨f3, F⟩ := F
        refine wp_callI rfl rfl rfl (rcv_v f3 f0 (by decide) (by decide)) rfl rfl rfl rfl ?_
        refine CI.mono F (fun y2 h2 F => ?_) (fun _ _ w => rx_I w)
        exact wp_retI rfl (Or.inl rfl) F
      · replace F := F.2 c
        refine wp_aload' (L' := [some (vR l0), some (vI l1), some (vI l2), some (vI l3), some (vI l4), some (vI l5), some (vI l6), none, none, none, none, none, none, none]) rfl rfl rfl rfl ?_
        refine wp_getI rfl rfl rfl f0 rfl ?_
        replace F := F _ rfl
        generalize (gI h l0 69 : Int32) = v0 at F ⊢
        refine wp_istore (L2 := [some (vR l0), some (vI l1), some (vI l2), some (vI l3), some (vI l4), some (vI l5), some (vI l6), some (vI v0), none, none, none, none, none, none]) rfl rfl rfl rfl ?_
        refine wp_aload rfl rfl rfl ?_
        refine wp_getR rfl rfl rfl f0 rfl ?_
        refine wp_iload rfl rfl rfl ?_
        refine wp_aload rfl rfl rfl ?_
        refine wp_getR rfl rfl rfl f0 rfl ?_
        refine wp_iload rfl rfl rfl ?_
        refine wp_iload rfl rfl rfl ?_
        refine wp_iadd rfl rfl ?_
        obtain ⟨i4, b9, F⟩ := F
        refine wp_iaload rfl b9 rfl ?_
        refine wp_aload rfl rfl rfl ?_
        refine wp_getR rfl rfl rfl f0 rfl ?_
        refine wp_iload rfl rfl rfl ?_
        refine wp_iload rfl rfl rfl ?_
        refine wp_iadd rfl rfl ?_
        obtain ⟨i5, b9, F⟩ := F
        refine wp_iaload rfl b9 rfl ?_
        refine wp_isub rfl rfl ?_
        refine wp_const rfl rfl ?_
        refine wp_iadd rfl rfl ?_
        obtain ⟨f4, F⟩ := F
        obtain ⟨i6, b9, F⟩ := F
        refine wp_iastore rfl f4 b9 rfl ?_
        have f5 : gK (pI h (gR h l0 70) i6 (((gI h (gR h l0 19) i4) - (gI h (gR h l0 18) i5)) + 1)) l0 = 14 := (gK_pI _ _ _ _ _).trans f0
        replace F := F _ rfl
        generalize pI h (gR h l0 70) i6 (((gI h (gR h l0 19) i4) - (gI h (gR h l0 18) i5)) + 1) = h3 at F f5 ⊢
        refine wp_aload rfl rfl rfl ?_
        refine wp_getR rfl rfl rfl f5 rfl ?_
        refine wp_iload rfl rfl rfl ?_
        refine wp_aload rfl rfl rfl ?_
        refine wp_getR rfl rfl rfl f5 rfl ?_
        refine wp_iload rfl rfl rfl ?_
        refine wp_iload rfl rfl rfl ?_
        refine wp_iadd rfl rfl ?_
        obtain ⟨i7, b9, F⟩ := F
        refine wp_iaload rfl b9 rfl ?_
        refine wp_aload rfl rfl rfl ?_
        refine wp_getR rfl rfl rfl f5 rfl ?_
        refine wp_iload rfl rfl rfl ?_
        refine wp_iload rfl rfl rfl ?_
        refine wp_iadd rfl rfl ?_
        obtain ⟨i8, b9, F⟩ := F
        refine wp_iaload rfl b9 rfl ?_
        refine wp_isub rfl rfl ?_
        refine wp_const rfl rfl ?_
        refine wp_iadd rfl rfl ?_
        obtain ⟨f6, F⟩ := F
        obtain ⟨i9, b9, F⟩ := F
        refine wp_iastore rfl f6 b9 rfl ?_
        have f7 : gK (pI h3 (gR h3 l0 71) i9 (((gI h3 (gR h3 l0 19) i7) - (gI h3 (gR h3 l0 18) i8)) + 1)) l0 = 14 := (gK_pI _ _ _ _ _).trans f5
        replace F := F _ rfl
        generalize pI h3 (gR h3 l0 71) i9 (((gI h3 (gR h3 l0 19) i7) - (gI h3 (gR h3 l0 18) i8)) + 1) = h4 at F f7 ⊢
        refine wp_aload rfl rfl rfl ?_
        refine wp_getR rfl rfl rfl f7 rfl ?_
        refine wp_iload rfl rfl rfl ?_
        refine wp_const rfl rfl ?_
        obtain ⟨f8, F⟩ := F
        obtain ⟨i10, b9, F⟩ := F
        refine wp_zastore rfl f8 b9 rfl ?_
        have f9 : gK (pI h4 (gR h4 l0 76) i10 (0 &&& 1)) l0 = 14 := (gK_pI _ _ _ _ _).trans f7
        replace F := F _ rfl
        generalize pI h4 (gR h4 l0 76) i10 (0 &&& 1) = h5 at F f9 ⊢
        refine wp_aload rfl rfl rfl ?_
        refine wp_getR rfl rfl rfl f9 rfl ?_
        refine wp_iload rfl rfl rfl ?_
        refine wp_const rfl rfl ?_
        obtain ⟨f10, F⟩ := F
        obtain ⟨i11, b9, F⟩ := F
        refine wp_iastore rfl f10 b9 rfl ?_
        have f11 : gK (pI h5 (gR h5 l0 77) i11 0) l0 = 14 := (gK_pI _ _ _ _ _).trans f9
        replace F := F _ rfl
        generalize pI h5 (gR h5 l0 77) i11 0 = h6 at F f11 ⊢
        refine wp_aload rfl rfl rfl ?_
        refine wp_getR rfl rfl rfl f11 rfl ?_
        refine wp_iload rfl rfl rfl ?_
        refine wp_const rfl rfl ?_
        obtain ⟨f12, F⟩ := F
        obtain ⟨i12, b9, F⟩ := F
        refine wp_iastore rfl f12 b9 rfl ?_
        have f13 : gK (pI h6 (gR h6 l0 78) i12 0) l0 = 14 := (gK_pI _ _ _ _ _).trans f11
        replace F := F _ rfl
        generalize pI h6 (gR h6 l0 78) i12 0 = h7 at F f13 ⊢
        refine wp_const rfl rfl ?_
        refine wp_istore (L2 := [some (vR l0), some (vI l1), some (vI l2), some (vI l3), some (vI l4), some (vI l5), some (vI l6), some (vI v0), some (vI 0), none, none, none, none, none]) rfl rfl rfl rfl ?_
        exact F
theorem w266_265 {d : Nat} {l0 : Nat} {l1 : Int32} {l2 : Int32} {l3 : Int32} {l4 : Int32} {l5 : Int32} {l6 : Int32} {l7 : Int32} {l8 : Int32} {h : aH} {K : Int32 → aH → Prop} {X : Nat → aH → Prop} (F : ((l8.toInt < 12 → gK h l0 = 14 ∧ 8 ≤ (gR h l0 72) ∧ ∃ i0 : Nat, inB h 100 (gR h l0 72) ((12 * l7) + l8) i0 ∧ ∀ h0 : aH, h0 = pI h (gR h l0 72) i0 0 → 8 ≤ (gR h0 l0 73) ∧ ∃ i1 : Nat, inB h0 100 (gR h0 l0 73) ((12 * l7) + l8) i1 ∧ ∀ h1 : aH, h1 = pI h0 (gR h0 l0 73) i1 0 → 8 ≤ (gR h1 l0 74) ∧ ∃ i2 : Nat, inB h1 100 (gR h1 l0 74) ((12 * l7) + l8) i2 ∧ ∀ h2 : aH, h2 = pI h1 (gR h1 l0 74) i2 0 → ∀ v0 : Int32, v0 = l8 + 1 → Wp (d + 1) 266 (265, [some (vR l0), some (vI l1), some (vI l2), some (vI l3), some (vI l4), some (vI l5), some (vI l6), some (vI l7), some (vI v0), none, none, none, none, none], [], h2) (RI K X)) ∧ (¬ l8.toInt < 12 → Wp (d + 1) 266 (323, [some (vR l0), some (vI l1), some (vI l2), some (vI l3), some (vI l4), some (vI l5), some (vI l6), some (vI l7), some (vI 0), none, none, none, none, none], [], h) (RI K X)))) : Wp (d + 1) 266 (265, [some (vR l0), some (vI l1), some (vI l2), some (vI l3), some (vI l4), some (vI l5), some (vI l6), some (vI l7), some (vI l8), none, none, none, none, none], [], h) (RI K X) := by
  refine wp_iload' (L' := [some (vR l0), some (vI l1), some (vI l2), some (vI l3), some (vI l4), some (vI l5), some (vI l6), some (vI l7), some (vI l8), none, none, none, none, none]) rfl rfl rfl rfl ?_
  refine wp_const rfl rfl ?_
  refine wp_icmp_ge (Y := 12) rfl rfl rfl rfl rfl (fun c => ?_) (fun c => ?_)
  · replace F := F.1 c
    refine wp_aload rfl rfl rfl ?_
    obtain ⟨f0, F⟩ := F
    refine wp_getR rfl rfl rfl f0 rfl ?_
    refine wp_const rfl rfl ?_
    refine wp_iload rfl rfl rfl ?_
    refine wp_imul rfl rfl ?_
    refine wp_iload rfl rfl rfl ?_
    refine wp_iadd rfl rfl ?_
    refine wp_const rfl rfl ?_
    obtain ⟨f1, F⟩ := F
    obtain ⟨i0, b9, F⟩ := F
    refine wp_iastore rfl f1 b9 rfl ?_
    have f2 : gK (pI h (gR h l0 72) i0 0) l0 = 14 := (gK_pI _ _ _ _ _).trans f0
    replace F := F _ rfl
    generalize pI h (gR h l0 72) i0 0 = h0 at F f2 ⊢
    refine wp_aload rfl rfl rfl ?_
    refine wp_getR rfl rfl rfl f2 rfl ?_
    refine wp_const rfl rfl ?_
    refine wp_iload rfl rfl rfl ?_
    refine wp_imul rfl rfl ?_
    refine wp_iload rfl rfl rfl ?_
    refine wp_iadd rfl rfl ?_
    refine wp_const rfl rfl ?_
    obtain ⟨f3, F⟩ := F
    obtain ⟨i1, b9, F⟩ := F
    refine wp_iastore rfl f3 b9 rfl ?_
    have f4 : gK (pI h0 (gR h0 l0 73) i1 0) l0 = 14 := (gK_pI _ _ _ _ _).trans f2
    replace F := F _ rfl
    generalize pI h0 (gR h0 l0 73) i1 0 = h1 at F f4 ⊢
    refine wp_aload rfl rfl rfl ?_
    refine wp_getR rfl rfl rfl f4 rfl ?_
    refine wp_const rfl rfl ?_
    refine wp_iload rfl rfl rfl ?_
    refine wp_imul rfl rfl ?_
    refine wp_iload rfl rfl rfl ?_
    refine wp_iadd rfl rfl ?_
    refine wp_const rfl rfl ?_
    obtain ⟨f5, F⟩ := F
    obtain ⟨i2, b9, F⟩ := F
    refine wp_iastore rfl f5 b9 rfl ?_
    have f6 : gK (pI h1 (gR h1 l0 74) i2 0) l0 = 14 := (gK_pI _ _ _ _ _).trans f4
    replace F := F _ rfl
    generalize pI h1 (gR h1 l0 74) i2 0 = h2 at F f6 ⊢
    refine wp_iinc (y := 1) (L2 := [some (vR l0), some (vI l1), some (vI l2), some (vI l3), some (vI l4), some (vI l5), some (vI l6), some (vI l7), some (vI (l8 + 1)), none, none, none, none, none]) rfl rfl rfl rfl rfl ?_
    replace F := F _ rfl
    generalize (l8 + 1 : Int32) = v0 at F ⊢
    refine wp_goto rfl rfl ?_
    exact F
  · replace F := F.2 c
    refine wp_const' (L' := [some (vR l0), some (vI l1), some (vI l2), some (vI l3), some (vI l4), some (vI l5), some (vI l6), some (vI l7), none, none, none, none, none, none]) rfl rfl rfl ?_
    refine wp_istore (L2 := [some (vR l0), some (vI l1), some (vI l2), some (vI l3), some (vI l4), some (vI l5), some (vI l6), some (vI l7), some (vI 0), none, none, none, none, none]) rfl rfl rfl rfl ?_
    exact F
theorem w266_323 {d : Nat} {l0 : Nat} {l1 : Int32} {l2 : Int32} {l3 : Int32} {l4 : Int32} {l5 : Int32} {l6 : Int32} {l7 : Int32} {l8 : Int32} {h : aH} {K : Int32 → aH → Prop} {X : Nat → aH → Prop} (F : gK h l0 = 14 ∧ ((l8.toInt < (gI h l0 53).toInt → 8 ≤ l0 ∧ CI d 175 [vR l0, vI l8] h (fun y0 h0 => ((y0.toInt = l1.toInt → gK h0 l0 = 14 ∧ CI d 223 [vR l0, vI l8] h0 (fun y1 h1 => ((y1.toInt = 0 → gK h1 l0 = 14 ∧ ∃ i0 : Nat, inB h1 100 (gR h1 l0 55) ((20 * l8) + l2) i0 ∧ ∀ v0 : Int32, v0 = gI h1 (gR h1 l0 55) i0 → ∃ i1 : Nat, inB h1 100 (gR h1 l0 55) ((20 * l8) + l3) i1 ∧ ∀ v1 : Int32, v1 = gI h1 (gR h1 l0 55) i1 → ((l4.toInt = (-1) → Wp (d + 1) 266 (449, [some (vR l0), some (vI l1), some (vI l2), some (vI l3), some (vI l4), some (vI l5), some (vI l6), some (vI l7), some (vI l8), some (vI 0), some (vI v0), some (vI v1), none, none], [vI 1], h1) (RI K X)) ∧ (¬ l4.toInt = (-1) → ∃ i2 : Nat, inB h1 100 (gR h1 l0 55) ((20 * l8) + l4) i2 ∧ Wp (d + 1) 266 (449, [some (vR l0), some (vI l1), some (vI l2), some (vI l3), some (vI l4), some (vI l5), some (vI l6), some (vI l7), some (vI l8), some (vI 0), some (vI v0), some (vI v1), none, none], [vI (gI h1 (gR h1 l0 55) i2)], h1) (RI K X)))) ∧ (¬ y1.toInt = 0 → ((l5.toInt = (-1) → gK h1 l0 = 14 ∧ ∃ i3 : Nat, inB h1 100 (gR h1 l0 55) ((20 * l8) + l2) i3 ∧ ∀ v2 : Int32, v2 = gI h1 (gR h1 l0 55) i3 → ∃ i4 : Nat, inB h1 100 (gR h1 l0 55) ((20 * l8) + l3) i4 ∧ ∀ v3 : Int32, v3 = gI h1 (gR h1 l0 55) i4 → ((l4.toInt = (-1) → Wp (d + 1) 266 (449, [some (vR l0), some (vI l1), some (vI l2), some (vI l3), some (vI l4), some (vI l5), some (vI l6), some (vI l7), some (vI l8), some (vI 1), some (vI v2), some (vI v3), none, none], [vI 1], h1) (RI K X)) ∧ (¬ l4.toInt = (-1) → ∃ i5 : Nat, inB h1 100 (gR h1 l0 55) ((20 * l8) + l4) i5 ∧ Wp (d + 1) 266 (449, [some (vR l0), some (vI l1), some (vI l2), some (vI l3), some (vI l4), some (vI l5), some (vI l6), some (vI l7), some (vI l8), some (vI 1), some (vI v2), some (vI v3), none, none], [vI (gI h1 (gR h1 l0 55) i5)], h1) (RI K X)))) ∧ (¬ l5.toInt = (-1) → gK h1 l0 = 14 ∧ ∃ i6 : Nat, inB h1 100 (gR h1 l0 54) l8 i6 ∧ ∃ i7 : Nat, inB h1 100 (gR h1 l0 40) (gI h1 (gR h1 l0 54) i6) i7 ∧ CI d 40 [vR l0] h1 (fun y2 h2 => gK h2 l0 = 14 ∧ CI d 46 [vR l0, vI (gI h1 (gR h1 l0 40) i7), vI y2] h2 (fun y3 h3 => ∃ i8 : Nat, inB h3 102 (gR h1 l0 67) ((100 * l5) + y3) i8 ∧ (((gI h3 (gR h1 l0 67) i8).toInt = 0 → gK h3 l0 = 14 ∧ ∃ i9 : Nat, inB h3 100 (gR h3 l0 55) ((20 * l8) + l2) i9 ∧ ∀ v4 : Int32, v4 = gI h3 (gR h3 l0 55) i9 → ∃ i10 : Nat, inB h3 100 (gR h3 l0 55) ((20 * l8) + l3) i10 ∧ ∀ v5 : Int32, v5 = gI h3 (gR h3 l0 55) i10 → ((l4.toInt = (-1) → Wp (d + 1) 266 (449, [some (vR l0), some (vI l1), some (vI l2), some (vI l3), some (vI l4), some (vI l5), some (vI l6), some (vI l7), some (vI l8), some (vI 0), some (vI v4), some (vI v5), none, none], [vI 1], h3) (RI K X)) ∧ (¬ l4.toInt = (-1) → ∃ i11 : Nat, inB h3 100 (gR h3 l0 55) ((20 * l8) + l4) i11 ∧ Wp (d + 1) 266 (449, [some (vR l0), some (vI l1), some (vI l2), some (vI l3), some (vI l4), some (vI l5), some (vI l6), some (vI l7), some (vI l8), some (vI 0), some (vI v4), some (vI v5), none, none], [vI (gI h3 (gR h3 l0 55) i11)], h3) (RI K X)))) ∧ (¬ (gI h3 (gR h1 l0 67) i8).toInt = 0 → gK h3 l0 = 14 ∧ ∃ i12 : Nat, inB h3 100 (gR h3 l0 55) ((20 * l8) + l2) i12 ∧ ∀ v6 : Int32, v6 = gI h3 (gR h3 l0 55) i12 → ∃ i13 : Nat, inB h3 100 (gR h3 l0 55) ((20 * l8) + l3) i13 ∧ ∀ v7 : Int32, v7 = gI h3 (gR h3 l0 55) i13 → ((l4.toInt = (-1) → Wp (d + 1) 266 (449, [some (vR l0), some (vI l1), some (vI l2), some (vI l3), some (vI l4), some (vI l5), some (vI l6), some (vI l7), some (vI l8), some (vI 1), some (vI v6), some (vI v7), none, none], [vI 1], h3) (RI K X)) ∧ (¬ l4.toInt = (-1) → ∃ i14 : Nat, inB h3 100 (gR h3 l0 55) ((20 * l8) + l4) i14 ∧ Wp (d + 1) 266 (449, [some (vR l0), some (vI l1), some (vI l2), some (vI l3), some (vI l4), some (vI l5), some (vI l6), some (vI l7), some (vI l8), some (vI 1), some (vI v6), some (vI v7), none, none], [vI (gI h3 (gR h3 l0 55) i14)], h3) (RI K X)))))) X) X))))) X) ∧ (¬ y0.toInt = l1.toInt → gK h0 l0 = 14 ∧ ∃ i15 : Nat, inB h0 100 (gR h0 l0 55) ((20 * l8) + l2) i15 ∧ ∀ v8 : Int32, v8 = gI h0 (gR h0 l0 55) i15 → ∃ i16 : Nat, inB h0 100 (gR h0 l0 55) ((20 * l8) + l3) i16 ∧ ∀ v9 : Int32, v9 = gI h0 (gR h0 l0 55) i16 → ((l4.toInt = (-1) → Wp (d + 1) 266 (449, [some (vR l0), some (vI l1), some (vI l2), some (vI l3), some (vI l4), some (vI l5), some (vI l6), some (vI l7), some (vI l8), some (vI 0), some (vI v8), some (vI v9), none, none], [vI 1], h0) (RI K X)) ∧ (¬ l4.toInt = (-1) → ∃ i17 : Nat, inB h0 100 (gR h0 l0 55) ((20 * l8) + l4) i17 ∧ Wp (d + 1) 266 (449, [some (vR l0), some (vI l1), some (vI l2), some (vI l3), some (vI l4), some (vI l5), some (vI l6), some (vI l7), some (vI l8), some (vI 0), some (vI v8), some (vI v9), none, none], [vI (gI h0 (gR h0 l0 55) i17)], h0) (RI K X)))))) X) ∧ (¬ l8.toInt < (gI h l0 53).toInt → 8 ≤ l0 ∧ ∀ h4 : aH, h4 = pI h l0 69 ((gI h l0 69) + 1) → K l7 h4))) : Wp (d + 1) 266 (323, [some (vR l0), some (vI l1), some (vI l2), some (vI l3), some (vI l4), some (vI l5), some (vI l6), some (vI l7), some (vI l8), none, none, none, none, none], [], h) (RI K X) := by
  refine wp_iload' (L' := [some (vR l0), some (vI l1), some (vI l2), some (vI l3), some (vI l4), some (vI l5), some (vI l6), some (vI l7), some (vI l8), none, none, none, none, none]) rfl rfl rfl rfl ?_
  refine wp_aload rfl rfl rfl ?_
  obtain ⟨f0, F⟩ := F
  refine wp_getI rfl rfl rfl f0 rfl ?_
  refine wp_icmp_ge rfl rfl rfl rfl rfl (fun c => ?_) (fun c => ?_)
  · replace F := F.1 c
    refine wp_aload rfl rfl rfl ?_
    refine wp_iload rfl rfl rfl ?_
    obtain ⟨f1, F⟩ := F
    refine wp_callI rfl rfl rfl (rcv_v f1 f0 (by decide) (by decide)) rfl rfl rfl rfl ?_
    refine CI.mono F (fun y0 h0 F => ?_) (fun _ _ w => rx_I w)
    refine wp_iload rfl rfl rfl ?_
    refine wp_icmp_ne rfl rfl rfl rfl rfl (fun c => ?_) (fun c => ?_)
    · replace F := F.1 c
      refine wp_aload rfl rfl rfl ?_
      refine wp_iload rfl rfl rfl ?_
      obtain ⟨f2, F⟩ := F
      refine wp_callI rfl rfl rfl (rcv_v f1 f2 (by decide) (by decide)) rfl rfl rfl rfl ?_
      refine CI.mono F (fun y1 h1 F => ?_) (fun _ _ w => rx_I w)
      refine wp_if_eq rfl rfl rfl rfl (fun c => ?_) (fun c => ?_)
      · replace F := F.1 c
        refine wp_const' (L' := [some (vR l0), some (vI l1), some (vI l2), some (vI l3), some (vI l4), some (vI l5), some (vI l6), some (vI l7), some (vI l8), none, none, none, none, none]) rfl rfl rfl ?_
        refine wp_istore' (L' := [some (vR l0), some (vI l1), some (vI l2), some (vI l3), some (vI l4), some (vI l5), some (vI l6), some (vI l7), some (vI l8), none, none, none, none, none]) (L2 := [some (vR l0), some (vI l1), some (vI l2), some (vI l3), some (vI l4), some (vI l5), some (vI l6), some (vI l7), some (vI l8), some (vI 0), none, none, none, none]) rfl rfl rfl rfl rfl ?_
        refine wp_aload rfl rfl rfl ?_
        obtain ⟨f3, F⟩ := F
        refine wp_getR rfl rfl rfl f3 rfl ?_
        refine wp_const rfl rfl ?_
        refine wp_iload rfl rfl rfl ?_
        refine wp_imul rfl rfl ?_
        refine wp_iload rfl rfl rfl ?_
        refine wp_iadd rfl rfl ?_
        obtain ⟨i0, b9, F⟩ := F
        refine wp_iaload rfl b9 rfl ?_
        replace F := F _ rfl
        generalize (gI h1 (gR h1 l0 55) i0 : Int32) = v0 at F ⊢
        refine wp_istore (L2 := [some (vR l0), some (vI l1), some (vI l2), some (vI l3), some (vI l4), some (vI l5), some (vI l6), some (vI l7), some (vI l8), some (vI 0), some (vI v0), none, none, none]) rfl rfl rfl rfl ?_
        refine wp_aload rfl rfl rfl ?_
        refine wp_getR rfl rfl rfl f3 rfl ?_
        refine wp_const rfl rfl ?_
        refine wp_iload rfl rfl rfl ?_
        refine wp_imul rfl rfl ?_
        refine wp_iload rfl rfl rfl ?_
        refine wp_iadd rfl rfl ?_
        obtain ⟨i1, b9, F⟩ := F
        refine wp_iaload rfl b9 rfl ?_
        replace F := F _ rfl
        generalize (gI h1 (gR h1 l0 55) i1 : Int32) = v1 at F ⊢
        refine wp_istore (L2 := [some (vR l0), some (vI l1), some (vI l2), some (vI l3), some (vI l4), some (vI l5), some (vI l6), some (vI l7), some (vI l8), some (vI 0), some (vI v0), some (vI v1), none, none]) rfl rfl rfl rfl ?_
        refine wp_iload rfl rfl rfl ?_
        refine wp_const rfl rfl ?_
        refine wp_icmp_ne (Y := (-1)) rfl rfl rfl rfl rfl (fun c => ?_) (fun c => ?_)
        · replace F := F.1 c
          refine wp_const rfl rfl ?_
          refine wp_goto rfl rfl ?_
          exact F
        · replace F := F.2 c
          refine wp_aload' (L' := [some (vR l0), some (vI l1), some (vI l2), some (vI l3), some (vI l4), some (vI l5), some (vI l6), some (vI l7), some (vI l8), some (vI 0), some (vI v0), some (vI v1), none, none]) rfl rfl rfl rfl ?_
          refine wp_getR rfl rfl rfl f3 rfl ?_
          refine wp_const rfl rfl ?_
          refine wp_iload rfl rfl rfl ?_
          refine wp_imul rfl rfl ?_
          refine wp_iload rfl rfl rfl ?_
          refine wp_iadd rfl rfl ?_
          obtain ⟨i2, b9, F⟩ := F
          refine wp_iaload rfl b9 rfl ?_
          exact F
      · replace F := F.2 c
        refine wp_iload rfl rfl rfl ?_
        refine wp_const rfl rfl ?_
        refine wp_icmp_eq (Y := (-1)) rfl rfl rfl rfl rfl (fun c => ?_) (fun c => ?_)
        · replace F := F.1 c
          refine wp_const' (L' := [some (vR l0), some (vI l1), some (vI l2), some (vI l3), some (vI l4), some (vI l5), some (vI l6), some (vI l7), some (vI l8), none, none, none, none, none]) rfl rfl rfl ?_
          refine wp_goto rfl rfl ?_
          refine wp_istore' (L' := [some (vR l0), some (vI l1), some (vI l2), some (vI l3), some (vI l4), some (vI l5), some (vI l6), some (vI l7), some (vI l8), none, none, none, none, none]) (L2 := [some (vR l0), some (vI l1), some (vI l2), some (vI l3), some (vI l4), some (vI l5), some (vI l6), some (vI l7), some (vI l8), some (vI 1), none, none, none, none]) rfl rfl rfl rfl rfl ?_
          refine wp_aload rfl rfl rfl ?_
          obtain ⟨f4, F⟩ := F
          refine wp_getR rfl rfl rfl f4 rfl ?_
          refine wp_const rfl rfl ?_
          refine wp_iload rfl rfl rfl ?_
          refine wp_imul rfl rfl ?_
          refine wp_iload rfl rfl rfl ?_
          refine wp_iadd rfl rfl ?_
          obtain ⟨i3, b9, F⟩ := F
          refine wp_iaload rfl b9 rfl ?_
          replace F := F _ rfl
          generalize (gI h1 (gR h1 l0 55) i3 : Int32) = v2 at F ⊢
          refine wp_istore (L2 := [some (vR l0), some (vI l1), some (vI l2), some (vI l3), some (vI l4), some (vI l5), some (vI l6), some (vI l7), some (vI l8), some (vI 1), some (vI v2), none, none, none]) rfl rfl rfl rfl ?_
          refine wp_aload rfl rfl rfl ?_
          refine wp_getR rfl rfl rfl f4 rfl ?_
          refine wp_const rfl rfl ?_
          refine wp_iload rfl rfl rfl ?_
          refine wp_imul rfl rfl ?_
          refine wp_iload rfl rfl rfl ?_
          refine wp_iadd rfl rfl ?_
          obtain ⟨i4, b9, F⟩ := F
          refine wp_iaload rfl b9 rfl ?_
          replace F := F _ rfl
          generalize (gI h1 (gR h1 l0 55) i4 : Int32) = v3 at F ⊢
          refine wp_istore (L2 := [some (vR l0), some (vI l1), some (vI l2), some (vI l3), some (vI l4), some (vI l5), some (vI l6), some (vI l7), some (vI l8), some (vI 1), some (vI v2), some (vI v3), none, none]) rfl rfl rfl rfl ?_
          refine wp_iload rfl rfl rfl ?_
          refine wp_const rfl rfl ?_
          refine wp_icmp_ne (Y := (-1)) rfl rfl rfl rfl rfl (fun c => ?_) (fun c => ?_)
          · replace F := F.1 c
            refine wp_const rfl rfl ?_
            refine wp_goto rfl rfl ?_
            exact F
          · replace F := F.2 c
            refine wp_aload' (L' := [some (vR l0), some (vI l1), some (vI l2), some (vI l3), some (vI l4), some (vI l5), some (vI l6), some (vI l7), some (vI l8), some (vI 1), some (vI v2), some (vI v3), none, none]) rfl rfl rfl rfl ?_
            refine wp_getR rfl rfl rfl f4 rfl ?_
            refine wp_const rfl rfl ?_
            refine wp_iload rfl rfl rfl ?_
            refine wp_imul rfl rfl ?_
            refine wp_iload rfl rfl rfl ?_
            refine wp_iadd rfl rfl ?_
            obtain ⟨i5, b9, F⟩ := F
            refine wp_iaload rfl b9 rfl ?_
            exact F
        · replace F := F.2 c
          refine wp_aload rfl rfl rfl ?_
          obtain ⟨f5, F⟩ := F
          refine wp_getR rfl rfl rfl f5 rfl ?_
          refine wp_const rfl rfl ?_
          refine wp_iload rfl rfl rfl ?_
          refine wp_imul rfl rfl ?_
          refine wp_aload rfl rfl rfl ?_
          refine wp_aload rfl rfl rfl ?_
          refine wp_getR rfl rfl rfl f5 rfl ?_
          refine wp_aload rfl rfl rfl ?_
          refine wp_getR rfl rfl rfl f5 rfl ?_
          refine wp_iload rfl rfl rfl ?_
          obtain ⟨i6, b9, F⟩ := F
          refine wp_iaload rfl b9 rfl ?_
          obtain ⟨i7, b9, F⟩ := F
          refine wp_iaload rfl b9 rfl ?_
          refine wp_aload rfl rfl rfl ?_
          refine wp_callI rfl rfl rfl (rcv_v f1 f5 (by decide) (by decide)) rfl rfl rfl rfl ?_
          refine CI.mono F (fun y2 h2 F => ?_) (fun _ _ w => rx_I w)
          obtain ⟨f6, F⟩ := F
          refine wp_callI rfl rfl rfl (rcv_v f1 f6 (by decide) (by decide)) rfl rfl rfl rfl ?_
          refine CI.mono F (fun y3 h3 F => ?_) (fun _ _ w => rx_I w)
          refine wp_iadd rfl rfl ?_
          obtain ⟨i8, b9, F⟩ := F
          refine wp_zaload rfl b9 rfl ?_
          refine wp_if_eq rfl rfl rfl rfl (fun c => ?_) (fun c => ?_)
          · replace F := F.1 c
            refine wp_const' (L' := [some (vR l0), some (vI l1), some (vI l2), some (vI l3), some (vI l4), some (vI l5), some (vI l6), some (vI l7), some (vI l8), none, none, none, none, none]) rfl rfl rfl ?_
            refine wp_istore' (L' := [some (vR l0), some (vI l1), some (vI l2), some (vI l3), some (vI l4), some (vI l5), some (vI l6), some (vI l7), some (vI l8), none, none, none, none, none]) (L2 := [some (vR l0), some (vI l1), some (vI l2), some (vI l3), some (vI l4), some (vI l5), some (vI l6), some (vI l7), some (vI l8), some (vI 0), none, none, none, none]) rfl rfl rfl rfl rfl ?_
            refine wp_aload rfl rfl rfl ?_
            obtain ⟨f7, F⟩ := F
            refine wp_getR rfl rfl rfl f7 rfl ?_
            refine wp_const rfl rfl ?_
            refine wp_iload rfl rfl rfl ?_
            refine wp_imul rfl rfl ?_
            refine wp_iload rfl rfl rfl ?_
            refine wp_iadd rfl rfl ?_
            obtain ⟨i9, b9, F⟩ := F
            refine wp_iaload rfl b9 rfl ?_
            replace F := F _ rfl
            generalize (gI h3 (gR h3 l0 55) i9 : Int32) = v4 at F ⊢
            refine wp_istore (L2 := [some (vR l0), some (vI l1), some (vI l2), some (vI l3), some (vI l4), some (vI l5), some (vI l6), some (vI l7), some (vI l8), some (vI 0), some (vI v4), none, none, none]) rfl rfl rfl rfl ?_
            refine wp_aload rfl rfl rfl ?_
            refine wp_getR rfl rfl rfl f7 rfl ?_
            refine wp_const rfl rfl ?_
            refine wp_iload rfl rfl rfl ?_
            refine wp_imul rfl rfl ?_
            refine wp_iload rfl rfl rfl ?_
            refine wp_iadd rfl rfl ?_
            obtain ⟨i10, b9, F⟩ := F
            refine wp_iaload rfl b9 rfl ?_
            replace F := F _ rfl
            generalize (gI h3 (gR h3 l0 55) i10 : Int32) = v5 at F ⊢
            refine wp_istore (L2 := [some (vR l0), some (vI l1), some (vI l2), some (vI l3), some (vI l4), some (vI l5), some (vI l6), some (vI l7), some (vI l8), some (vI 0), some (vI v4), some (vI v5), none, none]) rfl rfl rfl rfl ?_
            refine wp_iload rfl rfl rfl ?_
            refine wp_const rfl rfl ?_
            refine wp_icmp_ne (Y := (-1)) rfl rfl rfl rfl rfl (fun c => ?_) (fun c => ?_)
            · replace F := F.1 c
              refine wp_const rfl rfl ?_
              refine wp_goto rfl rfl ?_
              exact F
            · replace F := F.2 c
              refine wp_aload' (L' := [some (vR l0), some (vI l1), some (vI l2), some (vI l3), some (vI l4), some (vI l5), some (vI l6), some (vI l7), some (vI l8), some (vI 0), some (vI v4), some (vI v5), none, none]) rfl rfl rfl rfl ?_
              refine wp_getR rfl rfl rfl f7 rfl ?_
              refine wp_const rfl rfl ?_
              refine wp_iload rfl rfl rfl ?_
              refine wp_imul rfl rfl ?_
              refine wp_iload rfl rfl rfl ?_
              refine wp_iadd rfl rfl ?_
              obtain ⟨i11, b9, F⟩ := F
              refine wp_iaload rfl b9 rfl ?_
              exact F
          · replace F := F.2 c
            refine wp_const' (L' := [some (vR l0), some (vI l1), some (vI l2), some (vI l3), some (vI l4), some (vI l5), some (vI l6), some (vI l7), some (vI l8), none, none, none, none, none]) rfl rfl rfl ?_
            refine wp_goto rfl rfl ?_
            refine wp_istore' (L' := [some (vR l0), some (vI l1), some (vI l2), some (vI l3), some (vI l4), some (vI l5), some (vI l6), some (vI l7), some (vI l8), none, none, none, none, none]) (L2 := [some (vR l0), some (vI l1), some (vI l2), some (vI l3), some (vI l4), some (vI l5), some (vI l6), some (vI l7), some (vI l8), some (vI 1), none, none, none, none]) rfl rfl rfl rfl rfl ?_
            refine wp_aload rfl rfl rfl ?_
            obtain ⟨f8, F⟩ := F
            refine wp_getR rfl rfl rfl f8 rfl ?_
            refine wp_const rfl rfl ?_
            refine wp_iload rfl rfl rfl ?_
            refine wp_imul rfl rfl ?_
            refine wp_iload rfl rfl rfl ?_
            refine wp_iadd rfl rfl ?_
            obtain ⟨i12, b9, F⟩ := F
            refine wp_iaload rfl b9 rfl ?_
            replace F := F _ rfl
            generalize (gI h3 (gR h3 l0 55) i12 : Int32) = v6 at F ⊢
            refine wp_istore (L2 := [some (vR l0), some (vI l1), some (vI l2), some (vI l3), some (vI l4), some (vI l5), some (vI l6), some (vI l7), some (vI l8), some (vI 1), some (vI v6), none, none, none]) rfl rfl rfl rfl ?_
            refine wp_aload rfl rfl rfl ?_
            refine wp_getR rfl rfl rfl f8 rfl ?_
            refine wp_const rfl rfl ?_
            refine wp_iload rfl rfl rfl ?_
            refine wp_imul rfl rfl ?_
            refine wp_iload rfl rfl rfl ?_
            refine wp_iadd rfl rfl ?_
            obtain ⟨i13, b9, F⟩ := F
            refine wp_iaload rfl b9 rfl ?_
            replace F := F _ rfl
            generalize (gI h3 (gR h3 l0 55) i13 : Int32) = v7 at F ⊢
            refine wp_istore (L2 := [some (vR l0), some (vI l1), some (vI l2), some (vI l3), some (vI l4), some (vI l5), some (vI l6), some (vI l7), some (vI l8), some (vI 1), some (vI v6), some (vI v7), none, none]) rfl rfl rfl rfl ?_
            refine wp_iload rfl rfl rfl ?_
            refine wp_const rfl rfl ?_
            refine wp_icmp_ne (Y := (-1)) rfl rfl rfl rfl rfl (fun c => ?_) (fun c => ?_)
            · replace F := F.1 c
              refine wp_const rfl rfl ?_
              refine wp_goto rfl rfl ?_
              exact F
            · replace F := F.2 c
              refine wp_aload' (L' := [some (vR l0), some (vI l1), some (vI l2), some (vI l3), some (vI l4), some (vI l5), some (vI l6), some (vI l7), some (vI l8), some (vI 1), some (vI v6), some (vI v7), none, none]) rfl rfl rfl rfl ?_
              refine wp_getR rfl rfl rfl f8 rfl ?_
              refine wp_const rfl rfl ?_
              refine wp_iload rfl rfl rfl ?_
              refine wp_imul rfl rfl ?_
              refine wp_iload rfl rfl rfl ?_
              refine wp_iadd rfl rfl ?_
              obtain ⟨i14, b9, F⟩ := F
              refine wp_iaload rfl b9 rfl ?_
              exact F
    · replace F := F.2 c
      refine wp_const' (L' := [some (vR l0), some (vI l1), some (vI l2), some (vI l3), some (vI l4), some (vI l5), some (vI l6), some (vI l7), some (vI l8), none, none, none, none, none]) rfl rfl rfl ?_
      refine wp_istore' (L' := [some (vR l0), some (vI l1), some (vI l2), some (vI l3), some (vI l4), some (vI l5), some (vI l6), some (vI l7), some (vI l8), none, none, none, none, none]) (L2 := [some (vR l0), some (vI l1), some (vI l2), some (vI l3), some (vI l4), some (vI l5), some (vI l6), some (vI l7), some (vI l8), some (vI 0), none, none, none, none]) rfl rfl rfl rfl rfl ?_
      refine wp_aload rfl rfl rfl ?_
      obtain ⟨f9, F⟩ := F
      refine wp_getR rfl rfl rfl f9 rfl ?_
      refine wp_const rfl rfl ?_
      refine wp_iload rfl rfl rfl ?_
      refine wp_imul rfl rfl ?_
      refine wp_iload rfl rfl rfl ?_
      refine wp_iadd rfl rfl ?_
      obtain ⟨i15, b9, F⟩ := F
      refine wp_iaload rfl b9 rfl ?_
      replace F := F _ rfl
      generalize (gI h0 (gR h0 l0 55) i15 : Int32) = v8 at F ⊢
      refine wp_istore (L2 := [some (vR l0), some (vI l1), some (vI l2), some (vI l3), some (vI l4), some (vI l5), some (vI l6), some (vI l7), some (vI l8), some (vI 0), some (vI v8), none, none, none]) rfl rfl rfl rfl ?_
      refine wp_aload rfl rfl rfl ?_
      refine wp_getR rfl rfl rfl f9 rfl ?_
      refine wp_const rfl rfl ?_
      refine wp_iload rfl rfl rfl ?_
      refine wp_imul rfl rfl ?_
      refine wp_iload rfl rfl rfl ?_
      refine wp_iadd rfl rfl ?_
      obtain ⟨i16, b9, F⟩ := F
      refine wp_iaload rfl b9 rfl ?_
      replace F := F _ rfl
      generalize (gI h0 (gR h0 l0 55) i16 : Int32) = v9 at F ⊢
      refine wp_istore (L2 := [some (vR l0), some (vI l1), some (vI l2), some (vI l3), some (vI l4), some (vI l5), some (vI l6), some (vI l7), some (vI l8), some (vI 0), some (vI v8), some (vI v9), none, none]) rfl rfl rfl rfl ?_
      refine wp_iload rfl rfl rfl ?_
      refine wp_const rfl rfl ?_
      refine wp_icmp_ne (Y := (-1)) rfl rfl rfl rfl rfl (fun c => ?_) (fun c => ?_)
      · replace F := F.1 c
        refine wp_const rfl rfl ?_
        refine wp_goto rfl rfl ?_
        exact F
      · replace F := F.2 c
        refine wp_aload' (L' := [some (vR l0), some (vI l1), some (vI l2), some (vI l3), some (vI l4), some (vI l5), some (vI l6), some (vI l7), some (vI l8), some (vI 0), some (vI v8), some (vI v9), none, none]) rfl rfl rfl rfl ?_
        refine wp_getR rfl rfl rfl f9 rfl ?_
        refine wp_const rfl rfl ?_
        refine wp_iload rfl rfl rfl ?_
        refine wp_imul rfl rfl ?_
        refine wp_iload rfl rfl rfl ?_
        refine wp_iadd rfl rfl ?_
        obtain ⟨i17, b9, F⟩ := F
        refine wp_iaload rfl b9 rfl ?_
        exact F
  · replace F := F.2 c
    refine wp_aload' (L' := [some (vR l0), none, none, none, none, none, none, some (vI l7), none, none, none, none, none, none]) rfl rfl rfl rfl ?_
    refine wp_dup rfl rfl rfl ?_
    refine wp_getI rfl rfl rfl f0 rfl ?_
    refine wp_const rfl rfl ?_
    refine wp_iadd rfl rfl ?_
    obtain ⟨f10, F⟩ := F
    refine wp_putI rfl rfl rfl f10 f0 rfl ?_
    have f11 : gK (pI h l0 69 ((gI h l0 69) + 1)) l0 = 14 := (gK_pI _ _ _ _ _).trans f0
    replace F := F _ rfl
    generalize pI h l0 69 ((gI h l0 69) + 1) = h4 at F f11 ⊢
    refine wp_iload rfl rfl rfl ?_
    exact wp_retI rfl (Or.inl rfl) F
theorem w266_449 {d : Nat} {l0 : Nat} {l1 : Int32} {l2 : Int32} {l3 : Int32} {l4 : Int32} {l5 : Int32} {l6 : Int32} {l7 : Int32} {l8 : Int32} {l9 : Int32} {l10 : Int32} {l11 : Int32} {s0 : Int32} {h : aH} {K : Int32 → aH → Prop} {X : Nat → aH → Prop} (F : ((l9.toInt = 0 → ∀ v0 : Int32, v0 = l8 + 1 → Wp (d + 1) 266 (323, [some (vR l0), some (vI l1), some (vI l2), some (vI l3), some (vI l4), some (vI l5), some (vI l6), some (vI l7), some (vI v0), none, none, none, none, none], [], h) (RI K X)) ∧ (¬ l9.toInt = 0 → ((l10.toInt = (-2000000) → ∀ v1 : Int32, v1 = l8 + 1 → Wp (d + 1) 266 (323, [some (vR l0), some (vI l1), some (vI l2), some (vI l3), some (vI l4), some (vI l5), some (vI l6), some (vI l7), some (vI v1), none, none, none, none, none], [], h) (RI K X)) ∧ (¬ l10.toInt = (-2000000) → ((l11.toInt = (-2000000) → ∀ v2 : Int32, v2 = l8 + 1 → Wp (d + 1) 266 (323, [some (vR l0), some (vI l1), some (vI l2), some (vI l3), some (vI l4), some (vI l5), some (vI l6), some (vI l7), some (vI v2), none, none, none, none, none], [], h) (RI K X)) ∧ (¬ l11.toInt = (-2000000) → ((s0.toInt < 0 → ∀ v3 : Int32, v3 = l8 + 1 → Wp (d + 1) 266 (323, [some (vR l0), some (vI l1), some (vI l2), some (vI l3), some (vI l4), some (vI l5), some (vI l6), some (vI l7), some (vI v3), none, none, none, none, none], [], h) (RI K X)) ∧ (¬ s0.toInt < 0 → gK h l0 = 14 ∧ ∃ i0 : Nat, inB h 100 (gR h l0 18) (l6 + l2) i0 ∧ ∃ i1 : Nat, inB h 100 (gR h l0 71) l7 i1 ∧ ∃ i2 : Nat, inB h 100 (gR h l0 18) (l6 + l3) i2 ∧ ∀ v4 : Int32, v4 = (((12 * l7) + ((l10 - (gI h (gR h l0 18) i0)) * (gI h (gR h l0 71) i1))) + l11) - (gI h (gR h l0 18) i2) → ∃ i3 : Nat, inB h 100 (gR h l0 72) v4 i3 ∧ 8 ≤ (gR h l0 72) ∧ ∃ i4 : Nat, inB h 100 (gR h l0 72) v4 i4 ∧ ∀ h0 : aH, h0 = pI h (gR h l0 72) i4 ((gI h (gR h l0 72) i3) + s0) → ∃ i5 : Nat, inB h0 100 (gR h0 l0 73) v4 i5 ∧ 8 ≤ (gR h0 l0 73) ∧ ∃ i6 : Nat, inB h0 100 (gR h0 l0 73) v4 i6 ∧ ∀ h1 : aH, h1 = pI h0 (gR h0 l0 73) i6 ((gI h0 (gR h0 l0 73) i5) + 1) → ∃ i7 : Nat, inB h1 100 (gR h1 l0 74) v4 i7 ∧ (((gI h1 (gR h1 l0 74) i7).toInt < s0.toInt → 8 ≤ (gR h1 l0 74) ∧ ∃ i8 : Nat, inB h1 100 (gR h1 l0 74) v4 i8 ∧ ∀ h2 : aH, h2 = pI h1 (gR h1 l0 74) i8 s0 → ∀ v5 : Int32, v5 = l8 + 1 → Wp (d + 1) 266 (323, [some (vR l0), some (vI l1), some (vI l2), some (vI l3), some (vI l4), some (vI l5), some (vI l6), some (vI l7), some (vI v5), none, none, none, none, none], [], h2) (RI K X)) ∧ (¬ (gI h1 (gR h1 l0 74) i7).toInt < s0.toInt → ∃ i9 : Nat, inB h1 100 (gR h1 l0 74) v4 i9 ∧ 8 ≤ (gR h1 l0 74) ∧ ∃ i10 : Nat, inB h1 100 (gR h1 l0 74) v4 i10 ∧ ∀ h3 : aH, h3 = pI h1 (gR h1 l0 74) i10 (gI h1 (gR h1 l0 74) i9) → ∀ v6 : Int32, v6 = l8 + 1 → Wp (d + 1) 266 (323, [some (vR l0), some (vI l1), some (vI l2), some (vI l3), some (vI l4), some (vI l5), some (vI l6), some (vI l7), some (vI v6), none, none, none, none, none], [], h3) (RI K X)))))))))))) : Wp (d + 1) 266 (449, [some (vR l0), some (vI l1), some (vI l2), some (vI l3), some (vI l4), some (vI l5), some (vI l6), some (vI l7), some (vI l8), some (vI l9), some (vI l10), some (vI l11), none, none], [vI s0], h) (RI K X) := by
  refine wp_istore' (L' := [some (vR l0), some (vI l1), some (vI l2), some (vI l3), some (vI l4), some (vI l5), some (vI l6), some (vI l7), some (vI l8), some (vI l9), some (vI l10), some (vI l11), none, none]) (L2 := [some (vR l0), some (vI l1), some (vI l2), some (vI l3), some (vI l4), some (vI l5), some (vI l6), some (vI l7), some (vI l8), some (vI l9), some (vI l10), some (vI l11), some (vI s0), none]) rfl rfl rfl rfl rfl ?_
  refine wp_iload rfl rfl rfl ?_
  refine wp_if_eq rfl rfl rfl rfl (fun c => ?_) (fun c => ?_)
  · replace F := F.1 c
    refine wp_iinc' (L' := [some (vR l0), some (vI l1), some (vI l2), some (vI l3), some (vI l4), some (vI l5), some (vI l6), some (vI l7), some (vI l8), none, none, none, none, none]) (y := 1) (L2 := [some (vR l0), some (vI l1), some (vI l2), some (vI l3), some (vI l4), some (vI l5), some (vI l6), some (vI l7), some (vI (l8 + 1)), none, none, none, none, none]) rfl rfl rfl rfl rfl rfl ?_
    replace F := F _ rfl
    generalize (l8 + 1 : Int32) = v0 at F ⊢
    refine wp_goto rfl rfl ?_
    exact F
  · replace F := F.2 c
    refine wp_iload rfl rfl rfl ?_
    refine wp_const rfl rfl ?_
    refine wp_icmp_eq (Y := (-2000000)) rfl rfl rfl rfl rfl (fun c => ?_) (fun c => ?_)
    · replace F := F.1 c
      refine wp_iinc' (L' := [some (vR l0), some (vI l1), some (vI l2), some (vI l3), some (vI l4), some (vI l5), some (vI l6), some (vI l7), some (vI l8), none, none, none, none, none]) (y := 1) (L2 := [some (vR l0), some (vI l1), some (vI l2), some (vI l3), some (vI l4), some (vI l5), some (vI l6), some (vI l7), some (vI (l8 + 1)), none, none, none, none, none]) rfl rfl rfl rfl rfl rfl ?_
      replace F := F _ rfl
      generalize (l8 + 1 : Int32) = v1 at F ⊢
      refine wp_goto rfl rfl ?_
      exact F
    · replace F := F.2 c
      refine wp_iload rfl rfl rfl ?_
      refine wp_const rfl rfl ?_
      refine wp_icmp_eq (Y := (-2000000)) rfl rfl rfl rfl rfl (fun c => ?_) (fun c => ?_)
      · replace F := F.1 c
        refine wp_iinc' (L' := [some (vR l0), some (vI l1), some (vI l2), some (vI l3), some (vI l4), some (vI l5), some (vI l6), some (vI l7), some (vI l8), none, none, none, none, none]) (y := 1) (L2 := [some (vR l0), some (vI l1), some (vI l2), some (vI l3), some (vI l4), some (vI l5), some (vI l6), some (vI l7), some (vI (l8 + 1)), none, none, none, none, none]) rfl rfl rfl rfl rfl rfl ?_
        replace F := F _ rfl
        generalize (l8 + 1 : Int32) = v2 at F ⊢
        refine wp_goto rfl rfl ?_
        exact F
      · replace F := F.2 c
        refine wp_iload rfl rfl rfl ?_
        refine wp_if_lt rfl rfl rfl rfl (fun c => ?_) (fun c => ?_)
        · replace F := F.1 c
          refine wp_iinc' (L' := [some (vR l0), some (vI l1), some (vI l2), some (vI l3), some (vI l4), some (vI l5), some (vI l6), some (vI l7), some (vI l8), none, none, none, none, none]) (y := 1) (L2 := [some (vR l0), some (vI l1), some (vI l2), some (vI l3), some (vI l4), some (vI l5), some (vI l6), some (vI l7), some (vI (l8 + 1)), none, none, none, none, none]) rfl rfl rfl rfl rfl rfl ?_
          replace F := F _ rfl
          generalize (l8 + 1 : Int32) = v3 at F ⊢
          refine wp_goto rfl rfl ?_
          exact F
        · replace F := F.2 c
          refine wp_const rfl rfl ?_
          refine wp_iload rfl rfl rfl ?_
          refine wp_imul rfl rfl ?_
          refine wp_iload rfl rfl rfl ?_
          refine wp_aload rfl rfl rfl ?_
          obtain ⟨f0, F⟩ := F
          refine wp_getR rfl rfl rfl f0 rfl ?_
          refine wp_iload rfl rfl rfl ?_
          refine wp_iload rfl rfl rfl ?_
          refine wp_iadd rfl rfl ?_
          obtain ⟨i0, b9, F⟩ := F
          refine wp_iaload rfl b9 rfl ?_
          refine wp_isub rfl rfl ?_
          refine wp_aload rfl rfl rfl ?_
          refine wp_getR rfl rfl rfl f0 rfl ?_
          refine wp_iload rfl rfl rfl ?_
          obtain ⟨i1, b9, F⟩ := F
          refine wp_iaload rfl b9 rfl ?_
          refine wp_imul rfl rfl ?_
          refine wp_iadd rfl rfl ?_
          refine wp_iload rfl rfl rfl ?_
          refine wp_iadd rfl rfl ?_
          refine wp_aload rfl rfl rfl ?_
          refine wp_getR rfl rfl rfl f0 rfl ?_
          refine wp_iload rfl rfl rfl ?_
          refine wp_iload rfl rfl rfl ?_
          refine wp_iadd rfl rfl ?_
          obtain ⟨i2, b9, F⟩ := F
          refine wp_iaload rfl b9 rfl ?_
          refine wp_isub rfl rfl ?_
          replace F := F _ rfl
          generalize ((((12 * l7) + ((l10 - (gI h (gR h l0 18) i0)) * (gI h (gR h l0 71) i1))) + l11) - (gI h (gR h l0 18) i2) : Int32) = v4 at F ⊢
          refine wp_istore (L2 := [some (vR l0), some (vI l1), some (vI l2), some (vI l3), some (vI l4), some (vI l5), some (vI l6), some (vI l7), some (vI l8), some (vI l9), some (vI l10), some (vI l11), some (vI s0), some (vI v4)]) rfl rfl rfl rfl ?_
          refine wp_aload rfl rfl rfl ?_
          refine wp_getR rfl rfl rfl f0 rfl ?_
          refine wp_iload rfl rfl rfl ?_
          refine wp_dup2 rfl rfl rfl rfl ?_
          obtain ⟨i3, b9, F⟩ := F
          refine wp_iaload rfl b9 rfl ?_
          refine wp_iload rfl rfl rfl ?_
          refine wp_iadd rfl rfl ?_
          obtain ⟨f1, F⟩ := F
          obtain ⟨i4, b9, F⟩ := F
          refine wp_iastore rfl f1 b9 rfl ?_
          have f2 : gK (pI h (gR h l0 72) i4 ((gI h (gR h l0 72) i3) + s0)) l0 = 14 := (gK_pI _ _ _ _ _).trans f0
          replace F := F _ rfl
          generalize pI h (gR h l0 72) i4 ((gI h (gR h l0 72) i3) + s0) = h0 at F f2 ⊢
          refine wp_aload rfl rfl rfl ?_
          refine wp_getR rfl rfl rfl f2 rfl ?_
          refine wp_iload rfl rfl rfl ?_
          refine wp_dup2 rfl rfl rfl rfl ?_
          obtain ⟨i5, b9, F⟩ := F
          refine wp_iaload rfl b9 rfl ?_
          refine wp_const rfl rfl ?_
          refine wp_iadd rfl rfl ?_
          obtain ⟨f3, F⟩ := F
          obtain ⟨i6, b9, F⟩ := F
          refine wp_iastore rfl f3 b9 rfl ?_
          have f4 : gK (pI h0 (gR h0 l0 73) i6 ((gI h0 (gR h0 l0 73) i5) + 1)) l0 = 14 := (gK_pI _ _ _ _ _).trans f2
          replace F := F _ rfl
          generalize pI h0 (gR h0 l0 73) i6 ((gI h0 (gR h0 l0 73) i5) + 1) = h1 at F f4 ⊢
          refine wp_aload rfl rfl rfl ?_
          refine wp_getR rfl rfl rfl f4 rfl ?_
          refine wp_iload rfl rfl rfl ?_
          refine wp_iload rfl rfl rfl ?_
          refine wp_aload rfl rfl rfl ?_
          refine wp_getR rfl rfl rfl f4 rfl ?_
          refine wp_iload rfl rfl rfl ?_
          obtain ⟨i7, b9, F⟩ := F
          refine wp_iaload rfl b9 rfl ?_
          refine wp_icmp_le rfl rfl rfl rfl rfl (fun c => ?_) (fun c => ?_)
          · replace F := F.1 c
            refine wp_iload rfl rfl rfl ?_
            refine wp_goto rfl rfl ?_
            obtain ⟨f5, F⟩ := F
            obtain ⟨i8, b9, F⟩ := F
            refine wp_iastore' (L' := [some (vR l0), some (vI l1), some (vI l2), some (vI l3), some (vI l4), some (vI l5), some (vI l6), some (vI l7), some (vI l8), none, none, none, none, none]) rfl rfl f5 b9 rfl ?_
            have f6 : gK (pI h1 (gR h1 l0 74) i8 s0) l0 = 14 := (gK_pI _ _ _ _ _).trans f4
            replace F := F _ rfl
            generalize pI h1 (gR h1 l0 74) i8 s0 = h2 at F f6 ⊢
            refine wp_iinc' (L' := [some (vR l0), some (vI l1), some (vI l2), some (vI l3), some (vI l4), some (vI l5), some (vI l6), some (vI l7), some (vI l8), none, none, none, none, none]) (y := 1) (L2 := [some (vR l0), some (vI l1), some (vI l2), some (vI l3), some (vI l4), some (vI l5), some (vI l6), some (vI l7), some (vI (l8 + 1)), none, none, none, none, none]) rfl rfl rfl rfl rfl rfl ?_
            replace F := F _ rfl
            generalize (l8 + 1 : Int32) = v5 at F ⊢
            refine wp_goto rfl rfl ?_
            exact F
          · replace F := F.2 c
            refine wp_aload' (L' := [some (vR l0), some (vI l1), some (vI l2), some (vI l3), some (vI l4), some (vI l5), some (vI l6), some (vI l7), some (vI l8), none, none, none, none, some (vI v4)]) rfl rfl rfl rfl ?_
            refine wp_getR rfl rfl rfl f4 rfl ?_
            refine wp_iload rfl rfl rfl ?_
            obtain ⟨i9, b9, F⟩ := F
            refine wp_iaload rfl b9 rfl ?_
            obtain ⟨f7, F⟩ := F
            obtain ⟨i10, b9, F⟩ := F
            refine wp_iastore' (L' := [some (vR l0), some (vI l1), some (vI l2), some (vI l3), some (vI l4), some (vI l5), some (vI l6), some (vI l7), some (vI l8), none, none, none, none, none]) rfl rfl f7 b9 rfl ?_
            have f8 : gK (pI h1 (gR h1 l0 74) i10 (gI h1 (gR h1 l0 74) i9)) l0 = 14 := (gK_pI _ _ _ _ _).trans f4
            replace F := F _ rfl
            generalize pI h1 (gR h1 l0 74) i10 (gI h1 (gR h1 l0 74) i9) = h3 at F f8 ⊢
            refine wp_iinc' (L' := [some (vR l0), some (vI l1), some (vI l2), some (vI l3), some (vI l4), some (vI l5), some (vI l6), some (vI l7), some (vI l8), none, none, none, none, none]) (y := 1) (L2 := [some (vR l0), some (vI l1), some (vI l2), some (vI l3), some (vI l4), some (vI l5), some (vI l6), some (vI l7), some (vI (l8 + 1)), none, none, none, none, none]) rfl rfl rfl rfl rfl rfl ?_
            replace F := F _ rfl
            generalize (l8 + 1 : Int32) = v6 at F ⊢
            refine wp_goto rfl rfl ?_
            exact F
-- CensusOffice tableAt (I)LCensusOffice$Table;
theorem m267 {d : Nat} {a0 : Nat} {a1 : Int32} {h : aH} {K : Nat → aH → Prop} {X : Nat → aH → Prop} (F : gK h a0 = 1 ∧ 8 ≤ (gR h a0 8) ∧ gK h (gR h a0 8) = 13 ∧ CI d 65 [vR (gR h a0 8)] h (fun y0 h0 => CV d 29 [vI a1, vI y0] h0 (fun h1 => gK h1 a0 = 1 ∧ 8 ≤ (gR h1 a0 8) ∧ gK h1 (gR h1 a0 8) = 13 ∧ CR d 119 [vR (gR h1 a0 8), vI a1] h1 (fun q0 h2 => (q0 = 0 ∨ gK h2 q0 = 11) ∧ K q0 h2) X) X) X) : CR (d + 1) 267 [vR a0, vI a1] h K X := by
  show Wp (d + 1) 267 (0, [some (vR a0), some (vI a1)], [], h) (RR K X)
  refine wp_iload rfl rfl rfl ?_
  refine wp_aload rfl rfl rfl ?_
  obtain ⟨f0, F⟩ := F
  refine wp_getR rfl rfl rfl f0 rfl ?_
  obtain ⟨f1, F⟩ := F
  obtain ⟨f2, F⟩ := F
  refine wp_callI rfl rfl rfl (rcv_v f1 f2 (by decide) (by decide)) rfl rfl rfl rfl ?_
  refine CI.mono F (fun y0 h0 F => ?_) (fun _ _ w => rx_R w)
  refine wp_callV rfl rfl rfl rfl rfl rfl rfl rfl ?_
  refine CV.mono F (fun h1 F => ?_) (fun _ _ w => rx_R w)
  refine wp_aload rfl rfl rfl ?_
  obtain ⟨f3, F⟩ := F
  refine wp_getR rfl rfl rfl f3 rfl ?_
  refine wp_iload rfl rfl rfl ?_
  obtain ⟨f4, F⟩ := F
  obtain ⟨f5, F⟩ := F
  refine wp_callR rfl rfl rfl (rcv_v f4 f5 (by decide) (by decide)) rfl rfl rfl rfl ?_
  refine CR.mono F (fun q0 h2 F => ?_) (fun _ _ w => rx_R w)
  refine wp_cast rfl F.1 rfl ?_
  replace F := F.2
  exact wp_retR rfl F
-- CensusOffice needSumOrCell (LCensusOffice$Table;II)V
theorem m268 {d : Nat} {a0 : Nat} {a1 : Nat} {a2 : Int32} {a3 : Int32} {h : aH} {K : aH → Prop} {X : Nat → aH → Prop} (F : gK h a1 = 11 ∧ CV d 29 [vI a2, vI ((gI h a1 4) + 1)] h (fun h0 => gK h0 a1 = 11 ∧ CV d 29 [vI a3, vI ((gI h0 a1 5) + 1)] h0 (fun h1 => K h1) X) X) : CV (d + 1) 268 [vR a0, vR a1, vI a2, vI a3] h K X := by
  show Wp (d + 1) 268 (0, [some (vR a0), some (vR a1), some (vI a2), some (vI a3)], [], h) (RV K X)
  refine wp_iload rfl rfl rfl ?_
  refine wp_aload rfl rfl rfl ?_
  obtain ⟨f0, F⟩ := F
  refine wp_getI rfl rfl rfl f0 rfl ?_
  refine wp_const rfl rfl ?_
  refine wp_iadd rfl rfl ?_
  refine wp_callV rfl rfl rfl rfl rfl rfl rfl rfl ?_
  refine CV.mono F (fun h0 F => ?_) (fun _ _ w => rx_V w)
  refine wp_iload rfl rfl rfl ?_
  refine wp_aload rfl rfl rfl ?_
  obtain ⟨f1, F⟩ := F
  refine wp_getI rfl rfl rfl f1 rfl ?_
  refine wp_const rfl rfl ?_
  refine wp_iadd rfl rfl ?_
  refine wp_callV rfl rfl rfl rfl rfl rfl rfl rfl ?_
  refine CV.mono F (fun h1 F => ?_) (fun _ _ w => rx_V w)
  exact wp_retV rfl F
-- CensusOffice$Table isIn (III)Z
theorem m269 {d : Nat} {a0 : Nat} {a1 : Int32} {a2 : Int32} {a3 : Int32} {h : aH} {K : Int32 → aH → Prop} {X : Nat → aH → Prop} (F : gK h a0 = 11 ∧ ((0 < (gI h a0 5).toInt → ((a2.toInt = (gI h a0 4).toInt → ((a3.toInt = (gI h a0 5).toInt → K 1 h) ∧ (¬ a3.toInt = (gI h a0 5).toInt → (¬ (gI h a0 5) = 0) ∧ (((aIrem a1 (gI h a0 5)).toInt = a3.toInt → K 1 h) ∧ (¬ (aIrem a1 (gI h a0 5)).toInt = a3.toInt → K 0 h))))) ∧ (¬ a2.toInt = (gI h a0 4).toInt → (¬ (gI h a0 5) = 0) ∧ (((a1 / (gI h a0 5)).toInt = a2.toInt → ((a3.toInt = (gI h a0 5).toInt → K 1 h) ∧ (¬ a3.toInt = (gI h a0 5).toInt → (¬ (gI h a0 5) = 0) ∧ (((aIrem a1 (gI h a0 5)).toInt = a3.toInt → K 1 h) ∧ (¬ (aIrem a1 (gI h a0 5)).toInt = a3.toInt → K 0 h))))) ∧ (¬ (a1 / (gI h a0 5)).toInt = a2.toInt → K 0 h))))) ∧ (¬ 0 < (gI h a0 5).toInt → K 0 h))) : CI d 269 [vR a0, vI a1, vI a2, vI a3] h K X := by
  show Wp d 269 (0, [some (vR a0), some (vI a1), some (vI a2), some (vI a3)], [], h) (RI K X)
  refine wp_aload rfl rfl rfl ?_
  obtain ⟨f0, F⟩ := F
  refine wp_getI rfl rfl rfl f0 rfl ?_
  refine wp_if_le rfl rfl rfl rfl (fun c => ?_) (fun c => ?_)
  · replace F := F.1 c
    refine wp_iload rfl rfl rfl ?_
    refine wp_aload rfl rfl rfl ?_
    refine wp_getI rfl rfl rfl f0 rfl ?_
    refine wp_icmp_eq rfl rfl rfl rfl rfl (fun c => ?_) (fun c => ?_)
    · replace F := F.1 c
      refine wp_iload' (L' := [some (vR a0), some (vI a1), none, some (vI a3)]) rfl rfl rfl rfl ?_
      refine wp_aload rfl rfl rfl ?_
      refine wp_getI rfl rfl rfl f0 rfl ?_
      refine wp_icmp_eq rfl rfl rfl rfl rfl (fun c => ?_) (fun c => ?_)
      · replace F := F.1 c
        refine wp_const' (L' := [none, none, none, none]) rfl rfl rfl ?_
        refine wp_goto rfl rfl ?_
        exact wp_retI rfl (Or.inr rfl) F
      · replace F := F.2 c
        refine wp_iload rfl rfl rfl ?_
        refine wp_aload rfl rfl rfl ?_
        refine wp_getI rfl rfl rfl f0 rfl ?_
        refine wp_irem rfl F.1 rfl ?_
        replace F := F.2
        refine wp_iload rfl rfl rfl ?_
        refine wp_icmp_ne rfl rfl rfl rfl rfl (fun c => ?_) (fun c => ?_)
        · replace F := F.1 c
          refine wp_const' (L' := [none, none, none, none]) rfl rfl rfl ?_
          refine wp_goto rfl rfl ?_
          exact wp_retI rfl (Or.inr rfl) F
        · replace F := F.2 c
          refine wp_const' (L' := [none, none, none, none]) rfl rfl rfl ?_
          exact wp_retI rfl (Or.inr rfl) F
    · replace F := F.2 c
      refine wp_iload rfl rfl rfl ?_
      refine wp_aload rfl rfl rfl ?_
      refine wp_getI rfl rfl rfl f0 rfl ?_
      refine wp_idiv rfl F.1 rfl ?_
      replace F := F.2
      refine wp_iload rfl rfl rfl ?_
      refine wp_icmp_ne rfl rfl rfl rfl rfl (fun c => ?_) (fun c => ?_)
      · replace F := F.1 c
        refine wp_iload' (L' := [some (vR a0), some (vI a1), none, some (vI a3)]) rfl rfl rfl rfl ?_
        refine wp_aload rfl rfl rfl ?_
        refine wp_getI rfl rfl rfl f0 rfl ?_
        refine wp_icmp_eq rfl rfl rfl rfl rfl (fun c => ?_) (fun c => ?_)
        · replace F := F.1 c
          refine wp_const' (L' := [none, none, none, none]) rfl rfl rfl ?_
          refine wp_goto rfl rfl ?_
          exact wp_retI rfl (Or.inr rfl) F
        · replace F := F.2 c
          refine wp_iload rfl rfl rfl ?_
          refine wp_aload rfl rfl rfl ?_
          refine wp_getI rfl rfl rfl f0 rfl ?_
          refine wp_irem rfl F.1 rfl ?_
          replace F := F.2
          refine wp_iload rfl rfl rfl ?_
          refine wp_icmp_ne rfl rfl rfl rfl rfl (fun c => ?_) (fun c => ?_)
          · replace F := F.1 c
            refine wp_const' (L' := [none, none, none, none]) rfl rfl rfl ?_
            refine wp_goto rfl rfl ?_
            exact wp_retI rfl (Or.inr rfl) F
          · replace F := F.2 c
            refine wp_const' (L' := [none, none, none, none]) rfl rfl rfl ?_
            exact wp_retI rfl (Or.inr rfl) F
      · replace F := F.2 c
        refine wp_const' (L' := [none, none, none, none]) rfl rfl rfl ?_
        exact wp_retI rfl (Or.inr rfl) F
  · replace F := F.2 c
    refine wp_const' (L' := [none, none, none, none]) rfl rfl rfl ?_
    exact wp_retI rfl (Or.inr rfl) F
-- CensusOffice$Table sumOf ([III)I
theorem m270 {d : Nat} {a0 : Nat} {a1 : Nat} {a2 : Int32} {a3 : Int32} {h : aH} {K : Int32 → aH → Prop} {X : Nat → aH → Prop} (F : Wp (d + 1) 270 (6, [some (vR a0), some (vR a1), some (vI a2), some (vI a3), some (vI 0), some (vI 0)], [], h) (RI K X)) : CI (d + 1) 270 [vR a0, vR a1, vI a2, vI a3] h K X := by
  show Wp (d + 1) 270 (0, [some (vR a0), some (vR a1), some (vI a2), some (vI a3), none, none], [], h) (RI K X)
  refine wp_const rfl rfl ?_
  refine wp_istore (L2 := [some (vR a0), some (vR a1), some (vI a2), some (vI a3), some (vI 0), none]) rfl rfl rfl rfl ?_
  refine wp_const rfl rfl ?_
  refine wp_istore (L2 := [some (vR a0), some (vR a1), some (vI a2), some (vI a3), some (vI 0), some (vI 0)]) rfl rfl rfl rfl ?_
  exact F
theorem w270_6 {d : Nat} {l0 : Nat} {l1 : Nat} {l2 : Int32} {l3 : Int32} {l4 : Int32} {l5 : Int32} {h : aH} {K : Int32 → aH → Prop} {X : Nat → aH → Prop} (F : gK h l0 = 11 ∧ ((l5.toInt < (gI h l0 6).toInt → (100 ≤ gK h l1 ∧ gK h l1 ≤ 106) ∧ ((l5.toInt < (nI (gL h l1)).toInt → 8 ≤ l0 ∧ CI d 269 [vR l0, vI l5, vI l2, vI l3] h (fun y0 h0 => ((y0.toInt = 0 → ∀ v0 : Int32, v0 = l4 + 0 → ∀ v1 : Int32, v1 = l5 + 1 → Wp (d + 1) 270 (6, [some (vR l0), some (vR l1), some (vI l2), some (vI l3), some (vI v0), some (vI v1)], [], h0) (RI K X)) ∧ (¬ y0.toInt = 0 → ∃ i0 : Nat, inB h0 100 l1 l5 i0 ∧ ∀ v2 : Int32, v2 = l4 + (gI h0 l1 i0) → ∀ v3 : Int32, v3 = l5 + 1 → Wp (d + 1) 270 (6, [some (vR l0), some (vR l1), some (vI l2), some (vI l3), some (vI v2), some (vI v3)], [], h0) (RI K X)))) X) ∧ (¬ l5.toInt < (nI (gL h l1)).toInt → K l4 h))) ∧ (¬ l5.toInt < (gI h l0 6).toInt → K l4 h))) : Wp (d + 1) 270 (6, [some (vR l0), some (vR l1), some (vI l2), some (vI l3), some (vI l4), some (vI l5)], [], h) (RI K X) := by
  refine wp_iload rfl rfl rfl ?_
  refine wp_aload rfl rfl rfl ?_
  obtain ⟨f0, F⟩ := F
  refine wp_getI rfl rfl rfl f0 rfl ?_
  refine wp_icmp_ge rfl rfl rfl rfl rfl (fun c => ?_) (fun c => ?_)
  · replace F := F.1 c
    refine wp_iload rfl rfl rfl ?_
    refine wp_aload rfl rfl rfl ?_
    obtain ⟨f1, F⟩ := F
    refine wp_alen rfl f1 rfl ?_
    refine wp_icmp_ge rfl rfl rfl rfl rfl (fun c => ?_) (fun c => ?_)
    · replace F := F.1 c
      refine wp_iload rfl rfl rfl ?_
      refine wp_aload rfl rfl rfl ?_
      refine wp_iload rfl rfl rfl ?_
      refine wp_iload rfl rfl rfl ?_
      refine wp_iload rfl rfl rfl ?_
      obtain ⟨f2, F⟩ := F
      refine wp_callI rfl rfl rfl (rcv_v f2 f0 (by decide) (by decide)) rfl rfl rfl rfl ?_
      refine CI.mono F (fun y0 h0 F => ?_) (fun _ _ w => rx_I w)
      refine wp_if_eq rfl rfl rfl rfl (fun c => ?_) (fun c => ?_)
      · replace F := F.1 c
        refine wp_const' (L' := [some (vR l0), some (vR l1), some (vI l2), some (vI l3), none, some (vI l5)]) rfl rfl rfl ?_
        refine wp_iadd' (L' := [some (vR l0), some (vR l1), some (vI l2), some (vI l3), none, some (vI l5)]) rfl rfl rfl ?_
        replace F := F _ rfl
        generalize (l4 + 0 : Int32) = v0 at F ⊢
        refine wp_istore (L2 := [some (vR l0), some (vR l1), some (vI l2), some (vI l3), some (vI v0), some (vI l5)]) rfl rfl rfl rfl ?_
        refine wp_iinc (y := 1) (L2 := [some (vR l0), some (vR l1), some (vI l2), some (vI l3), some (vI v0), some (vI (l5 + 1))]) rfl rfl rfl rfl rfl ?_
        replace F := F _ rfl
        generalize (l5 + 1 : Int32) = v1 at F ⊢
        refine wp_goto rfl rfl ?_
        exact F
      · replace F := F.2 c
        refine wp_aload rfl rfl rfl ?_
        refine wp_iload rfl rfl rfl ?_
        obtain ⟨i0, b9, F⟩ := F
        refine wp_iaload rfl b9 rfl ?_
        refine wp_goto rfl rfl ?_
        refine wp_iadd' (L' := [some (vR l0), some (vR l1), some (vI l2), some (vI l3), none, some (vI l5)]) rfl rfl rfl ?_
        replace F := F _ rfl
        generalize (l4 + (gI h0 l1 i0) : Int32) = v2 at F ⊢
        refine wp_istore (L2 := [some (vR l0), some (vR l1), some (vI l2), some (vI l3), some (vI v2), some (vI l5)]) rfl rfl rfl rfl ?_
        refine wp_iinc (y := 1) (L2 := [some (vR l0), some (vR l1), some (vI l2), some (vI l3), some (vI v2), some (vI (l5 + 1))]) rfl rfl rfl rfl rfl ?_
        replace F := F _ rfl
        generalize (l5 + 1 : Int32) = v3 at F ⊢
        refine wp_goto rfl rfl ?_
        exact F
    · replace F := F.2 c
      refine wp_iload' (L' := [none, none, none, none, some (vI l4), none]) rfl rfl rfl rfl ?_
      exact wp_retI rfl (Or.inl rfl) F
  · replace F := F.2 c
    refine wp_iload' (L' := [none, none, none, none, some (vI l4), none]) rfl rfl rfl rfl ?_
    exact wp_retI rfl (Or.inl rfl) F
-- CensusOffice$Table greatestOf (II)I
theorem m271 {d : Nat} {a0 : Nat} {a1 : Int32} {a2 : Int32} {h : aH} {K : Int32 → aH → Prop} {X : Nat → aH → Prop} (F : Wp (d + 1) 271 (5, [some (vR a0), some (vI a1), some (vI a2), some (vI 0), some (vI 0)], [], h) (RI K X)) : CI (d + 1) 271 [vR a0, vI a1, vI a2] h K X := by
  show Wp (d + 1) 271 (0, [some (vR a0), some (vI a1), some (vI a2), none, none], [], h) (RI K X)
  refine wp_const rfl rfl ?_
  refine wp_istore (L2 := [some (vR a0), some (vI a1), some (vI a2), some (vI 0), none]) rfl rfl rfl rfl ?_
  refine wp_const rfl rfl ?_
  refine wp_istore (L2 := [some (vR a0), some (vI a1), some (vI a2), some (vI 0), some (vI 0)]) rfl rfl rfl rfl ?_
  exact F
theorem w271_5 {d : Nat} {l0 : Nat} {l1 : Int32} {l2 : Int32} {l3 : Int32} {l4 : Int32} {h : aH} {K : Int32 → aH → Prop} {X : Nat → aH → Prop} (F : gK h l0 = 11 ∧ ((l4.toInt < (gI h l0 6).toInt → 8 ≤ l0 ∧ CI d 269 [vR l0, vI l4, vI l1, vI l2] h (fun y0 h0 => ((y0.toInt = 0 → ∀ v0 : Int32, v0 = l4 + 1 → Wp (d + 1) 271 (5, [some (vR l0), some (vI l1), some (vI l2), some (vI l3), some (vI v0)], [], h0) (RI K X)) ∧ (¬ y0.toInt = 0 → gK h0 l0 = 11 ∧ ∃ i0 : Nat, inB h0 100 (gR h0 l0 9) l4 i0 ∧ CI d 0 [vI l3, vI (gI h0 (gR h0 l0 9) i0)] h0 (fun y1 h1 => ∀ v1 : Int32, v1 = l4 + 1 → Wp (d + 1) 271 (5, [some (vR l0), some (vI l1), some (vI l2), some (vI y1), some (vI v1)], [], h1) (RI K X)) X))) X) ∧ (¬ l4.toInt < (gI h l0 6).toInt → K l3 h))) : Wp (d + 1) 271 (5, [some (vR l0), some (vI l1), some (vI l2), some (vI l3), some (vI l4)], [], h) (RI K X) := by
  refine wp_iload rfl rfl rfl ?_
  refine wp_aload rfl rfl rfl ?_
  obtain ⟨f0, F⟩ := F
  refine wp_getI rfl rfl rfl f0 rfl ?_
  refine wp_icmp_ge rfl rfl rfl rfl rfl (fun c => ?_) (fun c => ?_)
  · replace F := F.1 c
    refine wp_aload rfl rfl rfl ?_
    refine wp_iload rfl rfl rfl ?_
    refine wp_iload rfl rfl rfl ?_
    refine wp_iload rfl rfl rfl ?_
    obtain ⟨f1, F⟩ := F
    refine wp_callI rfl rfl rfl (rcv_v f1 f0 (by decide) (by decide)) rfl rfl rfl rfl ?_
    refine CI.mono F (fun y0 h0 F => ?_) (fun _ _ w => rx_I w)
    refine wp_if_eq rfl rfl rfl rfl (fun c => ?_) (fun c => ?_)
    · replace F := F.1 c
      refine wp_iload rfl rfl rfl ?_
      refine wp_istore' (L' := [some (vR l0), some (vI l1), some (vI l2), none, some (vI l4)]) (L2 := [some (vR l0), some (vI l1), some (vI l2), some (vI l3), some (vI l4)]) rfl rfl rfl rfl rfl ?_
      refine wp_iinc (y := 1) (L2 := [some (vR l0), some (vI l1), some (vI l2), some (vI l3), some (vI (l4 + 1))]) rfl rfl rfl rfl rfl ?_
      replace F := F _ rfl
      generalize (l4 + 1 : Int32) = v0 at F ⊢
      refine wp_goto rfl rfl ?_
      exact F
    · replace F := F.2 c
      refine wp_iload rfl rfl rfl ?_
      refine wp_aload rfl rfl rfl ?_
      obtain ⟨f2, F⟩ := F
      refine wp_getR rfl rfl rfl f2 rfl ?_
      refine wp_iload rfl rfl rfl ?_
      obtain ⟨i0, b9, F⟩ := F
      refine wp_iaload rfl b9 rfl ?_
      refine wp_callI rfl rfl rfl rfl rfl rfl rfl rfl ?_
      refine CI.mono F (fun y1 h1 F => ?_) (fun _ _ w => rx_I w)
      refine wp_goto rfl rfl ?_
      refine wp_istore' (L' := [some (vR l0), some (vI l1), some (vI l2), none, some (vI l4)]) (L2 := [some (vR l0), some (vI l1), some (vI l2), some (vI y1), some (vI l4)]) rfl rfl rfl rfl rfl ?_
      refine wp_iinc (y := 1) (L2 := [some (vR l0), some (vI l1), some (vI l2), some (vI y1), some (vI (l4 + 1))]) rfl rfl rfl rfl rfl ?_
      replace F := F _ rfl
      generalize (l4 + 1 : Int32) = v1 at F ⊢
      refine wp_goto rfl rfl ?_
      exact F
  · replace F := F.2 c
    refine wp_iload' (L' := [none, none, none, some (vI l3), none]) rfl rfl rfl rfl ?_
    exact wp_retI rfl (Or.inl rfl) F
-- CensusOffice cell (IIII)I
theorem m272 {d : Nat} {a0 : Nat} {a1 : Int32} {a2 : Int32} {a3 : Int32} {a4 : Int32} {h : aH} {K : Int32 → aH → Prop} {X : Nat → aH → Prop} (F : 8 ≤ a0 ∧ gK h a0 = 1 ∧ CR d 267 [vR a0, vI a1] h (fun q0 h0 => gK h0 a0 = 1 ∧ CV d 268 [vR a0, vR q0, vI a2, vI a3] h0 (fun h1 => ((a4.toInt < 0 → X 1 (gNew h1 200 6)) ∧ (¬ a4.toInt < 0 → ((3 < a4.toInt → X 1 (gNew h1 200 6)) ∧ (¬ 3 < a4.toInt → ((a4.toInt = 0 → gK h1 q0 = 11 ∧ 8 ≤ q0 ∧ CI d 270 [vR q0, vR (gR h1 q0 7), vI a2, vI a3] h1 (fun y0 h2 => K y0 h2) X) ∧ (a4.toInt = 1 → gK h1 q0 = 11 ∧ 8 ≤ q0 ∧ CI d 270 [vR q0, vR (gR h1 q0 8), vI a2, vI a3] h1 (fun y1 h3 => K y1 h3) X) ∧ (a4.toInt = 2 → 8 ≤ q0 ∧ gK h1 q0 = 11 ∧ CI d 271 [vR q0, vI a2, vI a3] h1 (fun y2 h4 => K y2 h4) X) ∧ ((¬ a4.toInt = 0 ∧ ¬ a4.toInt = 1 ∧ ¬ a4.toInt = 2) → gK h1 q0 = 11 ∧ 8 ≤ q0 ∧ CI d 270 [vR q0, vR (gR h1 q0 10), vI a2, vI a3] h1 (fun y3 h5 => K y3 h5) X))))))) X) X) : CI (d + 1) 272 [vR a0, vI a1, vI a2, vI a3, vI a4] h K X := by
  show Wp (d + 1) 272 (0, [some (vR a0), some (vI a1), some (vI a2), some (vI a3), some (vI a4), none], [], h) (RI K X)
  refine wp_aload rfl rfl rfl ?_
  refine wp_iload rfl rfl rfl ?_
  obtain ⟨f0, F⟩ := F
  obtain ⟨f1, F⟩ := F
  refine wp_callR rfl rfl rfl (rcv_v f0 f1 (by decide) (by decide)) rfl rfl rfl rfl ?_
  refine CR.mono F (fun q0 h0 F => ?_) (fun _ _ w => rx_I w)
  refine wp_astore (L2 := [some (vR a0), some (vI a1), some (vI a2), some (vI a3), some (vI a4), some (vR q0)]) rfl rfl rfl rfl ?_
  refine wp_aload rfl rfl rfl ?_
  refine wp_aload rfl rfl rfl ?_
  refine wp_iload rfl rfl rfl ?_
  refine wp_iload rfl rfl rfl ?_
  obtain ⟨f2, F⟩ := F
  refine wp_callV rfl rfl rfl (rcv_v f0 f2 (by decide) (by decide)) rfl rfl rfl rfl ?_
  refine CV.mono F (fun h1 F => ?_) (fun _ _ w => rx_I w)
  refine wp_iload rfl rfl rfl ?_
  refine wp_if_lt rfl rfl rfl rfl (fun c => ?_) (fun c => ?_)
  · replace F := F.1 c
    exact wp_thrI rfl F
  · replace F := F.2 c
    refine wp_iload rfl rfl rfl ?_
    refine wp_const rfl rfl ?_
    refine wp_icmp_le (Y := 3) rfl rfl rfl rfl rfl (fun c => ?_) (fun c => ?_)
    · replace F := F.1 c
      exact wp_thrI rfl F
    · replace F := F.2 c
      refine wp_iload' (L' := [none, none, some (vI a2), some (vI a3), some (vI a4), some (vR q0)]) rfl rfl rfl rfl ?_
      by_cases c0 : a4.toInt = 0
      · refine wp_tsw (t := 64) rfl (by unfold aSw; rw [c0]; rfl) ?_
        replace F := F.1 c0
        refine wp_aload rfl rfl rfl ?_
        refine wp_aload rfl rfl rfl ?_
        obtain ⟨f3, F⟩ := F
        refine wp_getR rfl rfl rfl f3 rfl ?_
        refine wp_iload rfl rfl rfl ?_
        refine wp_iload rfl rfl rfl ?_
        obtain ⟨f4, F⟩ := F
        refine wp_callI rfl rfl rfl (rcv_v f4 f3 (by decide) (by decide)) rfl rfl rfl rfl ?_
        refine CI.mono F (fun y0 h2 F => ?_) (fun _ _ w => rx_I w)
        exact wp_retI rfl (Or.inl rfl) F
      by_cases c1 : a4.toInt = 1
      · refine wp_tsw (t := 77) rfl (by unfold aSw; rw [c1]; rfl) ?_
        replace F := F.2.1 c1
        refine wp_aload' (L' := [none, none, some (vI a2), some (vI a3), none, some (vR q0)]) rfl rfl rfl rfl ?_
        refine wp_aload rfl rfl rfl ?_
        obtain ⟨f5, F⟩ := F
        refine wp_getR rfl rfl rfl f5 rfl ?_
        refine wp_iload rfl rfl rfl ?_
        refine wp_iload rfl rfl rfl ?_
        obtain ⟨f6, F⟩ := F
        refine wp_callI rfl rfl rfl (rcv_v f6 f5 (by decide) (by decide)) rfl rfl rfl rfl ?_
        refine CI.mono F (fun y1 h3 F => ?_) (fun _ _ w => rx_I w)
        exact wp_retI rfl (Or.inl rfl) F
      by_cases c2 : a4.toInt = 2
      · refine wp_tsw (t := 90) rfl (by unfold aSw; rw [c2]; rfl) ?_
        replace F := F.2.2.1 c2
        refine wp_aload' (L' := [none, none, some (vI a2), some (vI a3), none, some (vR q0)]) rfl rfl rfl rfl ?_
        refine wp_iload rfl rfl rfl ?_
        refine wp_iload rfl rfl rfl ?_
        obtain ⟨f7, F⟩ := F
        obtain ⟨f8, F⟩ := F
        refine wp_callI rfl rfl rfl (rcv_v f7 f8 (by decide) (by decide)) rfl rfl rfl rfl ?_
        refine CI.mono F (fun y2 h4 F => ?_) (fun _ _ w => rx_I w)
        exact wp_retI rfl (Or.inl rfl) F
      refine wp_tsw (t := 98) rfl (by unfold aSw; rw [if_pos (by omega)]; rfl) ?_
      replace F := F.2.2.2 ⟨c0, c1, c2⟩
      refine wp_aload' (L' := [none, none, some (vI a2), some (vI a3), none, some (vR q0)]) rfl rfl rfl rfl ?_
      refine wp_aload rfl rfl rfl ?_
      obtain ⟨f9, F⟩ := F
      refine wp_getR rfl rfl rfl f9 rfl ?_
      refine wp_iload rfl rfl rfl ?_
      refine wp_iload rfl rfl rfl ?_
      obtain ⟨f10, F⟩ := F
      refine wp_callI rfl rfl rfl (rcv_v f10 f9 (by decide) (by decide)) rfl rfl rfl rfl ?_
      refine CI.mono F (fun y3 h5 F => ?_) (fun _ _ w => rx_I w)
      exact wp_retI rfl (Or.inl rfl) F
-- CensusOfficeLaw cell (LCensusOffice;IIII[J)I
theorem m273 {d : Nat} {a0 : Nat} {a1 : Int32} {a2 : Int32} {a3 : Int32} {a4 : Int32} {a5 : Nat} {h : aH} {K : Int32 → aH → Prop} {X : Nat → aH → Prop} (F : 8 ≤ a0 ∧ gK h a0 = 1 ∧ CI d 272 [vR a0, vI a1, vI a2, vI a3, vI a4] h (fun y0 h0 => 8 ≤ a5 ∧ inB h0 101 a5 0 0 ∧ ∀ h1 : aH, h1 = pJ h0 a5 0 (y0.toInt64) → K 0 h1) (fun x9 h9 => (x9 = 3 ∧ K 1 h9) ∨ (x9 = 1 ∧ K 2 h9))) : CI (d + 1) 273 [vR a0, vI a1, vI a2, vI a3, vI a4, vR a5] h K X := by
  show Wp (d + 1) 273 (0, [some (vR a0), some (vI a1), some (vI a2), some (vI a3), some (vI a4), some (vR a5), none], [], h) (RI K X)
  refine wp_aload rfl rfl rfl ?_
  refine wp_const rfl rfl ?_
  refine wp_aload rfl rfl rfl ?_
  refine wp_iload rfl rfl rfl ?_
  refine wp_iload rfl rfl rfl ?_
  refine wp_iload rfl rfl rfl ?_
  refine wp_iload rfl rfl rfl ?_
  obtain ⟨f0, F⟩ := F
  obtain ⟨f1, F⟩ := F
  refine wp_callhI (X := (fun x9 h9 => (x9 = 3 ∧ K 1 h9) ∨ (x9 = 1 ∧ K 2 h9))) rfl rfl rfl (rcv_v f0 f1 (by decide) (by decide)) rfl rfl rfl (fun x9 h9 F => ?_) ?_
  · rcases F with ⟨rfl, F⟩ | ⟨rfl, F⟩
    · refine ⟨17, rfl, ?_⟩
      refine wp_astoreJ' (L' := [none, none, none, none, none, none, none]) (L2 := [none, none, none, none, none, none, some vJ]) rfl rfl rfl rfl rfl ?_
      refine wp_const rfl rfl ?_
      exact wp_retI rfl (Or.inl rfl) F
    · refine ⟨21, rfl, ?_⟩
      refine wp_astoreJ' (L' := [none, none, none, none, none, none, none]) (L2 := [none, none, none, none, none, none, some vJ]) rfl rfl rfl rfl rfl ?_
      refine wp_const rfl rfl ?_
      exact wp_retI rfl (Or.inl rfl) F
  · refine CI.mono F (fun y0 h0 F => ?_) (fun _ _ w => w)
    refine wp_i2l rfl rfl ?_
    obtain ⟨f2, F⟩ := F
    obtain ⟨b9, F⟩ := F
    refine wp_lastore rfl f2 b9 rfl ?_
    replace F := F _ rfl
    generalize pJ h0 a5 0 (y0.toInt64) = h1 at F ⊢
    refine wp_goto rfl rfl ?_
    refine wp_const' (L' := [none, none, none, none, none, none, none]) rfl rfl rfl ?_
    exact wp_retI rfl (Or.inl rfl) F
-- CensusOfficeModel isTable (I)Z
theorem m274 {d : Nat} {a0 : Nat} {a1 : Int32} {h : aH} {K : Int32 → aH → Prop} {X : Nat → aH → Prop} (F : gK h a0 = 14 ∧ CI d 14 [vL (a1.toInt64), vL 0, vL (((gI h a0 69) - 1).toInt64)] h (fun y0 h0 => y0 &&& 1 = y0 ∧ K y0 h0) X) : CI (d + 1) 274 [vR a0, vI a1] h K X := by
  show Wp (d + 1) 274 (0, [some (vR a0), some (vI a1)], [], h) (RI K X)
  refine wp_iload rfl rfl rfl ?_
  refine wp_i2l rfl rfl ?_
  refine wp_const rfl rfl ?_
  refine wp_aload rfl rfl rfl ?_
  obtain ⟨f0, F⟩ := F
  refine wp_getI rfl rfl rfl f0 rfl ?_
  refine wp_const rfl rfl ?_
  refine wp_isub rfl rfl ?_
  refine wp_i2l rfl rfl ?_
  refine wp_callI rfl rfl rfl rfl rfl rfl rfl rfl ?_
  refine CI.mono F (fun y0 h0 F => ?_) (fun _ _ w => rx_I w)
  exact wp_retI rfl (Or.inr F.1) F.2
-- CensusOfficeModel now (III)I
theorem m275 {d : Nat} {a0 : Nat} {a1 : Int32} {a2 : Int32} {a3 : Int32} {h : aH} {K : Int32 → aH → Prop} {X : Nat → aH → Prop} (F : ∀ v0 : Int32, v0 = (12 * a1) + a2 → ((a3.toInt = 0 → gK h a0 = 14 ∧ ∃ i0 : Nat, inB h 100 (gR h a0 72) v0 i0 ∧ K (gI h (gR h a0 72) i0) h) ∧ (¬ a3.toInt = 0 → ((a3.toInt = 3 → gK h a0 = 14 ∧ ∃ i1 : Nat, inB h 102 (gR h a0 76) a1 i1 ∧ (((gI h (gR h a0 76) i1).toInt = 0 → ∃ i2 : Nat, inB h 100 (gR h a0 72) v0 i2 ∧ K (gI h (gR h a0 72) i2) h) ∧ (¬ (gI h (gR h a0 76) i1).toInt = 0 → ((a3.toInt = 1 → ∃ i3 : Nat, inB h 100 (gR h a0 73) v0 i3 ∧ K (gI h (gR h a0 73) i3) h) ∧ (¬ a3.toInt = 1 → ((a3.toInt = 2 → ∃ i4 : Nat, inB h 100 (gR h a0 74) v0 i4 ∧ K (gI h (gR h a0 74) i4) h) ∧ (¬ a3.toInt = 2 → ∃ i5 : Nat, inB h 100 (gR h a0 75) v0 i5 ∧ K (gI h (gR h a0 75) i5) h))))))) ∧ (¬ a3.toInt = 3 → ((a3.toInt = 1 → gK h a0 = 14 ∧ ∃ i6 : Nat, inB h 100 (gR h a0 73) v0 i6 ∧ K (gI h (gR h a0 73) i6) h) ∧ (¬ a3.toInt = 1 → ((a3.toInt = 2 → gK h a0 = 14 ∧ ∃ i7 : Nat, inB h 100 (gR h a0 74) v0 i7 ∧ K (gI h (gR h a0 74) i7) h) ∧ (¬ a3.toInt = 2 → gK h a0 = 14 ∧ ∃ i8 : Nat, inB h 100 (gR h a0 75) v0 i8 ∧ K (gI h (gR h a0 75) i8) h))))))))) : CI d 275 [vR a0, vI a1, vI a2, vI a3] h K X := by
  show Wp d 275 (0, [some (vR a0), some (vI a1), some (vI a2), some (vI a3), none], [], h) (RI K X)
  refine wp_const rfl rfl ?_
  refine wp_iload rfl rfl rfl ?_
  refine wp_imul rfl rfl ?_
  refine wp_iload rfl rfl rfl ?_
  refine wp_iadd rfl rfl ?_
  replace F := F _ rfl
  generalize ((12 * a1) + a2 : Int32) = v0 at F ⊢
  refine wp_istore (L2 := [some (vR a0), some (vI a1), some (vI a2), some (vI a3), some (vI v0)]) rfl rfl rfl rfl ?_
  refine wp_iload rfl rfl rfl ?_
  refine wp_if_eq rfl rfl rfl rfl (fun c => ?_) (fun c => ?_)
  · replace F := F.1 c
    refine wp_aload' (L' := [some (vR a0), none, none, none, some (vI v0)]) rfl rfl rfl rfl ?_
    obtain ⟨f0, F⟩ := F
    refine wp_getR rfl rfl rfl f0 rfl ?_
    refine wp_iload rfl rfl rfl ?_
    obtain ⟨i0, b9, F⟩ := F
    refine wp_iaload rfl b9 rfl ?_
    refine wp_goto rfl rfl ?_
    exact wp_retI rfl (Or.inl rfl) F
  · replace F := F.2 c
    refine wp_iload rfl rfl rfl ?_
    refine wp_const rfl rfl ?_
    refine wp_icmp_ne (Y := 3) rfl rfl rfl rfl rfl (fun c => ?_) (fun c => ?_)
    · replace F := F.1 c
      refine wp_aload rfl rfl rfl ?_
      obtain ⟨f1, F⟩ := F
      refine wp_getR rfl rfl rfl f1 rfl ?_
      refine wp_iload rfl rfl rfl ?_
      obtain ⟨i1, b9, F⟩ := F
      refine wp_zaload rfl b9 rfl ?_
      refine wp_if_ne rfl rfl rfl rfl (fun c => ?_) (fun c => ?_)
      · replace F := F.1 c
        refine wp_aload' (L' := [some (vR a0), none, none, none, some (vI v0)]) rfl rfl rfl rfl ?_
        refine wp_getR rfl rfl rfl f1 rfl ?_
        refine wp_iload rfl rfl rfl ?_
        obtain ⟨i2, b9, F⟩ := F
        refine wp_iaload rfl b9 rfl ?_
        refine wp_goto rfl rfl ?_
        exact wp_retI rfl (Or.inl rfl) F
      · replace F := F.2 c
        refine wp_iload' (L' := [some (vR a0), none, none, some (vI a3), some (vI v0)]) rfl rfl rfl rfl ?_
        refine wp_const rfl rfl ?_
        refine wp_icmp_ne (Y := 1) rfl rfl rfl rfl rfl (fun c => ?_) (fun c => ?_)
        · replace F := F.1 c
          refine wp_aload rfl rfl rfl ?_
          refine wp_getR rfl rfl rfl f1 rfl ?_
          refine wp_iload rfl rfl rfl ?_
          obtain ⟨i3, b9, F⟩ := F
          refine wp_iaload rfl b9 rfl ?_
          refine wp_goto rfl rfl ?_
          exact wp_retI rfl (Or.inl rfl) F
        · replace F := F.2 c
          refine wp_iload' (L' := [some (vR a0), none, none, some (vI a3), some (vI v0)]) rfl rfl rfl rfl ?_
          refine wp_const rfl rfl ?_
          refine wp_icmp_ne (Y := 2) rfl rfl rfl rfl rfl (fun c => ?_) (fun c => ?_)
          · replace F := F.1 c
            refine wp_aload rfl rfl rfl ?_
            refine wp_getR rfl rfl rfl f1 rfl ?_
            refine wp_iload rfl rfl rfl ?_
            obtain ⟨i4, b9, F⟩ := F
            refine wp_iaload rfl b9 rfl ?_
            refine wp_goto rfl rfl ?_
            exact wp_retI rfl (Or.inl rfl) F
          · replace F := F.2 c
            refine wp_aload' (L' := [some (vR a0), none, none, none, some (vI v0)]) rfl rfl rfl rfl ?_
            refine wp_getR rfl rfl rfl f1 rfl ?_
            refine wp_iload rfl rfl rfl ?_
            obtain ⟨i5, b9, F⟩ := F
            refine wp_iaload rfl b9 rfl ?_
            exact wp_retI rfl (Or.inl rfl) F
    · replace F := F.2 c
      refine wp_iload' (L' := [some (vR a0), none, none, some (vI a3), some (vI v0)]) rfl rfl rfl rfl ?_
      refine wp_const rfl rfl ?_
      refine wp_icmp_ne (Y := 1) rfl rfl rfl rfl rfl (fun c => ?_) (fun c => ?_)
      · replace F := F.1 c
        refine wp_aload rfl rfl rfl ?_
        obtain ⟨f2, F⟩ := F
        refine wp_getR rfl rfl rfl f2 rfl ?_
        refine wp_iload rfl rfl rfl ?_
        obtain ⟨i6, b9, F⟩ := F
        refine wp_iaload rfl b9 rfl ?_
        refine wp_goto rfl rfl ?_
        exact wp_retI rfl (Or.inl rfl) F
      · replace F := F.2 c
        refine wp_iload' (L' := [some (vR a0), none, none, some (vI a3), some (vI v0)]) rfl rfl rfl rfl ?_
        refine wp_const rfl rfl ?_
        refine wp_icmp_ne (Y := 2) rfl rfl rfl rfl rfl (fun c => ?_) (fun c => ?_)
        · replace F := F.1 c
          refine wp_aload rfl rfl rfl ?_
          obtain ⟨f3, F⟩ := F
          refine wp_getR rfl rfl rfl f3 rfl ?_
          refine wp_iload rfl rfl rfl ?_
          obtain ⟨i7, b9, F⟩ := F
          refine wp_iaload rfl b9 rfl ?_
          refine wp_goto rfl rfl ?_
          exact wp_retI rfl (Or.inl rfl) F
        · replace F := F.2 c
          refine wp_aload' (L' := [some (vR a0), none, none, none, some (vI v0)]) rfl rfl rfl rfl ?_
          obtain ⟨f4, F⟩ := F
          refine wp_getR rfl rfl rfl f4 rfl ?_
          refine wp_iload rfl rfl rfl ?_
          obtain ⟨i8, b9, F⟩ := F
          refine wp_iaload rfl b9 rfl ?_
          exact wp_retI rfl (Or.inl rfl) F
-- CensusOfficeModel cell (IIII)I
theorem m276 {d : Nat} {a0 : Nat} {a1 : Int32} {a2 : Int32} {a3 : Int32} {a4 : Int32} {h : aH} {K : Int32 → aH → Prop} {X : Nat → aH → Prop} (F : 8 ≤ a0 ∧ gK h a0 = 14 ∧ ∀ h0 : aH, h0 = pI h a0 0 0 → CI d 274 [vR a0, vI a1] h0 (fun y0 h1 => ((y0.toInt = 0 → gK h1 a0 = 14 ∧ CI d 15 [vR a0, vI 1] h1 (fun y1 h2 => K y1 h2) X) ∧ (¬ y0.toInt = 0 → gK h1 a0 = 14 ∧ ∃ i0 : Nat, inB h1 100 (gR h1 a0 70) a1 i0 ∧ CI d 14 [vL (a2.toInt64), vL 0, vL ((gI h1 (gR h1 a0 70) i0).toInt64)] h1 (fun y2 h3 => ((y2.toInt = 0 → gK h3 a0 = 14 ∧ CI d 15 [vR a0, vI 1] h3 (fun y3 h4 => K y3 h4) X) ∧ (¬ y2.toInt = 0 → gK h3 a0 = 14 ∧ ∃ i1 : Nat, inB h3 100 (gR h3 a0 71) a1 i1 ∧ CI d 14 [vL (a3.toInt64), vL 0, vL ((gI h3 (gR h3 a0 71) i1).toInt64)] h3 (fun y4 h5 => ((y4.toInt = 0 → gK h5 a0 = 14 ∧ CI d 15 [vR a0, vI 1] h5 (fun y5 h6 => K y5 h6) X) ∧ (¬ y4.toInt = 0 → CI d 14 [vL (a4.toInt64), vL 0, vL 3] h5 (fun y6 h7 => ((y6.toInt = 0 → gK h7 a0 = 14 ∧ CI d 15 [vR a0, vI 2] h7 (fun y7 h8 => K y7 h8) X) ∧ (¬ y6.toInt = 0 → Wp (d + 1) 276 (76, [some (vR a0), some (vI a1), some (vI a2), some (vI a3), some (vI a4), some (vI 0), some (vI 0), none], [], h7) (RI K X)))) X))) X))) X))) X) : CI (d + 1) 276 [vR a0, vI a1, vI a2, vI a3, vI a4] h K X := by
  show Wp (d + 1) 276 (0, [some (vR a0), some (vI a1), some (vI a2), some (vI a3), some (vI a4), none, none, none], [], h) (RI K X)
  refine wp_aload rfl rfl rfl ?_
  refine wp_const rfl rfl ?_
  obtain ⟨f0, F⟩ := F
  obtain ⟨f1, F⟩ := F
  refine wp_putI rfl rfl rfl f0 f1 rfl ?_
  have f2 : gK (pI h a0 0 0) a0 = 14 := (gK_pI _ _ _ _ _).trans f1
  replace F := F _ rfl
  generalize pI h a0 0 0 = h0 at F f2 ⊢
  refine wp_aload rfl rfl rfl ?_
  refine wp_iload rfl rfl rfl ?_
  refine wp_callI rfl rfl rfl (rcv_v f0 f2 (by decide) (by decide)) rfl rfl rfl rfl ?_
  refine CI.mono F (fun y0 h1 F => ?_) (fun _ _ w => rx_I w)
  refine wp_if_eq rfl rfl rfl rfl (fun c => ?_) (fun c => ?_)
  · replace F := F.1 c
    refine wp_aload' (L' := [some (vR a0), none, none, none, none, none, none, none]) rfl rfl rfl rfl ?_
    refine wp_const rfl rfl ?_
    obtain ⟨f3, F⟩ := F
    refine wp_callI rfl rfl rfl (rcv_v f0 f3 (by decide) (by decide)) rfl rfl rfl rfl ?_
    refine CI.mono F (fun y1 h2 F => ?_) (fun _ _ w => rx_I w)
    exact wp_retI rfl (Or.inl rfl) F
  · replace F := F.2 c
    refine wp_iload rfl rfl rfl ?_
    refine wp_i2l rfl rfl ?_
    refine wp_const rfl rfl ?_
    refine wp_aload rfl rfl rfl ?_
    obtain ⟨f4, F⟩ := F
    refine wp_getR rfl rfl rfl f4 rfl ?_
    refine wp_iload rfl rfl rfl ?_
    obtain ⟨i0, b9, F⟩ := F
    refine wp_iaload rfl b9 rfl ?_
    refine wp_i2l rfl rfl ?_
    refine wp_callI rfl rfl rfl rfl rfl rfl rfl rfl ?_
    refine CI.mono F (fun y2 h3 F => ?_) (fun _ _ w => rx_I w)
    refine wp_if_eq rfl rfl rfl rfl (fun c => ?_) (fun c => ?_)
    · replace F := F.1 c
      refine wp_aload' (L' := [some (vR a0), none, none, none, none, none, none, none]) rfl rfl rfl rfl ?_
      refine wp_const rfl rfl ?_
      obtain ⟨f5, F⟩ := F
      refine wp_callI rfl rfl rfl (rcv_v f0 f5 (by decide) (by decide)) rfl rfl rfl rfl ?_
      refine CI.mono F (fun y3 h4 F => ?_) (fun _ _ w => rx_I w)
      exact wp_retI rfl (Or.inl rfl) F
    · replace F := F.2 c
      refine wp_iload rfl rfl rfl ?_
      refine wp_i2l rfl rfl ?_
      refine wp_const rfl rfl ?_
      refine wp_aload rfl rfl rfl ?_
      obtain ⟨f6, F⟩ := F
      refine wp_getR rfl rfl rfl f6 rfl ?_
      refine wp_iload rfl rfl rfl ?_
      obtain ⟨i1, b9, F⟩ := F
      refine wp_iaload rfl b9 rfl ?_
      refine wp_i2l rfl rfl ?_
      refine wp_callI rfl rfl rfl rfl rfl rfl rfl rfl ?_
      refine CI.mono F (fun y4 h5 F => ?_) (fun _ _ w => rx_I w)
      refine wp_if_ne rfl rfl rfl rfl (fun c => ?_) (fun c => ?_)
      · replace F := F.1 c
        refine wp_aload' (L' := [some (vR a0), none, none, none, none, none, none, none]) rfl rfl rfl rfl ?_
        refine wp_const rfl rfl ?_
        obtain ⟨f7, F⟩ := F
        refine wp_callI rfl rfl rfl (rcv_v f0 f7 (by decide) (by decide)) rfl rfl rfl rfl ?_
        refine CI.mono F (fun y5 h6 F => ?_) (fun _ _ w => rx_I w)
        exact wp_retI rfl (Or.inl rfl) F
      · replace F := F.2 c
        refine wp_iload' (L' := [some (vR a0), some (vI a1), some (vI a2), some (vI a3), some (vI a4), none, none, none]) rfl rfl rfl rfl ?_
        refine wp_i2l rfl rfl ?_
        refine wp_const rfl rfl ?_
        refine wp_const rfl rfl ?_
        refine wp_callI rfl rfl rfl rfl rfl rfl rfl rfl ?_
        refine CI.mono F (fun y6 h7 F => ?_) (fun _ _ w => rx_I w)
        refine wp_if_ne rfl rfl rfl rfl (fun c => ?_) (fun c => ?_)
        · replace F := F.1 c
          refine wp_aload rfl rfl rfl ?_
          refine wp_const rfl rfl ?_
          obtain ⟨f8, F⟩ := F
          refine wp_callI rfl rfl rfl (rcv_v f0 f8 (by decide) (by decide)) rfl rfl rfl rfl ?_
          refine CI.mono F (fun y7 h8 F => ?_) (fun _ _ w => rx_I w)
          exact wp_retI rfl (Or.inl rfl) F
        · replace F := F.2 c
          refine wp_const' (L' := [some (vR a0), some (vI a1), some (vI a2), some (vI a3), some (vI a4), none, none, none]) rfl rfl rfl ?_
          refine wp_istore (L2 := [some (vR a0), some (vI a1), some (vI a2), some (vI a3), some (vI a4), some (vI 0), none, none]) rfl rfl rfl rfl ?_
          refine wp_const rfl rfl ?_
          refine wp_istore (L2 := [some (vR a0), some (vI a1), some (vI a2), some (vI a3), some (vI a4), some (vI 0), some (vI 0), none]) rfl rfl rfl rfl ?_
          exact F
theorem w276_76 {d : Nat} {l0 : Nat} {l1 : Int32} {l2 : Int32} {l3 : Int32} {l4 : Int32} {l5 : Int32} {l6 : Int32} {h : aH} {K : Int32 → aH → Prop} {X : Nat → aH → Prop} (F : gK h l0 = 14 ∧ ∃ i0 : Nat, inB h 100 (gR h l0 70) l1 i0 ∧ ∃ i1 : Nat, inB h 100 (gR h l0 71) l1 i1 ∧ ((l6.toInt < ((gI h (gR h l0 70) i0) * (gI h (gR h l0 71) i1)).toInt → ∃ i2 : Nat, inB h 100 (gR h l0 70) l1 i2 ∧ ((l2.toInt = (gI h (gR h l0 70) i2).toInt → ∃ i3 : Nat, inB h 100 (gR h l0 71) l1 i3 ∧ ((l3.toInt = (gI h (gR h l0 71) i3).toInt → Wp (d + 1) 276 (140, [some (vR l0), some (vI l1), some (vI l2), some (vI l3), some (vI l4), some (vI l5), some (vI l6), none], [], h) (RI K X)) ∧ (¬ l3.toInt = (gI h (gR h l0 71) i3).toInt → ∃ i4 : Nat, inB h 100 (gR h l0 71) l1 i4 ∧ (¬ (gI h (gR h l0 71) i4) = 0) ∧ (((aIrem l6 (gI h (gR h l0 71) i4)).toInt = l3.toInt → Wp (d + 1) 276 (140, [some (vR l0), some (vI l1), some (vI l2), some (vI l3), some (vI l4), some (vI l5), some (vI l6), none], [], h) (RI K X)) ∧ (¬ (aIrem l6 (gI h (gR h l0 71) i4)).toInt = l3.toInt → ∀ v0 : Int32, v0 = l6 + 1 → Wp (d + 1) 276 (76, [some (vR l0), some (vI l1), some (vI l2), some (vI l3), some (vI l4), some (vI l5), some (vI v0), none], [], h) (RI K X)))))) ∧ (¬ l2.toInt = (gI h (gR h l0 70) i2).toInt → ∃ i5 : Nat, inB h 100 (gR h l0 71) l1 i5 ∧ (¬ (gI h (gR h l0 71) i5) = 0) ∧ (((l6 / (gI h (gR h l0 71) i5)).toInt = l2.toInt → ∃ i6 : Nat, inB h 100 (gR h l0 71) l1 i6 ∧ ((l3.toInt = (gI h (gR h l0 71) i6).toInt → Wp (d + 1) 276 (140, [some (vR l0), some (vI l1), some (vI l2), some (vI l3), some (vI l4), some (vI l5), some (vI l6), none], [], h) (RI K X)) ∧ (¬ l3.toInt = (gI h (gR h l0 71) i6).toInt → ∃ i7 : Nat, inB h 100 (gR h l0 71) l1 i7 ∧ (¬ (gI h (gR h l0 71) i7) = 0) ∧ (((aIrem l6 (gI h (gR h l0 71) i7)).toInt = l3.toInt → Wp (d + 1) 276 (140, [some (vR l0), some (vI l1), some (vI l2), some (vI l3), some (vI l4), some (vI l5), some (vI l6), none], [], h) (RI K X)) ∧ (¬ (aIrem l6 (gI h (gR h l0 71) i7)).toInt = l3.toInt → ∀ v1 : Int32, v1 = l6 + 1 → Wp (d + 1) 276 (76, [some (vR l0), some (vI l1), some (vI l2), some (vI l3), some (vI l4), some (vI l5), some (vI v1), none], [], h) (RI K X)))))) ∧ (¬ (l6 / (gI h (gR h l0 71) i5)).toInt = l2.toInt → ∀ v2 : Int32, v2 = l6 + 1 → Wp (d + 1) 276 (76, [some (vR l0), some (vI l1), some (vI l2), some (vI l3), some (vI l4), some (vI l5), some (vI v2), none], [], h) (RI K X)))))) ∧ (¬ l6.toInt < ((gI h (gR h l0 70) i0) * (gI h (gR h l0 71) i1)).toInt → K l5 h))) : Wp (d + 1) 276 (76, [some (vR l0), some (vI l1), some (vI l2), some (vI l3), some (vI l4), some (vI l5), some (vI l6), none], [], h) (RI K X) := by
  refine wp_iload' (L' := [some (vR l0), some (vI l1), some (vI l2), some (vI l3), some (vI l4), some (vI l5), some (vI l6), none]) rfl rfl rfl rfl ?_
  refine wp_aload rfl rfl rfl ?_
  obtain ⟨f0, F⟩ := F
  refine wp_getR rfl rfl rfl f0 rfl ?_
  refine wp_iload rfl rfl rfl ?_
  obtain ⟨i0, b9, F⟩ := F
  refine wp_iaload rfl b9 rfl ?_
  refine wp_aload rfl rfl rfl ?_
  refine wp_getR rfl rfl rfl f0 rfl ?_
  refine wp_iload rfl rfl rfl ?_
  obtain ⟨i1, b9, F⟩ := F
  refine wp_iaload rfl b9 rfl ?_
  refine wp_imul rfl rfl ?_
  refine wp_icmp_ge rfl rfl rfl rfl rfl (fun c => ?_) (fun c => ?_)
  · replace F := F.1 c
    refine wp_iload rfl rfl rfl ?_
    refine wp_aload rfl rfl rfl ?_
    refine wp_getR rfl rfl rfl f0 rfl ?_
    refine wp_iload rfl rfl rfl ?_
    obtain ⟨i2, b9, F⟩ := F
    refine wp_iaload rfl b9 rfl ?_
    refine wp_icmp_eq rfl rfl rfl rfl rfl (fun c => ?_) (fun c => ?_)
    · replace F := F.1 c
      refine wp_iload' (L' := [some (vR l0), some (vI l1), some (vI l2), some (vI l3), some (vI l4), some (vI l5), some (vI l6), none]) rfl rfl rfl rfl ?_
      refine wp_aload rfl rfl rfl ?_
      refine wp_getR rfl rfl rfl f0 rfl ?_
      refine wp_iload rfl rfl rfl ?_
      obtain ⟨i3, b9, F⟩ := F
      refine wp_iaload rfl b9 rfl ?_
      refine wp_icmp_eq rfl rfl rfl rfl rfl (fun c => ?_) (fun c => ?_)
      · replace F := F.1 c
        exact F
      · replace F := F.2 c
        refine wp_iload rfl rfl rfl ?_
        refine wp_aload rfl rfl rfl ?_
        refine wp_getR rfl rfl rfl f0 rfl ?_
        refine wp_iload rfl rfl rfl ?_
        obtain ⟨i4, b9, F⟩ := F
        refine wp_iaload rfl b9 rfl ?_
        refine wp_irem rfl F.1 rfl ?_
        replace F := F.2
        refine wp_iload rfl rfl rfl ?_
        refine wp_icmp_ne rfl rfl rfl rfl rfl (fun c => ?_) (fun c => ?_)
        · replace F := F.1 c
          exact F
        · replace F := F.2 c
          refine wp_iinc' (L' := [some (vR l0), some (vI l1), some (vI l2), some (vI l3), some (vI l4), some (vI l5), some (vI l6), none]) (y := 1) (L2 := [some (vR l0), some (vI l1), some (vI l2), some (vI l3), some (vI l4), some (vI l5), some (vI (l6 + 1)), none]) rfl rfl rfl rfl rfl rfl ?_
          replace F := F _ rfl
          generalize (l6 + 1 : Int32) = v0 at F ⊢
          refine wp_goto rfl rfl ?_
          exact F
    · replace F := F.2 c
      refine wp_iload rfl rfl rfl ?_
      refine wp_aload rfl rfl rfl ?_
      refine wp_getR rfl rfl rfl f0 rfl ?_
      refine wp_iload rfl rfl rfl ?_
      obtain ⟨i5, b9, F⟩ := F
      refine wp_iaload rfl b9 rfl ?_
      refine wp_idiv rfl F.1 rfl ?_
      replace F := F.2
      refine wp_iload rfl rfl rfl ?_
      refine wp_icmp_ne rfl rfl rfl rfl rfl (fun c => ?_) (fun c => ?_)
      · replace F := F.1 c
        refine wp_iload' (L' := [some (vR l0), some (vI l1), some (vI l2), some (vI l3), some (vI l4), some (vI l5), some (vI l6), none]) rfl rfl rfl rfl ?_
        refine wp_aload rfl rfl rfl ?_
        refine wp_getR rfl rfl rfl f0 rfl ?_
        refine wp_iload rfl rfl rfl ?_
        obtain ⟨i6, b9, F⟩ := F
        refine wp_iaload rfl b9 rfl ?_
        refine wp_icmp_eq rfl rfl rfl rfl rfl (fun c => ?_) (fun c => ?_)
        · replace F := F.1 c
          exact F
        · replace F := F.2 c
          refine wp_iload rfl rfl rfl ?_
          refine wp_aload rfl rfl rfl ?_
          refine wp_getR rfl rfl rfl f0 rfl ?_
          refine wp_iload rfl rfl rfl ?_
          obtain ⟨i7, b9, F⟩ := F
          refine wp_iaload rfl b9 rfl ?_
          refine wp_irem rfl F.1 rfl ?_
          replace F := F.2
          refine wp_iload rfl rfl rfl ?_
          refine wp_icmp_ne rfl rfl rfl rfl rfl (fun c => ?_) (fun c => ?_)
          · replace F := F.1 c
            exact F
          · replace F := F.2 c
            refine wp_iinc' (L' := [some (vR l0), some (vI l1), some (vI l2), some (vI l3), some (vI l4), some (vI l5), some (vI l6), none]) (y := 1) (L2 := [some (vR l0), some (vI l1), some (vI l2), some (vI l3), some (vI l4), some (vI l5), some (vI (l6 + 1)), none]) rfl rfl rfl rfl rfl rfl ?_
            replace F := F _ rfl
            generalize (l6 + 1 : Int32) = v1 at F ⊢
            refine wp_goto rfl rfl ?_
            exact F
      · replace F := F.2 c
        refine wp_iinc' (L' := [some (vR l0), some (vI l1), some (vI l2), some (vI l3), some (vI l4), some (vI l5), some (vI l6), none]) (y := 1) (L2 := [some (vR l0), some (vI l1), some (vI l2), some (vI l3), some (vI l4), some (vI l5), some (vI (l6 + 1)), none]) rfl rfl rfl rfl rfl rfl ?_
        replace F := F _ rfl
        generalize (l6 + 1 : Int32) = v2 at F ⊢
        refine wp_goto rfl rfl ?_
        exact F
  · replace F := F.2 c
    refine wp_iload' (L' := [none, none, none, none, none, some (vI l5), none, none]) rfl rfl rfl rfl ?_
    exact wp_retI rfl (Or.inl rfl) F
theorem w276_140 {d : Nat} {l0 : Nat} {l1 : Int32} {l2 : Int32} {l3 : Int32} {l4 : Int32} {l5 : Int32} {l6 : Int32} {h : aH} {K : Int32 → aH → Prop} {X : Nat → aH → Prop} (F : 8 ≤ l0 ∧ gK h l0 = 14 ∧ CI d 275 [vR l0, vI l1, vI l6, vI l4] h (fun y0 h0 => ((l4.toInt = 2 → ((l5.toInt < y0.toInt → ∀ v0 : Int32, v0 = l6 + 1 → Wp (d + 1) 276 (76, [some (vR l0), some (vI l1), some (vI l2), some (vI l3), some (vI l4), some (vI y0), some (vI v0), none], [], h0) (RI K X)) ∧ (¬ l5.toInt < y0.toInt → ∀ v1 : Int32, v1 = l6 + 1 → Wp (d + 1) 276 (76, [some (vR l0), some (vI l1), some (vI l2), some (vI l3), some (vI l4), some (vI l5), some (vI v1), none], [], h0) (RI K X)))) ∧ (¬ l4.toInt = 2 → ∀ v2 : Int32, v2 = l5 + y0 → ∀ v3 : Int32, v3 = l6 + 1 → Wp (d + 1) 276 (76, [some (vR l0), some (vI l1), some (vI l2), some (vI l3), some (vI l4), some (vI v2), some (vI v3), none], [], h0) (RI K X)))) X) : Wp (d + 1) 276 (140, [some (vR l0), some (vI l1), some (vI l2), some (vI l3), some (vI l4), some (vI l5), some (vI l6), none], [], h) (RI K X) := by
  refine wp_aload' (L' := [some (vR l0), some (vI l1), some (vI l2), some (vI l3), some (vI l4), some (vI l5), some (vI l6), none]) rfl rfl rfl rfl ?_
  refine wp_iload rfl rfl rfl ?_
  refine wp_iload rfl rfl rfl ?_
  refine wp_iload rfl rfl rfl ?_
  obtain ⟨f0, F⟩ := F
  obtain ⟨f1, F⟩ := F
  refine wp_callI rfl rfl rfl (rcv_v f0 f1 (by decide) (by decide)) rfl rfl rfl rfl ?_
  refine CI.mono F (fun y0 h0 F => ?_) (fun _ _ w => rx_I w)
  refine wp_istore (L2 := [some (vR l0), some (vI l1), some (vI l2), some (vI l3), some (vI l4), some (vI l5), some (vI l6), some (vI y0)]) rfl rfl rfl rfl ?_
  refine wp_iload rfl rfl rfl ?_
  refine wp_const rfl rfl ?_
  refine wp_icmp_eq (Y := 2) rfl rfl rfl rfl rfl (fun c => ?_) (fun c => ?_)
  · replace F := F.1 c
    refine wp_iload rfl rfl rfl ?_
    refine wp_iload rfl rfl rfl ?_
    refine wp_icmp_le rfl rfl rfl rfl rfl (fun c => ?_) (fun c => ?_)
    · replace F := F.1 c
      refine wp_iload rfl rfl rfl ?_
      refine wp_goto rfl rfl ?_
      refine wp_istore' (L' := [some (vR l0), some (vI l1), some (vI l2), some (vI l3), some (vI l4), none, some (vI l6), none]) (L2 := [some (vR l0), some (vI l1), some (vI l2), some (vI l3), some (vI l4), some (vI y0), some (vI l6), none]) rfl rfl rfl rfl rfl ?_
      refine wp_iinc' (L' := [some (vR l0), some (vI l1), some (vI l2), some (vI l3), some (vI l4), some (vI y0), some (vI l6), none]) (y := 1) (L2 := [some (vR l0), some (vI l1), some (vI l2), some (vI l3), some (vI l4), some (vI y0), some (vI (l6 + 1)), none]) rfl rfl rfl rfl rfl rfl ?_
      replace F := F _ rfl
      generalize (l6 + 1 : Int32) = v0 at F ⊢
      refine wp_goto rfl rfl ?_
      exact F
    · replace F := F.2 c
      refine wp_iload' (L' := [some (vR l0), some (vI l1), some (vI l2), some (vI l3), some (vI l4), some (vI l5), some (vI l6), none]) rfl rfl rfl rfl ?_
      refine wp_istore' (L' := [some (vR l0), some (vI l1), some (vI l2), some (vI l3), some (vI l4), none, some (vI l6), none]) (L2 := [some (vR l0), some (vI l1), some (vI l2), some (vI l3), some (vI l4), some (vI l5), some (vI l6), none]) rfl rfl rfl rfl rfl ?_
      refine wp_iinc' (L' := [some (vR l0), some (vI l1), some (vI l2), some (vI l3), some (vI l4), some (vI l5), some (vI l6), none]) (y := 1) (L2 := [some (vR l0), some (vI l1), some (vI l2), some (vI l3), some (vI l4), some (vI l5), some (vI (l6 + 1)), none]) rfl rfl rfl rfl rfl rfl ?_
      replace F := F _ rfl
      generalize (l6 + 1 : Int32) = v1 at F ⊢
      refine wp_goto rfl rfl ?_
      exact F
  · replace F := F.2 c
    refine wp_iload rfl rfl rfl ?_
    refine wp_iload rfl rfl rfl ?_
    refine wp_iadd rfl rfl ?_
    refine wp_goto rfl rfl ?_
    replace F := F _ rfl
    generalize (l5 + y0 : Int32) = v2 at F ⊢
    refine wp_istore' (L' := [some (vR l0), some (vI l1), some (vI l2), some (vI l3), some (vI l4), none, some (vI l6), none]) (L2 := [some (vR l0), some (vI l1), some (vI l2), some (vI l3), some (vI l4), some (vI v2), some (vI l6), none]) rfl rfl rfl rfl rfl ?_
    refine wp_iinc' (L' := [some (vR l0), some (vI l1), some (vI l2), some (vI l3), some (vI l4), some (vI v2), some (vI l6), none]) (y := 1) (L2 := [some (vR l0), some (vI l1), some (vI l2), some (vI l3), some (vI l4), some (vI v2), some (vI (l6 + 1)), none]) rfl rfl rfl rfl rfl rfl ?_
    replace F := F _ rfl
    generalize (l6 + 1 : Int32) = v3 at F ⊢
    refine wp_goto rfl rfl ?_
    exact F
-- CensusOffice$Table columnsOf (II)I
theorem m277 {d : Nat} {a0 : Nat} {a1 : Int32} {a2 : Int32} {h : aH} {K : Int32 → aH → Prop} {X : Nat → aH → Prop} (F : Wp (d + 1) 277 (5, [some (vR a0), some (vI a1), some (vI a2), some (vI 0), some (vI 0)], [], h) (RI K X)) : CI (d + 1) 277 [vR a0, vI a1, vI a2] h K X := by
  show Wp (d + 1) 277 (0, [some (vR a0), some (vI a1), some (vI a2), none, none], [], h) (RI K X)
  refine wp_const rfl rfl ?_
  refine wp_istore (L2 := [some (vR a0), some (vI a1), some (vI a2), some (vI 0), none]) rfl rfl rfl rfl ?_
  refine wp_const rfl rfl ?_
  refine wp_istore (L2 := [some (vR a0), some (vI a1), some (vI a2), some (vI 0), some (vI 0)]) rfl rfl rfl rfl ?_
  exact F
theorem w277_5 {d : Nat} {l0 : Nat} {l1 : Int32} {l2 : Int32} {l3 : Int32} {l4 : Int32} {h : aH} {K : Int32 → aH → Prop} {X : Nat → aH → Prop} (F : gK h l0 = 11 ∧ ((l4.toInt < (gI h l0 4).toInt → CI d 199 [vI l2, vI l4] h (fun y0 h0 => ((y0.toInt = 0 → ∀ v0 : Int32, v0 = l3 ||| 0 → ∀ v1 : Int32, v1 = l4 + 1 → Wp (d + 1) 277 (5, [some (vR l0), some (vI l1), some (vI l2), some (vI v0), some (vI v1)], [], h0) (RI K X)) ∧ (¬ y0.toInt = 0 → gK h0 l0 = 11 ∧ ∀ v2 : Int32, v2 = l3 ||| (l1 >>> ((l4 * (gI h0 l0 5)) &&& 31)) → ∀ v3 : Int32, v3 = l4 + 1 → Wp (d + 1) 277 (5, [some (vR l0), some (vI l1), some (vI l2), some (vI v2), some (vI v3)], [], h0) (RI K X)))) (fun _ _ => False)) ∧ (¬ l4.toInt < (gI h l0 4).toInt → K (l3 &&& ((1 <<< ((gI h l0 5) &&& 31)) - 1)) h))) : Wp (d + 1) 277 (5, [some (vR l0), some (vI l1), some (vI l2), some (vI l3), some (vI l4)], [], h) (RI K X) := by
  refine wp_iload rfl rfl rfl ?_
  refine wp_aload rfl rfl rfl ?_
  obtain ⟨f0, F⟩ := F
  refine wp_getI rfl rfl rfl f0 rfl ?_
  refine wp_icmp_ge rfl rfl rfl rfl rfl (fun c => ?_) (fun c => ?_)
  · replace F := F.1 c
    refine wp_iload rfl rfl rfl ?_
    refine wp_iload rfl rfl rfl ?_
    refine wp_iload rfl rfl rfl ?_
    refine wp_callqI rfl rfl rfl rfl rfl rfl ?_
    refine CI.mono F (fun y0 h0 F => ?_) (fun _ _ w => w)
    refine wp_if_eq rfl rfl rfl rfl (fun c => ?_) (fun c => ?_)
    · replace F := F.1 c
      refine wp_const' (L' := [some (vR l0), some (vI l1), some (vI l2), none, some (vI l4)]) rfl rfl rfl ?_
      refine wp_ior' (L' := [some (vR l0), some (vI l1), some (vI l2), none, some (vI l4)]) rfl rfl rfl ?_
      replace F := F _ rfl
      generalize (l3 ||| 0 : Int32) = v0 at F ⊢
      refine wp_istore (L2 := [some (vR l0), some (vI l1), some (vI l2), some (vI v0), some (vI l4)]) rfl rfl rfl rfl ?_
      refine wp_iinc (y := 1) (L2 := [some (vR l0), some (vI l1), some (vI l2), some (vI v0), some (vI (l4 + 1))]) rfl rfl rfl rfl rfl ?_
      replace F := F _ rfl
      generalize (l4 + 1 : Int32) = v1 at F ⊢
      refine wp_goto rfl rfl ?_
      exact F
    · replace F := F.2 c
      refine wp_iload rfl rfl rfl ?_
      refine wp_iload rfl rfl rfl ?_
      refine wp_aload rfl rfl rfl ?_
      obtain ⟨f1, F⟩ := F
      refine wp_getI rfl rfl rfl f1 rfl ?_
      refine wp_imul rfl rfl ?_
      refine wp_ishr rfl rfl ?_
      refine wp_goto rfl rfl ?_
      refine wp_ior' (L' := [some (vR l0), some (vI l1), some (vI l2), none, some (vI l4)]) rfl rfl rfl ?_
      replace F := F _ rfl
      generalize (l3 ||| (l1 >>> ((l4 * (gI h0 l0 5)) &&& 31)) : Int32) = v2 at F ⊢
      refine wp_istore (L2 := [some (vR l0), some (vI l1), some (vI l2), some (vI v2), some (vI l4)]) rfl rfl rfl rfl ?_
      refine wp_iinc (y := 1) (L2 := [some (vR l0), some (vI l1), some (vI l2), some (vI v2), some (vI (l4 + 1))]) rfl rfl rfl rfl rfl ?_
      replace F := F _ rfl
      generalize (l4 + 1 : Int32) = v3 at F ⊢
      refine wp_goto rfl rfl ?_
      exact F
  · replace F := F.2 c
    refine wp_iload' (L' := [some (vR l0), none, none, some (vI l3), none]) rfl rfl rfl rfl ?_
    refine wp_const rfl rfl ?_
    refine wp_aload rfl rfl rfl ?_
    refine wp_getI rfl rfl rfl f0 rfl ?_
    refine wp_ishl rfl rfl ?_
    refine wp_const rfl rfl ?_
    refine wp_isub rfl rfl ?_
    refine wp_iand rfl rfl ?_
    exact wp_retI rfl (Or.inl rfl) F
-- CensusOffice$Table cut (III)I
theorem m278 {d : Nat} {a0 : Nat} {a1 : Int32} {a2 : Int32} {a3 : Int32} {h : aH} {K : Int32 → aH → Prop} {X : Nat → aH → Prop} (F : Wp (d + 1) 278 (6, [some (vR a0), some (vI a1), some (vI a2), some (vI a3), some (vI 0), some (vI 0)], [], h) (RI K X)) : CI (d + 1) 278 [vR a0, vI a1, vI a2, vI a3] h K X := by
  show Wp (d + 1) 278 (0, [some (vR a0), some (vI a1), some (vI a2), some (vI a3), none, none], [], h) (RI K X)
  refine wp_const rfl rfl ?_
  refine wp_istore (L2 := [some (vR a0), some (vI a1), some (vI a2), some (vI a3), some (vI 0), none]) rfl rfl rfl rfl ?_
  refine wp_const rfl rfl ?_
  refine wp_istore (L2 := [some (vR a0), some (vI a1), some (vI a2), some (vI a3), some (vI 0), some (vI 0)]) rfl rfl rfl rfl ?_
  exact F
theorem w278_6 {d : Nat} {l0 : Nat} {l1 : Int32} {l2 : Int32} {l3 : Int32} {l4 : Int32} {l5 : Int32} {h : aH} {K : Int32 → aH → Prop} {X : Nat → aH → Prop} (F : gK h l0 = 11 ∧ ((l5.toInt < (gI h l0 4).toInt → CI d 199 [vI l2, vI l5] h (fun y0 h0 => ((y0.toInt = 0 → gK h0 l0 = 11 ∧ ∃ i0 : Nat, inB h0 100 (gR h0 l0 11) ((l5 <<< (3 &&& 31)) ||| ((l1 >>> ((l5 * (gI h0 l0 5)) &&& 31)) &&& l3)) i0 ∧ ∀ v0 : Int32, v0 = l4 + (gI h0 (gR h0 l0 11) i0) → ∀ v1 : Int32, v1 = l5 + 1 → Wp (d + 1) 278 (6, [some (vR l0), some (vI l1), some (vI l2), some (vI l3), some (vI v0), some (vI v1)], [], h0) (RI K X)) ∧ (¬ y0.toInt = 0 → ∀ v2 : Int32, v2 = l5 + 1 → Wp (d + 1) 278 (6, [some (vR l0), some (vI l1), some (vI l2), some (vI l3), some (vI l4), some (vI v2)], [], h0) (RI K X)))) (fun _ _ => False)) ∧ (¬ l5.toInt < (gI h l0 4).toInt → K l4 h))) : Wp (d + 1) 278 (6, [some (vR l0), some (vI l1), some (vI l2), some (vI l3), some (vI l4), some (vI l5)], [], h) (RI K X) := by
  refine wp_iload rfl rfl rfl ?_
  refine wp_aload rfl rfl rfl ?_
  obtain ⟨f0, F⟩ := F
  refine wp_getI rfl rfl rfl f0 rfl ?_
  refine wp_icmp_ge rfl rfl rfl rfl rfl (fun c => ?_) (fun c => ?_)
  · replace F := F.1 c
    refine wp_iload rfl rfl rfl ?_
    refine wp_iload rfl rfl rfl ?_
    refine wp_callqI rfl rfl rfl rfl rfl rfl ?_
    refine CI.mono F (fun y0 h0 F => ?_) (fun _ _ w => w)
    refine wp_if_ne rfl rfl rfl rfl (fun c => ?_) (fun c => ?_)
    · replace F := F.1 c
      refine wp_iload rfl rfl rfl ?_
      refine wp_aload rfl rfl rfl ?_
      obtain ⟨f1, F⟩ := F
      refine wp_getR rfl rfl rfl f1 rfl ?_
      refine wp_iload rfl rfl rfl ?_
      refine wp_const rfl rfl ?_
      refine wp_ishl rfl rfl ?_
      refine wp_iload rfl rfl rfl ?_
      refine wp_iload rfl rfl rfl ?_
      refine wp_aload rfl rfl rfl ?_
      refine wp_getI rfl rfl rfl f1 rfl ?_
      refine wp_imul rfl rfl ?_
      refine wp_ishr rfl rfl ?_
      refine wp_iload rfl rfl rfl ?_
      refine wp_iand rfl rfl ?_
      refine wp_ior rfl rfl ?_
      obtain ⟨i0, b9, F⟩ := F
      refine wp_iaload rfl b9 rfl ?_
      refine wp_iadd rfl rfl ?_
      replace F := F _ rfl
      generalize (l4 + (gI h0 (gR h0 l0 11) i0) : Int32) = v0 at F ⊢
      refine wp_istore (L2 := [some (vR l0), some (vI l1), some (vI l2), some (vI l3), some (vI v0), some (vI l5)]) rfl rfl rfl rfl ?_
      refine wp_iinc (y := 1) (L2 := [some (vR l0), some (vI l1), some (vI l2), some (vI l3), some (vI v0), some (vI (l5 + 1))]) rfl rfl rfl rfl rfl ?_
      replace F := F _ rfl
      generalize (l5 + 1 : Int32) = v1 at F ⊢
      refine wp_goto rfl rfl ?_
      exact F
    · replace F := F.2 c
      refine wp_iinc (y := 1) (L2 := [some (vR l0), some (vI l1), some (vI l2), some (vI l3), some (vI l4), some (vI (l5 + 1))]) rfl rfl rfl rfl rfl ?_
      replace F := F _ rfl
      generalize (l5 + 1 : Int32) = v2 at F ⊢
      refine wp_goto rfl rfl ?_
      exact F
  · replace F := F.2 c
    refine wp_iload' (L' := [none, none, none, none, some (vI l4), none]) rfl rfl rfl rfl ?_
    exact wp_retI rfl (Or.inl rfl) F
-- CensusOffice$Table roomAbove (II)I
theorem m279 {d : Nat} {a0 : Nat} {a1 : Int32} {a2 : Int32} {h : aH} {K : Int32 → aH → Prop} {X : Nat → aH → Prop} (F : gK h a0 = 11 ∧ ((0 < (gI h a0 5).toInt → ∀ v0 : Int32, v0 = a1 &&& ((1 <<< (a2 &&& 31)) ^^^ (-1)) → Wp (d + 1) 279 (24, [some (vR a0), none, some (vI a2), some (vI v0), some (vI 2147483647), some (vI 0), none], [], h) (RI K X)) ∧ (¬ 0 < (gI h a0 5).toInt → K 0 h))) : CI (d + 1) 279 [vR a0, vI a1, vI a2] h K X := by
  show Wp (d + 1) 279 (0, [some (vR a0), some (vI a1), some (vI a2), none, none, none, none], [], h) (RI K X)
  refine wp_aload rfl rfl rfl ?_
  obtain ⟨f0, F⟩ := F
  refine wp_getI rfl rfl rfl f0 rfl ?_
  refine wp_if_gt rfl rfl rfl rfl (fun c => ?_) (fun c => ?_)
  · replace F := F.1 c
    refine wp_iload' (L' := [some (vR a0), some (vI a1), some (vI a2), none, none, none, none]) rfl rfl rfl rfl ?_
    refine wp_const rfl rfl ?_
    refine wp_iload rfl rfl rfl ?_
    refine wp_ishl rfl rfl ?_
    refine wp_const rfl rfl ?_
    refine wp_ixor rfl rfl ?_
    refine wp_iand rfl rfl ?_
    replace F := F _ rfl
    generalize (a1 &&& ((1 <<< (a2 &&& 31)) ^^^ (-1)) : Int32) = v0 at F ⊢
    refine wp_istore (L2 := [some (vR a0), some (vI a1), some (vI a2), some (vI v0), none, none, none]) rfl rfl rfl rfl ?_
    refine wp_const rfl rfl ?_
    refine wp_istore (L2 := [some (vR a0), some (vI a1), some (vI a2), some (vI v0), some (vI 2147483647), none, none]) rfl rfl rfl rfl ?_
    refine wp_const rfl rfl ?_
    refine wp_istore (L2 := [some (vR a0), some (vI a1), some (vI a2), some (vI v0), some (vI 2147483647), some (vI 0), none]) rfl rfl rfl rfl ?_
    refine wp_kill (L' := [some (vR a0), none, some (vI a2), some (vI v0), some (vI 2147483647), some (vI 0), none]) rfl rfl ?_
    exact F
  · replace F := F.2 c
    refine wp_const rfl rfl ?_
    exact wp_retI rfl (Or.inl rfl) F
theorem w279_24 {d : Nat} {l0 : Nat} {l2 : Int32} {l3 : Int32} {l4 : Int32} {l5 : Int32} {h : aH} {K : Int32 → aH → Prop} {X : Nat → aH → Prop} (F : gK h l0 = 11 ∧ ((l5.toInt < (1 <<< ((gI h l0 4) &&& 31)).toInt → (¬ (gI h l0 5) = 0) ∧ CI d 199 [vI l5, vI (l2 / (gI h l0 5))] h (fun y0 h0 => ((y0.toInt = 0 → 8 ≤ l0 ∧ gK h0 l0 = 11 ∧ CI d 277 [vR l0, vI l3, vI l5] h0 (fun y1 h1 => gK h1 l0 = 11 ∧ (¬ (gI h1 l0 5) = 0) ∧ ∀ v0 : Int32, v0 = y1 ||| (1 <<< ((aIrem l2 (gI h1 l0 5)) &&& 31)) → CI d 278 [vR l0, vI l3, vI l5, vI v0] h1 (fun y2 h2 => CI d 19 [vI l4, vI y2] h2 (fun y3 h3 => ∀ v1 : Int32, v1 = l5 + 1 → Wp (d + 1) 279 (24, [some (vR l0), none, some (vI l2), some (vI l3), some (vI y3), some (vI v1), none], [], h3) (RI K X)) X) X) X) ∧ (¬ y0.toInt = 0 → ∀ v2 : Int32, v2 = l5 + 1 → Wp (d + 1) 279 (24, [some (vR l0), none, some (vI l2), some (vI l3), some (vI l4), some (vI v2), none], [], h0) (RI K X)))) (fun _ _ => False)) ∧ (¬ l5.toInt < (1 <<< ((gI h l0 4) &&& 31)).toInt → K l4 h))) : Wp (d + 1) 279 (24, [some (vR l0), none, some (vI l2), some (vI l3), some (vI l4), some (vI l5), none], [], h) (RI K X) := by
  refine wp_iload' (L' := [some (vR l0), none, some (vI l2), some (vI l3), some (vI l4), some (vI l5), none]) rfl rfl rfl rfl ?_
  refine wp_const rfl rfl ?_
  refine wp_aload rfl rfl rfl ?_
  obtain ⟨f0, F⟩ := F
  refine wp_getI rfl rfl rfl f0 rfl ?_
  refine wp_ishl rfl rfl ?_
  refine wp_icmp_ge rfl rfl rfl rfl rfl (fun c => ?_) (fun c => ?_)
  · replace F := F.1 c
    refine wp_iload rfl rfl rfl ?_
    refine wp_iload rfl rfl rfl ?_
    refine wp_aload rfl rfl rfl ?_
    refine wp_getI rfl rfl rfl f0 rfl ?_
    refine wp_idiv rfl F.1 rfl ?_
    replace F := F.2
    refine wp_callqI rfl rfl rfl rfl rfl rfl ?_
    refine CI.mono F (fun y0 h0 F => ?_) (fun _ _ w => w)
    refine wp_if_ne rfl rfl rfl rfl (fun c => ?_) (fun c => ?_)
    · replace F := F.1 c
      refine wp_aload rfl rfl rfl ?_
      refine wp_iload rfl rfl rfl ?_
      refine wp_iload rfl rfl rfl ?_
      obtain ⟨f1, F⟩ := F
      obtain ⟨f2, F⟩ := F
      refine wp_callI rfl rfl rfl (rcv_v f1 f2 (by decide) (by decide)) rfl rfl rfl rfl ?_
      refine CI.mono F (fun y1 h1 F => ?_) (fun _ _ w => rx_I w)
      refine wp_const rfl rfl ?_
      refine wp_iload rfl rfl rfl ?_
      refine wp_aload rfl rfl rfl ?_
      obtain ⟨f3, F⟩ := F
      refine wp_getI rfl rfl rfl f3 rfl ?_
      refine wp_irem rfl F.1 rfl ?_
      replace F := F.2
      refine wp_ishl rfl rfl ?_
      refine wp_ior rfl rfl ?_
      replace F := F _ rfl
      generalize (y1 ||| (1 <<< ((aIrem l2 (gI h1 l0 5)) &&& 31)) : Int32) = v0 at F ⊢
      refine wp_istore (L2 := [some (vR l0), none, some (vI l2), some (vI l3), some (vI l4), some (vI l5), some (vI v0)]) rfl rfl rfl rfl ?_
      refine wp_iload rfl rfl rfl ?_
      refine wp_aload rfl rfl rfl ?_
      refine wp_iload rfl rfl rfl ?_
      refine wp_iload rfl rfl rfl ?_
      refine wp_iload rfl rfl rfl ?_
      refine wp_callI rfl rfl rfl (rcv_v f1 f3 (by decide) (by decide)) rfl rfl rfl rfl ?_
      refine CI.mono F (fun y2 h2 F => ?_) (fun _ _ w => rx_I w)
      refine wp_callI rfl rfl rfl rfl rfl rfl rfl rfl ?_
      refine CI.mono F (fun y3 h3 F => ?_) (fun _ _ w => rx_I w)
      refine wp_istore (L2 := [some (vR l0), none, some (vI l2), some (vI l3), some (vI y3), some (vI l5), some (vI v0)]) rfl rfl rfl rfl ?_
      refine wp_iinc' (L' := [some (vR l0), none, some (vI l2), some (vI l3), some (vI y3), some (vI l5), none]) (y := 1) (L2 := [some (vR l0), none, some (vI l2), some (vI l3), some (vI y3), some (vI (l5 + 1)), none]) rfl rfl rfl rfl rfl rfl ?_
      replace F := F _ rfl
      generalize (l5 + 1 : Int32) = v1 at F ⊢
      refine wp_goto rfl rfl ?_
      exact F
    · replace F := F.2 c
      refine wp_iinc' (L' := [some (vR l0), none, some (vI l2), some (vI l3), some (vI l4), some (vI l5), none]) (y := 1) (L2 := [some (vR l0), none, some (vI l2), some (vI l3), some (vI l4), some (vI (l5 + 1)), none]) rfl rfl rfl rfl rfl rfl ?_
      replace F := F _ rfl
      generalize (l5 + 1 : Int32) = v2 at F ⊢
      refine wp_goto rfl rfl ?_
      exact F
  · replace F := F.2 c
    refine wp_iload' (L' := [none, none, none, none, some (vI l4), none, none]) rfl rfl rfl rfl ?_
    exact wp_retI rfl (Or.inl rfl) F
-- CensusOffice$Table roomBelow (II)I
theorem m280 {d : Nat} {a0 : Nat} {a1 : Int32} {a2 : Int32} {h : aH} {K : Int32 → aH → Prop} {X : Nat → aH → Prop} (F : gK h a0 = 11 ∧ ((0 < (gI h a0 5).toInt → ∀ v0 : Int32, v0 = a1 &&& ((1 <<< (a2 &&& 31)) ^^^ (-1)) → ∃ i0 : Nat, inB h 100 (gR h a0 7) a2 i0 ∧ ∀ v1 : Int32, v1 = gI h (gR h a0 7) i0 → Wp (d + 1) 280 (28, [some (vR a0), none, some (vI a2), some (vI v0), some (vI v1), some (vI 0), none], [], h) (RI K X)) ∧ (¬ 0 < (gI h a0 5).toInt → K 0 h))) : CI (d + 1) 280 [vR a0, vI a1, vI a2] h K X := by
  show Wp (d + 1) 280 (0, [some (vR a0), some (vI a1), some (vI a2), none, none, none, none], [], h) (RI K X)
  refine wp_aload rfl rfl rfl ?_
  obtain ⟨f0, F⟩ := F
  refine wp_getI rfl rfl rfl f0 rfl ?_
  refine wp_if_gt rfl rfl rfl rfl (fun c => ?_) (fun c => ?_)
  · replace F := F.1 c
    refine wp_iload' (L' := [some (vR a0), some (vI a1), some (vI a2), none, none, none, none]) rfl rfl rfl rfl ?_
    refine wp_const rfl rfl ?_
    refine wp_iload rfl rfl rfl ?_
    refine wp_ishl rfl rfl ?_
    refine wp_const rfl rfl ?_
    refine wp_ixor rfl rfl ?_
    refine wp_iand rfl rfl ?_
    replace F := F _ rfl
    generalize (a1 &&& ((1 <<< (a2 &&& 31)) ^^^ (-1)) : Int32) = v0 at F ⊢
    refine wp_istore (L2 := [some (vR a0), some (vI a1), some (vI a2), some (vI v0), none, none, none]) rfl rfl rfl rfl ?_
    refine wp_aload rfl rfl rfl ?_
    refine wp_getR rfl rfl rfl f0 rfl ?_
    refine wp_iload rfl rfl rfl ?_
    obtain ⟨i0, b9, F⟩ := F
    refine wp_iaload rfl b9 rfl ?_
    replace F := F _ rfl
    generalize (gI h (gR h a0 7) i0 : Int32) = v1 at F ⊢
    refine wp_istore (L2 := [some (vR a0), some (vI a1), some (vI a2), some (vI v0), some (vI v1), none, none]) rfl rfl rfl rfl ?_
    refine wp_const rfl rfl ?_
    refine wp_istore (L2 := [some (vR a0), some (vI a1), some (vI a2), some (vI v0), some (vI v1), some (vI 0), none]) rfl rfl rfl rfl ?_
    refine wp_kill (L' := [some (vR a0), none, some (vI a2), some (vI v0), some (vI v1), some (vI 0), none]) rfl rfl ?_
    exact F
  · replace F := F.2 c
    refine wp_const rfl rfl ?_
    exact wp_retI rfl (Or.inl rfl) F
theorem w280_28 {d : Nat} {l0 : Nat} {l2 : Int32} {l3 : Int32} {l4 : Int32} {l5 : Int32} {h : aH} {K : Int32 → aH → Prop} {X : Nat → aH → Prop} (F : gK h l0 = 11 ∧ ((l5.toInt < (1 <<< ((gI h l0 4) &&& 31)).toInt → 8 ≤ l0 ∧ CI d 277 [vR l0, vI l3, vI l5] h (fun y0 h0 => gK h0 l0 = 11 ∧ (¬ (gI h0 l0 5) = 0) ∧ CI d 199 [vI l5, vI (l2 / (gI h0 l0 5))] h0 (fun y1 h1 => ((y1.toInt = 0 → ∀ v0 : Int32, v0 = l5 + 1 → Wp (d + 1) 280 (28, [some (vR l0), none, some (vI l2), some (vI l3), some (vI l4), some (vI v0), none], [], h1) (RI K X)) ∧ (¬ y1.toInt = 0 → gK h1 l0 = 11 ∧ (¬ (gI h1 l0 5) = 0) ∧ CI d 199 [vI y0, vI (aIrem l2 (gI h1 l0 5))] h1 (fun y2 h2 => ((y2.toInt = 0 → gK h2 l0 = 11 ∧ CI d 278 [vR l0, vI l3, vI l5, vI y0] h2 (fun y3 h3 => CI d 19 [vI l4, vI y3] h3 (fun y4 h4 => ∀ v1 : Int32, v1 = l5 + 1 → Wp (d + 1) 280 (28, [some (vR l0), none, some (vI l2), some (vI l3), some (vI y4), some (vI v1), none], [], h4) (RI K X)) X) X) ∧ (¬ y2.toInt = 0 → ∀ v2 : Int32, v2 = l5 + 1 → Wp (d + 1) 280 (28, [some (vR l0), none, some (vI l2), some (vI l3), some (vI l4), some (vI v2), none], [], h2) (RI K X)))) (fun _ _ => False)))) (fun _ _ => False)) X) ∧ (¬ l5.toInt < (1 <<< ((gI h l0 4) &&& 31)).toInt → K l4 h))) : Wp (d + 1) 280 (28, [some (vR l0), none, some (vI l2), some (vI l3), some (vI l4), some (vI l5), none], [], h) (RI K X) := by
  refine wp_iload' (L' := [some (vR l0), none, some (vI l2), some (vI l3), some (vI l4), some (vI l5), none]) rfl rfl rfl rfl ?_
  refine wp_const rfl rfl ?_
  refine wp_aload rfl rfl rfl ?_
  obtain ⟨f0, F⟩ := F
  refine wp_getI rfl rfl rfl f0 rfl ?_
  refine wp_ishl rfl rfl ?_
  refine wp_icmp_ge rfl rfl rfl rfl rfl (fun c => ?_) (fun c => ?_)
  · replace F := F.1 c
    refine wp_aload rfl rfl rfl ?_
    refine wp_iload rfl rfl rfl ?_
    refine wp_iload rfl rfl rfl ?_
    obtain ⟨f1, F⟩ := F
    refine wp_callI rfl rfl rfl (rcv_v f1 f0 (by decide) (by decide)) rfl rfl rfl rfl ?_
    refine CI.mono F (fun y0 h0 F => ?_) (fun _ _ w => rx_I w)
    refine wp_istore (L2 := [some (vR l0), none, some (vI l2), some (vI l3), some (vI l4), some (vI l5), some (vI y0)]) rfl rfl rfl rfl ?_
    refine wp_iload rfl rfl rfl ?_
    refine wp_iload rfl rfl rfl ?_
    refine wp_aload rfl rfl rfl ?_
    obtain ⟨f2, F⟩ := F
    refine wp_getI rfl rfl rfl f2 rfl ?_
    refine wp_idiv rfl F.1 rfl ?_
    replace F := F.2
    refine wp_callqI rfl rfl rfl rfl rfl rfl ?_
    refine CI.mono F (fun y1 h1 F => ?_) (fun _ _ w => w)
    refine wp_if_eq rfl rfl rfl rfl (fun c => ?_) (fun c => ?_)
    · replace F := F.1 c
      refine wp_iinc' (L' := [some (vR l0), none, some (vI l2), some (vI l3), some (vI l4), some (vI l5), none]) (y := 1) (L2 := [some (vR l0), none, some (vI l2), some (vI l3), some (vI l4), some (vI (l5 + 1)), none]) rfl rfl rfl rfl rfl rfl ?_
      replace F := F _ rfl
      generalize (l5 + 1 : Int32) = v0 at F ⊢
      refine wp_goto rfl rfl ?_
      exact F
    · replace F := F.2 c
      refine wp_iload rfl rfl rfl ?_
      refine wp_iload rfl rfl rfl ?_
      refine wp_aload rfl rfl rfl ?_
      obtain ⟨f3, F⟩ := F
      refine wp_getI rfl rfl rfl f3 rfl ?_
      refine wp_irem rfl F.1 rfl ?_
      replace F := F.2
      refine wp_callqI rfl rfl rfl rfl rfl rfl ?_
      refine CI.mono F (fun y2 h2 F => ?_) (fun _ _ w => w)
      refine wp_if_ne rfl rfl rfl rfl (fun c => ?_) (fun c => ?_)
      · replace F := F.1 c
        refine wp_iload rfl rfl rfl ?_
        refine wp_aload rfl rfl rfl ?_
        refine wp_iload rfl rfl rfl ?_
        refine wp_iload rfl rfl rfl ?_
        refine wp_iload rfl rfl rfl ?_
        obtain ⟨f4, F⟩ := F
        refine wp_callI rfl rfl rfl (rcv_v f1 f4 (by decide) (by decide)) rfl rfl rfl rfl ?_
        refine CI.mono F (fun y3 h3 F => ?_) (fun _ _ w => rx_I w)
        refine wp_callI rfl rfl rfl rfl rfl rfl rfl rfl ?_
        refine CI.mono F (fun y4 h4 F => ?_) (fun _ _ w => rx_I w)
        refine wp_istore (L2 := [some (vR l0), none, some (vI l2), some (vI l3), some (vI y4), some (vI l5), some (vI y0)]) rfl rfl rfl rfl ?_
        refine wp_iinc' (L' := [some (vR l0), none, some (vI l2), some (vI l3), some (vI y4), some (vI l5), none]) (y := 1) (L2 := [some (vR l0), none, some (vI l2), some (vI l3), some (vI y4), some (vI (l5 + 1)), none]) rfl rfl rfl rfl rfl rfl ?_
        replace F := F _ rfl
        generalize (l5 + 1 : Int32) = v1 at F ⊢
        refine wp_goto rfl rfl ?_
        exact F
      · replace F := F.2 c
        refine wp_iinc' (L' := [some (vR l0), none, some (vI l2), some (vI l3), some (vI l4), some (vI l5), none]) (y := 1) (L2 := [some (vR l0), none, some (vI l2), some (vI l3), some (vI l4), some (vI (l5 + 1)), none]) rfl rfl rfl rfl rfl rfl ?_
        replace F := F _ rfl
        generalize (l5 + 1 : Int32) = v2 at F ⊢
        refine wp_goto rfl rfl ?_
        exact F
  · replace F := F.2 c
    refine wp_iload' (L' := [none, none, none, none, some (vI l4), none, none]) rfl rfl rfl rfl ?_
    exact wp_retI rfl (Or.inl rfl) F
-- CensusOffice$Table isGood (II)Z
theorem m281 {d : Nat} {a0 : Nat} {a1 : Int32} {a2 : Int32} {h : aH} {K : Int32 → aH → Prop} {X : Nat → aH → Prop} (F : Wp (d + 1) 281 (2, [some (vR a0), some (vI a1), some (vI a2), some (vI 0)], [], h) (RI K X)) : CI (d + 1) 281 [vR a0, vI a1, vI a2] h K X := by
  show Wp (d + 1) 281 (0, [some (vR a0), some (vI a1), some (vI a2), none], [], h) (RI K X)
  refine wp_const rfl rfl ?_
  refine wp_istore (L2 := [some (vR a0), some (vI a1), some (vI a2), some (vI 0)]) rfl rfl rfl rfl ?_
  exact F
theorem w281_2 {d : Nat} {l0 : Nat} {l1 : Int32} {l2 : Int32} {l3 : Int32} {h : aH} {K : Int32 → aH → Prop} {X : Nat → aH → Prop} (F : gK h l0 = 11 ∧ ((l3.toInt < (gI h l0 6).toInt → CI d 199 [vI (gI h l0 12), vI l3] h (fun y0 h0 => ((y0.toInt = 0 → ∀ v0 : Int32, v0 = l3 + 1 → Wp (d + 1) 281 (2, [some (vR l0), some (vI l1), some (vI l2), some (vI v0)], [], h0) (RI K X)) ∧ (¬ y0.toInt = 0 → 8 ≤ l0 ∧ gK h0 l0 = 11 ∧ CI d 279 [vR l0, vI l1, vI l3] h0 (fun y1 h1 => ((y1.toInt < l2.toInt → K 0 h1) ∧ (¬ y1.toInt < l2.toInt → gK h1 l0 = 11 ∧ CI d 280 [vR l0, vI l1, vI l3] h1 (fun y2 h2 => gK h2 l0 = 11 ∧ ∃ i0 : Nat, inB h2 100 (gR h2 l0 7) l3 i0 ∧ CI d 19 [vI l2, vI (gI h2 (gR h2 l0 7) i0)] h2 (fun y3 h3 => ((y2.toInt < y3.toInt → K 0 h3) ∧ (¬ y2.toInt < y3.toInt → ∀ v1 : Int32, v1 = l3 + 1 → Wp (d + 1) 281 (2, [some (vR l0), some (vI l1), some (vI l2), some (vI v1)], [], h3) (RI K X)))) X) X))) X))) (fun _ _ => False)) ∧ (¬ l3.toInt < (gI h l0 6).toInt → K 1 h))) : Wp (d + 1) 281 (2, [some (vR l0), some (vI l1), some (vI l2), some (vI l3)], [], h) (RI K X) := by
  refine wp_iload rfl rfl rfl ?_
  refine wp_aload rfl rfl rfl ?_
  obtain ⟨f0, F⟩ := F
  refine wp_getI rfl rfl rfl f0 rfl ?_
  refine wp_icmp_ge rfl rfl rfl rfl rfl (fun c => ?_) (fun c => ?_)
  · replace F := F.1 c
    refine wp_aload rfl rfl rfl ?_
    refine wp_getI rfl rfl rfl f0 rfl ?_
    refine wp_iload rfl rfl rfl ?_
    refine wp_callqI rfl rfl rfl rfl rfl rfl ?_
    refine CI.mono F (fun y0 h0 F => ?_) (fun _ _ w => w)
    refine wp_if_eq rfl rfl rfl rfl (fun c => ?_) (fun c => ?_)
    · replace F := F.1 c
      refine wp_iinc (y := 1) (L2 := [some (vR l0), some (vI l1), some (vI l2), some (vI (l3 + 1))]) rfl rfl rfl rfl rfl ?_
      replace F := F _ rfl
      generalize (l3 + 1 : Int32) = v0 at F ⊢
      refine wp_goto rfl rfl ?_
      exact F
    · replace F := F.2 c
      refine wp_aload rfl rfl rfl ?_
      refine wp_iload rfl rfl rfl ?_
      refine wp_iload rfl rfl rfl ?_
      obtain ⟨f1, F⟩ := F
      obtain ⟨f2, F⟩ := F
      refine wp_callI rfl rfl rfl (rcv_v f1 f2 (by decide) (by decide)) rfl rfl rfl rfl ?_
      refine CI.mono F (fun y1 h1 F => ?_) (fun _ _ w => rx_I w)
      refine wp_iload rfl rfl rfl ?_
      refine wp_icmp_lt rfl rfl rfl rfl rfl (fun c => ?_) (fun c => ?_)
      · replace F := F.1 c
        refine wp_const' (L' := [none, none, none, none]) rfl rfl rfl ?_
        exact wp_retI rfl (Or.inr rfl) F
      · replace F := F.2 c
        refine wp_aload rfl rfl rfl ?_
        refine wp_iload rfl rfl rfl ?_
        refine wp_iload rfl rfl rfl ?_
        obtain ⟨f3, F⟩ := F
        refine wp_callI rfl rfl rfl (rcv_v f1 f3 (by decide) (by decide)) rfl rfl rfl rfl ?_
        refine CI.mono F (fun y2 h2 F => ?_) (fun _ _ w => rx_I w)
        refine wp_iload rfl rfl rfl ?_
        refine wp_aload rfl rfl rfl ?_
        obtain ⟨f4, F⟩ := F
        refine wp_getR rfl rfl rfl f4 rfl ?_
        refine wp_iload rfl rfl rfl ?_
        obtain ⟨i0, b9, F⟩ := F
        refine wp_iaload rfl b9 rfl ?_
        refine wp_callI rfl rfl rfl rfl rfl rfl rfl rfl ?_
        refine CI.mono F (fun y3 h3 F => ?_) (fun _ _ w => rx_I w)
        refine wp_icmp_ge rfl rfl rfl rfl rfl (fun c => ?_) (fun c => ?_)
        · replace F := F.1 c
          refine wp_const' (L' := [none, none, none, none]) rfl rfl rfl ?_
          exact wp_retI rfl (Or.inr rfl) F
        · replace F := F.2 c
          refine wp_iinc (y := 1) (L2 := [some (vR l0), some (vI l1), some (vI l2), some (vI (l3 + 1))]) rfl rfl rfl rfl rfl ?_
          replace F := F _ rfl
          generalize (l3 + 1 : Int32) = v1 at F ⊢
          refine wp_goto rfl rfl ?_
          exact F
  · replace F := F.2 c
    refine wp_const' (L' := [none, none, none, none]) rfl rfl rfl ?_
    exact wp_retI rfl (Or.inr rfl) F
-- CensusOffice$Table choose (IIII)V
theorem m282 {d : Nat} {a0 : Nat} {a1 : Int32} {a2 : Int32} {a3 : Int32} {a4 : Int32} {h : aH} {K : aH → Prop} {X : Nat → aH → Prop} (F : gK h a0 = 11 ∧ ((a3.toInt < (gI h a0 15).toInt → ((a2.toInt = 0 → 8 ≤ a0 ∧ ∀ h0 : aH, h0 = pI h a0 14 a1 → ∀ h1 : aH, h1 = pI h0 a0 15 a3 → K h1) ∧ (¬ a2.toInt = 0 → CI d 203 [vI a2] h (fun y0 h2 => ∀ v0 : Int32, v0 = a2 &&& (y0 ^^^ (-1)) → 8 ≤ a0 ∧ gK h2 a0 = 11 ∧ CI d 281 [vR a0, vI (a1 ||| v0), vI a4] h2 (fun y1 h3 => ((y1.toInt = 0 → Wp (d + 1) 282 (61, [some (vR a0), some (vI a1), none, some (vI a3), some (vI a4), some (vI y0), some (vI v0), none], [], h3) (RV K X)) ∧ (¬ y1.toInt = 0 → gK h3 a0 = 11 ∧ CV d 282 [vR a0, vI a1, vI v0, vI a3, vI a4] h3 (fun h4 => Wp (d + 1) 282 (61, [some (vR a0), some (vI a1), none, some (vI a3), some (vI a4), some (vI y0), some (vI v0), none], [], h4) (RV K X)) X))) X) X))) ∧ (¬ a3.toInt < (gI h a0 15).toInt → K h))) : CV (d + 1) 282 [vR a0, vI a1, vI a2, vI a3, vI a4] h K X := by
  show Wp (d + 1) 282 (0, [some (vR a0), some (vI a1), some (vI a2), some (vI a3), some (vI a4), none, none, none], [], h) (RV K X)
  refine wp_iload rfl rfl rfl ?_
  refine wp_aload rfl rfl rfl ?_
  obtain ⟨f0, F⟩ := F
  refine wp_getI rfl rfl rfl f0 rfl ?_
  refine wp_icmp_lt rfl rfl rfl rfl rfl (fun c => ?_) (fun c => ?_)
  · replace F := F.1 c
    refine wp_iload' (L' := [some (vR a0), some (vI a1), some (vI a2), some (vI a3), some (vI a4), none, none, none]) rfl rfl rfl rfl ?_
    refine wp_if_ne rfl rfl rfl rfl (fun c => ?_) (fun c => ?_)
    · replace F := F.1 c
      refine wp_aload rfl rfl rfl ?_
      refine wp_iload rfl rfl rfl ?_
      obtain ⟨f1, F⟩ := F
      refine wp_putI rfl rfl rfl f1 f0 rfl ?_
      have f2 : gK (pI h a0 14 a1) a0 = 11 := (gK_pI _ _ _ _ _).trans f0
      replace F := F _ rfl
      generalize pI h a0 14 a1 = h0 at F f2 ⊢
      refine wp_aload rfl rfl rfl ?_
      refine wp_iload rfl rfl rfl ?_
      refine wp_putI rfl rfl rfl f1 f2 rfl ?_
      have f3 : gK (pI h0 a0 15 a3) a0 = 11 := (gK_pI _ _ _ _ _).trans f2
      replace F := F _ rfl
      generalize pI h0 a0 15 a3 = h1 at F f3 ⊢
      exact wp_retV rfl F
    · replace F := F.2 c
      refine wp_iload' (L' := [some (vR a0), some (vI a1), some (vI a2), some (vI a3), some (vI a4), none, none, none]) rfl rfl rfl rfl ?_
      refine wp_callI rfl rfl rfl rfl rfl rfl rfl rfl ?_
      refine CI.mono F (fun y0 h2 F => ?_) (fun _ _ w => rx_V w)
      refine wp_istore (L2 := [some (vR a0), some (vI a1), some (vI a2), some (vI a3), some (vI a4), some (vI y0), none, none]) rfl rfl rfl rfl ?_
      refine wp_iload rfl rfl rfl ?_
      refine wp_iload rfl rfl rfl ?_
      refine wp_const rfl rfl ?_
      refine wp_ixor rfl rfl ?_
      refine wp_iand rfl rfl ?_
      replace F := F _ rfl
      generalize (a2 &&& (y0 ^^^ (-1)) : Int32) = v0 at F ⊢
      refine wp_istore (L2 := [some (vR a0), some (vI a1), some (vI a2), some (vI a3), some (vI a4), some (vI y0), some (vI v0), none]) rfl rfl rfl rfl ?_
      refine wp_aload rfl rfl rfl ?_
      refine wp_iload rfl rfl rfl ?_
      refine wp_iload rfl rfl rfl ?_
      refine wp_ior rfl rfl ?_
      refine wp_iload rfl rfl rfl ?_
      obtain ⟨f4, F⟩ := F
      obtain ⟨f5, F⟩ := F
      refine wp_callI rfl rfl rfl (rcv_v f4 f5 (by decide) (by decide)) rfl rfl rfl rfl ?_
      refine CI.mono F (fun y1 h3 F => ?_) (fun _ _ w => rx_V w)
      refine wp_if_eq rfl rfl rfl rfl (fun c => ?_) (fun c => ?_)
      · replace F := F.1 c
        refine wp_kill (L' := [some (vR a0), some (vI a1), none, some (vI a3), some (vI a4), some (vI y0), some (vI v0), none]) rfl rfl ?_
        exact F
      · replace F := F.2 c
        refine wp_aload rfl rfl rfl ?_
        refine wp_iload rfl rfl rfl ?_
        refine wp_iload rfl rfl rfl ?_
        refine wp_iload rfl rfl rfl ?_
        refine wp_iload rfl rfl rfl ?_
        obtain ⟨f6, F⟩ := F
        refine wp_callV rfl rfl rfl (rcv_v f4 f6 (by decide) (by decide)) rfl rfl rfl rfl ?_
        refine CV.mono F (fun h4 F => ?_) (fun _ _ w => rx_V w)
        refine wp_kill (L' := [some (vR a0), some (vI a1), none, some (vI a3), some (vI a4), some (vI y0), some (vI v0), none]) rfl rfl ?_
        exact F
  · replace F := F.2 c
    exact wp_retV rfl F
theorem w282_61 {d : Nat} {l0 : Nat} {l1 : Int32} {l3 : Int32} {l4 : Int32} {l5 : Int32} {l6 : Int32} {h : aH} {K : aH → Prop} {X : Nat → aH → Prop} (F : CI d 152 [vI l5] h (fun y0 h0 => gK h0 l0 = 11 ∧ ((y0.toInt < (gI h0 l0 6).toInt → ∃ i0 : Nat, inB h0 100 (gR h0 l0 7) y0 i0 ∧ 8 ≤ l0 ∧ CV d 282 [vR l0, vI (l1 ||| l5), vI l6, vI (l3 + ((gI h0 (gR h0 l0 7) i0) + 1)), vI l4] h0 (fun h1 => K h1) X) ∧ (¬ y0.toInt < (gI h0 l0 6).toInt → 8 ≤ l0 ∧ CV d 282 [vR l0, vI (l1 ||| l5), vI l6, vI (l3 + 0), vI l4] h0 (fun h2 => K h2) X))) X) : Wp (d + 1) 282 (61, [some (vR l0), some (vI l1), none, some (vI l3), some (vI l4), some (vI l5), some (vI l6), none], [], h) (RV K X) := by
  refine wp_iload' (L' := [some (vR l0), some (vI l1), none, some (vI l3), some (vI l4), some (vI l5), some (vI l6), none]) rfl rfl rfl rfl ?_
  refine wp_callI rfl rfl rfl rfl rfl rfl rfl rfl ?_
  refine CI.mono F (fun y0 h0 F => ?_) (fun _ _ w => rx_V w)
  refine wp_istore (L2 := [some (vR l0), some (vI l1), none, some (vI l3), some (vI l4), some (vI l5), some (vI l6), some (vI y0)]) rfl rfl rfl rfl ?_
  refine wp_aload rfl rfl rfl ?_
  refine wp_iload rfl rfl rfl ?_
  refine wp_iload rfl rfl rfl ?_
  refine wp_ior rfl rfl ?_
  refine wp_iload rfl rfl rfl ?_
  refine wp_iload rfl rfl rfl ?_
  refine wp_iload rfl rfl rfl ?_
  refine wp_aload rfl rfl rfl ?_
  obtain ⟨f0, F⟩ := F
  refine wp_getI rfl rfl rfl f0 rfl ?_
  refine wp_icmp_ge rfl rfl rfl rfl rfl (fun c => ?_) (fun c => ?_)
  · replace F := F.1 c
    refine wp_aload rfl rfl rfl ?_
    refine wp_getR rfl rfl rfl f0 rfl ?_
    refine wp_iload rfl rfl rfl ?_
    obtain ⟨i0, b9, F⟩ := F
    refine wp_iaload rfl b9 rfl ?_
    refine wp_const rfl rfl ?_
    refine wp_iadd rfl rfl ?_
    refine wp_goto rfl rfl ?_
    refine wp_iadd' (L' := [none, none, none, none, some (vI l4), none, none, none]) rfl rfl rfl ?_
    refine wp_iload rfl rfl rfl ?_
    obtain ⟨f1, F⟩ := F
    refine wp_callV rfl rfl rfl (rcv_v f1 f0 (by decide) (by decide)) rfl rfl rfl rfl ?_
    refine CV.mono F (fun h1 F => ?_) (fun _ _ w => rx_V w)
    exact wp_retV rfl F
  · replace F := F.2 c
    refine wp_const' (L' := [none, none, none, none, some (vI l4), none, none, none]) rfl rfl rfl ?_
    refine wp_iadd' (L' := [none, none, none, none, some (vI l4), none, none, none]) rfl rfl rfl ?_
    refine wp_iload rfl rfl rfl ?_
    obtain ⟨f2, F⟩ := F
    refine wp_callV rfl rfl rfl (rcv_v f2 f0 (by decide) (by decide)) rfl rfl rfl rfl ?_
    refine CV.mono F (fun h2 F => ?_) (fun _ _ w => rx_V w)
    exact wp_retV rfl F
