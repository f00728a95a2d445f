/-! THE FORMULAS OF THE METHODS 300 TO 320 (written by wip/tools/gen13.py): what a run from a cut point needs -/
-- CensusOffice$Table keepsSum (IIIII)Z
theorem m300 {d : Nat} {a0 : Nat} {a1 : Int32} {a2 : Int32} {a3 : Int32} {a4 : Int32} {a5 : Int32} {h : aH} {K : Int32 → aH → Prop} {X : Nat → aH → Prop} (F : Wp (d + 1) 300 (9, [some (vR a0), some (vI a1), some (vI a2), some (vI a3), some (vI a4), some (vI a5), some (vI 0), some (vI 0), some (vI 0)], [], h) (RI K X)) : CI (d + 1) 300 [vR a0, vI a1, vI a2, vI a3, vI a4, vI a5] h K X := by
  show Wp (d + 1) 300 (0, [some (vR a0), some (vI a1), some (vI a2), some (vI a3), some (vI a4), some (vI a5), none, none, none], [], h) (RI K X)
  refine wp_const rfl rfl ?_
  refine wp_istore (L2 := [some (vR a0), some (vI a1), some (vI a2), some (vI a3), some (vI a4), some (vI a5), some (vI 0), none, none]) rfl rfl rfl rfl ?_
  refine wp_const rfl rfl ?_
  refine wp_istore (L2 := [some (vR a0), some (vI a1), some (vI a2), some (vI a3), some (vI a4), some (vI a5), some (vI 0), some (vI 0), none]) rfl rfl rfl rfl ?_
  refine wp_const rfl rfl ?_
  refine wp_istore (L2 := [some (vR a0), some (vI a1), some (vI a2), some (vI a3), some (vI a4), some (vI a5), some (vI 0), some (vI 0), some (vI 0)]) rfl rfl rfl rfl ?_
  exact F
theorem w300_9 {d : Nat} {l0 : Nat} {l1 : Int32} {l2 : Int32} {l3 : Int32} {l4 : Int32} {l5 : Int32} {l6 : Int32} {l7 : Int32} {l8 : Int32} {h : aH} {K : Int32 → aH → Prop} {X : Nat → aH → Prop} (F : gK h l0 = 11 ∧ ((l8.toInt < (gI h l0 6).toInt → 8 ≤ l0 ∧ CI d 269 [vR l0, vI l8, vI l4, vI l5] h (fun y0 h0 => ((y0.toInt = 0 → ∀ v0 : Int32, v0 = l8 + 1 → Wp (d + 1) 300 (9, [some (vR l0), some (vI l1), some (vI l2), some (vI l3), some (vI l4), some (vI l5), some (vI l6), some (vI l7), some (vI v0)], [], h0) (RI K X)) ∧ (¬ y0.toInt = 0 → CI d 199 [vI l2, vI l8] h0 (fun y1 h1 => ((y1.toInt = 0 → gK h1 l0 = 11 ∧ ∃ i0 : Nat, inB h1 100 (gR h1 l0 7) l8 i0 ∧ (¬ l3 = 0) ∧ ∀ v1 : Int32, v1 = l6 + (0 - (aIrem (gI h1 (gR h1 l0 7) i0) l3)) → CI d 199 [vI l1, vI l8] h1 (fun y2 h2 => ((y2.toInt = 0 → ∀ v2 : Int32, v2 = l7 + 0 → ∀ v3 : Int32, v3 = l8 + 1 → Wp (d + 1) 300 (9, [some (vR l0), some (vI l1), some (vI l2), some (vI l3), some (vI l4), some (vI l5), some (vI v1), some (vI v2), some (vI v3)], [], h2) (RI K X)) ∧ (¬ y2.toInt = 0 → ∀ v4 : Int32, v4 = l7 + l3 → ∀ v5 : Int32, v5 = l8 + 1 → Wp (d + 1) 300 (9, [some (vR l0), some (vI l1), some (vI l2), some (vI l3), some (vI l4), some (vI l5), some (vI v1), some (vI v4), some (vI v5)], [], h2) (RI K X)))) (fun _ _ => False)) ∧ (¬ y1.toInt = 0 → gK h1 l0 = 11 ∧ ∃ i1 : Nat, inB h1 100 (gR h1 l0 7) l8 i1 ∧ (¬ l3 = 0) ∧ ∀ v6 : Int32, v6 = l6 + (l3 - (aIrem (gI h1 (gR h1 l0 7) i1) l3)) → CI d 199 [vI l1, vI l8] h1 (fun y3 h3 => ((y3.toInt = 0 → ∀ v7 : Int32, v7 = l7 + 0 → ∀ v8 : Int32, v8 = l8 + 1 → Wp (d + 1) 300 (9, [some (vR l0), some (vI l1), some (vI l2), some (vI l3), some (vI l4), some (vI l5), some (vI v6), some (vI v7), some (vI v8)], [], h3) (RI K X)) ∧ (¬ y3.toInt = 0 → ∀ v9 : Int32, v9 = l7 + l3 → ∀ v10 : Int32, v10 = l8 + 1 → Wp (d + 1) 300 (9, [some (vR l0), some (vI l1), some (vI l2), some (vI l3), some (vI l4), some (vI l5), some (vI v6), some (vI v9), some (vI v10)], [], h3) (RI K X)))) (fun _ _ => False)))) (fun _ _ => False)))) X) ∧ (¬ l8.toInt < (gI h l0 6).toInt → ((l6.toInt < l3.toInt → (((-l3).toInt < (l6 + l7).toInt → K 1 h) ∧ (¬ (-l3).toInt < (l6 + l7).toInt → K 0 h))) ∧ (¬ l6.toInt < l3.toInt → K 0 h))))) : Wp (d + 1) 300 (9, [some (vR l0), some (vI l1), some (vI l2), some (vI l3), some (vI l4), some (vI l5), some (vI l6), some (vI l7), some (vI l8)], [], h) (RI K X) := by
  refine wp_iload rfl rfl rfl ?_
  refine wp_aload rfl rfl rfl ?_
  obtain ⟨f0, F⟩ := F
  refine wp_getI rfl rfl rfl f0 rfl ?_
  refine wp_icmp_ge rfl rfl rfl rfl rfl (fun c => ?_) (fun c => ?_)
  · replace F := F.1 c
    refine wp_aload rfl rfl rfl ?_
    refine wp_iload rfl rfl rfl ?_
    refine wp_iload rfl rfl rfl ?_
    refine wp_iload rfl rfl rfl ?_
    obtain ⟨f1, F⟩ := F
    refine wp_callI rfl rfl rfl (rcv_v f1 f0 (by decide) (by decide)) rfl rfl rfl rfl ?_
    refine CI.mono F (fun y0 h0 F => ?_) (fun _ _ w => rx_I w)
    refine wp_if_eq rfl rfl rfl rfl (fun c => ?_) (fun c => ?_)
    · replace F := F.1 c
      refine wp_iinc (y := 1) (L2 := [some (vR l0), some (vI l1), some (vI l2), some (vI l3), some (vI l4), some (vI l5), some (vI l6), some (vI l7), some (vI (l8 + 1))]) rfl rfl rfl rfl rfl ?_
      replace F := F _ rfl
      generalize (l8 + 1 : Int32) = v0 at F ⊢
      refine wp_goto rfl rfl ?_
      exact F
    · replace F := F.2 c
      refine wp_iload rfl rfl rfl ?_
      refine wp_iload rfl rfl rfl ?_
      refine wp_iload rfl rfl rfl ?_
      refine wp_callqI rfl rfl rfl rfl rfl rfl ?_
      refine CI.mono F (fun y1 h1 F => ?_) (fun _ _ w => w)
      refine wp_if_eq rfl rfl rfl rfl (fun c => ?_) (fun c => ?_)
      · replace F := F.1 c
        refine wp_const' (L' := [some (vR l0), some (vI l1), some (vI l2), some (vI l3), some (vI l4), some (vI l5), none, some (vI l7), some (vI l8)]) rfl rfl rfl ?_
        refine wp_aload' (L' := [some (vR l0), some (vI l1), some (vI l2), some (vI l3), some (vI l4), some (vI l5), none, some (vI l7), some (vI l8)]) rfl rfl rfl rfl ?_
        obtain ⟨f2, F⟩ := F
        refine wp_getR rfl rfl rfl f2 rfl ?_
        refine wp_iload rfl rfl rfl ?_
        obtain ⟨i0, b9, F⟩ := F
        refine wp_iaload rfl b9 rfl ?_
        refine wp_iload rfl rfl rfl ?_
        refine wp_irem rfl F.1 rfl ?_
        replace F := F.2
        refine wp_isub rfl rfl ?_
        refine wp_iadd rfl rfl ?_
        replace F := F _ rfl
        generalize (l6 + (0 - (aIrem (gI h1 (gR h1 l0 7) i0) l3)) : Int32) = v1 at F ⊢
        refine wp_istore (L2 := [some (vR l0), some (vI l1), some (vI l2), some (vI l3), some (vI l4), some (vI l5), some (vI v1), some (vI l7), some (vI l8)]) rfl rfl rfl rfl ?_
        refine wp_iload rfl rfl rfl ?_
        refine wp_iload rfl rfl rfl ?_
        refine wp_iload rfl rfl rfl ?_
        refine wp_callqI rfl rfl rfl rfl rfl rfl ?_
        refine CI.mono F (fun y2 h2 F => ?_) (fun _ _ w => w)
        refine wp_if_eq rfl rfl rfl rfl (fun c => ?_) (fun c => ?_)
        · replace F := F.1 c
          refine wp_const' (L' := [some (vR l0), some (vI l1), some (vI l2), some (vI l3), some (vI l4), some (vI l5), some (vI v1), none, some (vI l8)]) rfl rfl rfl ?_
          refine wp_iadd' (L' := [some (vR l0), some (vI l1), some (vI l2), some (vI l3), some (vI l4), some (vI l5), some (vI v1), none, some (vI l8)]) rfl rfl rfl ?_
          replace F := F _ rfl
          generalize (l7 + 0 : Int32) = v2 at F ⊢
          refine wp_istore (L2 := [some (vR l0), some (vI l1), some (vI l2), some (vI l3), some (vI l4), some (vI l5), some (vI v1), some (vI v2), some (vI l8)]) rfl rfl rfl rfl ?_
          refine wp_iinc (y := 1) (L2 := [some (vR l0), some (vI l1), some (vI l2), some (vI l3), some (vI l4), some (vI l5), some (vI v1), some (vI v2), some (vI (l8 + 1))]) rfl rfl rfl rfl rfl ?_
          replace F := F _ rfl
          generalize (l8 + 1 : Int32) = v3 at F ⊢
          refine wp_goto rfl rfl ?_
          exact F
        · replace F := F.2 c
          refine wp_iload rfl rfl rfl ?_
          refine wp_goto rfl rfl ?_
          refine wp_iadd' (L' := [some (vR l0), some (vI l1), some (vI l2), some (vI l3), some (vI l4), some (vI l5), some (vI v1), none, some (vI l8)]) rfl rfl rfl ?_
          replace F := F _ rfl
          generalize (l7 + l3 : Int32) = v4 at F ⊢
          refine wp_istore (L2 := [some (vR l0), some (vI l1), some (vI l2), some (vI l3), some (vI l4), some (vI l5), some (vI v1), some (vI v4), some (vI l8)]) rfl rfl rfl rfl ?_
          refine wp_iinc (y := 1) (L2 := [some (vR l0), some (vI l1), some (vI l2), some (vI l3), some (vI l4), some (vI l5), some (vI v1), some (vI v4), some (vI (l8 + 1))]) rfl rfl rfl rfl rfl ?_
          replace F := F _ rfl
          generalize (l8 + 1 : Int32) = v5 at F ⊢
          refine wp_goto rfl rfl ?_
          exact F
      · replace F := F.2 c
        refine wp_iload rfl rfl rfl ?_
        refine wp_goto rfl rfl ?_
        refine wp_aload' (L' := [some (vR l0), some (vI l1), some (vI l2), some (vI l3), some (vI l4), some (vI l5), none, some (vI l7), some (vI l8)]) rfl rfl rfl rfl ?_
        obtain ⟨f3, F⟩ := F
        refine wp_getR rfl rfl rfl f3 rfl ?_
        refine wp_iload rfl rfl rfl ?_
        obtain ⟨i1, b9, F⟩ := F
        refine wp_iaload rfl b9 rfl ?_
        refine wp_iload rfl rfl rfl ?_
        refine wp_irem rfl F.1 rfl ?_
        replace F := F.2
        refine wp_isub rfl rfl ?_
        refine wp_iadd rfl rfl ?_
        replace F := F _ rfl
        generalize (l6 + (l3 - (aIrem (gI h1 (gR h1 l0 7) i1) l3)) : Int32) = v6 at F ⊢
        refine wp_istore (L2 := [some (vR l0), some (vI l1), some (vI l2), some (vI l3), some (vI l4), some (vI l5), some (vI v6), some (vI l7), some (vI l8)]) rfl rfl rfl rfl ?_
        refine wp_iload rfl rfl rfl ?_
        refine wp_iload rfl rfl rfl ?_
        refine wp_iload rfl rfl rfl ?_
        refine wp_callqI rfl rfl rfl rfl rfl rfl ?_
        refine CI.mono F (fun y3 h3 F => ?_) (fun _ _ w => w)
        refine wp_if_eq rfl rfl rfl rfl (fun c => ?_) (fun c => ?_)
        · replace F := F.1 c
          refine wp_const' (L' := [some (vR l0), some (vI l1), some (vI l2), some (vI l3), some (vI l4), some (vI l5), some (vI v6), none, some (vI l8)]) rfl rfl rfl ?_
          refine wp_iadd' (L' := [some (vR l0), some (vI l1), some (vI l2), some (vI l3), some (vI l4), some (vI l5), some (vI v6), none, some (vI l8)]) rfl rfl rfl ?_
          replace F := F _ rfl
          generalize (l7 + 0 : Int32) = v7 at F ⊢
          refine wp_istore (L2 := [some (vR l0), some (vI l1), some (vI l2), some (vI l3), some (vI l4), some (vI l5), some (vI v6), some (vI v7), some (vI l8)]) rfl rfl rfl rfl ?_
          refine wp_iinc (y := 1) (L2 := [some (vR l0), some (vI l1), some (vI l2), some (vI l3), some (vI l4), some (vI l5), some (vI v6), some (vI v7), some (vI (l8 + 1))]) rfl rfl rfl rfl rfl ?_
          replace F := F _ rfl
          generalize (l8 + 1 : Int32) = v8 at F ⊢
          refine wp_goto rfl rfl ?_
          exact F
        · replace F := F.2 c
          refine wp_iload rfl rfl rfl ?_
          refine wp_goto rfl rfl ?_
          refine wp_iadd' (L' := [some (vR l0), some (vI l1), some (vI l2), some (vI l3), some (vI l4), some (vI l5), some (vI v6), none, some (vI l8)]) rfl rfl rfl ?_
          replace F := F _ rfl
          generalize (l7 + l3 : Int32) = v9 at F ⊢
          refine wp_istore (L2 := [some (vR l0), some (vI l1), some (vI l2), some (vI l3), some (vI l4), some (vI l5), some (vI v6), some (vI v9), some (vI l8)]) rfl rfl rfl rfl ?_
          refine wp_iinc (y := 1) (L2 := [some (vR l0), some (vI l1), some (vI l2), some (vI l3), some (vI l4), some (vI l5), some (vI v6), some (vI v9), some (vI (l8 + 1))]) rfl rfl rfl rfl rfl ?_
          replace F := F _ rfl
          generalize (l8 + 1 : Int32) = v10 at F ⊢
          refine wp_goto rfl rfl ?_
          exact F
  · replace F := F.2 c
    refine wp_iload' (L' := [none, none, none, some (vI l3), none, none, some (vI l6), some (vI l7), none]) rfl rfl rfl rfl ?_
    refine wp_iload rfl rfl rfl ?_
    refine wp_icmp_ge rfl rfl rfl rfl rfl (fun c => ?_) (fun c => ?_)
    · replace F := F.1 c
      refine wp_iload rfl rfl rfl ?_
      refine wp_iload rfl rfl rfl ?_
      refine wp_iadd rfl rfl ?_
      refine wp_iload rfl rfl rfl ?_
      refine wp_ineg rfl rfl ?_
      refine wp_icmp_le rfl rfl rfl rfl rfl (fun c => ?_) (fun c => ?_)
      · replace F := F.1 c
        refine wp_const rfl rfl ?_
        refine wp_goto rfl rfl ?_
        exact wp_retI rfl (Or.inr rfl) F
      · replace F := F.2 c
        refine wp_const' (L' := [none, none, none, none, none, none, none, none, none]) rfl rfl rfl ?_
        exact wp_retI rfl (Or.inr rfl) F
    · replace F := F.2 c
      refine wp_const' (L' := [none, none, none, none, none, none, none, none, none]) rfl rfl rfl ?_
      exact wp_retI rfl (Or.inr rfl) F
-- CensusOffice$Table keepsSums (IIII)Z
theorem m301 {d : Nat} {a0 : Nat} {a1 : Int32} {a2 : Int32} {a3 : Int32} {a4 : Int32} {h : aH} {K : Int32 → aH → Prop} {X : Nat → aH → Prop} (F : gK h a0 = 11 ∧ ((0 < (gI h a0 5).toInt → (¬ (gI h a0 5) = 0) ∧ 8 ≤ a0 ∧ CI d 300 [vR a0, vI a1, vI a2, vI a3, vI (a4 / (gI h a0 5)), vI (gI h a0 5)] h (fun y0 h0 => ((y0.toInt = 0 → K 0 h0) ∧ (¬ y0.toInt = 0 → gK h0 a0 = 11 ∧ (¬ (gI h0 a0 5) = 0) ∧ CI d 300 [vR a0, vI a1, vI a2, vI a3, vI (gI h0 a0 4), vI (aIrem a4 (gI h0 a0 5))] h0 (fun y1 h1 => ((y1.toInt = 0 → K 0 h1) ∧ (¬ y1.toInt = 0 → gK h1 a0 = 11 ∧ CI d 300 [vR a0, vI a1, vI a2, vI a3, vI (gI h1 a0 4), vI (gI h1 a0 5)] h1 (fun y2 h2 => ((y2.toInt = 0 → K 0 h2) ∧ (¬ y2.toInt = 0 → K 1 h2))) X))) X))) X) ∧ (¬ 0 < (gI h a0 5).toInt → K 0 h))) : CI (d + 1) 301 [vR a0, vI a1, vI a2, vI a3, vI a4] h K X := by
  show Wp (d + 1) 301 (0, [some (vR a0), some (vI a1), some (vI a2), some (vI a3), some (vI a4)], [], h) (RI K X)
  refine wp_aload rfl rfl rfl ?_
  obtain ⟨f0, F⟩ := F
  refine wp_getI rfl rfl rfl f0 rfl ?_
  refine wp_if_le rfl rfl rfl rfl (fun c => ?_) (fun c => ?_)
  · replace F := F.1 c
    refine wp_aload rfl rfl rfl ?_
    refine wp_iload rfl rfl rfl ?_
    refine wp_iload rfl rfl rfl ?_
    refine wp_iload rfl rfl rfl ?_
    refine wp_iload rfl rfl rfl ?_
    refine wp_aload rfl rfl rfl ?_
    refine wp_getI rfl rfl rfl f0 rfl ?_
    refine wp_idiv rfl F.1 rfl ?_
    replace F := F.2
    refine wp_aload rfl rfl rfl ?_
    refine wp_getI rfl rfl rfl f0 rfl ?_
    obtain ⟨f1, F⟩ := F
    refine wp_callI rfl rfl rfl (rcv_v f1 f0 (by decide) (by decide)) rfl rfl rfl rfl ?_
    refine CI.mono F (fun y0 h0 F => ?_) (fun _ _ w => rx_I w)
    refine wp_if_eq rfl rfl rfl rfl (fun c => ?_) (fun c => ?_)
    · replace F := F.1 c
      refine wp_const' (L' := [none, none, none, none, none]) rfl rfl rfl ?_
      exact wp_retI rfl (Or.inr rfl) F
    · replace F := F.2 c
      refine wp_aload rfl rfl rfl ?_
      refine wp_iload rfl rfl rfl ?_
      refine wp_iload rfl rfl rfl ?_
      refine wp_iload rfl rfl rfl ?_
      refine wp_aload rfl rfl rfl ?_
      obtain ⟨f2, F⟩ := F
      refine wp_getI rfl rfl rfl f2 rfl ?_
      refine wp_iload rfl rfl rfl ?_
      refine wp_aload rfl rfl rfl ?_
      refine wp_getI rfl rfl rfl f2 rfl ?_
      refine wp_irem rfl F.1 rfl ?_
      replace F := F.2
      refine wp_callI rfl rfl rfl (rcv_v f1 f2 (by decide) (by decide)) rfl rfl rfl rfl ?_
      refine CI.mono F (fun y1 h1 F => ?_) (fun _ _ w => rx_I w)
      refine wp_if_eq rfl rfl rfl rfl (fun c => ?_) (fun c => ?_)
      · replace F := F.1 c
        refine wp_const' (L' := [none, none, none, none, none]) rfl rfl rfl ?_
        exact wp_retI rfl (Or.inr rfl) F
      · replace F := F.2 c
        refine wp_aload rfl rfl rfl ?_
        refine wp_iload rfl rfl rfl ?_
        refine wp_iload rfl rfl rfl ?_
        refine wp_iload rfl rfl rfl ?_
        refine wp_aload rfl rfl rfl ?_
        obtain ⟨f3, F⟩ := F
        refine wp_getI rfl rfl rfl f3 rfl ?_
        refine wp_aload rfl rfl rfl ?_
        refine wp_getI rfl rfl rfl f3 rfl ?_
        refine wp_callI rfl rfl rfl (rcv_v f1 f3 (by decide) (by decide)) rfl rfl rfl rfl ?_
        refine CI.mono F (fun y2 h2 F => ?_) (fun _ _ w => rx_I w)
        refine wp_if_eq rfl rfl rfl rfl (fun c => ?_) (fun c => ?_)
        · replace F := F.1 c
          refine wp_const' (L' := [none, none, none, none, none]) rfl rfl rfl ?_
          exact wp_retI rfl (Or.inr rfl) F
        · replace F := F.2 c
          refine wp_const rfl rfl ?_
          refine wp_goto rfl rfl ?_
          exact wp_retI rfl (Or.inr rfl) F
  · replace F := F.2 c
    refine wp_const' (L' := [none, none, none, none, none]) rfl rfl rfl ?_
    exact wp_retI rfl (Or.inr rfl) F
-- CensusOffice$Table raise (IIII)I
theorem m302 {d : Nat} {a0 : Nat} {a1 : Int32} {a2 : Int32} {a3 : Int32} {a4 : Int32} {h : aH} {K : Int32 → aH → Prop} {X : Nat → aH → Prop} (F : gK h a0 = 11 ∧ ((a4.toInt < (gI h a0 6).toInt → ∀ v0 : Int32, v0 = a1 &&& ((-2) <<< (a4 &&& 31)) → 8 ≤ a0 ∧ CI d 301 [vR a0, vI v0, vI a2, vI a3, vI a4] h (fun y0 h0 => ((y0.toInt = 0 → Wp (d + 1) 302 (49, [some (vR a0), some (vI a1), some (vI a2), some (vI a3), some (vI a4), some (vI v0), some (vI (-1))], [], h0) (RI K X)) ∧ (¬ y0.toInt = 0 → gK h0 a0 = 11 ∧ CI d 302 [vR a0, vI a1, vI a2, vI a3, vI (a4 + 1)] h0 (fun y1 h1 => Wp (d + 1) 302 (49, [some (vR a0), some (vI a1), some (vI a2), some (vI a3), some (vI a4), some (vI v0), some (vI y1)], [], h1) (RI K X)) X))) X) ∧ (¬ a4.toInt < (gI h a0 6).toInt → K a2 h))) : CI (d + 1) 302 [vR a0, vI a1, vI a2, vI a3, vI a4] h K X := by
  show Wp (d + 1) 302 (0, [some (vR a0), some (vI a1), some (vI a2), some (vI a3), some (vI a4), none, none], [], h) (RI K X)
  refine wp_iload rfl rfl rfl ?_
  refine wp_aload rfl rfl rfl ?_
  obtain ⟨f0, F⟩ := F
  refine wp_getI rfl rfl rfl f0 rfl ?_
  refine wp_icmp_lt rfl rfl rfl rfl rfl (fun c => ?_) (fun c => ?_)
  · replace F := F.1 c
    refine wp_iload' (L' := [some (vR a0), some (vI a1), some (vI a2), some (vI a3), some (vI a4), none, none]) rfl rfl rfl rfl ?_
    refine wp_const rfl rfl ?_
    refine wp_iload rfl rfl rfl ?_
    refine wp_ishl rfl rfl ?_
    refine wp_iand rfl rfl ?_
    replace F := F _ rfl
    generalize (a1 &&& ((-2) <<< (a4 &&& 31)) : Int32) = v0 at F ⊢
    refine wp_istore (L2 := [some (vR a0), some (vI a1), some (vI a2), some (vI a3), some (vI a4), some (vI v0), none]) rfl rfl rfl rfl ?_
    refine wp_const rfl rfl ?_
    refine wp_istore (L2 := [some (vR a0), some (vI a1), some (vI a2), some (vI a3), some (vI a4), some (vI v0), some (vI (-1))]) rfl rfl rfl rfl ?_
    refine wp_aload rfl rfl rfl ?_
    refine wp_iload rfl rfl rfl ?_
    refine wp_iload rfl rfl rfl ?_
    refine wp_iload rfl rfl rfl ?_
    refine wp_iload rfl rfl rfl ?_
    obtain ⟨f1, F⟩ := F
    refine wp_callI rfl rfl rfl (rcv_v f1 f0 (by decide) (by decide)) rfl rfl rfl rfl ?_
    refine CI.mono F (fun y0 h0 F => ?_) (fun _ _ w => rx_I w)
    refine wp_if_eq rfl rfl rfl rfl (fun c => ?_) (fun c => ?_)
    · replace F := F.1 c
      exact F
    · replace F := F.2 c
      refine wp_aload rfl rfl rfl ?_
      refine wp_iload rfl rfl rfl ?_
      refine wp_iload rfl rfl rfl ?_
      refine wp_iload rfl rfl rfl ?_
      refine wp_iload rfl rfl rfl ?_
      refine wp_const rfl rfl ?_
      refine wp_iadd rfl rfl ?_
      obtain ⟨f2, F⟩ := F
      refine wp_callI rfl rfl rfl (rcv_v f1 f2 (by decide) (by decide)) rfl rfl rfl rfl ?_
      refine CI.mono F (fun y1 h1 F => ?_) (fun _ _ w => rx_I w)
      refine wp_istore (L2 := [some (vR a0), some (vI a1), some (vI a2), some (vI a3), some (vI a4), some (vI v0), some (vI y1)]) rfl rfl rfl rfl ?_
      exact F
  · replace F := F.2 c
    refine wp_iload rfl rfl rfl ?_
    exact wp_retI rfl (Or.inl rfl) F
theorem w302_49 {d : Nat} {l0 : Nat} {l1 : Int32} {l2 : Int32} {l3 : Int32} {l4 : Int32} {l5 : Int32} {l6 : Int32} {h : aH} {K : Int32 → aH → Prop} {X : Nat → aH → Prop} (F : ((l6.toInt = (-1) → CI d 199 [vI l1, vI l4] h (fun y0 h0 => ((y0.toInt = 0 → K l6 h0) ∧ (¬ y0.toInt = 0 → 8 ≤ l0 ∧ gK h0 l0 = 11 ∧ CI d 301 [vR l0, vI l5, vI (l2 ||| (1 <<< (l4 &&& 31))), vI l3, vI l4] h0 (fun y1 h1 => ((y1.toInt = 0 → K l6 h1) ∧ (¬ y1.toInt = 0 → gK h1 l0 = 11 ∧ CI d 302 [vR l0, vI l1, vI (l2 ||| (1 <<< (l4 &&& 31))), vI l3, vI (l4 + 1)] h1 (fun y2 h2 => K y2 h2) X))) X))) (fun _ _ => False)) ∧ (¬ l6.toInt = (-1) → K l6 h))) : Wp (d + 1) 302 (49, [some (vR l0), some (vI l1), some (vI l2), some (vI l3), some (vI l4), some (vI l5), some (vI l6)], [], h) (RI K X) := by
  refine wp_iload rfl rfl rfl ?_
  refine wp_const rfl rfl ?_
  refine wp_icmp_ne (Y := (-1)) rfl rfl rfl rfl rfl (fun c => ?_) (fun c => ?_)
  · replace F := F.1 c
    refine wp_iload rfl rfl rfl ?_
    refine wp_iload rfl rfl rfl ?_
    refine wp_callqI rfl rfl rfl rfl rfl rfl ?_
    refine CI.mono F (fun y0 h0 F => ?_) (fun _ _ w => w)
    refine wp_if_eq rfl rfl rfl rfl (fun c => ?_) (fun c => ?_)
    · replace F := F.1 c
      refine wp_iload' (L' := [none, none, none, none, none, none, some (vI l6)]) rfl rfl rfl rfl ?_
      exact wp_retI rfl (Or.inl rfl) F
    · replace F := F.2 c
      refine wp_aload rfl rfl rfl ?_
      refine wp_iload rfl rfl rfl ?_
      refine wp_iload rfl rfl rfl ?_
      refine wp_const rfl rfl ?_
      refine wp_iload rfl rfl rfl ?_
      refine wp_ishl rfl rfl ?_
      refine wp_ior rfl rfl ?_
      refine wp_iload rfl rfl rfl ?_
      refine wp_iload rfl rfl rfl ?_
      obtain ⟨f0, F⟩ := F
      obtain ⟨f1, F⟩ := F
      refine wp_callI rfl rfl rfl (rcv_v f0 f1 (by decide) (by decide)) rfl rfl rfl rfl ?_
      refine CI.mono F (fun y1 h1 F => ?_) (fun _ _ w => rx_I w)
      refine wp_if_eq rfl rfl rfl rfl (fun c => ?_) (fun c => ?_)
      · replace F := F.1 c
        refine wp_iload' (L' := [none, none, none, none, none, none, some (vI l6)]) rfl rfl rfl rfl ?_
        exact wp_retI rfl (Or.inl rfl) F
      · replace F := F.2 c
        refine wp_aload rfl rfl rfl ?_
        refine wp_iload rfl rfl rfl ?_
        refine wp_iload rfl rfl rfl ?_
        refine wp_const rfl rfl ?_
        refine wp_iload rfl rfl rfl ?_
        refine wp_ishl rfl rfl ?_
        refine wp_ior rfl rfl ?_
        refine wp_iload rfl rfl rfl ?_
        refine wp_iload rfl rfl rfl ?_
        refine wp_const rfl rfl ?_
        refine wp_iadd rfl rfl ?_
        obtain ⟨f2, F⟩ := F
        refine wp_callI rfl rfl rfl (rcv_v f0 f2 (by decide) (by decide)) rfl rfl rfl rfl ?_
        refine CI.mono F (fun y2 h2 F => ?_) (fun _ _ w => rx_I w)
        refine wp_istore (L2 := [some (vR l0), some (vI l1), some (vI l2), some (vI l3), some (vI l4), some (vI l5), some (vI y2)]) rfl rfl rfl rfl ?_
        refine wp_iload' (L' := [none, none, none, none, none, none, some (vI y2)]) rfl rfl rfl rfl ?_
        exact wp_retI rfl (Or.inl rfl) F
  · replace F := F.2 c
    refine wp_iload' (L' := [none, none, none, none, none, none, some (vI l6)]) rfl rfl rfl rfl ?_
    exact wp_retI rfl (Or.inl rfl) F
-- CensusOffice$Table roundTo (I)I
theorem m303 {d : Nat} {a0 : Nat} {a1 : Int32} {h : aH} {K : Int32 → aH → Prop} {X : Nat → aH → Prop} (F : ((a1.toInt < 1 → K 0 h) ∧ (¬ a1.toInt < 1 → Wp (d + 1) 303 (11, [some (vR a0), some (vI a1), some (vI 0), some (vI 0), none], [], h) (RI K X)))) : CI (d + 1) 303 [vR a0, vI a1] h K X := by
  show Wp (d + 1) 303 (0, [some (vR a0), some (vI a1), none, none, none], [], h) (RI K X)
  refine wp_iload rfl rfl rfl ?_
  refine wp_const rfl rfl ?_
  refine wp_icmp_ge (Y := 1) rfl rfl rfl rfl rfl (fun c => ?_) (fun c => ?_)
  · replace F := F.1 c
    refine wp_const rfl rfl ?_
    exact wp_retI rfl (Or.inl rfl) F
  · replace F := F.2 c
    refine wp_const' (L' := [some (vR a0), some (vI a1), none, none, none]) rfl rfl rfl ?_
    refine wp_istore (L2 := [some (vR a0), some (vI a1), some (vI 0), none, none]) rfl rfl rfl rfl ?_
    refine wp_const rfl rfl ?_
    refine wp_istore (L2 := [some (vR a0), some (vI a1), some (vI 0), some (vI 0), none]) rfl rfl rfl rfl ?_
    exact F
theorem w303_11 {d : Nat} {l0 : Nat} {l1 : Int32} {l2 : Int32} {l3 : Int32} {h : aH} {K : Int32 → aH → Prop} {X : Nat → aH → Prop} (F : gK h l0 = 11 ∧ ((l3.toInt < (gI h l0 6).toInt → ∃ i0 : Nat, inB h 100 (gR h l0 7) l3 i0 ∧ (¬ l1 = 0) ∧ (((aIrem (gI h (gR h l0 7) i0) l1).toInt = 0 → ∀ v0 : Int32, v0 = l2 ||| 0 → ∀ v1 : Int32, v1 = l3 + 1 → Wp (d + 1) 303 (11, [some (vR l0), some (vI l1), some (vI v0), some (vI v1), none], [], h) (RI K X)) ∧ (¬ (aIrem (gI h (gR h l0 7) i0) l1).toInt = 0 → ∀ v2 : Int32, v2 = l2 ||| (1 <<< (l3 &&& 31)) → ∀ v3 : Int32, v3 = l3 + 1 → Wp (d + 1) 303 (11, [some (vR l0), some (vI l1), some (vI v2), some (vI v3), none], [], h) (RI K X)))) ∧ (¬ l3.toInt < (gI h l0 6).toInt → 8 ≤ l0 ∧ CI d 302 [vR l0, vI l2, vI 0, vI l1, vI 0] h (fun y0 h0 => CI d 0 [vI 0, vI y0] h0 (fun y1 h1 => Wp (d + 1) 303 (62, [some (vR l0), some (vI l1), none, some (vI y1), some (vI 0)], [], h1) (RI K X)) X) X))) : Wp (d + 1) 303 (11, [some (vR l0), some (vI l1), some (vI l2), some (vI l3), none], [], h) (RI K X) := by
  refine wp_iload' (L' := [some (vR l0), some (vI l1), some (vI l2), some (vI l3), none]) rfl rfl rfl rfl ?_
  refine wp_aload rfl rfl rfl ?_
  obtain ⟨f0, F⟩ := F
  refine wp_getI rfl rfl rfl f0 rfl ?_
  refine wp_icmp_ge rfl rfl rfl rfl rfl (fun c => ?_) (fun c => ?_)
  · replace F := F.1 c
    refine wp_iload rfl rfl rfl ?_
    refine wp_aload rfl rfl rfl ?_
    refine wp_getR rfl rfl rfl f0 rfl ?_
    refine wp_iload rfl rfl rfl ?_
    obtain ⟨i0, b9, F⟩ := F
    refine wp_iaload rfl b9 rfl ?_
    refine wp_iload rfl rfl rfl ?_
    refine wp_irem rfl F.1 rfl ?_
    replace F := F.2
    refine wp_if_eq rfl rfl rfl rfl (fun c => ?_) (fun c => ?_)
    · replace F := F.1 c
      refine wp_const' (L' := [some (vR l0), some (vI l1), none, some (vI l3), none]) rfl rfl rfl ?_
      refine wp_ior' (L' := [some (vR l0), some (vI l1), none, some (vI l3), none]) rfl rfl rfl ?_
      replace F := F _ rfl
      generalize (l2 ||| 0 : Int32) = v0 at F ⊢
      refine wp_istore (L2 := [some (vR l0), some (vI l1), some (vI v0), some (vI l3), none]) rfl rfl rfl rfl ?_
      refine wp_iinc (y := 1) (L2 := [some (vR l0), some (vI l1), some (vI v0), some (vI (l3 + 1)), none]) rfl rfl rfl rfl rfl ?_
      replace F := F _ rfl
      generalize (l3 + 1 : Int32) = v1 at F ⊢
      refine wp_goto rfl rfl ?_
      exact F
    · replace F := F.2 c
      refine wp_const rfl rfl ?_
      refine wp_iload rfl rfl rfl ?_
      refine wp_ishl rfl rfl ?_
      refine wp_goto rfl rfl ?_
      refine wp_ior' (L' := [some (vR l0), some (vI l1), none, some (vI l3), none]) rfl rfl rfl ?_
      replace F := F _ rfl
      generalize (l2 ||| (1 <<< (l3 &&& 31)) : Int32) = v2 at F ⊢
      refine wp_istore (L2 := [some (vR l0), some (vI l1), some (vI v2), some (vI l3), none]) rfl rfl rfl rfl ?_
      refine wp_iinc (y := 1) (L2 := [some (vR l0), some (vI l1), some (vI v2), some (vI (l3 + 1)), none]) rfl rfl rfl rfl rfl ?_
      replace F := F _ rfl
      generalize (l3 + 1 : Int32) = v3 at F ⊢
      refine wp_goto rfl rfl ?_
      exact F
  · replace F := F.2 c
    refine wp_const' (L' := [some (vR l0), some (vI l1), some (vI l2), none, none]) rfl rfl rfl ?_
    refine wp_aload rfl rfl rfl ?_
    refine wp_iload rfl rfl rfl ?_
    refine wp_const rfl rfl ?_
    refine wp_iload rfl rfl rfl ?_
    refine wp_const rfl rfl ?_
    obtain ⟨f1, F⟩ := F
    refine wp_callI rfl rfl rfl (rcv_v f1 f0 (by decide) (by decide)) rfl rfl rfl rfl ?_
    refine CI.mono F (fun y0 h0 F => ?_) (fun _ _ w => rx_I w)
    refine wp_callI rfl rfl rfl rfl rfl rfl rfl rfl ?_
    refine CI.mono F (fun y1 h1 F => ?_) (fun _ _ w => rx_I w)
    refine wp_istore (L2 := [some (vR l0), some (vI l1), some (vI l2), some (vI y1), none]) rfl rfl rfl rfl ?_
    refine wp_const rfl rfl ?_
    refine wp_istore (L2 := [some (vR l0), some (vI l1), some (vI l2), some (vI y1), some (vI 0)]) rfl rfl rfl rfl ?_
    refine wp_kill (L' := [some (vR l0), some (vI l1), none, some (vI y1), some (vI 0)]) rfl rfl ?_
    exact F
theorem w303_62 {d : Nat} {l0 : Nat} {l1 : Int32} {l3 : Int32} {l4 : Int32} {h : aH} {K : Int32 → aH → Prop} {X : Nat → aH → Prop} (F : gK h l0 = 11 ∧ ((l4.toInt < (gI h l0 6).toInt → ∃ i0 : Nat, inB h 100 (gR h l0 7) l4 i0 ∧ ∃ i1 : Nat, inB h 100 (gR h l0 7) l4 i1 ∧ (¬ l1 = 0) ∧ CI d 199 [vI l3, vI l4] h (fun y0 h0 => ((y0.toInt = 0 → 8 ≤ (gR h l0 10) ∧ ∃ i2 : Nat, inB h0 100 (gR h l0 10) l4 i2 ∧ ∀ h1 : aH, h1 = pI h0 (gR h l0 10) i2 (((gI h (gR h l0 7) i0) - (aIrem (gI h (gR h l0 7) i1) l1)) + 0) → ∀ v0 : Int32, v0 = l4 + 1 → Wp (d + 1) 303 (62, [some (vR l0), some (vI l1), none, some (vI l3), some (vI v0)], [], h1) (RI K X)) ∧ (¬ y0.toInt = 0 → 8 ≤ (gR h l0 10) ∧ ∃ i3 : Nat, inB h0 100 (gR h l0 10) l4 i3 ∧ ∀ h2 : aH, h2 = pI h0 (gR h l0 10) i3 (((gI h (gR h l0 7) i0) - (aIrem (gI h (gR h l0 7) i1) l1)) + l1) → ∀ v1 : Int32, v1 = l4 + 1 → Wp (d + 1) 303 (62, [some (vR l0), some (vI l1), none, some (vI l3), some (vI v1)], [], h2) (RI K X)))) (fun _ _ => False)) ∧ (¬ l4.toInt < (gI h l0 6).toInt → CI d 220 [vI l3] h (fun y1 h3 => K y1 h3) X))) : Wp (d + 1) 303 (62, [some (vR l0), some (vI l1), none, some (vI l3), some (vI l4)], [], h) (RI K X) := by
  refine wp_iload' (L' := [some (vR l0), some (vI l1), none, some (vI l3), some (vI l4)]) rfl rfl rfl rfl ?_
  refine wp_aload rfl rfl rfl ?_
  obtain ⟨f0, F⟩ := F
  refine wp_getI rfl rfl rfl f0 rfl ?_
  refine wp_icmp_ge rfl rfl rfl rfl rfl (fun c => ?_) (fun c => ?_)
  · replace F := F.1 c
    refine wp_aload rfl rfl rfl ?_
    refine wp_getR rfl rfl rfl f0 rfl ?_
    refine wp_iload rfl rfl rfl ?_
    refine wp_aload rfl rfl rfl ?_
    refine wp_getR rfl rfl rfl f0 rfl ?_
    refine wp_iload rfl rfl rfl ?_
    obtain ⟨i0, b9, F⟩ := F
    refine wp_iaload rfl b9 rfl ?_
    refine wp_aload rfl rfl rfl ?_
    refine wp_getR rfl rfl rfl f0 rfl ?_
    refine wp_iload rfl rfl rfl ?_
    obtain ⟨i1, b9, F⟩ := F
    refine wp_iaload rfl b9 rfl ?_
    refine wp_iload rfl rfl rfl ?_
    refine wp_irem rfl F.1 rfl ?_
    replace F := F.2
    refine wp_isub rfl rfl ?_
    refine wp_iload rfl rfl rfl ?_
    refine wp_iload rfl rfl rfl ?_
    refine wp_callqI rfl rfl rfl rfl rfl rfl ?_
    refine CI.mono F (fun y0 h0 F => ?_) (fun _ _ w => w)
    refine wp_if_eq rfl rfl rfl rfl (fun c => ?_) (fun c => ?_)
    · replace F := F.1 c
      refine wp_const' (L' := [some (vR l0), some (vI l1), none, some (vI l3), some (vI l4)]) rfl rfl rfl ?_
      refine wp_iadd' (L' := [some (vR l0), some (vI l1), none, some (vI l3), some (vI l4)]) rfl rfl rfl ?_
      obtain ⟨f1, F⟩ := F
      obtain ⟨i2, b9, F⟩ := F
      refine wp_iastore rfl f1 b9 rfl ?_
      replace F := F _ rfl
      generalize pI h0 (gR h l0 10) i2 (((gI h (gR h l0 7) i0) - (aIrem (gI h (gR h l0 7) i1) l1)) + 0) = h1 at F ⊢
      refine wp_iinc (y := 1) (L2 := [some (vR l0), some (vI l1), none, some (vI l3), some (vI (l4 + 1))]) rfl rfl rfl rfl rfl ?_
      replace F := F _ rfl
      generalize (l4 + 1 : Int32) = v0 at F ⊢
      refine wp_goto rfl rfl ?_
      exact F
    · replace F := F.2 c
      refine wp_iload rfl rfl rfl ?_
      refine wp_goto rfl rfl ?_
      refine wp_iadd' (L' := [some (vR l0), some (vI l1), none, some (vI l3), some (vI l4)]) rfl rfl rfl ?_
      obtain ⟨f2, F⟩ := F
      obtain ⟨i3, b9, F⟩ := F
      refine wp_iastore rfl f2 b9 rfl ?_
      replace F := F _ rfl
      generalize pI h0 (gR h l0 10) i3 (((gI h (gR h l0 7) i0) - (aIrem (gI h (gR h l0 7) i1) l1)) + l1) = h2 at F ⊢
      refine wp_iinc (y := 1) (L2 := [some (vR l0), some (vI l1), none, some (vI l3), some (vI (l4 + 1))]) rfl rfl rfl rfl rfl ?_
      replace F := F _ rfl
      generalize (l4 + 1 : Int32) = v1 at F ⊢
      refine wp_goto rfl rfl ?_
      exact F
  · replace F := F.2 c
    refine wp_iload' (L' := [none, none, none, some (vI l3), none]) rfl rfl rfl rfl ?_
    refine wp_callI rfl rfl rfl rfl rfl rfl rfl rfl ?_
    refine CI.mono F (fun y1 h3 F => ?_) (fun _ _ w => rx_I w)
    exact wp_retI rfl (Or.inl rfl) F
-- CensusOffice round (II)I
theorem m304 {d : Nat} {a0 : Nat} {a1 : Int32} {a2 : Int32} {h : aH} {K : Int32 → aH → Prop} {X : Nat → aH → Prop} (F : 8 ≤ a0 ∧ gK h a0 = 1 ∧ CR d 267 [vR a0, vI a1] h (fun q0 h0 => ((a2.toInt < 1 → X 1 (gNew h0 200 6)) ∧ (¬ a2.toInt < 1 → ((1000 < a2.toInt → X 1 (gNew h0 200 6)) ∧ (¬ 1000 < a2.toInt → 8 ≤ q0 ∧ gK h0 q0 = 11 ∧ CI d 303 [vR q0, vI a2] h0 (fun y0 h1 => K y0 h1) X))))) X) : CI (d + 1) 304 [vR a0, vI a1, vI a2] h K X := by
  show Wp (d + 1) 304 (0, [some (vR a0), some (vI a1), some (vI a2), none], [], h) (RI K X)
  refine wp_aload rfl rfl rfl ?_
  refine wp_iload rfl rfl rfl ?_
  obtain ⟨f0, F⟩ := F
  obtain ⟨f1, F⟩ := F
  refine wp_callR rfl rfl rfl (rcv_v f0 f1 (by decide) (by decide)) rfl rfl rfl rfl ?_
  refine CR.mono F (fun q0 h0 F => ?_) (fun _ _ w => rx_I w)
  refine wp_astore (L2 := [some (vR a0), some (vI a1), some (vI a2), some (vR q0)]) rfl rfl rfl rfl ?_
  refine wp_iload rfl rfl rfl ?_
  refine wp_const rfl rfl ?_
  refine wp_icmp_lt (Y := 1) rfl rfl rfl rfl rfl (fun c => ?_) (fun c => ?_)
  · replace F := F.1 c
    exact wp_thrI rfl F
  · replace F := F.2 c
    refine wp_iload rfl rfl rfl ?_
    refine wp_const rfl rfl ?_
    refine wp_icmp_le (Y := 1000) rfl rfl rfl rfl rfl (fun c => ?_) (fun c => ?_)
    · replace F := F.1 c
      exact wp_thrI rfl F
    · replace F := F.2 c
      refine wp_aload' (L' := [none, none, some (vI a2), some (vR q0)]) rfl rfl rfl rfl ?_
      refine wp_iload rfl rfl rfl ?_
      obtain ⟨f2, F⟩ := F
      obtain ⟨f3, F⟩ := F
      refine wp_callI rfl rfl rfl (rcv_v f2 f3 (by decide) (by decide)) rfl rfl rfl rfl ?_
      refine CI.mono F (fun y0 h1 F => ?_) (fun _ _ w => rx_I w)
      exact wp_retI rfl (Or.inl rfl) F
-- CensusOfficeLaw round (LCensusOffice;II[J)I
theorem m305 {d : Nat} {a0 : Nat} {a1 : Int32} {a2 : Int32} {a3 : Nat} {h : aH} {K : Int32 → aH → Prop} {X : Nat → aH → Prop} (F : 8 ≤ a0 ∧ gK h a0 = 1 ∧ CI d 304 [vR a0, vI a1, vI a2] h (fun y0 h0 => 8 ≤ a3 ∧ inB h0 101 a3 0 0 ∧ ∀ h1 : aH, h1 = pJ h0 a3 0 (y0.toInt64) → K 0 h1) (fun x9 h9 => (x9 = 3 ∧ K 1 h9) ∨ (x9 = 1 ∧ K 2 h9))) : CI (d + 1) 305 [vR a0, vI a1, vI a2, vR a3] h K X := by
  show Wp (d + 1) 305 (0, [some (vR a0), some (vI a1), some (vI a2), some (vR a3), none], [], h) (RI K X)
  refine wp_aload rfl rfl rfl ?_
  refine wp_const rfl rfl ?_
  refine wp_aload rfl rfl rfl ?_
  refine wp_iload rfl rfl rfl ?_
  refine wp_iload rfl rfl rfl ?_
  obtain ⟨f0, F⟩ := F
  obtain ⟨f1, F⟩ := F
  refine wp_callhI (X := (fun x9 h9 => (x9 = 3 ∧ K 1 h9) ∨ (x9 = 1 ∧ K 2 h9))) rfl rfl rfl (rcv_v f0 f1 (by decide) (by decide)) rfl rfl rfl (fun x9 h9 F => ?_) ?_
  · rcases F with ⟨rfl, F⟩ | ⟨rfl, F⟩
    · refine ⟨13, rfl, ?_⟩
      refine wp_astoreJ' (L' := [none, none, none, none, none]) (L2 := [none, none, none, none, some vJ]) rfl rfl rfl rfl rfl ?_
      refine wp_const rfl rfl ?_
      exact wp_retI rfl (Or.inl rfl) F
    · refine ⟨17, rfl, ?_⟩
      refine wp_astoreJ' (L' := [none, none, none, none, none]) (L2 := [none, none, none, none, some vJ]) rfl rfl rfl rfl rfl ?_
      refine wp_const rfl rfl ?_
      exact wp_retI rfl (Or.inl rfl) F
  · refine CI.mono F (fun y0 h0 F => ?_) (fun _ _ w => w)
    refine wp_i2l rfl rfl ?_
    obtain ⟨f2, F⟩ := F
    obtain ⟨b9, F⟩ := F
    refine wp_lastore rfl f2 b9 rfl ?_
    replace F := F _ rfl
    generalize pJ h0 a3 0 (y0.toInt64) = h1 at F ⊢
    refine wp_goto rfl rfl ?_
    refine wp_const' (L' := [none, none, none, none, none]) rfl rfl rfl ?_
    exact wp_retI rfl (Or.inl rfl) F
-- CensusOfficeModel isNext (JJ)Z
theorem m306 {d : Nat} {a0 : Nat} {a1 : Int64} {a2 : Int64} {h : aH} {K : Int32 → aH → Prop} {X : Nat → aH → Prop} (F : gK h a0 = 14 ∧ (¬ ((gI h a0 79).toInt64) = 0) ∧ ∀ v0 : Int64, v0 = (a1 / ((gI h a0 79).toInt64)) * ((gI h a0 79).toInt64) → ((a1.toInt = v0.toInt → ((a2.toInt = a1.toInt → K 1 h) ∧ (¬ a2.toInt = a1.toInt → K 0 h))) ∧ (¬ a1.toInt = v0.toInt → ((a2.toInt = v0.toInt → K 1 h) ∧ (¬ a2.toInt = v0.toInt → ((a2.toInt = (v0 + ((gI h a0 79).toInt64)).toInt → K 1 h) ∧ (¬ a2.toInt = (v0 + ((gI h a0 79).toInt64)).toInt → K 0 h))))))) : CI d 306 [vR a0, vL a1, vL a2] h K X := by
  show Wp d 306 (0, [some (vR a0), some (vL a1), none, some (vL a2), none, none, none], [], h) (RI K X)
  refine wp_lload rfl rfl rfl ?_
  refine wp_aload rfl rfl rfl ?_
  obtain ⟨f0, F⟩ := F
  refine wp_getI rfl rfl rfl f0 rfl ?_
  refine wp_i2l rfl rfl ?_
  refine wp_ldiv rfl F.1 rfl ?_
  replace F := F.2
  refine wp_aload rfl rfl rfl ?_
  refine wp_getI rfl rfl rfl f0 rfl ?_
  refine wp_i2l rfl rfl ?_
  refine wp_lmul rfl rfl ?_
  replace F := F _ rfl
  generalize ((a1 / ((gI h a0 79).toInt64)) * ((gI h a0 79).toInt64) : Int64) = v0 at F ⊢
  refine wp_lstore (L2 := [some (vR a0), some (vL a1), none, some (vL a2), none, some (vL v0), none]) rfl rfl rfl rfl ?_
  refine wp_lload rfl rfl rfl ?_
  refine wp_lload rfl rfl rfl ?_
  refine wp_lcmp_ne rfl rfl rfl rfl rfl rfl rfl (fun c => ?_) (fun c => ?_)
  · replace F := F.1 c
    refine wp_lload rfl rfl rfl ?_
    refine wp_lload rfl rfl rfl ?_
    refine wp_lcmp_ne rfl rfl rfl rfl rfl rfl rfl (fun c => ?_) (fun c => ?_)
    · replace F := F.1 c
      refine wp_const rfl rfl ?_
      refine wp_goto rfl rfl ?_
      exact wp_retI rfl (Or.inr rfl) F
    · replace F := F.2 c
      refine wp_const' (L' := [none, none, none, none, none, none, none]) rfl rfl rfl ?_
      refine wp_goto rfl rfl ?_
      exact wp_retI rfl (Or.inr rfl) F
  · replace F := F.2 c
    refine wp_lload' (L' := [some (vR a0), none, none, some (vL a2), none, some (vL v0), none]) rfl rfl rfl rfl ?_
    refine wp_lload rfl rfl rfl ?_
    refine wp_lcmp_eq rfl rfl rfl rfl rfl rfl rfl (fun c => ?_) (fun c => ?_)
    · replace F := F.1 c
      refine wp_const' (L' := [none, none, none, none, none, none, none]) rfl rfl rfl ?_
      refine wp_goto rfl rfl ?_
      exact wp_retI rfl (Or.inr rfl) F
    · replace F := F.2 c
      refine wp_lload rfl rfl rfl ?_
      refine wp_lload rfl rfl rfl ?_
      refine wp_aload rfl rfl rfl ?_
      refine wp_getI rfl rfl rfl f0 rfl ?_
      refine wp_i2l rfl rfl ?_
      refine wp_ladd rfl rfl ?_
      refine wp_lcmp_ne rfl rfl rfl rfl rfl rfl rfl (fun c => ?_) (fun c => ?_)
      · replace F := F.1 c
        refine wp_const' (L' := [none, none, none, none, none, none, none]) rfl rfl rfl ?_
        refine wp_goto rfl rfl ?_
        exact wp_retI rfl (Or.inr rfl) F
      · replace F := F.2 c
        refine wp_const' (L' := [none, none, none, none, none, none, none]) rfl rfl rfl ?_
        exact wp_retI rfl (Or.inr rfl) F
-- CensusOfficeModel isWay (II)Z
theorem m307 {d : Nat} {a0 : Nat} {a1 : Int32} {a2 : Int32} {h : aH} {K : Int32 → aH → Prop} {X : Nat → aH → Prop} (F : gK h a0 = 14 ∧ ∃ i0 : Nat, inB h 100 (gR h a0 70) a1 i0 ∧ ∃ i1 : Nat, inB h 100 (gR h a0 71) a1 i1 ∧ ∀ v0 : Int32, v0 = (gI h (gR h a0 70) i0) * (gI h (gR h a0 71) i1) → Wp (d + 1) 307 (17, [some (vR a0), some (vI a1), some (vI a2), some (vI v0), some (vI 0), none, none, none, none, none, none], [], h) (RI K X)) : CI (d + 1) 307 [vR a0, vI a1, vI a2] h K X := by
  show Wp (d + 1) 307 (0, [some (vR a0), some (vI a1), some (vI a2), none, none, none, none, none, none, none, none], [], h) (RI K X)
  refine wp_aload rfl rfl rfl ?_
  obtain ⟨f0, F⟩ := F
  refine wp_getR rfl rfl rfl f0 rfl ?_
  refine wp_iload rfl rfl rfl ?_
  obtain ⟨i0, b9, F⟩ := F
  refine wp_iaload rfl b9 rfl ?_
  refine wp_aload rfl rfl rfl ?_
  refine wp_getR rfl rfl rfl f0 rfl ?_
  refine wp_iload rfl rfl rfl ?_
  obtain ⟨i1, b9, F⟩ := F
  refine wp_iaload rfl b9 rfl ?_
  refine wp_imul rfl rfl ?_
  replace F := F _ rfl
  generalize ((gI h (gR h a0 70) i0) * (gI h (gR h a0 71) i1) : Int32) = v0 at F ⊢
  refine wp_istore (L2 := [some (vR a0), some (vI a1), some (vI a2), some (vI v0), none, none, none, none, none, none, none]) rfl rfl rfl rfl ?_
  refine wp_const rfl rfl ?_
  refine wp_istore (L2 := [some (vR a0), some (vI a1), some (vI a2), some (vI v0), some (vI 0), none, none, none, none, none, none]) rfl rfl rfl rfl ?_
  exact F
theorem w307_17 {d : Nat} {l0 : Nat} {l1 : Int32} {l2 : Int32} {l3 : Int32} {l4 : Int32} {h : aH} {K : Int32 → aH → Prop} {X : Nat → aH → Prop} (F : ((l4.toInt < l3.toInt → gK h l0 = 14 ∧ ∃ i0 : Nat, inB h 100 (gR h l0 72) ((12 * l1) + l4) i0 ∧ ∀ v0 : Int32, v0 = gI h (gR h l0 72) i0 → ((((l2 >>> (((l3 - 1) - l4) &&& 31)) &&& 1).toInt = 1 → Wp (d + 1) 307 (56, [some (vR l0), some (vI l1), some (vI l2), some (vI l3), some (vI l4), some (vI v0), none, none, none, none, none], [vI 1], h) (RI K X)) ∧ (¬ ((l2 >>> (((l3 - 1) - l4) &&& 31)) &&& 1).toInt = 1 → Wp (d + 1) 307 (56, [some (vR l0), some (vI l1), some (vI l2), some (vI l3), some (vI l4), some (vI v0), none, none, none, none, none], [vI 0], h) (RI K X)))) ∧ (¬ l4.toInt < l3.toInt → Wp (d + 1) 307 (122, [some (vR l0), some (vI l1), none, some (vI l3), some (vI 0), none, none, none, none, none, none], [], h) (RI K X)))) : Wp (d + 1) 307 (17, [some (vR l0), some (vI l1), some (vI l2), some (vI l3), some (vI l4), none, none, none, none, none, none], [], h) (RI K X) := by
  refine wp_iload' (L' := [some (vR l0), some (vI l1), some (vI l2), some (vI l3), some (vI l4), none, none, none, none, none, none]) rfl rfl rfl rfl ?_
  refine wp_iload rfl rfl rfl ?_
  refine wp_icmp_ge rfl rfl rfl rfl rfl (fun c => ?_) (fun c => ?_)
  · replace F := F.1 c
    refine wp_aload rfl rfl rfl ?_
    obtain ⟨f0, F⟩ := F
    refine wp_getR rfl rfl rfl f0 rfl ?_
    refine wp_const rfl rfl ?_
    refine wp_iload rfl rfl rfl ?_
    refine wp_imul rfl rfl ?_
    refine wp_iload rfl rfl rfl ?_
    refine wp_iadd rfl rfl ?_
    obtain ⟨i0, b9, F⟩ := F
    refine wp_iaload rfl b9 rfl ?_
    replace F := F _ rfl
    generalize (gI h (gR h l0 72) i0 : Int32) = v0 at F ⊢
    refine wp_istore (L2 := [some (vR l0), some (vI l1), some (vI l2), some (vI l3), some (vI l4), some (vI v0), none, none, none, none, none]) rfl rfl rfl rfl ?_
    refine wp_iload rfl rfl rfl ?_
    refine wp_iload rfl rfl rfl ?_
    refine wp_const rfl rfl ?_
    refine wp_isub rfl rfl ?_
    refine wp_iload rfl rfl rfl ?_
    refine wp_isub rfl rfl ?_
    refine wp_ishr rfl rfl ?_
    refine wp_const rfl rfl ?_
    refine wp_iand rfl rfl ?_
    refine wp_const rfl rfl ?_
    refine wp_icmp_ne (Y := 1) rfl rfl rfl rfl rfl (fun c => ?_) (fun c => ?_)
    · replace F := F.1 c
      refine wp_const rfl rfl ?_
      refine wp_goto rfl rfl ?_
      exact F
    · replace F := F.2 c
      refine wp_const' (L' := [some (vR l0), some (vI l1), some (vI l2), some (vI l3), some (vI l4), some (vI v0), none, none, none, none, none]) rfl rfl rfl ?_
      exact F
  · replace F := F.2 c
    refine wp_const' (L' := [some (vR l0), some (vI l1), none, some (vI l3), none, none, none, none, none, none, none]) rfl rfl rfl ?_
    refine wp_istore (L2 := [some (vR l0), some (vI l1), none, some (vI l3), some (vI 0), none, none, none, none, none, none]) rfl rfl rfl rfl ?_
    exact F
theorem w307_56 {d : Nat} {l0 : Nat} {l1 : Int32} {l2 : Int32} {l3 : Int32} {l4 : Int32} {l5 : Int32} {s0 : Int32} {h : aH} {K : Int32 → aH → Prop} {X : Nat → aH → Prop} (F : ((s0.toInt = 0 → gK h l0 = 14 ∧ (¬ (gI h l0 79) = 0) ∧ ((s0.toInt = 0 → 8 ≤ (gR h l0 75) ∧ ∃ i0 : Nat, inB h 100 (gR h l0 75) ((12 * l1) + l4) i0 ∧ ∀ h0 : aH, h0 = pI h (gR h l0 75) i0 (((l5 / (gI h l0 79)) * (gI h l0 79)) + 0) → ∀ v0 : Int32, v0 = l4 + 1 → Wp (d + 1) 307 (17, [some (vR l0), some (vI l1), some (vI l2), some (vI l3), some (vI v0), none, none, none, none, none, none], [], h0) (RI K X)) ∧ (¬ s0.toInt = 0 → 8 ≤ (gR h l0 75) ∧ ∃ i1 : Nat, inB h 100 (gR h l0 75) ((12 * l1) + l4) i1 ∧ ∀ h1 : aH, h1 = pI h (gR h l0 75) i1 (((l5 / (gI h l0 79)) * (gI h l0 79)) + (gI h l0 79)) → ∀ v1 : Int32, v1 = l4 + 1 → Wp (d + 1) 307 (17, [some (vR l0), some (vI l1), some (vI l2), some (vI l3), some (vI v1), none, none, none, none, none, none], [], h1) (RI K X)))) ∧ (¬ s0.toInt = 0 → gK h l0 = 14 ∧ (¬ (gI h l0 79) = 0) ∧ (((aIrem l5 (gI h l0 79)).toInt = 0 → K 0 h) ∧ (¬ (aIrem l5 (gI h l0 79)).toInt = 0 → (¬ (gI h l0 79) = 0) ∧ ((s0.toInt = 0 → 8 ≤ (gR h l0 75) ∧ ∃ i2 : Nat, inB h 100 (gR h l0 75) ((12 * l1) + l4) i2 ∧ ∀ h2 : aH, h2 = pI h (gR h l0 75) i2 (((l5 / (gI h l0 79)) * (gI h l0 79)) + 0) → ∀ v2 : Int32, v2 = l4 + 1 → Wp (d + 1) 307 (17, [some (vR l0), some (vI l1), some (vI l2), some (vI l3), some (vI v2), none, none, none, none, none, none], [], h2) (RI K X)) ∧ (¬ s0.toInt = 0 → 8 ≤ (gR h l0 75) ∧ ∃ i3 : Nat, inB h 100 (gR h l0 75) ((12 * l1) + l4) i3 ∧ ∀ h3 : aH, h3 = pI h (gR h l0 75) i3 (((l5 / (gI h l0 79)) * (gI h l0 79)) + (gI h l0 79)) → ∀ v3 : Int32, v3 = l4 + 1 → Wp (d + 1) 307 (17, [some (vR l0), some (vI l1), some (vI l2), some (vI l3), some (vI v3), none, none, none, none, none, none], [], h3) (RI K X)))))))) : Wp (d + 1) 307 (56, [some (vR l0), some (vI l1), some (vI l2), some (vI l3), some (vI l4), some (vI l5), none, none, none, none, none], [vI s0], h) (RI K X) := by
  refine wp_istore' (L' := [some (vR l0), some (vI l1), some (vI l2), some (vI l3), some (vI l4), some (vI l5), none, none, none, none, none]) (L2 := [some (vR l0), some (vI l1), some (vI l2), some (vI l3), some (vI l4), some (vI l5), some (vI s0), none, none, none, none]) rfl rfl rfl rfl rfl ?_
  refine wp_iload rfl rfl rfl ?_
  refine wp_if_eq rfl rfl rfl rfl (fun c => ?_) (fun c => ?_)
  · replace F := F.1 c
    refine wp_aload' (L' := [some (vR l0), some (vI l1), some (vI l2), some (vI l3), some (vI l4), some (vI l5), some (vI s0), none, none, none, none]) rfl rfl rfl rfl ?_
    obtain ⟨f0, F⟩ := F
    refine wp_getR rfl rfl rfl f0 rfl ?_
    refine wp_const rfl rfl ?_
    refine wp_iload rfl rfl rfl ?_
    refine wp_imul rfl rfl ?_
    refine wp_iload rfl rfl rfl ?_
    refine wp_iadd rfl rfl ?_
    refine wp_iload rfl rfl rfl ?_
    refine wp_aload rfl rfl rfl ?_
    refine wp_getI rfl rfl rfl f0 rfl ?_
    refine wp_idiv rfl F.1 rfl ?_
    replace F := F.2
    refine wp_aload rfl rfl rfl ?_
    refine wp_getI rfl rfl rfl f0 rfl ?_
    refine wp_imul rfl rfl ?_
    refine wp_iload rfl rfl rfl ?_
    refine wp_if_eq rfl rfl rfl rfl (fun c => ?_) (fun c => ?_)
    · replace F := F.1 c
      refine wp_const' (L' := [some (vR l0), some (vI l1), some (vI l2), some (vI l3), some (vI l4), none, none, none, none, none, none]) rfl rfl rfl ?_
      refine wp_iadd' (L' := [some (vR l0), some (vI l1), some (vI l2), some (vI l3), some (vI l4), none, none, none, none, none, none]) rfl rfl rfl ?_
      obtain ⟨f1, F⟩ := F
      obtain ⟨i0, b9, F⟩ := F
      refine wp_iastore rfl f1 b9 rfl ?_
      have f2 : gK (pI h (gR h l0 75) i0 (((l5 / (gI h l0 79)) * (gI h l0 79)) + 0)) l0 = 14 := (gK_pI _ _ _ _ _).trans f0
      replace F := F _ rfl
      generalize pI h (gR h l0 75) i0 (((l5 / (gI h l0 79)) * (gI h l0 79)) + 0) = h0 at F f2 ⊢
      refine wp_iinc (y := 1) (L2 := [some (vR l0), some (vI l1), some (vI l2), some (vI l3), some (vI (l4 + 1)), none, none, none, none, none, none]) rfl rfl rfl rfl rfl ?_
      replace F := F _ rfl
      generalize (l4 + 1 : Int32) = v0 at F ⊢
      refine wp_goto rfl rfl ?_
      exact F
    · replace F := F.2 c
      refine wp_aload rfl rfl rfl ?_
      refine wp_getI rfl rfl rfl f0 rfl ?_
      refine wp_goto rfl rfl ?_
      refine wp_iadd' (L' := [some (vR l0), some (vI l1), some (vI l2), some (vI l3), some (vI l4), none, none, none, none, none, none]) rfl rfl rfl ?_
      obtain ⟨f3, F⟩ := F
      obtain ⟨i1, b9, F⟩ := F
      refine wp_iastore rfl f3 b9 rfl ?_
      have f4 : gK (pI h (gR h l0 75) i1 (((l5 / (gI h l0 79)) * (gI h l0 79)) + (gI h l0 79))) l0 = 14 := (gK_pI _ _ _ _ _).trans f0
      replace F := F _ rfl
      generalize pI h (gR h l0 75) i1 (((l5 / (gI h l0 79)) * (gI h l0 79)) + (gI h l0 79)) = h1 at F f4 ⊢
      refine wp_iinc (y := 1) (L2 := [some (vR l0), some (vI l1), some (vI l2), some (vI l3), some (vI (l4 + 1)), none, none, none, none, none, none]) rfl rfl rfl rfl rfl ?_
      replace F := F _ rfl
      generalize (l4 + 1 : Int32) = v1 at F ⊢
      refine wp_goto rfl rfl ?_
      exact F
  · replace F := F.2 c
    refine wp_iload rfl rfl rfl ?_
    refine wp_aload rfl rfl rfl ?_
    obtain ⟨f5, F⟩ := F
    refine wp_getI rfl rfl rfl f5 rfl ?_
    refine wp_irem rfl F.1 rfl ?_
    replace F := F.2
    refine wp_if_ne rfl rfl rfl rfl (fun c => ?_) (fun c => ?_)
    · replace F := F.1 c
      refine wp_const rfl rfl ?_
      exact wp_retI rfl (Or.inr rfl) F
    · replace F := F.2 c
      refine wp_aload' (L' := [some (vR l0), some (vI l1), some (vI l2), some (vI l3), some (vI l4), some (vI l5), some (vI s0), none, none, none, none]) rfl rfl rfl rfl ?_
      refine wp_getR rfl rfl rfl f5 rfl ?_
      refine wp_const rfl rfl ?_
      refine wp_iload rfl rfl rfl ?_
      refine wp_imul rfl rfl ?_
      refine wp_iload rfl rfl rfl ?_
      refine wp_iadd rfl rfl ?_
      refine wp_iload rfl rfl rfl ?_
      refine wp_aload rfl rfl rfl ?_
      refine wp_getI rfl rfl rfl f5 rfl ?_
      refine wp_idiv rfl F.1 rfl ?_
      replace F := F.2
      refine wp_aload rfl rfl rfl ?_
      refine wp_getI rfl rfl rfl f5 rfl ?_
      refine wp_imul rfl rfl ?_
      refine wp_iload rfl rfl rfl ?_
      refine wp_if_eq rfl rfl rfl rfl (fun c => ?_) (fun c => ?_)
      · replace F := F.1 c
        refine wp_const' (L' := [some (vR l0), some (vI l1), some (vI l2), some (vI l3), some (vI l4), none, none, none, none, none, none]) rfl rfl rfl ?_
        refine wp_iadd' (L' := [some (vR l0), some (vI l1), some (vI l2), some (vI l3), some (vI l4), none, none, none, none, none, none]) rfl rfl rfl ?_
        obtain ⟨f6, F⟩ := F
        obtain ⟨i2, b9, F⟩ := F
        refine wp_iastore rfl f6 b9 rfl ?_
        have f7 : gK (pI h (gR h l0 75) i2 (((l5 / (gI h l0 79)) * (gI h l0 79)) + 0)) l0 = 14 := (gK_pI _ _ _ _ _).trans f5
        replace F := F _ rfl
        generalize pI h (gR h l0 75) i2 (((l5 / (gI h l0 79)) * (gI h l0 79)) + 0) = h2 at F f7 ⊢
        refine wp_iinc (y := 1) (L2 := [some (vR l0), some (vI l1), some (vI l2), some (vI l3), some (vI (l4 + 1)), none, none, none, none, none, none]) rfl rfl rfl rfl rfl ?_
        replace F := F _ rfl
        generalize (l4 + 1 : Int32) = v2 at F ⊢
        refine wp_goto rfl rfl ?_
        exact F
      · replace F := F.2 c
        refine wp_aload rfl rfl rfl ?_
        refine wp_getI rfl rfl rfl f5 rfl ?_
        refine wp_goto rfl rfl ?_
        refine wp_iadd' (L' := [some (vR l0), some (vI l1), some (vI l2), some (vI l3), some (vI l4), none, none, none, none, none, none]) rfl rfl rfl ?_
        obtain ⟨f8, F⟩ := F
        obtain ⟨i3, b9, F⟩ := F
        refine wp_iastore rfl f8 b9 rfl ?_
        have f9 : gK (pI h (gR h l0 75) i3 (((l5 / (gI h l0 79)) * (gI h l0 79)) + (gI h l0 79))) l0 = 14 := (gK_pI _ _ _ _ _).trans f5
        replace F := F _ rfl
        generalize pI h (gR h l0 75) i3 (((l5 / (gI h l0 79)) * (gI h l0 79)) + (gI h l0 79)) = h3 at F f9 ⊢
        refine wp_iinc (y := 1) (L2 := [some (vR l0), some (vI l1), some (vI l2), some (vI l3), some (vI (l4 + 1)), none, none, none, none, none, none]) rfl rfl rfl rfl rfl ?_
        replace F := F _ rfl
        generalize (l4 + 1 : Int32) = v3 at F ⊢
        refine wp_goto rfl rfl ?_
        exact F
theorem w307_122 {d : Nat} {l0 : Nat} {l1 : Int32} {l3 : Int32} {l4 : Int32} {h : aH} {K : Int32 → aH → Prop} {X : Nat → aH → Prop} (F : gK h l0 = 14 ∧ ∃ i0 : Nat, inB h 100 (gR h l0 70) l1 i0 ∧ (((gI h (gR h l0 70) i0).toInt < l4.toInt → K 1 h) ∧ (¬ (gI h (gR h l0 70) i0).toInt < l4.toInt → Wp (d + 1) 307 (136, [some (vR l0), some (vI l1), none, some (vI l3), some (vI l4), some (vI 0), none, none, none, none, none], [], h) (RI K X)))) : Wp (d + 1) 307 (122, [some (vR l0), some (vI l1), none, some (vI l3), some (vI l4), none, none, none, none, none, none], [], h) (RI K X) := by
  refine wp_iload' (L' := [some (vR l0), some (vI l1), none, some (vI l3), some (vI l4), none, none, none, none, none, none]) rfl rfl rfl rfl ?_
  refine wp_aload rfl rfl rfl ?_
  obtain ⟨f0, F⟩ := F
  refine wp_getR rfl rfl rfl f0 rfl ?_
  refine wp_iload rfl rfl rfl ?_
  obtain ⟨i0, b9, F⟩ := F
  refine wp_iaload rfl b9 rfl ?_
  refine wp_icmp_gt rfl rfl rfl rfl rfl (fun c => ?_) (fun c => ?_)
  · replace F := F.1 c
    refine wp_const' (L' := [none, none, none, none, none, none, none, none, none, none, none]) rfl rfl rfl ?_
    exact wp_retI rfl (Or.inr rfl) F
  · replace F := F.2 c
    refine wp_const rfl rfl ?_
    refine wp_istore (L2 := [some (vR l0), some (vI l1), none, some (vI l3), some (vI l4), some (vI 0), none, none, none, none, none]) rfl rfl rfl rfl ?_
    exact F
theorem w307_136 {d : Nat} {l0 : Nat} {l1 : Int32} {l3 : Int32} {l4 : Int32} {l5 : Int32} {h : aH} {K : Int32 → aH → Prop} {X : Nat → aH → Prop} (F : gK h l0 = 14 ∧ ∃ i0 : Nat, inB h 100 (gR h l0 71) l1 i0 ∧ (((gI h (gR h l0 71) i0).toInt < l5.toInt → ∀ v0 : Int32, v0 = l4 + 1 → Wp (d + 1) 307 (122, [some (vR l0), some (vI l1), none, some (vI l3), some (vI v0), none, none, none, none, none, none], [], h) (RI K X)) ∧ (¬ (gI h (gR h l0 71) i0).toInt < l5.toInt → Wp (d + 1) 307 (156, [some (vR l0), some (vI l1), none, some (vI l3), some (vI l4), some (vI l5), some (vL 0), none, some (vL 0), none, some (vI 0)], [], h) (RI K X)))) : Wp (d + 1) 307 (136, [some (vR l0), some (vI l1), none, some (vI l3), some (vI l4), some (vI l5), none, none, none, none, none], [], h) (RI K X) := by
  refine wp_iload' (L' := [some (vR l0), some (vI l1), none, some (vI l3), some (vI l4), some (vI l5), none, none, none, none, none]) rfl rfl rfl rfl ?_
  refine wp_aload rfl rfl rfl ?_
  obtain ⟨f0, F⟩ := F
  refine wp_getR rfl rfl rfl f0 rfl ?_
  refine wp_iload rfl rfl rfl ?_
  obtain ⟨i0, b9, F⟩ := F
  refine wp_iaload rfl b9 rfl ?_
  refine wp_icmp_gt rfl rfl rfl rfl rfl (fun c => ?_) (fun c => ?_)
  · replace F := F.1 c
    refine wp_iinc' (L' := [some (vR l0), some (vI l1), none, some (vI l3), some (vI l4), none, none, none, none, none, none]) (y := 1) (L2 := [some (vR l0), some (vI l1), none, some (vI l3), some (vI (l4 + 1)), none, none, none, none, none, none]) rfl rfl rfl rfl rfl rfl ?_
    replace F := F _ rfl
    generalize (l4 + 1 : Int32) = v0 at F ⊢
    refine wp_goto rfl rfl ?_
    exact F
  · replace F := F.2 c
    refine wp_const rfl rfl ?_
    refine wp_lstore (L2 := [some (vR l0), some (vI l1), none, some (vI l3), some (vI l4), some (vI l5), some (vL 0), none, none, none, none]) rfl rfl rfl rfl ?_
    refine wp_const rfl rfl ?_
    refine wp_lstore (L2 := [some (vR l0), some (vI l1), none, some (vI l3), some (vI l4), some (vI l5), some (vL 0), none, some (vL 0), none, none]) rfl rfl rfl rfl ?_
    refine wp_const rfl rfl ?_
    refine wp_istore (L2 := [some (vR l0), some (vI l1), none, some (vI l3), some (vI l4), some (vI l5), some (vL 0), none, some (vL 0), none, some (vI 0)]) rfl rfl rfl rfl ?_
    exact F
theorem w307_156 {d : Nat} {l0 : Nat} {l1 : Int32} {l3 : Int32} {l4 : Int32} {l5 : Int32} {l6 : Int64} {l8 : Int64} {l10 : Int32} {h : aH} {K : Int32 → aH → Prop} {X : Nat → aH → Prop} (F : ((l10.toInt < l3.toInt → gK h l0 = 14 ∧ ∃ i0 : Nat, inB h 100 (gR h l0 70) l1 i0 ∧ ((l4.toInt = (gI h (gR h l0 70) i0).toInt → ∃ i1 : Nat, inB h 100 (gR h l0 71) l1 i1 ∧ ((l5.toInt = (gI h (gR h l0 71) i1).toInt → ∃ i2 : Nat, inB h 100 (gR h l0 72) ((12 * l1) + l10) i2 ∧ ∀ v0 : Int64, v0 = l6 + ((gI h (gR h l0 72) i2).toInt64) → ∃ i3 : Nat, inB h 100 (gR h l0 75) ((12 * l1) + l10) i3 ∧ ∀ v1 : Int64, v1 = l8 + ((gI h (gR h l0 75) i3).toInt64) → ∀ v2 : Int32, v2 = l10 + 1 → Wp (d + 1) 307 (156, [some (vR l0), some (vI l1), none, some (vI l3), some (vI l4), some (vI l5), some (vL v0), none, some (vL v1), none, some (vI v2)], [], h) (RI K X)) ∧ (¬ l5.toInt = (gI h (gR h l0 71) i1).toInt → ∃ i4 : Nat, inB h 100 (gR h l0 71) l1 i4 ∧ (¬ (gI h (gR h l0 71) i4) = 0) ∧ (((aIrem l10 (gI h (gR h l0 71) i4)).toInt = l5.toInt → ∃ i5 : Nat, inB h 100 (gR h l0 72) ((12 * l1) + l10) i5 ∧ ∀ v3 : Int64, v3 = l6 + ((gI h (gR h l0 72) i5).toInt64) → ∃ i6 : Nat, inB h 100 (gR h l0 75) ((12 * l1) + l10) i6 ∧ ∀ v4 : Int64, v4 = l8 + ((gI h (gR h l0 75) i6).toInt64) → ∀ v5 : Int32, v5 = l10 + 1 → Wp (d + 1) 307 (156, [some (vR l0), some (vI l1), none, some (vI l3), some (vI l4), some (vI l5), some (vL v3), none, some (vL v4), none, some (vI v5)], [], h) (RI K X)) ∧ (¬ (aIrem l10 (gI h (gR h l0 71) i4)).toInt = l5.toInt → ∀ v6 : Int32, v6 = l10 + 1 → Wp (d + 1) 307 (156, [some (vR l0), some (vI l1), none, some (vI l3), some (vI l4), some (vI l5), some (vL l6), none, some (vL l8), none, some (vI v6)], [], h) (RI K X)))))) ∧ (¬ l4.toInt = (gI h (gR h l0 70) i0).toInt → ∃ i7 : Nat, inB h 100 (gR h l0 71) l1 i7 ∧ (¬ (gI h (gR h l0 71) i7) = 0) ∧ (((l10 / (gI h (gR h l0 71) i7)).toInt = l4.toInt → ∃ i8 : Nat, inB h 100 (gR h l0 71) l1 i8 ∧ ((l5.toInt = (gI h (gR h l0 71) i8).toInt → ∃ i9 : Nat, inB h 100 (gR h l0 72) ((12 * l1) + l10) i9 ∧ ∀ v7 : Int64, v7 = l6 + ((gI h (gR h l0 72) i9).toInt64) → ∃ i10 : Nat, inB h 100 (gR h l0 75) ((12 * l1) + l10) i10 ∧ ∀ v8 : Int64, v8 = l8 + ((gI h (gR h l0 75) i10).toInt64) → ∀ v9 : Int32, v9 = l10 + 1 → Wp (d + 1) 307 (156, [some (vR l0), some (vI l1), none, some (vI l3), some (vI l4), some (vI l5), some (vL v7), none, some (vL v8), none, some (vI v9)], [], h) (RI K X)) ∧ (¬ l5.toInt = (gI h (gR h l0 71) i8).toInt → ∃ i11 : Nat, inB h 100 (gR h l0 71) l1 i11 ∧ (¬ (gI h (gR h l0 71) i11) = 0) ∧ (((aIrem l10 (gI h (gR h l0 71) i11)).toInt = l5.toInt → ∃ i12 : Nat, inB h 100 (gR h l0 72) ((12 * l1) + l10) i12 ∧ ∀ v10 : Int64, v10 = l6 + ((gI h (gR h l0 72) i12).toInt64) → ∃ i13 : Nat, inB h 100 (gR h l0 75) ((12 * l1) + l10) i13 ∧ ∀ v11 : Int64, v11 = l8 + ((gI h (gR h l0 75) i13).toInt64) → ∀ v12 : Int32, v12 = l10 + 1 → Wp (d + 1) 307 (156, [some (vR l0), some (vI l1), none, some (vI l3), some (vI l4), some (vI l5), some (vL v10), none, some (vL v11), none, some (vI v12)], [], h) (RI K X)) ∧ (¬ (aIrem l10 (gI h (gR h l0 71) i11)).toInt = l5.toInt → ∀ v13 : Int32, v13 = l10 + 1 → Wp (d + 1) 307 (156, [some (vR l0), some (vI l1), none, some (vI l3), some (vI l4), some (vI l5), some (vL l6), none, some (vL l8), none, some (vI v13)], [], h) (RI K X)))))) ∧ (¬ (l10 / (gI h (gR h l0 71) i7)).toInt = l4.toInt → ∀ v14 : Int32, v14 = l10 + 1 → Wp (d + 1) 307 (156, [some (vR l0), some (vI l1), none, some (vI l3), some (vI l4), some (vI l5), some (vL l6), none, some (vL l8), none, some (vI v14)], [], h) (RI K X)))))) ∧ (¬ l10.toInt < l3.toInt → 8 ≤ l0 ∧ gK h l0 = 14 ∧ CI d 306 [vR l0, vL l6, vL l8] h (fun y0 h0 => ((y0.toInt = 0 → K 0 h0) ∧ (¬ y0.toInt = 0 → ∀ v15 : Int32, v15 = l5 + 1 → Wp (d + 1) 307 (136, [some (vR l0), some (vI l1), none, some (vI l3), some (vI l4), some (vI v15), none, none, none, none, none], [], h0) (RI K X)))) X))) : Wp (d + 1) 307 (156, [some (vR l0), some (vI l1), none, some (vI l3), some (vI l4), some (vI l5), some (vL l6), none, some (vL l8), none, some (vI l10)], [], h) (RI K X) := by
  refine wp_iload' (L' := [some (vR l0), some (vI l1), none, some (vI l3), some (vI l4), some (vI l5), some (vL l6), none, some (vL l8), none, some (vI l10)]) rfl rfl rfl rfl ?_
  refine wp_iload rfl rfl rfl ?_
  refine wp_icmp_ge rfl rfl rfl rfl rfl (fun c => ?_) (fun c => ?_)
  · replace F := F.1 c
    refine wp_iload rfl rfl rfl ?_
    refine wp_aload rfl rfl rfl ?_
    obtain ⟨f0, F⟩ := F
    refine wp_getR rfl rfl rfl f0 rfl ?_
    refine wp_iload rfl rfl rfl ?_
    obtain ⟨i0, b9, F⟩ := F
    refine wp_iaload rfl b9 rfl ?_
    refine wp_icmp_eq rfl rfl rfl rfl rfl (fun c => ?_) (fun c => ?_)
    · replace F := F.1 c
      refine wp_iload' (L' := [some (vR l0), some (vI l1), none, some (vI l3), some (vI l4), some (vI l5), some (vL l6), none, some (vL l8), none, some (vI l10)]) rfl rfl rfl rfl ?_
      refine wp_aload rfl rfl rfl ?_
      refine wp_getR rfl rfl rfl f0 rfl ?_
      refine wp_iload rfl rfl rfl ?_
      obtain ⟨i1, b9, F⟩ := F
      refine wp_iaload rfl b9 rfl ?_
      refine wp_icmp_eq rfl rfl rfl rfl rfl (fun c => ?_) (fun c => ?_)
      · replace F := F.1 c
        refine wp_lload' (L' := [some (vR l0), some (vI l1), none, some (vI l3), some (vI l4), some (vI l5), some (vL l6), none, some (vL l8), none, some (vI l10)]) rfl rfl rfl rfl ?_
        refine wp_aload rfl rfl rfl ?_
        refine wp_getR rfl rfl rfl f0 rfl ?_
        refine wp_const rfl rfl ?_
        refine wp_iload rfl rfl rfl ?_
        refine wp_imul rfl rfl ?_
        refine wp_iload rfl rfl rfl ?_
        refine wp_iadd rfl rfl ?_
        obtain ⟨i2, b9, F⟩ := F
        refine wp_iaload rfl b9 rfl ?_
        refine wp_i2l rfl rfl ?_
        refine wp_ladd rfl rfl ?_
        replace F := F _ rfl
        generalize (l6 + ((gI h (gR h l0 72) i2).toInt64) : Int64) = v0 at F ⊢
        refine wp_lstore (L2 := [some (vR l0), some (vI l1), none, some (vI l3), some (vI l4), some (vI l5), some (vL v0), none, some (vL l8), none, some (vI l10)]) rfl rfl rfl rfl ?_
        refine wp_lload rfl rfl rfl ?_
        refine wp_aload rfl rfl rfl ?_
        refine wp_getR rfl rfl rfl f0 rfl ?_
        refine wp_const rfl rfl ?_
        refine wp_iload rfl rfl rfl ?_
        refine wp_imul rfl rfl ?_
        refine wp_iload rfl rfl rfl ?_
        refine wp_iadd rfl rfl ?_
        obtain ⟨i3, b9, F⟩ := F
        refine wp_iaload rfl b9 rfl ?_
        refine wp_i2l rfl rfl ?_
        refine wp_ladd rfl rfl ?_
        replace F := F _ rfl
        generalize (l8 + ((gI h (gR h l0 75) i3).toInt64) : Int64) = v1 at F ⊢
        refine wp_lstore (L2 := [some (vR l0), some (vI l1), none, some (vI l3), some (vI l4), some (vI l5), some (vL v0), none, some (vL v1), none, some (vI l10)]) rfl rfl rfl rfl ?_
        refine wp_iinc' (L' := [some (vR l0), some (vI l1), none, some (vI l3), some (vI l4), some (vI l5), some (vL v0), none, some (vL v1), none, some (vI l10)]) (y := 1) (L2 := [some (vR l0), some (vI l1), none, some (vI l3), some (vI l4), some (vI l5), some (vL v0), none, some (vL v1), none, some (vI (l10 + 1))]) rfl rfl rfl rfl rfl rfl ?_
        replace F := F _ rfl
        generalize (l10 + 1 : Int32) = v2 at F ⊢
        refine wp_goto rfl rfl ?_
        exact F
      · replace F := F.2 c
        refine wp_iload rfl rfl rfl ?_
        refine wp_aload rfl rfl rfl ?_
        refine wp_getR rfl rfl rfl f0 rfl ?_
        refine wp_iload rfl rfl rfl ?_
        obtain ⟨i4, b9, F⟩ := F
        refine wp_iaload rfl b9 rfl ?_
        refine wp_irem rfl F.1 rfl ?_
        replace F := F.2
        refine wp_iload rfl rfl rfl ?_
        refine wp_icmp_ne rfl rfl rfl rfl rfl (fun c => ?_) (fun c => ?_)
        · replace F := F.1 c
          refine wp_lload' (L' := [some (vR l0), some (vI l1), none, some (vI l3), some (vI l4), some (vI l5), some (vL l6), none, some (vL l8), none, some (vI l10)]) rfl rfl rfl rfl ?_
          refine wp_aload rfl rfl rfl ?_
          refine wp_getR rfl rfl rfl f0 rfl ?_
          refine wp_const rfl rfl ?_
          refine wp_iload rfl rfl rfl ?_
          refine wp_imul rfl rfl ?_
          refine wp_iload rfl rfl rfl ?_
          refine wp_iadd rfl rfl ?_
          obtain ⟨i5, b9, F⟩ := F
          refine wp_iaload rfl b9 rfl ?_
          refine wp_i2l rfl rfl ?_
          refine wp_ladd rfl rfl ?_
          replace F := F _ rfl
          generalize (l6 + ((gI h (gR h l0 72) i5).toInt64) : Int64) = v3 at F ⊢
          refine wp_lstore (L2 := [some (vR l0), some (vI l1), none, some (vI l3), some (vI l4), some (vI l5), some (vL v3), none, some (vL l8), none, some (vI l10)]) rfl rfl rfl rfl ?_
          refine wp_lload rfl rfl rfl ?_
          refine wp_aload rfl rfl rfl ?_
          refine wp_getR rfl rfl rfl f0 rfl ?_
          refine wp_const rfl rfl ?_
          refine wp_iload rfl rfl rfl ?_
          refine wp_imul rfl rfl ?_
          refine wp_iload rfl rfl rfl ?_
          refine wp_iadd rfl rfl ?_
          obtain ⟨i6, b9, F⟩ := F
          refine wp_iaload rfl b9 rfl ?_
          refine wp_i2l rfl rfl ?_
          refine wp_ladd rfl rfl ?_
          replace F := F _ rfl
          generalize (l8 + ((gI h (gR h l0 75) i6).toInt64) : Int64) = v4 at F ⊢
          refine wp_lstore (L2 := [some (vR l0), some (vI l1), none, some (vI l3), some (vI l4), some (vI l5), some (vL v3), none, some (vL v4), none, some (vI l10)]) rfl rfl rfl rfl ?_
          refine wp_iinc' (L' := [some (vR l0), some (vI l1), none, some (vI l3), some (vI l4), some (vI l5), some (vL v3), none, some (vL v4), none, some (vI l10)]) (y := 1) (L2 := [some (vR l0), some (vI l1), none, some (vI l3), some (vI l4), some (vI l5), some (vL v3), none, some (vL v4), none, some (vI (l10 + 1))]) rfl rfl rfl rfl rfl rfl ?_
          replace F := F _ rfl
          generalize (l10 + 1 : Int32) = v5 at F ⊢
          refine wp_goto rfl rfl ?_
          exact F
        · replace F := F.2 c
          refine wp_iinc' (L' := [some (vR l0), some (vI l1), none, some (vI l3), some (vI l4), some (vI l5), some (vL l6), none, some (vL l8), none, some (vI l10)]) (y := 1) (L2 := [some (vR l0), some (vI l1), none, some (vI l3), some (vI l4), some (vI l5), some (vL l6), none, some (vL l8), none, some (vI (l10 + 1))]) rfl rfl rfl rfl rfl rfl ?_
          replace F := F _ rfl
          generalize (l10 + 1 : Int32) = v6 at F ⊢
          refine wp_goto rfl rfl ?_
          exact F
    · replace F := F.2 c
      refine wp_iload rfl rfl rfl ?_
      refine wp_aload rfl rfl rfl ?_
      refine wp_getR rfl rfl rfl f0 rfl ?_
      refine wp_iload rfl rfl rfl ?_
      obtain ⟨i7, b9, F⟩ := F
      refine wp_iaload rfl b9 rfl ?_
      refine wp_idiv rfl F.1 rfl ?_
      replace F := F.2
      refine wp_iload rfl rfl rfl ?_
      refine wp_icmp_ne rfl rfl rfl rfl rfl (fun c => ?_) (fun c => ?_)
      · replace F := F.1 c
        refine wp_iload' (L' := [some (vR l0), some (vI l1), none, some (vI l3), some (vI l4), some (vI l5), some (vL l6), none, some (vL l8), none, some (vI l10)]) rfl rfl rfl rfl ?_
        refine wp_aload rfl rfl rfl ?_
        refine wp_getR rfl rfl rfl f0 rfl ?_
        refine wp_iload rfl rfl rfl ?_
        obtain ⟨i8, b9, F⟩ := F
        refine wp_iaload rfl b9 rfl ?_
        refine wp_icmp_eq rfl rfl rfl rfl rfl (fun c => ?_) (fun c => ?_)
        · replace F := F.1 c
          refine wp_lload' (L' := [some (vR l0), some (vI l1), none, some (vI l3), some (vI l4), some (vI l5), some (vL l6), none, some (vL l8), none, some (vI l10)]) rfl rfl rfl rfl ?_
          refine wp_aload rfl rfl rfl ?_
          refine wp_getR rfl rfl rfl f0 rfl ?_
          refine wp_const rfl rfl ?_
          refine wp_iload rfl rfl rfl ?_
          refine wp_imul rfl rfl ?_
          refine wp_iload rfl rfl rfl ?_
          refine wp_iadd rfl rfl ?_
          obtain ⟨i9, b9, F⟩ := F
          refine wp_iaload rfl b9 rfl ?_
          refine wp_i2l rfl rfl ?_
          refine wp_ladd rfl rfl ?_
          replace F := F _ rfl
          generalize (l6 + ((gI h (gR h l0 72) i9).toInt64) : Int64) = v7 at F ⊢
          refine wp_lstore (L2 := [some (vR l0), some (vI l1), none, some (vI l3), some (vI l4), some (vI l5), some (vL v7), none, some (vL l8), none, some (vI l10)]) rfl rfl rfl rfl ?_
          refine wp_lload rfl rfl rfl ?_
          refine wp_aload rfl rfl rfl ?_
          refine wp_getR rfl rfl rfl f0 rfl ?_
          refine wp_const rfl rfl ?_
          refine wp_iload rfl rfl rfl ?_
          refine wp_imul rfl rfl ?_
          refine wp_iload rfl rfl rfl ?_
          refine wp_iadd rfl rfl ?_
          obtain ⟨i10, b9, F⟩ := F
          refine wp_iaload rfl b9 rfl ?_
          refine wp_i2l rfl rfl ?_
          refine wp_ladd rfl rfl ?_
          replace F := F _ rfl
          generalize (l8 + ((gI h (gR h l0 75) i10).toInt64) : Int64) = v8 at F ⊢
          refine wp_lstore (L2 := [some (vR l0), some (vI l1), none, some (vI l3), some (vI l4), some (vI l5), some (vL v7), none, some (vL v8), none, some (vI l10)]) rfl rfl rfl rfl ?_
          refine wp_iinc' (L' := [some (vR l0), some (vI l1), none, some (vI l3), some (vI l4), some (vI l5), some (vL v7), none, some (vL v8), none, some (vI l10)]) (y := 1) (L2 := [some (vR l0), some (vI l1), none, some (vI l3), some (vI l4), some (vI l5), some (vL v7), none, some (vL v8), none, some (vI (l10 + 1))]) rfl rfl rfl rfl rfl rfl ?_
          replace F := F _ rfl
          generalize (l10 + 1 : Int32) = v9 at F ⊢
          refine wp_goto rfl rfl ?_
          exact F
        · replace F := F.2 c
          refine wp_iload rfl rfl rfl ?_
          refine wp_aload rfl rfl rfl ?_
          refine wp_getR rfl rfl rfl f0 rfl ?_
          refine wp_iload rfl rfl rfl ?_
          obtain ⟨i11, b9, F⟩ := F
          refine wp_iaload rfl b9 rfl ?_
          refine wp_irem rfl F.1 rfl ?_
          replace F := F.2
          refine wp_iload rfl rfl rfl ?_
          refine wp_icmp_ne rfl rfl rfl rfl rfl (fun c => ?_) (fun c => ?_)
          · replace F := F.1 c
            refine wp_lload' (L' := [some (vR l0), some (vI l1), none, some (vI l3), some (vI l4), some (vI l5), some (vL l6), none, some (vL l8), none, some (vI l10)]) rfl rfl rfl rfl ?_
            refine wp_aload rfl rfl rfl ?_
            refine wp_getR rfl rfl rfl f0 rfl ?_
            refine wp_const rfl rfl ?_
            refine wp_iload rfl rfl rfl ?_
            refine wp_imul rfl rfl ?_
            refine wp_iload rfl rfl rfl ?_
            refine wp_iadd rfl rfl ?_
            obtain ⟨i12, b9, F⟩ := F
            refine wp_iaload rfl b9 rfl ?_
            refine wp_i2l rfl rfl ?_
            refine wp_ladd rfl rfl ?_
            replace F := F _ rfl
            generalize (l6 + ((gI h (gR h l0 72) i12).toInt64) : Int64) = v10 at F ⊢
            refine wp_lstore (L2 := [some (vR l0), some (vI l1), none, some (vI l3), some (vI l4), some (vI l5), some (vL v10), none, some (vL l8), none, some (vI l10)]) rfl rfl rfl rfl ?_
            refine wp_lload rfl rfl rfl ?_
            refine wp_aload rfl rfl rfl ?_
            refine wp_getR rfl rfl rfl f0 rfl ?_
            refine wp_const rfl rfl ?_
            refine wp_iload rfl rfl rfl ?_
            refine wp_imul rfl rfl ?_
            refine wp_iload rfl rfl rfl ?_
            refine wp_iadd rfl rfl ?_
            obtain ⟨i13, b9, F⟩ := F
            refine wp_iaload rfl b9 rfl ?_
            refine wp_i2l rfl rfl ?_
            refine wp_ladd rfl rfl ?_
            replace F := F _ rfl
            generalize (l8 + ((gI h (gR h l0 75) i13).toInt64) : Int64) = v11 at F ⊢
            refine wp_lstore (L2 := [some (vR l0), some (vI l1), none, some (vI l3), some (vI l4), some (vI l5), some (vL v10), none, some (vL v11), none, some (vI l10)]) rfl rfl rfl rfl ?_
            refine wp_iinc' (L' := [some (vR l0), some (vI l1), none, some (vI l3), some (vI l4), some (vI l5), some (vL v10), none, some (vL v11), none, some (vI l10)]) (y := 1) (L2 := [some (vR l0), some (vI l1), none, some (vI l3), some (vI l4), some (vI l5), some (vL v10), none, some (vL v11), none, some (vI (l10 + 1))]) rfl rfl rfl rfl rfl rfl ?_
            replace F := F _ rfl
            generalize (l10 + 1 : Int32) = v12 at F ⊢
            refine wp_goto rfl rfl ?_
            exact F
          · replace F := F.2 c
            refine wp_iinc' (L' := [some (vR l0), some (vI l1), none, some (vI l3), some (vI l4), some (vI l5), some (vL l6), none, some (vL l8), none, some (vI l10)]) (y := 1) (L2 := [some (vR l0), some (vI l1), none, some (vI l3), some (vI l4), some (vI l5), some (vL l6), none, some (vL l8), none, some (vI (l10 + 1))]) rfl rfl rfl rfl rfl rfl ?_
            replace F := F _ rfl
            generalize (l10 + 1 : Int32) = v13 at F ⊢
            refine wp_goto rfl rfl ?_
            exact F
      · replace F := F.2 c
        refine wp_iinc' (L' := [some (vR l0), some (vI l1), none, some (vI l3), some (vI l4), some (vI l5), some (vL l6), none, some (vL l8), none, some (vI l10)]) (y := 1) (L2 := [some (vR l0), some (vI l1), none, some (vI l3), some (vI l4), some (vI l5), some (vL l6), none, some (vL l8), none, some (vI (l10 + 1))]) rfl rfl rfl rfl rfl rfl ?_
        replace F := F _ rfl
        generalize (l10 + 1 : Int32) = v14 at F ⊢
        refine wp_goto rfl rfl ?_
        exact F
  · replace F := F.2 c
    refine wp_aload' (L' := [some (vR l0), some (vI l1), none, some (vI l3), some (vI l4), some (vI l5), some (vL l6), none, some (vL l8), none, none]) rfl rfl rfl rfl ?_
    refine wp_lload rfl rfl rfl ?_
    refine wp_lload rfl rfl rfl ?_
    obtain ⟨f1, F⟩ := F
    obtain ⟨f2, F⟩ := F
    refine wp_callI rfl rfl rfl (rcv_v f1 f2 (by decide) (by decide)) rfl rfl rfl rfl ?_
    refine CI.mono F (fun y0 h0 F => ?_) (fun _ _ w => rx_I w)
    refine wp_if_ne rfl rfl rfl rfl (fun c => ?_) (fun c => ?_)
    · replace F := F.1 c
      refine wp_const rfl rfl ?_
      exact wp_retI rfl (Or.inr rfl) F
    · replace F := F.2 c
      refine wp_iinc' (L' := [some (vR l0), some (vI l1), none, some (vI l3), some (vI l4), some (vI l5), none, none, none, none, none]) (y := 1) (L2 := [some (vR l0), some (vI l1), none, some (vI l3), some (vI l4), some (vI (l5 + 1)), none, none, none, none, none]) rfl rfl rfl rfl rfl rfl ?_
      replace F := F _ rfl
      generalize (l5 + 1 : Int32) = v15 at F ⊢
      refine wp_goto rfl rfl ?_
      exact F
-- CensusOfficeModel round (II)I
theorem m308 {d : Nat} {a0 : Nat} {a1 : Int32} {a2 : Int32} {h : aH} {K : Int32 → aH → Prop} {X : Nat → aH → Prop} (F : 8 ≤ a0 ∧ gK h a0 = 14 ∧ ∀ h0 : aH, h0 = pI h a0 0 0 → CI d 274 [vR a0, vI a1] h0 (fun y0 h1 => ((y0.toInt = 0 → gK h1 a0 = 14 ∧ CI d 15 [vR a0, vI 1] h1 (fun y1 h2 => K y1 h2) X) ∧ (¬ y0.toInt = 0 → CI d 14 [vL (a2.toInt64), vL 1, vL 1000] h1 (fun y2 h3 => ((y2.toInt = 0 → gK h3 a0 = 14 ∧ CI d 15 [vR a0, vI 2] h3 (fun y3 h4 => K y3 h4) X) ∧ (¬ y2.toInt = 0 → gK h3 a0 = 14 ∧ ∀ h5 : aH, h5 = pI h3 a0 79 a2 → Wp (d + 1) 308 (44, [some (vR a0), some (vI a1), none, some (vI 0), none, none], [], h5) (RI K X)))) X))) X) : CI (d + 1) 308 [vR a0, vI a1, vI a2] h K X := by
  show Wp (d + 1) 308 (0, [some (vR a0), some (vI a1), some (vI a2), none, none, none], [], h) (RI K X)
  refine wp_aload rfl rfl rfl ?_
  refine wp_const rfl rfl ?_
  obtain ⟨f0, F⟩ := F
  obtain ⟨f1, F⟩ := F
  refine wp_putI rfl rfl rfl f0 f1 rfl ?_
  have f2 : gK (pI h a0 0 0) a0 = 14 := (gK_pI _ _ _ _ _).trans f1
  replace F := F _ rfl
  generalize pI h a0 0 0 = h0 at F f2 ⊢
  refine wp_aload rfl rfl rfl ?_
  refine wp_iload rfl rfl rfl ?_
  refine wp_callI rfl rfl rfl (rcv_v f0 f2 (by decide) (by decide)) rfl rfl rfl rfl ?_
  refine CI.mono F (fun y0 h1 F => ?_) (fun _ _ w => rx_I w)
  refine wp_if_ne rfl rfl rfl rfl (fun c => ?_) (fun c => ?_)
  · replace F := F.1 c
    refine wp_aload rfl rfl rfl ?_
    refine wp_const rfl rfl ?_
    obtain ⟨f3, F⟩ := F
    refine wp_callI rfl rfl rfl (rcv_v f0 f3 (by decide) (by decide)) rfl rfl rfl rfl ?_
    refine CI.mono F (fun y1 h2 F => ?_) (fun _ _ w => rx_I w)
    exact wp_retI rfl (Or.inl rfl) F
  · replace F := F.2 c
    refine wp_iload' (L' := [some (vR a0), some (vI a1), some (vI a2), none, none, none]) rfl rfl rfl rfl ?_
    refine wp_i2l rfl rfl ?_
    refine wp_const rfl rfl ?_
    refine wp_const rfl rfl ?_
    refine wp_callI rfl rfl rfl rfl rfl rfl rfl rfl ?_
    refine CI.mono F (fun y2 h3 F => ?_) (fun _ _ w => rx_I w)
    refine wp_if_ne rfl rfl rfl rfl (fun c => ?_) (fun c => ?_)
    · replace F := F.1 c
      refine wp_aload rfl rfl rfl ?_
      refine wp_const rfl rfl ?_
      obtain ⟨f4, F⟩ := F
      refine wp_callI rfl rfl rfl (rcv_v f0 f4 (by decide) (by decide)) rfl rfl rfl rfl ?_
      refine CI.mono F (fun y3 h4 F => ?_) (fun _ _ w => rx_I w)
      exact wp_retI rfl (Or.inl rfl) F
    · replace F := F.2 c
      refine wp_aload' (L' := [some (vR a0), some (vI a1), some (vI a2), none, none, none]) rfl rfl rfl rfl ?_
      refine wp_iload rfl rfl rfl ?_
      obtain ⟨f5, F⟩ := F
      refine wp_putI rfl rfl rfl f0 f5 rfl ?_
      have f6 : gK (pI h3 a0 79 a2) a0 = 14 := (gK_pI _ _ _ _ _).trans f5
      replace F := F _ rfl
      generalize pI h3 a0 79 a2 = h5 at F f6 ⊢
      refine wp_const rfl rfl ?_
      refine wp_istore (L2 := [some (vR a0), some (vI a1), some (vI a2), some (vI 0), none, none]) rfl rfl rfl rfl ?_
      refine wp_kill (L' := [some (vR a0), some (vI a1), none, some (vI 0), none, none]) rfl rfl ?_
      exact F
theorem w308_44 {d : Nat} {l0 : Nat} {l1 : Int32} {l3 : Int32} {h : aH} {K : Int32 → aH → Prop} {X : Nat → aH → Prop} (F : 8 ≤ l0 ∧ gK h l0 = 14 ∧ CI d 307 [vR l0, vI l1, vI l3] h (fun y0 h0 => ((y0.toInt = 0 → ∀ v0 : Int32, v0 = l3 + 1 → Wp (d + 1) 308 (44, [some (vR l0), some (vI l1), none, some (vI v0), none, none], [], h0) (RI K X)) ∧ (¬ y0.toInt = 0 → gK h0 l0 = 14 ∧ 8 ≤ (gR h0 l0 76) ∧ ∃ i0 : Nat, inB h0 102 (gR h0 l0 76) l1 i0 ∧ ∀ h1 : aH, h1 = pI h0 (gR h0 l0 76) i0 (1 &&& 1) → Wp (d + 1) 308 (72, [some (vR l0), some (vI l1), none, none, some (vI 0), some (vI 0)], [], h1) (RI K X)))) X) : Wp (d + 1) 308 (44, [some (vR l0), some (vI l1), none, some (vI l3), none, none], [], h) (RI K X) := by
  refine wp_aload' (L' := [some (vR l0), some (vI l1), none, some (vI l3), none, none]) rfl rfl rfl rfl ?_
  refine wp_iload rfl rfl rfl ?_
  refine wp_iload rfl rfl rfl ?_
  obtain ⟨f0, F⟩ := F
  obtain ⟨f1, F⟩ := F
  refine wp_callI rfl rfl rfl (rcv_v f0 f1 (by decide) (by decide)) rfl rfl rfl rfl ?_
  refine CI.mono F (fun y0 h0 F => ?_) (fun _ _ w => rx_I w)
  refine wp_if_ne rfl rfl rfl rfl (fun c => ?_) (fun c => ?_)
  · replace F := F.1 c
    refine wp_iinc (y := 1) (L2 := [some (vR l0), some (vI l1), none, some (vI (l3 + 1)), none, none]) rfl rfl rfl rfl rfl ?_
    replace F := F _ rfl
    generalize (l3 + 1 : Int32) = v0 at F ⊢
    refine wp_goto rfl rfl ?_
    exact F
  · replace F := F.2 c
    refine wp_aload' (L' := [some (vR l0), some (vI l1), none, none, none, none]) rfl rfl rfl rfl ?_
    obtain ⟨f2, F⟩ := F
    refine wp_getR rfl rfl rfl f2 rfl ?_
    refine wp_iload rfl rfl rfl ?_
    refine wp_const rfl rfl ?_
    obtain ⟨f3, F⟩ := F
    obtain ⟨i0, b9, F⟩ := F
    refine wp_zastore rfl f3 b9 rfl ?_
    have f4 : gK (pI h0 (gR h0 l0 76) i0 (1 &&& 1)) l0 = 14 := (gK_pI _ _ _ _ _).trans f2
    replace F := F _ rfl
    generalize pI h0 (gR h0 l0 76) i0 (1 &&& 1) = h1 at F f4 ⊢
    refine wp_const rfl rfl ?_
    refine wp_istore (L2 := [some (vR l0), some (vI l1), none, none, some (vI 0), none]) rfl rfl rfl rfl ?_
    refine wp_const rfl rfl ?_
    refine wp_istore (L2 := [some (vR l0), some (vI l1), none, none, some (vI 0), some (vI 0)]) rfl rfl rfl rfl ?_
    exact F
theorem w308_72 {d : Nat} {l0 : Nat} {l1 : Int32} {l4 : Int32} {l5 : Int32} {h : aH} {K : Int32 → aH → Prop} {X : Nat → aH → Prop} (F : gK h l0 = 14 ∧ ∃ i0 : Nat, inB h 100 (gR h l0 70) l1 i0 ∧ ∃ i1 : Nat, inB h 100 (gR h l0 71) l1 i1 ∧ ((l5.toInt < ((gI h (gR h l0 70) i0) * (gI h (gR h l0 71) i1)).toInt → ∃ i2 : Nat, inB h 100 (gR h l0 75) ((12 * l1) + l5) i2 ∧ ∃ i3 : Nat, inB h 100 (gR h l0 72) ((12 * l1) + l5) i3 ∧ (((gI h (gR h l0 72) i3).toInt < (gI h (gR h l0 75) i2).toInt → ∀ v0 : Int32, v0 = l4 + 1 → ∀ v1 : Int32, v1 = l5 + 1 → Wp (d + 1) 308 (72, [some (vR l0), some (vI l1), none, none, some (vI v0), some (vI v1)], [], h) (RI K X)) ∧ (¬ (gI h (gR h l0 72) i3).toInt < (gI h (gR h l0 75) i2).toInt → ∀ v2 : Int32, v2 = l4 + 0 → ∀ v3 : Int32, v3 = l5 + 1 → Wp (d + 1) 308 (72, [some (vR l0), some (vI l1), none, none, some (vI v2), some (vI v3)], [], h) (RI K X)))) ∧ (¬ l5.toInt < ((gI h (gR h l0 70) i0) * (gI h (gR h l0 71) i1)).toInt → K l4 h))) : Wp (d + 1) 308 (72, [some (vR l0), some (vI l1), none, none, some (vI l4), some (vI l5)], [], h) (RI K X) := by
  refine wp_iload' (L' := [some (vR l0), some (vI l1), none, none, some (vI l4), some (vI l5)]) rfl rfl rfl rfl ?_
  refine wp_aload rfl rfl rfl ?_
  obtain ⟨f0, F⟩ := F
  refine wp_getR rfl rfl rfl f0 rfl ?_
  refine wp_iload rfl rfl rfl ?_
  obtain ⟨i0, b9, F⟩ := F
  refine wp_iaload rfl b9 rfl ?_
  refine wp_aload rfl rfl rfl ?_
  refine wp_getR rfl rfl rfl f0 rfl ?_
  refine wp_iload rfl rfl rfl ?_
  obtain ⟨i1, b9, F⟩ := F
  refine wp_iaload rfl b9 rfl ?_
  refine wp_imul rfl rfl ?_
  refine wp_icmp_ge rfl rfl rfl rfl rfl (fun c => ?_) (fun c => ?_)
  · replace F := F.1 c
    refine wp_iload rfl rfl rfl ?_
    refine wp_aload rfl rfl rfl ?_
    refine wp_getR rfl rfl rfl f0 rfl ?_
    refine wp_const rfl rfl ?_
    refine wp_iload rfl rfl rfl ?_
    refine wp_imul rfl rfl ?_
    refine wp_iload rfl rfl rfl ?_
    refine wp_iadd rfl rfl ?_
    obtain ⟨i2, b9, F⟩ := F
    refine wp_iaload rfl b9 rfl ?_
    refine wp_aload rfl rfl rfl ?_
    refine wp_getR rfl rfl rfl f0 rfl ?_
    refine wp_const rfl rfl ?_
    refine wp_iload rfl rfl rfl ?_
    refine wp_imul rfl rfl ?_
    refine wp_iload rfl rfl rfl ?_
    refine wp_iadd rfl rfl ?_
    obtain ⟨i3, b9, F⟩ := F
    refine wp_iaload rfl b9 rfl ?_
    refine wp_icmp_le rfl rfl rfl rfl rfl (fun c => ?_) (fun c => ?_)
    · replace F := F.1 c
      refine wp_const rfl rfl ?_
      refine wp_goto rfl rfl ?_
      refine wp_iadd' (L' := [some (vR l0), some (vI l1), none, none, none, some (vI l5)]) rfl rfl rfl ?_
      replace F := F _ rfl
      generalize (l4 + 1 : Int32) = v0 at F ⊢
      refine wp_istore (L2 := [some (vR l0), some (vI l1), none, none, some (vI v0), some (vI l5)]) rfl rfl rfl rfl ?_
      refine wp_iinc (y := 1) (L2 := [some (vR l0), some (vI l1), none, none, some (vI v0), some (vI (l5 + 1))]) rfl rfl rfl rfl rfl ?_
      replace F := F _ rfl
      generalize (l5 + 1 : Int32) = v1 at F ⊢
      refine wp_goto rfl rfl ?_
      exact F
    · replace F := F.2 c
      refine wp_const' (L' := [some (vR l0), some (vI l1), none, none, none, some (vI l5)]) rfl rfl rfl ?_
      refine wp_iadd' (L' := [some (vR l0), some (vI l1), none, none, none, some (vI l5)]) rfl rfl rfl ?_
      replace F := F _ rfl
      generalize (l4 + 0 : Int32) = v2 at F ⊢
      refine wp_istore (L2 := [some (vR l0), some (vI l1), none, none, some (vI v2), some (vI l5)]) rfl rfl rfl rfl ?_
      refine wp_iinc (y := 1) (L2 := [some (vR l0), some (vI l1), none, none, some (vI v2), some (vI (l5 + 1))]) rfl rfl rfl rfl rfl ?_
      replace F := F _ rfl
      generalize (l5 + 1 : Int32) = v3 at F ⊢
      refine wp_goto rfl rfl ?_
      exact F
  · replace F := F.2 c
    refine wp_iload' (L' := [none, none, none, none, some (vI l4), none]) rfl rfl rfl rfl ?_
    exact wp_retI rfl (Or.inl rfl) F
-- CensusOffice person (I)I
theorem m309 {d : Nat} {a0 : Nat} {a1 : Int32} {h : aH} {K : Int32 → aH → Prop} {X : Nat → aH → Prop} (F : ((a1.toInt < 0 → X 1 (gNew h 200 6)) ∧ (¬ a1.toInt < 0 → ((7 < a1.toInt → X 1 (gNew h 200 6)) ∧ (¬ 7 < a1.toInt → gK h a0 = 1 ∧ 8 ≤ (gR h a0 10) ∧ gK h (gR h a0 10) = 8 ∧ CI d 18 [vR (gR h a0 10)] h (fun y0 h0 => ((y0.toInt = 0 → gK h0 a0 = 1 ∧ 8 ≤ (gR h0 a0 10) ∧ gK h0 (gR h0 a0 10) = 8 ∧ CI d 21 [vR (gR h0 a0 10)] h0 (fun y1 h1 => gK h1 a0 = 1 ∧ 8 ≤ (gR h1 a0 10) ∧ gK h1 (gR h1 a0 10) = 8 ∧ CV d 23 [vR (gR h1 a0 10), vI y1, vI 0, vI a1] h1 (fun h2 => K y1 h2) X) X) ∧ (¬ y0.toInt = 0 → X 4 (gNew h0 200 6)))) X))))) : CI (d + 1) 309 [vR a0, vI a1] h K X := by
  show Wp (d + 1) 309 (0, [some (vR a0), some (vI a1), none], [], h) (RI K X)
  refine wp_iload rfl rfl rfl ?_
  refine wp_if_lt rfl rfl rfl rfl (fun c => ?_) (fun c => ?_)
  · replace F := F.1 c
    exact wp_thrI rfl F
  · replace F := F.2 c
    refine wp_iload rfl rfl rfl ?_
    refine wp_const rfl rfl ?_
    refine wp_icmp_le (Y := 7) rfl rfl rfl rfl rfl (fun c => ?_) (fun c => ?_)
    · replace F := F.1 c
      exact wp_thrI rfl F
    · replace F := F.2 c
      refine wp_aload' (L' := [some (vR a0), some (vI a1), none]) rfl rfl rfl rfl ?_
      obtain ⟨f0, F⟩ := F
      refine wp_getR rfl rfl rfl f0 rfl ?_
      obtain ⟨f1, F⟩ := F
      obtain ⟨f2, F⟩ := F
      refine wp_callI rfl rfl rfl (rcv_v f1 f2 (by decide) (by decide)) rfl rfl rfl rfl ?_
      refine CI.mono F (fun y0 h0 F => ?_) (fun _ _ w => rx_I w)
      refine wp_if_eq rfl rfl rfl rfl (fun c => ?_) (fun c => ?_)
      · replace F := F.1 c
        refine wp_aload' (L' := [some (vR a0), some (vI a1), none]) rfl rfl rfl rfl ?_
        obtain ⟨f3, F⟩ := F
        refine wp_getR rfl rfl rfl f3 rfl ?_
        obtain ⟨f4, F⟩ := F
        obtain ⟨f5, F⟩ := F
        refine wp_callI rfl rfl rfl (rcv_v f4 f5 (by decide) (by decide)) rfl rfl rfl rfl ?_
        refine CI.mono F (fun y1 h1 F => ?_) (fun _ _ w => rx_I w)
        refine wp_istore (L2 := [some (vR a0), some (vI a1), some (vI y1)]) rfl rfl rfl rfl ?_
        refine wp_aload rfl rfl rfl ?_
        obtain ⟨f6, F⟩ := F
        refine wp_getR rfl rfl rfl f6 rfl ?_
        refine wp_iload rfl rfl rfl ?_
        refine wp_const rfl rfl ?_
        refine wp_iload rfl rfl rfl ?_
        obtain ⟨f7, F⟩ := F
        obtain ⟨f8, F⟩ := F
        refine wp_callV rfl rfl rfl (rcv_v f7 f8 (by decide) (by decide)) rfl rfl rfl rfl ?_
        refine CV.mono F (fun h2 F => ?_) (fun _ _ w => rx_I w)
        refine wp_iload rfl rfl rfl ?_
        exact wp_retI rfl (Or.inl rfl) F
      · replace F := F.2 c
        exact wp_thrI rfl F
-- CensusOfficeLaw person (LCensusOffice;I[J)I
theorem m310 {d : Nat} {a0 : Nat} {a1 : Int32} {a2 : Nat} {h : aH} {K : Int32 → aH → Prop} {X : Nat → aH → Prop} (F : 8 ≤ a0 ∧ gK h a0 = 1 ∧ CI d 309 [vR a0, vI a1] h (fun y0 h0 => 8 ≤ a2 ∧ inB h0 101 a2 0 0 ∧ ∀ h1 : aH, h1 = pJ h0 a2 0 (y0.toInt64) → K 0 h1) (fun x9 h9 => (x9 = 1 ∧ K 1 h9) ∨ (x9 = 4 ∧ K 2 h9))) : CI (d + 1) 310 [vR a0, vI a1, vR a2] h K X := by
  show Wp (d + 1) 310 (0, [some (vR a0), some (vI a1), some (vR a2), none], [], h) (RI K X)
  refine wp_aload rfl rfl rfl ?_
  refine wp_const rfl rfl ?_
  refine wp_aload rfl rfl rfl ?_
  refine wp_iload rfl rfl rfl ?_
  obtain ⟨f0, F⟩ := F
  obtain ⟨f1, F⟩ := F
  refine wp_callhI (X := (fun x9 h9 => (x9 = 1 ∧ K 1 h9) ∨ (x9 = 4 ∧ K 2 h9))) rfl rfl rfl (rcv_v f0 f1 (by decide) (by decide)) rfl rfl rfl (fun x9 h9 F => ?_) ?_
  · rcases F with ⟨rfl, F⟩ | ⟨rfl, F⟩
    · refine ⟨12, rfl, ?_⟩
      refine wp_astoreJ' (L' := [none, none, none, none]) (L2 := [none, none, none, some vJ]) rfl rfl rfl rfl rfl ?_
      refine wp_const rfl rfl ?_
      exact wp_retI rfl (Or.inl rfl) F
    · refine ⟨15, rfl, ?_⟩
      refine wp_astoreJ' (L' := [none, none, none, none]) (L2 := [none, none, none, some vJ]) rfl rfl rfl rfl rfl ?_
      refine wp_const rfl rfl ?_
      exact wp_retI rfl (Or.inl rfl) F
  · refine CI.mono F (fun y0 h0 F => ?_) (fun _ _ w => w)
    refine wp_i2l rfl rfl ?_
    obtain ⟨f2, F⟩ := F
    obtain ⟨b9, F⟩ := F
    refine wp_lastore rfl f2 b9 rfl ?_
    replace F := F _ rfl
    generalize pJ h0 a2 0 (y0.toInt64) = h1 at F ⊢
    refine wp_goto rfl rfl ?_
    refine wp_const' (L' := [none, none, none, none]) rfl rfl rfl ?_
    exact wp_retI rfl (Or.inl rfl) F
-- CensusOfficeModel person (I)I
theorem m311 {d : Nat} {a0 : Nat} {a1 : Int32} {h : aH} {K : Int32 → aH → Prop} {X : Nat → aH → Prop} (F : 8 ≤ a0 ∧ gK h a0 = 14 ∧ ∀ h0 : aH, h0 = pI h a0 0 0 → CI d 14 [vL (a1.toInt64), vL 0, vL 7] h0 (fun y0 h1 => ((y0.toInt = 0 → gK h1 a0 = 14 ∧ CI d 15 [vR a0, vI 1] h1 (fun y1 h2 => K y1 h2) X) ∧ (¬ y0.toInt = 0 → gK h1 a0 = 14 ∧ (((gI h1 a0 80).toInt = 12 → CI d 15 [vR a0, vI 2] h1 (fun y2 h3 => K y2 h3) X) ∧ (¬ (gI h1 a0 80).toInt = 12 → 8 ≤ (gR h1 a0 81) ∧ ∃ i0 : Nat, inB h1 100 (gR h1 a0 81) (gI h1 a0 80) i0 ∧ ∀ h4 : aH, h4 = pI h1 (gR h1 a0 81) i0 a1 → ∀ h5 : aH, h5 = pI h4 a0 80 ((gI h4 a0 80) + 1) → K ((gI h5 a0 80) - 1) h5))))) X) : CI (d + 1) 311 [vR a0, vI a1] h K X := by
  show Wp (d + 1) 311 (0, [some (vR a0), some (vI a1)], [], h) (RI K X)
  refine wp_aload rfl rfl rfl ?_
  refine wp_const rfl rfl ?_
  obtain ⟨f0, F⟩ := F
  obtain ⟨f1, F⟩ := F
  refine wp_putI rfl rfl rfl f0 f1 rfl ?_
  have f2 : gK (pI h a0 0 0) a0 = 14 := (gK_pI _ _ _ _ _).trans f1
  replace F := F _ rfl
  generalize pI h a0 0 0 = h0 at F f2 ⊢
  refine wp_iload rfl rfl rfl ?_
  refine wp_i2l rfl rfl ?_
  refine wp_const rfl rfl ?_
  refine wp_const rfl rfl ?_
  refine wp_callI rfl rfl rfl rfl rfl rfl rfl rfl ?_
  refine CI.mono F (fun y0 h1 F => ?_) (fun _ _ w => rx_I w)
  refine wp_if_ne rfl rfl rfl rfl (fun c => ?_) (fun c => ?_)
  · replace F := F.1 c
    refine wp_aload rfl rfl rfl ?_
    refine wp_const rfl rfl ?_
    obtain ⟨f3, F⟩ := F
    refine wp_callI rfl rfl rfl (rcv_v f0 f3 (by decide) (by decide)) rfl rfl rfl rfl ?_
    refine CI.mono F (fun y1 h2 F => ?_) (fun _ _ w => rx_I w)
    exact wp_retI rfl (Or.inl rfl) F
  · replace F := F.2 c
    refine wp_aload rfl rfl rfl ?_
    obtain ⟨f4, F⟩ := F
    refine wp_getI rfl rfl rfl f4 rfl ?_
    refine wp_const rfl rfl ?_
    refine wp_icmp_ne (Y := 12) rfl rfl rfl rfl rfl (fun c => ?_) (fun c => ?_)
    · replace F := F.1 c
      refine wp_aload rfl rfl rfl ?_
      refine wp_const rfl rfl ?_
      refine wp_callI rfl rfl rfl (rcv_v f0 f4 (by decide) (by decide)) rfl rfl rfl rfl ?_
      refine CI.mono F (fun y2 h3 F => ?_) (fun _ _ w => rx_I w)
      exact wp_retI rfl (Or.inl rfl) F
    · replace F := F.2 c
      refine wp_aload rfl rfl rfl ?_
      refine wp_getR rfl rfl rfl f4 rfl ?_
      refine wp_aload rfl rfl rfl ?_
      refine wp_getI rfl rfl rfl f4 rfl ?_
      refine wp_iload rfl rfl rfl ?_
      obtain ⟨f5, F⟩ := F
      obtain ⟨i0, b9, F⟩ := F
      refine wp_iastore rfl f5 b9 rfl ?_
      have f6 : gK (pI h1 (gR h1 a0 81) i0 a1) a0 = 14 := (gK_pI _ _ _ _ _).trans f4
      replace F := F _ rfl
      generalize pI h1 (gR h1 a0 81) i0 a1 = h4 at F f6 ⊢
      refine wp_aload rfl rfl rfl ?_
      refine wp_dup rfl rfl rfl ?_
      refine wp_getI rfl rfl rfl f6 rfl ?_
      refine wp_const rfl rfl ?_
      refine wp_iadd rfl rfl ?_
      refine wp_putI rfl rfl rfl f0 f6 rfl ?_
      have f7 : gK (pI h4 a0 80 ((gI h4 a0 80) + 1)) a0 = 14 := (gK_pI _ _ _ _ _).trans f6
      replace F := F _ rfl
      generalize pI h4 a0 80 ((gI h4 a0 80) + 1) = h5 at F f7 ⊢
      refine wp_aload rfl rfl rfl ?_
      refine wp_getI rfl rfl rfl f7 rfl ?_
      refine wp_const rfl rfl ?_
      refine wp_isub rfl rfl ?_
      exact wp_retI rfl (Or.inl rfl) F
-- CensusOffice needPerson (I)V
theorem m312 {d : Nat} {a0 : Nat} {a1 : Int32} {h : aH} {K : aH → Prop} {X : Nat → aH → Prop} (F : gK h a0 = 1 ∧ 8 ≤ (gR h a0 10) ∧ gK h (gR h a0 10) = 8 ∧ CI d 28 [vR (gR h a0 10)] h (fun y0 h0 => CV d 29 [vI a1, vI y0] h0 (fun h1 => K h1) X) X) : CV (d + 1) 312 [vR a0, vI a1] h K X := by
  show Wp (d + 1) 312 (0, [some (vR a0), some (vI a1)], [], h) (RV K X)
  refine wp_iload rfl rfl rfl ?_
  refine wp_aload rfl rfl rfl ?_
  obtain ⟨f0, F⟩ := F
  refine wp_getR rfl rfl rfl f0 rfl ?_
  obtain ⟨f1, F⟩ := F
  obtain ⟨f2, F⟩ := F
  refine wp_callI rfl rfl rfl (rcv_v f1 f2 (by decide) (by decide)) rfl rfl rfl rfl ?_
  refine CI.mono F (fun y0 h0 F => ?_) (fun _ _ w => rx_V w)
  refine wp_callV rfl rfl rfl rfl rfl rfl rfl rfl ?_
  refine CV.mono F (fun h1 F => ?_) (fun _ _ w => rx_V w)
  exact wp_retV rfl F
-- CensusOffice$Release <init> (LCensusOffice$Table;II)V
theorem m313 {d : Nat} {a0 : Nat} {a1 : Nat} {a2 : Int32} {a3 : Int32} {h : aH} {K : aH → Prop} {X : Nat → aH → Prop} (F : 8 ≤ a0 ∧ gK h a0 = 7 ∧ ∀ h0 : aH, h0 = pR h a0 0 a1 → gK h0 a1 = 11 ∧ CR d 20 [vR (gR h0 a1 10), vI (gI h0 a1 6)] h0 (fun q0 h1 => gK h1 a0 = 7 ∧ ∀ h2 : aH, h2 = pR h1 a0 1 q0 → gK h2 a1 = 11 ∧ ∀ h3 : aH, h3 = pI h2 a0 2 (gI h2 a1 13) → ∀ h4 : aH, h4 = pI h3 a0 3 a2 → ∀ h5 : aH, h5 = pI h4 a0 4 a3 → K h5) X) : CV (d + 1) 313 [vR a0, vR a1, vI a2, vI a3] h K X := by
  show Wp (d + 1) 313 (0, [some (vR a0), some (vR a1), some (vI a2), some (vI a3)], [], h) (RV K X)
  refine wp_aload rfl rfl rfl ?_
  obtain ⟨f0, F⟩ := F
  refine wp_obj rfl f0 rfl rfl ?_
  refine wp_aload rfl rfl rfl ?_
  refine wp_aload rfl rfl rfl ?_
  obtain ⟨f1, F⟩ := F
  refine wp_putR rfl rfl rfl f0 f1 rfl ?_
  have f2 : gK (pR h a0 0 a1) a0 = 7 := (gK_pR _ _ _ _ _).trans f1
  replace F := F _ rfl
  generalize pR h a0 0 a1 = h0 at F f2 ⊢
  refine wp_aload rfl rfl rfl ?_
  refine wp_aload rfl rfl rfl ?_
  obtain ⟨f3, F⟩ := F
  refine wp_getR rfl rfl rfl f3 rfl ?_
  refine wp_aload rfl rfl rfl ?_
  refine wp_getI rfl rfl rfl f3 rfl ?_
  refine wp_callR rfl rfl rfl rfl rfl rfl rfl rfl ?_
  refine CR.mono F (fun q0 h1 F => ?_) (fun _ _ w => rx_V w)
  obtain ⟨f4, F⟩ := F
  refine wp_putR rfl rfl rfl f0 f4 rfl ?_
  have f5 : gK (pR h1 a0 1 q0) a0 = 7 := (gK_pR _ _ _ _ _).trans f4
  replace F := F _ rfl
  generalize pR h1 a0 1 q0 = h2 at F f5 ⊢
  refine wp_aload rfl rfl rfl ?_
  refine wp_aload rfl rfl rfl ?_
  obtain ⟨f6, F⟩ := F
  refine wp_getI rfl rfl rfl f6 rfl ?_
  refine wp_putI rfl rfl rfl f0 f5 rfl ?_
  have f7 : gK (pI h2 a0 2 (gI h2 a1 13)) a0 = 7 := (gK_pI _ _ _ _ _).trans f5
  have f8 : gK (pI h2 a0 2 (gI h2 a1 13)) a1 = 11 := (gK_pI _ _ _ _ _).trans f6
  replace F := F _ rfl
  generalize pI h2 a0 2 (gI h2 a1 13) = h3 at F f7 f8 ⊢
  refine wp_aload rfl rfl rfl ?_
  refine wp_iload rfl rfl rfl ?_
  refine wp_putI rfl rfl rfl f0 f7 rfl ?_
  have f9 : gK (pI h3 a0 3 a2) a0 = 7 := (gK_pI _ _ _ _ _).trans f7
  have f10 : gK (pI h3 a0 3 a2) a1 = 11 := (gK_pI _ _ _ _ _).trans f8
  replace F := F _ rfl
  generalize pI h3 a0 3 a2 = h4 at F f9 f10 ⊢
  refine wp_aload rfl rfl rfl ?_
  refine wp_iload rfl rfl rfl ?_
  refine wp_putI rfl rfl rfl f0 f9 rfl ?_
  have f11 : gK (pI h4 a0 4 a3) a0 = 7 := (gK_pI _ _ _ _ _).trans f9
  have f12 : gK (pI h4 a0 4 a3) a1 = 11 := (gK_pI _ _ _ _ _).trans f10
  replace F := F _ rfl
  generalize pI h4 a0 4 a3 = h5 at F f11 f12 ⊢
  exact wp_retV rfl F
-- CensusOffice release (III)I
theorem m314 {d : Nat} {a0 : Nat} {a1 : Int32} {a2 : Int32} {a3 : Int32} {h : aH} {K : Int32 → aH → Prop} {X : Nat → aH → Prop} (F : 8 ≤ a0 ∧ gK h a0 = 1 ∧ CV d 312 [vR a0, vI a1] h (fun h0 => gK h0 a0 = 1 ∧ CR d 267 [vR a0, vI a2] h0 (fun q0 h1 => gK h1 a0 = 1 ∧ 8 ≤ (gR h1 a0 10) ∧ gK h1 (gR h1 a0 10) = 8 ∧ CI d 32 [vR (gR h1 a0 10), vI a1, vI 0] h1 (fun y0 h2 => (((y0 &&& 1).toInt = 0 → X 2 (gNew h2 200 6)) ∧ (¬ (y0 &&& 1).toInt = 0 → gK h2 a0 = 1 ∧ ((a3.toInt < (gI h2 a0 12).toInt → X 1 (gNew h2 200 6)) ∧ (¬ a3.toInt < (gI h2 a0 12).toInt → 8 ≤ (gR h2 a0 9) ∧ gK h2 (gR h2 a0 9) = 13 ∧ CI d 65 [vR (gR h2 a0 9)] h2 (fun y1 h3 => ((y1.toInt < 12 → gK h3 a0 = 1 ∧ ∀ (r0 : Nat) (h4 : aH), r0 = gN h3 → h4 = gNew h3 7 5 → 8 ≤ r0 ∧ CV d 313 [vR r0, vR q0, vI a1, vI a3] h4 (fun h5 => 8 ≤ (gR h3 a0 9) ∧ gK h5 (gR h3 a0 9) = 13 ∧ CI d 98 [vR (gR h3 a0 9), vR r0] h5 (fun y2 h6 => gK h6 a0 = 1 ∧ 8 ≤ (gR h6 a0 9) ∧ gK h6 (gR h6 a0 9) = 13 ∧ CI d 65 [vR (gR h6 a0 9)] h6 (fun y3 h7 => K (y3 - 1) h7) X) X) (fun _ _ => False)) ∧ (¬ y1.toInt < 12 → X 4 (gNew h3 200 6)))) X))))) X) X) X) : CI (d + 1) 314 [vR a0, vI a1, vI a2, vI a3] h K X := by
  show Wp (d + 1) 314 (0, [some (vR a0), some (vI a1), some (vI a2), some (vI a3), none], [], h) (RI K X)
  refine wp_aload rfl rfl rfl ?_
  refine wp_iload rfl rfl rfl ?_
  obtain ⟨f0, F⟩ := F
  obtain ⟨f1, F⟩ := F
  refine wp_callV rfl rfl rfl (rcv_v f0 f1 (by decide) (by decide)) rfl rfl rfl rfl ?_
  refine CV.mono F (fun h0 F => ?_) (fun _ _ w => rx_I w)
  refine wp_aload rfl rfl rfl ?_
  refine wp_iload rfl rfl rfl ?_
  obtain ⟨f2, F⟩ := F
  refine wp_callR rfl rfl rfl (rcv_v f0 f2 (by decide) (by decide)) rfl rfl rfl rfl ?_
  refine CR.mono F (fun q0 h1 F => ?_) (fun _ _ w => rx_I w)
  refine wp_astore (L2 := [some (vR a0), some (vI a1), some (vI a2), some (vI a3), some (vR q0)]) rfl rfl rfl rfl ?_
  refine wp_aload rfl rfl rfl ?_
  obtain ⟨f3, F⟩ := F
  refine wp_getR rfl rfl rfl f3 rfl ?_
  refine wp_iload rfl rfl rfl ?_
  refine wp_const rfl rfl ?_
  obtain ⟨f4, F⟩ := F
  obtain ⟨f5, F⟩ := F
  refine wp_callI rfl rfl rfl (rcv_v f4 f5 (by decide) (by decide)) rfl rfl rfl rfl ?_
  refine CI.mono F (fun y0 h2 F => ?_) (fun _ _ w => rx_I w)
  refine wp_const rfl rfl ?_
  refine wp_iand rfl rfl ?_
  refine wp_if_ne rfl rfl rfl rfl (fun c => ?_) (fun c => ?_)
  · replace F := F.1 c
    exact wp_thrI rfl F
  · replace F := F.2 c
    refine wp_iload' (L' := [some (vR a0), some (vI a1), none, some (vI a3), some (vR q0)]) rfl rfl rfl rfl ?_
    refine wp_aload rfl rfl rfl ?_
    obtain ⟨f6, F⟩ := F
    refine wp_getI rfl rfl rfl f6 rfl ?_
    refine wp_icmp_ge rfl rfl rfl rfl rfl (fun c => ?_) (fun c => ?_)
    · replace F := F.1 c
      exact wp_thrI rfl F
    · replace F := F.2 c
      refine wp_aload' (L' := [some (vR a0), some (vI a1), none, some (vI a3), some (vR q0)]) rfl rfl rfl rfl ?_
      refine wp_getR rfl rfl rfl f6 rfl ?_
      obtain ⟨f7, F⟩ := F
      obtain ⟨f8, F⟩ := F
      refine wp_callI rfl rfl rfl (rcv_v f7 f8 (by decide) (by decide)) rfl rfl rfl rfl ?_
      refine CI.mono F (fun y1 h3 F => ?_) (fun _ _ w => rx_I w)
      refine wp_const rfl rfl ?_
      refine wp_icmp_lt (Y := 12) rfl rfl rfl rfl rfl (fun c => ?_) (fun c => ?_)
      · replace F := F.1 c
        refine wp_aload' (L' := [some (vR a0), some (vI a1), none, some (vI a3), some (vR q0)]) rfl rfl rfl rfl ?_
        obtain ⟨f9, F⟩ := F
        refine wp_getR rfl rfl rfl f9 rfl ?_
        refine wp_new rfl rfl rfl rfl ?_
        replace F := F _ _ rfl rfl
        generalize gNew h3 7 5 = h4 at F ⊢
        generalize gN h3 = r0 at F ⊢
        refine wp_dup rfl rfl rfl ?_
        refine wp_aload rfl rfl rfl ?_
        refine wp_iload rfl rfl rfl ?_
        refine wp_iload rfl rfl rfl ?_
        obtain ⟨f10, F⟩ := F
        refine wp_callqV rfl rfl rfl (rcv_c f10) rfl rfl ?_
        refine CV.mono F (fun h5 F => ?_) (fun _ _ w => w)
        obtain ⟨f11, F⟩ := F
        obtain ⟨f12, F⟩ := F
        refine wp_callI rfl rfl rfl (rcv_v f11 f12 (by decide) (by decide)) rfl rfl rfl rfl ?_
        refine CI.mono F (fun y2 h6 F => ?_) (fun _ _ w => rx_I w)
        refine wp_pop rfl rfl rfl ?_
        refine wp_aload rfl rfl rfl ?_
        obtain ⟨f13, F⟩ := F
        refine wp_getR rfl rfl rfl f13 rfl ?_
        obtain ⟨f14, F⟩ := F
        obtain ⟨f15, F⟩ := F
        refine wp_callI rfl rfl rfl (rcv_v f14 f15 (by decide) (by decide)) rfl rfl rfl rfl ?_
        refine CI.mono F (fun y3 h7 F => ?_) (fun _ _ w => rx_I w)
        refine wp_const rfl rfl ?_
        refine wp_isub rfl rfl ?_
        exact wp_retI rfl (Or.inl rfl) F
      · replace F := F.2 c
        exact wp_thrI rfl F
-- CensusOfficeLaw release (LCensusOffice;III[J)I
theorem m315 {d : Nat} {a0 : Nat} {a1 : Int32} {a2 : Int32} {a3 : Int32} {a4 : Nat} {h : aH} {K : Int32 → aH → Prop} {X : Nat → aH → Prop} (F : 8 ≤ a0 ∧ gK h a0 = 1 ∧ CI d 314 [vR a0, vI a1, vI a2, vI a3] h (fun y0 h0 => 8 ≤ a4 ∧ inB h0 101 a4 0 0 ∧ ∀ h1 : aH, h1 = pJ h0 a4 0 (y0.toInt64) → K 0 h1) (fun x9 h9 => (x9 = 3 ∧ K 1 h9) ∨ (x9 = 2 ∧ K 2 h9) ∨ (x9 = 1 ∧ K 3 h9) ∨ (x9 = 4 ∧ K 4 h9))) : CI (d + 1) 315 [vR a0, vI a1, vI a2, vI a3, vR a4] h K X := by
  show Wp (d + 1) 315 (0, [some (vR a0), some (vI a1), some (vI a2), some (vI a3), some (vR a4), none], [], h) (RI K X)
  refine wp_aload rfl rfl rfl ?_
  refine wp_const rfl rfl ?_
  refine wp_aload rfl rfl rfl ?_
  refine wp_iload rfl rfl rfl ?_
  refine wp_iload rfl rfl rfl ?_
  refine wp_iload rfl rfl rfl ?_
  obtain ⟨f0, F⟩ := F
  obtain ⟨f1, F⟩ := F
  refine wp_callhI (X := (fun x9 h9 => (x9 = 3 ∧ K 1 h9) ∨ (x9 = 2 ∧ K 2 h9) ∨ (x9 = 1 ∧ K 3 h9) ∨ (x9 = 4 ∧ K 4 h9))) rfl rfl rfl (rcv_v f0 f1 (by decide) (by decide)) rfl rfl rfl (fun x9 h9 F => ?_) ?_
  · rcases F with ⟨rfl, F⟩ | ⟨rfl, F⟩ | ⟨rfl, F⟩ | ⟨rfl, F⟩
    · refine ⟨15, rfl, ?_⟩
      refine wp_astoreJ' (L' := [none, none, none, none, none, none]) (L2 := [none, none, none, none, none, some vJ]) rfl rfl rfl rfl rfl ?_
      refine wp_const rfl rfl ?_
      exact wp_retI rfl (Or.inl rfl) F
    · refine ⟨19, rfl, ?_⟩
      refine wp_astoreJ' (L' := [none, none, none, none, none, none]) (L2 := [none, none, none, none, none, some vJ]) rfl rfl rfl rfl rfl ?_
      refine wp_const rfl rfl ?_
      exact wp_retI rfl (Or.inl rfl) F
    · refine ⟨23, rfl, ?_⟩
      refine wp_astoreJ' (L' := [none, none, none, none, none, none]) (L2 := [none, none, none, none, none, some vJ]) rfl rfl rfl rfl rfl ?_
      refine wp_const rfl rfl ?_
      exact wp_retI rfl (Or.inl rfl) F
    · refine ⟨27, rfl, ?_⟩
      refine wp_astoreJ' (L' := [none, none, none, none, none, none]) (L2 := [none, none, none, none, none, some vJ]) rfl rfl rfl rfl rfl ?_
      refine wp_const rfl rfl ?_
      exact wp_retI rfl (Or.inl rfl) F
  · refine CI.mono F (fun y0 h0 F => ?_) (fun _ _ w => w)
    refine wp_i2l rfl rfl ?_
    obtain ⟨f2, F⟩ := F
    obtain ⟨b9, F⟩ := F
    refine wp_lastore rfl f2 b9 rfl ?_
    replace F := F _ rfl
    generalize pJ h0 a4 0 (y0.toInt64) = h1 at F ⊢
    refine wp_goto rfl rfl ?_
    refine wp_const' (L' := [none, none, none, none, none, none]) rfl rfl rfl ?_
    exact wp_retI rfl (Or.inl rfl) F
-- CensusOfficeModel release (III)I
theorem m316 {d : Nat} {a0 : Nat} {a1 : Int32} {a2 : Int32} {a3 : Int32} {h : aH} {K : Int32 → aH → Prop} {X : Nat → aH → Prop} (F : 8 ≤ a0 ∧ gK h a0 = 14 ∧ ∀ h0 : aH, h0 = pI h a0 0 0 → CI d 14 [vL (a1.toInt64), vL 0, vL (((gI h0 a0 80) - 1).toInt64)] h0 (fun y0 h1 => ((y0.toInt = 0 → gK h1 a0 = 14 ∧ CI d 15 [vR a0, vI 1] h1 (fun y1 h2 => K y1 h2) X) ∧ (¬ y0.toInt = 0 → gK h1 a0 = 14 ∧ CI d 274 [vR a0, vI a2] h1 (fun y2 h3 => ((y2.toInt = 0 → gK h3 a0 = 14 ∧ CI d 15 [vR a0, vI 1] h3 (fun y3 h4 => K y3 h4) X) ∧ (¬ y2.toInt = 0 → gK h3 a0 = 14 ∧ ∃ i0 : Nat, inB h3 100 (gR h3 a0 81) a1 i0 ∧ ((((gI h3 (gR h3 a0 81) i0) &&& 1).toInt = 0 → CI d 15 [vR a0, vI 2] h3 (fun y4 h5 => K y4 h5) X) ∧ (¬ ((gI h3 (gR h3 a0 81) i0) &&& 1).toInt = 0 → ((a3.toInt < (gI h3 a0 1).toInt → CI d 15 [vR a0, vI 3] h3 (fun y5 h6 => K y5 h6) X) ∧ (¬ a3.toInt < (gI h3 a0 1).toInt → (((gI h3 a0 82).toInt = 12 → CI d 15 [vR a0, vI 4] h3 (fun y6 h7 => K y6 h7) X) ∧ (¬ (gI h3 a0 82).toInt = 12 → 8 ≤ (gR h3 a0 83) ∧ ∃ i1 : Nat, inB h3 100 (gR h3 a0 83) (gI h3 a0 82) i1 ∧ ∀ h8 : aH, h8 = pI h3 (gR h3 a0 83) i1 a1 → 8 ≤ (gR h8 a0 84) ∧ ∃ i2 : Nat, inB h8 100 (gR h8 a0 84) (gI h8 a0 82) i2 ∧ ∀ h9 : aH, h9 = pI h8 (gR h8 a0 84) i2 a3 → ∃ i3 : Nat, inB h9 100 (gR h9 a0 70) a2 i3 ∧ 8 ≤ (gR h9 a0 85) ∧ ∃ i4 : Nat, inB h9 100 (gR h9 a0 85) (gI h9 a0 82) i4 ∧ ∀ h10 : aH, h10 = pI h9 (gR h9 a0 85) i4 (gI h9 (gR h9 a0 70) i3) → ∃ i5 : Nat, inB h10 100 (gR h10 a0 71) a2 i5 ∧ 8 ≤ (gR h10 a0 86) ∧ ∃ i6 : Nat, inB h10 100 (gR h10 a0 86) (gI h10 a0 82) i6 ∧ ∀ h11 : aH, h11 = pI h10 (gR h10 a0 86) i6 (gI h10 (gR h10 a0 71) i5) → ∃ i7 : Nat, inB h11 100 (gR h11 a0 77) a2 i7 ∧ 8 ≤ (gR h11 a0 87) ∧ ∃ i8 : Nat, inB h11 100 (gR h11 a0 87) (gI h11 a0 82) i8 ∧ ∀ h12 : aH, h12 = pI h11 (gR h11 a0 87) i8 (gI h11 (gR h11 a0 77) i7) → Wp (d + 1) 316 (149, [some (vR a0), none, some (vI a2), none, some (vI 0)], [], h12) (RI K X)))))))))) X))) X) : CI (d + 1) 316 [vR a0, vI a1, vI a2, vI a3] h K X := by
  show Wp (d + 1) 316 (0, [some (vR a0), some (vI a1), some (vI a2), some (vI a3), none], [], h) (RI K X)
  refine wp_aload rfl rfl rfl ?_
  refine wp_const rfl rfl ?_
  obtain ⟨f0, F⟩ := F
  obtain ⟨f1, F⟩ := F
  refine wp_putI rfl rfl rfl f0 f1 rfl ?_
  have f2 : gK (pI h a0 0 0) a0 = 14 := (gK_pI _ _ _ _ _).trans f1
  replace F := F _ rfl
  generalize pI h a0 0 0 = h0 at F f2 ⊢
  refine wp_iload rfl rfl rfl ?_
  refine wp_i2l rfl rfl ?_
  refine wp_const rfl rfl ?_
  refine wp_aload rfl rfl rfl ?_
  refine wp_getI rfl rfl rfl f2 rfl ?_
  refine wp_const rfl rfl ?_
  refine wp_isub rfl rfl ?_
  refine wp_i2l rfl rfl ?_
  refine wp_callI rfl rfl rfl rfl rfl rfl rfl rfl ?_
  refine CI.mono F (fun y0 h1 F => ?_) (fun _ _ w => rx_I w)
  refine wp_if_eq rfl rfl rfl rfl (fun c => ?_) (fun c => ?_)
  · replace F := F.1 c
    refine wp_aload' (L' := [some (vR a0), none, none, none, none]) rfl rfl rfl rfl ?_
    refine wp_const rfl rfl ?_
    obtain ⟨f3, F⟩ := F
    refine wp_callI rfl rfl rfl (rcv_v f0 f3 (by decide) (by decide)) rfl rfl rfl rfl ?_
    refine CI.mono F (fun y1 h2 F => ?_) (fun _ _ w => rx_I w)
    exact wp_retI rfl (Or.inl rfl) F
  · replace F := F.2 c
    refine wp_aload rfl rfl rfl ?_
    refine wp_iload rfl rfl rfl ?_
    obtain ⟨f4, F⟩ := F
    refine wp_callI rfl rfl rfl (rcv_v f0 f4 (by decide) (by decide)) rfl rfl rfl rfl ?_
    refine CI.mono F (fun y2 h3 F => ?_) (fun _ _ w => rx_I w)
    refine wp_if_ne rfl rfl rfl rfl (fun c => ?_) (fun c => ?_)
    · replace F := F.1 c
      refine wp_aload' (L' := [some (vR a0), none, none, none, none]) rfl rfl rfl rfl ?_
      refine wp_const rfl rfl ?_
      obtain ⟨f5, F⟩ := F
      refine wp_callI rfl rfl rfl (rcv_v f0 f5 (by decide) (by decide)) rfl rfl rfl rfl ?_
      refine CI.mono F (fun y3 h4 F => ?_) (fun _ _ w => rx_I w)
      exact wp_retI rfl (Or.inl rfl) F
    · replace F := F.2 c
      refine wp_aload' (L' := [some (vR a0), some (vI a1), some (vI a2), some (vI a3), none]) rfl rfl rfl rfl ?_
      obtain ⟨f6, F⟩ := F
      refine wp_getR rfl rfl rfl f6 rfl ?_
      refine wp_iload rfl rfl rfl ?_
      obtain ⟨i0, b9, F⟩ := F
      refine wp_iaload rfl b9 rfl ?_
      refine wp_const rfl rfl ?_
      refine wp_iand rfl rfl ?_
      refine wp_if_ne rfl rfl rfl rfl (fun c => ?_) (fun c => ?_)
      · replace F := F.1 c
        refine wp_aload rfl rfl rfl ?_
        refine wp_const rfl rfl ?_
        refine wp_callI rfl rfl rfl (rcv_v f0 f6 (by decide) (by decide)) rfl rfl rfl rfl ?_
        refine CI.mono F (fun y4 h5 F => ?_) (fun _ _ w => rx_I w)
        exact wp_retI rfl (Or.inl rfl) F
      · replace F := F.2 c
        refine wp_iload' (L' := [some (vR a0), some (vI a1), some (vI a2), some (vI a3), none]) rfl rfl rfl rfl ?_
        refine wp_aload rfl rfl rfl ?_
        refine wp_getI rfl rfl rfl f6 rfl ?_
        refine wp_icmp_ge rfl rfl rfl rfl rfl (fun c => ?_) (fun c => ?_)
        · replace F := F.1 c
          refine wp_aload rfl rfl rfl ?_
          refine wp_const rfl rfl ?_
          refine wp_callI rfl rfl rfl (rcv_v f0 f6 (by decide) (by decide)) rfl rfl rfl rfl ?_
          refine CI.mono F (fun y5 h6 F => ?_) (fun _ _ w => rx_I w)
          exact wp_retI rfl (Or.inl rfl) F
        · replace F := F.2 c
          refine wp_aload' (L' := [some (vR a0), some (vI a1), some (vI a2), some (vI a3), none]) rfl rfl rfl rfl ?_
          refine wp_getI rfl rfl rfl f6 rfl ?_
          refine wp_const rfl rfl ?_
          refine wp_icmp_ne (Y := 12) rfl rfl rfl rfl rfl (fun c => ?_) (fun c => ?_)
          · replace F := F.1 c
            refine wp_aload rfl rfl rfl ?_
            refine wp_const rfl rfl ?_
            refine wp_callI rfl rfl rfl (rcv_v f0 f6 (by decide) (by decide)) rfl rfl rfl rfl ?_
            refine CI.mono F (fun y6 h7 F => ?_) (fun _ _ w => rx_I w)
            exact wp_retI rfl (Or.inl rfl) F
          · replace F := F.2 c
            refine wp_aload' (L' := [some (vR a0), some (vI a1), some (vI a2), some (vI a3), none]) rfl rfl rfl rfl ?_
            refine wp_getR rfl rfl rfl f6 rfl ?_
            refine wp_aload rfl rfl rfl ?_
            refine wp_getI rfl rfl rfl f6 rfl ?_
            refine wp_iload rfl rfl rfl ?_
            obtain ⟨f7, F⟩ := F
            obtain ⟨i1, b9, F⟩ := F
            refine wp_iastore rfl f7 b9 rfl ?_
            have f8 : gK (pI h3 (gR h3 a0 83) i1 a1) a0 = 14 := (gK_pI _ _ _ _ _).trans f6
            replace F := F _ rfl
            generalize pI h3 (gR h3 a0 83) i1 a1 = h8 at F f8 ⊢
            refine wp_aload rfl rfl rfl ?_
            refine wp_getR rfl rfl rfl f8 rfl ?_
            refine wp_aload rfl rfl rfl ?_
            refine wp_getI rfl rfl rfl f8 rfl ?_
            refine wp_iload rfl rfl rfl ?_
            obtain ⟨f9, F⟩ := F
            obtain ⟨i2, b9, F⟩ := F
            refine wp_iastore rfl f9 b9 rfl ?_
            have f10 : gK (pI h8 (gR h8 a0 84) i2 a3) a0 = 14 := (gK_pI _ _ _ _ _).trans f8
            replace F := F _ rfl
            generalize pI h8 (gR h8 a0 84) i2 a3 = h9 at F f10 ⊢
            refine wp_aload rfl rfl rfl ?_
            refine wp_getR rfl rfl rfl f10 rfl ?_
            refine wp_aload rfl rfl rfl ?_
            refine wp_getI rfl rfl rfl f10 rfl ?_
            refine wp_aload rfl rfl rfl ?_
            refine wp_getR rfl rfl rfl f10 rfl ?_
            refine wp_iload rfl rfl rfl ?_
            obtain ⟨i3, b9, F⟩ := F
            refine wp_iaload rfl b9 rfl ?_
            obtain ⟨f11, F⟩ := F
            obtain ⟨i4, b9, F⟩ := F
            refine wp_iastore rfl f11 b9 rfl ?_
            have f12 : gK (pI h9 (gR h9 a0 85) i4 (gI h9 (gR h9 a0 70) i3)) a0 = 14 := (gK_pI _ _ _ _ _).trans f10
            replace F := F _ rfl
            generalize pI h9 (gR h9 a0 85) i4 (gI h9 (gR h9 a0 70) i3) = h10 at F f12 ⊢
            refine wp_aload rfl rfl rfl ?_
            refine wp_getR rfl rfl rfl f12 rfl ?_
            refine wp_aload rfl rfl rfl ?_
            refine wp_getI rfl rfl rfl f12 rfl ?_
            refine wp_aload rfl rfl rfl ?_
            refine wp_getR rfl rfl rfl f12 rfl ?_
            refine wp_iload rfl rfl rfl ?_
            obtain ⟨i5, b9, F⟩ := F
            refine wp_iaload rfl b9 rfl ?_
            obtain ⟨f13, F⟩ := F
            obtain ⟨i6, b9, F⟩ := F
            refine wp_iastore rfl f13 b9 rfl ?_
            have f14 : gK (pI h10 (gR h10 a0 86) i6 (gI h10 (gR h10 a0 71) i5)) a0 = 14 := (gK_pI _ _ _ _ _).trans f12
            replace F := F _ rfl
            generalize pI h10 (gR h10 a0 86) i6 (gI h10 (gR h10 a0 71) i5) = h11 at F f14 ⊢
            refine wp_aload rfl rfl rfl ?_
            refine wp_getR rfl rfl rfl f14 rfl ?_
            refine wp_aload rfl rfl rfl ?_
            refine wp_getI rfl rfl rfl f14 rfl ?_
            refine wp_aload rfl rfl rfl ?_
            refine wp_getR rfl rfl rfl f14 rfl ?_
            refine wp_iload rfl rfl rfl ?_
            obtain ⟨i7, b9, F⟩ := F
            refine wp_iaload rfl b9 rfl ?_
            obtain ⟨f15, F⟩ := F
            obtain ⟨i8, b9, F⟩ := F
            refine wp_iastore rfl f15 b9 rfl ?_
            have f16 : gK (pI h11 (gR h11 a0 87) i8 (gI h11 (gR h11 a0 77) i7)) a0 = 14 := (gK_pI _ _ _ _ _).trans f14
            replace F := F _ rfl
            generalize pI h11 (gR h11 a0 87) i8 (gI h11 (gR h11 a0 77) i7) = h12 at F f16 ⊢
            refine wp_const rfl rfl ?_
            refine wp_istore (L2 := [some (vR a0), some (vI a1), some (vI a2), some (vI a3), some (vI 0)]) rfl rfl rfl rfl ?_
            refine wp_kill (L' := [some (vR a0), none, some (vI a2), none, some (vI 0)]) rfl rfl ?_
            exact F
theorem w316_149 {d : Nat} {l0 : Nat} {l2 : Int32} {l4 : Int32} {h : aH} {K : Int32 → aH → Prop} {X : Nat → aH → Prop} (F : ((l4.toInt < 12 → gK h l0 = 14 ∧ 8 ≤ l0 ∧ CI d 275 [vR l0, vI l2, vI l4, vI 3] h (fun y0 h0 => 8 ≤ (gR h l0 88) ∧ ∃ i0 : Nat, inB h0 100 (gR h l0 88) ((12 * (gI h l0 82)) + l4) i0 ∧ ∀ h1 : aH, h1 = pI h0 (gR h l0 88) i0 y0 → ∀ v0 : Int32, v0 = l4 + 1 → Wp (d + 1) 316 (149, [some (vR l0), none, some (vI l2), none, some (vI v0)], [], h1) (RI K X)) X) ∧ (¬ l4.toInt < 12 → gK h l0 = 14 ∧ 8 ≤ l0 ∧ ∀ h2 : aH, h2 = pI h l0 82 ((gI h l0 82) + 1) → K ((gI h2 l0 82) - 1) h2))) : Wp (d + 1) 316 (149, [some (vR l0), none, some (vI l2), none, some (vI l4)], [], h) (RI K X) := by
  refine wp_iload' (L' := [some (vR l0), none, some (vI l2), none, some (vI l4)]) rfl rfl rfl rfl ?_
  refine wp_const rfl rfl ?_
  refine wp_icmp_ge (Y := 12) rfl rfl rfl rfl rfl (fun c => ?_) (fun c => ?_)
  · replace F := F.1 c
    refine wp_aload rfl rfl rfl ?_
    obtain ⟨f0, F⟩ := F
    refine wp_getR rfl rfl rfl f0 rfl ?_
    refine wp_const rfl rfl ?_
    refine wp_aload rfl rfl rfl ?_
    refine wp_getI rfl rfl rfl f0 rfl ?_
    refine wp_imul rfl rfl ?_
    refine wp_iload rfl rfl rfl ?_
    refine wp_iadd rfl rfl ?_
    refine wp_aload rfl rfl rfl ?_
    refine wp_iload rfl rfl rfl ?_
    refine wp_iload rfl rfl rfl ?_
    refine wp_const rfl rfl ?_
    obtain ⟨f1, F⟩ := F
    refine wp_callI rfl rfl rfl (rcv_v f1 f0 (by decide) (by decide)) rfl rfl rfl rfl ?_
    refine CI.mono F (fun y0 h0 F => ?_) (fun _ _ w => rx_I w)
    obtain ⟨f2, F⟩ := F
    obtain ⟨i0, b9, F⟩ := F
    refine wp_iastore rfl f2 b9 rfl ?_
    replace F := F _ rfl
    generalize pI h0 (gR h l0 88) i0 y0 = h1 at F ⊢
    refine wp_iinc (y := 1) (L2 := [some (vR l0), none, some (vI l2), none, some (vI (l4 + 1))]) rfl rfl rfl rfl rfl ?_
    replace F := F _ rfl
    generalize (l4 + 1 : Int32) = v0 at F ⊢
    refine wp_goto rfl rfl ?_
    exact F
  · replace F := F.2 c
    refine wp_aload' (L' := [some (vR l0), none, none, none, none]) rfl rfl rfl rfl ?_
    refine wp_dup rfl rfl rfl ?_
    obtain ⟨f3, F⟩ := F
    refine wp_getI rfl rfl rfl f3 rfl ?_
    refine wp_const rfl rfl ?_
    refine wp_iadd rfl rfl ?_
    obtain ⟨f4, F⟩ := F
    refine wp_putI rfl rfl rfl f4 f3 rfl ?_
    have f5 : gK (pI h l0 82 ((gI h l0 82) + 1)) l0 = 14 := (gK_pI _ _ _ _ _).trans f3
    replace F := F _ rfl
    generalize pI h l0 82 ((gI h l0 82) + 1) = h2 at F f5 ⊢
    refine wp_aload rfl rfl rfl ?_
    refine wp_getI rfl rfl rfl f5 rfl ?_
    refine wp_const rfl rfl ?_
    refine wp_isub rfl rfl ?_
    exact wp_retI rfl (Or.inl rfl) F
-- CensusOffice releaseAt (I)LCensusOffice$Release;
theorem m317 {d : Nat} {a0 : Nat} {a1 : Int32} {h : aH} {K : Nat → aH → Prop} {X : Nat → aH → Prop} (F : gK h a0 = 1 ∧ 8 ≤ (gR h a0 9) ∧ gK h (gR h a0 9) = 13 ∧ CI d 65 [vR (gR h a0 9)] h (fun y0 h0 => CV d 29 [vI a1, vI y0] h0 (fun h1 => gK h1 a0 = 1 ∧ 8 ≤ (gR h1 a0 9) ∧ gK h1 (gR h1 a0 9) = 13 ∧ CR d 119 [vR (gR h1 a0 9), vI a1] h1 (fun q0 h2 => (q0 = 0 ∨ gK h2 q0 = 7) ∧ K q0 h2) X) X) X) : CR (d + 1) 317 [vR a0, vI a1] h K X := by
  show Wp (d + 1) 317 (0, [some (vR a0), some (vI a1)], [], h) (RR K X)
  refine wp_iload rfl rfl rfl ?_
  refine wp_aload rfl rfl rfl ?_
  obtain ⟨f0, F⟩ := F
  refine wp_getR rfl rfl rfl f0 rfl ?_
  obtain ⟨f1, F⟩ := F
  obtain ⟨f2, F⟩ := F
  refine wp_callI rfl rfl rfl (rcv_v f1 f2 (by decide) (by decide)) rfl rfl rfl rfl ?_
  refine CI.mono F (fun y0 h0 F => ?_) (fun _ _ w => rx_R w)
  refine wp_callV rfl rfl rfl rfl rfl rfl rfl rfl ?_
  refine CV.mono F (fun h1 F => ?_) (fun _ _ w => rx_R w)
  refine wp_aload rfl rfl rfl ?_
  obtain ⟨f3, F⟩ := F
  refine wp_getR rfl rfl rfl f3 rfl ?_
  refine wp_iload rfl rfl rfl ?_
  obtain ⟨f4, F⟩ := F
  obtain ⟨f5, F⟩ := F
  refine wp_callR rfl rfl rfl (rcv_v f4 f5 (by decide) (by decide)) rfl rfl rfl rfl ?_
  refine CR.mono F (fun q0 h2 F => ?_) (fun _ _ w => rx_R w)
  refine wp_cast rfl F.1 rfl ?_
  replace F := F.2
  exact wp_retR rfl F
-- CensusOffice$Release seenBy (IIIII)I
theorem m318 {d : Nat} {a0 : Nat} {a1 : Int32} {a2 : Int32} {a3 : Int32} {a4 : Int32} {a5 : Int32} {h : aH} {K : Int32 → aH → Prop} {X : Nat → aH → Prop} (F : gK h a0 = 7 ∧ ((a3.toInt < (gI h a0 4).toInt → ((a1.toInt = (gI h a0 3).toInt → Wp (d + 1) 318 (19, [some (vR a0), none, some (vI a2), none, some (vI a4), some (vI a5), none], [], h) (RI K X)) ∧ (¬ a1.toInt = (gI h a0 3).toInt → K (-12) h))) ∧ (¬ a3.toInt < (gI h a0 4).toInt → Wp (d + 1) 318 (19, [some (vR a0), none, some (vI a2), none, some (vI a4), some (vI a5), none], [], h) (RI K X)))) : CI (d + 1) 318 [vR a0, vI a1, vI a2, vI a3, vI a4, vI a5] h K X := by
  show Wp (d + 1) 318 (0, [some (vR a0), some (vI a1), some (vI a2), some (vI a3), some (vI a4), some (vI a5), none], [], h) (RI K X)
  refine wp_iload rfl rfl rfl ?_
  refine wp_aload rfl rfl rfl ?_
  obtain ⟨f0, F⟩ := F
  refine wp_getI rfl rfl rfl f0 rfl ?_
  refine wp_icmp_ge rfl rfl rfl rfl rfl (fun c => ?_) (fun c => ?_)
  · replace F := F.1 c
    refine wp_iload rfl rfl rfl ?_
    refine wp_aload rfl rfl rfl ?_
    refine wp_getI rfl rfl rfl f0 rfl ?_
    refine wp_icmp_eq rfl rfl rfl rfl rfl (fun c => ?_) (fun c => ?_)
    · replace F := F.1 c
      refine wp_kill (L' := [some (vR a0), none, some (vI a2), none, some (vI a4), some (vI a5), none]) rfl rfl ?_
      exact F
    · replace F := F.2 c
      refine wp_const rfl rfl ?_
      exact wp_retI rfl (Or.inl rfl) F
  · replace F := F.2 c
    refine wp_kill (L' := [some (vR a0), none, some (vI a2), none, some (vI a4), some (vI a5), none]) rfl rfl ?_
    exact F
theorem w318_19 {d : Nat} {l0 : Nat} {l2 : Int32} {l4 : Int32} {l5 : Int32} {h : aH} {K : Int32 → aH → Prop} {X : Nat → aH → Prop} (F : ((l2.toInt = 0 → K (-13) h) ∧ (¬ l2.toInt = 0 → gK h l0 = 7 ∧ gK h (gR h l0 0) = 11 ∧ ((l4.toInt < (gI h (gR h l0 0) 4).toInt → ((l5.toInt < (gI h (gR h l0 0) 5).toInt → Wp (d + 1) 318 (55, [some (vR l0), none, some (vI l2), none, some (vI l4), some (vI l5), none], [vI 1], h) (RI K X)) ∧ (¬ l5.toInt < (gI h (gR h l0 0) 5).toInt → Wp (d + 1) 318 (55, [some (vR l0), none, some (vI l2), none, some (vI l4), some (vI l5), none], [vI 0], h) (RI K X)))) ∧ (¬ l4.toInt < (gI h (gR h l0 0) 4).toInt → Wp (d + 1) 318 (55, [some (vR l0), none, some (vI l2), none, some (vI l4), some (vI l5), none], [vI 0], h) (RI K X)))))) : Wp (d + 1) 318 (19, [some (vR l0), none, some (vI l2), none, some (vI l4), some (vI l5), none], [], h) (RI K X) := by
  refine wp_iload' (L' := [some (vR l0), none, some (vI l2), none, some (vI l4), some (vI l5), none]) rfl rfl rfl rfl ?_
  refine wp_if_ne rfl rfl rfl rfl (fun c => ?_) (fun c => ?_)
  · replace F := F.1 c
    refine wp_const rfl rfl ?_
    exact wp_retI rfl (Or.inl rfl) F
  · replace F := F.2 c
    refine wp_iload' (L' := [some (vR l0), none, some (vI l2), none, some (vI l4), some (vI l5), none]) rfl rfl rfl rfl ?_
    refine wp_aload rfl rfl rfl ?_
    obtain ⟨f0, F⟩ := F
    refine wp_getR rfl rfl rfl f0 rfl ?_
    obtain ⟨f1, F⟩ := F
    refine wp_getI rfl rfl rfl f1 rfl ?_
    refine wp_icmp_ge rfl rfl rfl rfl rfl (fun c => ?_) (fun c => ?_)
    · replace F := F.1 c
      refine wp_iload rfl rfl rfl ?_
      refine wp_aload rfl rfl rfl ?_
      refine wp_getR rfl rfl rfl f0 rfl ?_
      refine wp_getI rfl rfl rfl f1 rfl ?_
      refine wp_icmp_ge rfl rfl rfl rfl rfl (fun c => ?_) (fun c => ?_)
      · replace F := F.1 c
        refine wp_const rfl rfl ?_
        refine wp_goto rfl rfl ?_
        exact F
      · replace F := F.2 c
        refine wp_const' (L' := [some (vR l0), none, some (vI l2), none, some (vI l4), some (vI l5), none]) rfl rfl rfl ?_
        exact F
    · replace F := F.2 c
      refine wp_const' (L' := [some (vR l0), none, some (vI l2), none, some (vI l4), some (vI l5), none]) rfl rfl rfl ?_
      exact F
theorem w318_55 {d : Nat} {l0 : Nat} {l2 : Int32} {l4 : Int32} {l5 : Int32} {s0 : Int32} {h : aH} {K : Int32 → aH → Prop} {X : Nat → aH → Prop} (F : ((s0.toInt = 0 → gK h l0 = 7 ∧ 8 ≤ (gR h l0 0) ∧ gK h (gR h l0 0) = 11 ∧ CI d 270 [vR (gR h l0 0), vR (gR h l0 1), vI l4, vI l5] h (fun y0 h0 => K y0 h0) X) ∧ (¬ s0.toInt = 0 → gK h l0 = 7 ∧ 8 ≤ (gR h l0 0) ∧ gK h (gR h l0 0) = 11 ∧ CI d 290 [vR (gR h l0 0), vI l4, vI l5] h (fun y1 h1 => ((((gI h l0 2) &&& y1).toInt = 0 → gK h1 l0 = 7 ∧ 8 ≤ (gR h1 l0 0) ∧ gK h1 (gR h1 l0 0) = 11 ∧ CI d 270 [vR (gR h1 l0 0), vR (gR h1 l0 1), vI l4, vI l5] h1 (fun y2 h2 => K y2 h2) X) ∧ (¬ ((gI h l0 2) &&& y1).toInt = 0 → (((l2 &&& 4).toInt = 0 → K (-14) h1) ∧ (¬ (l2 &&& 4).toInt = 0 → gK h1 l0 = 7 ∧ 8 ≤ (gR h1 l0 0) ∧ gK h1 (gR h1 l0 0) = 11 ∧ CI d 270 [vR (gR h1 l0 0), vR (gR h1 l0 1), vI l4, vI l5] h1 (fun y3 h3 => K y3 h3) X))))) X))) : Wp (d + 1) 318 (55, [some (vR l0), none, some (vI l2), none, some (vI l4), some (vI l5), none], [vI s0], h) (RI K X) := by
  refine wp_istore' (L' := [some (vR l0), none, some (vI l2), none, some (vI l4), some (vI l5), none]) (L2 := [some (vR l0), none, some (vI l2), none, some (vI l4), some (vI l5), some (vI s0)]) rfl rfl rfl rfl rfl ?_
  refine wp_iload rfl rfl rfl ?_
  refine wp_if_eq rfl rfl rfl rfl (fun c => ?_) (fun c => ?_)
  · replace F := F.1 c
    refine wp_aload' (L' := [some (vR l0), none, none, none, some (vI l4), some (vI l5), none]) rfl rfl rfl rfl ?_
    obtain ⟨f0, F⟩ := F
    refine wp_getR rfl rfl rfl f0 rfl ?_
    refine wp_aload rfl rfl rfl ?_
    refine wp_getR rfl rfl rfl f0 rfl ?_
    refine wp_iload rfl rfl rfl ?_
    refine wp_iload rfl rfl rfl ?_
    obtain ⟨f1, F⟩ := F
    obtain ⟨f2, F⟩ := F
    refine wp_callI rfl rfl rfl (rcv_v f1 f2 (by decide) (by decide)) rfl rfl rfl rfl ?_
    refine CI.mono F (fun y0 h0 F => ?_) (fun _ _ w => rx_I w)
    exact wp_retI rfl (Or.inl rfl) F
  · replace F := F.2 c
    refine wp_aload rfl rfl rfl ?_
    obtain ⟨f3, F⟩ := F
    refine wp_getI rfl rfl rfl f3 rfl ?_
    refine wp_aload rfl rfl rfl ?_
    refine wp_getR rfl rfl rfl f3 rfl ?_
    refine wp_iload rfl rfl rfl ?_
    refine wp_iload rfl rfl rfl ?_
    obtain ⟨f4, F⟩ := F
    obtain ⟨f5, F⟩ := F
    refine wp_callI rfl rfl rfl (rcv_v f4 f5 (by decide) (by decide)) rfl rfl rfl rfl ?_
    refine CI.mono F (fun y1 h1 F => ?_) (fun _ _ w => rx_I w)
    refine wp_iand rfl rfl ?_
    refine wp_if_eq rfl rfl rfl rfl (fun c => ?_) (fun c => ?_)
    · replace F := F.1 c
      refine wp_aload' (L' := [some (vR l0), none, none, none, some (vI l4), some (vI l5), none]) rfl rfl rfl rfl ?_
      obtain ⟨f6, F⟩ := F
      refine wp_getR rfl rfl rfl f6 rfl ?_
      refine wp_aload rfl rfl rfl ?_
      refine wp_getR rfl rfl rfl f6 rfl ?_
      refine wp_iload rfl rfl rfl ?_
      refine wp_iload rfl rfl rfl ?_
      obtain ⟨f7, F⟩ := F
      obtain ⟨f8, F⟩ := F
      refine wp_callI rfl rfl rfl (rcv_v f7 f8 (by decide) (by decide)) rfl rfl rfl rfl ?_
      refine CI.mono F (fun y2 h2 F => ?_) (fun _ _ w => rx_I w)
      exact wp_retI rfl (Or.inl rfl) F
    · replace F := F.2 c
      refine wp_iload rfl rfl rfl ?_
      refine wp_const rfl rfl ?_
      refine wp_iand rfl rfl ?_
      refine wp_if_ne rfl rfl rfl rfl (fun c => ?_) (fun c => ?_)
      · replace F := F.1 c
        refine wp_const rfl rfl ?_
        exact wp_retI rfl (Or.inl rfl) F
      · replace F := F.2 c
        refine wp_aload' (L' := [some (vR l0), none, none, none, some (vI l4), some (vI l5), none]) rfl rfl rfl rfl ?_
        obtain ⟨f9, F⟩ := F
        refine wp_getR rfl rfl rfl f9 rfl ?_
        refine wp_aload rfl rfl rfl ?_
        refine wp_getR rfl rfl rfl f9 rfl ?_
        refine wp_iload rfl rfl rfl ?_
        refine wp_iload rfl rfl rfl ?_
        obtain ⟨f10, F⟩ := F
        obtain ⟨f11, F⟩ := F
        refine wp_callI rfl rfl rfl (rcv_v f10 f11 (by decide) (by decide)) rfl rfl rfl rfl ?_
        refine CI.mono F (fun y3 h3 F => ?_) (fun _ _ w => rx_I w)
        exact wp_retI rfl (Or.inl rfl) F
-- CensusOffice look (IIII)I
theorem m319 {d : Nat} {a0 : Nat} {a1 : Int32} {a2 : Int32} {a3 : Int32} {a4 : Int32} {h : aH} {K : Int32 → aH → Prop} {X : Nat → aH → Prop} (F : 8 ≤ a0 ∧ gK h a0 = 1 ∧ CV d 312 [vR a0, vI a1] h (fun h0 => gK h0 a0 = 1 ∧ CR d 317 [vR a0, vI a2] h0 (fun q0 h1 => gK h1 q0 = 7 ∧ gK h1 a0 = 1 ∧ CV d 268 [vR a0, vR (gR h1 q0 0), vI a3, vI a4] h1 (fun h2 => gK h2 a0 = 1 ∧ 8 ≤ (gR h2 a0 11) ∧ gK h2 (gR h2 a0 11) = 8 ∧ CI d 18 [vR (gR h2 a0 11)] h2 (fun y0 h3 => ((y0.toInt = 0 → gK h3 a0 = 1 ∧ 8 ≤ (gR h3 a0 10) ∧ gK h3 (gR h3 a0 10) = 8 ∧ CI d 32 [vR (gR h3 a0 10), vI a1, vI 0] h3 (fun y1 h4 => gK h4 a0 = 1 ∧ 8 ≤ q0 ∧ gK h4 q0 = 7 ∧ CI d 318 [vR q0, vI a1, vI y1, vI (gI h4 a0 12), vI a3, vI a4] h4 (fun y2 h5 => gK h5 a0 = 1 ∧ 8 ≤ (gR h5 a0 11) ∧ gK h5 (gR h5 a0 11) = 8 ∧ CI d 21 [vR (gR h5 a0 11)] h5 (fun y3 h6 => gK h6 a0 = 1 ∧ 8 ≤ (gR h6 a0 11) ∧ gK h6 (gR h6 a0 11) = 8 ∧ CV d 23 [vR (gR h6 a0 11), vI y3, vI 0, vI a1] h6 (fun h7 => gK h7 a0 = 1 ∧ 8 ≤ (gR h7 a0 11) ∧ gK h7 (gR h7 a0 11) = 8 ∧ CV d 23 [vR (gR h7 a0 11), vI y3, vI 1, vI a2] h7 (fun h8 => gK h8 a0 = 1 ∧ 8 ≤ (gR h8 a0 11) ∧ gK h8 (gR h8 a0 11) = 8 ∧ CV d 23 [vR (gR h8 a0 11), vI y3, vI 2, vI a3] h8 (fun h9 => gK h9 a0 = 1 ∧ 8 ≤ (gR h9 a0 11) ∧ gK h9 (gR h9 a0 11) = 8 ∧ CV d 23 [vR (gR h9 a0 11), vI y3, vI 3, vI a4] h9 (fun h10 => gK h10 a0 = 1 ∧ 8 ≤ (gR h10 a0 11) ∧ gK h10 (gR h10 a0 11) = 8 ∧ CV d 23 [vR (gR h10 a0 11), vI y3, vI 4, vI y2] h10 (fun h11 => gK h11 a0 = 1 ∧ 8 ≤ (gR h11 a0 11) ∧ gK h11 (gR h11 a0 11) = 8 ∧ CV d 23 [vR (gR h11 a0 11), vI y3, vI 5, vI (gI h11 a0 12)] h11 (fun h12 => K y2 h12) X) X) X) X) X) X) X) X) X) ∧ (¬ y0.toInt = 0 → X 4 (gNew h3 200 6)))) X) X) X) X) : CI (d + 1) 319 [vR a0, vI a1, vI a2, vI a3, vI a4] h K X := by
  show Wp (d + 1) 319 (0, [some (vR a0), some (vI a1), some (vI a2), some (vI a3), some (vI a4), none, none, none], [], h) (RI K X)
  refine wp_aload rfl rfl rfl ?_
  refine wp_iload rfl rfl rfl ?_
  obtain ⟨f0, F⟩ := F
  obtain ⟨f1, F⟩ := F
  refine wp_callV rfl rfl rfl (rcv_v f0 f1 (by decide) (by decide)) rfl rfl rfl rfl ?_
  refine CV.mono F (fun h0 F => ?_) (fun _ _ w => rx_I w)
  refine wp_aload rfl rfl rfl ?_
  refine wp_iload rfl rfl rfl ?_
  obtain ⟨f2, F⟩ := F
  refine wp_callR rfl rfl rfl (rcv_v f0 f2 (by decide) (by decide)) rfl rfl rfl rfl ?_
  refine CR.mono F (fun q0 h1 F => ?_) (fun _ _ w => rx_I w)
  refine wp_astore (L2 := [some (vR a0), some (vI a1), some (vI a2), some (vI a3), some (vI a4), some (vR q0), none, none]) rfl rfl rfl rfl ?_
  refine wp_aload rfl rfl rfl ?_
  refine wp_aload rfl rfl rfl ?_
  obtain ⟨f3, F⟩ := F
  refine wp_getR rfl rfl rfl f3 rfl ?_
  refine wp_iload rfl rfl rfl ?_
  refine wp_iload rfl rfl rfl ?_
  obtain ⟨f4, F⟩ := F
  refine wp_callV rfl rfl rfl (rcv_v f0 f4 (by decide) (by decide)) rfl rfl rfl rfl ?_
  refine CV.mono F (fun h2 F => ?_) (fun _ _ w => rx_I w)
  refine wp_aload rfl rfl rfl ?_
  obtain ⟨f5, F⟩ := F
  refine wp_getR rfl rfl rfl f5 rfl ?_
  obtain ⟨f6, F⟩ := F
  obtain ⟨f7, F⟩ := F
  refine wp_callI rfl rfl rfl (rcv_v f6 f7 (by decide) (by decide)) rfl rfl rfl rfl ?_
  refine CI.mono F (fun y0 h3 F => ?_) (fun _ _ w => rx_I w)
  refine wp_if_eq rfl rfl rfl rfl (fun c => ?_) (fun c => ?_)
  · replace F := F.1 c
    refine wp_aload' (L' := [some (vR a0), some (vI a1), some (vI a2), some (vI a3), some (vI a4), some (vR q0), none, none]) rfl rfl rfl rfl ?_
    refine wp_iload rfl rfl rfl ?_
    refine wp_aload rfl rfl rfl ?_
    obtain ⟨f8, F⟩ := F
    refine wp_getR rfl rfl rfl f8 rfl ?_
    refine wp_iload rfl rfl rfl ?_
    refine wp_const rfl rfl ?_
    obtain ⟨f9, F⟩ := F
    obtain ⟨f10, F⟩ := F
    refine wp_callI rfl rfl rfl (rcv_v f9 f10 (by decide) (by decide)) rfl rfl rfl rfl ?_
    refine CI.mono F (fun y1 h4 F => ?_) (fun _ _ w => rx_I w)
    refine wp_aload rfl rfl rfl ?_
    obtain ⟨f11, F⟩ := F
    refine wp_getI rfl rfl rfl f11 rfl ?_
    refine wp_iload rfl rfl rfl ?_
    refine wp_iload rfl rfl rfl ?_
    obtain ⟨f12, F⟩ := F
    obtain ⟨f13, F⟩ := F
    refine wp_callI rfl rfl rfl (rcv_v f12 f13 (by decide) (by decide)) rfl rfl rfl rfl ?_
    refine CI.mono F (fun y2 h5 F => ?_) (fun _ _ w => rx_I w)
    refine wp_istore (L2 := [some (vR a0), some (vI a1), some (vI a2), some (vI a3), some (vI a4), some (vR q0), some (vI y2), none]) rfl rfl rfl rfl ?_
    refine wp_aload rfl rfl rfl ?_
    obtain ⟨f14, F⟩ := F
    refine wp_getR rfl rfl rfl f14 rfl ?_
    obtain ⟨f15, F⟩ := F
    obtain ⟨f16, F⟩ := F
    refine wp_callI rfl rfl rfl (rcv_v f15 f16 (by decide) (by decide)) rfl rfl rfl rfl ?_
    refine CI.mono F (fun y3 h6 F => ?_) (fun _ _ w => rx_I w)
    refine wp_istore (L2 := [some (vR a0), some (vI a1), some (vI a2), some (vI a3), some (vI a4), some (vR q0), some (vI y2), some (vI y3)]) rfl rfl rfl rfl ?_
    refine wp_aload rfl rfl rfl ?_
    obtain ⟨f17, F⟩ := F
    refine wp_getR rfl rfl rfl f17 rfl ?_
    refine wp_iload rfl rfl rfl ?_
    refine wp_const rfl rfl ?_
    refine wp_iload rfl rfl rfl ?_
    obtain ⟨f18, F⟩ := F
    obtain ⟨f19, F⟩ := F
    refine wp_callV rfl rfl rfl (rcv_v f18 f19 (by decide) (by decide)) rfl rfl rfl rfl ?_
    refine CV.mono F (fun h7 F => ?_) (fun _ _ w => rx_I w)
    refine wp_aload rfl rfl rfl ?_
    obtain ⟨f20, F⟩ := F
    refine wp_getR rfl rfl rfl f20 rfl ?_
    refine wp_iload rfl rfl rfl ?_
    refine wp_const rfl rfl ?_
    refine wp_iload rfl rfl rfl ?_
    obtain ⟨f21, F⟩ := F
    obtain ⟨f22, F⟩ := F
    refine wp_callV rfl rfl rfl (rcv_v f21 f22 (by decide) (by decide)) rfl rfl rfl rfl ?_
    refine CV.mono F (fun h8 F => ?_) (fun _ _ w => rx_I w)
    refine wp_aload rfl rfl rfl ?_
    obtain ⟨f23, F⟩ := F
    refine wp_getR rfl rfl rfl f23 rfl ?_
    refine wp_iload rfl rfl rfl ?_
    refine wp_const rfl rfl ?_
    refine wp_iload rfl rfl rfl ?_
    obtain ⟨f24, F⟩ := F
    obtain ⟨f25, F⟩ := F
    refine wp_callV rfl rfl rfl (rcv_v f24 f25 (by decide) (by decide)) rfl rfl rfl rfl ?_
    refine CV.mono F (fun h9 F => ?_) (fun _ _ w => rx_I w)
    refine wp_aload rfl rfl rfl ?_
    obtain ⟨f26, F⟩ := F
    refine wp_getR rfl rfl rfl f26 rfl ?_
    refine wp_iload rfl rfl rfl ?_
    refine wp_const rfl rfl ?_
    refine wp_iload rfl rfl rfl ?_
    obtain ⟨f27, F⟩ := F
    obtain ⟨f28, F⟩ := F
    refine wp_callV rfl rfl rfl (rcv_v f27 f28 (by decide) (by decide)) rfl rfl rfl rfl ?_
    refine CV.mono F (fun h10 F => ?_) (fun _ _ w => rx_I w)
    refine wp_aload rfl rfl rfl ?_
    obtain ⟨f29, F⟩ := F
    refine wp_getR rfl rfl rfl f29 rfl ?_
    refine wp_iload rfl rfl rfl ?_
    refine wp_const rfl rfl ?_
    refine wp_iload rfl rfl rfl ?_
    obtain ⟨f30, F⟩ := F
    obtain ⟨f31, F⟩ := F
    refine wp_callV rfl rfl rfl (rcv_v f30 f31 (by decide) (by decide)) rfl rfl rfl rfl ?_
    refine CV.mono F (fun h11 F => ?_) (fun _ _ w => rx_I w)
    refine wp_aload rfl rfl rfl ?_
    obtain ⟨f32, F⟩ := F
    refine wp_getR rfl rfl rfl f32 rfl ?_
    refine wp_iload rfl rfl rfl ?_
    refine wp_const rfl rfl ?_
    refine wp_aload rfl rfl rfl ?_
    refine wp_getI rfl rfl rfl f32 rfl ?_
    obtain ⟨f33, F⟩ := F
    obtain ⟨f34, F⟩ := F
    refine wp_callV rfl rfl rfl (rcv_v f33 f34 (by decide) (by decide)) rfl rfl rfl rfl ?_
    refine CV.mono F (fun h12 F => ?_) (fun _ _ w => rx_I w)
    refine wp_iload rfl rfl rfl ?_
    exact wp_retI rfl (Or.inl rfl) F
  · replace F := F.2 c
    exact wp_thrI rfl F
-- CensusOfficeLaw look (LCensusOffice;IIII[J)I
theorem m320 {d : Nat} {a0 : Nat} {a1 : Int32} {a2 : Int32} {a3 : Int32} {a4 : Int32} {a5 : Nat} {h : aH} {K : Int32 → aH → Prop} {X : Nat → aH → Prop} (F : 8 ≤ a0 ∧ gK h a0 = 1 ∧ CI d 319 [vR a0, vI a1, vI a2, vI a3, vI a4] h (fun y0 h0 => 8 ≤ a5 ∧ inB h0 101 a5 0 0 ∧ ∀ h1 : aH, h1 = pJ h0 a5 0 (y0.toInt64) → K 0 h1) (fun x9 h9 => (x9 = 3 ∧ K 1 h9) ∨ (x9 = 4 ∧ K 2 h9))) : CI (d + 1) 320 [vR a0, vI a1, vI a2, vI a3, vI a4, vR a5] h K X := by
  show Wp (d + 1) 320 (0, [some (vR a0), some (vI a1), some (vI a2), some (vI a3), some (vI a4), some (vR a5), none], [], h) (RI K X)
  refine wp_aload rfl rfl rfl ?_
  refine wp_const rfl rfl ?_
  refine wp_aload rfl rfl rfl ?_
  refine wp_iload rfl rfl rfl ?_
  refine wp_iload rfl rfl rfl ?_
  refine wp_iload rfl rfl rfl ?_
  refine wp_iload rfl rfl rfl ?_
  obtain ⟨f0, F⟩ := F
  obtain ⟨f1, F⟩ := F
  refine wp_callhI (X := (fun x9 h9 => (x9 = 3 ∧ K 1 h9) ∨ (x9 = 4 ∧ K 2 h9))) rfl rfl rfl (rcv_v f0 f1 (by decide) (by decide)) rfl rfl rfl (fun x9 h9 F => ?_) ?_
  · rcases F with ⟨rfl, F⟩ | ⟨rfl, F⟩
    · refine ⟨17, rfl, ?_⟩
      refine wp_astoreJ' (L' := [none, none, none, none, none, none, none]) (L2 := [none, none, none, none, none, none, some vJ]) rfl rfl rfl rfl rfl ?_
      refine wp_const rfl rfl ?_
      exact wp_retI rfl (Or.inl rfl) F
    · refine ⟨21, rfl, ?_⟩
      refine wp_astoreJ' (L' := [none, none, none, none, none, none, none]) (L2 := [none, none, none, none, none, none, some vJ]) rfl rfl rfl rfl rfl ?_
      refine wp_const rfl rfl ?_
      exact wp_retI rfl (Or.inl rfl) F
  · refine CI.mono F (fun y0 h0 F => ?_) (fun _ _ w => w)
    refine wp_i2l rfl rfl ?_
    obtain ⟨f2, F⟩ := F
    obtain ⟨b9, F⟩ := F
    refine wp_lastore rfl f2 b9 rfl ?_
    replace F := F _ rfl
    generalize pJ h0 a5 0 (y0.toInt64) = h1 at F ⊢
    refine wp_goto rfl rfl ?_
    refine wp_const' (L' := [none, none, none, none, none, none, none]) rfl rfl rfl ?_
    exact wp_retI rfl (Or.inl rfl) F
