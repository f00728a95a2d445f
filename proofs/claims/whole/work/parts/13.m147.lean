/-! THE FORMULAS OF THE METHODS 147 TO 168 (written by wip/tools/gen13.py): what a run from a cut point needs -/
-- CensusOfficeModel holds (II)Z
theorem m147 {d : Nat} {a0 : Nat} {a1 : Int32} {a2 : Int32} {h : aH} {K : Int32 → aH → Prop} {X : Nat → aH → Prop} (F : 8 ≤ a0 ∧ gK h a0 = 14 ∧ ∀ h0 : aH, h0 = pI h a0 37 0 → Wp (d + 1) 147 (13, [some (vR a0), none, some (vI a2), some (vI 0), some (vI 1), some (vI a1), none, none, none, none], [], h0) (RI K X)) : CI (d + 1) 147 [vR a0, vI a1, vI a2] h K X := by
  show Wp (d + 1) 147 (0, [some (vR a0), some (vI a1), some (vI a2), none, none, none, none, none, none, none], [], h) (RI K X)
  refine wp_aload rfl rfl rfl ?_
  refine wp_const rfl rfl ?_
  obtain ⟨f0, F⟩ := F
  obtain ⟨f1, F⟩ := F
  refine wp_putZ rfl rfl rfl f0 f1 rfl rfl ?_
  have f2 : gK (pI h a0 37 0) a0 = 14 := (gK_pI _ _ _ _ _).trans f1
  replace F := F _ rfl
  generalize pI h a0 37 0 = h0 at F f2 ⊢
  refine wp_const rfl rfl ?_
  refine wp_istore (L2 := [some (vR a0), some (vI a1), some (vI a2), some (vI 0), none, none, none, none, none, none]) rfl rfl rfl rfl ?_
  refine wp_const rfl rfl ?_
  refine wp_istore (L2 := [some (vR a0), some (vI a1), some (vI a2), some (vI 0), some (vI 1), none, none, none, none, none]) rfl rfl rfl rfl ?_
  refine wp_iload rfl rfl rfl ?_
  refine wp_istore (L2 := [some (vR a0), some (vI a1), some (vI a2), some (vI 0), some (vI 1), some (vI a1), none, none, none, none]) rfl rfl rfl rfl ?_
  refine wp_kill (L' := [some (vR a0), none, some (vI a2), some (vI 0), some (vI 1), some (vI a1), none, none, none, none]) rfl rfl ?_
  exact F
theorem w147_13 {d : Nat} {l0 : Nat} {l2 : Int32} {l3 : Int32} {l4 : Int32} {l5 : Int32} {h : aH} {K : Int32 → aH → Prop} {X : Nat → aH → Prop} (F : ((l5.toInt < l2.toInt → 8 ≤ l0 ∧ gK h l0 = 14 ∧ CI d 146 [vR l0, vI l5, vI l2] h (fun y0 h0 => gK h0 l0 = 14 ∧ ∃ i0 : Nat, inB h0 100 (gR h0 l0 25) (gI h0 l0 36) i0 ∧ ∀ v0 : Int32, v0 = gI h0 (gR h0 l0 25) i0 → CI d 146 [vR l0, vI ((gI h0 l0 36) + 1), vI l2] h0 (fun y1 h1 => gK h1 l0 = 14 ∧ (((gI h1 l0 37).toInt = 0 → ((y0.toInt = (-2000000) → Wp (d + 1) 147 (79, [some (vR l0), none, some (vI l2), some (vI l3), some (vI l4), none, some (vI y0), some (vI v0), some (vI y1), none], [vI 1, vR l0], h1) (RI K X)) ∧ (¬ y0.toInt = (-2000000) → ((y1.toInt = (-2000000) → Wp (d + 1) 147 (79, [some (vR l0), none, some (vI l2), some (vI l3), some (vI l4), none, some (vI y0), some (vI v0), some (vI y1), none], [vI 1, vR l0], h1) (RI K X)) ∧ (¬ y1.toInt = (-2000000) → Wp (d + 1) 147 (79, [some (vR l0), none, some (vI l2), some (vI l3), some (vI l4), none, some (vI y0), some (vI v0), some (vI y1), none], [vI 0, vR l0], h1) (RI K X)))))) ∧ (¬ (gI h1 l0 37).toInt = 0 → Wp (d + 1) 147 (79, [some (vR l0), none, some (vI l2), some (vI l3), some (vI l4), none, some (vI y0), some (vI v0), some (vI y1), none], [vI 1, vR l0], h1) (RI K X)))) X) X) ∧ (¬ l5.toInt < l2.toInt → ((l3.toInt = 0 → ((l4.toInt = 0 → K 0 h) ∧ (¬ l4.toInt = 0 → K 1 h))) ∧ (¬ l3.toInt = 0 → K 1 h))))) : Wp (d + 1) 147 (13, [some (vR l0), none, some (vI l2), some (vI l3), some (vI l4), some (vI l5), none, none, none, none], [], h) (RI K X) := by
  refine wp_iload' (L' := [some (vR l0), none, some (vI l2), some (vI l3), some (vI l4), some (vI l5), none, none, none, none]) rfl rfl rfl rfl ?_
  refine wp_iload rfl rfl rfl ?_
  refine wp_icmp_ge rfl rfl rfl rfl rfl (fun c => ?_) (fun c => ?_)
  · replace F := F.1 c
    refine wp_aload rfl rfl rfl ?_
    refine wp_iload rfl rfl rfl ?_
    refine wp_iload rfl rfl rfl ?_
    obtain ⟨f0, F⟩ := F
    obtain ⟨f1, F⟩ := F
    refine wp_callI rfl rfl rfl (rcv_v f0 f1 (by decide) (by decide)) rfl rfl rfl rfl ?_
    refine CI.mono F (fun y0 h0 F => ?_) (fun _ _ w => rx_I w)
    refine wp_istore (L2 := [some (vR l0), none, some (vI l2), some (vI l3), some (vI l4), some (vI l5), some (vI y0), none, none, none]) rfl rfl rfl rfl ?_
    refine wp_aload rfl rfl rfl ?_
    obtain ⟨f2, F⟩ := F
    refine wp_getR rfl rfl rfl f2 rfl ?_
    refine wp_aload rfl rfl rfl ?_
    refine wp_getI rfl rfl rfl f2 rfl ?_
    obtain ⟨i0, b9, F⟩ := F
    refine wp_iaload rfl b9 rfl ?_
    replace F := F _ rfl
    generalize (gI h0 (gR h0 l0 25) i0 : Int32) = v0 at F ⊢
    refine wp_istore (L2 := [some (vR l0), none, some (vI l2), some (vI l3), some (vI l4), some (vI l5), some (vI y0), some (vI v0), none, none]) rfl rfl rfl rfl ?_
    refine wp_aload rfl rfl rfl ?_
    refine wp_aload rfl rfl rfl ?_
    refine wp_getI rfl rfl rfl f2 rfl ?_
    refine wp_const rfl rfl ?_
    refine wp_iadd rfl rfl ?_
    refine wp_iload rfl rfl rfl ?_
    refine wp_callI rfl rfl rfl (rcv_v f0 f2 (by decide) (by decide)) rfl rfl rfl rfl ?_
    refine CI.mono F (fun y1 h1 F => ?_) (fun _ _ w => rx_I w)
    refine wp_istore (L2 := [some (vR l0), none, some (vI l2), some (vI l3), some (vI l4), some (vI l5), some (vI y0), some (vI v0), some (vI y1), none]) rfl rfl rfl rfl ?_
    refine wp_aload rfl rfl rfl ?_
    refine wp_aload rfl rfl rfl ?_
    obtain ⟨f3, F⟩ := F
    refine wp_getI rfl rfl rfl f3 rfl ?_
    refine wp_if_ne rfl rfl rfl rfl (fun c => ?_) (fun c => ?_)
    · replace F := F.1 c
      refine wp_iload rfl rfl rfl ?_
      refine wp_const rfl rfl ?_
      refine wp_icmp_eq (Y := (-2000000)) rfl rfl rfl rfl rfl (fun c => ?_) (fun c => ?_)
      · replace F := F.1 c
        refine wp_const' (L' := [some (vR l0), none, some (vI l2), some (vI l3), some (vI l4), none, some (vI y0), some (vI v0), some (vI y1), none]) rfl rfl rfl ?_
        refine wp_goto rfl rfl ?_
        exact F
      · replace F := F.2 c
        refine wp_iload rfl rfl rfl ?_
        refine wp_const rfl rfl ?_
        refine wp_icmp_ne (Y := (-2000000)) rfl rfl rfl rfl rfl (fun c => ?_) (fun c => ?_)
        · replace F := F.1 c
          refine wp_const' (L' := [some (vR l0), none, some (vI l2), some (vI l3), some (vI l4), none, some (vI y0), some (vI v0), some (vI y1), none]) rfl rfl rfl ?_
          refine wp_goto rfl rfl ?_
          exact F
        · replace F := F.2 c
          refine wp_const' (L' := [some (vR l0), none, some (vI l2), some (vI l3), some (vI l4), none, some (vI y0), some (vI v0), some (vI y1), none]) rfl rfl rfl ?_
          exact F
    · replace F := F.2 c
      refine wp_const' (L' := [some (vR l0), none, some (vI l2), some (vI l3), some (vI l4), none, some (vI y0), some (vI v0), some (vI y1), none]) rfl rfl rfl ?_
      refine wp_goto rfl rfl ?_
      exact F
  · replace F := F.2 c
    refine wp_iload' (L' := [none, none, none, some (vI l3), some (vI l4), none, none, none, none, none]) rfl rfl rfl rfl ?_
    refine wp_if_ne rfl rfl rfl rfl (fun c => ?_) (fun c => ?_)
    · replace F := F.1 c
      refine wp_iload rfl rfl rfl ?_
      refine wp_if_eq rfl rfl rfl rfl (fun c => ?_) (fun c => ?_)
      · replace F := F.1 c
        refine wp_const' (L' := [none, none, none, none, none, none, none, none, none, none]) rfl rfl rfl ?_
        exact wp_retI rfl (Or.inr rfl) F
      · replace F := F.2 c
        refine wp_const' (L' := [none, none, none, none, none, none, none, none, none, none]) rfl rfl rfl ?_
        refine wp_goto rfl rfl ?_
        exact wp_retI rfl (Or.inr rfl) F
    · replace F := F.2 c
      refine wp_const' (L' := [none, none, none, none, none, none, none, none, none, none]) rfl rfl rfl ?_
      refine wp_goto rfl rfl ?_
      exact wp_retI rfl (Or.inr rfl) F
theorem w147_79 {d : Nat} {l0 : Nat} {l2 : Int32} {l3 : Int32} {l4 : Int32} {l6 : Int32} {l7 : Int32} {l8 : Int32} {s0 : Int32} {s1 : Nat} {h : aH} {K : Int32 → aH → Prop} {X : Nat → aH → Prop} (F : 8 ≤ s1 ∧ gK h s1 = 14 ∧ s0 &&& 1 = s0 ∧ ∀ h0 : aH, h0 = pI h s1 37 s0 → ((l6.toInt = (-2000000) → ((l4.toInt = 0 → Wp (d + 1) 147 (209, [some (vR l0), none, some (vI l2), some (vI l3), none, none, none, none, none, none], [vI 0], h0) (RI K X)) ∧ (¬ l4.toInt = 0 → Wp (d + 1) 147 (209, [some (vR l0), none, some (vI l2), some (vI l3), none, none, none, none, none, none], [vI 0], h0) (RI K X)))) ∧ (¬ l6.toInt = (-2000000) → ((l8.toInt = (-2000000) → ((l4.toInt = 0 → Wp (d + 1) 147 (209, [some (vR l0), none, some (vI l2), some (vI l3), none, none, none, none, none, none], [vI 0], h0) (RI K X)) ∧ (¬ l4.toInt = 0 → Wp (d + 1) 147 (209, [some (vR l0), none, some (vI l2), some (vI l3), none, none, none, none, none, none], [vI 0], h0) (RI K X)))) ∧ (¬ l8.toInt = (-2000000) → ((l7.toInt = 5 → ((l6.toInt < l8.toInt → ((l4.toInt = 0 → Wp (d + 1) 147 (209, [some (vR l0), none, some (vI l2), some (vI l3), none, none, none, none, none, none], [vI 0], h0) (RI K X)) ∧ (¬ l4.toInt = 0 → Wp (d + 1) 147 (209, [some (vR l0), none, some (vI l2), some (vI l3), none, none, none, none, none, none], [vI 1], h0) (RI K X)))) ∧ (¬ l6.toInt < l8.toInt → ((l4.toInt = 0 → Wp (d + 1) 147 (209, [some (vR l0), none, some (vI l2), some (vI l3), none, none, none, none, none, none], [vI 0], h0) (RI K X)) ∧ (¬ l4.toInt = 0 → Wp (d + 1) 147 (209, [some (vR l0), none, some (vI l2), some (vI l3), none, none, none, none, none, none], [vI 0], h0) (RI K X)))))) ∧ (¬ l7.toInt = 5 → ((l7.toInt = 6 → ((l8.toInt < l6.toInt → ((l4.toInt = 0 → Wp (d + 1) 147 (209, [some (vR l0), none, some (vI l2), some (vI l3), none, none, none, none, none, none], [vI 0], h0) (RI K X)) ∧ (¬ l4.toInt = 0 → Wp (d + 1) 147 (209, [some (vR l0), none, some (vI l2), some (vI l3), none, none, none, none, none, none], [vI 0], h0) (RI K X)))) ∧ (¬ l8.toInt < l6.toInt → ((l4.toInt = 0 → Wp (d + 1) 147 (209, [some (vR l0), none, some (vI l2), some (vI l3), none, none, none, none, none, none], [vI 0], h0) (RI K X)) ∧ (¬ l4.toInt = 0 → Wp (d + 1) 147 (209, [some (vR l0), none, some (vI l2), some (vI l3), none, none, none, none, none, none], [vI 1], h0) (RI K X)))))) ∧ (¬ l7.toInt = 6 → ((l7.toInt = 7 → ((l6.toInt = l8.toInt → ((l4.toInt = 0 → Wp (d + 1) 147 (209, [some (vR l0), none, some (vI l2), some (vI l3), none, none, none, none, none, none], [vI 0], h0) (RI K X)) ∧ (¬ l4.toInt = 0 → Wp (d + 1) 147 (209, [some (vR l0), none, some (vI l2), some (vI l3), none, none, none, none, none, none], [vI 1], h0) (RI K X)))) ∧ (¬ l6.toInt = l8.toInt → ((l4.toInt = 0 → Wp (d + 1) 147 (209, [some (vR l0), none, some (vI l2), some (vI l3), none, none, none, none, none, none], [vI 0], h0) (RI K X)) ∧ (¬ l4.toInt = 0 → Wp (d + 1) 147 (209, [some (vR l0), none, some (vI l2), some (vI l3), none, none, none, none, none, none], [vI 0], h0) (RI K X)))))) ∧ (¬ l7.toInt = 7 → ((l7.toInt = 8 → ((l6.toInt = l8.toInt → ((l4.toInt = 0 → Wp (d + 1) 147 (209, [some (vR l0), none, some (vI l2), some (vI l3), none, none, none, none, none, none], [vI 0], h0) (RI K X)) ∧ (¬ l4.toInt = 0 → Wp (d + 1) 147 (209, [some (vR l0), none, some (vI l2), some (vI l3), none, none, none, none, none, none], [vI 0], h0) (RI K X)))) ∧ (¬ l6.toInt = l8.toInt → ((l4.toInt = 0 → Wp (d + 1) 147 (209, [some (vR l0), none, some (vI l2), some (vI l3), none, none, none, none, none, none], [vI 0], h0) (RI K X)) ∧ (¬ l4.toInt = 0 → Wp (d + 1) 147 (209, [some (vR l0), none, some (vI l2), some (vI l3), none, none, none, none, none, none], [vI 1], h0) (RI K X)))))) ∧ (¬ l7.toInt = 8 → ((l7.toInt = 9 → ((l6.toInt < l8.toInt → ((l4.toInt = 0 → Wp (d + 1) 147 (209, [some (vR l0), none, some (vI l2), some (vI l3), none, none, none, none, none, none], [vI 0], h0) (RI K X)) ∧ (¬ l4.toInt = 0 → Wp (d + 1) 147 (209, [some (vR l0), none, some (vI l2), some (vI l3), none, none, none, none, none, none], [vI 0], h0) (RI K X)))) ∧ (¬ l6.toInt < l8.toInt → ((l4.toInt = 0 → Wp (d + 1) 147 (209, [some (vR l0), none, some (vI l2), some (vI l3), none, none, none, none, none, none], [vI 0], h0) (RI K X)) ∧ (¬ l4.toInt = 0 → Wp (d + 1) 147 (209, [some (vR l0), none, some (vI l2), some (vI l3), none, none, none, none, none, none], [vI 1], h0) (RI K X)))))) ∧ (¬ l7.toInt = 9 → ((l8.toInt < l6.toInt → ((l4.toInt = 0 → Wp (d + 1) 147 (209, [some (vR l0), none, some (vI l2), some (vI l3), none, none, none, none, none, none], [vI 0], h0) (RI K X)) ∧ (¬ l4.toInt = 0 → Wp (d + 1) 147 (209, [some (vR l0), none, some (vI l2), some (vI l3), none, none, none, none, none, none], [vI 1], h0) (RI K X)))) ∧ (¬ l8.toInt < l6.toInt → ((l4.toInt = 0 → Wp (d + 1) 147 (209, [some (vR l0), none, some (vI l2), some (vI l3), none, none, none, none, none, none], [vI 0], h0) (RI K X)) ∧ (¬ l4.toInt = 0 → Wp (d + 1) 147 (209, [some (vR l0), none, some (vI l2), some (vI l3), none, none, none, none, none, none], [vI 0], h0) (RI K X)))))))))))))))))))) : Wp (d + 1) 147 (79, [some (vR l0), none, some (vI l2), some (vI l3), some (vI l4), none, some (vI l6), some (vI l7), some (vI l8), none], [vI s0, vR s1], h) (RI K X) := by
  obtain ⟨f0, F⟩ := F
  obtain ⟨f1, F⟩ := F
  obtain ⟨f2, F⟩ := F
  refine wp_putZ' (L' := [some (vR l0), none, some (vI l2), some (vI l3), some (vI l4), none, some (vI l6), some (vI l7), some (vI l8), none]) rfl rfl rfl rfl f0 f1 f2 rfl ?_
  have f3 : gK (pI h s1 37 s0) s1 = 14 := (gK_pI _ _ _ _ _).trans f1
  replace F := F _ rfl
  generalize pI h s1 37 s0 = h0 at F f3 ⊢
  refine wp_iload rfl rfl rfl ?_
  refine wp_const rfl rfl ?_
  refine wp_icmp_eq (Y := (-2000000)) rfl rfl rfl rfl rfl (fun c => ?_) (fun c => ?_)
  · replace F := F.1 c
    refine wp_const' (L' := [some (vR l0), none, some (vI l2), some (vI l3), some (vI l4), none, none, none, none, none]) rfl rfl rfl ?_
    refine wp_istore' (L' := [some (vR l0), none, some (vI l2), some (vI l3), some (vI l4), none, none, none, none, none]) (L2 := [some (vR l0), none, some (vI l2), some (vI l3), some (vI l4), none, none, none, none, some (vI 0)]) rfl rfl rfl rfl rfl ?_
    refine wp_iload rfl rfl rfl ?_
    refine wp_if_eq rfl rfl rfl rfl (fun c => ?_) (fun c => ?_)
    · replace F := F.1 c
      refine wp_const' (L' := [some (vR l0), none, some (vI l2), some (vI l3), none, none, none, none, none, none]) rfl rfl rfl ?_
      exact F
    · replace F := F.2 c
      refine wp_iload rfl rfl rfl ?_
      refine wp_if_eq (X := 0) rfl rfl rfl rfl (fun _ => ?_) (fun c => absurd (by decide) c)
      refine wp_const' (L' := [some (vR l0), none, some (vI l2), some (vI l3), none, none, none, none, none, none]) rfl rfl rfl ?_
      exact F
  · replace F := F.2 c
    refine wp_iload rfl rfl rfl ?_
    refine wp_const rfl rfl ?_
    refine wp_icmp_eq (Y := (-2000000)) rfl rfl rfl rfl rfl (fun c => ?_) (fun c => ?_)
    · replace F := F.1 c
      refine wp_const' (L' := [some (vR l0), none, some (vI l2), some (vI l3), some (vI l4), none, none, none, none, none]) rfl rfl rfl ?_
      refine wp_istore' (L' := [some (vR l0), none, some (vI l2), some (vI l3), some (vI l4), none, none, none, none, none]) (L2 := [some (vR l0), none, some (vI l2), some (vI l3), some (vI l4), none, none, none, none, some (vI 0)]) rfl rfl rfl rfl rfl ?_
      refine wp_iload rfl rfl rfl ?_
      refine wp_if_eq rfl rfl rfl rfl (fun c => ?_) (fun c => ?_)
      · replace F := F.1 c
        refine wp_const' (L' := [some (vR l0), none, some (vI l2), some (vI l3), none, none, none, none, none, none]) rfl rfl rfl ?_
        exact F
      · replace F := F.2 c
        refine wp_iload rfl rfl rfl ?_
        refine wp_if_eq (X := 0) rfl rfl rfl rfl (fun _ => ?_) (fun c => absurd (by decide) c)
        refine wp_const' (L' := [some (vR l0), none, some (vI l2), some (vI l3), none, none, none, none, none, none]) rfl rfl rfl ?_
        exact F
    · replace F := F.2 c
      refine wp_iload rfl rfl rfl ?_
      refine wp_const rfl rfl ?_
      refine wp_icmp_ne (Y := 5) rfl rfl rfl rfl rfl (fun c => ?_) (fun c => ?_)
      · replace F := F.1 c
        refine wp_iload rfl rfl rfl ?_
        refine wp_iload rfl rfl rfl ?_
        refine wp_icmp_ge rfl rfl rfl rfl rfl (fun c => ?_) (fun c => ?_)
        · replace F := F.1 c
          refine wp_goto rfl rfl ?_
          refine wp_const' (L' := [some (vR l0), none, some (vI l2), some (vI l3), some (vI l4), none, none, none, none, none]) rfl rfl rfl ?_
          refine wp_goto rfl rfl ?_
          refine wp_istore' (L' := [some (vR l0), none, some (vI l2), some (vI l3), some (vI l4), none, none, none, none, none]) (L2 := [some (vR l0), none, some (vI l2), some (vI l3), some (vI l4), none, none, none, none, some (vI 1)]) rfl rfl rfl rfl rfl ?_
          refine wp_iload rfl rfl rfl ?_
          refine wp_if_eq rfl rfl rfl rfl (fun c => ?_) (fun c => ?_)
          · replace F := F.1 c
            refine wp_const' (L' := [some (vR l0), none, some (vI l2), some (vI l3), none, none, none, none, none, none]) rfl rfl rfl ?_
            exact F
          · replace F := F.2 c
            refine wp_iload rfl rfl rfl ?_
            refine wp_if_eq (X := 1) rfl rfl rfl rfl (fun c => absurd c (by decide)) (fun _ => ?_)
            refine wp_const rfl rfl ?_
            refine wp_goto rfl rfl ?_
            refine wp_kill (L' := [some (vR l0), none, some (vI l2), some (vI l3), none, none, none, none, none, none]) rfl rfl ?_
            exact F
        · replace F := F.2 c
          refine wp_const' (L' := [some (vR l0), none, some (vI l2), some (vI l3), some (vI l4), none, none, none, none, none]) rfl rfl rfl ?_
          refine wp_istore' (L' := [some (vR l0), none, some (vI l2), some (vI l3), some (vI l4), none, none, none, none, none]) (L2 := [some (vR l0), none, some (vI l2), some (vI l3), some (vI l4), none, none, none, none, some (vI 0)]) rfl rfl rfl rfl rfl ?_
          refine wp_iload rfl rfl rfl ?_
          refine wp_if_eq rfl rfl rfl rfl (fun c => ?_) (fun c => ?_)
          · replace F := F.1 c
            refine wp_const' (L' := [some (vR l0), none, some (vI l2), some (vI l3), none, none, none, none, none, none]) rfl rfl rfl ?_
            exact F
          · replace F := F.2 c
            refine wp_iload rfl rfl rfl ?_
            refine wp_if_eq (X := 0) rfl rfl rfl rfl (fun _ => ?_) (fun c => absurd (by decide) c)
            refine wp_const' (L' := [some (vR l0), none, some (vI l2), some (vI l3), none, none, none, none, none, none]) rfl rfl rfl ?_
            exact F
      · replace F := F.2 c
        refine wp_iload' (L' := [some (vR l0), none, some (vI l2), some (vI l3), some (vI l4), none, some (vI l6), some (vI l7), some (vI l8), none]) rfl rfl rfl rfl ?_
        refine wp_const rfl rfl ?_
        refine wp_icmp_ne (Y := 6) rfl rfl rfl rfl rfl (fun c => ?_) (fun c => ?_)
        · replace F := F.1 c
          refine wp_iload rfl rfl rfl ?_
          refine wp_iload rfl rfl rfl ?_
          refine wp_icmp_gt rfl rfl rfl rfl rfl (fun c => ?_) (fun c => ?_)
          · replace F := F.1 c
            refine wp_const' (L' := [some (vR l0), none, some (vI l2), some (vI l3), some (vI l4), none, none, none, none, none]) rfl rfl rfl ?_
            refine wp_istore' (L' := [some (vR l0), none, some (vI l2), some (vI l3), some (vI l4), none, none, none, none, none]) (L2 := [some (vR l0), none, some (vI l2), some (vI l3), some (vI l4), none, none, none, none, some (vI 0)]) rfl rfl rfl rfl rfl ?_
            refine wp_iload rfl rfl rfl ?_
            refine wp_if_eq rfl rfl rfl rfl (fun c => ?_) (fun c => ?_)
            · replace F := F.1 c
              refine wp_const' (L' := [some (vR l0), none, some (vI l2), some (vI l3), none, none, none, none, none, none]) rfl rfl rfl ?_
              exact F
            · replace F := F.2 c
              refine wp_iload rfl rfl rfl ?_
              refine wp_if_eq (X := 0) rfl rfl rfl rfl (fun _ => ?_) (fun c => absurd (by decide) c)
              refine wp_const' (L' := [some (vR l0), none, some (vI l2), some (vI l3), none, none, none, none, none, none]) rfl rfl rfl ?_
              exact F
          · replace F := F.2 c
            refine wp_goto rfl rfl ?_
            refine wp_const' (L' := [some (vR l0), none, some (vI l2), some (vI l3), some (vI l4), none, none, none, none, none]) rfl rfl rfl ?_
            refine wp_goto rfl rfl ?_
            refine wp_istore' (L' := [some (vR l0), none, some (vI l2), some (vI l3), some (vI l4), none, none, none, none, none]) (L2 := [some (vR l0), none, some (vI l2), some (vI l3), some (vI l4), none, none, none, none, some (vI 1)]) rfl rfl rfl rfl rfl ?_
            refine wp_iload rfl rfl rfl ?_
            refine wp_if_eq rfl rfl rfl rfl (fun c => ?_) (fun c => ?_)
            · replace F := F.1 c
              refine wp_const' (L' := [some (vR l0), none, some (vI l2), some (vI l3), none, none, none, none, none, none]) rfl rfl rfl ?_
              exact F
            · replace F := F.2 c
              refine wp_iload rfl rfl rfl ?_
              refine wp_if_eq (X := 1) rfl rfl rfl rfl (fun c => absurd c (by decide)) (fun _ => ?_)
              refine wp_const rfl rfl ?_
              refine wp_goto rfl rfl ?_
              refine wp_kill (L' := [some (vR l0), none, some (vI l2), some (vI l3), none, none, none, none, none, none]) rfl rfl ?_
              exact F
        · replace F := F.2 c
          refine wp_iload' (L' := [some (vR l0), none, some (vI l2), some (vI l3), some (vI l4), none, some (vI l6), some (vI l7), some (vI l8), none]) rfl rfl rfl rfl ?_
          refine wp_const rfl rfl ?_
          refine wp_icmp_ne (Y := 7) rfl rfl rfl rfl rfl (fun c => ?_) (fun c => ?_)
          · replace F := F.1 c
            refine wp_iload rfl rfl rfl ?_
            refine wp_iload rfl rfl rfl ?_
            refine wp_icmp_ne rfl rfl rfl rfl rfl (fun c => ?_) (fun c => ?_)
            · replace F := F.1 c
              refine wp_goto rfl rfl ?_
              refine wp_const' (L' := [some (vR l0), none, some (vI l2), some (vI l3), some (vI l4), none, none, none, none, none]) rfl rfl rfl ?_
              refine wp_goto rfl rfl ?_
              refine wp_istore' (L' := [some (vR l0), none, some (vI l2), some (vI l3), some (vI l4), none, none, none, none, none]) (L2 := [some (vR l0), none, some (vI l2), some (vI l3), some (vI l4), none, none, none, none, some (vI 1)]) rfl rfl rfl rfl rfl ?_
              refine wp_iload rfl rfl rfl ?_
              refine wp_if_eq rfl rfl rfl rfl (fun c => ?_) (fun c => ?_)
              · replace F := F.1 c
                refine wp_const' (L' := [some (vR l0), none, some (vI l2), some (vI l3), none, none, none, none, none, none]) rfl rfl rfl ?_
                exact F
              · replace F := F.2 c
                refine wp_iload rfl rfl rfl ?_
                refine wp_if_eq (X := 1) rfl rfl rfl rfl (fun c => absurd c (by decide)) (fun _ => ?_)
                refine wp_const rfl rfl ?_
                refine wp_goto rfl rfl ?_
                refine wp_kill (L' := [some (vR l0), none, some (vI l2), some (vI l3), none, none, none, none, none, none]) rfl rfl ?_
                exact F
            · replace F := F.2 c
              refine wp_const' (L' := [some (vR l0), none, some (vI l2), some (vI l3), some (vI l4), none, none, none, none, none]) rfl rfl rfl ?_
              refine wp_istore' (L' := [some (vR l0), none, some (vI l2), some (vI l3), some (vI l4), none, none, none, none, none]) (L2 := [some (vR l0), none, some (vI l2), some (vI l3), some (vI l4), none, none, none, none, some (vI 0)]) rfl rfl rfl rfl rfl ?_
              refine wp_iload rfl rfl rfl ?_
              refine wp_if_eq rfl rfl rfl rfl (fun c => ?_) (fun c => ?_)
              · replace F := F.1 c
                refine wp_const' (L' := [some (vR l0), none, some (vI l2), some (vI l3), none, none, none, none, none, none]) rfl rfl rfl ?_
                exact F
              · replace F := F.2 c
                refine wp_iload rfl rfl rfl ?_
                refine wp_if_eq (X := 0) rfl rfl rfl rfl (fun _ => ?_) (fun c => absurd (by decide) c)
                refine wp_const' (L' := [some (vR l0), none, some (vI l2), some (vI l3), none, none, none, none, none, none]) rfl rfl rfl ?_
                exact F
          · replace F := F.2 c
            refine wp_iload' (L' := [some (vR l0), none, some (vI l2), some (vI l3), some (vI l4), none, some (vI l6), some (vI l7), some (vI l8), none]) rfl rfl rfl rfl ?_
            refine wp_const rfl rfl ?_
            refine wp_icmp_ne (Y := 8) rfl rfl rfl rfl rfl (fun c => ?_) (fun c => ?_)
            · replace F := F.1 c
              refine wp_iload rfl rfl rfl ?_
              refine wp_iload rfl rfl rfl ?_
              refine wp_icmp_eq rfl rfl rfl rfl rfl (fun c => ?_) (fun c => ?_)
              · replace F := F.1 c
                refine wp_const' (L' := [some (vR l0), none, some (vI l2), some (vI l3), some (vI l4), none, none, none, none, none]) rfl rfl rfl ?_
                refine wp_istore' (L' := [some (vR l0), none, some (vI l2), some (vI l3), some (vI l4), none, none, none, none, none]) (L2 := [some (vR l0), none, some (vI l2), some (vI l3), some (vI l4), none, none, none, none, some (vI 0)]) rfl rfl rfl rfl rfl ?_
                refine wp_iload rfl rfl rfl ?_
                refine wp_if_eq rfl rfl rfl rfl (fun c => ?_) (fun c => ?_)
                · replace F := F.1 c
                  refine wp_const' (L' := [some (vR l0), none, some (vI l2), some (vI l3), none, none, none, none, none, none]) rfl rfl rfl ?_
                  exact F
                · replace F := F.2 c
                  refine wp_iload rfl rfl rfl ?_
                  refine wp_if_eq (X := 0) rfl rfl rfl rfl (fun _ => ?_) (fun c => absurd (by decide) c)
                  refine wp_const' (L' := [some (vR l0), none, some (vI l2), some (vI l3), none, none, none, none, none, none]) rfl rfl rfl ?_
                  exact F
              · replace F := F.2 c
                refine wp_goto rfl rfl ?_
                refine wp_const' (L' := [some (vR l0), none, some (vI l2), some (vI l3), some (vI l4), none, none, none, none, none]) rfl rfl rfl ?_
                refine wp_goto rfl rfl ?_
                refine wp_istore' (L' := [some (vR l0), none, some (vI l2), some (vI l3), some (vI l4), none, none, none, none, none]) (L2 := [some (vR l0), none, some (vI l2), some (vI l3), some (vI l4), none, none, none, none, some (vI 1)]) rfl rfl rfl rfl rfl ?_
                refine wp_iload rfl rfl rfl ?_
                refine wp_if_eq rfl rfl rfl rfl (fun c => ?_) (fun c => ?_)
                · replace F := F.1 c
                  refine wp_const' (L' := [some (vR l0), none, some (vI l2), some (vI l3), none, none, none, none, none, none]) rfl rfl rfl ?_
                  exact F
                · replace F := F.2 c
                  refine wp_iload rfl rfl rfl ?_
                  refine wp_if_eq (X := 1) rfl rfl rfl rfl (fun c => absurd c (by decide)) (fun _ => ?_)
                  refine wp_const rfl rfl ?_
                  refine wp_goto rfl rfl ?_
                  refine wp_kill (L' := [some (vR l0), none, some (vI l2), some (vI l3), none, none, none, none, none, none]) rfl rfl ?_
                  exact F
            · replace F := F.2 c
              refine wp_iload' (L' := [some (vR l0), none, some (vI l2), some (vI l3), some (vI l4), none, some (vI l6), some (vI l7), some (vI l8), none]) rfl rfl rfl rfl ?_
              refine wp_const rfl rfl ?_
              refine wp_icmp_ne (Y := 9) rfl rfl rfl rfl rfl (fun c => ?_) (fun c => ?_)
              · replace F := F.1 c
                refine wp_iload rfl rfl rfl ?_
                refine wp_iload rfl rfl rfl ?_
                refine wp_icmp_lt rfl rfl rfl rfl rfl (fun c => ?_) (fun c => ?_)
                · replace F := F.1 c
                  refine wp_const' (L' := [some (vR l0), none, some (vI l2), some (vI l3), some (vI l4), none, none, none, none, none]) rfl rfl rfl ?_
                  refine wp_istore' (L' := [some (vR l0), none, some (vI l2), some (vI l3), some (vI l4), none, none, none, none, none]) (L2 := [some (vR l0), none, some (vI l2), some (vI l3), some (vI l4), none, none, none, none, some (vI 0)]) rfl rfl rfl rfl rfl ?_
                  refine wp_iload rfl rfl rfl ?_
                  refine wp_if_eq rfl rfl rfl rfl (fun c => ?_) (fun c => ?_)
                  · replace F := F.1 c
                    refine wp_const' (L' := [some (vR l0), none, some (vI l2), some (vI l3), none, none, none, none, none, none]) rfl rfl rfl ?_
                    exact F
                  · replace F := F.2 c
                    refine wp_iload rfl rfl rfl ?_
                    refine wp_if_eq (X := 0) rfl rfl rfl rfl (fun _ => ?_) (fun c => absurd (by decide) c)
                    refine wp_const' (L' := [some (vR l0), none, some (vI l2), some (vI l3), none, none, none, none, none, none]) rfl rfl rfl ?_
                    exact F
                · replace F := F.2 c
                  refine wp_goto rfl rfl ?_
                  refine wp_const' (L' := [some (vR l0), none, some (vI l2), some (vI l3), some (vI l4), none, none, none, none, none]) rfl rfl rfl ?_
                  refine wp_goto rfl rfl ?_
                  refine wp_istore' (L' := [some (vR l0), none, some (vI l2), some (vI l3), some (vI l4), none, none, none, none, none]) (L2 := [some (vR l0), none, some (vI l2), some (vI l3), some (vI l4), none, none, none, none, some (vI 1)]) rfl rfl rfl rfl rfl ?_
                  refine wp_iload rfl rfl rfl ?_
                  refine wp_if_eq rfl rfl rfl rfl (fun c => ?_) (fun c => ?_)
                  · replace F := F.1 c
                    refine wp_const' (L' := [some (vR l0), none, some (vI l2), some (vI l3), none, none, none, none, none, none]) rfl rfl rfl ?_
                    exact F
                  · replace F := F.2 c
                    refine wp_iload rfl rfl rfl ?_
                    refine wp_if_eq (X := 1) rfl rfl rfl rfl (fun c => absurd c (by decide)) (fun _ => ?_)
                    refine wp_const rfl rfl ?_
                    refine wp_goto rfl rfl ?_
                    refine wp_kill (L' := [some (vR l0), none, some (vI l2), some (vI l3), none, none, none, none, none, none]) rfl rfl ?_
                    exact F
              · replace F := F.2 c
                refine wp_iload' (L' := [some (vR l0), none, some (vI l2), some (vI l3), some (vI l4), none, some (vI l6), none, some (vI l8), none]) rfl rfl rfl rfl ?_
                refine wp_iload rfl rfl rfl ?_
                refine wp_icmp_le rfl rfl rfl rfl rfl (fun c => ?_) (fun c => ?_)
                · replace F := F.1 c
                  refine wp_const' (L' := [some (vR l0), none, some (vI l2), some (vI l3), some (vI l4), none, none, none, none, none]) rfl rfl rfl ?_
                  refine wp_goto rfl rfl ?_
                  refine wp_istore' (L' := [some (vR l0), none, some (vI l2), some (vI l3), some (vI l4), none, none, none, none, none]) (L2 := [some (vR l0), none, some (vI l2), some (vI l3), some (vI l4), none, none, none, none, some (vI 1)]) rfl rfl rfl rfl rfl ?_
                  refine wp_iload rfl rfl rfl ?_
                  refine wp_if_eq rfl rfl rfl rfl (fun c => ?_) (fun c => ?_)
                  · replace F := F.1 c
                    refine wp_const' (L' := [some (vR l0), none, some (vI l2), some (vI l3), none, none, none, none, none, none]) rfl rfl rfl ?_
                    exact F
                  · replace F := F.2 c
                    refine wp_iload rfl rfl rfl ?_
                    refine wp_if_eq (X := 1) rfl rfl rfl rfl (fun c => absurd c (by decide)) (fun _ => ?_)
                    refine wp_const rfl rfl ?_
                    refine wp_goto rfl rfl ?_
                    refine wp_kill (L' := [some (vR l0), none, some (vI l2), some (vI l3), none, none, none, none, none, none]) rfl rfl ?_
                    exact F
                · replace F := F.2 c
                  refine wp_const' (L' := [some (vR l0), none, some (vI l2), some (vI l3), some (vI l4), none, none, none, none, none]) rfl rfl rfl ?_
                  refine wp_istore' (L' := [some (vR l0), none, some (vI l2), some (vI l3), some (vI l4), none, none, none, none, none]) (L2 := [some (vR l0), none, some (vI l2), some (vI l3), some (vI l4), none, none, none, none, some (vI 0)]) rfl rfl rfl rfl rfl ?_
                  refine wp_iload rfl rfl rfl ?_
                  refine wp_if_eq rfl rfl rfl rfl (fun c => ?_) (fun c => ?_)
                  · replace F := F.1 c
                    refine wp_const' (L' := [some (vR l0), none, some (vI l2), some (vI l3), none, none, none, none, none, none]) rfl rfl rfl ?_
                    exact F
                  · replace F := F.2 c
                    refine wp_iload rfl rfl rfl ?_
                    refine wp_if_eq (X := 0) rfl rfl rfl rfl (fun _ => ?_) (fun c => absurd (by decide) c)
                    refine wp_const' (L' := [some (vR l0), none, some (vI l2), some (vI l3), none, none, none, none, none, none]) rfl rfl rfl ?_
                    exact F
theorem w147_209 {d : Nat} {l0 : Nat} {l2 : Int32} {l3 : Int32} {s0 : Int32} {h : aH} {K : Int32 → aH → Prop} {X : Nat → aH → Prop} (F : gK h l0 = 14 ∧ (((gI h l0 36).toInt < l2.toInt → ∃ i0 : Nat, inB h 100 (gR h l0 25) (gI h l0 36) i0 ∧ (((gI h (gR h l0 25) i0).toInt = 12 → ((l3.toInt = 0 → ((s0.toInt = 0 → ∀ v0 : Int32, v0 = (gI h l0 36) + 1 → Wp (d + 1) 147 (13, [some (vR l0), none, some (vI l2), some (vI 0), some (vI 1), some (vI v0), none, none, none, none], [], h) (RI K X)) ∧ (¬ s0.toInt = 0 → ∀ v1 : Int32, v1 = (gI h l0 36) + 1 → Wp (d + 1) 147 (13, [some (vR l0), none, some (vI l2), some (vI 1), some (vI 1), some (vI v1), none, none, none, none], [], h) (RI K X)))) ∧ (¬ l3.toInt = 0 → ∀ v2 : Int32, v2 = (gI h l0 36) + 1 → Wp (d + 1) 147 (13, [some (vR l0), none, some (vI l2), some (vI 1), some (vI 1), some (vI v2), none, none, none, none], [], h) (RI K X)))) ∧ (¬ (gI h (gR h l0 25) i0).toInt = 12 → ∀ v3 : Int32, v3 = (gI h l0 36) + 1 → Wp (d + 1) 147 (13, [some (vR l0), none, some (vI l2), some (vI l3), some (vI s0), some (vI v3), none, none, none, none], [], h) (RI K X)))) ∧ (¬ (gI h l0 36).toInt < l2.toInt → ∀ v4 : Int32, v4 = (gI h l0 36) + 1 → Wp (d + 1) 147 (13, [some (vR l0), none, some (vI l2), some (vI l3), some (vI s0), some (vI v4), none, none, none, none], [], h) (RI K X)))) : Wp (d + 1) 147 (209, [some (vR l0), none, some (vI l2), some (vI l3), none, none, none, none, none, none], [vI s0], h) (RI K X) := by
  refine wp_istore' (L' := [some (vR l0), none, some (vI l2), some (vI l3), none, none, none, none, none, none]) (L2 := [some (vR l0), none, some (vI l2), some (vI l3), some (vI s0), none, none, none, none, none]) rfl rfl rfl rfl rfl ?_
  refine wp_aload rfl rfl rfl ?_
  obtain ⟨f0, F⟩ := F
  refine wp_getI rfl rfl rfl f0 rfl ?_
  refine wp_iload rfl rfl rfl ?_
  refine wp_icmp_ge rfl rfl rfl rfl rfl (fun c => ?_) (fun c => ?_)
  · replace F := F.1 c
    refine wp_aload rfl rfl rfl ?_
    refine wp_getR rfl rfl rfl f0 rfl ?_
    refine wp_aload rfl rfl rfl ?_
    refine wp_getI rfl rfl rfl f0 rfl ?_
    obtain ⟨i0, b9, F⟩ := F
    refine wp_iaload rfl b9 rfl ?_
    refine wp_const rfl rfl ?_
    refine wp_icmp_ne (Y := 12) rfl rfl rfl rfl rfl (fun c => ?_) (fun c => ?_)
    · replace F := F.1 c
      refine wp_iload rfl rfl rfl ?_
      refine wp_if_ne rfl rfl rfl rfl (fun c => ?_) (fun c => ?_)
      · replace F := F.1 c
        refine wp_iload rfl rfl rfl ?_
        refine wp_if_eq rfl rfl rfl rfl (fun c => ?_) (fun c => ?_)
        · replace F := F.1 c
          refine wp_const' (L' := [some (vR l0), none, some (vI l2), none, none, none, none, none, none, none]) rfl rfl rfl ?_
          refine wp_istore' (L' := [some (vR l0), none, some (vI l2), none, none, none, none, none, none, none]) (L2 := [some (vR l0), none, some (vI l2), some (vI 0), none, none, none, none, none, none]) rfl rfl rfl rfl rfl ?_
          refine wp_const rfl rfl ?_
          refine wp_istore (L2 := [some (vR l0), none, some (vI l2), some (vI 0), some (vI 1), none, none, none, none, none]) rfl rfl rfl rfl ?_
          refine wp_aload' (L' := [some (vR l0), none, some (vI l2), some (vI 0), some (vI 1), none, none, none, none, none]) rfl rfl rfl rfl ?_
          refine wp_getI rfl rfl rfl f0 rfl ?_
          refine wp_const rfl rfl ?_
          refine wp_iadd rfl rfl ?_
          replace F := F _ rfl
          generalize ((gI h l0 36) + 1 : Int32) = v0 at F ⊢
          refine wp_istore (L2 := [some (vR l0), none, some (vI l2), some (vI 0), some (vI 1), some (vI v0), none, none, none, none]) rfl rfl rfl rfl ?_
          refine wp_goto rfl rfl ?_
          exact F
        · replace F := F.2 c
          refine wp_const' (L' := [some (vR l0), none, some (vI l2), none, none, none, none, none, none, none]) rfl rfl rfl ?_
          refine wp_goto rfl rfl ?_
          refine wp_istore' (L' := [some (vR l0), none, some (vI l2), none, none, none, none, none, none, none]) (L2 := [some (vR l0), none, some (vI l2), some (vI 1), none, none, none, none, none, none]) rfl rfl rfl rfl rfl ?_
          refine wp_const rfl rfl ?_
          refine wp_istore (L2 := [some (vR l0), none, some (vI l2), some (vI 1), some (vI 1), none, none, none, none, none]) rfl rfl rfl rfl ?_
          refine wp_aload' (L' := [some (vR l0), none, some (vI l2), some (vI 1), some (vI 1), none, none, none, none, none]) rfl rfl rfl rfl ?_
          refine wp_getI rfl rfl rfl f0 rfl ?_
          refine wp_const rfl rfl ?_
          refine wp_iadd rfl rfl ?_
          replace F := F _ rfl
          generalize ((gI h l0 36) + 1 : Int32) = v1 at F ⊢
          refine wp_istore (L2 := [some (vR l0), none, some (vI l2), some (vI 1), some (vI 1), some (vI v1), none, none, none, none]) rfl rfl rfl rfl ?_
          refine wp_goto rfl rfl ?_
          exact F
      · replace F := F.2 c
        refine wp_const' (L' := [some (vR l0), none, some (vI l2), none, none, none, none, none, none, none]) rfl rfl rfl ?_
        refine wp_goto rfl rfl ?_
        refine wp_istore' (L' := [some (vR l0), none, some (vI l2), none, none, none, none, none, none, none]) (L2 := [some (vR l0), none, some (vI l2), some (vI 1), none, none, none, none, none, none]) rfl rfl rfl rfl rfl ?_
        refine wp_const rfl rfl ?_
        refine wp_istore (L2 := [some (vR l0), none, some (vI l2), some (vI 1), some (vI 1), none, none, none, none, none]) rfl rfl rfl rfl ?_
        refine wp_aload' (L' := [some (vR l0), none, some (vI l2), some (vI 1), some (vI 1), none, none, none, none, none]) rfl rfl rfl rfl ?_
        refine wp_getI rfl rfl rfl f0 rfl ?_
        refine wp_const rfl rfl ?_
        refine wp_iadd rfl rfl ?_
        replace F := F _ rfl
        generalize ((gI h l0 36) + 1 : Int32) = v2 at F ⊢
        refine wp_istore (L2 := [some (vR l0), none, some (vI l2), some (vI 1), some (vI 1), some (vI v2), none, none, none, none]) rfl rfl rfl rfl ?_
        refine wp_goto rfl rfl ?_
        exact F
    · replace F := F.2 c
      refine wp_aload' (L' := [some (vR l0), none, some (vI l2), some (vI l3), some (vI s0), none, none, none, none, none]) rfl rfl rfl rfl ?_
      refine wp_getI rfl rfl rfl f0 rfl ?_
      refine wp_const rfl rfl ?_
      refine wp_iadd rfl rfl ?_
      replace F := F _ rfl
      generalize ((gI h l0 36) + 1 : Int32) = v3 at F ⊢
      refine wp_istore (L2 := [some (vR l0), none, some (vI l2), some (vI l3), some (vI s0), some (vI v3), none, none, none, none]) rfl rfl rfl rfl ?_
      refine wp_goto rfl rfl ?_
      exact F
  · replace F := F.2 c
    refine wp_aload' (L' := [some (vR l0), none, some (vI l2), some (vI l3), some (vI s0), none, none, none, none, none]) rfl rfl rfl rfl ?_
    refine wp_getI rfl rfl rfl f0 rfl ?_
    refine wp_const rfl rfl ?_
    refine wp_iadd rfl rfl ?_
    replace F := F _ rfl
    generalize ((gI h l0 36) + 1 : Int32) = v4 at F ⊢
    refine wp_istore (L2 := [some (vR l0), none, some (vI l2), some (vI l3), some (vI s0), some (vI v4), none, none, none, none]) rfl rfl rfl rfl ?_
    refine wp_goto rfl rfl ?_
    exact F
-- CensusOfficeModel walk (II)V
theorem m148 {d : Nat} {a0 : Nat} {a1 : Int32} {a2 : Int32} {h : aH} {K : aH → Prop} {X : Nat → aH → Prop} (F : gK h a0 = 14 ∧ ∃ i0 : Nat, inB h 100 (gR h a0 39) a1 i0 ∧ ∀ v0 : Int32, v0 = gI h (gR h a0 39) i0 → Wp (d + 1) 148 (10, [some (vR a0), some (vI a1), some (vI a2), some (vI v0), some (vI 0), none, none], [], h) (RV K X)) : CV (d + 1) 148 [vR a0, vI a1, vI a2] h K X := by
  show Wp (d + 1) 148 (0, [some (vR a0), some (vI a1), some (vI a2), none, none, none, none], [], h) (RV K X)
  refine wp_aload rfl rfl rfl ?_
  obtain ⟨f0, F⟩ := F
  refine wp_getR rfl rfl rfl f0 rfl ?_
  refine wp_iload rfl rfl rfl ?_
  obtain ⟨i0, b9, F⟩ := F
  refine wp_iaload rfl b9 rfl ?_
  replace F := F _ rfl
  generalize (gI h (gR h a0 39) i0 : Int32) = v0 at F ⊢
  refine wp_istore (L2 := [some (vR a0), some (vI a1), some (vI a2), some (vI v0), none, none, none]) rfl rfl rfl rfl ?_
  refine wp_const rfl rfl ?_
  refine wp_istore (L2 := [some (vR a0), some (vI a1), some (vI a2), some (vI v0), some (vI 0), none, none]) rfl rfl rfl rfl ?_
  exact F
theorem w148_10 {d : Nat} {l0 : Nat} {l1 : Int32} {l2 : Int32} {l3 : Int32} {l4 : Int32} {h : aH} {K : aH → Prop} {X : Nat → aH → Prop} (F : ((l4.toInt < 20 → gK h l0 = 14 ∧ 8 ≤ (gR h l0 34) ∧ ∃ i0 : Nat, inB h 100 (gR h l0 34) l4 i0 ∧ ∀ h0 : aH, h0 = pI h (gR h l0 34) i0 (-2000000) → ∀ v0 : Int32, v0 = l4 + 1 → Wp (d + 1) 148 (10, [some (vR l0), some (vI l1), some (vI l2), some (vI l3), some (vI v0), none, none], [], h0) (RV K X)) ∧ (¬ l4.toInt < 20 → Wp (d + 1) 148 (35, [some (vR l0), some (vI l1), some (vI l2), some (vI l3), some (vI 0), none, none], [], h) (RV K X)))) : Wp (d + 1) 148 (10, [some (vR l0), some (vI l1), some (vI l2), some (vI l3), some (vI l4), none, none], [], h) (RV K X) := by
  refine wp_iload' (L' := [some (vR l0), some (vI l1), some (vI l2), some (vI l3), some (vI l4), none, none]) rfl rfl rfl rfl ?_
  refine wp_const rfl rfl ?_
  refine wp_icmp_ge (Y := 20) rfl rfl rfl rfl rfl (fun c => ?_) (fun c => ?_)
  · replace F := F.1 c
    refine wp_aload rfl rfl rfl ?_
    obtain ⟨f0, F⟩ := F
    refine wp_getR rfl rfl rfl f0 rfl ?_
    refine wp_iload rfl rfl rfl ?_
    refine wp_const rfl rfl ?_
    obtain ⟨f1, F⟩ := F
    obtain ⟨i0, b9, F⟩ := F
    refine wp_iastore rfl f1 b9 rfl ?_
    have f2 : gK (pI h (gR h l0 34) i0 (-2000000)) l0 = 14 := (gK_pI _ _ _ _ _).trans f0
    replace F := F _ rfl
    generalize pI h (gR h l0 34) i0 (-2000000) = h0 at F f2 ⊢
    refine wp_iinc (y := 1) (L2 := [some (vR l0), some (vI l1), some (vI l2), some (vI l3), some (vI (l4 + 1)), none, none]) rfl rfl rfl rfl rfl ?_
    replace F := F _ rfl
    generalize (l4 + 1 : Int32) = v0 at F ⊢
    refine wp_goto rfl rfl ?_
    exact F
  · replace F := F.2 c
    refine wp_const' (L' := [some (vR l0), some (vI l1), some (vI l2), some (vI l3), none, none, none]) rfl rfl rfl ?_
    refine wp_istore (L2 := [some (vR l0), some (vI l1), some (vI l2), some (vI l3), some (vI 0), none, none]) rfl rfl rfl rfl ?_
    exact F
theorem w148_35 {d : Nat} {l0 : Nat} {l1 : Int32} {l2 : Int32} {l3 : Int32} {l4 : Int32} {h : aH} {K : aH → Prop} {X : Nat → aH → Prop} (F : ((l4.toInt < 6 → gK h l0 = 14 ∧ ∃ i0 : Nat, inB h 100 (gR h l0 41) ((6 * l1) + l4) i0 ∧ 8 ≤ (gR h l0 35) ∧ ∃ i1 : Nat, inB h 100 (gR h l0 35) l4 i1 ∧ ∀ h0 : aH, h0 = pI h (gR h l0 35) i1 (gI h (gR h l0 41) i0) → ∀ v0 : Int32, v0 = l4 + 1 → Wp (d + 1) 148 (35, [some (vR l0), some (vI l1), some (vI l2), some (vI l3), some (vI v0), none, none], [], h0) (RV K X)) ∧ (¬ l4.toInt < 6 → 8 ≤ l0 ∧ gK h l0 = 14 ∧ ∀ h1 : aH, h1 = pI h l0 51 (-1) → ∀ h2 : aH, h2 = pI h1 l0 52 (-1) → ∀ h3 : aH, h3 = pI h2 l0 50 0 → Wp (d + 1) 148 (82, [some (vR l0), some (vI l1), some (vI l2), some (vI l3), none, none, none], [], h3) (RV K X)))) : Wp (d + 1) 148 (35, [some (vR l0), some (vI l1), some (vI l2), some (vI l3), some (vI l4), none, none], [], h) (RV K X) := by
  refine wp_iload' (L' := [some (vR l0), some (vI l1), some (vI l2), some (vI l3), some (vI l4), none, none]) rfl rfl rfl rfl ?_
  refine wp_const rfl rfl ?_
  refine wp_icmp_ge (Y := 6) rfl rfl rfl rfl rfl (fun c => ?_) (fun c => ?_)
  · replace F := F.1 c
    refine wp_aload rfl rfl rfl ?_
    obtain ⟨f0, F⟩ := F
    refine wp_getR rfl rfl rfl f0 rfl ?_
    refine wp_iload rfl rfl rfl ?_
    refine wp_aload rfl rfl rfl ?_
    refine wp_getR rfl rfl rfl f0 rfl ?_
    refine wp_const rfl rfl ?_
    refine wp_iload rfl rfl rfl ?_
    refine wp_imul rfl rfl ?_
    refine wp_iload rfl rfl rfl ?_
    refine wp_iadd rfl rfl ?_
    obtain ⟨i0, b9, F⟩ := F
    refine wp_iaload rfl b9 rfl ?_
    obtain ⟨f1, F⟩ := F
    obtain ⟨i1, b9, F⟩ := F
    refine wp_iastore rfl f1 b9 rfl ?_
    have f2 : gK (pI h (gR h l0 35) i1 (gI h (gR h l0 41) i0)) l0 = 14 := (gK_pI _ _ _ _ _).trans f0
    replace F := F _ rfl
    generalize pI h (gR h l0 35) i1 (gI h (gR h l0 41) i0) = h0 at F f2 ⊢
    refine wp_iinc (y := 1) (L2 := [some (vR l0), some (vI l1), some (vI l2), some (vI l3), some (vI (l4 + 1)), none, none]) rfl rfl rfl rfl rfl ?_
    replace F := F _ rfl
    generalize (l4 + 1 : Int32) = v0 at F ⊢
    refine wp_goto rfl rfl ?_
    exact F
  · replace F := F.2 c
    refine wp_aload' (L' := [some (vR l0), some (vI l1), some (vI l2), some (vI l3), none, none, none]) rfl rfl rfl rfl ?_
    refine wp_const rfl rfl ?_
    obtain ⟨f3, F⟩ := F
    obtain ⟨f4, F⟩ := F
    refine wp_putI rfl rfl rfl f3 f4 rfl ?_
    have f5 : gK (pI h l0 51 (-1)) l0 = 14 := (gK_pI _ _ _ _ _).trans f4
    replace F := F _ rfl
    generalize pI h l0 51 (-1) = h1 at F f5 ⊢
    refine wp_aload rfl rfl rfl ?_
    refine wp_const rfl rfl ?_
    refine wp_putI rfl rfl rfl f3 f5 rfl ?_
    have f6 : gK (pI h1 l0 52 (-1)) l0 = 14 := (gK_pI _ _ _ _ _).trans f5
    replace F := F _ rfl
    generalize pI h1 l0 52 (-1) = h2 at F f6 ⊢
    refine wp_aload rfl rfl rfl ?_
    refine wp_const rfl rfl ?_
    refine wp_putI rfl rfl rfl f3 f6 rfl ?_
    have f7 : gK (pI h2 l0 50 0) l0 = 14 := (gK_pI _ _ _ _ _).trans f6
    replace F := F _ rfl
    generalize pI h2 l0 50 0 = h3 at F f7 ⊢
    exact F
theorem w148_82 {d : Nat} {l0 : Nat} {l1 : Int32} {l2 : Int32} {l3 : Int32} {h : aH} {K : aH → Prop} {X : Nat → aH → Prop} (F : gK h l0 = 14 ∧ ∃ i0 : Nat, inB h 100 (gR h l0 15) l3 i0 ∧ (((gI h l0 50).toInt < (gI h (gR h l0 15) i0).toInt → ∀ v0 : Int32, v0 = (20 * l3) + (gI h l0 50) → ∃ i1 : Nat, inB h 100 (gR h l0 23) v0 i1 ∧ (((gI h (gR h l0 23) i1).toInt = (-1) → Wp (d + 1) 148 (143, [some (vR l0), some (vI l1), some (vI l2), some (vI l3), some (vI v0), none, none], [vI 1], h) (RV K X)) ∧ (¬ (gI h (gR h l0 23) i1).toInt = (-1) → ∃ i2 : Nat, inB h 100 (gR h l0 23) v0 i2 ∧ ∃ i3 : Nat, inB h 100 (gR h l0 24) v0 i3 ∧ 8 ≤ l0 ∧ CI d 147 [vR l0, vI (gI h (gR h l0 23) i2), vI (gI h (gR h l0 24) i3)] h (fun y0 h0 => ((y0.toInt = 0 → Wp (d + 1) 148 (143, [some (vR l0), some (vI l1), some (vI l2), some (vI l3), some (vI v0), none, none], [vI 0], h0) (RV K X)) ∧ (¬ y0.toInt = 0 → Wp (d + 1) 148 (143, [some (vR l0), some (vI l1), some (vI l2), some (vI l3), some (vI v0), none, none], [vI 1], h0) (RV K X)))) X))) ∧ (¬ (gI h l0 50).toInt < (gI h (gR h l0 15) i0).toInt → K h))) : Wp (d + 1) 148 (82, [some (vR l0), some (vI l1), some (vI l2), some (vI l3), none, none, none], [], h) (RV K X) := by
  refine wp_aload' (L' := [some (vR l0), some (vI l1), some (vI l2), some (vI l3), none, none, none]) rfl rfl rfl rfl ?_
  obtain ⟨f0, F⟩ := F
  refine wp_getI rfl rfl rfl f0 rfl ?_
  refine wp_aload rfl rfl rfl ?_
  refine wp_getR rfl rfl rfl f0 rfl ?_
  refine wp_iload rfl rfl rfl ?_
  obtain ⟨i0, b9, F⟩ := F
  refine wp_iaload rfl b9 rfl ?_
  refine wp_icmp_ge rfl rfl rfl rfl rfl (fun c => ?_) (fun c => ?_)
  · replace F := F.1 c
    refine wp_const rfl rfl ?_
    refine wp_iload rfl rfl rfl ?_
    refine wp_imul rfl rfl ?_
    refine wp_aload rfl rfl rfl ?_
    refine wp_getI rfl rfl rfl f0 rfl ?_
    refine wp_iadd rfl rfl ?_
    replace F := F _ rfl
    generalize ((20 * l3) + (gI h l0 50) : Int32) = v0 at F ⊢
    refine wp_istore (L2 := [some (vR l0), some (vI l1), some (vI l2), some (vI l3), some (vI v0), none, none]) rfl rfl rfl rfl ?_
    refine wp_aload rfl rfl rfl ?_
    refine wp_getR rfl rfl rfl f0 rfl ?_
    refine wp_iload rfl rfl rfl ?_
    obtain ⟨i1, b9, F⟩ := F
    refine wp_iaload rfl b9 rfl ?_
    refine wp_const rfl rfl ?_
    refine wp_icmp_eq (Y := (-1)) rfl rfl rfl rfl rfl (fun c => ?_) (fun c => ?_)
    · replace F := F.1 c
      refine wp_const' (L' := [some (vR l0), some (vI l1), some (vI l2), some (vI l3), some (vI v0), none, none]) rfl rfl rfl ?_
      refine wp_goto rfl rfl ?_
      exact F
    · replace F := F.2 c
      refine wp_aload rfl rfl rfl ?_
      refine wp_aload rfl rfl rfl ?_
      refine wp_getR rfl rfl rfl f0 rfl ?_
      refine wp_iload rfl rfl rfl ?_
      obtain ⟨i2, b9, F⟩ := F
      refine wp_iaload rfl b9 rfl ?_
      refine wp_aload rfl rfl rfl ?_
      refine wp_getR rfl rfl rfl f0 rfl ?_
      refine wp_iload rfl rfl rfl ?_
      obtain ⟨i3, b9, F⟩ := F
      refine wp_iaload rfl b9 rfl ?_
      obtain ⟨f1, F⟩ := F
      refine wp_callI rfl rfl rfl (rcv_v f1 f0 (by decide) (by decide)) rfl rfl rfl rfl ?_
      refine CI.mono F (fun y0 h0 F => ?_) (fun _ _ w => rx_V w)
      refine wp_if_eq rfl rfl rfl rfl (fun c => ?_) (fun c => ?_)
      · replace F := F.1 c
        refine wp_const' (L' := [some (vR l0), some (vI l1), some (vI l2), some (vI l3), some (vI v0), none, none]) rfl rfl rfl ?_
        exact F
      · replace F := F.2 c
        refine wp_const' (L' := [some (vR l0), some (vI l1), some (vI l2), some (vI l3), some (vI v0), none, none]) rfl rfl rfl ?_
        refine wp_goto rfl rfl ?_
        exact F
  · replace F := F.2 c
    exact wp_retV rfl F
theorem w148_143 {d : Nat} {l0 : Nat} {l1 : Int32} {l2 : Int32} {l3 : Int32} {l4 : Int32} {s0 : Int32} {h : aH} {K : aH → Prop} {X : Nat → aH → Prop} (F : gK h l0 = 14 ∧ ∃ i0 : Nat, inB h 100 (gR h l0 16) l4 i0 ∧ (((gI h (gR h l0 16) i0).toInt = 0 → ((s0.toInt = 0 → ((s0.toInt = 0 → 8 ≤ (gR h l0 34) ∧ ∃ i1 : Nat, inB h 100 (gR h l0 34) (gI h l0 50) i1 ∧ ∀ h0 : aH, h0 = pI h (gR h l0 34) i1 (-2000000) → 8 ≤ l0 ∧ ∀ h1 : aH, h1 = pI h0 l0 50 ((gI h0 l0 50) + 1) → Wp (d + 1) 148 (82, [some (vR l0), some (vI l1), some (vI l2), some (vI l3), none, none, none], [], h1) (RV K X)) ∧ (¬ s0.toInt = 0 → ∃ i2 : Nat, inB h 100 (gR h l0 44) ((20 * l1) + (gI h l0 50)) i2 ∧ 8 ≤ (gR h l0 34) ∧ ∃ i3 : Nat, inB h 100 (gR h l0 34) (gI h l0 50) i3 ∧ ∀ h2 : aH, h2 = pI h (gR h l0 34) i3 (gI h (gR h l0 44) i2) → 8 ≤ l0 ∧ ∀ h3 : aH, h3 = pI h2 l0 50 ((gI h2 l0 50) + 1) → Wp (d + 1) 148 (82, [some (vR l0), some (vI l1), some (vI l2), some (vI l3), none, none, none], [], h3) (RV K X)))) ∧ (¬ s0.toInt = 0 → ∃ i4 : Nat, inB h 102 (gR h l0 43) ((20 * l1) + (gI h l0 50)) i4 ∧ (((gI h (gR h l0 43) i4).toInt = 0 → K h) ∧ (¬ (gI h (gR h l0 43) i4).toInt = 0 → ((s0.toInt = 0 → 8 ≤ (gR h l0 34) ∧ ∃ i5 : Nat, inB h 100 (gR h l0 34) (gI h l0 50) i5 ∧ ∀ h4 : aH, h4 = pI h (gR h l0 34) i5 (-2000000) → 8 ≤ l0 ∧ ∀ h5 : aH, h5 = pI h4 l0 50 ((gI h4 l0 50) + 1) → Wp (d + 1) 148 (82, [some (vR l0), some (vI l1), some (vI l2), some (vI l3), none, none, none], [], h5) (RV K X)) ∧ (¬ s0.toInt = 0 → ∃ i6 : Nat, inB h 100 (gR h l0 44) ((20 * l1) + (gI h l0 50)) i6 ∧ 8 ≤ (gR h l0 34) ∧ ∃ i7 : Nat, inB h 100 (gR h l0 34) (gI h l0 50) i7 ∧ ∀ h6 : aH, h6 = pI h (gR h l0 34) i7 (gI h (gR h l0 44) i6) → 8 ≤ l0 ∧ ∀ h7 : aH, h7 = pI h6 l0 50 ((gI h6 l0 50) + 1) → Wp (d + 1) 148 (82, [some (vR l0), some (vI l1), some (vI l2), some (vI l3), none, none, none], [], h7) (RV K X)))))))) ∧ (¬ (gI h (gR h l0 16) i0).toInt = 0 → ∃ i8 : Nat, inB h 100 (gR h l0 16) l4 i8 ∧ (((gI h (gR h l0 16) i8).toInt = 1 → ((s0.toInt = 0 → 8 ≤ (gR h l0 34) ∧ ∃ i9 : Nat, inB h 100 (gR h l0 34) (gI h l0 50) i9 ∧ ∀ h8 : aH, h8 = pI h (gR h l0 34) i9 (-2000000) → 8 ≤ l0 ∧ ∀ h9 : aH, h9 = pI h8 l0 50 ((gI h8 l0 50) + 1) → Wp (d + 1) 148 (82, [some (vR l0), some (vI l1), some (vI l2), some (vI l3), none, none, none], [], h9) (RV K X)) ∧ (¬ s0.toInt = 0 → ∃ i10 : Nat, inB h 100 (gR h l0 21) l4 i10 ∧ ∃ i11 : Nat, inB h 100 (gR h l0 22) l4 i11 ∧ 8 ≤ l0 ∧ CI d 146 [vR l0, vI (gI h (gR h l0 21) i10), vI (gI h (gR h l0 22) i11)] h (fun y0 h10 => 8 ≤ (gR h l0 34) ∧ ∃ i12 : Nat, inB h10 100 (gR h l0 34) (gI h l0 50) i12 ∧ ∀ h11 : aH, h11 = pI h10 (gR h l0 34) i12 y0 → gK h11 l0 = 14 ∧ ∀ h12 : aH, h12 = pI h11 l0 50 ((gI h11 l0 50) + 1) → Wp (d + 1) 148 (82, [some (vR l0), some (vI l1), some (vI l2), some (vI l3), none, none, none], [], h12) (RV K X)) X))) ∧ (¬ (gI h (gR h l0 16) i8).toInt = 1 → ((s0.toInt = 0 → (((gI h l0 37).toInt = 0 → ((l2.toInt < (gI h l0 50).toInt → ∃ i13 : Nat, inB h 100 (gR h l0 16) l4 i13 ∧ (((gI h (gR h l0 16) i13).toInt = 2 → ∃ i14 : Nat, inB h 100 (gR h l0 16) l4 i14 ∧ (((gI h (gR h l0 16) i14).toInt = 2 → (((gI h l0 51).toInt = (-1) → Wp (d + 1) 148 (351, [some (vR l0), some (vI l1), some (vI l2), some (vI l3), some (vI l4), none, some (vI 1)], [vI (gI h l0 50), vR l0], h) (RV K X)) ∧ (¬ (gI h l0 51).toInt = (-1) → Wp (d + 1) 148 (351, [some (vR l0), some (vI l1), some (vI l2), some (vI l3), some (vI l4), none, some (vI 1)], [vI (gI h l0 51), vR l0], h) (RV K X)))) ∧ (¬ (gI h (gR h l0 16) i14).toInt = 2 → Wp (d + 1) 148 (351, [some (vR l0), some (vI l1), some (vI l2), some (vI l3), some (vI l4), none, some (vI 1)], [vI (gI h l0 51), vR l0], h) (RV K X)))) ∧ (¬ (gI h (gR h l0 16) i13).toInt = 2 → ∃ i15 : Nat, inB h 102 (gR h l0 47) ((20 * l1) + (gI h l0 50)) i15 ∧ (((gI h (gR h l0 47) i15).toInt = 0 → ∃ i16 : Nat, inB h 100 (gR h l0 16) l4 i16 ∧ (((gI h (gR h l0 16) i16).toInt = 2 → (((gI h l0 51).toInt = (-1) → Wp (d + 1) 148 (351, [some (vR l0), some (vI l1), some (vI l2), some (vI l3), some (vI l4), none, some (vI 1)], [vI (gI h l0 50), vR l0], h) (RV K X)) ∧ (¬ (gI h l0 51).toInt = (-1) → Wp (d + 1) 148 (351, [some (vR l0), some (vI l1), some (vI l2), some (vI l3), some (vI l4), none, some (vI 1)], [vI (gI h l0 51), vR l0], h) (RV K X)))) ∧ (¬ (gI h (gR h l0 16) i16).toInt = 2 → Wp (d + 1) 148 (351, [some (vR l0), some (vI l1), some (vI l2), some (vI l3), some (vI l4), none, some (vI 1)], [vI (gI h l0 51), vR l0], h) (RV K X)))) ∧ (¬ (gI h (gR h l0 47) i15).toInt = 0 → ∃ i17 : Nat, inB h 100 (gR h l0 16) l4 i17 ∧ (((gI h (gR h l0 16) i17).toInt = 2 → (((gI h l0 51).toInt = (-1) → Wp (d + 1) 148 (351, [some (vR l0), some (vI l1), some (vI l2), some (vI l3), some (vI l4), none, some (vI 0)], [vI (gI h l0 50), vR l0], h) (RV K X)) ∧ (¬ (gI h l0 51).toInt = (-1) → Wp (d + 1) 148 (351, [some (vR l0), some (vI l1), some (vI l2), some (vI l3), some (vI l4), none, some (vI 0)], [vI (gI h l0 51), vR l0], h) (RV K X)))) ∧ (¬ (gI h (gR h l0 16) i17).toInt = 2 → Wp (d + 1) 148 (351, [some (vR l0), some (vI l1), some (vI l2), some (vI l3), some (vI l4), none, some (vI 0)], [vI (gI h l0 51), vR l0], h) (RV K X)))))))) ∧ (¬ l2.toInt < (gI h l0 50).toInt → 8 ≤ l0 ∧ ∀ h13 : aH, h13 = pI h l0 50 ((gI h l0 50) + 1) → Wp (d + 1) 148 (82, [some (vR l0), some (vI l1), some (vI l2), some (vI l3), none, none, none], [], h13) (RV K X)))) ∧ (¬ (gI h l0 37).toInt = 0 → 8 ≤ l0 ∧ ∀ h14 : aH, h14 = pI h l0 50 ((gI h l0 50) + 1) → Wp (d + 1) 148 (82, [some (vR l0), some (vI l1), some (vI l2), some (vI l3), none, none, none], [], h14) (RV K X)))) ∧ (¬ s0.toInt = 0 → 8 ≤ l0 ∧ ∀ h15 : aH, h15 = pI h l0 50 ((gI h l0 50) + 1) → Wp (d + 1) 148 (82, [some (vR l0), some (vI l1), some (vI l2), some (vI l3), none, none, none], [], h15) (RV K X)))))))) : Wp (d + 1) 148 (143, [some (vR l0), some (vI l1), some (vI l2), some (vI l3), some (vI l4), none, none], [vI s0], h) (RV K X) := by
  refine wp_istore' (L' := [some (vR l0), some (vI l1), some (vI l2), some (vI l3), some (vI l4), none, none]) (L2 := [some (vR l0), some (vI l1), some (vI l2), some (vI l3), some (vI l4), some (vI s0), none]) rfl rfl rfl rfl rfl ?_
  refine wp_aload rfl rfl rfl ?_
  obtain ⟨f0, F⟩ := F
  refine wp_getR rfl rfl rfl f0 rfl ?_
  refine wp_iload rfl rfl rfl ?_
  obtain ⟨i0, b9, F⟩ := F
  refine wp_iaload rfl b9 rfl ?_
  refine wp_if_ne rfl rfl rfl rfl (fun c => ?_) (fun c => ?_)
  · replace F := F.1 c
    refine wp_iload rfl rfl rfl ?_
    refine wp_if_eq rfl rfl rfl rfl (fun c => ?_) (fun c => ?_)
    · replace F := F.1 c
      refine wp_aload' (L' := [some (vR l0), some (vI l1), some (vI l2), some (vI l3), none, some (vI s0), none]) rfl rfl rfl rfl ?_
      refine wp_getR rfl rfl rfl f0 rfl ?_
      refine wp_aload rfl rfl rfl ?_
      refine wp_getI rfl rfl rfl f0 rfl ?_
      refine wp_iload rfl rfl rfl ?_
      refine wp_if_eq rfl rfl rfl rfl (fun c => ?_) (fun c => ?_)
      · replace F := F.1 c
        refine wp_const' (L' := [some (vR l0), some (vI l1), some (vI l2), some (vI l3), none, none, none]) rfl rfl rfl ?_
        obtain ⟨f1, F⟩ := F
        obtain ⟨i1, b9, F⟩ := F
        refine wp_iastore' (L' := [some (vR l0), some (vI l1), some (vI l2), some (vI l3), none, none, none]) rfl rfl f1 b9 rfl ?_
        have f2 : gK (pI h (gR h l0 34) i1 (-2000000)) l0 = 14 := (gK_pI _ _ _ _ _).trans f0
        replace F := F _ rfl
        generalize pI h (gR h l0 34) i1 (-2000000) = h0 at F f2 ⊢
        refine wp_goto rfl rfl ?_
        refine wp_aload' (L' := [some (vR l0), some (vI l1), some (vI l2), some (vI l3), none, none, none]) rfl rfl rfl rfl ?_
        refine wp_dup rfl rfl rfl ?_
        refine wp_getI rfl rfl rfl f2 rfl ?_
        refine wp_const rfl rfl ?_
        refine wp_iadd rfl rfl ?_
        obtain ⟨f3, F⟩ := F
        refine wp_putI rfl rfl rfl f3 f2 rfl ?_
        have f4 : gK (pI h0 l0 50 ((gI h0 l0 50) + 1)) l0 = 14 := (gK_pI _ _ _ _ _).trans f2
        replace F := F _ rfl
        generalize pI h0 l0 50 ((gI h0 l0 50) + 1) = h1 at F f4 ⊢
        refine wp_goto rfl rfl ?_
        exact F
      · replace F := F.2 c
        refine wp_aload rfl rfl rfl ?_
        refine wp_getR rfl rfl rfl f0 rfl ?_
        refine wp_const rfl rfl ?_
        refine wp_iload rfl rfl rfl ?_
        refine wp_imul rfl rfl ?_
        refine wp_aload rfl rfl rfl ?_
        refine wp_getI rfl rfl rfl f0 rfl ?_
        refine wp_iadd rfl rfl ?_
        obtain ⟨i2, b9, F⟩ := F
        refine wp_iaload rfl b9 rfl ?_
        refine wp_goto rfl rfl ?_
        obtain ⟨f5, F⟩ := F
        obtain ⟨i3, b9, F⟩ := F
        refine wp_iastore' (L' := [some (vR l0), some (vI l1), some (vI l2), some (vI l3), none, none, none]) rfl rfl f5 b9 rfl ?_
        have f6 : gK (pI h (gR h l0 34) i3 (gI h (gR h l0 44) i2)) l0 = 14 := (gK_pI _ _ _ _ _).trans f0
        replace F := F _ rfl
        generalize pI h (gR h l0 34) i3 (gI h (gR h l0 44) i2) = h2 at F f6 ⊢
        refine wp_goto rfl rfl ?_
        refine wp_aload' (L' := [some (vR l0), some (vI l1), some (vI l2), some (vI l3), none, none, none]) rfl rfl rfl rfl ?_
        refine wp_dup rfl rfl rfl ?_
        refine wp_getI rfl rfl rfl f6 rfl ?_
        refine wp_const rfl rfl ?_
        refine wp_iadd rfl rfl ?_
        obtain ⟨f7, F⟩ := F
        refine wp_putI rfl rfl rfl f7 f6 rfl ?_
        have f8 : gK (pI h2 l0 50 ((gI h2 l0 50) + 1)) l0 = 14 := (gK_pI _ _ _ _ _).trans f6
        replace F := F _ rfl
        generalize pI h2 l0 50 ((gI h2 l0 50) + 1) = h3 at F f8 ⊢
        refine wp_goto rfl rfl ?_
        exact F
    · replace F := F.2 c
      refine wp_aload rfl rfl rfl ?_
      refine wp_getR rfl rfl rfl f0 rfl ?_
      refine wp_const rfl rfl ?_
      refine wp_iload rfl rfl rfl ?_
      refine wp_imul rfl rfl ?_
      refine wp_aload rfl rfl rfl ?_
      refine wp_getI rfl rfl rfl f0 rfl ?_
      refine wp_iadd rfl rfl ?_
      obtain ⟨i4, b9, F⟩ := F
      refine wp_zaload rfl b9 rfl ?_
      refine wp_if_ne rfl rfl rfl rfl (fun c => ?_) (fun c => ?_)
      · replace F := F.1 c
        exact wp_retV rfl F
      · replace F := F.2 c
        refine wp_aload' (L' := [some (vR l0), some (vI l1), some (vI l2), some (vI l3), none, some (vI s0), none]) rfl rfl rfl rfl ?_
        refine wp_getR rfl rfl rfl f0 rfl ?_
        refine wp_aload rfl rfl rfl ?_
        refine wp_getI rfl rfl rfl f0 rfl ?_
        refine wp_iload rfl rfl rfl ?_
        refine wp_if_eq rfl rfl rfl rfl (fun c => ?_) (fun c => ?_)
        · replace F := F.1 c
          refine wp_const' (L' := [some (vR l0), some (vI l1), some (vI l2), some (vI l3), none, none, none]) rfl rfl rfl ?_
          obtain ⟨f9, F⟩ := F
          obtain ⟨i5, b9, F⟩ := F
          refine wp_iastore' (L' := [some (vR l0), some (vI l1), some (vI l2), some (vI l3), none, none, none]) rfl rfl f9 b9 rfl ?_
          have f10 : gK (pI h (gR h l0 34) i5 (-2000000)) l0 = 14 := (gK_pI _ _ _ _ _).trans f0
          replace F := F _ rfl
          generalize pI h (gR h l0 34) i5 (-2000000) = h4 at F f10 ⊢
          refine wp_goto rfl rfl ?_
          refine wp_aload' (L' := [some (vR l0), some (vI l1), some (vI l2), some (vI l3), none, none, none]) rfl rfl rfl rfl ?_
          refine wp_dup rfl rfl rfl ?_
          refine wp_getI rfl rfl rfl f10 rfl ?_
          refine wp_const rfl rfl ?_
          refine wp_iadd rfl rfl ?_
          obtain ⟨f11, F⟩ := F
          refine wp_putI rfl rfl rfl f11 f10 rfl ?_
          have f12 : gK (pI h4 l0 50 ((gI h4 l0 50) + 1)) l0 = 14 := (gK_pI _ _ _ _ _).trans f10
          replace F := F _ rfl
          generalize pI h4 l0 50 ((gI h4 l0 50) + 1) = h5 at F f12 ⊢
          refine wp_goto rfl rfl ?_
          exact F
        · replace F := F.2 c
          refine wp_aload rfl rfl rfl ?_
          refine wp_getR rfl rfl rfl f0 rfl ?_
          refine wp_const rfl rfl ?_
          refine wp_iload rfl rfl rfl ?_
          refine wp_imul rfl rfl ?_
          refine wp_aload rfl rfl rfl ?_
          refine wp_getI rfl rfl rfl f0 rfl ?_
          refine wp_iadd rfl rfl ?_
          obtain ⟨i6, b9, F⟩ := F
          refine wp_iaload rfl b9 rfl ?_
          refine wp_goto rfl rfl ?_
          obtain ⟨f13, F⟩ := F
          obtain ⟨i7, b9, F⟩ := F
          refine wp_iastore' (L' := [some (vR l0), some (vI l1), some (vI l2), some (vI l3), none, none, none]) rfl rfl f13 b9 rfl ?_
          have f14 : gK (pI h (gR h l0 34) i7 (gI h (gR h l0 44) i6)) l0 = 14 := (gK_pI _ _ _ _ _).trans f0
          replace F := F _ rfl
          generalize pI h (gR h l0 34) i7 (gI h (gR h l0 44) i6) = h6 at F f14 ⊢
          refine wp_goto rfl rfl ?_
          refine wp_aload' (L' := [some (vR l0), some (vI l1), some (vI l2), some (vI l3), none, none, none]) rfl rfl rfl rfl ?_
          refine wp_dup rfl rfl rfl ?_
          refine wp_getI rfl rfl rfl f14 rfl ?_
          refine wp_const rfl rfl ?_
          refine wp_iadd rfl rfl ?_
          obtain ⟨f15, F⟩ := F
          refine wp_putI rfl rfl rfl f15 f14 rfl ?_
          have f16 : gK (pI h6 l0 50 ((gI h6 l0 50) + 1)) l0 = 14 := (gK_pI _ _ _ _ _).trans f14
          replace F := F _ rfl
          generalize pI h6 l0 50 ((gI h6 l0 50) + 1) = h7 at F f16 ⊢
          refine wp_goto rfl rfl ?_
          exact F
  · replace F := F.2 c
    refine wp_aload' (L' := [some (vR l0), some (vI l1), some (vI l2), some (vI l3), some (vI l4), some (vI s0), none]) rfl rfl rfl rfl ?_
    refine wp_getR rfl rfl rfl f0 rfl ?_
    refine wp_iload rfl rfl rfl ?_
    obtain ⟨i8, b9, F⟩ := F
    refine wp_iaload rfl b9 rfl ?_
    refine wp_const rfl rfl ?_
    refine wp_icmp_ne (Y := 1) rfl rfl rfl rfl rfl (fun c => ?_) (fun c => ?_)
    · replace F := F.1 c
      refine wp_aload rfl rfl rfl ?_
      refine wp_getR rfl rfl rfl f0 rfl ?_
      refine wp_aload rfl rfl rfl ?_
      refine wp_getI rfl rfl rfl f0 rfl ?_
      refine wp_iload rfl rfl rfl ?_
      refine wp_if_eq rfl rfl rfl rfl (fun c => ?_) (fun c => ?_)
      · replace F := F.1 c
        refine wp_const' (L' := [some (vR l0), some (vI l1), some (vI l2), some (vI l3), none, none, none]) rfl rfl rfl ?_
        obtain ⟨f17, F⟩ := F
        obtain ⟨i9, b9, F⟩ := F
        refine wp_iastore' (L' := [some (vR l0), some (vI l1), some (vI l2), some (vI l3), none, none, none]) rfl rfl f17 b9 rfl ?_
        have f18 : gK (pI h (gR h l0 34) i9 (-2000000)) l0 = 14 := (gK_pI _ _ _ _ _).trans f0
        replace F := F _ rfl
        generalize pI h (gR h l0 34) i9 (-2000000) = h8 at F f18 ⊢
        refine wp_goto rfl rfl ?_
        refine wp_aload' (L' := [some (vR l0), some (vI l1), some (vI l2), some (vI l3), none, none, none]) rfl rfl rfl rfl ?_
        refine wp_dup rfl rfl rfl ?_
        refine wp_getI rfl rfl rfl f18 rfl ?_
        refine wp_const rfl rfl ?_
        refine wp_iadd rfl rfl ?_
        obtain ⟨f19, F⟩ := F
        refine wp_putI rfl rfl rfl f19 f18 rfl ?_
        have f20 : gK (pI h8 l0 50 ((gI h8 l0 50) + 1)) l0 = 14 := (gK_pI _ _ _ _ _).trans f18
        replace F := F _ rfl
        generalize pI h8 l0 50 ((gI h8 l0 50) + 1) = h9 at F f20 ⊢
        refine wp_goto rfl rfl ?_
        exact F
      · replace F := F.2 c
        refine wp_aload rfl rfl rfl ?_
        refine wp_aload rfl rfl rfl ?_
        refine wp_getR rfl rfl rfl f0 rfl ?_
        refine wp_iload rfl rfl rfl ?_
        obtain ⟨i10, b9, F⟩ := F
        refine wp_iaload rfl b9 rfl ?_
        refine wp_aload rfl rfl rfl ?_
        refine wp_getR rfl rfl rfl f0 rfl ?_
        refine wp_iload rfl rfl rfl ?_
        obtain ⟨i11, b9, F⟩ := F
        refine wp_iaload rfl b9 rfl ?_
        obtain ⟨f21, F⟩ := F
        refine wp_callI rfl rfl rfl (rcv_v f21 f0 (by decide) (by decide)) rfl rfl rfl rfl ?_
        refine CI.mono F (fun y0 h10 F => ?_) (fun _ _ w => rx_V w)
        refine wp_goto rfl rfl ?_
        obtain ⟨f22, F⟩ := F
        obtain ⟨i12, b9, F⟩ := F
        refine wp_iastore' (L' := [some (vR l0), some (vI l1), some (vI l2), some (vI l3), none, none, none]) rfl rfl f22 b9 rfl ?_
        replace F := F _ rfl
        generalize pI h10 (gR h l0 34) i12 y0 = h11 at F ⊢
        refine wp_goto rfl rfl ?_
        refine wp_aload' (L' := [some (vR l0), some (vI l1), some (vI l2), some (vI l3), none, none, none]) rfl rfl rfl rfl ?_
        refine wp_dup rfl rfl rfl ?_
        obtain ⟨f23, F⟩ := F
        refine wp_getI rfl rfl rfl f23 rfl ?_
        refine wp_const rfl rfl ?_
        refine wp_iadd rfl rfl ?_
        refine wp_putI rfl rfl rfl f21 f23 rfl ?_
        have f24 : gK (pI h11 l0 50 ((gI h11 l0 50) + 1)) l0 = 14 := (gK_pI _ _ _ _ _).trans f23
        replace F := F _ rfl
        generalize pI h11 l0 50 ((gI h11 l0 50) + 1) = h12 at F f24 ⊢
        refine wp_goto rfl rfl ?_
        exact F
    · replace F := F.2 c
      refine wp_iload' (L' := [some (vR l0), some (vI l1), some (vI l2), some (vI l3), some (vI l4), some (vI s0), none]) rfl rfl rfl rfl ?_
      refine wp_if_ne rfl rfl rfl rfl (fun c => ?_) (fun c => ?_)
      · replace F := F.1 c
        refine wp_aload rfl rfl rfl ?_
        refine wp_getI rfl rfl rfl f0 rfl ?_
        refine wp_if_ne rfl rfl rfl rfl (fun c => ?_) (fun c => ?_)
        · replace F := F.1 c
          refine wp_aload rfl rfl rfl ?_
          refine wp_getI rfl rfl rfl f0 rfl ?_
          refine wp_iload rfl rfl rfl ?_
          refine wp_icmp_le rfl rfl rfl rfl rfl (fun c => ?_) (fun c => ?_)
          · replace F := F.1 c
            refine wp_aload rfl rfl rfl ?_
            refine wp_getR rfl rfl rfl f0 rfl ?_
            refine wp_iload rfl rfl rfl ?_
            obtain ⟨i13, b9, F⟩ := F
            refine wp_iaload rfl b9 rfl ?_
            refine wp_const rfl rfl ?_
            refine wp_icmp_eq (Y := 2) rfl rfl rfl rfl rfl (fun c => ?_) (fun c => ?_)
            · replace F := F.1 c
              refine wp_const' (L' := [some (vR l0), some (vI l1), some (vI l2), some (vI l3), some (vI l4), none, none]) rfl rfl rfl ?_
              refine wp_goto rfl rfl ?_
              refine wp_istore' (L' := [some (vR l0), some (vI l1), some (vI l2), some (vI l3), some (vI l4), none, none]) (L2 := [some (vR l0), some (vI l1), some (vI l2), some (vI l3), some (vI l4), none, some (vI 1)]) rfl rfl rfl rfl rfl ?_
              refine wp_aload rfl rfl rfl ?_
              refine wp_aload rfl rfl rfl ?_
              refine wp_getR rfl rfl rfl f0 rfl ?_
              refine wp_iload rfl rfl rfl ?_
              obtain ⟨i14, b9, F⟩ := F
              refine wp_iaload rfl b9 rfl ?_
              refine wp_const rfl rfl ?_
              refine wp_icmp_ne (Y := 2) rfl rfl rfl rfl rfl (fun c => ?_) (fun c => ?_)
              · replace F := F.1 c
                refine wp_aload rfl rfl rfl ?_
                refine wp_getI rfl rfl rfl f0 rfl ?_
                refine wp_const rfl rfl ?_
                refine wp_icmp_ne (Y := (-1)) rfl rfl rfl rfl rfl (fun c => ?_) (fun c => ?_)
                · replace F := F.1 c
                  refine wp_aload rfl rfl rfl ?_
                  refine wp_getI rfl rfl rfl f0 rfl ?_
                  refine wp_goto rfl rfl ?_
                  exact F
                · replace F := F.2 c
                  refine wp_aload' (L' := [some (vR l0), some (vI l1), some (vI l2), some (vI l3), some (vI l4), none, some (vI 1)]) rfl rfl rfl rfl ?_
                  refine wp_getI rfl rfl rfl f0 rfl ?_
                  exact F
              · replace F := F.2 c
                refine wp_aload' (L' := [some (vR l0), some (vI l1), some (vI l2), some (vI l3), some (vI l4), none, some (vI 1)]) rfl rfl rfl rfl ?_
                refine wp_getI rfl rfl rfl f0 rfl ?_
                exact F
            · replace F := F.2 c
              refine wp_aload rfl rfl rfl ?_
              refine wp_getR rfl rfl rfl f0 rfl ?_
              refine wp_const rfl rfl ?_
              refine wp_iload rfl rfl rfl ?_
              refine wp_imul rfl rfl ?_
              refine wp_aload rfl rfl rfl ?_
              refine wp_getI rfl rfl rfl f0 rfl ?_
              refine wp_iadd rfl rfl ?_
              obtain ⟨i15, b9, F⟩ := F
              refine wp_zaload rfl b9 rfl ?_
              refine wp_if_ne rfl rfl rfl rfl (fun c => ?_) (fun c => ?_)
              · replace F := F.1 c
                refine wp_const' (L' := [some (vR l0), some (vI l1), some (vI l2), some (vI l3), some (vI l4), none, none]) rfl rfl rfl ?_
                refine wp_goto rfl rfl ?_
                refine wp_istore' (L' := [some (vR l0), some (vI l1), some (vI l2), some (vI l3), some (vI l4), none, none]) (L2 := [some (vR l0), some (vI l1), some (vI l2), some (vI l3), some (vI l4), none, some (vI 1)]) rfl rfl rfl rfl rfl ?_
                refine wp_aload rfl rfl rfl ?_
                refine wp_aload rfl rfl rfl ?_
                refine wp_getR rfl rfl rfl f0 rfl ?_
                refine wp_iload rfl rfl rfl ?_
                obtain ⟨i16, b9, F⟩ := F
                refine wp_iaload rfl b9 rfl ?_
                refine wp_const rfl rfl ?_
                refine wp_icmp_ne (Y := 2) rfl rfl rfl rfl rfl (fun c => ?_) (fun c => ?_)
                · replace F := F.1 c
                  refine wp_aload rfl rfl rfl ?_
                  refine wp_getI rfl rfl rfl f0 rfl ?_
                  refine wp_const rfl rfl ?_
                  refine wp_icmp_ne (Y := (-1)) rfl rfl rfl rfl rfl (fun c => ?_) (fun c => ?_)
                  · replace F := F.1 c
                    refine wp_aload rfl rfl rfl ?_
                    refine wp_getI rfl rfl rfl f0 rfl ?_
                    refine wp_goto rfl rfl ?_
                    exact F
                  · replace F := F.2 c
                    refine wp_aload' (L' := [some (vR l0), some (vI l1), some (vI l2), some (vI l3), some (vI l4), none, some (vI 1)]) rfl rfl rfl rfl ?_
                    refine wp_getI rfl rfl rfl f0 rfl ?_
                    exact F
                · replace F := F.2 c
                  refine wp_aload' (L' := [some (vR l0), some (vI l1), some (vI l2), some (vI l3), some (vI l4), none, some (vI 1)]) rfl rfl rfl rfl ?_
                  refine wp_getI rfl rfl rfl f0 rfl ?_
                  exact F
              · replace F := F.2 c
                refine wp_const' (L' := [some (vR l0), some (vI l1), some (vI l2), some (vI l3), some (vI l4), none, none]) rfl rfl rfl ?_
                refine wp_istore' (L' := [some (vR l0), some (vI l1), some (vI l2), some (vI l3), some (vI l4), none, none]) (L2 := [some (vR l0), some (vI l1), some (vI l2), some (vI l3), some (vI l4), none, some (vI 0)]) rfl rfl rfl rfl rfl ?_
                refine wp_aload rfl rfl rfl ?_
                refine wp_aload rfl rfl rfl ?_
                refine wp_getR rfl rfl rfl f0 rfl ?_
                refine wp_iload rfl rfl rfl ?_
                obtain ⟨i17, b9, F⟩ := F
                refine wp_iaload rfl b9 rfl ?_
                refine wp_const rfl rfl ?_
                refine wp_icmp_ne (Y := 2) rfl rfl rfl rfl rfl (fun c => ?_) (fun c => ?_)
                · replace F := F.1 c
                  refine wp_aload rfl rfl rfl ?_
                  refine wp_getI rfl rfl rfl f0 rfl ?_
                  refine wp_const rfl rfl ?_
                  refine wp_icmp_ne (Y := (-1)) rfl rfl rfl rfl rfl (fun c => ?_) (fun c => ?_)
                  · replace F := F.1 c
                    refine wp_aload rfl rfl rfl ?_
                    refine wp_getI rfl rfl rfl f0 rfl ?_
                    refine wp_goto rfl rfl ?_
                    exact F
                  · replace F := F.2 c
                    refine wp_aload' (L' := [some (vR l0), some (vI l1), some (vI l2), some (vI l3), some (vI l4), none, some (vI 0)]) rfl rfl rfl rfl ?_
                    refine wp_getI rfl rfl rfl f0 rfl ?_
                    exact F
                · replace F := F.2 c
                  refine wp_aload' (L' := [some (vR l0), some (vI l1), some (vI l2), some (vI l3), some (vI l4), none, some (vI 0)]) rfl rfl rfl rfl ?_
                  refine wp_getI rfl rfl rfl f0 rfl ?_
                  exact F
          · replace F := F.2 c
            refine wp_aload' (L' := [some (vR l0), some (vI l1), some (vI l2), some (vI l3), none, none, none]) rfl rfl rfl rfl ?_
            refine wp_dup rfl rfl rfl ?_
            refine wp_getI rfl rfl rfl f0 rfl ?_
            refine wp_const rfl rfl ?_
            refine wp_iadd rfl rfl ?_
            obtain ⟨f25, F⟩ := F
            refine wp_putI rfl rfl rfl f25 f0 rfl ?_
            have f26 : gK (pI h l0 50 ((gI h l0 50) + 1)) l0 = 14 := (gK_pI _ _ _ _ _).trans f0
            replace F := F _ rfl
            generalize pI h l0 50 ((gI h l0 50) + 1) = h13 at F f26 ⊢
            refine wp_goto rfl rfl ?_
            exact F
        · replace F := F.2 c
          refine wp_aload' (L' := [some (vR l0), some (vI l1), some (vI l2), some (vI l3), none, none, none]) rfl rfl rfl rfl ?_
          refine wp_dup rfl rfl rfl ?_
          refine wp_getI rfl rfl rfl f0 rfl ?_
          refine wp_const rfl rfl ?_
          refine wp_iadd rfl rfl ?_
          obtain ⟨f27, F⟩ := F
          refine wp_putI rfl rfl rfl f27 f0 rfl ?_
          have f28 : gK (pI h l0 50 ((gI h l0 50) + 1)) l0 = 14 := (gK_pI _ _ _ _ _).trans f0
          replace F := F _ rfl
          generalize pI h l0 50 ((gI h l0 50) + 1) = h14 at F f28 ⊢
          refine wp_goto rfl rfl ?_
          exact F
      · replace F := F.2 c
        refine wp_aload' (L' := [some (vR l0), some (vI l1), some (vI l2), some (vI l3), none, none, none]) rfl rfl rfl rfl ?_
        refine wp_dup rfl rfl rfl ?_
        refine wp_getI rfl rfl rfl f0 rfl ?_
        refine wp_const rfl rfl ?_
        refine wp_iadd rfl rfl ?_
        obtain ⟨f29, F⟩ := F
        refine wp_putI rfl rfl rfl f29 f0 rfl ?_
        have f30 : gK (pI h l0 50 ((gI h l0 50) + 1)) l0 = 14 := (gK_pI _ _ _ _ _).trans f0
        replace F := F _ rfl
        generalize pI h l0 50 ((gI h l0 50) + 1) = h15 at F f30 ⊢
        refine wp_goto rfl rfl ?_
        exact F
theorem w148_351 {d : Nat} {l0 : Nat} {l1 : Int32} {l2 : Int32} {l3 : Int32} {l4 : Int32} {l6 : Int32} {s0 : Int32} {s1 : Nat} {h : aH} {K : aH → Prop} {X : Nat → aH → Prop} (F : 8 ≤ s1 ∧ gK h s1 = 14 ∧ ∀ h0 : aH, h0 = pI h s1 51 s0 → gK h0 l0 = 14 ∧ ∃ i0 : Nat, inB h0 100 (gR h0 l0 16) l4 i0 ∧ (((gI h0 (gR h0 l0 16) i0).toInt = 3 → (((gI h0 l0 52).toInt = (-1) → ((l6.toInt = 0 → 8 ≤ l0 ∧ ∀ h1 : aH, h1 = pI h0 l0 52 (gI h0 l0 52) → ∀ h2 : aH, h2 = pI h1 l0 50 ((gI h1 l0 50) + 1) → Wp (d + 1) 148 (82, [some (vR l0), some (vI l1), some (vI l2), some (vI l3), none, none, none], [], h2) (RV K X)) ∧ (¬ l6.toInt = 0 → 8 ≤ l0 ∧ ∀ h3 : aH, h3 = pI h0 l0 52 (gI h0 l0 50) → ∀ h4 : aH, h4 = pI h3 l0 50 ((gI h3 l0 50) + 1) → Wp (d + 1) 148 (82, [some (vR l0), some (vI l1), some (vI l2), some (vI l3), none, none, none], [], h4) (RV K X)))) ∧ (¬ (gI h0 l0 52).toInt = (-1) → 8 ≤ l0 ∧ ∀ h5 : aH, h5 = pI h0 l0 52 (gI h0 l0 52) → ∀ h6 : aH, h6 = pI h5 l0 50 ((gI h5 l0 50) + 1) → Wp (d + 1) 148 (82, [some (vR l0), some (vI l1), some (vI l2), some (vI l3), none, none, none], [], h6) (RV K X)))) ∧ (¬ (gI h0 (gR h0 l0 16) i0).toInt = 3 → 8 ≤ l0 ∧ ∀ h7 : aH, h7 = pI h0 l0 52 (gI h0 l0 52) → ∀ h8 : aH, h8 = pI h7 l0 50 ((gI h7 l0 50) + 1) → Wp (d + 1) 148 (82, [some (vR l0), some (vI l1), some (vI l2), some (vI l3), none, none, none], [], h8) (RV K X)))) : Wp (d + 1) 148 (351, [some (vR l0), some (vI l1), some (vI l2), some (vI l3), some (vI l4), none, some (vI l6)], [vI s0, vR s1], h) (RV K X) := by
  obtain ⟨f0, F⟩ := F
  obtain ⟨f1, F⟩ := F
  refine wp_putI' (L' := [some (vR l0), some (vI l1), some (vI l2), some (vI l3), some (vI l4), none, some (vI l6)]) rfl rfl rfl rfl f0 f1 rfl ?_
  have f2 : gK (pI h s1 51 s0) s1 = 14 := (gK_pI _ _ _ _ _).trans f1
  replace F := F _ rfl
  generalize pI h s1 51 s0 = h0 at F f2 ⊢
  refine wp_aload rfl rfl rfl ?_
  refine wp_aload rfl rfl rfl ?_
  obtain ⟨f3, F⟩ := F
  refine wp_getR rfl rfl rfl f3 rfl ?_
  refine wp_iload rfl rfl rfl ?_
  obtain ⟨i0, b9, F⟩ := F
  refine wp_iaload rfl b9 rfl ?_
  refine wp_const rfl rfl ?_
  refine wp_icmp_ne (Y := 3) rfl rfl rfl rfl rfl (fun c => ?_) (fun c => ?_)
  · replace F := F.1 c
    refine wp_aload rfl rfl rfl ?_
    refine wp_getI rfl rfl rfl f3 rfl ?_
    refine wp_const rfl rfl ?_
    refine wp_icmp_ne (Y := (-1)) rfl rfl rfl rfl rfl (fun c => ?_) (fun c => ?_)
    · replace F := F.1 c
      refine wp_iload rfl rfl rfl ?_
      refine wp_if_eq rfl rfl rfl rfl (fun c => ?_) (fun c => ?_)
      · replace F := F.1 c
        refine wp_aload' (L' := [some (vR l0), some (vI l1), some (vI l2), some (vI l3), none, none, none]) rfl rfl rfl rfl ?_
        refine wp_getI rfl rfl rfl f3 rfl ?_
        obtain ⟨f4, F⟩ := F
        refine wp_putI' (L' := [some (vR l0), some (vI l1), some (vI l2), some (vI l3), none, none, none]) rfl rfl rfl rfl f4 f3 rfl ?_
        have f5 : gK (pI h0 l0 52 (gI h0 l0 52)) s1 = 14 := (gK_pI _ _ _ _ _).trans f2
        have f6 : gK (pI h0 l0 52 (gI h0 l0 52)) l0 = 14 := (gK_pI _ _ _ _ _).trans f3
        replace F := F _ rfl
        generalize pI h0 l0 52 (gI h0 l0 52) = h1 at F f5 f6 ⊢
        refine wp_aload' (L' := [some (vR l0), some (vI l1), some (vI l2), some (vI l3), none, none, none]) rfl rfl rfl rfl ?_
        refine wp_dup rfl rfl rfl ?_
        refine wp_getI rfl rfl rfl f6 rfl ?_
        refine wp_const rfl rfl ?_
        refine wp_iadd rfl rfl ?_
        refine wp_putI rfl rfl rfl f4 f6 rfl ?_
        have f7 : gK (pI h1 l0 50 ((gI h1 l0 50) + 1)) s1 = 14 := (gK_pI _ _ _ _ _).trans f5
        have f8 : gK (pI h1 l0 50 ((gI h1 l0 50) + 1)) l0 = 14 := (gK_pI _ _ _ _ _).trans f6
        replace F := F _ rfl
        generalize pI h1 l0 50 ((gI h1 l0 50) + 1) = h2 at F f7 f8 ⊢
        refine wp_goto rfl rfl ?_
        exact F
      · replace F := F.2 c
        refine wp_aload rfl rfl rfl ?_
        refine wp_getI rfl rfl rfl f3 rfl ?_
        refine wp_goto rfl rfl ?_
        obtain ⟨f9, F⟩ := F
        refine wp_putI' (L' := [some (vR l0), some (vI l1), some (vI l2), some (vI l3), none, none, none]) rfl rfl rfl rfl f9 f3 rfl ?_
        have f10 : gK (pI h0 l0 52 (gI h0 l0 50)) s1 = 14 := (gK_pI _ _ _ _ _).trans f2
        have f11 : gK (pI h0 l0 52 (gI h0 l0 50)) l0 = 14 := (gK_pI _ _ _ _ _).trans f3
        replace F := F _ rfl
        generalize pI h0 l0 52 (gI h0 l0 50) = h3 at F f10 f11 ⊢
        refine wp_aload' (L' := [some (vR l0), some (vI l1), some (vI l2), some (vI l3), none, none, none]) rfl rfl rfl rfl ?_
        refine wp_dup rfl rfl rfl ?_
        refine wp_getI rfl rfl rfl f11 rfl ?_
        refine wp_const rfl rfl ?_
        refine wp_iadd rfl rfl ?_
        refine wp_putI rfl rfl rfl f9 f11 rfl ?_
        have f12 : gK (pI h3 l0 50 ((gI h3 l0 50) + 1)) s1 = 14 := (gK_pI _ _ _ _ _).trans f10
        have f13 : gK (pI h3 l0 50 ((gI h3 l0 50) + 1)) l0 = 14 := (gK_pI _ _ _ _ _).trans f11
        replace F := F _ rfl
        generalize pI h3 l0 50 ((gI h3 l0 50) + 1) = h4 at F f12 f13 ⊢
        refine wp_goto rfl rfl ?_
        exact F
    · replace F := F.2 c
      refine wp_aload' (L' := [some (vR l0), some (vI l1), some (vI l2), some (vI l3), none, none, none]) rfl rfl rfl rfl ?_
      refine wp_getI rfl rfl rfl f3 rfl ?_
      obtain ⟨f14, F⟩ := F
      refine wp_putI' (L' := [some (vR l0), some (vI l1), some (vI l2), some (vI l3), none, none, none]) rfl rfl rfl rfl f14 f3 rfl ?_
      have f15 : gK (pI h0 l0 52 (gI h0 l0 52)) s1 = 14 := (gK_pI _ _ _ _ _).trans f2
      have f16 : gK (pI h0 l0 52 (gI h0 l0 52)) l0 = 14 := (gK_pI _ _ _ _ _).trans f3
      replace F := F _ rfl
      generalize pI h0 l0 52 (gI h0 l0 52) = h5 at F f15 f16 ⊢
      refine wp_aload' (L' := [some (vR l0), some (vI l1), some (vI l2), some (vI l3), none, none, none]) rfl rfl rfl rfl ?_
      refine wp_dup rfl rfl rfl ?_
      refine wp_getI rfl rfl rfl f16 rfl ?_
      refine wp_const rfl rfl ?_
      refine wp_iadd rfl rfl ?_
      refine wp_putI rfl rfl rfl f14 f16 rfl ?_
      have f17 : gK (pI h5 l0 50 ((gI h5 l0 50) + 1)) s1 = 14 := (gK_pI _ _ _ _ _).trans f15
      have f18 : gK (pI h5 l0 50 ((gI h5 l0 50) + 1)) l0 = 14 := (gK_pI _ _ _ _ _).trans f16
      replace F := F _ rfl
      generalize pI h5 l0 50 ((gI h5 l0 50) + 1) = h6 at F f17 f18 ⊢
      refine wp_goto rfl rfl ?_
      exact F
  · replace F := F.2 c
    refine wp_aload' (L' := [some (vR l0), some (vI l1), some (vI l2), some (vI l3), none, none, none]) rfl rfl rfl rfl ?_
    refine wp_getI rfl rfl rfl f3 rfl ?_
    obtain ⟨f19, F⟩ := F
    refine wp_putI' (L' := [some (vR l0), some (vI l1), some (vI l2), some (vI l3), none, none, none]) rfl rfl rfl rfl f19 f3 rfl ?_
    have f20 : gK (pI h0 l0 52 (gI h0 l0 52)) s1 = 14 := (gK_pI _ _ _ _ _).trans f2
    have f21 : gK (pI h0 l0 52 (gI h0 l0 52)) l0 = 14 := (gK_pI _ _ _ _ _).trans f3
    replace F := F _ rfl
    generalize pI h0 l0 52 (gI h0 l0 52) = h7 at F f20 f21 ⊢
    refine wp_aload' (L' := [some (vR l0), some (vI l1), some (vI l2), some (vI l3), none, none, none]) rfl rfl rfl rfl ?_
    refine wp_dup rfl rfl rfl ?_
    refine wp_getI rfl rfl rfl f21 rfl ?_
    refine wp_const rfl rfl ?_
    refine wp_iadd rfl rfl ?_
    refine wp_putI rfl rfl rfl f19 f21 rfl ?_
    have f22 : gK (pI h7 l0 50 ((gI h7 l0 50) + 1)) s1 = 14 := (gK_pI _ _ _ _ _).trans f20
    have f23 : gK (pI h7 l0 50 ((gI h7 l0 50) + 1)) l0 = 14 := (gK_pI _ _ _ _ _).trans f21
    replace F := F _ rfl
    generalize pI h7 l0 50 ((gI h7 l0 50) + 1) = h8 at F f22 f23 ⊢
    refine wp_goto rfl rfl ?_
    exact F
-- CensusOfficeModel questionOf (I)I
theorem m149 {d : Nat} {a0 : Nat} {a1 : Int32} {h : aH} {K : Int32 → aH → Prop} {X : Nat → aH → Prop} (F : 8 ≤ a0 ∧ gK h a0 = 14 ∧ CV d 148 [vR a0, vI a1, vI (-1)] h (fun h0 => gK h0 a0 = 14 ∧ ∃ i0 : Nat, inB h0 102 (gR h0 a0 42) a1 i0 ∧ (((gI h0 (gR h0 a0 42) i0).toInt = 0 → ∃ i1 : Nat, inB h0 100 (gR h0 a0 39) a1 i1 ∧ ∃ i2 : Nat, inB h0 100 (gR h0 a0 15) (gI h0 (gR h0 a0 39) i1) i2 ∧ (((gI h0 a0 50).toInt = (gI h0 (gR h0 a0 15) i2).toInt → K (-1) h0) ∧ (¬ (gI h0 a0 50).toInt = (gI h0 (gR h0 a0 15) i2).toInt → K (gI h0 a0 50) h0))) ∧ (¬ (gI h0 (gR h0 a0 42) i0).toInt = 0 → K (-1) h0))) X) : CI (d + 1) 149 [vR a0, vI a1] h K X := by
  show Wp (d + 1) 149 (0, [some (vR a0), some (vI a1)], [], h) (RI K X)
  refine wp_aload rfl rfl rfl ?_
  refine wp_iload rfl rfl rfl ?_
  refine wp_const rfl rfl ?_
  obtain ⟨f0, F⟩ := F
  obtain ⟨f1, F⟩ := F
  refine wp_callV rfl rfl rfl (rcv_v f0 f1 (by decide) (by decide)) rfl rfl rfl rfl ?_
  refine CV.mono F (fun h0 F => ?_) (fun _ _ w => rx_I w)
  refine wp_aload rfl rfl rfl ?_
  obtain ⟨f2, F⟩ := F
  refine wp_getR rfl rfl rfl f2 rfl ?_
  refine wp_iload rfl rfl rfl ?_
  obtain ⟨i0, b9, F⟩ := F
  refine wp_zaload rfl b9 rfl ?_
  refine wp_if_ne rfl rfl rfl rfl (fun c => ?_) (fun c => ?_)
  · replace F := F.1 c
    refine wp_aload rfl rfl rfl ?_
    refine wp_getI rfl rfl rfl f2 rfl ?_
    refine wp_aload rfl rfl rfl ?_
    refine wp_getR rfl rfl rfl f2 rfl ?_
    refine wp_aload rfl rfl rfl ?_
    refine wp_getR rfl rfl rfl f2 rfl ?_
    refine wp_iload rfl rfl rfl ?_
    obtain ⟨i1, b9, F⟩ := F
    refine wp_iaload rfl b9 rfl ?_
    obtain ⟨i2, b9, F⟩ := F
    refine wp_iaload rfl b9 rfl ?_
    refine wp_icmp_ne rfl rfl rfl rfl rfl (fun c => ?_) (fun c => ?_)
    · replace F := F.1 c
      refine wp_const' (L' := [none, none]) rfl rfl rfl ?_
      refine wp_goto rfl rfl ?_
      exact wp_retI rfl (Or.inl rfl) F
    · replace F := F.2 c
      refine wp_aload' (L' := [some (vR a0), none]) rfl rfl rfl rfl ?_
      refine wp_getI rfl rfl rfl f2 rfl ?_
      exact wp_retI rfl (Or.inl rfl) F
  · replace F := F.2 c
    refine wp_const' (L' := [none, none]) rfl rfl rfl ?_
    refine wp_goto rfl rfl ?_
    exact wp_retI rfl (Or.inl rfl) F
-- CensusOfficeModel question (I)I
theorem m150 {d : Nat} {a0 : Nat} {a1 : Int32} {h : aH} {K : Int32 → aH → Prop} {X : Nat → aH → Prop} (F : 8 ≤ a0 ∧ gK h a0 = 14 ∧ ∀ h0 : aH, h0 = pI h a0 0 0 → CI d 145 [vR a0, vI a1] h0 (fun y0 h1 => ((y0.toInt = 0 → gK h1 a0 = 14 ∧ CI d 15 [vR a0, vI 1] h1 (fun y1 h2 => K y1 h2) X) ∧ (¬ y0.toInt = 0 → gK h1 a0 = 14 ∧ CI d 149 [vR a0, vI a1] h1 (fun y2 h3 => K y2 h3) X))) X) : CI (d + 1) 150 [vR a0, vI a1] h K X := by
  show Wp (d + 1) 150 (0, [some (vR a0), some (vI a1)], [], h) (RI K X)
  refine wp_aload rfl rfl rfl ?_
  refine wp_const rfl rfl ?_
  obtain ⟨f0, F⟩ := F
  obtain ⟨f1, F⟩ := F
  refine wp_putI rfl rfl rfl f0 f1 rfl ?_
  have f2 : gK (pI h a0 0 0) a0 = 14 := (gK_pI _ _ _ _ _).trans f1
  replace F := F _ rfl
  generalize pI h a0 0 0 = h0 at F f2 ⊢
  refine wp_aload rfl rfl rfl ?_
  refine wp_iload rfl rfl rfl ?_
  refine wp_callI rfl rfl rfl (rcv_v f0 f2 (by decide) (by decide)) rfl rfl rfl rfl ?_
  refine CI.mono F (fun y0 h1 F => ?_) (fun _ _ w => rx_I w)
  refine wp_if_eq rfl rfl rfl rfl (fun c => ?_) (fun c => ?_)
  · replace F := F.1 c
    refine wp_aload' (L' := [some (vR a0), none]) rfl rfl rfl rfl ?_
    refine wp_const rfl rfl ?_
    obtain ⟨f3, F⟩ := F
    refine wp_callI rfl rfl rfl (rcv_v f0 f3 (by decide) (by decide)) rfl rfl rfl rfl ?_
    refine CI.mono F (fun y1 h2 F => ?_) (fun _ _ w => rx_I w)
    exact wp_retI rfl (Or.inl rfl) F
  · replace F := F.2 c
    refine wp_aload rfl rfl rfl ?_
    refine wp_iload rfl rfl rfl ?_
    obtain ⟨f4, F⟩ := F
    refine wp_callI rfl rfl rfl (rcv_v f0 f4 (by decide) (by decide)) rfl rfl rfl rfl ?_
    refine CI.mono F (fun y2 h3 F => ?_) (fun _ _ w => rx_I w)
    refine wp_goto rfl rfl ?_
    exact wp_retI rfl (Or.inl rfl) F
-- CensusOffice$Session behind (I)I
theorem m151 {d : Nat} {a0 : Nat} {a1 : Int32} {h : aH} {K : Int32 → aH → Prop} {X : Nat → aH → Prop} (F : K ((-2) <<< (a1 &&& 31)) h) : CI d 151 [vR a0, vI a1] h K X := by
  show Wp d 151 (0, [some (vR a0), some (vI a1)], [], h) (RI K X)
  refine wp_const rfl rfl ?_
  refine wp_iload rfl rfl rfl ?_
  refine wp_ishl rfl rfl ?_
  exact wp_retI rfl (Or.inl rfl) F
-- java/lang/Integer numberOfTrailingZeros (I)I
theorem m152 {d : Nat} {a0 : Int32} {h : aH} {K : Int32 → aH → Prop} {X : Nat → aH → Prop} (F : ∀ v0 : Int32, v0 = (a0 ^^^ (-1)) &&& (a0 - 1) → ((0 < v0.toInt → ((65536 < v0.toInt → ∀ v1 : Int32, v1 = 1 + 16 → ∀ v2 : Int32, v2 = aUshr v0 16 → ((256 < v2.toInt → ∀ v3 : Int32, v3 = v1 + 8 → ∀ v4 : Int32, v4 = aUshr v2 8 → Wp d 152 (49, [some (vI v4), some (vI v3)], [], h) (RI K X)) ∧ (¬ 256 < v2.toInt → Wp d 152 (49, [some (vI v2), some (vI v1)], [], h) (RI K X)))) ∧ (¬ 65536 < v0.toInt → ((256 < v0.toInt → ∀ v5 : Int32, v5 = 1 + 8 → ∀ v6 : Int32, v6 = aUshr v0 8 → Wp d 152 (49, [some (vI v6), some (vI v5)], [], h) (RI K X)) ∧ (¬ 256 < v0.toInt → Wp d 152 (49, [some (vI v0), some (vI 1)], [], h) (RI K X)))))) ∧ (¬ 0 < v0.toInt → K (v0 &&& 32) h))) : CI d 152 [vI a0] h K X := by
  show Wp d 152 (0, [some (vI a0), none], [], h) (RI K X)
  refine wp_iload rfl rfl rfl ?_
  refine wp_const rfl rfl ?_
  refine wp_ixor rfl rfl ?_
  refine wp_iload rfl rfl rfl ?_
  refine wp_const rfl rfl ?_
  refine wp_isub rfl rfl ?_
  refine wp_iand rfl rfl ?_
  replace F := F _ rfl
  generalize ((a0 ^^^ (-1)) &&& (a0 - 1) : Int32) = v0 at F ⊢
  refine wp_istore (L2 := [some (vI v0), none]) rfl rfl rfl rfl ?_
  refine wp_iload rfl rfl rfl ?_
  refine wp_if_gt rfl rfl rfl rfl (fun c => ?_) (fun c => ?_)
  · replace F := F.1 c
    refine wp_const' (L' := [some (vI v0), none]) rfl rfl rfl ?_
    refine wp_istore (L2 := [some (vI v0), some (vI 1)]) rfl rfl rfl rfl ?_
    refine wp_iload rfl rfl rfl ?_
    refine wp_const rfl rfl ?_
    refine wp_icmp_le (Y := 65536) rfl rfl rfl rfl rfl (fun c => ?_) (fun c => ?_)
    · replace F := F.1 c
      refine wp_iinc (y := 16) (L2 := [some (vI v0), some (vI (1 + 16))]) rfl rfl rfl rfl rfl ?_
      replace F := F _ rfl
      generalize (1 + 16 : Int32) = v1 at F ⊢
      refine wp_iload rfl rfl rfl ?_
      refine wp_const rfl rfl ?_
      refine wp_iushr rfl rfl ?_
      replace F := F _ rfl
      generalize (aUshr v0 16 : Int32) = v2 at F ⊢
      refine wp_istore (L2 := [some (vI v2), some (vI v1)]) rfl rfl rfl rfl ?_
      refine wp_iload rfl rfl rfl ?_
      refine wp_const rfl rfl ?_
      refine wp_icmp_le (Y := 256) rfl rfl rfl rfl rfl (fun c => ?_) (fun c => ?_)
      · replace F := F.1 c
        refine wp_iinc (y := 8) (L2 := [some (vI v2), some (vI (v1 + 8))]) rfl rfl rfl rfl rfl ?_
        replace F := F _ rfl
        generalize (v1 + 8 : Int32) = v3 at F ⊢
        refine wp_iload rfl rfl rfl ?_
        refine wp_const rfl rfl ?_
        refine wp_iushr rfl rfl ?_
        replace F := F _ rfl
        generalize (aUshr v2 8 : Int32) = v4 at F ⊢
        refine wp_istore (L2 := [some (vI v4), some (vI v3)]) rfl rfl rfl rfl ?_
        exact F
      · replace F := F.2 c
        exact F
    · replace F := F.2 c
      refine wp_iload rfl rfl rfl ?_
      refine wp_const rfl rfl ?_
      refine wp_icmp_le (Y := 256) rfl rfl rfl rfl rfl (fun c => ?_) (fun c => ?_)
      · replace F := F.1 c
        refine wp_iinc (y := 8) (L2 := [some (vI v0), some (vI (1 + 8))]) rfl rfl rfl rfl rfl ?_
        replace F := F _ rfl
        generalize (1 + 8 : Int32) = v5 at F ⊢
        refine wp_iload rfl rfl rfl ?_
        refine wp_const rfl rfl ?_
        refine wp_iushr rfl rfl ?_
        replace F := F _ rfl
        generalize (aUshr v0 8 : Int32) = v6 at F ⊢
        refine wp_istore (L2 := [some (vI v6), some (vI v5)]) rfl rfl rfl rfl ?_
        exact F
      · replace F := F.2 c
        exact F
  · replace F := F.2 c
    refine wp_iload rfl rfl rfl ?_
    refine wp_const rfl rfl ?_
    refine wp_iand rfl rfl ?_
    exact wp_retI rfl (Or.inl rfl) F
theorem w152_49 {d : Nat} {l0 : Int32} {l1 : Int32} {h : aH} {K : Int32 → aH → Prop} {X : Nat → aH → Prop} (F : ((16 < l0.toInt → ∀ v0 : Int32, v0 = l1 + 4 → ∀ v1 : Int32, v1 = aUshr l0 4 → ((4 < v1.toInt → ∀ v2 : Int32, v2 = v0 + 2 → ∀ v3 : Int32, v3 = aUshr v1 2 → K (v2 + (aUshr v3 1)) h) ∧ (¬ 4 < v1.toInt → K (v0 + (aUshr v1 1)) h))) ∧ (¬ 16 < l0.toInt → ((4 < l0.toInt → ∀ v4 : Int32, v4 = l1 + 2 → ∀ v5 : Int32, v5 = aUshr l0 2 → K (v4 + (aUshr v5 1)) h) ∧ (¬ 4 < l0.toInt → K (l1 + (aUshr l0 1)) h))))) : Wp d 152 (49, [some (vI l0), some (vI l1)], [], h) (RI K X) := by
  refine wp_iload rfl rfl rfl ?_
  refine wp_const rfl rfl ?_
  refine wp_icmp_le (Y := 16) rfl rfl rfl rfl rfl (fun c => ?_) (fun c => ?_)
  · replace F := F.1 c
    refine wp_iinc (y := 4) (L2 := [some (vI l0), some (vI (l1 + 4))]) rfl rfl rfl rfl rfl ?_
    replace F := F _ rfl
    generalize (l1 + 4 : Int32) = v0 at F ⊢
    refine wp_iload rfl rfl rfl ?_
    refine wp_const rfl rfl ?_
    refine wp_iushr rfl rfl ?_
    replace F := F _ rfl
    generalize (aUshr l0 4 : Int32) = v1 at F ⊢
    refine wp_istore (L2 := [some (vI v1), some (vI v0)]) rfl rfl rfl rfl ?_
    refine wp_iload rfl rfl rfl ?_
    refine wp_const rfl rfl ?_
    refine wp_icmp_le (Y := 4) rfl rfl rfl rfl rfl (fun c => ?_) (fun c => ?_)
    · replace F := F.1 c
      refine wp_iinc (y := 2) (L2 := [some (vI v1), some (vI (v0 + 2))]) rfl rfl rfl rfl rfl ?_
      replace F := F _ rfl
      generalize (v0 + 2 : Int32) = v2 at F ⊢
      refine wp_iload rfl rfl rfl ?_
      refine wp_const rfl rfl ?_
      refine wp_iushr rfl rfl ?_
      replace F := F _ rfl
      generalize (aUshr v1 2 : Int32) = v3 at F ⊢
      refine wp_istore (L2 := [some (vI v3), some (vI v2)]) rfl rfl rfl rfl ?_
      refine wp_iload rfl rfl rfl ?_
      refine wp_iload rfl rfl rfl ?_
      refine wp_const rfl rfl ?_
      refine wp_iushr rfl rfl ?_
      refine wp_iadd rfl rfl ?_
      exact wp_retI rfl (Or.inl rfl) F
    · replace F := F.2 c
      refine wp_iload rfl rfl rfl ?_
      refine wp_iload rfl rfl rfl ?_
      refine wp_const rfl rfl ?_
      refine wp_iushr rfl rfl ?_
      refine wp_iadd rfl rfl ?_
      exact wp_retI rfl (Or.inl rfl) F
  · replace F := F.2 c
    refine wp_iload rfl rfl rfl ?_
    refine wp_const rfl rfl ?_
    refine wp_icmp_le (Y := 4) rfl rfl rfl rfl rfl (fun c => ?_) (fun c => ?_)
    · replace F := F.1 c
      refine wp_iinc (y := 2) (L2 := [some (vI l0), some (vI (l1 + 2))]) rfl rfl rfl rfl rfl ?_
      replace F := F _ rfl
      generalize (l1 + 2 : Int32) = v4 at F ⊢
      refine wp_iload rfl rfl rfl ?_
      refine wp_const rfl rfl ?_
      refine wp_iushr rfl rfl ?_
      replace F := F _ rfl
      generalize (aUshr l0 2 : Int32) = v5 at F ⊢
      refine wp_istore (L2 := [some (vI v5), some (vI v4)]) rfl rfl rfl rfl ?_
      refine wp_iload rfl rfl rfl ?_
      refine wp_iload rfl rfl rfl ?_
      refine wp_const rfl rfl ?_
      refine wp_iushr rfl rfl ?_
      refine wp_iadd rfl rfl ?_
      exact wp_retI rfl (Or.inl rfl) F
    · replace F := F.2 c
      refine wp_iload rfl rfl rfl ?_
      refine wp_iload rfl rfl rfl ?_
      refine wp_const rfl rfl ?_
      refine wp_iushr rfl rfl ?_
      refine wp_iadd rfl rfl ?_
      exact wp_retI rfl (Or.inl rfl) F
-- CensusOffice$Session refusalBehind (I)I
theorem m153 {d : Nat} {a0 : Nat} {a1 : Int32} {h : aH} {K : Int32 → aH → Prop} {X : Nat → aH → Prop} (F : gK h a0 = 10 ∧ 8 ≤ a0 ∧ CI d 151 [vR a0, vI a1] h (fun y0 h0 => ∀ v0 : Int32, v0 = (gI h a0 7) &&& y0 → ((v0.toInt = 0 → gK h0 a0 = 10 ∧ CI d 151 [vR a0, vI a1] h0 (fun y1 h1 => gK h1 a0 = 10 ∧ ∀ v1 : Int32, v1 = ((gI h0 a0 8) &&& y1) &&& ((gI h1 a0 9) ^^^ (-1)) → ((v1.toInt = 0 → K 0 h1) ∧ (¬ v1.toInt = 0 → CI d 152 [vI v1] h1 (fun y2 h2 => gK h2 a0 = 10 ∧ ∀ h3 : aH, h3 = pI h2 a0 9 ((gI h2 a0 9) ||| (1 <<< (y2 &&& 31))) → K (200 + y2) h3) X))) X) ∧ (¬ v0.toInt = 0 → CI d 152 [vI v0] h0 (fun y3 h4 => K (100 + y3) h4) X))) X) : CI (d + 1) 153 [vR a0, vI a1] h K X := by
  show Wp (d + 1) 153 (0, [some (vR a0), some (vI a1), none, none, none], [], h) (RI K X)
  refine wp_aload rfl rfl rfl ?_
  obtain ⟨f0, F⟩ := F
  refine wp_getI rfl rfl rfl f0 rfl ?_
  refine wp_aload rfl rfl rfl ?_
  refine wp_iload rfl rfl rfl ?_
  obtain ⟨f1, F⟩ := F
  refine wp_callI rfl rfl rfl (rcv_v f1 f0 (by decide) (by decide)) rfl rfl rfl rfl ?_
  refine CI.mono F (fun y0 h0 F => ?_) (fun _ _ w => rx_I w)
  refine wp_iand rfl rfl ?_
  replace F := F _ rfl
  generalize ((gI h a0 7) &&& y0 : Int32) = v0 at F ⊢
  refine wp_istore (L2 := [some (vR a0), some (vI a1), some (vI v0), none, none]) rfl rfl rfl rfl ?_
  refine wp_iload rfl rfl rfl ?_
  refine wp_if_eq rfl rfl rfl rfl (fun c => ?_) (fun c => ?_)
  · replace F := F.1 c
    refine wp_aload' (L' := [some (vR a0), some (vI a1), none, none, none]) rfl rfl rfl rfl ?_
    obtain ⟨f2, F⟩ := F
    refine wp_getI rfl rfl rfl f2 rfl ?_
    refine wp_aload rfl rfl rfl ?_
    refine wp_iload rfl rfl rfl ?_
    refine wp_callI rfl rfl rfl (rcv_v f1 f2 (by decide) (by decide)) rfl rfl rfl rfl ?_
    refine CI.mono F (fun y1 h1 F => ?_) (fun _ _ w => rx_I w)
    refine wp_iand rfl rfl ?_
    refine wp_aload rfl rfl rfl ?_
    obtain ⟨f3, F⟩ := F
    refine wp_getI rfl rfl rfl f3 rfl ?_
    refine wp_const rfl rfl ?_
    refine wp_ixor rfl rfl ?_
    refine wp_iand rfl rfl ?_
    replace F := F _ rfl
    generalize (((gI h0 a0 8) &&& y1) &&& ((gI h1 a0 9) ^^^ (-1)) : Int32) = v1 at F ⊢
    refine wp_istore (L2 := [some (vR a0), some (vI a1), none, some (vI v1), none]) rfl rfl rfl rfl ?_
    refine wp_iload rfl rfl rfl ?_
    refine wp_if_ne rfl rfl rfl rfl (fun c => ?_) (fun c => ?_)
    · replace F := F.1 c
      refine wp_const rfl rfl ?_
      exact wp_retI rfl (Or.inl rfl) F
    · replace F := F.2 c
      refine wp_iload' (L' := [some (vR a0), none, none, some (vI v1), none]) rfl rfl rfl rfl ?_
      refine wp_callI rfl rfl rfl rfl rfl rfl rfl rfl ?_
      refine CI.mono F (fun y2 h2 F => ?_) (fun _ _ w => rx_I w)
      refine wp_istore (L2 := [some (vR a0), none, none, some (vI v1), some (vI y2)]) rfl rfl rfl rfl ?_
      refine wp_aload rfl rfl rfl ?_
      refine wp_dup rfl rfl rfl ?_
      obtain ⟨f4, F⟩ := F
      refine wp_getI rfl rfl rfl f4 rfl ?_
      refine wp_const rfl rfl ?_
      refine wp_iload rfl rfl rfl ?_
      refine wp_ishl rfl rfl ?_
      refine wp_ior rfl rfl ?_
      refine wp_putI rfl rfl rfl f1 f4 rfl ?_
      have f5 : gK (pI h2 a0 9 ((gI h2 a0 9) ||| (1 <<< (y2 &&& 31)))) a0 = 10 := (gK_pI _ _ _ _ _).trans f4
      replace F := F _ rfl
      generalize pI h2 a0 9 ((gI h2 a0 9) ||| (1 <<< (y2 &&& 31))) = h3 at F f5 ⊢
      refine wp_const rfl rfl ?_
      refine wp_iload rfl rfl rfl ?_
      refine wp_iadd rfl rfl ?_
      exact wp_retI rfl (Or.inl rfl) F
  · replace F := F.2 c
    refine wp_const rfl rfl ?_
    refine wp_iload rfl rfl rfl ?_
    refine wp_callI rfl rfl rfl rfl rfl rfl rfl rfl ?_
    refine CI.mono F (fun y3 h4 F => ?_) (fun _ _ w => rx_I w)
    refine wp_iadd rfl rfl ?_
    exact wp_retI rfl (Or.inl rfl) F
-- CensusOffice$Session takeAsides ()V
theorem m154 {d : Nat} {a0 : Nat} {h : aH} {K : aH → Prop} {X : Nat → aH → Prop} (F : Wp (d + 1) 154 (2, [some (vR a0), some (vI 0), none], [], h) (RV K X)) : CV (d + 1) 154 [vR a0] h K X := by
  show Wp (d + 1) 154 (0, [some (vR a0), none, none], [], h) (RV K X)
  refine wp_const rfl rfl ?_
  refine wp_istore (L2 := [some (vR a0), some (vI 0), none]) rfl rfl rfl rfl ?_
  exact F
theorem w154_2 {d : Nat} {l0 : Nat} {l1 : Int32} {h : aH} {K : aH → Prop} {X : Nat → aH → Prop} (F : gK h l0 = 10 ∧ gK h (gR h l0 0) = 3 ∧ ((l1.toInt < (gI h (gR h l0 0) 11).toInt → 8 ≤ l0 ∧ CI d 142 [vR l0] h (fun y0 h0 => ((y0.toInt = (-1) → K h0) ∧ (¬ y0.toInt = (-1) → gK h0 l0 = 10 ∧ ∃ i0 : Nat, inB h0 100 (gR h0 l0 5) y0 i0 ∧ (((gI h0 (gR h0 l0 5) i0).toInt = (-2000000) → K h0) ∧ (¬ (gI h0 (gR h0 l0 5) i0).toInt = (-2000000) → ∃ i1 : Nat, inB h0 100 (gR h0 l0 5) y0 i1 ∧ 8 ≤ (gR h0 l0 4) ∧ ∃ i2 : Nat, inB h0 100 (gR h0 l0 4) y0 i2 ∧ ∀ h1 : aH, h1 = pI h0 (gR h0 l0 4) i2 (gI h0 (gR h0 l0 5) i1) → CV d 136 [vR l0] h1 (fun h2 => gK h2 l0 = 10 ∧ CI d 151 [vR l0, vI y0] h2 (fun y1 h3 => (((((gI h2 l0 7) ||| (gI h2 l0 8)) &&& y1).toInt = 0 → gK h3 l0 = 10 ∧ 8 ≤ (gR h3 l0 5) ∧ ∃ i3 : Nat, inB h3 100 (gR h3 l0 5) y0 i3 ∧ ∀ h4 : aH, h4 = pI h3 (gR h3 l0 5) i3 (-2000000) → ∀ v0 : Int32, v0 = l1 + 1 → Wp (d + 1) 154 (2, [some (vR l0), some (vI v0), none], [], h4) (RV K X)) ∧ (¬ (((gI h2 l0 7) ||| (gI h2 l0 8)) &&& y1).toInt = 0 → gK h3 l0 = 10 ∧ 8 ≤ (gR h3 l0 4) ∧ ∃ i4 : Nat, inB h3 100 (gR h3 l0 4) y0 i4 ∧ ∀ h5 : aH, h5 = pI h3 (gR h3 l0 4) i4 (-2000000) → CV d 136 [vR l0] h5 (fun h6 => K h6) X))) X) X))))) X) ∧ (¬ l1.toInt < (gI h (gR h l0 0) 11).toInt → K h))) : Wp (d + 1) 154 (2, [some (vR l0), some (vI l1), none], [], h) (RV K X) := by
  refine wp_iload' (L' := [some (vR l0), some (vI l1), none]) rfl rfl rfl rfl ?_
  refine wp_aload rfl rfl rfl ?_
  obtain ⟨f0, F⟩ := F
  refine wp_getR rfl rfl rfl f0 rfl ?_
  obtain ⟨f1, F⟩ := F
  refine wp_getI rfl rfl rfl f1 rfl ?_
  refine wp_icmp_ge rfl rfl rfl rfl rfl (fun c => ?_) (fun c => ?_)
  · replace F := F.1 c
    refine wp_aload rfl rfl rfl ?_
    obtain ⟨f2, F⟩ := F
    refine wp_callI rfl rfl rfl (rcv_v f2 f0 (by decide) (by decide)) rfl rfl rfl rfl ?_
    refine CI.mono F (fun y0 h0 F => ?_) (fun _ _ w => rx_V w)
    refine wp_istore (L2 := [some (vR l0), some (vI l1), some (vI y0)]) rfl rfl rfl rfl ?_
    refine wp_iload rfl rfl rfl ?_
    refine wp_const rfl rfl ?_
    refine wp_icmp_eq (Y := (-1)) rfl rfl rfl rfl rfl (fun c => ?_) (fun c => ?_)
    · replace F := F.1 c
      exact wp_retV rfl F
    · replace F := F.2 c
      refine wp_aload rfl rfl rfl ?_
      obtain ⟨f3, F⟩ := F
      refine wp_getR rfl rfl rfl f3 rfl ?_
      refine wp_iload rfl rfl rfl ?_
      obtain ⟨i0, b9, F⟩ := F
      refine wp_iaload rfl b9 rfl ?_
      refine wp_const rfl rfl ?_
      refine wp_icmp_ne (Y := (-2000000)) rfl rfl rfl rfl rfl (fun c => ?_) (fun c => ?_)
      · replace F := F.1 c
        exact wp_retV rfl F
      · replace F := F.2 c
        refine wp_aload rfl rfl rfl ?_
        refine wp_getR rfl rfl rfl f3 rfl ?_
        refine wp_iload rfl rfl rfl ?_
        refine wp_aload rfl rfl rfl ?_
        refine wp_getR rfl rfl rfl f3 rfl ?_
        refine wp_iload rfl rfl rfl ?_
        obtain ⟨i1, b9, F⟩ := F
        refine wp_iaload rfl b9 rfl ?_
        obtain ⟨f4, F⟩ := F
        obtain ⟨i2, b9, F⟩ := F
        refine wp_iastore rfl f4 b9 rfl ?_
        have f5 : gK (pI h0 (gR h0 l0 4) i2 (gI h0 (gR h0 l0 5) i1)) l0 = 10 := (gK_pI _ _ _ _ _).trans f3
        replace F := F _ rfl
        generalize pI h0 (gR h0 l0 4) i2 (gI h0 (gR h0 l0 5) i1) = h1 at F f5 ⊢
        refine wp_aload rfl rfl rfl ?_
        refine wp_callV rfl rfl rfl (rcv_v f2 f5 (by decide) (by decide)) rfl rfl rfl rfl ?_
        refine CV.mono F (fun h2 F => ?_) (fun _ _ w => rx_V w)
        refine wp_aload rfl rfl rfl ?_
        obtain ⟨f6, F⟩ := F
        refine wp_getI rfl rfl rfl f6 rfl ?_
        refine wp_aload rfl rfl rfl ?_
        refine wp_getI rfl rfl rfl f6 rfl ?_
        refine wp_ior rfl rfl ?_
        refine wp_aload rfl rfl rfl ?_
        refine wp_iload rfl rfl rfl ?_
        refine wp_callI rfl rfl rfl (rcv_v f2 f6 (by decide) (by decide)) rfl rfl rfl rfl ?_
        refine CI.mono F (fun y1 h3 F => ?_) (fun _ _ w => rx_V w)
        refine wp_iand rfl rfl ?_
        refine wp_if_eq rfl rfl rfl rfl (fun c => ?_) (fun c => ?_)
        · replace F := F.1 c
          refine wp_aload rfl rfl rfl ?_
          obtain ⟨f7, F⟩ := F
          refine wp_getR rfl rfl rfl f7 rfl ?_
          refine wp_iload rfl rfl rfl ?_
          refine wp_const rfl rfl ?_
          obtain ⟨f8, F⟩ := F
          obtain ⟨i3, b9, F⟩ := F
          refine wp_iastore rfl f8 b9 rfl ?_
          have f9 : gK (pI h3 (gR h3 l0 5) i3 (-2000000)) l0 = 10 := (gK_pI _ _ _ _ _).trans f7
          replace F := F _ rfl
          generalize pI h3 (gR h3 l0 5) i3 (-2000000) = h4 at F f9 ⊢
          refine wp_iinc (y := 1) (L2 := [some (vR l0), some (vI (l1 + 1)), some (vI y0)]) rfl rfl rfl rfl rfl ?_
          replace F := F _ rfl
          generalize (l1 + 1 : Int32) = v0 at F ⊢
          refine wp_goto rfl rfl ?_
          refine wp_kill (L' := [some (vR l0), some (vI v0), none]) rfl rfl ?_
          exact F
        · replace F := F.2 c
          refine wp_aload rfl rfl rfl ?_
          obtain ⟨f10, F⟩ := F
          refine wp_getR rfl rfl rfl f10 rfl ?_
          refine wp_iload rfl rfl rfl ?_
          refine wp_const rfl rfl ?_
          obtain ⟨f11, F⟩ := F
          obtain ⟨i4, b9, F⟩ := F
          refine wp_iastore rfl f11 b9 rfl ?_
          have f12 : gK (pI h3 (gR h3 l0 4) i4 (-2000000)) l0 = 10 := (gK_pI _ _ _ _ _).trans f10
          replace F := F _ rfl
          generalize pI h3 (gR h3 l0 4) i4 (-2000000) = h5 at F f12 ⊢
          refine wp_aload rfl rfl rfl ?_
          refine wp_callV rfl rfl rfl (rcv_v f2 f12 (by decide) (by decide)) rfl rfl rfl rfl ?_
          refine CV.mono F (fun h6 F => ?_) (fun _ _ w => rx_V w)
          exact wp_retV rfl F
  · replace F := F.2 c
    exact wp_retV rfl F
-- CensusOffice$Session take (I)I
theorem m155 {d : Nat} {a0 : Nat} {a1 : Int32} {h : aH} {K : Int32 → aH → Prop} {X : Nat → aH → Prop} (F : 8 ≤ a0 ∧ gK h a0 = 10 ∧ CI d 142 [vR a0] h (fun y0 h0 => ((y0.toInt = (-1) → K 0 h0) ∧ (¬ y0.toInt = (-1) → gK h0 a0 = 10 ∧ ((y0.toInt = (gI h0 a0 10).toInt → ((a1.toInt = (gI h0 a0 11).toInt → Wp (d + 1) 155 (33, [some (vR a0), some (vI a1), some (vI y0), none], [], h0) (RI K X)) ∧ (¬ a1.toInt = (gI h0 a0 11).toInt → ∀ h1 : aH, h1 = pI h0 a0 9 0 → Wp (d + 1) 155 (33, [some (vR a0), some (vI a1), some (vI y0), none], [], h1) (RI K X)))) ∧ (¬ y0.toInt = (gI h0 a0 10).toInt → ∀ h2 : aH, h2 = pI h0 a0 9 0 → Wp (d + 1) 155 (33, [some (vR a0), some (vI a1), some (vI y0), none], [], h2) (RI K X)))))) X) : CI (d + 1) 155 [vR a0, vI a1] h K X := by
  show Wp (d + 1) 155 (0, [some (vR a0), some (vI a1), none, none], [], h) (RI K X)
  refine wp_aload rfl rfl rfl ?_
  obtain ⟨f0, F⟩ := F
  obtain ⟨f1, F⟩ := F
  refine wp_callI rfl rfl rfl (rcv_v f0 f1 (by decide) (by decide)) rfl rfl rfl rfl ?_
  refine CI.mono F (fun y0 h0 F => ?_) (fun _ _ w => rx_I w)
  refine wp_istore (L2 := [some (vR a0), some (vI a1), some (vI y0), none]) rfl rfl rfl rfl ?_
  refine wp_iload rfl rfl rfl ?_
  refine wp_const rfl rfl ?_
  refine wp_icmp_ne (Y := (-1)) rfl rfl rfl rfl rfl (fun c => ?_) (fun c => ?_)
  · replace F := F.1 c
    refine wp_const rfl rfl ?_
    exact wp_retI rfl (Or.inl rfl) F
  · replace F := F.2 c
    refine wp_iload' (L' := [some (vR a0), some (vI a1), some (vI y0), none]) rfl rfl rfl rfl ?_
    refine wp_aload rfl rfl rfl ?_
    obtain ⟨f2, F⟩ := F
    refine wp_getI rfl rfl rfl f2 rfl ?_
    refine wp_icmp_ne rfl rfl rfl rfl rfl (fun c => ?_) (fun c => ?_)
    · replace F := F.1 c
      refine wp_iload rfl rfl rfl ?_
      refine wp_aload rfl rfl rfl ?_
      refine wp_getI rfl rfl rfl f2 rfl ?_
      refine wp_icmp_eq rfl rfl rfl rfl rfl (fun c => ?_) (fun c => ?_)
      · replace F := F.1 c
        exact F
      · replace F := F.2 c
        refine wp_aload' (L' := [some (vR a0), some (vI a1), some (vI y0), none]) rfl rfl rfl rfl ?_
        refine wp_const rfl rfl ?_
        refine wp_putI rfl rfl rfl f0 f2 rfl ?_
        have f3 : gK (pI h0 a0 9 0) a0 = 10 := (gK_pI _ _ _ _ _).trans f2
        replace F := F _ rfl
        generalize pI h0 a0 9 0 = h1 at F f3 ⊢
        exact F
    · replace F := F.2 c
      refine wp_aload' (L' := [some (vR a0), some (vI a1), some (vI y0), none]) rfl rfl rfl rfl ?_
      refine wp_const rfl rfl ?_
      refine wp_putI rfl rfl rfl f0 f2 rfl ?_
      have f4 : gK (pI h0 a0 9 0) a0 = 10 := (gK_pI _ _ _ _ _).trans f2
      replace F := F _ rfl
      generalize pI h0 a0 9 0 = h2 at F f4 ⊢
      exact F
theorem w155_33 {d : Nat} {l0 : Nat} {l1 : Int32} {l2 : Int32} {h : aH} {K : Int32 → aH → Prop} {X : Nat → aH → Prop} (F : 8 ≤ l0 ∧ gK h l0 = 10 ∧ ∀ h0 : aH, h0 = pI h l0 10 l2 → ∀ h1 : aH, h1 = pI h0 l0 11 l1 → 8 ≤ (gR h1 l0 4) ∧ ∃ i0 : Nat, inB h1 100 (gR h1 l0 4) l2 i0 ∧ ∀ h2 : aH, h2 = pI h1 (gR h1 l0 4) i0 l1 → CV d 136 [vR l0] h2 (fun h3 => gK h3 l0 = 10 ∧ CI d 153 [vR l0, vI l2] h3 (fun y0 h4 => ((y0.toInt = 0 → gK h4 l0 = 10 ∧ ∀ h5 : aH, h5 = pI h4 l0 9 0 → 8 ≤ (gR h5 l0 5) ∧ ∃ i1 : Nat, inB h5 100 (gR h5 l0 5) l2 i1 ∧ ∀ h6 : aH, h6 = pI h5 (gR h5 l0 5) i1 (-2000000) → CV d 154 [vR l0] h6 (fun h7 => K 0 h7) X) ∧ (¬ y0.toInt = 0 → gK h4 l0 = 10 ∧ 8 ≤ (gR h4 l0 4) ∧ ∃ i2 : Nat, inB h4 100 (gR h4 l0 4) l2 i2 ∧ ∀ h8 : aH, h8 = pI h4 (gR h4 l0 4) i2 (-2000000) → CV d 136 [vR l0] h8 (fun h9 => K y0 h9) X))) X) X) : Wp (d + 1) 155 (33, [some (vR l0), some (vI l1), some (vI l2), none], [], h) (RI K X) := by
  refine wp_aload' (L' := [some (vR l0), some (vI l1), some (vI l2), none]) rfl rfl rfl rfl ?_
  refine wp_iload rfl rfl rfl ?_
  obtain ⟨f0, F⟩ := F
  obtain ⟨f1, F⟩ := F
  refine wp_putI rfl rfl rfl f0 f1 rfl ?_
  have f2 : gK (pI h l0 10 l2) l0 = 10 := (gK_pI _ _ _ _ _).trans f1
  replace F := F _ rfl
  generalize pI h l0 10 l2 = h0 at F f2 ⊢
  refine wp_aload rfl rfl rfl ?_
  refine wp_iload rfl rfl rfl ?_
  refine wp_putI rfl rfl rfl f0 f2 rfl ?_
  have f3 : gK (pI h0 l0 11 l1) l0 = 10 := (gK_pI _ _ _ _ _).trans f2
  replace F := F _ rfl
  generalize pI h0 l0 11 l1 = h1 at F f3 ⊢
  refine wp_aload rfl rfl rfl ?_
  refine wp_getR rfl rfl rfl f3 rfl ?_
  refine wp_iload rfl rfl rfl ?_
  refine wp_iload rfl rfl rfl ?_
  obtain ⟨f4, F⟩ := F
  obtain ⟨i0, b9, F⟩ := F
  refine wp_iastore rfl f4 b9 rfl ?_
  have f5 : gK (pI h1 (gR h1 l0 4) i0 l1) l0 = 10 := (gK_pI _ _ _ _ _).trans f3
  replace F := F _ rfl
  generalize pI h1 (gR h1 l0 4) i0 l1 = h2 at F f5 ⊢
  refine wp_aload rfl rfl rfl ?_
  refine wp_callV rfl rfl rfl (rcv_v f0 f5 (by decide) (by decide)) rfl rfl rfl rfl ?_
  refine CV.mono F (fun h3 F => ?_) (fun _ _ w => rx_I w)
  refine wp_aload rfl rfl rfl ?_
  refine wp_iload rfl rfl rfl ?_
  obtain ⟨f6, F⟩ := F
  refine wp_callI rfl rfl rfl (rcv_v f0 f6 (by decide) (by decide)) rfl rfl rfl rfl ?_
  refine CI.mono F (fun y0 h4 F => ?_) (fun _ _ w => rx_I w)
  refine wp_istore (L2 := [some (vR l0), some (vI l1), some (vI l2), some (vI y0)]) rfl rfl rfl rfl ?_
  refine wp_iload rfl rfl rfl ?_
  refine wp_if_eq rfl rfl rfl rfl (fun c => ?_) (fun c => ?_)
  · replace F := F.1 c
    refine wp_aload' (L' := [some (vR l0), none, some (vI l2), none]) rfl rfl rfl rfl ?_
    refine wp_const rfl rfl ?_
    obtain ⟨f7, F⟩ := F
    refine wp_putI rfl rfl rfl f0 f7 rfl ?_
    have f8 : gK (pI h4 l0 9 0) l0 = 10 := (gK_pI _ _ _ _ _).trans f7
    replace F := F _ rfl
    generalize pI h4 l0 9 0 = h5 at F f8 ⊢
    refine wp_aload rfl rfl rfl ?_
    refine wp_getR rfl rfl rfl f8 rfl ?_
    refine wp_iload rfl rfl rfl ?_
    refine wp_const rfl rfl ?_
    obtain ⟨f9, F⟩ := F
    obtain ⟨i1, b9, F⟩ := F
    refine wp_iastore rfl f9 b9 rfl ?_
    have f10 : gK (pI h5 (gR h5 l0 5) i1 (-2000000)) l0 = 10 := (gK_pI _ _ _ _ _).trans f8
    replace F := F _ rfl
    generalize pI h5 (gR h5 l0 5) i1 (-2000000) = h6 at F f10 ⊢
    refine wp_aload rfl rfl rfl ?_
    refine wp_callV rfl rfl rfl (rcv_v f0 f10 (by decide) (by decide)) rfl rfl rfl rfl ?_
    refine CV.mono F (fun h7 F => ?_) (fun _ _ w => rx_I w)
    refine wp_const rfl rfl ?_
    exact wp_retI rfl (Or.inl rfl) F
  · replace F := F.2 c
    refine wp_aload rfl rfl rfl ?_
    obtain ⟨f11, F⟩ := F
    refine wp_getR rfl rfl rfl f11 rfl ?_
    refine wp_iload rfl rfl rfl ?_
    refine wp_const rfl rfl ?_
    obtain ⟨f12, F⟩ := F
    obtain ⟨i2, b9, F⟩ := F
    refine wp_iastore rfl f12 b9 rfl ?_
    have f13 : gK (pI h4 (gR h4 l0 4) i2 (-2000000)) l0 = 10 := (gK_pI _ _ _ _ _).trans f11
    replace F := F _ rfl
    generalize pI h4 (gR h4 l0 4) i2 (-2000000) = h8 at F f13 ⊢
    refine wp_aload rfl rfl rfl ?_
    refine wp_callV rfl rfl rfl (rcv_v f0 f13 (by decide) (by decide)) rfl rfl rfl rfl ?_
    refine CV.mono F (fun h9 F => ?_) (fun _ _ w => rx_I w)
    refine wp_iload rfl rfl rfl ?_
    exact wp_retI rfl (Or.inl rfl) F
-- CensusOffice answer (II)I
theorem m156 {d : Nat} {a0 : Nat} {a1 : Int32} {a2 : Int32} {h : aH} {K : Int32 → aH → Prop} {X : Nat → aH → Prop} (F : 8 ≤ a0 ∧ gK h a0 = 1 ∧ CR d 140 [vR a0, vI a1] h (fun q0 h0 => 8 ≤ q0 ∧ gK h0 q0 = 10 ∧ CI d 142 [vR q0] h0 (fun y0 h1 => ((y0.toInt = (-1) → X 2 (gNew h1 200 6)) ∧ (¬ y0.toInt = (-1) → gK h1 q0 = 10 ∧ gK h1 (gR h1 q0 0) = 3 ∧ ∃ i0 : Nat, inB h1 100 (gR h1 (gR h1 q0 0) 3) y0 i0 ∧ ((a2.toInt < (gI h1 (gR h1 (gR h1 q0 0) 3) i0).toInt → X 1 (gNew h1 200 6)) ∧ (¬ a2.toInt < (gI h1 (gR h1 (gR h1 q0 0) 3) i0).toInt → ∃ i1 : Nat, inB h1 100 (gR h1 (gR h1 q0 0) 4) y0 i1 ∧ (((gI h1 (gR h1 (gR h1 q0 0) 4) i1).toInt < a2.toInt → X 1 (gNew h1 200 6)) ∧ (¬ (gI h1 (gR h1 (gR h1 q0 0) 4) i1).toInt < a2.toInt → CI d 155 [vR q0, vI a2] h1 (fun y1 h2 => K y1 h2) X))))))) X) X) : CI (d + 1) 156 [vR a0, vI a1, vI a2] h K X := by
  show Wp (d + 1) 156 (0, [some (vR a0), some (vI a1), some (vI a2), none, none], [], h) (RI K X)
  refine wp_aload rfl rfl rfl ?_
  refine wp_iload rfl rfl rfl ?_
  obtain ⟨f0, F⟩ := F
  obtain ⟨f1, F⟩ := F
  refine wp_callR rfl rfl rfl (rcv_v f0 f1 (by decide) (by decide)) rfl rfl rfl rfl ?_
  refine CR.mono F (fun q0 h0 F => ?_) (fun _ _ w => rx_I w)
  refine wp_astore (L2 := [some (vR a0), some (vI a1), some (vI a2), some (vR q0), none]) rfl rfl rfl rfl ?_
  refine wp_aload rfl rfl rfl ?_
  obtain ⟨f2, F⟩ := F
  obtain ⟨f3, F⟩ := F
  refine wp_callI rfl rfl rfl (rcv_v f2 f3 (by decide) (by decide)) rfl rfl rfl rfl ?_
  refine CI.mono F (fun y0 h1 F => ?_) (fun _ _ w => rx_I w)
  refine wp_istore (L2 := [some (vR a0), some (vI a1), some (vI a2), some (vR q0), some (vI y0)]) rfl rfl rfl rfl ?_
  refine wp_iload rfl rfl rfl ?_
  refine wp_const rfl rfl ?_
  refine wp_icmp_ne (Y := (-1)) rfl rfl rfl rfl rfl (fun c => ?_) (fun c => ?_)
  · replace F := F.1 c
    exact wp_thrI rfl F
  · replace F := F.2 c
    refine wp_iload' (L' := [none, none, some (vI a2), some (vR q0), some (vI y0)]) rfl rfl rfl rfl ?_
    refine wp_aload rfl rfl rfl ?_
    obtain ⟨f4, F⟩ := F
    refine wp_getR rfl rfl rfl f4 rfl ?_
    obtain ⟨f5, F⟩ := F
    refine wp_getR rfl rfl rfl f5 rfl ?_
    refine wp_iload rfl rfl rfl ?_
    obtain ⟨i0, b9, F⟩ := F
    refine wp_iaload rfl b9 rfl ?_
    refine wp_icmp_lt rfl rfl rfl rfl rfl (fun c => ?_) (fun c => ?_)
    · replace F := F.1 c
      exact wp_thrI rfl F
    · replace F := F.2 c
      refine wp_iload rfl rfl rfl ?_
      refine wp_aload rfl rfl rfl ?_
      refine wp_getR rfl rfl rfl f4 rfl ?_
      refine wp_getR rfl rfl rfl f5 rfl ?_
      refine wp_iload rfl rfl rfl ?_
      obtain ⟨i1, b9, F⟩ := F
      refine wp_iaload rfl b9 rfl ?_
      refine wp_icmp_le rfl rfl rfl rfl rfl (fun c => ?_) (fun c => ?_)
      · replace F := F.1 c
        exact wp_thrI rfl F
      · replace F := F.2 c
        refine wp_aload' (L' := [none, none, some (vI a2), some (vR q0), none]) rfl rfl rfl rfl ?_
        refine wp_iload rfl rfl rfl ?_
        refine wp_callI rfl rfl rfl (rcv_v f2 f4 (by decide) (by decide)) rfl rfl rfl rfl ?_
        refine CI.mono F (fun y1 h2 F => ?_) (fun _ _ w => rx_I w)
        exact wp_retI rfl (Or.inl rfl) F
-- CensusOfficeLaw answer (LCensusOffice;II[J)I
theorem m157 {d : Nat} {a0 : Nat} {a1 : Int32} {a2 : Int32} {a3 : Nat} {h : aH} {K : Int32 → aH → Prop} {X : Nat → aH → Prop} (F : 8 ≤ a0 ∧ gK h a0 = 1 ∧ CI d 156 [vR a0, vI a1, vI a2] h (fun y0 h0 => 8 ≤ a3 ∧ inB h0 101 a3 0 0 ∧ ∀ h1 : aH, h1 = pJ h0 a3 0 (y0.toInt64) → K 0 h1) (fun x9 h9 => (x9 = 3 ∧ K 1 h9) ∨ (x9 = 2 ∧ K 2 h9) ∨ (x9 = 1 ∧ K 3 h9))) : CI (d + 1) 157 [vR a0, vI a1, vI a2, vR a3] h K X := by
  show Wp (d + 1) 157 (0, [some (vR a0), some (vI a1), some (vI a2), some (vR a3), none], [], h) (RI K X)
  refine wp_aload rfl rfl rfl ?_
  refine wp_const rfl rfl ?_
  refine wp_aload rfl rfl rfl ?_
  refine wp_iload rfl rfl rfl ?_
  refine wp_iload rfl rfl rfl ?_
  obtain ⟨f0, F⟩ := F
  obtain ⟨f1, F⟩ := F
  refine wp_callhI (X := (fun x9 h9 => (x9 = 3 ∧ K 1 h9) ∨ (x9 = 2 ∧ K 2 h9) ∨ (x9 = 1 ∧ K 3 h9))) rfl rfl rfl (rcv_v f0 f1 (by decide) (by decide)) rfl rfl rfl (fun x9 h9 F => ?_) ?_
  · rcases F with ⟨rfl, F⟩ | ⟨rfl, F⟩ | ⟨rfl, F⟩
    · refine ⟨13, rfl, ?_⟩
      refine wp_astoreJ' (L' := [none, none, none, none, none]) (L2 := [none, none, none, none, some vJ]) rfl rfl rfl rfl rfl ?_
      refine wp_const rfl rfl ?_
      exact wp_retI rfl (Or.inl rfl) F
    · refine ⟨17, rfl, ?_⟩
      refine wp_astoreJ' (L' := [none, none, none, none, none]) (L2 := [none, none, none, none, some vJ]) rfl rfl rfl rfl rfl ?_
      refine wp_const rfl rfl ?_
      exact wp_retI rfl (Or.inl rfl) F
    · refine ⟨21, rfl, ?_⟩
      refine wp_astoreJ' (L' := [none, none, none, none, none]) (L2 := [none, none, none, none, some vJ]) rfl rfl rfl rfl rfl ?_
      refine wp_const rfl rfl ?_
      exact wp_retI rfl (Or.inl rfl) F
  · refine CI.mono F (fun y0 h0 F => ?_) (fun _ _ w => w)
    refine wp_i2l rfl rfl ?_
    obtain ⟨f2, F⟩ := F
    obtain ⟨b9, F⟩ := F
    refine wp_lastore rfl f2 b9 rfl ?_
    replace F := F _ rfl
    generalize pJ h0 a3 0 (y0.toInt64) = h1 at F ⊢
    refine wp_goto rfl rfl ?_
    refine wp_const' (L' := [none, none, none, none, none]) rfl rfl rfl ?_
    exact wp_retI rfl (Or.inl rfl) F
-- CensusOfficeModel forgetNotes (I)V
theorem m158 {d : Nat} {a0 : Nat} {a1 : Int32} {h : aH} {K : aH → Prop} {X : Nat → aH → Prop} (F : Wp d 158 (2, [some (vR a0), some (vI a1), some (vI 0)], [], h) (RV K X)) : CV d 158 [vR a0, vI a1] h K X := by
  show Wp d 158 (0, [some (vR a0), some (vI a1), none], [], h) (RV K X)
  refine wp_const rfl rfl ?_
  refine wp_istore (L2 := [some (vR a0), some (vI a1), some (vI 0)]) rfl rfl rfl rfl ?_
  exact F
theorem w158_2 {d : Nat} {l0 : Nat} {l1 : Int32} {l2 : Int32} {h : aH} {K : aH → Prop} {X : Nat → aH → Prop} (F : ((l2.toInt < 20 → gK h l0 = 14 ∧ 8 ≤ (gR h l0 47) ∧ ∃ i0 : Nat, inB h 102 (gR h l0 47) ((20 * l1) + l2) i0 ∧ ∀ h0 : aH, h0 = pI h (gR h l0 47) i0 (0 &&& 1) → ∀ v0 : Int32, v0 = l2 + 1 → Wp d 158 (2, [some (vR l0), some (vI l1), some (vI v0)], [], h0) (RV K X)) ∧ (¬ l2.toInt < 20 → K h))) : Wp d 158 (2, [some (vR l0), some (vI l1), some (vI l2)], [], h) (RV K X) := by
  refine wp_iload rfl rfl rfl ?_
  refine wp_const rfl rfl ?_
  refine wp_icmp_ge (Y := 20) rfl rfl rfl rfl rfl (fun c => ?_) (fun c => ?_)
  · replace F := F.1 c
    refine wp_aload rfl rfl rfl ?_
    obtain ⟨f0, F⟩ := F
    refine wp_getR rfl rfl rfl f0 rfl ?_
    refine wp_const rfl rfl ?_
    refine wp_iload rfl rfl rfl ?_
    refine wp_imul rfl rfl ?_
    refine wp_iload rfl rfl rfl ?_
    refine wp_iadd rfl rfl ?_
    refine wp_const rfl rfl ?_
    obtain ⟨f1, F⟩ := F
    obtain ⟨i0, b9, F⟩ := F
    refine wp_zastore rfl f1 b9 rfl ?_
    have f2 : gK (pI h (gR h l0 47) i0 (0 &&& 1)) l0 = 14 := (gK_pI _ _ _ _ _).trans f0
    replace F := F _ rfl
    generalize pI h (gR h l0 47) i0 (0 &&& 1) = h0 at F f2 ⊢
    refine wp_iinc (y := 1) (L2 := [some (vR l0), some (vI l1), some (vI (l2 + 1))]) rfl rfl rfl rfl rfl ?_
    replace F := F _ rfl
    generalize (l2 + 1 : Int32) = v0 at F ⊢
    refine wp_goto rfl rfl ?_
    exact F
  · replace F := F.2 c
    exact wp_retV rfl F
-- CensusOfficeModel takeUp (I)V
theorem m159 {d : Nat} {a0 : Nat} {a1 : Int32} {h : aH} {K : aH → Prop} {X : Nat → aH → Prop} (F : 8 ≤ a0 ∧ gK h a0 = 14 ∧ CI d 149 [vR a0, vI a1] h (fun y0 h0 => Wp (d + 1) 159 (6, [some (vR a0), some (vI a1), some (vI y0)], [], h0) (RV K X)) X) : CV (d + 1) 159 [vR a0, vI a1] h K X := by
  show Wp (d + 1) 159 (0, [some (vR a0), some (vI a1), none], [], h) (RV K X)
  refine wp_aload rfl rfl rfl ?_
  refine wp_iload rfl rfl rfl ?_
  obtain ⟨f0, F⟩ := F
  obtain ⟨f1, F⟩ := F
  refine wp_callI rfl rfl rfl (rcv_v f0 f1 (by decide) (by decide)) rfl rfl rfl rfl ?_
  refine CI.mono F (fun y0 h0 F => ?_) (fun _ _ w => rx_V w)
  refine wp_istore (L2 := [some (vR a0), some (vI a1), some (vI y0)]) rfl rfl rfl rfl ?_
  exact F
theorem w159_6 {d : Nat} {l0 : Nat} {l1 : Int32} {l2 : Int32} {h : aH} {K : aH → Prop} {X : Nat → aH → Prop} (F : ((l2.toInt = (-1) → K h) ∧ (¬ l2.toInt = (-1) → gK h l0 = 14 ∧ ∃ i0 : Nat, inB h 102 (gR h l0 45) ((20 * l1) + l2) i0 ∧ (((gI h (gR h l0 45) i0).toInt = 0 → K h) ∧ (¬ (gI h (gR h l0 45) i0).toInt = 0 → 8 ≤ (gR h l0 43) ∧ ∃ i1 : Nat, inB h 102 (gR h l0 43) ((20 * l1) + l2) i1 ∧ ∀ h0 : aH, h0 = pI h (gR h l0 43) i1 (1 &&& 1) → ∃ i2 : Nat, inB h0 100 (gR h0 l0 46) ((20 * l1) + l2) i2 ∧ 8 ≤ (gR h0 l0 44) ∧ ∃ i3 : Nat, inB h0 100 (gR h0 l0 44) ((20 * l1) + l2) i3 ∧ ∀ h1 : aH, h1 = pI h0 (gR h0 l0 44) i3 (gI h0 (gR h0 l0 46) i2) → 8 ≤ l0 ∧ CV d 148 [vR l0, vI l1, vI l2] h1 (fun h2 => gK h2 l0 = 14 ∧ (((gI h2 l0 51).toInt = (-1) → (((gI h2 l0 52).toInt = (-1) → 8 ≤ (gR h2 l0 45) ∧ ∃ i4 : Nat, inB h2 102 (gR h2 l0 45) ((20 * l1) + l2) i4 ∧ ∀ h3 : aH, h3 = pI h2 (gR h2 l0 45) i4 (0 &&& 1) → CI d 149 [vR l0, vI l1] h3 (fun y0 h4 => Wp (d + 1) 159 (6, [some (vR l0), some (vI l1), some (vI y0)], [], h4) (RV K X)) X) ∧ (¬ (gI h2 l0 52).toInt = (-1) → 8 ≤ (gR h2 l0 43) ∧ ∃ i5 : Nat, inB h2 102 (gR h2 l0 43) ((20 * l1) + l2) i5 ∧ ∀ h5 : aH, h5 = pI h2 (gR h2 l0 43) i5 (0 &&& 1) → K h5))) ∧ (¬ (gI h2 l0 51).toInt = (-1) → 8 ≤ (gR h2 l0 43) ∧ ∃ i6 : Nat, inB h2 102 (gR h2 l0 43) ((20 * l1) + l2) i6 ∧ ∀ h6 : aH, h6 = pI h2 (gR h2 l0 43) i6 (0 &&& 1) → K h6))) X))))) : Wp (d + 1) 159 (6, [some (vR l0), some (vI l1), some (vI l2)], [], h) (RV K X) := by
  refine wp_iload rfl rfl rfl ?_
  refine wp_const rfl rfl ?_
  refine wp_icmp_eq (Y := (-1)) rfl rfl rfl rfl rfl (fun c => ?_) (fun c => ?_)
  · replace F := F.1 c
    exact wp_retV rfl F
  · replace F := F.2 c
    refine wp_aload rfl rfl rfl ?_
    obtain ⟨f0, F⟩ := F
    refine wp_getR rfl rfl rfl f0 rfl ?_
    refine wp_const rfl rfl ?_
    refine wp_iload rfl rfl rfl ?_
    refine wp_imul rfl rfl ?_
    refine wp_iload rfl rfl rfl ?_
    refine wp_iadd rfl rfl ?_
    obtain ⟨i0, b9, F⟩ := F
    refine wp_zaload rfl b9 rfl ?_
    refine wp_if_eq rfl rfl rfl rfl (fun c => ?_) (fun c => ?_)
    · replace F := F.1 c
      exact wp_retV rfl F
    · replace F := F.2 c
      refine wp_aload rfl rfl rfl ?_
      refine wp_getR rfl rfl rfl f0 rfl ?_
      refine wp_const rfl rfl ?_
      refine wp_iload rfl rfl rfl ?_
      refine wp_imul rfl rfl ?_
      refine wp_iload rfl rfl rfl ?_
      refine wp_iadd rfl rfl ?_
      refine wp_const rfl rfl ?_
      obtain ⟨f1, F⟩ := F
      obtain ⟨i1, b9, F⟩ := F
      refine wp_zastore rfl f1 b9 rfl ?_
      have f2 : gK (pI h (gR h l0 43) i1 (1 &&& 1)) l0 = 14 := (gK_pI _ _ _ _ _).trans f0
      replace F := F _ rfl
      generalize pI h (gR h l0 43) i1 (1 &&& 1) = h0 at F f2 ⊢
      refine wp_aload rfl rfl rfl ?_
      refine wp_getR rfl rfl rfl f2 rfl ?_
      refine wp_const rfl rfl ?_
      refine wp_iload rfl rfl rfl ?_
      refine wp_imul rfl rfl ?_
      refine wp_iload rfl rfl rfl ?_
      refine wp_iadd rfl rfl ?_
      refine wp_aload rfl rfl rfl ?_
      refine wp_getR rfl rfl rfl f2 rfl ?_
      refine wp_const rfl rfl ?_
      refine wp_iload rfl rfl rfl ?_
      refine wp_imul rfl rfl ?_
      refine wp_iload rfl rfl rfl ?_
      refine wp_iadd rfl rfl ?_
      obtain ⟨i2, b9, F⟩ := F
      refine wp_iaload rfl b9 rfl ?_
      obtain ⟨f3, F⟩ := F
      obtain ⟨i3, b9, F⟩ := F
      refine wp_iastore rfl f3 b9 rfl ?_
      have f4 : gK (pI h0 (gR h0 l0 44) i3 (gI h0 (gR h0 l0 46) i2)) l0 = 14 := (gK_pI _ _ _ _ _).trans f2
      replace F := F _ rfl
      generalize pI h0 (gR h0 l0 44) i3 (gI h0 (gR h0 l0 46) i2) = h1 at F f4 ⊢
      refine wp_aload rfl rfl rfl ?_
      refine wp_iload rfl rfl rfl ?_
      refine wp_iload rfl rfl rfl ?_
      obtain ⟨f5, F⟩ := F
      refine wp_callV rfl rfl rfl (rcv_v f5 f4 (by decide) (by decide)) rfl rfl rfl rfl ?_
      refine CV.mono F (fun h2 F => ?_) (fun _ _ w => rx_V w)
      refine wp_aload rfl rfl rfl ?_
      obtain ⟨f6, F⟩ := F
      refine wp_getI rfl rfl rfl f6 rfl ?_
      refine wp_const rfl rfl ?_
      refine wp_icmp_ne (Y := (-1)) rfl rfl rfl rfl rfl (fun c => ?_) (fun c => ?_)
      · replace F := F.1 c
        refine wp_aload rfl rfl rfl ?_
        refine wp_getI rfl rfl rfl f6 rfl ?_
        refine wp_const rfl rfl ?_
        refine wp_icmp_eq (Y := (-1)) rfl rfl rfl rfl rfl (fun c => ?_) (fun c => ?_)
        · replace F := F.1 c
          refine wp_aload rfl rfl rfl ?_
          refine wp_getR rfl rfl rfl f6 rfl ?_
          refine wp_const rfl rfl ?_
          refine wp_iload rfl rfl rfl ?_
          refine wp_imul rfl rfl ?_
          refine wp_iload rfl rfl rfl ?_
          refine wp_iadd rfl rfl ?_
          refine wp_const rfl rfl ?_
          obtain ⟨f7, F⟩ := F
          obtain ⟨i4, b9, F⟩ := F
          refine wp_zastore rfl f7 b9 rfl ?_
          have f8 : gK (pI h2 (gR h2 l0 45) i4 (0 &&& 1)) l0 = 14 := (gK_pI _ _ _ _ _).trans f6
          replace F := F _ rfl
          generalize pI h2 (gR h2 l0 45) i4 (0 &&& 1) = h3 at F f8 ⊢
          refine wp_aload rfl rfl rfl ?_
          refine wp_iload rfl rfl rfl ?_
          refine wp_callI rfl rfl rfl (rcv_v f5 f8 (by decide) (by decide)) rfl rfl rfl rfl ?_
          refine CI.mono F (fun y0 h4 F => ?_) (fun _ _ w => rx_V w)
          refine wp_istore (L2 := [some (vR l0), some (vI l1), some (vI y0)]) rfl rfl rfl rfl ?_
          refine wp_goto rfl rfl ?_
          exact F
        · replace F := F.2 c
          refine wp_aload rfl rfl rfl ?_
          refine wp_getR rfl rfl rfl f6 rfl ?_
          refine wp_const rfl rfl ?_
          refine wp_iload rfl rfl rfl ?_
          refine wp_imul rfl rfl ?_
          refine wp_iload rfl rfl rfl ?_
          refine wp_iadd rfl rfl ?_
          refine wp_const rfl rfl ?_
          obtain ⟨f9, F⟩ := F
          obtain ⟨i5, b9, F⟩ := F
          refine wp_zastore rfl f9 b9 rfl ?_
          have f10 : gK (pI h2 (gR h2 l0 43) i5 (0 &&& 1)) l0 = 14 := (gK_pI _ _ _ _ _).trans f6
          replace F := F _ rfl
          generalize pI h2 (gR h2 l0 43) i5 (0 &&& 1) = h5 at F f10 ⊢
          exact wp_retV rfl F
      · replace F := F.2 c
        refine wp_aload rfl rfl rfl ?_
        refine wp_getR rfl rfl rfl f6 rfl ?_
        refine wp_const rfl rfl ?_
        refine wp_iload rfl rfl rfl ?_
        refine wp_imul rfl rfl ?_
        refine wp_iload rfl rfl rfl ?_
        refine wp_iadd rfl rfl ?_
        refine wp_const rfl rfl ?_
        obtain ⟨f11, F⟩ := F
        obtain ⟨i6, b9, F⟩ := F
        refine wp_zastore rfl f11 b9 rfl ?_
        have f12 : gK (pI h2 (gR h2 l0 43) i6 (0 &&& 1)) l0 = 14 := (gK_pI _ _ _ _ _).trans f6
        replace F := F _ rfl
        generalize pI h2 (gR h2 l0 43) i6 (0 &&& 1) = h6 at F f12 ⊢
        exact wp_retV rfl F
-- CensusOfficeModel answer (II)I
theorem m160 {d : Nat} {a0 : Nat} {a1 : Int32} {a2 : Int32} {h : aH} {K : Int32 → aH → Prop} {X : Nat → aH → Prop} (F : 8 ≤ a0 ∧ gK h a0 = 14 ∧ ∀ h0 : aH, h0 = pI h a0 0 0 → CI d 145 [vR a0, vI a1] h0 (fun y0 h1 => ((y0.toInt = 0 → gK h1 a0 = 14 ∧ CI d 15 [vR a0, vI 1] h1 (fun y1 h2 => K y1 h2) X) ∧ (¬ y0.toInt = 0 → gK h1 a0 = 14 ∧ CI d 149 [vR a0, vI a1] h1 (fun y2 h3 => ((y2.toInt = (-1) → gK h3 a0 = 14 ∧ CI d 15 [vR a0, vI 2] h3 (fun y3 h4 => K y3 h4) X) ∧ (¬ y2.toInt = (-1) → gK h3 a0 = 14 ∧ ∃ i0 : Nat, inB h3 100 (gR h3 a0 39) a1 i0 ∧ ∀ v0 : Int32, v0 = gI h3 (gR h3 a0 39) i0 → ∃ i1 : Nat, inB h3 100 (gR h3 a0 18) ((20 * v0) + y2) i1 ∧ ∃ i2 : Nat, inB h3 100 (gR h3 a0 19) ((20 * v0) + y2) i2 ∧ CI d 14 [vL (a2.toInt64), vL ((gI h3 (gR h3 a0 18) i1).toInt64), vL ((gI h3 (gR h3 a0 19) i2).toInt64)] h3 (fun y4 h5 => ((y4.toInt = 0 → gK h5 a0 = 14 ∧ CI d 15 [vR a0, vI 3] h5 (fun y5 h6 => K y5 h6) X) ∧ (¬ y4.toInt = 0 → gK h5 a0 = 14 ∧ ∃ i3 : Nat, inB h5 100 (gR h5 a0 48) a1 i3 ∧ (((gI h5 (gR h5 a0 48) i3).toInt = y2.toInt → ∃ i4 : Nat, inB h5 100 (gR h5 a0 49) a1 i4 ∧ (((gI h5 (gR h5 a0 49) i4).toInt = a2.toInt → Wp (d + 1) 160 (109, [some (vR a0), some (vI a1), some (vI a2), some (vI y2), none], [], h5) (RI K X)) ∧ (¬ (gI h5 (gR h5 a0 49) i4).toInt = a2.toInt → CV d 158 [vR a0, vI a1] h5 (fun h7 => Wp (d + 1) 160 (109, [some (vR a0), some (vI a1), some (vI a2), some (vI y2), none], [], h7) (RI K X)) X))) ∧ (¬ (gI h5 (gR h5 a0 48) i3).toInt = y2.toInt → CV d 158 [vR a0, vI a1] h5 (fun h8 => Wp (d + 1) 160 (109, [some (vR a0), some (vI a1), some (vI a2), some (vI y2), none], [], h8) (RI K X)) X))))) X))) X))) X) : CI (d + 1) 160 [vR a0, vI a1, vI a2] h K X := by
  show Wp (d + 1) 160 (0, [some (vR a0), some (vI a1), some (vI a2), none, none], [], h) (RI K X)
  refine wp_aload rfl rfl rfl ?_
  refine wp_const rfl rfl ?_
  obtain ⟨f0, F⟩ := F
  obtain ⟨f1, F⟩ := F
  refine wp_putI rfl rfl rfl f0 f1 rfl ?_
  have f2 : gK (pI h a0 0 0) a0 = 14 := (gK_pI _ _ _ _ _).trans f1
  replace F := F _ rfl
  generalize pI h a0 0 0 = h0 at F f2 ⊢
  refine wp_aload rfl rfl rfl ?_
  refine wp_iload rfl rfl rfl ?_
  refine wp_callI rfl rfl rfl (rcv_v f0 f2 (by decide) (by decide)) rfl rfl rfl rfl ?_
  refine CI.mono F (fun y0 h1 F => ?_) (fun _ _ w => rx_I w)
  refine wp_if_ne rfl rfl rfl rfl (fun c => ?_) (fun c => ?_)
  · replace F := F.1 c
    refine wp_aload rfl rfl rfl ?_
    refine wp_const rfl rfl ?_
    obtain ⟨f3, F⟩ := F
    refine wp_callI rfl rfl rfl (rcv_v f0 f3 (by decide) (by decide)) rfl rfl rfl rfl ?_
    refine CI.mono F (fun y1 h2 F => ?_) (fun _ _ w => rx_I w)
    exact wp_retI rfl (Or.inl rfl) F
  · replace F := F.2 c
    refine wp_aload' (L' := [some (vR a0), some (vI a1), some (vI a2), none, none]) rfl rfl rfl rfl ?_
    refine wp_iload rfl rfl rfl ?_
    obtain ⟨f4, F⟩ := F
    refine wp_callI rfl rfl rfl (rcv_v f0 f4 (by decide) (by decide)) rfl rfl rfl rfl ?_
    refine CI.mono F (fun y2 h3 F => ?_) (fun _ _ w => rx_I w)
    refine wp_istore (L2 := [some (vR a0), some (vI a1), some (vI a2), some (vI y2), none]) rfl rfl rfl rfl ?_
    refine wp_iload rfl rfl rfl ?_
    refine wp_const rfl rfl ?_
    refine wp_icmp_ne (Y := (-1)) rfl rfl rfl rfl rfl (fun c => ?_) (fun c => ?_)
    · replace F := F.1 c
      refine wp_aload rfl rfl rfl ?_
      refine wp_const rfl rfl ?_
      obtain ⟨f5, F⟩ := F
      refine wp_callI rfl rfl rfl (rcv_v f0 f5 (by decide) (by decide)) rfl rfl rfl rfl ?_
      refine CI.mono F (fun y3 h4 F => ?_) (fun _ _ w => rx_I w)
      exact wp_retI rfl (Or.inl rfl) F
    · replace F := F.2 c
      refine wp_aload' (L' := [some (vR a0), some (vI a1), some (vI a2), some (vI y2), none]) rfl rfl rfl rfl ?_
      obtain ⟨f6, F⟩ := F
      refine wp_getR rfl rfl rfl f6 rfl ?_
      refine wp_iload rfl rfl rfl ?_
      obtain ⟨i0, b9, F⟩ := F
      refine wp_iaload rfl b9 rfl ?_
      replace F := F _ rfl
      generalize (gI h3 (gR h3 a0 39) i0 : Int32) = v0 at F ⊢
      refine wp_istore (L2 := [some (vR a0), some (vI a1), some (vI a2), some (vI y2), some (vI v0)]) rfl rfl rfl rfl ?_
      refine wp_iload rfl rfl rfl ?_
      refine wp_i2l rfl rfl ?_
      refine wp_aload rfl rfl rfl ?_
      refine wp_getR rfl rfl rfl f6 rfl ?_
      refine wp_const rfl rfl ?_
      refine wp_iload rfl rfl rfl ?_
      refine wp_imul rfl rfl ?_
      refine wp_iload rfl rfl rfl ?_
      refine wp_iadd rfl rfl ?_
      obtain ⟨i1, b9, F⟩ := F
      refine wp_iaload rfl b9 rfl ?_
      refine wp_i2l rfl rfl ?_
      refine wp_aload rfl rfl rfl ?_
      refine wp_getR rfl rfl rfl f6 rfl ?_
      refine wp_const rfl rfl ?_
      refine wp_iload rfl rfl rfl ?_
      refine wp_imul rfl rfl ?_
      refine wp_iload rfl rfl rfl ?_
      refine wp_iadd rfl rfl ?_
      obtain ⟨i2, b9, F⟩ := F
      refine wp_iaload rfl b9 rfl ?_
      refine wp_i2l rfl rfl ?_
      refine wp_callI rfl rfl rfl rfl rfl rfl rfl rfl ?_
      refine CI.mono F (fun y4 h5 F => ?_) (fun _ _ w => rx_I w)
      refine wp_if_ne rfl rfl rfl rfl (fun c => ?_) (fun c => ?_)
      · replace F := F.1 c
        refine wp_aload rfl rfl rfl ?_
        refine wp_const rfl rfl ?_
        obtain ⟨f7, F⟩ := F
        refine wp_callI rfl rfl rfl (rcv_v f0 f7 (by decide) (by decide)) rfl rfl rfl rfl ?_
        refine CI.mono F (fun y5 h6 F => ?_) (fun _ _ w => rx_I w)
        exact wp_retI rfl (Or.inl rfl) F
      · replace F := F.2 c
        refine wp_aload' (L' := [some (vR a0), some (vI a1), some (vI a2), some (vI y2), none]) rfl rfl rfl rfl ?_
        obtain ⟨f8, F⟩ := F
        refine wp_getR rfl rfl rfl f8 rfl ?_
        refine wp_iload rfl rfl rfl ?_
        obtain ⟨i3, b9, F⟩ := F
        refine wp_iaload rfl b9 rfl ?_
        refine wp_iload rfl rfl rfl ?_
        refine wp_icmp_ne rfl rfl rfl rfl rfl (fun c => ?_) (fun c => ?_)
        · replace F := F.1 c
          refine wp_aload rfl rfl rfl ?_
          refine wp_getR rfl rfl rfl f8 rfl ?_
          refine wp_iload rfl rfl rfl ?_
          obtain ⟨i4, b9, F⟩ := F
          refine wp_iaload rfl b9 rfl ?_
          refine wp_iload rfl rfl rfl ?_
          refine wp_icmp_eq rfl rfl rfl rfl rfl (fun c => ?_) (fun c => ?_)
          · replace F := F.1 c
            exact F
          · replace F := F.2 c
            refine wp_aload' (L' := [some (vR a0), some (vI a1), some (vI a2), some (vI y2), none]) rfl rfl rfl rfl ?_
            refine wp_iload rfl rfl rfl ?_
            refine wp_callV rfl rfl rfl (rcv_v f0 f8 (by decide) (by decide)) rfl rfl rfl rfl ?_
            refine CV.mono F (fun h7 F => ?_) (fun _ _ w => rx_I w)
            exact F
        · replace F := F.2 c
          refine wp_aload' (L' := [some (vR a0), some (vI a1), some (vI a2), some (vI y2), none]) rfl rfl rfl rfl ?_
          refine wp_iload rfl rfl rfl ?_
          refine wp_callV rfl rfl rfl (rcv_v f0 f8 (by decide) (by decide)) rfl rfl rfl rfl ?_
          refine CV.mono F (fun h8 F => ?_) (fun _ _ w => rx_I w)
          exact F
theorem w160_109 {d : Nat} {l0 : Nat} {l1 : Int32} {l2 : Int32} {l3 : Int32} {h : aH} {K : Int32 → aH → Prop} {X : Nat → aH → Prop} (F : gK h l0 = 14 ∧ 8 ≤ (gR h l0 48) ∧ ∃ i0 : Nat, inB h 100 (gR h l0 48) l1 i0 ∧ ∀ h0 : aH, h0 = pI h (gR h l0 48) i0 l3 → 8 ≤ (gR h0 l0 49) ∧ ∃ i1 : Nat, inB h0 100 (gR h0 l0 49) l1 i1 ∧ ∀ h1 : aH, h1 = pI h0 (gR h0 l0 49) i1 l2 → 8 ≤ (gR h1 l0 43) ∧ ∃ i2 : Nat, inB h1 102 (gR h1 l0 43) ((20 * l1) + l3) i2 ∧ ∀ h2 : aH, h2 = pI h1 (gR h1 l0 43) i2 (1 &&& 1) → 8 ≤ (gR h2 l0 44) ∧ ∃ i3 : Nat, inB h2 100 (gR h2 l0 44) ((20 * l1) + l3) i3 ∧ ∀ h3 : aH, h3 = pI h2 (gR h2 l0 44) i3 l2 → 8 ≤ l0 ∧ CV d 148 [vR l0, vI l1, vI l3] h3 (fun h4 => gK h4 l0 = 14 ∧ (((gI h4 l0 51).toInt = (-1) → (((gI h4 l0 52).toInt = (-1) → CV d 158 [vR l0, vI l1] h4 (fun h5 => gK h5 l0 = 14 ∧ 8 ≤ (gR h5 l0 48) ∧ ∃ i4 : Nat, inB h5 100 (gR h5 l0 48) l1 i4 ∧ ∀ h6 : aH, h6 = pI h5 (gR h5 l0 48) i4 (-1) → 8 ≤ (gR h6 l0 45) ∧ ∃ i5 : Nat, inB h6 102 (gR h6 l0 45) ((20 * l1) + l3) i5 ∧ ∀ h7 : aH, h7 = pI h6 (gR h6 l0 45) i5 (0 &&& 1) → CV d 159 [vR l0, vI l1] h7 (fun h8 => K 0 h8) X) X) ∧ (¬ (gI h4 l0 52).toInt = (-1) → 8 ≤ (gR h4 l0 43) ∧ ∃ i6 : Nat, inB h4 102 (gR h4 l0 43) ((20 * l1) + l3) i6 ∧ ∀ h9 : aH, h9 = pI h4 (gR h4 l0 43) i6 (0 &&& 1) → 8 ≤ (gR h9 l0 47) ∧ ∃ i7 : Nat, inB h9 102 (gR h9 l0 47) ((20 * l1) + (gI h9 l0 52)) i7 ∧ ∀ h10 : aH, h10 = pI h9 (gR h9 l0 47) i7 (1 &&& 1) → K (200 + (gI h10 l0 52)) h10))) ∧ (¬ (gI h4 l0 51).toInt = (-1) → 8 ≤ (gR h4 l0 43) ∧ ∃ i8 : Nat, inB h4 102 (gR h4 l0 43) ((20 * l1) + l3) i8 ∧ ∀ h11 : aH, h11 = pI h4 (gR h4 l0 43) i8 (0 &&& 1) → K (100 + (gI h11 l0 51)) h11))) X) : Wp (d + 1) 160 (109, [some (vR l0), some (vI l1), some (vI l2), some (vI l3), none], [], h) (RI K X) := by
  refine wp_aload' (L' := [some (vR l0), some (vI l1), some (vI l2), some (vI l3), none]) rfl rfl rfl rfl ?_
  obtain ⟨f0, F⟩ := F
  refine wp_getR rfl rfl rfl f0 rfl ?_
  refine wp_iload rfl rfl rfl ?_
  refine wp_iload rfl rfl rfl ?_
  obtain ⟨f1, F⟩ := F
  obtain ⟨i0, b9, F⟩ := F
  refine wp_iastore rfl f1 b9 rfl ?_
  have f2 : gK (pI h (gR h l0 48) i0 l3) l0 = 14 := (gK_pI _ _ _ _ _).trans f0
  replace F := F _ rfl
  generalize pI h (gR h l0 48) i0 l3 = h0 at F f2 ⊢
  refine wp_aload rfl rfl rfl ?_
  refine wp_getR rfl rfl rfl f2 rfl ?_
  refine wp_iload rfl rfl rfl ?_
  refine wp_iload rfl rfl rfl ?_
  obtain ⟨f3, F⟩ := F
  obtain ⟨i1, b9, F⟩ := F
  refine wp_iastore rfl f3 b9 rfl ?_
  have f4 : gK (pI h0 (gR h0 l0 49) i1 l2) l0 = 14 := (gK_pI _ _ _ _ _).trans f2
  replace F := F _ rfl
  generalize pI h0 (gR h0 l0 49) i1 l2 = h1 at F f4 ⊢
  refine wp_aload rfl rfl rfl ?_
  refine wp_getR rfl rfl rfl f4 rfl ?_
  refine wp_const rfl rfl ?_
  refine wp_iload rfl rfl rfl ?_
  refine wp_imul rfl rfl ?_
  refine wp_iload rfl rfl rfl ?_
  refine wp_iadd rfl rfl ?_
  refine wp_const rfl rfl ?_
  obtain ⟨f5, F⟩ := F
  obtain ⟨i2, b9, F⟩ := F
  refine wp_zastore rfl f5 b9 rfl ?_
  have f6 : gK (pI h1 (gR h1 l0 43) i2 (1 &&& 1)) l0 = 14 := (gK_pI _ _ _ _ _).trans f4
  replace F := F _ rfl
  generalize pI h1 (gR h1 l0 43) i2 (1 &&& 1) = h2 at F f6 ⊢
  refine wp_aload rfl rfl rfl ?_
  refine wp_getR rfl rfl rfl f6 rfl ?_
  refine wp_const rfl rfl ?_
  refine wp_iload rfl rfl rfl ?_
  refine wp_imul rfl rfl ?_
  refine wp_iload rfl rfl rfl ?_
  refine wp_iadd rfl rfl ?_
  refine wp_iload rfl rfl rfl ?_
  obtain ⟨f7, F⟩ := F
  obtain ⟨i3, b9, F⟩ := F
  refine wp_iastore rfl f7 b9 rfl ?_
  have f8 : gK (pI h2 (gR h2 l0 44) i3 l2) l0 = 14 := (gK_pI _ _ _ _ _).trans f6
  replace F := F _ rfl
  generalize pI h2 (gR h2 l0 44) i3 l2 = h3 at F f8 ⊢
  refine wp_aload rfl rfl rfl ?_
  refine wp_iload rfl rfl rfl ?_
  refine wp_iload rfl rfl rfl ?_
  obtain ⟨f9, F⟩ := F
  refine wp_callV rfl rfl rfl (rcv_v f9 f8 (by decide) (by decide)) rfl rfl rfl rfl ?_
  refine CV.mono F (fun h4 F => ?_) (fun _ _ w => rx_I w)
  refine wp_aload rfl rfl rfl ?_
  obtain ⟨f10, F⟩ := F
  refine wp_getI rfl rfl rfl f10 rfl ?_
  refine wp_const rfl rfl ?_
  refine wp_icmp_eq (Y := (-1)) rfl rfl rfl rfl rfl (fun c => ?_) (fun c => ?_)
  · replace F := F.1 c
    refine wp_aload' (L' := [some (vR l0), some (vI l1), none, some (vI l3), none]) rfl rfl rfl rfl ?_
    refine wp_getI rfl rfl rfl f10 rfl ?_
    refine wp_const rfl rfl ?_
    refine wp_icmp_eq (Y := (-1)) rfl rfl rfl rfl rfl (fun c => ?_) (fun c => ?_)
    · replace F := F.1 c
      refine wp_aload' (L' := [some (vR l0), some (vI l1), none, some (vI l3), none]) rfl rfl rfl rfl ?_
      refine wp_iload rfl rfl rfl ?_
      refine wp_callV rfl rfl rfl (rcv_v f9 f10 (by decide) (by decide)) rfl rfl rfl rfl ?_
      refine CV.mono F (fun h5 F => ?_) (fun _ _ w => rx_I w)
      refine wp_aload rfl rfl rfl ?_
      obtain ⟨f11, F⟩ := F
      refine wp_getR rfl rfl rfl f11 rfl ?_
      refine wp_iload rfl rfl rfl ?_
      refine wp_const rfl rfl ?_
      obtain ⟨f12, F⟩ := F
      obtain ⟨i4, b9, F⟩ := F
      refine wp_iastore rfl f12 b9 rfl ?_
      have f13 : gK (pI h5 (gR h5 l0 48) i4 (-1)) l0 = 14 := (gK_pI _ _ _ _ _).trans f11
      replace F := F _ rfl
      generalize pI h5 (gR h5 l0 48) i4 (-1) = h6 at F f13 ⊢
      refine wp_aload rfl rfl rfl ?_
      refine wp_getR rfl rfl rfl f13 rfl ?_
      refine wp_const rfl rfl ?_
      refine wp_iload rfl rfl rfl ?_
      refine wp_imul rfl rfl ?_
      refine wp_iload rfl rfl rfl ?_
      refine wp_iadd rfl rfl ?_
      refine wp_const rfl rfl ?_
      obtain ⟨f14, F⟩ := F
      obtain ⟨i5, b9, F⟩ := F
      refine wp_zastore rfl f14 b9 rfl ?_
      have f15 : gK (pI h6 (gR h6 l0 45) i5 (0 &&& 1)) l0 = 14 := (gK_pI _ _ _ _ _).trans f13
      replace F := F _ rfl
      generalize pI h6 (gR h6 l0 45) i5 (0 &&& 1) = h7 at F f15 ⊢
      refine wp_aload rfl rfl rfl ?_
      refine wp_iload rfl rfl rfl ?_
      refine wp_callV rfl rfl rfl (rcv_v f9 f15 (by decide) (by decide)) rfl rfl rfl rfl ?_
      refine CV.mono F (fun h8 F => ?_) (fun _ _ w => rx_I w)
      refine wp_const rfl rfl ?_
      exact wp_retI rfl (Or.inl rfl) F
    · replace F := F.2 c
      refine wp_aload rfl rfl rfl ?_
      refine wp_getR rfl rfl rfl f10 rfl ?_
      refine wp_const rfl rfl ?_
      refine wp_iload rfl rfl rfl ?_
      refine wp_imul rfl rfl ?_
      refine wp_iload rfl rfl rfl ?_
      refine wp_iadd rfl rfl ?_
      refine wp_const rfl rfl ?_
      obtain ⟨f16, F⟩ := F
      obtain ⟨i6, b9, F⟩ := F
      refine wp_zastore rfl f16 b9 rfl ?_
      have f17 : gK (pI h4 (gR h4 l0 43) i6 (0 &&& 1)) l0 = 14 := (gK_pI _ _ _ _ _).trans f10
      replace F := F _ rfl
      generalize pI h4 (gR h4 l0 43) i6 (0 &&& 1) = h9 at F f17 ⊢
      refine wp_aload rfl rfl rfl ?_
      refine wp_getR rfl rfl rfl f17 rfl ?_
      refine wp_const rfl rfl ?_
      refine wp_iload rfl rfl rfl ?_
      refine wp_imul rfl rfl ?_
      refine wp_aload rfl rfl rfl ?_
      refine wp_getI rfl rfl rfl f17 rfl ?_
      refine wp_iadd rfl rfl ?_
      refine wp_const rfl rfl ?_
      obtain ⟨f18, F⟩ := F
      obtain ⟨i7, b9, F⟩ := F
      refine wp_zastore rfl f18 b9 rfl ?_
      have f19 : gK (pI h9 (gR h9 l0 47) i7 (1 &&& 1)) l0 = 14 := (gK_pI _ _ _ _ _).trans f17
      replace F := F _ rfl
      generalize pI h9 (gR h9 l0 47) i7 (1 &&& 1) = h10 at F f19 ⊢
      refine wp_const rfl rfl ?_
      refine wp_aload rfl rfl rfl ?_
      refine wp_getI rfl rfl rfl f19 rfl ?_
      refine wp_iadd rfl rfl ?_
      exact wp_retI rfl (Or.inl rfl) F
  · replace F := F.2 c
    refine wp_aload rfl rfl rfl ?_
    refine wp_getR rfl rfl rfl f10 rfl ?_
    refine wp_const rfl rfl ?_
    refine wp_iload rfl rfl rfl ?_
    refine wp_imul rfl rfl ?_
    refine wp_iload rfl rfl rfl ?_
    refine wp_iadd rfl rfl ?_
    refine wp_const rfl rfl ?_
    obtain ⟨f20, F⟩ := F
    obtain ⟨i8, b9, F⟩ := F
    refine wp_zastore rfl f20 b9 rfl ?_
    have f21 : gK (pI h4 (gR h4 l0 43) i8 (0 &&& 1)) l0 = 14 := (gK_pI _ _ _ _ _).trans f10
    replace F := F _ rfl
    generalize pI h4 (gR h4 l0 43) i8 (0 &&& 1) = h11 at F f21 ⊢
    refine wp_const rfl rfl ?_
    refine wp_aload rfl rfl rfl ?_
    refine wp_getI rfl rfl rfl f21 rfl ?_
    refine wp_iadd rfl rfl ?_
    exact wp_retI rfl (Or.inl rfl) F
-- CensusOffice$Session goBack ()I
theorem m161 {d : Nat} {a0 : Nat} {h : aH} {K : Int32 → aH → Prop} {X : Nat → aH → Prop} (F : gK h a0 = 10 ∧ gK h (gR h a0 0) = 3 ∧ ∀ v0 : Int32, v0 = (gI h (gR h a0 0) 11) - 1 → Wp (d + 1) 161 (10, [some (vR a0), some (vI v0)], [], h) (RI K X)) : CI (d + 1) 161 [vR a0] h K X := by
  show Wp (d + 1) 161 (0, [some (vR a0), none], [], h) (RI K X)
  refine wp_aload rfl rfl rfl ?_
  obtain ⟨f0, F⟩ := F
  refine wp_getR rfl rfl rfl f0 rfl ?_
  obtain ⟨f1, F⟩ := F
  refine wp_getI rfl rfl rfl f1 rfl ?_
  refine wp_const rfl rfl ?_
  refine wp_isub rfl rfl ?_
  replace F := F _ rfl
  generalize ((gI h (gR h a0 0) 11) - 1 : Int32) = v0 at F ⊢
  refine wp_istore (L2 := [some (vR a0), some (vI v0)]) rfl rfl rfl rfl ?_
  exact F
theorem w161_10 {d : Nat} {l0 : Nat} {l1 : Int32} {h : aH} {K : Int32 → aH → Prop} {X : Nat → aH → Prop} (F : ((l1.toInt < 0 → K (-1) h) ∧ (¬ l1.toInt < 0 → gK h l0 = 10 ∧ ∃ i0 : Nat, inB h 100 (gR h l0 4) l1 i0 ∧ (((gI h (gR h l0 4) i0).toInt = (-2000000) → ∀ v0 : Int32, v0 = l1 + (-1) → Wp (d + 1) 161 (10, [some (vR l0), some (vI v0)], [], h) (RI K X)) ∧ (¬ (gI h (gR h l0 4) i0).toInt = (-2000000) → ∃ i1 : Nat, inB h 100 (gR h l0 4) l1 i1 ∧ 8 ≤ (gR h l0 5) ∧ ∃ i2 : Nat, inB h 100 (gR h l0 5) l1 i2 ∧ ∀ h0 : aH, h0 = pI h (gR h l0 5) i2 (gI h (gR h l0 4) i1) → 8 ≤ (gR h0 l0 4) ∧ ∃ i3 : Nat, inB h0 100 (gR h0 l0 4) l1 i3 ∧ ∀ h1 : aH, h1 = pI h0 (gR h0 l0 4) i3 (-2000000) → 8 ≤ l0 ∧ ∀ h2 : aH, h2 = pI h1 l0 9 0 → CV d 136 [vR l0] h2 (fun h3 => gK h3 l0 = 10 ∧ CI d 142 [vR l0] h3 (fun y0 h4 => K y0 h4) X) X))))) : Wp (d + 1) 161 (10, [some (vR l0), some (vI l1)], [], h) (RI K X) := by
  refine wp_iload rfl rfl rfl ?_
  refine wp_if_lt rfl rfl rfl rfl (fun c => ?_) (fun c => ?_)
  · replace F := F.1 c
    refine wp_const' (L' := [none, none]) rfl rfl rfl ?_
    exact wp_retI rfl (Or.inl rfl) F
  · replace F := F.2 c
    refine wp_aload rfl rfl rfl ?_
    obtain ⟨f0, F⟩ := F
    refine wp_getR rfl rfl rfl f0 rfl ?_
    refine wp_iload rfl rfl rfl ?_
    obtain ⟨i0, b9, F⟩ := F
    refine wp_iaload rfl b9 rfl ?_
    refine wp_const rfl rfl ?_
    refine wp_icmp_eq (Y := (-2000000)) rfl rfl rfl rfl rfl (fun c => ?_) (fun c => ?_)
    · replace F := F.1 c
      refine wp_iinc (y := (-1)) (L2 := [some (vR l0), some (vI (l1 + (-1)))]) rfl rfl rfl rfl rfl ?_
      replace F := F _ rfl
      generalize (l1 + (-1) : Int32) = v0 at F ⊢
      refine wp_goto rfl rfl ?_
      exact F
    · replace F := F.2 c
      refine wp_aload rfl rfl rfl ?_
      refine wp_getR rfl rfl rfl f0 rfl ?_
      refine wp_iload rfl rfl rfl ?_
      refine wp_aload rfl rfl rfl ?_
      refine wp_getR rfl rfl rfl f0 rfl ?_
      refine wp_iload rfl rfl rfl ?_
      obtain ⟨i1, b9, F⟩ := F
      refine wp_iaload rfl b9 rfl ?_
      obtain ⟨f1, F⟩ := F
      obtain ⟨i2, b9, F⟩ := F
      refine wp_iastore rfl f1 b9 rfl ?_
      have f2 : gK (pI h (gR h l0 5) i2 (gI h (gR h l0 4) i1)) l0 = 10 := (gK_pI _ _ _ _ _).trans f0
      replace F := F _ rfl
      generalize pI h (gR h l0 5) i2 (gI h (gR h l0 4) i1) = h0 at F f2 ⊢
      refine wp_aload rfl rfl rfl ?_
      refine wp_getR rfl rfl rfl f2 rfl ?_
      refine wp_iload rfl rfl rfl ?_
      refine wp_const rfl rfl ?_
      obtain ⟨f3, F⟩ := F
      obtain ⟨i3, b9, F⟩ := F
      refine wp_iastore rfl f3 b9 rfl ?_
      have f4 : gK (pI h0 (gR h0 l0 4) i3 (-2000000)) l0 = 10 := (gK_pI _ _ _ _ _).trans f2
      replace F := F _ rfl
      generalize pI h0 (gR h0 l0 4) i3 (-2000000) = h1 at F f4 ⊢
      refine wp_aload rfl rfl rfl ?_
      refine wp_const rfl rfl ?_
      obtain ⟨f5, F⟩ := F
      refine wp_putI rfl rfl rfl f5 f4 rfl ?_
      have f6 : gK (pI h1 l0 9 0) l0 = 10 := (gK_pI _ _ _ _ _).trans f4
      replace F := F _ rfl
      generalize pI h1 l0 9 0 = h2 at F f6 ⊢
      refine wp_aload rfl rfl rfl ?_
      refine wp_callV rfl rfl rfl (rcv_v f5 f6 (by decide) (by decide)) rfl rfl rfl rfl ?_
      refine CV.mono F (fun h3 F => ?_) (fun _ _ w => rx_I w)
      refine wp_aload rfl rfl rfl ?_
      obtain ⟨f7, F⟩ := F
      refine wp_callI rfl rfl rfl (rcv_v f5 f7 (by decide) (by decide)) rfl rfl rfl rfl ?_
      refine CI.mono F (fun y0 h4 F => ?_) (fun _ _ w => rx_I w)
      exact wp_retI rfl (Or.inl rfl) F
-- CensusOffice back (I)I
theorem m162 {d : Nat} {a0 : Nat} {a1 : Int32} {h : aH} {K : Int32 → aH → Prop} {X : Nat → aH → Prop} (F : 8 ≤ a0 ∧ gK h a0 = 1 ∧ CR d 140 [vR a0, vI a1] h (fun q0 h0 => gK h0 q0 = 10 ∧ (((gI h0 q0 12).toInt = 0 → 8 ≤ q0 ∧ CI d 161 [vR q0] h0 (fun y0 h1 => K y0 h1) X) ∧ (¬ (gI h0 q0 12).toInt = 0 → X 2 (gNew h0 200 6)))) X) : CI (d + 1) 162 [vR a0, vI a1] h K X := by
  show Wp (d + 1) 162 (0, [some (vR a0), some (vI a1), none], [], h) (RI K X)
  refine wp_aload rfl rfl rfl ?_
  refine wp_iload rfl rfl rfl ?_
  obtain ⟨f0, F⟩ := F
  obtain ⟨f1, F⟩ := F
  refine wp_callR rfl rfl rfl (rcv_v f0 f1 (by decide) (by decide)) rfl rfl rfl rfl ?_
  refine CR.mono F (fun q0 h0 F => ?_) (fun _ _ w => rx_I w)
  refine wp_astore (L2 := [some (vR a0), some (vI a1), some (vR q0)]) rfl rfl rfl rfl ?_
  refine wp_aload rfl rfl rfl ?_
  obtain ⟨f2, F⟩ := F
  refine wp_getI rfl rfl rfl f2 rfl ?_
  refine wp_if_eq rfl rfl rfl rfl (fun c => ?_) (fun c => ?_)
  · replace F := F.1 c
    refine wp_aload' (L' := [none, none, some (vR q0)]) rfl rfl rfl rfl ?_
    obtain ⟨f3, F⟩ := F
    refine wp_callI rfl rfl rfl (rcv_v f3 f2 (by decide) (by decide)) rfl rfl rfl rfl ?_
    refine CI.mono F (fun y0 h1 F => ?_) (fun _ _ w => rx_I w)
    exact wp_retI rfl (Or.inl rfl) F
  · replace F := F.2 c
    exact wp_thrI rfl F
-- CensusOfficeLaw back (LCensusOffice;I[J)I
theorem m163 {d : Nat} {a0 : Nat} {a1 : Int32} {a2 : Nat} {h : aH} {K : Int32 → aH → Prop} {X : Nat → aH → Prop} (F : 8 ≤ a0 ∧ gK h a0 = 1 ∧ CI d 162 [vR a0, vI a1] h (fun y0 h0 => 8 ≤ a2 ∧ inB h0 101 a2 0 0 ∧ ∀ h1 : aH, h1 = pJ h0 a2 0 (y0.toInt64) → K 0 h1) (fun x9 h9 => (x9 = 3 ∧ K 1 h9) ∨ (x9 = 2 ∧ K 2 h9))) : CI (d + 1) 163 [vR a0, vI a1, vR a2] h K X := by
  show Wp (d + 1) 163 (0, [some (vR a0), some (vI a1), some (vR a2), none], [], h) (RI K X)
  refine wp_aload rfl rfl rfl ?_
  refine wp_const rfl rfl ?_
  refine wp_aload rfl rfl rfl ?_
  refine wp_iload rfl rfl rfl ?_
  obtain ⟨f0, F⟩ := F
  obtain ⟨f1, F⟩ := F
  refine wp_callhI (X := (fun x9 h9 => (x9 = 3 ∧ K 1 h9) ∨ (x9 = 2 ∧ K 2 h9))) rfl rfl rfl (rcv_v f0 f1 (by decide) (by decide)) rfl rfl rfl (fun x9 h9 F => ?_) ?_
  · rcases F with ⟨rfl, F⟩ | ⟨rfl, F⟩
    · refine ⟨12, rfl, ?_⟩
      refine wp_astoreJ' (L' := [none, none, none, none]) (L2 := [none, none, none, some vJ]) rfl rfl rfl rfl rfl ?_
      refine wp_const rfl rfl ?_
      exact wp_retI rfl (Or.inl rfl) F
    · refine ⟨15, rfl, ?_⟩
      refine wp_astoreJ' (L' := [none, none, none, none]) (L2 := [none, none, none, some vJ]) rfl rfl rfl rfl rfl ?_
      refine wp_const rfl rfl ?_
      exact wp_retI rfl (Or.inl rfl) F
  · refine CI.mono F (fun y0 h0 F => ?_) (fun _ _ w => w)
    refine wp_i2l rfl rfl ?_
    obtain ⟨f2, F⟩ := F
    obtain ⟨b9, F⟩ := F
    refine wp_lastore rfl f2 b9 rfl ?_
    replace F := F _ rfl
    generalize pJ h0 a2 0 (y0.toInt64) = h1 at F ⊢
    refine wp_goto rfl rfl ?_
    refine wp_const' (L' := [none, none, none, none]) rfl rfl rfl ?_
    exact wp_retI rfl (Or.inl rfl) F
-- CensusOfficeModel back (I)I
theorem m164 {d : Nat} {a0 : Nat} {a1 : Int32} {h : aH} {K : Int32 → aH → Prop} {X : Nat → aH → Prop} (F : 8 ≤ a0 ∧ gK h a0 = 14 ∧ ∀ h0 : aH, h0 = pI h a0 0 0 → CI d 145 [vR a0, vI a1] h0 (fun y0 h1 => ((y0.toInt = 0 → gK h1 a0 = 14 ∧ CI d 15 [vR a0, vI 1] h1 (fun y1 h2 => K y1 h2) X) ∧ (¬ y0.toInt = 0 → gK h1 a0 = 14 ∧ ∃ i0 : Nat, inB h1 102 (gR h1 a0 42) a1 i0 ∧ (((gI h1 (gR h1 a0 42) i0).toInt = 0 → Wp (d + 1) 164 (38, [some (vR a0), some (vI a1), some (vI (-1)), some (vI 0)], [], h1) (RI K X)) ∧ (¬ (gI h1 (gR h1 a0 42) i0).toInt = 0 → CI d 15 [vR a0, vI 2] h1 (fun y2 h3 => K y2 h3) X))))) X) : CI (d + 1) 164 [vR a0, vI a1] h K X := by
  show Wp (d + 1) 164 (0, [some (vR a0), some (vI a1), none, none], [], h) (RI K X)
  refine wp_aload rfl rfl rfl ?_
  refine wp_const rfl rfl ?_
  obtain ⟨f0, F⟩ := F
  obtain ⟨f1, F⟩ := F
  refine wp_putI rfl rfl rfl f0 f1 rfl ?_
  have f2 : gK (pI h a0 0 0) a0 = 14 := (gK_pI _ _ _ _ _).trans f1
  replace F := F _ rfl
  generalize pI h a0 0 0 = h0 at F f2 ⊢
  refine wp_aload rfl rfl rfl ?_
  refine wp_iload rfl rfl rfl ?_
  refine wp_callI rfl rfl rfl (rcv_v f0 f2 (by decide) (by decide)) rfl rfl rfl rfl ?_
  refine CI.mono F (fun y0 h1 F => ?_) (fun _ _ w => rx_I w)
  refine wp_if_ne rfl rfl rfl rfl (fun c => ?_) (fun c => ?_)
  · replace F := F.1 c
    refine wp_aload rfl rfl rfl ?_
    refine wp_const rfl rfl ?_
    obtain ⟨f3, F⟩ := F
    refine wp_callI rfl rfl rfl (rcv_v f0 f3 (by decide) (by decide)) rfl rfl rfl rfl ?_
    refine CI.mono F (fun y1 h2 F => ?_) (fun _ _ w => rx_I w)
    exact wp_retI rfl (Or.inl rfl) F
  · replace F := F.2 c
    refine wp_aload' (L' := [some (vR a0), some (vI a1), none, none]) rfl rfl rfl rfl ?_
    obtain ⟨f4, F⟩ := F
    refine wp_getR rfl rfl rfl f4 rfl ?_
    refine wp_iload rfl rfl rfl ?_
    obtain ⟨i0, b9, F⟩ := F
    refine wp_zaload rfl b9 rfl ?_
    refine wp_if_eq rfl rfl rfl rfl (fun c => ?_) (fun c => ?_)
    · replace F := F.1 c
      refine wp_const' (L' := [some (vR a0), some (vI a1), none, none]) rfl rfl rfl ?_
      refine wp_istore (L2 := [some (vR a0), some (vI a1), some (vI (-1)), none]) rfl rfl rfl rfl ?_
      refine wp_const rfl rfl ?_
      refine wp_istore (L2 := [some (vR a0), some (vI a1), some (vI (-1)), some (vI 0)]) rfl rfl rfl rfl ?_
      exact F
    · replace F := F.2 c
      refine wp_aload rfl rfl rfl ?_
      refine wp_const rfl rfl ?_
      refine wp_callI rfl rfl rfl (rcv_v f0 f4 (by decide) (by decide)) rfl rfl rfl rfl ?_
      refine CI.mono F (fun y2 h3 F => ?_) (fun _ _ w => rx_I w)
      exact wp_retI rfl (Or.inl rfl) F
theorem w164_38 {d : Nat} {l0 : Nat} {l1 : Int32} {l2 : Int32} {l3 : Int32} {h : aH} {K : Int32 → aH → Prop} {X : Nat → aH → Prop} (F : gK h l0 = 14 ∧ ∃ i0 : Nat, inB h 100 (gR h l0 39) l1 i0 ∧ ∃ i1 : Nat, inB h 100 (gR h l0 15) (gI h (gR h l0 39) i0) i1 ∧ ((l3.toInt < (gI h (gR h l0 15) i1).toInt → ∃ i2 : Nat, inB h 102 (gR h l0 43) ((20 * l1) + l3) i2 ∧ (((gI h (gR h l0 43) i2).toInt = 0 → ∀ v0 : Int32, v0 = l3 + 1 → Wp (d + 1) 164 (38, [some (vR l0), some (vI l1), some (vI l2), some (vI v0)], [], h) (RI K X)) ∧ (¬ (gI h (gR h l0 43) i2).toInt = 0 → ∀ v1 : Int32, v1 = l3 + 1 → Wp (d + 1) 164 (38, [some (vR l0), some (vI l1), some (vI l3), some (vI v1)], [], h) (RI K X)))) ∧ (¬ l3.toInt < (gI h (gR h l0 15) i1).toInt → ((l2.toInt = (-1) → K (-1) h) ∧ (¬ l2.toInt = (-1) → 8 ≤ l0 ∧ CV d 158 [vR l0, vI l1] h (fun h0 => gK h0 l0 = 14 ∧ 8 ≤ (gR h0 l0 48) ∧ ∃ i3 : Nat, inB h0 100 (gR h0 l0 48) l1 i3 ∧ ∀ h1 : aH, h1 = pI h0 (gR h0 l0 48) i3 (-1) → 8 ≤ (gR h1 l0 43) ∧ ∃ i4 : Nat, inB h1 102 (gR h1 l0 43) ((20 * l1) + l2) i4 ∧ ∀ h2 : aH, h2 = pI h1 (gR h1 l0 43) i4 (0 &&& 1) → 8 ≤ (gR h2 l0 45) ∧ ∃ i5 : Nat, inB h2 102 (gR h2 l0 45) ((20 * l1) + l2) i5 ∧ ∀ h3 : aH, h3 = pI h2 (gR h2 l0 45) i5 (1 &&& 1) → ∃ i6 : Nat, inB h3 100 (gR h3 l0 44) ((20 * l1) + l2) i6 ∧ 8 ≤ (gR h3 l0 46) ∧ ∃ i7 : Nat, inB h3 100 (gR h3 l0 46) ((20 * l1) + l2) i7 ∧ ∀ h4 : aH, h4 = pI h3 (gR h3 l0 46) i7 (gI h3 (gR h3 l0 44) i6) → CI d 149 [vR l0, vI l1] h4 (fun y0 h5 => K y0 h5) X) X))))) : Wp (d + 1) 164 (38, [some (vR l0), some (vI l1), some (vI l2), some (vI l3)], [], h) (RI K X) := by
  refine wp_iload rfl rfl rfl ?_
  refine wp_aload rfl rfl rfl ?_
  obtain ⟨f0, F⟩ := F
  refine wp_getR rfl rfl rfl f0 rfl ?_
  refine wp_aload rfl rfl rfl ?_
  refine wp_getR rfl rfl rfl f0 rfl ?_
  refine wp_iload rfl rfl rfl ?_
  obtain ⟨i0, b9, F⟩ := F
  refine wp_iaload rfl b9 rfl ?_
  obtain ⟨i1, b9, F⟩ := F
  refine wp_iaload rfl b9 rfl ?_
  refine wp_icmp_ge rfl rfl rfl rfl rfl (fun c => ?_) (fun c => ?_)
  · replace F := F.1 c
    refine wp_aload rfl rfl rfl ?_
    refine wp_getR rfl rfl rfl f0 rfl ?_
    refine wp_const rfl rfl ?_
    refine wp_iload rfl rfl rfl ?_
    refine wp_imul rfl rfl ?_
    refine wp_iload rfl rfl rfl ?_
    refine wp_iadd rfl rfl ?_
    obtain ⟨i2, b9, F⟩ := F
    refine wp_zaload rfl b9 rfl ?_
    refine wp_if_eq rfl rfl rfl rfl (fun c => ?_) (fun c => ?_)
    · replace F := F.1 c
      refine wp_iload rfl rfl rfl ?_
      refine wp_istore' (L' := [some (vR l0), some (vI l1), none, some (vI l3)]) (L2 := [some (vR l0), some (vI l1), some (vI l2), some (vI l3)]) rfl rfl rfl rfl rfl ?_
      refine wp_iinc (y := 1) (L2 := [some (vR l0), some (vI l1), some (vI l2), some (vI (l3 + 1))]) rfl rfl rfl rfl rfl ?_
      replace F := F _ rfl
      generalize (l3 + 1 : Int32) = v0 at F ⊢
      refine wp_goto rfl rfl ?_
      exact F
    · replace F := F.2 c
      refine wp_iload rfl rfl rfl ?_
      refine wp_goto rfl rfl ?_
      refine wp_istore' (L' := [some (vR l0), some (vI l1), none, some (vI l3)]) (L2 := [some (vR l0), some (vI l1), some (vI l3), some (vI l3)]) rfl rfl rfl rfl rfl ?_
      refine wp_iinc (y := 1) (L2 := [some (vR l0), some (vI l1), some (vI l3), some (vI (l3 + 1))]) rfl rfl rfl rfl rfl ?_
      replace F := F _ rfl
      generalize (l3 + 1 : Int32) = v1 at F ⊢
      refine wp_goto rfl rfl ?_
      exact F
  · replace F := F.2 c
    refine wp_iload' (L' := [some (vR l0), some (vI l1), some (vI l2), none]) rfl rfl rfl rfl ?_
    refine wp_const rfl rfl ?_
    refine wp_icmp_ne (Y := (-1)) rfl rfl rfl rfl rfl (fun c => ?_) (fun c => ?_)
    · replace F := F.1 c
      refine wp_const rfl rfl ?_
      exact wp_retI rfl (Or.inl rfl) F
    · replace F := F.2 c
      refine wp_aload' (L' := [some (vR l0), some (vI l1), some (vI l2), none]) rfl rfl rfl rfl ?_
      refine wp_iload rfl rfl rfl ?_
      obtain ⟨f1, F⟩ := F
      refine wp_callV rfl rfl rfl (rcv_v f1 f0 (by decide) (by decide)) rfl rfl rfl rfl ?_
      refine CV.mono F (fun h0 F => ?_) (fun _ _ w => rx_I w)
      refine wp_aload rfl rfl rfl ?_
      obtain ⟨f2, F⟩ := F
      refine wp_getR rfl rfl rfl f2 rfl ?_
      refine wp_iload rfl rfl rfl ?_
      refine wp_const rfl rfl ?_
      obtain ⟨f3, F⟩ := F
      obtain ⟨i3, b9, F⟩ := F
      refine wp_iastore rfl f3 b9 rfl ?_
      have f4 : gK (pI h0 (gR h0 l0 48) i3 (-1)) l0 = 14 := (gK_pI _ _ _ _ _).trans f2
      replace F := F _ rfl
      generalize pI h0 (gR h0 l0 48) i3 (-1) = h1 at F f4 ⊢
      refine wp_aload rfl rfl rfl ?_
      refine wp_getR rfl rfl rfl f4 rfl ?_
      refine wp_const rfl rfl ?_
      refine wp_iload rfl rfl rfl ?_
      refine wp_imul rfl rfl ?_
      refine wp_iload rfl rfl rfl ?_
      refine wp_iadd rfl rfl ?_
      refine wp_const rfl rfl ?_
      obtain ⟨f5, F⟩ := F
      obtain ⟨i4, b9, F⟩ := F
      refine wp_zastore rfl f5 b9 rfl ?_
      have f6 : gK (pI h1 (gR h1 l0 43) i4 (0 &&& 1)) l0 = 14 := (gK_pI _ _ _ _ _).trans f4
      replace F := F _ rfl
      generalize pI h1 (gR h1 l0 43) i4 (0 &&& 1) = h2 at F f6 ⊢
      refine wp_aload rfl rfl rfl ?_
      refine wp_getR rfl rfl rfl f6 rfl ?_
      refine wp_const rfl rfl ?_
      refine wp_iload rfl rfl rfl ?_
      refine wp_imul rfl rfl ?_
      refine wp_iload rfl rfl rfl ?_
      refine wp_iadd rfl rfl ?_
      refine wp_const rfl rfl ?_
      obtain ⟨f7, F⟩ := F
      obtain ⟨i5, b9, F⟩ := F
      refine wp_zastore rfl f7 b9 rfl ?_
      have f8 : gK (pI h2 (gR h2 l0 45) i5 (1 &&& 1)) l0 = 14 := (gK_pI _ _ _ _ _).trans f6
      replace F := F _ rfl
      generalize pI h2 (gR h2 l0 45) i5 (1 &&& 1) = h3 at F f8 ⊢
      refine wp_aload rfl rfl rfl ?_
      refine wp_getR rfl rfl rfl f8 rfl ?_
      refine wp_const rfl rfl ?_
      refine wp_iload rfl rfl rfl ?_
      refine wp_imul rfl rfl ?_
      refine wp_iload rfl rfl rfl ?_
      refine wp_iadd rfl rfl ?_
      refine wp_aload rfl rfl rfl ?_
      refine wp_getR rfl rfl rfl f8 rfl ?_
      refine wp_const rfl rfl ?_
      refine wp_iload rfl rfl rfl ?_
      refine wp_imul rfl rfl ?_
      refine wp_iload rfl rfl rfl ?_
      refine wp_iadd rfl rfl ?_
      obtain ⟨i6, b9, F⟩ := F
      refine wp_iaload rfl b9 rfl ?_
      obtain ⟨f9, F⟩ := F
      obtain ⟨i7, b9, F⟩ := F
      refine wp_iastore rfl f9 b9 rfl ?_
      have f10 : gK (pI h3 (gR h3 l0 46) i7 (gI h3 (gR h3 l0 44) i6)) l0 = 14 := (gK_pI _ _ _ _ _).trans f8
      replace F := F _ rfl
      generalize pI h3 (gR h3 l0 46) i7 (gI h3 (gR h3 l0 44) i6) = h4 at F f10 ⊢
      refine wp_aload rfl rfl rfl ?_
      refine wp_iload rfl rfl rfl ?_
      refine wp_callI rfl rfl rfl (rcv_v f1 f10 (by decide) (by decide)) rfl rfl rfl rfl ?_
      refine CI.mono F (fun y0 h5 F => ?_) (fun _ _ w => rx_I w)
      exact wp_retI rfl (Or.inl rfl) F
-- CensusOffice given (IIZ)I
theorem m165 {d : Nat} {a0 : Nat} {a1 : Int32} {a2 : Int32} {a3 : Int32} {h : aH} {K : Int32 → aH → Prop} {X : Nat → aH → Prop} (F : 8 ≤ a0 ∧ gK h a0 = 1 ∧ CR d 140 [vR a0, vI a1] h (fun q0 h0 => gK h0 q0 = 10 ∧ gK h0 a0 = 1 ∧ CV d 121 [vR a0, vR (gR h0 q0 0), vI a2] h0 (fun h1 => ((a3.toInt = 0 → gK h1 q0 = 10 ∧ ∃ i0 : Nat, inB h1 100 (gR h1 q0 3) a2 i0 ∧ K (gI h1 (gR h1 q0 3) i0) h1) ∧ (¬ a3.toInt = 0 → gK h1 q0 = 10 ∧ ∃ i1 : Nat, inB h1 100 (gR h1 q0 5) a2 i1 ∧ K (gI h1 (gR h1 q0 5) i1) h1))) X) X) : CI (d + 1) 165 [vR a0, vI a1, vI a2, vI a3] h K X := by
  show Wp (d + 1) 165 (0, [some (vR a0), some (vI a1), some (vI a2), some (vI a3), none], [], h) (RI K X)
  refine wp_aload rfl rfl rfl ?_
  refine wp_iload rfl rfl rfl ?_
  obtain ⟨f0, F⟩ := F
  obtain ⟨f1, F⟩ := F
  refine wp_callR rfl rfl rfl (rcv_v f0 f1 (by decide) (by decide)) rfl rfl rfl rfl ?_
  refine CR.mono F (fun q0 h0 F => ?_) (fun _ _ w => rx_I w)
  refine wp_astore (L2 := [some (vR a0), some (vI a1), some (vI a2), some (vI a3), some (vR q0)]) rfl rfl rfl rfl ?_
  refine wp_aload rfl rfl rfl ?_
  refine wp_aload rfl rfl rfl ?_
  obtain ⟨f2, F⟩ := F
  refine wp_getR rfl rfl rfl f2 rfl ?_
  refine wp_iload rfl rfl rfl ?_
  obtain ⟨f3, F⟩ := F
  refine wp_callV rfl rfl rfl (rcv_v f0 f3 (by decide) (by decide)) rfl rfl rfl rfl ?_
  refine CV.mono F (fun h1 F => ?_) (fun _ _ w => rx_I w)
  refine wp_iload rfl rfl rfl ?_
  refine wp_if_eq rfl rfl rfl rfl (fun c => ?_) (fun c => ?_)
  · replace F := F.1 c
    refine wp_aload' (L' := [none, none, some (vI a2), none, some (vR q0)]) rfl rfl rfl rfl ?_
    obtain ⟨f4, F⟩ := F
    refine wp_getR rfl rfl rfl f4 rfl ?_
    refine wp_iload rfl rfl rfl ?_
    obtain ⟨i0, b9, F⟩ := F
    refine wp_iaload rfl b9 rfl ?_
    exact wp_retI rfl (Or.inl rfl) F
  · replace F := F.2 c
    refine wp_aload rfl rfl rfl ?_
    obtain ⟨f5, F⟩ := F
    refine wp_getR rfl rfl rfl f5 rfl ?_
    refine wp_iload rfl rfl rfl ?_
    obtain ⟨i1, b9, F⟩ := F
    refine wp_iaload rfl b9 rfl ?_
    refine wp_goto rfl rfl ?_
    exact wp_retI rfl (Or.inl rfl) F
-- CensusOfficeLaw given (LCensusOffice;IIZ[J)I
theorem m166 {d : Nat} {a0 : Nat} {a1 : Int32} {a2 : Int32} {a3 : Int32} {a4 : Nat} {h : aH} {K : Int32 → aH → Prop} {X : Nat → aH → Prop} (F : 8 ≤ a0 ∧ gK h a0 = 1 ∧ CI d 165 [vR a0, vI a1, vI a2, vI a3] h (fun y0 h0 => 8 ≤ a4 ∧ inB h0 101 a4 0 0 ∧ ∀ h1 : aH, h1 = pJ h0 a4 0 (y0.toInt64) → K 0 h1) (fun x9 h9 => (x9 = 3 ∧ K 1 h9))) : CI (d + 1) 166 [vR a0, vI a1, vI a2, vI a3, vR a4] h K X := by
  show Wp (d + 1) 166 (0, [some (vR a0), some (vI a1), some (vI a2), some (vI a3), some (vR a4), none], [], h) (RI K X)
  refine wp_aload rfl rfl rfl ?_
  refine wp_const rfl rfl ?_
  refine wp_aload rfl rfl rfl ?_
  refine wp_iload rfl rfl rfl ?_
  refine wp_iload rfl rfl rfl ?_
  refine wp_iload rfl rfl rfl ?_
  obtain ⟨f0, F⟩ := F
  obtain ⟨f1, F⟩ := F
  refine wp_callhI (X := (fun x9 h9 => (x9 = 3 ∧ K 1 h9))) rfl rfl rfl (rcv_v f0 f1 (by decide) (by decide)) rfl rfl rfl (fun x9 h9 F => ?_) ?_
  · rcases F with ⟨rfl, F⟩
    · refine ⟨15, rfl, ?_⟩
      refine wp_astoreJ' (L' := [none, none, none, none, none, none]) (L2 := [none, none, none, none, none, some vJ]) rfl rfl rfl rfl rfl ?_
      refine wp_const rfl rfl ?_
      exact wp_retI rfl (Or.inl rfl) F
  · refine CI.mono F (fun y0 h0 F => ?_) (fun _ _ w => w)
    refine wp_i2l rfl rfl ?_
    obtain ⟨f2, F⟩ := F
    obtain ⟨b9, F⟩ := F
    refine wp_lastore rfl f2 b9 rfl ?_
    replace F := F _ rfl
    generalize pJ h0 a4 0 (y0.toInt64) = h1 at F ⊢
    refine wp_goto rfl rfl ?_
    refine wp_const' (L' := [none, none, none, none, none, none]) rfl rfl rfl ?_
    exact wp_retI rfl (Or.inl rfl) F
-- CensusOfficeModel given (IIZ)I
theorem m167 {d : Nat} {a0 : Nat} {a1 : Int32} {a2 : Int32} {a3 : Int32} {h : aH} {K : Int32 → aH → Prop} {X : Nat → aH → Prop} (F : 8 ≤ a0 ∧ gK h a0 = 14 ∧ ∀ h0 : aH, h0 = pI h a0 0 0 → CI d 145 [vR a0, vI a1] h0 (fun y0 h1 => ((y0.toInt = 0 → gK h1 a0 = 14 ∧ CI d 15 [vR a0, vI 1] h1 (fun y1 h2 => K y1 h2) X) ∧ (¬ y0.toInt = 0 → gK h1 a0 = 14 ∧ ∃ i0 : Nat, inB h1 100 (gR h1 a0 39) a1 i0 ∧ ∃ i1 : Nat, inB h1 100 (gR h1 a0 15) (gI h1 (gR h1 a0 39) i0) i1 ∧ CI d 14 [vL (a2.toInt64), vL 0, vL (((gI h1 (gR h1 a0 15) i1) - 1).toInt64)] h1 (fun y2 h3 => ((y2.toInt = 0 → gK h3 a0 = 14 ∧ CI d 15 [vR a0, vI 1] h3 (fun y3 h4 => K y3 h4) X) ∧ (¬ y2.toInt = 0 → ((a3.toInt = 0 → gK h3 a0 = 14 ∧ CV d 148 [vR a0, vI a1, vI (-1)] h3 (fun h5 => gK h5 a0 = 14 ∧ ∃ i2 : Nat, inB h5 100 (gR h5 a0 34) a2 i2 ∧ K (gI h5 (gR h5 a0 34) i2) h5) X) ∧ (¬ a3.toInt = 0 → gK h3 a0 = 14 ∧ ∃ i3 : Nat, inB h3 102 (gR h3 a0 45) ((20 * a1) + a2) i3 ∧ (((gI h3 (gR h3 a0 45) i3).toInt = 0 → K (-2000000) h3) ∧ (¬ (gI h3 (gR h3 a0 45) i3).toInt = 0 → ∃ i4 : Nat, inB h3 100 (gR h3 a0 46) ((20 * a1) + a2) i4 ∧ K (gI h3 (gR h3 a0 46) i4) h3))))))) X))) X) : CI (d + 1) 167 [vR a0, vI a1, vI a2, vI a3] h K X := by
  show Wp (d + 1) 167 (0, [some (vR a0), some (vI a1), some (vI a2), some (vI a3)], [], h) (RI K X)
  refine wp_aload rfl rfl rfl ?_
  refine wp_const rfl rfl ?_
  obtain ⟨f0, F⟩ := F
  obtain ⟨f1, F⟩ := F
  refine wp_putI rfl rfl rfl f0 f1 rfl ?_
  have f2 : gK (pI h a0 0 0) a0 = 14 := (gK_pI _ _ _ _ _).trans f1
  replace F := F _ rfl
  generalize pI h a0 0 0 = h0 at F f2 ⊢
  refine wp_aload rfl rfl rfl ?_
  refine wp_iload rfl rfl rfl ?_
  refine wp_callI rfl rfl rfl (rcv_v f0 f2 (by decide) (by decide)) rfl rfl rfl rfl ?_
  refine CI.mono F (fun y0 h1 F => ?_) (fun _ _ w => rx_I w)
  refine wp_if_eq rfl rfl rfl rfl (fun c => ?_) (fun c => ?_)
  · replace F := F.1 c
    refine wp_aload' (L' := [some (vR a0), none, none, none]) rfl rfl rfl rfl ?_
    refine wp_const rfl rfl ?_
    obtain ⟨f3, F⟩ := F
    refine wp_callI rfl rfl rfl (rcv_v f0 f3 (by decide) (by decide)) rfl rfl rfl rfl ?_
    refine CI.mono F (fun y1 h2 F => ?_) (fun _ _ w => rx_I w)
    exact wp_retI rfl (Or.inl rfl) F
  · replace F := F.2 c
    refine wp_iload rfl rfl rfl ?_
    refine wp_i2l rfl rfl ?_
    refine wp_const rfl rfl ?_
    refine wp_aload rfl rfl rfl ?_
    obtain ⟨f4, F⟩ := F
    refine wp_getR rfl rfl rfl f4 rfl ?_
    refine wp_aload rfl rfl rfl ?_
    refine wp_getR rfl rfl rfl f4 rfl ?_
    refine wp_iload rfl rfl rfl ?_
    obtain ⟨i0, b9, F⟩ := F
    refine wp_iaload rfl b9 rfl ?_
    obtain ⟨i1, b9, F⟩ := F
    refine wp_iaload rfl b9 rfl ?_
    refine wp_const rfl rfl ?_
    refine wp_isub rfl rfl ?_
    refine wp_i2l rfl rfl ?_
    refine wp_callI rfl rfl rfl rfl rfl rfl rfl rfl ?_
    refine CI.mono F (fun y2 h3 F => ?_) (fun _ _ w => rx_I w)
    refine wp_if_ne rfl rfl rfl rfl (fun c => ?_) (fun c => ?_)
    · replace F := F.1 c
      refine wp_aload' (L' := [some (vR a0), none, none, none]) rfl rfl rfl rfl ?_
      refine wp_const rfl rfl ?_
      obtain ⟨f5, F⟩ := F
      refine wp_callI rfl rfl rfl (rcv_v f0 f5 (by decide) (by decide)) rfl rfl rfl rfl ?_
      refine CI.mono F (fun y3 h4 F => ?_) (fun _ _ w => rx_I w)
      exact wp_retI rfl (Or.inl rfl) F
    · replace F := F.2 c
      refine wp_iload rfl rfl rfl ?_
      refine wp_if_eq rfl rfl rfl rfl (fun c => ?_) (fun c => ?_)
      · replace F := F.1 c
        refine wp_aload' (L' := [some (vR a0), some (vI a1), some (vI a2), none]) rfl rfl rfl rfl ?_
        refine wp_iload rfl rfl rfl ?_
        refine wp_const rfl rfl ?_
        obtain ⟨f6, F⟩ := F
        refine wp_callV rfl rfl rfl (rcv_v f0 f6 (by decide) (by decide)) rfl rfl rfl rfl ?_
        refine CV.mono F (fun h5 F => ?_) (fun _ _ w => rx_I w)
        refine wp_aload rfl rfl rfl ?_
        obtain ⟨f7, F⟩ := F
        refine wp_getR rfl rfl rfl f7 rfl ?_
        refine wp_iload rfl rfl rfl ?_
        obtain ⟨i2, b9, F⟩ := F
        refine wp_iaload rfl b9 rfl ?_
        exact wp_retI rfl (Or.inl rfl) F
      · replace F := F.2 c
        refine wp_aload rfl rfl rfl ?_
        obtain ⟨f8, F⟩ := F
        refine wp_getR rfl rfl rfl f8 rfl ?_
        refine wp_const rfl rfl ?_
        refine wp_iload rfl rfl rfl ?_
        refine wp_imul rfl rfl ?_
        refine wp_iload rfl rfl rfl ?_
        refine wp_iadd rfl rfl ?_
        obtain ⟨i3, b9, F⟩ := F
        refine wp_zaload rfl b9 rfl ?_
        refine wp_if_eq rfl rfl rfl rfl (fun c => ?_) (fun c => ?_)
        · replace F := F.1 c
          refine wp_const' (L' := [none, none, none, none]) rfl rfl rfl ?_
          exact wp_retI rfl (Or.inl rfl) F
        · replace F := F.2 c
          refine wp_aload rfl rfl rfl ?_
          refine wp_getR rfl rfl rfl f8 rfl ?_
          refine wp_const rfl rfl ?_
          refine wp_iload rfl rfl rfl ?_
          refine wp_imul rfl rfl ?_
          refine wp_iload rfl rfl rfl ?_
          refine wp_iadd rfl rfl ?_
          obtain ⟨i4, b9, F⟩ := F
          refine wp_iaload rfl b9 rfl ?_
          refine wp_goto rfl rfl ?_
          exact wp_retI rfl (Or.inl rfl) F
-- CensusOffice$Rec <init> (LCensusOffice$Session;)V
theorem m168 {d : Nat} {a0 : Nat} {a1 : Nat} {h : aH} {K : aH → Prop} {X : Nat → aH → Prop} (F : 8 ≤ a0 ∧ ∀ (r0 : Nat) (h0 : aH), r0 = gN h → h0 = gNew h 100 20 → gK h0 a0 = 5 ∧ ∀ h1 : aH, h1 = pR h0 a0 4 r0 → gK h1 a1 = 10 ∧ ∀ h2 : aH, h2 = pR h1 a0 0 (gR h1 a1 0) → ∀ h3 : aH, h3 = pI h2 a0 1 (gI h2 a1 1) → ∀ h4 : aH, h4 = pR h3 a0 2 (gR h3 a1 2) → CR d 20 [vR (gR h4 a1 3), vI 20] h4 (fun q0 h5 => gK h5 a0 = 5 ∧ ∀ h6 : aH, h6 = pR h5 a0 3 q0 → K h6) X) : CV (d + 1) 168 [vR a0, vR a1] h K X := by
  show Wp (d + 1) 168 (0, [some (vR a0), some (vR a1)], [], h) (RV K X)
  refine wp_aload rfl rfl rfl ?_
  obtain ⟨f0, F⟩ := F
  refine wp_obj rfl f0 rfl rfl ?_
  refine wp_aload rfl rfl rfl ?_
  refine wp_const rfl rfl ?_
  refine wp_newI (j := 20) rfl rfl (by decide) rfl ?_
  replace F := F _ _ rfl rfl
  generalize gNew h 100 20 = h0 at F ⊢
  generalize gN h = r0 at F ⊢
  obtain ⟨f1, F⟩ := F
  refine wp_putR rfl rfl rfl f0 f1 rfl ?_
  have f2 : gK (pR h0 a0 4 r0) a0 = 5 := (gK_pR _ _ _ _ _).trans f1
  replace F := F _ rfl
  generalize pR h0 a0 4 r0 = h1 at F f2 ⊢
  refine wp_aload rfl rfl rfl ?_
  refine wp_aload rfl rfl rfl ?_
  obtain ⟨f3, F⟩ := F
  refine wp_getR rfl rfl rfl f3 rfl ?_
  refine wp_putR rfl rfl rfl f0 f2 rfl ?_
  have f4 : gK (pR h1 a0 0 (gR h1 a1 0)) a0 = 5 := (gK_pR _ _ _ _ _).trans f2
  have f5 : gK (pR h1 a0 0 (gR h1 a1 0)) a1 = 10 := (gK_pR _ _ _ _ _).trans f3
  replace F := F _ rfl
  generalize pR h1 a0 0 (gR h1 a1 0) = h2 at F f4 f5 ⊢
  refine wp_aload rfl rfl rfl ?_
  refine wp_aload rfl rfl rfl ?_
  refine wp_getI rfl rfl rfl f5 rfl ?_
  refine wp_putI rfl rfl rfl f0 f4 rfl ?_
  have f6 : gK (pI h2 a0 1 (gI h2 a1 1)) a0 = 5 := (gK_pI _ _ _ _ _).trans f4
  have f7 : gK (pI h2 a0 1 (gI h2 a1 1)) a1 = 10 := (gK_pI _ _ _ _ _).trans f5
  replace F := F _ rfl
  generalize pI h2 a0 1 (gI h2 a1 1) = h3 at F f6 f7 ⊢
  refine wp_aload rfl rfl rfl ?_
  refine wp_aload rfl rfl rfl ?_
  refine wp_getR rfl rfl rfl f7 rfl ?_
  refine wp_putR rfl rfl rfl f0 f6 rfl ?_
  have f8 : gK (pR h3 a0 2 (gR h3 a1 2)) a0 = 5 := (gK_pR _ _ _ _ _).trans f6
  have f9 : gK (pR h3 a0 2 (gR h3 a1 2)) a1 = 10 := (gK_pR _ _ _ _ _).trans f7
  replace F := F _ rfl
  generalize pR h3 a0 2 (gR h3 a1 2) = h4 at F f8 f9 ⊢
  refine wp_aload rfl rfl rfl ?_
  refine wp_aload rfl rfl rfl ?_
  refine wp_getR rfl rfl rfl f9 rfl ?_
  refine wp_const rfl rfl ?_
  refine wp_callR rfl rfl rfl rfl rfl rfl rfl rfl ?_
  refine CR.mono F (fun q0 h5 F => ?_) (fun _ _ w => rx_V w)
  obtain ⟨f10, F⟩ := F
  refine wp_putR rfl rfl rfl f0 f10 rfl ?_
  have f11 : gK (pR h5 a0 3 q0) a0 = 5 := (gK_pR _ _ _ _ _).trans f10
  replace F := F _ rfl
  generalize pR h5 a0 3 q0 = h6 at F f11 ⊢
  exact wp_retV rfl F
