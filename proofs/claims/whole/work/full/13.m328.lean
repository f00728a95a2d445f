/-! THE FORMULAS OF THE METHODS 328 TO 328 (written by wip/tools/gen13.py): what a run from a cut point needs -/
-- CensusOfficeLaw law ([I)Z
theorem m328 {d : Nat} {a0 : Nat} {h : aH} {K : Int32 → aH → Prop} {X : Nat → aH → Prop} (F : ∀ (r0 : Nat) (h0 : aH), r0 = gN h → h0 = gNew h 1 13 → 8 ≤ r0 ∧ CV d 10 [vR r0] h0 (fun h1 => ∀ (r1 : Nat) (h2 : aH), r1 = gN h1 → h2 = gNew h1 14 91 → 8 ≤ r1 ∧ CV d 11 [vR r1] h2 (fun h3 => ∀ (r2 : Nat) (h4 : aH), r2 = gN h3 → h4 = gNew h3 101 1 → Wp (d + 1) 328 (23, [some (vR a0), some (vR r0), some (vR r1), some (vR r2), some (vI 0), none, none], [], h4) (RI K X)) (fun _ _ => False)) (fun _ _ => False)) : CI (d + 1) 328 [vR a0] h K X := by
  show Wp (d + 1) 328 (0, [some (vR a0), none, none, none, none, none, none], [], h) (RI K X)
  refine wp_new rfl rfl rfl rfl ?_
  replace F := F _ _ rfl rfl
  generalize gNew h 1 13 = h0 at F ⊢
  generalize gN h = r0 at F ⊢
  refine wp_dup rfl rfl rfl ?_
  obtain ⟨f0, F⟩ := F
  refine wp_callqV rfl rfl rfl (rcv_c f0) rfl rfl ?_
  refine CV.mono F (fun h1 F => ?_) (fun _ _ w => w)
  refine wp_astore (L2 := [some (vR a0), some (vR r0), none, none, none, none, none]) rfl rfl rfl rfl ?_
  refine wp_new rfl rfl rfl rfl ?_
  replace F := F _ _ rfl rfl
  generalize gNew h1 14 91 = h2 at F ⊢
  generalize gN h1 = r1 at F ⊢
  refine wp_dup rfl rfl rfl ?_
  obtain ⟨f1, F⟩ := F
  refine wp_callqV rfl rfl rfl (rcv_c f1) rfl rfl ?_
  refine CV.mono F (fun h3 F => ?_) (fun _ _ w => w)
  refine wp_astore (L2 := [some (vR a0), some (vR r0), some (vR r1), none, none, none, none]) rfl rfl rfl rfl ?_
  refine wp_const rfl rfl ?_
  refine wp_newJ (j := 1) rfl rfl (by decide) rfl ?_
  replace F := F _ _ rfl rfl
  generalize gNew h3 101 1 = h4 at F ⊢
  generalize gN h3 = r2 at F ⊢
  refine wp_astore (L2 := [some (vR a0), some (vR r0), some (vR r1), some (vR r2), none, none, none]) rfl rfl rfl rfl ?_
  refine wp_const rfl rfl ?_
  refine wp_istore (L2 := [some (vR a0), some (vR r0), some (vR r1), some (vR r2), some (vI 0), none, none]) rfl rfl rfl rfl ?_
  exact F
theorem w328_23 {d : Nat} {l0 : Nat} {l1 : Nat} {l2 : Nat} {l3 : Nat} {l4 : Int32} {h : aH} {K : Int32 → aH → Prop} {X : Nat → aH → Prop} (F : (100 ≤ gK h l0 ∧ gK h l0 ≤ 106) ∧ ((((nI (gL h l0)) - 7).toInt < l4.toInt → K 1 h) ∧ (¬ ((nI (gL h l0)) - 7).toInt < l4.toInt → ∃ i0 : Nat, inB h 105 l0 l4 i0 ∧ ((((gI h l0 i0) &&& 63).toInt = 0 → Wp (d + 1) 328 (208, [some (vR l0), some (vR l1), some (vR l2), some (vR l3), some (vI l4), none, none], [], h) (RI K X)) ∧ (((gI h l0 i0) &&& 63).toInt = 1 → Wp (d + 1) 328 (264, [some (vR l0), some (vR l1), some (vR l2), some (vR l3), some (vI l4), none, none], [], h) (RI K X)) ∧ (((gI h l0 i0) &&& 63).toInt = 2 → Wp (d + 1) 328 (308, [some (vR l0), some (vR l1), some (vR l2), some (vR l3), some (vI l4), none, none], [], h) (RI K X)) ∧ (((gI h l0 i0) &&& 63).toInt = 3 → Wp (d + 1) 328 (400, [some (vR l0), some (vR l1), some (vR l2), some (vR l3), some (vI l4), none, none], [], h) (RI K X)) ∧ (((gI h l0 i0) &&& 63).toInt = 4 → Wp (d + 1) 328 (468, [some (vR l0), some (vR l1), some (vR l2), some (vR l3), some (vI l4), none, none], [], h) (RI K X)) ∧ (((gI h l0 i0) &&& 63).toInt = 5 → Wp (d + 1) 328 (560, [some (vR l0), some (vR l1), some (vR l2), some (vR l3), some (vI l4), none, none], [], h) (RI K X)) ∧ (((gI h l0 i0) &&& 63).toInt = 6 → Wp (d + 1) 328 (616, [some (vR l0), some (vR l1), some (vR l2), some (vR l3), some (vI l4), none, none], [], h) (RI K X)) ∧ (((gI h l0 i0) &&& 63).toInt = 7 → Wp (d + 1) 328 (720, [some (vR l0), some (vR l1), some (vR l2), some (vR l3), some (vI l4), none, none], [], h) (RI K X)) ∧ (((gI h l0 i0) &&& 63).toInt = 8 → Wp (d + 1) 328 (776, [some (vR l0), some (vR l1), some (vR l2), some (vR l3), some (vI l4), none, none], [], h) (RI K X)) ∧ (((gI h l0 i0) &&& 63).toInt = 9 → Wp (d + 1) 328 (820, [some (vR l0), some (vR l1), some (vR l2), some (vR l3), some (vI l4), none, none], [], h) (RI K X)) ∧ (((gI h l0 i0) &&& 63).toInt = 10 → Wp (d + 1) 328 (900, [some (vR l0), some (vR l1), some (vR l2), some (vR l3), some (vI l4), none, none], [], h) (RI K X)) ∧ (((gI h l0 i0) &&& 63).toInt = 11 → Wp (d + 1) 328 (968, [some (vR l0), some (vR l1), some (vR l2), some (vR l3), some (vI l4), none, none], [], h) (RI K X)) ∧ (((gI h l0 i0) &&& 63).toInt = 12 → Wp (d + 1) 328 (1024, [some (vR l0), some (vR l1), some (vR l2), some (vR l3), some (vI l4), none, none], [], h) (RI K X)) ∧ (((gI h l0 i0) &&& 63).toInt = 13 → Wp (d + 1) 328 (1092, [some (vR l0), some (vR l1), some (vR l2), some (vR l3), some (vI l4), none, none], [], h) (RI K X)) ∧ (((gI h l0 i0) &&& 63).toInt = 14 → Wp (d + 1) 328 (1148, [some (vR l0), some (vR l1), some (vR l2), some (vR l3), some (vI l4), none, none], [], h) (RI K X)) ∧ (((gI h l0 i0) &&& 63).toInt = 15 → Wp (d + 1) 328 (1244, [some (vR l0), some (vR l1), some (vR l2), some (vR l3), some (vI l4), none, none], [], h) (RI K X)) ∧ (((gI h l0 i0) &&& 63).toInt = 16 → Wp (d + 1) 328 (1300, [some (vR l0), some (vR l1), some (vR l2), some (vR l3), some (vI l4), none, none], [], h) (RI K X)) ∧ (((gI h l0 i0) &&& 63).toInt = 17 → Wp (d + 1) 328 (1368, [some (vR l0), some (vR l1), some (vR l2), some (vR l3), some (vI l4), none, none], [], h) (RI K X)) ∧ (((gI h l0 i0) &&& 63).toInt = 18 → Wp (d + 1) 328 (1436, [some (vR l0), some (vR l1), some (vR l2), some (vR l3), some (vI l4), none, none], [], h) (RI K X)) ∧ (((gI h l0 i0) &&& 63).toInt = 19 → Wp (d + 1) 328 (1528, [some (vR l0), some (vR l1), some (vR l2), some (vR l3), some (vI l4), none, none], [], h) (RI K X)) ∧ (((gI h l0 i0) &&& 63).toInt = 20 → Wp (d + 1) 328 (1608, [some (vR l0), some (vR l1), some (vR l2), some (vR l3), some (vI l4), none, none], [], h) (RI K X)) ∧ (((gI h l0 i0) &&& 63).toInt = 21 → Wp (d + 1) 328 (1676, [some (vR l0), some (vR l1), some (vR l2), some (vR l3), some (vI l4), none, none], [], h) (RI K X)) ∧ (((gI h l0 i0) &&& 63).toInt = 22 → Wp (d + 1) 328 (1760, [some (vR l0), some (vR l1), some (vR l2), some (vR l3), some (vI l4), none, none], [], h) (RI K X)) ∧ (((gI h l0 i0) &&& 63).toInt = 23 → Wp (d + 1) 328 (1828, [some (vR l0), some (vR l1), some (vR l2), some (vR l3), some (vI l4), none, none], [], h) (RI K X)) ∧ (((gI h l0 i0) &&& 63).toInt = 24 → Wp (d + 1) 328 (1946, [some (vR l0), some (vR l1), some (vR l2), some (vR l3), some (vI l4), none, none], [], h) (RI K X)) ∧ (((gI h l0 i0) &&& 63).toInt = 25 → Wp (d + 1) 328 (2014, [some (vR l0), some (vR l1), some (vR l2), some (vR l3), some (vI l4), none, none], [], h) (RI K X)) ∧ (((gI h l0 i0) &&& 63).toInt = 26 → Wp (d + 1) 328 (2110, [some (vR l0), some (vR l1), some (vR l2), some (vR l3), some (vI l4), none, none], [], h) (RI K X)) ∧ (((gI h l0 i0) &&& 63).toInt = 27 → Wp (d + 1) 328 (2178, [some (vR l0), some (vR l1), some (vR l2), some (vR l3), some (vI l4), none, none], [], h) (RI K X)) ∧ (((gI h l0 i0) &&& 63).toInt = 28 → Wp (d + 1) 328 (2282, [some (vR l0), some (vR l1), some (vR l2), some (vR l3), some (vI l4), none, none], [], h) (RI K X)) ∧ (((gI h l0 i0) &&& 63).toInt = 29 → Wp (d + 1) 328 (2374, [some (vR l0), some (vR l1), some (vR l2), some (vR l3), some (vI l4), none, none], [], h) (RI K X)) ∧ (((gI h l0 i0) &&& 63).toInt = 30 → Wp (d + 1) 328 (2466, [some (vR l0), some (vR l1), some (vR l2), some (vR l3), some (vI l4), none, none], [], h) (RI K X)) ∧ (((gI h l0 i0) &&& 63).toInt = 31 → Wp (d + 1) 328 (2546, [some (vR l0), some (vR l1), some (vR l2), some (vR l3), some (vI l4), none, none], [], h) (RI K X)) ∧ (((gI h l0 i0) &&& 63).toInt = 32 → Wp (d + 1) 328 (2654, [some (vR l0), some (vR l1), some (vR l2), some (vR l3), some (vI l4), none, none], [], h) (RI K X)) ∧ (((gI h l0 i0) &&& 63).toInt = 33 → Wp (d + 1) 328 (2722, [some (vR l0), some (vR l1), some (vR l2), some (vR l3), some (vI l4), none, none], [], h) (RI K X)) ∧ (((gI h l0 i0) &&& 63).toInt = 34 → Wp (d + 1) 328 (2778, [some (vR l0), some (vR l1), some (vR l2), some (vR l3), some (vI l4), none, none], [], h) (RI K X)) ∧ (((gI h l0 i0) &&& 63).toInt = 35 → Wp (d + 1) 328 (2858, [some (vR l0), some (vR l1), some (vR l2), some (vR l3), some (vI l4), none, none], [], h) (RI K X)) ∧ (((gI h l0 i0) &&& 63).toInt = 36 → Wp (d + 1) 328 (2950, [some (vR l0), some (vR l1), some (vR l2), some (vR l3), some (vI l4), none, none], [], h) (RI K X)) ∧ (((gI h l0 i0) &&& 63).toInt = 37 → Wp (d + 1) 328 (3018, [some (vR l0), some (vR l1), some (vR l2), some (vR l3), some (vI l4), none, none], [], h) (RI K X)) ∧ ((¬ ((gI h l0 i0) &&& 63).toInt = 0 ∧ ¬ ((gI h l0 i0) &&& 63).toInt = 1 ∧ ¬ ((gI h l0 i0) &&& 63).toInt = 2 ∧ ¬ ((gI h l0 i0) &&& 63).toInt = 3 ∧ ¬ ((gI h l0 i0) &&& 63).toInt = 4 ∧ ¬ ((gI h l0 i0) &&& 63).toInt = 5 ∧ ¬ ((gI h l0 i0) &&& 63).toInt = 6 ∧ ¬ ((gI h l0 i0) &&& 63).toInt = 7 ∧ ¬ ((gI h l0 i0) &&& 63).toInt = 8 ∧ ¬ ((gI h l0 i0) &&& 63).toInt = 9 ∧ ¬ ((gI h l0 i0) &&& 63).toInt = 10 ∧ ¬ ((gI h l0 i0) &&& 63).toInt = 11 ∧ ¬ ((gI h l0 i0) &&& 63).toInt = 12 ∧ ¬ ((gI h l0 i0) &&& 63).toInt = 13 ∧ ¬ ((gI h l0 i0) &&& 63).toInt = 14 ∧ ¬ ((gI h l0 i0) &&& 63).toInt = 15 ∧ ¬ ((gI h l0 i0) &&& 63).toInt = 16 ∧ ¬ ((gI h l0 i0) &&& 63).toInt = 17 ∧ ¬ ((gI h l0 i0) &&& 63).toInt = 18 ∧ ¬ ((gI h l0 i0) &&& 63).toInt = 19 ∧ ¬ ((gI h l0 i0) &&& 63).toInt = 20 ∧ ¬ ((gI h l0 i0) &&& 63).toInt = 21 ∧ ¬ ((gI h l0 i0) &&& 63).toInt = 22 ∧ ¬ ((gI h l0 i0) &&& 63).toInt = 23 ∧ ¬ ((gI h l0 i0) &&& 63).toInt = 24 ∧ ¬ ((gI h l0 i0) &&& 63).toInt = 25 ∧ ¬ ((gI h l0 i0) &&& 63).toInt = 26 ∧ ¬ ((gI h l0 i0) &&& 63).toInt = 27 ∧ ¬ ((gI h l0 i0) &&& 63).toInt = 28 ∧ ¬ ((gI h l0 i0) &&& 63).toInt = 29 ∧ ¬ ((gI h l0 i0) &&& 63).toInt = 30 ∧ ¬ ((gI h l0 i0) &&& 63).toInt = 31 ∧ ¬ ((gI h l0 i0) &&& 63).toInt = 32 ∧ ¬ ((gI h l0 i0) &&& 63).toInt = 33 ∧ ¬ ((gI h l0 i0) &&& 63).toInt = 34 ∧ ¬ ((gI h l0 i0) &&& 63).toInt = 35 ∧ ¬ ((gI h l0 i0) &&& 63).toInt = 36 ∧ ¬ ((gI h l0 i0) &&& 63).toInt = 37) → Wp (d + 1) 328 (3074, [some (vR l0), some (vR l1), some (vR l2), some (vR l3), some (vI l4), none, none], [], h) (RI K X)))))) : Wp (d + 1) 328 (23, [some (vR l0), some (vR l1), some (vR l2), some (vR l3), some (vI l4), none, none], [], h) (RI K X) := by
  refine wp_iload' (L' := [some (vR l0), some (vR l1), some (vR l2), some (vR l3), some (vI l4), none, none]) rfl rfl rfl rfl ?_
  refine wp_aload rfl rfl rfl ?_
  obtain ⟨f0, F⟩ := F
  refine wp_alen rfl f0 rfl ?_
  refine wp_const rfl rfl ?_
  refine wp_isub rfl rfl ?_
  refine wp_icmp_gt rfl rfl rfl rfl rfl (fun c => ?_) (fun c => ?_)
  · replace F := F.1 c
    refine wp_const' (L' := [none, none, none, none, none, none, none]) rfl rfl rfl ?_
    exact wp_retI rfl (Or.inr rfl) F
  · replace F := F.2 c
    refine wp_aload rfl rfl rfl ?_
    refine wp_iload rfl rfl rfl ?_
    obtain ⟨i0, b9, F⟩ := F
    refine wp_saload rfl b9 rfl ?_
    refine wp_const rfl rfl ?_
    refine wp_iand rfl rfl ?_
    by_cases c0 : ((gI h l0 i0) &&& 63).toInt = 0
    · refine wp_tsw (t := 208) rfl (by unfold aSw; rw [c0]; rfl) ?_
      replace F := F.1 c0
      exact F
    by_cases c1 : ((gI h l0 i0) &&& 63).toInt = 1
    · refine wp_tsw (t := 264) rfl (by unfold aSw; rw [c1]; rfl) ?_
      replace F := F.2.1 c1
      exact F
    by_cases c2 : ((gI h l0 i0) &&& 63).toInt = 2
    · refine wp_tsw (t := 308) rfl (by unfold aSw; rw [c2]; rfl) ?_
      replace F := F.2.2.1 c2
      exact F
    by_cases c3 : ((gI h l0 i0) &&& 63).toInt = 3
    · refine wp_tsw (t := 400) rfl (by unfold aSw; rw [c3]; rfl) ?_
      replace F := F.2.2.2.1 c3
      exact F
    by_cases c4 : ((gI h l0 i0) &&& 63).toInt = 4
    · refine wp_tsw (t := 468) rfl (by unfold aSw; rw [c4]; rfl) ?_
      replace F := F.2.2.2.2.1 c4
      exact F
    by_cases c5 : ((gI h l0 i0) &&& 63).toInt = 5
    · refine wp_tsw (t := 560) rfl (by unfold aSw; rw [c5]; rfl) ?_
      replace F := F.2.2.2.2.2.1 c5
      exact F
    by_cases c6 : ((gI h l0 i0) &&& 63).toInt = 6
    · refine wp_tsw (t := 616) rfl (by unfold aSw; rw [c6]; rfl) ?_
      replace F := F.2.2.2.2.2.2.1 c6
      exact F
    by_cases c7 : ((gI h l0 i0) &&& 63).toInt = 7
    · refine wp_tsw (t := 720) rfl (by unfold aSw; rw [c7]; rfl) ?_
      replace F := F.2.2.2.2.2.2.2.1 c7
      exact F
    by_cases c8 : ((gI h l0 i0) &&& 63).toInt = 8
    · refine wp_tsw (t := 776) rfl (by unfold aSw; rw [c8]; rfl) ?_
      replace F := F.2.2.2.2.2.2.2.2.1 c8
      exact F
    by_cases c9 : ((gI h l0 i0) &&& 63).toInt = 9
    · refine wp_tsw (t := 820) rfl (by unfold aSw; rw [c9]; rfl) ?_
      replace F := F.2.2.2.2.2.2.2.2.2.1 c9
      exact F
    by_cases c10 : ((gI h l0 i0) &&& 63).toInt = 10
    · refine wp_tsw (t := 900) rfl (by unfold aSw; rw [c10]; rfl) ?_
      replace F := F.2.2.2.2.2.2.2.2.2.2.1 c10
      exact F
    by_cases c11 : ((gI h l0 i0) &&& 63).toInt = 11
    · refine wp_tsw (t := 968) rfl (by unfold aSw; rw [c11]; rfl) ?_
      replace F := F.2.2.2.2.2.2.2.2.2.2.2.1 c11
      exact F
    by_cases c12 : ((gI h l0 i0) &&& 63).toInt = 12
    · refine wp_tsw (t := 1024) rfl (by unfold aSw; rw [c12]; rfl) ?_
      replace F := F.2.2.2.2.2.2.2.2.2.2.2.2.1 c12
      exact F
    by_cases c13 : ((gI h l0 i0) &&& 63).toInt = 13
    · refine wp_tsw (t := 1092) rfl (by unfold aSw; rw [c13]; rfl) ?_
      replace F := F.2.2.2.2.2.2.2.2.2.2.2.2.2.1 c13
      exact F
    by_cases c14 : ((gI h l0 i0) &&& 63).toInt = 14
    · refine wp_tsw (t := 1148) rfl (by unfold aSw; rw [c14]; rfl) ?_
      replace F := F.2.2.2.2.2.2.2.2.2.2.2.2.2.2.1 c14
      exact F
    by_cases c15 : ((gI h l0 i0) &&& 63).toInt = 15
    · refine wp_tsw (t := 1244) rfl (by unfold aSw; rw [c15]; rfl) ?_
      replace F := F.2.2.2.2.2.2.2.2.2.2.2.2.2.2.2.1 c15
      exact F
    by_cases c16 : ((gI h l0 i0) &&& 63).toInt = 16
    · refine wp_tsw (t := 1300) rfl (by unfold aSw; rw [c16]; rfl) ?_
      replace F := F.2.2.2.2.2.2.2.2.2.2.2.2.2.2.2.2.1 c16
      exact F
    by_cases c17 : ((gI h l0 i0) &&& 63).toInt = 17
    · refine wp_tsw (t := 1368) rfl (by unfold aSw; rw [c17]; rfl) ?_
      replace F := F.2.2.2.2.2.2.2.2.2.2.2.2.2.2.2.2.2.1 c17
      exact F
    by_cases c18 : ((gI h l0 i0) &&& 63).toInt = 18
    · refine wp_tsw (t := 1436) rfl (by unfold aSw; rw [c18]; rfl) ?_
      replace F := F.2.2.2.2.2.2.2.2.2.2.2.2.2.2.2.2.2.2.1 c18
      exact F
    by_cases c19 : ((gI h l0 i0) &&& 63).toInt = 19
    · refine wp_tsw (t := 1528) rfl (by unfold aSw; rw [c19]; rfl) ?_
      replace F := F.2.2.2.2.2.2.2.2.2.2.2.2.2.2.2.2.2.2.2.1 c19
      exact F
    by_cases c20 : ((gI h l0 i0) &&& 63).toInt = 20
    · refine wp_tsw (t := 1608) rfl (by unfold aSw; rw [c20]; rfl) ?_
      replace F := F.2.2.2.2.2.2.2.2.2.2.2.2.2.2.2.2.2.2.2.2.1 c20
      exact F
    by_cases c21 : ((gI h l0 i0) &&& 63).toInt = 21
    · refine wp_tsw (t := 1676) rfl (by unfold aSw; rw [c21]; rfl) ?_
      replace F := F.2.2.2.2.2.2.2.2.2.2.2.2.2.2.2.2.2.2.2.2.2.1 c21
      exact F
    by_cases c22 : ((gI h l0 i0) &&& 63).toInt = 22
    · refine wp_tsw (t := 1760) rfl (by unfold aSw; rw [c22]; rfl) ?_
      replace F := F.2.2.2.2.2.2.2.2.2.2.2.2.2.2.2.2.2.2.2.2.2.2.1 c22
      exact F
    by_cases c23 : ((gI h l0 i0) &&& 63).toInt = 23
    · refine wp_tsw (t := 1828) rfl (by unfold aSw; rw [c23]; rfl) ?_
      replace F := F.2.2.2.2.2.2.2.2.2.2.2.2.2.2.2.2.2.2.2.2.2.2.2.1 c23
      exact F
    by_cases c24 : ((gI h l0 i0) &&& 63).toInt = 24
    · refine wp_tsw (t := 1946) rfl (by unfold aSw; rw [c24]; rfl) ?_
      replace F := F.2.2.2.2.2.2.2.2.2.2.2.2.2.2.2.2.2.2.2.2.2.2.2.2.1 c24
      exact F
    by_cases c25 : ((gI h l0 i0) &&& 63).toInt = 25
    · refine wp_tsw (t := 2014) rfl (by unfold aSw; rw [c25]; rfl) ?_
      replace F := F.2.2.2.2.2.2.2.2.2.2.2.2.2.2.2.2.2.2.2.2.2.2.2.2.2.1 c25
      exact F
    by_cases c26 : ((gI h l0 i0) &&& 63).toInt = 26
    · refine wp_tsw (t := 2110) rfl (by unfold aSw; rw [c26]; rfl) ?_
      replace F := F.2.2.2.2.2.2.2.2.2.2.2.2.2.2.2.2.2.2.2.2.2.2.2.2.2.2.1 c26
      exact F
    by_cases c27 : ((gI h l0 i0) &&& 63).toInt = 27
    · refine wp_tsw (t := 2178) rfl (by unfold aSw; rw [c27]; rfl) ?_
      replace F := F.2.2.2.2.2.2.2.2.2.2.2.2.2.2.2.2.2.2.2.2.2.2.2.2.2.2.2.1 c27
      exact F
    by_cases c28 : ((gI h l0 i0) &&& 63).toInt = 28
    · refine wp_tsw (t := 2282) rfl (by unfold aSw; rw [c28]; rfl) ?_
      replace F := F.2.2.2.2.2.2.2.2.2.2.2.2.2.2.2.2.2.2.2.2.2.2.2.2.2.2.2.2.1 c28
      exact F
    by_cases c29 : ((gI h l0 i0) &&& 63).toInt = 29
    · refine wp_tsw (t := 2374) rfl (by unfold aSw; rw [c29]; rfl) ?_
      replace F := F.2.2.2.2.2.2.2.2.2.2.2.2.2.2.2.2.2.2.2.2.2.2.2.2.2.2.2.2.2.1 c29
      exact F
    by_cases c30 : ((gI h l0 i0) &&& 63).toInt = 30
    · refine wp_tsw (t := 2466) rfl (by unfold aSw; rw [c30]; rfl) ?_
      replace F := F.2.2.2.2.2.2.2.2.2.2.2.2.2.2.2.2.2.2.2.2.2.2.2.2.2.2.2.2.2.2.1 c30
      exact F
    by_cases c31 : ((gI h l0 i0) &&& 63).toInt = 31
    · refine wp_tsw (t := 2546) rfl (by unfold aSw; rw [c31]; rfl) ?_
      replace F := F.2.2.2.2.2.2.2.2.2.2.2.2.2.2.2.2.2.2.2.2.2.2.2.2.2.2.2.2.2.2.2.1 c31
      exact F
    by_cases c32 : ((gI h l0 i0) &&& 63).toInt = 32
    · refine wp_tsw (t := 2654) rfl (by unfold aSw; rw [c32]; rfl) ?_
      replace F := F.2.2.2.2.2.2.2.2.2.2.2.2.2.2.2.2.2.2.2.2.2.2.2.2.2.2.2.2.2.2.2.2.1 c32
      exact F
    by_cases c33 : ((gI h l0 i0) &&& 63).toInt = 33
    · refine wp_tsw (t := 2722) rfl (by unfold aSw; rw [c33]; rfl) ?_
      replace F := F.2.2.2.2.2.2.2.2.2.2.2.2.2.2.2.2.2.2.2.2.2.2.2.2.2.2.2.2.2.2.2.2.2.1 c33
      exact F
    by_cases c34 : ((gI h l0 i0) &&& 63).toInt = 34
    · refine wp_tsw (t := 2778) rfl (by unfold aSw; rw [c34]; rfl) ?_
      replace F := F.2.2.2.2.2.2.2.2.2.2.2.2.2.2.2.2.2.2.2.2.2.2.2.2.2.2.2.2.2.2.2.2.2.2.1 c34
      exact F
    by_cases c35 : ((gI h l0 i0) &&& 63).toInt = 35
    · refine wp_tsw (t := 2858) rfl (by unfold aSw; rw [c35]; rfl) ?_
      replace F := F.2.2.2.2.2.2.2.2.2.2.2.2.2.2.2.2.2.2.2.2.2.2.2.2.2.2.2.2.2.2.2.2.2.2.2.1 c35
      exact F
    by_cases c36 : ((gI h l0 i0) &&& 63).toInt = 36
    · refine wp_tsw (t := 2950) rfl (by unfold aSw; rw [c36]; rfl) ?_
      replace F := F.2.2.2.2.2.2.2.2.2.2.2.2.2.2.2.2.2.2.2.2.2.2.2.2.2.2.2.2.2.2.2.2.2.2.2.2.1 c36
      exact F
    by_cases c37 : ((gI h l0 i0) &&& 63).toInt = 37
    · refine wp_tsw (t := 3018) rfl (by unfold aSw; rw [c37]; rfl) ?_
      replace F := F.2.2.2.2.2.2.2.2.2.2.2.2.2.2.2.2.2.2.2.2.2.2.2.2.2.2.2.2.2.2.2.2.2.2.2.2.2.1 c37
      exact F
    refine wp_tsw (t := 3074) rfl (by unfold aSw; rw [if_pos (by omega)]; rfl) ?_
    replace F := F.2.2.2.2.2.2.2.2.2.2.2.2.2.2.2.2.2.2.2.2.2.2.2.2.2.2.2.2.2.2.2.2.2.2.2.2.2.2 ⟨c0, c1, c2, c3, c4, c5, c6, c7, c8, c9, c10, c11, c12, c13, c14, c15, c16, c17, c18, c19, c20, c21, c22, c23, c24, c25, c26, c27, c28, c29, c30, c31, c32, c33, c34, c35, c36, c37⟩
    exact F
theorem w328_208 {d : Nat} {l0 : Nat} {l1 : Nat} {l2 : Nat} {l3 : Nat} {l4 : Int32} {h : aH} {K : Int32 → aH → Prop} {X : Nat → aH → Prop} (F : ∃ i0 : Nat, inB h 105 l0 (l4 + 1) i0 ∧ CI d 13 [vR l1, vI (gI h l0 i0), vR l3] h (fun y0 h0 => ∃ i1 : Nat, inB h0 105 l0 (l4 + 1) i1 ∧ 8 ≤ l2 ∧ gK h0 l2 = 14 ∧ CI d 16 [vR l2, vI (gI h0 l0 i1)] h0 (fun y1 h1 => gK h1 l2 = 14 ∧ CI d 17 [vR l2] h1 (fun y2 h2 => ((y2.toInt = y0.toInt → ((y0.toInt = 0 → inB h2 101 l3 0 0 ∧ (((gJ h2 l3 0).toInt = (y1.toInt64).toInt → Wp (d + 1) 328 (3074, [some (vR l0), some (vR l1), some (vR l2), some (vR l3), some (vI l4), none, none], [], h2) (RI K X)) ∧ (¬ (gJ h2 l3 0).toInt = (y1.toInt64).toInt → K 0 h2))) ∧ (¬ y0.toInt = 0 → Wp (d + 1) 328 (3074, [some (vR l0), some (vR l1), some (vR l2), some (vR l3), some (vI l4), none, none], [], h2) (RI K X)))) ∧ (¬ y2.toInt = y0.toInt → K 0 h2))) X) X) X) : Wp (d + 1) 328 (208, [some (vR l0), some (vR l1), some (vR l2), some (vR l3), some (vI l4), none, none], [], h) (RI K X) := by
  refine wp_aload rfl rfl rfl ?_
  refine wp_aload rfl rfl rfl ?_
  refine wp_iload rfl rfl rfl ?_
  refine wp_const rfl rfl ?_
  refine wp_iadd rfl rfl ?_
  obtain ⟨i0, b9, F⟩ := F
  refine wp_saload rfl b9 rfl ?_
  refine wp_aload rfl rfl rfl ?_
  refine wp_callI rfl rfl rfl rfl rfl rfl rfl rfl ?_
  refine CI.mono F (fun y0 h0 F => ?_) (fun _ _ w => rx_I w)
  refine wp_istore (L2 := [some (vR l0), some (vR l1), some (vR l2), some (vR l3), some (vI l4), some (vI y0), none]) rfl rfl rfl rfl ?_
  refine wp_aload rfl rfl rfl ?_
  refine wp_aload rfl rfl rfl ?_
  refine wp_iload rfl rfl rfl ?_
  refine wp_const rfl rfl ?_
  refine wp_iadd rfl rfl ?_
  obtain ⟨i1, b9, F⟩ := F
  refine wp_saload rfl b9 rfl ?_
  obtain ⟨f0, F⟩ := F
  obtain ⟨f1, F⟩ := F
  refine wp_callI rfl rfl rfl (rcv_v f0 f1 (by decide) (by decide)) rfl rfl rfl rfl ?_
  refine CI.mono F (fun y1 h1 F => ?_) (fun _ _ w => rx_I w)
  refine wp_istore (L2 := [some (vR l0), some (vR l1), some (vR l2), some (vR l3), some (vI l4), some (vI y0), some (vI y1)]) rfl rfl rfl rfl ?_
  refine wp_aload rfl rfl rfl ?_
  obtain ⟨f2, F⟩ := F
  refine wp_callI rfl rfl rfl (rcv_v f0 f2 (by decide) (by decide)) rfl rfl rfl rfl ?_
  refine CI.mono F (fun y2 h2 F => ?_) (fun _ _ w => rx_I w)
  refine wp_iload rfl rfl rfl ?_
  refine wp_icmp_eq rfl rfl rfl rfl rfl (fun c => ?_) (fun c => ?_)
  · replace F := F.1 c
    refine wp_iload rfl rfl rfl ?_
    refine wp_if_ne rfl rfl rfl rfl (fun c => ?_) (fun c => ?_)
    · replace F := F.1 c
      refine wp_aload rfl rfl rfl ?_
      refine wp_const rfl rfl ?_
      refine wp_laload rfl F.1 rfl ?_
      replace F := F.2
      refine wp_iload rfl rfl rfl ?_
      refine wp_i2l rfl rfl ?_
      refine wp_lcmp_eq rfl rfl rfl rfl rfl rfl rfl (fun c => ?_) (fun c => ?_)
      · replace F := F.1 c
        refine wp_goto' (L' := [some (vR l0), some (vR l1), some (vR l2), some (vR l3), some (vI l4), none, none]) rfl rfl rfl ?_
        exact F
      · replace F := F.2 c
        refine wp_const rfl rfl ?_
        exact wp_retI rfl (Or.inr rfl) F
    · replace F := F.2 c
      refine wp_goto' (L' := [some (vR l0), some (vR l1), some (vR l2), some (vR l3), some (vI l4), none, none]) rfl rfl rfl ?_
      exact F
  · replace F := F.2 c
    refine wp_const rfl rfl ?_
    exact wp_retI rfl (Or.inr rfl) F
theorem w328_264 {d : Nat} {l0 : Nat} {l1 : Nat} {l2 : Nat} {l3 : Nat} {l4 : Int32} {h : aH} {K : Int32 → aH → Prop} {X : Nat → aH → Prop} (F : CI d 26 [vR l1, vR l3] h (fun y0 h0 => 8 ≤ l2 ∧ gK h0 l2 = 14 ∧ CI d 27 [vR l2] h0 (fun y1 h1 => gK h1 l2 = 14 ∧ CI d 17 [vR l2] h1 (fun y2 h2 => ((y2.toInt = y0.toInt → ((y0.toInt = 0 → inB h2 101 l3 0 0 ∧ (((gJ h2 l3 0).toInt = (y1.toInt64).toInt → Wp (d + 1) 328 (3074, [some (vR l0), some (vR l1), some (vR l2), some (vR l3), some (vI l4), none, none], [], h2) (RI K X)) ∧ (¬ (gJ h2 l3 0).toInt = (y1.toInt64).toInt → K 0 h2))) ∧ (¬ y0.toInt = 0 → Wp (d + 1) 328 (3074, [some (vR l0), some (vR l1), some (vR l2), some (vR l3), some (vI l4), none, none], [], h2) (RI K X)))) ∧ (¬ y2.toInt = y0.toInt → K 0 h2))) X) X) X) : Wp (d + 1) 328 (264, [some (vR l0), some (vR l1), some (vR l2), some (vR l3), some (vI l4), none, none], [], h) (RI K X) := by
  refine wp_aload' (L' := [some (vR l0), some (vR l1), some (vR l2), some (vR l3), some (vI l4), none, none]) rfl rfl rfl rfl ?_
  refine wp_aload rfl rfl rfl ?_
  refine wp_callI rfl rfl rfl rfl rfl rfl rfl rfl ?_
  refine CI.mono F (fun y0 h0 F => ?_) (fun _ _ w => rx_I w)
  refine wp_istore (L2 := [some (vR l0), some (vR l1), some (vR l2), some (vR l3), some (vI l4), some (vI y0), none]) rfl rfl rfl rfl ?_
  refine wp_aload rfl rfl rfl ?_
  obtain ⟨f0, F⟩ := F
  obtain ⟨f1, F⟩ := F
  refine wp_callI rfl rfl rfl (rcv_v f0 f1 (by decide) (by decide)) rfl rfl rfl rfl ?_
  refine CI.mono F (fun y1 h1 F => ?_) (fun _ _ w => rx_I w)
  refine wp_istore (L2 := [some (vR l0), some (vR l1), some (vR l2), some (vR l3), some (vI l4), some (vI y0), some (vI y1)]) rfl rfl rfl rfl ?_
  refine wp_aload rfl rfl rfl ?_
  obtain ⟨f2, F⟩ := F
  refine wp_callI rfl rfl rfl (rcv_v f0 f2 (by decide) (by decide)) rfl rfl rfl rfl ?_
  refine CI.mono F (fun y2 h2 F => ?_) (fun _ _ w => rx_I w)
  refine wp_iload rfl rfl rfl ?_
  refine wp_icmp_eq rfl rfl rfl rfl rfl (fun c => ?_) (fun c => ?_)
  · replace F := F.1 c
    refine wp_iload rfl rfl rfl ?_
    refine wp_if_ne rfl rfl rfl rfl (fun c => ?_) (fun c => ?_)
    · replace F := F.1 c
      refine wp_aload rfl rfl rfl ?_
      refine wp_const rfl rfl ?_
      refine wp_laload rfl F.1 rfl ?_
      replace F := F.2
      refine wp_iload rfl rfl rfl ?_
      refine wp_i2l rfl rfl ?_
      refine wp_lcmp_eq rfl rfl rfl rfl rfl rfl rfl (fun c => ?_) (fun c => ?_)
      · replace F := F.1 c
        refine wp_goto' (L' := [some (vR l0), some (vR l1), some (vR l2), some (vR l3), some (vI l4), none, none]) rfl rfl rfl ?_
        exact F
      · replace F := F.2 c
        refine wp_const rfl rfl ?_
        exact wp_retI rfl (Or.inr rfl) F
    · replace F := F.2 c
      refine wp_goto' (L' := [some (vR l0), some (vR l1), some (vR l2), some (vR l3), some (vI l4), none, none]) rfl rfl rfl ?_
      exact F
  · replace F := F.2 c
    refine wp_const rfl rfl ?_
    exact wp_retI rfl (Or.inr rfl) F
theorem w328_308 {d : Nat} {l0 : Nat} {l1 : Nat} {l2 : Nat} {l3 : Nat} {l4 : Int32} {h : aH} {K : Int32 → aH → Prop} {X : Nat → aH → Prop} (F : ∃ i0 : Nat, inB h 105 l0 (l4 + 1) i0 ∧ ∃ i1 : Nat, inB h 105 l0 (l4 + 2) i1 ∧ ∃ i2 : Nat, inB h 105 l0 (l4 + 3) i2 ∧ ∃ i3 : Nat, inB h 105 l0 (l4 + 4) i3 ∧ CI d 38 [vR l1, vI (gI h l0 i0), vI (gI h l0 i1), vI (gI h l0 i2), vI (gI h l0 i3), vR l3] h (fun y0 h0 => ∃ i4 : Nat, inB h0 105 l0 (l4 + 1) i4 ∧ ∃ i5 : Nat, inB h0 105 l0 (l4 + 2) i5 ∧ ∃ i6 : Nat, inB h0 105 l0 (l4 + 3) i6 ∧ ∃ i7 : Nat, inB h0 105 l0 (l4 + 4) i7 ∧ 8 ≤ l2 ∧ gK h0 l2 = 14 ∧ CI d 41 [vR l2, vI (gI h0 l0 i4), vI (gI h0 l0 i5), vI (gI h0 l0 i6), vI (gI h0 l0 i7)] h0 (fun y1 h1 => gK h1 l2 = 14 ∧ CI d 17 [vR l2] h1 (fun y2 h2 => ((y2.toInt = y0.toInt → ((y0.toInt = 0 → inB h2 101 l3 0 0 ∧ (((gJ h2 l3 0).toInt = (y1.toInt64).toInt → Wp (d + 1) 328 (3074, [some (vR l0), some (vR l1), some (vR l2), some (vR l3), some (vI l4), none, none], [], h2) (RI K X)) ∧ (¬ (gJ h2 l3 0).toInt = (y1.toInt64).toInt → K 0 h2))) ∧ (¬ y0.toInt = 0 → Wp (d + 1) 328 (3074, [some (vR l0), some (vR l1), some (vR l2), some (vR l3), some (vI l4), none, none], [], h2) (RI K X)))) ∧ (¬ y2.toInt = y0.toInt → K 0 h2))) X) X) X) : Wp (d + 1) 328 (308, [some (vR l0), some (vR l1), some (vR l2), some (vR l3), some (vI l4), none, none], [], h) (RI K X) := by
  refine wp_aload' (L' := [some (vR l0), some (vR l1), some (vR l2), some (vR l3), some (vI l4), none, none]) rfl rfl rfl rfl ?_
  refine wp_aload rfl rfl rfl ?_
  refine wp_iload rfl rfl rfl ?_
  refine wp_const rfl rfl ?_
  refine wp_iadd rfl rfl ?_
  obtain ⟨i0, b9, F⟩ := F
  refine wp_saload rfl b9 rfl ?_
  refine wp_aload rfl rfl rfl ?_
  refine wp_iload rfl rfl rfl ?_
  refine wp_const rfl rfl ?_
  refine wp_iadd rfl rfl ?_
  obtain ⟨i1, b9, F⟩ := F
  refine wp_saload rfl b9 rfl ?_
  refine wp_aload rfl rfl rfl ?_
  refine wp_iload rfl rfl rfl ?_
  refine wp_const rfl rfl ?_
  refine wp_iadd rfl rfl ?_
  obtain ⟨i2, b9, F⟩ := F
  refine wp_saload rfl b9 rfl ?_
  refine wp_aload rfl rfl rfl ?_
  refine wp_iload rfl rfl rfl ?_
  refine wp_const rfl rfl ?_
  refine wp_iadd rfl rfl ?_
  obtain ⟨i3, b9, F⟩ := F
  refine wp_saload rfl b9 rfl ?_
  refine wp_aload rfl rfl rfl ?_
  refine wp_callI rfl rfl rfl rfl rfl rfl rfl rfl ?_
  refine CI.mono F (fun y0 h0 F => ?_) (fun _ _ w => rx_I w)
  refine wp_istore (L2 := [some (vR l0), some (vR l1), some (vR l2), some (vR l3), some (vI l4), some (vI y0), none]) rfl rfl rfl rfl ?_
  refine wp_aload rfl rfl rfl ?_
  refine wp_aload rfl rfl rfl ?_
  refine wp_iload rfl rfl rfl ?_
  refine wp_const rfl rfl ?_
  refine wp_iadd rfl rfl ?_
  obtain ⟨i4, b9, F⟩ := F
  refine wp_saload rfl b9 rfl ?_
  refine wp_aload rfl rfl rfl ?_
  refine wp_iload rfl rfl rfl ?_
  refine wp_const rfl rfl ?_
  refine wp_iadd rfl rfl ?_
  obtain ⟨i5, b9, F⟩ := F
  refine wp_saload rfl b9 rfl ?_
  refine wp_aload rfl rfl rfl ?_
  refine wp_iload rfl rfl rfl ?_
  refine wp_const rfl rfl ?_
  refine wp_iadd rfl rfl ?_
  obtain ⟨i6, b9, F⟩ := F
  refine wp_saload rfl b9 rfl ?_
  refine wp_aload rfl rfl rfl ?_
  refine wp_iload rfl rfl rfl ?_
  refine wp_const rfl rfl ?_
  refine wp_iadd rfl rfl ?_
  obtain ⟨i7, b9, F⟩ := F
  refine wp_saload rfl b9 rfl ?_
  obtain ⟨f0, F⟩ := F
  obtain ⟨f1, F⟩ := F
  refine wp_callI rfl rfl rfl (rcv_v f0 f1 (by decide) (by decide)) rfl rfl rfl rfl ?_
  refine CI.mono F (fun y1 h1 F => ?_) (fun _ _ w => rx_I w)
  refine wp_istore (L2 := [some (vR l0), some (vR l1), some (vR l2), some (vR l3), some (vI l4), some (vI y0), some (vI y1)]) rfl rfl rfl rfl ?_
  refine wp_aload rfl rfl rfl ?_
  obtain ⟨f2, F⟩ := F
  refine wp_callI rfl rfl rfl (rcv_v f0 f2 (by decide) (by decide)) rfl rfl rfl rfl ?_
  refine CI.mono F (fun y2 h2 F => ?_) (fun _ _ w => rx_I w)
  refine wp_iload rfl rfl rfl ?_
  refine wp_icmp_eq rfl rfl rfl rfl rfl (fun c => ?_) (fun c => ?_)
  · replace F := F.1 c
    refine wp_iload rfl rfl rfl ?_
    refine wp_if_ne rfl rfl rfl rfl (fun c => ?_) (fun c => ?_)
    · replace F := F.1 c
      refine wp_aload rfl rfl rfl ?_
      refine wp_const rfl rfl ?_
      refine wp_laload rfl F.1 rfl ?_
      replace F := F.2
      refine wp_iload rfl rfl rfl ?_
      refine wp_i2l rfl rfl ?_
      refine wp_lcmp_eq rfl rfl rfl rfl rfl rfl rfl (fun c => ?_) (fun c => ?_)
      · replace F := F.1 c
        refine wp_goto' (L' := [some (vR l0), some (vR l1), some (vR l2), some (vR l3), some (vI l4), none, none]) rfl rfl rfl ?_
        exact F
      · replace F := F.2 c
        refine wp_const rfl rfl ?_
        exact wp_retI rfl (Or.inr rfl) F
    · replace F := F.2 c
      refine wp_goto' (L' := [some (vR l0), some (vR l1), some (vR l2), some (vR l3), some (vI l4), none, none]) rfl rfl rfl ?_
      exact F
  · replace F := F.2 c
    refine wp_const rfl rfl ?_
    exact wp_retI rfl (Or.inr rfl) F
theorem w328_400 {d : Nat} {l0 : Nat} {l1 : Nat} {l2 : Nat} {l3 : Nat} {l4 : Int32} {h : aH} {K : Int32 → aH → Prop} {X : Nat → aH → Prop} (F : ∃ i0 : Nat, inB h 105 l0 (l4 + 1) i0 ∧ ∃ i1 : Nat, inB h 105 l0 (l4 + 2) i1 ∧ CI d 45 [vR l1, vI (gI h l0 i0), vI (gI h l0 i1), vR l3] h (fun y0 h0 => ∃ i2 : Nat, inB h0 105 l0 (l4 + 1) i2 ∧ ∃ i3 : Nat, inB h0 105 l0 (l4 + 2) i3 ∧ 8 ≤ l2 ∧ gK h0 l2 = 14 ∧ CI d 47 [vR l2, vI (gI h0 l0 i2), vI (gI h0 l0 i3)] h0 (fun y1 h1 => gK h1 l2 = 14 ∧ CI d 17 [vR l2] h1 (fun y2 h2 => ((y2.toInt = y0.toInt → ((y0.toInt = 0 → inB h2 101 l3 0 0 ∧ (((gJ h2 l3 0).toInt = (y1.toInt64).toInt → Wp (d + 1) 328 (3074, [some (vR l0), some (vR l1), some (vR l2), some (vR l3), some (vI l4), none, none], [], h2) (RI K X)) ∧ (¬ (gJ h2 l3 0).toInt = (y1.toInt64).toInt → K 0 h2))) ∧ (¬ y0.toInt = 0 → Wp (d + 1) 328 (3074, [some (vR l0), some (vR l1), some (vR l2), some (vR l3), some (vI l4), none, none], [], h2) (RI K X)))) ∧ (¬ y2.toInt = y0.toInt → K 0 h2))) X) X) X) : Wp (d + 1) 328 (400, [some (vR l0), some (vR l1), some (vR l2), some (vR l3), some (vI l4), none, none], [], h) (RI K X) := by
  refine wp_aload' (L' := [some (vR l0), some (vR l1), some (vR l2), some (vR l3), some (vI l4), none, none]) rfl rfl rfl rfl ?_
  refine wp_aload rfl rfl rfl ?_
  refine wp_iload rfl rfl rfl ?_
  refine wp_const rfl rfl ?_
  refine wp_iadd rfl rfl ?_
  obtain ⟨i0, b9, F⟩ := F
  refine wp_saload rfl b9 rfl ?_
  refine wp_aload rfl rfl rfl ?_
  refine wp_iload rfl rfl rfl ?_
  refine wp_const rfl rfl ?_
  refine wp_iadd rfl rfl ?_
  obtain ⟨i1, b9, F⟩ := F
  refine wp_saload rfl b9 rfl ?_
  refine wp_aload rfl rfl rfl ?_
  refine wp_callI rfl rfl rfl rfl rfl rfl rfl rfl ?_
  refine CI.mono F (fun y0 h0 F => ?_) (fun _ _ w => rx_I w)
  refine wp_istore (L2 := [some (vR l0), some (vR l1), some (vR l2), some (vR l3), some (vI l4), some (vI y0), none]) rfl rfl rfl rfl ?_
  refine wp_aload rfl rfl rfl ?_
  refine wp_aload rfl rfl rfl ?_
  refine wp_iload rfl rfl rfl ?_
  refine wp_const rfl rfl ?_
  refine wp_iadd rfl rfl ?_
  obtain ⟨i2, b9, F⟩ := F
  refine wp_saload rfl b9 rfl ?_
  refine wp_aload rfl rfl rfl ?_
  refine wp_iload rfl rfl rfl ?_
  refine wp_const rfl rfl ?_
  refine wp_iadd rfl rfl ?_
  obtain ⟨i3, b9, F⟩ := F
  refine wp_saload rfl b9 rfl ?_
  obtain ⟨f0, F⟩ := F
  obtain ⟨f1, F⟩ := F
  refine wp_callI rfl rfl rfl (rcv_v f0 f1 (by decide) (by decide)) rfl rfl rfl rfl ?_
  refine CI.mono F (fun y1 h1 F => ?_) (fun _ _ w => rx_I w)
  refine wp_istore (L2 := [some (vR l0), some (vR l1), some (vR l2), some (vR l3), some (vI l4), some (vI y0), some (vI y1)]) rfl rfl rfl rfl ?_
  refine wp_aload rfl rfl rfl ?_
  obtain ⟨f2, F⟩ := F
  refine wp_callI rfl rfl rfl (rcv_v f0 f2 (by decide) (by decide)) rfl rfl rfl rfl ?_
  refine CI.mono F (fun y2 h2 F => ?_) (fun _ _ w => rx_I w)
  refine wp_iload rfl rfl rfl ?_
  refine wp_icmp_eq rfl rfl rfl rfl rfl (fun c => ?_) (fun c => ?_)
  · replace F := F.1 c
    refine wp_iload rfl rfl rfl ?_
    refine wp_if_ne rfl rfl rfl rfl (fun c => ?_) (fun c => ?_)
    · replace F := F.1 c
      refine wp_aload rfl rfl rfl ?_
      refine wp_const rfl rfl ?_
      refine wp_laload rfl F.1 rfl ?_
      replace F := F.2
      refine wp_iload rfl rfl rfl ?_
      refine wp_i2l rfl rfl ?_
      refine wp_lcmp_eq rfl rfl rfl rfl rfl rfl rfl (fun c => ?_) (fun c => ?_)
      · replace F := F.1 c
        refine wp_goto' (L' := [some (vR l0), some (vR l1), some (vR l2), some (vR l3), some (vI l4), none, none]) rfl rfl rfl ?_
        exact F
      · replace F := F.2 c
        refine wp_const rfl rfl ?_
        exact wp_retI rfl (Or.inr rfl) F
    · replace F := F.2 c
      refine wp_goto' (L' := [some (vR l0), some (vR l1), some (vR l2), some (vR l3), some (vI l4), none, none]) rfl rfl rfl ?_
      exact F
  · replace F := F.2 c
    refine wp_const rfl rfl ?_
    exact wp_retI rfl (Or.inr rfl) F
theorem w328_468 {d : Nat} {l0 : Nat} {l1 : Nat} {l2 : Nat} {l3 : Nat} {l4 : Int32} {h : aH} {K : Int32 → aH → Prop} {X : Nat → aH → Prop} (F : ∃ i0 : Nat, inB h 105 l0 (l4 + 1) i0 ∧ ∃ i1 : Nat, inB h 105 l0 (l4 + 2) i1 ∧ ∃ i2 : Nat, inB h 105 l0 (l4 + 3) i2 ∧ ∃ i3 : Nat, inB h 105 l0 (l4 + 4) i3 ∧ CI d 52 [vR l1, vI (gI h l0 i0), vI (gI h l0 i1), vI (gI h l0 i2), vI (gI h l0 i3), vR l3] h (fun y0 h0 => ∃ i4 : Nat, inB h0 105 l0 (l4 + 1) i4 ∧ ∃ i5 : Nat, inB h0 105 l0 (l4 + 2) i5 ∧ ∃ i6 : Nat, inB h0 105 l0 (l4 + 3) i6 ∧ ∃ i7 : Nat, inB h0 105 l0 (l4 + 4) i7 ∧ 8 ≤ l2 ∧ gK h0 l2 = 14 ∧ CI d 54 [vR l2, vI (gI h0 l0 i4), vI (gI h0 l0 i5), vI (gI h0 l0 i6), vI (gI h0 l0 i7)] h0 (fun y1 h1 => gK h1 l2 = 14 ∧ CI d 17 [vR l2] h1 (fun y2 h2 => ((y2.toInt = y0.toInt → ((y0.toInt = 0 → inB h2 101 l3 0 0 ∧ (((gJ h2 l3 0).toInt = (y1.toInt64).toInt → Wp (d + 1) 328 (3074, [some (vR l0), some (vR l1), some (vR l2), some (vR l3), some (vI l4), none, none], [], h2) (RI K X)) ∧ (¬ (gJ h2 l3 0).toInt = (y1.toInt64).toInt → K 0 h2))) ∧ (¬ y0.toInt = 0 → Wp (d + 1) 328 (3074, [some (vR l0), some (vR l1), some (vR l2), some (vR l3), some (vI l4), none, none], [], h2) (RI K X)))) ∧ (¬ y2.toInt = y0.toInt → K 0 h2))) X) X) X) : Wp (d + 1) 328 (468, [some (vR l0), some (vR l1), some (vR l2), some (vR l3), some (vI l4), none, none], [], h) (RI K X) := by
  refine wp_aload' (L' := [some (vR l0), some (vR l1), some (vR l2), some (vR l3), some (vI l4), none, none]) rfl rfl rfl rfl ?_
  refine wp_aload rfl rfl rfl ?_
  refine wp_iload rfl rfl rfl ?_
  refine wp_const rfl rfl ?_
  refine wp_iadd rfl rfl ?_
  obtain ⟨i0, b9, F⟩ := F
  refine wp_saload rfl b9 rfl ?_
  refine wp_aload rfl rfl rfl ?_
  refine wp_iload rfl rfl rfl ?_
  refine wp_const rfl rfl ?_
  refine wp_iadd rfl rfl ?_
  obtain ⟨i1, b9, F⟩ := F
  refine wp_saload rfl b9 rfl ?_
  refine wp_aload rfl rfl rfl ?_
  refine wp_iload rfl rfl rfl ?_
  refine wp_const rfl rfl ?_
  refine wp_iadd rfl rfl ?_
  obtain ⟨i2, b9, F⟩ := F
  refine wp_saload rfl b9 rfl ?_
  refine wp_aload rfl rfl rfl ?_
  refine wp_iload rfl rfl rfl ?_
  refine wp_const rfl rfl ?_
  refine wp_iadd rfl rfl ?_
  obtain ⟨i3, b9, F⟩ := F
  refine wp_saload rfl b9 rfl ?_
  refine wp_aload rfl rfl rfl ?_
  refine wp_callI rfl rfl rfl rfl rfl rfl rfl rfl ?_
  refine CI.mono F (fun y0 h0 F => ?_) (fun _ _ w => rx_I w)
  refine wp_istore (L2 := [some (vR l0), some (vR l1), some (vR l2), some (vR l3), some (vI l4), some (vI y0), none]) rfl rfl rfl rfl ?_
  refine wp_aload rfl rfl rfl ?_
  refine wp_aload rfl rfl rfl ?_
  refine wp_iload rfl rfl rfl ?_
  refine wp_const rfl rfl ?_
  refine wp_iadd rfl rfl ?_
  obtain ⟨i4, b9, F⟩ := F
  refine wp_saload rfl b9 rfl ?_
  refine wp_aload rfl rfl rfl ?_
  refine wp_iload rfl rfl rfl ?_
  refine wp_const rfl rfl ?_
  refine wp_iadd rfl rfl ?_
  obtain ⟨i5, b9, F⟩ := F
  refine wp_saload rfl b9 rfl ?_
  refine wp_aload rfl rfl rfl ?_
  refine wp_iload rfl rfl rfl ?_
  refine wp_const rfl rfl ?_
  refine wp_iadd rfl rfl ?_
  obtain ⟨i6, b9, F⟩ := F
  refine wp_saload rfl b9 rfl ?_
  refine wp_aload rfl rfl rfl ?_
  refine wp_iload rfl rfl rfl ?_
  refine wp_const rfl rfl ?_
  refine wp_iadd rfl rfl ?_
  obtain ⟨i7, b9, F⟩ := F
  refine wp_saload rfl b9 rfl ?_
  obtain ⟨f0, F⟩ := F
  obtain ⟨f1, F⟩ := F
  refine wp_callI rfl rfl rfl (rcv_v f0 f1 (by decide) (by decide)) rfl rfl rfl rfl ?_
  refine CI.mono F (fun y1 h1 F => ?_) (fun _ _ w => rx_I w)
  refine wp_istore (L2 := [some (vR l0), some (vR l1), some (vR l2), some (vR l3), some (vI l4), some (vI y0), some (vI y1)]) rfl rfl rfl rfl ?_
  refine wp_aload rfl rfl rfl ?_
  obtain ⟨f2, F⟩ := F
  refine wp_callI rfl rfl rfl (rcv_v f0 f2 (by decide) (by decide)) rfl rfl rfl rfl ?_
  refine CI.mono F (fun y2 h2 F => ?_) (fun _ _ w => rx_I w)
  refine wp_iload rfl rfl rfl ?_
  refine wp_icmp_eq rfl rfl rfl rfl rfl (fun c => ?_) (fun c => ?_)
  · replace F := F.1 c
    refine wp_iload rfl rfl rfl ?_
    refine wp_if_ne rfl rfl rfl rfl (fun c => ?_) (fun c => ?_)
    · replace F := F.1 c
      refine wp_aload rfl rfl rfl ?_
      refine wp_const rfl rfl ?_
      refine wp_laload rfl F.1 rfl ?_
      replace F := F.2
      refine wp_iload rfl rfl rfl ?_
      refine wp_i2l rfl rfl ?_
      refine wp_lcmp_eq rfl rfl rfl rfl rfl rfl rfl (fun c => ?_) (fun c => ?_)
      · replace F := F.1 c
        refine wp_goto' (L' := [some (vR l0), some (vR l1), some (vR l2), some (vR l3), some (vI l4), none, none]) rfl rfl rfl ?_
        exact F
      · replace F := F.2 c
        refine wp_const rfl rfl ?_
        exact wp_retI rfl (Or.inr rfl) F
    · replace F := F.2 c
      refine wp_goto' (L' := [some (vR l0), some (vR l1), some (vR l2), some (vR l3), some (vI l4), none, none]) rfl rfl rfl ?_
      exact F
  · replace F := F.2 c
    refine wp_const rfl rfl ?_
    exact wp_retI rfl (Or.inr rfl) F
theorem w328_560 {d : Nat} {l0 : Nat} {l1 : Nat} {l2 : Nat} {l3 : Nat} {l4 : Int32} {h : aH} {K : Int32 → aH → Prop} {X : Nat → aH → Prop} (F : ∃ i0 : Nat, inB h 105 l0 (l4 + 1) i0 ∧ CI d 56 [vR l1, vI (gI h l0 i0), vR l3] h (fun y0 h0 => ∃ i1 : Nat, inB h0 105 l0 (l4 + 1) i1 ∧ 8 ≤ l2 ∧ gK h0 l2 = 14 ∧ CI d 57 [vR l2, vI (gI h0 l0 i1)] h0 (fun y1 h1 => gK h1 l2 = 14 ∧ CI d 17 [vR l2] h1 (fun y2 h2 => ((y2.toInt = y0.toInt → ((y0.toInt = 0 → inB h2 101 l3 0 0 ∧ (((gJ h2 l3 0).toInt = (y1.toInt64).toInt → Wp (d + 1) 328 (3074, [some (vR l0), some (vR l1), some (vR l2), some (vR l3), some (vI l4), none, none], [], h2) (RI K X)) ∧ (¬ (gJ h2 l3 0).toInt = (y1.toInt64).toInt → K 0 h2))) ∧ (¬ y0.toInt = 0 → Wp (d + 1) 328 (3074, [some (vR l0), some (vR l1), some (vR l2), some (vR l3), some (vI l4), none, none], [], h2) (RI K X)))) ∧ (¬ y2.toInt = y0.toInt → K 0 h2))) X) X) X) : Wp (d + 1) 328 (560, [some (vR l0), some (vR l1), some (vR l2), some (vR l3), some (vI l4), none, none], [], h) (RI K X) := by
  refine wp_aload' (L' := [some (vR l0), some (vR l1), some (vR l2), some (vR l3), some (vI l4), none, none]) rfl rfl rfl rfl ?_
  refine wp_aload rfl rfl rfl ?_
  refine wp_iload rfl rfl rfl ?_
  refine wp_const rfl rfl ?_
  refine wp_iadd rfl rfl ?_
  obtain ⟨i0, b9, F⟩ := F
  refine wp_saload rfl b9 rfl ?_
  refine wp_aload rfl rfl rfl ?_
  refine wp_callI rfl rfl rfl rfl rfl rfl rfl rfl ?_
  refine CI.mono F (fun y0 h0 F => ?_) (fun _ _ w => rx_I w)
  refine wp_istore (L2 := [some (vR l0), some (vR l1), some (vR l2), some (vR l3), some (vI l4), some (vI y0), none]) rfl rfl rfl rfl ?_
  refine wp_aload rfl rfl rfl ?_
  refine wp_aload rfl rfl rfl ?_
  refine wp_iload rfl rfl rfl ?_
  refine wp_const rfl rfl ?_
  refine wp_iadd rfl rfl ?_
  obtain ⟨i1, b9, F⟩ := F
  refine wp_saload rfl b9 rfl ?_
  obtain ⟨f0, F⟩ := F
  obtain ⟨f1, F⟩ := F
  refine wp_callI rfl rfl rfl (rcv_v f0 f1 (by decide) (by decide)) rfl rfl rfl rfl ?_
  refine CI.mono F (fun y1 h1 F => ?_) (fun _ _ w => rx_I w)
  refine wp_istore (L2 := [some (vR l0), some (vR l1), some (vR l2), some (vR l3), some (vI l4), some (vI y0), some (vI y1)]) rfl rfl rfl rfl ?_
  refine wp_aload rfl rfl rfl ?_
  obtain ⟨f2, F⟩ := F
  refine wp_callI rfl rfl rfl (rcv_v f0 f2 (by decide) (by decide)) rfl rfl rfl rfl ?_
  refine CI.mono F (fun y2 h2 F => ?_) (fun _ _ w => rx_I w)
  refine wp_iload rfl rfl rfl ?_
  refine wp_icmp_eq rfl rfl rfl rfl rfl (fun c => ?_) (fun c => ?_)
  · replace F := F.1 c
    refine wp_iload rfl rfl rfl ?_
    refine wp_if_ne rfl rfl rfl rfl (fun c => ?_) (fun c => ?_)
    · replace F := F.1 c
      refine wp_aload rfl rfl rfl ?_
      refine wp_const rfl rfl ?_
      refine wp_laload rfl F.1 rfl ?_
      replace F := F.2
      refine wp_iload rfl rfl rfl ?_
      refine wp_i2l rfl rfl ?_
      refine wp_lcmp_eq rfl rfl rfl rfl rfl rfl rfl (fun c => ?_) (fun c => ?_)
      · replace F := F.1 c
        refine wp_goto' (L' := [some (vR l0), some (vR l1), some (vR l2), some (vR l3), some (vI l4), none, none]) rfl rfl rfl ?_
        exact F
      · replace F := F.2 c
        refine wp_const rfl rfl ?_
        exact wp_retI rfl (Or.inr rfl) F
    · replace F := F.2 c
      refine wp_goto' (L' := [some (vR l0), some (vR l1), some (vR l2), some (vR l3), some (vI l4), none, none]) rfl rfl rfl ?_
      exact F
  · replace F := F.2 c
    refine wp_const rfl rfl ?_
    exact wp_retI rfl (Or.inr rfl) F
theorem w328_616 {d : Nat} {l0 : Nat} {l1 : Nat} {l2 : Nat} {l3 : Nat} {l4 : Int32} {h : aH} {K : Int32 → aH → Prop} {X : Nat → aH → Prop} (F : ∃ i0 : Nat, inB h 105 l0 (l4 + 1) i0 ∧ ∃ i1 : Nat, inB h 105 l0 (l4 + 2) i1 ∧ ∃ i2 : Nat, inB h 105 l0 (l4 + 3) i2 ∧ ∃ i3 : Nat, inB h 105 l0 (l4 + 4) i3 ∧ ∃ i4 : Nat, inB h 105 l0 (l4 + 5) i4 ∧ CI d 60 [vR l1, vI (gI h l0 i0), vI (gI h l0 i1), vI (gI h l0 i2), vI (gI h l0 i3), vI (gI h l0 i4), vR l3] h (fun y0 h0 => ∃ i5 : Nat, inB h0 105 l0 (l4 + 1) i5 ∧ ∃ i6 : Nat, inB h0 105 l0 (l4 + 2) i6 ∧ ∃ i7 : Nat, inB h0 105 l0 (l4 + 3) i7 ∧ ∃ i8 : Nat, inB h0 105 l0 (l4 + 4) i8 ∧ ∃ i9 : Nat, inB h0 105 l0 (l4 + 5) i9 ∧ 8 ≤ l2 ∧ gK h0 l2 = 14 ∧ CI d 61 [vR l2, vI (gI h0 l0 i5), vI (gI h0 l0 i6), vI (gI h0 l0 i7), vI (gI h0 l0 i8), vI (gI h0 l0 i9)] h0 (fun y1 h1 => gK h1 l2 = 14 ∧ CI d 17 [vR l2] h1 (fun y2 h2 => ((y2.toInt = y0.toInt → ((y0.toInt = 0 → inB h2 101 l3 0 0 ∧ (((gJ h2 l3 0).toInt = (y1.toInt64).toInt → Wp (d + 1) 328 (3074, [some (vR l0), some (vR l1), some (vR l2), some (vR l3), some (vI l4), none, none], [], h2) (RI K X)) ∧ (¬ (gJ h2 l3 0).toInt = (y1.toInt64).toInt → K 0 h2))) ∧ (¬ y0.toInt = 0 → Wp (d + 1) 328 (3074, [some (vR l0), some (vR l1), some (vR l2), some (vR l3), some (vI l4), none, none], [], h2) (RI K X)))) ∧ (¬ y2.toInt = y0.toInt → K 0 h2))) X) X) X) : Wp (d + 1) 328 (616, [some (vR l0), some (vR l1), some (vR l2), some (vR l3), some (vI l4), none, none], [], h) (RI K X) := by
  refine wp_aload' (L' := [some (vR l0), some (vR l1), some (vR l2), some (vR l3), some (vI l4), none, none]) rfl rfl rfl rfl ?_
  refine wp_aload rfl rfl rfl ?_
  refine wp_iload rfl rfl rfl ?_
  refine wp_const rfl rfl ?_
  refine wp_iadd rfl rfl ?_
  obtain ⟨i0, b9, F⟩ := F
  refine wp_saload rfl b9 rfl ?_
  refine wp_aload rfl rfl rfl ?_
  refine wp_iload rfl rfl rfl ?_
  refine wp_const rfl rfl ?_
  refine wp_iadd rfl rfl ?_
  obtain ⟨i1, b9, F⟩ := F
  refine wp_saload rfl b9 rfl ?_
  refine wp_aload rfl rfl rfl ?_
  refine wp_iload rfl rfl rfl ?_
  refine wp_const rfl rfl ?_
  refine wp_iadd rfl rfl ?_
  obtain ⟨i2, b9, F⟩ := F
  refine wp_saload rfl b9 rfl ?_
  refine wp_aload rfl rfl rfl ?_
  refine wp_iload rfl rfl rfl ?_
  refine wp_const rfl rfl ?_
  refine wp_iadd rfl rfl ?_
  obtain ⟨i3, b9, F⟩ := F
  refine wp_saload rfl b9 rfl ?_
  refine wp_aload rfl rfl rfl ?_
  refine wp_iload rfl rfl rfl ?_
  refine wp_const rfl rfl ?_
  refine wp_iadd rfl rfl ?_
  obtain ⟨i4, b9, F⟩ := F
  refine wp_saload rfl b9 rfl ?_
  refine wp_aload rfl rfl rfl ?_
  refine wp_callI rfl rfl rfl rfl rfl rfl rfl rfl ?_
  refine CI.mono F (fun y0 h0 F => ?_) (fun _ _ w => rx_I w)
  refine wp_istore (L2 := [some (vR l0), some (vR l1), some (vR l2), some (vR l3), some (vI l4), some (vI y0), none]) rfl rfl rfl rfl ?_
  refine wp_aload rfl rfl rfl ?_
  refine wp_aload rfl rfl rfl ?_
  refine wp_iload rfl rfl rfl ?_
  refine wp_const rfl rfl ?_
  refine wp_iadd rfl rfl ?_
  obtain ⟨i5, b9, F⟩ := F
  refine wp_saload rfl b9 rfl ?_
  refine wp_aload rfl rfl rfl ?_
  refine wp_iload rfl rfl rfl ?_
  refine wp_const rfl rfl ?_
  refine wp_iadd rfl rfl ?_
  obtain ⟨i6, b9, F⟩ := F
  refine wp_saload rfl b9 rfl ?_
  refine wp_aload rfl rfl rfl ?_
  refine wp_iload rfl rfl rfl ?_
  refine wp_const rfl rfl ?_
  refine wp_iadd rfl rfl ?_
  obtain ⟨i7, b9, F⟩ := F
  refine wp_saload rfl b9 rfl ?_
  refine wp_aload rfl rfl rfl ?_
  refine wp_iload rfl rfl rfl ?_
  refine wp_const rfl rfl ?_
  refine wp_iadd rfl rfl ?_
  obtain ⟨i8, b9, F⟩ := F
  refine wp_saload rfl b9 rfl ?_
  refine wp_aload rfl rfl rfl ?_
  refine wp_iload rfl rfl rfl ?_
  refine wp_const rfl rfl ?_
  refine wp_iadd rfl rfl ?_
  obtain ⟨i9, b9, F⟩ := F
  refine wp_saload rfl b9 rfl ?_
  obtain ⟨f0, F⟩ := F
  obtain ⟨f1, F⟩ := F
  refine wp_callI rfl rfl rfl (rcv_v f0 f1 (by decide) (by decide)) rfl rfl rfl rfl ?_
  refine CI.mono F (fun y1 h1 F => ?_) (fun _ _ w => rx_I w)
  refine wp_istore (L2 := [some (vR l0), some (vR l1), some (vR l2), some (vR l3), some (vI l4), some (vI y0), some (vI y1)]) rfl rfl rfl rfl ?_
  refine wp_aload rfl rfl rfl ?_
  obtain ⟨f2, F⟩ := F
  refine wp_callI rfl rfl rfl (rcv_v f0 f2 (by decide) (by decide)) rfl rfl rfl rfl ?_
  refine CI.mono F (fun y2 h2 F => ?_) (fun _ _ w => rx_I w)
  refine wp_iload rfl rfl rfl ?_
  refine wp_icmp_eq rfl rfl rfl rfl rfl (fun c => ?_) (fun c => ?_)
  · replace F := F.1 c
    refine wp_iload rfl rfl rfl ?_
    refine wp_if_ne rfl rfl rfl rfl (fun c => ?_) (fun c => ?_)
    · replace F := F.1 c
      refine wp_aload rfl rfl rfl ?_
      refine wp_const rfl rfl ?_
      refine wp_laload rfl F.1 rfl ?_
      replace F := F.2
      refine wp_iload rfl rfl rfl ?_
      refine wp_i2l rfl rfl ?_
      refine wp_lcmp_eq rfl rfl rfl rfl rfl rfl rfl (fun c => ?_) (fun c => ?_)
      · replace F := F.1 c
        refine wp_goto' (L' := [some (vR l0), some (vR l1), some (vR l2), some (vR l3), some (vI l4), none, none]) rfl rfl rfl ?_
        exact F
      · replace F := F.2 c
        refine wp_const rfl rfl ?_
        exact wp_retI rfl (Or.inr rfl) F
    · replace F := F.2 c
      refine wp_goto' (L' := [some (vR l0), some (vR l1), some (vR l2), some (vR l3), some (vI l4), none, none]) rfl rfl rfl ?_
      exact F
  · replace F := F.2 c
    refine wp_const rfl rfl ?_
    exact wp_retI rfl (Or.inr rfl) F
theorem w328_720 {d : Nat} {l0 : Nat} {l1 : Nat} {l2 : Nat} {l3 : Nat} {l4 : Int32} {h : aH} {K : Int32 → aH → Prop} {X : Nat → aH → Prop} (F : ∃ i0 : Nat, inB h 105 l0 (l4 + 1) i0 ∧ CI d 63 [vR l1, vI (gI h l0 i0), vR l3] h (fun y0 h0 => ∃ i1 : Nat, inB h0 105 l0 (l4 + 1) i1 ∧ 8 ≤ l2 ∧ gK h0 l2 = 14 ∧ CI d 64 [vR l2, vI (gI h0 l0 i1)] h0 (fun y1 h1 => gK h1 l2 = 14 ∧ CI d 17 [vR l2] h1 (fun y2 h2 => ((y2.toInt = y0.toInt → ((y0.toInt = 0 → inB h2 101 l3 0 0 ∧ (((gJ h2 l3 0).toInt = (y1.toInt64).toInt → Wp (d + 1) 328 (3074, [some (vR l0), some (vR l1), some (vR l2), some (vR l3), some (vI l4), none, none], [], h2) (RI K X)) ∧ (¬ (gJ h2 l3 0).toInt = (y1.toInt64).toInt → K 0 h2))) ∧ (¬ y0.toInt = 0 → Wp (d + 1) 328 (3074, [some (vR l0), some (vR l1), some (vR l2), some (vR l3), some (vI l4), none, none], [], h2) (RI K X)))) ∧ (¬ y2.toInt = y0.toInt → K 0 h2))) X) X) X) : Wp (d + 1) 328 (720, [some (vR l0), some (vR l1), some (vR l2), some (vR l3), some (vI l4), none, none], [], h) (RI K X) := by
  refine wp_aload' (L' := [some (vR l0), some (vR l1), some (vR l2), some (vR l3), some (vI l4), none, none]) rfl rfl rfl rfl ?_
  refine wp_aload rfl rfl rfl ?_
  refine wp_iload rfl rfl rfl ?_
  refine wp_const rfl rfl ?_
  refine wp_iadd rfl rfl ?_
  obtain ⟨i0, b9, F⟩ := F
  refine wp_saload rfl b9 rfl ?_
  refine wp_aload rfl rfl rfl ?_
  refine wp_callI rfl rfl rfl rfl rfl rfl rfl rfl ?_
  refine CI.mono F (fun y0 h0 F => ?_) (fun _ _ w => rx_I w)
  refine wp_istore (L2 := [some (vR l0), some (vR l1), some (vR l2), some (vR l3), some (vI l4), some (vI y0), none]) rfl rfl rfl rfl ?_
  refine wp_aload rfl rfl rfl ?_
  refine wp_aload rfl rfl rfl ?_
  refine wp_iload rfl rfl rfl ?_
  refine wp_const rfl rfl ?_
  refine wp_iadd rfl rfl ?_
  obtain ⟨i1, b9, F⟩ := F
  refine wp_saload rfl b9 rfl ?_
  obtain ⟨f0, F⟩ := F
  obtain ⟨f1, F⟩ := F
  refine wp_callI rfl rfl rfl (rcv_v f0 f1 (by decide) (by decide)) rfl rfl rfl rfl ?_
  refine CI.mono F (fun y1 h1 F => ?_) (fun _ _ w => rx_I w)
  refine wp_istore (L2 := [some (vR l0), some (vR l1), some (vR l2), some (vR l3), some (vI l4), some (vI y0), some (vI y1)]) rfl rfl rfl rfl ?_
  refine wp_aload rfl rfl rfl ?_
  obtain ⟨f2, F⟩ := F
  refine wp_callI rfl rfl rfl (rcv_v f0 f2 (by decide) (by decide)) rfl rfl rfl rfl ?_
  refine CI.mono F (fun y2 h2 F => ?_) (fun _ _ w => rx_I w)
  refine wp_iload rfl rfl rfl ?_
  refine wp_icmp_eq rfl rfl rfl rfl rfl (fun c => ?_) (fun c => ?_)
  · replace F := F.1 c
    refine wp_iload rfl rfl rfl ?_
    refine wp_if_ne rfl rfl rfl rfl (fun c => ?_) (fun c => ?_)
    · replace F := F.1 c
      refine wp_aload rfl rfl rfl ?_
      refine wp_const rfl rfl ?_
      refine wp_laload rfl F.1 rfl ?_
      replace F := F.2
      refine wp_iload rfl rfl rfl ?_
      refine wp_i2l rfl rfl ?_
      refine wp_lcmp_eq rfl rfl rfl rfl rfl rfl rfl (fun c => ?_) (fun c => ?_)
      · replace F := F.1 c
        refine wp_goto' (L' := [some (vR l0), some (vR l1), some (vR l2), some (vR l3), some (vI l4), none, none]) rfl rfl rfl ?_
        exact F
      · replace F := F.2 c
        refine wp_const rfl rfl ?_
        exact wp_retI rfl (Or.inr rfl) F
    · replace F := F.2 c
      refine wp_goto' (L' := [some (vR l0), some (vR l1), some (vR l2), some (vR l3), some (vI l4), none, none]) rfl rfl rfl ?_
      exact F
  · replace F := F.2 c
    refine wp_const rfl rfl ?_
    exact wp_retI rfl (Or.inr rfl) F
theorem w328_776 {d : Nat} {l0 : Nat} {l1 : Nat} {l2 : Nat} {l3 : Nat} {l4 : Int32} {h : aH} {K : Int32 → aH → Prop} {X : Nat → aH → Prop} (F : CI d 100 [vR l1, vR l3] h (fun y0 h0 => 8 ≤ l2 ∧ gK h0 l2 = 14 ∧ CI d 115 [vR l2] h0 (fun y1 h1 => gK h1 l2 = 14 ∧ CI d 17 [vR l2] h1 (fun y2 h2 => ((y2.toInt = y0.toInt → ((y0.toInt = 0 → inB h2 101 l3 0 0 ∧ (((gJ h2 l3 0).toInt = (y1.toInt64).toInt → Wp (d + 1) 328 (3074, [some (vR l0), some (vR l1), some (vR l2), some (vR l3), some (vI l4), none, none], [], h2) (RI K X)) ∧ (¬ (gJ h2 l3 0).toInt = (y1.toInt64).toInt → K 0 h2))) ∧ (¬ y0.toInt = 0 → Wp (d + 1) 328 (3074, [some (vR l0), some (vR l1), some (vR l2), some (vR l3), some (vI l4), none, none], [], h2) (RI K X)))) ∧ (¬ y2.toInt = y0.toInt → K 0 h2))) X) X) X) : Wp (d + 1) 328 (776, [some (vR l0), some (vR l1), some (vR l2), some (vR l3), some (vI l4), none, none], [], h) (RI K X) := by
  refine wp_aload' (L' := [some (vR l0), some (vR l1), some (vR l2), some (vR l3), some (vI l4), none, none]) rfl rfl rfl rfl ?_
  refine wp_aload rfl rfl rfl ?_
  refine wp_callI rfl rfl rfl rfl rfl rfl rfl rfl ?_
  refine CI.mono F (fun y0 h0 F => ?_) (fun _ _ w => rx_I w)
  refine wp_istore (L2 := [some (vR l0), some (vR l1), some (vR l2), some (vR l3), some (vI l4), some (vI y0), none]) rfl rfl rfl rfl ?_
  refine wp_aload rfl rfl rfl ?_
  obtain ⟨f0, F⟩ := F
  obtain ⟨f1, F⟩ := F
  refine wp_callI rfl rfl rfl (rcv_v f0 f1 (by decide) (by decide)) rfl rfl rfl rfl ?_
  refine CI.mono F (fun y1 h1 F => ?_) (fun _ _ w => rx_I w)
  refine wp_istore (L2 := [some (vR l0), some (vR l1), some (vR l2), some (vR l3), some (vI l4), some (vI y0), some (vI y1)]) rfl rfl rfl rfl ?_
  refine wp_aload rfl rfl rfl ?_
  obtain ⟨f2, F⟩ := F
  refine wp_callI rfl rfl rfl (rcv_v f0 f2 (by decide) (by decide)) rfl rfl rfl rfl ?_
  refine CI.mono F (fun y2 h2 F => ?_) (fun _ _ w => rx_I w)
  refine wp_iload rfl rfl rfl ?_
  refine wp_icmp_eq rfl rfl rfl rfl rfl (fun c => ?_) (fun c => ?_)
  · replace F := F.1 c
    refine wp_iload rfl rfl rfl ?_
    refine wp_if_ne rfl rfl rfl rfl (fun c => ?_) (fun c => ?_)
    · replace F := F.1 c
      refine wp_aload rfl rfl rfl ?_
      refine wp_const rfl rfl ?_
      refine wp_laload rfl F.1 rfl ?_
      replace F := F.2
      refine wp_iload rfl rfl rfl ?_
      refine wp_i2l rfl rfl ?_
      refine wp_lcmp_eq rfl rfl rfl rfl rfl rfl rfl (fun c => ?_) (fun c => ?_)
      · replace F := F.1 c
        refine wp_goto' (L' := [some (vR l0), some (vR l1), some (vR l2), some (vR l3), some (vI l4), none, none]) rfl rfl rfl ?_
        exact F
      · replace F := F.2 c
        refine wp_const rfl rfl ?_
        exact wp_retI rfl (Or.inr rfl) F
    · replace F := F.2 c
      refine wp_goto' (L' := [some (vR l0), some (vR l1), some (vR l2), some (vR l3), some (vI l4), none, none]) rfl rfl rfl ?_
      exact F
  · replace F := F.2 c
    refine wp_const rfl rfl ?_
    exact wp_retI rfl (Or.inr rfl) F
theorem w328_820 {d : Nat} {l0 : Nat} {l1 : Nat} {l2 : Nat} {l3 : Nat} {l4 : Int32} {h : aH} {K : Int32 → aH → Prop} {X : Nat → aH → Prop} (F : ∃ i0 : Nat, inB h 105 l0 (l4 + 1) i0 ∧ ∃ i1 : Nat, inB h 105 l0 (l4 + 2) i1 ∧ ∃ i2 : Nat, inB h 105 l0 (l4 + 3) i2 ∧ CI d 123 [vR l1, vI (gI h l0 i0), vI (gI h l0 i1), vI (gI h l0 i2), vR l3] h (fun y0 h0 => ∃ i3 : Nat, inB h0 105 l0 (l4 + 1) i3 ∧ ∃ i4 : Nat, inB h0 105 l0 (l4 + 2) i4 ∧ ∃ i5 : Nat, inB h0 105 l0 (l4 + 3) i5 ∧ 8 ≤ l2 ∧ gK h0 l2 = 14 ∧ CI d 126 [vR l2, vI (gI h0 l0 i3), vI (gI h0 l0 i4), vI (gI h0 l0 i5)] h0 (fun y1 h1 => gK h1 l2 = 14 ∧ CI d 17 [vR l2] h1 (fun y2 h2 => ((y2.toInt = y0.toInt → ((y0.toInt = 0 → inB h2 101 l3 0 0 ∧ (((gJ h2 l3 0).toInt = (y1.toInt64).toInt → Wp (d + 1) 328 (3074, [some (vR l0), some (vR l1), some (vR l2), some (vR l3), some (vI l4), none, none], [], h2) (RI K X)) ∧ (¬ (gJ h2 l3 0).toInt = (y1.toInt64).toInt → K 0 h2))) ∧ (¬ y0.toInt = 0 → Wp (d + 1) 328 (3074, [some (vR l0), some (vR l1), some (vR l2), some (vR l3), some (vI l4), none, none], [], h2) (RI K X)))) ∧ (¬ y2.toInt = y0.toInt → K 0 h2))) X) X) X) : Wp (d + 1) 328 (820, [some (vR l0), some (vR l1), some (vR l2), some (vR l3), some (vI l4), none, none], [], h) (RI K X) := by
  refine wp_aload' (L' := [some (vR l0), some (vR l1), some (vR l2), some (vR l3), some (vI l4), none, none]) rfl rfl rfl rfl ?_
  refine wp_aload rfl rfl rfl ?_
  refine wp_iload rfl rfl rfl ?_
  refine wp_const rfl rfl ?_
  refine wp_iadd rfl rfl ?_
  obtain ⟨i0, b9, F⟩ := F
  refine wp_saload rfl b9 rfl ?_
  refine wp_aload rfl rfl rfl ?_
  refine wp_iload rfl rfl rfl ?_
  refine wp_const rfl rfl ?_
  refine wp_iadd rfl rfl ?_
  obtain ⟨i1, b9, F⟩ := F
  refine wp_saload rfl b9 rfl ?_
  refine wp_aload rfl rfl rfl ?_
  refine wp_iload rfl rfl rfl ?_
  refine wp_const rfl rfl ?_
  refine wp_iadd rfl rfl ?_
  obtain ⟨i2, b9, F⟩ := F
  refine wp_saload rfl b9 rfl ?_
  refine wp_aload rfl rfl rfl ?_
  refine wp_callI rfl rfl rfl rfl rfl rfl rfl rfl ?_
  refine CI.mono F (fun y0 h0 F => ?_) (fun _ _ w => rx_I w)
  refine wp_istore (L2 := [some (vR l0), some (vR l1), some (vR l2), some (vR l3), some (vI l4), some (vI y0), none]) rfl rfl rfl rfl ?_
  refine wp_aload rfl rfl rfl ?_
  refine wp_aload rfl rfl rfl ?_
  refine wp_iload rfl rfl rfl ?_
  refine wp_const rfl rfl ?_
  refine wp_iadd rfl rfl ?_
  obtain ⟨i3, b9, F⟩ := F
  refine wp_saload rfl b9 rfl ?_
  refine wp_aload rfl rfl rfl ?_
  refine wp_iload rfl rfl rfl ?_
  refine wp_const rfl rfl ?_
  refine wp_iadd rfl rfl ?_
  obtain ⟨i4, b9, F⟩ := F
  refine wp_saload rfl b9 rfl ?_
  refine wp_aload rfl rfl rfl ?_
  refine wp_iload rfl rfl rfl ?_
  refine wp_const rfl rfl ?_
  refine wp_iadd rfl rfl ?_
  obtain ⟨i5, b9, F⟩ := F
  refine wp_saload rfl b9 rfl ?_
  obtain ⟨f0, F⟩ := F
  obtain ⟨f1, F⟩ := F
  refine wp_callI rfl rfl rfl (rcv_v f0 f1 (by decide) (by decide)) rfl rfl rfl rfl ?_
  refine CI.mono F (fun y1 h1 F => ?_) (fun _ _ w => rx_I w)
  refine wp_istore (L2 := [some (vR l0), some (vR l1), some (vR l2), some (vR l3), some (vI l4), some (vI y0), some (vI y1)]) rfl rfl rfl rfl ?_
  refine wp_aload rfl rfl rfl ?_
  obtain ⟨f2, F⟩ := F
  refine wp_callI rfl rfl rfl (rcv_v f0 f2 (by decide) (by decide)) rfl rfl rfl rfl ?_
  refine CI.mono F (fun y2 h2 F => ?_) (fun _ _ w => rx_I w)
  refine wp_iload rfl rfl rfl ?_
  refine wp_icmp_eq rfl rfl rfl rfl rfl (fun c => ?_) (fun c => ?_)
  · replace F := F.1 c
    refine wp_iload rfl rfl rfl ?_
    refine wp_if_ne rfl rfl rfl rfl (fun c => ?_) (fun c => ?_)
    · replace F := F.1 c
      refine wp_aload rfl rfl rfl ?_
      refine wp_const rfl rfl ?_
      refine wp_laload rfl F.1 rfl ?_
      replace F := F.2
      refine wp_iload rfl rfl rfl ?_
      refine wp_i2l rfl rfl ?_
      refine wp_lcmp_eq rfl rfl rfl rfl rfl rfl rfl (fun c => ?_) (fun c => ?_)
      · replace F := F.1 c
        refine wp_goto' (L' := [some (vR l0), some (vR l1), some (vR l2), some (vR l3), some (vI l4), none, none]) rfl rfl rfl ?_
        exact F
      · replace F := F.2 c
        refine wp_const rfl rfl ?_
        exact wp_retI rfl (Or.inr rfl) F
    · replace F := F.2 c
      refine wp_goto' (L' := [some (vR l0), some (vR l1), some (vR l2), some (vR l3), some (vI l4), none, none]) rfl rfl rfl ?_
      exact F
  · replace F := F.2 c
    refine wp_const rfl rfl ?_
    exact wp_retI rfl (Or.inr rfl) F
theorem w328_900 {d : Nat} {l0 : Nat} {l1 : Nat} {l2 : Nat} {l3 : Nat} {l4 : Int32} {h : aH} {K : Int32 → aH → Prop} {X : Nat → aH → Prop} (F : ∃ i0 : Nat, inB h 105 l0 (l4 + 1) i0 ∧ ∃ i1 : Nat, inB h 105 l0 (l4 + 2) i1 ∧ CI d 138 [vR l1, vI (gI h l0 i0), vI (gI h l0 i1), vR l3] h (fun y0 h0 => ∃ i2 : Nat, inB h0 105 l0 (l4 + 1) i2 ∧ ∃ i3 : Nat, inB h0 105 l0 (l4 + 2) i3 ∧ 8 ≤ l2 ∧ gK h0 l2 = 14 ∧ CI d 139 [vR l2, vI (gI h0 l0 i2), vI (gI h0 l0 i3)] h0 (fun y1 h1 => gK h1 l2 = 14 ∧ CI d 17 [vR l2] h1 (fun y2 h2 => ((y2.toInt = y0.toInt → ((y0.toInt = 0 → inB h2 101 l3 0 0 ∧ (((gJ h2 l3 0).toInt = (y1.toInt64).toInt → Wp (d + 1) 328 (3074, [some (vR l0), some (vR l1), some (vR l2), some (vR l3), some (vI l4), none, none], [], h2) (RI K X)) ∧ (¬ (gJ h2 l3 0).toInt = (y1.toInt64).toInt → K 0 h2))) ∧ (¬ y0.toInt = 0 → Wp (d + 1) 328 (3074, [some (vR l0), some (vR l1), some (vR l2), some (vR l3), some (vI l4), none, none], [], h2) (RI K X)))) ∧ (¬ y2.toInt = y0.toInt → K 0 h2))) X) X) X) : Wp (d + 1) 328 (900, [some (vR l0), some (vR l1), some (vR l2), some (vR l3), some (vI l4), none, none], [], h) (RI K X) := by
  refine wp_aload' (L' := [some (vR l0), some (vR l1), some (vR l2), some (vR l3), some (vI l4), none, none]) rfl rfl rfl rfl ?_
  refine wp_aload rfl rfl rfl ?_
  refine wp_iload rfl rfl rfl ?_
  refine wp_const rfl rfl ?_
  refine wp_iadd rfl rfl ?_
  obtain ⟨i0, b9, F⟩ := F
  refine wp_saload rfl b9 rfl ?_
  refine wp_aload rfl rfl rfl ?_
  refine wp_iload rfl rfl rfl ?_
  refine wp_const rfl rfl ?_
  refine wp_iadd rfl rfl ?_
  obtain ⟨i1, b9, F⟩ := F
  refine wp_saload rfl b9 rfl ?_
  refine wp_aload rfl rfl rfl ?_
  refine wp_callI rfl rfl rfl rfl rfl rfl rfl rfl ?_
  refine CI.mono F (fun y0 h0 F => ?_) (fun _ _ w => rx_I w)
  refine wp_istore (L2 := [some (vR l0), some (vR l1), some (vR l2), some (vR l3), some (vI l4), some (vI y0), none]) rfl rfl rfl rfl ?_
  refine wp_aload rfl rfl rfl ?_
  refine wp_aload rfl rfl rfl ?_
  refine wp_iload rfl rfl rfl ?_
  refine wp_const rfl rfl ?_
  refine wp_iadd rfl rfl ?_
  obtain ⟨i2, b9, F⟩ := F
  refine wp_saload rfl b9 rfl ?_
  refine wp_aload rfl rfl rfl ?_
  refine wp_iload rfl rfl rfl ?_
  refine wp_const rfl rfl ?_
  refine wp_iadd rfl rfl ?_
  obtain ⟨i3, b9, F⟩ := F
  refine wp_saload rfl b9 rfl ?_
  obtain ⟨f0, F⟩ := F
  obtain ⟨f1, F⟩ := F
  refine wp_callI rfl rfl rfl (rcv_v f0 f1 (by decide) (by decide)) rfl rfl rfl rfl ?_
  refine CI.mono F (fun y1 h1 F => ?_) (fun _ _ w => rx_I w)
  refine wp_istore (L2 := [some (vR l0), some (vR l1), some (vR l2), some (vR l3), some (vI l4), some (vI y0), some (vI y1)]) rfl rfl rfl rfl ?_
  refine wp_aload rfl rfl rfl ?_
  obtain ⟨f2, F⟩ := F
  refine wp_callI rfl rfl rfl (rcv_v f0 f2 (by decide) (by decide)) rfl rfl rfl rfl ?_
  refine CI.mono F (fun y2 h2 F => ?_) (fun _ _ w => rx_I w)
  refine wp_iload rfl rfl rfl ?_
  refine wp_icmp_eq rfl rfl rfl rfl rfl (fun c => ?_) (fun c => ?_)
  · replace F := F.1 c
    refine wp_iload rfl rfl rfl ?_
    refine wp_if_ne rfl rfl rfl rfl (fun c => ?_) (fun c => ?_)
    · replace F := F.1 c
      refine wp_aload rfl rfl rfl ?_
      refine wp_const rfl rfl ?_
      refine wp_laload rfl F.1 rfl ?_
      replace F := F.2
      refine wp_iload rfl rfl rfl ?_
      refine wp_i2l rfl rfl ?_
      refine wp_lcmp_eq rfl rfl rfl rfl rfl rfl rfl (fun c => ?_) (fun c => ?_)
      · replace F := F.1 c
        refine wp_goto' (L' := [some (vR l0), some (vR l1), some (vR l2), some (vR l3), some (vI l4), none, none]) rfl rfl rfl ?_
        exact F
      · replace F := F.2 c
        refine wp_const rfl rfl ?_
        exact wp_retI rfl (Or.inr rfl) F
    · replace F := F.2 c
      refine wp_goto' (L' := [some (vR l0), some (vR l1), some (vR l2), some (vR l3), some (vI l4), none, none]) rfl rfl rfl ?_
      exact F
  · replace F := F.2 c
    refine wp_const rfl rfl ?_
    exact wp_retI rfl (Or.inr rfl) F
theorem w328_968 {d : Nat} {l0 : Nat} {l1 : Nat} {l2 : Nat} {l3 : Nat} {l4 : Int32} {h : aH} {K : Int32 → aH → Prop} {X : Nat → aH → Prop} (F : ∃ i0 : Nat, inB h 105 l0 (l4 + 1) i0 ∧ CI d 144 [vR l1, vI (gI h l0 i0), vR l3] h (fun y0 h0 => ∃ i1 : Nat, inB h0 105 l0 (l4 + 1) i1 ∧ 8 ≤ l2 ∧ gK h0 l2 = 14 ∧ CI d 150 [vR l2, vI (gI h0 l0 i1)] h0 (fun y1 h1 => gK h1 l2 = 14 ∧ CI d 17 [vR l2] h1 (fun y2 h2 => ((y2.toInt = y0.toInt → ((y0.toInt = 0 → inB h2 101 l3 0 0 ∧ (((gJ h2 l3 0).toInt = (y1.toInt64).toInt → Wp (d + 1) 328 (3074, [some (vR l0), some (vR l1), some (vR l2), some (vR l3), some (vI l4), none, none], [], h2) (RI K X)) ∧ (¬ (gJ h2 l3 0).toInt = (y1.toInt64).toInt → K 0 h2))) ∧ (¬ y0.toInt = 0 → Wp (d + 1) 328 (3074, [some (vR l0), some (vR l1), some (vR l2), some (vR l3), some (vI l4), none, none], [], h2) (RI K X)))) ∧ (¬ y2.toInt = y0.toInt → K 0 h2))) X) X) X) : Wp (d + 1) 328 (968, [some (vR l0), some (vR l1), some (vR l2), some (vR l3), some (vI l4), none, none], [], h) (RI K X) := by
  refine wp_aload' (L' := [some (vR l0), some (vR l1), some (vR l2), some (vR l3), some (vI l4), none, none]) rfl rfl rfl rfl ?_
  refine wp_aload rfl rfl rfl ?_
  refine wp_iload rfl rfl rfl ?_
  refine wp_const rfl rfl ?_
  refine wp_iadd rfl rfl ?_
  obtain ⟨i0, b9, F⟩ := F
  refine wp_saload rfl b9 rfl ?_
  refine wp_aload rfl rfl rfl ?_
  refine wp_callI rfl rfl rfl rfl rfl rfl rfl rfl ?_
  refine CI.mono F (fun y0 h0 F => ?_) (fun _ _ w => rx_I w)
  refine wp_istore (L2 := [some (vR l0), some (vR l1), some (vR l2), some (vR l3), some (vI l4), some (vI y0), none]) rfl rfl rfl rfl ?_
  refine wp_aload rfl rfl rfl ?_
  refine wp_aload rfl rfl rfl ?_
  refine wp_iload rfl rfl rfl ?_
  refine wp_const rfl rfl ?_
  refine wp_iadd rfl rfl ?_
  obtain ⟨i1, b9, F⟩ := F
  refine wp_saload rfl b9 rfl ?_
  obtain ⟨f0, F⟩ := F
  obtain ⟨f1, F⟩ := F
  refine wp_callI rfl rfl rfl (rcv_v f0 f1 (by decide) (by decide)) rfl rfl rfl rfl ?_
  refine CI.mono F (fun y1 h1 F => ?_) (fun _ _ w => rx_I w)
  refine wp_istore (L2 := [some (vR l0), some (vR l1), some (vR l2), some (vR l3), some (vI l4), some (vI y0), some (vI y1)]) rfl rfl rfl rfl ?_
  refine wp_aload rfl rfl rfl ?_
  obtain ⟨f2, F⟩ := F
  refine wp_callI rfl rfl rfl (rcv_v f0 f2 (by decide) (by decide)) rfl rfl rfl rfl ?_
  refine CI.mono F (fun y2 h2 F => ?_) (fun _ _ w => rx_I w)
  refine wp_iload rfl rfl rfl ?_
  refine wp_icmp_eq rfl rfl rfl rfl rfl (fun c => ?_) (fun c => ?_)
  · replace F := F.1 c
    refine wp_iload rfl rfl rfl ?_
    refine wp_if_ne rfl rfl rfl rfl (fun c => ?_) (fun c => ?_)
    · replace F := F.1 c
      refine wp_aload rfl rfl rfl ?_
      refine wp_const rfl rfl ?_
      refine wp_laload rfl F.1 rfl ?_
      replace F := F.2
      refine wp_iload rfl rfl rfl ?_
      refine wp_i2l rfl rfl ?_
      refine wp_lcmp_eq rfl rfl rfl rfl rfl rfl rfl (fun c => ?_) (fun c => ?_)
      · replace F := F.1 c
        refine wp_goto' (L' := [some (vR l0), some (vR l1), some (vR l2), some (vR l3), some (vI l4), none, none]) rfl rfl rfl ?_
        exact F
      · replace F := F.2 c
        refine wp_const rfl rfl ?_
        exact wp_retI rfl (Or.inr rfl) F
    · replace F := F.2 c
      refine wp_goto' (L' := [some (vR l0), some (vR l1), some (vR l2), some (vR l3), some (vI l4), none, none]) rfl rfl rfl ?_
      exact F
  · replace F := F.2 c
    refine wp_const rfl rfl ?_
    exact wp_retI rfl (Or.inr rfl) F
theorem w328_1024 {d : Nat} {l0 : Nat} {l1 : Nat} {l2 : Nat} {l3 : Nat} {l4 : Int32} {h : aH} {K : Int32 → aH → Prop} {X : Nat → aH → Prop} (F : ∃ i0 : Nat, inB h 105 l0 (l4 + 1) i0 ∧ ∃ i1 : Nat, inB h 105 l0 (l4 + 2) i1 ∧ CI d 157 [vR l1, vI (gI h l0 i0), vI (gI h l0 i1), vR l3] h (fun y0 h0 => ∃ i2 : Nat, inB h0 105 l0 (l4 + 1) i2 ∧ ∃ i3 : Nat, inB h0 105 l0 (l4 + 2) i3 ∧ 8 ≤ l2 ∧ gK h0 l2 = 14 ∧ CI d 160 [vR l2, vI (gI h0 l0 i2), vI (gI h0 l0 i3)] h0 (fun y1 h1 => gK h1 l2 = 14 ∧ CI d 17 [vR l2] h1 (fun y2 h2 => ((y2.toInt = y0.toInt → ((y0.toInt = 0 → inB h2 101 l3 0 0 ∧ (((gJ h2 l3 0).toInt = (y1.toInt64).toInt → Wp (d + 1) 328 (3074, [some (vR l0), some (vR l1), some (vR l2), some (vR l3), some (vI l4), none, none], [], h2) (RI K X)) ∧ (¬ (gJ h2 l3 0).toInt = (y1.toInt64).toInt → K 0 h2))) ∧ (¬ y0.toInt = 0 → Wp (d + 1) 328 (3074, [some (vR l0), some (vR l1), some (vR l2), some (vR l3), some (vI l4), none, none], [], h2) (RI K X)))) ∧ (¬ y2.toInt = y0.toInt → K 0 h2))) X) X) X) : Wp (d + 1) 328 (1024, [some (vR l0), some (vR l1), some (vR l2), some (vR l3), some (vI l4), none, none], [], h) (RI K X) := by
  refine wp_aload' (L' := [some (vR l0), some (vR l1), some (vR l2), some (vR l3), some (vI l4), none, none]) rfl rfl rfl rfl ?_
  refine wp_aload rfl rfl rfl ?_
  refine wp_iload rfl rfl rfl ?_
  refine wp_const rfl rfl ?_
  refine wp_iadd rfl rfl ?_
  obtain ⟨i0, b9, F⟩ := F
  refine wp_saload rfl b9 rfl ?_
  refine wp_aload rfl rfl rfl ?_
  refine wp_iload rfl rfl rfl ?_
  refine wp_const rfl rfl ?_
  refine wp_iadd rfl rfl ?_
  obtain ⟨i1, b9, F⟩ := F
  refine wp_saload rfl b9 rfl ?_
  refine wp_aload rfl rfl rfl ?_
  refine wp_callI rfl rfl rfl rfl rfl rfl rfl rfl ?_
  refine CI.mono F (fun y0 h0 F => ?_) (fun _ _ w => rx_I w)
  refine wp_istore (L2 := [some (vR l0), some (vR l1), some (vR l2), some (vR l3), some (vI l4), some (vI y0), none]) rfl rfl rfl rfl ?_
  refine wp_aload rfl rfl rfl ?_
  refine wp_aload rfl rfl rfl ?_
  refine wp_iload rfl rfl rfl ?_
  refine wp_const rfl rfl ?_
  refine wp_iadd rfl rfl ?_
  obtain ⟨i2, b9, F⟩ := F
  refine wp_saload rfl b9 rfl ?_
  refine wp_aload rfl rfl rfl ?_
  refine wp_iload rfl rfl rfl ?_
  refine wp_const rfl rfl ?_
  refine wp_iadd rfl rfl ?_
  obtain ⟨i3, b9, F⟩ := F
  refine wp_saload rfl b9 rfl ?_
  obtain ⟨f0, F⟩ := F
  obtain ⟨f1, F⟩ := F
  refine wp_callI rfl rfl rfl (rcv_v f0 f1 (by decide) (by decide)) rfl rfl rfl rfl ?_
  refine CI.mono F (fun y1 h1 F => ?_) (fun _ _ w => rx_I w)
  refine wp_istore (L2 := [some (vR l0), some (vR l1), some (vR l2), some (vR l3), some (vI l4), some (vI y0), some (vI y1)]) rfl rfl rfl rfl ?_
  refine wp_aload rfl rfl rfl ?_
  obtain ⟨f2, F⟩ := F
  refine wp_callI rfl rfl rfl (rcv_v f0 f2 (by decide) (by decide)) rfl rfl rfl rfl ?_
  refine CI.mono F (fun y2 h2 F => ?_) (fun _ _ w => rx_I w)
  refine wp_iload rfl rfl rfl ?_
  refine wp_icmp_eq rfl rfl rfl rfl rfl (fun c => ?_) (fun c => ?_)
  · replace F := F.1 c
    refine wp_iload rfl rfl rfl ?_
    refine wp_if_ne rfl rfl rfl rfl (fun c => ?_) (fun c => ?_)
    · replace F := F.1 c
      refine wp_aload rfl rfl rfl ?_
      refine wp_const rfl rfl ?_
      refine wp_laload rfl F.1 rfl ?_
      replace F := F.2
      refine wp_iload rfl rfl rfl ?_
      refine wp_i2l rfl rfl ?_
      refine wp_lcmp_eq rfl rfl rfl rfl rfl rfl rfl (fun c => ?_) (fun c => ?_)
      · replace F := F.1 c
        refine wp_goto' (L' := [some (vR l0), some (vR l1), some (vR l2), some (vR l3), some (vI l4), none, none]) rfl rfl rfl ?_
        exact F
      · replace F := F.2 c
        refine wp_const rfl rfl ?_
        exact wp_retI rfl (Or.inr rfl) F
    · replace F := F.2 c
      refine wp_goto' (L' := [some (vR l0), some (vR l1), some (vR l2), some (vR l3), some (vI l4), none, none]) rfl rfl rfl ?_
      exact F
  · replace F := F.2 c
    refine wp_const rfl rfl ?_
    exact wp_retI rfl (Or.inr rfl) F
theorem w328_1092 {d : Nat} {l0 : Nat} {l1 : Nat} {l2 : Nat} {l3 : Nat} {l4 : Int32} {h : aH} {K : Int32 → aH → Prop} {X : Nat → aH → Prop} (F : ∃ i0 : Nat, inB h 105 l0 (l4 + 1) i0 ∧ CI d 163 [vR l1, vI (gI h l0 i0), vR l3] h (fun y0 h0 => ∃ i1 : Nat, inB h0 105 l0 (l4 + 1) i1 ∧ 8 ≤ l2 ∧ gK h0 l2 = 14 ∧ CI d 164 [vR l2, vI (gI h0 l0 i1)] h0 (fun y1 h1 => gK h1 l2 = 14 ∧ CI d 17 [vR l2] h1 (fun y2 h2 => ((y2.toInt = y0.toInt → ((y0.toInt = 0 → inB h2 101 l3 0 0 ∧ (((gJ h2 l3 0).toInt = (y1.toInt64).toInt → Wp (d + 1) 328 (3074, [some (vR l0), some (vR l1), some (vR l2), some (vR l3), some (vI l4), none, none], [], h2) (RI K X)) ∧ (¬ (gJ h2 l3 0).toInt = (y1.toInt64).toInt → K 0 h2))) ∧ (¬ y0.toInt = 0 → Wp (d + 1) 328 (3074, [some (vR l0), some (vR l1), some (vR l2), some (vR l3), some (vI l4), none, none], [], h2) (RI K X)))) ∧ (¬ y2.toInt = y0.toInt → K 0 h2))) X) X) X) : Wp (d + 1) 328 (1092, [some (vR l0), some (vR l1), some (vR l2), some (vR l3), some (vI l4), none, none], [], h) (RI K X) := by
  refine wp_aload' (L' := [some (vR l0), some (vR l1), some (vR l2), some (vR l3), some (vI l4), none, none]) rfl rfl rfl rfl ?_
  refine wp_aload rfl rfl rfl ?_
  refine wp_iload rfl rfl rfl ?_
  refine wp_const rfl rfl ?_
  refine wp_iadd rfl rfl ?_
  obtain ⟨i0, b9, F⟩ := F
  refine wp_saload rfl b9 rfl ?_
  refine wp_aload rfl rfl rfl ?_
  refine wp_callI rfl rfl rfl rfl rfl rfl rfl rfl ?_
  refine CI.mono F (fun y0 h0 F => ?_) (fun _ _ w => rx_I w)
  refine wp_istore (L2 := [some (vR l0), some (vR l1), some (vR l2), some (vR l3), some (vI l4), some (vI y0), none]) rfl rfl rfl rfl ?_
  refine wp_aload rfl rfl rfl ?_
  refine wp_aload rfl rfl rfl ?_
  refine wp_iload rfl rfl rfl ?_
  refine wp_const rfl rfl ?_
  refine wp_iadd rfl rfl ?_
  obtain ⟨i1, b9, F⟩ := F
  refine wp_saload rfl b9 rfl ?_
  obtain ⟨f0, F⟩ := F
  obtain ⟨f1, F⟩ := F
  refine wp_callI rfl rfl rfl (rcv_v f0 f1 (by decide) (by decide)) rfl rfl rfl rfl ?_
  refine CI.mono F (fun y1 h1 F => ?_) (fun _ _ w => rx_I w)
  refine wp_istore (L2 := [some (vR l0), some (vR l1), some (vR l2), some (vR l3), some (vI l4), some (vI y0), some (vI y1)]) rfl rfl rfl rfl ?_
  refine wp_aload rfl rfl rfl ?_
  obtain ⟨f2, F⟩ := F
  refine wp_callI rfl rfl rfl (rcv_v f0 f2 (by decide) (by decide)) rfl rfl rfl rfl ?_
  refine CI.mono F (fun y2 h2 F => ?_) (fun _ _ w => rx_I w)
  refine wp_iload rfl rfl rfl ?_
  refine wp_icmp_eq rfl rfl rfl rfl rfl (fun c => ?_) (fun c => ?_)
  · replace F := F.1 c
    refine wp_iload rfl rfl rfl ?_
    refine wp_if_ne rfl rfl rfl rfl (fun c => ?_) (fun c => ?_)
    · replace F := F.1 c
      refine wp_aload rfl rfl rfl ?_
      refine wp_const rfl rfl ?_
      refine wp_laload rfl F.1 rfl ?_
      replace F := F.2
      refine wp_iload rfl rfl rfl ?_
      refine wp_i2l rfl rfl ?_
      refine wp_lcmp_eq rfl rfl rfl rfl rfl rfl rfl (fun c => ?_) (fun c => ?_)
      · replace F := F.1 c
        refine wp_goto' (L' := [some (vR l0), some (vR l1), some (vR l2), some (vR l3), some (vI l4), none, none]) rfl rfl rfl ?_
        exact F
      · replace F := F.2 c
        refine wp_const rfl rfl ?_
        exact wp_retI rfl (Or.inr rfl) F
    · replace F := F.2 c
      refine wp_goto' (L' := [some (vR l0), some (vR l1), some (vR l2), some (vR l3), some (vI l4), none, none]) rfl rfl rfl ?_
      exact F
  · replace F := F.2 c
    refine wp_const rfl rfl ?_
    exact wp_retI rfl (Or.inr rfl) F
theorem w328_1148 {d : Nat} {l0 : Nat} {l1 : Nat} {l2 : Nat} {l3 : Nat} {l4 : Int32} {h : aH} {K : Int32 → aH → Prop} {X : Nat → aH → Prop} (F : ∃ i0 : Nat, inB h 105 l0 (l4 + 1) i0 ∧ ∃ i1 : Nat, inB h 105 l0 (l4 + 2) i1 ∧ ∃ i2 : Nat, inB h 105 l0 (l4 + 3) i2 ∧ (((gI h l0 i2).toInt = 0 → CI d 166 [vR l1, vI (gI h l0 i0), vI (gI h l0 i1), vI 0, vR l3] h (fun y0 h0 => ∃ i3 : Nat, inB h0 105 l0 (l4 + 1) i3 ∧ ∃ i4 : Nat, inB h0 105 l0 (l4 + 2) i4 ∧ ∃ i5 : Nat, inB h0 105 l0 (l4 + 3) i5 ∧ (((gI h0 l0 i5).toInt = 0 → Wp (d + 1) 328 (1208, [some (vR l0), some (vR l1), some (vR l2), some (vR l3), some (vI l4), some (vI y0), none], [vI 0, vI (gI h0 l0 i4), vI (gI h0 l0 i3), vR l2], h0) (RI K X)) ∧ (¬ (gI h0 l0 i5).toInt = 0 → Wp (d + 1) 328 (1208, [some (vR l0), some (vR l1), some (vR l2), some (vR l3), some (vI l4), some (vI y0), none], [vI 1, vI (gI h0 l0 i4), vI (gI h0 l0 i3), vR l2], h0) (RI K X)))) X) ∧ (¬ (gI h l0 i2).toInt = 0 → CI d 166 [vR l1, vI (gI h l0 i0), vI (gI h l0 i1), vI 1, vR l3] h (fun y1 h1 => ∃ i6 : Nat, inB h1 105 l0 (l4 + 1) i6 ∧ ∃ i7 : Nat, inB h1 105 l0 (l4 + 2) i7 ∧ ∃ i8 : Nat, inB h1 105 l0 (l4 + 3) i8 ∧ (((gI h1 l0 i8).toInt = 0 → Wp (d + 1) 328 (1208, [some (vR l0), some (vR l1), some (vR l2), some (vR l3), some (vI l4), some (vI y1), none], [vI 0, vI (gI h1 l0 i7), vI (gI h1 l0 i6), vR l2], h1) (RI K X)) ∧ (¬ (gI h1 l0 i8).toInt = 0 → Wp (d + 1) 328 (1208, [some (vR l0), some (vR l1), some (vR l2), some (vR l3), some (vI l4), some (vI y1), none], [vI 1, vI (gI h1 l0 i7), vI (gI h1 l0 i6), vR l2], h1) (RI K X)))) X))) : Wp (d + 1) 328 (1148, [some (vR l0), some (vR l1), some (vR l2), some (vR l3), some (vI l4), none, none], [], h) (RI K X) := by
  refine wp_aload' (L' := [some (vR l0), some (vR l1), some (vR l2), some (vR l3), some (vI l4), none, none]) rfl rfl rfl rfl ?_
  refine wp_aload rfl rfl rfl ?_
  refine wp_iload rfl rfl rfl ?_
  refine wp_const rfl rfl ?_
  refine wp_iadd rfl rfl ?_
  obtain ⟨i0, b9, F⟩ := F
  refine wp_saload rfl b9 rfl ?_
  refine wp_aload rfl rfl rfl ?_
  refine wp_iload rfl rfl rfl ?_
  refine wp_const rfl rfl ?_
  refine wp_iadd rfl rfl ?_
  obtain ⟨i1, b9, F⟩ := F
  refine wp_saload rfl b9 rfl ?_
  refine wp_aload rfl rfl rfl ?_
  refine wp_iload rfl rfl rfl ?_
  refine wp_const rfl rfl ?_
  refine wp_iadd rfl rfl ?_
  obtain ⟨i2, b9, F⟩ := F
  refine wp_saload rfl b9 rfl ?_
  refine wp_if_eq rfl rfl rfl rfl (fun c => ?_) (fun c => ?_)
  · replace F := F.1 c
    refine wp_const' (L' := [some (vR l0), some (vR l1), some (vR l2), some (vR l3), some (vI l4), none, none]) rfl rfl rfl ?_
    refine wp_aload' (L' := [some (vR l0), some (vR l1), some (vR l2), some (vR l3), some (vI l4), none, none]) rfl rfl rfl rfl ?_
    refine wp_callI rfl rfl rfl rfl rfl rfl rfl rfl ?_
    refine CI.mono F (fun y0 h0 F => ?_) (fun _ _ w => rx_I w)
    refine wp_istore (L2 := [some (vR l0), some (vR l1), some (vR l2), some (vR l3), some (vI l4), some (vI y0), none]) rfl rfl rfl rfl ?_
    refine wp_aload rfl rfl rfl ?_
    refine wp_aload rfl rfl rfl ?_
    refine wp_iload rfl rfl rfl ?_
    refine wp_const rfl rfl ?_
    refine wp_iadd rfl rfl ?_
    obtain ⟨i3, b9, F⟩ := F
    refine wp_saload rfl b9 rfl ?_
    refine wp_aload rfl rfl rfl ?_
    refine wp_iload rfl rfl rfl ?_
    refine wp_const rfl rfl ?_
    refine wp_iadd rfl rfl ?_
    obtain ⟨i4, b9, F⟩ := F
    refine wp_saload rfl b9 rfl ?_
    refine wp_aload rfl rfl rfl ?_
    refine wp_iload rfl rfl rfl ?_
    refine wp_const rfl rfl ?_
    refine wp_iadd rfl rfl ?_
    obtain ⟨i5, b9, F⟩ := F
    refine wp_saload rfl b9 rfl ?_
    refine wp_if_eq rfl rfl rfl rfl (fun c => ?_) (fun c => ?_)
    · replace F := F.1 c
      refine wp_const' (L' := [some (vR l0), some (vR l1), some (vR l2), some (vR l3), some (vI l4), some (vI y0), none]) rfl rfl rfl ?_
      exact F
    · replace F := F.2 c
      refine wp_const rfl rfl ?_
      refine wp_goto rfl rfl ?_
      exact F
  · replace F := F.2 c
    refine wp_const rfl rfl ?_
    refine wp_goto rfl rfl ?_
    refine wp_aload' (L' := [some (vR l0), some (vR l1), some (vR l2), some (vR l3), some (vI l4), none, none]) rfl rfl rfl rfl ?_
    refine wp_callI rfl rfl rfl rfl rfl rfl rfl rfl ?_
    refine CI.mono F (fun y1 h1 F => ?_) (fun _ _ w => rx_I w)
    refine wp_istore (L2 := [some (vR l0), some (vR l1), some (vR l2), some (vR l3), some (vI l4), some (vI y1), none]) rfl rfl rfl rfl ?_
    refine wp_aload rfl rfl rfl ?_
    refine wp_aload rfl rfl rfl ?_
    refine wp_iload rfl rfl rfl ?_
    refine wp_const rfl rfl ?_
    refine wp_iadd rfl rfl ?_
    obtain ⟨i6, b9, F⟩ := F
    refine wp_saload rfl b9 rfl ?_
    refine wp_aload rfl rfl rfl ?_
    refine wp_iload rfl rfl rfl ?_
    refine wp_const rfl rfl ?_
    refine wp_iadd rfl rfl ?_
    obtain ⟨i7, b9, F⟩ := F
    refine wp_saload rfl b9 rfl ?_
    refine wp_aload rfl rfl rfl ?_
    refine wp_iload rfl rfl rfl ?_
    refine wp_const rfl rfl ?_
    refine wp_iadd rfl rfl ?_
    obtain ⟨i8, b9, F⟩ := F
    refine wp_saload rfl b9 rfl ?_
    refine wp_if_eq rfl rfl rfl rfl (fun c => ?_) (fun c => ?_)
    · replace F := F.1 c
      refine wp_const' (L' := [some (vR l0), some (vR l1), some (vR l2), some (vR l3), some (vI l4), some (vI y1), none]) rfl rfl rfl ?_
      exact F
    · replace F := F.2 c
      refine wp_const rfl rfl ?_
      refine wp_goto rfl rfl ?_
      exact F
theorem w328_1244 {d : Nat} {l0 : Nat} {l1 : Nat} {l2 : Nat} {l3 : Nat} {l4 : Int32} {h : aH} {K : Int32 → aH → Prop} {X : Nat → aH → Prop} (F : ∃ i0 : Nat, inB h 105 l0 (l4 + 1) i0 ∧ CI d 170 [vR l1, vI (gI h l0 i0), vR l3] h (fun y0 h0 => ∃ i1 : Nat, inB h0 105 l0 (l4 + 1) i1 ∧ 8 ≤ l2 ∧ gK h0 l2 = 14 ∧ CI d 171 [vR l2, vI (gI h0 l0 i1)] h0 (fun y1 h1 => gK h1 l2 = 14 ∧ CI d 17 [vR l2] h1 (fun y2 h2 => ((y2.toInt = y0.toInt → ((y0.toInt = 0 → inB h2 101 l3 0 0 ∧ (((gJ h2 l3 0).toInt = (y1.toInt64).toInt → Wp (d + 1) 328 (3074, [some (vR l0), some (vR l1), some (vR l2), some (vR l3), some (vI l4), none, none], [], h2) (RI K X)) ∧ (¬ (gJ h2 l3 0).toInt = (y1.toInt64).toInt → K 0 h2))) ∧ (¬ y0.toInt = 0 → Wp (d + 1) 328 (3074, [some (vR l0), some (vR l1), some (vR l2), some (vR l3), some (vI l4), none, none], [], h2) (RI K X)))) ∧ (¬ y2.toInt = y0.toInt → K 0 h2))) X) X) X) : Wp (d + 1) 328 (1244, [some (vR l0), some (vR l1), some (vR l2), some (vR l3), some (vI l4), none, none], [], h) (RI K X) := by
  refine wp_aload' (L' := [some (vR l0), some (vR l1), some (vR l2), some (vR l3), some (vI l4), none, none]) rfl rfl rfl rfl ?_
  refine wp_aload rfl rfl rfl ?_
  refine wp_iload rfl rfl rfl ?_
  refine wp_const rfl rfl ?_
  refine wp_iadd rfl rfl ?_
  obtain ⟨i0, b9, F⟩ := F
  refine wp_saload rfl b9 rfl ?_
  refine wp_aload rfl rfl rfl ?_
  refine wp_callI rfl rfl rfl rfl rfl rfl rfl rfl ?_
  refine CI.mono F (fun y0 h0 F => ?_) (fun _ _ w => rx_I w)
  refine wp_istore (L2 := [some (vR l0), some (vR l1), some (vR l2), some (vR l3), some (vI l4), some (vI y0), none]) rfl rfl rfl rfl ?_
  refine wp_aload rfl rfl rfl ?_
  refine wp_aload rfl rfl rfl ?_
  refine wp_iload rfl rfl rfl ?_
  refine wp_const rfl rfl ?_
  refine wp_iadd rfl rfl ?_
  obtain ⟨i1, b9, F⟩ := F
  refine wp_saload rfl b9 rfl ?_
  obtain ⟨f0, F⟩ := F
  obtain ⟨f1, F⟩ := F
  refine wp_callI rfl rfl rfl (rcv_v f0 f1 (by decide) (by decide)) rfl rfl rfl rfl ?_
  refine CI.mono F (fun y1 h1 F => ?_) (fun _ _ w => rx_I w)
  refine wp_istore (L2 := [some (vR l0), some (vR l1), some (vR l2), some (vR l3), some (vI l4), some (vI y0), some (vI y1)]) rfl rfl rfl rfl ?_
  refine wp_aload rfl rfl rfl ?_
  obtain ⟨f2, F⟩ := F
  refine wp_callI rfl rfl rfl (rcv_v f0 f2 (by decide) (by decide)) rfl rfl rfl rfl ?_
  refine CI.mono F (fun y2 h2 F => ?_) (fun _ _ w => rx_I w)
  refine wp_iload rfl rfl rfl ?_
  refine wp_icmp_eq rfl rfl rfl rfl rfl (fun c => ?_) (fun c => ?_)
  · replace F := F.1 c
    refine wp_iload rfl rfl rfl ?_
    refine wp_if_ne rfl rfl rfl rfl (fun c => ?_) (fun c => ?_)
    · replace F := F.1 c
      refine wp_aload rfl rfl rfl ?_
      refine wp_const rfl rfl ?_
      refine wp_laload rfl F.1 rfl ?_
      replace F := F.2
      refine wp_iload rfl rfl rfl ?_
      refine wp_i2l rfl rfl ?_
      refine wp_lcmp_eq rfl rfl rfl rfl rfl rfl rfl (fun c => ?_) (fun c => ?_)
      · replace F := F.1 c
        refine wp_goto' (L' := [some (vR l0), some (vR l1), some (vR l2), some (vR l3), some (vI l4), none, none]) rfl rfl rfl ?_
        exact F
      · replace F := F.2 c
        refine wp_const rfl rfl ?_
        exact wp_retI rfl (Or.inr rfl) F
    · replace F := F.2 c
      refine wp_goto' (L' := [some (vR l0), some (vR l1), some (vR l2), some (vR l3), some (vI l4), none, none]) rfl rfl rfl ?_
      exact F
  · replace F := F.2 c
    refine wp_const rfl rfl ?_
    exact wp_retI rfl (Or.inr rfl) F
theorem w328_1300 {d : Nat} {l0 : Nat} {l1 : Nat} {l2 : Nat} {l3 : Nat} {l4 : Int32} {h : aH} {K : Int32 → aH → Prop} {X : Nat → aH → Prop} (F : ∃ i0 : Nat, inB h 105 l0 (l4 + 1) i0 ∧ ∃ i1 : Nat, inB h 105 l0 (l4 + 2) i1 ∧ CI d 174 [vR l1, vI (gI h l0 i0), vI (gI h l0 i1), vR l3] h (fun y0 h0 => ∃ i2 : Nat, inB h0 105 l0 (l4 + 1) i2 ∧ ∃ i3 : Nat, inB h0 105 l0 (l4 + 2) i3 ∧ 8 ≤ l2 ∧ gK h0 l2 = 14 ∧ CI d 177 [vR l2, vI (gI h0 l0 i2), vI (gI h0 l0 i3)] h0 (fun y1 h1 => gK h1 l2 = 14 ∧ CI d 17 [vR l2] h1 (fun y2 h2 => ((y2.toInt = y0.toInt → ((y0.toInt = 0 → inB h2 101 l3 0 0 ∧ (((gJ h2 l3 0).toInt = (y1.toInt64).toInt → Wp (d + 1) 328 (3074, [some (vR l0), some (vR l1), some (vR l2), some (vR l3), some (vI l4), none, none], [], h2) (RI K X)) ∧ (¬ (gJ h2 l3 0).toInt = (y1.toInt64).toInt → K 0 h2))) ∧ (¬ y0.toInt = 0 → Wp (d + 1) 328 (3074, [some (vR l0), some (vR l1), some (vR l2), some (vR l3), some (vI l4), none, none], [], h2) (RI K X)))) ∧ (¬ y2.toInt = y0.toInt → K 0 h2))) X) X) X) : Wp (d + 1) 328 (1300, [some (vR l0), some (vR l1), some (vR l2), some (vR l3), some (vI l4), none, none], [], h) (RI K X) := by
  refine wp_aload' (L' := [some (vR l0), some (vR l1), some (vR l2), some (vR l3), some (vI l4), none, none]) rfl rfl rfl rfl ?_
  refine wp_aload rfl rfl rfl ?_
  refine wp_iload rfl rfl rfl ?_
  refine wp_const rfl rfl ?_
  refine wp_iadd rfl rfl ?_
  obtain ⟨i0, b9, F⟩ := F
  refine wp_saload rfl b9 rfl ?_
  refine wp_aload rfl rfl rfl ?_
  refine wp_iload rfl rfl rfl ?_
  refine wp_const rfl rfl ?_
  refine wp_iadd rfl rfl ?_
  obtain ⟨i1, b9, F⟩ := F
  refine wp_saload rfl b9 rfl ?_
  refine wp_aload rfl rfl rfl ?_
  refine wp_callI rfl rfl rfl rfl rfl rfl rfl rfl ?_
  refine CI.mono F (fun y0 h0 F => ?_) (fun _ _ w => rx_I w)
  refine wp_istore (L2 := [some (vR l0), some (vR l1), some (vR l2), some (vR l3), some (vI l4), some (vI y0), none]) rfl rfl rfl rfl ?_
  refine wp_aload rfl rfl rfl ?_
  refine wp_aload rfl rfl rfl ?_
  refine wp_iload rfl rfl rfl ?_
  refine wp_const rfl rfl ?_
  refine wp_iadd rfl rfl ?_
  obtain ⟨i2, b9, F⟩ := F
  refine wp_saload rfl b9 rfl ?_
  refine wp_aload rfl rfl rfl ?_
  refine wp_iload rfl rfl rfl ?_
  refine wp_const rfl rfl ?_
  refine wp_iadd rfl rfl ?_
  obtain ⟨i3, b9, F⟩ := F
  refine wp_saload rfl b9 rfl ?_
  obtain ⟨f0, F⟩ := F
  obtain ⟨f1, F⟩ := F
  refine wp_callI rfl rfl rfl (rcv_v f0 f1 (by decide) (by decide)) rfl rfl rfl rfl ?_
  refine CI.mono F (fun y1 h1 F => ?_) (fun _ _ w => rx_I w)
  refine wp_istore (L2 := [some (vR l0), some (vR l1), some (vR l2), some (vR l3), some (vI l4), some (vI y0), some (vI y1)]) rfl rfl rfl rfl ?_
  refine wp_aload rfl rfl rfl ?_
  obtain ⟨f2, F⟩ := F
  refine wp_callI rfl rfl rfl (rcv_v f0 f2 (by decide) (by decide)) rfl rfl rfl rfl ?_
  refine CI.mono F (fun y2 h2 F => ?_) (fun _ _ w => rx_I w)
  refine wp_iload rfl rfl rfl ?_
  refine wp_icmp_eq rfl rfl rfl rfl rfl (fun c => ?_) (fun c => ?_)
  · replace F := F.1 c
    refine wp_iload rfl rfl rfl ?_
    refine wp_if_ne rfl rfl rfl rfl (fun c => ?_) (fun c => ?_)
    · replace F := F.1 c
      refine wp_aload rfl rfl rfl ?_
      refine wp_const rfl rfl ?_
      refine wp_laload rfl F.1 rfl ?_
      replace F := F.2
      refine wp_iload rfl rfl rfl ?_
      refine wp_i2l rfl rfl ?_
      refine wp_lcmp_eq rfl rfl rfl rfl rfl rfl rfl (fun c => ?_) (fun c => ?_)
      · replace F := F.1 c
        refine wp_goto' (L' := [some (vR l0), some (vR l1), some (vR l2), some (vR l3), some (vI l4), none, none]) rfl rfl rfl ?_
        exact F
      · replace F := F.2 c
        refine wp_const rfl rfl ?_
        exact wp_retI rfl (Or.inr rfl) F
    · replace F := F.2 c
      refine wp_goto' (L' := [some (vR l0), some (vR l1), some (vR l2), some (vR l3), some (vI l4), none, none]) rfl rfl rfl ?_
      exact F
  · replace F := F.2 c
    refine wp_const rfl rfl ?_
    exact wp_retI rfl (Or.inr rfl) F
theorem w328_1368 {d : Nat} {l0 : Nat} {l1 : Nat} {l2 : Nat} {l3 : Nat} {l4 : Int32} {h : aH} {K : Int32 → aH → Prop} {X : Nat → aH → Prop} (F : ∃ i0 : Nat, inB h 105 l0 (l4 + 1) i0 ∧ ∃ i1 : Nat, inB h 105 l0 (l4 + 2) i1 ∧ CI d 179 [vR l1, vI (gI h l0 i0), vI (gI h l0 i1), vR l3] h (fun y0 h0 => ∃ i2 : Nat, inB h0 105 l0 (l4 + 1) i2 ∧ ∃ i3 : Nat, inB h0 105 l0 (l4 + 2) i3 ∧ 8 ≤ l2 ∧ gK h0 l2 = 14 ∧ CI d 180 [vR l2, vI (gI h0 l0 i2), vI (gI h0 l0 i3)] h0 (fun y1 h1 => gK h1 l2 = 14 ∧ CI d 17 [vR l2] h1 (fun y2 h2 => ((y2.toInt = y0.toInt → ((y0.toInt = 0 → inB h2 101 l3 0 0 ∧ (((gJ h2 l3 0).toInt = (y1.toInt64).toInt → Wp (d + 1) 328 (3074, [some (vR l0), some (vR l1), some (vR l2), some (vR l3), some (vI l4), none, none], [], h2) (RI K X)) ∧ (¬ (gJ h2 l3 0).toInt = (y1.toInt64).toInt → K 0 h2))) ∧ (¬ y0.toInt = 0 → Wp (d + 1) 328 (3074, [some (vR l0), some (vR l1), some (vR l2), some (vR l3), some (vI l4), none, none], [], h2) (RI K X)))) ∧ (¬ y2.toInt = y0.toInt → K 0 h2))) X) X) X) : Wp (d + 1) 328 (1368, [some (vR l0), some (vR l1), some (vR l2), some (vR l3), some (vI l4), none, none], [], h) (RI K X) := by
  refine wp_aload' (L' := [some (vR l0), some (vR l1), some (vR l2), some (vR l3), some (vI l4), none, none]) rfl rfl rfl rfl ?_
  refine wp_aload rfl rfl rfl ?_
  refine wp_iload rfl rfl rfl ?_
  refine wp_const rfl rfl ?_
  refine wp_iadd rfl rfl ?_
  obtain ⟨i0, b9, F⟩ := F
  refine wp_saload rfl b9 rfl ?_
  refine wp_aload rfl rfl rfl ?_
  refine wp_iload rfl rfl rfl ?_
  refine wp_const rfl rfl ?_
  refine wp_iadd rfl rfl ?_
  obtain ⟨i1, b9, F⟩ := F
  refine wp_saload rfl b9 rfl ?_
  refine wp_aload rfl rfl rfl ?_
  refine wp_callI rfl rfl rfl rfl rfl rfl rfl rfl ?_
  refine CI.mono F (fun y0 h0 F => ?_) (fun _ _ w => rx_I w)
  refine wp_istore (L2 := [some (vR l0), some (vR l1), some (vR l2), some (vR l3), some (vI l4), some (vI y0), none]) rfl rfl rfl rfl ?_
  refine wp_aload rfl rfl rfl ?_
  refine wp_aload rfl rfl rfl ?_
  refine wp_iload rfl rfl rfl ?_
  refine wp_const rfl rfl ?_
  refine wp_iadd rfl rfl ?_
  obtain ⟨i2, b9, F⟩ := F
  refine wp_saload rfl b9 rfl ?_
  refine wp_aload rfl rfl rfl ?_
  refine wp_iload rfl rfl rfl ?_
  refine wp_const rfl rfl ?_
  refine wp_iadd rfl rfl ?_
  obtain ⟨i3, b9, F⟩ := F
  refine wp_saload rfl b9 rfl ?_
  obtain ⟨f0, F⟩ := F
  obtain ⟨f1, F⟩ := F
  refine wp_callI rfl rfl rfl (rcv_v f0 f1 (by decide) (by decide)) rfl rfl rfl rfl ?_
  refine CI.mono F (fun y1 h1 F => ?_) (fun _ _ w => rx_I w)
  refine wp_istore (L2 := [some (vR l0), some (vR l1), some (vR l2), some (vR l3), some (vI l4), some (vI y0), some (vI y1)]) rfl rfl rfl rfl ?_
  refine wp_aload rfl rfl rfl ?_
  obtain ⟨f2, F⟩ := F
  refine wp_callI rfl rfl rfl (rcv_v f0 f2 (by decide) (by decide)) rfl rfl rfl rfl ?_
  refine CI.mono F (fun y2 h2 F => ?_) (fun _ _ w => rx_I w)
  refine wp_iload rfl rfl rfl ?_
  refine wp_icmp_eq rfl rfl rfl rfl rfl (fun c => ?_) (fun c => ?_)
  · replace F := F.1 c
    refine wp_iload rfl rfl rfl ?_
    refine wp_if_ne rfl rfl rfl rfl (fun c => ?_) (fun c => ?_)
    · replace F := F.1 c
      refine wp_aload rfl rfl rfl ?_
      refine wp_const rfl rfl ?_
      refine wp_laload rfl F.1 rfl ?_
      replace F := F.2
      refine wp_iload rfl rfl rfl ?_
      refine wp_i2l rfl rfl ?_
      refine wp_lcmp_eq rfl rfl rfl rfl rfl rfl rfl (fun c => ?_) (fun c => ?_)
      · replace F := F.1 c
        refine wp_goto' (L' := [some (vR l0), some (vR l1), some (vR l2), some (vR l3), some (vI l4), none, none]) rfl rfl rfl ?_
        exact F
      · replace F := F.2 c
        refine wp_const rfl rfl ?_
        exact wp_retI rfl (Or.inr rfl) F
    · replace F := F.2 c
      refine wp_goto' (L' := [some (vR l0), some (vR l1), some (vR l2), some (vR l3), some (vI l4), none, none]) rfl rfl rfl ?_
      exact F
  · replace F := F.2 c
    refine wp_const rfl rfl ?_
    exact wp_retI rfl (Or.inr rfl) F
theorem w328_1436 {d : Nat} {l0 : Nat} {l1 : Nat} {l2 : Nat} {l3 : Nat} {l4 : Int32} {h : aH} {K : Int32 → aH → Prop} {X : Nat → aH → Prop} (F : ∃ i0 : Nat, inB h 105 l0 (l4 + 1) i0 ∧ ∃ i1 : Nat, inB h 105 l0 (l4 + 2) i1 ∧ ∃ i2 : Nat, inB h 105 l0 (l4 + 3) i2 ∧ ∃ i3 : Nat, inB h 105 l0 (l4 + 4) i3 ∧ CI d 185 [vR l1, vI (gI h l0 i0), vI (gI h l0 i1), vI (gI h l0 i2), vI (gI h l0 i3), vR l3] h (fun y0 h0 => ∃ i4 : Nat, inB h0 105 l0 (l4 + 1) i4 ∧ ∃ i5 : Nat, inB h0 105 l0 (l4 + 2) i5 ∧ ∃ i6 : Nat, inB h0 105 l0 (l4 + 3) i6 ∧ ∃ i7 : Nat, inB h0 105 l0 (l4 + 4) i7 ∧ 8 ≤ l2 ∧ gK h0 l2 = 14 ∧ CI d 187 [vR l2, vI (gI h0 l0 i4), vI (gI h0 l0 i5), vI (gI h0 l0 i6), vI (gI h0 l0 i7)] h0 (fun y1 h1 => gK h1 l2 = 14 ∧ CI d 17 [vR l2] h1 (fun y2 h2 => ((y2.toInt = y0.toInt → ((y0.toInt = 0 → inB h2 101 l3 0 0 ∧ (((gJ h2 l3 0).toInt = (y1.toInt64).toInt → Wp (d + 1) 328 (3074, [some (vR l0), some (vR l1), some (vR l2), some (vR l3), some (vI l4), none, none], [], h2) (RI K X)) ∧ (¬ (gJ h2 l3 0).toInt = (y1.toInt64).toInt → K 0 h2))) ∧ (¬ y0.toInt = 0 → Wp (d + 1) 328 (3074, [some (vR l0), some (vR l1), some (vR l2), some (vR l3), some (vI l4), none, none], [], h2) (RI K X)))) ∧ (¬ y2.toInt = y0.toInt → K 0 h2))) X) X) X) : Wp (d + 1) 328 (1436, [some (vR l0), some (vR l1), some (vR l2), some (vR l3), some (vI l4), none, none], [], h) (RI K X) := by
  refine wp_aload' (L' := [some (vR l0), some (vR l1), some (vR l2), some (vR l3), some (vI l4), none, none]) rfl rfl rfl rfl ?_
  refine wp_aload rfl rfl rfl ?_
  refine wp_iload rfl rfl rfl ?_
  refine wp_const rfl rfl ?_
  refine wp_iadd rfl rfl ?_
  obtain ⟨i0, b9, F⟩ := F
  refine wp_saload rfl b9 rfl ?_
  refine wp_aload rfl rfl rfl ?_
  refine wp_iload rfl rfl rfl ?_
  refine wp_const rfl rfl ?_
  refine wp_iadd rfl rfl ?_
  obtain ⟨i1, b9, F⟩ := F
  refine wp_saload rfl b9 rfl ?_
  refine wp_aload rfl rfl rfl ?_
  refine wp_iload rfl rfl rfl ?_
  refine wp_const rfl rfl ?_
  refine wp_iadd rfl rfl ?_
  obtain ⟨i2, b9, F⟩ := F
  refine wp_saload rfl b9 rfl ?_
  refine wp_aload rfl rfl rfl ?_
  refine wp_iload rfl rfl rfl ?_
  refine wp_const rfl rfl ?_
  refine wp_iadd rfl rfl ?_
  obtain ⟨i3, b9, F⟩ := F
  refine wp_saload rfl b9 rfl ?_
  refine wp_aload rfl rfl rfl ?_
  refine wp_callI rfl rfl rfl rfl rfl rfl rfl rfl ?_
  refine CI.mono F (fun y0 h0 F => ?_) (fun _ _ w => rx_I w)
  refine wp_istore (L2 := [some (vR l0), some (vR l1), some (vR l2), some (vR l3), some (vI l4), some (vI y0), none]) rfl rfl rfl rfl ?_
  refine wp_aload rfl rfl rfl ?_
  refine wp_aload rfl rfl rfl ?_
  refine wp_iload rfl rfl rfl ?_
  refine wp_const rfl rfl ?_
  refine wp_iadd rfl rfl ?_
  obtain ⟨i4, b9, F⟩ := F
  refine wp_saload rfl b9 rfl ?_
  refine wp_aload rfl rfl rfl ?_
  refine wp_iload rfl rfl rfl ?_
  refine wp_const rfl rfl ?_
  refine wp_iadd rfl rfl ?_
  obtain ⟨i5, b9, F⟩ := F
  refine wp_saload rfl b9 rfl ?_
  refine wp_aload rfl rfl rfl ?_
  refine wp_iload rfl rfl rfl ?_
  refine wp_const rfl rfl ?_
  refine wp_iadd rfl rfl ?_
  obtain ⟨i6, b9, F⟩ := F
  refine wp_saload rfl b9 rfl ?_
  refine wp_aload rfl rfl rfl ?_
  refine wp_iload rfl rfl rfl ?_
  refine wp_const rfl rfl ?_
  refine wp_iadd rfl rfl ?_
  obtain ⟨i7, b9, F⟩ := F
  refine wp_saload rfl b9 rfl ?_
  obtain ⟨f0, F⟩ := F
  obtain ⟨f1, F⟩ := F
  refine wp_callI rfl rfl rfl (rcv_v f0 f1 (by decide) (by decide)) rfl rfl rfl rfl ?_
  refine CI.mono F (fun y1 h1 F => ?_) (fun _ _ w => rx_I w)
  refine wp_istore (L2 := [some (vR l0), some (vR l1), some (vR l2), some (vR l3), some (vI l4), some (vI y0), some (vI y1)]) rfl rfl rfl rfl ?_
  refine wp_aload rfl rfl rfl ?_
  obtain ⟨f2, F⟩ := F
  refine wp_callI rfl rfl rfl (rcv_v f0 f2 (by decide) (by decide)) rfl rfl rfl rfl ?_
  refine CI.mono F (fun y2 h2 F => ?_) (fun _ _ w => rx_I w)
  refine wp_iload rfl rfl rfl ?_
  refine wp_icmp_eq rfl rfl rfl rfl rfl (fun c => ?_) (fun c => ?_)
  · replace F := F.1 c
    refine wp_iload rfl rfl rfl ?_
    refine wp_if_ne rfl rfl rfl rfl (fun c => ?_) (fun c => ?_)
    · replace F := F.1 c
      refine wp_aload rfl rfl rfl ?_
      refine wp_const rfl rfl ?_
      refine wp_laload rfl F.1 rfl ?_
      replace F := F.2
      refine wp_iload rfl rfl rfl ?_
      refine wp_i2l rfl rfl ?_
      refine wp_lcmp_eq rfl rfl rfl rfl rfl rfl rfl (fun c => ?_) (fun c => ?_)
      · replace F := F.1 c
        refine wp_goto' (L' := [some (vR l0), some (vR l1), some (vR l2), some (vR l3), some (vI l4), none, none]) rfl rfl rfl ?_
        exact F
      · replace F := F.2 c
        refine wp_const rfl rfl ?_
        exact wp_retI rfl (Or.inr rfl) F
    · replace F := F.2 c
      refine wp_goto' (L' := [some (vR l0), some (vR l1), some (vR l2), some (vR l3), some (vI l4), none, none]) rfl rfl rfl ?_
      exact F
  · replace F := F.2 c
    refine wp_const rfl rfl ?_
    exact wp_retI rfl (Or.inr rfl) F
theorem w328_1528 {d : Nat} {l0 : Nat} {l1 : Nat} {l2 : Nat} {l3 : Nat} {l4 : Int32} {h : aH} {K : Int32 → aH → Prop} {X : Nat → aH → Prop} (F : ∃ i0 : Nat, inB h 105 l0 (l4 + 1) i0 ∧ ∃ i1 : Nat, inB h 105 l0 (l4 + 2) i1 ∧ ∃ i2 : Nat, inB h 105 l0 (l4 + 3) i2 ∧ CI d 189 [vR l1, vI (gI h l0 i0), vI (gI h l0 i1), vI (gI h l0 i2), vR l3] h (fun y0 h0 => ∃ i3 : Nat, inB h0 105 l0 (l4 + 1) i3 ∧ ∃ i4 : Nat, inB h0 105 l0 (l4 + 2) i4 ∧ ∃ i5 : Nat, inB h0 105 l0 (l4 + 3) i5 ∧ 8 ≤ l2 ∧ gK h0 l2 = 14 ∧ CI d 190 [vR l2, vI (gI h0 l0 i3), vI (gI h0 l0 i4), vI (gI h0 l0 i5)] h0 (fun y1 h1 => gK h1 l2 = 14 ∧ CI d 17 [vR l2] h1 (fun y2 h2 => ((y2.toInt = y0.toInt → ((y0.toInt = 0 → inB h2 101 l3 0 0 ∧ (((gJ h2 l3 0).toInt = (y1.toInt64).toInt → Wp (d + 1) 328 (3074, [some (vR l0), some (vR l1), some (vR l2), some (vR l3), some (vI l4), none, none], [], h2) (RI K X)) ∧ (¬ (gJ h2 l3 0).toInt = (y1.toInt64).toInt → K 0 h2))) ∧ (¬ y0.toInt = 0 → Wp (d + 1) 328 (3074, [some (vR l0), some (vR l1), some (vR l2), some (vR l3), some (vI l4), none, none], [], h2) (RI K X)))) ∧ (¬ y2.toInt = y0.toInt → K 0 h2))) X) X) X) : Wp (d + 1) 328 (1528, [some (vR l0), some (vR l1), some (vR l2), some (vR l3), some (vI l4), none, none], [], h) (RI K X) := by
  refine wp_aload' (L' := [some (vR l0), some (vR l1), some (vR l2), some (vR l3), some (vI l4), none, none]) rfl rfl rfl rfl ?_
  refine wp_aload rfl rfl rfl ?_
  refine wp_iload rfl rfl rfl ?_
  refine wp_const rfl rfl ?_
  refine wp_iadd rfl rfl ?_
  obtain ⟨i0, b9, F⟩ := F
  refine wp_saload rfl b9 rfl ?_
  refine wp_aload rfl rfl rfl ?_
  refine wp_iload rfl rfl rfl ?_
  refine wp_const rfl rfl ?_
  refine wp_iadd rfl rfl ?_
  obtain ⟨i1, b9, F⟩ := F
  refine wp_saload rfl b9 rfl ?_
  refine wp_aload rfl rfl rfl ?_
  refine wp_iload rfl rfl rfl ?_
  refine wp_const rfl rfl ?_
  refine wp_iadd rfl rfl ?_
  obtain ⟨i2, b9, F⟩ := F
  refine wp_saload rfl b9 rfl ?_
  refine wp_aload rfl rfl rfl ?_
  refine wp_callI rfl rfl rfl rfl rfl rfl rfl rfl ?_
  refine CI.mono F (fun y0 h0 F => ?_) (fun _ _ w => rx_I w)
  refine wp_istore (L2 := [some (vR l0), some (vR l1), some (vR l2), some (vR l3), some (vI l4), some (vI y0), none]) rfl rfl rfl rfl ?_
  refine wp_aload rfl rfl rfl ?_
  refine wp_aload rfl rfl rfl ?_
  refine wp_iload rfl rfl rfl ?_
  refine wp_const rfl rfl ?_
  refine wp_iadd rfl rfl ?_
  obtain ⟨i3, b9, F⟩ := F
  refine wp_saload rfl b9 rfl ?_
  refine wp_aload rfl rfl rfl ?_
  refine wp_iload rfl rfl rfl ?_
  refine wp_const rfl rfl ?_
  refine wp_iadd rfl rfl ?_
  obtain ⟨i4, b9, F⟩ := F
  refine wp_saload rfl b9 rfl ?_
  refine wp_aload rfl rfl rfl ?_
  refine wp_iload rfl rfl rfl ?_
  refine wp_const rfl rfl ?_
  refine wp_iadd rfl rfl ?_
  obtain ⟨i5, b9, F⟩ := F
  refine wp_saload rfl b9 rfl ?_
  obtain ⟨f0, F⟩ := F
  obtain ⟨f1, F⟩ := F
  refine wp_callI rfl rfl rfl (rcv_v f0 f1 (by decide) (by decide)) rfl rfl rfl rfl ?_
  refine CI.mono F (fun y1 h1 F => ?_) (fun _ _ w => rx_I w)
  refine wp_istore (L2 := [some (vR l0), some (vR l1), some (vR l2), some (vR l3), some (vI l4), some (vI y0), some (vI y1)]) rfl rfl rfl rfl ?_
  refine wp_aload rfl rfl rfl ?_
  obtain ⟨f2, F⟩ := F
  refine wp_callI rfl rfl rfl (rcv_v f0 f2 (by decide) (by decide)) rfl rfl rfl rfl ?_
  refine CI.mono F (fun y2 h2 F => ?_) (fun _ _ w => rx_I w)
  refine wp_iload rfl rfl rfl ?_
  refine wp_icmp_eq rfl rfl rfl rfl rfl (fun c => ?_) (fun c => ?_)
  · replace F := F.1 c
    refine wp_iload rfl rfl rfl ?_
    refine wp_if_ne rfl rfl rfl rfl (fun c => ?_) (fun c => ?_)
    · replace F := F.1 c
      refine wp_aload rfl rfl rfl ?_
      refine wp_const rfl rfl ?_
      refine wp_laload rfl F.1 rfl ?_
      replace F := F.2
      refine wp_iload rfl rfl rfl ?_
      refine wp_i2l rfl rfl ?_
      refine wp_lcmp_eq rfl rfl rfl rfl rfl rfl rfl (fun c => ?_) (fun c => ?_)
      · replace F := F.1 c
        refine wp_goto' (L' := [some (vR l0), some (vR l1), some (vR l2), some (vR l3), some (vI l4), none, none]) rfl rfl rfl ?_
        exact F
      · replace F := F.2 c
        refine wp_const rfl rfl ?_
        exact wp_retI rfl (Or.inr rfl) F
    · replace F := F.2 c
      refine wp_goto' (L' := [some (vR l0), some (vR l1), some (vR l2), some (vR l3), some (vI l4), none, none]) rfl rfl rfl ?_
      exact F
  · replace F := F.2 c
    refine wp_const rfl rfl ?_
    exact wp_retI rfl (Or.inr rfl) F
theorem w328_1608 {d : Nat} {l0 : Nat} {l1 : Nat} {l2 : Nat} {l3 : Nat} {l4 : Int32} {h : aH} {K : Int32 → aH → Prop} {X : Nat → aH → Prop} (F : ∃ i0 : Nat, inB h 105 l0 (l4 + 1) i0 ∧ ∃ i1 : Nat, inB h 105 l0 (l4 + 2) i1 ∧ CI d 196 [vR l1, vI (gI h l0 i0), vI (gI h l0 i1), vR l3] h (fun y0 h0 => ∃ i2 : Nat, inB h0 105 l0 (l4 + 1) i2 ∧ ∃ i3 : Nat, inB h0 105 l0 (l4 + 2) i3 ∧ 8 ≤ l2 ∧ gK h0 l2 = 14 ∧ CI d 198 [vR l2, vI (gI h0 l0 i2), vI (gI h0 l0 i3)] h0 (fun y1 h1 => gK h1 l2 = 14 ∧ CI d 17 [vR l2] h1 (fun y2 h2 => ((y2.toInt = y0.toInt → ((y0.toInt = 0 → inB h2 101 l3 0 0 ∧ (((gJ h2 l3 0).toInt = (y1.toInt64).toInt → Wp (d + 1) 328 (3074, [some (vR l0), some (vR l1), some (vR l2), some (vR l3), some (vI l4), none, none], [], h2) (RI K X)) ∧ (¬ (gJ h2 l3 0).toInt = (y1.toInt64).toInt → K 0 h2))) ∧ (¬ y0.toInt = 0 → Wp (d + 1) 328 (3074, [some (vR l0), some (vR l1), some (vR l2), some (vR l3), some (vI l4), none, none], [], h2) (RI K X)))) ∧ (¬ y2.toInt = y0.toInt → K 0 h2))) X) X) X) : Wp (d + 1) 328 (1608, [some (vR l0), some (vR l1), some (vR l2), some (vR l3), some (vI l4), none, none], [], h) (RI K X) := by
  refine wp_aload' (L' := [some (vR l0), some (vR l1), some (vR l2), some (vR l3), some (vI l4), none, none]) rfl rfl rfl rfl ?_
  refine wp_aload rfl rfl rfl ?_
  refine wp_iload rfl rfl rfl ?_
  refine wp_const rfl rfl ?_
  refine wp_iadd rfl rfl ?_
  obtain ⟨i0, b9, F⟩ := F
  refine wp_saload rfl b9 rfl ?_
  refine wp_aload rfl rfl rfl ?_
  refine wp_iload rfl rfl rfl ?_
  refine wp_const rfl rfl ?_
  refine wp_iadd rfl rfl ?_
  obtain ⟨i1, b9, F⟩ := F
  refine wp_saload rfl b9 rfl ?_
  refine wp_aload rfl rfl rfl ?_
  refine wp_callI rfl rfl rfl rfl rfl rfl rfl rfl ?_
  refine CI.mono F (fun y0 h0 F => ?_) (fun _ _ w => rx_I w)
  refine wp_istore (L2 := [some (vR l0), some (vR l1), some (vR l2), some (vR l3), some (vI l4), some (vI y0), none]) rfl rfl rfl rfl ?_
  refine wp_aload rfl rfl rfl ?_
  refine wp_aload rfl rfl rfl ?_
  refine wp_iload rfl rfl rfl ?_
  refine wp_const rfl rfl ?_
  refine wp_iadd rfl rfl ?_
  obtain ⟨i2, b9, F⟩ := F
  refine wp_saload rfl b9 rfl ?_
  refine wp_aload rfl rfl rfl ?_
  refine wp_iload rfl rfl rfl ?_
  refine wp_const rfl rfl ?_
  refine wp_iadd rfl rfl ?_
  obtain ⟨i3, b9, F⟩ := F
  refine wp_saload rfl b9 rfl ?_
  obtain ⟨f0, F⟩ := F
  obtain ⟨f1, F⟩ := F
  refine wp_callI rfl rfl rfl (rcv_v f0 f1 (by decide) (by decide)) rfl rfl rfl rfl ?_
  refine CI.mono F (fun y1 h1 F => ?_) (fun _ _ w => rx_I w)
  refine wp_istore (L2 := [some (vR l0), some (vR l1), some (vR l2), some (vR l3), some (vI l4), some (vI y0), some (vI y1)]) rfl rfl rfl rfl ?_
  refine wp_aload rfl rfl rfl ?_
  obtain ⟨f2, F⟩ := F
  refine wp_callI rfl rfl rfl (rcv_v f0 f2 (by decide) (by decide)) rfl rfl rfl rfl ?_
  refine CI.mono F (fun y2 h2 F => ?_) (fun _ _ w => rx_I w)
  refine wp_iload rfl rfl rfl ?_
  refine wp_icmp_eq rfl rfl rfl rfl rfl (fun c => ?_) (fun c => ?_)
  · replace F := F.1 c
    refine wp_iload rfl rfl rfl ?_
    refine wp_if_ne rfl rfl rfl rfl (fun c => ?_) (fun c => ?_)
    · replace F := F.1 c
      refine wp_aload rfl rfl rfl ?_
      refine wp_const rfl rfl ?_
      refine wp_laload rfl F.1 rfl ?_
      replace F := F.2
      refine wp_iload rfl rfl rfl ?_
      refine wp_i2l rfl rfl ?_
      refine wp_lcmp_eq rfl rfl rfl rfl rfl rfl rfl (fun c => ?_) (fun c => ?_)
      · replace F := F.1 c
        refine wp_goto' (L' := [some (vR l0), some (vR l1), some (vR l2), some (vR l3), some (vI l4), none, none]) rfl rfl rfl ?_
        exact F
      · replace F := F.2 c
        refine wp_const rfl rfl ?_
        exact wp_retI rfl (Or.inr rfl) F
    · replace F := F.2 c
      refine wp_goto' (L' := [some (vR l0), some (vR l1), some (vR l2), some (vR l3), some (vI l4), none, none]) rfl rfl rfl ?_
      exact F
  · replace F := F.2 c
    refine wp_const rfl rfl ?_
    exact wp_retI rfl (Or.inr rfl) F
theorem w328_1676 {d : Nat} {l0 : Nat} {l1 : Nat} {l2 : Nat} {l3 : Nat} {l4 : Int32} {h : aH} {K : Int32 → aH → Prop} {X : Nat → aH → Prop} (F : ∃ i0 : Nat, inB h 105 l0 (l4 + 1) i0 ∧ ∃ i1 : Nat, inB h 105 l0 (l4 + 2) i1 ∧ (((gI h l0 i1).toInt = 0 → CI d 208 [vR l1, vI (gI h l0 i0), vI 0, vR l3] h (fun y0 h0 => ∃ i2 : Nat, inB h0 105 l0 (l4 + 1) i2 ∧ ∃ i3 : Nat, inB h0 105 l0 (l4 + 2) i3 ∧ (((gI h0 l0 i3).toInt = 0 → Wp (d + 1) 328 (1724, [some (vR l0), some (vR l1), some (vR l2), some (vR l3), some (vI l4), some (vI y0), none], [vI 0, vI (gI h0 l0 i2), vR l2], h0) (RI K X)) ∧ (¬ (gI h0 l0 i3).toInt = 0 → Wp (d + 1) 328 (1724, [some (vR l0), some (vR l1), some (vR l2), some (vR l3), some (vI l4), some (vI y0), none], [vI 1, vI (gI h0 l0 i2), vR l2], h0) (RI K X)))) X) ∧ (¬ (gI h l0 i1).toInt = 0 → CI d 208 [vR l1, vI (gI h l0 i0), vI 1, vR l3] h (fun y1 h1 => ∃ i4 : Nat, inB h1 105 l0 (l4 + 1) i4 ∧ ∃ i5 : Nat, inB h1 105 l0 (l4 + 2) i5 ∧ (((gI h1 l0 i5).toInt = 0 → Wp (d + 1) 328 (1724, [some (vR l0), some (vR l1), some (vR l2), some (vR l3), some (vI l4), some (vI y1), none], [vI 0, vI (gI h1 l0 i4), vR l2], h1) (RI K X)) ∧ (¬ (gI h1 l0 i5).toInt = 0 → Wp (d + 1) 328 (1724, [some (vR l0), some (vR l1), some (vR l2), some (vR l3), some (vI l4), some (vI y1), none], [vI 1, vI (gI h1 l0 i4), vR l2], h1) (RI K X)))) X))) : Wp (d + 1) 328 (1676, [some (vR l0), some (vR l1), some (vR l2), some (vR l3), some (vI l4), none, none], [], h) (RI K X) := by
  refine wp_aload' (L' := [some (vR l0), some (vR l1), some (vR l2), some (vR l3), some (vI l4), none, none]) rfl rfl rfl rfl ?_
  refine wp_aload rfl rfl rfl ?_
  refine wp_iload rfl rfl rfl ?_
  refine wp_const rfl rfl ?_
  refine wp_iadd rfl rfl ?_
  obtain ⟨i0, b9, F⟩ := F
  refine wp_saload rfl b9 rfl ?_
  refine wp_aload rfl rfl rfl ?_
  refine wp_iload rfl rfl rfl ?_
  refine wp_const rfl rfl ?_
  refine wp_iadd rfl rfl ?_
  obtain ⟨i1, b9, F⟩ := F
  refine wp_saload rfl b9 rfl ?_
  refine wp_if_eq rfl rfl rfl rfl (fun c => ?_) (fun c => ?_)
  · replace F := F.1 c
    refine wp_const' (L' := [some (vR l0), some (vR l1), some (vR l2), some (vR l3), some (vI l4), none, none]) rfl rfl rfl ?_
    refine wp_aload' (L' := [some (vR l0), some (vR l1), some (vR l2), some (vR l3), some (vI l4), none, none]) rfl rfl rfl rfl ?_
    refine wp_callI rfl rfl rfl rfl rfl rfl rfl rfl ?_
    refine CI.mono F (fun y0 h0 F => ?_) (fun _ _ w => rx_I w)
    refine wp_istore (L2 := [some (vR l0), some (vR l1), some (vR l2), some (vR l3), some (vI l4), some (vI y0), none]) rfl rfl rfl rfl ?_
    refine wp_aload rfl rfl rfl ?_
    refine wp_aload rfl rfl rfl ?_
    refine wp_iload rfl rfl rfl ?_
    refine wp_const rfl rfl ?_
    refine wp_iadd rfl rfl ?_
    obtain ⟨i2, b9, F⟩ := F
    refine wp_saload rfl b9 rfl ?_
    refine wp_aload rfl rfl rfl ?_
    refine wp_iload rfl rfl rfl ?_
    refine wp_const rfl rfl ?_
    refine wp_iadd rfl rfl ?_
    obtain ⟨i3, b9, F⟩ := F
    refine wp_saload rfl b9 rfl ?_
    refine wp_if_eq rfl rfl rfl rfl (fun c => ?_) (fun c => ?_)
    · replace F := F.1 c
      refine wp_const' (L' := [some (vR l0), some (vR l1), some (vR l2), some (vR l3), some (vI l4), some (vI y0), none]) rfl rfl rfl ?_
      exact F
    · replace F := F.2 c
      refine wp_const rfl rfl ?_
      refine wp_goto rfl rfl ?_
      exact F
  · replace F := F.2 c
    refine wp_const rfl rfl ?_
    refine wp_goto rfl rfl ?_
    refine wp_aload' (L' := [some (vR l0), some (vR l1), some (vR l2), some (vR l3), some (vI l4), none, none]) rfl rfl rfl rfl ?_
    refine wp_callI rfl rfl rfl rfl rfl rfl rfl rfl ?_
    refine CI.mono F (fun y1 h1 F => ?_) (fun _ _ w => rx_I w)
    refine wp_istore (L2 := [some (vR l0), some (vR l1), some (vR l2), some (vR l3), some (vI l4), some (vI y1), none]) rfl rfl rfl rfl ?_
    refine wp_aload rfl rfl rfl ?_
    refine wp_aload rfl rfl rfl ?_
    refine wp_iload rfl rfl rfl ?_
    refine wp_const rfl rfl ?_
    refine wp_iadd rfl rfl ?_
    obtain ⟨i4, b9, F⟩ := F
    refine wp_saload rfl b9 rfl ?_
    refine wp_aload rfl rfl rfl ?_
    refine wp_iload rfl rfl rfl ?_
    refine wp_const rfl rfl ?_
    refine wp_iadd rfl rfl ?_
    obtain ⟨i5, b9, F⟩ := F
    refine wp_saload rfl b9 rfl ?_
    refine wp_if_eq rfl rfl rfl rfl (fun c => ?_) (fun c => ?_)
    · replace F := F.1 c
      refine wp_const' (L' := [some (vR l0), some (vR l1), some (vR l2), some (vR l3), some (vI l4), some (vI y1), none]) rfl rfl rfl ?_
      exact F
    · replace F := F.2 c
      refine wp_const rfl rfl ?_
      refine wp_goto rfl rfl ?_
      exact F
theorem w328_1760 {d : Nat} {l0 : Nat} {l1 : Nat} {l2 : Nat} {l3 : Nat} {l4 : Int32} {h : aH} {K : Int32 → aH → Prop} {X : Nat → aH → Prop} (F : ∃ i0 : Nat, inB h 105 l0 (l4 + 1) i0 ∧ ∃ i1 : Nat, inB h 105 l0 (l4 + 2) i1 ∧ CI d 222 [vR l1, vI (gI h l0 i0), vI (gI h l0 i1), vR l3] h (fun y0 h0 => ∃ i2 : Nat, inB h0 105 l0 (l4 + 1) i2 ∧ ∃ i3 : Nat, inB h0 105 l0 (l4 + 2) i3 ∧ 8 ≤ l2 ∧ gK h0 l2 = 14 ∧ CI d 227 [vR l2, vI (gI h0 l0 i2), vI (gI h0 l0 i3)] h0 (fun y1 h1 => gK h1 l2 = 14 ∧ CI d 17 [vR l2] h1 (fun y2 h2 => ((y2.toInt = y0.toInt → ((y0.toInt = 0 → inB h2 101 l3 0 0 ∧ (((gJ h2 l3 0).toInt = (y1.toInt64).toInt → Wp (d + 1) 328 (3074, [some (vR l0), some (vR l1), some (vR l2), some (vR l3), some (vI l4), none, none], [], h2) (RI K X)) ∧ (¬ (gJ h2 l3 0).toInt = (y1.toInt64).toInt → K 0 h2))) ∧ (¬ y0.toInt = 0 → Wp (d + 1) 328 (3074, [some (vR l0), some (vR l1), some (vR l2), some (vR l3), some (vI l4), none, none], [], h2) (RI K X)))) ∧ (¬ y2.toInt = y0.toInt → K 0 h2))) X) X) X) : Wp (d + 1) 328 (1760, [some (vR l0), some (vR l1), some (vR l2), some (vR l3), some (vI l4), none, none], [], h) (RI K X) := by
  refine wp_aload' (L' := [some (vR l0), some (vR l1), some (vR l2), some (vR l3), some (vI l4), none, none]) rfl rfl rfl rfl ?_
  refine wp_aload rfl rfl rfl ?_
  refine wp_iload rfl rfl rfl ?_
  refine wp_const rfl rfl ?_
  refine wp_iadd rfl rfl ?_
  obtain ⟨i0, b9, F⟩ := F
  refine wp_saload rfl b9 rfl ?_
  refine wp_aload rfl rfl rfl ?_
  refine wp_iload rfl rfl rfl ?_
  refine wp_const rfl rfl ?_
  refine wp_iadd rfl rfl ?_
  obtain ⟨i1, b9, F⟩ := F
  refine wp_saload rfl b9 rfl ?_
  refine wp_aload rfl rfl rfl ?_
  refine wp_callI rfl rfl rfl rfl rfl rfl rfl rfl ?_
  refine CI.mono F (fun y0 h0 F => ?_) (fun _ _ w => rx_I w)
  refine wp_istore (L2 := [some (vR l0), some (vR l1), some (vR l2), some (vR l3), some (vI l4), some (vI y0), none]) rfl rfl rfl rfl ?_
  refine wp_aload rfl rfl rfl ?_
  refine wp_aload rfl rfl rfl ?_
  refine wp_iload rfl rfl rfl ?_
  refine wp_const rfl rfl ?_
  refine wp_iadd rfl rfl ?_
  obtain ⟨i2, b9, F⟩ := F
  refine wp_saload rfl b9 rfl ?_
  refine wp_aload rfl rfl rfl ?_
  refine wp_iload rfl rfl rfl ?_
  refine wp_const rfl rfl ?_
  refine wp_iadd rfl rfl ?_
  obtain ⟨i3, b9, F⟩ := F
  refine wp_saload rfl b9 rfl ?_
  obtain ⟨f0, F⟩ := F
  obtain ⟨f1, F⟩ := F
  refine wp_callI rfl rfl rfl (rcv_v f0 f1 (by decide) (by decide)) rfl rfl rfl rfl ?_
  refine CI.mono F (fun y1 h1 F => ?_) (fun _ _ w => rx_I w)
  refine wp_istore (L2 := [some (vR l0), some (vR l1), some (vR l2), some (vR l3), some (vI l4), some (vI y0), some (vI y1)]) rfl rfl rfl rfl ?_
  refine wp_aload rfl rfl rfl ?_
  obtain ⟨f2, F⟩ := F
  refine wp_callI rfl rfl rfl (rcv_v f0 f2 (by decide) (by decide)) rfl rfl rfl rfl ?_
  refine CI.mono F (fun y2 h2 F => ?_) (fun _ _ w => rx_I w)
  refine wp_iload rfl rfl rfl ?_
  refine wp_icmp_eq rfl rfl rfl rfl rfl (fun c => ?_) (fun c => ?_)
  · replace F := F.1 c
    refine wp_iload rfl rfl rfl ?_
    refine wp_if_ne rfl rfl rfl rfl (fun c => ?_) (fun c => ?_)
    · replace F := F.1 c
      refine wp_aload rfl rfl rfl ?_
      refine wp_const rfl rfl ?_
      refine wp_laload rfl F.1 rfl ?_
      replace F := F.2
      refine wp_iload rfl rfl rfl ?_
      refine wp_i2l rfl rfl ?_
      refine wp_lcmp_eq rfl rfl rfl rfl rfl rfl rfl (fun c => ?_) (fun c => ?_)
      · replace F := F.1 c
        refine wp_goto' (L' := [some (vR l0), some (vR l1), some (vR l2), some (vR l3), some (vI l4), none, none]) rfl rfl rfl ?_
        exact F
      · replace F := F.2 c
        refine wp_const rfl rfl ?_
        exact wp_retI rfl (Or.inr rfl) F
    · replace F := F.2 c
      refine wp_goto' (L' := [some (vR l0), some (vR l1), some (vR l2), some (vR l3), some (vI l4), none, none]) rfl rfl rfl ?_
      exact F
  · replace F := F.2 c
    refine wp_const rfl rfl ?_
    exact wp_retI rfl (Or.inr rfl) F
theorem w328_1828 {d : Nat} {l0 : Nat} {l1 : Nat} {l2 : Nat} {l3 : Nat} {l4 : Int32} {h : aH} {K : Int32 → aH → Prop} {X : Nat → aH → Prop} (F : ∃ i0 : Nat, inB h 105 l0 (l4 + 1) i0 ∧ ∃ i1 : Nat, inB h 105 l0 (l4 + 2) i1 ∧ ∃ i2 : Nat, inB h 105 l0 (l4 + 3) i2 ∧ ∃ i3 : Nat, inB h 105 l0 (l4 + 4) i3 ∧ ∃ i4 : Nat, inB h 105 l0 (l4 + 5) i4 ∧ ∃ i5 : Nat, inB h 105 l0 (l4 + 6) i5 ∧ CI d 237 [vR l1, vI (gI h l0 i0), vI (gI h l0 i1), vI (gI h l0 i2), vI (gI h l0 i3), vI (gI h l0 i4), vI (gI h l0 i5), vR l3] h (fun y0 h0 => ∃ i6 : Nat, inB h0 105 l0 (l4 + 1) i6 ∧ ∃ i7 : Nat, inB h0 105 l0 (l4 + 2) i7 ∧ ∃ i8 : Nat, inB h0 105 l0 (l4 + 3) i8 ∧ ∃ i9 : Nat, inB h0 105 l0 (l4 + 4) i9 ∧ ∃ i10 : Nat, inB h0 105 l0 (l4 + 5) i10 ∧ ∃ i11 : Nat, inB h0 105 l0 (l4 + 6) i11 ∧ 8 ≤ l2 ∧ gK h0 l2 = 14 ∧ CI d 241 [vR l2, vI (gI h0 l0 i6), vI (gI h0 l0 i7), vI (gI h0 l0 i8), vI (gI h0 l0 i9), vI (gI h0 l0 i10), vI (gI h0 l0 i11)] h0 (fun y1 h1 => gK h1 l2 = 14 ∧ CI d 17 [vR l2] h1 (fun y2 h2 => ((y2.toInt = y0.toInt → ((y0.toInt = 0 → inB h2 101 l3 0 0 ∧ (((gJ h2 l3 0).toInt = (y1.toInt64).toInt → Wp (d + 1) 328 (3074, [some (vR l0), some (vR l1), some (vR l2), some (vR l3), some (vI l4), none, none], [], h2) (RI K X)) ∧ (¬ (gJ h2 l3 0).toInt = (y1.toInt64).toInt → K 0 h2))) ∧ (¬ y0.toInt = 0 → Wp (d + 1) 328 (3074, [some (vR l0), some (vR l1), some (vR l2), some (vR l3), some (vI l4), none, none], [], h2) (RI K X)))) ∧ (¬ y2.toInt = y0.toInt → K 0 h2))) X) X) X) : Wp (d + 1) 328 (1828, [some (vR l0), some (vR l1), some (vR l2), some (vR l3), some (vI l4), none, none], [], h) (RI K X) := by
  refine wp_aload' (L' := [some (vR l0), some (vR l1), some (vR l2), some (vR l3), some (vI l4), none, none]) rfl rfl rfl rfl ?_
  refine wp_aload rfl rfl rfl ?_
  refine wp_iload rfl rfl rfl ?_
  refine wp_const rfl rfl ?_
  refine wp_iadd rfl rfl ?_
  obtain ⟨i0, b9, F⟩ := F
  refine wp_saload rfl b9 rfl ?_
  refine wp_aload rfl rfl rfl ?_
  refine wp_iload rfl rfl rfl ?_
  refine wp_const rfl rfl ?_
  refine wp_iadd rfl rfl ?_
  obtain ⟨i1, b9, F⟩ := F
  refine wp_saload rfl b9 rfl ?_
  refine wp_aload rfl rfl rfl ?_
  refine wp_iload rfl rfl rfl ?_
  refine wp_const rfl rfl ?_
  refine wp_iadd rfl rfl ?_
  obtain ⟨i2, b9, F⟩ := F
  refine wp_saload rfl b9 rfl ?_
  refine wp_aload rfl rfl rfl ?_
  refine wp_iload rfl rfl rfl ?_
  refine wp_const rfl rfl ?_
  refine wp_iadd rfl rfl ?_
  obtain ⟨i3, b9, F⟩ := F
  refine wp_saload rfl b9 rfl ?_
  refine wp_aload rfl rfl rfl ?_
  refine wp_iload rfl rfl rfl ?_
  refine wp_const rfl rfl ?_
  refine wp_iadd rfl rfl ?_
  obtain ⟨i4, b9, F⟩ := F
  refine wp_saload rfl b9 rfl ?_
  refine wp_aload rfl rfl rfl ?_
  refine wp_iload rfl rfl rfl ?_
  refine wp_const rfl rfl ?_
  refine wp_iadd rfl rfl ?_
  obtain ⟨i5, b9, F⟩ := F
  refine wp_saload rfl b9 rfl ?_
  refine wp_aload rfl rfl rfl ?_
  refine wp_callI rfl rfl rfl rfl rfl rfl rfl rfl ?_
  refine CI.mono F (fun y0 h0 F => ?_) (fun _ _ w => rx_I w)
  refine wp_istore (L2 := [some (vR l0), some (vR l1), some (vR l2), some (vR l3), some (vI l4), some (vI y0), none]) rfl rfl rfl rfl ?_
  refine wp_aload rfl rfl rfl ?_
  refine wp_aload rfl rfl rfl ?_
  refine wp_iload rfl rfl rfl ?_
  refine wp_const rfl rfl ?_
  refine wp_iadd rfl rfl ?_
  obtain ⟨i6, b9, F⟩ := F
  refine wp_saload rfl b9 rfl ?_
  refine wp_aload rfl rfl rfl ?_
  refine wp_iload rfl rfl rfl ?_
  refine wp_const rfl rfl ?_
  refine wp_iadd rfl rfl ?_
  obtain ⟨i7, b9, F⟩ := F
  refine wp_saload rfl b9 rfl ?_
  refine wp_aload rfl rfl rfl ?_
  refine wp_iload rfl rfl rfl ?_
  refine wp_const rfl rfl ?_
  refine wp_iadd rfl rfl ?_
  obtain ⟨i8, b9, F⟩ := F
  refine wp_saload rfl b9 rfl ?_
  refine wp_aload rfl rfl rfl ?_
  refine wp_iload rfl rfl rfl ?_
  refine wp_const rfl rfl ?_
  refine wp_iadd rfl rfl ?_
  obtain ⟨i9, b9, F⟩ := F
  refine wp_saload rfl b9 rfl ?_
  refine wp_aload rfl rfl rfl ?_
  refine wp_iload rfl rfl rfl ?_
  refine wp_const rfl rfl ?_
  refine wp_iadd rfl rfl ?_
  obtain ⟨i10, b9, F⟩ := F
  refine wp_saload rfl b9 rfl ?_
  refine wp_aload rfl rfl rfl ?_
  refine wp_iload rfl rfl rfl ?_
  refine wp_const rfl rfl ?_
  refine wp_iadd rfl rfl ?_
  obtain ⟨i11, b9, F⟩ := F
  refine wp_saload rfl b9 rfl ?_
  obtain ⟨f0, F⟩ := F
  obtain ⟨f1, F⟩ := F
  refine wp_callI rfl rfl rfl (rcv_v f0 f1 (by decide) (by decide)) rfl rfl rfl rfl ?_
  refine CI.mono F (fun y1 h1 F => ?_) (fun _ _ w => rx_I w)
  refine wp_istore (L2 := [some (vR l0), some (vR l1), some (vR l2), some (vR l3), some (vI l4), some (vI y0), some (vI y1)]) rfl rfl rfl rfl ?_
  refine wp_aload rfl rfl rfl ?_
  obtain ⟨f2, F⟩ := F
  refine wp_callI rfl rfl rfl (rcv_v f0 f2 (by decide) (by decide)) rfl rfl rfl rfl ?_
  refine CI.mono F (fun y2 h2 F => ?_) (fun _ _ w => rx_I w)
  refine wp_iload rfl rfl rfl ?_
  refine wp_icmp_eq rfl rfl rfl rfl rfl (fun c => ?_) (fun c => ?_)
  · replace F := F.1 c
    refine wp_iload rfl rfl rfl ?_
    refine wp_if_ne rfl rfl rfl rfl (fun c => ?_) (fun c => ?_)
    · replace F := F.1 c
      refine wp_aload rfl rfl rfl ?_
      refine wp_const rfl rfl ?_
      refine wp_laload rfl F.1 rfl ?_
      replace F := F.2
      refine wp_iload rfl rfl rfl ?_
      refine wp_i2l rfl rfl ?_
      refine wp_lcmp_eq rfl rfl rfl rfl rfl rfl rfl (fun c => ?_) (fun c => ?_)
      · replace F := F.1 c
        refine wp_goto' (L' := [some (vR l0), some (vR l1), some (vR l2), some (vR l3), some (vI l4), none, none]) rfl rfl rfl ?_
        exact F
      · replace F := F.2 c
        refine wp_const rfl rfl ?_
        exact wp_retI rfl (Or.inr rfl) F
    · replace F := F.2 c
      refine wp_goto' (L' := [some (vR l0), some (vR l1), some (vR l2), some (vR l3), some (vI l4), none, none]) rfl rfl rfl ?_
      exact F
  · replace F := F.2 c
    refine wp_const rfl rfl ?_
    exact wp_retI rfl (Or.inr rfl) F
theorem w328_1946 {d : Nat} {l0 : Nat} {l1 : Nat} {l2 : Nat} {l3 : Nat} {l4 : Int32} {h : aH} {K : Int32 → aH → Prop} {X : Nat → aH → Prop} (F : ∃ i0 : Nat, inB h 105 l0 (l4 + 1) i0 ∧ ∃ i1 : Nat, inB h 105 l0 (l4 + 2) i1 ∧ CI d 245 [vR l1, vI (gI h l0 i0), vI (gI h l0 i1), vR l3] h (fun y0 h0 => ∃ i2 : Nat, inB h0 105 l0 (l4 + 1) i2 ∧ ∃ i3 : Nat, inB h0 105 l0 (l4 + 2) i3 ∧ 8 ≤ l2 ∧ gK h0 l2 = 14 ∧ CI d 247 [vR l2, vI (gI h0 l0 i2), vI (gI h0 l0 i3)] h0 (fun y1 h1 => gK h1 l2 = 14 ∧ CI d 17 [vR l2] h1 (fun y2 h2 => ((y2.toInt = y0.toInt → ((y0.toInt = 0 → inB h2 101 l3 0 0 ∧ (((gJ h2 l3 0).toInt = (y1.toInt64).toInt → Wp (d + 1) 328 (3074, [some (vR l0), some (vR l1), some (vR l2), some (vR l3), some (vI l4), none, none], [], h2) (RI K X)) ∧ (¬ (gJ h2 l3 0).toInt = (y1.toInt64).toInt → K 0 h2))) ∧ (¬ y0.toInt = 0 → Wp (d + 1) 328 (3074, [some (vR l0), some (vR l1), some (vR l2), some (vR l3), some (vI l4), none, none], [], h2) (RI K X)))) ∧ (¬ y2.toInt = y0.toInt → K 0 h2))) X) X) X) : Wp (d + 1) 328 (1946, [some (vR l0), some (vR l1), some (vR l2), some (vR l3), some (vI l4), none, none], [], h) (RI K X) := by
  refine wp_aload' (L' := [some (vR l0), some (vR l1), some (vR l2), some (vR l3), some (vI l4), none, none]) rfl rfl rfl rfl ?_
  refine wp_aload rfl rfl rfl ?_
  refine wp_iload rfl rfl rfl ?_
  refine wp_const rfl rfl ?_
  refine wp_iadd rfl rfl ?_
  obtain ⟨i0, b9, F⟩ := F
  refine wp_saload rfl b9 rfl ?_
  refine wp_aload rfl rfl rfl ?_
  refine wp_iload rfl rfl rfl ?_
  refine wp_const rfl rfl ?_
  refine wp_iadd rfl rfl ?_
  obtain ⟨i1, b9, F⟩ := F
  refine wp_saload rfl b9 rfl ?_
  refine wp_aload rfl rfl rfl ?_
  refine wp_callI rfl rfl rfl rfl rfl rfl rfl rfl ?_
  refine CI.mono F (fun y0 h0 F => ?_) (fun _ _ w => rx_I w)
  refine wp_istore (L2 := [some (vR l0), some (vR l1), some (vR l2), some (vR l3), some (vI l4), some (vI y0), none]) rfl rfl rfl rfl ?_
  refine wp_aload rfl rfl rfl ?_
  refine wp_aload rfl rfl rfl ?_
  refine wp_iload rfl rfl rfl ?_
  refine wp_const rfl rfl ?_
  refine wp_iadd rfl rfl ?_
  obtain ⟨i2, b9, F⟩ := F
  refine wp_saload rfl b9 rfl ?_
  refine wp_aload rfl rfl rfl ?_
  refine wp_iload rfl rfl rfl ?_
  refine wp_const rfl rfl ?_
  refine wp_iadd rfl rfl ?_
  obtain ⟨i3, b9, F⟩ := F
  refine wp_saload rfl b9 rfl ?_
  obtain ⟨f0, F⟩ := F
  obtain ⟨f1, F⟩ := F
  refine wp_callI rfl rfl rfl (rcv_v f0 f1 (by decide) (by decide)) rfl rfl rfl rfl ?_
  refine CI.mono F (fun y1 h1 F => ?_) (fun _ _ w => rx_I w)
  refine wp_istore (L2 := [some (vR l0), some (vR l1), some (vR l2), some (vR l3), some (vI l4), some (vI y0), some (vI y1)]) rfl rfl rfl rfl ?_
  refine wp_aload rfl rfl rfl ?_
  obtain ⟨f2, F⟩ := F
  refine wp_callI rfl rfl rfl (rcv_v f0 f2 (by decide) (by decide)) rfl rfl rfl rfl ?_
  refine CI.mono F (fun y2 h2 F => ?_) (fun _ _ w => rx_I w)
  refine wp_iload rfl rfl rfl ?_
  refine wp_icmp_eq rfl rfl rfl rfl rfl (fun c => ?_) (fun c => ?_)
  · replace F := F.1 c
    refine wp_iload rfl rfl rfl ?_
    refine wp_if_ne rfl rfl rfl rfl (fun c => ?_) (fun c => ?_)
    · replace F := F.1 c
      refine wp_aload rfl rfl rfl ?_
      refine wp_const rfl rfl ?_
      refine wp_laload rfl F.1 rfl ?_
      replace F := F.2
      refine wp_iload rfl rfl rfl ?_
      refine wp_i2l rfl rfl ?_
      refine wp_lcmp_eq rfl rfl rfl rfl rfl rfl rfl (fun c => ?_) (fun c => ?_)
      · replace F := F.1 c
        refine wp_goto' (L' := [some (vR l0), some (vR l1), some (vR l2), some (vR l3), some (vI l4), none, none]) rfl rfl rfl ?_
        exact F
      · replace F := F.2 c
        refine wp_const rfl rfl ?_
        exact wp_retI rfl (Or.inr rfl) F
    · replace F := F.2 c
      refine wp_goto' (L' := [some (vR l0), some (vR l1), some (vR l2), some (vR l3), some (vI l4), none, none]) rfl rfl rfl ?_
      exact F
  · replace F := F.2 c
    refine wp_const rfl rfl ?_
    exact wp_retI rfl (Or.inr rfl) F
theorem w328_2014 {d : Nat} {l0 : Nat} {l1 : Nat} {l2 : Nat} {l3 : Nat} {l4 : Int32} {h : aH} {K : Int32 → aH → Prop} {X : Nat → aH → Prop} (F : ∃ i0 : Nat, inB h 105 l0 (l4 + 1) i0 ∧ ∃ i1 : Nat, inB h 105 l0 (l4 + 2) i1 ∧ ∃ i2 : Nat, inB h 105 l0 (l4 + 3) i2 ∧ (((gI h l0 i2).toInt = 0 → CI d 251 [vR l1, vI (gI h l0 i0), vI (gI h l0 i1), vI 0, vR l3] h (fun y0 h0 => ∃ i3 : Nat, inB h0 105 l0 (l4 + 1) i3 ∧ ∃ i4 : Nat, inB h0 105 l0 (l4 + 2) i4 ∧ ∃ i5 : Nat, inB h0 105 l0 (l4 + 3) i5 ∧ (((gI h0 l0 i5).toInt = 0 → Wp (d + 1) 328 (2074, [some (vR l0), some (vR l1), some (vR l2), some (vR l3), some (vI l4), some (vI y0), none], [vI 0, vI (gI h0 l0 i4), vI (gI h0 l0 i3), vR l2], h0) (RI K X)) ∧ (¬ (gI h0 l0 i5).toInt = 0 → Wp (d + 1) 328 (2074, [some (vR l0), some (vR l1), some (vR l2), some (vR l3), some (vI l4), some (vI y0), none], [vI 1, vI (gI h0 l0 i4), vI (gI h0 l0 i3), vR l2], h0) (RI K X)))) X) ∧ (¬ (gI h l0 i2).toInt = 0 → CI d 251 [vR l1, vI (gI h l0 i0), vI (gI h l0 i1), vI 1, vR l3] h (fun y1 h1 => ∃ i6 : Nat, inB h1 105 l0 (l4 + 1) i6 ∧ ∃ i7 : Nat, inB h1 105 l0 (l4 + 2) i7 ∧ ∃ i8 : Nat, inB h1 105 l0 (l4 + 3) i8 ∧ (((gI h1 l0 i8).toInt = 0 → Wp (d + 1) 328 (2074, [some (vR l0), some (vR l1), some (vR l2), some (vR l3), some (vI l4), some (vI y1), none], [vI 0, vI (gI h1 l0 i7), vI (gI h1 l0 i6), vR l2], h1) (RI K X)) ∧ (¬ (gI h1 l0 i8).toInt = 0 → Wp (d + 1) 328 (2074, [some (vR l0), some (vR l1), some (vR l2), some (vR l3), some (vI l4), some (vI y1), none], [vI 1, vI (gI h1 l0 i7), vI (gI h1 l0 i6), vR l2], h1) (RI K X)))) X))) : Wp (d + 1) 328 (2014, [some (vR l0), some (vR l1), some (vR l2), some (vR l3), some (vI l4), none, none], [], h) (RI K X) := by
  refine wp_aload' (L' := [some (vR l0), some (vR l1), some (vR l2), some (vR l3), some (vI l4), none, none]) rfl rfl rfl rfl ?_
  refine wp_aload rfl rfl rfl ?_
  refine wp_iload rfl rfl rfl ?_
  refine wp_const rfl rfl ?_
  refine wp_iadd rfl rfl ?_
  obtain ⟨i0, b9, F⟩ := F
  refine wp_saload rfl b9 rfl ?_
  refine wp_aload rfl rfl rfl ?_
  refine wp_iload rfl rfl rfl ?_
  refine wp_const rfl rfl ?_
  refine wp_iadd rfl rfl ?_
  obtain ⟨i1, b9, F⟩ := F
  refine wp_saload rfl b9 rfl ?_
  refine wp_aload rfl rfl rfl ?_
  refine wp_iload rfl rfl rfl ?_
  refine wp_const rfl rfl ?_
  refine wp_iadd rfl rfl ?_
  obtain ⟨i2, b9, F⟩ := F
  refine wp_saload rfl b9 rfl ?_
  refine wp_if_eq rfl rfl rfl rfl (fun c => ?_) (fun c => ?_)
  · replace F := F.1 c
    refine wp_const' (L' := [some (vR l0), some (vR l1), some (vR l2), some (vR l3), some (vI l4), none, none]) rfl rfl rfl ?_
    refine wp_aload' (L' := [some (vR l0), some (vR l1), some (vR l2), some (vR l3), some (vI l4), none, none]) rfl rfl rfl rfl ?_
    refine wp_callI rfl rfl rfl rfl rfl rfl rfl rfl ?_
    refine CI.mono F (fun y0 h0 F => ?_) (fun _ _ w => rx_I w)
    refine wp_istore (L2 := [some (vR l0), some (vR l1), some (vR l2), some (vR l3), some (vI l4), some (vI y0), none]) rfl rfl rfl rfl ?_
    refine wp_aload rfl rfl rfl ?_
    refine wp_aload rfl rfl rfl ?_
    refine wp_iload rfl rfl rfl ?_
    refine wp_const rfl rfl ?_
    refine wp_iadd rfl rfl ?_
    obtain ⟨i3, b9, F⟩ := F
    refine wp_saload rfl b9 rfl ?_
    refine wp_aload rfl rfl rfl ?_
    refine wp_iload rfl rfl rfl ?_
    refine wp_const rfl rfl ?_
    refine wp_iadd rfl rfl ?_
    obtain ⟨i4, b9, F⟩ := F
    refine wp_saload rfl b9 rfl ?_
    refine wp_aload rfl rfl rfl ?_
    refine wp_iload rfl rfl rfl ?_
    refine wp_const rfl rfl ?_
    refine wp_iadd rfl rfl ?_
    obtain ⟨i5, b9, F⟩ := F
    refine wp_saload rfl b9 rfl ?_
    refine wp_if_eq rfl rfl rfl rfl (fun c => ?_) (fun c => ?_)
    · replace F := F.1 c
      refine wp_const' (L' := [some (vR l0), some (vR l1), some (vR l2), some (vR l3), some (vI l4), some (vI y0), none]) rfl rfl rfl ?_
      exact F
    · replace F := F.2 c
      refine wp_const rfl rfl ?_
      refine wp_goto rfl rfl ?_
      exact F
  · replace F := F.2 c
    refine wp_const rfl rfl ?_
    refine wp_goto rfl rfl ?_
    refine wp_aload' (L' := [some (vR l0), some (vR l1), some (vR l2), some (vR l3), some (vI l4), none, none]) rfl rfl rfl rfl ?_
    refine wp_callI rfl rfl rfl rfl rfl rfl rfl rfl ?_
    refine CI.mono F (fun y1 h1 F => ?_) (fun _ _ w => rx_I w)
    refine wp_istore (L2 := [some (vR l0), some (vR l1), some (vR l2), some (vR l3), some (vI l4), some (vI y1), none]) rfl rfl rfl rfl ?_
    refine wp_aload rfl rfl rfl ?_
    refine wp_aload rfl rfl rfl ?_
    refine wp_iload rfl rfl rfl ?_
    refine wp_const rfl rfl ?_
    refine wp_iadd rfl rfl ?_
    obtain ⟨i6, b9, F⟩ := F
    refine wp_saload rfl b9 rfl ?_
    refine wp_aload rfl rfl rfl ?_
    refine wp_iload rfl rfl rfl ?_
    refine wp_const rfl rfl ?_
    refine wp_iadd rfl rfl ?_
    obtain ⟨i7, b9, F⟩ := F
    refine wp_saload rfl b9 rfl ?_
    refine wp_aload rfl rfl rfl ?_
    refine wp_iload rfl rfl rfl ?_
    refine wp_const rfl rfl ?_
    refine wp_iadd rfl rfl ?_
    obtain ⟨i8, b9, F⟩ := F
    refine wp_saload rfl b9 rfl ?_
    refine wp_if_eq rfl rfl rfl rfl (fun c => ?_) (fun c => ?_)
    · replace F := F.1 c
      refine wp_const' (L' := [some (vR l0), some (vR l1), some (vR l2), some (vR l3), some (vI l4), some (vI y1), none]) rfl rfl rfl ?_
      exact F
    · replace F := F.2 c
      refine wp_const rfl rfl ?_
      refine wp_goto rfl rfl ?_
      exact F
theorem w328_2110 {d : Nat} {l0 : Nat} {l1 : Nat} {l2 : Nat} {l3 : Nat} {l4 : Int32} {h : aH} {K : Int32 → aH → Prop} {X : Nat → aH → Prop} (F : ∃ i0 : Nat, inB h 105 l0 (l4 + 1) i0 ∧ ∃ i1 : Nat, inB h 105 l0 (l4 + 2) i1 ∧ CI d 256 [vR l1, vI (gI h l0 i0), vI (gI h l0 i1), vR l3] h (fun y0 h0 => ∃ i2 : Nat, inB h0 105 l0 (l4 + 1) i2 ∧ ∃ i3 : Nat, inB h0 105 l0 (l4 + 2) i3 ∧ 8 ≤ l2 ∧ gK h0 l2 = 14 ∧ CI d 257 [vR l2, vI (gI h0 l0 i2), vI (gI h0 l0 i3)] h0 (fun y1 h1 => gK h1 l2 = 14 ∧ CI d 17 [vR l2] h1 (fun y2 h2 => ((y2.toInt = y0.toInt → ((y0.toInt = 0 → inB h2 101 l3 0 0 ∧ (((gJ h2 l3 0).toInt = (y1.toInt64).toInt → Wp (d + 1) 328 (3074, [some (vR l0), some (vR l1), some (vR l2), some (vR l3), some (vI l4), none, none], [], h2) (RI K X)) ∧ (¬ (gJ h2 l3 0).toInt = (y1.toInt64).toInt → K 0 h2))) ∧ (¬ y0.toInt = 0 → Wp (d + 1) 328 (3074, [some (vR l0), some (vR l1), some (vR l2), some (vR l3), some (vI l4), none, none], [], h2) (RI K X)))) ∧ (¬ y2.toInt = y0.toInt → K 0 h2))) X) X) X) : Wp (d + 1) 328 (2110, [some (vR l0), some (vR l1), some (vR l2), some (vR l3), some (vI l4), none, none], [], h) (RI K X) := by
  refine wp_aload' (L' := [some (vR l0), some (vR l1), some (vR l2), some (vR l3), some (vI l4), none, none]) rfl rfl rfl rfl ?_
  refine wp_aload rfl rfl rfl ?_
  refine wp_iload rfl rfl rfl ?_
  refine wp_const rfl rfl ?_
  refine wp_iadd rfl rfl ?_
  obtain ⟨i0, b9, F⟩ := F
  refine wp_saload rfl b9 rfl ?_
  refine wp_aload rfl rfl rfl ?_
  refine wp_iload rfl rfl rfl ?_
  refine wp_const rfl rfl ?_
  refine wp_iadd rfl rfl ?_
  obtain ⟨i1, b9, F⟩ := F
  refine wp_saload rfl b9 rfl ?_
  refine wp_aload rfl rfl rfl ?_
  refine wp_callI rfl rfl rfl rfl rfl rfl rfl rfl ?_
  refine CI.mono F (fun y0 h0 F => ?_) (fun _ _ w => rx_I w)
  refine wp_istore (L2 := [some (vR l0), some (vR l1), some (vR l2), some (vR l3), some (vI l4), some (vI y0), none]) rfl rfl rfl rfl ?_
  refine wp_aload rfl rfl rfl ?_
  refine wp_aload rfl rfl rfl ?_
  refine wp_iload rfl rfl rfl ?_
  refine wp_const rfl rfl ?_
  refine wp_iadd rfl rfl ?_
  obtain ⟨i2, b9, F⟩ := F
  refine wp_saload rfl b9 rfl ?_
  refine wp_aload rfl rfl rfl ?_
  refine wp_iload rfl rfl rfl ?_
  refine wp_const rfl rfl ?_
  refine wp_iadd rfl rfl ?_
  obtain ⟨i3, b9, F⟩ := F
  refine wp_saload rfl b9 rfl ?_
  obtain ⟨f0, F⟩ := F
  obtain ⟨f1, F⟩ := F
  refine wp_callI rfl rfl rfl (rcv_v f0 f1 (by decide) (by decide)) rfl rfl rfl rfl ?_
  refine CI.mono F (fun y1 h1 F => ?_) (fun _ _ w => rx_I w)
  refine wp_istore (L2 := [some (vR l0), some (vR l1), some (vR l2), some (vR l3), some (vI l4), some (vI y0), some (vI y1)]) rfl rfl rfl rfl ?_
  refine wp_aload rfl rfl rfl ?_
  obtain ⟨f2, F⟩ := F
  refine wp_callI rfl rfl rfl (rcv_v f0 f2 (by decide) (by decide)) rfl rfl rfl rfl ?_
  refine CI.mono F (fun y2 h2 F => ?_) (fun _ _ w => rx_I w)
  refine wp_iload rfl rfl rfl ?_
  refine wp_icmp_eq rfl rfl rfl rfl rfl (fun c => ?_) (fun c => ?_)
  · replace F := F.1 c
    refine wp_iload rfl rfl rfl ?_
    refine wp_if_ne rfl rfl rfl rfl (fun c => ?_) (fun c => ?_)
    · replace F := F.1 c
      refine wp_aload rfl rfl rfl ?_
      refine wp_const rfl rfl ?_
      refine wp_laload rfl F.1 rfl ?_
      replace F := F.2
      refine wp_iload rfl rfl rfl ?_
      refine wp_i2l rfl rfl ?_
      refine wp_lcmp_eq rfl rfl rfl rfl rfl rfl rfl (fun c => ?_) (fun c => ?_)
      · replace F := F.1 c
        refine wp_goto' (L' := [some (vR l0), some (vR l1), some (vR l2), some (vR l3), some (vI l4), none, none]) rfl rfl rfl ?_
        exact F
      · replace F := F.2 c
        refine wp_const rfl rfl ?_
        exact wp_retI rfl (Or.inr rfl) F
    · replace F := F.2 c
      refine wp_goto' (L' := [some (vR l0), some (vR l1), some (vR l2), some (vR l3), some (vI l4), none, none]) rfl rfl rfl ?_
      exact F
  · replace F := F.2 c
    refine wp_const rfl rfl ?_
    exact wp_retI rfl (Or.inr rfl) F
theorem w328_2178 {d : Nat} {l0 : Nat} {l1 : Nat} {l2 : Nat} {l3 : Nat} {l4 : Int32} {h : aH} {K : Int32 → aH → Prop} {X : Nat → aH → Prop} (F : ∃ i0 : Nat, inB h 105 l0 (l4 + 1) i0 ∧ ∃ i1 : Nat, inB h 105 l0 (l4 + 2) i1 ∧ ∃ i2 : Nat, inB h 105 l0 (l4 + 3) i2 ∧ ∃ i3 : Nat, inB h 105 l0 (l4 + 4) i3 ∧ ∃ i4 : Nat, inB h 105 l0 (l4 + 5) i4 ∧ CI d 265 [vR l1, vI (gI h l0 i0), vI (gI h l0 i1), vI (gI h l0 i2), vI (gI h l0 i3), vI (gI h l0 i4), vR l3] h (fun y0 h0 => ∃ i5 : Nat, inB h0 105 l0 (l4 + 1) i5 ∧ ∃ i6 : Nat, inB h0 105 l0 (l4 + 2) i6 ∧ ∃ i7 : Nat, inB h0 105 l0 (l4 + 3) i7 ∧ ∃ i8 : Nat, inB h0 105 l0 (l4 + 4) i8 ∧ ∃ i9 : Nat, inB h0 105 l0 (l4 + 5) i9 ∧ 8 ≤ l2 ∧ gK h0 l2 = 14 ∧ CI d 266 [vR l2, vI (gI h0 l0 i5), vI (gI h0 l0 i6), vI (gI h0 l0 i7), vI (gI h0 l0 i8), vI (gI h0 l0 i9)] h0 (fun y1 h1 => gK h1 l2 = 14 ∧ CI d 17 [vR l2] h1 (fun y2 h2 => ((y2.toInt = y0.toInt → ((y0.toInt = 0 → inB h2 101 l3 0 0 ∧ (((gJ h2 l3 0).toInt = (y1.toInt64).toInt → Wp (d + 1) 328 (3074, [some (vR l0), some (vR l1), some (vR l2), some (vR l3), some (vI l4), none, none], [], h2) (RI K X)) ∧ (¬ (gJ h2 l3 0).toInt = (y1.toInt64).toInt → K 0 h2))) ∧ (¬ y0.toInt = 0 → Wp (d + 1) 328 (3074, [some (vR l0), some (vR l1), some (vR l2), some (vR l3), some (vI l4), none, none], [], h2) (RI K X)))) ∧ (¬ y2.toInt = y0.toInt → K 0 h2))) X) X) X) : Wp (d + 1) 328 (2178, [some (vR l0), some (vR l1), some (vR l2), some (vR l3), some (vI l4), none, none], [], h) (RI K X) := by
  refine wp_aload' (L' := [some (vR l0), some (vR l1), some (vR l2), some (vR l3), some (vI l4), none, none]) rfl rfl rfl rfl ?_
  refine wp_aload rfl rfl rfl ?_
  refine wp_iload rfl rfl rfl ?_
  refine wp_const rfl rfl ?_
  refine wp_iadd rfl rfl ?_
  obtain ⟨i0, b9, F⟩ := F
  refine wp_saload rfl b9 rfl ?_
  refine wp_aload rfl rfl rfl ?_
  refine wp_iload rfl rfl rfl ?_
  refine wp_const rfl rfl ?_
  refine wp_iadd rfl rfl ?_
  obtain ⟨i1, b9, F⟩ := F
  refine wp_saload rfl b9 rfl ?_
  refine wp_aload rfl rfl rfl ?_
  refine wp_iload rfl rfl rfl ?_
  refine wp_const rfl rfl ?_
  refine wp_iadd rfl rfl ?_
  obtain ⟨i2, b9, F⟩ := F
  refine wp_saload rfl b9 rfl ?_
  refine wp_aload rfl rfl rfl ?_
  refine wp_iload rfl rfl rfl ?_
  refine wp_const rfl rfl ?_
  refine wp_iadd rfl rfl ?_
  obtain ⟨i3, b9, F⟩ := F
  refine wp_saload rfl b9 rfl ?_
  refine wp_aload rfl rfl rfl ?_
  refine wp_iload rfl rfl rfl ?_
  refine wp_const rfl rfl ?_
  refine wp_iadd rfl rfl ?_
  obtain ⟨i4, b9, F⟩ := F
  refine wp_saload rfl b9 rfl ?_
  refine wp_aload rfl rfl rfl ?_
  refine wp_callI rfl rfl rfl rfl rfl rfl rfl rfl ?_
  refine CI.mono F (fun y0 h0 F => ?_) (fun _ _ w => rx_I w)
  refine wp_istore (L2 := [some (vR l0), some (vR l1), some (vR l2), some (vR l3), some (vI l4), some (vI y0), none]) rfl rfl rfl rfl ?_
  refine wp_aload rfl rfl rfl ?_
  refine wp_aload rfl rfl rfl ?_
  refine wp_iload rfl rfl rfl ?_
  refine wp_const rfl rfl ?_
  refine wp_iadd rfl rfl ?_
  obtain ⟨i5, b9, F⟩ := F
  refine wp_saload rfl b9 rfl ?_
  refine wp_aload rfl rfl rfl ?_
  refine wp_iload rfl rfl rfl ?_
  refine wp_const rfl rfl ?_
  refine wp_iadd rfl rfl ?_
  obtain ⟨i6, b9, F⟩ := F
  refine wp_saload rfl b9 rfl ?_
  refine wp_aload rfl rfl rfl ?_
  refine wp_iload rfl rfl rfl ?_
  refine wp_const rfl rfl ?_
  refine wp_iadd rfl rfl ?_
  obtain ⟨i7, b9, F⟩ := F
  refine wp_saload rfl b9 rfl ?_
  refine wp_aload rfl rfl rfl ?_
  refine wp_iload rfl rfl rfl ?_
  refine wp_const rfl rfl ?_
  refine wp_iadd rfl rfl ?_
  obtain ⟨i8, b9, F⟩ := F
  refine wp_saload rfl b9 rfl ?_
  refine wp_aload rfl rfl rfl ?_
  refine wp_iload rfl rfl rfl ?_
  refine wp_const rfl rfl ?_
  refine wp_iadd rfl rfl ?_
  obtain ⟨i9, b9, F⟩ := F
  refine wp_saload rfl b9 rfl ?_
  obtain ⟨f0, F⟩ := F
  obtain ⟨f1, F⟩ := F
  refine wp_callI rfl rfl rfl (rcv_v f0 f1 (by decide) (by decide)) rfl rfl rfl rfl ?_
  refine CI.mono F (fun y1 h1 F => ?_) (fun _ _ w => rx_I w)
  refine wp_istore (L2 := [some (vR l0), some (vR l1), some (vR l2), some (vR l3), some (vI l4), some (vI y0), some (vI y1)]) rfl rfl rfl rfl ?_
  refine wp_aload rfl rfl rfl ?_
  obtain ⟨f2, F⟩ := F
  refine wp_callI rfl rfl rfl (rcv_v f0 f2 (by decide) (by decide)) rfl rfl rfl rfl ?_
  refine CI.mono F (fun y2 h2 F => ?_) (fun _ _ w => rx_I w)
  refine wp_iload rfl rfl rfl ?_
  refine wp_icmp_eq rfl rfl rfl rfl rfl (fun c => ?_) (fun c => ?_)
  · replace F := F.1 c
    refine wp_iload rfl rfl rfl ?_
    refine wp_if_ne rfl rfl rfl rfl (fun c => ?_) (fun c => ?_)
    · replace F := F.1 c
      refine wp_aload rfl rfl rfl ?_
      refine wp_const rfl rfl ?_
      refine wp_laload rfl F.1 rfl ?_
      replace F := F.2
      refine wp_iload rfl rfl rfl ?_
      refine wp_i2l rfl rfl ?_
      refine wp_lcmp_eq rfl rfl rfl rfl rfl rfl rfl (fun c => ?_) (fun c => ?_)
      · replace F := F.1 c
        refine wp_goto' (L' := [some (vR l0), some (vR l1), some (vR l2), some (vR l3), some (vI l4), none, none]) rfl rfl rfl ?_
        exact F
      · replace F := F.2 c
        refine wp_const rfl rfl ?_
        exact wp_retI rfl (Or.inr rfl) F
    · replace F := F.2 c
      refine wp_goto' (L' := [some (vR l0), some (vR l1), some (vR l2), some (vR l3), some (vI l4), none, none]) rfl rfl rfl ?_
      exact F
  · replace F := F.2 c
    refine wp_const rfl rfl ?_
    exact wp_retI rfl (Or.inr rfl) F
theorem w328_2282 {d : Nat} {l0 : Nat} {l1 : Nat} {l2 : Nat} {l3 : Nat} {l4 : Int32} {h : aH} {K : Int32 → aH → Prop} {X : Nat → aH → Prop} (F : ∃ i0 : Nat, inB h 105 l0 (l4 + 1) i0 ∧ ∃ i1 : Nat, inB h 105 l0 (l4 + 2) i1 ∧ ∃ i2 : Nat, inB h 105 l0 (l4 + 3) i2 ∧ ∃ i3 : Nat, inB h 105 l0 (l4 + 4) i3 ∧ CI d 273 [vR l1, vI (gI h l0 i0), vI (gI h l0 i1), vI (gI h l0 i2), vI (gI h l0 i3), vR l3] h (fun y0 h0 => ∃ i4 : Nat, inB h0 105 l0 (l4 + 1) i4 ∧ ∃ i5 : Nat, inB h0 105 l0 (l4 + 2) i5 ∧ ∃ i6 : Nat, inB h0 105 l0 (l4 + 3) i6 ∧ ∃ i7 : Nat, inB h0 105 l0 (l4 + 4) i7 ∧ 8 ≤ l2 ∧ gK h0 l2 = 14 ∧ CI d 276 [vR l2, vI (gI h0 l0 i4), vI (gI h0 l0 i5), vI (gI h0 l0 i6), vI (gI h0 l0 i7)] h0 (fun y1 h1 => gK h1 l2 = 14 ∧ CI d 17 [vR l2] h1 (fun y2 h2 => ((y2.toInt = y0.toInt → ((y0.toInt = 0 → inB h2 101 l3 0 0 ∧ (((gJ h2 l3 0).toInt = (y1.toInt64).toInt → Wp (d + 1) 328 (3074, [some (vR l0), some (vR l1), some (vR l2), some (vR l3), some (vI l4), none, none], [], h2) (RI K X)) ∧ (¬ (gJ h2 l3 0).toInt = (y1.toInt64).toInt → K 0 h2))) ∧ (¬ y0.toInt = 0 → Wp (d + 1) 328 (3074, [some (vR l0), some (vR l1), some (vR l2), some (vR l3), some (vI l4), none, none], [], h2) (RI K X)))) ∧ (¬ y2.toInt = y0.toInt → K 0 h2))) X) X) X) : Wp (d + 1) 328 (2282, [some (vR l0), some (vR l1), some (vR l2), some (vR l3), some (vI l4), none, none], [], h) (RI K X) := by
  refine wp_aload' (L' := [some (vR l0), some (vR l1), some (vR l2), some (vR l3), some (vI l4), none, none]) rfl rfl rfl rfl ?_
  refine wp_aload rfl rfl rfl ?_
  refine wp_iload rfl rfl rfl ?_
  refine wp_const rfl rfl ?_
  refine wp_iadd rfl rfl ?_
  obtain ⟨i0, b9, F⟩ := F
  refine wp_saload rfl b9 rfl ?_
  refine wp_aload rfl rfl rfl ?_
  refine wp_iload rfl rfl rfl ?_
  refine wp_const rfl rfl ?_
  refine wp_iadd rfl rfl ?_
  obtain ⟨i1, b9, F⟩ := F
  refine wp_saload rfl b9 rfl ?_
  refine wp_aload rfl rfl rfl ?_
  refine wp_iload rfl rfl rfl ?_
  refine wp_const rfl rfl ?_
  refine wp_iadd rfl rfl ?_
  obtain ⟨i2, b9, F⟩ := F
  refine wp_saload rfl b9 rfl ?_
  refine wp_aload rfl rfl rfl ?_
  refine wp_iload rfl rfl rfl ?_
  refine wp_const rfl rfl ?_
  refine wp_iadd rfl rfl ?_
  obtain ⟨i3, b9, F⟩ := F
  refine wp_saload rfl b9 rfl ?_
  refine wp_aload rfl rfl rfl ?_
  refine wp_callI rfl rfl rfl rfl rfl rfl rfl rfl ?_
  refine CI.mono F (fun y0 h0 F => ?_) (fun _ _ w => rx_I w)
  refine wp_istore (L2 := [some (vR l0), some (vR l1), some (vR l2), some (vR l3), some (vI l4), some (vI y0), none]) rfl rfl rfl rfl ?_
  refine wp_aload rfl rfl rfl ?_
  refine wp_aload rfl rfl rfl ?_
  refine wp_iload rfl rfl rfl ?_
  refine wp_const rfl rfl ?_
  refine wp_iadd rfl rfl ?_
  obtain ⟨i4, b9, F⟩ := F
  refine wp_saload rfl b9 rfl ?_
  refine wp_aload rfl rfl rfl ?_
  refine wp_iload rfl rfl rfl ?_
  refine wp_const rfl rfl ?_
  refine wp_iadd rfl rfl ?_
  obtain ⟨i5, b9, F⟩ := F
  refine wp_saload rfl b9 rfl ?_
  refine wp_aload rfl rfl rfl ?_
  refine wp_iload rfl rfl rfl ?_
  refine wp_const rfl rfl ?_
  refine wp_iadd rfl rfl ?_
  obtain ⟨i6, b9, F⟩ := F
  refine wp_saload rfl b9 rfl ?_
  refine wp_aload rfl rfl rfl ?_
  refine wp_iload rfl rfl rfl ?_
  refine wp_const rfl rfl ?_
  refine wp_iadd rfl rfl ?_
  obtain ⟨i7, b9, F⟩ := F
  refine wp_saload rfl b9 rfl ?_
  obtain ⟨f0, F⟩ := F
  obtain ⟨f1, F⟩ := F
  refine wp_callI rfl rfl rfl (rcv_v f0 f1 (by decide) (by decide)) rfl rfl rfl rfl ?_
  refine CI.mono F (fun y1 h1 F => ?_) (fun _ _ w => rx_I w)
  refine wp_istore (L2 := [some (vR l0), some (vR l1), some (vR l2), some (vR l3), some (vI l4), some (vI y0), some (vI y1)]) rfl rfl rfl rfl ?_
  refine wp_aload rfl rfl rfl ?_
  obtain ⟨f2, F⟩ := F
  refine wp_callI rfl rfl rfl (rcv_v f0 f2 (by decide) (by decide)) rfl rfl rfl rfl ?_
  refine CI.mono F (fun y2 h2 F => ?_) (fun _ _ w => rx_I w)
  refine wp_iload rfl rfl rfl ?_
  refine wp_icmp_eq rfl rfl rfl rfl rfl (fun c => ?_) (fun c => ?_)
  · replace F := F.1 c
    refine wp_iload rfl rfl rfl ?_
    refine wp_if_ne rfl rfl rfl rfl (fun c => ?_) (fun c => ?_)
    · replace F := F.1 c
      refine wp_aload rfl rfl rfl ?_
      refine wp_const rfl rfl ?_
      refine wp_laload rfl F.1 rfl ?_
      replace F := F.2
      refine wp_iload rfl rfl rfl ?_
      refine wp_i2l rfl rfl ?_
      refine wp_lcmp_eq rfl rfl rfl rfl rfl rfl rfl (fun c => ?_) (fun c => ?_)
      · replace F := F.1 c
        refine wp_goto' (L' := [some (vR l0), some (vR l1), some (vR l2), some (vR l3), some (vI l4), none, none]) rfl rfl rfl ?_
        exact F
      · replace F := F.2 c
        refine wp_const rfl rfl ?_
        exact wp_retI rfl (Or.inr rfl) F
    · replace F := F.2 c
      refine wp_goto' (L' := [some (vR l0), some (vR l1), some (vR l2), some (vR l3), some (vI l4), none, none]) rfl rfl rfl ?_
      exact F
  · replace F := F.2 c
    refine wp_const rfl rfl ?_
    exact wp_retI rfl (Or.inr rfl) F
theorem w328_2374 {d : Nat} {l0 : Nat} {l1 : Nat} {l2 : Nat} {l3 : Nat} {l4 : Int32} {h : aH} {K : Int32 → aH → Prop} {X : Nat → aH → Prop} (F : ∃ i0 : Nat, inB h 105 l0 (l4 + 1) i0 ∧ ∃ i1 : Nat, inB h 105 l0 (l4 + 2) i1 ∧ ∃ i2 : Nat, inB h 105 l0 (l4 + 3) i2 ∧ ∃ i3 : Nat, inB h 105 l0 (l4 + 4) i3 ∧ CI d 285 [vR l1, vI (gI h l0 i0), vI (gI h l0 i1), vI (gI h l0 i2), vI (gI h l0 i3), vR l3] h (fun y0 h0 => ∃ i4 : Nat, inB h0 105 l0 (l4 + 1) i4 ∧ ∃ i5 : Nat, inB h0 105 l0 (l4 + 2) i5 ∧ ∃ i6 : Nat, inB h0 105 l0 (l4 + 3) i6 ∧ ∃ i7 : Nat, inB h0 105 l0 (l4 + 4) i7 ∧ 8 ≤ l2 ∧ gK h0 l2 = 14 ∧ CI d 288 [vR l2, vI (gI h0 l0 i4), vI (gI h0 l0 i5), vI (gI h0 l0 i6), vI (gI h0 l0 i7)] h0 (fun y1 h1 => gK h1 l2 = 14 ∧ CI d 17 [vR l2] h1 (fun y2 h2 => ((y2.toInt = y0.toInt → ((y0.toInt = 0 → inB h2 101 l3 0 0 ∧ (((gJ h2 l3 0).toInt = (y1.toInt64).toInt → Wp (d + 1) 328 (3074, [some (vR l0), some (vR l1), some (vR l2), some (vR l3), some (vI l4), none, none], [], h2) (RI K X)) ∧ (¬ (gJ h2 l3 0).toInt = (y1.toInt64).toInt → K 0 h2))) ∧ (¬ y0.toInt = 0 → Wp (d + 1) 328 (3074, [some (vR l0), some (vR l1), some (vR l2), some (vR l3), some (vI l4), none, none], [], h2) (RI K X)))) ∧ (¬ y2.toInt = y0.toInt → K 0 h2))) X) X) X) : Wp (d + 1) 328 (2374, [some (vR l0), some (vR l1), some (vR l2), some (vR l3), some (vI l4), none, none], [], h) (RI K X) := by
  refine wp_aload' (L' := [some (vR l0), some (vR l1), some (vR l2), some (vR l3), some (vI l4), none, none]) rfl rfl rfl rfl ?_
  refine wp_aload rfl rfl rfl ?_
  refine wp_iload rfl rfl rfl ?_
  refine wp_const rfl rfl ?_
  refine wp_iadd rfl rfl ?_
  obtain ⟨i0, b9, F⟩ := F
  refine wp_saload rfl b9 rfl ?_
  refine wp_aload rfl rfl rfl ?_
  refine wp_iload rfl rfl rfl ?_
  refine wp_const rfl rfl ?_
  refine wp_iadd rfl rfl ?_
  obtain ⟨i1, b9, F⟩ := F
  refine wp_saload rfl b9 rfl ?_
  refine wp_aload rfl rfl rfl ?_
  refine wp_iload rfl rfl rfl ?_
  refine wp_const rfl rfl ?_
  refine wp_iadd rfl rfl ?_
  obtain ⟨i2, b9, F⟩ := F
  refine wp_saload rfl b9 rfl ?_
  refine wp_aload rfl rfl rfl ?_
  refine wp_iload rfl rfl rfl ?_
  refine wp_const rfl rfl ?_
  refine wp_iadd rfl rfl ?_
  obtain ⟨i3, b9, F⟩ := F
  refine wp_saload rfl b9 rfl ?_
  refine wp_aload rfl rfl rfl ?_
  refine wp_callI rfl rfl rfl rfl rfl rfl rfl rfl ?_
  refine CI.mono F (fun y0 h0 F => ?_) (fun _ _ w => rx_I w)
  refine wp_istore (L2 := [some (vR l0), some (vR l1), some (vR l2), some (vR l3), some (vI l4), some (vI y0), none]) rfl rfl rfl rfl ?_
  refine wp_aload rfl rfl rfl ?_
  refine wp_aload rfl rfl rfl ?_
  refine wp_iload rfl rfl rfl ?_
  refine wp_const rfl rfl ?_
  refine wp_iadd rfl rfl ?_
  obtain ⟨i4, b9, F⟩ := F
  refine wp_saload rfl b9 rfl ?_
  refine wp_aload rfl rfl rfl ?_
  refine wp_iload rfl rfl rfl ?_
  refine wp_const rfl rfl ?_
  refine wp_iadd rfl rfl ?_
  obtain ⟨i5, b9, F⟩ := F
  refine wp_saload rfl b9 rfl ?_
  refine wp_aload rfl rfl rfl ?_
  refine wp_iload rfl rfl rfl ?_
  refine wp_const rfl rfl ?_
  refine wp_iadd rfl rfl ?_
  obtain ⟨i6, b9, F⟩ := F
  refine wp_saload rfl b9 rfl ?_
  refine wp_aload rfl rfl rfl ?_
  refine wp_iload rfl rfl rfl ?_
  refine wp_const rfl rfl ?_
  refine wp_iadd rfl rfl ?_
  obtain ⟨i7, b9, F⟩ := F
  refine wp_saload rfl b9 rfl ?_
  obtain ⟨f0, F⟩ := F
  obtain ⟨f1, F⟩ := F
  refine wp_callI rfl rfl rfl (rcv_v f0 f1 (by decide) (by decide)) rfl rfl rfl rfl ?_
  refine CI.mono F (fun y1 h1 F => ?_) (fun _ _ w => rx_I w)
  refine wp_istore (L2 := [some (vR l0), some (vR l1), some (vR l2), some (vR l3), some (vI l4), some (vI y0), some (vI y1)]) rfl rfl rfl rfl ?_
  refine wp_aload rfl rfl rfl ?_
  obtain ⟨f2, F⟩ := F
  refine wp_callI rfl rfl rfl (rcv_v f0 f2 (by decide) (by decide)) rfl rfl rfl rfl ?_
  refine CI.mono F (fun y2 h2 F => ?_) (fun _ _ w => rx_I w)
  refine wp_iload rfl rfl rfl ?_
  refine wp_icmp_eq rfl rfl rfl rfl rfl (fun c => ?_) (fun c => ?_)
  · replace F := F.1 c
    refine wp_iload rfl rfl rfl ?_
    refine wp_if_ne rfl rfl rfl rfl (fun c => ?_) (fun c => ?_)
    · replace F := F.1 c
      refine wp_aload rfl rfl rfl ?_
      refine wp_const rfl rfl ?_
      refine wp_laload rfl F.1 rfl ?_
      replace F := F.2
      refine wp_iload rfl rfl rfl ?_
      refine wp_i2l rfl rfl ?_
      refine wp_lcmp_eq rfl rfl rfl rfl rfl rfl rfl (fun c => ?_) (fun c => ?_)
      · replace F := F.1 c
        refine wp_goto' (L' := [some (vR l0), some (vR l1), some (vR l2), some (vR l3), some (vI l4), none, none]) rfl rfl rfl ?_
        exact F
      · replace F := F.2 c
        refine wp_const rfl rfl ?_
        exact wp_retI rfl (Or.inr rfl) F
    · replace F := F.2 c
      refine wp_goto' (L' := [some (vR l0), some (vR l1), some (vR l2), some (vR l3), some (vI l4), none, none]) rfl rfl rfl ?_
      exact F
  · replace F := F.2 c
    refine wp_const rfl rfl ?_
    exact wp_retI rfl (Or.inr rfl) F
theorem w328_2466 {d : Nat} {l0 : Nat} {l1 : Nat} {l2 : Nat} {l3 : Nat} {l4 : Int32} {h : aH} {K : Int32 → aH → Prop} {X : Nat → aH → Prop} (F : ∃ i0 : Nat, inB h 105 l0 (l4 + 1) i0 ∧ ∃ i1 : Nat, inB h 105 l0 (l4 + 2) i1 ∧ ∃ i2 : Nat, inB h 105 l0 (l4 + 3) i2 ∧ CI d 292 [vR l1, vI (gI h l0 i0), vI (gI h l0 i1), vI (gI h l0 i2), vR l3] h (fun y0 h0 => ∃ i3 : Nat, inB h0 105 l0 (l4 + 1) i3 ∧ ∃ i4 : Nat, inB h0 105 l0 (l4 + 2) i4 ∧ ∃ i5 : Nat, inB h0 105 l0 (l4 + 3) i5 ∧ 8 ≤ l2 ∧ gK h0 l2 = 14 ∧ CI d 294 [vR l2, vI (gI h0 l0 i3), vI (gI h0 l0 i4), vI (gI h0 l0 i5)] h0 (fun y1 h1 => gK h1 l2 = 14 ∧ CI d 17 [vR l2] h1 (fun y2 h2 => ((y2.toInt = y0.toInt → ((y0.toInt = 0 → inB h2 101 l3 0 0 ∧ (((gJ h2 l3 0).toInt = (y1.toInt64).toInt → Wp (d + 1) 328 (3074, [some (vR l0), some (vR l1), some (vR l2), some (vR l3), some (vI l4), none, none], [], h2) (RI K X)) ∧ (¬ (gJ h2 l3 0).toInt = (y1.toInt64).toInt → K 0 h2))) ∧ (¬ y0.toInt = 0 → Wp (d + 1) 328 (3074, [some (vR l0), some (vR l1), some (vR l2), some (vR l3), some (vI l4), none, none], [], h2) (RI K X)))) ∧ (¬ y2.toInt = y0.toInt → K 0 h2))) X) X) X) : Wp (d + 1) 328 (2466, [some (vR l0), some (vR l1), some (vR l2), some (vR l3), some (vI l4), none, none], [], h) (RI K X) := by
  refine wp_aload' (L' := [some (vR l0), some (vR l1), some (vR l2), some (vR l3), some (vI l4), none, none]) rfl rfl rfl rfl ?_
  refine wp_aload rfl rfl rfl ?_
  refine wp_iload rfl rfl rfl ?_
  refine wp_const rfl rfl ?_
  refine wp_iadd rfl rfl ?_
  obtain ⟨i0, b9, F⟩ := F
  refine wp_saload rfl b9 rfl ?_
  refine wp_aload rfl rfl rfl ?_
  refine wp_iload rfl rfl rfl ?_
  refine wp_const rfl rfl ?_
  refine wp_iadd rfl rfl ?_
  obtain ⟨i1, b9, F⟩ := F
  refine wp_saload rfl b9 rfl ?_
  refine wp_aload rfl rfl rfl ?_
  refine wp_iload rfl rfl rfl ?_
  refine wp_const rfl rfl ?_
  refine wp_iadd rfl rfl ?_
  obtain ⟨i2, b9, F⟩ := F
  refine wp_saload rfl b9 rfl ?_
  refine wp_aload rfl rfl rfl ?_
  refine wp_callI rfl rfl rfl rfl rfl rfl rfl rfl ?_
  refine CI.mono F (fun y0 h0 F => ?_) (fun _ _ w => rx_I w)
  refine wp_istore (L2 := [some (vR l0), some (vR l1), some (vR l2), some (vR l3), some (vI l4), some (vI y0), none]) rfl rfl rfl rfl ?_
  refine wp_aload rfl rfl rfl ?_
  refine wp_aload rfl rfl rfl ?_
  refine wp_iload rfl rfl rfl ?_
  refine wp_const rfl rfl ?_
  refine wp_iadd rfl rfl ?_
  obtain ⟨i3, b9, F⟩ := F
  refine wp_saload rfl b9 rfl ?_
  refine wp_aload rfl rfl rfl ?_
  refine wp_iload rfl rfl rfl ?_
  refine wp_const rfl rfl ?_
  refine wp_iadd rfl rfl ?_
  obtain ⟨i4, b9, F⟩ := F
  refine wp_saload rfl b9 rfl ?_
  refine wp_aload rfl rfl rfl ?_
  refine wp_iload rfl rfl rfl ?_
  refine wp_const rfl rfl ?_
  refine wp_iadd rfl rfl ?_
  obtain ⟨i5, b9, F⟩ := F
  refine wp_saload rfl b9 rfl ?_
  obtain ⟨f0, F⟩ := F
  obtain ⟨f1, F⟩ := F
  refine wp_callI rfl rfl rfl (rcv_v f0 f1 (by decide) (by decide)) rfl rfl rfl rfl ?_
  refine CI.mono F (fun y1 h1 F => ?_) (fun _ _ w => rx_I w)
  refine wp_istore (L2 := [some (vR l0), some (vR l1), some (vR l2), some (vR l3), some (vI l4), some (vI y0), some (vI y1)]) rfl rfl rfl rfl ?_
  refine wp_aload rfl rfl rfl ?_
  obtain ⟨f2, F⟩ := F
  refine wp_callI rfl rfl rfl (rcv_v f0 f2 (by decide) (by decide)) rfl rfl rfl rfl ?_
  refine CI.mono F (fun y2 h2 F => ?_) (fun _ _ w => rx_I w)
  refine wp_iload rfl rfl rfl ?_
  refine wp_icmp_eq rfl rfl rfl rfl rfl (fun c => ?_) (fun c => ?_)
  · replace F := F.1 c
    refine wp_iload rfl rfl rfl ?_
    refine wp_if_ne rfl rfl rfl rfl (fun c => ?_) (fun c => ?_)
    · replace F := F.1 c
      refine wp_aload rfl rfl rfl ?_
      refine wp_const rfl rfl ?_
      refine wp_laload rfl F.1 rfl ?_
      replace F := F.2
      refine wp_iload rfl rfl rfl ?_
      refine wp_i2l rfl rfl ?_
      refine wp_lcmp_eq rfl rfl rfl rfl rfl rfl rfl (fun c => ?_) (fun c => ?_)
      · replace F := F.1 c
        refine wp_goto' (L' := [some (vR l0), some (vR l1), some (vR l2), some (vR l3), some (vI l4), none, none]) rfl rfl rfl ?_
        exact F
      · replace F := F.2 c
        refine wp_const rfl rfl ?_
        exact wp_retI rfl (Or.inr rfl) F
    · replace F := F.2 c
      refine wp_goto' (L' := [some (vR l0), some (vR l1), some (vR l2), some (vR l3), some (vI l4), none, none]) rfl rfl rfl ?_
      exact F
  · replace F := F.2 c
    refine wp_const rfl rfl ?_
    exact wp_retI rfl (Or.inr rfl) F
theorem w328_2546 {d : Nat} {l0 : Nat} {l1 : Nat} {l2 : Nat} {l3 : Nat} {l4 : Int32} {h : aH} {K : Int32 → aH → Prop} {X : Nat → aH → Prop} (F : ∃ i0 : Nat, inB h 105 l0 (l4 + 1) i0 ∧ ∃ i1 : Nat, inB h 105 l0 (l4 + 2) i1 ∧ ∃ i2 : Nat, inB h 105 l0 (l4 + 3) i2 ∧ ∃ i3 : Nat, inB h 105 l0 (l4 + 4) i3 ∧ (((gI h l0 i3).toInt = 0 → CI d 298 [vR l1, vI (gI h l0 i0), vI (gI h l0 i1), vI (gI h l0 i2), vI 0, vR l3] h (fun y0 h0 => ∃ i4 : Nat, inB h0 105 l0 (l4 + 1) i4 ∧ ∃ i5 : Nat, inB h0 105 l0 (l4 + 2) i5 ∧ ∃ i6 : Nat, inB h0 105 l0 (l4 + 3) i6 ∧ ∃ i7 : Nat, inB h0 105 l0 (l4 + 4) i7 ∧ (((gI h0 l0 i7).toInt = 0 → Wp (d + 1) 328 (2618, [some (vR l0), some (vR l1), some (vR l2), some (vR l3), some (vI l4), some (vI y0), none], [vI 0, vI (gI h0 l0 i6), vI (gI h0 l0 i5), vI (gI h0 l0 i4), vR l2], h0) (RI K X)) ∧ (¬ (gI h0 l0 i7).toInt = 0 → Wp (d + 1) 328 (2618, [some (vR l0), some (vR l1), some (vR l2), some (vR l3), some (vI l4), some (vI y0), none], [vI 1, vI (gI h0 l0 i6), vI (gI h0 l0 i5), vI (gI h0 l0 i4), vR l2], h0) (RI K X)))) X) ∧ (¬ (gI h l0 i3).toInt = 0 → CI d 298 [vR l1, vI (gI h l0 i0), vI (gI h l0 i1), vI (gI h l0 i2), vI 1, vR l3] h (fun y1 h1 => ∃ i8 : Nat, inB h1 105 l0 (l4 + 1) i8 ∧ ∃ i9 : Nat, inB h1 105 l0 (l4 + 2) i9 ∧ ∃ i10 : Nat, inB h1 105 l0 (l4 + 3) i10 ∧ ∃ i11 : Nat, inB h1 105 l0 (l4 + 4) i11 ∧ (((gI h1 l0 i11).toInt = 0 → Wp (d + 1) 328 (2618, [some (vR l0), some (vR l1), some (vR l2), some (vR l3), some (vI l4), some (vI y1), none], [vI 0, vI (gI h1 l0 i10), vI (gI h1 l0 i9), vI (gI h1 l0 i8), vR l2], h1) (RI K X)) ∧ (¬ (gI h1 l0 i11).toInt = 0 → Wp (d + 1) 328 (2618, [some (vR l0), some (vR l1), some (vR l2), some (vR l3), some (vI l4), some (vI y1), none], [vI 1, vI (gI h1 l0 i10), vI (gI h1 l0 i9), vI (gI h1 l0 i8), vR l2], h1) (RI K X)))) X))) : Wp (d + 1) 328 (2546, [some (vR l0), some (vR l1), some (vR l2), some (vR l3), some (vI l4), none, none], [], h) (RI K X) := by
  refine wp_aload' (L' := [some (vR l0), some (vR l1), some (vR l2), some (vR l3), some (vI l4), none, none]) rfl rfl rfl rfl ?_
  refine wp_aload rfl rfl rfl ?_
  refine wp_iload rfl rfl rfl ?_
  refine wp_const rfl rfl ?_
  refine wp_iadd rfl rfl ?_
  obtain ⟨i0, b9, F⟩ := F
  refine wp_saload rfl b9 rfl ?_
  refine wp_aload rfl rfl rfl ?_
  refine wp_iload rfl rfl rfl ?_
  refine wp_const rfl rfl ?_
  refine wp_iadd rfl rfl ?_
  obtain ⟨i1, b9, F⟩ := F
  refine wp_saload rfl b9 rfl ?_
  refine wp_aload rfl rfl rfl ?_
  refine wp_iload rfl rfl rfl ?_
  refine wp_const rfl rfl ?_
  refine wp_iadd rfl rfl ?_
  obtain ⟨i2, b9, F⟩ := F
  refine wp_saload rfl b9 rfl ?_
  refine wp_aload rfl rfl rfl ?_
  refine wp_iload rfl rfl rfl ?_
  refine wp_const rfl rfl ?_
  refine wp_iadd rfl rfl ?_
  obtain ⟨i3, b9, F⟩ := F
  refine wp_saload rfl b9 rfl ?_
  refine wp_if_eq rfl rfl rfl rfl (fun c => ?_) (fun c => ?_)
  · replace F := F.1 c
    refine wp_const' (L' := [some (vR l0), some (vR l1), some (vR l2), some (vR l3), some (vI l4), none, none]) rfl rfl rfl ?_
    refine wp_aload' (L' := [some (vR l0), some (vR l1), some (vR l2), some (vR l3), some (vI l4), none, none]) rfl rfl rfl rfl ?_
    refine wp_callI rfl rfl rfl rfl rfl rfl rfl rfl ?_
    refine CI.mono F (fun y0 h0 F => ?_) (fun _ _ w => rx_I w)
    refine wp_istore (L2 := [some (vR l0), some (vR l1), some (vR l2), some (vR l3), some (vI l4), some (vI y0), none]) rfl rfl rfl rfl ?_
    refine wp_aload rfl rfl rfl ?_
    refine wp_aload rfl rfl rfl ?_
    refine wp_iload rfl rfl rfl ?_
    refine wp_const rfl rfl ?_
    refine wp_iadd rfl rfl ?_
    obtain ⟨i4, b9, F⟩ := F
    refine wp_saload rfl b9 rfl ?_
    refine wp_aload rfl rfl rfl ?_
    refine wp_iload rfl rfl rfl ?_
    refine wp_const rfl rfl ?_
    refine wp_iadd rfl rfl ?_
    obtain ⟨i5, b9, F⟩ := F
    refine wp_saload rfl b9 rfl ?_
    refine wp_aload rfl rfl rfl ?_
    refine wp_iload rfl rfl rfl ?_
    refine wp_const rfl rfl ?_
    refine wp_iadd rfl rfl ?_
    obtain ⟨i6, b9, F⟩ := F
    refine wp_saload rfl b9 rfl ?_
    refine wp_aload rfl rfl rfl ?_
    refine wp_iload rfl rfl rfl ?_
    refine wp_const rfl rfl ?_
    refine wp_iadd rfl rfl ?_
    obtain ⟨i7, b9, F⟩ := F
    refine wp_saload rfl b9 rfl ?_
    refine wp_if_eq rfl rfl rfl rfl (fun c => ?_) (fun c => ?_)
    · replace F := F.1 c
      refine wp_const' (L' := [some (vR l0), some (vR l1), some (vR l2), some (vR l3), some (vI l4), some (vI y0), none]) rfl rfl rfl ?_
      exact F
    · replace F := F.2 c
      refine wp_const rfl rfl ?_
      refine wp_goto rfl rfl ?_
      exact F
  · replace F := F.2 c
    refine wp_const rfl rfl ?_
    refine wp_goto rfl rfl ?_
    refine wp_aload' (L' := [some (vR l0), some (vR l1), some (vR l2), some (vR l3), some (vI l4), none, none]) rfl rfl rfl rfl ?_
    refine wp_callI rfl rfl rfl rfl rfl rfl rfl rfl ?_
    refine CI.mono F (fun y1 h1 F => ?_) (fun _ _ w => rx_I w)
    refine wp_istore (L2 := [some (vR l0), some (vR l1), some (vR l2), some (vR l3), some (vI l4), some (vI y1), none]) rfl rfl rfl rfl ?_
    refine wp_aload rfl rfl rfl ?_
    refine wp_aload rfl rfl rfl ?_
    refine wp_iload rfl rfl rfl ?_
    refine wp_const rfl rfl ?_
    refine wp_iadd rfl rfl ?_
    obtain ⟨i8, b9, F⟩ := F
    refine wp_saload rfl b9 rfl ?_
    refine wp_aload rfl rfl rfl ?_
    refine wp_iload rfl rfl rfl ?_
    refine wp_const rfl rfl ?_
    refine wp_iadd rfl rfl ?_
    obtain ⟨i9, b9, F⟩ := F
    refine wp_saload rfl b9 rfl ?_
    refine wp_aload rfl rfl rfl ?_
    refine wp_iload rfl rfl rfl ?_
    refine wp_const rfl rfl ?_
    refine wp_iadd rfl rfl ?_
    obtain ⟨i10, b9, F⟩ := F
    refine wp_saload rfl b9 rfl ?_
    refine wp_aload rfl rfl rfl ?_
    refine wp_iload rfl rfl rfl ?_
    refine wp_const rfl rfl ?_
    refine wp_iadd rfl rfl ?_
    obtain ⟨i11, b9, F⟩ := F
    refine wp_saload rfl b9 rfl ?_
    refine wp_if_eq rfl rfl rfl rfl (fun c => ?_) (fun c => ?_)
    · replace F := F.1 c
      refine wp_const' (L' := [some (vR l0), some (vR l1), some (vR l2), some (vR l3), some (vI l4), some (vI y1), none]) rfl rfl rfl ?_
      exact F
    · replace F := F.2 c
      refine wp_const rfl rfl ?_
      refine wp_goto rfl rfl ?_
      exact F
theorem w328_2654 {d : Nat} {l0 : Nat} {l1 : Nat} {l2 : Nat} {l3 : Nat} {l4 : Int32} {h : aH} {K : Int32 → aH → Prop} {X : Nat → aH → Prop} (F : ∃ i0 : Nat, inB h 105 l0 (l4 + 1) i0 ∧ ∃ i1 : Nat, inB h 105 l0 (l4 + 2) i1 ∧ CI d 305 [vR l1, vI (gI h l0 i0), vI (gI h l0 i1), vR l3] h (fun y0 h0 => ∃ i2 : Nat, inB h0 105 l0 (l4 + 1) i2 ∧ ∃ i3 : Nat, inB h0 105 l0 (l4 + 2) i3 ∧ 8 ≤ l2 ∧ gK h0 l2 = 14 ∧ CI d 308 [vR l2, vI (gI h0 l0 i2), vI (gI h0 l0 i3)] h0 (fun y1 h1 => gK h1 l2 = 14 ∧ CI d 17 [vR l2] h1 (fun y2 h2 => ((y2.toInt = y0.toInt → ((y0.toInt = 0 → inB h2 101 l3 0 0 ∧ (((gJ h2 l3 0).toInt = (y1.toInt64).toInt → Wp (d + 1) 328 (3074, [some (vR l0), some (vR l1), some (vR l2), some (vR l3), some (vI l4), none, none], [], h2) (RI K X)) ∧ (¬ (gJ h2 l3 0).toInt = (y1.toInt64).toInt → K 0 h2))) ∧ (¬ y0.toInt = 0 → Wp (d + 1) 328 (3074, [some (vR l0), some (vR l1), some (vR l2), some (vR l3), some (vI l4), none, none], [], h2) (RI K X)))) ∧ (¬ y2.toInt = y0.toInt → K 0 h2))) X) X) X) : Wp (d + 1) 328 (2654, [some (vR l0), some (vR l1), some (vR l2), some (vR l3), some (vI l4), none, none], [], h) (RI K X) := by
  refine wp_aload' (L' := [some (vR l0), some (vR l1), some (vR l2), some (vR l3), some (vI l4), none, none]) rfl rfl rfl rfl ?_
  refine wp_aload rfl rfl rfl ?_
  refine wp_iload rfl rfl rfl ?_
  refine wp_const rfl rfl ?_
  refine wp_iadd rfl rfl ?_
  obtain ⟨i0, b9, F⟩ := F
  refine wp_saload rfl b9 rfl ?_
  refine wp_aload rfl rfl rfl ?_
  refine wp_iload rfl rfl rfl ?_
  refine wp_const rfl rfl ?_
  refine wp_iadd rfl rfl ?_
  obtain ⟨i1, b9, F⟩ := F
  refine wp_saload rfl b9 rfl ?_
  refine wp_aload rfl rfl rfl ?_
  refine wp_callI rfl rfl rfl rfl rfl rfl rfl rfl ?_
  refine CI.mono F (fun y0 h0 F => ?_) (fun _ _ w => rx_I w)
  refine wp_istore (L2 := [some (vR l0), some (vR l1), some (vR l2), some (vR l3), some (vI l4), some (vI y0), none]) rfl rfl rfl rfl ?_
  refine wp_aload rfl rfl rfl ?_
  refine wp_aload rfl rfl rfl ?_
  refine wp_iload rfl rfl rfl ?_
  refine wp_const rfl rfl ?_
  refine wp_iadd rfl rfl ?_
  obtain ⟨i2, b9, F⟩ := F
  refine wp_saload rfl b9 rfl ?_
  refine wp_aload rfl rfl rfl ?_
  refine wp_iload rfl rfl rfl ?_
  refine wp_const rfl rfl ?_
  refine wp_iadd rfl rfl ?_
  obtain ⟨i3, b9, F⟩ := F
  refine wp_saload rfl b9 rfl ?_
  obtain ⟨f0, F⟩ := F
  obtain ⟨f1, F⟩ := F
  refine wp_callI rfl rfl rfl (rcv_v f0 f1 (by decide) (by decide)) rfl rfl rfl rfl ?_
  refine CI.mono F (fun y1 h1 F => ?_) (fun _ _ w => rx_I w)
  refine wp_istore (L2 := [some (vR l0), some (vR l1), some (vR l2), some (vR l3), some (vI l4), some (vI y0), some (vI y1)]) rfl rfl rfl rfl ?_
  refine wp_aload rfl rfl rfl ?_
  obtain ⟨f2, F⟩ := F
  refine wp_callI rfl rfl rfl (rcv_v f0 f2 (by decide) (by decide)) rfl rfl rfl rfl ?_
  refine CI.mono F (fun y2 h2 F => ?_) (fun _ _ w => rx_I w)
  refine wp_iload rfl rfl rfl ?_
  refine wp_icmp_eq rfl rfl rfl rfl rfl (fun c => ?_) (fun c => ?_)
  · replace F := F.1 c
    refine wp_iload rfl rfl rfl ?_
    refine wp_if_ne rfl rfl rfl rfl (fun c => ?_) (fun c => ?_)
    · replace F := F.1 c
      refine wp_aload rfl rfl rfl ?_
      refine wp_const rfl rfl ?_
      refine wp_laload rfl F.1 rfl ?_
      replace F := F.2
      refine wp_iload rfl rfl rfl ?_
      refine wp_i2l rfl rfl ?_
      refine wp_lcmp_eq rfl rfl rfl rfl rfl rfl rfl (fun c => ?_) (fun c => ?_)
      · replace F := F.1 c
        refine wp_goto' (L' := [some (vR l0), some (vR l1), some (vR l2), some (vR l3), some (vI l4), none, none]) rfl rfl rfl ?_
        exact F
      · replace F := F.2 c
        refine wp_const rfl rfl ?_
        exact wp_retI rfl (Or.inr rfl) F
    · replace F := F.2 c
      refine wp_goto' (L' := [some (vR l0), some (vR l1), some (vR l2), some (vR l3), some (vI l4), none, none]) rfl rfl rfl ?_
      exact F
  · replace F := F.2 c
    refine wp_const rfl rfl ?_
    exact wp_retI rfl (Or.inr rfl) F
theorem w328_2722 {d : Nat} {l0 : Nat} {l1 : Nat} {l2 : Nat} {l3 : Nat} {l4 : Int32} {h : aH} {K : Int32 → aH → Prop} {X : Nat → aH → Prop} (F : ∃ i0 : Nat, inB h 105 l0 (l4 + 1) i0 ∧ CI d 310 [vR l1, vI (gI h l0 i0), vR l3] h (fun y0 h0 => ∃ i1 : Nat, inB h0 105 l0 (l4 + 1) i1 ∧ 8 ≤ l2 ∧ gK h0 l2 = 14 ∧ CI d 311 [vR l2, vI (gI h0 l0 i1)] h0 (fun y1 h1 => gK h1 l2 = 14 ∧ CI d 17 [vR l2] h1 (fun y2 h2 => ((y2.toInt = y0.toInt → ((y0.toInt = 0 → inB h2 101 l3 0 0 ∧ (((gJ h2 l3 0).toInt = (y1.toInt64).toInt → Wp (d + 1) 328 (3074, [some (vR l0), some (vR l1), some (vR l2), some (vR l3), some (vI l4), none, none], [], h2) (RI K X)) ∧ (¬ (gJ h2 l3 0).toInt = (y1.toInt64).toInt → K 0 h2))) ∧ (¬ y0.toInt = 0 → Wp (d + 1) 328 (3074, [some (vR l0), some (vR l1), some (vR l2), some (vR l3), some (vI l4), none, none], [], h2) (RI K X)))) ∧ (¬ y2.toInt = y0.toInt → K 0 h2))) X) X) X) : Wp (d + 1) 328 (2722, [some (vR l0), some (vR l1), some (vR l2), some (vR l3), some (vI l4), none, none], [], h) (RI K X) := by
  refine wp_aload' (L' := [some (vR l0), some (vR l1), some (vR l2), some (vR l3), some (vI l4), none, none]) rfl rfl rfl rfl ?_
  refine wp_aload rfl rfl rfl ?_
  refine wp_iload rfl rfl rfl ?_
  refine wp_const rfl rfl ?_
  refine wp_iadd rfl rfl ?_
  obtain ⟨i0, b9, F⟩ := F
  refine wp_saload rfl b9 rfl ?_
  refine wp_aload rfl rfl rfl ?_
  refine wp_callI rfl rfl rfl rfl rfl rfl rfl rfl ?_
  refine CI.mono F (fun y0 h0 F => ?_) (fun _ _ w => rx_I w)
  refine wp_istore (L2 := [some (vR l0), some (vR l1), some (vR l2), some (vR l3), some (vI l4), some (vI y0), none]) rfl rfl rfl rfl ?_
  refine wp_aload rfl rfl rfl ?_
  refine wp_aload rfl rfl rfl ?_
  refine wp_iload rfl rfl rfl ?_
  refine wp_const rfl rfl ?_
  refine wp_iadd rfl rfl ?_
  obtain ⟨i1, b9, F⟩ := F
  refine wp_saload rfl b9 rfl ?_
  obtain ⟨f0, F⟩ := F
  obtain ⟨f1, F⟩ := F
  refine wp_callI rfl rfl rfl (rcv_v f0 f1 (by decide) (by decide)) rfl rfl rfl rfl ?_
  refine CI.mono F (fun y1 h1 F => ?_) (fun _ _ w => rx_I w)
  refine wp_istore (L2 := [some (vR l0), some (vR l1), some (vR l2), some (vR l3), some (vI l4), some (vI y0), some (vI y1)]) rfl rfl rfl rfl ?_
  refine wp_aload rfl rfl rfl ?_
  obtain ⟨f2, F⟩ := F
  refine wp_callI rfl rfl rfl (rcv_v f0 f2 (by decide) (by decide)) rfl rfl rfl rfl ?_
  refine CI.mono F (fun y2 h2 F => ?_) (fun _ _ w => rx_I w)
  refine wp_iload rfl rfl rfl ?_
  refine wp_icmp_eq rfl rfl rfl rfl rfl (fun c => ?_) (fun c => ?_)
  · replace F := F.1 c
    refine wp_iload rfl rfl rfl ?_
    refine wp_if_ne rfl rfl rfl rfl (fun c => ?_) (fun c => ?_)
    · replace F := F.1 c
      refine wp_aload rfl rfl rfl ?_
      refine wp_const rfl rfl ?_
      refine wp_laload rfl F.1 rfl ?_
      replace F := F.2
      refine wp_iload rfl rfl rfl ?_
      refine wp_i2l rfl rfl ?_
      refine wp_lcmp_eq rfl rfl rfl rfl rfl rfl rfl (fun c => ?_) (fun c => ?_)
      · replace F := F.1 c
        refine wp_goto' (L' := [some (vR l0), some (vR l1), some (vR l2), some (vR l3), some (vI l4), none, none]) rfl rfl rfl ?_
        exact F
      · replace F := F.2 c
        refine wp_const rfl rfl ?_
        exact wp_retI rfl (Or.inr rfl) F
    · replace F := F.2 c
      refine wp_goto' (L' := [some (vR l0), some (vR l1), some (vR l2), some (vR l3), some (vI l4), none, none]) rfl rfl rfl ?_
      exact F
  · replace F := F.2 c
    refine wp_const rfl rfl ?_
    exact wp_retI rfl (Or.inr rfl) F
theorem w328_2778 {d : Nat} {l0 : Nat} {l1 : Nat} {l2 : Nat} {l3 : Nat} {l4 : Int32} {h : aH} {K : Int32 → aH → Prop} {X : Nat → aH → Prop} (F : ∃ i0 : Nat, inB h 105 l0 (l4 + 1) i0 ∧ ∃ i1 : Nat, inB h 105 l0 (l4 + 2) i1 ∧ ∃ i2 : Nat, inB h 105 l0 (l4 + 3) i2 ∧ CI d 315 [vR l1, vI (gI h l0 i0), vI (gI h l0 i1), vI (gI h l0 i2), vR l3] h (fun y0 h0 => ∃ i3 : Nat, inB h0 105 l0 (l4 + 1) i3 ∧ ∃ i4 : Nat, inB h0 105 l0 (l4 + 2) i4 ∧ ∃ i5 : Nat, inB h0 105 l0 (l4 + 3) i5 ∧ 8 ≤ l2 ∧ gK h0 l2 = 14 ∧ CI d 316 [vR l2, vI (gI h0 l0 i3), vI (gI h0 l0 i4), vI (gI h0 l0 i5)] h0 (fun y1 h1 => gK h1 l2 = 14 ∧ CI d 17 [vR l2] h1 (fun y2 h2 => ((y2.toInt = y0.toInt → ((y0.toInt = 0 → inB h2 101 l3 0 0 ∧ (((gJ h2 l3 0).toInt = (y1.toInt64).toInt → Wp (d + 1) 328 (3074, [some (vR l0), some (vR l1), some (vR l2), some (vR l3), some (vI l4), none, none], [], h2) (RI K X)) ∧ (¬ (gJ h2 l3 0).toInt = (y1.toInt64).toInt → K 0 h2))) ∧ (¬ y0.toInt = 0 → Wp (d + 1) 328 (3074, [some (vR l0), some (vR l1), some (vR l2), some (vR l3), some (vI l4), none, none], [], h2) (RI K X)))) ∧ (¬ y2.toInt = y0.toInt → K 0 h2))) X) X) X) : Wp (d + 1) 328 (2778, [some (vR l0), some (vR l1), some (vR l2), some (vR l3), some (vI l4), none, none], [], h) (RI K X) := by
  refine wp_aload' (L' := [some (vR l0), some (vR l1), some (vR l2), some (vR l3), some (vI l4), none, none]) rfl rfl rfl rfl ?_
  refine wp_aload rfl rfl rfl ?_
  refine wp_iload rfl rfl rfl ?_
  refine wp_const rfl rfl ?_
  refine wp_iadd rfl rfl ?_
  obtain ⟨i0, b9, F⟩ := F
  refine wp_saload rfl b9 rfl ?_
  refine wp_aload rfl rfl rfl ?_
  refine wp_iload rfl rfl rfl ?_
  refine wp_const rfl rfl ?_
  refine wp_iadd rfl rfl ?_
  obtain ⟨i1, b9, F⟩ := F
  refine wp_saload rfl b9 rfl ?_
  refine wp_aload rfl rfl rfl ?_
  refine wp_iload rfl rfl rfl ?_
  refine wp_const rfl rfl ?_
  refine wp_iadd rfl rfl ?_
  obtain ⟨i2, b9, F⟩ := F
  refine wp_saload rfl b9 rfl ?_
  refine wp_aload rfl rfl rfl ?_
  refine wp_callI rfl rfl rfl rfl rfl rfl rfl rfl ?_
  refine CI.mono F (fun y0 h0 F => ?_) (fun _ _ w => rx_I w)
  refine wp_istore (L2 := [some (vR l0), some (vR l1), some (vR l2), some (vR l3), some (vI l4), some (vI y0), none]) rfl rfl rfl rfl ?_
  refine wp_aload rfl rfl rfl ?_
  refine wp_aload rfl rfl rfl ?_
  refine wp_iload rfl rfl rfl ?_
  refine wp_const rfl rfl ?_
  refine wp_iadd rfl rfl ?_
  obtain ⟨i3, b9, F⟩ := F
  refine wp_saload rfl b9 rfl ?_
  refine wp_aload rfl rfl rfl ?_
  refine wp_iload rfl rfl rfl ?_
  refine wp_const rfl rfl ?_
  refine wp_iadd rfl rfl ?_
  obtain ⟨i4, b9, F⟩ := F
  refine wp_saload rfl b9 rfl ?_
  refine wp_aload rfl rfl rfl ?_
  refine wp_iload rfl rfl rfl ?_
  refine wp_const rfl rfl ?_
  refine wp_iadd rfl rfl ?_
  obtain ⟨i5, b9, F⟩ := F
  refine wp_saload rfl b9 rfl ?_
  obtain ⟨f0, F⟩ := F
  obtain ⟨f1, F⟩ := F
  refine wp_callI rfl rfl rfl (rcv_v f0 f1 (by decide) (by decide)) rfl rfl rfl rfl ?_
  refine CI.mono F (fun y1 h1 F => ?_) (fun _ _ w => rx_I w)
  refine wp_istore (L2 := [some (vR l0), some (vR l1), some (vR l2), some (vR l3), some (vI l4), some (vI y0), some (vI y1)]) rfl rfl rfl rfl ?_
  refine wp_aload rfl rfl rfl ?_
  obtain ⟨f2, F⟩ := F
  refine wp_callI rfl rfl rfl (rcv_v f0 f2 (by decide) (by decide)) rfl rfl rfl rfl ?_
  refine CI.mono F (fun y2 h2 F => ?_) (fun _ _ w => rx_I w)
  refine wp_iload rfl rfl rfl ?_
  refine wp_icmp_eq rfl rfl rfl rfl rfl (fun c => ?_) (fun c => ?_)
  · replace F := F.1 c
    refine wp_iload rfl rfl rfl ?_
    refine wp_if_ne rfl rfl rfl rfl (fun c => ?_) (fun c => ?_)
    · replace F := F.1 c
      refine wp_aload rfl rfl rfl ?_
      refine wp_const rfl rfl ?_
      refine wp_laload rfl F.1 rfl ?_
      replace F := F.2
      refine wp_iload rfl rfl rfl ?_
      refine wp_i2l rfl rfl ?_
      refine wp_lcmp_eq rfl rfl rfl rfl rfl rfl rfl (fun c => ?_) (fun c => ?_)
      · replace F := F.1 c
        refine wp_goto' (L' := [some (vR l0), some (vR l1), some (vR l2), some (vR l3), some (vI l4), none, none]) rfl rfl rfl ?_
        exact F
      · replace F := F.2 c
        refine wp_const rfl rfl ?_
        exact wp_retI rfl (Or.inr rfl) F
    · replace F := F.2 c
      refine wp_goto' (L' := [some (vR l0), some (vR l1), some (vR l2), some (vR l3), some (vI l4), none, none]) rfl rfl rfl ?_
      exact F
  · replace F := F.2 c
    refine wp_const rfl rfl ?_
    exact wp_retI rfl (Or.inr rfl) F
theorem w328_2858 {d : Nat} {l0 : Nat} {l1 : Nat} {l2 : Nat} {l3 : Nat} {l4 : Int32} {h : aH} {K : Int32 → aH → Prop} {X : Nat → aH → Prop} (F : ∃ i0 : Nat, inB h 105 l0 (l4 + 1) i0 ∧ ∃ i1 : Nat, inB h 105 l0 (l4 + 2) i1 ∧ ∃ i2 : Nat, inB h 105 l0 (l4 + 3) i2 ∧ ∃ i3 : Nat, inB h 105 l0 (l4 + 4) i3 ∧ CI d 320 [vR l1, vI (gI h l0 i0), vI (gI h l0 i1), vI (gI h l0 i2), vI (gI h l0 i3), vR l3] h (fun y0 h0 => ∃ i4 : Nat, inB h0 105 l0 (l4 + 1) i4 ∧ ∃ i5 : Nat, inB h0 105 l0 (l4 + 2) i5 ∧ ∃ i6 : Nat, inB h0 105 l0 (l4 + 3) i6 ∧ ∃ i7 : Nat, inB h0 105 l0 (l4 + 4) i7 ∧ 8 ≤ l2 ∧ gK h0 l2 = 14 ∧ CI d 321 [vR l2, vI (gI h0 l0 i4), vI (gI h0 l0 i5), vI (gI h0 l0 i6), vI (gI h0 l0 i7)] h0 (fun y1 h1 => gK h1 l2 = 14 ∧ CI d 17 [vR l2] h1 (fun y2 h2 => ((y2.toInt = y0.toInt → ((y0.toInt = 0 → inB h2 101 l3 0 0 ∧ (((gJ h2 l3 0).toInt = (y1.toInt64).toInt → Wp (d + 1) 328 (3074, [some (vR l0), some (vR l1), some (vR l2), some (vR l3), some (vI l4), none, none], [], h2) (RI K X)) ∧ (¬ (gJ h2 l3 0).toInt = (y1.toInt64).toInt → K 0 h2))) ∧ (¬ y0.toInt = 0 → Wp (d + 1) 328 (3074, [some (vR l0), some (vR l1), some (vR l2), some (vR l3), some (vI l4), none, none], [], h2) (RI K X)))) ∧ (¬ y2.toInt = y0.toInt → K 0 h2))) X) X) X) : Wp (d + 1) 328 (2858, [some (vR l0), some (vR l1), some (vR l2), some (vR l3), some (vI l4), none, none], [], h) (RI K X) := by
  refine wp_aload' (L' := [some (vR l0), some (vR l1), some (vR l2), some (vR l3), some (vI l4), none, none]) rfl rfl rfl rfl ?_
  refine wp_aload rfl rfl rfl ?_
  refine wp_iload rfl rfl rfl ?_
  refine wp_const rfl rfl ?_
  refine wp_iadd rfl rfl ?_
  obtain ⟨i0, b9, F⟩ := F
  refine wp_saload rfl b9 rfl ?_
  refine wp_aload rfl rfl rfl ?_
  refine wp_iload rfl rfl rfl ?_
  refine wp_const rfl rfl ?_
  refine wp_iadd rfl rfl ?_
  obtain ⟨i1, b9, F⟩ := F
  refine wp_saload rfl b9 rfl ?_
  refine wp_aload rfl rfl rfl ?_
  refine wp_iload rfl rfl rfl ?_
  refine wp_const rfl rfl ?_
  refine wp_iadd rfl rfl ?_
  obtain ⟨i2, b9, F⟩ := F
  refine wp_saload rfl b9 rfl ?_
  refine wp_aload rfl rfl rfl ?_
  refine wp_iload rfl rfl rfl ?_
  refine wp_const rfl rfl ?_
  refine wp_iadd rfl rfl ?_
  obtain ⟨i3, b9, F⟩ := F
  refine wp_saload rfl b9 rfl ?_
  refine wp_aload rfl rfl rfl ?_
  refine wp_callI rfl rfl rfl rfl rfl rfl rfl rfl ?_
  refine CI.mono F (fun y0 h0 F => ?_) (fun _ _ w => rx_I w)
  refine wp_istore (L2 := [some (vR l0), some (vR l1), some (vR l2), some (vR l3), some (vI l4), some (vI y0), none]) rfl rfl rfl rfl ?_
  refine wp_aload rfl rfl rfl ?_
  refine wp_aload rfl rfl rfl ?_
  refine wp_iload rfl rfl rfl ?_
  refine wp_const rfl rfl ?_
  refine wp_iadd rfl rfl ?_
  obtain ⟨i4, b9, F⟩ := F
  refine wp_saload rfl b9 rfl ?_
  refine wp_aload rfl rfl rfl ?_
  refine wp_iload rfl rfl rfl ?_
  refine wp_const rfl rfl ?_
  refine wp_iadd rfl rfl ?_
  obtain ⟨i5, b9, F⟩ := F
  refine wp_saload rfl b9 rfl ?_
  refine wp_aload rfl rfl rfl ?_
  refine wp_iload rfl rfl rfl ?_
  refine wp_const rfl rfl ?_
  refine wp_iadd rfl rfl ?_
  obtain ⟨i6, b9, F⟩ := F
  refine wp_saload rfl b9 rfl ?_
  refine wp_aload rfl rfl rfl ?_
  refine wp_iload rfl rfl rfl ?_
  refine wp_const rfl rfl ?_
  refine wp_iadd rfl rfl ?_
  obtain ⟨i7, b9, F⟩ := F
  refine wp_saload rfl b9 rfl ?_
  obtain ⟨f0, F⟩ := F
  obtain ⟨f1, F⟩ := F
  refine wp_callI rfl rfl rfl (rcv_v f0 f1 (by decide) (by decide)) rfl rfl rfl rfl ?_
  refine CI.mono F (fun y1 h1 F => ?_) (fun _ _ w => rx_I w)
  refine wp_istore (L2 := [some (vR l0), some (vR l1), some (vR l2), some (vR l3), some (vI l4), some (vI y0), some (vI y1)]) rfl rfl rfl rfl ?_
  refine wp_aload rfl rfl rfl ?_
  obtain ⟨f2, F⟩ := F
  refine wp_callI rfl rfl rfl (rcv_v f0 f2 (by decide) (by decide)) rfl rfl rfl rfl ?_
  refine CI.mono F (fun y2 h2 F => ?_) (fun _ _ w => rx_I w)
  refine wp_iload rfl rfl rfl ?_
  refine wp_icmp_eq rfl rfl rfl rfl rfl (fun c => ?_) (fun c => ?_)
  · replace F := F.1 c
    refine wp_iload rfl rfl rfl ?_
    refine wp_if_ne rfl rfl rfl rfl (fun c => ?_) (fun c => ?_)
    · replace F := F.1 c
      refine wp_aload rfl rfl rfl ?_
      refine wp_const rfl rfl ?_
      refine wp_laload rfl F.1 rfl ?_
      replace F := F.2
      refine wp_iload rfl rfl rfl ?_
      refine wp_i2l rfl rfl ?_
      refine wp_lcmp_eq rfl rfl rfl rfl rfl rfl rfl (fun c => ?_) (fun c => ?_)
      · replace F := F.1 c
        refine wp_goto' (L' := [some (vR l0), some (vR l1), some (vR l2), some (vR l3), some (vI l4), none, none]) rfl rfl rfl ?_
        exact F
      · replace F := F.2 c
        refine wp_const rfl rfl ?_
        exact wp_retI rfl (Or.inr rfl) F
    · replace F := F.2 c
      refine wp_goto' (L' := [some (vR l0), some (vR l1), some (vR l2), some (vR l3), some (vI l4), none, none]) rfl rfl rfl ?_
      exact F
  · replace F := F.2 c
    refine wp_const rfl rfl ?_
    exact wp_retI rfl (Or.inr rfl) F
theorem w328_2950 {d : Nat} {l0 : Nat} {l1 : Nat} {l2 : Nat} {l3 : Nat} {l4 : Int32} {h : aH} {K : Int32 → aH → Prop} {X : Nat → aH → Prop} (F : ∃ i0 : Nat, inB h 105 l0 (l4 + 1) i0 ∧ ∃ i1 : Nat, inB h 105 l0 (l4 + 2) i1 ∧ CI d 323 [vR l1, vI (gI h l0 i0), vI (gI h l0 i1), vR l3] h (fun y0 h0 => ∃ i2 : Nat, inB h0 105 l0 (l4 + 1) i2 ∧ ∃ i3 : Nat, inB h0 105 l0 (l4 + 2) i3 ∧ 8 ≤ l2 ∧ gK h0 l2 = 14 ∧ CI d 324 [vR l2, vI (gI h0 l0 i2), vI (gI h0 l0 i3)] h0 (fun y1 h1 => gK h1 l2 = 14 ∧ CI d 17 [vR l2] h1 (fun y2 h2 => ((y2.toInt = y0.toInt → ((y0.toInt = 0 → inB h2 101 l3 0 0 ∧ (((gJ h2 l3 0).toInt = (y1.toInt64).toInt → Wp (d + 1) 328 (3074, [some (vR l0), some (vR l1), some (vR l2), some (vR l3), some (vI l4), none, none], [], h2) (RI K X)) ∧ (¬ (gJ h2 l3 0).toInt = (y1.toInt64).toInt → K 0 h2))) ∧ (¬ y0.toInt = 0 → Wp (d + 1) 328 (3074, [some (vR l0), some (vR l1), some (vR l2), some (vR l3), some (vI l4), none, none], [], h2) (RI K X)))) ∧ (¬ y2.toInt = y0.toInt → K 0 h2))) X) X) X) : Wp (d + 1) 328 (2950, [some (vR l0), some (vR l1), some (vR l2), some (vR l3), some (vI l4), none, none], [], h) (RI K X) := by
  refine wp_aload' (L' := [some (vR l0), some (vR l1), some (vR l2), some (vR l3), some (vI l4), none, none]) rfl rfl rfl rfl ?_
  refine wp_aload rfl rfl rfl ?_
  refine wp_iload rfl rfl rfl ?_
  refine wp_const rfl rfl ?_
  refine wp_iadd rfl rfl ?_
  obtain ⟨i0, b9, F⟩ := F
  refine wp_saload rfl b9 rfl ?_
  refine wp_aload rfl rfl rfl ?_
  refine wp_iload rfl rfl rfl ?_
  refine wp_const rfl rfl ?_
  refine wp_iadd rfl rfl ?_
  obtain ⟨i1, b9, F⟩ := F
  refine wp_saload rfl b9 rfl ?_
  refine wp_aload rfl rfl rfl ?_
  refine wp_callI rfl rfl rfl rfl rfl rfl rfl rfl ?_
  refine CI.mono F (fun y0 h0 F => ?_) (fun _ _ w => rx_I w)
  refine wp_istore (L2 := [some (vR l0), some (vR l1), some (vR l2), some (vR l3), some (vI l4), some (vI y0), none]) rfl rfl rfl rfl ?_
  refine wp_aload rfl rfl rfl ?_
  refine wp_aload rfl rfl rfl ?_
  refine wp_iload rfl rfl rfl ?_
  refine wp_const rfl rfl ?_
  refine wp_iadd rfl rfl ?_
  obtain ⟨i2, b9, F⟩ := F
  refine wp_saload rfl b9 rfl ?_
  refine wp_aload rfl rfl rfl ?_
  refine wp_iload rfl rfl rfl ?_
  refine wp_const rfl rfl ?_
  refine wp_iadd rfl rfl ?_
  obtain ⟨i3, b9, F⟩ := F
  refine wp_saload rfl b9 rfl ?_
  obtain ⟨f0, F⟩ := F
  obtain ⟨f1, F⟩ := F
  refine wp_callI rfl rfl rfl (rcv_v f0 f1 (by decide) (by decide)) rfl rfl rfl rfl ?_
  refine CI.mono F (fun y1 h1 F => ?_) (fun _ _ w => rx_I w)
  refine wp_istore (L2 := [some (vR l0), some (vR l1), some (vR l2), some (vR l3), some (vI l4), some (vI y0), some (vI y1)]) rfl rfl rfl rfl ?_
  refine wp_aload rfl rfl rfl ?_
  obtain ⟨f2, F⟩ := F
  refine wp_callI rfl rfl rfl (rcv_v f0 f2 (by decide) (by decide)) rfl rfl rfl rfl ?_
  refine CI.mono F (fun y2 h2 F => ?_) (fun _ _ w => rx_I w)
  refine wp_iload rfl rfl rfl ?_
  refine wp_icmp_eq rfl rfl rfl rfl rfl (fun c => ?_) (fun c => ?_)
  · replace F := F.1 c
    refine wp_iload rfl rfl rfl ?_
    refine wp_if_ne rfl rfl rfl rfl (fun c => ?_) (fun c => ?_)
    · replace F := F.1 c
      refine wp_aload rfl rfl rfl ?_
      refine wp_const rfl rfl ?_
      refine wp_laload rfl F.1 rfl ?_
      replace F := F.2
      refine wp_iload rfl rfl rfl ?_
      refine wp_i2l rfl rfl ?_
      refine wp_lcmp_eq rfl rfl rfl rfl rfl rfl rfl (fun c => ?_) (fun c => ?_)
      · replace F := F.1 c
        refine wp_goto' (L' := [some (vR l0), some (vR l1), some (vR l2), some (vR l3), some (vI l4), none, none]) rfl rfl rfl ?_
        exact F
      · replace F := F.2 c
        refine wp_const rfl rfl ?_
        exact wp_retI rfl (Or.inr rfl) F
    · replace F := F.2 c
      refine wp_goto' (L' := [some (vR l0), some (vR l1), some (vR l2), some (vR l3), some (vI l4), none, none]) rfl rfl rfl ?_
      exact F
  · replace F := F.2 c
    refine wp_const rfl rfl ?_
    exact wp_retI rfl (Or.inr rfl) F
theorem w328_3018 {d : Nat} {l0 : Nat} {l1 : Nat} {l2 : Nat} {l3 : Nat} {l4 : Int32} {h : aH} {K : Int32 → aH → Prop} {X : Nat → aH → Prop} (F : ∃ i0 : Nat, inB h 105 l0 (l4 + 1) i0 ∧ CI d 326 [vR l1, vI (gI h l0 i0), vR l3] h (fun y0 h0 => ∃ i1 : Nat, inB h0 105 l0 (l4 + 1) i1 ∧ 8 ≤ l2 ∧ gK h0 l2 = 14 ∧ CI d 327 [vR l2, vI (gI h0 l0 i1)] h0 (fun y1 h1 => gK h1 l2 = 14 ∧ CI d 17 [vR l2] h1 (fun y2 h2 => ((y2.toInt = y0.toInt → ((y0.toInt = 0 → inB h2 101 l3 0 0 ∧ (((gJ h2 l3 0).toInt = (y1.toInt64).toInt → Wp (d + 1) 328 (3074, [some (vR l0), some (vR l1), some (vR l2), some (vR l3), some (vI l4), none, none], [], h2) (RI K X)) ∧ (¬ (gJ h2 l3 0).toInt = (y1.toInt64).toInt → K 0 h2))) ∧ (¬ y0.toInt = 0 → Wp (d + 1) 328 (3074, [some (vR l0), some (vR l1), some (vR l2), some (vR l3), some (vI l4), none, none], [], h2) (RI K X)))) ∧ (¬ y2.toInt = y0.toInt → K 0 h2))) X) X) X) : Wp (d + 1) 328 (3018, [some (vR l0), some (vR l1), some (vR l2), some (vR l3), some (vI l4), none, none], [], h) (RI K X) := by
  refine wp_aload' (L' := [some (vR l0), some (vR l1), some (vR l2), some (vR l3), some (vI l4), none, none]) rfl rfl rfl rfl ?_
  refine wp_aload rfl rfl rfl ?_
  refine wp_iload rfl rfl rfl ?_
  refine wp_const rfl rfl ?_
  refine wp_iadd rfl rfl ?_
  obtain ⟨i0, b9, F⟩ := F
  refine wp_saload rfl b9 rfl ?_
  refine wp_aload rfl rfl rfl ?_
  refine wp_callI rfl rfl rfl rfl rfl rfl rfl rfl ?_
  refine CI.mono F (fun y0 h0 F => ?_) (fun _ _ w => rx_I w)
  refine wp_istore (L2 := [some (vR l0), some (vR l1), some (vR l2), some (vR l3), some (vI l4), some (vI y0), none]) rfl rfl rfl rfl ?_
  refine wp_aload rfl rfl rfl ?_
  refine wp_aload rfl rfl rfl ?_
  refine wp_iload rfl rfl rfl ?_
  refine wp_const rfl rfl ?_
  refine wp_iadd rfl rfl ?_
  obtain ⟨i1, b9, F⟩ := F
  refine wp_saload rfl b9 rfl ?_
  obtain ⟨f0, F⟩ := F
  obtain ⟨f1, F⟩ := F
  refine wp_callI rfl rfl rfl (rcv_v f0 f1 (by decide) (by decide)) rfl rfl rfl rfl ?_
  refine CI.mono F (fun y1 h1 F => ?_) (fun _ _ w => rx_I w)
  refine wp_istore (L2 := [some (vR l0), some (vR l1), some (vR l2), some (vR l3), some (vI l4), some (vI y0), some (vI y1)]) rfl rfl rfl rfl ?_
  refine wp_aload rfl rfl rfl ?_
  obtain ⟨f2, F⟩ := F
  refine wp_callI rfl rfl rfl (rcv_v f0 f2 (by decide) (by decide)) rfl rfl rfl rfl ?_
  refine CI.mono F (fun y2 h2 F => ?_) (fun _ _ w => rx_I w)
  refine wp_iload rfl rfl rfl ?_
  refine wp_icmp_eq rfl rfl rfl rfl rfl (fun c => ?_) (fun c => ?_)
  · replace F := F.1 c
    refine wp_iload rfl rfl rfl ?_
    refine wp_if_ne rfl rfl rfl rfl (fun c => ?_) (fun c => ?_)
    · replace F := F.1 c
      refine wp_aload rfl rfl rfl ?_
      refine wp_const rfl rfl ?_
      refine wp_laload rfl F.1 rfl ?_
      replace F := F.2
      refine wp_iload rfl rfl rfl ?_
      refine wp_i2l rfl rfl ?_
      refine wp_lcmp_eq rfl rfl rfl rfl rfl rfl rfl (fun c => ?_) (fun c => ?_)
      · replace F := F.1 c
        refine wp_goto' (L' := [some (vR l0), some (vR l1), some (vR l2), some (vR l3), some (vI l4), none, none]) rfl rfl rfl ?_
        exact F
      · replace F := F.2 c
        refine wp_const rfl rfl ?_
        exact wp_retI rfl (Or.inr rfl) F
    · replace F := F.2 c
      refine wp_goto' (L' := [some (vR l0), some (vR l1), some (vR l2), some (vR l3), some (vI l4), none, none]) rfl rfl rfl ?_
      exact F
  · replace F := F.2 c
    refine wp_const rfl rfl ?_
    exact wp_retI rfl (Or.inr rfl) F
theorem w328_3074 {d : Nat} {l0 : Nat} {l1 : Nat} {l2 : Nat} {l3 : Nat} {l4 : Int32} {h : aH} {K : Int32 → aH → Prop} {X : Nat → aH → Prop} (F : ∀ v0 : Int32, v0 = l4 + 7 → Wp (d + 1) 328 (23, [some (vR l0), some (vR l1), some (vR l2), some (vR l3), some (vI v0), none, none], [], h) (RI K X)) : Wp (d + 1) 328 (3074, [some (vR l0), some (vR l1), some (vR l2), some (vR l3), some (vI l4), none, none], [], h) (RI K X) := by
  refine wp_iinc' (L' := [some (vR l0), some (vR l1), some (vR l2), some (vR l3), some (vI l4), none, none]) (y := 7) (L2 := [some (vR l0), some (vR l1), some (vR l2), some (vR l3), some (vI (l4 + 7)), none, none]) rfl rfl rfl rfl rfl rfl ?_
  replace F := F _ rfl
  generalize (l4 + 7 : Int32) = v0 at F ⊢
  refine wp_goto rfl rfl ?_
  exact F
theorem w328_1208 {d : Nat} {l0 : Nat} {l1 : Nat} {l2 : Nat} {l3 : Nat} {l4 : Int32} {l5 : Int32} {s0 : Int32} {s1 : Int32} {s2 : Int32} {s3 : Nat} {h : aH} {K : Int32 → aH → Prop} {X : Nat → aH → Prop} (F : 8 ≤ s3 ∧ gK h s3 = 14 ∧ CI d 167 [vR s3, vI s2, vI s1, vI s0] h (fun y0 h0 => 8 ≤ l2 ∧ gK h0 l2 = 14 ∧ CI d 17 [vR l2] h0 (fun y1 h1 => ((y1.toInt = l5.toInt → ((l5.toInt = 0 → inB h1 101 l3 0 0 ∧ (((gJ h1 l3 0).toInt = (y0.toInt64).toInt → Wp (d + 1) 328 (3074, [some (vR l0), some (vR l1), some (vR l2), some (vR l3), some (vI l4), none, none], [], h1) (RI K X)) ∧ (¬ (gJ h1 l3 0).toInt = (y0.toInt64).toInt → K 0 h1))) ∧ (¬ l5.toInt = 0 → Wp (d + 1) 328 (3074, [some (vR l0), some (vR l1), some (vR l2), some (vR l3), some (vI l4), none, none], [], h1) (RI K X)))) ∧ (¬ y1.toInt = l5.toInt → K 0 h1))) X) X) : Wp (d + 1) 328 (1208, [some (vR l0), some (vR l1), some (vR l2), some (vR l3), some (vI l4), some (vI l5), none], [vI s0, vI s1, vI s2, vR s3], h) (RI K X) := by
  obtain ⟨f0, F⟩ := F
  obtain ⟨f1, F⟩ := F
  refine wp_callI' (L' := [some (vR l0), some (vR l1), some (vR l2), some (vR l3), some (vI l4), some (vI l5), none]) rfl rfl rfl rfl (rcv_v f0 f1 (by decide) (by decide)) rfl rfl rfl rfl ?_
  refine CI.mono F (fun y0 h0 F => ?_) (fun _ _ w => rx_I w)
  refine wp_istore (L2 := [some (vR l0), some (vR l1), some (vR l2), some (vR l3), some (vI l4), some (vI l5), some (vI y0)]) rfl rfl rfl rfl ?_
  refine wp_aload rfl rfl rfl ?_
  obtain ⟨f2, F⟩ := F
  obtain ⟨f3, F⟩ := F
  refine wp_callI rfl rfl rfl (rcv_v f2 f3 (by decide) (by decide)) rfl rfl rfl rfl ?_
  refine CI.mono F (fun y1 h1 F => ?_) (fun _ _ w => rx_I w)
  refine wp_iload rfl rfl rfl ?_
  refine wp_icmp_eq rfl rfl rfl rfl rfl (fun c => ?_) (fun c => ?_)
  · replace F := F.1 c
    refine wp_iload rfl rfl rfl ?_
    refine wp_if_ne rfl rfl rfl rfl (fun c => ?_) (fun c => ?_)
    · replace F := F.1 c
      refine wp_aload rfl rfl rfl ?_
      refine wp_const rfl rfl ?_
      refine wp_laload rfl F.1 rfl ?_
      replace F := F.2
      refine wp_iload rfl rfl rfl ?_
      refine wp_i2l rfl rfl ?_
      refine wp_lcmp_eq rfl rfl rfl rfl rfl rfl rfl (fun c => ?_) (fun c => ?_)
      · replace F := F.1 c
        refine wp_goto' (L' := [some (vR l0), some (vR l1), some (vR l2), some (vR l3), some (vI l4), none, none]) rfl rfl rfl ?_
        exact F
      · replace F := F.2 c
        refine wp_const rfl rfl ?_
        exact wp_retI rfl (Or.inr rfl) F
    · replace F := F.2 c
      refine wp_goto' (L' := [some (vR l0), some (vR l1), some (vR l2), some (vR l3), some (vI l4), none, none]) rfl rfl rfl ?_
      exact F
  · replace F := F.2 c
    refine wp_const rfl rfl ?_
    exact wp_retI rfl (Or.inr rfl) F
theorem w328_1724 {d : Nat} {l0 : Nat} {l1 : Nat} {l2 : Nat} {l3 : Nat} {l4 : Int32} {l5 : Int32} {s0 : Int32} {s1 : Int32} {s2 : Nat} {h : aH} {K : Int32 → aH → Prop} {X : Nat → aH → Prop} (F : 8 ≤ s2 ∧ gK h s2 = 14 ∧ CI d 212 [vR s2, vI s1, vI s0] h (fun y0 h0 => 8 ≤ l2 ∧ gK h0 l2 = 14 ∧ CI d 17 [vR l2] h0 (fun y1 h1 => ((y1.toInt = l5.toInt → ((l5.toInt = 0 → inB h1 101 l3 0 0 ∧ (((gJ h1 l3 0).toInt = (y0.toInt64).toInt → Wp (d + 1) 328 (3074, [some (vR l0), some (vR l1), some (vR l2), some (vR l3), some (vI l4), none, none], [], h1) (RI K X)) ∧ (¬ (gJ h1 l3 0).toInt = (y0.toInt64).toInt → K 0 h1))) ∧ (¬ l5.toInt = 0 → Wp (d + 1) 328 (3074, [some (vR l0), some (vR l1), some (vR l2), some (vR l3), some (vI l4), none, none], [], h1) (RI K X)))) ∧ (¬ y1.toInt = l5.toInt → K 0 h1))) X) X) : Wp (d + 1) 328 (1724, [some (vR l0), some (vR l1), some (vR l2), some (vR l3), some (vI l4), some (vI l5), none], [vI s0, vI s1, vR s2], h) (RI K X) := by
  obtain ⟨f0, F⟩ := F
  obtain ⟨f1, F⟩ := F
  refine wp_callI' (L' := [some (vR l0), some (vR l1), some (vR l2), some (vR l3), some (vI l4), some (vI l5), none]) rfl rfl rfl rfl (rcv_v f0 f1 (by decide) (by decide)) rfl rfl rfl rfl ?_
  refine CI.mono F (fun y0 h0 F => ?_) (fun _ _ w => rx_I w)
  refine wp_istore (L2 := [some (vR l0), some (vR l1), some (vR l2), some (vR l3), some (vI l4), some (vI l5), some (vI y0)]) rfl rfl rfl rfl ?_
  refine wp_aload rfl rfl rfl ?_
  obtain ⟨f2, F⟩ := F
  obtain ⟨f3, F⟩ := F
  refine wp_callI rfl rfl rfl (rcv_v f2 f3 (by decide) (by decide)) rfl rfl rfl rfl ?_
  refine CI.mono F (fun y1 h1 F => ?_) (fun _ _ w => rx_I w)
  refine wp_iload rfl rfl rfl ?_
  refine wp_icmp_eq rfl rfl rfl rfl rfl (fun c => ?_) (fun c => ?_)
  · replace F := F.1 c
    refine wp_iload rfl rfl rfl ?_
    refine wp_if_ne rfl rfl rfl rfl (fun c => ?_) (fun c => ?_)
    · replace F := F.1 c
      refine wp_aload rfl rfl rfl ?_
      refine wp_const rfl rfl ?_
      refine wp_laload rfl F.1 rfl ?_
      replace F := F.2
      refine wp_iload rfl rfl rfl ?_
      refine wp_i2l rfl rfl ?_
      refine wp_lcmp_eq rfl rfl rfl rfl rfl rfl rfl (fun c => ?_) (fun c => ?_)
      · replace F := F.1 c
        refine wp_goto' (L' := [some (vR l0), some (vR l1), some (vR l2), some (vR l3), some (vI l4), none, none]) rfl rfl rfl ?_
        exact F
      · replace F := F.2 c
        refine wp_const rfl rfl ?_
        exact wp_retI rfl (Or.inr rfl) F
    · replace F := F.2 c
      refine wp_goto' (L' := [some (vR l0), some (vR l1), some (vR l2), some (vR l3), some (vI l4), none, none]) rfl rfl rfl ?_
      exact F
  · replace F := F.2 c
    refine wp_const rfl rfl ?_
    exact wp_retI rfl (Or.inr rfl) F
theorem w328_2074 {d : Nat} {l0 : Nat} {l1 : Nat} {l2 : Nat} {l3 : Nat} {l4 : Int32} {l5 : Int32} {s0 : Int32} {s1 : Int32} {s2 : Int32} {s3 : Nat} {h : aH} {K : Int32 → aH → Prop} {X : Nat → aH → Prop} (F : 8 ≤ s3 ∧ gK h s3 = 14 ∧ CI d 253 [vR s3, vI s2, vI s1, vI s0] h (fun y0 h0 => 8 ≤ l2 ∧ gK h0 l2 = 14 ∧ CI d 17 [vR l2] h0 (fun y1 h1 => ((y1.toInt = l5.toInt → ((l5.toInt = 0 → inB h1 101 l3 0 0 ∧ (((gJ h1 l3 0).toInt = (y0.toInt64).toInt → Wp (d + 1) 328 (3074, [some (vR l0), some (vR l1), some (vR l2), some (vR l3), some (vI l4), none, none], [], h1) (RI K X)) ∧ (¬ (gJ h1 l3 0).toInt = (y0.toInt64).toInt → K 0 h1))) ∧ (¬ l5.toInt = 0 → Wp (d + 1) 328 (3074, [some (vR l0), some (vR l1), some (vR l2), some (vR l3), some (vI l4), none, none], [], h1) (RI K X)))) ∧ (¬ y1.toInt = l5.toInt → K 0 h1))) X) X) : Wp (d + 1) 328 (2074, [some (vR l0), some (vR l1), some (vR l2), some (vR l3), some (vI l4), some (vI l5), none], [vI s0, vI s1, vI s2, vR s3], h) (RI K X) := by
  obtain ⟨f0, F⟩ := F
  obtain ⟨f1, F⟩ := F
  refine wp_callI' (L' := [some (vR l0), some (vR l1), some (vR l2), some (vR l3), some (vI l4), some (vI l5), none]) rfl rfl rfl rfl (rcv_v f0 f1 (by decide) (by decide)) rfl rfl rfl rfl ?_
  refine CI.mono F (fun y0 h0 F => ?_) (fun _ _ w => rx_I w)
  refine wp_istore (L2 := [some (vR l0), some (vR l1), some (vR l2), some (vR l3), some (vI l4), some (vI l5), some (vI y0)]) rfl rfl rfl rfl ?_
  refine wp_aload rfl rfl rfl ?_
  obtain ⟨f2, F⟩ := F
  obtain ⟨f3, F⟩ := F
  refine wp_callI rfl rfl rfl (rcv_v f2 f3 (by decide) (by decide)) rfl rfl rfl rfl ?_
  refine CI.mono F (fun y1 h1 F => ?_) (fun _ _ w => rx_I w)
  refine wp_iload rfl rfl rfl ?_
  refine wp_icmp_eq rfl rfl rfl rfl rfl (fun c => ?_) (fun c => ?_)
  · replace F := F.1 c
    refine wp_iload rfl rfl rfl ?_
    refine wp_if_ne rfl rfl rfl rfl (fun c => ?_) (fun c => ?_)
    · replace F := F.1 c
      refine wp_aload rfl rfl rfl ?_
      refine wp_const rfl rfl ?_
      refine wp_laload rfl F.1 rfl ?_
      replace F := F.2
      refine wp_iload rfl rfl rfl ?_
      refine wp_i2l rfl rfl ?_
      refine wp_lcmp_eq rfl rfl rfl rfl rfl rfl rfl (fun c => ?_) (fun c => ?_)
      · replace F := F.1 c
        refine wp_goto' (L' := [some (vR l0), some (vR l1), some (vR l2), some (vR l3), some (vI l4), none, none]) rfl rfl rfl ?_
        exact F
      · replace F := F.2 c
        refine wp_const rfl rfl ?_
        exact wp_retI rfl (Or.inr rfl) F
    · replace F := F.2 c
      refine wp_goto' (L' := [some (vR l0), some (vR l1), some (vR l2), some (vR l3), some (vI l4), none, none]) rfl rfl rfl ?_
      exact F
  · replace F := F.2 c
    refine wp_const rfl rfl ?_
    exact wp_retI rfl (Or.inr rfl) F
theorem w328_2618 {d : Nat} {l0 : Nat} {l1 : Nat} {l2 : Nat} {l3 : Nat} {l4 : Int32} {l5 : Int32} {s0 : Int32} {s1 : Int32} {s2 : Int32} {s3 : Int32} {s4 : Nat} {h : aH} {K : Int32 → aH → Prop} {X : Nat → aH → Prop} (F : 8 ≤ s4 ∧ gK h s4 = 14 ∧ CI d 299 [vR s4, vI s3, vI s2, vI s1, vI s0] h (fun y0 h0 => 8 ≤ l2 ∧ gK h0 l2 = 14 ∧ CI d 17 [vR l2] h0 (fun y1 h1 => ((y1.toInt = l5.toInt → ((l5.toInt = 0 → inB h1 101 l3 0 0 ∧ (((gJ h1 l3 0).toInt = (y0.toInt64).toInt → Wp (d + 1) 328 (3074, [some (vR l0), some (vR l1), some (vR l2), some (vR l3), some (vI l4), none, none], [], h1) (RI K X)) ∧ (¬ (gJ h1 l3 0).toInt = (y0.toInt64).toInt → K 0 h1))) ∧ (¬ l5.toInt = 0 → Wp (d + 1) 328 (3074, [some (vR l0), some (vR l1), some (vR l2), some (vR l3), some (vI l4), none, none], [], h1) (RI K X)))) ∧ (¬ y1.toInt = l5.toInt → K 0 h1))) X) X) : Wp (d + 1) 328 (2618, [some (vR l0), some (vR l1), some (vR l2), some (vR l3), some (vI l4), some (vI l5), none], [vI s0, vI s1, vI s2, vI s3, vR s4], h) (RI K X) := by
  obtain ⟨f0, F⟩ := F
  obtain ⟨f1, F⟩ := F
  refine wp_callI' (L' := [some (vR l0), some (vR l1), some (vR l2), some (vR l3), some (vI l4), some (vI l5), none]) rfl rfl rfl rfl (rcv_v f0 f1 (by decide) (by decide)) rfl rfl rfl rfl ?_
  refine CI.mono F (fun y0 h0 F => ?_) (fun _ _ w => rx_I w)
  refine wp_istore (L2 := [some (vR l0), some (vR l1), some (vR l2), some (vR l3), some (vI l4), some (vI l5), some (vI y0)]) rfl rfl rfl rfl ?_
  refine wp_aload rfl rfl rfl ?_
  obtain ⟨f2, F⟩ := F
  obtain ⟨f3, F⟩ := F
  refine wp_callI rfl rfl rfl (rcv_v f2 f3 (by decide) (by decide)) rfl rfl rfl rfl ?_
  refine CI.mono F (fun y1 h1 F => ?_) (fun _ _ w => rx_I w)
  refine wp_iload rfl rfl rfl ?_
  refine wp_icmp_eq rfl rfl rfl rfl rfl (fun c => ?_) (fun c => ?_)
  · replace F := F.1 c
    refine wp_iload rfl rfl rfl ?_
    refine wp_if_ne rfl rfl rfl rfl (fun c => ?_) (fun c => ?_)
    · replace F := F.1 c
      refine wp_aload rfl rfl rfl ?_
      refine wp_const rfl rfl ?_
      refine wp_laload rfl F.1 rfl ?_
      replace F := F.2
      refine wp_iload rfl rfl rfl ?_
      refine wp_i2l rfl rfl ?_
      refine wp_lcmp_eq rfl rfl rfl rfl rfl rfl rfl (fun c => ?_) (fun c => ?_)
      · replace F := F.1 c
        refine wp_goto' (L' := [some (vR l0), some (vR l1), some (vR l2), some (vR l3), some (vI l4), none, none]) rfl rfl rfl ?_
        exact F
      · replace F := F.2 c
        refine wp_const rfl rfl ?_
        exact wp_retI rfl (Or.inr rfl) F
    · replace F := F.2 c
      refine wp_goto' (L' := [some (vR l0), some (vR l1), some (vR l2), some (vR l3), some (vI l4), none, none]) rfl rfl rfl ?_
      exact F
  · replace F := F.2 c
    refine wp_const rfl rfl ?_
    exact wp_retI rfl (Or.inr rfl) F
