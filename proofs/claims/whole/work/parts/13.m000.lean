/-! THE FORMULAS OF THE METHODS 0 TO 52 (written by wip/tools/gen13.py): what a run from a cut point needs -/
-- java/lang/Math max (II)I
theorem m0 {d : Nat} {a0 : Int32} {a1 : Int32} {h : aH} {K : Int32 → aH → Prop} {X : Nat → aH → Prop} (F : ((a0.toInt < a1.toInt → K a1 h) ∧ (¬ a0.toInt < a1.toInt → K a0 h))) : CI d 0 [vI a0, vI a1] h K X := by
  show Wp d 0 (0, [some (vI a0), some (vI a1)], [], h) (RI K X)
  refine wp_iload rfl rfl rfl ?_
  refine wp_iload rfl rfl rfl ?_
  refine wp_icmp_lt rfl rfl rfl rfl rfl (fun c => ?_) (fun c => ?_)
  · replace F := F.1 c
    refine wp_iload' (L' := [none, some (vI a1)]) rfl rfl rfl rfl ?_
    exact wp_retI rfl (Or.inl rfl) F
  · replace F := F.2 c
    refine wp_iload rfl rfl rfl ?_
    refine wp_goto rfl rfl ?_
    exact wp_retI rfl (Or.inl rfl) F
-- CensusOffice$Rows <init> (II)V
theorem m1 {d : Nat} {a0 : Nat} {a1 : Int32} {a2 : Int32} {h : aH} {K : aH → Prop} {X : Nat → aH → Prop} (F : 8 ≤ a0 ∧ gK h a0 = 8 ∧ ∀ h0 : aH, h0 = pI h a0 3 0 → ∀ h1 : aH, h1 = pI h0 a0 0 a1 → ∀ h2 : aH, h2 = pI h1 a0 1 a2 → CI d 0 [vI 0, vI a1] h2 (fun y0 h3 => ∃ i0 : Nat, (y0 * 8) = nI i0 ∧ i0 ≤ 1000000 ∧ ∀ (r0 : Nat) (h4 : aH), r0 = gN h3 → h4 = gNew h3 100 i0 → gK h4 a0 = 8 ∧ ∀ h5 : aH, h5 = pR h4 a0 2 r0 → K h5) X) : CV (d + 1) 1 [vR a0, vI a1, vI a2] h K X := by
  show Wp (d + 1) 1 (0, [some (vR a0), some (vI a1), some (vI a2)], [], h) (RV K X)
  refine wp_aload rfl rfl rfl ?_
  obtain ⟨f0, F⟩ := F
  refine wp_obj rfl f0 rfl rfl ?_
  refine wp_aload rfl rfl rfl ?_
  refine wp_const rfl rfl ?_
  obtain ⟨f1, F⟩ := F
  refine wp_putI rfl rfl rfl f0 f1 rfl ?_
  have f2 : gK (pI h a0 3 0) a0 = 8 := (gK_pI _ _ _ _ _).trans f1
  replace F := F _ rfl
  generalize pI h a0 3 0 = h0 at F f2 ⊢
  refine wp_aload rfl rfl rfl ?_
  refine wp_iload rfl rfl rfl ?_
  refine wp_putI rfl rfl rfl f0 f2 rfl ?_
  have f3 : gK (pI h0 a0 0 a1) a0 = 8 := (gK_pI _ _ _ _ _).trans f2
  replace F := F _ rfl
  generalize pI h0 a0 0 a1 = h1 at F f3 ⊢
  refine wp_aload rfl rfl rfl ?_
  refine wp_iload rfl rfl rfl ?_
  refine wp_putI rfl rfl rfl f0 f3 rfl ?_
  have f4 : gK (pI h1 a0 1 a2) a0 = 8 := (gK_pI _ _ _ _ _).trans f3
  replace F := F _ rfl
  generalize pI h1 a0 1 a2 = h2 at F f4 ⊢
  refine wp_aload rfl rfl rfl ?_
  refine wp_const rfl rfl ?_
  refine wp_iload rfl rfl rfl ?_
  refine wp_callI rfl rfl rfl rfl rfl rfl rfl rfl ?_
  refine CI.mono F (fun y0 h3 F => ?_) (fun _ _ w => rx_V w)
  refine wp_const rfl rfl ?_
  refine wp_imul rfl rfl ?_
  obtain ⟨i0, e9, b9, F⟩ := F
  refine wp_newI rfl e9 b9 rfl ?_
  replace F := F _ _ rfl rfl
  generalize gNew h3 100 i0 = h4 at F ⊢
  generalize gN h3 = r0 at F ⊢
  obtain ⟨f5, F⟩ := F
  refine wp_putR rfl rfl rfl f0 f5 rfl ?_
  have f6 : gK (pR h4 a0 2 r0) a0 = 8 := (gK_pR _ _ _ _ _).trans f5
  replace F := F _ rfl
  generalize pR h4 a0 2 r0 = h5 at F f6 ⊢
  exact wp_retV rfl F
-- CensusOffice$Register <init> ()V
theorem m2 {d : Nat} {a0 : Nat} {h : aH} {K : aH → Prop} {X : Nat → aH → Prop} (F : 8 ≤ a0 ∧ ∀ (r0 : Nat) (h0 : aH), r0 = gN h → h0 = gNew h 8 4 → 8 ≤ r0 ∧ CV d 1 [vR r0, vI 2, vI 100] h0 (fun h1 => gK h1 a0 = 6 ∧ ∀ h2 : aH, h2 = pR h1 a0 0 r0 → ∀ (r1 : Nat) (h3 : aH), r1 = gN h2 → h3 = gNew h2 8 4 → 8 ≤ r1 ∧ CV d 1 [vR r1, vI 5, vI 1500] h3 (fun h4 => gK h4 a0 = 6 ∧ ∀ h5 : aH, h5 = pR h4 a0 1 r1 → ∀ (r2 : Nat) (h6 : aH), r2 = gN h5 → h6 = gNew h5 100 100 → gK h6 a0 = 6 ∧ ∀ h7 : aH, h7 = pR h6 a0 2 r2 → ∀ (r3 : Nat) (h8 : aH), r3 = gN h7 → h8 = gNew h7 100 100 → gK h8 a0 = 6 ∧ ∀ h9 : aH, h9 = pR h8 a0 3 r3 → ∀ (r4 : Nat) (h10 : aH), r4 = gN h9 → h10 = gNew h9 100 100 → gK h10 a0 = 6 ∧ ∀ h11 : aH, h11 = pR h10 a0 4 r4 → ∀ h12 : aH, h12 = pI h11 a0 5 0 → K h12) (fun _ _ => False)) (fun _ _ => False)) : CV (d + 1) 2 [vR a0] h K X := by
  show Wp (d + 1) 2 (0, [some (vR a0)], [], h) (RV K X)
  refine wp_aload rfl rfl rfl ?_
  obtain ⟨f0, F⟩ := F
  refine wp_obj rfl f0 rfl rfl ?_
  refine wp_aload rfl rfl rfl ?_
  refine wp_new rfl rfl rfl rfl ?_
  replace F := F _ _ rfl rfl
  generalize gNew h 8 4 = h0 at F ⊢
  generalize gN h = r0 at F ⊢
  refine wp_dup rfl rfl rfl ?_
  refine wp_const rfl rfl ?_
  refine wp_const rfl rfl ?_
  obtain ⟨f1, F⟩ := F
  refine wp_callqV rfl rfl rfl (rcv_c f1) rfl rfl ?_
  refine CV.mono F (fun h1 F => ?_) (fun _ _ w => w)
  obtain ⟨f2, F⟩ := F
  refine wp_putR rfl rfl rfl f0 f2 rfl ?_
  have f3 : gK (pR h1 a0 0 r0) a0 = 6 := (gK_pR _ _ _ _ _).trans f2
  replace F := F _ rfl
  generalize pR h1 a0 0 r0 = h2 at F f3 ⊢
  refine wp_aload rfl rfl rfl ?_
  refine wp_new rfl rfl rfl rfl ?_
  replace F := F _ _ rfl rfl
  generalize gNew h2 8 4 = h3 at F ⊢
  generalize gN h2 = r1 at F ⊢
  refine wp_dup rfl rfl rfl ?_
  refine wp_const rfl rfl ?_
  refine wp_const rfl rfl ?_
  obtain ⟨f4, F⟩ := F
  refine wp_callqV rfl rfl rfl (rcv_c f4) rfl rfl ?_
  refine CV.mono F (fun h4 F => ?_) (fun _ _ w => w)
  obtain ⟨f5, F⟩ := F
  refine wp_putR rfl rfl rfl f0 f5 rfl ?_
  have f6 : gK (pR h4 a0 1 r1) a0 = 6 := (gK_pR _ _ _ _ _).trans f5
  replace F := F _ rfl
  generalize pR h4 a0 1 r1 = h5 at F f6 ⊢
  refine wp_aload rfl rfl rfl ?_
  refine wp_const rfl rfl ?_
  refine wp_newI (j := 100) rfl rfl (by decide) rfl ?_
  replace F := F _ _ rfl rfl
  generalize gNew h5 100 100 = h6 at F ⊢
  generalize gN h5 = r2 at F ⊢
  obtain ⟨f7, F⟩ := F
  refine wp_putR rfl rfl rfl f0 f7 rfl ?_
  have f8 : gK (pR h6 a0 2 r2) a0 = 6 := (gK_pR _ _ _ _ _).trans f7
  replace F := F _ rfl
  generalize pR h6 a0 2 r2 = h7 at F f8 ⊢
  refine wp_aload rfl rfl rfl ?_
  refine wp_const rfl rfl ?_
  refine wp_newI (j := 100) rfl rfl (by decide) rfl ?_
  replace F := F _ _ rfl rfl
  generalize gNew h7 100 100 = h8 at F ⊢
  generalize gN h7 = r3 at F ⊢
  obtain ⟨f9, F⟩ := F
  refine wp_putR rfl rfl rfl f0 f9 rfl ?_
  have f10 : gK (pR h8 a0 3 r3) a0 = 6 := (gK_pR _ _ _ _ _).trans f9
  replace F := F _ rfl
  generalize pR h8 a0 3 r3 = h9 at F f10 ⊢
  refine wp_aload rfl rfl rfl ?_
  refine wp_const rfl rfl ?_
  refine wp_newI (j := 100) rfl rfl (by decide) rfl ?_
  replace F := F _ _ rfl rfl
  generalize gNew h9 100 100 = h10 at F ⊢
  generalize gN h9 = r4 at F ⊢
  obtain ⟨f11, F⟩ := F
  refine wp_putR rfl rfl rfl f0 f11 rfl ?_
  have f12 : gK (pR h10 a0 4 r4) a0 = 6 := (gK_pR _ _ _ _ _).trans f11
  replace F := F _ rfl
  generalize pR h10 a0 4 r4 = h11 at F f12 ⊢
  refine wp_aload rfl rfl rfl ?_
  refine wp_const rfl rfl ?_
  refine wp_putI rfl rfl rfl f0 f12 rfl ?_
  have f13 : gK (pI h11 a0 5 0) a0 = 6 := (gK_pI _ _ _ _ _).trans f12
  replace F := F _ rfl
  generalize pI h11 a0 5 0 = h12 at F f13 ⊢
  exact wp_retV rfl F
-- CensusOffice$Tape <init> ()V
theorem m3 {d : Nat} {a0 : Nat} {h : aH} {K : aH → Prop} {X : Nat → aH → Prop} (F : 8 ≤ a0 ∧ ∀ (r0 : Nat) (h0 : aH), r0 = gN h → h0 = gNew h 103 1200 → gK h0 a0 = 12 ∧ ∀ h1 : aH, h1 = pR h0 a0 0 r0 → ∀ h2 : aH, h2 = pI h1 a0 1 0 → ∀ h3 : aH, h3 = pI h2 a0 2 0 → ∀ h4 : aH, h4 = pI h3 a0 3 6 → ∀ h5 : aH, h5 = pI h4 a0 4 0 → ∀ h6 : aH, h6 = pI h5 a0 5 0 → ∀ h7 : aH, h7 = pJ h6 a0 6 0 → K h7) : CV d 3 [vR a0] h K X := by
  show Wp d 3 (0, [some (vR a0)], [], h) (RV K X)
  refine wp_aload rfl rfl rfl ?_
  obtain ⟨f0, F⟩ := F
  refine wp_obj rfl f0 rfl rfl ?_
  refine wp_aload rfl rfl rfl ?_
  refine wp_const rfl rfl ?_
  refine wp_newB (j := 1200) rfl rfl (by decide) rfl ?_
  replace F := F _ _ rfl rfl
  generalize gNew h 103 1200 = h0 at F ⊢
  generalize gN h = r0 at F ⊢
  obtain ⟨f1, F⟩ := F
  refine wp_putR rfl rfl rfl f0 f1 rfl ?_
  have f2 : gK (pR h0 a0 0 r0) a0 = 12 := (gK_pR _ _ _ _ _).trans f1
  replace F := F _ rfl
  generalize pR h0 a0 0 r0 = h1 at F f2 ⊢
  refine wp_aload rfl rfl rfl ?_
  refine wp_const rfl rfl ?_
  refine wp_putI rfl rfl rfl f0 f2 rfl ?_
  have f3 : gK (pI h1 a0 1 0) a0 = 12 := (gK_pI _ _ _ _ _).trans f2
  replace F := F _ rfl
  generalize pI h1 a0 1 0 = h2 at F f3 ⊢
  refine wp_aload rfl rfl rfl ?_
  refine wp_const rfl rfl ?_
  refine wp_putI rfl rfl rfl f0 f3 rfl ?_
  have f4 : gK (pI h2 a0 2 0) a0 = 12 := (gK_pI _ _ _ _ _).trans f3
  replace F := F _ rfl
  generalize pI h2 a0 2 0 = h3 at F f4 ⊢
  refine wp_aload rfl rfl rfl ?_
  refine wp_const rfl rfl ?_
  refine wp_putI rfl rfl rfl f0 f4 rfl ?_
  have f5 : gK (pI h3 a0 3 6) a0 = 12 := (gK_pI _ _ _ _ _).trans f4
  replace F := F _ rfl
  generalize pI h3 a0 3 6 = h4 at F f5 ⊢
  refine wp_aload rfl rfl rfl ?_
  refine wp_const rfl rfl ?_
  refine wp_putI rfl rfl rfl f0 f5 rfl ?_
  have f6 : gK (pI h4 a0 4 0) a0 = 12 := (gK_pI _ _ _ _ _).trans f5
  replace F := F _ rfl
  generalize pI h4 a0 4 0 = h5 at F f6 ⊢
  refine wp_aload rfl rfl rfl ?_
  refine wp_const rfl rfl ?_
  refine wp_putI rfl rfl rfl f0 f6 rfl ?_
  have f7 : gK (pI h5 a0 5 0) a0 = 12 := (gK_pI _ _ _ _ _).trans f6
  replace F := F _ rfl
  generalize pI h5 a0 5 0 = h6 at F f7 ⊢
  refine wp_aload rfl rfl rfl ?_
  refine wp_const rfl rfl ?_
  refine wp_putJ rfl rfl rfl f0 f7 rfl ?_
  have f8 : gK (pJ h6 a0 6 0) a0 = 12 := (gK_pJ _ _ _ _ _).trans f7
  replace F := F _ rfl
  generalize pJ h6 a0 6 0 = h7 at F f8 ⊢
  exact wp_retV rfl F
-- CensusOffice$Form <init> (I)V
theorem m4 {d : Nat} {a0 : Nat} {a1 : Int32} {h : aH} {K : aH → Prop} {X : Nat → aH → Prop} (F : 8 ≤ a0 ∧ ∀ (r0 : Nat) (h0 : aH), r0 = gN h → h0 = gNew h 100 20 → gK h0 a0 = 3 ∧ ∀ h1 : aH, h1 = pR h0 a0 2 r0 → ∀ (r1 : Nat) (h2 : aH), r1 = gN h1 → h2 = gNew h1 100 20 → gK h2 a0 = 3 ∧ ∀ h3 : aH, h3 = pR h2 a0 3 r1 → ∀ (r2 : Nat) (h4 : aH), r2 = gN h3 → h4 = gNew h3 100 20 → gK h4 a0 = 3 ∧ ∀ h5 : aH, h5 = pR h4 a0 4 r2 → ∀ (r3 : Nat) (h6 : aH), r3 = gN h5 → h6 = gNew h5 100 20 → gK h6 a0 = 3 ∧ ∀ h7 : aH, h7 = pR h6 a0 5 r3 → ∀ (r4 : Nat) (h8 : aH), r4 = gN h7 → h8 = gNew h7 101 20 → gK h8 a0 = 3 ∧ ∀ h9 : aH, h9 = pR h8 a0 6 r4 → ∀ (r5 : Nat) (h10 : aH), r5 = gN h9 → h10 = gNew h9 100 21 → gK h10 a0 = 3 ∧ ∀ h11 : aH, h11 = pR h10 a0 7 r5 → ∀ (r6 : Nat) (h12 : aH), r6 = gN h11 → h12 = gNew h11 100 20 → gK h12 a0 = 3 ∧ ∀ h13 : aH, h13 = pR h12 a0 8 r6 → ∀ (r7 : Nat) (h14 : aH), r7 = gN h13 → h14 = gNew h13 8 4 → 8 ≤ r7 ∧ CV d 1 [vR r7, vI 3, vI 16] h14 (fun h15 => gK h15 a0 = 3 ∧ ∀ h16 : aH, h16 = pR h15 a0 9 r7 → ∀ h17 : aH, h17 = pI h16 a0 10 0 → ∀ h18 : aH, h18 = pI h17 a0 11 0 → ∀ h19 : aH, h19 = pI h18 a0 12 0 → CI d 0 [vI 0, vI a1] h19 (fun y0 h20 => ∃ i0 : Nat, y0 = nI i0 ∧ i0 ≤ 1000000 ∧ ∀ (r8 : Nat) (h21 : aH), r8 = gN h20 → h21 = gNew h20 100 i0 → gK h21 a0 = 3 ∧ ∀ h22 : aH, h22 = pR h21 a0 0 r8 → CI d 0 [vI 0, vI a1] h22 (fun y1 h23 => ∃ i1 : Nat, y1 = nI i1 ∧ i1 ≤ 1000000 ∧ ∀ (r9 : Nat) (h24 : aH), r9 = gN h23 → h24 = gNew h23 100 i1 → gK h24 a0 = 3 ∧ ∀ h25 : aH, h25 = pR h24 a0 1 r9 → K h25) X) X) (fun _ _ => False)) : CV (d + 1) 4 [vR a0, vI a1] h K X := by
  show Wp (d + 1) 4 (0, [some (vR a0), some (vI a1)], [], h) (RV K X)
  refine wp_aload rfl rfl rfl ?_
  obtain ⟨f0, F⟩ := F
  refine wp_obj rfl f0 rfl rfl ?_
  refine wp_aload rfl rfl rfl ?_
  refine wp_const rfl rfl ?_
  refine wp_newI (j := 20) rfl rfl (by decide) rfl ?_
  replace F := F _ _ rfl rfl
  generalize gNew h 100 20 = h0 at F ⊢
  generalize gN h = r0 at F ⊢
  obtain ⟨f1, F⟩ := F
  refine wp_putR rfl rfl rfl f0 f1 rfl ?_
  have f2 : gK (pR h0 a0 2 r0) a0 = 3 := (gK_pR _ _ _ _ _).trans f1
  replace F := F _ rfl
  generalize pR h0 a0 2 r0 = h1 at F f2 ⊢
  refine wp_aload rfl rfl rfl ?_
  refine wp_const rfl rfl ?_
  refine wp_newI (j := 20) rfl rfl (by decide) rfl ?_
  replace F := F _ _ rfl rfl
  generalize gNew h1 100 20 = h2 at F ⊢
  generalize gN h1 = r1 at F ⊢
  obtain ⟨f3, F⟩ := F
  refine wp_putR rfl rfl rfl f0 f3 rfl ?_
  have f4 : gK (pR h2 a0 3 r1) a0 = 3 := (gK_pR _ _ _ _ _).trans f3
  replace F := F _ rfl
  generalize pR h2 a0 3 r1 = h3 at F f4 ⊢
  refine wp_aload rfl rfl rfl ?_
  refine wp_const rfl rfl ?_
  refine wp_newI (j := 20) rfl rfl (by decide) rfl ?_
  replace F := F _ _ rfl rfl
  generalize gNew h3 100 20 = h4 at F ⊢
  generalize gN h3 = r2 at F ⊢
  obtain ⟨f5, F⟩ := F
  refine wp_putR rfl rfl rfl f0 f5 rfl ?_
  have f6 : gK (pR h4 a0 4 r2) a0 = 3 := (gK_pR _ _ _ _ _).trans f5
  replace F := F _ rfl
  generalize pR h4 a0 4 r2 = h5 at F f6 ⊢
  refine wp_aload rfl rfl rfl ?_
  refine wp_const rfl rfl ?_
  refine wp_newI (j := 20) rfl rfl (by decide) rfl ?_
  replace F := F _ _ rfl rfl
  generalize gNew h5 100 20 = h6 at F ⊢
  generalize gN h5 = r3 at F ⊢
  obtain ⟨f7, F⟩ := F
  refine wp_putR rfl rfl rfl f0 f7 rfl ?_
  have f8 : gK (pR h6 a0 5 r3) a0 = 3 := (gK_pR _ _ _ _ _).trans f7
  replace F := F _ rfl
  generalize pR h6 a0 5 r3 = h7 at F f8 ⊢
  refine wp_aload rfl rfl rfl ?_
  refine wp_const rfl rfl ?_
  refine wp_newJ (j := 20) rfl rfl (by decide) rfl ?_
  replace F := F _ _ rfl rfl
  generalize gNew h7 101 20 = h8 at F ⊢
  generalize gN h7 = r4 at F ⊢
  obtain ⟨f9, F⟩ := F
  refine wp_putR rfl rfl rfl f0 f9 rfl ?_
  have f10 : gK (pR h8 a0 6 r4) a0 = 3 := (gK_pR _ _ _ _ _).trans f9
  replace F := F _ rfl
  generalize pR h8 a0 6 r4 = h9 at F f10 ⊢
  refine wp_aload rfl rfl rfl ?_
  refine wp_const rfl rfl ?_
  refine wp_newI (j := 21) rfl rfl (by decide) rfl ?_
  replace F := F _ _ rfl rfl
  generalize gNew h9 100 21 = h10 at F ⊢
  generalize gN h9 = r5 at F ⊢
  obtain ⟨f11, F⟩ := F
  refine wp_putR rfl rfl rfl f0 f11 rfl ?_
  have f12 : gK (pR h10 a0 7 r5) a0 = 3 := (gK_pR _ _ _ _ _).trans f11
  replace F := F _ rfl
  generalize pR h10 a0 7 r5 = h11 at F f12 ⊢
  refine wp_aload rfl rfl rfl ?_
  refine wp_const rfl rfl ?_
  refine wp_newI (j := 20) rfl rfl (by decide) rfl ?_
  replace F := F _ _ rfl rfl
  generalize gNew h11 100 20 = h12 at F ⊢
  generalize gN h11 = r6 at F ⊢
  obtain ⟨f13, F⟩ := F
  refine wp_putR rfl rfl rfl f0 f13 rfl ?_
  have f14 : gK (pR h12 a0 8 r6) a0 = 3 := (gK_pR _ _ _ _ _).trans f13
  replace F := F _ rfl
  generalize pR h12 a0 8 r6 = h13 at F f14 ⊢
  refine wp_aload rfl rfl rfl ?_
  refine wp_new rfl rfl rfl rfl ?_
  replace F := F _ _ rfl rfl
  generalize gNew h13 8 4 = h14 at F ⊢
  generalize gN h13 = r7 at F ⊢
  refine wp_dup rfl rfl rfl ?_
  refine wp_const rfl rfl ?_
  refine wp_const rfl rfl ?_
  obtain ⟨f15, F⟩ := F
  refine wp_callqV rfl rfl rfl (rcv_c f15) rfl rfl ?_
  refine CV.mono F (fun h15 F => ?_) (fun _ _ w => w)
  obtain ⟨f16, F⟩ := F
  refine wp_putR rfl rfl rfl f0 f16 rfl ?_
  have f17 : gK (pR h15 a0 9 r7) a0 = 3 := (gK_pR _ _ _ _ _).trans f16
  replace F := F _ rfl
  generalize pR h15 a0 9 r7 = h16 at F f17 ⊢
  refine wp_aload rfl rfl rfl ?_
  refine wp_const rfl rfl ?_
  refine wp_putI rfl rfl rfl f0 f17 rfl ?_
  have f18 : gK (pI h16 a0 10 0) a0 = 3 := (gK_pI _ _ _ _ _).trans f17
  replace F := F _ rfl
  generalize pI h16 a0 10 0 = h17 at F f18 ⊢
  refine wp_aload rfl rfl rfl ?_
  refine wp_const rfl rfl ?_
  refine wp_putI rfl rfl rfl f0 f18 rfl ?_
  have f19 : gK (pI h17 a0 11 0) a0 = 3 := (gK_pI _ _ _ _ _).trans f18
  replace F := F _ rfl
  generalize pI h17 a0 11 0 = h18 at F f19 ⊢
  refine wp_aload rfl rfl rfl ?_
  refine wp_const rfl rfl ?_
  refine wp_putI rfl rfl rfl f0 f19 rfl ?_
  have f20 : gK (pI h18 a0 12 0) a0 = 3 := (gK_pI _ _ _ _ _).trans f19
  replace F := F _ rfl
  generalize pI h18 a0 12 0 = h19 at F f20 ⊢
  refine wp_aload rfl rfl rfl ?_
  refine wp_const rfl rfl ?_
  refine wp_iload rfl rfl rfl ?_
  refine wp_callI rfl rfl rfl rfl rfl rfl rfl rfl ?_
  refine CI.mono F (fun y0 h20 F => ?_) (fun _ _ w => rx_V w)
  obtain ⟨i0, e9, b9, F⟩ := F
  refine wp_newI rfl e9 b9 rfl ?_
  replace F := F _ _ rfl rfl
  generalize gNew h20 100 i0 = h21 at F ⊢
  generalize gN h20 = r8 at F ⊢
  obtain ⟨f21, F⟩ := F
  refine wp_putR rfl rfl rfl f0 f21 rfl ?_
  have f22 : gK (pR h21 a0 0 r8) a0 = 3 := (gK_pR _ _ _ _ _).trans f21
  replace F := F _ rfl
  generalize pR h21 a0 0 r8 = h22 at F f22 ⊢
  refine wp_aload rfl rfl rfl ?_
  refine wp_const rfl rfl ?_
  refine wp_iload rfl rfl rfl ?_
  refine wp_callI rfl rfl rfl rfl rfl rfl rfl rfl ?_
  refine CI.mono F (fun y1 h23 F => ?_) (fun _ _ w => rx_V w)
  obtain ⟨i1, e9, b9, F⟩ := F
  refine wp_newI rfl e9 b9 rfl ?_
  replace F := F _ _ rfl rfl
  generalize gNew h23 100 i1 = h24 at F ⊢
  generalize gN h23 = r9 at F ⊢
  obtain ⟨f23, F⟩ := F
  refine wp_putR rfl rfl rfl f0 f23 rfl ?_
  have f24 : gK (pR h24 a0 1 r9) a0 = 3 := (gK_pR _ _ _ _ _).trans f23
  replace F := F _ rfl
  generalize pR h24 a0 1 r9 = h25 at F f24 ⊢
  exact wp_retV rfl F
-- CensusOffice$Reader <init> (LCensusOffice$Tape;)V
theorem m5 {d : Nat} {a0 : Nat} {a1 : Nat} {h : aH} {K : aH → Prop} {X : Nat → aH → Prop} (F : 8 ≤ a0 ∧ ∀ (r0 : Nat) (h0 : aH), r0 = gN h → h0 = gNew h 3 13 → 8 ≤ r0 ∧ CV d 4 [vR r0, vI 0] h0 (fun h1 => gK h1 a0 = 4 ∧ ∀ h2 : aH, h2 = pR h1 a0 1 r0 → ∀ h3 : aH, h3 = pJ h2 a0 2 0 → ∀ h4 : aH, h4 = pI h3 a0 3 0 → ∀ h5 : aH, h5 = pI h4 a0 4 (-1) → ∀ h6 : aH, h6 = pR h5 a0 0 a1 → K h6) (fun _ _ => False)) : CV (d + 1) 5 [vR a0, vR a1] h K X := by
  show Wp (d + 1) 5 (0, [some (vR a0), some (vR a1)], [], h) (RV K X)
  refine wp_aload rfl rfl rfl ?_
  obtain ⟨f0, F⟩ := F
  refine wp_obj rfl f0 rfl rfl ?_
  refine wp_aload rfl rfl rfl ?_
  refine wp_new rfl rfl rfl rfl ?_
  replace F := F _ _ rfl rfl
  generalize gNew h 3 13 = h0 at F ⊢
  generalize gN h = r0 at F ⊢
  refine wp_dup rfl rfl rfl ?_
  refine wp_const rfl rfl ?_
  obtain ⟨f1, F⟩ := F
  refine wp_callqV rfl rfl rfl (rcv_c f1) rfl rfl ?_
  refine CV.mono F (fun h1 F => ?_) (fun _ _ w => w)
  obtain ⟨f2, F⟩ := F
  refine wp_putR rfl rfl rfl f0 f2 rfl ?_
  have f3 : gK (pR h1 a0 1 r0) a0 = 4 := (gK_pR _ _ _ _ _).trans f2
  replace F := F _ rfl
  generalize pR h1 a0 1 r0 = h2 at F f3 ⊢
  refine wp_aload rfl rfl rfl ?_
  refine wp_const rfl rfl ?_
  refine wp_putJ rfl rfl rfl f0 f3 rfl ?_
  have f4 : gK (pJ h2 a0 2 0) a0 = 4 := (gK_pJ _ _ _ _ _).trans f3
  replace F := F _ rfl
  generalize pJ h2 a0 2 0 = h3 at F f4 ⊢
  refine wp_aload rfl rfl rfl ?_
  refine wp_const rfl rfl ?_
  refine wp_putI rfl rfl rfl f0 f4 rfl ?_
  have f5 : gK (pI h3 a0 3 0) a0 = 4 := (gK_pI _ _ _ _ _).trans f4
  replace F := F _ rfl
  generalize pI h3 a0 3 0 = h4 at F f5 ⊢
  refine wp_aload rfl rfl rfl ?_
  refine wp_const rfl rfl ?_
  refine wp_putI rfl rfl rfl f0 f5 rfl ?_
  have f6 : gK (pI h4 a0 4 (-1)) a0 = 4 := (gK_pI _ _ _ _ _).trans f5
  replace F := F _ rfl
  generalize pI h4 a0 4 (-1) = h5 at F f6 ⊢
  refine wp_aload rfl rfl rfl ?_
  refine wp_aload rfl rfl rfl ?_
  refine wp_putR rfl rfl rfl f0 f6 rfl ?_
  have f7 : gK (pR h5 a0 0 a1) a0 = 4 := (gK_pR _ _ _ _ _).trans f6
  replace F := F _ rfl
  generalize pR h5 a0 0 a1 = h6 at F f7 ⊢
  exact wp_retV rfl F
-- CensusOffice$Editor <init> ()V
theorem m6 {d : Nat} {a0 : Nat} {h : aH} {K : aH → Prop} {X : Nat → aH → Prop} (F : 8 ≤ a0 ∧ ∀ (r0 : Nat) (h0 : aH), r0 = gN h → h0 = gNew h 100 20 → gK h0 a0 = 2 ∧ ∀ h1 : aH, h1 = pR h0 a0 0 r0 → ∀ h2 : aH, h2 = pI h1 a0 1 (-1) → ∀ h3 : aH, h3 = pI h2 a0 2 2147483647 → K h3) : CV d 6 [vR a0] h K X := by
  show Wp d 6 (0, [some (vR a0)], [], h) (RV K X)
  refine wp_aload rfl rfl rfl ?_
  obtain ⟨f0, F⟩ := F
  refine wp_obj rfl f0 rfl rfl ?_
  refine wp_aload rfl rfl rfl ?_
  refine wp_const rfl rfl ?_
  refine wp_newI (j := 20) rfl rfl (by decide) rfl ?_
  replace F := F _ _ rfl rfl
  generalize gNew h 100 20 = h0 at F ⊢
  generalize gN h = r0 at F ⊢
  obtain ⟨f1, F⟩ := F
  refine wp_putR rfl rfl rfl f0 f1 rfl ?_
  have f2 : gK (pR h0 a0 0 r0) a0 = 2 := (gK_pR _ _ _ _ _).trans f1
  replace F := F _ rfl
  generalize pR h0 a0 0 r0 = h1 at F f2 ⊢
  refine wp_aload rfl rfl rfl ?_
  refine wp_const rfl rfl ?_
  refine wp_putI rfl rfl rfl f0 f2 rfl ?_
  have f3 : gK (pI h1 a0 1 (-1)) a0 = 2 := (gK_pI _ _ _ _ _).trans f2
  replace F := F _ rfl
  generalize pI h1 a0 1 (-1) = h2 at F f3 ⊢
  refine wp_aload rfl rfl rfl ?_
  refine wp_const rfl rfl ?_
  refine wp_putI rfl rfl rfl f0 f3 rfl ?_
  have f4 : gK (pI h2 a0 2 2147483647) a0 = 2 := (gK_pI _ _ _ _ _).trans f3
  replace F := F _ rfl
  generalize pI h2 a0 2 2147483647 = h3 at F f4 ⊢
  exact wp_retV rfl F
-- java/util/AbstractCollection <init> ()V
theorem m7 {d : Nat} {a0 : Nat} {h : aH} {K : aH → Prop} {X : Nat → aH → Prop} (F : 8 ≤ a0 ∧ K h) : CV d 7 [vR a0] h K X := by
  show Wp d 7 (0, [some (vR a0)], [], h) (RV K X)
  refine wp_aload rfl rfl rfl ?_
  obtain ⟨f0, F⟩ := F
  refine wp_obj rfl f0 rfl rfl ?_
  exact wp_retV rfl F
-- java/util/AbstractList <init> ()V
theorem m8 {d : Nat} {a0 : Nat} {h : aH} {K : aH → Prop} {X : Nat → aH → Prop} (F : 8 ≤ a0 ∧ CV d 7 [vR a0] h (fun h0 => gK h0 a0 = 13 ∧ ∀ h1 : aH, h1 = pI h0 a0 2 0 → K h1) (fun _ _ => False)) : CV (d + 1) 8 [vR a0] h K X := by
  show Wp (d + 1) 8 (0, [some (vR a0)], [], h) (RV K X)
  refine wp_aload rfl rfl rfl ?_
  obtain ⟨f0, F⟩ := F
  refine wp_callqV rfl rfl rfl (rcv_c f0) rfl rfl ?_
  refine CV.mono F (fun h0 F => ?_) (fun _ _ w => w)
  refine wp_aload rfl rfl rfl ?_
  refine wp_const rfl rfl ?_
  obtain ⟨f1, F⟩ := F
  refine wp_putI rfl rfl rfl f0 f1 rfl ?_
  have f2 : gK (pI h0 a0 2 0) a0 = 13 := (gK_pI _ _ _ _ _).trans f1
  replace F := F _ rfl
  generalize pI h0 a0 2 0 = h1 at F f2 ⊢
  exact wp_retV rfl F
-- java/util/ArrayList <init> ()V
theorem m9 {d : Nat} {a0 : Nat} {h : aH} {K : aH → Prop} {X : Nat → aH → Prop} (F : 8 ≤ a0 ∧ CV d 8 [vR a0] h (fun h0 => gK h0 a0 = 13 ∧ ∀ h1 : aH, h1 = pR h0 a0 0 2 → K h1) (fun _ _ => False)) : CV (d + 1) 9 [vR a0] h K X := by
  show Wp (d + 1) 9 (0, [some (vR a0)], [], h) (RV K X)
  refine wp_aload rfl rfl rfl ?_
  obtain ⟨f0, F⟩ := F
  refine wp_callqV rfl rfl rfl (rcv_c f0) rfl rfl ?_
  refine CV.mono F (fun h0 F => ?_) (fun _ _ w => w)
  refine wp_aload rfl rfl rfl ?_
  refine wp_const rfl rfl ?_
  obtain ⟨f1, F⟩ := F
  refine wp_putR rfl rfl rfl f0 f1 rfl ?_
  have f2 : gK (pR h0 a0 0 2) a0 = 13 := (gK_pR _ _ _ _ _).trans f1
  replace F := F _ rfl
  generalize pR h0 a0 0 2 = h1 at F f2 ⊢
  exact wp_retV rfl F
-- CensusOffice <init> ()V
theorem m10 {d : Nat} {a0 : Nat} {h : aH} {K : aH → Prop} {X : Nat → aH → Prop} (F : 8 ≤ a0 ∧ ∀ (r0 : Nat) (h0 : aH), r0 = gN h → h0 = gNew h 6 6 → 8 ≤ r0 ∧ CV d 2 [vR r0] h0 (fun h1 => gK h1 a0 = 1 ∧ ∀ h2 : aH, h2 = pR h1 a0 0 r0 → ∀ (r1 : Nat) (h3 : aH), r1 = gN h2 → h3 = gNew h2 12 7 → 8 ≤ r1 ∧ CV d 3 [vR r1] h3 (fun h4 => gK h4 a0 = 1 ∧ ∀ h5 : aH, h5 = pR h4 a0 1 r1 → ∀ (r2 : Nat) (h6 : aH), r2 = gN h5 → h6 = gNew h5 4 5 → gK h6 a0 = 1 ∧ 8 ≤ r2 ∧ CV d 5 [vR r2, vR (gR h6 a0 1)] h6 (fun h7 => gK h7 a0 = 1 ∧ ∀ h8 : aH, h8 = pR h7 a0 2 r2 → ∀ (r3 : Nat) (h9 : aH), r3 = gN h8 → h9 = gNew h8 2 3 → 8 ≤ r3 ∧ CV d 6 [vR r3] h9 (fun h10 => gK h10 a0 = 1 ∧ ∀ h11 : aH, h11 = pR h10 a0 3 r3 → Wp (d + 1) 10 (52, [some (vR a0)], [], h11) (RV K X)) (fun _ _ => False)) (fun _ _ => False)) (fun _ _ => False)) (fun _ _ => False)) : CV (d + 1) 10 [vR a0] h K X := by
  show Wp (d + 1) 10 (0, [some (vR a0)], [], h) (RV K X)
  refine wp_aload rfl rfl rfl ?_
  obtain ⟨f0, F⟩ := F
  refine wp_obj rfl f0 rfl rfl ?_
  refine wp_aload rfl rfl rfl ?_
  refine wp_new rfl rfl rfl rfl ?_
  replace F := F _ _ rfl rfl
  generalize gNew h 6 6 = h0 at F ⊢
  generalize gN h = r0 at F ⊢
  refine wp_dup rfl rfl rfl ?_
  obtain ⟨f1, F⟩ := F
  refine wp_callqV rfl rfl rfl (rcv_c f1) rfl rfl ?_
  refine CV.mono F (fun h1 F => ?_) (fun _ _ w => w)
  obtain ⟨f2, F⟩ := F
  refine wp_putR rfl rfl rfl f0 f2 rfl ?_
  have f3 : gK (pR h1 a0 0 r0) a0 = 1 := (gK_pR _ _ _ _ _).trans f2
  replace F := F _ rfl
  generalize pR h1 a0 0 r0 = h2 at F f3 ⊢
  refine wp_aload rfl rfl rfl ?_
  refine wp_new rfl rfl rfl rfl ?_
  replace F := F _ _ rfl rfl
  generalize gNew h2 12 7 = h3 at F ⊢
  generalize gN h2 = r1 at F ⊢
  refine wp_dup rfl rfl rfl ?_
  obtain ⟨f4, F⟩ := F
  refine wp_callqV rfl rfl rfl (rcv_c f4) rfl rfl ?_
  refine CV.mono F (fun h4 F => ?_) (fun _ _ w => w)
  obtain ⟨f5, F⟩ := F
  refine wp_putR rfl rfl rfl f0 f5 rfl ?_
  have f6 : gK (pR h4 a0 1 r1) a0 = 1 := (gK_pR _ _ _ _ _).trans f5
  replace F := F _ rfl
  generalize pR h4 a0 1 r1 = h5 at F f6 ⊢
  refine wp_aload rfl rfl rfl ?_
  refine wp_new rfl rfl rfl rfl ?_
  replace F := F _ _ rfl rfl
  generalize gNew h5 4 5 = h6 at F ⊢
  generalize gN h5 = r2 at F ⊢
  refine wp_dup rfl rfl rfl ?_
  refine wp_aload rfl rfl rfl ?_
  obtain ⟨f7, F⟩ := F
  refine wp_getR rfl rfl rfl f7 rfl ?_
  obtain ⟨f8, F⟩ := F
  refine wp_callqV rfl rfl rfl (rcv_c f8) rfl rfl ?_
  refine CV.mono F (fun h7 F => ?_) (fun _ _ w => w)
  obtain ⟨f9, F⟩ := F
  refine wp_putR rfl rfl rfl f0 f9 rfl ?_
  have f10 : gK (pR h7 a0 2 r2) a0 = 1 := (gK_pR _ _ _ _ _).trans f9
  replace F := F _ rfl
  generalize pR h7 a0 2 r2 = h8 at F f10 ⊢
  refine wp_aload rfl rfl rfl ?_
  refine wp_new rfl rfl rfl rfl ?_
  replace F := F _ _ rfl rfl
  generalize gNew h8 2 3 = h9 at F ⊢
  generalize gN h8 = r3 at F ⊢
  refine wp_dup rfl rfl rfl ?_
  obtain ⟨f11, F⟩ := F
  refine wp_callqV rfl rfl rfl (rcv_c f11) rfl rfl ?_
  refine CV.mono F (fun h10 F => ?_) (fun _ _ w => w)
  obtain ⟨f12, F⟩ := F
  refine wp_putR rfl rfl rfl f0 f12 rfl ?_
  have f13 : gK (pR h10 a0 3 r3) a0 = 1 := (gK_pR _ _ _ _ _).trans f12
  replace F := F _ rfl
  generalize pR h10 a0 3 r3 = h11 at F f13 ⊢
  exact F
theorem w10_52 {d : Nat} {l0 : Nat} {h : aH} {K : aH → Prop} {X : Nat → aH → Prop} (F : ∀ (r0 : Nat) (h0 : aH), r0 = gN h → h0 = gNew h 13 3 → 8 ≤ r0 ∧ CV d 9 [vR r0] h0 (fun h1 => 8 ≤ l0 ∧ gK h1 l0 = 1 ∧ ∀ h2 : aH, h2 = pR h1 l0 4 r0 → ∀ (r1 : Nat) (h3 : aH), r1 = gN h2 → h3 = gNew h2 13 3 → 8 ≤ r1 ∧ CV d 9 [vR r1] h3 (fun h4 => gK h4 l0 = 1 ∧ ∀ h5 : aH, h5 = pR h4 l0 5 r1 → ∀ (r2 : Nat) (h6 : aH), r2 = gN h5 → h6 = gNew h5 13 3 → 8 ≤ r2 ∧ CV d 9 [vR r2] h6 (fun h7 => gK h7 l0 = 1 ∧ ∀ h8 : aH, h8 = pR h7 l0 6 r2 → ∀ (r3 : Nat) (h9 : aH), r3 = gN h8 → h9 = gNew h8 13 3 → 8 ≤ r3 ∧ CV d 9 [vR r3] h9 (fun h10 => gK h10 l0 = 1 ∧ ∀ h11 : aH, h11 = pR h10 l0 7 r3 → Wp (d + 1) 10 (96, [some (vR l0)], [], h11) (RV K X)) (fun _ _ => False)) (fun _ _ => False)) (fun _ _ => False)) (fun _ _ => False)) : Wp (d + 1) 10 (52, [some (vR l0)], [], h) (RV K X) := by
  refine wp_aload rfl rfl rfl ?_
  refine wp_new rfl rfl rfl rfl ?_
  replace F := F _ _ rfl rfl
  generalize gNew h 13 3 = h0 at F ⊢
  generalize gN h = r0 at F ⊢
  refine wp_dup rfl rfl rfl ?_
  obtain ⟨f0, F⟩ := F
  refine wp_callqV rfl rfl rfl (rcv_c f0) rfl rfl ?_
  refine CV.mono F (fun h1 F => ?_) (fun _ _ w => w)
  obtain ⟨f1, F⟩ := F
  obtain ⟨f2, F⟩ := F
  refine wp_putR rfl rfl rfl f1 f2 rfl ?_
  have f3 : gK (pR h1 l0 4 r0) l0 = 1 := (gK_pR _ _ _ _ _).trans f2
  replace F := F _ rfl
  generalize pR h1 l0 4 r0 = h2 at F f3 ⊢
  refine wp_aload rfl rfl rfl ?_
  refine wp_new rfl rfl rfl rfl ?_
  replace F := F _ _ rfl rfl
  generalize gNew h2 13 3 = h3 at F ⊢
  generalize gN h2 = r1 at F ⊢
  refine wp_dup rfl rfl rfl ?_
  obtain ⟨f4, F⟩ := F
  refine wp_callqV rfl rfl rfl (rcv_c f4) rfl rfl ?_
  refine CV.mono F (fun h4 F => ?_) (fun _ _ w => w)
  obtain ⟨f5, F⟩ := F
  refine wp_putR rfl rfl rfl f1 f5 rfl ?_
  have f6 : gK (pR h4 l0 5 r1) l0 = 1 := (gK_pR _ _ _ _ _).trans f5
  replace F := F _ rfl
  generalize pR h4 l0 5 r1 = h5 at F f6 ⊢
  refine wp_aload rfl rfl rfl ?_
  refine wp_new rfl rfl rfl rfl ?_
  replace F := F _ _ rfl rfl
  generalize gNew h5 13 3 = h6 at F ⊢
  generalize gN h5 = r2 at F ⊢
  refine wp_dup rfl rfl rfl ?_
  obtain ⟨f7, F⟩ := F
  refine wp_callqV rfl rfl rfl (rcv_c f7) rfl rfl ?_
  refine CV.mono F (fun h7 F => ?_) (fun _ _ w => w)
  obtain ⟨f8, F⟩ := F
  refine wp_putR rfl rfl rfl f1 f8 rfl ?_
  have f9 : gK (pR h7 l0 6 r2) l0 = 1 := (gK_pR _ _ _ _ _).trans f8
  replace F := F _ rfl
  generalize pR h7 l0 6 r2 = h8 at F f9 ⊢
  refine wp_aload rfl rfl rfl ?_
  refine wp_new rfl rfl rfl rfl ?_
  replace F := F _ _ rfl rfl
  generalize gNew h8 13 3 = h9 at F ⊢
  generalize gN h8 = r3 at F ⊢
  refine wp_dup rfl rfl rfl ?_
  obtain ⟨f10, F⟩ := F
  refine wp_callqV rfl rfl rfl (rcv_c f10) rfl rfl ?_
  refine CV.mono F (fun h10 F => ?_) (fun _ _ w => w)
  obtain ⟨f11, F⟩ := F
  refine wp_putR rfl rfl rfl f1 f11 rfl ?_
  have f12 : gK (pR h10 l0 7 r3) l0 = 1 := (gK_pR _ _ _ _ _).trans f11
  replace F := F _ rfl
  generalize pR h10 l0 7 r3 = h11 at F f12 ⊢
  exact F
theorem w10_96 {d : Nat} {l0 : Nat} {h : aH} {K : aH → Prop} {X : Nat → aH → Prop} (F : ∀ (r0 : Nat) (h0 : aH), r0 = gN h → h0 = gNew h 13 3 → 8 ≤ r0 ∧ CV d 9 [vR r0] h0 (fun h1 => 8 ≤ l0 ∧ gK h1 l0 = 1 ∧ ∀ h2 : aH, h2 = pR h1 l0 8 r0 → ∀ (r1 : Nat) (h3 : aH), r1 = gN h2 → h3 = gNew h2 13 3 → 8 ≤ r1 ∧ CV d 9 [vR r1] h3 (fun h4 => gK h4 l0 = 1 ∧ ∀ h5 : aH, h5 = pR h4 l0 9 r1 → ∀ (r2 : Nat) (h6 : aH), r2 = gN h5 → h6 = gNew h5 8 4 → 8 ≤ r2 ∧ CV d 1 [vR r2, vI 1, vI 12] h6 (fun h7 => gK h7 l0 = 1 ∧ ∀ h8 : aH, h8 = pR h7 l0 10 r2 → ∀ (r3 : Nat) (h9 : aH), r3 = gN h8 → h9 = gNew h8 8 4 → 8 ≤ r3 ∧ CV d 1 [vR r3, vI 6, vI 500] h9 (fun h10 => gK h10 l0 = 1 ∧ ∀ h11 : aH, h11 = pR h10 l0 11 r3 → Wp (d + 1) 10 (148, [some (vR l0)], [], h11) (RV K X)) (fun _ _ => False)) (fun _ _ => False)) (fun _ _ => False)) (fun _ _ => False)) : Wp (d + 1) 10 (96, [some (vR l0)], [], h) (RV K X) := by
  refine wp_aload rfl rfl rfl ?_
  refine wp_new rfl rfl rfl rfl ?_
  replace F := F _ _ rfl rfl
  generalize gNew h 13 3 = h0 at F ⊢
  generalize gN h = r0 at F ⊢
  refine wp_dup rfl rfl rfl ?_
  obtain ⟨f0, F⟩ := F
  refine wp_callqV rfl rfl rfl (rcv_c f0) rfl rfl ?_
  refine CV.mono F (fun h1 F => ?_) (fun _ _ w => w)
  obtain ⟨f1, F⟩ := F
  obtain ⟨f2, F⟩ := F
  refine wp_putR rfl rfl rfl f1 f2 rfl ?_
  have f3 : gK (pR h1 l0 8 r0) l0 = 1 := (gK_pR _ _ _ _ _).trans f2
  replace F := F _ rfl
  generalize pR h1 l0 8 r0 = h2 at F f3 ⊢
  refine wp_aload rfl rfl rfl ?_
  refine wp_new rfl rfl rfl rfl ?_
  replace F := F _ _ rfl rfl
  generalize gNew h2 13 3 = h3 at F ⊢
  generalize gN h2 = r1 at F ⊢
  refine wp_dup rfl rfl rfl ?_
  obtain ⟨f4, F⟩ := F
  refine wp_callqV rfl rfl rfl (rcv_c f4) rfl rfl ?_
  refine CV.mono F (fun h4 F => ?_) (fun _ _ w => w)
  obtain ⟨f5, F⟩ := F
  refine wp_putR rfl rfl rfl f1 f5 rfl ?_
  have f6 : gK (pR h4 l0 9 r1) l0 = 1 := (gK_pR _ _ _ _ _).trans f5
  replace F := F _ rfl
  generalize pR h4 l0 9 r1 = h5 at F f6 ⊢
  refine wp_aload rfl rfl rfl ?_
  refine wp_new rfl rfl rfl rfl ?_
  replace F := F _ _ rfl rfl
  generalize gNew h5 8 4 = h6 at F ⊢
  generalize gN h5 = r2 at F ⊢
  refine wp_dup rfl rfl rfl ?_
  refine wp_const rfl rfl ?_
  refine wp_const rfl rfl ?_
  obtain ⟨f7, F⟩ := F
  refine wp_callqV rfl rfl rfl (rcv_c f7) rfl rfl ?_
  refine CV.mono F (fun h7 F => ?_) (fun _ _ w => w)
  obtain ⟨f8, F⟩ := F
  refine wp_putR rfl rfl rfl f1 f8 rfl ?_
  have f9 : gK (pR h7 l0 10 r2) l0 = 1 := (gK_pR _ _ _ _ _).trans f8
  replace F := F _ rfl
  generalize pR h7 l0 10 r2 = h8 at F f9 ⊢
  refine wp_aload rfl rfl rfl ?_
  refine wp_new rfl rfl rfl rfl ?_
  replace F := F _ _ rfl rfl
  generalize gNew h8 8 4 = h9 at F ⊢
  generalize gN h8 = r3 at F ⊢
  refine wp_dup rfl rfl rfl ?_
  refine wp_const rfl rfl ?_
  refine wp_const rfl rfl ?_
  obtain ⟨f10, F⟩ := F
  refine wp_callqV rfl rfl rfl (rcv_c f10) rfl rfl ?_
  refine CV.mono F (fun h10 F => ?_) (fun _ _ w => w)
  obtain ⟨f11, F⟩ := F
  refine wp_putR rfl rfl rfl f1 f11 rfl ?_
  have f12 : gK (pR h10 l0 11 r3) l0 = 1 := (gK_pR _ _ _ _ _).trans f11
  replace F := F _ rfl
  generalize pR h10 l0 11 r3 = h11 at F f12 ⊢
  exact F
theorem w10_148 {d : Nat} {l0 : Nat} {h : aH} {K : aH → Prop} {X : Nat → aH → Prop} (F : 8 ≤ l0 ∧ gK h l0 = 1 ∧ ∀ h0 : aH, h0 = pI h l0 12 0 → K h0) : Wp (d + 1) 10 (148, [some (vR l0)], [], h) (RV K X) := by
  refine wp_aload rfl rfl rfl ?_
  refine wp_const rfl rfl ?_
  obtain ⟨f0, F⟩ := F
  obtain ⟨f1, F⟩ := F
  refine wp_putI rfl rfl rfl f0 f1 rfl ?_
  have f2 : gK (pI h l0 12 0) l0 = 1 := (gK_pI _ _ _ _ _).trans f1
  replace F := F _ rfl
  generalize pI h l0 12 0 = h0 at F f2 ⊢
  exact wp_retV rfl F
-- CensusOfficeModel <init> ()V
theorem m11 {d : Nat} {a0 : Nat} {h : aH} {K : aH → Prop} {X : Nat → aH → Prop} (F : 8 ≤ a0 ∧ ∀ (r0 : Nat) (h0 : aH), r0 = gN h → h0 = gNew h 100 100 → gK h0 a0 = 14 ∧ ∀ h1 : aH, h1 = pR h0 a0 3 r0 → ∀ (r1 : Nat) (h2 : aH), r1 = gN h1 → h2 = gNew h1 100 100 → gK h2 a0 = 14 ∧ ∀ h3 : aH, h3 = pR h2 a0 4 r1 → ∀ (r2 : Nat) (h4 : aH), r2 = gN h3 → h4 = gNew h3 100 1500 → gK h4 a0 = 14 ∧ ∀ h5 : aH, h5 = pR h4 a0 7 r2 → ∀ (r3 : Nat) (h6 : aH), r3 = gN h5 → h6 = gNew h5 100 1500 → gK h6 a0 = 14 ∧ ∀ h7 : aH, h7 = pR h6 a0 8 r3 → ∀ (r4 : Nat) (h8 : aH), r4 = gN h7 → h8 = gNew h7 100 1500 → gK h8 a0 = 14 ∧ ∀ h9 : aH, h9 = pR h8 a0 9 r4 → ∀ (r5 : Nat) (h10 : aH), r5 = gN h9 → h10 = gNew h9 100 1500 → gK h10 a0 = 14 ∧ ∀ h11 : aH, h11 = pR h10 a0 10 r5 → ∀ (r6 : Nat) (h12 : aH), r6 = gN h11 → h12 = gNew h11 100 1500 → gK h12 a0 = 14 ∧ ∀ h13 : aH, h13 = pR h12 a0 11 r6 → Wp d 11 (65, [some (vR a0)], [], h13) (RV K X)) : CV d 11 [vR a0] h K X := by
  show Wp d 11 (0, [some (vR a0)], [], h) (RV K X)
  refine wp_aload rfl rfl rfl ?_
  obtain ⟨f0, F⟩ := F
  refine wp_obj rfl f0 rfl rfl ?_
  refine wp_aload rfl rfl rfl ?_
  refine wp_const rfl rfl ?_
  refine wp_newI (j := 100) rfl rfl (by decide) rfl ?_
  replace F := F _ _ rfl rfl
  generalize gNew h 100 100 = h0 at F ⊢
  generalize gN h = r0 at F ⊢
  obtain ⟨f1, F⟩ := F
  refine wp_putR rfl rfl rfl f0 f1 rfl ?_
  have f2 : gK (pR h0 a0 3 r0) a0 = 14 := (gK_pR _ _ _ _ _).trans f1
  replace F := F _ rfl
  generalize pR h0 a0 3 r0 = h1 at F f2 ⊢
  refine wp_aload rfl rfl rfl ?_
  refine wp_const rfl rfl ?_
  refine wp_newI (j := 100) rfl rfl (by decide) rfl ?_
  replace F := F _ _ rfl rfl
  generalize gNew h1 100 100 = h2 at F ⊢
  generalize gN h1 = r1 at F ⊢
  obtain ⟨f3, F⟩ := F
  refine wp_putR rfl rfl rfl f0 f3 rfl ?_
  have f4 : gK (pR h2 a0 4 r1) a0 = 14 := (gK_pR _ _ _ _ _).trans f3
  replace F := F _ rfl
  generalize pR h2 a0 4 r1 = h3 at F f4 ⊢
  refine wp_aload rfl rfl rfl ?_
  refine wp_const rfl rfl ?_
  refine wp_newI (j := 1500) rfl rfl (by decide) rfl ?_
  replace F := F _ _ rfl rfl
  generalize gNew h3 100 1500 = h4 at F ⊢
  generalize gN h3 = r2 at F ⊢
  obtain ⟨f5, F⟩ := F
  refine wp_putR rfl rfl rfl f0 f5 rfl ?_
  have f6 : gK (pR h4 a0 7 r2) a0 = 14 := (gK_pR _ _ _ _ _).trans f5
  replace F := F _ rfl
  generalize pR h4 a0 7 r2 = h5 at F f6 ⊢
  refine wp_aload rfl rfl rfl ?_
  refine wp_const rfl rfl ?_
  refine wp_newI (j := 1500) rfl rfl (by decide) rfl ?_
  replace F := F _ _ rfl rfl
  generalize gNew h5 100 1500 = h6 at F ⊢
  generalize gN h5 = r3 at F ⊢
  obtain ⟨f7, F⟩ := F
  refine wp_putR rfl rfl rfl f0 f7 rfl ?_
  have f8 : gK (pR h6 a0 8 r3) a0 = 14 := (gK_pR _ _ _ _ _).trans f7
  replace F := F _ rfl
  generalize pR h6 a0 8 r3 = h7 at F f8 ⊢
  refine wp_aload rfl rfl rfl ?_
  refine wp_const rfl rfl ?_
  refine wp_newI (j := 1500) rfl rfl (by decide) rfl ?_
  replace F := F _ _ rfl rfl
  generalize gNew h7 100 1500 = h8 at F ⊢
  generalize gN h7 = r4 at F ⊢
  obtain ⟨f9, F⟩ := F
  refine wp_putR rfl rfl rfl f0 f9 rfl ?_
  have f10 : gK (pR h8 a0 9 r4) a0 = 14 := (gK_pR _ _ _ _ _).trans f9
  replace F := F _ rfl
  generalize pR h8 a0 9 r4 = h9 at F f10 ⊢
  refine wp_aload rfl rfl rfl ?_
  refine wp_const rfl rfl ?_
  refine wp_newI (j := 1500) rfl rfl (by decide) rfl ?_
  replace F := F _ _ rfl rfl
  generalize gNew h9 100 1500 = h10 at F ⊢
  generalize gN h9 = r5 at F ⊢
  obtain ⟨f11, F⟩ := F
  refine wp_putR rfl rfl rfl f0 f11 rfl ?_
  have f12 : gK (pR h10 a0 10 r5) a0 = 14 := (gK_pR _ _ _ _ _).trans f11
  replace F := F _ rfl
  generalize pR h10 a0 10 r5 = h11 at F f12 ⊢
  refine wp_aload rfl rfl rfl ?_
  refine wp_const rfl rfl ?_
  refine wp_newI (j := 1500) rfl rfl (by decide) rfl ?_
  replace F := F _ _ rfl rfl
  generalize gNew h11 100 1500 = h12 at F ⊢
  generalize gN h11 = r6 at F ⊢
  obtain ⟨f13, F⟩ := F
  refine wp_putR rfl rfl rfl f0 f13 rfl ?_
  have f14 : gK (pR h12 a0 11 r6) a0 = 14 := (gK_pR _ _ _ _ _).trans f13
  replace F := F _ rfl
  generalize pR h12 a0 11 r6 = h13 at F f14 ⊢
  exact F
theorem w11_65 {d : Nat} {l0 : Nat} {h : aH} {K : aH → Prop} {X : Nat → aH → Prop} (F : ∀ (r0 : Nat) (h0 : aH), r0 = gN h → h0 = gNew h 100 1200 → 8 ≤ l0 ∧ gK h0 l0 = 14 ∧ ∀ h1 : aH, h1 = pR h0 l0 12 r0 → ∀ (r1 : Nat) (h2 : aH), r1 = gN h1 → h2 = gNew h1 100 6 → gK h2 l0 = 14 ∧ ∀ h3 : aH, h3 = pR h2 l0 15 r1 → ∀ (r2 : Nat) (h4 : aH), r2 = gN h3 → h4 = gNew h3 100 120 → gK h4 l0 = 14 ∧ ∀ h5 : aH, h5 = pR h4 l0 16 r2 → ∀ (r3 : Nat) (h6 : aH), r3 = gN h5 → h6 = gNew h5 101 120 → gK h6 l0 = 14 ∧ ∀ h7 : aH, h7 = pR h6 l0 17 r3 → ∀ (r4 : Nat) (h8 : aH), r4 = gN h7 → h8 = gNew h7 100 120 → gK h8 l0 = 14 ∧ ∀ h9 : aH, h9 = pR h8 l0 18 r4 → ∀ (r5 : Nat) (h10 : aH), r5 = gN h9 → h10 = gNew h9 100 120 → gK h10 l0 = 14 ∧ ∀ h11 : aH, h11 = pR h10 l0 19 r5 → ∀ (r6 : Nat) (h12 : aH), r6 = gN h11 → h12 = gNew h11 100 120 → gK h12 l0 = 14 ∧ ∀ h13 : aH, h13 = pR h12 l0 20 r6 → Wp d 11 (122, [some (vR l0)], [], h13) (RV K X)) : Wp d 11 (65, [some (vR l0)], [], h) (RV K X) := by
  refine wp_aload rfl rfl rfl ?_
  refine wp_const rfl rfl ?_
  refine wp_newI (j := 1200) rfl rfl (by decide) rfl ?_
  replace F := F _ _ rfl rfl
  generalize gNew h 100 1200 = h0 at F ⊢
  generalize gN h = r0 at F ⊢
  obtain ⟨f0, F⟩ := F
  obtain ⟨f1, F⟩ := F
  refine wp_putR rfl rfl rfl f0 f1 rfl ?_
  have f2 : gK (pR h0 l0 12 r0) l0 = 14 := (gK_pR _ _ _ _ _).trans f1
  replace F := F _ rfl
  generalize pR h0 l0 12 r0 = h1 at F f2 ⊢
  refine wp_aload rfl rfl rfl ?_
  refine wp_const rfl rfl ?_
  refine wp_newI (j := 6) rfl rfl (by decide) rfl ?_
  replace F := F _ _ rfl rfl
  generalize gNew h1 100 6 = h2 at F ⊢
  generalize gN h1 = r1 at F ⊢
  obtain ⟨f3, F⟩ := F
  refine wp_putR rfl rfl rfl f0 f3 rfl ?_
  have f4 : gK (pR h2 l0 15 r1) l0 = 14 := (gK_pR _ _ _ _ _).trans f3
  replace F := F _ rfl
  generalize pR h2 l0 15 r1 = h3 at F f4 ⊢
  refine wp_aload rfl rfl rfl ?_
  refine wp_const rfl rfl ?_
  refine wp_newI (j := 120) rfl rfl (by decide) rfl ?_
  replace F := F _ _ rfl rfl
  generalize gNew h3 100 120 = h4 at F ⊢
  generalize gN h3 = r2 at F ⊢
  obtain ⟨f5, F⟩ := F
  refine wp_putR rfl rfl rfl f0 f5 rfl ?_
  have f6 : gK (pR h4 l0 16 r2) l0 = 14 := (gK_pR _ _ _ _ _).trans f5
  replace F := F _ rfl
  generalize pR h4 l0 16 r2 = h5 at F f6 ⊢
  refine wp_aload rfl rfl rfl ?_
  refine wp_const rfl rfl ?_
  refine wp_newJ (j := 120) rfl rfl (by decide) rfl ?_
  replace F := F _ _ rfl rfl
  generalize gNew h5 101 120 = h6 at F ⊢
  generalize gN h5 = r3 at F ⊢
  obtain ⟨f7, F⟩ := F
  refine wp_putR rfl rfl rfl f0 f7 rfl ?_
  have f8 : gK (pR h6 l0 17 r3) l0 = 14 := (gK_pR _ _ _ _ _).trans f7
  replace F := F _ rfl
  generalize pR h6 l0 17 r3 = h7 at F f8 ⊢
  refine wp_aload rfl rfl rfl ?_
  refine wp_const rfl rfl ?_
  refine wp_newI (j := 120) rfl rfl (by decide) rfl ?_
  replace F := F _ _ rfl rfl
  generalize gNew h7 100 120 = h8 at F ⊢
  generalize gN h7 = r4 at F ⊢
  obtain ⟨f9, F⟩ := F
  refine wp_putR rfl rfl rfl f0 f9 rfl ?_
  have f10 : gK (pR h8 l0 18 r4) l0 = 14 := (gK_pR _ _ _ _ _).trans f9
  replace F := F _ rfl
  generalize pR h8 l0 18 r4 = h9 at F f10 ⊢
  refine wp_aload rfl rfl rfl ?_
  refine wp_const rfl rfl ?_
  refine wp_newI (j := 120) rfl rfl (by decide) rfl ?_
  replace F := F _ _ rfl rfl
  generalize gNew h9 100 120 = h10 at F ⊢
  generalize gN h9 = r5 at F ⊢
  obtain ⟨f11, F⟩ := F
  refine wp_putR rfl rfl rfl f0 f11 rfl ?_
  have f12 : gK (pR h10 l0 19 r5) l0 = 14 := (gK_pR _ _ _ _ _).trans f11
  replace F := F _ rfl
  generalize pR h10 l0 19 r5 = h11 at F f12 ⊢
  refine wp_aload rfl rfl rfl ?_
  refine wp_const rfl rfl ?_
  refine wp_newI (j := 120) rfl rfl (by decide) rfl ?_
  replace F := F _ _ rfl rfl
  generalize gNew h11 100 120 = h12 at F ⊢
  generalize gN h11 = r6 at F ⊢
  obtain ⟨f13, F⟩ := F
  refine wp_putR rfl rfl rfl f0 f13 rfl ?_
  have f14 : gK (pR h12 l0 20 r6) l0 = 14 := (gK_pR _ _ _ _ _).trans f13
  replace F := F _ rfl
  generalize pR h12 l0 20 r6 = h13 at F f14 ⊢
  exact F
theorem w11_122 {d : Nat} {l0 : Nat} {h : aH} {K : aH → Prop} {X : Nat → aH → Prop} (F : ∀ (r0 : Nat) (h0 : aH), r0 = gN h → h0 = gNew h 100 120 → 8 ≤ l0 ∧ gK h0 l0 = 14 ∧ ∀ h1 : aH, h1 = pR h0 l0 21 r0 → ∀ (r1 : Nat) (h2 : aH), r1 = gN h1 → h2 = gNew h1 100 120 → gK h2 l0 = 14 ∧ ∀ h3 : aH, h3 = pR h2 l0 22 r1 → ∀ (r2 : Nat) (h4 : aH), r2 = gN h3 → h4 = gNew h3 100 120 → gK h4 l0 = 14 ∧ ∀ h5 : aH, h5 = pR h4 l0 23 r2 → ∀ (r3 : Nat) (h6 : aH), r3 = gN h5 → h6 = gNew h5 100 120 → gK h6 l0 = 14 ∧ ∀ h7 : aH, h7 = pR h6 l0 24 r3 → ∀ (r4 : Nat) (h8 : aH), r4 = gN h7 → h8 = gNew h7 100 7200 → gK h8 l0 = 14 ∧ ∀ h9 : aH, h9 = pR h8 l0 25 r4 → ∀ (r5 : Nat) (h10 : aH), r5 = gN h9 → h10 = gNew h9 100 7200 → gK h10 l0 = 14 ∧ ∀ h11 : aH, h11 = pR h10 l0 26 r5 → ∀ (r6 : Nat) (h12 : aH), r6 = gN h11 → h12 = gNew h11 100 20 → gK h12 l0 = 14 ∧ ∀ h13 : aH, h13 = pR h12 l0 34 r6 → Wp d 11 (180, [some (vR l0)], [], h13) (RV K X)) : Wp d 11 (122, [some (vR l0)], [], h) (RV K X) := by
  refine wp_aload rfl rfl rfl ?_
  refine wp_const rfl rfl ?_
  refine wp_newI (j := 120) rfl rfl (by decide) rfl ?_
  replace F := F _ _ rfl rfl
  generalize gNew h 100 120 = h0 at F ⊢
  generalize gN h = r0 at F ⊢
  obtain ⟨f0, F⟩ := F
  obtain ⟨f1, F⟩ := F
  refine wp_putR rfl rfl rfl f0 f1 rfl ?_
  have f2 : gK (pR h0 l0 21 r0) l0 = 14 := (gK_pR _ _ _ _ _).trans f1
  replace F := F _ rfl
  generalize pR h0 l0 21 r0 = h1 at F f2 ⊢
  refine wp_aload rfl rfl rfl ?_
  refine wp_const rfl rfl ?_
  refine wp_newI (j := 120) rfl rfl (by decide) rfl ?_
  replace F := F _ _ rfl rfl
  generalize gNew h1 100 120 = h2 at F ⊢
  generalize gN h1 = r1 at F ⊢
  obtain ⟨f3, F⟩ := F
  refine wp_putR rfl rfl rfl f0 f3 rfl ?_
  have f4 : gK (pR h2 l0 22 r1) l0 = 14 := (gK_pR _ _ _ _ _).trans f3
  replace F := F _ rfl
  generalize pR h2 l0 22 r1 = h3 at F f4 ⊢
  refine wp_aload rfl rfl rfl ?_
  refine wp_const rfl rfl ?_
  refine wp_newI (j := 120) rfl rfl (by decide) rfl ?_
  replace F := F _ _ rfl rfl
  generalize gNew h3 100 120 = h4 at F ⊢
  generalize gN h3 = r2 at F ⊢
  obtain ⟨f5, F⟩ := F
  refine wp_putR rfl rfl rfl f0 f5 rfl ?_
  have f6 : gK (pR h4 l0 23 r2) l0 = 14 := (gK_pR _ _ _ _ _).trans f5
  replace F := F _ rfl
  generalize pR h4 l0 23 r2 = h5 at F f6 ⊢
  refine wp_aload rfl rfl rfl ?_
  refine wp_const rfl rfl ?_
  refine wp_newI (j := 120) rfl rfl (by decide) rfl ?_
  replace F := F _ _ rfl rfl
  generalize gNew h5 100 120 = h6 at F ⊢
  generalize gN h5 = r3 at F ⊢
  obtain ⟨f7, F⟩ := F
  refine wp_putR rfl rfl rfl f0 f7 rfl ?_
  have f8 : gK (pR h6 l0 24 r3) l0 = 14 := (gK_pR _ _ _ _ _).trans f7
  replace F := F _ rfl
  generalize pR h6 l0 24 r3 = h7 at F f8 ⊢
  refine wp_aload rfl rfl rfl ?_
  refine wp_const rfl rfl ?_
  refine wp_newI (j := 7200) rfl rfl (by decide) rfl ?_
  replace F := F _ _ rfl rfl
  generalize gNew h7 100 7200 = h8 at F ⊢
  generalize gN h7 = r4 at F ⊢
  obtain ⟨f9, F⟩ := F
  refine wp_putR rfl rfl rfl f0 f9 rfl ?_
  have f10 : gK (pR h8 l0 25 r4) l0 = 14 := (gK_pR _ _ _ _ _).trans f9
  replace F := F _ rfl
  generalize pR h8 l0 25 r4 = h9 at F f10 ⊢
  refine wp_aload rfl rfl rfl ?_
  refine wp_const rfl rfl ?_
  refine wp_newI (j := 7200) rfl rfl (by decide) rfl ?_
  replace F := F _ _ rfl rfl
  generalize gNew h9 100 7200 = h10 at F ⊢
  generalize gN h9 = r5 at F ⊢
  obtain ⟨f11, F⟩ := F
  refine wp_putR rfl rfl rfl f0 f11 rfl ?_
  have f12 : gK (pR h10 l0 26 r5) l0 = 14 := (gK_pR _ _ _ _ _).trans f11
  replace F := F _ rfl
  generalize pR h10 l0 26 r5 = h11 at F f12 ⊢
  refine wp_aload rfl rfl rfl ?_
  refine wp_const rfl rfl ?_
  refine wp_newI (j := 20) rfl rfl (by decide) rfl ?_
  replace F := F _ _ rfl rfl
  generalize gNew h11 100 20 = h12 at F ⊢
  generalize gN h11 = r6 at F ⊢
  obtain ⟨f13, F⟩ := F
  refine wp_putR rfl rfl rfl f0 f13 rfl ?_
  have f14 : gK (pR h12 l0 34 r6) l0 = 14 := (gK_pR _ _ _ _ _).trans f13
  replace F := F _ rfl
  generalize pR h12 l0 34 r6 = h13 at F f14 ⊢
  exact F
theorem w11_180 {d : Nat} {l0 : Nat} {h : aH} {K : aH → Prop} {X : Nat → aH → Prop} (F : ∀ (r0 : Nat) (h0 : aH), r0 = gN h → h0 = gNew h 100 6 → 8 ≤ l0 ∧ gK h0 l0 = 14 ∧ ∀ h1 : aH, h1 = pR h0 l0 35 r0 → ∀ (r1 : Nat) (h2 : aH), r1 = gN h1 → h2 = gNew h1 100 60 → gK h2 l0 = 14 ∧ ∀ h3 : aH, h3 = pR h2 l0 39 r1 → ∀ (r2 : Nat) (h4 : aH), r2 = gN h3 → h4 = gNew h3 100 60 → gK h4 l0 = 14 ∧ ∀ h5 : aH, h5 = pR h4 l0 40 r2 → ∀ (r3 : Nat) (h6 : aH), r3 = gN h5 → h6 = gNew h5 100 360 → gK h6 l0 = 14 ∧ ∀ h7 : aH, h7 = pR h6 l0 41 r3 → ∀ (r4 : Nat) (h8 : aH), r4 = gN h7 → h8 = gNew h7 102 60 → gK h8 l0 = 14 ∧ ∀ h9 : aH, h9 = pR h8 l0 42 r4 → ∀ (r5 : Nat) (h10 : aH), r5 = gN h9 → h10 = gNew h9 102 1200 → gK h10 l0 = 14 ∧ ∀ h11 : aH, h11 = pR h10 l0 43 r5 → ∀ (r6 : Nat) (h12 : aH), r6 = gN h11 → h12 = gNew h11 100 1200 → gK h12 l0 = 14 ∧ ∀ h13 : aH, h13 = pR h12 l0 44 r6 → Wp d 11 (239, [some (vR l0)], [], h13) (RV K X)) : Wp d 11 (180, [some (vR l0)], [], h) (RV K X) := by
  refine wp_aload rfl rfl rfl ?_
  refine wp_const rfl rfl ?_
  refine wp_newI (j := 6) rfl rfl (by decide) rfl ?_
  replace F := F _ _ rfl rfl
  generalize gNew h 100 6 = h0 at F ⊢
  generalize gN h = r0 at F ⊢
  obtain ⟨f0, F⟩ := F
  obtain ⟨f1, F⟩ := F
  refine wp_putR rfl rfl rfl f0 f1 rfl ?_
  have f2 : gK (pR h0 l0 35 r0) l0 = 14 := (gK_pR _ _ _ _ _).trans f1
  replace F := F _ rfl
  generalize pR h0 l0 35 r0 = h1 at F f2 ⊢
  refine wp_aload rfl rfl rfl ?_
  refine wp_const rfl rfl ?_
  refine wp_newI (j := 60) rfl rfl (by decide) rfl ?_
  replace F := F _ _ rfl rfl
  generalize gNew h1 100 60 = h2 at F ⊢
  generalize gN h1 = r1 at F ⊢
  obtain ⟨f3, F⟩ := F
  refine wp_putR rfl rfl rfl f0 f3 rfl ?_
  have f4 : gK (pR h2 l0 39 r1) l0 = 14 := (gK_pR _ _ _ _ _).trans f3
  replace F := F _ rfl
  generalize pR h2 l0 39 r1 = h3 at F f4 ⊢
  refine wp_aload rfl rfl rfl ?_
  refine wp_const rfl rfl ?_
  refine wp_newI (j := 60) rfl rfl (by decide) rfl ?_
  replace F := F _ _ rfl rfl
  generalize gNew h3 100 60 = h4 at F ⊢
  generalize gN h3 = r2 at F ⊢
  obtain ⟨f5, F⟩ := F
  refine wp_putR rfl rfl rfl f0 f5 rfl ?_
  have f6 : gK (pR h4 l0 40 r2) l0 = 14 := (gK_pR _ _ _ _ _).trans f5
  replace F := F _ rfl
  generalize pR h4 l0 40 r2 = h5 at F f6 ⊢
  refine wp_aload rfl rfl rfl ?_
  refine wp_const rfl rfl ?_
  refine wp_newI (j := 360) rfl rfl (by decide) rfl ?_
  replace F := F _ _ rfl rfl
  generalize gNew h5 100 360 = h6 at F ⊢
  generalize gN h5 = r3 at F ⊢
  obtain ⟨f7, F⟩ := F
  refine wp_putR rfl rfl rfl f0 f7 rfl ?_
  have f8 : gK (pR h6 l0 41 r3) l0 = 14 := (gK_pR _ _ _ _ _).trans f7
  replace F := F _ rfl
  generalize pR h6 l0 41 r3 = h7 at F f8 ⊢
  refine wp_aload rfl rfl rfl ?_
  refine wp_const rfl rfl ?_
  refine wp_newZ (j := 60) rfl rfl (by decide) rfl ?_
  replace F := F _ _ rfl rfl
  generalize gNew h7 102 60 = h8 at F ⊢
  generalize gN h7 = r4 at F ⊢
  obtain ⟨f9, F⟩ := F
  refine wp_putR rfl rfl rfl f0 f9 rfl ?_
  have f10 : gK (pR h8 l0 42 r4) l0 = 14 := (gK_pR _ _ _ _ _).trans f9
  replace F := F _ rfl
  generalize pR h8 l0 42 r4 = h9 at F f10 ⊢
  refine wp_aload rfl rfl rfl ?_
  refine wp_const rfl rfl ?_
  refine wp_newZ (j := 1200) rfl rfl (by decide) rfl ?_
  replace F := F _ _ rfl rfl
  generalize gNew h9 102 1200 = h10 at F ⊢
  generalize gN h9 = r5 at F ⊢
  obtain ⟨f11, F⟩ := F
  refine wp_putR rfl rfl rfl f0 f11 rfl ?_
  have f12 : gK (pR h10 l0 43 r5) l0 = 14 := (gK_pR _ _ _ _ _).trans f11
  replace F := F _ rfl
  generalize pR h10 l0 43 r5 = h11 at F f12 ⊢
  refine wp_aload rfl rfl rfl ?_
  refine wp_const rfl rfl ?_
  refine wp_newI (j := 1200) rfl rfl (by decide) rfl ?_
  replace F := F _ _ rfl rfl
  generalize gNew h11 100 1200 = h12 at F ⊢
  generalize gN h11 = r6 at F ⊢
  obtain ⟨f13, F⟩ := F
  refine wp_putR rfl rfl rfl f0 f13 rfl ?_
  have f14 : gK (pR h12 l0 44 r6) l0 = 14 := (gK_pR _ _ _ _ _).trans f13
  replace F := F _ rfl
  generalize pR h12 l0 44 r6 = h13 at F f14 ⊢
  exact F
theorem w11_239 {d : Nat} {l0 : Nat} {h : aH} {K : aH → Prop} {X : Nat → aH → Prop} (F : ∀ (r0 : Nat) (h0 : aH), r0 = gN h → h0 = gNew h 102 1200 → 8 ≤ l0 ∧ gK h0 l0 = 14 ∧ ∀ h1 : aH, h1 = pR h0 l0 45 r0 → ∀ (r1 : Nat) (h2 : aH), r1 = gN h1 → h2 = gNew h1 100 1200 → gK h2 l0 = 14 ∧ ∀ h3 : aH, h3 = pR h2 l0 46 r1 → ∀ (r2 : Nat) (h4 : aH), r2 = gN h3 → h4 = gNew h3 102 1200 → gK h4 l0 = 14 ∧ ∀ h5 : aH, h5 = pR h4 l0 47 r2 → ∀ (r3 : Nat) (h6 : aH), r3 = gN h5 → h6 = gNew h5 100 60 → gK h6 l0 = 14 ∧ ∀ h7 : aH, h7 = pR h6 l0 48 r3 → ∀ (r4 : Nat) (h8 : aH), r4 = gN h7 → h8 = gNew h7 100 60 → gK h8 l0 = 14 ∧ ∀ h9 : aH, h9 = pR h8 l0 49 r4 → ∀ (r5 : Nat) (h10 : aH), r5 = gN h9 → h10 = gNew h9 100 60 → gK h10 l0 = 14 ∧ ∀ h11 : aH, h11 = pR h10 l0 54 r5 → ∀ (r6 : Nat) (h12 : aH), r6 = gN h11 → h12 = gNew h11 100 1200 → gK h12 l0 = 14 ∧ ∀ h13 : aH, h13 = pR h12 l0 55 r6 → Wp d 11 (299, [some (vR l0)], [], h13) (RV K X)) : Wp d 11 (239, [some (vR l0)], [], h) (RV K X) := by
  refine wp_aload rfl rfl rfl ?_
  refine wp_const rfl rfl ?_
  refine wp_newZ (j := 1200) rfl rfl (by decide) rfl ?_
  replace F := F _ _ rfl rfl
  generalize gNew h 102 1200 = h0 at F ⊢
  generalize gN h = r0 at F ⊢
  obtain ⟨f0, F⟩ := F
  obtain ⟨f1, F⟩ := F
  refine wp_putR rfl rfl rfl f0 f1 rfl ?_
  have f2 : gK (pR h0 l0 45 r0) l0 = 14 := (gK_pR _ _ _ _ _).trans f1
  replace F := F _ rfl
  generalize pR h0 l0 45 r0 = h1 at F f2 ⊢
  refine wp_aload rfl rfl rfl ?_
  refine wp_const rfl rfl ?_
  refine wp_newI (j := 1200) rfl rfl (by decide) rfl ?_
  replace F := F _ _ rfl rfl
  generalize gNew h1 100 1200 = h2 at F ⊢
  generalize gN h1 = r1 at F ⊢
  obtain ⟨f3, F⟩ := F
  refine wp_putR rfl rfl rfl f0 f3 rfl ?_
  have f4 : gK (pR h2 l0 46 r1) l0 = 14 := (gK_pR _ _ _ _ _).trans f3
  replace F := F _ rfl
  generalize pR h2 l0 46 r1 = h3 at F f4 ⊢
  refine wp_aload rfl rfl rfl ?_
  refine wp_const rfl rfl ?_
  refine wp_newZ (j := 1200) rfl rfl (by decide) rfl ?_
  replace F := F _ _ rfl rfl
  generalize gNew h3 102 1200 = h4 at F ⊢
  generalize gN h3 = r2 at F ⊢
  obtain ⟨f5, F⟩ := F
  refine wp_putR rfl rfl rfl f0 f5 rfl ?_
  have f6 : gK (pR h4 l0 47 r2) l0 = 14 := (gK_pR _ _ _ _ _).trans f5
  replace F := F _ rfl
  generalize pR h4 l0 47 r2 = h5 at F f6 ⊢
  refine wp_aload rfl rfl rfl ?_
  refine wp_const rfl rfl ?_
  refine wp_newI (j := 60) rfl rfl (by decide) rfl ?_
  replace F := F _ _ rfl rfl
  generalize gNew h5 100 60 = h6 at F ⊢
  generalize gN h5 = r3 at F ⊢
  obtain ⟨f7, F⟩ := F
  refine wp_putR rfl rfl rfl f0 f7 rfl ?_
  have f8 : gK (pR h6 l0 48 r3) l0 = 14 := (gK_pR _ _ _ _ _).trans f7
  replace F := F _ rfl
  generalize pR h6 l0 48 r3 = h7 at F f8 ⊢
  refine wp_aload rfl rfl rfl ?_
  refine wp_const rfl rfl ?_
  refine wp_newI (j := 60) rfl rfl (by decide) rfl ?_
  replace F := F _ _ rfl rfl
  generalize gNew h7 100 60 = h8 at F ⊢
  generalize gN h7 = r4 at F ⊢
  obtain ⟨f9, F⟩ := F
  refine wp_putR rfl rfl rfl f0 f9 rfl ?_
  have f10 : gK (pR h8 l0 49 r4) l0 = 14 := (gK_pR _ _ _ _ _).trans f9
  replace F := F _ rfl
  generalize pR h8 l0 49 r4 = h9 at F f10 ⊢
  refine wp_aload rfl rfl rfl ?_
  refine wp_const rfl rfl ?_
  refine wp_newI (j := 60) rfl rfl (by decide) rfl ?_
  replace F := F _ _ rfl rfl
  generalize gNew h9 100 60 = h10 at F ⊢
  generalize gN h9 = r5 at F ⊢
  obtain ⟨f11, F⟩ := F
  refine wp_putR rfl rfl rfl f0 f11 rfl ?_
  have f12 : gK (pR h10 l0 54 r5) l0 = 14 := (gK_pR _ _ _ _ _).trans f11
  replace F := F _ rfl
  generalize pR h10 l0 54 r5 = h11 at F f12 ⊢
  refine wp_aload rfl rfl rfl ?_
  refine wp_const rfl rfl ?_
  refine wp_newI (j := 1200) rfl rfl (by decide) rfl ?_
  replace F := F _ _ rfl rfl
  generalize gNew h11 100 1200 = h12 at F ⊢
  generalize gN h11 = r6 at F ⊢
  obtain ⟨f13, F⟩ := F
  refine wp_putR rfl rfl rfl f0 f13 rfl ?_
  have f14 : gK (pR h12 l0 55 r6) l0 = 14 := (gK_pR _ _ _ _ _).trans f13
  replace F := F _ rfl
  generalize pR h12 l0 55 r6 = h13 at F f14 ⊢
  exact F
theorem w11_299 {d : Nat} {l0 : Nat} {h : aH} {K : aH → Prop} {X : Nat → aH → Prop} (F : ∀ (r0 : Nat) (h0 : aH), r0 = gN h → h0 = gNew h 100 1200 → 8 ≤ l0 ∧ gK h0 l0 = 14 ∧ ∀ h1 : aH, h1 = pR h0 l0 56 r0 → ∀ (r1 : Nat) (h2 : aH), r1 = gN h1 → h2 = gNew h1 100 6 → gK h2 l0 = 14 ∧ ∀ h3 : aH, h3 = pR h2 l0 57 r1 → ∀ (r2 : Nat) (h4 : aH), r2 = gN h3 → h4 = gNew h3 100 96 → gK h4 l0 = 14 ∧ ∀ h5 : aH, h5 = pR h4 l0 58 r2 → ∀ (r3 : Nat) (h6 : aH), r3 = gN h5 → h6 = gNew h5 100 96 → gK h6 l0 = 14 ∧ ∀ h7 : aH, h7 = pR h6 l0 59 r3 → ∀ (r4 : Nat) (h8 : aH), r4 = gN h7 → h8 = gNew h7 100 96 → gK h8 l0 = 14 ∧ ∀ h9 : aH, h9 = pR h8 l0 60 r4 → ∀ (r5 : Nat) (h10 : aH), r5 = gN h9 → h10 = gNew h9 100 20 → gK h10 l0 = 14 ∧ ∀ h11 : aH, h11 = pR h10 l0 61 r5 → ∀ (r6 : Nat) (h12 : aH), r6 = gN h11 → h12 = gNew h11 100 1200 → gK h12 l0 = 14 ∧ ∀ h13 : aH, h13 = pR h12 l0 65 r6 → Wp d 11 (357, [some (vR l0)], [], h13) (RV K X)) : Wp d 11 (299, [some (vR l0)], [], h) (RV K X) := by
  refine wp_aload rfl rfl rfl ?_
  refine wp_const rfl rfl ?_
  refine wp_newI (j := 1200) rfl rfl (by decide) rfl ?_
  replace F := F _ _ rfl rfl
  generalize gNew h 100 1200 = h0 at F ⊢
  generalize gN h = r0 at F ⊢
  obtain ⟨f0, F⟩ := F
  obtain ⟨f1, F⟩ := F
  refine wp_putR rfl rfl rfl f0 f1 rfl ?_
  have f2 : gK (pR h0 l0 56 r0) l0 = 14 := (gK_pR _ _ _ _ _).trans f1
  replace F := F _ rfl
  generalize pR h0 l0 56 r0 = h1 at F f2 ⊢
  refine wp_aload rfl rfl rfl ?_
  refine wp_const rfl rfl ?_
  refine wp_newI (j := 6) rfl rfl (by decide) rfl ?_
  replace F := F _ _ rfl rfl
  generalize gNew h1 100 6 = h2 at F ⊢
  generalize gN h1 = r1 at F ⊢
  obtain ⟨f3, F⟩ := F
  refine wp_putR rfl rfl rfl f0 f3 rfl ?_
  have f4 : gK (pR h2 l0 57 r1) l0 = 14 := (gK_pR _ _ _ _ _).trans f3
  replace F := F _ rfl
  generalize pR h2 l0 57 r1 = h3 at F f4 ⊢
  refine wp_aload rfl rfl rfl ?_
  refine wp_const rfl rfl ?_
  refine wp_newI (j := 96) rfl rfl (by decide) rfl ?_
  replace F := F _ _ rfl rfl
  generalize gNew h3 100 96 = h4 at F ⊢
  generalize gN h3 = r2 at F ⊢
  obtain ⟨f5, F⟩ := F
  refine wp_putR rfl rfl rfl f0 f5 rfl ?_
  have f6 : gK (pR h4 l0 58 r2) l0 = 14 := (gK_pR _ _ _ _ _).trans f5
  replace F := F _ rfl
  generalize pR h4 l0 58 r2 = h5 at F f6 ⊢
  refine wp_aload rfl rfl rfl ?_
  refine wp_const rfl rfl ?_
  refine wp_newI (j := 96) rfl rfl (by decide) rfl ?_
  replace F := F _ _ rfl rfl
  generalize gNew h5 100 96 = h6 at F ⊢
  generalize gN h5 = r3 at F ⊢
  obtain ⟨f7, F⟩ := F
  refine wp_putR rfl rfl rfl f0 f7 rfl ?_
  have f8 : gK (pR h6 l0 59 r3) l0 = 14 := (gK_pR _ _ _ _ _).trans f7
  replace F := F _ rfl
  generalize pR h6 l0 59 r3 = h7 at F f8 ⊢
  refine wp_aload rfl rfl rfl ?_
  refine wp_const rfl rfl ?_
  refine wp_newI (j := 96) rfl rfl (by decide) rfl ?_
  replace F := F _ _ rfl rfl
  generalize gNew h7 100 96 = h8 at F ⊢
  generalize gN h7 = r4 at F ⊢
  obtain ⟨f9, F⟩ := F
  refine wp_putR rfl rfl rfl f0 f9 rfl ?_
  have f10 : gK (pR h8 l0 60 r4) l0 = 14 := (gK_pR _ _ _ _ _).trans f9
  replace F := F _ rfl
  generalize pR h8 l0 60 r4 = h9 at F f10 ⊢
  refine wp_aload rfl rfl rfl ?_
  refine wp_const rfl rfl ?_
  refine wp_newI (j := 20) rfl rfl (by decide) rfl ?_
  replace F := F _ _ rfl rfl
  generalize gNew h9 100 20 = h10 at F ⊢
  generalize gN h9 = r5 at F ⊢
  obtain ⟨f11, F⟩ := F
  refine wp_putR rfl rfl rfl f0 f11 rfl ?_
  have f12 : gK (pR h10 l0 61 r5) l0 = 14 := (gK_pR _ _ _ _ _).trans f11
  replace F := F _ rfl
  generalize pR h10 l0 61 r5 = h11 at F f12 ⊢
  refine wp_aload rfl rfl rfl ?_
  refine wp_const rfl rfl ?_
  refine wp_newI (j := 1200) rfl rfl (by decide) rfl ?_
  replace F := F _ _ rfl rfl
  generalize gNew h11 100 1200 = h12 at F ⊢
  generalize gN h11 = r6 at F ⊢
  obtain ⟨f13, F⟩ := F
  refine wp_putR rfl rfl rfl f0 f13 rfl ?_
  have f14 : gK (pR h12 l0 65 r6) l0 = 14 := (gK_pR _ _ _ _ _).trans f13
  replace F := F _ rfl
  generalize pR h12 l0 65 r6 = h13 at F f14 ⊢
  exact F
theorem w11_357 {d : Nat} {l0 : Nat} {h : aH} {K : aH → Prop} {X : Nat → aH → Prop} (F : ∀ (r0 : Nat) (h0 : aH), r0 = gN h → h0 = gNew h 100 1200 → 8 ≤ l0 ∧ gK h0 l0 = 14 ∧ ∀ h1 : aH, h1 = pR h0 l0 66 r0 → ∀ (r1 : Nat) (h2 : aH), r1 = gN h1 → h2 = gNew h1 102 1200 → gK h2 l0 = 14 ∧ ∀ h3 : aH, h3 = pR h2 l0 67 r1 → ∀ (r2 : Nat) (h4 : aH), r2 = gN h3 → h4 = gNew h3 100 100 → gK h4 l0 = 14 ∧ ∀ h5 : aH, h5 = pR h4 l0 68 r2 → ∀ (r3 : Nat) (h6 : aH), r3 = gN h5 → h6 = gNew h5 100 12 → gK h6 l0 = 14 ∧ ∀ h7 : aH, h7 = pR h6 l0 70 r3 → ∀ (r4 : Nat) (h8 : aH), r4 = gN h7 → h8 = gNew h7 100 12 → gK h8 l0 = 14 ∧ ∀ h9 : aH, h9 = pR h8 l0 71 r4 → ∀ (r5 : Nat) (h10 : aH), r5 = gN h9 → h10 = gNew h9 100 144 → gK h10 l0 = 14 ∧ ∀ h11 : aH, h11 = pR h10 l0 72 r5 → ∀ (r6 : Nat) (h12 : aH), r6 = gN h11 → h12 = gNew h11 100 144 → gK h12 l0 = 14 ∧ ∀ h13 : aH, h13 = pR h12 l0 73 r6 → Wp d 11 (417, [some (vR l0)], [], h13) (RV K X)) : Wp d 11 (357, [some (vR l0)], [], h) (RV K X) := by
  refine wp_aload rfl rfl rfl ?_
  refine wp_const rfl rfl ?_
  refine wp_newI (j := 1200) rfl rfl (by decide) rfl ?_
  replace F := F _ _ rfl rfl
  generalize gNew h 100 1200 = h0 at F ⊢
  generalize gN h = r0 at F ⊢
  obtain ⟨f0, F⟩ := F
  obtain ⟨f1, F⟩ := F
  refine wp_putR rfl rfl rfl f0 f1 rfl ?_
  have f2 : gK (pR h0 l0 66 r0) l0 = 14 := (gK_pR _ _ _ _ _).trans f1
  replace F := F _ rfl
  generalize pR h0 l0 66 r0 = h1 at F f2 ⊢
  refine wp_aload rfl rfl rfl ?_
  refine wp_const rfl rfl ?_
  refine wp_newZ (j := 1200) rfl rfl (by decide) rfl ?_
  replace F := F _ _ rfl rfl
  generalize gNew h1 102 1200 = h2 at F ⊢
  generalize gN h1 = r1 at F ⊢
  obtain ⟨f3, F⟩ := F
  refine wp_putR rfl rfl rfl f0 f3 rfl ?_
  have f4 : gK (pR h2 l0 67 r1) l0 = 14 := (gK_pR _ _ _ _ _).trans f3
  replace F := F _ rfl
  generalize pR h2 l0 67 r1 = h3 at F f4 ⊢
  refine wp_aload rfl rfl rfl ?_
  refine wp_const rfl rfl ?_
  refine wp_newI (j := 100) rfl rfl (by decide) rfl ?_
  replace F := F _ _ rfl rfl
  generalize gNew h3 100 100 = h4 at F ⊢
  generalize gN h3 = r2 at F ⊢
  obtain ⟨f5, F⟩ := F
  refine wp_putR rfl rfl rfl f0 f5 rfl ?_
  have f6 : gK (pR h4 l0 68 r2) l0 = 14 := (gK_pR _ _ _ _ _).trans f5
  replace F := F _ rfl
  generalize pR h4 l0 68 r2 = h5 at F f6 ⊢
  refine wp_aload rfl rfl rfl ?_
  refine wp_const rfl rfl ?_
  refine wp_newI (j := 12) rfl rfl (by decide) rfl ?_
  replace F := F _ _ rfl rfl
  generalize gNew h5 100 12 = h6 at F ⊢
  generalize gN h5 = r3 at F ⊢
  obtain ⟨f7, F⟩ := F
  refine wp_putR rfl rfl rfl f0 f7 rfl ?_
  have f8 : gK (pR h6 l0 70 r3) l0 = 14 := (gK_pR _ _ _ _ _).trans f7
  replace F := F _ rfl
  generalize pR h6 l0 70 r3 = h7 at F f8 ⊢
  refine wp_aload rfl rfl rfl ?_
  refine wp_const rfl rfl ?_
  refine wp_newI (j := 12) rfl rfl (by decide) rfl ?_
  replace F := F _ _ rfl rfl
  generalize gNew h7 100 12 = h8 at F ⊢
  generalize gN h7 = r4 at F ⊢
  obtain ⟨f9, F⟩ := F
  refine wp_putR rfl rfl rfl f0 f9 rfl ?_
  have f10 : gK (pR h8 l0 71 r4) l0 = 14 := (gK_pR _ _ _ _ _).trans f9
  replace F := F _ rfl
  generalize pR h8 l0 71 r4 = h9 at F f10 ⊢
  refine wp_aload rfl rfl rfl ?_
  refine wp_const rfl rfl ?_
  refine wp_newI (j := 144) rfl rfl (by decide) rfl ?_
  replace F := F _ _ rfl rfl
  generalize gNew h9 100 144 = h10 at F ⊢
  generalize gN h9 = r5 at F ⊢
  obtain ⟨f11, F⟩ := F
  refine wp_putR rfl rfl rfl f0 f11 rfl ?_
  have f12 : gK (pR h10 l0 72 r5) l0 = 14 := (gK_pR _ _ _ _ _).trans f11
  replace F := F _ rfl
  generalize pR h10 l0 72 r5 = h11 at F f12 ⊢
  refine wp_aload rfl rfl rfl ?_
  refine wp_const rfl rfl ?_
  refine wp_newI (j := 144) rfl rfl (by decide) rfl ?_
  replace F := F _ _ rfl rfl
  generalize gNew h11 100 144 = h12 at F ⊢
  generalize gN h11 = r6 at F ⊢
  obtain ⟨f13, F⟩ := F
  refine wp_putR rfl rfl rfl f0 f13 rfl ?_
  have f14 : gK (pR h12 l0 73 r6) l0 = 14 := (gK_pR _ _ _ _ _).trans f13
  replace F := F _ rfl
  generalize pR h12 l0 73 r6 = h13 at F f14 ⊢
  exact F
theorem w11_417 {d : Nat} {l0 : Nat} {h : aH} {K : aH → Prop} {X : Nat → aH → Prop} (F : ∀ (r0 : Nat) (h0 : aH), r0 = gN h → h0 = gNew h 100 144 → 8 ≤ l0 ∧ gK h0 l0 = 14 ∧ ∀ h1 : aH, h1 = pR h0 l0 74 r0 → ∀ (r1 : Nat) (h2 : aH), r1 = gN h1 → h2 = gNew h1 100 144 → gK h2 l0 = 14 ∧ ∀ h3 : aH, h3 = pR h2 l0 75 r1 → ∀ (r2 : Nat) (h4 : aH), r2 = gN h3 → h4 = gNew h3 102 12 → gK h4 l0 = 14 ∧ ∀ h5 : aH, h5 = pR h4 l0 76 r2 → ∀ (r3 : Nat) (h6 : aH), r3 = gN h5 → h6 = gNew h5 100 12 → gK h6 l0 = 14 ∧ ∀ h7 : aH, h7 = pR h6 l0 77 r3 → ∀ (r4 : Nat) (h8 : aH), r4 = gN h7 → h8 = gNew h7 100 12 → gK h8 l0 = 14 ∧ ∀ h9 : aH, h9 = pR h8 l0 78 r4 → ∀ (r5 : Nat) (h10 : aH), r5 = gN h9 → h10 = gNew h9 100 12 → gK h10 l0 = 14 ∧ ∀ h11 : aH, h11 = pR h10 l0 81 r5 → ∀ (r6 : Nat) (h12 : aH), r6 = gN h11 → h12 = gNew h11 100 12 → gK h12 l0 = 14 ∧ ∀ h13 : aH, h13 = pR h12 l0 83 r6 → Wp d 11 (475, [some (vR l0)], [], h13) (RV K X)) : Wp d 11 (417, [some (vR l0)], [], h) (RV K X) := by
  refine wp_aload rfl rfl rfl ?_
  refine wp_const rfl rfl ?_
  refine wp_newI (j := 144) rfl rfl (by decide) rfl ?_
  replace F := F _ _ rfl rfl
  generalize gNew h 100 144 = h0 at F ⊢
  generalize gN h = r0 at F ⊢
  obtain ⟨f0, F⟩ := F
  obtain ⟨f1, F⟩ := F
  refine wp_putR rfl rfl rfl f0 f1 rfl ?_
  have f2 : gK (pR h0 l0 74 r0) l0 = 14 := (gK_pR _ _ _ _ _).trans f1
  replace F := F _ rfl
  generalize pR h0 l0 74 r0 = h1 at F f2 ⊢
  refine wp_aload rfl rfl rfl ?_
  refine wp_const rfl rfl ?_
  refine wp_newI (j := 144) rfl rfl (by decide) rfl ?_
  replace F := F _ _ rfl rfl
  generalize gNew h1 100 144 = h2 at F ⊢
  generalize gN h1 = r1 at F ⊢
  obtain ⟨f3, F⟩ := F
  refine wp_putR rfl rfl rfl f0 f3 rfl ?_
  have f4 : gK (pR h2 l0 75 r1) l0 = 14 := (gK_pR _ _ _ _ _).trans f3
  replace F := F _ rfl
  generalize pR h2 l0 75 r1 = h3 at F f4 ⊢
  refine wp_aload rfl rfl rfl ?_
  refine wp_const rfl rfl ?_
  refine wp_newZ (j := 12) rfl rfl (by decide) rfl ?_
  replace F := F _ _ rfl rfl
  generalize gNew h3 102 12 = h4 at F ⊢
  generalize gN h3 = r2 at F ⊢
  obtain ⟨f5, F⟩ := F
  refine wp_putR rfl rfl rfl f0 f5 rfl ?_
  have f6 : gK (pR h4 l0 76 r2) l0 = 14 := (gK_pR _ _ _ _ _).trans f5
  replace F := F _ rfl
  generalize pR h4 l0 76 r2 = h5 at F f6 ⊢
  refine wp_aload rfl rfl rfl ?_
  refine wp_const rfl rfl ?_
  refine wp_newI (j := 12) rfl rfl (by decide) rfl ?_
  replace F := F _ _ rfl rfl
  generalize gNew h5 100 12 = h6 at F ⊢
  generalize gN h5 = r3 at F ⊢
  obtain ⟨f7, F⟩ := F
  refine wp_putR rfl rfl rfl f0 f7 rfl ?_
  have f8 : gK (pR h6 l0 77 r3) l0 = 14 := (gK_pR _ _ _ _ _).trans f7
  replace F := F _ rfl
  generalize pR h6 l0 77 r3 = h7 at F f8 ⊢
  refine wp_aload rfl rfl rfl ?_
  refine wp_const rfl rfl ?_
  refine wp_newI (j := 12) rfl rfl (by decide) rfl ?_
  replace F := F _ _ rfl rfl
  generalize gNew h7 100 12 = h8 at F ⊢
  generalize gN h7 = r4 at F ⊢
  obtain ⟨f9, F⟩ := F
  refine wp_putR rfl rfl rfl f0 f9 rfl ?_
  have f10 : gK (pR h8 l0 78 r4) l0 = 14 := (gK_pR _ _ _ _ _).trans f9
  replace F := F _ rfl
  generalize pR h8 l0 78 r4 = h9 at F f10 ⊢
  refine wp_aload rfl rfl rfl ?_
  refine wp_const rfl rfl ?_
  refine wp_newI (j := 12) rfl rfl (by decide) rfl ?_
  replace F := F _ _ rfl rfl
  generalize gNew h9 100 12 = h10 at F ⊢
  generalize gN h9 = r5 at F ⊢
  obtain ⟨f11, F⟩ := F
  refine wp_putR rfl rfl rfl f0 f11 rfl ?_
  have f12 : gK (pR h10 l0 81 r5) l0 = 14 := (gK_pR _ _ _ _ _).trans f11
  replace F := F _ rfl
  generalize pR h10 l0 81 r5 = h11 at F f12 ⊢
  refine wp_aload rfl rfl rfl ?_
  refine wp_const rfl rfl ?_
  refine wp_newI (j := 12) rfl rfl (by decide) rfl ?_
  replace F := F _ _ rfl rfl
  generalize gNew h11 100 12 = h12 at F ⊢
  generalize gN h11 = r6 at F ⊢
  obtain ⟨f13, F⟩ := F
  refine wp_putR rfl rfl rfl f0 f13 rfl ?_
  have f14 : gK (pR h12 l0 83 r6) l0 = 14 := (gK_pR _ _ _ _ _).trans f13
  replace F := F _ rfl
  generalize pR h12 l0 83 r6 = h13 at F f14 ⊢
  exact F
theorem w11_475 {d : Nat} {l0 : Nat} {h : aH} {K : aH → Prop} {X : Nat → aH → Prop} (F : ∀ (r0 : Nat) (h0 : aH), r0 = gN h → h0 = gNew h 100 12 → 8 ≤ l0 ∧ gK h0 l0 = 14 ∧ ∀ h1 : aH, h1 = pR h0 l0 84 r0 → ∀ (r1 : Nat) (h2 : aH), r1 = gN h1 → h2 = gNew h1 100 12 → gK h2 l0 = 14 ∧ ∀ h3 : aH, h3 = pR h2 l0 85 r1 → ∀ (r2 : Nat) (h4 : aH), r2 = gN h3 → h4 = gNew h3 100 12 → gK h4 l0 = 14 ∧ ∀ h5 : aH, h5 = pR h4 l0 86 r2 → ∀ (r3 : Nat) (h6 : aH), r3 = gN h5 → h6 = gNew h5 100 12 → gK h6 l0 = 14 ∧ ∀ h7 : aH, h7 = pR h6 l0 87 r3 → ∀ (r4 : Nat) (h8 : aH), r4 = gN h7 → h8 = gNew h7 100 144 → gK h8 l0 = 14 ∧ ∀ h9 : aH, h9 = pR h8 l0 88 r4 → ∀ (r5 : Nat) (h10 : aH), r5 = gN h9 → h10 = gNew h9 100 3000 → gK h10 l0 = 14 ∧ ∀ h11 : aH, h11 = pR h10 l0 90 r5 → K h11) : Wp d 11 (475, [some (vR l0)], [], h) (RV K X) := by
  refine wp_aload rfl rfl rfl ?_
  refine wp_const rfl rfl ?_
  refine wp_newI (j := 12) rfl rfl (by decide) rfl ?_
  replace F := F _ _ rfl rfl
  generalize gNew h 100 12 = h0 at F ⊢
  generalize gN h = r0 at F ⊢
  obtain ⟨f0, F⟩ := F
  obtain ⟨f1, F⟩ := F
  refine wp_putR rfl rfl rfl f0 f1 rfl ?_
  have f2 : gK (pR h0 l0 84 r0) l0 = 14 := (gK_pR _ _ _ _ _).trans f1
  replace F := F _ rfl
  generalize pR h0 l0 84 r0 = h1 at F f2 ⊢
  refine wp_aload rfl rfl rfl ?_
  refine wp_const rfl rfl ?_
  refine wp_newI (j := 12) rfl rfl (by decide) rfl ?_
  replace F := F _ _ rfl rfl
  generalize gNew h1 100 12 = h2 at F ⊢
  generalize gN h1 = r1 at F ⊢
  obtain ⟨f3, F⟩ := F
  refine wp_putR rfl rfl rfl f0 f3 rfl ?_
  have f4 : gK (pR h2 l0 85 r1) l0 = 14 := (gK_pR _ _ _ _ _).trans f3
  replace F := F _ rfl
  generalize pR h2 l0 85 r1 = h3 at F f4 ⊢
  refine wp_aload rfl rfl rfl ?_
  refine wp_const rfl rfl ?_
  refine wp_newI (j := 12) rfl rfl (by decide) rfl ?_
  replace F := F _ _ rfl rfl
  generalize gNew h3 100 12 = h4 at F ⊢
  generalize gN h3 = r2 at F ⊢
  obtain ⟨f5, F⟩ := F
  refine wp_putR rfl rfl rfl f0 f5 rfl ?_
  have f6 : gK (pR h4 l0 86 r2) l0 = 14 := (gK_pR _ _ _ _ _).trans f5
  replace F := F _ rfl
  generalize pR h4 l0 86 r2 = h5 at F f6 ⊢
  refine wp_aload rfl rfl rfl ?_
  refine wp_const rfl rfl ?_
  refine wp_newI (j := 12) rfl rfl (by decide) rfl ?_
  replace F := F _ _ rfl rfl
  generalize gNew h5 100 12 = h6 at F ⊢
  generalize gN h5 = r3 at F ⊢
  obtain ⟨f7, F⟩ := F
  refine wp_putR rfl rfl rfl f0 f7 rfl ?_
  have f8 : gK (pR h6 l0 87 r3) l0 = 14 := (gK_pR _ _ _ _ _).trans f7
  replace F := F _ rfl
  generalize pR h6 l0 87 r3 = h7 at F f8 ⊢
  refine wp_aload rfl rfl rfl ?_
  refine wp_const rfl rfl ?_
  refine wp_newI (j := 144) rfl rfl (by decide) rfl ?_
  replace F := F _ _ rfl rfl
  generalize gNew h7 100 144 = h8 at F ⊢
  generalize gN h7 = r4 at F ⊢
  obtain ⟨f9, F⟩ := F
  refine wp_putR rfl rfl rfl f0 f9 rfl ?_
  have f10 : gK (pR h8 l0 88 r4) l0 = 14 := (gK_pR _ _ _ _ _).trans f9
  replace F := F _ rfl
  generalize pR h8 l0 88 r4 = h9 at F f10 ⊢
  refine wp_aload rfl rfl rfl ?_
  refine wp_const rfl rfl ?_
  refine wp_newI (j := 3000) rfl rfl (by decide) rfl ?_
  replace F := F _ _ rfl rfl
  generalize gNew h9 100 3000 = h10 at F ⊢
  generalize gN h9 = r5 at F ⊢
  obtain ⟨f11, F⟩ := F
  refine wp_putR rfl rfl rfl f0 f11 rfl ?_
  have f12 : gK (pR h10 l0 90 r5) l0 = 14 := (gK_pR _ _ _ _ _).trans f11
  replace F := F _ rfl
  generalize pR h10 l0 90 r5 = h11 at F f12 ⊢
  exact wp_retV rfl F
-- CensusOffice tick (I)I
theorem m12 {d : Nat} {a0 : Nat} {a1 : Int32} {h : aH} {K : Int32 → aH → Prop} {X : Nat → aH → Prop} (F : ((a1.toInt < 0 → X 1 (gNew h 200 6)) ∧ (¬ a1.toInt < 0 → ((1000000 < a1.toInt → X 1 (gNew h 200 6)) ∧ (¬ 1000000 < a1.toInt → gK h a0 = 1 ∧ ((100000000 < ((gI h a0 12) + a1).toInt → X 1 (gNew h 200 6)) ∧ (¬ 100000000 < ((gI h a0 12) + a1).toInt → 8 ≤ a0 ∧ ∀ h0 : aH, h0 = pI h a0 12 ((gI h a0 12) + a1) → K (gI h0 a0 12) h0))))))) : CI d 12 [vR a0, vI a1] h K X := by
  show Wp d 12 (0, [some (vR a0), some (vI a1)], [], h) (RI K X)
  refine wp_iload rfl rfl rfl ?_
  refine wp_if_lt rfl rfl rfl rfl (fun c => ?_) (fun c => ?_)
  · replace F := F.1 c
    exact wp_thrI rfl F
  · replace F := F.2 c
    refine wp_iload rfl rfl rfl ?_
    refine wp_const rfl rfl ?_
    refine wp_icmp_gt (Y := 1000000) rfl rfl rfl rfl rfl (fun c => ?_) (fun c => ?_)
    · replace F := F.1 c
      exact wp_thrI rfl F
    · replace F := F.2 c
      refine wp_aload rfl rfl rfl ?_
      obtain ⟨f0, F⟩ := F
      refine wp_getI rfl rfl rfl f0 rfl ?_
      refine wp_iload rfl rfl rfl ?_
      refine wp_iadd rfl rfl ?_
      refine wp_const rfl rfl ?_
      refine wp_icmp_le (Y := 100000000) rfl rfl rfl rfl rfl (fun c => ?_) (fun c => ?_)
      · replace F := F.1 c
        exact wp_thrI rfl F
      · replace F := F.2 c
        refine wp_aload rfl rfl rfl ?_
        refine wp_dup rfl rfl rfl ?_
        refine wp_getI rfl rfl rfl f0 rfl ?_
        refine wp_iload rfl rfl rfl ?_
        refine wp_iadd rfl rfl ?_
        obtain ⟨f1, F⟩ := F
        refine wp_putI rfl rfl rfl f1 f0 rfl ?_
        have f2 : gK (pI h a0 12 ((gI h a0 12) + a1)) a0 = 1 := (gK_pI _ _ _ _ _).trans f0
        replace F := F _ rfl
        generalize pI h a0 12 ((gI h a0 12) + a1) = h0 at F f2 ⊢
        refine wp_aload rfl rfl rfl ?_
        refine wp_getI rfl rfl rfl f2 rfl ?_
        exact wp_retI rfl (Or.inl rfl) F
-- CensusOfficeLaw tick (LCensusOffice;I[J)I
theorem m13 {d : Nat} {a0 : Nat} {a1 : Int32} {a2 : Nat} {h : aH} {K : Int32 → aH → Prop} {X : Nat → aH → Prop} (F : 8 ≤ a0 ∧ gK h a0 = 1 ∧ CI d 12 [vR a0, vI a1] h (fun y0 h0 => 8 ≤ a2 ∧ inB h0 101 a2 0 0 ∧ ∀ h1 : aH, h1 = pJ h0 a2 0 (y0.toInt64) → K 0 h1) (fun x9 h9 => (x9 = 1 ∧ K 1 h9))) : CI (d + 1) 13 [vR a0, vI a1, vR a2] h K X := by
  show Wp (d + 1) 13 (0, [some (vR a0), some (vI a1), some (vR a2), none], [], h) (RI K X)
  refine wp_aload rfl rfl rfl ?_
  refine wp_const rfl rfl ?_
  refine wp_aload rfl rfl rfl ?_
  refine wp_iload rfl rfl rfl ?_
  obtain ⟨f0, F⟩ := F
  obtain ⟨f1, F⟩ := F
  refine wp_callhI (X := (fun x9 h9 => (x9 = 1 ∧ K 1 h9))) rfl rfl rfl (rcv_v f0 f1 (by decide) (by decide)) rfl rfl rfl (fun x9 h9 F => ?_) ?_
  · rcases F with ⟨rfl, F⟩
    · refine ⟨12, rfl, ?_⟩
      refine wp_astoreJ' (L' := [none, none, none, none]) (L2 := [none, none, none, some vJ]) rfl rfl rfl rfl rfl ?_
      refine wp_const rfl rfl ?_
      exact wp_retI rfl (Or.inl rfl) F
  · refine CI.mono F (fun y0 h0 F => ?_) (fun _ _ w => w)
    refine wp_i2l rfl rfl ?_
    obtain ⟨f2, F⟩ := F
    obtain ⟨b9, F⟩ := F
    refine wp_lastore rfl f2 b9 rfl ?_
    replace F := F _ rfl
    generalize pJ h0 a2 0 (y0.toInt64) = h1 at F ⊢
    refine wp_goto rfl rfl ?_
    refine wp_const' (L' := [none, none, none, none]) rfl rfl rfl ?_
    exact wp_retI rfl (Or.inl rfl) F
-- CensusOfficeModel isIn (JJJ)Z
theorem m14 {d : Nat} {a0 : Int64} {a1 : Int64} {a2 : Int64} {h : aH} {K : Int32 → aH → Prop} {X : Nat → aH → Prop} (F : ((a0.toInt < a1.toInt → K 0 h) ∧ (¬ a0.toInt < a1.toInt → ((a2.toInt < a0.toInt → K 0 h) ∧ (¬ a2.toInt < a0.toInt → K 1 h))))) : CI d 14 [vL a0, vL a1, vL a2] h K X := by
  show Wp d 14 (0, [some (vL a0), none, some (vL a1), none, some (vL a2), none], [], h) (RI K X)
  refine wp_lload rfl rfl rfl ?_
  refine wp_lload rfl rfl rfl ?_
  refine wp_lcmp_lt rfl rfl rfl rfl rfl rfl rfl (fun c => ?_) (fun c => ?_)
  · replace F := F.1 c
    refine wp_const' (L' := [none, none, none, none, none, none]) rfl rfl rfl ?_
    exact wp_retI rfl (Or.inr rfl) F
  · replace F := F.2 c
    refine wp_lload rfl rfl rfl ?_
    refine wp_lload rfl rfl rfl ?_
    refine wp_lcmp_gt rfl rfl rfl rfl rfl rfl rfl (fun c => ?_) (fun c => ?_)
    · replace F := F.1 c
      refine wp_const' (L' := [none, none, none, none, none, none]) rfl rfl rfl ?_
      exact wp_retI rfl (Or.inr rfl) F
    · replace F := F.2 c
      refine wp_const rfl rfl ?_
      refine wp_goto rfl rfl ?_
      exact wp_retI rfl (Or.inr rfl) F
-- CensusOfficeModel fail (I)I
theorem m15 {d : Nat} {a0 : Nat} {a1 : Int32} {h : aH} {K : Int32 → aH → Prop} {X : Nat → aH → Prop} (F : 8 ≤ a0 ∧ gK h a0 = 14 ∧ ∀ h0 : aH, h0 = pI h a0 0 a1 → K 0 h0) : CI d 15 [vR a0, vI a1] h K X := by
  show Wp d 15 (0, [some (vR a0), some (vI a1)], [], h) (RI K X)
  refine wp_aload rfl rfl rfl ?_
  refine wp_iload rfl rfl rfl ?_
  obtain ⟨f0, F⟩ := F
  obtain ⟨f1, F⟩ := F
  refine wp_putI rfl rfl rfl f0 f1 rfl ?_
  have f2 : gK (pI h a0 0 a1) a0 = 14 := (gK_pI _ _ _ _ _).trans f1
  replace F := F _ rfl
  generalize pI h a0 0 a1 = h0 at F f2 ⊢
  refine wp_const rfl rfl ?_
  exact wp_retI rfl (Or.inl rfl) F
-- CensusOfficeModel tick (I)I
theorem m16 {d : Nat} {a0 : Nat} {a1 : Int32} {h : aH} {K : Int32 → aH → Prop} {X : Nat → aH → Prop} (F : 8 ≤ a0 ∧ gK h a0 = 14 ∧ ∀ h0 : aH, h0 = pI h a0 0 0 → CI d 14 [vL (a1.toInt64), vL 0, vL 1000000] h0 (fun y0 h1 => ((y0.toInt = 0 → gK h1 a0 = 14 ∧ CI d 15 [vR a0, vI 1] h1 (fun y1 h2 => K y1 h2) X) ∧ (¬ y0.toInt = 0 → gK h1 a0 = 14 ∧ ((100000000 < (((gI h1 a0 1).toInt64) + (a1.toInt64)).toInt → CI d 15 [vR a0, vI 1] h1 (fun y2 h3 => K y2 h3) X) ∧ (¬ 100000000 < (((gI h1 a0 1).toInt64) + (a1.toInt64)).toInt → ∀ h4 : aH, h4 = pI h1 a0 1 ((gI h1 a0 1) + a1) → K (gI h4 a0 1) h4))))) X) : CI (d + 1) 16 [vR a0, vI a1] h K X := by
  show Wp (d + 1) 16 (0, [some (vR a0), some (vI a1)], [], h) (RI K X)
  refine wp_aload rfl rfl rfl ?_
  refine wp_const rfl rfl ?_
  obtain ⟨f0, F⟩ := F
  obtain ⟨f1, F⟩ := F
  refine wp_putI rfl rfl rfl f0 f1 rfl ?_
  have f2 : gK (pI h a0 0 0) a0 = 14 := (gK_pI _ _ _ _ _).trans f1
  replace F := F _ rfl
  generalize pI h a0 0 0 = h0 at F f2 ⊢
  refine wp_iload rfl rfl rfl ?_
  refine wp_i2l rfl rfl ?_
  refine wp_const rfl rfl ?_
  refine wp_const rfl rfl ?_
  refine wp_callI rfl rfl rfl rfl rfl rfl rfl rfl ?_
  refine CI.mono F (fun y0 h1 F => ?_) (fun _ _ w => rx_I w)
  refine wp_if_eq rfl rfl rfl rfl (fun c => ?_) (fun c => ?_)
  · replace F := F.1 c
    refine wp_aload' (L' := [some (vR a0), none]) rfl rfl rfl rfl ?_
    refine wp_const rfl rfl ?_
    obtain ⟨f3, F⟩ := F
    refine wp_callI rfl rfl rfl (rcv_v f0 f3 (by decide) (by decide)) rfl rfl rfl rfl ?_
    refine CI.mono F (fun y1 h2 F => ?_) (fun _ _ w => rx_I w)
    exact wp_retI rfl (Or.inl rfl) F
  · replace F := F.2 c
    refine wp_aload rfl rfl rfl ?_
    obtain ⟨f4, F⟩ := F
    refine wp_getI rfl rfl rfl f4 rfl ?_
    refine wp_i2l rfl rfl ?_
    refine wp_iload rfl rfl rfl ?_
    refine wp_i2l rfl rfl ?_
    refine wp_ladd rfl rfl ?_
    refine wp_const rfl rfl ?_
    refine wp_lcmp_le (Y := 100000000) rfl rfl rfl rfl rfl rfl rfl (fun c => ?_) (fun c => ?_)
    · replace F := F.1 c
      refine wp_aload' (L' := [some (vR a0), none]) rfl rfl rfl rfl ?_
      refine wp_const rfl rfl ?_
      refine wp_callI rfl rfl rfl (rcv_v f0 f4 (by decide) (by decide)) rfl rfl rfl rfl ?_
      refine CI.mono F (fun y2 h3 F => ?_) (fun _ _ w => rx_I w)
      exact wp_retI rfl (Or.inl rfl) F
    · replace F := F.2 c
      refine wp_aload rfl rfl rfl ?_
      refine wp_dup rfl rfl rfl ?_
      refine wp_getI rfl rfl rfl f4 rfl ?_
      refine wp_iload rfl rfl rfl ?_
      refine wp_iadd rfl rfl ?_
      refine wp_putI rfl rfl rfl f0 f4 rfl ?_
      have f5 : gK (pI h1 a0 1 ((gI h1 a0 1) + a1)) a0 = 14 := (gK_pI _ _ _ _ _).trans f4
      replace F := F _ rfl
      generalize pI h1 a0 1 ((gI h1 a0 1) + a1) = h4 at F f5 ⊢
      refine wp_aload rfl rfl rfl ?_
      refine wp_getI rfl rfl rfl f5 rfl ?_
      exact wp_retI rfl (Or.inl rfl) F
-- CensusOfficeModel thrown ()I
theorem m17 {d : Nat} {a0 : Nat} {h : aH} {K : Int32 → aH → Prop} {X : Nat → aH → Prop} (F : gK h a0 = 14 ∧ K (gI h a0 0) h) : CI d 17 [vR a0] h K X := by
  show Wp d 17 (0, [some (vR a0)], [], h) (RI K X)
  refine wp_aload rfl rfl rfl ?_
  obtain ⟨f0, F⟩ := F
  refine wp_getI rfl rfl rfl f0 rfl ?_
  exact wp_retI rfl (Or.inl rfl) F
-- CensusOffice$Rows isFull ()Z
theorem m18 {d : Nat} {a0 : Nat} {h : aH} {K : Int32 → aH → Prop} {X : Nat → aH → Prop} (F : gK h a0 = 8 ∧ (((gI h a0 3).toInt < (gI h a0 1).toInt → K 0 h) ∧ (¬ (gI h a0 3).toInt < (gI h a0 1).toInt → K 1 h))) : CI d 18 [vR a0] h K X := by
  show Wp d 18 (0, [some (vR a0)], [], h) (RI K X)
  refine wp_aload rfl rfl rfl ?_
  obtain ⟨f0, F⟩ := F
  refine wp_getI rfl rfl rfl f0 rfl ?_
  refine wp_aload rfl rfl rfl ?_
  refine wp_getI rfl rfl rfl f0 rfl ?_
  refine wp_icmp_lt rfl rfl rfl rfl rfl (fun c => ?_) (fun c => ?_)
  · replace F := F.1 c
    refine wp_const' (L' := [none]) rfl rfl rfl ?_
    exact wp_retI rfl (Or.inr rfl) F
  · replace F := F.2 c
    refine wp_const rfl rfl ?_
    refine wp_goto rfl rfl ?_
    exact wp_retI rfl (Or.inr rfl) F
-- java/lang/Math min (II)I
theorem m19 {d : Nat} {a0 : Int32} {a1 : Int32} {h : aH} {K : Int32 → aH → Prop} {X : Nat → aH → Prop} (F : ((a1.toInt < a0.toInt → K a1 h) ∧ (¬ a1.toInt < a0.toInt → K a0 h))) : CI d 19 [vI a0, vI a1] h K X := by
  show Wp d 19 (0, [some (vI a0), some (vI a1)], [], h) (RI K X)
  refine wp_iload rfl rfl rfl ?_
  refine wp_iload rfl rfl rfl ?_
  refine wp_icmp_gt rfl rfl rfl rfl rfl (fun c => ?_) (fun c => ?_)
  · replace F := F.1 c
    refine wp_iload' (L' := [none, some (vI a1)]) rfl rfl rfl rfl ?_
    exact wp_retI rfl (Or.inl rfl) F
  · replace F := F.2 c
    refine wp_iload rfl rfl rfl ?_
    refine wp_goto rfl rfl ?_
    exact wp_retI rfl (Or.inl rfl) F
-- java/util/Arrays copyOf ([II)[I
theorem m20 {d : Nat} {a0 : Nat} {a1 : Int32} {h : aH} {K : Nat → aH → Prop} {X : Nat → aH → Prop} (F : (100 ≤ gK h a0 ∧ gK h a0 ≤ 106) ∧ ((a1.toInt = (nI (gL h a0)).toInt → 8 ≤ a0 ∧ gK h a0 = 100 ∧ ∀ (r0 : Nat) (h0 : aH), r0 = gN h → h0 = gCopyI (gNew h 100 (gL h a0)) a0 0 (gN h) 0 (gL h a0) → (r0 = 0 ∨ gK h0 r0 = 100) ∧ K r0 h0) ∧ (¬ a1.toInt = (nI (gL h a0)).toInt → ∃ i0 : Nat, a1 = nI i0 ∧ i0 ≤ 1000000 ∧ ∀ (r1 : Nat) (h1 : aH), r1 = gN h → h1 = gNew h 100 i0 → (100 ≤ gK h1 a0 ∧ gK h1 a0 ≤ 106) ∧ CI d 19 [vI (nI (gL h1 a0)), vI a1] h1 (fun y0 h2 => ∃ i1 i2 i3 : Nat, cpOK h2 a0 0 r1 0 y0 i1 i2 i3 ∧ gK h2 a0 = 100 ∧ gK h2 r1 = 100 ∧ ∀ h3 : aH, h3 = gCopyI h2 a0 i1 r1 i2 i3 → K r1 h3) X))) : CR (d + 1) 20 [vR a0, vI a1] h K X := by
  show Wp (d + 1) 20 (0, [some (vR a0), some (vI a1), none], [], h) (RR K X)
  refine wp_iload rfl rfl rfl ?_
  refine wp_aload rfl rfl rfl ?_
  obtain ⟨f0, F⟩ := F
  refine wp_alen rfl f0 rfl ?_
  refine wp_icmp_ne rfl rfl rfl rfl rfl (fun c => ?_) (fun c => ?_)
  · replace F := F.1 c
    refine wp_aload rfl rfl rfl ?_
    refine wp_clone rfl F.1 F.2.1 rfl rfl ?_
    replace F := F.2.2 _ _ rfl rfl
    generalize gCopyI (gNew h 100 (gL h a0)) a0 0 (gN h) 0 (gL h a0) = h0 at F ⊢
    generalize gN h = r0 at F ⊢
    refine wp_cast rfl F.1 rfl ?_
    replace F := F.2
    exact wp_retR rfl F
  · replace F := F.2 c
    refine wp_iload' (L' := [some (vR a0), some (vI a1), none]) rfl rfl rfl rfl ?_
    obtain ⟨i0, e9, b9, F⟩ := F
    refine wp_newI rfl e9 b9 rfl ?_
    replace F := F _ _ rfl rfl
    generalize gNew h 100 i0 = h1 at F ⊢
    generalize gN h = r1 at F ⊢
    refine wp_astore (L2 := [some (vR a0), some (vI a1), some (vR r1)]) rfl rfl rfl rfl ?_
    refine wp_aload rfl rfl rfl ?_
    refine wp_const rfl rfl ?_
    refine wp_aload rfl rfl rfl ?_
    refine wp_const rfl rfl ?_
    refine wp_aload rfl rfl rfl ?_
    obtain ⟨f1, F⟩ := F
    refine wp_alen rfl f1 rfl ?_
    refine wp_iload rfl rfl rfl ?_
    refine wp_callI rfl rfl rfl rfl rfl rfl rfl rfl ?_
    refine CI.mono F (fun y0 h2 F => ?_) (fun _ _ w => rx_R w)
    obtain ⟨i1, i2, i3, c9, ka, kb, F⟩ := F
    refine wp_copyI rfl rfl c9 ka kb rfl ?_
    replace F := F _ rfl
    generalize gCopyI h2 a0 i1 r1 i2 i3 = h3 at F ⊢
    refine wp_aload rfl rfl rfl ?_
    exact wp_retR rfl F
-- CensusOffice$Rows add ()I
theorem m21 {d : Nat} {a0 : Nat} {h : aH} {K : Int32 → aH → Prop} {X : Nat → aH → Prop} (F : gK h a0 = 8 ∧ (100 ≤ gK h (gR h a0 2) ∧ gK h (gR h a0 2) ≤ 106) ∧ (((nI (gL h (gR h a0 2))).toInt < (((gI h a0 3) + 1) * (gI h a0 0)).toInt → CR d 20 [vR (gR h a0 2), vI ((nI (gL h (gR h a0 2))) * 2)] h (fun q0 h0 => 8 ≤ a0 ∧ gK h0 a0 = 8 ∧ ∀ h1 : aH, h1 = pR h0 a0 2 q0 → ∀ h2 : aH, h2 = pI h1 a0 3 ((gI h1 a0 3) + 1) → K ((gI h2 a0 3) - 1) h2) X) ∧ (¬ (nI (gL h (gR h a0 2))).toInt < (((gI h a0 3) + 1) * (gI h a0 0)).toInt → 8 ≤ a0 ∧ ∀ h3 : aH, h3 = pI h a0 3 ((gI h a0 3) + 1) → K ((gI h3 a0 3) - 1) h3))) : CI (d + 1) 21 [vR a0] h K X := by
  show Wp (d + 1) 21 (0, [some (vR a0)], [], h) (RI K X)
  refine wp_aload rfl rfl rfl ?_
  obtain ⟨f0, F⟩ := F
  refine wp_getI rfl rfl rfl f0 rfl ?_
  refine wp_const rfl rfl ?_
  refine wp_iadd rfl rfl ?_
  refine wp_aload rfl rfl rfl ?_
  refine wp_getI rfl rfl rfl f0 rfl ?_
  refine wp_imul rfl rfl ?_
  refine wp_aload rfl rfl rfl ?_
  refine wp_getR rfl rfl rfl f0 rfl ?_
  obtain ⟨f1, F⟩ := F
  refine wp_alen rfl f1 rfl ?_
  refine wp_icmp_le rfl rfl rfl rfl rfl (fun c => ?_) (fun c => ?_)
  · replace F := F.1 c
    refine wp_aload rfl rfl rfl ?_
    refine wp_aload rfl rfl rfl ?_
    refine wp_getR rfl rfl rfl f0 rfl ?_
    refine wp_aload rfl rfl rfl ?_
    refine wp_getR rfl rfl rfl f0 rfl ?_
    refine wp_alen rfl f1 rfl ?_
    refine wp_const rfl rfl ?_
    refine wp_imul rfl rfl ?_
    refine wp_callR rfl rfl rfl rfl rfl rfl rfl rfl ?_
    refine CR.mono F (fun q0 h0 F => ?_) (fun _ _ w => rx_I w)
    obtain ⟨f2, F⟩ := F
    obtain ⟨f3, F⟩ := F
    refine wp_putR rfl rfl rfl f2 f3 rfl ?_
    have f4 : gK (pR h0 a0 2 q0) a0 = 8 := (gK_pR _ _ _ _ _).trans f3
    replace F := F _ rfl
    generalize pR h0 a0 2 q0 = h1 at F f4 ⊢
    refine wp_aload rfl rfl rfl ?_
    refine wp_dup rfl rfl rfl ?_
    refine wp_getI rfl rfl rfl f4 rfl ?_
    refine wp_const rfl rfl ?_
    refine wp_iadd rfl rfl ?_
    refine wp_putI rfl rfl rfl f2 f4 rfl ?_
    have f5 : gK (pI h1 a0 3 ((gI h1 a0 3) + 1)) a0 = 8 := (gK_pI _ _ _ _ _).trans f4
    replace F := F _ rfl
    generalize pI h1 a0 3 ((gI h1 a0 3) + 1) = h2 at F f5 ⊢
    refine wp_aload rfl rfl rfl ?_
    refine wp_getI rfl rfl rfl f5 rfl ?_
    refine wp_const rfl rfl ?_
    refine wp_isub rfl rfl ?_
    exact wp_retI rfl (Or.inl rfl) F
  · replace F := F.2 c
    refine wp_aload rfl rfl rfl ?_
    refine wp_dup rfl rfl rfl ?_
    refine wp_getI rfl rfl rfl f0 rfl ?_
    refine wp_const rfl rfl ?_
    refine wp_iadd rfl rfl ?_
    obtain ⟨f6, F⟩ := F
    refine wp_putI rfl rfl rfl f6 f0 rfl ?_
    have f7 : gK (pI h a0 3 ((gI h a0 3) + 1)) a0 = 8 := (gK_pI _ _ _ _ _).trans f0
    replace F := F _ rfl
    generalize pI h a0 3 ((gI h a0 3) + 1) = h3 at F f7 ⊢
    refine wp_aload rfl rfl rfl ?_
    refine wp_getI rfl rfl rfl f7 rfl ?_
    refine wp_const rfl rfl ?_
    refine wp_isub rfl rfl ?_
    exact wp_retI rfl (Or.inl rfl) F
-- CensusOffice$Rows has (I)Z
theorem m22 {d : Nat} {a0 : Nat} {a1 : Int32} {h : aH} {K : Int32 → aH → Prop} {X : Nat → aH → Prop} (F : ((a1.toInt < 0 → K 0 h) ∧ (¬ a1.toInt < 0 → gK h a0 = 8 ∧ ((a1.toInt < (gI h a0 3).toInt → K 1 h) ∧ (¬ a1.toInt < (gI h a0 3).toInt → K 0 h))))) : CI d 22 [vR a0, vI a1] h K X := by
  show Wp d 22 (0, [some (vR a0), some (vI a1)], [], h) (RI K X)
  refine wp_iload rfl rfl rfl ?_
  refine wp_if_lt rfl rfl rfl rfl (fun c => ?_) (fun c => ?_)
  · replace F := F.1 c
    refine wp_const' (L' := [none, none]) rfl rfl rfl ?_
    exact wp_retI rfl (Or.inr rfl) F
  · replace F := F.2 c
    refine wp_iload rfl rfl rfl ?_
    refine wp_aload rfl rfl rfl ?_
    obtain ⟨f0, F⟩ := F
    refine wp_getI rfl rfl rfl f0 rfl ?_
    refine wp_icmp_ge rfl rfl rfl rfl rfl (fun c => ?_) (fun c => ?_)
    · replace F := F.1 c
      refine wp_const rfl rfl ?_
      refine wp_goto rfl rfl ?_
      exact wp_retI rfl (Or.inr rfl) F
    · replace F := F.2 c
      refine wp_const' (L' := [none, none]) rfl rfl rfl ?_
      exact wp_retI rfl (Or.inr rfl) F
-- CensusOffice$Rows put (III)V
theorem m23 {d : Nat} {a0 : Nat} {a1 : Int32} {a2 : Int32} {a3 : Int32} {h : aH} {K : aH → Prop} {X : Nat → aH → Prop} (F : 8 ≤ a0 ∧ gK h a0 = 8 ∧ CI d 22 [vR a0, vI a1] h (fun y0 h0 => ((y0.toInt = 0 → K h0) ∧ (¬ y0.toInt = 0 → ((a2.toInt < 0 → K h0) ∧ (¬ a2.toInt < 0 → gK h0 a0 = 8 ∧ ((a2.toInt < (gI h0 a0 0).toInt → 8 ≤ (gR h0 a0 2) ∧ ∃ i0 : Nat, inB h0 100 (gR h0 a0 2) ((a1 * (gI h0 a0 0)) + a2) i0 ∧ ∀ h1 : aH, h1 = pI h0 (gR h0 a0 2) i0 a3 → K h1) ∧ (¬ a2.toInt < (gI h0 a0 0).toInt → K h0))))))) X) : CV (d + 1) 23 [vR a0, vI a1, vI a2, vI a3] h K X := by
  show Wp (d + 1) 23 (0, [some (vR a0), some (vI a1), some (vI a2), some (vI a3)], [], h) (RV K X)
  refine wp_aload rfl rfl rfl ?_
  refine wp_iload rfl rfl rfl ?_
  obtain ⟨f0, F⟩ := F
  obtain ⟨f1, F⟩ := F
  refine wp_callI rfl rfl rfl (rcv_v f0 f1 (by decide) (by decide)) rfl rfl rfl rfl ?_
  refine CI.mono F (fun y0 h0 F => ?_) (fun _ _ w => rx_V w)
  refine wp_if_eq rfl rfl rfl rfl (fun c => ?_) (fun c => ?_)
  · replace F := F.1 c
    exact wp_retV rfl F
  · replace F := F.2 c
    refine wp_iload rfl rfl rfl ?_
    refine wp_if_lt rfl rfl rfl rfl (fun c => ?_) (fun c => ?_)
    · replace F := F.1 c
      exact wp_retV rfl F
    · replace F := F.2 c
      refine wp_iload rfl rfl rfl ?_
      refine wp_aload rfl rfl rfl ?_
      obtain ⟨f2, F⟩ := F
      refine wp_getI rfl rfl rfl f2 rfl ?_
      refine wp_icmp_ge rfl rfl rfl rfl rfl (fun c => ?_) (fun c => ?_)
      · replace F := F.1 c
        refine wp_aload rfl rfl rfl ?_
        refine wp_getR rfl rfl rfl f2 rfl ?_
        refine wp_iload rfl rfl rfl ?_
        refine wp_aload rfl rfl rfl ?_
        refine wp_getI rfl rfl rfl f2 rfl ?_
        refine wp_imul rfl rfl ?_
        refine wp_iload rfl rfl rfl ?_
        refine wp_iadd rfl rfl ?_
        refine wp_iload rfl rfl rfl ?_
        obtain ⟨f3, F⟩ := F
        obtain ⟨i0, b9, F⟩ := F
        refine wp_iastore rfl f3 b9 rfl ?_
        have f4 : gK (pI h0 (gR h0 a0 2) i0 a3) a0 = 8 := (gK_pI _ _ _ _ _).trans f2
        replace F := F _ rfl
        generalize pI h0 (gR h0 a0 2) i0 a3 = h1 at F f4 ⊢
        exact wp_retV rfl F
      · replace F := F.2 c
        exact wp_retV rfl F
-- CensusOffice$Register addUnit ()I
theorem m24 {d : Nat} {a0 : Nat} {h : aH} {K : Int32 → aH → Prop} {X : Nat → aH → Prop} (F : gK h a0 = 6 ∧ 8 ≤ (gR h a0 0) ∧ gK h (gR h a0 0) = 8 ∧ CI d 21 [vR (gR h a0 0)] h (fun y0 h0 => gK h0 a0 = 6 ∧ 8 ≤ (gR h0 a0 0) ∧ gK h0 (gR h0 a0 0) = 8 ∧ CV d 23 [vR (gR h0 a0 0), vI y0, vI 0, vI (-1)] h0 (fun h1 => K y0 h1) X) X) : CI (d + 1) 24 [vR a0] h K X := by
  show Wp (d + 1) 24 (0, [some (vR a0), none], [], h) (RI K X)
  refine wp_aload rfl rfl rfl ?_
  obtain ⟨f0, F⟩ := F
  refine wp_getR rfl rfl rfl f0 rfl ?_
  obtain ⟨f1, F⟩ := F
  obtain ⟨f2, F⟩ := F
  refine wp_callI rfl rfl rfl (rcv_v f1 f2 (by decide) (by decide)) rfl rfl rfl rfl ?_
  refine CI.mono F (fun y0 h0 F => ?_) (fun _ _ w => rx_I w)
  refine wp_istore (L2 := [some (vR a0), some (vI y0)]) rfl rfl rfl rfl ?_
  refine wp_aload rfl rfl rfl ?_
  obtain ⟨f3, F⟩ := F
  refine wp_getR rfl rfl rfl f3 rfl ?_
  refine wp_iload rfl rfl rfl ?_
  refine wp_const rfl rfl ?_
  refine wp_const rfl rfl ?_
  obtain ⟨f4, F⟩ := F
  obtain ⟨f5, F⟩ := F
  refine wp_callV rfl rfl rfl (rcv_v f4 f5 (by decide) (by decide)) rfl rfl rfl rfl ?_
  refine CV.mono F (fun h1 F => ?_) (fun _ _ w => rx_I w)
  refine wp_iload rfl rfl rfl ?_
  exact wp_retI rfl (Or.inl rfl) F
-- CensusOffice unit ()I
theorem m25 {d : Nat} {a0 : Nat} {h : aH} {K : Int32 → aH → Prop} {X : Nat → aH → Prop} (F : gK h a0 = 1 ∧ gK h (gR h a0 0) = 6 ∧ 8 ≤ (gR h (gR h a0 0) 0) ∧ gK h (gR h (gR h a0 0) 0) = 8 ∧ CI d 18 [vR (gR h (gR h a0 0) 0)] h (fun y0 h0 => ((y0.toInt = 0 → gK h0 a0 = 1 ∧ 8 ≤ (gR h0 a0 0) ∧ gK h0 (gR h0 a0 0) = 6 ∧ CI d 24 [vR (gR h0 a0 0)] h0 (fun y1 h1 => K y1 h1) X) ∧ (¬ y0.toInt = 0 → X 4 (gNew h0 200 6)))) X) : CI (d + 1) 25 [vR a0] h K X := by
  show Wp (d + 1) 25 (0, [some (vR a0)], [], h) (RI K X)
  refine wp_aload rfl rfl rfl ?_
  obtain ⟨f0, F⟩ := F
  refine wp_getR rfl rfl rfl f0 rfl ?_
  obtain ⟨f1, F⟩ := F
  refine wp_getR rfl rfl rfl f1 rfl ?_
  obtain ⟨f2, F⟩ := F
  obtain ⟨f3, F⟩ := F
  refine wp_callI rfl rfl rfl (rcv_v f2 f3 (by decide) (by decide)) rfl rfl rfl rfl ?_
  refine CI.mono F (fun y0 h0 F => ?_) (fun _ _ w => rx_I w)
  refine wp_if_eq rfl rfl rfl rfl (fun c => ?_) (fun c => ?_)
  · replace F := F.1 c
    refine wp_aload rfl rfl rfl ?_
    obtain ⟨f4, F⟩ := F
    refine wp_getR rfl rfl rfl f4 rfl ?_
    obtain ⟨f5, F⟩ := F
    obtain ⟨f6, F⟩ := F
    refine wp_callI rfl rfl rfl (rcv_v f5 f6 (by decide) (by decide)) rfl rfl rfl rfl ?_
    refine CI.mono F (fun y1 h1 F => ?_) (fun _ _ w => rx_I w)
    exact wp_retI rfl (Or.inl rfl) F
  · replace F := F.2 c
    exact wp_thrI rfl F
-- CensusOfficeLaw unit (LCensusOffice;[J)I
theorem m26 {d : Nat} {a0 : Nat} {a1 : Nat} {h : aH} {K : Int32 → aH → Prop} {X : Nat → aH → Prop} (F : 8 ≤ a0 ∧ gK h a0 = 1 ∧ CI d 25 [vR a0] h (fun y0 h0 => 8 ≤ a1 ∧ inB h0 101 a1 0 0 ∧ ∀ h1 : aH, h1 = pJ h0 a1 0 (y0.toInt64) → K 0 h1) (fun x9 h9 => (x9 = 4 ∧ K 1 h9))) : CI (d + 1) 26 [vR a0, vR a1] h K X := by
  show Wp (d + 1) 26 (0, [some (vR a0), some (vR a1), none], [], h) (RI K X)
  refine wp_aload rfl rfl rfl ?_
  refine wp_const rfl rfl ?_
  refine wp_aload rfl rfl rfl ?_
  obtain ⟨f0, F⟩ := F
  obtain ⟨f1, F⟩ := F
  refine wp_callhI (X := (fun x9 h9 => (x9 = 4 ∧ K 1 h9))) rfl rfl rfl (rcv_v f0 f1 (by decide) (by decide)) rfl rfl rfl (fun x9 h9 F => ?_) ?_
  · rcases F with ⟨rfl, F⟩
    · refine ⟨11, rfl, ?_⟩
      refine wp_astoreJ' (L' := [none, none, none]) (L2 := [none, none, some vJ]) rfl rfl rfl rfl rfl ?_
      refine wp_const rfl rfl ?_
      exact wp_retI rfl (Or.inl rfl) F
  · refine CI.mono F (fun y0 h0 F => ?_) (fun _ _ w => w)
    refine wp_i2l rfl rfl ?_
    obtain ⟨f2, F⟩ := F
    obtain ⟨b9, F⟩ := F
    refine wp_lastore rfl f2 b9 rfl ?_
    replace F := F _ rfl
    generalize pJ h0 a1 0 (y0.toInt64) = h1 at F ⊢
    refine wp_goto rfl rfl ?_
    refine wp_const' (L' := [none, none, none]) rfl rfl rfl ?_
    exact wp_retI rfl (Or.inl rfl) F
-- CensusOfficeModel unit ()I
theorem m27 {d : Nat} {a0 : Nat} {h : aH} {K : Int32 → aH → Prop} {X : Nat → aH → Prop} (F : 8 ≤ a0 ∧ gK h a0 = 14 ∧ ∀ h0 : aH, h0 = pI h a0 0 0 → (((gI h0 a0 2).toInt = 100 → CI d 15 [vR a0, vI 1] h0 (fun y0 h1 => K y0 h1) X) ∧ (¬ (gI h0 a0 2).toInt = 100 → 8 ≤ (gR h0 a0 3) ∧ ∃ i0 : Nat, inB h0 100 (gR h0 a0 3) (gI h0 a0 2) i0 ∧ ∀ h2 : aH, h2 = pI h0 (gR h0 a0 3) i0 (-1) → ∀ h3 : aH, h3 = pI h2 a0 2 ((gI h2 a0 2) + 1) → K ((gI h3 a0 2) - 1) h3))) : CI (d + 1) 27 [vR a0] h K X := by
  show Wp (d + 1) 27 (0, [some (vR a0)], [], h) (RI K X)
  refine wp_aload rfl rfl rfl ?_
  refine wp_const rfl rfl ?_
  obtain ⟨f0, F⟩ := F
  obtain ⟨f1, F⟩ := F
  refine wp_putI rfl rfl rfl f0 f1 rfl ?_
  have f2 : gK (pI h a0 0 0) a0 = 14 := (gK_pI _ _ _ _ _).trans f1
  replace F := F _ rfl
  generalize pI h a0 0 0 = h0 at F f2 ⊢
  refine wp_aload rfl rfl rfl ?_
  refine wp_getI rfl rfl rfl f2 rfl ?_
  refine wp_const rfl rfl ?_
  refine wp_icmp_ne (Y := 100) rfl rfl rfl rfl rfl (fun c => ?_) (fun c => ?_)
  · replace F := F.1 c
    refine wp_aload rfl rfl rfl ?_
    refine wp_const rfl rfl ?_
    refine wp_callI rfl rfl rfl (rcv_v f0 f2 (by decide) (by decide)) rfl rfl rfl rfl ?_
    refine CI.mono F (fun y0 h1 F => ?_) (fun _ _ w => rx_I w)
    exact wp_retI rfl (Or.inl rfl) F
  · replace F := F.2 c
    refine wp_aload rfl rfl rfl ?_
    refine wp_getR rfl rfl rfl f2 rfl ?_
    refine wp_aload rfl rfl rfl ?_
    refine wp_getI rfl rfl rfl f2 rfl ?_
    refine wp_const rfl rfl ?_
    obtain ⟨f3, F⟩ := F
    obtain ⟨i0, b9, F⟩ := F
    refine wp_iastore rfl f3 b9 rfl ?_
    have f4 : gK (pI h0 (gR h0 a0 3) i0 (-1)) a0 = 14 := (gK_pI _ _ _ _ _).trans f2
    replace F := F _ rfl
    generalize pI h0 (gR h0 a0 3) i0 (-1) = h2 at F f4 ⊢
    refine wp_aload rfl rfl rfl ?_
    refine wp_dup rfl rfl rfl ?_
    refine wp_getI rfl rfl rfl f4 rfl ?_
    refine wp_const rfl rfl ?_
    refine wp_iadd rfl rfl ?_
    refine wp_putI rfl rfl rfl f0 f4 rfl ?_
    have f5 : gK (pI h2 a0 2 ((gI h2 a0 2) + 1)) a0 = 14 := (gK_pI _ _ _ _ _).trans f4
    replace F := F _ rfl
    generalize pI h2 a0 2 ((gI h2 a0 2) + 1) = h3 at F f5 ⊢
    refine wp_aload rfl rfl rfl ?_
    refine wp_getI rfl rfl rfl f5 rfl ?_
    refine wp_const rfl rfl ?_
    refine wp_isub rfl rfl ?_
    exact wp_retI rfl (Or.inl rfl) F
-- CensusOffice$Rows size ()I
theorem m28 {d : Nat} {a0 : Nat} {h : aH} {K : Int32 → aH → Prop} {X : Nat → aH → Prop} (F : gK h a0 = 8 ∧ K (gI h a0 3) h) : CI d 28 [vR a0] h K X := by
  show Wp d 28 (0, [some (vR a0)], [], h) (RI K X)
  refine wp_aload rfl rfl rfl ?_
  obtain ⟨f0, F⟩ := F
  refine wp_getI rfl rfl rfl f0 rfl ?_
  exact wp_retI rfl (Or.inl rfl) F
-- CensusOffice needIndex (II)V
theorem m29 {d : Nat} {a0 : Int32} {a1 : Int32} {h : aH} {K : aH → Prop} {X : Nat → aH → Prop} (F : ((a0.toInt < 0 → X 3 (gNew h 200 6)) ∧ (¬ a0.toInt < 0 → ((a0.toInt < a1.toInt → K h) ∧ (¬ a0.toInt < a1.toInt → X 3 (gNew h 200 6)))))) : CV d 29 [vI a0, vI a1] h K X := by
  show Wp d 29 (0, [some (vI a0), some (vI a1)], [], h) (RV K X)
  refine wp_iload rfl rfl rfl ?_
  refine wp_if_lt rfl rfl rfl rfl (fun c => ?_) (fun c => ?_)
  · replace F := F.1 c
    exact wp_thrV rfl F
  · replace F := F.2 c
    refine wp_iload rfl rfl rfl ?_
    refine wp_iload rfl rfl rfl ?_
    refine wp_icmp_lt rfl rfl rfl rfl rfl (fun c => ?_) (fun c => ?_)
    · replace F := F.1 c
      exact wp_retV rfl F
    · replace F := F.2 c
      exact wp_thrV rfl F
-- CensusOffice needUnit (I)V
theorem m30 {d : Nat} {a0 : Nat} {a1 : Int32} {h : aH} {K : aH → Prop} {X : Nat → aH → Prop} (F : gK h a0 = 1 ∧ gK h (gR h a0 0) = 6 ∧ 8 ≤ (gR h (gR h a0 0) 0) ∧ gK h (gR h (gR h a0 0) 0) = 8 ∧ CI d 28 [vR (gR h (gR h a0 0) 0)] h (fun y0 h0 => CV d 29 [vI a1, vI y0] h0 (fun h1 => K h1) X) X) : CV (d + 1) 30 [vR a0, vI a1] h K X := by
  show Wp (d + 1) 30 (0, [some (vR a0), some (vI a1)], [], h) (RV K X)
  refine wp_iload rfl rfl rfl ?_
  refine wp_aload rfl rfl rfl ?_
  obtain ⟨f0, F⟩ := F
  refine wp_getR rfl rfl rfl f0 rfl ?_
  obtain ⟨f1, F⟩ := F
  refine wp_getR rfl rfl rfl f1 rfl ?_
  obtain ⟨f2, F⟩ := F
  obtain ⟨f3, F⟩ := F
  refine wp_callI rfl rfl rfl (rcv_v f2 f3 (by decide) (by decide)) rfl rfl rfl rfl ?_
  refine CI.mono F (fun y0 h0 F => ?_) (fun _ _ w => rx_V w)
  refine wp_callV rfl rfl rfl rfl rfl rfl rfl rfl ?_
  refine CV.mono F (fun h1 F => ?_) (fun _ _ w => rx_V w)
  exact wp_retV rfl F
-- CensusOffice needField (I)V
theorem m31 {d : Nat} {a0 : Nat} {a1 : Int32} {h : aH} {K : aH → Prop} {X : Nat → aH → Prop} (F : CV d 29 [vI a1, vI 6] h (fun h0 => K h0) X) : CV (d + 1) 31 [vR a0, vI a1] h K X := by
  show Wp (d + 1) 31 (0, [some (vR a0), some (vI a1)], [], h) (RV K X)
  refine wp_iload rfl rfl rfl ?_
  refine wp_const rfl rfl ?_
  refine wp_callV rfl rfl rfl rfl rfl rfl rfl rfl ?_
  refine CV.mono F (fun h0 F => ?_) (fun _ _ w => rx_V w)
  exact wp_retV rfl F
-- CensusOffice$Rows at (II)I
theorem m32 {d : Nat} {a0 : Nat} {a1 : Int32} {a2 : Int32} {h : aH} {K : Int32 → aH → Prop} {X : Nat → aH → Prop} (F : 8 ≤ a0 ∧ gK h a0 = 8 ∧ CI d 22 [vR a0, vI a1] h (fun y0 h0 => ((y0.toInt = 0 → K (-2000000) h0) ∧ (¬ y0.toInt = 0 → ((a2.toInt < 0 → K (-2000000) h0) ∧ (¬ a2.toInt < 0 → gK h0 a0 = 8 ∧ ((a2.toInt < (gI h0 a0 0).toInt → ∃ i0 : Nat, inB h0 100 (gR h0 a0 2) ((a1 * (gI h0 a0 0)) + a2) i0 ∧ K (gI h0 (gR h0 a0 2) i0) h0) ∧ (¬ a2.toInt < (gI h0 a0 0).toInt → K (-2000000) h0))))))) X) : CI (d + 1) 32 [vR a0, vI a1, vI a2] h K X := by
  show Wp (d + 1) 32 (0, [some (vR a0), some (vI a1), some (vI a2)], [], h) (RI K X)
  refine wp_aload rfl rfl rfl ?_
  refine wp_iload rfl rfl rfl ?_
  obtain ⟨f0, F⟩ := F
  obtain ⟨f1, F⟩ := F
  refine wp_callI rfl rfl rfl (rcv_v f0 f1 (by decide) (by decide)) rfl rfl rfl rfl ?_
  refine CI.mono F (fun y0 h0 F => ?_) (fun _ _ w => rx_I w)
  refine wp_if_eq rfl rfl rfl rfl (fun c => ?_) (fun c => ?_)
  · replace F := F.1 c
    refine wp_const' (L' := [none, none, none]) rfl rfl rfl ?_
    exact wp_retI rfl (Or.inl rfl) F
  · replace F := F.2 c
    refine wp_iload rfl rfl rfl ?_
    refine wp_if_lt rfl rfl rfl rfl (fun c => ?_) (fun c => ?_)
    · replace F := F.1 c
      refine wp_const' (L' := [none, none, none]) rfl rfl rfl ?_
      exact wp_retI rfl (Or.inl rfl) F
    · replace F := F.2 c
      refine wp_iload rfl rfl rfl ?_
      refine wp_aload rfl rfl rfl ?_
      obtain ⟨f2, F⟩ := F
      refine wp_getI rfl rfl rfl f2 rfl ?_
      refine wp_icmp_lt rfl rfl rfl rfl rfl (fun c => ?_) (fun c => ?_)
      · replace F := F.1 c
        refine wp_aload rfl rfl rfl ?_
        refine wp_getR rfl rfl rfl f2 rfl ?_
        refine wp_iload rfl rfl rfl ?_
        refine wp_aload rfl rfl rfl ?_
        refine wp_getI rfl rfl rfl f2 rfl ?_
        refine wp_imul rfl rfl ?_
        refine wp_iload rfl rfl rfl ?_
        refine wp_iadd rfl rfl ?_
        obtain ⟨i0, b9, F⟩ := F
        refine wp_iaload rfl b9 rfl ?_
        exact wp_retI rfl (Or.inl rfl) F
      · replace F := F.2 c
        refine wp_const' (L' := [none, none, none]) rfl rfl rfl ?_
        exact wp_retI rfl (Or.inl rfl) F
-- CensusOffice$Register wentAway (I)Z
theorem m33 {d : Nat} {a0 : Nat} {a1 : Int32} {h : aH} {K : Int32 → aH → Prop} {X : Nat → aH → Prop} (F : gK h a0 = 6 ∧ 8 ≤ (gR h a0 0) ∧ gK h (gR h a0 0) = 8 ∧ CI d 32 [vR (gR h a0 0), vI a1, vI 0] h (fun y0 h0 => ((y0.toInt = (-1) → K 0 h0) ∧ (¬ y0.toInt = (-1) → K 1 h0))) X) : CI (d + 1) 33 [vR a0, vI a1] h K X := by
  show Wp (d + 1) 33 (0, [some (vR a0), some (vI a1)], [], h) (RI K X)
  refine wp_aload rfl rfl rfl ?_
  obtain ⟨f0, F⟩ := F
  refine wp_getR rfl rfl rfl f0 rfl ?_
  refine wp_iload rfl rfl rfl ?_
  refine wp_const rfl rfl ?_
  obtain ⟨f1, F⟩ := F
  obtain ⟨f2, F⟩ := F
  refine wp_callI rfl rfl rfl (rcv_v f1 f2 (by decide) (by decide)) rfl rfl rfl rfl ?_
  refine CI.mono F (fun y0 h0 F => ?_) (fun _ _ w => rx_I w)
  refine wp_const rfl rfl ?_
  refine wp_icmp_eq (Y := (-1)) rfl rfl rfl rfl rfl (fun c => ?_) (fun c => ?_)
  · replace F := F.1 c
    refine wp_const' (L' := [none, none]) rfl rfl rfl ?_
    exact wp_retI rfl (Or.inr rfl) F
  · replace F := F.2 c
    refine wp_const rfl rfl ?_
    refine wp_goto rfl rfl ?_
    exact wp_retI rfl (Or.inr rfl) F
-- CensusOffice needUnmerged (I)V
theorem m34 {d : Nat} {a0 : Nat} {a1 : Int32} {h : aH} {K : aH → Prop} {X : Nat → aH → Prop} (F : gK h a0 = 1 ∧ 8 ≤ (gR h a0 0) ∧ gK h (gR h a0 0) = 6 ∧ CI d 33 [vR (gR h a0 0), vI a1] h (fun y0 h0 => ((y0.toInt = 0 → K h0) ∧ (¬ y0.toInt = 0 → X 2 (gNew h0 200 6)))) X) : CV (d + 1) 34 [vR a0, vI a1] h K X := by
  show Wp (d + 1) 34 (0, [some (vR a0), some (vI a1)], [], h) (RV K X)
  refine wp_aload rfl rfl rfl ?_
  obtain ⟨f0, F⟩ := F
  refine wp_getR rfl rfl rfl f0 rfl ?_
  refine wp_iload rfl rfl rfl ?_
  obtain ⟨f1, F⟩ := F
  obtain ⟨f2, F⟩ := F
  refine wp_callI rfl rfl rfl (rcv_v f1 f2 (by decide) (by decide)) rfl rfl rfl rfl ?_
  refine CI.mono F (fun y0 h0 F => ?_) (fun _ _ w => rx_V w)
  refine wp_if_eq rfl rfl rfl rfl (fun c => ?_) (fun c => ?_)
  · replace F := F.1 c
    exact wp_retV rfl F
  · replace F := F.2 c
    exact wp_thrV rfl F
-- CensusOffice today ()I
theorem m35 {d : Nat} {a0 : Nat} {h : aH} {K : Int32 → aH → Prop} {X : Nat → aH → Prop} (F : gK h a0 = 1 ∧ K ((gI h a0 12) / 1440) h) : CI d 35 [vR a0] h K X := by
  show Wp d 35 (0, [some (vR a0)], [], h) (RI K X)
  refine wp_aload rfl rfl rfl ?_
  obtain ⟨f0, F⟩ := F
  refine wp_getI rfl rfl rfl f0 rfl ?_
  refine wp_const rfl rfl ?_
  refine wp_idiv rfl (by decide) rfl ?_
  exact wp_retI rfl (Or.inl rfl) F
-- CensusOffice$Register addTelling (IIIII)I
theorem m36 {d : Nat} {a0 : Nat} {a1 : Int32} {a2 : Int32} {a3 : Int32} {a4 : Int32} {a5 : Int32} {h : aH} {K : Int32 → aH → Prop} {X : Nat → aH → Prop} (F : gK h a0 = 6 ∧ 8 ≤ (gR h a0 1) ∧ gK h (gR h a0 1) = 8 ∧ CI d 21 [vR (gR h a0 1)] h (fun y0 h0 => gK h0 a0 = 6 ∧ 8 ≤ (gR h0 a0 1) ∧ gK h0 (gR h0 a0 1) = 8 ∧ CV d 23 [vR (gR h0 a0 1), vI y0, vI 0, vI a1] h0 (fun h1 => gK h1 a0 = 6 ∧ 8 ≤ (gR h1 a0 1) ∧ gK h1 (gR h1 a0 1) = 8 ∧ CV d 23 [vR (gR h1 a0 1), vI y0, vI 1, vI a2] h1 (fun h2 => gK h2 a0 = 6 ∧ 8 ≤ (gR h2 a0 1) ∧ gK h2 (gR h2 a0 1) = 8 ∧ CV d 23 [vR (gR h2 a0 1), vI y0, vI 2, vI a3] h2 (fun h3 => gK h3 a0 = 6 ∧ 8 ≤ (gR h3 a0 1) ∧ gK h3 (gR h3 a0 1) = 8 ∧ CV d 23 [vR (gR h3 a0 1), vI y0, vI 3, vI a4] h3 (fun h4 => gK h4 a0 = 6 ∧ 8 ≤ (gR h4 a0 1) ∧ gK h4 (gR h4 a0 1) = 8 ∧ CV d 23 [vR (gR h4 a0 1), vI y0, vI 4, vI a5] h4 (fun h5 => gK h5 a0 = 6 ∧ 8 ≤ (gR h5 a0 1) ∧ gK h5 (gR h5 a0 1) = 8 ∧ CI d 28 [vR (gR h5 a0 1)] h5 (fun y1 h6 => K y1 h6) X) X) X) X) X) X) X) : CI (d + 1) 36 [vR a0, vI a1, vI a2, vI a3, vI a4, vI a5] h K X := by
  show Wp (d + 1) 36 (0, [some (vR a0), some (vI a1), some (vI a2), some (vI a3), some (vI a4), some (vI a5), none], [], h) (RI K X)
  refine wp_aload rfl rfl rfl ?_
  obtain ⟨f0, F⟩ := F
  refine wp_getR rfl rfl rfl f0 rfl ?_
  obtain ⟨f1, F⟩ := F
  obtain ⟨f2, F⟩ := F
  refine wp_callI rfl rfl rfl (rcv_v f1 f2 (by decide) (by decide)) rfl rfl rfl rfl ?_
  refine CI.mono F (fun y0 h0 F => ?_) (fun _ _ w => rx_I w)
  refine wp_istore (L2 := [some (vR a0), some (vI a1), some (vI a2), some (vI a3), some (vI a4), some (vI a5), some (vI y0)]) rfl rfl rfl rfl ?_
  refine wp_aload rfl rfl rfl ?_
  obtain ⟨f3, F⟩ := F
  refine wp_getR rfl rfl rfl f3 rfl ?_
  refine wp_iload rfl rfl rfl ?_
  refine wp_const rfl rfl ?_
  refine wp_iload rfl rfl rfl ?_
  obtain ⟨f4, F⟩ := F
  obtain ⟨f5, F⟩ := F
  refine wp_callV rfl rfl rfl (rcv_v f4 f5 (by decide) (by decide)) rfl rfl rfl rfl ?_
  refine CV.mono F (fun h1 F => ?_) (fun _ _ w => rx_I w)
  refine wp_aload rfl rfl rfl ?_
  obtain ⟨f6, F⟩ := F
  refine wp_getR rfl rfl rfl f6 rfl ?_
  refine wp_iload rfl rfl rfl ?_
  refine wp_const rfl rfl ?_
  refine wp_iload rfl rfl rfl ?_
  obtain ⟨f7, F⟩ := F
  obtain ⟨f8, F⟩ := F
  refine wp_callV rfl rfl rfl (rcv_v f7 f8 (by decide) (by decide)) rfl rfl rfl rfl ?_
  refine CV.mono F (fun h2 F => ?_) (fun _ _ w => rx_I w)
  refine wp_aload rfl rfl rfl ?_
  obtain ⟨f9, F⟩ := F
  refine wp_getR rfl rfl rfl f9 rfl ?_
  refine wp_iload rfl rfl rfl ?_
  refine wp_const rfl rfl ?_
  refine wp_iload rfl rfl rfl ?_
  obtain ⟨f10, F⟩ := F
  obtain ⟨f11, F⟩ := F
  refine wp_callV rfl rfl rfl (rcv_v f10 f11 (by decide) (by decide)) rfl rfl rfl rfl ?_
  refine CV.mono F (fun h3 F => ?_) (fun _ _ w => rx_I w)
  refine wp_aload rfl rfl rfl ?_
  obtain ⟨f12, F⟩ := F
  refine wp_getR rfl rfl rfl f12 rfl ?_
  refine wp_iload rfl rfl rfl ?_
  refine wp_const rfl rfl ?_
  refine wp_iload rfl rfl rfl ?_
  obtain ⟨f13, F⟩ := F
  obtain ⟨f14, F⟩ := F
  refine wp_callV rfl rfl rfl (rcv_v f13 f14 (by decide) (by decide)) rfl rfl rfl rfl ?_
  refine CV.mono F (fun h4 F => ?_) (fun _ _ w => rx_I w)
  refine wp_aload rfl rfl rfl ?_
  obtain ⟨f15, F⟩ := F
  refine wp_getR rfl rfl rfl f15 rfl ?_
  refine wp_iload rfl rfl rfl ?_
  refine wp_const rfl rfl ?_
  refine wp_iload rfl rfl rfl ?_
  obtain ⟨f16, F⟩ := F
  obtain ⟨f17, F⟩ := F
  refine wp_callV rfl rfl rfl (rcv_v f16 f17 (by decide) (by decide)) rfl rfl rfl rfl ?_
  refine CV.mono F (fun h5 F => ?_) (fun _ _ w => rx_I w)
  refine wp_aload rfl rfl rfl ?_
  obtain ⟨f18, F⟩ := F
  refine wp_getR rfl rfl rfl f18 rfl ?_
  obtain ⟨f19, F⟩ := F
  obtain ⟨f20, F⟩ := F
  refine wp_callI rfl rfl rfl (rcv_v f19 f20 (by decide) (by decide)) rfl rfl rfl rfl ?_
  refine CI.mono F (fun y1 h6 F => ?_) (fun _ _ w => rx_I w)
  exact wp_retI rfl (Or.inl rfl) F
-- CensusOffice tell (IIII)I
theorem m37 {d : Nat} {a0 : Nat} {a1 : Int32} {a2 : Int32} {a3 : Int32} {a4 : Int32} {h : aH} {K : Int32 → aH → Prop} {X : Nat → aH → Prop} (F : 8 ≤ a0 ∧ gK h a0 = 1 ∧ CV d 30 [vR a0, vI a1] h (fun h0 => gK h0 a0 = 1 ∧ CV d 31 [vR a0, vI a2] h0 (fun h1 => ((a3.toInt < 0 → X 1 (gNew h1 200 6)) ∧ (¬ a3.toInt < 0 → ((100000 < a3.toInt → X 1 (gNew h1 200 6)) ∧ (¬ 100000 < a3.toInt → ((a4.toInt < (-1000000) → X 1 (gNew h1 200 6)) ∧ (¬ a4.toInt < (-1000000) → ((1000000 < a4.toInt → X 1 (gNew h1 200 6)) ∧ (¬ 1000000 < a4.toInt → gK h1 a0 = 1 ∧ CV d 34 [vR a0, vI a1] h1 (fun h2 => gK h2 a0 = 1 ∧ gK h2 (gR h2 a0 0) = 6 ∧ 8 ≤ (gR h2 (gR h2 a0 0) 1) ∧ gK h2 (gR h2 (gR h2 a0 0) 1) = 8 ∧ CI d 18 [vR (gR h2 (gR h2 a0 0) 1)] h2 (fun y0 h3 => ((y0.toInt = 0 → gK h3 a0 = 1 ∧ CI d 35 [vR a0] h3 (fun y1 h4 => 8 ≤ (gR h3 a0 0) ∧ gK h4 (gR h3 a0 0) = 6 ∧ CI d 36 [vR (gR h3 a0 0), vI a1, vI a2, vI a3, vI a4, vI y1] h4 (fun y2 h5 => K y2 h5) X) X) ∧ (¬ y0.toInt = 0 → X 4 (gNew h3 200 6)))) X) X))))))))) X) X) : CI (d + 1) 37 [vR a0, vI a1, vI a2, vI a3, vI a4] h K X := by
  show Wp (d + 1) 37 (0, [some (vR a0), some (vI a1), some (vI a2), some (vI a3), some (vI a4)], [], h) (RI K X)
  refine wp_aload rfl rfl rfl ?_
  refine wp_iload rfl rfl rfl ?_
  obtain ⟨f0, F⟩ := F
  obtain ⟨f1, F⟩ := F
  refine wp_callV rfl rfl rfl (rcv_v f0 f1 (by decide) (by decide)) rfl rfl rfl rfl ?_
  refine CV.mono F (fun h0 F => ?_) (fun _ _ w => rx_I w)
  refine wp_aload rfl rfl rfl ?_
  refine wp_iload rfl rfl rfl ?_
  obtain ⟨f2, F⟩ := F
  refine wp_callV rfl rfl rfl (rcv_v f0 f2 (by decide) (by decide)) rfl rfl rfl rfl ?_
  refine CV.mono F (fun h1 F => ?_) (fun _ _ w => rx_I w)
  refine wp_iload rfl rfl rfl ?_
  refine wp_if_lt rfl rfl rfl rfl (fun c => ?_) (fun c => ?_)
  · replace F := F.1 c
    exact wp_thrI rfl F
  · replace F := F.2 c
    refine wp_iload rfl rfl rfl ?_
    refine wp_const rfl rfl ?_
    refine wp_icmp_gt (Y := 100000) rfl rfl rfl rfl rfl (fun c => ?_) (fun c => ?_)
    · replace F := F.1 c
      exact wp_thrI rfl F
    · replace F := F.2 c
      refine wp_iload rfl rfl rfl ?_
      refine wp_const rfl rfl ?_
      refine wp_icmp_lt (Y := (-1000000)) rfl rfl rfl rfl rfl (fun c => ?_) (fun c => ?_)
      · replace F := F.1 c
        exact wp_thrI rfl F
      · replace F := F.2 c
        refine wp_iload rfl rfl rfl ?_
        refine wp_const rfl rfl ?_
        refine wp_icmp_le (Y := 1000000) rfl rfl rfl rfl rfl (fun c => ?_) (fun c => ?_)
        · replace F := F.1 c
          exact wp_thrI rfl F
        · replace F := F.2 c
          refine wp_aload rfl rfl rfl ?_
          refine wp_iload rfl rfl rfl ?_
          obtain ⟨f3, F⟩ := F
          refine wp_callV rfl rfl rfl (rcv_v f0 f3 (by decide) (by decide)) rfl rfl rfl rfl ?_
          refine CV.mono F (fun h2 F => ?_) (fun _ _ w => rx_I w)
          refine wp_aload rfl rfl rfl ?_
          obtain ⟨f4, F⟩ := F
          refine wp_getR rfl rfl rfl f4 rfl ?_
          obtain ⟨f5, F⟩ := F
          refine wp_getR rfl rfl rfl f5 rfl ?_
          obtain ⟨f6, F⟩ := F
          obtain ⟨f7, F⟩ := F
          refine wp_callI rfl rfl rfl (rcv_v f6 f7 (by decide) (by decide)) rfl rfl rfl rfl ?_
          refine CI.mono F (fun y0 h3 F => ?_) (fun _ _ w => rx_I w)
          refine wp_if_eq rfl rfl rfl rfl (fun c => ?_) (fun c => ?_)
          · replace F := F.1 c
            refine wp_aload rfl rfl rfl ?_
            obtain ⟨f8, F⟩ := F
            refine wp_getR rfl rfl rfl f8 rfl ?_
            refine wp_iload rfl rfl rfl ?_
            refine wp_iload rfl rfl rfl ?_
            refine wp_iload rfl rfl rfl ?_
            refine wp_iload rfl rfl rfl ?_
            refine wp_aload rfl rfl rfl ?_
            refine wp_callI rfl rfl rfl (rcv_v f0 f8 (by decide) (by decide)) rfl rfl rfl rfl ?_
            refine CI.mono F (fun y1 h4 F => ?_) (fun _ _ w => rx_I w)
            obtain ⟨f9, F⟩ := F
            obtain ⟨f10, F⟩ := F
            refine wp_callI rfl rfl rfl (rcv_v f9 f10 (by decide) (by decide)) rfl rfl rfl rfl ?_
            refine CI.mono F (fun y2 h5 F => ?_) (fun _ _ w => rx_I w)
            exact wp_retI rfl (Or.inl rfl) F
          · replace F := F.2 c
            exact wp_thrI rfl F
-- CensusOfficeLaw tell (LCensusOffice;IIII[J)I
theorem m38 {d : Nat} {a0 : Nat} {a1 : Int32} {a2 : Int32} {a3 : Int32} {a4 : Int32} {a5 : Nat} {h : aH} {K : Int32 → aH → Prop} {X : Nat → aH → Prop} (F : 8 ≤ a0 ∧ gK h a0 = 1 ∧ CI d 37 [vR a0, vI a1, vI a2, vI a3, vI a4] h (fun y0 h0 => 8 ≤ a5 ∧ inB h0 101 a5 0 0 ∧ ∀ h1 : aH, h1 = pJ h0 a5 0 (y0.toInt64) → K 0 h1) (fun x9 h9 => (x9 = 3 ∧ K 1 h9) ∨ (x9 = 1 ∧ K 2 h9) ∨ (x9 = 2 ∧ K 3 h9) ∨ (x9 = 4 ∧ K 4 h9))) : CI (d + 1) 38 [vR a0, vI a1, vI a2, vI a3, vI a4, vR a5] h K X := by
  show Wp (d + 1) 38 (0, [some (vR a0), some (vI a1), some (vI a2), some (vI a3), some (vI a4), some (vR a5), none], [], h) (RI K X)
  refine wp_aload rfl rfl rfl ?_
  refine wp_const rfl rfl ?_
  refine wp_aload rfl rfl rfl ?_
  refine wp_iload rfl rfl rfl ?_
  refine wp_iload rfl rfl rfl ?_
  refine wp_iload rfl rfl rfl ?_
  refine wp_iload rfl rfl rfl ?_
  obtain ⟨f0, F⟩ := F
  obtain ⟨f1, F⟩ := F
  refine wp_callhI (X := (fun x9 h9 => (x9 = 3 ∧ K 1 h9) ∨ (x9 = 1 ∧ K 2 h9) ∨ (x9 = 2 ∧ K 3 h9) ∨ (x9 = 4 ∧ K 4 h9))) rfl rfl rfl (rcv_v f0 f1 (by decide) (by decide)) rfl rfl rfl (fun x9 h9 F => ?_) ?_
  · rcases F with ⟨rfl, F⟩ | ⟨rfl, F⟩ | ⟨rfl, F⟩ | ⟨rfl, F⟩
    · refine ⟨17, rfl, ?_⟩
      refine wp_astoreJ' (L' := [none, none, none, none, none, none, none]) (L2 := [none, none, none, none, none, none, some vJ]) rfl rfl rfl rfl rfl ?_
      refine wp_const rfl rfl ?_
      exact wp_retI rfl (Or.inl rfl) F
    · refine ⟨21, rfl, ?_⟩
      refine wp_astoreJ' (L' := [none, none, none, none, none, none, none]) (L2 := [none, none, none, none, none, none, some vJ]) rfl rfl rfl rfl rfl ?_
      refine wp_const rfl rfl ?_
      exact wp_retI rfl (Or.inl rfl) F
    · refine ⟨25, rfl, ?_⟩
      refine wp_astoreJ' (L' := [none, none, none, none, none, none, none]) (L2 := [none, none, none, none, none, none, some vJ]) rfl rfl rfl rfl rfl ?_
      refine wp_const rfl rfl ?_
      exact wp_retI rfl (Or.inl rfl) F
    · refine ⟨29, rfl, ?_⟩
      refine wp_astoreJ' (L' := [none, none, none, none, none, none, none]) (L2 := [none, none, none, none, none, none, some vJ]) rfl rfl rfl rfl rfl ?_
      refine wp_const rfl rfl ?_
      exact wp_retI rfl (Or.inl rfl) F
  · refine CI.mono F (fun y0 h0 F => ?_) (fun _ _ w => w)
    refine wp_i2l rfl rfl ?_
    obtain ⟨f2, F⟩ := F
    obtain ⟨b9, F⟩ := F
    refine wp_lastore rfl f2 b9 rfl ?_
    replace F := F _ rfl
    generalize pJ h0 a5 0 (y0.toInt64) = h1 at F ⊢
    refine wp_goto rfl rfl ?_
    refine wp_const' (L' := [none, none, none, none, none, none, none]) rfl rfl rfl ?_
    exact wp_retI rfl (Or.inl rfl) F
-- CensusOfficeModel isUnit (I)Z
theorem m39 {d : Nat} {a0 : Nat} {a1 : Int32} {h : aH} {K : Int32 → aH → Prop} {X : Nat → aH → Prop} (F : gK h a0 = 14 ∧ CI d 14 [vL (a1.toInt64), vL 0, vL (((gI h a0 2) - 1).toInt64)] h (fun y0 h0 => y0 &&& 1 = y0 ∧ K y0 h0) X) : CI (d + 1) 39 [vR a0, vI a1] h K X := by
  show Wp (d + 1) 39 (0, [some (vR a0), some (vI a1)], [], h) (RI K X)
  refine wp_iload rfl rfl rfl ?_
  refine wp_i2l rfl rfl ?_
  refine wp_const rfl rfl ?_
  refine wp_aload rfl rfl rfl ?_
  obtain ⟨f0, F⟩ := F
  refine wp_getI rfl rfl rfl f0 rfl ?_
  refine wp_const rfl rfl ?_
  refine wp_isub rfl rfl ?_
  refine wp_i2l rfl rfl ?_
  refine wp_callI rfl rfl rfl rfl rfl rfl rfl rfl ?_
  refine CI.mono F (fun y0 h0 F => ?_) (fun _ _ w => rx_I w)
  exact wp_retI rfl (Or.inr F.1) F.2
-- CensusOfficeModel today ()I
theorem m40 {d : Nat} {a0 : Nat} {h : aH} {K : Int32 → aH → Prop} {X : Nat → aH → Prop} (F : gK h a0 = 14 ∧ K ((gI h a0 1) / 1440) h) : CI d 40 [vR a0] h K X := by
  show Wp d 40 (0, [some (vR a0)], [], h) (RI K X)
  refine wp_aload rfl rfl rfl ?_
  obtain ⟨f0, F⟩ := F
  refine wp_getI rfl rfl rfl f0 rfl ?_
  refine wp_const rfl rfl ?_
  refine wp_idiv rfl (by decide) rfl ?_
  exact wp_retI rfl (Or.inl rfl) F
-- CensusOfficeModel tell (IIII)I
theorem m41 {d : Nat} {a0 : Nat} {a1 : Int32} {a2 : Int32} {a3 : Int32} {a4 : Int32} {h : aH} {K : Int32 → aH → Prop} {X : Nat → aH → Prop} (F : 8 ≤ a0 ∧ gK h a0 = 14 ∧ ∀ h0 : aH, h0 = pI h a0 0 0 → CI d 39 [vR a0, vI a1] h0 (fun y0 h1 => ((y0.toInt = 0 → gK h1 a0 = 14 ∧ CI d 15 [vR a0, vI 1] h1 (fun y1 h2 => K y1 h2) X) ∧ (¬ y0.toInt = 0 → CI d 14 [vL (a2.toInt64), vL 0, vL 5] h1 (fun y2 h3 => ((y2.toInt = 0 → gK h3 a0 = 14 ∧ CI d 15 [vR a0, vI 1] h3 (fun y3 h4 => K y3 h4) X) ∧ (¬ y2.toInt = 0 → CI d 14 [vL (a3.toInt64), vL 0, vL 100000] h3 (fun y4 h5 => ((y4.toInt = 0 → gK h5 a0 = 14 ∧ CI d 15 [vR a0, vI 2] h5 (fun y5 h6 => K y5 h6) X) ∧ (¬ y4.toInt = 0 → CI d 14 [vL (a4.toInt64), vL (-1000000), vL 1000000] h5 (fun y6 h7 => ((y6.toInt = 0 → gK h7 a0 = 14 ∧ CI d 15 [vR a0, vI 2] h7 (fun y7 h8 => K y7 h8) X) ∧ (¬ y6.toInt = 0 → gK h7 a0 = 14 ∧ ∃ i0 : Nat, inB h7 100 (gR h7 a0 3) a1 i0 ∧ (((gI h7 (gR h7 a0 3) i0).toInt = (-1) → (((gI h7 a0 6).toInt = 1500 → CI d 15 [vR a0, vI 4] h7 (fun y8 h9 => K y8 h9) X) ∧ (¬ (gI h7 a0 6).toInt = 1500 → 8 ≤ (gR h7 a0 7) ∧ ∃ i1 : Nat, inB h7 100 (gR h7 a0 7) (gI h7 a0 6) i1 ∧ ∀ h10 : aH, h10 = pI h7 (gR h7 a0 7) i1 a1 → 8 ≤ (gR h10 a0 8) ∧ ∃ i2 : Nat, inB h10 100 (gR h10 a0 8) (gI h10 a0 6) i2 ∧ ∀ h11 : aH, h11 = pI h10 (gR h10 a0 8) i2 a2 → 8 ≤ (gR h11 a0 9) ∧ ∃ i3 : Nat, inB h11 100 (gR h11 a0 9) (gI h11 a0 6) i3 ∧ ∀ h12 : aH, h12 = pI h11 (gR h11 a0 9) i3 a3 → 8 ≤ (gR h12 a0 10) ∧ ∃ i4 : Nat, inB h12 100 (gR h12 a0 10) (gI h12 a0 6) i4 ∧ ∀ h13 : aH, h13 = pI h12 (gR h12 a0 10) i4 a4 → CI d 40 [vR a0] h13 (fun y9 h14 => 8 ≤ (gR h13 a0 11) ∧ ∃ i5 : Nat, inB h14 100 (gR h13 a0 11) (gI h13 a0 6) i5 ∧ ∀ h15 : aH, h15 = pI h14 (gR h13 a0 11) i5 y9 → gK h15 a0 = 14 ∧ ∀ h16 : aH, h16 = pI h15 a0 6 ((gI h15 a0 6) + 1) → K (gI h16 a0 6) h16) X))) ∧ (¬ (gI h7 (gR h7 a0 3) i0).toInt = (-1) → CI d 15 [vR a0, vI 3] h7 (fun y10 h17 => K y10 h17) X))))) X))) X))) X))) X) : CI (d + 1) 41 [vR a0, vI a1, vI a2, vI a3, vI a4] h K X := by
  show Wp (d + 1) 41 (0, [some (vR a0), some (vI a1), some (vI a2), some (vI a3), some (vI a4)], [], h) (RI K X)
  refine wp_aload rfl rfl rfl ?_
  refine wp_const rfl rfl ?_
  obtain ⟨f0, F⟩ := F
  obtain ⟨f1, F⟩ := F
  refine wp_putI rfl rfl rfl f0 f1 rfl ?_
  have f2 : gK (pI h a0 0 0) a0 = 14 := (gK_pI _ _ _ _ _).trans f1
  replace F := F _ rfl
  generalize pI h a0 0 0 = h0 at F f2 ⊢
  refine wp_aload rfl rfl rfl ?_
  refine wp_iload rfl rfl rfl ?_
  refine wp_callI rfl rfl rfl (rcv_v f0 f2 (by decide) (by decide)) rfl rfl rfl rfl ?_
  refine CI.mono F (fun y0 h1 F => ?_) (fun _ _ w => rx_I w)
  refine wp_if_eq rfl rfl rfl rfl (fun c => ?_) (fun c => ?_)
  · replace F := F.1 c
    refine wp_aload' (L' := [some (vR a0), none, none, none, none]) rfl rfl rfl rfl ?_
    refine wp_const rfl rfl ?_
    obtain ⟨f3, F⟩ := F
    refine wp_callI rfl rfl rfl (rcv_v f0 f3 (by decide) (by decide)) rfl rfl rfl rfl ?_
    refine CI.mono F (fun y1 h2 F => ?_) (fun _ _ w => rx_I w)
    exact wp_retI rfl (Or.inl rfl) F
  · replace F := F.2 c
    refine wp_iload rfl rfl rfl ?_
    refine wp_i2l rfl rfl ?_
    refine wp_const rfl rfl ?_
    refine wp_const rfl rfl ?_
    refine wp_callI rfl rfl rfl rfl rfl rfl rfl rfl ?_
    refine CI.mono F (fun y2 h3 F => ?_) (fun _ _ w => rx_I w)
    refine wp_if_ne rfl rfl rfl rfl (fun c => ?_) (fun c => ?_)
    · replace F := F.1 c
      refine wp_aload' (L' := [some (vR a0), none, none, none, none]) rfl rfl rfl rfl ?_
      refine wp_const rfl rfl ?_
      obtain ⟨f4, F⟩ := F
      refine wp_callI rfl rfl rfl (rcv_v f0 f4 (by decide) (by decide)) rfl rfl rfl rfl ?_
      refine CI.mono F (fun y3 h4 F => ?_) (fun _ _ w => rx_I w)
      exact wp_retI rfl (Or.inl rfl) F
    · replace F := F.2 c
      refine wp_iload rfl rfl rfl ?_
      refine wp_i2l rfl rfl ?_
      refine wp_const rfl rfl ?_
      refine wp_const rfl rfl ?_
      refine wp_callI rfl rfl rfl rfl rfl rfl rfl rfl ?_
      refine CI.mono F (fun y4 h5 F => ?_) (fun _ _ w => rx_I w)
      refine wp_if_eq rfl rfl rfl rfl (fun c => ?_) (fun c => ?_)
      · replace F := F.1 c
        refine wp_aload' (L' := [some (vR a0), none, none, none, none]) rfl rfl rfl rfl ?_
        refine wp_const rfl rfl ?_
        obtain ⟨f5, F⟩ := F
        refine wp_callI rfl rfl rfl (rcv_v f0 f5 (by decide) (by decide)) rfl rfl rfl rfl ?_
        refine CI.mono F (fun y5 h6 F => ?_) (fun _ _ w => rx_I w)
        exact wp_retI rfl (Or.inl rfl) F
      · replace F := F.2 c
        refine wp_iload rfl rfl rfl ?_
        refine wp_i2l rfl rfl ?_
        refine wp_const rfl rfl ?_
        refine wp_const rfl rfl ?_
        refine wp_callI rfl rfl rfl rfl rfl rfl rfl rfl ?_
        refine CI.mono F (fun y6 h7 F => ?_) (fun _ _ w => rx_I w)
        refine wp_if_ne rfl rfl rfl rfl (fun c => ?_) (fun c => ?_)
        · replace F := F.1 c
          refine wp_aload' (L' := [some (vR a0), none, none, none, none]) rfl rfl rfl rfl ?_
          refine wp_const rfl rfl ?_
          obtain ⟨f6, F⟩ := F
          refine wp_callI rfl rfl rfl (rcv_v f0 f6 (by decide) (by decide)) rfl rfl rfl rfl ?_
          refine CI.mono F (fun y7 h8 F => ?_) (fun _ _ w => rx_I w)
          exact wp_retI rfl (Or.inl rfl) F
        · replace F := F.2 c
          refine wp_aload rfl rfl rfl ?_
          obtain ⟨f7, F⟩ := F
          refine wp_getR rfl rfl rfl f7 rfl ?_
          refine wp_iload rfl rfl rfl ?_
          obtain ⟨i0, b9, F⟩ := F
          refine wp_iaload rfl b9 rfl ?_
          refine wp_const rfl rfl ?_
          refine wp_icmp_eq (Y := (-1)) rfl rfl rfl rfl rfl (fun c => ?_) (fun c => ?_)
          · replace F := F.1 c
            refine wp_aload rfl rfl rfl ?_
            refine wp_getI rfl rfl rfl f7 rfl ?_
            refine wp_const rfl rfl ?_
            refine wp_icmp_ne (Y := 1500) rfl rfl rfl rfl rfl (fun c => ?_) (fun c => ?_)
            · replace F := F.1 c
              refine wp_aload rfl rfl rfl ?_
              refine wp_const rfl rfl ?_
              refine wp_callI rfl rfl rfl (rcv_v f0 f7 (by decide) (by decide)) rfl rfl rfl rfl ?_
              refine CI.mono F (fun y8 h9 F => ?_) (fun _ _ w => rx_I w)
              exact wp_retI rfl (Or.inl rfl) F
            · replace F := F.2 c
              refine wp_aload rfl rfl rfl ?_
              refine wp_getR rfl rfl rfl f7 rfl ?_
              refine wp_aload rfl rfl rfl ?_
              refine wp_getI rfl rfl rfl f7 rfl ?_
              refine wp_iload rfl rfl rfl ?_
              obtain ⟨f8, F⟩ := F
              obtain ⟨i1, b9, F⟩ := F
              refine wp_iastore rfl f8 b9 rfl ?_
              have f9 : gK (pI h7 (gR h7 a0 7) i1 a1) a0 = 14 := (gK_pI _ _ _ _ _).trans f7
              replace F := F _ rfl
              generalize pI h7 (gR h7 a0 7) i1 a1 = h10 at F f9 ⊢
              refine wp_aload rfl rfl rfl ?_
              refine wp_getR rfl rfl rfl f9 rfl ?_
              refine wp_aload rfl rfl rfl ?_
              refine wp_getI rfl rfl rfl f9 rfl ?_
              refine wp_iload rfl rfl rfl ?_
              obtain ⟨f10, F⟩ := F
              obtain ⟨i2, b9, F⟩ := F
              refine wp_iastore rfl f10 b9 rfl ?_
              have f11 : gK (pI h10 (gR h10 a0 8) i2 a2) a0 = 14 := (gK_pI _ _ _ _ _).trans f9
              replace F := F _ rfl
              generalize pI h10 (gR h10 a0 8) i2 a2 = h11 at F f11 ⊢
              refine wp_aload rfl rfl rfl ?_
              refine wp_getR rfl rfl rfl f11 rfl ?_
              refine wp_aload rfl rfl rfl ?_
              refine wp_getI rfl rfl rfl f11 rfl ?_
              refine wp_iload rfl rfl rfl ?_
              obtain ⟨f12, F⟩ := F
              obtain ⟨i3, b9, F⟩ := F
              refine wp_iastore rfl f12 b9 rfl ?_
              have f13 : gK (pI h11 (gR h11 a0 9) i3 a3) a0 = 14 := (gK_pI _ _ _ _ _).trans f11
              replace F := F _ rfl
              generalize pI h11 (gR h11 a0 9) i3 a3 = h12 at F f13 ⊢
              refine wp_aload rfl rfl rfl ?_
              refine wp_getR rfl rfl rfl f13 rfl ?_
              refine wp_aload rfl rfl rfl ?_
              refine wp_getI rfl rfl rfl f13 rfl ?_
              refine wp_iload rfl rfl rfl ?_
              obtain ⟨f14, F⟩ := F
              obtain ⟨i4, b9, F⟩ := F
              refine wp_iastore rfl f14 b9 rfl ?_
              have f15 : gK (pI h12 (gR h12 a0 10) i4 a4) a0 = 14 := (gK_pI _ _ _ _ _).trans f13
              replace F := F _ rfl
              generalize pI h12 (gR h12 a0 10) i4 a4 = h13 at F f15 ⊢
              refine wp_aload rfl rfl rfl ?_
              refine wp_getR rfl rfl rfl f15 rfl ?_
              refine wp_aload rfl rfl rfl ?_
              refine wp_getI rfl rfl rfl f15 rfl ?_
              refine wp_aload rfl rfl rfl ?_
              refine wp_callI rfl rfl rfl (rcv_v f0 f15 (by decide) (by decide)) rfl rfl rfl rfl ?_
              refine CI.mono F (fun y9 h14 F => ?_) (fun _ _ w => rx_I w)
              obtain ⟨f16, F⟩ := F
              obtain ⟨i5, b9, F⟩ := F
              refine wp_iastore rfl f16 b9 rfl ?_
              replace F := F _ rfl
              generalize pI h14 (gR h13 a0 11) i5 y9 = h15 at F ⊢
              refine wp_aload rfl rfl rfl ?_
              refine wp_dup rfl rfl rfl ?_
              obtain ⟨f17, F⟩ := F
              refine wp_getI rfl rfl rfl f17 rfl ?_
              refine wp_const rfl rfl ?_
              refine wp_iadd rfl rfl ?_
              refine wp_putI rfl rfl rfl f0 f17 rfl ?_
              have f18 : gK (pI h15 a0 6 ((gI h15 a0 6) + 1)) a0 = 14 := (gK_pI _ _ _ _ _).trans f17
              replace F := F _ rfl
              generalize pI h15 a0 6 ((gI h15 a0 6) + 1) = h16 at F f18 ⊢
              refine wp_aload rfl rfl rfl ?_
              refine wp_getI rfl rfl rfl f18 rfl ?_
              exact wp_retI rfl (Or.inl rfl) F
          · replace F := F.2 c
            refine wp_aload rfl rfl rfl ?_
            refine wp_const rfl rfl ?_
            refine wp_callI rfl rfl rfl (rcv_v f0 f7 (by decide) (by decide)) rfl rfl rfl rfl ?_
            refine CI.mono F (fun y10 h17 F => ?_) (fun _ _ w => rx_I w)
            exact wp_retI rfl (Or.inl rfl) F
-- CensusOffice$Register lastKnown (II)I
theorem m42 {d : Nat} {a0 : Nat} {a1 : Int32} {a2 : Int32} {h : aH} {K : Int32 → aH → Prop} {X : Nat → aH → Prop} (F : Wp (d + 1) 42 (5, [some (vR a0), none, some (vI a2), some (vI a1), some (vI 0), none], [], h) (RI K X)) : CI (d + 1) 42 [vR a0, vI a1, vI a2] h K X := by
  show Wp (d + 1) 42 (0, [some (vR a0), some (vI a1), some (vI a2), none, none, none], [], h) (RI K X)
  refine wp_iload rfl rfl rfl ?_
  refine wp_istore (L2 := [some (vR a0), some (vI a1), some (vI a2), some (vI a1), none, none]) rfl rfl rfl rfl ?_
  refine wp_const rfl rfl ?_
  refine wp_istore (L2 := [some (vR a0), some (vI a1), some (vI a2), some (vI a1), some (vI 0), none]) rfl rfl rfl rfl ?_
  refine wp_kill (L' := [some (vR a0), none, some (vI a2), some (vI a1), some (vI 0), none]) rfl rfl ?_
  exact F
theorem w42_5 {d : Nat} {l0 : Nat} {l2 : Int32} {l3 : Int32} {l4 : Int32} {h : aH} {K : Int32 → aH → Prop} {X : Nat → aH → Prop} (F : ((l4.toInt < 100 → gK h l0 = 6 ∧ 8 ≤ (gR h l0 0) ∧ gK h (gR h l0 0) = 8 ∧ CI d 32 [vR (gR h l0 0), vI l3, vI 0] h (fun y0 h0 => ((y0.toInt < 0 → K l3 h0) ∧ (¬ y0.toInt < 0 → gK h0 l0 = 6 ∧ 8 ≤ (gR h0 l0 0) ∧ gK h0 (gR h0 l0 0) = 8 ∧ CI d 32 [vR (gR h0 l0 0), vI l3, vI 1] h0 (fun y1 h1 => ((l2.toInt < y1.toInt → K l3 h1) ∧ (¬ l2.toInt < y1.toInt → ∀ v0 : Int32, v0 = l4 + 1 → Wp (d + 1) 42 (5, [some (vR l0), none, some (vI l2), some (vI y0), some (vI v0), none], [], h1) (RI K X)))) X))) X) ∧ (¬ l4.toInt < 100 → K l3 h))) : Wp (d + 1) 42 (5, [some (vR l0), none, some (vI l2), some (vI l3), some (vI l4), none], [], h) (RI K X) := by
  refine wp_iload' (L' := [some (vR l0), none, some (vI l2), some (vI l3), some (vI l4), none]) rfl rfl rfl rfl ?_
  refine wp_const rfl rfl ?_
  refine wp_icmp_ge (Y := 100) rfl rfl rfl rfl rfl (fun c => ?_) (fun c => ?_)
  · replace F := F.1 c
    refine wp_aload rfl rfl rfl ?_
    obtain ⟨f0, F⟩ := F
    refine wp_getR rfl rfl rfl f0 rfl ?_
    refine wp_iload rfl rfl rfl ?_
    refine wp_const rfl rfl ?_
    obtain ⟨f1, F⟩ := F
    obtain ⟨f2, F⟩ := F
    refine wp_callI rfl rfl rfl (rcv_v f1 f2 (by decide) (by decide)) rfl rfl rfl rfl ?_
    refine CI.mono F (fun y0 h0 F => ?_) (fun _ _ w => rx_I w)
    refine wp_istore (L2 := [some (vR l0), none, some (vI l2), some (vI l3), some (vI l4), some (vI y0)]) rfl rfl rfl rfl ?_
    refine wp_iload rfl rfl rfl ?_
    refine wp_if_lt rfl rfl rfl rfl (fun c => ?_) (fun c => ?_)
    · replace F := F.1 c
      refine wp_iload' (L' := [none, none, none, some (vI l3), none, none]) rfl rfl rfl rfl ?_
      exact wp_retI rfl (Or.inl rfl) F
    · replace F := F.2 c
      refine wp_aload rfl rfl rfl ?_
      obtain ⟨f3, F⟩ := F
      refine wp_getR rfl rfl rfl f3 rfl ?_
      refine wp_iload rfl rfl rfl ?_
      refine wp_const rfl rfl ?_
      obtain ⟨f4, F⟩ := F
      obtain ⟨f5, F⟩ := F
      refine wp_callI rfl rfl rfl (rcv_v f4 f5 (by decide) (by decide)) rfl rfl rfl rfl ?_
      refine CI.mono F (fun y1 h1 F => ?_) (fun _ _ w => rx_I w)
      refine wp_iload rfl rfl rfl ?_
      refine wp_icmp_le rfl rfl rfl rfl rfl (fun c => ?_) (fun c => ?_)
      · replace F := F.1 c
        refine wp_iload' (L' := [none, none, none, some (vI l3), none, none]) rfl rfl rfl rfl ?_
        exact wp_retI rfl (Or.inl rfl) F
      · replace F := F.2 c
        refine wp_iload' (L' := [some (vR l0), none, some (vI l2), none, some (vI l4), some (vI y0)]) rfl rfl rfl rfl ?_
        refine wp_istore (L2 := [some (vR l0), none, some (vI l2), some (vI y0), some (vI l4), some (vI y0)]) rfl rfl rfl rfl ?_
        refine wp_iinc (y := 1) (L2 := [some (vR l0), none, some (vI l2), some (vI y0), some (vI (l4 + 1)), some (vI y0)]) rfl rfl rfl rfl rfl ?_
        replace F := F _ rfl
        generalize (l4 + 1 : Int32) = v0 at F ⊢
        refine wp_goto rfl rfl ?_
        refine wp_kill (L' := [some (vR l0), none, some (vI l2), some (vI y0), some (vI v0), none]) rfl rfl ?_
        exact F
  · replace F := F.2 c
    refine wp_iload' (L' := [none, none, none, some (vI l3), none, none]) rfl rfl rfl rfl ?_
    exact wp_retI rfl (Or.inl rfl) F
-- CensusOffice$Register addMerge (III)V
theorem m43 {d : Nat} {a0 : Nat} {a1 : Int32} {a2 : Int32} {a3 : Int32} {h : aH} {K : aH → Prop} {X : Nat → aH → Prop} (F : gK h a0 = 6 ∧ 8 ≤ (gR h a0 0) ∧ gK h (gR h a0 0) = 8 ∧ CV d 23 [vR (gR h a0 0), vI a1, vI 0, vI a2] h (fun h0 => gK h0 a0 = 6 ∧ 8 ≤ (gR h0 a0 0) ∧ gK h0 (gR h0 a0 0) = 8 ∧ CV d 23 [vR (gR h0 a0 0), vI a1, vI 1, vI a3] h0 (fun h1 => gK h1 a0 = 6 ∧ 8 ≤ a0 ∧ ∀ h2 : aH, h2 = pI h1 a0 5 ((gI h1 a0 5) + 1) → K h2) X) X) : CV (d + 1) 43 [vR a0, vI a1, vI a2, vI a3] h K X := by
  show Wp (d + 1) 43 (0, [some (vR a0), some (vI a1), some (vI a2), some (vI a3)], [], h) (RV K X)
  refine wp_aload rfl rfl rfl ?_
  obtain ⟨f0, F⟩ := F
  refine wp_getR rfl rfl rfl f0 rfl ?_
  refine wp_iload rfl rfl rfl ?_
  refine wp_const rfl rfl ?_
  refine wp_iload rfl rfl rfl ?_
  obtain ⟨f1, F⟩ := F
  obtain ⟨f2, F⟩ := F
  refine wp_callV rfl rfl rfl (rcv_v f1 f2 (by decide) (by decide)) rfl rfl rfl rfl ?_
  refine CV.mono F (fun h0 F => ?_) (fun _ _ w => rx_V w)
  refine wp_aload rfl rfl rfl ?_
  obtain ⟨f3, F⟩ := F
  refine wp_getR rfl rfl rfl f3 rfl ?_
  refine wp_iload rfl rfl rfl ?_
  refine wp_const rfl rfl ?_
  refine wp_iload rfl rfl rfl ?_
  obtain ⟨f4, F⟩ := F
  obtain ⟨f5, F⟩ := F
  refine wp_callV rfl rfl rfl (rcv_v f4 f5 (by decide) (by decide)) rfl rfl rfl rfl ?_
  refine CV.mono F (fun h1 F => ?_) (fun _ _ w => rx_V w)
  refine wp_aload rfl rfl rfl ?_
  refine wp_dup rfl rfl rfl ?_
  obtain ⟨f6, F⟩ := F
  refine wp_getI rfl rfl rfl f6 rfl ?_
  refine wp_const rfl rfl ?_
  refine wp_iadd rfl rfl ?_
  obtain ⟨f7, F⟩ := F
  refine wp_putI rfl rfl rfl f7 f6 rfl ?_
  have f8 : gK (pI h1 a0 5 ((gI h1 a0 5) + 1)) a0 = 6 := (gK_pI _ _ _ _ _).trans f6
  replace F := F _ rfl
  generalize pI h1 a0 5 ((gI h1 a0 5) + 1) = h2 at F f8 ⊢
  exact wp_retV rfl F
-- CensusOffice merge (II)I
theorem m44 {d : Nat} {a0 : Nat} {a1 : Int32} {a2 : Int32} {h : aH} {K : Int32 → aH → Prop} {X : Nat → aH → Prop} (F : 8 ≤ a0 ∧ gK h a0 = 1 ∧ CV d 30 [vR a0, vI a1] h (fun h0 => gK h0 a0 = 1 ∧ CV d 30 [vR a0, vI a2] h0 (fun h1 => gK h1 a0 = 1 ∧ CV d 34 [vR a0, vI a1] h1 (fun h2 => gK h2 a0 = 1 ∧ CI d 35 [vR a0] h2 (fun y0 h3 => 8 ≤ (gR h2 a0 0) ∧ gK h3 (gR h2 a0 0) = 6 ∧ CI d 42 [vR (gR h2 a0 0), vI a2, vI y0] h3 (fun y1 h4 => ((y1.toInt = a1.toInt → X 2 (gNew h4 200 6)) ∧ (¬ y1.toInt = a1.toInt → gK h4 a0 = 1 ∧ CI d 35 [vR a0] h4 (fun y2 h5 => 8 ≤ (gR h4 a0 0) ∧ gK h5 (gR h4 a0 0) = 6 ∧ CV d 43 [vR (gR h4 a0 0), vI a1, vI a2, vI y2] h5 (fun h6 => K y1 h6) X) X))) X) X) X) X) X) : CI (d + 1) 44 [vR a0, vI a1, vI a2] h K X := by
  show Wp (d + 1) 44 (0, [some (vR a0), some (vI a1), some (vI a2), none], [], h) (RI K X)
  refine wp_aload rfl rfl rfl ?_
  refine wp_iload rfl rfl rfl ?_
  obtain ⟨f0, F⟩ := F
  obtain ⟨f1, F⟩ := F
  refine wp_callV rfl rfl rfl (rcv_v f0 f1 (by decide) (by decide)) rfl rfl rfl rfl ?_
  refine CV.mono F (fun h0 F => ?_) (fun _ _ w => rx_I w)
  refine wp_aload rfl rfl rfl ?_
  refine wp_iload rfl rfl rfl ?_
  obtain ⟨f2, F⟩ := F
  refine wp_callV rfl rfl rfl (rcv_v f0 f2 (by decide) (by decide)) rfl rfl rfl rfl ?_
  refine CV.mono F (fun h1 F => ?_) (fun _ _ w => rx_I w)
  refine wp_aload rfl rfl rfl ?_
  refine wp_iload rfl rfl rfl ?_
  obtain ⟨f3, F⟩ := F
  refine wp_callV rfl rfl rfl (rcv_v f0 f3 (by decide) (by decide)) rfl rfl rfl rfl ?_
  refine CV.mono F (fun h2 F => ?_) (fun _ _ w => rx_I w)
  refine wp_aload rfl rfl rfl ?_
  obtain ⟨f4, F⟩ := F
  refine wp_getR rfl rfl rfl f4 rfl ?_
  refine wp_iload rfl rfl rfl ?_
  refine wp_aload rfl rfl rfl ?_
  refine wp_callI rfl rfl rfl (rcv_v f0 f4 (by decide) (by decide)) rfl rfl rfl rfl ?_
  refine CI.mono F (fun y0 h3 F => ?_) (fun _ _ w => rx_I w)
  obtain ⟨f5, F⟩ := F
  obtain ⟨f6, F⟩ := F
  refine wp_callI rfl rfl rfl (rcv_v f5 f6 (by decide) (by decide)) rfl rfl rfl rfl ?_
  refine CI.mono F (fun y1 h4 F => ?_) (fun _ _ w => rx_I w)
  refine wp_istore (L2 := [some (vR a0), some (vI a1), some (vI a2), some (vI y1)]) rfl rfl rfl rfl ?_
  refine wp_iload rfl rfl rfl ?_
  refine wp_iload rfl rfl rfl ?_
  refine wp_icmp_ne rfl rfl rfl rfl rfl (fun c => ?_) (fun c => ?_)
  · replace F := F.1 c
    exact wp_thrI rfl F
  · replace F := F.2 c
    refine wp_aload rfl rfl rfl ?_
    obtain ⟨f7, F⟩ := F
    refine wp_getR rfl rfl rfl f7 rfl ?_
    refine wp_iload rfl rfl rfl ?_
    refine wp_iload rfl rfl rfl ?_
    refine wp_aload rfl rfl rfl ?_
    refine wp_callI rfl rfl rfl (rcv_v f0 f7 (by decide) (by decide)) rfl rfl rfl rfl ?_
    refine CI.mono F (fun y2 h5 F => ?_) (fun _ _ w => rx_I w)
    obtain ⟨f8, F⟩ := F
    obtain ⟨f9, F⟩ := F
    refine wp_callV rfl rfl rfl (rcv_v f8 f9 (by decide) (by decide)) rfl rfl rfl rfl ?_
    refine CV.mono F (fun h6 F => ?_) (fun _ _ w => rx_I w)
    refine wp_iload rfl rfl rfl ?_
    exact wp_retI rfl (Or.inl rfl) F
-- CensusOfficeLaw merge (LCensusOffice;II[J)I
theorem m45 {d : Nat} {a0 : Nat} {a1 : Int32} {a2 : Int32} {a3 : Nat} {h : aH} {K : Int32 → aH → Prop} {X : Nat → aH → Prop} (F : 8 ≤ a0 ∧ gK h a0 = 1 ∧ CI d 44 [vR a0, vI a1, vI a2] h (fun y0 h0 => 8 ≤ a3 ∧ inB h0 101 a3 0 0 ∧ ∀ h1 : aH, h1 = pJ h0 a3 0 (y0.toInt64) → K 0 h1) (fun x9 h9 => (x9 = 3 ∧ K 1 h9) ∨ (x9 = 2 ∧ K 2 h9))) : CI (d + 1) 45 [vR a0, vI a1, vI a2, vR a3] h K X := by
  show Wp (d + 1) 45 (0, [some (vR a0), some (vI a1), some (vI a2), some (vR a3), none], [], h) (RI K X)
  refine wp_aload rfl rfl rfl ?_
  refine wp_const rfl rfl ?_
  refine wp_aload rfl rfl rfl ?_
  refine wp_iload rfl rfl rfl ?_
  refine wp_iload rfl rfl rfl ?_
  obtain ⟨f0, F⟩ := F
  obtain ⟨f1, F⟩ := F
  refine wp_callhI (X := (fun x9 h9 => (x9 = 3 ∧ K 1 h9) ∨ (x9 = 2 ∧ K 2 h9))) rfl rfl rfl (rcv_v f0 f1 (by decide) (by decide)) rfl rfl rfl (fun x9 h9 F => ?_) ?_
  · rcases F with ⟨rfl, F⟩ | ⟨rfl, F⟩
    · refine ⟨13, rfl, ?_⟩
      refine wp_astoreJ' (L' := [none, none, none, none, none]) (L2 := [none, none, none, none, some vJ]) rfl rfl rfl rfl rfl ?_
      refine wp_const rfl rfl ?_
      exact wp_retI rfl (Or.inl rfl) F
    · refine ⟨17, rfl, ?_⟩
      refine wp_astoreJ' (L' := [none, none, none, none, none]) (L2 := [none, none, none, none, some vJ]) rfl rfl rfl rfl rfl ?_
      refine wp_const rfl rfl ?_
      exact wp_retI rfl (Or.inl rfl) F
  · refine CI.mono F (fun y0 h0 F => ?_) (fun _ _ w => w)
    refine wp_i2l rfl rfl ?_
    obtain ⟨f2, F⟩ := F
    obtain ⟨b9, F⟩ := F
    refine wp_lastore rfl f2 b9 rfl ?_
    replace F := F _ rfl
    generalize pJ h0 a3 0 (y0.toInt64) = h1 at F ⊢
    refine wp_goto rfl rfl ?_
    refine wp_const' (L' := [none, none, none, none, none]) rfl rfl rfl ?_
    exact wp_retI rfl (Or.inl rfl) F
-- CensusOfficeModel lastAs (II)I
theorem m46 {d : Nat} {a0 : Nat} {a1 : Int32} {a2 : Int32} {h : aH} {K : Int32 → aH → Prop} {X : Nat → aH → Prop} (F : Wp d 46 (2, [some (vR a0), none, some (vI a2), some (vI a1)], [], h) (RI K X)) : CI d 46 [vR a0, vI a1, vI a2] h K X := by
  show Wp d 46 (0, [some (vR a0), some (vI a1), some (vI a2), none], [], h) (RI K X)
  refine wp_iload rfl rfl rfl ?_
  refine wp_istore (L2 := [some (vR a0), some (vI a1), some (vI a2), some (vI a1)]) rfl rfl rfl rfl ?_
  refine wp_kill (L' := [some (vR a0), none, some (vI a2), some (vI a1)]) rfl rfl ?_
  exact F
theorem w46_2 {d : Nat} {l0 : Nat} {l2 : Int32} {l3 : Int32} {h : aH} {K : Int32 → aH → Prop} {X : Nat → aH → Prop} (F : gK h l0 = 14 ∧ ∃ i0 : Nat, inB h 100 (gR h l0 3) l3 i0 ∧ (((gI h (gR h l0 3) i0).toInt = (-1) → K l3 h) ∧ (¬ (gI h (gR h l0 3) i0).toInt = (-1) → ∃ i1 : Nat, inB h 100 (gR h l0 4) l3 i1 ∧ ((l2.toInt < (gI h (gR h l0 4) i1).toInt → K l3 h) ∧ (¬ l2.toInt < (gI h (gR h l0 4) i1).toInt → ∃ i2 : Nat, inB h 100 (gR h l0 3) l3 i2 ∧ ∀ v0 : Int32, v0 = gI h (gR h l0 3) i2 → Wp d 46 (2, [some (vR l0), none, some (vI l2), some (vI v0)], [], h) (RI K X)))))) : Wp d 46 (2, [some (vR l0), none, some (vI l2), some (vI l3)], [], h) (RI K X) := by
  refine wp_aload' (L' := [some (vR l0), none, some (vI l2), some (vI l3)]) rfl rfl rfl rfl ?_
  obtain ⟨f0, F⟩ := F
  refine wp_getR rfl rfl rfl f0 rfl ?_
  refine wp_iload rfl rfl rfl ?_
  obtain ⟨i0, b9, F⟩ := F
  refine wp_iaload rfl b9 rfl ?_
  refine wp_const rfl rfl ?_
  refine wp_icmp_eq (Y := (-1)) rfl rfl rfl rfl rfl (fun c => ?_) (fun c => ?_)
  · replace F := F.1 c
    refine wp_iload' (L' := [none, none, none, some (vI l3)]) rfl rfl rfl rfl ?_
    exact wp_retI rfl (Or.inl rfl) F
  · replace F := F.2 c
    refine wp_aload rfl rfl rfl ?_
    refine wp_getR rfl rfl rfl f0 rfl ?_
    refine wp_iload rfl rfl rfl ?_
    obtain ⟨i1, b9, F⟩ := F
    refine wp_iaload rfl b9 rfl ?_
    refine wp_iload rfl rfl rfl ?_
    refine wp_icmp_gt rfl rfl rfl rfl rfl (fun c => ?_) (fun c => ?_)
    · replace F := F.1 c
      refine wp_iload' (L' := [none, none, none, some (vI l3)]) rfl rfl rfl rfl ?_
      exact wp_retI rfl (Or.inl rfl) F
    · replace F := F.2 c
      refine wp_aload rfl rfl rfl ?_
      refine wp_getR rfl rfl rfl f0 rfl ?_
      refine wp_iload rfl rfl rfl ?_
      obtain ⟨i2, b9, F⟩ := F
      refine wp_iaload rfl b9 rfl ?_
      replace F := F _ rfl
      generalize (gI h (gR h l0 3) i2 : Int32) = v0 at F ⊢
      refine wp_istore (L2 := [some (vR l0), none, some (vI l2), some (vI v0)]) rfl rfl rfl rfl ?_
      refine wp_goto rfl rfl ?_
      exact F
-- CensusOfficeModel merge (II)I
theorem m47 {d : Nat} {a0 : Nat} {a1 : Int32} {a2 : Int32} {h : aH} {K : Int32 → aH → Prop} {X : Nat → aH → Prop} (F : 8 ≤ a0 ∧ gK h a0 = 14 ∧ ∀ h0 : aH, h0 = pI h a0 0 0 → CI d 39 [vR a0, vI a1] h0 (fun y0 h1 => ((y0.toInt = 0 → gK h1 a0 = 14 ∧ CI d 15 [vR a0, vI 1] h1 (fun y1 h2 => K y1 h2) X) ∧ (¬ y0.toInt = 0 → gK h1 a0 = 14 ∧ CI d 39 [vR a0, vI a2] h1 (fun y2 h3 => ((y2.toInt = 0 → gK h3 a0 = 14 ∧ CI d 15 [vR a0, vI 1] h3 (fun y3 h4 => K y3 h4) X) ∧ (¬ y2.toInt = 0 → gK h3 a0 = 14 ∧ ∃ i0 : Nat, inB h3 100 (gR h3 a0 3) a1 i0 ∧ (((gI h3 (gR h3 a0 3) i0).toInt = (-1) → CI d 40 [vR a0] h3 (fun y4 h5 => gK h5 a0 = 14 ∧ CI d 46 [vR a0, vI a1, vI y4] h5 (fun y5 h6 => gK h6 a0 = 14 ∧ CI d 40 [vR a0] h6 (fun y6 h7 => gK h7 a0 = 14 ∧ CI d 46 [vR a0, vI a2, vI y6] h7 (fun y7 h8 => ((y5.toInt = y7.toInt → gK h8 a0 = 14 ∧ CI d 15 [vR a0, vI 2] h8 (fun y8 h9 => K y8 h9) X) ∧ (¬ y5.toInt = y7.toInt → gK h8 a0 = 14 ∧ 8 ≤ (gR h8 a0 3) ∧ ∃ i1 : Nat, inB h8 100 (gR h8 a0 3) a1 i1 ∧ ∀ h10 : aH, h10 = pI h8 (gR h8 a0 3) i1 a2 → CI d 40 [vR a0] h10 (fun y9 h11 => 8 ≤ (gR h10 a0 4) ∧ ∃ i2 : Nat, inB h11 100 (gR h10 a0 4) a1 i2 ∧ ∀ h12 : aH, h12 = pI h11 (gR h10 a0 4) i2 y9 → gK h12 a0 = 14 ∧ ∀ h13 : aH, h13 = pI h12 a0 5 ((gI h12 a0 5) + 1) → CI d 40 [vR a0] h13 (fun y10 h14 => gK h14 a0 = 14 ∧ CI d 46 [vR a0, vI a1, vI y10] h14 (fun y11 h15 => K y11 h15) X) X) X))) X) X) X) X) ∧ (¬ (gI h3 (gR h3 a0 3) i0).toInt = (-1) → CI d 15 [vR a0, vI 2] h3 (fun y12 h16 => K y12 h16) X))))) X))) X) : CI (d + 1) 47 [vR a0, vI a1, vI a2] h K X := by
  show Wp (d + 1) 47 (0, [some (vR a0), some (vI a1), some (vI a2)], [], h) (RI K X)
  refine wp_aload rfl rfl rfl ?_
  refine wp_const rfl rfl ?_
  obtain ⟨f0, F⟩ := F
  obtain ⟨f1, F⟩ := F
  refine wp_putI rfl rfl rfl f0 f1 rfl ?_
  have f2 : gK (pI h a0 0 0) a0 = 14 := (gK_pI _ _ _ _ _).trans f1
  replace F := F _ rfl
  generalize pI h a0 0 0 = h0 at F f2 ⊢
  refine wp_aload rfl rfl rfl ?_
  refine wp_iload rfl rfl rfl ?_
  refine wp_callI rfl rfl rfl (rcv_v f0 f2 (by decide) (by decide)) rfl rfl rfl rfl ?_
  refine CI.mono F (fun y0 h1 F => ?_) (fun _ _ w => rx_I w)
  refine wp_if_eq rfl rfl rfl rfl (fun c => ?_) (fun c => ?_)
  · replace F := F.1 c
    refine wp_aload' (L' := [some (vR a0), none, none]) rfl rfl rfl rfl ?_
    refine wp_const rfl rfl ?_
    obtain ⟨f3, F⟩ := F
    refine wp_callI rfl rfl rfl (rcv_v f0 f3 (by decide) (by decide)) rfl rfl rfl rfl ?_
    refine CI.mono F (fun y1 h2 F => ?_) (fun _ _ w => rx_I w)
    exact wp_retI rfl (Or.inl rfl) F
  · replace F := F.2 c
    refine wp_aload rfl rfl rfl ?_
    refine wp_iload rfl rfl rfl ?_
    obtain ⟨f4, F⟩ := F
    refine wp_callI rfl rfl rfl (rcv_v f0 f4 (by decide) (by decide)) rfl rfl rfl rfl ?_
    refine CI.mono F (fun y2 h3 F => ?_) (fun _ _ w => rx_I w)
    refine wp_if_ne rfl rfl rfl rfl (fun c => ?_) (fun c => ?_)
    · replace F := F.1 c
      refine wp_aload' (L' := [some (vR a0), none, none]) rfl rfl rfl rfl ?_
      refine wp_const rfl rfl ?_
      obtain ⟨f5, F⟩ := F
      refine wp_callI rfl rfl rfl (rcv_v f0 f5 (by decide) (by decide)) rfl rfl rfl rfl ?_
      refine CI.mono F (fun y3 h4 F => ?_) (fun _ _ w => rx_I w)
      exact wp_retI rfl (Or.inl rfl) F
    · replace F := F.2 c
      refine wp_aload rfl rfl rfl ?_
      obtain ⟨f6, F⟩ := F
      refine wp_getR rfl rfl rfl f6 rfl ?_
      refine wp_iload rfl rfl rfl ?_
      obtain ⟨i0, b9, F⟩ := F
      refine wp_iaload rfl b9 rfl ?_
      refine wp_const rfl rfl ?_
      refine wp_icmp_ne (Y := (-1)) rfl rfl rfl rfl rfl (fun c => ?_) (fun c => ?_)
      · replace F := F.1 c
        refine wp_aload rfl rfl rfl ?_
        refine wp_iload rfl rfl rfl ?_
        refine wp_aload rfl rfl rfl ?_
        refine wp_callI rfl rfl rfl (rcv_v f0 f6 (by decide) (by decide)) rfl rfl rfl rfl ?_
        refine CI.mono F (fun y4 h5 F => ?_) (fun _ _ w => rx_I w)
        obtain ⟨f7, F⟩ := F
        refine wp_callI rfl rfl rfl (rcv_v f0 f7 (by decide) (by decide)) rfl rfl rfl rfl ?_
        refine CI.mono F (fun y5 h6 F => ?_) (fun _ _ w => rx_I w)
        refine wp_aload rfl rfl rfl ?_
        refine wp_iload rfl rfl rfl ?_
        refine wp_aload rfl rfl rfl ?_
        obtain ⟨f8, F⟩ := F
        refine wp_callI rfl rfl rfl (rcv_v f0 f8 (by decide) (by decide)) rfl rfl rfl rfl ?_
        refine CI.mono F (fun y6 h7 F => ?_) (fun _ _ w => rx_I w)
        obtain ⟨f9, F⟩ := F
        refine wp_callI rfl rfl rfl (rcv_v f0 f9 (by decide) (by decide)) rfl rfl rfl rfl ?_
        refine CI.mono F (fun y7 h8 F => ?_) (fun _ _ w => rx_I w)
        refine wp_icmp_ne rfl rfl rfl rfl rfl (fun c => ?_) (fun c => ?_)
        · replace F := F.1 c
          refine wp_aload' (L' := [some (vR a0), none, none]) rfl rfl rfl rfl ?_
          refine wp_const rfl rfl ?_
          obtain ⟨f10, F⟩ := F
          refine wp_callI rfl rfl rfl (rcv_v f0 f10 (by decide) (by decide)) rfl rfl rfl rfl ?_
          refine CI.mono F (fun y8 h9 F => ?_) (fun _ _ w => rx_I w)
          exact wp_retI rfl (Or.inl rfl) F
        · replace F := F.2 c
          refine wp_aload rfl rfl rfl ?_
          obtain ⟨f11, F⟩ := F
          refine wp_getR rfl rfl rfl f11 rfl ?_
          refine wp_iload rfl rfl rfl ?_
          refine wp_iload rfl rfl rfl ?_
          obtain ⟨f12, F⟩ := F
          obtain ⟨i1, b9, F⟩ := F
          refine wp_iastore rfl f12 b9 rfl ?_
          have f13 : gK (pI h8 (gR h8 a0 3) i1 a2) a0 = 14 := (gK_pI _ _ _ _ _).trans f11
          replace F := F _ rfl
          generalize pI h8 (gR h8 a0 3) i1 a2 = h10 at F f13 ⊢
          refine wp_aload rfl rfl rfl ?_
          refine wp_getR rfl rfl rfl f13 rfl ?_
          refine wp_iload rfl rfl rfl ?_
          refine wp_aload rfl rfl rfl ?_
          refine wp_callI rfl rfl rfl (rcv_v f0 f13 (by decide) (by decide)) rfl rfl rfl rfl ?_
          refine CI.mono F (fun y9 h11 F => ?_) (fun _ _ w => rx_I w)
          obtain ⟨f14, F⟩ := F
          obtain ⟨i2, b9, F⟩ := F
          refine wp_iastore rfl f14 b9 rfl ?_
          replace F := F _ rfl
          generalize pI h11 (gR h10 a0 4) i2 y9 = h12 at F ⊢
          refine wp_aload rfl rfl rfl ?_
          refine wp_dup rfl rfl rfl ?_
          obtain ⟨f15, F⟩ := F
          refine wp_getI rfl rfl rfl f15 rfl ?_
          refine wp_const rfl rfl ?_
          refine wp_iadd rfl rfl ?_
          refine wp_putI rfl rfl rfl f0 f15 rfl ?_
          have f16 : gK (pI h12 a0 5 ((gI h12 a0 5) + 1)) a0 = 14 := (gK_pI _ _ _ _ _).trans f15
          replace F := F _ rfl
          generalize pI h12 a0 5 ((gI h12 a0 5) + 1) = h13 at F f16 ⊢
          refine wp_aload rfl rfl rfl ?_
          refine wp_iload rfl rfl rfl ?_
          refine wp_aload rfl rfl rfl ?_
          refine wp_callI rfl rfl rfl (rcv_v f0 f16 (by decide) (by decide)) rfl rfl rfl rfl ?_
          refine CI.mono F (fun y10 h14 F => ?_) (fun _ _ w => rx_I w)
          obtain ⟨f17, F⟩ := F
          refine wp_callI rfl rfl rfl (rcv_v f0 f17 (by decide) (by decide)) rfl rfl rfl rfl ?_
          refine CI.mono F (fun y11 h15 F => ?_) (fun _ _ w => rx_I w)
          exact wp_retI rfl (Or.inl rfl) F
      · replace F := F.2 c
        refine wp_aload' (L' := [some (vR a0), none, none]) rfl rfl rfl rfl ?_
        refine wp_const rfl rfl ?_
        refine wp_callI rfl rfl rfl (rcv_v f0 f6 (by decide) (by decide)) rfl rfl rfl rfl ?_
        refine CI.mono F (fun y12 h16 F => ?_) (fun _ _ w => rx_I w)
        exact wp_retI rfl (Or.inl rfl) F
-- java/util/Arrays fill ([II)V
theorem m48 {d : Nat} {a0 : Nat} {a1 : Int32} {h : aH} {K : aH → Prop} {X : Nat → aH → Prop} (F : (100 ≤ gK h a0 ∧ gK h a0 ≤ 106) ∧ ∀ v0 : Int32, v0 = nI (gL h a0) → Wp d 48 (5, [some (vR a0), some (vI a1), some (vI 0), some (vI v0)], [], h) (RV K X)) : CV d 48 [vR a0, vI a1] h K X := by
  show Wp d 48 (0, [some (vR a0), some (vI a1), none, none], [], h) (RV K X)
  refine wp_const rfl rfl ?_
  refine wp_istore (L2 := [some (vR a0), some (vI a1), some (vI 0), none]) rfl rfl rfl rfl ?_
  refine wp_aload rfl rfl rfl ?_
  obtain ⟨f0, F⟩ := F
  refine wp_alen rfl f0 rfl ?_
  replace F := F _ rfl
  generalize (nI (gL h a0) : Int32) = v0 at F ⊢
  refine wp_istore (L2 := [some (vR a0), some (vI a1), some (vI 0), some (vI v0)]) rfl rfl rfl rfl ?_
  exact F
theorem w48_5 {d : Nat} {l0 : Nat} {l1 : Int32} {l2 : Int32} {l3 : Int32} {h : aH} {K : aH → Prop} {X : Nat → aH → Prop} (F : ((l2.toInt < l3.toInt → 8 ≤ l0 ∧ ∃ i0 : Nat, inB h 100 l0 l2 i0 ∧ ∀ h0 : aH, h0 = pI h l0 i0 l1 → ∀ v0 : Int32, v0 = l2 + 1 → Wp d 48 (5, [some (vR l0), some (vI l1), some (vI v0), some (vI l3)], [], h0) (RV K X)) ∧ (¬ l2.toInt < l3.toInt → K h))) : Wp d 48 (5, [some (vR l0), some (vI l1), some (vI l2), some (vI l3)], [], h) (RV K X) := by
  refine wp_iload rfl rfl rfl ?_
  refine wp_iload rfl rfl rfl ?_
  refine wp_icmp_ge rfl rfl rfl rfl rfl (fun c => ?_) (fun c => ?_)
  · replace F := F.1 c
    refine wp_aload rfl rfl rfl ?_
    refine wp_iload rfl rfl rfl ?_
    refine wp_iload rfl rfl rfl ?_
    obtain ⟨f0, F⟩ := F
    obtain ⟨i0, b9, F⟩ := F
    refine wp_iastore rfl f0 b9 rfl ?_
    replace F := F _ rfl
    generalize pI h l0 i0 l1 = h0 at F ⊢
    refine wp_iinc (y := 1) (L2 := [some (vR l0), some (vI l1), some (vI (l2 + 1)), some (vI l3)]) rfl rfl rfl rfl rfl ?_
    replace F := F _ rfl
    generalize (l2 + 1 : Int32) = v0 at F ⊢
    refine wp_goto rfl rfl ?_
    exact F
  · replace F := F.2 c
    exact wp_retV rfl F
-- CensusOffice$Register findNumbers (III)V
theorem m49 {d : Nat} {a0 : Nat} {a1 : Int32} {a2 : Int32} {a3 : Int32} {h : aH} {K : aH → Prop} {X : Nat → aH → Prop} (F : gK h a0 = 6 ∧ CV d 48 [vR (gR h a0 2), vI (-1)] h (fun h0 => gK h0 a0 = 6 ∧ CV d 48 [vR (gR h0 a0 3), vI (-2000000)] h0 (fun h1 => Wp (d + 1) 49 (20, [some (vR a0), some (vI a1), some (vI a2), some (vI a3), some (vI 0), none, none], [], h1) (RV K X)) X) X) : CV (d + 1) 49 [vR a0, vI a1, vI a2, vI a3] h K X := by
  show Wp (d + 1) 49 (0, [some (vR a0), some (vI a1), some (vI a2), some (vI a3), none, none, none], [], h) (RV K X)
  refine wp_aload rfl rfl rfl ?_
  obtain ⟨f0, F⟩ := F
  refine wp_getR rfl rfl rfl f0 rfl ?_
  refine wp_const rfl rfl ?_
  refine wp_callV rfl rfl rfl rfl rfl rfl rfl rfl ?_
  refine CV.mono F (fun h0 F => ?_) (fun _ _ w => rx_V w)
  refine wp_aload rfl rfl rfl ?_
  obtain ⟨f1, F⟩ := F
  refine wp_getR rfl rfl rfl f1 rfl ?_
  refine wp_const rfl rfl ?_
  refine wp_callV rfl rfl rfl rfl rfl rfl rfl rfl ?_
  refine CV.mono F (fun h1 F => ?_) (fun _ _ w => rx_V w)
  refine wp_const rfl rfl ?_
  refine wp_istore (L2 := [some (vR a0), some (vI a1), some (vI a2), some (vI a3), some (vI 0), none, none]) rfl rfl rfl rfl ?_
  exact F
theorem w49_20 {d : Nat} {l0 : Nat} {l1 : Int32} {l2 : Int32} {l3 : Int32} {l4 : Int32} {h : aH} {K : aH → Prop} {X : Nat → aH → Prop} (F : gK h l0 = 6 ∧ 8 ≤ (gR h l0 1) ∧ gK h (gR h l0 1) = 8 ∧ CI d 28 [vR (gR h l0 1)] h (fun y0 h0 => ((l4.toInt < y0.toInt → gK h0 l0 = 6 ∧ 8 ≤ (gR h0 l0 1) ∧ gK h0 (gR h0 l0 1) = 8 ∧ CI d 32 [vR (gR h0 l0 1), vI l4, vI 2] h0 (fun y1 h1 => gK h1 l0 = 6 ∧ 8 ≤ (gR h1 l0 1) ∧ gK h1 (gR h1 l0 1) = 8 ∧ CI d 32 [vR (gR h1 l0 1), vI l4, vI 1] h1 (fun y2 h2 => ((y2.toInt = l1.toInt → ((l2.toInt < y1.toInt → ∀ v0 : Int32, v0 = l4 + 1 → Wp (d + 1) 49 (20, [some (vR l0), some (vI l1), some (vI l2), some (vI l3), some (vI v0), none, none], [], h2) (RV K X)) ∧ (¬ l2.toInt < y1.toInt → gK h2 l0 = 6 ∧ 8 ≤ (gR h2 l0 1) ∧ gK h2 (gR h2 l0 1) = 8 ∧ CI d 32 [vR (gR h2 l0 1), vI l4, vI 4] h2 (fun y3 h3 => ((l3.toInt < y3.toInt → ∀ v1 : Int32, v1 = l4 + 1 → Wp (d + 1) 49 (20, [some (vR l0), some (vI l1), some (vI l2), some (vI l3), some (vI v1), none, none], [], h3) (RV K X)) ∧ (¬ l3.toInt < y3.toInt → gK h3 l0 = 6 ∧ 8 ≤ (gR h3 l0 1) ∧ gK h3 (gR h3 l0 1) = 8 ∧ CI d 32 [vR (gR h3 l0 1), vI l4, vI 0] h3 (fun y4 h4 => 8 ≤ l0 ∧ gK h4 l0 = 6 ∧ CI d 42 [vR l0, vI y4, vI l3] h4 (fun y5 h5 => ((y5.toInt < 0 → ∀ v2 : Int32, v2 = l4 + 1 → Wp (d + 1) 49 (20, [some (vR l0), some (vI l1), some (vI l2), some (vI l3), some (vI v2), none, none], [], h5) (RV K X)) ∧ (¬ y5.toInt < 0 → ((y5.toInt < 100 → gK h5 l0 = 6 ∧ ∃ i0 : Nat, inB h5 100 (gR h5 l0 2) y5 i0 ∧ ((y1.toInt < (gI h5 (gR h5 l0 2) i0).toInt → ∀ v3 : Int32, v3 = l4 + 1 → Wp (d + 1) 49 (20, [some (vR l0), some (vI l1), some (vI l2), some (vI l3), some (vI v3), none, none], [], h5) (RV K X)) ∧ (¬ y1.toInt < (gI h5 (gR h5 l0 2) i0).toInt → 8 ≤ (gR h5 l0 2) ∧ ∃ i1 : Nat, inB h5 100 (gR h5 l0 2) y5 i1 ∧ ∀ h6 : aH, h6 = pI h5 (gR h5 l0 2) i1 y1 → 8 ≤ (gR h6 l0 1) ∧ gK h6 (gR h6 l0 1) = 8 ∧ CI d 32 [vR (gR h6 l0 1), vI l4, vI 3] h6 (fun y6 h7 => 8 ≤ (gR h6 l0 3) ∧ ∃ i2 : Nat, inB h7 100 (gR h6 l0 3) y5 i2 ∧ ∀ h8 : aH, h8 = pI h7 (gR h6 l0 3) i2 y6 → ∀ v4 : Int32, v4 = l4 + 1 → Wp (d + 1) 49 (20, [some (vR l0), some (vI l1), some (vI l2), some (vI l3), some (vI v4), none, none], [], h8) (RV K X)) X))) ∧ (¬ y5.toInt < 100 → ∀ v5 : Int32, v5 = l4 + 1 → Wp (d + 1) 49 (20, [some (vR l0), some (vI l1), some (vI l2), some (vI l3), some (vI v5), none, none], [], h5) (RV K X)))))) X) X))) X))) ∧ (¬ y2.toInt = l1.toInt → ∀ v6 : Int32, v6 = l4 + 1 → Wp (d + 1) 49 (20, [some (vR l0), some (vI l1), some (vI l2), some (vI l3), some (vI v6), none, none], [], h2) (RV K X)))) X) X) ∧ (¬ l4.toInt < y0.toInt → K h0))) X) : Wp (d + 1) 49 (20, [some (vR l0), some (vI l1), some (vI l2), some (vI l3), some (vI l4), none, none], [], h) (RV K X) := by
  refine wp_iload' (L' := [some (vR l0), some (vI l1), some (vI l2), some (vI l3), some (vI l4), none, none]) rfl rfl rfl rfl ?_
  refine wp_aload rfl rfl rfl ?_
  obtain ⟨f0, F⟩ := F
  refine wp_getR rfl rfl rfl f0 rfl ?_
  obtain ⟨f1, F⟩ := F
  obtain ⟨f2, F⟩ := F
  refine wp_callI rfl rfl rfl (rcv_v f1 f2 (by decide) (by decide)) rfl rfl rfl rfl ?_
  refine CI.mono F (fun y0 h0 F => ?_) (fun _ _ w => rx_V w)
  refine wp_icmp_ge rfl rfl rfl rfl rfl (fun c => ?_) (fun c => ?_)
  · replace F := F.1 c
    refine wp_aload rfl rfl rfl ?_
    obtain ⟨f3, F⟩ := F
    refine wp_getR rfl rfl rfl f3 rfl ?_
    refine wp_iload rfl rfl rfl ?_
    refine wp_const rfl rfl ?_
    obtain ⟨f4, F⟩ := F
    obtain ⟨f5, F⟩ := F
    refine wp_callI rfl rfl rfl (rcv_v f4 f5 (by decide) (by decide)) rfl rfl rfl rfl ?_
    refine CI.mono F (fun y1 h1 F => ?_) (fun _ _ w => rx_V w)
    refine wp_istore (L2 := [some (vR l0), some (vI l1), some (vI l2), some (vI l3), some (vI l4), some (vI y1), none]) rfl rfl rfl rfl ?_
    refine wp_aload rfl rfl rfl ?_
    obtain ⟨f6, F⟩ := F
    refine wp_getR rfl rfl rfl f6 rfl ?_
    refine wp_iload rfl rfl rfl ?_
    refine wp_const rfl rfl ?_
    obtain ⟨f7, F⟩ := F
    obtain ⟨f8, F⟩ := F
    refine wp_callI rfl rfl rfl (rcv_v f7 f8 (by decide) (by decide)) rfl rfl rfl rfl ?_
    refine CI.mono F (fun y2 h2 F => ?_) (fun _ _ w => rx_V w)
    refine wp_iload rfl rfl rfl ?_
    refine wp_icmp_ne rfl rfl rfl rfl rfl (fun c => ?_) (fun c => ?_)
    · replace F := F.1 c
      refine wp_iload rfl rfl rfl ?_
      refine wp_iload rfl rfl rfl ?_
      refine wp_icmp_gt rfl rfl rfl rfl rfl (fun c => ?_) (fun c => ?_)
      · replace F := F.1 c
        refine wp_iinc' (L' := [some (vR l0), some (vI l1), some (vI l2), some (vI l3), some (vI l4), none, none]) (y := 1) (L2 := [some (vR l0), some (vI l1), some (vI l2), some (vI l3), some (vI (l4 + 1)), none, none]) rfl rfl rfl rfl rfl rfl ?_
        replace F := F _ rfl
        generalize (l4 + 1 : Int32) = v0 at F ⊢
        refine wp_goto rfl rfl ?_
        exact F
      · replace F := F.2 c
        refine wp_aload rfl rfl rfl ?_
        obtain ⟨f9, F⟩ := F
        refine wp_getR rfl rfl rfl f9 rfl ?_
        refine wp_iload rfl rfl rfl ?_
        refine wp_const rfl rfl ?_
        obtain ⟨f10, F⟩ := F
        obtain ⟨f11, F⟩ := F
        refine wp_callI rfl rfl rfl (rcv_v f10 f11 (by decide) (by decide)) rfl rfl rfl rfl ?_
        refine CI.mono F (fun y3 h3 F => ?_) (fun _ _ w => rx_V w)
        refine wp_iload rfl rfl rfl ?_
        refine wp_icmp_le rfl rfl rfl rfl rfl (fun c => ?_) (fun c => ?_)
        · replace F := F.1 c
          refine wp_goto rfl rfl ?_
          refine wp_iinc' (L' := [some (vR l0), some (vI l1), some (vI l2), some (vI l3), some (vI l4), none, none]) (y := 1) (L2 := [some (vR l0), some (vI l1), some (vI l2), some (vI l3), some (vI (l4 + 1)), none, none]) rfl rfl rfl rfl rfl rfl ?_
          replace F := F _ rfl
          generalize (l4 + 1 : Int32) = v1 at F ⊢
          refine wp_goto rfl rfl ?_
          exact F
        · replace F := F.2 c
          refine wp_aload' (L' := [some (vR l0), some (vI l1), some (vI l2), some (vI l3), some (vI l4), some (vI y1), none]) rfl rfl rfl rfl ?_
          refine wp_aload rfl rfl rfl ?_
          obtain ⟨f12, F⟩ := F
          refine wp_getR rfl rfl rfl f12 rfl ?_
          refine wp_iload rfl rfl rfl ?_
          refine wp_const rfl rfl ?_
          obtain ⟨f13, F⟩ := F
          obtain ⟨f14, F⟩ := F
          refine wp_callI rfl rfl rfl (rcv_v f13 f14 (by decide) (by decide)) rfl rfl rfl rfl ?_
          refine CI.mono F (fun y4 h4 F => ?_) (fun _ _ w => rx_V w)
          refine wp_iload rfl rfl rfl ?_
          obtain ⟨f15, F⟩ := F
          obtain ⟨f16, F⟩ := F
          refine wp_callI rfl rfl rfl (rcv_v f15 f16 (by decide) (by decide)) rfl rfl rfl rfl ?_
          refine CI.mono F (fun y5 h5 F => ?_) (fun _ _ w => rx_V w)
          refine wp_istore (L2 := [some (vR l0), some (vI l1), some (vI l2), some (vI l3), some (vI l4), some (vI y1), some (vI y5)]) rfl rfl rfl rfl ?_
          refine wp_iload rfl rfl rfl ?_
          refine wp_if_lt rfl rfl rfl rfl (fun c => ?_) (fun c => ?_)
          · replace F := F.1 c
            refine wp_iinc' (L' := [some (vR l0), some (vI l1), some (vI l2), some (vI l3), some (vI l4), none, none]) (y := 1) (L2 := [some (vR l0), some (vI l1), some (vI l2), some (vI l3), some (vI (l4 + 1)), none, none]) rfl rfl rfl rfl rfl rfl ?_
            replace F := F _ rfl
            generalize (l4 + 1 : Int32) = v2 at F ⊢
            refine wp_goto rfl rfl ?_
            exact F
          · replace F := F.2 c
            refine wp_iload rfl rfl rfl ?_
            refine wp_const rfl rfl ?_
            refine wp_icmp_ge (Y := 100) rfl rfl rfl rfl rfl (fun c => ?_) (fun c => ?_)
            · replace F := F.1 c
              refine wp_iload rfl rfl rfl ?_
              refine wp_aload rfl rfl rfl ?_
              obtain ⟨f17, F⟩ := F
              refine wp_getR rfl rfl rfl f17 rfl ?_
              refine wp_iload rfl rfl rfl ?_
              obtain ⟨i0, b9, F⟩ := F
              refine wp_iaload rfl b9 rfl ?_
              refine wp_icmp_lt rfl rfl rfl rfl rfl (fun c => ?_) (fun c => ?_)
              · replace F := F.1 c
                refine wp_iinc' (L' := [some (vR l0), some (vI l1), some (vI l2), some (vI l3), some (vI l4), none, none]) (y := 1) (L2 := [some (vR l0), some (vI l1), some (vI l2), some (vI l3), some (vI (l4 + 1)), none, none]) rfl rfl rfl rfl rfl rfl ?_
                replace F := F _ rfl
                generalize (l4 + 1 : Int32) = v3 at F ⊢
                refine wp_goto rfl rfl ?_
                exact F
              · replace F := F.2 c
                refine wp_aload rfl rfl rfl ?_
                refine wp_getR rfl rfl rfl f17 rfl ?_
                refine wp_iload rfl rfl rfl ?_
                refine wp_iload rfl rfl rfl ?_
                obtain ⟨f18, F⟩ := F
                obtain ⟨i1, b9, F⟩ := F
                refine wp_iastore rfl f18 b9 rfl ?_
                have f19 : gK (pI h5 (gR h5 l0 2) i1 y1) l0 = 6 := (gK_pI _ _ _ _ _).trans f17
                replace F := F _ rfl
                generalize pI h5 (gR h5 l0 2) i1 y1 = h6 at F f19 ⊢
                refine wp_aload rfl rfl rfl ?_
                refine wp_getR rfl rfl rfl f19 rfl ?_
                refine wp_iload rfl rfl rfl ?_
                refine wp_aload rfl rfl rfl ?_
                refine wp_getR rfl rfl rfl f19 rfl ?_
                refine wp_iload rfl rfl rfl ?_
                refine wp_const rfl rfl ?_
                obtain ⟨f20, F⟩ := F
                obtain ⟨f21, F⟩ := F
                refine wp_callI rfl rfl rfl (rcv_v f20 f21 (by decide) (by decide)) rfl rfl rfl rfl ?_
                refine CI.mono F (fun y6 h7 F => ?_) (fun _ _ w => rx_V w)
                obtain ⟨f22, F⟩ := F
                obtain ⟨i2, b9, F⟩ := F
                refine wp_iastore rfl f22 b9 rfl ?_
                replace F := F _ rfl
                generalize pI h7 (gR h6 l0 3) i2 y6 = h8 at F ⊢
                refine wp_iinc' (L' := [some (vR l0), some (vI l1), some (vI l2), some (vI l3), some (vI l4), none, none]) (y := 1) (L2 := [some (vR l0), some (vI l1), some (vI l2), some (vI l3), some (vI (l4 + 1)), none, none]) rfl rfl rfl rfl rfl rfl ?_
                replace F := F _ rfl
                generalize (l4 + 1 : Int32) = v4 at F ⊢
                refine wp_goto rfl rfl ?_
                exact F
            · replace F := F.2 c
              refine wp_iinc' (L' := [some (vR l0), some (vI l1), some (vI l2), some (vI l3), some (vI l4), none, none]) (y := 1) (L2 := [some (vR l0), some (vI l1), some (vI l2), some (vI l3), some (vI (l4 + 1)), none, none]) rfl rfl rfl rfl rfl rfl ?_
              replace F := F _ rfl
              generalize (l4 + 1 : Int32) = v5 at F ⊢
              refine wp_goto rfl rfl ?_
              exact F
    · replace F := F.2 c
      refine wp_iinc' (L' := [some (vR l0), some (vI l1), some (vI l2), some (vI l3), some (vI l4), none, none]) (y := 1) (L2 := [some (vR l0), some (vI l1), some (vI l2), some (vI l3), some (vI (l4 + 1)), none, none]) rfl rfl rfl rfl rfl rfl ?_
      replace F := F _ rfl
      generalize (l4 + 1 : Int32) = v6 at F ⊢
      refine wp_goto rfl rfl ?_
      exact F
  · replace F := F.2 c
    exact wp_retV rfl F
-- CensusOffice$Register numberOf (IIII)I
theorem m50 {d : Nat} {a0 : Nat} {a1 : Int32} {a2 : Int32} {a3 : Int32} {a4 : Int32} {h : aH} {K : Int32 → aH → Prop} {X : Nat → aH → Prop} (F : 8 ≤ a0 ∧ gK h a0 = 6 ∧ CV d 49 [vR a0, vI a2, vI a3, vI a4] h (fun h0 => gK h0 a0 = 6 ∧ CI d 42 [vR a0, vI a1, vI a4] h0 (fun y0 h1 => ((y0.toInt < 0 → K (-2000000) h1) ∧ (¬ y0.toInt < 0 → ((y0.toInt < 100 → gK h1 a0 = 6 ∧ ∃ i0 : Nat, inB h1 100 (gR h1 a0 3) y0 i0 ∧ K (gI h1 (gR h1 a0 3) i0) h1) ∧ (¬ y0.toInt < 100 → K (-2000000) h1))))) X) X) : CI (d + 1) 50 [vR a0, vI a1, vI a2, vI a3, vI a4] h K X := by
  show Wp (d + 1) 50 (0, [some (vR a0), some (vI a1), some (vI a2), some (vI a3), some (vI a4), none], [], h) (RI K X)
  refine wp_aload rfl rfl rfl ?_
  refine wp_iload rfl rfl rfl ?_
  refine wp_iload rfl rfl rfl ?_
  refine wp_iload rfl rfl rfl ?_
  obtain ⟨f0, F⟩ := F
  obtain ⟨f1, F⟩ := F
  refine wp_callV rfl rfl rfl (rcv_v f0 f1 (by decide) (by decide)) rfl rfl rfl rfl ?_
  refine CV.mono F (fun h0 F => ?_) (fun _ _ w => rx_I w)
  refine wp_aload rfl rfl rfl ?_
  refine wp_iload rfl rfl rfl ?_
  refine wp_iload rfl rfl rfl ?_
  obtain ⟨f2, F⟩ := F
  refine wp_callI rfl rfl rfl (rcv_v f0 f2 (by decide) (by decide)) rfl rfl rfl rfl ?_
  refine CI.mono F (fun y0 h1 F => ?_) (fun _ _ w => rx_I w)
  refine wp_istore (L2 := [some (vR a0), some (vI a1), some (vI a2), some (vI a3), some (vI a4), some (vI y0)]) rfl rfl rfl rfl ?_
  refine wp_iload rfl rfl rfl ?_
  refine wp_if_lt rfl rfl rfl rfl (fun c => ?_) (fun c => ?_)
  · replace F := F.1 c
    refine wp_const' (L' := [none, none, none, none, none, none]) rfl rfl rfl ?_
    refine wp_goto rfl rfl ?_
    exact wp_retI rfl (Or.inl rfl) F
  · replace F := F.2 c
    refine wp_iload rfl rfl rfl ?_
    refine wp_const rfl rfl ?_
    refine wp_icmp_lt (Y := 100) rfl rfl rfl rfl rfl (fun c => ?_) (fun c => ?_)
    · replace F := F.1 c
      refine wp_aload' (L' := [some (vR a0), none, none, none, none, some (vI y0)]) rfl rfl rfl rfl ?_
      obtain ⟨f3, F⟩ := F
      refine wp_getR rfl rfl rfl f3 rfl ?_
      refine wp_iload rfl rfl rfl ?_
      obtain ⟨i0, b9, F⟩ := F
      refine wp_iaload rfl b9 rfl ?_
      exact wp_retI rfl (Or.inl rfl) F
    · replace F := F.2 c
      refine wp_const' (L' := [none, none, none, none, none, none]) rfl rfl rfl ?_
      refine wp_goto rfl rfl ?_
      exact wp_retI rfl (Or.inl rfl) F
-- CensusOffice value (IIII)I
theorem m51 {d : Nat} {a0 : Nat} {a1 : Int32} {a2 : Int32} {a3 : Int32} {a4 : Int32} {h : aH} {K : Int32 → aH → Prop} {X : Nat → aH → Prop} (F : 8 ≤ a0 ∧ gK h a0 = 1 ∧ CV d 30 [vR a0, vI a1] h (fun h0 => gK h0 a0 = 1 ∧ CV d 31 [vR a0, vI a2] h0 (fun h1 => ((a3.toInt < 0 → X 1 (gNew h1 200 6)) ∧ (¬ a3.toInt < 0 → ((a4.toInt < 0 → X 1 (gNew h1 200 6)) ∧ (¬ a4.toInt < 0 → gK h1 a0 = 1 ∧ 8 ≤ (gR h1 a0 0) ∧ gK h1 (gR h1 a0 0) = 6 ∧ CI d 50 [vR (gR h1 a0 0), vI a1, vI a2, vI a3, vI a4] h1 (fun y0 h2 => K y0 h2) X))))) X) X) : CI (d + 1) 51 [vR a0, vI a1, vI a2, vI a3, vI a4] h K X := by
  show Wp (d + 1) 51 (0, [some (vR a0), some (vI a1), some (vI a2), some (vI a3), some (vI a4)], [], h) (RI K X)
  refine wp_aload rfl rfl rfl ?_
  refine wp_iload rfl rfl rfl ?_
  obtain ⟨f0, F⟩ := F
  obtain ⟨f1, F⟩ := F
  refine wp_callV rfl rfl rfl (rcv_v f0 f1 (by decide) (by decide)) rfl rfl rfl rfl ?_
  refine CV.mono F (fun h0 F => ?_) (fun _ _ w => rx_I w)
  refine wp_aload rfl rfl rfl ?_
  refine wp_iload rfl rfl rfl ?_
  obtain ⟨f2, F⟩ := F
  refine wp_callV rfl rfl rfl (rcv_v f0 f2 (by decide) (by decide)) rfl rfl rfl rfl ?_
  refine CV.mono F (fun h1 F => ?_) (fun _ _ w => rx_I w)
  refine wp_iload rfl rfl rfl ?_
  refine wp_if_lt rfl rfl rfl rfl (fun c => ?_) (fun c => ?_)
  · replace F := F.1 c
    exact wp_thrI rfl F
  · replace F := F.2 c
    refine wp_iload rfl rfl rfl ?_
    refine wp_if_ge rfl rfl rfl rfl (fun c => ?_) (fun c => ?_)
    · replace F := F.1 c
      exact wp_thrI rfl F
    · replace F := F.2 c
      refine wp_aload rfl rfl rfl ?_
      obtain ⟨f3, F⟩ := F
      refine wp_getR rfl rfl rfl f3 rfl ?_
      refine wp_iload rfl rfl rfl ?_
      refine wp_iload rfl rfl rfl ?_
      refine wp_iload rfl rfl rfl ?_
      refine wp_iload rfl rfl rfl ?_
      obtain ⟨f4, F⟩ := F
      obtain ⟨f5, F⟩ := F
      refine wp_callI rfl rfl rfl (rcv_v f4 f5 (by decide) (by decide)) rfl rfl rfl rfl ?_
      refine CI.mono F (fun y0 h2 F => ?_) (fun _ _ w => rx_I w)
      exact wp_retI rfl (Or.inl rfl) F
-- CensusOfficeLaw value (LCensusOffice;IIII[J)I
theorem m52 {d : Nat} {a0 : Nat} {a1 : Int32} {a2 : Int32} {a3 : Int32} {a4 : Int32} {a5 : Nat} {h : aH} {K : Int32 → aH → Prop} {X : Nat → aH → Prop} (F : 8 ≤ a0 ∧ gK h a0 = 1 ∧ CI d 51 [vR a0, vI a1, vI a2, vI a3, vI a4] h (fun y0 h0 => 8 ≤ a5 ∧ inB h0 101 a5 0 0 ∧ ∀ h1 : aH, h1 = pJ h0 a5 0 (y0.toInt64) → K 0 h1) (fun x9 h9 => (x9 = 3 ∧ K 1 h9) ∨ (x9 = 1 ∧ K 2 h9))) : CI (d + 1) 52 [vR a0, vI a1, vI a2, vI a3, vI a4, vR a5] h K X := by
  show Wp (d + 1) 52 (0, [some (vR a0), some (vI a1), some (vI a2), some (vI a3), some (vI a4), some (vR a5), none], [], h) (RI K X)
  refine wp_aload rfl rfl rfl ?_
  refine wp_const rfl rfl ?_
  refine wp_aload rfl rfl rfl ?_
  refine wp_iload rfl rfl rfl ?_
  refine wp_iload rfl rfl rfl ?_
  refine wp_iload rfl rfl rfl ?_
  refine wp_iload rfl rfl rfl ?_
  obtain ⟨f0, F⟩ := F
  obtain ⟨f1, F⟩ := F
  refine wp_callhI (X := (fun x9 h9 => (x9 = 3 ∧ K 1 h9) ∨ (x9 = 1 ∧ K 2 h9))) rfl rfl rfl (rcv_v f0 f1 (by decide) (by decide)) rfl rfl rfl (fun x9 h9 F => ?_) ?_
  · rcases F with ⟨rfl, F⟩ | ⟨rfl, F⟩
    · refine ⟨17, rfl, ?_⟩
      refine wp_astoreJ' (L' := [none, none, none, none, none, none, none]) (L2 := [none, none, none, none, none, none, some vJ]) rfl rfl rfl rfl rfl ?_
      refine wp_const rfl rfl ?_
      exact wp_retI rfl (Or.inl rfl) F
    · refine ⟨21, rfl, ?_⟩
      refine wp_astoreJ' (L' := [none, none, none, none, none, none, none]) (L2 := [none, none, none, none, none, none, some vJ]) rfl rfl rfl rfl rfl ?_
      refine wp_const rfl rfl ?_
      exact wp_retI rfl (Or.inl rfl) F
  · refine CI.mono F (fun y0 h0 F => ?_) (fun _ _ w => w)
    refine wp_i2l rfl rfl ?_
    obtain ⟨f2, F⟩ := F
    obtain ⟨b9, F⟩ := F
    refine wp_lastore rfl f2 b9 rfl ?_
    replace F := F _ rfl
    generalize pJ h0 a5 0 (y0.toInt64) = h1 at F ⊢
    refine wp_goto rfl rfl ?_
    refine wp_const' (L' := [none, none, none, none, none, none, none]) rfl rfl rfl ?_
    exact wp_retI rfl (Or.inl rfl) F
