/-! THE FORMULAS OF THE METHODS 169 TO 210 (written by wip/tools/gen13.py): what a run from a cut point needs -/
-- CensusOffice close (I)I
theorem m169 {d : Nat} {a0 : Nat} {a1 : Int32} {h : aH} {K : Int32 → aH → Prop} {X : Nat → aH → Prop} (F : 8 ≤ a0 ∧ gK h a0 = 1 ∧ CR d 140 [vR a0, vI a1] h (fun q0 h0 => gK h0 q0 = 10 ∧ (((gI h0 q0 12).toInt = 0 → 8 ≤ q0 ∧ CI d 142 [vR q0] h0 (fun y0 h1 => ((y0.toInt = (-1) → gK h1 q0 = 10 ∧ ∀ h2 : aH, h2 = pI h1 q0 12 1 → gK h2 a0 = 1 ∧ ∀ (r0 : Nat) (h3 : aH), r0 = gN h2 → h3 = gNew h2 5 5 → 8 ≤ r0 ∧ CV d 168 [vR r0, vR q0] h3 (fun h4 => 8 ≤ (gR h2 a0 6) ∧ gK h4 (gR h2 a0 6) = 13 ∧ CI d 98 [vR (gR h2 a0 6), vR r0] h4 (fun y1 h5 => gK h5 a0 = 1 ∧ 8 ≤ (gR h5 a0 6) ∧ gK h5 (gR h5 a0 6) = 13 ∧ CI d 65 [vR (gR h5 a0 6)] h5 (fun y2 h6 => K (y2 - 1) h6) X) X) (fun _ _ => False)) ∧ (¬ y0.toInt = (-1) → X 2 (gNew h1 200 6)))) X) ∧ (¬ (gI h0 q0 12).toInt = 0 → X 2 (gNew h0 200 6)))) X) : CI (d + 1) 169 [vR a0, vI a1] h K X := by
  show Wp (d + 1) 169 (0, [some (vR a0), some (vI a1), none], [], h) (RI K X)
  refine wp_aload rfl rfl rfl ?_
  refine wp_iload rfl rfl rfl ?_
  obtain ⟨f0, F⟩ := F
  obtain ⟨f1, F⟩ := F
  refine wp_callR rfl rfl rfl (rcv_v f0 f1 (by decide) (by decide)) rfl rfl rfl rfl ?_
  refine CR.mono F (fun q0 h0 F => ?_) (fun _ _ w => rx_I w)
  refine wp_astore (L2 := [some (vR a0), some (vI a1), some (vR q0)]) rfl rfl rfl rfl ?_
  refine wp_aload rfl rfl rfl ?_
  obtain ⟨f2, F⟩ := F
  refine wp_getI rfl rfl rfl f2 rfl ?_
  refine wp_if_ne rfl rfl rfl rfl (fun c => ?_) (fun c => ?_)
  · replace F := F.1 c
    refine wp_aload rfl rfl rfl ?_
    obtain ⟨f3, F⟩ := F
    refine wp_callI rfl rfl rfl (rcv_v f3 f2 (by decide) (by decide)) rfl rfl rfl rfl ?_
    refine CI.mono F (fun y0 h1 F => ?_) (fun _ _ w => rx_I w)
    refine wp_const rfl rfl ?_
    refine wp_icmp_eq (Y := (-1)) rfl rfl rfl rfl rfl (fun c => ?_) (fun c => ?_)
    · replace F := F.1 c
      refine wp_aload' (L' := [some (vR a0), none, some (vR q0)]) rfl rfl rfl rfl ?_
      refine wp_const rfl rfl ?_
      obtain ⟨f4, F⟩ := F
      refine wp_putZ rfl rfl rfl f3 f4 rfl rfl ?_
      have f5 : gK (pI h1 q0 12 1) q0 = 10 := (gK_pI _ _ _ _ _).trans f4
      replace F := F _ rfl
      generalize pI h1 q0 12 1 = h2 at F f5 ⊢
      refine wp_aload rfl rfl rfl ?_
      obtain ⟨f6, F⟩ := F
      refine wp_getR rfl rfl rfl f6 rfl ?_
      refine wp_new rfl rfl rfl rfl ?_
      replace F := F _ _ rfl rfl
      generalize gNew h2 5 5 = h3 at F ⊢
      generalize gN h2 = r0 at F ⊢
      refine wp_dup rfl rfl rfl ?_
      refine wp_aload rfl rfl rfl ?_
      obtain ⟨f7, F⟩ := F
      refine wp_callqV rfl rfl rfl (rcv_c f7) rfl rfl ?_
      refine CV.mono F (fun h4 F => ?_) (fun _ _ w => w)
      obtain ⟨f8, F⟩ := F
      obtain ⟨f9, F⟩ := F
      refine wp_callI rfl rfl rfl (rcv_v f8 f9 (by decide) (by decide)) rfl rfl rfl rfl ?_
      refine CI.mono F (fun y1 h5 F => ?_) (fun _ _ w => rx_I w)
      refine wp_pop rfl rfl rfl ?_
      refine wp_aload rfl rfl rfl ?_
      obtain ⟨f10, F⟩ := F
      refine wp_getR rfl rfl rfl f10 rfl ?_
      obtain ⟨f11, F⟩ := F
      obtain ⟨f12, F⟩ := F
      refine wp_callI rfl rfl rfl (rcv_v f11 f12 (by decide) (by decide)) rfl rfl rfl rfl ?_
      refine CI.mono F (fun y2 h6 F => ?_) (fun _ _ w => rx_I w)
      refine wp_const rfl rfl ?_
      refine wp_isub rfl rfl ?_
      exact wp_retI rfl (Or.inl rfl) F
    · replace F := F.2 c
      exact wp_thrI rfl F
  · replace F := F.2 c
    exact wp_thrI rfl F
-- CensusOfficeLaw close (LCensusOffice;I[J)I
theorem m170 {d : Nat} {a0 : Nat} {a1 : Int32} {a2 : Nat} {h : aH} {K : Int32 → aH → Prop} {X : Nat → aH → Prop} (F : 8 ≤ a0 ∧ gK h a0 = 1 ∧ CI d 169 [vR a0, vI a1] h (fun y0 h0 => 8 ≤ a2 ∧ inB h0 101 a2 0 0 ∧ ∀ h1 : aH, h1 = pJ h0 a2 0 (y0.toInt64) → K 0 h1) (fun x9 h9 => (x9 = 3 ∧ K 1 h9) ∨ (x9 = 2 ∧ K 2 h9))) : CI (d + 1) 170 [vR a0, vI a1, vR a2] h K X := by
  show Wp (d + 1) 170 (0, [some (vR a0), some (vI a1), some (vR a2), none], [], h) (RI K X)
  refine wp_aload rfl rfl rfl ?_
  refine wp_const rfl rfl ?_
  refine wp_aload rfl rfl rfl ?_
  refine wp_iload rfl rfl rfl ?_
  obtain ⟨f0, F⟩ := F
  obtain ⟨f1, F⟩ := F
  refine wp_callhI (X := (fun x9 h9 => (x9 = 3 ∧ K 1 h9) ∨ (x9 = 2 ∧ K 2 h9))) rfl rfl rfl (rcv_v f0 f1 (by decide) (by decide)) rfl rfl rfl (fun x9 h9 F => ?_) ?_
  · rcases F with ⟨rfl, F⟩ | ⟨rfl, F⟩
    · refine ⟨12, rfl, ?_⟩
      refine wp_astoreJ' (L' := [none, none, none, none]) (L2 := [none, none, none, some vJ]) rfl rfl rfl rfl rfl ?_
      refine wp_const rfl rfl ?_
      exact wp_retI rfl (Or.inl rfl) F
    · refine ⟨15, rfl, ?_⟩
      refine wp_astoreJ' (L' := [none, none, none, none]) (L2 := [none, none, none, some vJ]) rfl rfl rfl rfl rfl ?_
      refine wp_const rfl rfl ?_
      exact wp_retI rfl (Or.inl rfl) F
  · refine CI.mono F (fun y0 h0 F => ?_) (fun _ _ w => w)
    refine wp_i2l rfl rfl ?_
    obtain ⟨f2, F⟩ := F
    obtain ⟨b9, F⟩ := F
    refine wp_lastore rfl f2 b9 rfl ?_
    replace F := F _ rfl
    generalize pJ h0 a2 0 (y0.toInt64) = h1 at F ⊢
    refine wp_goto rfl rfl ?_
    refine wp_const' (L' := [none, none, none, none]) rfl rfl rfl ?_
    exact wp_retI rfl (Or.inl rfl) F
-- CensusOfficeModel close (I)I
theorem m171 {d : Nat} {a0 : Nat} {a1 : Int32} {h : aH} {K : Int32 → aH → Prop} {X : Nat → aH → Prop} (F : 8 ≤ a0 ∧ gK h a0 = 14 ∧ ∀ h0 : aH, h0 = pI h a0 0 0 → CI d 145 [vR a0, vI a1] h0 (fun y0 h1 => ((y0.toInt = 0 → gK h1 a0 = 14 ∧ CI d 15 [vR a0, vI 1] h1 (fun y1 h2 => K y1 h2) X) ∧ (¬ y0.toInt = 0 → gK h1 a0 = 14 ∧ ∃ i0 : Nat, inB h1 102 (gR h1 a0 42) a1 i0 ∧ (((gI h1 (gR h1 a0 42) i0).toInt = 0 → CI d 149 [vR a0, vI a1] h1 (fun y2 h3 => ((y2.toInt = (-1) → gK h3 a0 = 14 ∧ 8 ≤ (gR h3 a0 42) ∧ ∃ i1 : Nat, inB h3 102 (gR h3 a0 42) a1 i1 ∧ ∀ h4 : aH, h4 = pI h3 (gR h3 a0 42) i1 (1 &&& 1) → CV d 148 [vR a0, vI a1, vI (-1)] h4 (fun h5 => gK h5 a0 = 14 ∧ 8 ≤ (gR h5 a0 54) ∧ ∃ i2 : Nat, inB h5 100 (gR h5 a0 54) (gI h5 a0 53) i2 ∧ ∀ h6 : aH, h6 = pI h5 (gR h5 a0 54) i2 a1 → Wp (d + 1) 171 (68, [some (vR a0), none, some (vI 0)], [], h6) (RI K X)) X) ∧ (¬ y2.toInt = (-1) → gK h3 a0 = 14 ∧ CI d 15 [vR a0, vI 2] h3 (fun y3 h7 => K y3 h7) X))) X) ∧ (¬ (gI h1 (gR h1 a0 42) i0).toInt = 0 → CI d 15 [vR a0, vI 2] h1 (fun y4 h8 => K y4 h8) X))))) X) : CI (d + 1) 171 [vR a0, vI a1] h K X := by
  show Wp (d + 1) 171 (0, [some (vR a0), some (vI a1), none], [], h) (RI K X)
  refine wp_aload rfl rfl rfl ?_
  refine wp_const rfl rfl ?_
  obtain ⟨f0, F⟩ := F
  obtain ⟨f1, F⟩ := F
  refine wp_putI rfl rfl rfl f0 f1 rfl ?_
  have f2 : gK (pI h a0 0 0) a0 = 14 := (gK_pI _ _ _ _ _).trans f1
  replace F := F _ rfl
  generalize pI h a0 0 0 = h0 at F f2 ⊢
  refine wp_aload rfl rfl rfl ?_
  refine wp_iload rfl rfl rfl ?_
  refine wp_callI rfl rfl rfl (rcv_v f0 f2 (by decide) (by decide)) rfl rfl rfl rfl ?_
  refine CI.mono F (fun y0 h1 F => ?_) (fun _ _ w => rx_I w)
  refine wp_if_ne rfl rfl rfl rfl (fun c => ?_) (fun c => ?_)
  · replace F := F.1 c
    refine wp_aload rfl rfl rfl ?_
    refine wp_const rfl rfl ?_
    obtain ⟨f3, F⟩ := F
    refine wp_callI rfl rfl rfl (rcv_v f0 f3 (by decide) (by decide)) rfl rfl rfl rfl ?_
    refine CI.mono F (fun y1 h2 F => ?_) (fun _ _ w => rx_I w)
    exact wp_retI rfl (Or.inl rfl) F
  · replace F := F.2 c
    refine wp_aload' (L' := [some (vR a0), some (vI a1), none]) rfl rfl rfl rfl ?_
    obtain ⟨f4, F⟩ := F
    refine wp_getR rfl rfl rfl f4 rfl ?_
    refine wp_iload rfl rfl rfl ?_
    obtain ⟨i0, b9, F⟩ := F
    refine wp_zaload rfl b9 rfl ?_
    refine wp_if_ne rfl rfl rfl rfl (fun c => ?_) (fun c => ?_)
    · replace F := F.1 c
      refine wp_aload rfl rfl rfl ?_
      refine wp_iload rfl rfl rfl ?_
      refine wp_callI rfl rfl rfl (rcv_v f0 f4 (by decide) (by decide)) rfl rfl rfl rfl ?_
      refine CI.mono F (fun y2 h3 F => ?_) (fun _ _ w => rx_I w)
      refine wp_const rfl rfl ?_
      refine wp_icmp_eq (Y := (-1)) rfl rfl rfl rfl rfl (fun c => ?_) (fun c => ?_)
      · replace F := F.1 c
        refine wp_aload' (L' := [some (vR a0), some (vI a1), none]) rfl rfl rfl rfl ?_
        obtain ⟨f5, F⟩ := F
        refine wp_getR rfl rfl rfl f5 rfl ?_
        refine wp_iload rfl rfl rfl ?_
        refine wp_const rfl rfl ?_
        obtain ⟨f6, F⟩ := F
        obtain ⟨i1, b9, F⟩ := F
        refine wp_zastore rfl f6 b9 rfl ?_
        have f7 : gK (pI h3 (gR h3 a0 42) i1 (1 &&& 1)) a0 = 14 := (gK_pI _ _ _ _ _).trans f5
        replace F := F _ rfl
        generalize pI h3 (gR h3 a0 42) i1 (1 &&& 1) = h4 at F f7 ⊢
        refine wp_aload rfl rfl rfl ?_
        refine wp_iload rfl rfl rfl ?_
        refine wp_const rfl rfl ?_
        refine wp_callV rfl rfl rfl (rcv_v f0 f7 (by decide) (by decide)) rfl rfl rfl rfl ?_
        refine CV.mono F (fun h5 F => ?_) (fun _ _ w => rx_I w)
        refine wp_aload rfl rfl rfl ?_
        obtain ⟨f8, F⟩ := F
        refine wp_getR rfl rfl rfl f8 rfl ?_
        refine wp_aload rfl rfl rfl ?_
        refine wp_getI rfl rfl rfl f8 rfl ?_
        refine wp_iload rfl rfl rfl ?_
        obtain ⟨f9, F⟩ := F
        obtain ⟨i2, b9, F⟩ := F
        refine wp_iastore rfl f9 b9 rfl ?_
        have f10 : gK (pI h5 (gR h5 a0 54) i2 a1) a0 = 14 := (gK_pI _ _ _ _ _).trans f8
        replace F := F _ rfl
        generalize pI h5 (gR h5 a0 54) i2 a1 = h6 at F f10 ⊢
        refine wp_const rfl rfl ?_
        refine wp_istore (L2 := [some (vR a0), some (vI a1), some (vI 0)]) rfl rfl rfl rfl ?_
        refine wp_kill (L' := [some (vR a0), none, some (vI 0)]) rfl rfl ?_
        exact F
      · replace F := F.2 c
        refine wp_aload' (L' := [some (vR a0), none, none]) rfl rfl rfl rfl ?_
        refine wp_const rfl rfl ?_
        obtain ⟨f11, F⟩ := F
        refine wp_callI rfl rfl rfl (rcv_v f0 f11 (by decide) (by decide)) rfl rfl rfl rfl ?_
        refine CI.mono F (fun y3 h7 F => ?_) (fun _ _ w => rx_I w)
        exact wp_retI rfl (Or.inl rfl) F
    · replace F := F.2 c
      refine wp_aload' (L' := [some (vR a0), none, none]) rfl rfl rfl rfl ?_
      refine wp_const rfl rfl ?_
      refine wp_callI rfl rfl rfl (rcv_v f0 f4 (by decide) (by decide)) rfl rfl rfl rfl ?_
      refine CI.mono F (fun y4 h8 F => ?_) (fun _ _ w => rx_I w)
      exact wp_retI rfl (Or.inl rfl) F
theorem w171_68 {d : Nat} {l0 : Nat} {l2 : Int32} {h : aH} {K : Int32 → aH → Prop} {X : Nat → aH → Prop} (F : ((l2.toInt < 20 → gK h l0 = 14 ∧ ∃ i0 : Nat, inB h 100 (gR h l0 34) l2 i0 ∧ 8 ≤ (gR h l0 55) ∧ ∃ i1 : Nat, inB h 100 (gR h l0 55) ((20 * (gI h l0 53)) + l2) i1 ∧ ∀ h0 : aH, h0 = pI h (gR h l0 55) i1 (gI h (gR h l0 34) i0) → 8 ≤ (gR h0 l0 56) ∧ ∃ i2 : Nat, inB h0 100 (gR h0 l0 56) ((20 * (gI h0 l0 53)) + l2) i2 ∧ ∀ h1 : aH, h1 = pI h0 (gR h0 l0 56) i2 0 → ∀ v0 : Int32, v0 = l2 + 1 → Wp (d + 1) 171 (68, [some (vR l0), none, some (vI v0)], [], h1) (RI K X)) ∧ (¬ l2.toInt < 20 → gK h l0 = 14 ∧ 8 ≤ l0 ∧ ∀ h2 : aH, h2 = pI h l0 53 ((gI h l0 53) + 1) → K ((gI h2 l0 53) - 1) h2))) : Wp (d + 1) 171 (68, [some (vR l0), none, some (vI l2)], [], h) (RI K X) := by
  refine wp_iload' (L' := [some (vR l0), none, some (vI l2)]) rfl rfl rfl rfl ?_
  refine wp_const rfl rfl ?_
  refine wp_icmp_ge (Y := 20) rfl rfl rfl rfl rfl (fun c => ?_) (fun c => ?_)
  · replace F := F.1 c
    refine wp_aload rfl rfl rfl ?_
    obtain ⟨f0, F⟩ := F
    refine wp_getR rfl rfl rfl f0 rfl ?_
    refine wp_const rfl rfl ?_
    refine wp_aload rfl rfl rfl ?_
    refine wp_getI rfl rfl rfl f0 rfl ?_
    refine wp_imul rfl rfl ?_
    refine wp_iload rfl rfl rfl ?_
    refine wp_iadd rfl rfl ?_
    refine wp_aload rfl rfl rfl ?_
    refine wp_getR rfl rfl rfl f0 rfl ?_
    refine wp_iload rfl rfl rfl ?_
    obtain ⟨i0, b9, F⟩ := F
    refine wp_iaload rfl b9 rfl ?_
    obtain ⟨f1, F⟩ := F
    obtain ⟨i1, b9, F⟩ := F
    refine wp_iastore rfl f1 b9 rfl ?_
    have f2 : gK (pI h (gR h l0 55) i1 (gI h (gR h l0 34) i0)) l0 = 14 := (gK_pI _ _ _ _ _).trans f0
    replace F := F _ rfl
    generalize pI h (gR h l0 55) i1 (gI h (gR h l0 34) i0) = h0 at F f2 ⊢
    refine wp_aload rfl rfl rfl ?_
    refine wp_getR rfl rfl rfl f2 rfl ?_
    refine wp_const rfl rfl ?_
    refine wp_aload rfl rfl rfl ?_
    refine wp_getI rfl rfl rfl f2 rfl ?_
    refine wp_imul rfl rfl ?_
    refine wp_iload rfl rfl rfl ?_
    refine wp_iadd rfl rfl ?_
    refine wp_const rfl rfl ?_
    obtain ⟨f3, F⟩ := F
    obtain ⟨i2, b9, F⟩ := F
    refine wp_iastore rfl f3 b9 rfl ?_
    have f4 : gK (pI h0 (gR h0 l0 56) i2 0) l0 = 14 := (gK_pI _ _ _ _ _).trans f2
    replace F := F _ rfl
    generalize pI h0 (gR h0 l0 56) i2 0 = h1 at F f4 ⊢
    refine wp_iinc (y := 1) (L2 := [some (vR l0), none, some (vI (l2 + 1))]) rfl rfl rfl rfl rfl ?_
    replace F := F _ rfl
    generalize (l2 + 1 : Int32) = v0 at F ⊢
    refine wp_goto rfl rfl ?_
    exact F
  · replace F := F.2 c
    refine wp_aload' (L' := [some (vR l0), none, none]) rfl rfl rfl rfl ?_
    refine wp_dup rfl rfl rfl ?_
    obtain ⟨f5, F⟩ := F
    refine wp_getI rfl rfl rfl f5 rfl ?_
    refine wp_const rfl rfl ?_
    refine wp_iadd rfl rfl ?_
    obtain ⟨f6, F⟩ := F
    refine wp_putI rfl rfl rfl f6 f5 rfl ?_
    have f7 : gK (pI h l0 53 ((gI h l0 53) + 1)) l0 = 14 := (gK_pI _ _ _ _ _).trans f5
    replace F := F _ rfl
    generalize pI h l0 53 ((gI h l0 53) + 1) = h2 at F f7 ⊢
    refine wp_aload rfl rfl rfl ?_
    refine wp_getI rfl rfl rfl f7 rfl ?_
    refine wp_const rfl rfl ?_
    refine wp_isub rfl rfl ?_
    exact wp_retI rfl (Or.inl rfl) F
-- CensusOffice recordAt (I)LCensusOffice$Rec;
theorem m172 {d : Nat} {a0 : Nat} {a1 : Int32} {h : aH} {K : Nat → aH → Prop} {X : Nat → aH → Prop} (F : gK h a0 = 1 ∧ 8 ≤ (gR h a0 6) ∧ gK h (gR h a0 6) = 13 ∧ CI d 65 [vR (gR h a0 6)] h (fun y0 h0 => CV d 29 [vI a1, vI y0] h0 (fun h1 => gK h1 a0 = 1 ∧ 8 ≤ (gR h1 a0 6) ∧ gK h1 (gR h1 a0 6) = 13 ∧ CR d 119 [vR (gR h1 a0 6), vI a1] h1 (fun q0 h2 => (q0 = 0 ∨ gK h2 q0 = 5) ∧ K q0 h2) X) X) X) : CR (d + 1) 172 [vR a0, vI a1] h K X := by
  show Wp (d + 1) 172 (0, [some (vR a0), some (vI a1)], [], h) (RR K X)
  refine wp_iload rfl rfl rfl ?_
  refine wp_aload rfl rfl rfl ?_
  obtain ⟨f0, F⟩ := F
  refine wp_getR rfl rfl rfl f0 rfl ?_
  obtain ⟨f1, F⟩ := F
  obtain ⟨f2, F⟩ := F
  refine wp_callI rfl rfl rfl (rcv_v f1 f2 (by decide) (by decide)) rfl rfl rfl rfl ?_
  refine CI.mono F (fun y0 h0 F => ?_) (fun _ _ w => rx_R w)
  refine wp_callV rfl rfl rfl rfl rfl rfl rfl rfl ?_
  refine CV.mono F (fun h1 F => ?_) (fun _ _ w => rx_R w)
  refine wp_aload rfl rfl rfl ?_
  obtain ⟨f3, F⟩ := F
  refine wp_getR rfl rfl rfl f3 rfl ?_
  refine wp_iload rfl rfl rfl ?_
  obtain ⟨f4, F⟩ := F
  obtain ⟨f5, F⟩ := F
  refine wp_callR rfl rfl rfl (rcv_v f4 f5 (by decide) (by decide)) rfl rfl rfl rfl ?_
  refine CR.mono F (fun q0 h2 F => ?_) (fun _ _ w => rx_R w)
  refine wp_cast rfl F.1 rfl ?_
  replace F := F.2
  exact wp_retR rfl F
-- CensusOffice item (II)I
theorem m173 {d : Nat} {a0 : Nat} {a1 : Int32} {a2 : Int32} {h : aH} {K : Int32 → aH → Prop} {X : Nat → aH → Prop} (F : 8 ≤ a0 ∧ gK h a0 = 1 ∧ CR d 172 [vR a0, vI a1] h (fun q0 h0 => gK h0 q0 = 5 ∧ gK h0 a0 = 1 ∧ CV d 121 [vR a0, vR (gR h0 q0 0), vI a2] h0 (fun h1 => gK h1 q0 = 5 ∧ ∃ i0 : Nat, inB h1 100 (gR h1 q0 3) a2 i0 ∧ K (gI h1 (gR h1 q0 3) i0) h1) X) X) : CI (d + 1) 173 [vR a0, vI a1, vI a2] h K X := by
  show Wp (d + 1) 173 (0, [some (vR a0), some (vI a1), some (vI a2), none], [], h) (RI K X)
  refine wp_aload rfl rfl rfl ?_
  refine wp_iload rfl rfl rfl ?_
  obtain ⟨f0, F⟩ := F
  obtain ⟨f1, F⟩ := F
  refine wp_callR rfl rfl rfl (rcv_v f0 f1 (by decide) (by decide)) rfl rfl rfl rfl ?_
  refine CR.mono F (fun q0 h0 F => ?_) (fun _ _ w => rx_I w)
  refine wp_astore (L2 := [some (vR a0), some (vI a1), some (vI a2), some (vR q0)]) rfl rfl rfl rfl ?_
  refine wp_aload rfl rfl rfl ?_
  refine wp_aload rfl rfl rfl ?_
  obtain ⟨f2, F⟩ := F
  refine wp_getR rfl rfl rfl f2 rfl ?_
  refine wp_iload rfl rfl rfl ?_
  obtain ⟨f3, F⟩ := F
  refine wp_callV rfl rfl rfl (rcv_v f0 f3 (by decide) (by decide)) rfl rfl rfl rfl ?_
  refine CV.mono F (fun h1 F => ?_) (fun _ _ w => rx_I w)
  refine wp_aload rfl rfl rfl ?_
  obtain ⟨f4, F⟩ := F
  refine wp_getR rfl rfl rfl f4 rfl ?_
  refine wp_iload rfl rfl rfl ?_
  obtain ⟨i0, b9, F⟩ := F
  refine wp_iaload rfl b9 rfl ?_
  exact wp_retI rfl (Or.inl rfl) F
-- CensusOfficeLaw item (LCensusOffice;II[J)I
theorem m174 {d : Nat} {a0 : Nat} {a1 : Int32} {a2 : Int32} {a3 : Nat} {h : aH} {K : Int32 → aH → Prop} {X : Nat → aH → Prop} (F : 8 ≤ a0 ∧ gK h a0 = 1 ∧ CI d 173 [vR a0, vI a1, vI a2] h (fun y0 h0 => 8 ≤ a3 ∧ inB h0 101 a3 0 0 ∧ ∀ h1 : aH, h1 = pJ h0 a3 0 (y0.toInt64) → K 0 h1) (fun x9 h9 => (x9 = 3 ∧ K 1 h9))) : CI (d + 1) 174 [vR a0, vI a1, vI a2, vR a3] h K X := by
  show Wp (d + 1) 174 (0, [some (vR a0), some (vI a1), some (vI a2), some (vR a3), none], [], h) (RI K X)
  refine wp_aload rfl rfl rfl ?_
  refine wp_const rfl rfl ?_
  refine wp_aload rfl rfl rfl ?_
  refine wp_iload rfl rfl rfl ?_
  refine wp_iload rfl rfl rfl ?_
  obtain ⟨f0, F⟩ := F
  obtain ⟨f1, F⟩ := F
  refine wp_callhI (X := (fun x9 h9 => (x9 = 3 ∧ K 1 h9))) rfl rfl rfl (rcv_v f0 f1 (by decide) (by decide)) rfl rfl rfl (fun x9 h9 F => ?_) ?_
  · rcases F with ⟨rfl, F⟩
    · refine ⟨13, rfl, ?_⟩
      refine wp_astoreJ' (L' := [none, none, none, none, none]) (L2 := [none, none, none, none, some vJ]) rfl rfl rfl rfl rfl ?_
      refine wp_const rfl rfl ?_
      exact wp_retI rfl (Or.inl rfl) F
  · refine CI.mono F (fun y0 h0 F => ?_) (fun _ _ w => w)
    refine wp_i2l rfl rfl ?_
    obtain ⟨f2, F⟩ := F
    obtain ⟨b9, F⟩ := F
    refine wp_lastore rfl f2 b9 rfl ?_
    replace F := F _ rfl
    generalize pJ h0 a3 0 (y0.toInt64) = h1 at F ⊢
    refine wp_goto rfl rfl ?_
    refine wp_const' (L' := [none, none, none, none, none]) rfl rfl rfl ?_
    exact wp_retI rfl (Or.inl rfl) F
-- CensusOfficeModel formOf (I)I
theorem m175 {d : Nat} {a0 : Nat} {a1 : Int32} {h : aH} {K : Int32 → aH → Prop} {X : Nat → aH → Prop} (F : gK h a0 = 14 ∧ ∃ i0 : Nat, inB h 100 (gR h a0 54) a1 i0 ∧ ∃ i1 : Nat, inB h 100 (gR h a0 39) (gI h (gR h a0 54) i0) i1 ∧ K (gI h (gR h a0 39) i1) h) : CI d 175 [vR a0, vI a1] h K X := by
  show Wp d 175 (0, [some (vR a0), some (vI a1)], [], h) (RI K X)
  refine wp_aload rfl rfl rfl ?_
  obtain ⟨f0, F⟩ := F
  refine wp_getR rfl rfl rfl f0 rfl ?_
  refine wp_aload rfl rfl rfl ?_
  refine wp_getR rfl rfl rfl f0 rfl ?_
  refine wp_iload rfl rfl rfl ?_
  obtain ⟨i0, b9, F⟩ := F
  refine wp_iaload rfl b9 rfl ?_
  obtain ⟨i1, b9, F⟩ := F
  refine wp_iaload rfl b9 rfl ?_
  exact wp_retI rfl (Or.inl rfl) F
-- CensusOfficeModel isItem (II)Z
theorem m176 {d : Nat} {a0 : Nat} {a1 : Int32} {a2 : Int32} {h : aH} {K : Int32 → aH → Prop} {X : Nat → aH → Prop} (F : gK h a0 = 14 ∧ CI d 14 [vL (a1.toInt64), vL 0, vL (((gI h a0 53) - 1).toInt64)] h (fun y0 h0 => ((y0.toInt = 0 → K 0 h0) ∧ (¬ y0.toInt = 0 → gK h0 a0 = 14 ∧ 8 ≤ a0 ∧ CI d 175 [vR a0, vI a1] h0 (fun y1 h1 => ∃ i0 : Nat, inB h1 100 (gR h0 a0 15) y1 i0 ∧ CI d 14 [vL (a2.toInt64), vL 0, vL (((gI h1 (gR h0 a0 15) i0) - 1).toInt64)] h1 (fun y2 h2 => ((y2.toInt = 0 → K 0 h2) ∧ (¬ y2.toInt = 0 → K 1 h2))) X) X))) X) : CI (d + 1) 176 [vR a0, vI a1, vI a2] h K X := by
  show Wp (d + 1) 176 (0, [some (vR a0), some (vI a1), some (vI a2)], [], h) (RI K X)
  refine wp_iload rfl rfl rfl ?_
  refine wp_i2l rfl rfl ?_
  refine wp_const rfl rfl ?_
  refine wp_aload rfl rfl rfl ?_
  obtain ⟨f0, F⟩ := F
  refine wp_getI rfl rfl rfl f0 rfl ?_
  refine wp_const rfl rfl ?_
  refine wp_isub rfl rfl ?_
  refine wp_i2l rfl rfl ?_
  refine wp_callI rfl rfl rfl rfl rfl rfl rfl rfl ?_
  refine CI.mono F (fun y0 h0 F => ?_) (fun _ _ w => rx_I w)
  refine wp_if_eq rfl rfl rfl rfl (fun c => ?_) (fun c => ?_)
  · replace F := F.1 c
    refine wp_const' (L' := [none, none, none]) rfl rfl rfl ?_
    exact wp_retI rfl (Or.inr rfl) F
  · replace F := F.2 c
    refine wp_iload rfl rfl rfl ?_
    refine wp_i2l rfl rfl ?_
    refine wp_const rfl rfl ?_
    refine wp_aload rfl rfl rfl ?_
    obtain ⟨f1, F⟩ := F
    refine wp_getR rfl rfl rfl f1 rfl ?_
    refine wp_aload rfl rfl rfl ?_
    refine wp_iload rfl rfl rfl ?_
    obtain ⟨f2, F⟩ := F
    refine wp_callI rfl rfl rfl (rcv_v f2 f1 (by decide) (by decide)) rfl rfl rfl rfl ?_
    refine CI.mono F (fun y1 h1 F => ?_) (fun _ _ w => rx_I w)
    obtain ⟨i0, b9, F⟩ := F
    refine wp_iaload rfl b9 rfl ?_
    refine wp_const rfl rfl ?_
    refine wp_isub rfl rfl ?_
    refine wp_i2l rfl rfl ?_
    refine wp_callI rfl rfl rfl rfl rfl rfl rfl rfl ?_
    refine CI.mono F (fun y2 h2 F => ?_) (fun _ _ w => rx_I w)
    refine wp_if_eq rfl rfl rfl rfl (fun c => ?_) (fun c => ?_)
    · replace F := F.1 c
      refine wp_const' (L' := [none, none, none]) rfl rfl rfl ?_
      exact wp_retI rfl (Or.inr rfl) F
    · replace F := F.2 c
      refine wp_const rfl rfl ?_
      refine wp_goto rfl rfl ?_
      exact wp_retI rfl (Or.inr rfl) F
-- CensusOfficeModel item (II)I
theorem m177 {d : Nat} {a0 : Nat} {a1 : Int32} {a2 : Int32} {h : aH} {K : Int32 → aH → Prop} {X : Nat → aH → Prop} (F : 8 ≤ a0 ∧ gK h a0 = 14 ∧ ∀ h0 : aH, h0 = pI h a0 0 0 → CI d 176 [vR a0, vI a1, vI a2] h0 (fun y0 h1 => ((y0.toInt = 0 → gK h1 a0 = 14 ∧ CI d 15 [vR a0, vI 1] h1 (fun y1 h2 => K y1 h2) X) ∧ (¬ y0.toInt = 0 → gK h1 a0 = 14 ∧ ∃ i0 : Nat, inB h1 100 (gR h1 a0 55) ((20 * a1) + a2) i0 ∧ K (gI h1 (gR h1 a0 55) i0) h1))) X) : CI (d + 1) 177 [vR a0, vI a1, vI a2] h K X := by
  show Wp (d + 1) 177 (0, [some (vR a0), some (vI a1), some (vI a2)], [], h) (RI K X)
  refine wp_aload rfl rfl rfl ?_
  refine wp_const rfl rfl ?_
  obtain ⟨f0, F⟩ := F
  obtain ⟨f1, F⟩ := F
  refine wp_putI rfl rfl rfl f0 f1 rfl ?_
  have f2 : gK (pI h a0 0 0) a0 = 14 := (gK_pI _ _ _ _ _).trans f1
  replace F := F _ rfl
  generalize pI h a0 0 0 = h0 at F f2 ⊢
  refine wp_aload rfl rfl rfl ?_
  refine wp_iload rfl rfl rfl ?_
  refine wp_iload rfl rfl rfl ?_
  refine wp_callI rfl rfl rfl (rcv_v f0 f2 (by decide) (by decide)) rfl rfl rfl rfl ?_
  refine CI.mono F (fun y0 h1 F => ?_) (fun _ _ w => rx_I w)
  refine wp_if_eq rfl rfl rfl rfl (fun c => ?_) (fun c => ?_)
  · replace F := F.1 c
    refine wp_aload' (L' := [some (vR a0), none, none]) rfl rfl rfl rfl ?_
    refine wp_const rfl rfl ?_
    obtain ⟨f3, F⟩ := F
    refine wp_callI rfl rfl rfl (rcv_v f0 f3 (by decide) (by decide)) rfl rfl rfl rfl ?_
    refine CI.mono F (fun y1 h2 F => ?_) (fun _ _ w => rx_I w)
    exact wp_retI rfl (Or.inl rfl) F
  · replace F := F.2 c
    refine wp_aload rfl rfl rfl ?_
    obtain ⟨f4, F⟩ := F
    refine wp_getR rfl rfl rfl f4 rfl ?_
    refine wp_const rfl rfl ?_
    refine wp_iload rfl rfl rfl ?_
    refine wp_imul rfl rfl ?_
    refine wp_iload rfl rfl rfl ?_
    refine wp_iadd rfl rfl ?_
    obtain ⟨i0, b9, F⟩ := F
    refine wp_iaload rfl b9 rfl ?_
    refine wp_goto rfl rfl ?_
    exact wp_retI rfl (Or.inl rfl) F
-- CensusOffice mark (II)I
theorem m178 {d : Nat} {a0 : Nat} {a1 : Int32} {a2 : Int32} {h : aH} {K : Int32 → aH → Prop} {X : Nat → aH → Prop} (F : 8 ≤ a0 ∧ gK h a0 = 1 ∧ CR d 172 [vR a0, vI a1] h (fun q0 h0 => gK h0 q0 = 5 ∧ gK h0 a0 = 1 ∧ CV d 121 [vR a0, vR (gR h0 q0 0), vI a2] h0 (fun h1 => gK h1 q0 = 5 ∧ ∃ i0 : Nat, inB h1 100 (gR h1 q0 4) a2 i0 ∧ K (gI h1 (gR h1 q0 4) i0) h1) X) X) : CI (d + 1) 178 [vR a0, vI a1, vI a2] h K X := by
  show Wp (d + 1) 178 (0, [some (vR a0), some (vI a1), some (vI a2), none], [], h) (RI K X)
  refine wp_aload rfl rfl rfl ?_
  refine wp_iload rfl rfl rfl ?_
  obtain ⟨f0, F⟩ := F
  obtain ⟨f1, F⟩ := F
  refine wp_callR rfl rfl rfl (rcv_v f0 f1 (by decide) (by decide)) rfl rfl rfl rfl ?_
  refine CR.mono F (fun q0 h0 F => ?_) (fun _ _ w => rx_I w)
  refine wp_astore (L2 := [some (vR a0), some (vI a1), some (vI a2), some (vR q0)]) rfl rfl rfl rfl ?_
  refine wp_aload rfl rfl rfl ?_
  refine wp_aload rfl rfl rfl ?_
  obtain ⟨f2, F⟩ := F
  refine wp_getR rfl rfl rfl f2 rfl ?_
  refine wp_iload rfl rfl rfl ?_
  obtain ⟨f3, F⟩ := F
  refine wp_callV rfl rfl rfl (rcv_v f0 f3 (by decide) (by decide)) rfl rfl rfl rfl ?_
  refine CV.mono F (fun h1 F => ?_) (fun _ _ w => rx_I w)
  refine wp_aload rfl rfl rfl ?_
  obtain ⟨f4, F⟩ := F
  refine wp_getR rfl rfl rfl f4 rfl ?_
  refine wp_iload rfl rfl rfl ?_
  obtain ⟨i0, b9, F⟩ := F
  refine wp_iaload rfl b9 rfl ?_
  exact wp_retI rfl (Or.inl rfl) F
-- CensusOfficeLaw mark (LCensusOffice;II[J)I
theorem m179 {d : Nat} {a0 : Nat} {a1 : Int32} {a2 : Int32} {a3 : Nat} {h : aH} {K : Int32 → aH → Prop} {X : Nat → aH → Prop} (F : 8 ≤ a0 ∧ gK h a0 = 1 ∧ CI d 178 [vR a0, vI a1, vI a2] h (fun y0 h0 => 8 ≤ a3 ∧ inB h0 101 a3 0 0 ∧ ∀ h1 : aH, h1 = pJ h0 a3 0 (y0.toInt64) → K 0 h1) (fun x9 h9 => (x9 = 3 ∧ K 1 h9))) : CI (d + 1) 179 [vR a0, vI a1, vI a2, vR a3] h K X := by
  show Wp (d + 1) 179 (0, [some (vR a0), some (vI a1), some (vI a2), some (vR a3), none], [], h) (RI K X)
  refine wp_aload rfl rfl rfl ?_
  refine wp_const rfl rfl ?_
  refine wp_aload rfl rfl rfl ?_
  refine wp_iload rfl rfl rfl ?_
  refine wp_iload rfl rfl rfl ?_
  obtain ⟨f0, F⟩ := F
  obtain ⟨f1, F⟩ := F
  refine wp_callhI (X := (fun x9 h9 => (x9 = 3 ∧ K 1 h9))) rfl rfl rfl (rcv_v f0 f1 (by decide) (by decide)) rfl rfl rfl (fun x9 h9 F => ?_) ?_
  · rcases F with ⟨rfl, F⟩
    · refine ⟨13, rfl, ?_⟩
      refine wp_astoreJ' (L' := [none, none, none, none, none]) (L2 := [none, none, none, none, some vJ]) rfl rfl rfl rfl rfl ?_
      refine wp_const rfl rfl ?_
      exact wp_retI rfl (Or.inl rfl) F
  · refine CI.mono F (fun y0 h0 F => ?_) (fun _ _ w => w)
    refine wp_i2l rfl rfl ?_
    obtain ⟨f2, F⟩ := F
    obtain ⟨b9, F⟩ := F
    refine wp_lastore rfl f2 b9 rfl ?_
    replace F := F _ rfl
    generalize pJ h0 a3 0 (y0.toInt64) = h1 at F ⊢
    refine wp_goto rfl rfl ?_
    refine wp_const' (L' := [none, none, none, none, none]) rfl rfl rfl ?_
    exact wp_retI rfl (Or.inl rfl) F
-- CensusOfficeModel mark (II)I
theorem m180 {d : Nat} {a0 : Nat} {a1 : Int32} {a2 : Int32} {h : aH} {K : Int32 → aH → Prop} {X : Nat → aH → Prop} (F : 8 ≤ a0 ∧ gK h a0 = 14 ∧ ∀ h0 : aH, h0 = pI h a0 0 0 → CI d 176 [vR a0, vI a1, vI a2] h0 (fun y0 h1 => ((y0.toInt = 0 → gK h1 a0 = 14 ∧ CI d 15 [vR a0, vI 1] h1 (fun y1 h2 => K y1 h2) X) ∧ (¬ y0.toInt = 0 → gK h1 a0 = 14 ∧ ∃ i0 : Nat, inB h1 100 (gR h1 a0 56) ((20 * a1) + a2) i0 ∧ K (gI h1 (gR h1 a0 56) i0) h1))) X) : CI (d + 1) 180 [vR a0, vI a1, vI a2] h K X := by
  show Wp (d + 1) 180 (0, [some (vR a0), some (vI a1), some (vI a2)], [], h) (RI K X)
  refine wp_aload rfl rfl rfl ?_
  refine wp_const rfl rfl ?_
  obtain ⟨f0, F⟩ := F
  obtain ⟨f1, F⟩ := F
  refine wp_putI rfl rfl rfl f0 f1 rfl ?_
  have f2 : gK (pI h a0 0 0) a0 = 14 := (gK_pI _ _ _ _ _).trans f1
  replace F := F _ rfl
  generalize pI h a0 0 0 = h0 at F f2 ⊢
  refine wp_aload rfl rfl rfl ?_
  refine wp_iload rfl rfl rfl ?_
  refine wp_iload rfl rfl rfl ?_
  refine wp_callI rfl rfl rfl (rcv_v f0 f2 (by decide) (by decide)) rfl rfl rfl rfl ?_
  refine CI.mono F (fun y0 h1 F => ?_) (fun _ _ w => rx_I w)
  refine wp_if_eq rfl rfl rfl rfl (fun c => ?_) (fun c => ?_)
  · replace F := F.1 c
    refine wp_aload' (L' := [some (vR a0), none, none]) rfl rfl rfl rfl ?_
    refine wp_const rfl rfl ?_
    obtain ⟨f3, F⟩ := F
    refine wp_callI rfl rfl rfl (rcv_v f0 f3 (by decide) (by decide)) rfl rfl rfl rfl ?_
    refine CI.mono F (fun y1 h2 F => ?_) (fun _ _ w => rx_I w)
    exact wp_retI rfl (Or.inl rfl) F
  · replace F := F.2 c
    refine wp_aload rfl rfl rfl ?_
    obtain ⟨f4, F⟩ := F
    refine wp_getR rfl rfl rfl f4 rfl ?_
    refine wp_const rfl rfl ?_
    refine wp_iload rfl rfl rfl ?_
    refine wp_imul rfl rfl ?_
    refine wp_iload rfl rfl rfl ?_
    refine wp_iadd rfl rfl ?_
    obtain ⟨i0, b9, F⟩ := F
    refine wp_iaload rfl b9 rfl ?_
    refine wp_goto rfl rfl ?_
    exact wp_retI rfl (Or.inl rfl) F
-- CensusOffice needStatementOrNone (LCensusOffice$Form;I)V
theorem m181 {d : Nat} {a0 : Nat} {a1 : Nat} {a2 : Int32} {h : aH} {K : aH → Prop} {X : Nat → aH → Prop} (F : ((a2.toInt = (-1) → K h) ∧ (¬ a2.toInt = (-1) → gK h a1 = 3 ∧ CV d 29 [vI a2, vI (gI h a1 11)] h (fun h0 => K h0) X))) : CV (d + 1) 181 [vR a0, vR a1, vI a2] h K X := by
  show Wp (d + 1) 181 (0, [some (vR a0), some (vR a1), some (vI a2)], [], h) (RV K X)
  refine wp_iload rfl rfl rfl ?_
  refine wp_const rfl rfl ?_
  refine wp_icmp_eq (Y := (-1)) rfl rfl rfl rfl rfl (fun c => ?_) (fun c => ?_)
  · replace F := F.1 c
    exact wp_retV rfl F
  · replace F := F.2 c
    refine wp_iload rfl rfl rfl ?_
    refine wp_aload rfl rfl rfl ?_
    obtain ⟨f0, F⟩ := F
    refine wp_getI rfl rfl rfl f0 rfl ?_
    refine wp_callV rfl rfl rfl rfl rfl rfl rfl rfl ?_
    refine CV.mono F (fun h0 F => ?_) (fun _ _ w => rx_V w)
    exact wp_retV rfl F
-- CensusOffice$Form isAsk (I)Z
theorem m182 {d : Nat} {a0 : Nat} {a1 : Int32} {h : aH} {K : Int32 → aH → Prop} {X : Nat → aH → Prop} (F : 8 ≤ a0 ∧ gK h a0 = 3 ∧ CI d 141 [vR a0, vI a1] h (fun y0 h0 => ((y0.toInt = 0 → K 0 h0) ∧ (¬ y0.toInt = 0 → gK h0 a0 = 3 ∧ ∃ i0 : Nat, inB h0 100 (gR h0 a0 2) a1 i0 ∧ (((gI h0 (gR h0 a0 2) i0).toInt = 0 → K 1 h0) ∧ (¬ (gI h0 (gR h0 a0 2) i0).toInt = 0 → K 0 h0))))) X) : CI (d + 1) 182 [vR a0, vI a1] h K X := by
  show Wp (d + 1) 182 (0, [some (vR a0), some (vI a1)], [], h) (RI K X)
  refine wp_aload rfl rfl rfl ?_
  refine wp_iload rfl rfl rfl ?_
  obtain ⟨f0, F⟩ := F
  obtain ⟨f1, F⟩ := F
  refine wp_callI rfl rfl rfl (rcv_v f0 f1 (by decide) (by decide)) rfl rfl rfl rfl ?_
  refine CI.mono F (fun y0 h0 F => ?_) (fun _ _ w => rx_I w)
  refine wp_if_eq rfl rfl rfl rfl (fun c => ?_) (fun c => ?_)
  · replace F := F.1 c
    refine wp_const' (L' := [none, none]) rfl rfl rfl ?_
    exact wp_retI rfl (Or.inr rfl) F
  · replace F := F.2 c
    refine wp_aload rfl rfl rfl ?_
    obtain ⟨f2, F⟩ := F
    refine wp_getR rfl rfl rfl f2 rfl ?_
    refine wp_iload rfl rfl rfl ?_
    obtain ⟨i0, b9, F⟩ := F
    refine wp_iaload rfl b9 rfl ?_
    refine wp_if_ne rfl rfl rfl rfl (fun c => ?_) (fun c => ?_)
    · replace F := F.1 c
      refine wp_const rfl rfl ?_
      refine wp_goto rfl rfl ?_
      exact wp_retI rfl (Or.inr rfl) F
    · replace F := F.2 c
      refine wp_const' (L' := [none, none]) rfl rfl rfl ?_
      exact wp_retI rfl (Or.inr rfl) F
-- CensusOffice$Form addRule (III)I
theorem m183 {d : Nat} {a0 : Nat} {a1 : Int32} {a2 : Int32} {a3 : Int32} {h : aH} {K : Int32 → aH → Prop} {X : Nat → aH → Prop} (F : gK h a0 = 3 ∧ 8 ≤ (gR h a0 9) ∧ gK h (gR h a0 9) = 8 ∧ CI d 21 [vR (gR h a0 9)] h (fun y0 h0 => gK h0 a0 = 3 ∧ 8 ≤ (gR h0 a0 9) ∧ gK h0 (gR h0 a0 9) = 8 ∧ CV d 23 [vR (gR h0 a0 9), vI y0, vI 0, vI a1] h0 (fun h1 => gK h1 a0 = 3 ∧ 8 ≤ (gR h1 a0 9) ∧ gK h1 (gR h1 a0 9) = 8 ∧ CV d 23 [vR (gR h1 a0 9), vI y0, vI 1, vI a2] h1 (fun h2 => gK h2 a0 = 3 ∧ 8 ≤ (gR h2 a0 9) ∧ gK h2 (gR h2 a0 9) = 8 ∧ CV d 23 [vR (gR h2 a0 9), vI y0, vI 2, vI a3] h2 (fun h3 => K y0 h3) X) X) X) X) : CI (d + 1) 183 [vR a0, vI a1, vI a2, vI a3] h K X := by
  show Wp (d + 1) 183 (0, [some (vR a0), some (vI a1), some (vI a2), some (vI a3), none], [], h) (RI K X)
  refine wp_aload rfl rfl rfl ?_
  obtain ⟨f0, F⟩ := F
  refine wp_getR rfl rfl rfl f0 rfl ?_
  obtain ⟨f1, F⟩ := F
  obtain ⟨f2, F⟩ := F
  refine wp_callI rfl rfl rfl (rcv_v f1 f2 (by decide) (by decide)) rfl rfl rfl rfl ?_
  refine CI.mono F (fun y0 h0 F => ?_) (fun _ _ w => rx_I w)
  refine wp_istore (L2 := [some (vR a0), some (vI a1), some (vI a2), some (vI a3), some (vI y0)]) rfl rfl rfl rfl ?_
  refine wp_aload rfl rfl rfl ?_
  obtain ⟨f3, F⟩ := F
  refine wp_getR rfl rfl rfl f3 rfl ?_
  refine wp_iload rfl rfl rfl ?_
  refine wp_const rfl rfl ?_
  refine wp_iload rfl rfl rfl ?_
  obtain ⟨f4, F⟩ := F
  obtain ⟨f5, F⟩ := F
  refine wp_callV rfl rfl rfl (rcv_v f4 f5 (by decide) (by decide)) rfl rfl rfl rfl ?_
  refine CV.mono F (fun h1 F => ?_) (fun _ _ w => rx_I w)
  refine wp_aload rfl rfl rfl ?_
  obtain ⟨f6, F⟩ := F
  refine wp_getR rfl rfl rfl f6 rfl ?_
  refine wp_iload rfl rfl rfl ?_
  refine wp_const rfl rfl ?_
  refine wp_iload rfl rfl rfl ?_
  obtain ⟨f7, F⟩ := F
  obtain ⟨f8, F⟩ := F
  refine wp_callV rfl rfl rfl (rcv_v f7 f8 (by decide) (by decide)) rfl rfl rfl rfl ?_
  refine CV.mono F (fun h2 F => ?_) (fun _ _ w => rx_I w)
  refine wp_aload rfl rfl rfl ?_
  obtain ⟨f9, F⟩ := F
  refine wp_getR rfl rfl rfl f9 rfl ?_
  refine wp_iload rfl rfl rfl ?_
  refine wp_const rfl rfl ?_
  refine wp_iload rfl rfl rfl ?_
  obtain ⟨f10, F⟩ := F
  obtain ⟨f11, F⟩ := F
  refine wp_callV rfl rfl rfl (rcv_v f10 f11 (by decide) (by decide)) rfl rfl rfl rfl ?_
  refine CV.mono F (fun h3 F => ?_) (fun _ _ w => rx_I w)
  refine wp_iload rfl rfl rfl ?_
  exact wp_retI rfl (Or.inl rfl) F
-- CensusOffice rule (IIII)I
theorem m184 {d : Nat} {a0 : Nat} {a1 : Int32} {a2 : Int32} {a3 : Int32} {a4 : Int32} {h : aH} {K : Int32 → aH → Prop} {X : Nat → aH → Prop} (F : 8 ≤ a0 ∧ gK h a0 = 1 ∧ CR d 120 [vR a0, vI a1] h (fun q0 h0 => gK h0 a0 = 1 ∧ CV d 181 [vR a0, vR q0, vI a2] h0 (fun h1 => gK h1 a0 = 1 ∧ CV d 181 [vR a0, vR q0, vI a3] h1 (fun h2 => ((a2.toInt = (-1) → Wp (d + 1) 184 (35, [none, none, some (vI a2), some (vI a3), some (vI a4), some (vR q0)], [], h2) (RI K X)) ∧ (¬ a2.toInt = (-1) → 8 ≤ q0 ∧ gK h2 q0 = 3 ∧ CI d 182 [vR q0, vI a2] h2 (fun y0 h3 => ((y0.toInt = 0 → X 1 (gNew h3 200 6)) ∧ (¬ y0.toInt = 0 → Wp (d + 1) 184 (35, [none, none, some (vI a2), some (vI a3), some (vI a4), some (vR q0)], [], h3) (RI K X)))) X))) X) X) X) : CI (d + 1) 184 [vR a0, vI a1, vI a2, vI a3, vI a4] h K X := by
  show Wp (d + 1) 184 (0, [some (vR a0), some (vI a1), some (vI a2), some (vI a3), some (vI a4), none], [], h) (RI K X)
  refine wp_aload rfl rfl rfl ?_
  refine wp_iload rfl rfl rfl ?_
  obtain ⟨f0, F⟩ := F
  obtain ⟨f1, F⟩ := F
  refine wp_callR rfl rfl rfl (rcv_v f0 f1 (by decide) (by decide)) rfl rfl rfl rfl ?_
  refine CR.mono F (fun q0 h0 F => ?_) (fun _ _ w => rx_I w)
  refine wp_astore (L2 := [some (vR a0), some (vI a1), some (vI a2), some (vI a3), some (vI a4), some (vR q0)]) rfl rfl rfl rfl ?_
  refine wp_aload rfl rfl rfl ?_
  refine wp_aload rfl rfl rfl ?_
  refine wp_iload rfl rfl rfl ?_
  obtain ⟨f2, F⟩ := F
  refine wp_callV rfl rfl rfl (rcv_v f0 f2 (by decide) (by decide)) rfl rfl rfl rfl ?_
  refine CV.mono F (fun h1 F => ?_) (fun _ _ w => rx_I w)
  refine wp_aload rfl rfl rfl ?_
  refine wp_aload rfl rfl rfl ?_
  refine wp_iload rfl rfl rfl ?_
  obtain ⟨f3, F⟩ := F
  refine wp_callV rfl rfl rfl (rcv_v f0 f3 (by decide) (by decide)) rfl rfl rfl rfl ?_
  refine CV.mono F (fun h2 F => ?_) (fun _ _ w => rx_I w)
  refine wp_iload rfl rfl rfl ?_
  refine wp_const rfl rfl ?_
  refine wp_icmp_eq (Y := (-1)) rfl rfl rfl rfl rfl (fun c => ?_) (fun c => ?_)
  · replace F := F.1 c
    refine wp_kill (L' := [none, none, some (vI a2), some (vI a3), some (vI a4), some (vR q0)]) rfl rfl ?_
    exact F
  · replace F := F.2 c
    refine wp_aload rfl rfl rfl ?_
    refine wp_iload rfl rfl rfl ?_
    obtain ⟨f4, F⟩ := F
    obtain ⟨f5, F⟩ := F
    refine wp_callI rfl rfl rfl (rcv_v f4 f5 (by decide) (by decide)) rfl rfl rfl rfl ?_
    refine CI.mono F (fun y0 h3 F => ?_) (fun _ _ w => rx_I w)
    refine wp_if_eq rfl rfl rfl rfl (fun c => ?_) (fun c => ?_)
    · replace F := F.1 c
      exact wp_thrI rfl F
    · replace F := F.2 c
      refine wp_kill (L' := [none, none, some (vI a2), some (vI a3), some (vI a4), some (vR q0)]) rfl rfl ?_
      exact F
theorem w184_35 {d : Nat} {l2 : Int32} {l3 : Int32} {l4 : Int32} {l5 : Nat} {h : aH} {K : Int32 → aH → Prop} {X : Nat → aH → Prop} (F : ((l3.toInt = (-1) → Wp (d + 1) 184 (60, [none, none, some (vI l2), some (vI l3), some (vI l4), some (vR l5)], [], h) (RI K X)) ∧ (¬ l3.toInt = (-1) → 8 ≤ l5 ∧ gK h l5 = 3 ∧ CI d 182 [vR l5, vI l3] h (fun y0 h0 => ((y0.toInt = 0 → X 1 (gNew h0 200 6)) ∧ (¬ y0.toInt = 0 → Wp (d + 1) 184 (60, [none, none, some (vI l2), some (vI l3), some (vI l4), some (vR l5)], [], h0) (RI K X)))) X))) : Wp (d + 1) 184 (35, [none, none, some (vI l2), some (vI l3), some (vI l4), some (vR l5)], [], h) (RI K X) := by
  refine wp_iload' (L' := [none, none, some (vI l2), some (vI l3), some (vI l4), some (vR l5)]) rfl rfl rfl rfl ?_
  refine wp_const rfl rfl ?_
  refine wp_icmp_eq (Y := (-1)) rfl rfl rfl rfl rfl (fun c => ?_) (fun c => ?_)
  · replace F := F.1 c
    exact F
  · replace F := F.2 c
    refine wp_aload rfl rfl rfl ?_
    refine wp_iload rfl rfl rfl ?_
    obtain ⟨f0, F⟩ := F
    obtain ⟨f1, F⟩ := F
    refine wp_callI rfl rfl rfl (rcv_v f0 f1 (by decide) (by decide)) rfl rfl rfl rfl ?_
    refine CI.mono F (fun y0 h0 F => ?_) (fun _ _ w => rx_I w)
    refine wp_if_ne rfl rfl rfl rfl (fun c => ?_) (fun c => ?_)
    · replace F := F.1 c
      exact wp_thrI rfl F
    · replace F := F.2 c
      exact F
theorem w184_60 {d : Nat} {l2 : Int32} {l3 : Int32} {l4 : Int32} {l5 : Nat} {h : aH} {K : Int32 → aH → Prop} {X : Nat → aH → Prop} (F : ((l2.toInt = l3.toInt → X 1 (gNew h 200 6)) ∧ (¬ l2.toInt = l3.toInt → ((l4.toInt < (-2000000) → X 1 (gNew h 200 6)) ∧ (¬ l4.toInt < (-2000000) → ((2000000 < l4.toInt → X 1 (gNew h 200 6)) ∧ (¬ 2000000 < l4.toInt → gK h l5 = 3 ∧ 8 ≤ (gR h l5 9) ∧ gK h (gR h l5 9) = 8 ∧ CI d 18 [vR (gR h l5 9)] h (fun y0 h0 => ((y0.toInt = 0 → 8 ≤ l5 ∧ gK h0 l5 = 3 ∧ CI d 183 [vR l5, vI l2, vI l3, vI l4] h0 (fun y1 h1 => K y1 h1) X) ∧ (¬ y0.toInt = 0 → X 4 (gNew h0 200 6)))) X))))))) : Wp (d + 1) 184 (60, [none, none, some (vI l2), some (vI l3), some (vI l4), some (vR l5)], [], h) (RI K X) := by
  refine wp_iload' (L' := [none, none, some (vI l2), some (vI l3), some (vI l4), some (vR l5)]) rfl rfl rfl rfl ?_
  refine wp_iload rfl rfl rfl ?_
  refine wp_icmp_eq rfl rfl rfl rfl rfl (fun c => ?_) (fun c => ?_)
  · replace F := F.1 c
    exact wp_thrI rfl F
  · replace F := F.2 c
    refine wp_iload rfl rfl rfl ?_
    refine wp_const rfl rfl ?_
    refine wp_icmp_lt (Y := (-2000000)) rfl rfl rfl rfl rfl (fun c => ?_) (fun c => ?_)
    · replace F := F.1 c
      exact wp_thrI rfl F
    · replace F := F.2 c
      refine wp_iload rfl rfl rfl ?_
      refine wp_const rfl rfl ?_
      refine wp_icmp_le (Y := 2000000) rfl rfl rfl rfl rfl (fun c => ?_) (fun c => ?_)
      · replace F := F.1 c
        exact wp_thrI rfl F
      · replace F := F.2 c
        refine wp_aload' (L' := [none, none, some (vI l2), some (vI l3), some (vI l4), some (vR l5)]) rfl rfl rfl rfl ?_
        obtain ⟨f0, F⟩ := F
        refine wp_getR rfl rfl rfl f0 rfl ?_
        obtain ⟨f1, F⟩ := F
        obtain ⟨f2, F⟩ := F
        refine wp_callI rfl rfl rfl (rcv_v f1 f2 (by decide) (by decide)) rfl rfl rfl rfl ?_
        refine CI.mono F (fun y0 h0 F => ?_) (fun _ _ w => rx_I w)
        refine wp_if_eq rfl rfl rfl rfl (fun c => ?_) (fun c => ?_)
        · replace F := F.1 c
          refine wp_aload' (L' := [none, none, some (vI l2), some (vI l3), some (vI l4), some (vR l5)]) rfl rfl rfl rfl ?_
          refine wp_iload rfl rfl rfl ?_
          refine wp_iload rfl rfl rfl ?_
          refine wp_iload rfl rfl rfl ?_
          obtain ⟨f3, F⟩ := F
          obtain ⟨f4, F⟩ := F
          refine wp_callI rfl rfl rfl (rcv_v f3 f4 (by decide) (by decide)) rfl rfl rfl rfl ?_
          refine CI.mono F (fun y1 h1 F => ?_) (fun _ _ w => rx_I w)
          exact wp_retI rfl (Or.inl rfl) F
        · replace F := F.2 c
          exact wp_thrI rfl F
-- CensusOfficeLaw rule (LCensusOffice;IIII[J)I
theorem m185 {d : Nat} {a0 : Nat} {a1 : Int32} {a2 : Int32} {a3 : Int32} {a4 : Int32} {a5 : Nat} {h : aH} {K : Int32 → aH → Prop} {X : Nat → aH → Prop} (F : 8 ≤ a0 ∧ gK h a0 = 1 ∧ CI d 184 [vR a0, vI a1, vI a2, vI a3, vI a4] h (fun y0 h0 => 8 ≤ a5 ∧ inB h0 101 a5 0 0 ∧ ∀ h1 : aH, h1 = pJ h0 a5 0 (y0.toInt64) → K 0 h1) (fun x9 h9 => (x9 = 3 ∧ K 1 h9) ∨ (x9 = 1 ∧ K 2 h9) ∨ (x9 = 4 ∧ K 3 h9))) : CI (d + 1) 185 [vR a0, vI a1, vI a2, vI a3, vI a4, vR a5] h K X := by
  show Wp (d + 1) 185 (0, [some (vR a0), some (vI a1), some (vI a2), some (vI a3), some (vI a4), some (vR a5), none], [], h) (RI K X)
  refine wp_aload rfl rfl rfl ?_
  refine wp_const rfl rfl ?_
  refine wp_aload rfl rfl rfl ?_
  refine wp_iload rfl rfl rfl ?_
  refine wp_iload rfl rfl rfl ?_
  refine wp_iload rfl rfl rfl ?_
  refine wp_iload rfl rfl rfl ?_
  obtain ⟨f0, F⟩ := F
  obtain ⟨f1, F⟩ := F
  refine wp_callhI (X := (fun x9 h9 => (x9 = 3 ∧ K 1 h9) ∨ (x9 = 1 ∧ K 2 h9) ∨ (x9 = 4 ∧ K 3 h9))) rfl rfl rfl (rcv_v f0 f1 (by decide) (by decide)) rfl rfl rfl (fun x9 h9 F => ?_) ?_
  · rcases F with ⟨rfl, F⟩ | ⟨rfl, F⟩ | ⟨rfl, F⟩
    · refine ⟨17, rfl, ?_⟩
      refine wp_astoreJ' (L' := [none, none, none, none, none, none, none]) (L2 := [none, none, none, none, none, none, some vJ]) rfl rfl rfl rfl rfl ?_
      refine wp_const rfl rfl ?_
      exact wp_retI rfl (Or.inl rfl) F
    · refine ⟨21, rfl, ?_⟩
      refine wp_astoreJ' (L' := [none, none, none, none, none, none, none]) (L2 := [none, none, none, none, none, none, some vJ]) rfl rfl rfl rfl rfl ?_
      refine wp_const rfl rfl ?_
      exact wp_retI rfl (Or.inl rfl) F
    · refine ⟨25, rfl, ?_⟩
      refine wp_astoreJ' (L' := [none, none, none, none, none, none, none]) (L2 := [none, none, none, none, none, none, some vJ]) rfl rfl rfl rfl rfl ?_
      refine wp_const rfl rfl ?_
      exact wp_retI rfl (Or.inl rfl) F
  · refine CI.mono F (fun y0 h0 F => ?_) (fun _ _ w => w)
    refine wp_i2l rfl rfl ?_
    obtain ⟨f2, F⟩ := F
    obtain ⟨b9, F⟩ := F
    refine wp_lastore rfl f2 b9 rfl ?_
    replace F := F _ rfl
    generalize pJ h0 a5 0 (y0.toInt64) = h1 at F ⊢
    refine wp_goto rfl rfl ?_
    refine wp_const' (L' := [none, none, none, none, none, none, none]) rfl rfl rfl ?_
    exact wp_retI rfl (Or.inl rfl) F
-- CensusOfficeModel isAsk (II)Z
theorem m186 {d : Nat} {a0 : Nat} {a1 : Int32} {a2 : Int32} {h : aH} {K : Int32 → aH → Prop} {X : Nat → aH → Prop} (F : gK h a0 = 14 ∧ ∃ i0 : Nat, inB h 100 (gR h a0 16) ((20 * a1) + a2) i0 ∧ (((gI h (gR h a0 16) i0).toInt = 0 → K 1 h) ∧ (¬ (gI h (gR h a0 16) i0).toInt = 0 → K 0 h))) : CI d 186 [vR a0, vI a1, vI a2] h K X := by
  show Wp d 186 (0, [some (vR a0), some (vI a1), some (vI a2)], [], h) (RI K X)
  refine wp_aload rfl rfl rfl ?_
  obtain ⟨f0, F⟩ := F
  refine wp_getR rfl rfl rfl f0 rfl ?_
  refine wp_const rfl rfl ?_
  refine wp_iload rfl rfl rfl ?_
  refine wp_imul rfl rfl ?_
  refine wp_iload rfl rfl rfl ?_
  refine wp_iadd rfl rfl ?_
  obtain ⟨i0, b9, F⟩ := F
  refine wp_iaload rfl b9 rfl ?_
  refine wp_if_ne rfl rfl rfl rfl (fun c => ?_) (fun c => ?_)
  · replace F := F.1 c
    refine wp_const rfl rfl ?_
    refine wp_goto rfl rfl ?_
    exact wp_retI rfl (Or.inr rfl) F
  · replace F := F.2 c
    refine wp_const' (L' := [none, none, none]) rfl rfl rfl ?_
    exact wp_retI rfl (Or.inr rfl) F
-- CensusOfficeModel rule (IIII)I
theorem m187 {d : Nat} {a0 : Nat} {a1 : Int32} {a2 : Int32} {a3 : Int32} {a4 : Int32} {h : aH} {K : Int32 → aH → Prop} {X : Nat → aH → Prop} (F : 8 ≤ a0 ∧ gK h a0 = 14 ∧ ∀ h0 : aH, h0 = pI h a0 0 0 → CI d 124 [vR a0, vI a1] h0 (fun y0 h1 => ((y0.toInt = 0 → gK h1 a0 = 14 ∧ CI d 15 [vR a0, vI 1] h1 (fun y1 h2 => K y1 h2) X) ∧ (¬ y0.toInt = 0 → ((a2.toInt = (-1) → Wp (d + 1) 187 (27, [some (vR a0), some (vI a1), some (vI a2), some (vI a3), some (vI a4), none], [], h1) (RI K X)) ∧ (¬ a2.toInt = (-1) → gK h1 a0 = 14 ∧ CI d 125 [vR a0, vI a1, vI a2] h1 (fun y2 h3 => ((y2.toInt = 0 → gK h3 a0 = 14 ∧ CI d 15 [vR a0, vI 1] h3 (fun y3 h4 => K y3 h4) X) ∧ (¬ y2.toInt = 0 → Wp (d + 1) 187 (27, [some (vR a0), some (vI a1), some (vI a2), some (vI a3), some (vI a4), none], [], h3) (RI K X)))) X))))) X) : CI (d + 1) 187 [vR a0, vI a1, vI a2, vI a3, vI a4] h K X := by
  show Wp (d + 1) 187 (0, [some (vR a0), some (vI a1), some (vI a2), some (vI a3), some (vI a4), none], [], h) (RI K X)
  refine wp_aload rfl rfl rfl ?_
  refine wp_const rfl rfl ?_
  obtain ⟨f0, F⟩ := F
  obtain ⟨f1, F⟩ := F
  refine wp_putI rfl rfl rfl f0 f1 rfl ?_
  have f2 : gK (pI h a0 0 0) a0 = 14 := (gK_pI _ _ _ _ _).trans f1
  replace F := F _ rfl
  generalize pI h a0 0 0 = h0 at F f2 ⊢
  refine wp_aload rfl rfl rfl ?_
  refine wp_iload rfl rfl rfl ?_
  refine wp_callI rfl rfl rfl (rcv_v f0 f2 (by decide) (by decide)) rfl rfl rfl rfl ?_
  refine CI.mono F (fun y0 h1 F => ?_) (fun _ _ w => rx_I w)
  refine wp_if_eq rfl rfl rfl rfl (fun c => ?_) (fun c => ?_)
  · replace F := F.1 c
    refine wp_aload' (L' := [some (vR a0), none, none, none, none, none]) rfl rfl rfl rfl ?_
    refine wp_const rfl rfl ?_
    obtain ⟨f3, F⟩ := F
    refine wp_callI rfl rfl rfl (rcv_v f0 f3 (by decide) (by decide)) rfl rfl rfl rfl ?_
    refine CI.mono F (fun y1 h2 F => ?_) (fun _ _ w => rx_I w)
    exact wp_retI rfl (Or.inl rfl) F
  · replace F := F.2 c
    refine wp_iload rfl rfl rfl ?_
    refine wp_const rfl rfl ?_
    refine wp_icmp_eq (Y := (-1)) rfl rfl rfl rfl rfl (fun c => ?_) (fun c => ?_)
    · replace F := F.1 c
      exact F
    · replace F := F.2 c
      refine wp_aload rfl rfl rfl ?_
      refine wp_iload rfl rfl rfl ?_
      refine wp_iload rfl rfl rfl ?_
      obtain ⟨f4, F⟩ := F
      refine wp_callI rfl rfl rfl (rcv_v f0 f4 (by decide) (by decide)) rfl rfl rfl rfl ?_
      refine CI.mono F (fun y2 h3 F => ?_) (fun _ _ w => rx_I w)
      refine wp_if_eq rfl rfl rfl rfl (fun c => ?_) (fun c => ?_)
      · replace F := F.1 c
        refine wp_aload' (L' := [some (vR a0), none, none, none, none, none]) rfl rfl rfl rfl ?_
        refine wp_const rfl rfl ?_
        obtain ⟨f5, F⟩ := F
        refine wp_callI rfl rfl rfl (rcv_v f0 f5 (by decide) (by decide)) rfl rfl rfl rfl ?_
        refine CI.mono F (fun y3 h4 F => ?_) (fun _ _ w => rx_I w)
        exact wp_retI rfl (Or.inl rfl) F
      · replace F := F.2 c
        exact F
theorem w187_27 {d : Nat} {l0 : Nat} {l1 : Int32} {l2 : Int32} {l3 : Int32} {l4 : Int32} {h : aH} {K : Int32 → aH → Prop} {X : Nat → aH → Prop} (F : ((l3.toInt = (-1) → Wp (d + 1) 187 (47, [some (vR l0), some (vI l1), some (vI l2), some (vI l3), some (vI l4), none], [], h) (RI K X)) ∧ (¬ l3.toInt = (-1) → 8 ≤ l0 ∧ gK h l0 = 14 ∧ CI d 125 [vR l0, vI l1, vI l3] h (fun y0 h0 => ((y0.toInt = 0 → gK h0 l0 = 14 ∧ CI d 15 [vR l0, vI 1] h0 (fun y1 h1 => K y1 h1) X) ∧ (¬ y0.toInt = 0 → Wp (d + 1) 187 (47, [some (vR l0), some (vI l1), some (vI l2), some (vI l3), some (vI l4), none], [], h0) (RI K X)))) X))) : Wp (d + 1) 187 (27, [some (vR l0), some (vI l1), some (vI l2), some (vI l3), some (vI l4), none], [], h) (RI K X) := by
  refine wp_iload' (L' := [some (vR l0), some (vI l1), some (vI l2), some (vI l3), some (vI l4), none]) rfl rfl rfl rfl ?_
  refine wp_const rfl rfl ?_
  refine wp_icmp_eq (Y := (-1)) rfl rfl rfl rfl rfl (fun c => ?_) (fun c => ?_)
  · replace F := F.1 c
    exact F
  · replace F := F.2 c
    refine wp_aload rfl rfl rfl ?_
    refine wp_iload rfl rfl rfl ?_
    refine wp_iload rfl rfl rfl ?_
    obtain ⟨f0, F⟩ := F
    obtain ⟨f1, F⟩ := F
    refine wp_callI rfl rfl rfl (rcv_v f0 f1 (by decide) (by decide)) rfl rfl rfl rfl ?_
    refine CI.mono F (fun y0 h0 F => ?_) (fun _ _ w => rx_I w)
    refine wp_if_ne rfl rfl rfl rfl (fun c => ?_) (fun c => ?_)
    · replace F := F.1 c
      refine wp_aload' (L' := [some (vR l0), none, none, none, none, none]) rfl rfl rfl rfl ?_
      refine wp_const rfl rfl ?_
      obtain ⟨f2, F⟩ := F
      refine wp_callI rfl rfl rfl (rcv_v f0 f2 (by decide) (by decide)) rfl rfl rfl rfl ?_
      refine CI.mono F (fun y1 h1 F => ?_) (fun _ _ w => rx_I w)
      exact wp_retI rfl (Or.inl rfl) F
    · replace F := F.2 c
      exact F
theorem w187_47 {d : Nat} {l0 : Nat} {l1 : Int32} {l2 : Int32} {l3 : Int32} {l4 : Int32} {h : aH} {K : Int32 → aH → Prop} {X : Nat → aH → Prop} (F : ((l2.toInt = (-1) → Wp (d + 1) 187 (61, [some (vR l0), some (vI l1), some (vI l2), some (vI l3), some (vI l4), none], [], h) (RI K X)) ∧ (¬ l2.toInt = (-1) → 8 ≤ l0 ∧ gK h l0 = 14 ∧ CI d 186 [vR l0, vI l1, vI l2] h (fun y0 h0 => ((y0.toInt = 0 → gK h0 l0 = 14 ∧ CI d 15 [vR l0, vI 2] h0 (fun y1 h1 => K y1 h1) X) ∧ (¬ y0.toInt = 0 → Wp (d + 1) 187 (61, [some (vR l0), some (vI l1), some (vI l2), some (vI l3), some (vI l4), none], [], h0) (RI K X)))) X))) : Wp (d + 1) 187 (47, [some (vR l0), some (vI l1), some (vI l2), some (vI l3), some (vI l4), none], [], h) (RI K X) := by
  refine wp_iload' (L' := [some (vR l0), some (vI l1), some (vI l2), some (vI l3), some (vI l4), none]) rfl rfl rfl rfl ?_
  refine wp_const rfl rfl ?_
  refine wp_icmp_eq (Y := (-1)) rfl rfl rfl rfl rfl (fun c => ?_) (fun c => ?_)
  · replace F := F.1 c
    exact F
  · replace F := F.2 c
    refine wp_aload rfl rfl rfl ?_
    refine wp_iload rfl rfl rfl ?_
    refine wp_iload rfl rfl rfl ?_
    obtain ⟨f0, F⟩ := F
    obtain ⟨f1, F⟩ := F
    refine wp_callI rfl rfl rfl (rcv_v f0 f1 (by decide) (by decide)) rfl rfl rfl rfl ?_
    refine CI.mono F (fun y0 h0 F => ?_) (fun _ _ w => rx_I w)
    refine wp_if_eq rfl rfl rfl rfl (fun c => ?_) (fun c => ?_)
    · replace F := F.1 c
      refine wp_aload' (L' := [some (vR l0), none, none, none, none, none]) rfl rfl rfl rfl ?_
      refine wp_const rfl rfl ?_
      obtain ⟨f2, F⟩ := F
      refine wp_callI rfl rfl rfl (rcv_v f0 f2 (by decide) (by decide)) rfl rfl rfl rfl ?_
      refine CI.mono F (fun y1 h1 F => ?_) (fun _ _ w => rx_I w)
      exact wp_retI rfl (Or.inl rfl) F
    · replace F := F.2 c
      exact F
theorem w187_61 {d : Nat} {l0 : Nat} {l1 : Int32} {l2 : Int32} {l3 : Int32} {l4 : Int32} {h : aH} {K : Int32 → aH → Prop} {X : Nat → aH → Prop} (F : ((l3.toInt = (-1) → Wp (d + 1) 187 (75, [some (vR l0), some (vI l1), some (vI l2), some (vI l3), some (vI l4), none], [], h) (RI K X)) ∧ (¬ l3.toInt = (-1) → 8 ≤ l0 ∧ gK h l0 = 14 ∧ CI d 186 [vR l0, vI l1, vI l3] h (fun y0 h0 => ((y0.toInt = 0 → gK h0 l0 = 14 ∧ CI d 15 [vR l0, vI 2] h0 (fun y1 h1 => K y1 h1) X) ∧ (¬ y0.toInt = 0 → Wp (d + 1) 187 (75, [some (vR l0), some (vI l1), some (vI l2), some (vI l3), some (vI l4), none], [], h0) (RI K X)))) X))) : Wp (d + 1) 187 (61, [some (vR l0), some (vI l1), some (vI l2), some (vI l3), some (vI l4), none], [], h) (RI K X) := by
  refine wp_iload' (L' := [some (vR l0), some (vI l1), some (vI l2), some (vI l3), some (vI l4), none]) rfl rfl rfl rfl ?_
  refine wp_const rfl rfl ?_
  refine wp_icmp_eq (Y := (-1)) rfl rfl rfl rfl rfl (fun c => ?_) (fun c => ?_)
  · replace F := F.1 c
    exact F
  · replace F := F.2 c
    refine wp_aload rfl rfl rfl ?_
    refine wp_iload rfl rfl rfl ?_
    refine wp_iload rfl rfl rfl ?_
    obtain ⟨f0, F⟩ := F
    obtain ⟨f1, F⟩ := F
    refine wp_callI rfl rfl rfl (rcv_v f0 f1 (by decide) (by decide)) rfl rfl rfl rfl ?_
    refine CI.mono F (fun y0 h0 F => ?_) (fun _ _ w => rx_I w)
    refine wp_if_eq rfl rfl rfl rfl (fun c => ?_) (fun c => ?_)
    · replace F := F.1 c
      refine wp_aload' (L' := [some (vR l0), none, none, none, none, none]) rfl rfl rfl rfl ?_
      refine wp_const rfl rfl ?_
      obtain ⟨f2, F⟩ := F
      refine wp_callI rfl rfl rfl (rcv_v f0 f2 (by decide) (by decide)) rfl rfl rfl rfl ?_
      refine CI.mono F (fun y1 h1 F => ?_) (fun _ _ w => rx_I w)
      exact wp_retI rfl (Or.inl rfl) F
    · replace F := F.2 c
      exact F
theorem w187_75 {d : Nat} {l0 : Nat} {l1 : Int32} {l2 : Int32} {l3 : Int32} {l4 : Int32} {h : aH} {K : Int32 → aH → Prop} {X : Nat → aH → Prop} (F : ((l2.toInt = l3.toInt → 8 ≤ l0 ∧ gK h l0 = 14 ∧ CI d 15 [vR l0, vI 2] h (fun y0 h0 => K y0 h0) X) ∧ (¬ l2.toInt = l3.toInt → CI d 14 [vL (l4.toInt64), vL (-2000000), vL 2000000] h (fun y1 h1 => ((y1.toInt = 0 → 8 ≤ l0 ∧ gK h1 l0 = 14 ∧ CI d 15 [vR l0, vI 2] h1 (fun y2 h2 => K y2 h2) X) ∧ (¬ y1.toInt = 0 → gK h1 l0 = 14 ∧ ∃ i0 : Nat, inB h1 100 (gR h1 l0 57) l1 i0 ∧ (((gI h1 (gR h1 l0 57) i0).toInt = 16 → 8 ≤ l0 ∧ CI d 15 [vR l0, vI 3] h1 (fun y3 h3 => K y3 h3) X) ∧ (¬ (gI h1 (gR h1 l0 57) i0).toInt = 16 → ∃ i1 : Nat, inB h1 100 (gR h1 l0 57) l1 i1 ∧ ∀ v0 : Int32, v0 = (16 * l1) + (gI h1 (gR h1 l0 57) i1) → 8 ≤ (gR h1 l0 58) ∧ ∃ i2 : Nat, inB h1 100 (gR h1 l0 58) v0 i2 ∧ ∀ h4 : aH, h4 = pI h1 (gR h1 l0 58) i2 l2 → 8 ≤ (gR h4 l0 59) ∧ ∃ i3 : Nat, inB h4 100 (gR h4 l0 59) v0 i3 ∧ ∀ h5 : aH, h5 = pI h4 (gR h4 l0 59) i3 l3 → 8 ≤ (gR h5 l0 60) ∧ ∃ i4 : Nat, inB h5 100 (gR h5 l0 60) v0 i4 ∧ ∀ h6 : aH, h6 = pI h5 (gR h5 l0 60) i4 l4 → ∃ i5 : Nat, inB h6 100 (gR h6 l0 57) l1 i5 ∧ 8 ≤ (gR h6 l0 57) ∧ ∃ i6 : Nat, inB h6 100 (gR h6 l0 57) l1 i6 ∧ ∀ h7 : aH, h7 = pI h6 (gR h6 l0 57) i6 ((gI h6 (gR h6 l0 57) i5) + 1) → ∃ i7 : Nat, inB h7 100 (gR h7 l0 57) l1 i7 ∧ K ((gI h7 (gR h7 l0 57) i7) - 1) h7))))) X))) : Wp (d + 1) 187 (75, [some (vR l0), some (vI l1), some (vI l2), some (vI l3), some (vI l4), none], [], h) (RI K X) := by
  refine wp_iload' (L' := [some (vR l0), some (vI l1), some (vI l2), some (vI l3), some (vI l4), none]) rfl rfl rfl rfl ?_
  refine wp_iload rfl rfl rfl ?_
  refine wp_icmp_eq rfl rfl rfl rfl rfl (fun c => ?_) (fun c => ?_)
  · replace F := F.1 c
    refine wp_aload' (L' := [some (vR l0), none, none, none, none, none]) rfl rfl rfl rfl ?_
    refine wp_const rfl rfl ?_
    obtain ⟨f0, F⟩ := F
    obtain ⟨f1, F⟩ := F
    refine wp_callI rfl rfl rfl (rcv_v f0 f1 (by decide) (by decide)) rfl rfl rfl rfl ?_
    refine CI.mono F (fun y0 h0 F => ?_) (fun _ _ w => rx_I w)
    exact wp_retI rfl (Or.inl rfl) F
  · replace F := F.2 c
    refine wp_iload rfl rfl rfl ?_
    refine wp_i2l rfl rfl ?_
    refine wp_const rfl rfl ?_
    refine wp_const rfl rfl ?_
    refine wp_callI rfl rfl rfl rfl rfl rfl rfl rfl ?_
    refine CI.mono F (fun y1 h1 F => ?_) (fun _ _ w => rx_I w)
    refine wp_if_ne rfl rfl rfl rfl (fun c => ?_) (fun c => ?_)
    · replace F := F.1 c
      refine wp_aload' (L' := [some (vR l0), none, none, none, none, none]) rfl rfl rfl rfl ?_
      refine wp_const rfl rfl ?_
      obtain ⟨f2, F⟩ := F
      obtain ⟨f3, F⟩ := F
      refine wp_callI rfl rfl rfl (rcv_v f2 f3 (by decide) (by decide)) rfl rfl rfl rfl ?_
      refine CI.mono F (fun y2 h2 F => ?_) (fun _ _ w => rx_I w)
      exact wp_retI rfl (Or.inl rfl) F
    · replace F := F.2 c
      refine wp_aload' (L' := [some (vR l0), some (vI l1), some (vI l2), some (vI l3), some (vI l4), none]) rfl rfl rfl rfl ?_
      obtain ⟨f4, F⟩ := F
      refine wp_getR rfl rfl rfl f4 rfl ?_
      refine wp_iload rfl rfl rfl ?_
      obtain ⟨i0, b9, F⟩ := F
      refine wp_iaload rfl b9 rfl ?_
      refine wp_const rfl rfl ?_
      refine wp_icmp_ne (Y := 16) rfl rfl rfl rfl rfl (fun c => ?_) (fun c => ?_)
      · replace F := F.1 c
        refine wp_aload rfl rfl rfl ?_
        refine wp_const rfl rfl ?_
        obtain ⟨f5, F⟩ := F
        refine wp_callI rfl rfl rfl (rcv_v f5 f4 (by decide) (by decide)) rfl rfl rfl rfl ?_
        refine CI.mono F (fun y3 h3 F => ?_) (fun _ _ w => rx_I w)
        exact wp_retI rfl (Or.inl rfl) F
      · replace F := F.2 c
        refine wp_const' (L' := [some (vR l0), some (vI l1), some (vI l2), some (vI l3), some (vI l4), none]) rfl rfl rfl ?_
        refine wp_iload rfl rfl rfl ?_
        refine wp_imul rfl rfl ?_
        refine wp_aload rfl rfl rfl ?_
        refine wp_getR rfl rfl rfl f4 rfl ?_
        refine wp_iload rfl rfl rfl ?_
        obtain ⟨i1, b9, F⟩ := F
        refine wp_iaload rfl b9 rfl ?_
        refine wp_iadd rfl rfl ?_
        replace F := F _ rfl
        generalize ((16 * l1) + (gI h1 (gR h1 l0 57) i1) : Int32) = v0 at F ⊢
        refine wp_istore (L2 := [some (vR l0), some (vI l1), some (vI l2), some (vI l3), some (vI l4), some (vI v0)]) rfl rfl rfl rfl ?_
        refine wp_aload rfl rfl rfl ?_
        refine wp_getR rfl rfl rfl f4 rfl ?_
        refine wp_iload rfl rfl rfl ?_
        refine wp_iload rfl rfl rfl ?_
        obtain ⟨f6, F⟩ := F
        obtain ⟨i2, b9, F⟩ := F
        refine wp_iastore rfl f6 b9 rfl ?_
        have f7 : gK (pI h1 (gR h1 l0 58) i2 l2) l0 = 14 := (gK_pI _ _ _ _ _).trans f4
        replace F := F _ rfl
        generalize pI h1 (gR h1 l0 58) i2 l2 = h4 at F f7 ⊢
        refine wp_aload rfl rfl rfl ?_
        refine wp_getR rfl rfl rfl f7 rfl ?_
        refine wp_iload rfl rfl rfl ?_
        refine wp_iload rfl rfl rfl ?_
        obtain ⟨f8, F⟩ := F
        obtain ⟨i3, b9, F⟩ := F
        refine wp_iastore rfl f8 b9 rfl ?_
        have f9 : gK (pI h4 (gR h4 l0 59) i3 l3) l0 = 14 := (gK_pI _ _ _ _ _).trans f7
        replace F := F _ rfl
        generalize pI h4 (gR h4 l0 59) i3 l3 = h5 at F f9 ⊢
        refine wp_aload rfl rfl rfl ?_
        refine wp_getR rfl rfl rfl f9 rfl ?_
        refine wp_iload rfl rfl rfl ?_
        refine wp_iload rfl rfl rfl ?_
        obtain ⟨f10, F⟩ := F
        obtain ⟨i4, b9, F⟩ := F
        refine wp_iastore rfl f10 b9 rfl ?_
        have f11 : gK (pI h5 (gR h5 l0 60) i4 l4) l0 = 14 := (gK_pI _ _ _ _ _).trans f9
        replace F := F _ rfl
        generalize pI h5 (gR h5 l0 60) i4 l4 = h6 at F f11 ⊢
        refine wp_aload rfl rfl rfl ?_
        refine wp_getR rfl rfl rfl f11 rfl ?_
        refine wp_iload rfl rfl rfl ?_
        refine wp_dup2 rfl rfl rfl rfl ?_
        obtain ⟨i5, b9, F⟩ := F
        refine wp_iaload rfl b9 rfl ?_
        refine wp_const rfl rfl ?_
        refine wp_iadd rfl rfl ?_
        obtain ⟨f12, F⟩ := F
        obtain ⟨i6, b9, F⟩ := F
        refine wp_iastore rfl f12 b9 rfl ?_
        have f13 : gK (pI h6 (gR h6 l0 57) i6 ((gI h6 (gR h6 l0 57) i5) + 1)) l0 = 14 := (gK_pI _ _ _ _ _).trans f11
        replace F := F _ rfl
        generalize pI h6 (gR h6 l0 57) i6 ((gI h6 (gR h6 l0 57) i5) + 1) = h7 at F f13 ⊢
        refine wp_aload rfl rfl rfl ?_
        refine wp_getR rfl rfl rfl f13 rfl ?_
        refine wp_iload rfl rfl rfl ?_
        obtain ⟨i7, b9, F⟩ := F
        refine wp_iaload rfl b9 rfl ?_
        refine wp_const rfl rfl ?_
        refine wp_isub rfl rfl ?_
        exact wp_retI rfl (Or.inl rfl) F
-- CensusOffice cost (III)I
theorem m188 {d : Nat} {a0 : Nat} {a1 : Int32} {a2 : Int32} {a3 : Int32} {h : aH} {K : Int32 → aH → Prop} {X : Nat → aH → Prop} (F : 8 ≤ a0 ∧ gK h a0 = 1 ∧ CR d 120 [vR a0, vI a1] h (fun q0 h0 => gK h0 a0 = 1 ∧ CV d 121 [vR a0, vR q0, vI a2] h0 (fun h1 => 8 ≤ q0 ∧ gK h1 q0 = 3 ∧ CI d 182 [vR q0, vI a2] h1 (fun y0 h2 => ((y0.toInt = 0 → X 1 (gNew h2 200 6)) ∧ (¬ y0.toInt = 0 → ((a3.toInt < 1 → X 1 (gNew h2 200 6)) ∧ (¬ a3.toInt < 1 → ((100 < a3.toInt → X 1 (gNew h2 200 6)) ∧ (¬ 100 < a3.toInt → gK h2 q0 = 3 ∧ ∃ i0 : Nat, inB h2 100 (gR h2 q0 5) a2 i0 ∧ ∀ v0 : Int32, v0 = gI h2 (gR h2 q0 5) i0 → 8 ≤ (gR h2 q0 5) ∧ ∃ i1 : Nat, inB h2 100 (gR h2 q0 5) a2 i1 ∧ ∀ h3 : aH, h3 = pI h2 (gR h2 q0 5) i1 a3 → K v0 h3))))))) X) X) X) : CI (d + 1) 188 [vR a0, vI a1, vI a2, vI a3] h K X := by
  show Wp (d + 1) 188 (0, [some (vR a0), some (vI a1), some (vI a2), some (vI a3), none, none], [], h) (RI K X)
  refine wp_aload rfl rfl rfl ?_
  refine wp_iload rfl rfl rfl ?_
  obtain ⟨f0, F⟩ := F
  obtain ⟨f1, F⟩ := F
  refine wp_callR rfl rfl rfl (rcv_v f0 f1 (by decide) (by decide)) rfl rfl rfl rfl ?_
  refine CR.mono F (fun q0 h0 F => ?_) (fun _ _ w => rx_I w)
  refine wp_astore (L2 := [some (vR a0), some (vI a1), some (vI a2), some (vI a3), some (vR q0), none]) rfl rfl rfl rfl ?_
  refine wp_aload rfl rfl rfl ?_
  refine wp_aload rfl rfl rfl ?_
  refine wp_iload rfl rfl rfl ?_
  obtain ⟨f2, F⟩ := F
  refine wp_callV rfl rfl rfl (rcv_v f0 f2 (by decide) (by decide)) rfl rfl rfl rfl ?_
  refine CV.mono F (fun h1 F => ?_) (fun _ _ w => rx_I w)
  refine wp_aload rfl rfl rfl ?_
  refine wp_iload rfl rfl rfl ?_
  obtain ⟨f3, F⟩ := F
  obtain ⟨f4, F⟩ := F
  refine wp_callI rfl rfl rfl (rcv_v f3 f4 (by decide) (by decide)) rfl rfl rfl rfl ?_
  refine CI.mono F (fun y0 h2 F => ?_) (fun _ _ w => rx_I w)
  refine wp_if_eq rfl rfl rfl rfl (fun c => ?_) (fun c => ?_)
  · replace F := F.1 c
    exact wp_thrI rfl F
  · replace F := F.2 c
    refine wp_iload rfl rfl rfl ?_
    refine wp_const rfl rfl ?_
    refine wp_icmp_lt (Y := 1) rfl rfl rfl rfl rfl (fun c => ?_) (fun c => ?_)
    · replace F := F.1 c
      exact wp_thrI rfl F
    · replace F := F.2 c
      refine wp_iload rfl rfl rfl ?_
      refine wp_const rfl rfl ?_
      refine wp_icmp_le (Y := 100) rfl rfl rfl rfl rfl (fun c => ?_) (fun c => ?_)
      · replace F := F.1 c
        exact wp_thrI rfl F
      · replace F := F.2 c
        refine wp_aload' (L' := [none, none, some (vI a2), some (vI a3), some (vR q0), none]) rfl rfl rfl rfl ?_
        obtain ⟨f5, F⟩ := F
        refine wp_getR rfl rfl rfl f5 rfl ?_
        refine wp_iload rfl rfl rfl ?_
        obtain ⟨i0, b9, F⟩ := F
        refine wp_iaload rfl b9 rfl ?_
        replace F := F _ rfl
        generalize (gI h2 (gR h2 q0 5) i0 : Int32) = v0 at F ⊢
        refine wp_istore (L2 := [none, none, some (vI a2), some (vI a3), some (vR q0), some (vI v0)]) rfl rfl rfl rfl ?_
        refine wp_aload rfl rfl rfl ?_
        refine wp_getR rfl rfl rfl f5 rfl ?_
        refine wp_iload rfl rfl rfl ?_
        refine wp_iload rfl rfl rfl ?_
        obtain ⟨f6, F⟩ := F
        obtain ⟨i1, b9, F⟩ := F
        refine wp_iastore rfl f6 b9 rfl ?_
        have f7 : gK (pI h2 (gR h2 q0 5) i1 a3) q0 = 3 := (gK_pI _ _ _ _ _).trans f5
        replace F := F _ rfl
        generalize pI h2 (gR h2 q0 5) i1 a3 = h3 at F f7 ⊢
        refine wp_iload rfl rfl rfl ?_
        exact wp_retI rfl (Or.inl rfl) F
-- CensusOfficeLaw cost (LCensusOffice;III[J)I
theorem m189 {d : Nat} {a0 : Nat} {a1 : Int32} {a2 : Int32} {a3 : Int32} {a4 : Nat} {h : aH} {K : Int32 → aH → Prop} {X : Nat → aH → Prop} (F : 8 ≤ a0 ∧ gK h a0 = 1 ∧ CI d 188 [vR a0, vI a1, vI a2, vI a3] h (fun y0 h0 => 8 ≤ a4 ∧ inB h0 101 a4 0 0 ∧ ∀ h1 : aH, h1 = pJ h0 a4 0 (y0.toInt64) → K 0 h1) (fun x9 h9 => (x9 = 3 ∧ K 1 h9) ∨ (x9 = 1 ∧ K 2 h9))) : CI (d + 1) 189 [vR a0, vI a1, vI a2, vI a3, vR a4] h K X := by
  show Wp (d + 1) 189 (0, [some (vR a0), some (vI a1), some (vI a2), some (vI a3), some (vR a4), none], [], h) (RI K X)
  refine wp_aload rfl rfl rfl ?_
  refine wp_const rfl rfl ?_
  refine wp_aload rfl rfl rfl ?_
  refine wp_iload rfl rfl rfl ?_
  refine wp_iload rfl rfl rfl ?_
  refine wp_iload rfl rfl rfl ?_
  obtain ⟨f0, F⟩ := F
  obtain ⟨f1, F⟩ := F
  refine wp_callhI (X := (fun x9 h9 => (x9 = 3 ∧ K 1 h9) ∨ (x9 = 1 ∧ K 2 h9))) rfl rfl rfl (rcv_v f0 f1 (by decide) (by decide)) rfl rfl rfl (fun x9 h9 F => ?_) ?_
  · rcases F with ⟨rfl, F⟩ | ⟨rfl, F⟩
    · refine ⟨15, rfl, ?_⟩
      refine wp_astoreJ' (L' := [none, none, none, none, none, none]) (L2 := [none, none, none, none, none, some vJ]) rfl rfl rfl rfl rfl ?_
      refine wp_const rfl rfl ?_
      exact wp_retI rfl (Or.inl rfl) F
    · refine ⟨19, rfl, ?_⟩
      refine wp_astoreJ' (L' := [none, none, none, none, none, none]) (L2 := [none, none, none, none, none, some vJ]) rfl rfl rfl rfl rfl ?_
      refine wp_const rfl rfl ?_
      exact wp_retI rfl (Or.inl rfl) F
  · refine CI.mono F (fun y0 h0 F => ?_) (fun _ _ w => w)
    refine wp_i2l rfl rfl ?_
    obtain ⟨f2, F⟩ := F
    obtain ⟨b9, F⟩ := F
    refine wp_lastore rfl f2 b9 rfl ?_
    replace F := F _ rfl
    generalize pJ h0 a4 0 (y0.toInt64) = h1 at F ⊢
    refine wp_goto rfl rfl ?_
    refine wp_const' (L' := [none, none, none, none, none, none]) rfl rfl rfl ?_
    exact wp_retI rfl (Or.inl rfl) F
-- CensusOfficeModel cost (III)I
theorem m190 {d : Nat} {a0 : Nat} {a1 : Int32} {a2 : Int32} {a3 : Int32} {h : aH} {K : Int32 → aH → Prop} {X : Nat → aH → Prop} (F : 8 ≤ a0 ∧ gK h a0 = 14 ∧ ∀ h0 : aH, h0 = pI h a0 0 0 → CI d 125 [vR a0, vI a1, vI a2] h0 (fun y0 h1 => ((y0.toInt = 0 → gK h1 a0 = 14 ∧ CI d 15 [vR a0, vI 1] h1 (fun y1 h2 => K y1 h2) X) ∧ (¬ y0.toInt = 0 → gK h1 a0 = 14 ∧ CI d 186 [vR a0, vI a1, vI a2] h1 (fun y2 h3 => ((y2.toInt = 0 → gK h3 a0 = 14 ∧ CI d 15 [vR a0, vI 2] h3 (fun y3 h4 => K y3 h4) X) ∧ (¬ y2.toInt = 0 → CI d 14 [vL (a3.toInt64), vL 1, vL 100] h3 (fun y4 h5 => ((y4.toInt = 0 → gK h5 a0 = 14 ∧ CI d 15 [vR a0, vI 2] h5 (fun y5 h6 => K y5 h6) X) ∧ (¬ y4.toInt = 0 → gK h5 a0 = 14 ∧ ∃ i0 : Nat, inB h5 100 (gR h5 a0 20) ((20 * a1) + a2) i0 ∧ ∀ v0 : Int32, v0 = gI h5 (gR h5 a0 20) i0 → 8 ≤ (gR h5 a0 20) ∧ ∃ i1 : Nat, inB h5 100 (gR h5 a0 20) ((20 * a1) + a2) i1 ∧ ∀ h7 : aH, h7 = pI h5 (gR h5 a0 20) i1 a3 → K v0 h7))) X))) X))) X) : CI (d + 1) 190 [vR a0, vI a1, vI a2, vI a3] h K X := by
  show Wp (d + 1) 190 (0, [some (vR a0), some (vI a1), some (vI a2), some (vI a3), none], [], h) (RI K X)
  refine wp_aload rfl rfl rfl ?_
  refine wp_const rfl rfl ?_
  obtain ⟨f0, F⟩ := F
  obtain ⟨f1, F⟩ := F
  refine wp_putI rfl rfl rfl f0 f1 rfl ?_
  have f2 : gK (pI h a0 0 0) a0 = 14 := (gK_pI _ _ _ _ _).trans f1
  replace F := F _ rfl
  generalize pI h a0 0 0 = h0 at F f2 ⊢
  refine wp_aload rfl rfl rfl ?_
  refine wp_iload rfl rfl rfl ?_
  refine wp_iload rfl rfl rfl ?_
  refine wp_callI rfl rfl rfl (rcv_v f0 f2 (by decide) (by decide)) rfl rfl rfl rfl ?_
  refine CI.mono F (fun y0 h1 F => ?_) (fun _ _ w => rx_I w)
  refine wp_if_ne rfl rfl rfl rfl (fun c => ?_) (fun c => ?_)
  · replace F := F.1 c
    refine wp_aload rfl rfl rfl ?_
    refine wp_const rfl rfl ?_
    obtain ⟨f3, F⟩ := F
    refine wp_callI rfl rfl rfl (rcv_v f0 f3 (by decide) (by decide)) rfl rfl rfl rfl ?_
    refine CI.mono F (fun y1 h2 F => ?_) (fun _ _ w => rx_I w)
    exact wp_retI rfl (Or.inl rfl) F
  · replace F := F.2 c
    refine wp_aload' (L' := [some (vR a0), some (vI a1), some (vI a2), some (vI a3), none]) rfl rfl rfl rfl ?_
    refine wp_iload rfl rfl rfl ?_
    refine wp_iload rfl rfl rfl ?_
    obtain ⟨f4, F⟩ := F
    refine wp_callI rfl rfl rfl (rcv_v f0 f4 (by decide) (by decide)) rfl rfl rfl rfl ?_
    refine CI.mono F (fun y2 h3 F => ?_) (fun _ _ w => rx_I w)
    refine wp_if_eq rfl rfl rfl rfl (fun c => ?_) (fun c => ?_)
    · replace F := F.1 c
      refine wp_aload' (L' := [some (vR a0), none, none, none, none]) rfl rfl rfl rfl ?_
      refine wp_const rfl rfl ?_
      obtain ⟨f5, F⟩ := F
      refine wp_callI rfl rfl rfl (rcv_v f0 f5 (by decide) (by decide)) rfl rfl rfl rfl ?_
      refine CI.mono F (fun y3 h4 F => ?_) (fun _ _ w => rx_I w)
      exact wp_retI rfl (Or.inl rfl) F
    · replace F := F.2 c
      refine wp_iload rfl rfl rfl ?_
      refine wp_i2l rfl rfl ?_
      refine wp_const rfl rfl ?_
      refine wp_const rfl rfl ?_
      refine wp_callI rfl rfl rfl rfl rfl rfl rfl rfl ?_
      refine CI.mono F (fun y4 h5 F => ?_) (fun _ _ w => rx_I w)
      refine wp_if_ne rfl rfl rfl rfl (fun c => ?_) (fun c => ?_)
      · replace F := F.1 c
        refine wp_aload' (L' := [some (vR a0), none, none, none, none]) rfl rfl rfl rfl ?_
        refine wp_const rfl rfl ?_
        obtain ⟨f6, F⟩ := F
        refine wp_callI rfl rfl rfl (rcv_v f0 f6 (by decide) (by decide)) rfl rfl rfl rfl ?_
        refine CI.mono F (fun y5 h6 F => ?_) (fun _ _ w => rx_I w)
        exact wp_retI rfl (Or.inl rfl) F
      · replace F := F.2 c
        refine wp_aload' (L' := [some (vR a0), some (vI a1), some (vI a2), some (vI a3), none]) rfl rfl rfl rfl ?_
        obtain ⟨f7, F⟩ := F
        refine wp_getR rfl rfl rfl f7 rfl ?_
        refine wp_const rfl rfl ?_
        refine wp_iload rfl rfl rfl ?_
        refine wp_imul rfl rfl ?_
        refine wp_iload rfl rfl rfl ?_
        refine wp_iadd rfl rfl ?_
        obtain ⟨i0, b9, F⟩ := F
        refine wp_iaload rfl b9 rfl ?_
        replace F := F _ rfl
        generalize (gI h5 (gR h5 a0 20) i0 : Int32) = v0 at F ⊢
        refine wp_istore (L2 := [some (vR a0), some (vI a1), some (vI a2), some (vI a3), some (vI v0)]) rfl rfl rfl rfl ?_
        refine wp_aload rfl rfl rfl ?_
        refine wp_getR rfl rfl rfl f7 rfl ?_
        refine wp_const rfl rfl ?_
        refine wp_iload rfl rfl rfl ?_
        refine wp_imul rfl rfl ?_
        refine wp_iload rfl rfl rfl ?_
        refine wp_iadd rfl rfl ?_
        refine wp_iload rfl rfl rfl ?_
        obtain ⟨f8, F⟩ := F
        obtain ⟨i1, b9, F⟩ := F
        refine wp_iastore rfl f8 b9 rfl ?_
        have f9 : gK (pI h5 (gR h5 a0 20) i1 a3) a0 = 14 := (gK_pI _ _ _ _ _).trans f7
        replace F := F _ rfl
        generalize pI h5 (gR h5 a0 20) i1 a3 = h7 at F f9 ⊢
        refine wp_iload rfl rfl rfl ?_
        exact wp_retI rfl (Or.inl rfl) F
-- CensusOffice$Form ruled (I[I)I
theorem m191 {d : Nat} {a0 : Nat} {a1 : Int32} {a2 : Nat} {h : aH} {K : Int32 → aH → Prop} {X : Nat → aH → Prop} (F : ((a1.toInt = (-1) → K 0 h) ∧ (¬ a1.toInt = (-1) → ((a1.toInt < 0 → K (-2000000) h) ∧ (¬ a1.toInt < 0 → (100 ≤ gK h a2 ∧ gK h a2 ≤ 106) ∧ ((a1.toInt < (nI (gL h a2)).toInt → ∃ i0 : Nat, inB h 100 a2 a1 i0 ∧ K (gI h a2 i0) h) ∧ (¬ a1.toInt < (nI (gL h a2)).toInt → K (-2000000) h))))))) : CI d 191 [vR a0, vI a1, vR a2] h K X := by
  show Wp d 191 (0, [some (vR a0), some (vI a1), some (vR a2)], [], h) (RI K X)
  refine wp_iload rfl rfl rfl ?_
  refine wp_const rfl rfl ?_
  refine wp_icmp_ne (Y := (-1)) rfl rfl rfl rfl rfl (fun c => ?_) (fun c => ?_)
  · replace F := F.1 c
    refine wp_const rfl rfl ?_
    exact wp_retI rfl (Or.inl rfl) F
  · replace F := F.2 c
    refine wp_iload' (L' := [none, some (vI a1), some (vR a2)]) rfl rfl rfl rfl ?_
    refine wp_if_lt rfl rfl rfl rfl (fun c => ?_) (fun c => ?_)
    · replace F := F.1 c
      refine wp_const' (L' := [none, none, none]) rfl rfl rfl ?_
      exact wp_retI rfl (Or.inl rfl) F
    · replace F := F.2 c
      refine wp_iload rfl rfl rfl ?_
      refine wp_aload rfl rfl rfl ?_
      obtain ⟨f0, F⟩ := F
      refine wp_alen rfl f0 rfl ?_
      refine wp_icmp_ge rfl rfl rfl rfl rfl (fun c => ?_) (fun c => ?_)
      · replace F := F.1 c
        refine wp_aload rfl rfl rfl ?_
        refine wp_iload rfl rfl rfl ?_
        obtain ⟨i0, b9, F⟩ := F
        refine wp_iaload rfl b9 rfl ?_
        refine wp_goto rfl rfl ?_
        exact wp_retI rfl (Or.inl rfl) F
      · replace F := F.2 c
        refine wp_const' (L' := [none, none, none]) rfl rfl rfl ?_
        exact wp_retI rfl (Or.inl rfl) F
-- CensusOffice$Form excess (I[I)I
theorem m192 {d : Nat} {a0 : Nat} {a1 : Int32} {a2 : Nat} {h : aH} {K : Int32 → aH → Prop} {X : Nat → aH → Prop} (F : gK h a0 = 3 ∧ 8 ≤ (gR h a0 9) ∧ gK h (gR h a0 9) = 8 ∧ CI d 32 [vR (gR h a0 9), vI a1, vI 0] h (fun y0 h0 => 8 ≤ a0 ∧ gK h0 a0 = 3 ∧ CI d 191 [vR a0, vI y0, vR a2] h0 (fun y1 h1 => gK h1 a0 = 3 ∧ 8 ≤ (gR h1 a0 9) ∧ gK h1 (gR h1 a0 9) = 8 ∧ CI d 32 [vR (gR h1 a0 9), vI a1, vI 1] h1 (fun y2 h2 => gK h2 a0 = 3 ∧ CI d 191 [vR a0, vI y2, vR a2] h2 (fun y3 h3 => ((y1.toInt = (-2000000) → K 0 h3) ∧ (¬ y1.toInt = (-2000000) → ((y3.toInt = (-2000000) → K 0 h3) ∧ (¬ y3.toInt = (-2000000) → gK h3 a0 = 3 ∧ 8 ≤ (gR h3 a0 9) ∧ gK h3 (gR h3 a0 9) = 8 ∧ CI d 32 [vR (gR h3 a0 9), vI a1, vI 2] h3 (fun y4 h4 => K ((y1 - y3) - y4) h4) X))))) X) X) X) X) : CI (d + 1) 192 [vR a0, vI a1, vR a2] h K X := by
  show Wp (d + 1) 192 (0, [some (vR a0), some (vI a1), some (vR a2), none, none], [], h) (RI K X)
  refine wp_aload rfl rfl rfl ?_
  refine wp_aload rfl rfl rfl ?_
  obtain ⟨f0, F⟩ := F
  refine wp_getR rfl rfl rfl f0 rfl ?_
  refine wp_iload rfl rfl rfl ?_
  refine wp_const rfl rfl ?_
  obtain ⟨f1, F⟩ := F
  obtain ⟨f2, F⟩ := F
  refine wp_callI rfl rfl rfl (rcv_v f1 f2 (by decide) (by decide)) rfl rfl rfl rfl ?_
  refine CI.mono F (fun y0 h0 F => ?_) (fun _ _ w => rx_I w)
  refine wp_aload rfl rfl rfl ?_
  obtain ⟨f3, F⟩ := F
  obtain ⟨f4, F⟩ := F
  refine wp_callI rfl rfl rfl (rcv_v f3 f4 (by decide) (by decide)) rfl rfl rfl rfl ?_
  refine CI.mono F (fun y1 h1 F => ?_) (fun _ _ w => rx_I w)
  refine wp_istore (L2 := [some (vR a0), some (vI a1), some (vR a2), some (vI y1), none]) rfl rfl rfl rfl ?_
  refine wp_aload rfl rfl rfl ?_
  refine wp_aload rfl rfl rfl ?_
  obtain ⟨f5, F⟩ := F
  refine wp_getR rfl rfl rfl f5 rfl ?_
  refine wp_iload rfl rfl rfl ?_
  refine wp_const rfl rfl ?_
  obtain ⟨f6, F⟩ := F
  obtain ⟨f7, F⟩ := F
  refine wp_callI rfl rfl rfl (rcv_v f6 f7 (by decide) (by decide)) rfl rfl rfl rfl ?_
  refine CI.mono F (fun y2 h2 F => ?_) (fun _ _ w => rx_I w)
  refine wp_aload rfl rfl rfl ?_
  obtain ⟨f8, F⟩ := F
  refine wp_callI rfl rfl rfl (rcv_v f3 f8 (by decide) (by decide)) rfl rfl rfl rfl ?_
  refine CI.mono F (fun y3 h3 F => ?_) (fun _ _ w => rx_I w)
  refine wp_istore (L2 := [some (vR a0), some (vI a1), some (vR a2), some (vI y1), some (vI y3)]) rfl rfl rfl rfl ?_
  refine wp_iload rfl rfl rfl ?_
  refine wp_const rfl rfl ?_
  refine wp_icmp_eq (Y := (-2000000)) rfl rfl rfl rfl rfl (fun c => ?_) (fun c => ?_)
  · replace F := F.1 c
    refine wp_const' (L' := [none, none, none, none, none]) rfl rfl rfl ?_
    refine wp_goto rfl rfl ?_
    exact wp_retI rfl (Or.inl rfl) F
  · replace F := F.2 c
    refine wp_iload rfl rfl rfl ?_
    refine wp_const rfl rfl ?_
    refine wp_icmp_ne (Y := (-2000000)) rfl rfl rfl rfl rfl (fun c => ?_) (fun c => ?_)
    · replace F := F.1 c
      refine wp_const' (L' := [none, none, none, none, none]) rfl rfl rfl ?_
      refine wp_goto rfl rfl ?_
      exact wp_retI rfl (Or.inl rfl) F
    · replace F := F.2 c
      refine wp_iload' (L' := [some (vR a0), some (vI a1), none, some (vI y1), some (vI y3)]) rfl rfl rfl rfl ?_
      refine wp_iload rfl rfl rfl ?_
      refine wp_isub rfl rfl ?_
      refine wp_aload rfl rfl rfl ?_
      obtain ⟨f9, F⟩ := F
      refine wp_getR rfl rfl rfl f9 rfl ?_
      refine wp_iload rfl rfl rfl ?_
      refine wp_const rfl rfl ?_
      obtain ⟨f10, F⟩ := F
      obtain ⟨f11, F⟩ := F
      refine wp_callI rfl rfl rfl (rcv_v f10 f11 (by decide) (by decide)) rfl rfl rfl rfl ?_
      refine CI.mono F (fun y4 h4 F => ?_) (fun _ _ w => rx_I w)
      refine wp_isub rfl rfl ?_
      exact wp_retI rfl (Or.inl rfl) F
-- CensusOffice$Form countBroken ([I)I
theorem m193 {d : Nat} {a0 : Nat} {a1 : Nat} {h : aH} {K : Int32 → aH → Prop} {X : Nat → aH → Prop} (F : Wp (d + 1) 193 (4, [some (vR a0), some (vR a1), some (vI 0), some (vI 0)], [], h) (RI K X)) : CI (d + 1) 193 [vR a0, vR a1] h K X := by
  show Wp (d + 1) 193 (0, [some (vR a0), some (vR a1), none, none], [], h) (RI K X)
  refine wp_const rfl rfl ?_
  refine wp_istore (L2 := [some (vR a0), some (vR a1), some (vI 0), none]) rfl rfl rfl rfl ?_
  refine wp_const rfl rfl ?_
  refine wp_istore (L2 := [some (vR a0), some (vR a1), some (vI 0), some (vI 0)]) rfl rfl rfl rfl ?_
  exact F
theorem w193_4 {d : Nat} {l0 : Nat} {l1 : Nat} {l2 : Int32} {l3 : Int32} {h : aH} {K : Int32 → aH → Prop} {X : Nat → aH → Prop} (F : gK h l0 = 3 ∧ 8 ≤ (gR h l0 9) ∧ gK h (gR h l0 9) = 8 ∧ CI d 28 [vR (gR h l0 9)] h (fun y0 h0 => ((l3.toInt < y0.toInt → 8 ≤ l0 ∧ gK h0 l0 = 3 ∧ CI d 192 [vR l0, vI l3, vR l1] h0 (fun y1 h1 => ((0 < y1.toInt → ∀ v0 : Int32, v0 = l2 + 1 → ∀ v1 : Int32, v1 = l3 + 1 → Wp (d + 1) 193 (4, [some (vR l0), some (vR l1), some (vI v0), some (vI v1)], [], h1) (RI K X)) ∧ (¬ 0 < y1.toInt → ∀ v2 : Int32, v2 = l2 + 0 → ∀ v3 : Int32, v3 = l3 + 1 → Wp (d + 1) 193 (4, [some (vR l0), some (vR l1), some (vI v2), some (vI v3)], [], h1) (RI K X)))) X) ∧ (¬ l3.toInt < y0.toInt → K l2 h0))) X) : Wp (d + 1) 193 (4, [some (vR l0), some (vR l1), some (vI l2), some (vI l3)], [], h) (RI K X) := by
  refine wp_iload rfl rfl rfl ?_
  refine wp_aload rfl rfl rfl ?_
  obtain ⟨f0, F⟩ := F
  refine wp_getR rfl rfl rfl f0 rfl ?_
  obtain ⟨f1, F⟩ := F
  obtain ⟨f2, F⟩ := F
  refine wp_callI rfl rfl rfl (rcv_v f1 f2 (by decide) (by decide)) rfl rfl rfl rfl ?_
  refine CI.mono F (fun y0 h0 F => ?_) (fun _ _ w => rx_I w)
  refine wp_icmp_ge rfl rfl rfl rfl rfl (fun c => ?_) (fun c => ?_)
  · replace F := F.1 c
    refine wp_iload rfl rfl rfl ?_
    refine wp_aload rfl rfl rfl ?_
    refine wp_iload rfl rfl rfl ?_
    refine wp_aload rfl rfl rfl ?_
    obtain ⟨f3, F⟩ := F
    obtain ⟨f4, F⟩ := F
    refine wp_callI rfl rfl rfl (rcv_v f3 f4 (by decide) (by decide)) rfl rfl rfl rfl ?_
    refine CI.mono F (fun y1 h1 F => ?_) (fun _ _ w => rx_I w)
    refine wp_if_le rfl rfl rfl rfl (fun c => ?_) (fun c => ?_)
    · replace F := F.1 c
      refine wp_const rfl rfl ?_
      refine wp_goto rfl rfl ?_
      refine wp_iadd' (L' := [some (vR l0), some (vR l1), none, some (vI l3)]) rfl rfl rfl ?_
      replace F := F _ rfl
      generalize (l2 + 1 : Int32) = v0 at F ⊢
      refine wp_istore (L2 := [some (vR l0), some (vR l1), some (vI v0), some (vI l3)]) rfl rfl rfl rfl ?_
      refine wp_iinc (y := 1) (L2 := [some (vR l0), some (vR l1), some (vI v0), some (vI (l3 + 1))]) rfl rfl rfl rfl rfl ?_
      replace F := F _ rfl
      generalize (l3 + 1 : Int32) = v1 at F ⊢
      refine wp_goto rfl rfl ?_
      exact F
    · replace F := F.2 c
      refine wp_const' (L' := [some (vR l0), some (vR l1), none, some (vI l3)]) rfl rfl rfl ?_
      refine wp_iadd' (L' := [some (vR l0), some (vR l1), none, some (vI l3)]) rfl rfl rfl ?_
      replace F := F _ rfl
      generalize (l2 + 0 : Int32) = v2 at F ⊢
      refine wp_istore (L2 := [some (vR l0), some (vR l1), some (vI v2), some (vI l3)]) rfl rfl rfl rfl ?_
      refine wp_iinc (y := 1) (L2 := [some (vR l0), some (vR l1), some (vI v2), some (vI (l3 + 1))]) rfl rfl rfl rfl rfl ?_
      replace F := F _ rfl
      generalize (l3 + 1 : Int32) = v3 at F ⊢
      refine wp_goto rfl rfl ?_
      exact F
  · replace F := F.2 c
    refine wp_iload' (L' := [none, none, some (vI l2), none]) rfl rfl rfl rfl ?_
    exact wp_retI rfl (Or.inl rfl) F
-- CensusOffice$Form brokenAt ([II)I
theorem m194 {d : Nat} {a0 : Nat} {a1 : Nat} {a2 : Int32} {h : aH} {K : Int32 → aH → Prop} {X : Nat → aH → Prop} (F : Wp (d + 1) 194 (5, [some (vR a0), some (vR a1), some (vI a2), some (vI 0), some (vI 0)], [], h) (RI K X)) : CI (d + 1) 194 [vR a0, vR a1, vI a2] h K X := by
  show Wp (d + 1) 194 (0, [some (vR a0), some (vR a1), some (vI a2), none, none], [], h) (RI K X)
  refine wp_const rfl rfl ?_
  refine wp_istore (L2 := [some (vR a0), some (vR a1), some (vI a2), some (vI 0), none]) rfl rfl rfl rfl ?_
  refine wp_const rfl rfl ?_
  refine wp_istore (L2 := [some (vR a0), some (vR a1), some (vI a2), some (vI 0), some (vI 0)]) rfl rfl rfl rfl ?_
  exact F
theorem w194_5 {d : Nat} {l0 : Nat} {l1 : Nat} {l2 : Int32} {l3 : Int32} {l4 : Int32} {h : aH} {K : Int32 → aH → Prop} {X : Nat → aH → Prop} (F : gK h l0 = 3 ∧ 8 ≤ (gR h l0 9) ∧ gK h (gR h l0 9) = 8 ∧ CI d 28 [vR (gR h l0 9)] h (fun y0 h0 => ((l4.toInt < y0.toInt → 8 ≤ l0 ∧ gK h0 l0 = 3 ∧ CI d 192 [vR l0, vI l4, vR l1] h0 (fun y1 h1 => ((0 < y1.toInt → ((l3.toInt = l2.toInt → K l4 h1) ∧ (¬ l3.toInt = l2.toInt → ∀ v0 : Int32, v0 = l3 + 1 → ∀ v1 : Int32, v1 = l4 + 1 → Wp (d + 1) 194 (5, [some (vR l0), some (vR l1), some (vI l2), some (vI v0), some (vI v1)], [], h1) (RI K X)))) ∧ (¬ 0 < y1.toInt → ∀ v2 : Int32, v2 = l4 + 1 → Wp (d + 1) 194 (5, [some (vR l0), some (vR l1), some (vI l2), some (vI l3), some (vI v2)], [], h1) (RI K X)))) X) ∧ (¬ l4.toInt < y0.toInt → K (-1) h0))) X) : Wp (d + 1) 194 (5, [some (vR l0), some (vR l1), some (vI l2), some (vI l3), some (vI l4)], [], h) (RI K X) := by
  refine wp_iload rfl rfl rfl ?_
  refine wp_aload rfl rfl rfl ?_
  obtain ⟨f0, F⟩ := F
  refine wp_getR rfl rfl rfl f0 rfl ?_
  obtain ⟨f1, F⟩ := F
  obtain ⟨f2, F⟩ := F
  refine wp_callI rfl rfl rfl (rcv_v f1 f2 (by decide) (by decide)) rfl rfl rfl rfl ?_
  refine CI.mono F (fun y0 h0 F => ?_) (fun _ _ w => rx_I w)
  refine wp_icmp_ge rfl rfl rfl rfl rfl (fun c => ?_) (fun c => ?_)
  · replace F := F.1 c
    refine wp_aload rfl rfl rfl ?_
    refine wp_iload rfl rfl rfl ?_
    refine wp_aload rfl rfl rfl ?_
    obtain ⟨f3, F⟩ := F
    obtain ⟨f4, F⟩ := F
    refine wp_callI rfl rfl rfl (rcv_v f3 f4 (by decide) (by decide)) rfl rfl rfl rfl ?_
    refine CI.mono F (fun y1 h1 F => ?_) (fun _ _ w => rx_I w)
    refine wp_if_le rfl rfl rfl rfl (fun c => ?_) (fun c => ?_)
    · replace F := F.1 c
      refine wp_iload rfl rfl rfl ?_
      refine wp_iload rfl rfl rfl ?_
      refine wp_icmp_ne rfl rfl rfl rfl rfl (fun c => ?_) (fun c => ?_)
      · replace F := F.1 c
        refine wp_iload rfl rfl rfl ?_
        exact wp_retI rfl (Or.inl rfl) F
      · replace F := F.2 c
        refine wp_iinc (y := 1) (L2 := [some (vR l0), some (vR l1), some (vI l2), some (vI (l3 + 1)), some (vI l4)]) rfl rfl rfl rfl rfl ?_
        replace F := F _ rfl
        generalize (l3 + 1 : Int32) = v0 at F ⊢
        refine wp_iinc (y := 1) (L2 := [some (vR l0), some (vR l1), some (vI l2), some (vI v0), some (vI (l4 + 1))]) rfl rfl rfl rfl rfl ?_
        replace F := F _ rfl
        generalize (l4 + 1 : Int32) = v1 at F ⊢
        refine wp_goto rfl rfl ?_
        exact F
    · replace F := F.2 c
      refine wp_iinc (y := 1) (L2 := [some (vR l0), some (vR l1), some (vI l2), some (vI l3), some (vI (l4 + 1))]) rfl rfl rfl rfl rfl ?_
      replace F := F _ rfl
      generalize (l4 + 1 : Int32) = v2 at F ⊢
      refine wp_goto rfl rfl ?_
      exact F
  · replace F := F.2 c
    refine wp_const' (L' := [none, none, none, none, none]) rfl rfl rfl ?_
    exact wp_retI rfl (Or.inl rfl) F
-- CensusOffice broken (II)I
theorem m195 {d : Nat} {a0 : Nat} {a1 : Int32} {a2 : Int32} {h : aH} {K : Int32 → aH → Prop} {X : Nat → aH → Prop} (F : 8 ≤ a0 ∧ gK h a0 = 1 ∧ CR d 172 [vR a0, vI a1] h (fun q0 h0 => ((a2.toInt < (-1) → X 3 (gNew h0 200 6)) ∧ (¬ a2.toInt < (-1) → ((a2.toInt = (-1) → gK h0 q0 = 5 ∧ 8 ≤ (gR h0 q0 0) ∧ gK h0 (gR h0 q0 0) = 3 ∧ CI d 193 [vR (gR h0 q0 0), vR (gR h0 q0 3)] h0 (fun y0 h1 => K y0 h1) X) ∧ (¬ a2.toInt = (-1) → gK h0 q0 = 5 ∧ 8 ≤ (gR h0 q0 0) ∧ gK h0 (gR h0 q0 0) = 3 ∧ CI d 194 [vR (gR h0 q0 0), vR (gR h0 q0 3), vI a2] h0 (fun y1 h2 => K y1 h2) X))))) X) : CI (d + 1) 195 [vR a0, vI a1, vI a2] h K X := by
  show Wp (d + 1) 195 (0, [some (vR a0), some (vI a1), some (vI a2), none], [], h) (RI K X)
  refine wp_aload rfl rfl rfl ?_
  refine wp_iload rfl rfl rfl ?_
  obtain ⟨f0, F⟩ := F
  obtain ⟨f1, F⟩ := F
  refine wp_callR rfl rfl rfl (rcv_v f0 f1 (by decide) (by decide)) rfl rfl rfl rfl ?_
  refine CR.mono F (fun q0 h0 F => ?_) (fun _ _ w => rx_I w)
  refine wp_astore (L2 := [some (vR a0), some (vI a1), some (vI a2), some (vR q0)]) rfl rfl rfl rfl ?_
  refine wp_iload rfl rfl rfl ?_
  refine wp_const rfl rfl ?_
  refine wp_icmp_ge (Y := (-1)) rfl rfl rfl rfl rfl (fun c => ?_) (fun c => ?_)
  · replace F := F.1 c
    exact wp_thrI rfl F
  · replace F := F.2 c
    refine wp_iload' (L' := [none, none, some (vI a2), some (vR q0)]) rfl rfl rfl rfl ?_
    refine wp_const rfl rfl ?_
    refine wp_icmp_ne (Y := (-1)) rfl rfl rfl rfl rfl (fun c => ?_) (fun c => ?_)
    · replace F := F.1 c
      refine wp_aload rfl rfl rfl ?_
      obtain ⟨f2, F⟩ := F
      refine wp_getR rfl rfl rfl f2 rfl ?_
      refine wp_aload rfl rfl rfl ?_
      refine wp_getR rfl rfl rfl f2 rfl ?_
      obtain ⟨f3, F⟩ := F
      obtain ⟨f4, F⟩ := F
      refine wp_callI rfl rfl rfl (rcv_v f3 f4 (by decide) (by decide)) rfl rfl rfl rfl ?_
      refine CI.mono F (fun y0 h1 F => ?_) (fun _ _ w => rx_I w)
      refine wp_goto rfl rfl ?_
      exact wp_retI rfl (Or.inl rfl) F
    · replace F := F.2 c
      refine wp_aload' (L' := [none, none, some (vI a2), some (vR q0)]) rfl rfl rfl rfl ?_
      obtain ⟨f5, F⟩ := F
      refine wp_getR rfl rfl rfl f5 rfl ?_
      refine wp_aload rfl rfl rfl ?_
      refine wp_getR rfl rfl rfl f5 rfl ?_
      refine wp_iload rfl rfl rfl ?_
      obtain ⟨f6, F⟩ := F
      obtain ⟨f7, F⟩ := F
      refine wp_callI rfl rfl rfl (rcv_v f6 f7 (by decide) (by decide)) rfl rfl rfl rfl ?_
      refine CI.mono F (fun y1 h2 F => ?_) (fun _ _ w => rx_I w)
      exact wp_retI rfl (Or.inl rfl) F
-- CensusOfficeLaw broken (LCensusOffice;II[J)I
theorem m196 {d : Nat} {a0 : Nat} {a1 : Int32} {a2 : Int32} {a3 : Nat} {h : aH} {K : Int32 → aH → Prop} {X : Nat → aH → Prop} (F : 8 ≤ a0 ∧ gK h a0 = 1 ∧ CI d 195 [vR a0, vI a1, vI a2] h (fun y0 h0 => 8 ≤ a3 ∧ inB h0 101 a3 0 0 ∧ ∀ h1 : aH, h1 = pJ h0 a3 0 (y0.toInt64) → K 0 h1) (fun x9 h9 => (x9 = 3 ∧ K 1 h9))) : CI (d + 1) 196 [vR a0, vI a1, vI a2, vR a3] h K X := by
  show Wp (d + 1) 196 (0, [some (vR a0), some (vI a1), some (vI a2), some (vR a3), none], [], h) (RI K X)
  refine wp_aload rfl rfl rfl ?_
  refine wp_const rfl rfl ?_
  refine wp_aload rfl rfl rfl ?_
  refine wp_iload rfl rfl rfl ?_
  refine wp_iload rfl rfl rfl ?_
  obtain ⟨f0, F⟩ := F
  obtain ⟨f1, F⟩ := F
  refine wp_callhI (X := (fun x9 h9 => (x9 = 3 ∧ K 1 h9))) rfl rfl rfl (rcv_v f0 f1 (by decide) (by decide)) rfl rfl rfl (fun x9 h9 F => ?_) ?_
  · rcases F with ⟨rfl, F⟩
    · refine ⟨13, rfl, ?_⟩
      refine wp_astoreJ' (L' := [none, none, none, none, none]) (L2 := [none, none, none, none, some vJ]) rfl rfl rfl rfl rfl ?_
      refine wp_const rfl rfl ?_
      exact wp_retI rfl (Or.inl rfl) F
  · refine CI.mono F (fun y0 h0 F => ?_) (fun _ _ w => w)
    refine wp_i2l rfl rfl ?_
    obtain ⟨f2, F⟩ := F
    obtain ⟨b9, F⟩ := F
    refine wp_lastore rfl f2 b9 rfl ?_
    replace F := F _ rfl
    generalize pJ h0 a3 0 (y0.toInt64) = h1 at F ⊢
    refine wp_goto rfl rfl ?_
    refine wp_const' (L' := [none, none, none, none, none]) rfl rfl rfl ?_
    exact wp_retI rfl (Or.inl rfl) F
-- CensusOfficeModel breaks (II)Z
theorem m197 {d : Nat} {a0 : Nat} {a1 : Int32} {a2 : Int32} {h : aH} {K : Int32 → aH → Prop} {X : Nat → aH → Prop} (F : gK h a0 = 14 ∧ ∃ i0 : Nat, inB h 100 (gR h a0 58) a2 i0 ∧ (((gI h (gR h a0 58) i0).toInt = (-1) → ∃ i1 : Nat, inB h 100 (gR h a0 59) a2 i1 ∧ (((gI h (gR h a0 59) i1).toInt = (-1) → Wp d 197 (61, [some (vR a0), none, some (vI a2), some (vI 0), none], [vI 0], h) (RI K X)) ∧ (¬ (gI h (gR h a0 59) i1).toInt = (-1) → ∃ i2 : Nat, inB h 100 (gR h a0 59) a2 i2 ∧ ∃ i3 : Nat, inB h 100 (gR h a0 55) ((20 * a1) + (gI h (gR h a0 59) i2)) i3 ∧ Wp d 197 (61, [some (vR a0), none, some (vI a2), some (vI 0), none], [vI (gI h (gR h a0 55) i3)], h) (RI K X)))) ∧ (¬ (gI h (gR h a0 58) i0).toInt = (-1) → ∃ i4 : Nat, inB h 100 (gR h a0 58) a2 i4 ∧ ∃ i5 : Nat, inB h 100 (gR h a0 55) ((20 * a1) + (gI h (gR h a0 58) i4)) i5 ∧ ∀ v0 : Int32, v0 = gI h (gR h a0 55) i5 → ∃ i6 : Nat, inB h 100 (gR h a0 59) a2 i6 ∧ (((gI h (gR h a0 59) i6).toInt = (-1) → Wp d 197 (61, [some (vR a0), none, some (vI a2), some (vI v0), none], [vI 0], h) (RI K X)) ∧ (¬ (gI h (gR h a0 59) i6).toInt = (-1) → ∃ i7 : Nat, inB h 100 (gR h a0 59) a2 i7 ∧ ∃ i8 : Nat, inB h 100 (gR h a0 55) ((20 * a1) + (gI h (gR h a0 59) i7)) i8 ∧ Wp d 197 (61, [some (vR a0), none, some (vI a2), some (vI v0), none], [vI (gI h (gR h a0 55) i8)], h) (RI K X)))))) : CI d 197 [vR a0, vI a1, vI a2] h K X := by
  show Wp d 197 (0, [some (vR a0), some (vI a1), some (vI a2), none, none], [], h) (RI K X)
  refine wp_aload rfl rfl rfl ?_
  obtain ⟨f0, F⟩ := F
  refine wp_getR rfl rfl rfl f0 rfl ?_
  refine wp_iload rfl rfl rfl ?_
  obtain ⟨i0, b9, F⟩ := F
  refine wp_iaload rfl b9 rfl ?_
  refine wp_const rfl rfl ?_
  refine wp_icmp_ne (Y := (-1)) rfl rfl rfl rfl rfl (fun c => ?_) (fun c => ?_)
  · replace F := F.1 c
    refine wp_const rfl rfl ?_
    refine wp_goto rfl rfl ?_
    refine wp_istore' (L' := [some (vR a0), some (vI a1), some (vI a2), none, none]) (L2 := [some (vR a0), some (vI a1), some (vI a2), some (vI 0), none]) rfl rfl rfl rfl rfl ?_
    refine wp_aload rfl rfl rfl ?_
    refine wp_getR rfl rfl rfl f0 rfl ?_
    refine wp_iload rfl rfl rfl ?_
    obtain ⟨i1, b9, F⟩ := F
    refine wp_iaload rfl b9 rfl ?_
    refine wp_const rfl rfl ?_
    refine wp_icmp_ne (Y := (-1)) rfl rfl rfl rfl rfl (fun c => ?_) (fun c => ?_)
    · replace F := F.1 c
      refine wp_const rfl rfl ?_
      refine wp_goto rfl rfl ?_
      refine wp_kill (L' := [some (vR a0), none, some (vI a2), some (vI 0), none]) rfl rfl ?_
      exact F
    · replace F := F.2 c
      refine wp_aload' (L' := [some (vR a0), some (vI a1), some (vI a2), some (vI 0), none]) rfl rfl rfl rfl ?_
      refine wp_getR rfl rfl rfl f0 rfl ?_
      refine wp_const rfl rfl ?_
      refine wp_iload rfl rfl rfl ?_
      refine wp_imul rfl rfl ?_
      refine wp_aload rfl rfl rfl ?_
      refine wp_getR rfl rfl rfl f0 rfl ?_
      refine wp_iload rfl rfl rfl ?_
      obtain ⟨i2, b9, F⟩ := F
      refine wp_iaload rfl b9 rfl ?_
      refine wp_iadd rfl rfl ?_
      obtain ⟨i3, b9, F⟩ := F
      refine wp_iaload rfl b9 rfl ?_
      refine wp_kill (L' := [some (vR a0), none, some (vI a2), some (vI 0), none]) rfl rfl ?_
      exact F
  · replace F := F.2 c
    refine wp_aload' (L' := [some (vR a0), some (vI a1), some (vI a2), none, none]) rfl rfl rfl rfl ?_
    refine wp_getR rfl rfl rfl f0 rfl ?_
    refine wp_const rfl rfl ?_
    refine wp_iload rfl rfl rfl ?_
    refine wp_imul rfl rfl ?_
    refine wp_aload rfl rfl rfl ?_
    refine wp_getR rfl rfl rfl f0 rfl ?_
    refine wp_iload rfl rfl rfl ?_
    obtain ⟨i4, b9, F⟩ := F
    refine wp_iaload rfl b9 rfl ?_
    refine wp_iadd rfl rfl ?_
    obtain ⟨i5, b9, F⟩ := F
    refine wp_iaload rfl b9 rfl ?_
    replace F := F _ rfl
    generalize (gI h (gR h a0 55) i5 : Int32) = v0 at F ⊢
    refine wp_istore' (L' := [some (vR a0), some (vI a1), some (vI a2), none, none]) (L2 := [some (vR a0), some (vI a1), some (vI a2), some (vI v0), none]) rfl rfl rfl rfl rfl ?_
    refine wp_aload rfl rfl rfl ?_
    refine wp_getR rfl rfl rfl f0 rfl ?_
    refine wp_iload rfl rfl rfl ?_
    obtain ⟨i6, b9, F⟩ := F
    refine wp_iaload rfl b9 rfl ?_
    refine wp_const rfl rfl ?_
    refine wp_icmp_ne (Y := (-1)) rfl rfl rfl rfl rfl (fun c => ?_) (fun c => ?_)
    · replace F := F.1 c
      refine wp_const rfl rfl ?_
      refine wp_goto rfl rfl ?_
      refine wp_kill (L' := [some (vR a0), none, some (vI a2), some (vI v0), none]) rfl rfl ?_
      exact F
    · replace F := F.2 c
      refine wp_aload' (L' := [some (vR a0), some (vI a1), some (vI a2), some (vI v0), none]) rfl rfl rfl rfl ?_
      refine wp_getR rfl rfl rfl f0 rfl ?_
      refine wp_const rfl rfl ?_
      refine wp_iload rfl rfl rfl ?_
      refine wp_imul rfl rfl ?_
      refine wp_aload rfl rfl rfl ?_
      refine wp_getR rfl rfl rfl f0 rfl ?_
      refine wp_iload rfl rfl rfl ?_
      obtain ⟨i7, b9, F⟩ := F
      refine wp_iaload rfl b9 rfl ?_
      refine wp_iadd rfl rfl ?_
      obtain ⟨i8, b9, F⟩ := F
      refine wp_iaload rfl b9 rfl ?_
      refine wp_kill (L' := [some (vR a0), none, some (vI a2), some (vI v0), none]) rfl rfl ?_
      exact F
theorem w197_61 {d : Nat} {l0 : Nat} {l2 : Int32} {l3 : Int32} {s0 : Int32} {h : aH} {K : Int32 → aH → Prop} {X : Nat → aH → Prop} (F : ((l3.toInt = (-2000000) → K 0 h) ∧ (¬ l3.toInt = (-2000000) → ((s0.toInt = (-2000000) → K 0 h) ∧ (¬ s0.toInt = (-2000000) → gK h l0 = 14 ∧ ∃ i0 : Nat, inB h 100 (gR h l0 60) l2 i0 ∧ (((gI h (gR h l0 60) i0).toInt < (l3 - s0).toInt → K 1 h) ∧ (¬ (gI h (gR h l0 60) i0).toInt < (l3 - s0).toInt → K 0 h))))))) : Wp d 197 (61, [some (vR l0), none, some (vI l2), some (vI l3), none], [vI s0], h) (RI K X) := by
  refine wp_istore' (L' := [some (vR l0), none, some (vI l2), some (vI l3), none]) (L2 := [some (vR l0), none, some (vI l2), some (vI l3), some (vI s0)]) rfl rfl rfl rfl rfl ?_
  refine wp_iload rfl rfl rfl ?_
  refine wp_const rfl rfl ?_
  refine wp_icmp_eq (Y := (-2000000)) rfl rfl rfl rfl rfl (fun c => ?_) (fun c => ?_)
  · replace F := F.1 c
    refine wp_const' (L' := [none, none, none, none, none]) rfl rfl rfl ?_
    exact wp_retI rfl (Or.inr rfl) F
  · replace F := F.2 c
    refine wp_iload rfl rfl rfl ?_
    refine wp_const rfl rfl ?_
    refine wp_icmp_eq (Y := (-2000000)) rfl rfl rfl rfl rfl (fun c => ?_) (fun c => ?_)
    · replace F := F.1 c
      refine wp_const' (L' := [none, none, none, none, none]) rfl rfl rfl ?_
      exact wp_retI rfl (Or.inr rfl) F
    · replace F := F.2 c
      refine wp_iload rfl rfl rfl ?_
      refine wp_iload rfl rfl rfl ?_
      refine wp_isub rfl rfl ?_
      refine wp_aload rfl rfl rfl ?_
      obtain ⟨f0, F⟩ := F
      refine wp_getR rfl rfl rfl f0 rfl ?_
      refine wp_iload rfl rfl rfl ?_
      obtain ⟨i0, b9, F⟩ := F
      refine wp_iaload rfl b9 rfl ?_
      refine wp_icmp_le rfl rfl rfl rfl rfl (fun c => ?_) (fun c => ?_)
      · replace F := F.1 c
        refine wp_const rfl rfl ?_
        refine wp_goto rfl rfl ?_
        exact wp_retI rfl (Or.inr rfl) F
      · replace F := F.2 c
        refine wp_const' (L' := [none, none, none, none, none]) rfl rfl rfl ?_
        exact wp_retI rfl (Or.inr rfl) F
-- CensusOfficeModel broken (II)I
theorem m198 {d : Nat} {a0 : Nat} {a1 : Int32} {a2 : Int32} {h : aH} {K : Int32 → aH → Prop} {X : Nat → aH → Prop} (F : 8 ≤ a0 ∧ gK h a0 = 14 ∧ ∀ h0 : aH, h0 = pI h a0 0 0 → CI d 14 [vL (a1.toInt64), vL 0, vL (((gI h0 a0 53) - 1).toInt64)] h0 (fun y0 h1 => ((y0.toInt = 0 → gK h1 a0 = 14 ∧ CI d 15 [vR a0, vI 1] h1 (fun y1 h2 => K y1 h2) X) ∧ (¬ y0.toInt = 0 → ((a2.toInt < (-1) → gK h1 a0 = 14 ∧ CI d 15 [vR a0, vI 1] h1 (fun y2 h3 => K y2 h3) X) ∧ (¬ a2.toInt < (-1) → gK h1 a0 = 14 ∧ CI d 175 [vR a0, vI a1] h1 (fun y3 h4 => Wp (d + 1) 198 (44, [some (vR a0), some (vI a1), some (vI a2), some (vI y3), some (vI 0), some (vI 0)], [], h4) (RI K X)) X))))) X) : CI (d + 1) 198 [vR a0, vI a1, vI a2] h K X := by
  show Wp (d + 1) 198 (0, [some (vR a0), some (vI a1), some (vI a2), none, none, none], [], h) (RI K X)
  refine wp_aload rfl rfl rfl ?_
  refine wp_const rfl rfl ?_
  obtain ⟨f0, F⟩ := F
  obtain ⟨f1, F⟩ := F
  refine wp_putI rfl rfl rfl f0 f1 rfl ?_
  have f2 : gK (pI h a0 0 0) a0 = 14 := (gK_pI _ _ _ _ _).trans f1
  replace F := F _ rfl
  generalize pI h a0 0 0 = h0 at F f2 ⊢
  refine wp_iload rfl rfl rfl ?_
  refine wp_i2l rfl rfl ?_
  refine wp_const rfl rfl ?_
  refine wp_aload rfl rfl rfl ?_
  refine wp_getI rfl rfl rfl f2 rfl ?_
  refine wp_const rfl rfl ?_
  refine wp_isub rfl rfl ?_
  refine wp_i2l rfl rfl ?_
  refine wp_callI rfl rfl rfl rfl rfl rfl rfl rfl ?_
  refine CI.mono F (fun y0 h1 F => ?_) (fun _ _ w => rx_I w)
  refine wp_if_eq rfl rfl rfl rfl (fun c => ?_) (fun c => ?_)
  · replace F := F.1 c
    refine wp_aload' (L' := [some (vR a0), none, none, none, none, none]) rfl rfl rfl rfl ?_
    refine wp_const rfl rfl ?_
    obtain ⟨f3, F⟩ := F
    refine wp_callI rfl rfl rfl (rcv_v f0 f3 (by decide) (by decide)) rfl rfl rfl rfl ?_
    refine CI.mono F (fun y1 h2 F => ?_) (fun _ _ w => rx_I w)
    exact wp_retI rfl (Or.inl rfl) F
  · replace F := F.2 c
    refine wp_iload rfl rfl rfl ?_
    refine wp_const rfl rfl ?_
    refine wp_icmp_ge (Y := (-1)) rfl rfl rfl rfl rfl (fun c => ?_) (fun c => ?_)
    · replace F := F.1 c
      refine wp_aload' (L' := [some (vR a0), none, none, none, none, none]) rfl rfl rfl rfl ?_
      refine wp_const rfl rfl ?_
      obtain ⟨f4, F⟩ := F
      refine wp_callI rfl rfl rfl (rcv_v f0 f4 (by decide) (by decide)) rfl rfl rfl rfl ?_
      refine CI.mono F (fun y2 h3 F => ?_) (fun _ _ w => rx_I w)
      exact wp_retI rfl (Or.inl rfl) F
    · replace F := F.2 c
      refine wp_aload' (L' := [some (vR a0), some (vI a1), some (vI a2), none, none, none]) rfl rfl rfl rfl ?_
      refine wp_iload rfl rfl rfl ?_
      obtain ⟨f5, F⟩ := F
      refine wp_callI rfl rfl rfl (rcv_v f0 f5 (by decide) (by decide)) rfl rfl rfl rfl ?_
      refine CI.mono F (fun y3 h4 F => ?_) (fun _ _ w => rx_I w)
      refine wp_istore (L2 := [some (vR a0), some (vI a1), some (vI a2), some (vI y3), none, none]) rfl rfl rfl rfl ?_
      refine wp_const rfl rfl ?_
      refine wp_istore (L2 := [some (vR a0), some (vI a1), some (vI a2), some (vI y3), some (vI 0), none]) rfl rfl rfl rfl ?_
      refine wp_const rfl rfl ?_
      refine wp_istore (L2 := [some (vR a0), some (vI a1), some (vI a2), some (vI y3), some (vI 0), some (vI 0)]) rfl rfl rfl rfl ?_
      exact F
theorem w198_44 {d : Nat} {l0 : Nat} {l1 : Int32} {l2 : Int32} {l3 : Int32} {l4 : Int32} {l5 : Int32} {h : aH} {K : Int32 → aH → Prop} {X : Nat → aH → Prop} (F : gK h l0 = 14 ∧ ∃ i0 : Nat, inB h 100 (gR h l0 57) l3 i0 ∧ ((l5.toInt < (gI h (gR h l0 57) i0).toInt → 8 ≤ l0 ∧ CI d 197 [vR l0, vI l1, vI ((16 * l3) + l5)] h (fun y0 h0 => ((y0.toInt = 0 → ∀ v0 : Int32, v0 = l5 + 1 → Wp (d + 1) 198 (44, [some (vR l0), some (vI l1), some (vI l2), some (vI l3), some (vI l4), some (vI v0)], [], h0) (RI K X)) ∧ (¬ y0.toInt = 0 → ((l4.toInt = l2.toInt → K l5 h0) ∧ (¬ l4.toInt = l2.toInt → ∀ v1 : Int32, v1 = l4 + 1 → ∀ v2 : Int32, v2 = l5 + 1 → Wp (d + 1) 198 (44, [some (vR l0), some (vI l1), some (vI l2), some (vI l3), some (vI v1), some (vI v2)], [], h0) (RI K X)))))) X) ∧ (¬ l5.toInt < (gI h (gR h l0 57) i0).toInt → ((l2.toInt = (-1) → K l4 h) ∧ (¬ l2.toInt = (-1) → K (-1) h))))) : Wp (d + 1) 198 (44, [some (vR l0), some (vI l1), some (vI l2), some (vI l3), some (vI l4), some (vI l5)], [], h) (RI K X) := by
  refine wp_iload rfl rfl rfl ?_
  refine wp_aload rfl rfl rfl ?_
  obtain ⟨f0, F⟩ := F
  refine wp_getR rfl rfl rfl f0 rfl ?_
  refine wp_iload rfl rfl rfl ?_
  obtain ⟨i0, b9, F⟩ := F
  refine wp_iaload rfl b9 rfl ?_
  refine wp_icmp_ge rfl rfl rfl rfl rfl (fun c => ?_) (fun c => ?_)
  · replace F := F.1 c
    refine wp_aload rfl rfl rfl ?_
    refine wp_iload rfl rfl rfl ?_
    refine wp_const rfl rfl ?_
    refine wp_iload rfl rfl rfl ?_
    refine wp_imul rfl rfl ?_
    refine wp_iload rfl rfl rfl ?_
    refine wp_iadd rfl rfl ?_
    obtain ⟨f1, F⟩ := F
    refine wp_callI rfl rfl rfl (rcv_v f1 f0 (by decide) (by decide)) rfl rfl rfl rfl ?_
    refine CI.mono F (fun y0 h0 F => ?_) (fun _ _ w => rx_I w)
    refine wp_if_eq rfl rfl rfl rfl (fun c => ?_) (fun c => ?_)
    · replace F := F.1 c
      refine wp_iinc (y := 1) (L2 := [some (vR l0), some (vI l1), some (vI l2), some (vI l3), some (vI l4), some (vI (l5 + 1))]) rfl rfl rfl rfl rfl ?_
      replace F := F _ rfl
      generalize (l5 + 1 : Int32) = v0 at F ⊢
      refine wp_goto rfl rfl ?_
      exact F
    · replace F := F.2 c
      refine wp_iload rfl rfl rfl ?_
      refine wp_iload rfl rfl rfl ?_
      refine wp_icmp_ne rfl rfl rfl rfl rfl (fun c => ?_) (fun c => ?_)
      · replace F := F.1 c
        refine wp_iload rfl rfl rfl ?_
        exact wp_retI rfl (Or.inl rfl) F
      · replace F := F.2 c
        refine wp_iinc (y := 1) (L2 := [some (vR l0), some (vI l1), some (vI l2), some (vI l3), some (vI (l4 + 1)), some (vI l5)]) rfl rfl rfl rfl rfl ?_
        replace F := F _ rfl
        generalize (l4 + 1 : Int32) = v1 at F ⊢
        refine wp_iinc (y := 1) (L2 := [some (vR l0), some (vI l1), some (vI l2), some (vI l3), some (vI v1), some (vI (l5 + 1))]) rfl rfl rfl rfl rfl ?_
        replace F := F _ rfl
        generalize (l5 + 1 : Int32) = v2 at F ⊢
        refine wp_goto rfl rfl ?_
        exact F
  · replace F := F.2 c
    refine wp_iload' (L' := [none, none, some (vI l2), none, some (vI l4), none]) rfl rfl rfl rfl ?_
    refine wp_const rfl rfl ?_
    refine wp_icmp_ne (Y := (-1)) rfl rfl rfl rfl rfl (fun c => ?_) (fun c => ?_)
    · replace F := F.1 c
      refine wp_iload rfl rfl rfl ?_
      refine wp_goto rfl rfl ?_
      exact wp_retI rfl (Or.inl rfl) F
    · replace F := F.2 c
      refine wp_const' (L' := [none, none, none, none, none, none]) rfl rfl rfl ?_
      exact wp_retI rfl (Or.inl rfl) F
-- CensusOffice hasBit (II)Z
theorem m199 {d : Nat} {a0 : Int32} {a1 : Int32} {h : aH} {K : Int32 → aH → Prop} {X : Nat → aH → Prop} (F : ((a1.toInt < 0 → K 0 h) ∧ (¬ a1.toInt < 0 → ((a1.toInt < 32 → ((((aUshr a0 a1) &&& 1).toInt = 0 → K 0 h) ∧ (¬ ((aUshr a0 a1) &&& 1).toInt = 0 → K 1 h))) ∧ (¬ a1.toInt < 32 → K 0 h))))) : CI d 199 [vI a0, vI a1] h K X := by
  show Wp d 199 (0, [some (vI a0), some (vI a1)], [], h) (RI K X)
  refine wp_iload rfl rfl rfl ?_
  refine wp_if_lt rfl rfl rfl rfl (fun c => ?_) (fun c => ?_)
  · replace F := F.1 c
    refine wp_const' (L' := [none, none]) rfl rfl rfl ?_
    exact wp_retI rfl (Or.inr rfl) F
  · replace F := F.2 c
    refine wp_iload rfl rfl rfl ?_
    refine wp_const rfl rfl ?_
    refine wp_icmp_ge (Y := 32) rfl rfl rfl rfl rfl (fun c => ?_) (fun c => ?_)
    · replace F := F.1 c
      refine wp_iload rfl rfl rfl ?_
      refine wp_iload rfl rfl rfl ?_
      refine wp_iushr rfl rfl ?_
      refine wp_const rfl rfl ?_
      refine wp_iand rfl rfl ?_
      refine wp_if_eq rfl rfl rfl rfl (fun c => ?_) (fun c => ?_)
      · replace F := F.1 c
        refine wp_const' (L' := [none, none]) rfl rfl rfl ?_
        exact wp_retI rfl (Or.inr rfl) F
      · replace F := F.2 c
        refine wp_const rfl rfl ?_
        refine wp_goto rfl rfl ?_
        exact wp_retI rfl (Or.inr rfl) F
    · replace F := F.2 c
      refine wp_const' (L' := [none, none]) rfl rfl rfl ?_
      exact wp_retI rfl (Or.inr rfl) F
-- CensusOffice$Editor lower (LCensusOffice$Form;I)I
theorem m200 {d : Nat} {a0 : Nat} {a1 : Nat} {a2 : Int32} {h : aH} {K : Int32 → aH → Prop} {X : Nat → aH → Prop} (F : Wp (d + 1) 200 (5, [some (vR a0), some (vR a1), some (vI a2), some (vI 0), some (vI 0), none, none], [], h) (RI K X)) : CI (d + 1) 200 [vR a0, vR a1, vI a2] h K X := by
  show Wp (d + 1) 200 (0, [some (vR a0), some (vR a1), some (vI a2), none, none, none, none], [], h) (RI K X)
  refine wp_const rfl rfl ?_
  refine wp_istore (L2 := [some (vR a0), some (vR a1), some (vI a2), some (vI 0), none, none, none]) rfl rfl rfl rfl ?_
  refine wp_const rfl rfl ?_
  refine wp_istore (L2 := [some (vR a0), some (vR a1), some (vI a2), some (vI 0), some (vI 0), none, none]) rfl rfl rfl rfl ?_
  exact F
theorem w200_5 {d : Nat} {l0 : Nat} {l1 : Nat} {l2 : Int32} {l3 : Int32} {l4 : Int32} {h : aH} {K : Int32 → aH → Prop} {X : Nat → aH → Prop} (F : gK h l1 = 3 ∧ 8 ≤ (gR h l1 9) ∧ gK h (gR h l1 9) = 8 ∧ CI d 28 [vR (gR h l1 9)] h (fun y0 h0 => ((l4.toInt < y0.toInt → gK h0 l0 = 2 ∧ 8 ≤ l1 ∧ gK h0 l1 = 3 ∧ CI d 192 [vR l1, vI l4, vR (gR h0 l0 0)] h0 (fun y1 h1 => gK h1 l1 = 3 ∧ 8 ≤ (gR h1 l1 9) ∧ gK h1 (gR h1 l1 9) = 8 ∧ CI d 32 [vR (gR h1 l1 9), vI l4, vI 0] h1 (fun y2 h2 => ((0 < y1.toInt → CI d 199 [vI l2, vI y2] h2 (fun y3 h3 => ((y3.toInt = 0 → K 2 h3) ∧ (¬ y3.toInt = 0 → gK h3 l0 = 2 ∧ ∃ i0 : Nat, inB h3 100 (gR h3 l0 0) y2 i0 ∧ gK h3 l1 = 3 ∧ ∃ i1 : Nat, inB h3 100 (gR h3 l1 3) y2 i1 ∧ ((((gI h3 (gR h3 l0 0) i0) - y1).toInt < (gI h3 (gR h3 l1 3) i1).toInt → K 2 h3) ∧ (¬ ((gI h3 (gR h3 l0 0) i0) - y1).toInt < (gI h3 (gR h3 l1 3) i1).toInt → ∃ i2 : Nat, inB h3 100 (gR h3 l0 0) y2 i2 ∧ 8 ≤ (gR h3 l0 0) ∧ ∃ i3 : Nat, inB h3 100 (gR h3 l0 0) y2 i3 ∧ ∀ h4 : aH, h4 = pI h3 (gR h3 l0 0) i3 ((gI h3 (gR h3 l0 0) i2) - y1) → ∀ v0 : Int32, v0 = l4 + 1 → Wp (d + 1) 200 (5, [some (vR l0), some (vR l1), some (vI l2), some (vI 1), some (vI v0), none, none], [], h4) (RI K X)))))) (fun _ _ => False)) ∧ (¬ 0 < y1.toInt → ∀ v1 : Int32, v1 = l4 + 1 → Wp (d + 1) 200 (5, [some (vR l0), some (vR l1), some (vI l2), some (vI l3), some (vI v1), none, none], [], h2) (RI K X)))) X) X) ∧ (¬ l4.toInt < y0.toInt → K l3 h0))) X) : Wp (d + 1) 200 (5, [some (vR l0), some (vR l1), some (vI l2), some (vI l3), some (vI l4), none, none], [], h) (RI K X) := by
  refine wp_iload' (L' := [some (vR l0), some (vR l1), some (vI l2), some (vI l3), some (vI l4), none, none]) rfl rfl rfl rfl ?_
  refine wp_aload rfl rfl rfl ?_
  obtain ⟨f0, F⟩ := F
  refine wp_getR rfl rfl rfl f0 rfl ?_
  obtain ⟨f1, F⟩ := F
  obtain ⟨f2, F⟩ := F
  refine wp_callI rfl rfl rfl (rcv_v f1 f2 (by decide) (by decide)) rfl rfl rfl rfl ?_
  refine CI.mono F (fun y0 h0 F => ?_) (fun _ _ w => rx_I w)
  refine wp_icmp_ge rfl rfl rfl rfl rfl (fun c => ?_) (fun c => ?_)
  · replace F := F.1 c
    refine wp_aload rfl rfl rfl ?_
    refine wp_iload rfl rfl rfl ?_
    refine wp_aload rfl rfl rfl ?_
    obtain ⟨f3, F⟩ := F
    refine wp_getR rfl rfl rfl f3 rfl ?_
    obtain ⟨f4, F⟩ := F
    obtain ⟨f5, F⟩ := F
    refine wp_callI rfl rfl rfl (rcv_v f4 f5 (by decide) (by decide)) rfl rfl rfl rfl ?_
    refine CI.mono F (fun y1 h1 F => ?_) (fun _ _ w => rx_I w)
    refine wp_istore (L2 := [some (vR l0), some (vR l1), some (vI l2), some (vI l3), some (vI l4), some (vI y1), none]) rfl rfl rfl rfl ?_
    refine wp_aload rfl rfl rfl ?_
    obtain ⟨f6, F⟩ := F
    refine wp_getR rfl rfl rfl f6 rfl ?_
    refine wp_iload rfl rfl rfl ?_
    refine wp_const rfl rfl ?_
    obtain ⟨f7, F⟩ := F
    obtain ⟨f8, F⟩ := F
    refine wp_callI rfl rfl rfl (rcv_v f7 f8 (by decide) (by decide)) rfl rfl rfl rfl ?_
    refine CI.mono F (fun y2 h2 F => ?_) (fun _ _ w => rx_I w)
    refine wp_istore (L2 := [some (vR l0), some (vR l1), some (vI l2), some (vI l3), some (vI l4), some (vI y1), some (vI y2)]) rfl rfl rfl rfl ?_
    refine wp_iload rfl rfl rfl ?_
    refine wp_if_le rfl rfl rfl rfl (fun c => ?_) (fun c => ?_)
    · replace F := F.1 c
      refine wp_iload rfl rfl rfl ?_
      refine wp_iload rfl rfl rfl ?_
      refine wp_callqI rfl rfl rfl rfl rfl rfl ?_
      refine CI.mono F (fun y3 h3 F => ?_) (fun _ _ w => w)
      refine wp_if_eq rfl rfl rfl rfl (fun c => ?_) (fun c => ?_)
      · replace F := F.1 c
        refine wp_const' (L' := [none, none, none, none, none, none, none]) rfl rfl rfl ?_
        exact wp_retI rfl (Or.inl rfl) F
      · replace F := F.2 c
        refine wp_aload rfl rfl rfl ?_
        obtain ⟨f9, F⟩ := F
        refine wp_getR rfl rfl rfl f9 rfl ?_
        refine wp_iload rfl rfl rfl ?_
        obtain ⟨i0, b9, F⟩ := F
        refine wp_iaload rfl b9 rfl ?_
        refine wp_iload rfl rfl rfl ?_
        refine wp_isub rfl rfl ?_
        refine wp_aload rfl rfl rfl ?_
        obtain ⟨f10, F⟩ := F
        refine wp_getR rfl rfl rfl f10 rfl ?_
        refine wp_iload rfl rfl rfl ?_
        obtain ⟨i1, b9, F⟩ := F
        refine wp_iaload rfl b9 rfl ?_
        refine wp_icmp_ge rfl rfl rfl rfl rfl (fun c => ?_) (fun c => ?_)
        · replace F := F.1 c
          refine wp_const' (L' := [none, none, none, none, none, none, none]) rfl rfl rfl ?_
          exact wp_retI rfl (Or.inl rfl) F
        · replace F := F.2 c
          refine wp_aload' (L' := [some (vR l0), some (vR l1), some (vI l2), none, some (vI l4), some (vI y1), some (vI y2)]) rfl rfl rfl rfl ?_
          refine wp_getR rfl rfl rfl f9 rfl ?_
          refine wp_iload rfl rfl rfl ?_
          refine wp_dup2 rfl rfl rfl rfl ?_
          obtain ⟨i2, b9, F⟩ := F
          refine wp_iaload rfl b9 rfl ?_
          refine wp_iload rfl rfl rfl ?_
          refine wp_isub rfl rfl ?_
          obtain ⟨f11, F⟩ := F
          obtain ⟨i3, b9, F⟩ := F
          refine wp_iastore rfl f11 b9 rfl ?_
          have f12 : gK (pI h3 (gR h3 l0 0) i3 ((gI h3 (gR h3 l0 0) i2) - y1)) l0 = 2 := (gK_pI _ _ _ _ _).trans f9
          have f13 : gK (pI h3 (gR h3 l0 0) i3 ((gI h3 (gR h3 l0 0) i2) - y1)) l1 = 3 := (gK_pI _ _ _ _ _).trans f10
          replace F := F _ rfl
          generalize pI h3 (gR h3 l0 0) i3 ((gI h3 (gR h3 l0 0) i2) - y1) = h4 at F f12 f13 ⊢
          refine wp_const rfl rfl ?_
          refine wp_istore (L2 := [some (vR l0), some (vR l1), some (vI l2), some (vI 1), some (vI l4), some (vI y1), some (vI y2)]) rfl rfl rfl rfl ?_
          refine wp_iinc' (L' := [some (vR l0), some (vR l1), some (vI l2), some (vI 1), some (vI l4), none, none]) (y := 1) (L2 := [some (vR l0), some (vR l1), some (vI l2), some (vI 1), some (vI (l4 + 1)), none, none]) rfl rfl rfl rfl rfl rfl ?_
          replace F := F _ rfl
          generalize (l4 + 1 : Int32) = v0 at F ⊢
          refine wp_goto rfl rfl ?_
          exact F
    · replace F := F.2 c
      refine wp_iinc' (L' := [some (vR l0), some (vR l1), some (vI l2), some (vI l3), some (vI l4), none, none]) (y := 1) (L2 := [some (vR l0), some (vR l1), some (vI l2), some (vI l3), some (vI (l4 + 1)), none, none]) rfl rfl rfl rfl rfl rfl ?_
      replace F := F _ rfl
      generalize (l4 + 1 : Int32) = v1 at F ⊢
      refine wp_goto rfl rfl ?_
      exact F
  · replace F := F.2 c
    refine wp_iload' (L' := [none, none, none, some (vI l3), none, none, none]) rfl rfl rfl rfl ?_
    exact wp_retI rfl (Or.inl rfl) F
-- CensusOffice$Editor fits (LCensusOffice$Rec;I)Z
theorem m201 {d : Nat} {a0 : Nat} {a1 : Nat} {a2 : Int32} {h : aH} {K : Int32 → aH → Prop} {X : Nat → aH → Prop} (F : Wp (d + 1) 201 (2, [some (vR a0), some (vR a1), some (vI a2), some (vI 0), none], [], h) (RI K X)) : CI (d + 1) 201 [vR a0, vR a1, vI a2] h K X := by
  show Wp (d + 1) 201 (0, [some (vR a0), some (vR a1), some (vI a2), none, none], [], h) (RI K X)
  refine wp_const rfl rfl ?_
  refine wp_istore (L2 := [some (vR a0), some (vR a1), some (vI a2), some (vI 0), none]) rfl rfl rfl rfl ?_
  exact F
theorem w201_2 {d : Nat} {l0 : Nat} {l1 : Nat} {l2 : Int32} {l3 : Int32} {h : aH} {K : Int32 → aH → Prop} {X : Nat → aH → Prop} (F : gK h l1 = 5 ∧ gK h (gR h l1 0) = 3 ∧ ((l3.toInt < (gI h (gR h l1 0) 11).toInt → gK h l0 = 2 ∧ CI d 199 [vI l2, vI l3] h (fun y0 h0 => ((y0.toInt = 0 → gK h0 l1 = 5 ∧ ∃ i0 : Nat, inB h0 100 (gR h0 l1 3) l3 i0 ∧ 8 ≤ (gR h l0 0) ∧ ∃ i1 : Nat, inB h0 100 (gR h l0 0) l3 i1 ∧ ∀ h1 : aH, h1 = pI h0 (gR h l0 0) i1 (gI h0 (gR h0 l1 3) i0) → ∀ v0 : Int32, v0 = l3 + 1 → Wp (d + 1) 201 (2, [some (vR l0), some (vR l1), some (vI l2), some (vI v0), none], [], h1) (RI K X)) ∧ (¬ y0.toInt = 0 → gK h0 l1 = 5 ∧ gK h0 (gR h0 l1 0) = 3 ∧ ∃ i2 : Nat, inB h0 100 (gR h0 (gR h0 l1 0) 4) l3 i2 ∧ 8 ≤ (gR h l0 0) ∧ ∃ i3 : Nat, inB h0 100 (gR h l0 0) l3 i3 ∧ ∀ h2 : aH, h2 = pI h0 (gR h l0 0) i3 (gI h0 (gR h0 (gR h0 l1 0) 4) i2) → ∀ v1 : Int32, v1 = l3 + 1 → Wp (d + 1) 201 (2, [some (vR l0), some (vR l1), some (vI l2), some (vI v1), none], [], h2) (RI K X)))) (fun _ _ => False)) ∧ (¬ l3.toInt < (gI h (gR h l1 0) 11).toInt → Wp (d + 1) 201 (53, [some (vR l0), some (vR l1), some (vI l2), some (vI 0), none], [], h) (RI K X)))) : Wp (d + 1) 201 (2, [some (vR l0), some (vR l1), some (vI l2), some (vI l3), none], [], h) (RI K X) := by
  refine wp_iload' (L' := [some (vR l0), some (vR l1), some (vI l2), some (vI l3), none]) rfl rfl rfl rfl ?_
  refine wp_aload rfl rfl rfl ?_
  obtain ⟨f0, F⟩ := F
  refine wp_getR rfl rfl rfl f0 rfl ?_
  obtain ⟨f1, F⟩ := F
  refine wp_getI rfl rfl rfl f1 rfl ?_
  refine wp_icmp_ge rfl rfl rfl rfl rfl (fun c => ?_) (fun c => ?_)
  · replace F := F.1 c
    refine wp_aload rfl rfl rfl ?_
    obtain ⟨f2, F⟩ := F
    refine wp_getR rfl rfl rfl f2 rfl ?_
    refine wp_iload rfl rfl rfl ?_
    refine wp_iload rfl rfl rfl ?_
    refine wp_iload rfl rfl rfl ?_
    refine wp_callqI rfl rfl rfl rfl rfl rfl ?_
    refine CI.mono F (fun y0 h0 F => ?_) (fun _ _ w => w)
    refine wp_if_eq rfl rfl rfl rfl (fun c => ?_) (fun c => ?_)
    · replace F := F.1 c
      refine wp_aload' (L' := [some (vR l0), some (vR l1), some (vI l2), some (vI l3), none]) rfl rfl rfl rfl ?_
      obtain ⟨f3, F⟩ := F
      refine wp_getR rfl rfl rfl f3 rfl ?_
      refine wp_iload rfl rfl rfl ?_
      obtain ⟨i0, b9, F⟩ := F
      refine wp_iaload rfl b9 rfl ?_
      obtain ⟨f4, F⟩ := F
      obtain ⟨i1, b9, F⟩ := F
      refine wp_iastore' (L' := [some (vR l0), some (vR l1), some (vI l2), some (vI l3), none]) rfl rfl f4 b9 rfl ?_
      have f5 : gK (pI h0 (gR h l0 0) i1 (gI h0 (gR h0 l1 3) i0)) l1 = 5 := (gK_pI _ _ _ _ _).trans f3
      replace F := F _ rfl
      generalize pI h0 (gR h l0 0) i1 (gI h0 (gR h0 l1 3) i0) = h1 at F f5 ⊢
      refine wp_iinc (y := 1) (L2 := [some (vR l0), some (vR l1), some (vI l2), some (vI (l3 + 1)), none]) rfl rfl rfl rfl rfl ?_
      replace F := F _ rfl
      generalize (l3 + 1 : Int32) = v0 at F ⊢
      refine wp_goto rfl rfl ?_
      exact F
    · replace F := F.2 c
      refine wp_aload rfl rfl rfl ?_
      obtain ⟨f6, F⟩ := F
      refine wp_getR rfl rfl rfl f6 rfl ?_
      obtain ⟨f7, F⟩ := F
      refine wp_getR rfl rfl rfl f7 rfl ?_
      refine wp_iload rfl rfl rfl ?_
      obtain ⟨i2, b9, F⟩ := F
      refine wp_iaload rfl b9 rfl ?_
      refine wp_goto rfl rfl ?_
      obtain ⟨f8, F⟩ := F
      obtain ⟨i3, b9, F⟩ := F
      refine wp_iastore' (L' := [some (vR l0), some (vR l1), some (vI l2), some (vI l3), none]) rfl rfl f8 b9 rfl ?_
      have f9 : gK (pI h0 (gR h l0 0) i3 (gI h0 (gR h0 (gR h0 l1 0) 4) i2)) l1 = 5 := (gK_pI _ _ _ _ _).trans f6
      have f10 : gK (pI h0 (gR h l0 0) i3 (gI h0 (gR h0 (gR h0 l1 0) 4) i2)) (gR (pI h0 (gR h l0 0) i3 (gI h0 (gR h0 (gR h0 l1 0) 4) i2)) l1 0) = 3 := (by simp only [gK_pI, gR_pI]; exact f7)
      replace F := F _ rfl
      generalize pI h0 (gR h l0 0) i3 (gI h0 (gR h0 (gR h0 l1 0) 4) i2) = h2 at F f9 f10 ⊢
      refine wp_iinc (y := 1) (L2 := [some (vR l0), some (vR l1), some (vI l2), some (vI (l3 + 1)), none]) rfl rfl rfl rfl rfl ?_
      replace F := F _ rfl
      generalize (l3 + 1 : Int32) = v1 at F ⊢
      refine wp_goto rfl rfl ?_
      exact F
  · replace F := F.2 c
    refine wp_const' (L' := [some (vR l0), some (vR l1), some (vI l2), none, none]) rfl rfl rfl ?_
    refine wp_istore (L2 := [some (vR l0), some (vR l1), some (vI l2), some (vI 0), none]) rfl rfl rfl rfl ?_
    exact F
theorem w201_53 {d : Nat} {l0 : Nat} {l1 : Nat} {l2 : Int32} {l3 : Int32} {h : aH} {K : Int32 → aH → Prop} {X : Nat → aH → Prop} (F : ((l3.toInt < 12 → gK h l1 = 5 ∧ 8 ≤ l0 ∧ gK h l0 = 2 ∧ CI d 200 [vR l0, vR (gR h l1 0), vI l2] h (fun y0 h0 => ((y0.toInt = 1 → ∀ v0 : Int32, v0 = l3 + 1 → Wp (d + 1) 201 (53, [some (vR l0), some (vR l1), some (vI l2), some (vI v0), none], [], h0) (RI K X)) ∧ (¬ y0.toInt = 1 → ((y0.toInt = 0 → K 1 h0) ∧ (¬ y0.toInt = 0 → K 0 h0))))) X) ∧ (¬ l3.toInt < 12 → K 0 h))) : Wp (d + 1) 201 (53, [some (vR l0), some (vR l1), some (vI l2), some (vI l3), none], [], h) (RI K X) := by
  refine wp_iload' (L' := [some (vR l0), some (vR l1), some (vI l2), some (vI l3), none]) rfl rfl rfl rfl ?_
  refine wp_const rfl rfl ?_
  refine wp_icmp_ge (Y := 12) rfl rfl rfl rfl rfl (fun c => ?_) (fun c => ?_)
  · replace F := F.1 c
    refine wp_aload rfl rfl rfl ?_
    refine wp_aload rfl rfl rfl ?_
    obtain ⟨f0, F⟩ := F
    refine wp_getR rfl rfl rfl f0 rfl ?_
    refine wp_iload rfl rfl rfl ?_
    obtain ⟨f1, F⟩ := F
    obtain ⟨f2, F⟩ := F
    refine wp_callI rfl rfl rfl (rcv_v f1 f2 (by decide) (by decide)) rfl rfl rfl rfl ?_
    refine CI.mono F (fun y0 h0 F => ?_) (fun _ _ w => rx_I w)
    refine wp_istore (L2 := [some (vR l0), some (vR l1), some (vI l2), some (vI l3), some (vI y0)]) rfl rfl rfl rfl ?_
    refine wp_iload rfl rfl rfl ?_
    refine wp_const rfl rfl ?_
    refine wp_icmp_eq (Y := 1) rfl rfl rfl rfl rfl (fun c => ?_) (fun c => ?_)
    · replace F := F.1 c
      refine wp_iinc' (L' := [some (vR l0), some (vR l1), some (vI l2), some (vI l3), none]) (y := 1) (L2 := [some (vR l0), some (vR l1), some (vI l2), some (vI (l3 + 1)), none]) rfl rfl rfl rfl rfl rfl ?_
      replace F := F _ rfl
      generalize (l3 + 1 : Int32) = v0 at F ⊢
      refine wp_goto rfl rfl ?_
      exact F
    · replace F := F.2 c
      refine wp_iload rfl rfl rfl ?_
      refine wp_if_ne rfl rfl rfl rfl (fun c => ?_) (fun c => ?_)
      · replace F := F.1 c
        refine wp_const rfl rfl ?_
        refine wp_goto rfl rfl ?_
        exact wp_retI rfl (Or.inr rfl) F
      · replace F := F.2 c
        refine wp_const' (L' := [none, none, none, none, none]) rfl rfl rfl ?_
        exact wp_retI rfl (Or.inr rfl) F
  · replace F := F.2 c
    refine wp_const' (L' := [none, none, none, none, none]) rfl rfl rfl ?_
    exact wp_retI rfl (Or.inr rfl) F
-- java/lang/Integer numberOfLeadingZeros (I)I
theorem m202 {d : Nat} {a0 : Int32} {h : aH} {K : Int32 → aH → Prop} {X : Nat → aH → Prop} (F : ((0 < a0.toInt → ((a0.toInt < 65536 → ((a0.toInt < 256 → Wp d 202 (48, [some (vI a0), some (vI 31)], [], h) (RI K X)) ∧ (¬ a0.toInt < 256 → ∀ v0 : Int32, v0 = 31 + (-8) → ∀ v1 : Int32, v1 = aUshr a0 8 → Wp d 202 (48, [some (vI v1), some (vI v0)], [], h) (RI K X)))) ∧ (¬ a0.toInt < 65536 → ∀ v2 : Int32, v2 = 31 + (-16) → ∀ v3 : Int32, v3 = aUshr a0 16 → ((v3.toInt < 256 → Wp d 202 (48, [some (vI v3), some (vI v2)], [], h) (RI K X)) ∧ (¬ v3.toInt < 256 → ∀ v4 : Int32, v4 = v2 + (-8) → ∀ v5 : Int32, v5 = aUshr v3 8 → Wp d 202 (48, [some (vI v5), some (vI v4)], [], h) (RI K X)))))) ∧ (¬ 0 < a0.toInt → ((a0.toInt = 0 → K 32 h) ∧ (¬ a0.toInt = 0 → K 0 h))))) : CI d 202 [vI a0] h K X := by
  show Wp d 202 (0, [some (vI a0), none], [], h) (RI K X)
  refine wp_iload rfl rfl rfl ?_
  refine wp_if_gt rfl rfl rfl rfl (fun c => ?_) (fun c => ?_)
  · replace F := F.1 c
    refine wp_const' (L' := [some (vI a0), none]) rfl rfl rfl ?_
    refine wp_istore (L2 := [some (vI a0), some (vI 31)]) rfl rfl rfl rfl ?_
    refine wp_iload rfl rfl rfl ?_
    refine wp_const rfl rfl ?_
    refine wp_icmp_lt (Y := 65536) rfl rfl rfl rfl rfl (fun c => ?_) (fun c => ?_)
    · replace F := F.1 c
      refine wp_iload rfl rfl rfl ?_
      refine wp_const rfl rfl ?_
      refine wp_icmp_lt (Y := 256) rfl rfl rfl rfl rfl (fun c => ?_) (fun c => ?_)
      · replace F := F.1 c
        exact F
      · replace F := F.2 c
        refine wp_iinc (y := (-8)) (L2 := [some (vI a0), some (vI (31 + (-8)))]) rfl rfl rfl rfl rfl ?_
        replace F := F _ rfl
        generalize (31 + (-8) : Int32) = v0 at F ⊢
        refine wp_iload rfl rfl rfl ?_
        refine wp_const rfl rfl ?_
        refine wp_iushr rfl rfl ?_
        replace F := F _ rfl
        generalize (aUshr a0 8 : Int32) = v1 at F ⊢
        refine wp_istore (L2 := [some (vI v1), some (vI v0)]) rfl rfl rfl rfl ?_
        exact F
    · replace F := F.2 c
      refine wp_iinc (y := (-16)) (L2 := [some (vI a0), some (vI (31 + (-16)))]) rfl rfl rfl rfl rfl ?_
      replace F := F _ rfl
      generalize (31 + (-16) : Int32) = v2 at F ⊢
      refine wp_iload rfl rfl rfl ?_
      refine wp_const rfl rfl ?_
      refine wp_iushr rfl rfl ?_
      replace F := F _ rfl
      generalize (aUshr a0 16 : Int32) = v3 at F ⊢
      refine wp_istore (L2 := [some (vI v3), some (vI v2)]) rfl rfl rfl rfl ?_
      refine wp_iload rfl rfl rfl ?_
      refine wp_const rfl rfl ?_
      refine wp_icmp_lt (Y := 256) rfl rfl rfl rfl rfl (fun c => ?_) (fun c => ?_)
      · replace F := F.1 c
        exact F
      · replace F := F.2 c
        refine wp_iinc (y := (-8)) (L2 := [some (vI v3), some (vI (v2 + (-8)))]) rfl rfl rfl rfl rfl ?_
        replace F := F _ rfl
        generalize (v2 + (-8) : Int32) = v4 at F ⊢
        refine wp_iload rfl rfl rfl ?_
        refine wp_const rfl rfl ?_
        refine wp_iushr rfl rfl ?_
        replace F := F _ rfl
        generalize (aUshr v3 8 : Int32) = v5 at F ⊢
        refine wp_istore (L2 := [some (vI v5), some (vI v4)]) rfl rfl rfl rfl ?_
        exact F
  · replace F := F.2 c
    refine wp_iload rfl rfl rfl ?_
    refine wp_if_ne rfl rfl rfl rfl (fun c => ?_) (fun c => ?_)
    · replace F := F.1 c
      refine wp_const rfl rfl ?_
      refine wp_goto rfl rfl ?_
      exact wp_retI rfl (Or.inl rfl) F
    · replace F := F.2 c
      refine wp_const' (L' := [none, none]) rfl rfl rfl ?_
      exact wp_retI rfl (Or.inl rfl) F
theorem w202_48 {d : Nat} {l0 : Int32} {l1 : Int32} {h : aH} {K : Int32 → aH → Prop} {X : Nat → aH → Prop} (F : ((l0.toInt < 16 → ((l0.toInt < 4 → K (l1 - (aUshr l0 1)) h) ∧ (¬ l0.toInt < 4 → ∀ v0 : Int32, v0 = l1 + (-2) → ∀ v1 : Int32, v1 = aUshr l0 2 → K (v0 - (aUshr v1 1)) h))) ∧ (¬ l0.toInt < 16 → ∀ v2 : Int32, v2 = l1 + (-4) → ∀ v3 : Int32, v3 = aUshr l0 4 → ((v3.toInt < 4 → K (v2 - (aUshr v3 1)) h) ∧ (¬ v3.toInt < 4 → ∀ v4 : Int32, v4 = v2 + (-2) → ∀ v5 : Int32, v5 = aUshr v3 2 → K (v4 - (aUshr v5 1)) h))))) : Wp d 202 (48, [some (vI l0), some (vI l1)], [], h) (RI K X) := by
  refine wp_iload rfl rfl rfl ?_
  refine wp_const rfl rfl ?_
  refine wp_icmp_lt (Y := 16) rfl rfl rfl rfl rfl (fun c => ?_) (fun c => ?_)
  · replace F := F.1 c
    refine wp_iload rfl rfl rfl ?_
    refine wp_const rfl rfl ?_
    refine wp_icmp_lt (Y := 4) rfl rfl rfl rfl rfl (fun c => ?_) (fun c => ?_)
    · replace F := F.1 c
      refine wp_iload rfl rfl rfl ?_
      refine wp_iload rfl rfl rfl ?_
      refine wp_const rfl rfl ?_
      refine wp_iushr rfl rfl ?_
      refine wp_isub rfl rfl ?_
      exact wp_retI rfl (Or.inl rfl) F
    · replace F := F.2 c
      refine wp_iinc (y := (-2)) (L2 := [some (vI l0), some (vI (l1 + (-2)))]) rfl rfl rfl rfl rfl ?_
      replace F := F _ rfl
      generalize (l1 + (-2) : Int32) = v0 at F ⊢
      refine wp_iload rfl rfl rfl ?_
      refine wp_const rfl rfl ?_
      refine wp_iushr rfl rfl ?_
      replace F := F _ rfl
      generalize (aUshr l0 2 : Int32) = v1 at F ⊢
      refine wp_istore (L2 := [some (vI v1), some (vI v0)]) rfl rfl rfl rfl ?_
      refine wp_iload rfl rfl rfl ?_
      refine wp_iload rfl rfl rfl ?_
      refine wp_const rfl rfl ?_
      refine wp_iushr rfl rfl ?_
      refine wp_isub rfl rfl ?_
      exact wp_retI rfl (Or.inl rfl) F
  · replace F := F.2 c
    refine wp_iinc (y := (-4)) (L2 := [some (vI l0), some (vI (l1 + (-4)))]) rfl rfl rfl rfl rfl ?_
    replace F := F _ rfl
    generalize (l1 + (-4) : Int32) = v2 at F ⊢
    refine wp_iload rfl rfl rfl ?_
    refine wp_const rfl rfl ?_
    refine wp_iushr rfl rfl ?_
    replace F := F _ rfl
    generalize (aUshr l0 4 : Int32) = v3 at F ⊢
    refine wp_istore (L2 := [some (vI v3), some (vI v2)]) rfl rfl rfl rfl ?_
    refine wp_iload rfl rfl rfl ?_
    refine wp_const rfl rfl ?_
    refine wp_icmp_lt (Y := 4) rfl rfl rfl rfl rfl (fun c => ?_) (fun c => ?_)
    · replace F := F.1 c
      refine wp_iload rfl rfl rfl ?_
      refine wp_iload rfl rfl rfl ?_
      refine wp_const rfl rfl ?_
      refine wp_iushr rfl rfl ?_
      refine wp_isub rfl rfl ?_
      exact wp_retI rfl (Or.inl rfl) F
    · replace F := F.2 c
      refine wp_iinc (y := (-2)) (L2 := [some (vI v3), some (vI (v2 + (-2)))]) rfl rfl rfl rfl rfl ?_
      replace F := F _ rfl
      generalize (v2 + (-2) : Int32) = v4 at F ⊢
      refine wp_iload rfl rfl rfl ?_
      refine wp_const rfl rfl ?_
      refine wp_iushr rfl rfl ?_
      replace F := F _ rfl
      generalize (aUshr v3 2 : Int32) = v5 at F ⊢
      refine wp_istore (L2 := [some (vI v5), some (vI v4)]) rfl rfl rfl rfl ?_
      refine wp_iload rfl rfl rfl ?_
      refine wp_iload rfl rfl rfl ?_
      refine wp_const rfl rfl ?_
      refine wp_iushr rfl rfl ?_
      refine wp_isub rfl rfl ?_
      exact wp_retI rfl (Or.inl rfl) F
-- java/lang/Integer highestOneBit (I)I
theorem m203 {d : Nat} {a0 : Int32} {h : aH} {K : Int32 → aH → Prop} {X : Nat → aH → Prop} (F : CI d 202 [vI a0] h (fun y0 h0 => K (a0 &&& (aUshr (-2147483648) y0)) h0) X) : CI (d + 1) 203 [vI a0] h K X := by
  show Wp (d + 1) 203 (0, [some (vI a0)], [], h) (RI K X)
  refine wp_iload rfl rfl rfl ?_
  refine wp_const rfl rfl ?_
  refine wp_iload rfl rfl rfl ?_
  refine wp_callI rfl rfl rfl rfl rfl rfl rfl rfl ?_
  refine CI.mono F (fun y0 h0 F => ?_) (fun _ _ w => rx_I w)
  refine wp_iushr rfl rfl ?_
  refine wp_iand rfl rfl ?_
  exact wp_retI rfl (Or.inl rfl) F
-- CensusOffice$Form costOf (I)I
theorem m204 {d : Nat} {a0 : Nat} {a1 : Int32} {h : aH} {K : Int32 → aH → Prop} {X : Nat → aH → Prop} (F : 8 ≤ a0 ∧ gK h a0 = 3 ∧ CI d 141 [vR a0, vI a1] h (fun y0 h0 => ((y0.toInt = 0 → K 0 h0) ∧ (¬ y0.toInt = 0 → gK h0 a0 = 3 ∧ ∃ i0 : Nat, inB h0 100 (gR h0 a0 5) a1 i0 ∧ K (gI h0 (gR h0 a0 5) i0) h0))) X) : CI (d + 1) 204 [vR a0, vI a1] h K X := by
  show Wp (d + 1) 204 (0, [some (vR a0), some (vI a1)], [], h) (RI K X)
  refine wp_aload rfl rfl rfl ?_
  refine wp_iload rfl rfl rfl ?_
  obtain ⟨f0, F⟩ := F
  obtain ⟨f1, F⟩ := F
  refine wp_callI rfl rfl rfl (rcv_v f0 f1 (by decide) (by decide)) rfl rfl rfl rfl ?_
  refine CI.mono F (fun y0 h0 F => ?_) (fun _ _ w => rx_I w)
  refine wp_if_eq rfl rfl rfl rfl (fun c => ?_) (fun c => ?_)
  · replace F := F.1 c
    refine wp_const' (L' := [none, none]) rfl rfl rfl ?_
    exact wp_retI rfl (Or.inl rfl) F
  · replace F := F.2 c
    refine wp_aload rfl rfl rfl ?_
    obtain ⟨f2, F⟩ := F
    refine wp_getR rfl rfl rfl f2 rfl ?_
    refine wp_iload rfl rfl rfl ?_
    obtain ⟨i0, b9, F⟩ := F
    refine wp_iaload rfl b9 rfl ?_
    refine wp_goto rfl rfl ?_
    exact wp_retI rfl (Or.inl rfl) F
-- CensusOffice$Editor choose (LCensusOffice$Rec;III)V
theorem m205 {d : Nat} {a0 : Nat} {a1 : Nat} {a2 : Int32} {a3 : Int32} {a4 : Int32} {h : aH} {K : aH → Prop} {X : Nat → aH → Prop} (F : gK h a0 = 2 ∧ ((a4.toInt < (gI h a0 2).toInt → ((a3.toInt = 0 → 8 ≤ a0 ∧ ∀ h0 : aH, h0 = pI h a0 1 a2 → ∀ h1 : aH, h1 = pI h0 a0 2 a4 → K h1) ∧ (¬ a3.toInt = 0 → CI d 203 [vI a3] h (fun y0 h2 => ∀ v0 : Int32, v0 = a3 &&& (y0 ^^^ (-1)) → 8 ≤ a0 ∧ gK h2 a0 = 2 ∧ CI d 201 [vR a0, vR a1, vI (a2 ||| v0)] h2 (fun y1 h3 => ((y1.toInt = 0 → gK h3 a1 = 5 ∧ CI d 152 [vI y0] h3 (fun y2 h4 => 8 ≤ (gR h3 a1 0) ∧ gK h4 (gR h3 a1 0) = 3 ∧ CI d 204 [vR (gR h3 a1 0), vI y2] h4 (fun y3 h5 => gK h5 a0 = 2 ∧ CV d 205 [vR a0, vR a1, vI (a2 ||| y0), vI v0, vI (a4 + y3)] h5 (fun h6 => K h6) X) X) X) ∧ (¬ y1.toInt = 0 → gK h3 a0 = 2 ∧ CV d 205 [vR a0, vR a1, vI a2, vI v0, vI a4] h3 (fun h7 => gK h7 a1 = 5 ∧ CI d 152 [vI y0] h7 (fun y4 h8 => 8 ≤ (gR h7 a1 0) ∧ gK h8 (gR h7 a1 0) = 3 ∧ CI d 204 [vR (gR h7 a1 0), vI y4] h8 (fun y5 h9 => gK h9 a0 = 2 ∧ CV d 205 [vR a0, vR a1, vI (a2 ||| y0), vI v0, vI (a4 + y5)] h9 (fun h10 => K h10) X) X) X) X))) X) X))) ∧ (¬ a4.toInt < (gI h a0 2).toInt → K h))) : CV (d + 1) 205 [vR a0, vR a1, vI a2, vI a3, vI a4] h K X := by
  show Wp (d + 1) 205 (0, [some (vR a0), some (vR a1), some (vI a2), some (vI a3), some (vI a4), none, none, none], [], h) (RV K X)
  refine wp_iload rfl rfl rfl ?_
  refine wp_aload rfl rfl rfl ?_
  obtain ⟨f0, F⟩ := F
  refine wp_getI rfl rfl rfl f0 rfl ?_
  refine wp_icmp_lt rfl rfl rfl rfl rfl (fun c => ?_) (fun c => ?_)
  · replace F := F.1 c
    refine wp_iload' (L' := [some (vR a0), some (vR a1), some (vI a2), some (vI a3), some (vI a4), none, none, none]) rfl rfl rfl rfl ?_
    refine wp_if_ne rfl rfl rfl rfl (fun c => ?_) (fun c => ?_)
    · replace F := F.1 c
      refine wp_aload rfl rfl rfl ?_
      refine wp_iload rfl rfl rfl ?_
      obtain ⟨f1, F⟩ := F
      refine wp_putI rfl rfl rfl f1 f0 rfl ?_
      have f2 : gK (pI h a0 1 a2) a0 = 2 := (gK_pI _ _ _ _ _).trans f0
      replace F := F _ rfl
      generalize pI h a0 1 a2 = h0 at F f2 ⊢
      refine wp_aload rfl rfl rfl ?_
      refine wp_iload rfl rfl rfl ?_
      refine wp_putI rfl rfl rfl f1 f2 rfl ?_
      have f3 : gK (pI h0 a0 2 a4) a0 = 2 := (gK_pI _ _ _ _ _).trans f2
      replace F := F _ rfl
      generalize pI h0 a0 2 a4 = h1 at F f3 ⊢
      exact wp_retV rfl F
    · replace F := F.2 c
      refine wp_iload' (L' := [some (vR a0), some (vR a1), some (vI a2), some (vI a3), some (vI a4), none, none, none]) rfl rfl rfl rfl ?_
      refine wp_callI rfl rfl rfl rfl rfl rfl rfl rfl ?_
      refine CI.mono F (fun y0 h2 F => ?_) (fun _ _ w => rx_V w)
      refine wp_istore (L2 := [some (vR a0), some (vR a1), some (vI a2), some (vI a3), some (vI a4), some (vI y0), none, none]) rfl rfl rfl rfl ?_
      refine wp_iload rfl rfl rfl ?_
      refine wp_iload rfl rfl rfl ?_
      refine wp_const rfl rfl ?_
      refine wp_ixor rfl rfl ?_
      refine wp_iand rfl rfl ?_
      replace F := F _ rfl
      generalize (a3 &&& (y0 ^^^ (-1)) : Int32) = v0 at F ⊢
      refine wp_istore (L2 := [some (vR a0), some (vR a1), some (vI a2), some (vI a3), some (vI a4), some (vI y0), some (vI v0), none]) rfl rfl rfl rfl ?_
      refine wp_aload rfl rfl rfl ?_
      refine wp_aload rfl rfl rfl ?_
      refine wp_iload rfl rfl rfl ?_
      refine wp_iload rfl rfl rfl ?_
      refine wp_ior rfl rfl ?_
      obtain ⟨f4, F⟩ := F
      obtain ⟨f5, F⟩ := F
      refine wp_callI rfl rfl rfl (rcv_v f4 f5 (by decide) (by decide)) rfl rfl rfl rfl ?_
      refine CI.mono F (fun y1 h3 F => ?_) (fun _ _ w => rx_V w)
      refine wp_if_eq rfl rfl rfl rfl (fun c => ?_) (fun c => ?_)
      · replace F := F.1 c
        refine wp_aload' (L' := [some (vR a0), some (vR a1), some (vI a2), none, some (vI a4), some (vI y0), some (vI v0), none]) rfl rfl rfl rfl ?_
        obtain ⟨f6, F⟩ := F
        refine wp_getR rfl rfl rfl f6 rfl ?_
        refine wp_iload rfl rfl rfl ?_
        refine wp_callI rfl rfl rfl rfl rfl rfl rfl rfl ?_
        refine CI.mono F (fun y2 h4 F => ?_) (fun _ _ w => rx_V w)
        obtain ⟨f7, F⟩ := F
        obtain ⟨f8, F⟩ := F
        refine wp_callI rfl rfl rfl (rcv_v f7 f8 (by decide) (by decide)) rfl rfl rfl rfl ?_
        refine CI.mono F (fun y3 h5 F => ?_) (fun _ _ w => rx_V w)
        refine wp_istore (L2 := [some (vR a0), some (vR a1), some (vI a2), none, some (vI a4), some (vI y0), some (vI v0), some (vI y3)]) rfl rfl rfl rfl ?_
        refine wp_aload rfl rfl rfl ?_
        refine wp_aload rfl rfl rfl ?_
        refine wp_iload rfl rfl rfl ?_
        refine wp_iload rfl rfl rfl ?_
        refine wp_ior rfl rfl ?_
        refine wp_iload rfl rfl rfl ?_
        refine wp_iload rfl rfl rfl ?_
        refine wp_iload rfl rfl rfl ?_
        refine wp_iadd rfl rfl ?_
        obtain ⟨f9, F⟩ := F
        refine wp_callV rfl rfl rfl (rcv_v f4 f9 (by decide) (by decide)) rfl rfl rfl rfl ?_
        refine CV.mono F (fun h6 F => ?_) (fun _ _ w => rx_V w)
        exact wp_retV rfl F
      · replace F := F.2 c
        refine wp_aload rfl rfl rfl ?_
        refine wp_aload rfl rfl rfl ?_
        refine wp_iload rfl rfl rfl ?_
        refine wp_iload rfl rfl rfl ?_
        refine wp_iload rfl rfl rfl ?_
        obtain ⟨f10, F⟩ := F
        refine wp_callV rfl rfl rfl (rcv_v f4 f10 (by decide) (by decide)) rfl rfl rfl rfl ?_
        refine CV.mono F (fun h7 F => ?_) (fun _ _ w => rx_V w)
        refine wp_aload' (L' := [some (vR a0), some (vR a1), some (vI a2), none, some (vI a4), some (vI y0), some (vI v0), none]) rfl rfl rfl rfl ?_
        obtain ⟨f11, F⟩ := F
        refine wp_getR rfl rfl rfl f11 rfl ?_
        refine wp_iload rfl rfl rfl ?_
        refine wp_callI rfl rfl rfl rfl rfl rfl rfl rfl ?_
        refine CI.mono F (fun y4 h8 F => ?_) (fun _ _ w => rx_V w)
        obtain ⟨f12, F⟩ := F
        obtain ⟨f13, F⟩ := F
        refine wp_callI rfl rfl rfl (rcv_v f12 f13 (by decide) (by decide)) rfl rfl rfl rfl ?_
        refine CI.mono F (fun y5 h9 F => ?_) (fun _ _ w => rx_V w)
        refine wp_istore (L2 := [some (vR a0), some (vR a1), some (vI a2), none, some (vI a4), some (vI y0), some (vI v0), some (vI y5)]) rfl rfl rfl rfl ?_
        refine wp_aload rfl rfl rfl ?_
        refine wp_aload rfl rfl rfl ?_
        refine wp_iload rfl rfl rfl ?_
        refine wp_iload rfl rfl rfl ?_
        refine wp_ior rfl rfl ?_
        refine wp_iload rfl rfl rfl ?_
        refine wp_iload rfl rfl rfl ?_
        refine wp_iload rfl rfl rfl ?_
        refine wp_iadd rfl rfl ?_
        obtain ⟨f14, F⟩ := F
        refine wp_callV rfl rfl rfl (rcv_v f4 f14 (by decide) (by decide)) rfl rfl rfl rfl ?_
        refine CV.mono F (fun h10 F => ?_) (fun _ _ w => rx_V w)
        exact wp_retV rfl F
  · replace F := F.2 c
    exact wp_retV rfl F
-- CensusOffice$Editor leastSet (LCensusOffice$Rec;)I
theorem m206 {d : Nat} {a0 : Nat} {a1 : Nat} {h : aH} {K : Int32 → aH → Prop} {X : Nat → aH → Prop} (F : Wp (d + 1) 206 (4, [some (vR a0), some (vR a1), some (vI 0), some (vI 0)], [], h) (RI K X)) : CI (d + 1) 206 [vR a0, vR a1] h K X := by
  show Wp (d + 1) 206 (0, [some (vR a0), some (vR a1), none, none], [], h) (RI K X)
  refine wp_const rfl rfl ?_
  refine wp_istore (L2 := [some (vR a0), some (vR a1), some (vI 0), none]) rfl rfl rfl rfl ?_
  refine wp_const rfl rfl ?_
  refine wp_istore (L2 := [some (vR a0), some (vR a1), some (vI 0), some (vI 0)]) rfl rfl rfl rfl ?_
  exact F
theorem w206_4 {d : Nat} {l0 : Nat} {l1 : Nat} {l2 : Int32} {l3 : Int32} {h : aH} {K : Int32 → aH → Prop} {X : Nat → aH → Prop} (F : gK h l1 = 5 ∧ gK h (gR h l1 0) = 3 ∧ ((l3.toInt < (gI h (gR h l1 0) 11).toInt → 8 ≤ (gR h l1 0) ∧ CI d 182 [vR (gR h l1 0), vI l3] h (fun y0 h0 => ((y0.toInt = 0 → ∀ v0 : Int32, v0 = l3 + 1 → Wp (d + 1) 206 (4, [some (vR l0), some (vR l1), some (vI l2), some (vI v0)], [], h0) (RI K X)) ∧ (¬ y0.toInt = 0 → gK h0 l1 = 5 ∧ ∃ i0 : Nat, inB h0 100 (gR h0 l1 3) l3 i0 ∧ (((gI h0 (gR h0 l1 3) i0).toInt = (-2000000) → ∀ v1 : Int32, v1 = l3 + 1 → Wp (d + 1) 206 (4, [some (vR l0), some (vR l1), some (vI l2), some (vI v1)], [], h0) (RI K X)) ∧ (¬ (gI h0 (gR h0 l1 3) i0).toInt = (-2000000) → ∀ v2 : Int32, v2 = l2 ||| (1 <<< (l3 &&& 31)) → ∀ v3 : Int32, v3 = l3 + 1 → Wp (d + 1) 206 (4, [some (vR l0), some (vR l1), some (vI v2), some (vI v3)], [], h0) (RI K X)))))) X) ∧ (¬ l3.toInt < (gI h (gR h l1 0) 11).toInt → 8 ≤ l0 ∧ gK h l0 = 2 ∧ ∀ h1 : aH, h1 = pI h l0 1 (-1) → ∀ h2 : aH, h2 = pI h1 l0 2 2147483647 → CI d 201 [vR l0, vR l1, vI l2] h2 (fun y1 h3 => ((y1.toInt = 0 → gK h3 l0 = 2 ∧ K (gI h3 l0 1) h3) ∧ (¬ y1.toInt = 0 → gK h3 l0 = 2 ∧ CV d 205 [vR l0, vR l1, vI 0, vI l2, vI 0] h3 (fun h4 => gK h4 l0 = 2 ∧ K (gI h4 l0 1) h4) X))) X))) : Wp (d + 1) 206 (4, [some (vR l0), some (vR l1), some (vI l2), some (vI l3)], [], h) (RI K X) := by
  refine wp_iload rfl rfl rfl ?_
  refine wp_aload rfl rfl rfl ?_
  obtain ⟨f0, F⟩ := F
  refine wp_getR rfl rfl rfl f0 rfl ?_
  obtain ⟨f1, F⟩ := F
  refine wp_getI rfl rfl rfl f1 rfl ?_
  refine wp_icmp_ge rfl rfl rfl rfl rfl (fun c => ?_) (fun c => ?_)
  · replace F := F.1 c
    refine wp_aload rfl rfl rfl ?_
    refine wp_getR rfl rfl rfl f0 rfl ?_
    refine wp_iload rfl rfl rfl ?_
    obtain ⟨f2, F⟩ := F
    refine wp_callI rfl rfl rfl (rcv_v f2 f1 (by decide) (by decide)) rfl rfl rfl rfl ?_
    refine CI.mono F (fun y0 h0 F => ?_) (fun _ _ w => rx_I w)
    refine wp_if_eq rfl rfl rfl rfl (fun c => ?_) (fun c => ?_)
    · replace F := F.1 c
      refine wp_iinc (y := 1) (L2 := [some (vR l0), some (vR l1), some (vI l2), some (vI (l3 + 1))]) rfl rfl rfl rfl rfl ?_
      replace F := F _ rfl
      generalize (l3 + 1 : Int32) = v0 at F ⊢
      refine wp_goto rfl rfl ?_
      exact F
    · replace F := F.2 c
      refine wp_aload rfl rfl rfl ?_
      obtain ⟨f3, F⟩ := F
      refine wp_getR rfl rfl rfl f3 rfl ?_
      refine wp_iload rfl rfl rfl ?_
      obtain ⟨i0, b9, F⟩ := F
      refine wp_iaload rfl b9 rfl ?_
      refine wp_const rfl rfl ?_
      refine wp_icmp_eq (Y := (-2000000)) rfl rfl rfl rfl rfl (fun c => ?_) (fun c => ?_)
      · replace F := F.1 c
        refine wp_iinc (y := 1) (L2 := [some (vR l0), some (vR l1), some (vI l2), some (vI (l3 + 1))]) rfl rfl rfl rfl rfl ?_
        replace F := F _ rfl
        generalize (l3 + 1 : Int32) = v1 at F ⊢
        refine wp_goto rfl rfl ?_
        exact F
      · replace F := F.2 c
        refine wp_iload rfl rfl rfl ?_
        refine wp_const rfl rfl ?_
        refine wp_iload rfl rfl rfl ?_
        refine wp_ishl rfl rfl ?_
        refine wp_ior rfl rfl ?_
        replace F := F _ rfl
        generalize (l2 ||| (1 <<< (l3 &&& 31)) : Int32) = v2 at F ⊢
        refine wp_istore (L2 := [some (vR l0), some (vR l1), some (vI v2), some (vI l3)]) rfl rfl rfl rfl ?_
        refine wp_iinc (y := 1) (L2 := [some (vR l0), some (vR l1), some (vI v2), some (vI (l3 + 1))]) rfl rfl rfl rfl rfl ?_
        replace F := F _ rfl
        generalize (l3 + 1 : Int32) = v3 at F ⊢
        refine wp_goto rfl rfl ?_
        exact F
  · replace F := F.2 c
    refine wp_aload' (L' := [some (vR l0), some (vR l1), some (vI l2), none]) rfl rfl rfl rfl ?_
    refine wp_const rfl rfl ?_
    obtain ⟨f4, F⟩ := F
    obtain ⟨f5, F⟩ := F
    refine wp_putI rfl rfl rfl f4 f5 rfl ?_
    have f6 : gK (pI h l0 1 (-1)) l1 = 5 := (gK_pI _ _ _ _ _).trans f0
    have f7 : gK (pI h l0 1 (-1)) (gR (pI h l0 1 (-1)) l1 0) = 3 := (by simp only [gK_pI, gR_pI]; exact f1)
    have f8 : gK (pI h l0 1 (-1)) l0 = 2 := (gK_pI _ _ _ _ _).trans f5
    replace F := F _ rfl
    generalize pI h l0 1 (-1) = h1 at F f6 f7 f8 ⊢
    refine wp_aload rfl rfl rfl ?_
    refine wp_const rfl rfl ?_
    refine wp_putI rfl rfl rfl f4 f8 rfl ?_
    have f9 : gK (pI h1 l0 2 2147483647) l1 = 5 := (gK_pI _ _ _ _ _).trans f6
    have f10 : gK (pI h1 l0 2 2147483647) (gR (pI h1 l0 2 2147483647) l1 0) = 3 := (by simp only [gK_pI, gR_pI]; exact f7)
    have f11 : gK (pI h1 l0 2 2147483647) l0 = 2 := (gK_pI _ _ _ _ _).trans f8
    replace F := F _ rfl
    generalize pI h1 l0 2 2147483647 = h2 at F f9 f10 f11 ⊢
    refine wp_aload rfl rfl rfl ?_
    refine wp_aload rfl rfl rfl ?_
    refine wp_iload rfl rfl rfl ?_
    refine wp_callI rfl rfl rfl (rcv_v f4 f11 (by decide) (by decide)) rfl rfl rfl rfl ?_
    refine CI.mono F (fun y1 h3 F => ?_) (fun _ _ w => rx_I w)
    refine wp_if_eq rfl rfl rfl rfl (fun c => ?_) (fun c => ?_)
    · replace F := F.1 c
      refine wp_aload' (L' := [some (vR l0), none, none, none]) rfl rfl rfl rfl ?_
      obtain ⟨f12, F⟩ := F
      refine wp_getI rfl rfl rfl f12 rfl ?_
      exact wp_retI rfl (Or.inl rfl) F
    · replace F := F.2 c
      refine wp_aload rfl rfl rfl ?_
      refine wp_aload rfl rfl rfl ?_
      refine wp_const rfl rfl ?_
      refine wp_iload rfl rfl rfl ?_
      refine wp_const rfl rfl ?_
      obtain ⟨f13, F⟩ := F
      refine wp_callV rfl rfl rfl (rcv_v f4 f13 (by decide) (by decide)) rfl rfl rfl rfl ?_
      refine CV.mono F (fun h4 F => ?_) (fun _ _ w => rx_I w)
      refine wp_aload' (L' := [some (vR l0), none, none, none]) rfl rfl rfl rfl ?_
      obtain ⟨f14, F⟩ := F
      refine wp_getI rfl rfl rfl f14 rfl ?_
      exact wp_retI rfl (Or.inl rfl) F
-- CensusOffice least (IZ)I
theorem m207 {d : Nat} {a0 : Nat} {a1 : Int32} {a2 : Int32} {h : aH} {K : Int32 → aH → Prop} {X : Nat → aH → Prop} (F : gK h a0 = 1 ∧ 8 ≤ a0 ∧ CR d 172 [vR a0, vI a1] h (fun q0 h0 => 8 ≤ (gR h a0 3) ∧ gK h0 (gR h a0 3) = 2 ∧ CI d 206 [vR (gR h a0 3), vR q0] h0 (fun y0 h1 => ((a2.toInt = 0 → ((y0.toInt = (-1) → K y0 h1) ∧ (¬ y0.toInt = (-1) → gK h1 a0 = 1 ∧ gK h1 (gR h1 a0 3) = 2 ∧ K (gI h1 (gR h1 a0 3) 2) h1))) ∧ (¬ a2.toInt = 0 → K y0 h1))) X) X) : CI (d + 1) 207 [vR a0, vI a1, vI a2] h K X := by
  show Wp (d + 1) 207 (0, [some (vR a0), some (vI a1), some (vI a2), none], [], h) (RI K X)
  refine wp_aload rfl rfl rfl ?_
  obtain ⟨f0, F⟩ := F
  refine wp_getR rfl rfl rfl f0 rfl ?_
  refine wp_aload rfl rfl rfl ?_
  refine wp_iload rfl rfl rfl ?_
  obtain ⟨f1, F⟩ := F
  refine wp_callR rfl rfl rfl (rcv_v f1 f0 (by decide) (by decide)) rfl rfl rfl rfl ?_
  refine CR.mono F (fun q0 h0 F => ?_) (fun _ _ w => rx_I w)
  obtain ⟨f2, F⟩ := F
  obtain ⟨f3, F⟩ := F
  refine wp_callI rfl rfl rfl (rcv_v f2 f3 (by decide) (by decide)) rfl rfl rfl rfl ?_
  refine CI.mono F (fun y0 h1 F => ?_) (fun _ _ w => rx_I w)
  refine wp_istore (L2 := [some (vR a0), some (vI a1), some (vI a2), some (vI y0)]) rfl rfl rfl rfl ?_
  refine wp_iload rfl rfl rfl ?_
  refine wp_if_ne rfl rfl rfl rfl (fun c => ?_) (fun c => ?_)
  · replace F := F.1 c
    refine wp_iload rfl rfl rfl ?_
    refine wp_const rfl rfl ?_
    refine wp_icmp_ne (Y := (-1)) rfl rfl rfl rfl rfl (fun c => ?_) (fun c => ?_)
    · replace F := F.1 c
      refine wp_iload' (L' := [none, none, none, some (vI y0)]) rfl rfl rfl rfl ?_
      refine wp_goto rfl rfl ?_
      exact wp_retI rfl (Or.inl rfl) F
    · replace F := F.2 c
      refine wp_aload' (L' := [some (vR a0), none, none, none]) rfl rfl rfl rfl ?_
      obtain ⟨f4, F⟩ := F
      refine wp_getR rfl rfl rfl f4 rfl ?_
      obtain ⟨f5, F⟩ := F
      refine wp_getI rfl rfl rfl f5 rfl ?_
      exact wp_retI rfl (Or.inl rfl) F
  · replace F := F.2 c
    refine wp_iload' (L' := [none, none, none, some (vI y0)]) rfl rfl rfl rfl ?_
    refine wp_goto rfl rfl ?_
    exact wp_retI rfl (Or.inl rfl) F
-- CensusOfficeLaw least (LCensusOffice;IZ[J)I
theorem m208 {d : Nat} {a0 : Nat} {a1 : Int32} {a2 : Int32} {a3 : Nat} {h : aH} {K : Int32 → aH → Prop} {X : Nat → aH → Prop} (F : 8 ≤ a0 ∧ gK h a0 = 1 ∧ CI d 207 [vR a0, vI a1, vI a2] h (fun y0 h0 => 8 ≤ a3 ∧ inB h0 101 a3 0 0 ∧ ∀ h1 : aH, h1 = pJ h0 a3 0 (y0.toInt64) → K 0 h1) (fun x9 h9 => (x9 = 3 ∧ K 1 h9))) : CI (d + 1) 208 [vR a0, vI a1, vI a2, vR a3] h K X := by
  show Wp (d + 1) 208 (0, [some (vR a0), some (vI a1), some (vI a2), some (vR a3), none], [], h) (RI K X)
  refine wp_aload rfl rfl rfl ?_
  refine wp_const rfl rfl ?_
  refine wp_aload rfl rfl rfl ?_
  refine wp_iload rfl rfl rfl ?_
  refine wp_iload rfl rfl rfl ?_
  obtain ⟨f0, F⟩ := F
  obtain ⟨f1, F⟩ := F
  refine wp_callhI (X := (fun x9 h9 => (x9 = 3 ∧ K 1 h9))) rfl rfl rfl (rcv_v f0 f1 (by decide) (by decide)) rfl rfl rfl (fun x9 h9 F => ?_) ?_
  · rcases F with ⟨rfl, F⟩
    · refine ⟨13, rfl, ?_⟩
      refine wp_astoreJ' (L' := [none, none, none, none, none]) (L2 := [none, none, none, none, some vJ]) rfl rfl rfl rfl rfl ?_
      refine wp_const rfl rfl ?_
      exact wp_retI rfl (Or.inl rfl) F
  · refine CI.mono F (fun y0 h0 F => ?_) (fun _ _ w => w)
    refine wp_i2l rfl rfl ?_
    obtain ⟨f2, F⟩ := F
    obtain ⟨b9, F⟩ := F
    refine wp_lastore rfl f2 b9 rfl ?_
    replace F := F _ rfl
    generalize pJ h0 a3 0 (y0.toInt64) = h1 at F ⊢
    refine wp_goto rfl rfl ?_
    refine wp_const' (L' := [none, none, none, none, none]) rfl rfl rfl ?_
    exact wp_retI rfl (Or.inl rfl) F
-- CensusOfficeModel side (III)I
theorem m209 {d : Nat} {a0 : Nat} {a1 : Int32} {a2 : Int32} {a3 : Int32} {h : aH} {K : Int32 → aH → Prop} {X : Nat → aH → Prop} (F : ((a2.toInt = (-1) → K 0 h) ∧ (¬ a2.toInt = (-1) → ((((a3 >>> (a2 &&& 31)) &&& 1).toInt = 1 → gK h a0 = 14 ∧ ∃ i0 : Nat, inB h 100 (gR h a0 61) a2 i0 ∧ K (gI h (gR h a0 61) i0) h) ∧ (¬ ((a3 >>> (a2 &&& 31)) &&& 1).toInt = 1 → gK h a0 = 14 ∧ ∃ i1 : Nat, inB h 100 (gR h a0 55) ((20 * a1) + a2) i1 ∧ K (gI h (gR h a0 55) i1) h))))) : CI d 209 [vR a0, vI a1, vI a2, vI a3] h K X := by
  show Wp d 209 (0, [some (vR a0), some (vI a1), some (vI a2), some (vI a3)], [], h) (RI K X)
  refine wp_iload rfl rfl rfl ?_
  refine wp_const rfl rfl ?_
  refine wp_icmp_ne (Y := (-1)) rfl rfl rfl rfl rfl (fun c => ?_) (fun c => ?_)
  · replace F := F.1 c
    refine wp_const rfl rfl ?_
    refine wp_goto rfl rfl ?_
    exact wp_retI rfl (Or.inl rfl) F
  · replace F := F.2 c
    refine wp_iload rfl rfl rfl ?_
    refine wp_iload rfl rfl rfl ?_
    refine wp_ishr rfl rfl ?_
    refine wp_const rfl rfl ?_
    refine wp_iand rfl rfl ?_
    refine wp_const rfl rfl ?_
    refine wp_icmp_ne (Y := 1) rfl rfl rfl rfl rfl (fun c => ?_) (fun c => ?_)
    · replace F := F.1 c
      refine wp_aload rfl rfl rfl ?_
      obtain ⟨f0, F⟩ := F
      refine wp_getR rfl rfl rfl f0 rfl ?_
      refine wp_iload rfl rfl rfl ?_
      obtain ⟨i0, b9, F⟩ := F
      refine wp_iaload rfl b9 rfl ?_
      refine wp_goto rfl rfl ?_
      exact wp_retI rfl (Or.inl rfl) F
    · replace F := F.2 c
      refine wp_aload' (L' := [some (vR a0), some (vI a1), some (vI a2), none]) rfl rfl rfl rfl ?_
      obtain ⟨f1, F⟩ := F
      refine wp_getR rfl rfl rfl f1 rfl ?_
      refine wp_const rfl rfl ?_
      refine wp_iload rfl rfl rfl ?_
      refine wp_imul rfl rfl ?_
      refine wp_iload rfl rfl rfl ?_
      refine wp_iadd rfl rfl ?_
      obtain ⟨i1, b9, F⟩ := F
      refine wp_iaload rfl b9 rfl ?_
      exact wp_retI rfl (Or.inl rfl) F
-- CensusOfficeModel fits (II)Z
theorem m210 {d : Nat} {a0 : Nat} {a1 : Int32} {a2 : Int32} {h : aH} {K : Int32 → aH → Prop} {X : Nat → aH → Prop} (F : 8 ≤ a0 ∧ gK h a0 = 14 ∧ CI d 175 [vR a0, vI a1] h (fun y0 h0 => Wp (d + 1) 210 (9, [some (vR a0), some (vI a1), some (vI a2), some (vI y0), some (vI 0), none, none, none, none, none, none], [], h0) (RI K X)) X) : CI (d + 1) 210 [vR a0, vI a1, vI a2] h K X := by
  show Wp (d + 1) 210 (0, [some (vR a0), some (vI a1), some (vI a2), none, none, none, none, none, none, none, none], [], h) (RI K X)
  refine wp_aload rfl rfl rfl ?_
  refine wp_iload rfl rfl rfl ?_
  obtain ⟨f0, F⟩ := F
  obtain ⟨f1, F⟩ := F
  refine wp_callI rfl rfl rfl (rcv_v f0 f1 (by decide) (by decide)) rfl rfl rfl rfl ?_
  refine CI.mono F (fun y0 h0 F => ?_) (fun _ _ w => rx_I w)
  refine wp_istore (L2 := [some (vR a0), some (vI a1), some (vI a2), some (vI y0), none, none, none, none, none, none, none]) rfl rfl rfl rfl ?_
  refine wp_const rfl rfl ?_
  refine wp_istore (L2 := [some (vR a0), some (vI a1), some (vI a2), some (vI y0), some (vI 0), none, none, none, none, none, none]) rfl rfl rfl rfl ?_
  exact F
theorem w210_9 {d : Nat} {l0 : Nat} {l1 : Int32} {l2 : Int32} {l3 : Int32} {l4 : Int32} {h : aH} {K : Int32 → aH → Prop} {X : Nat → aH → Prop} (F : gK h l0 = 14 ∧ ∃ i0 : Nat, inB h 100 (gR h l0 15) l3 i0 ∧ ((l4.toInt < (gI h (gR h l0 15) i0).toInt → ∃ i1 : Nat, inB h 100 (gR h l0 19) ((20 * l3) + l4) i1 ∧ 8 ≤ (gR h l0 61) ∧ ∃ i2 : Nat, inB h 100 (gR h l0 61) l4 i2 ∧ ∀ h0 : aH, h0 = pI h (gR h l0 61) i2 (gI h (gR h l0 19) i1) → ∀ v0 : Int32, v0 = l4 + 1 → Wp (d + 1) 210 (9, [some (vR l0), some (vI l1), some (vI l2), some (vI l3), some (vI v0), none, none, none, none, none, none], [], h0) (RI K X)) ∧ (¬ l4.toInt < (gI h (gR h l0 15) i0).toInt → Wp (d + 1) 210 (51, [some (vR l0), some (vI l1), some (vI l2), some (vI l3), some (vI 1), some (vI 0), none, none, none, none, none], [], h) (RI K X)))) : Wp (d + 1) 210 (9, [some (vR l0), some (vI l1), some (vI l2), some (vI l3), some (vI l4), none, none, none, none, none, none], [], h) (RI K X) := by
  refine wp_iload' (L' := [some (vR l0), some (vI l1), some (vI l2), some (vI l3), some (vI l4), none, none, none, none, none, none]) rfl rfl rfl rfl ?_
  refine wp_aload rfl rfl rfl ?_
  obtain ⟨f0, F⟩ := F
  refine wp_getR rfl rfl rfl f0 rfl ?_
  refine wp_iload rfl rfl rfl ?_
  obtain ⟨i0, b9, F⟩ := F
  refine wp_iaload rfl b9 rfl ?_
  refine wp_icmp_ge rfl rfl rfl rfl rfl (fun c => ?_) (fun c => ?_)
  · replace F := F.1 c
    refine wp_aload rfl rfl rfl ?_
    refine wp_getR rfl rfl rfl f0 rfl ?_
    refine wp_iload rfl rfl rfl ?_
    refine wp_aload rfl rfl rfl ?_
    refine wp_getR rfl rfl rfl f0 rfl ?_
    refine wp_const rfl rfl ?_
    refine wp_iload rfl rfl rfl ?_
    refine wp_imul rfl rfl ?_
    refine wp_iload rfl rfl rfl ?_
    refine wp_iadd rfl rfl ?_
    obtain ⟨i1, b9, F⟩ := F
    refine wp_iaload rfl b9 rfl ?_
    obtain ⟨f1, F⟩ := F
    obtain ⟨i2, b9, F⟩ := F
    refine wp_iastore rfl f1 b9 rfl ?_
    have f2 : gK (pI h (gR h l0 61) i2 (gI h (gR h l0 19) i1)) l0 = 14 := (gK_pI _ _ _ _ _).trans f0
    replace F := F _ rfl
    generalize pI h (gR h l0 61) i2 (gI h (gR h l0 19) i1) = h0 at F f2 ⊢
    refine wp_iinc (y := 1) (L2 := [some (vR l0), some (vI l1), some (vI l2), some (vI l3), some (vI (l4 + 1)), none, none, none, none, none, none]) rfl rfl rfl rfl rfl ?_
    replace F := F _ rfl
    generalize (l4 + 1 : Int32) = v0 at F ⊢
    refine wp_goto rfl rfl ?_
    exact F
  · replace F := F.2 c
    refine wp_const' (L' := [some (vR l0), some (vI l1), some (vI l2), some (vI l3), none, none, none, none, none, none, none]) rfl rfl rfl ?_
    refine wp_istore (L2 := [some (vR l0), some (vI l1), some (vI l2), some (vI l3), some (vI 1), none, none, none, none, none, none]) rfl rfl rfl rfl ?_
    refine wp_const rfl rfl ?_
    refine wp_istore (L2 := [some (vR l0), some (vI l1), some (vI l2), some (vI l3), some (vI 1), some (vI 0), none, none, none, none, none]) rfl rfl rfl rfl ?_
    exact F
theorem w210_51 {d : Nat} {l0 : Nat} {l1 : Int32} {l2 : Int32} {l3 : Int32} {l4 : Int32} {l5 : Int32} {h : aH} {K : Int32 → aH → Prop} {X : Nat → aH → Prop} (F : ((l4.toInt = 0 → K 1 h) ∧ (¬ l4.toInt = 0 → ∀ v0 : Int32, v0 = l5 + 1 → ((12 < v0.toInt → K 0 h) ∧ (¬ 12 < v0.toInt → Wp (d + 1) 210 (74, [some (vR l0), some (vI l1), some (vI l2), some (vI l3), some (vI 0), some (vI v0), some (vI 0), none, none, none, none], [], h) (RI K X)))))) : Wp (d + 1) 210 (51, [some (vR l0), some (vI l1), some (vI l2), some (vI l3), some (vI l4), some (vI l5), none, none, none, none, none], [], h) (RI K X) := by
  refine wp_iload' (L' := [some (vR l0), some (vI l1), some (vI l2), some (vI l3), some (vI l4), some (vI l5), none, none, none, none, none]) rfl rfl rfl rfl ?_
  refine wp_if_eq rfl rfl rfl rfl (fun c => ?_) (fun c => ?_)
  · replace F := F.1 c
    refine wp_const' (L' := [none, none, none, none, none, none, none, none, none, none, none]) rfl rfl rfl ?_
    exact wp_retI rfl (Or.inr rfl) F
  · replace F := F.2 c
    refine wp_const rfl rfl ?_
    refine wp_istore (L2 := [some (vR l0), some (vI l1), some (vI l2), some (vI l3), some (vI 0), some (vI l5), none, none, none, none, none]) rfl rfl rfl rfl ?_
    refine wp_iinc (y := 1) (L2 := [some (vR l0), some (vI l1), some (vI l2), some (vI l3), some (vI 0), some (vI (l5 + 1)), none, none, none, none, none]) rfl rfl rfl rfl rfl ?_
    replace F := F _ rfl
    generalize (l5 + 1 : Int32) = v0 at F ⊢
    refine wp_iload rfl rfl rfl ?_
    refine wp_const rfl rfl ?_
    refine wp_icmp_le (Y := 12) rfl rfl rfl rfl rfl (fun c => ?_) (fun c => ?_)
    · replace F := F.1 c
      refine wp_const rfl rfl ?_
      exact wp_retI rfl (Or.inr rfl) F
    · replace F := F.2 c
      refine wp_const' (L' := [some (vR l0), some (vI l1), some (vI l2), some (vI l3), some (vI 0), some (vI v0), none, none, none, none, none]) rfl rfl rfl ?_
      refine wp_istore (L2 := [some (vR l0), some (vI l1), some (vI l2), some (vI l3), some (vI 0), some (vI v0), some (vI 0), none, none, none, none]) rfl rfl rfl rfl ?_
      exact F
theorem w210_74 {d : Nat} {l0 : Nat} {l1 : Int32} {l2 : Int32} {l3 : Int32} {l4 : Int32} {l5 : Int32} {l6 : Int32} {h : aH} {K : Int32 → aH → Prop} {X : Nat → aH → Prop} (F : gK h l0 = 14 ∧ ∃ i0 : Nat, inB h 100 (gR h l0 57) l3 i0 ∧ ((l6.toInt < (gI h (gR h l0 57) i0).toInt → ∀ v0 : Int32, v0 = (16 * l3) + l6 → ∃ i1 : Nat, inB h 100 (gR h l0 58) v0 i1 ∧ 8 ≤ l0 ∧ CI d 209 [vR l0, vI l1, vI (gI h (gR h l0 58) i1), vI l2] h (fun y0 h0 => gK h0 l0 = 14 ∧ ∃ i2 : Nat, inB h0 100 (gR h0 l0 59) v0 i2 ∧ CI d 209 [vR l0, vI l1, vI (gI h0 (gR h0 l0 59) i2), vI l2] h0 (fun y1 h1 => ((y0.toInt = (-2000000) → ∀ v1 : Int32, v1 = l6 + 1 → Wp (d + 1) 210 (74, [some (vR l0), some (vI l1), some (vI l2), some (vI l3), some (vI l4), some (vI l5), some (vI v1), none, none, none, none], [], h1) (RI K X)) ∧ (¬ y0.toInt = (-2000000) → ((y1.toInt = (-2000000) → ∀ v2 : Int32, v2 = l6 + 1 → Wp (d + 1) 210 (74, [some (vR l0), some (vI l1), some (vI l2), some (vI l3), some (vI l4), some (vI l5), some (vI v2), none, none, none, none], [], h1) (RI K X)) ∧ (¬ y1.toInt = (-2000000) → gK h1 l0 = 14 ∧ ∃ i3 : Nat, inB h1 100 (gR h1 l0 60) v0 i3 ∧ (((gI h1 (gR h1 l0 60) i3).toInt < (y0 - y1).toInt → ∃ i4 : Nat, inB h1 100 (gR h1 l0 58) v0 i4 ∧ ∀ v3 : Int32, v3 = gI h1 (gR h1 l0 58) i4 → ((v3.toInt = (-1) → K 0 h1) ∧ (¬ v3.toInt = (-1) → ((((l2 >>> (v3 &&& 31)) &&& 1).toInt = 0 → K 0 h1) ∧ (¬ ((l2 >>> (v3 &&& 31)) &&& 1).toInt = 0 → ∃ i5 : Nat, inB h1 100 (gR h1 l0 60) v0 i5 ∧ 8 ≤ (gR h1 l0 61) ∧ ∃ i6 : Nat, inB h1 100 (gR h1 l0 61) v3 i6 ∧ ∀ h2 : aH, h2 = pI h1 (gR h1 l0 61) i6 (y1 + (gI h1 (gR h1 l0 60) i5)) → ∃ i7 : Nat, inB h2 100 (gR h2 l0 61) v3 i7 ∧ ∃ i8 : Nat, inB h2 100 (gR h2 l0 18) ((20 * l3) + v3) i8 ∧ (((gI h2 (gR h2 l0 61) i7).toInt < (gI h2 (gR h2 l0 18) i8).toInt → K 0 h2) ∧ (¬ (gI h2 (gR h2 l0 61) i7).toInt < (gI h2 (gR h2 l0 18) i8).toInt → ∀ v4 : Int32, v4 = l6 + 1 → Wp (d + 1) 210 (74, [some (vR l0), some (vI l1), some (vI l2), some (vI l3), some (vI 1), some (vI l5), some (vI v4), none, none, none, none], [], h2) (RI K X)))))))) ∧ (¬ (gI h1 (gR h1 l0 60) i3).toInt < (y0 - y1).toInt → ∀ v5 : Int32, v5 = l6 + 1 → Wp (d + 1) 210 (74, [some (vR l0), some (vI l1), some (vI l2), some (vI l3), some (vI l4), some (vI l5), some (vI v5), none, none, none, none], [], h1) (RI K X)))))))) X) X) ∧ (¬ l6.toInt < (gI h (gR h l0 57) i0).toInt → Wp (d + 1) 210 (51, [some (vR l0), some (vI l1), some (vI l2), some (vI l3), some (vI l4), some (vI l5), none, none, none, none, none], [], h) (RI K X)))) : Wp (d + 1) 210 (74, [some (vR l0), some (vI l1), some (vI l2), some (vI l3), some (vI l4), some (vI l5), some (vI l6), none, none, none, none], [], h) (RI K X) := by
  refine wp_iload' (L' := [some (vR l0), some (vI l1), some (vI l2), some (vI l3), some (vI l4), some (vI l5), some (vI l6), none, none, none, none]) rfl rfl rfl rfl ?_
  refine wp_aload rfl rfl rfl ?_
  obtain ⟨f0, F⟩ := F
  refine wp_getR rfl rfl rfl f0 rfl ?_
  refine wp_iload rfl rfl rfl ?_
  obtain ⟨i0, b9, F⟩ := F
  refine wp_iaload rfl b9 rfl ?_
  refine wp_icmp_ge rfl rfl rfl rfl rfl (fun c => ?_) (fun c => ?_)
  · replace F := F.1 c
    refine wp_const rfl rfl ?_
    refine wp_iload rfl rfl rfl ?_
    refine wp_imul rfl rfl ?_
    refine wp_iload rfl rfl rfl ?_
    refine wp_iadd rfl rfl ?_
    replace F := F _ rfl
    generalize ((16 * l3) + l6 : Int32) = v0 at F ⊢
    refine wp_istore (L2 := [some (vR l0), some (vI l1), some (vI l2), some (vI l3), some (vI l4), some (vI l5), some (vI l6), some (vI v0), none, none, none]) rfl rfl rfl rfl ?_
    refine wp_aload rfl rfl rfl ?_
    refine wp_iload rfl rfl rfl ?_
    refine wp_aload rfl rfl rfl ?_
    refine wp_getR rfl rfl rfl f0 rfl ?_
    refine wp_iload rfl rfl rfl ?_
    obtain ⟨i1, b9, F⟩ := F
    refine wp_iaload rfl b9 rfl ?_
    refine wp_iload rfl rfl rfl ?_
    obtain ⟨f1, F⟩ := F
    refine wp_callI rfl rfl rfl (rcv_v f1 f0 (by decide) (by decide)) rfl rfl rfl rfl ?_
    refine CI.mono F (fun y0 h0 F => ?_) (fun _ _ w => rx_I w)
    refine wp_istore (L2 := [some (vR l0), some (vI l1), some (vI l2), some (vI l3), some (vI l4), some (vI l5), some (vI l6), some (vI v0), some (vI y0), none, none]) rfl rfl rfl rfl ?_
    refine wp_aload rfl rfl rfl ?_
    refine wp_iload rfl rfl rfl ?_
    refine wp_aload rfl rfl rfl ?_
    obtain ⟨f2, F⟩ := F
    refine wp_getR rfl rfl rfl f2 rfl ?_
    refine wp_iload rfl rfl rfl ?_
    obtain ⟨i2, b9, F⟩ := F
    refine wp_iaload rfl b9 rfl ?_
    refine wp_iload rfl rfl rfl ?_
    refine wp_callI rfl rfl rfl (rcv_v f1 f2 (by decide) (by decide)) rfl rfl rfl rfl ?_
    refine CI.mono F (fun y1 h1 F => ?_) (fun _ _ w => rx_I w)
    refine wp_istore (L2 := [some (vR l0), some (vI l1), some (vI l2), some (vI l3), some (vI l4), some (vI l5), some (vI l6), some (vI v0), some (vI y0), some (vI y1), none]) rfl rfl rfl rfl ?_
    refine wp_iload rfl rfl rfl ?_
    refine wp_const rfl rfl ?_
    refine wp_icmp_eq (Y := (-2000000)) rfl rfl rfl rfl rfl (fun c => ?_) (fun c => ?_)
    · replace F := F.1 c
      refine wp_iinc' (L' := [some (vR l0), some (vI l1), some (vI l2), some (vI l3), some (vI l4), some (vI l5), some (vI l6), none, none, none, none]) (y := 1) (L2 := [some (vR l0), some (vI l1), some (vI l2), some (vI l3), some (vI l4), some (vI l5), some (vI (l6 + 1)), none, none, none, none]) rfl rfl rfl rfl rfl rfl ?_
      replace F := F _ rfl
      generalize (l6 + 1 : Int32) = v1 at F ⊢
      refine wp_goto rfl rfl ?_
      exact F
    · replace F := F.2 c
      refine wp_iload rfl rfl rfl ?_
      refine wp_const rfl rfl ?_
      refine wp_icmp_eq (Y := (-2000000)) rfl rfl rfl rfl rfl (fun c => ?_) (fun c => ?_)
      · replace F := F.1 c
        refine wp_iinc' (L' := [some (vR l0), some (vI l1), some (vI l2), some (vI l3), some (vI l4), some (vI l5), some (vI l6), none, none, none, none]) (y := 1) (L2 := [some (vR l0), some (vI l1), some (vI l2), some (vI l3), some (vI l4), some (vI l5), some (vI (l6 + 1)), none, none, none, none]) rfl rfl rfl rfl rfl rfl ?_
        replace F := F _ rfl
        generalize (l6 + 1 : Int32) = v2 at F ⊢
        refine wp_goto rfl rfl ?_
        exact F
      · replace F := F.2 c
        refine wp_iload rfl rfl rfl ?_
        refine wp_iload rfl rfl rfl ?_
        refine wp_isub rfl rfl ?_
        refine wp_aload rfl rfl rfl ?_
        obtain ⟨f3, F⟩ := F
        refine wp_getR rfl rfl rfl f3 rfl ?_
        refine wp_iload rfl rfl rfl ?_
        obtain ⟨i3, b9, F⟩ := F
        refine wp_iaload rfl b9 rfl ?_
        refine wp_icmp_gt rfl rfl rfl rfl rfl (fun c => ?_) (fun c => ?_)
        · replace F := F.1 c
          refine wp_aload' (L' := [some (vR l0), some (vI l1), some (vI l2), some (vI l3), none, some (vI l5), some (vI l6), some (vI v0), none, some (vI y1), none]) rfl rfl rfl rfl ?_
          refine wp_getR rfl rfl rfl f3 rfl ?_
          refine wp_iload rfl rfl rfl ?_
          obtain ⟨i4, b9, F⟩ := F
          refine wp_iaload rfl b9 rfl ?_
          replace F := F _ rfl
          generalize (gI h1 (gR h1 l0 58) i4 : Int32) = v3 at F ⊢
          refine wp_istore (L2 := [some (vR l0), some (vI l1), some (vI l2), some (vI l3), none, some (vI l5), some (vI l6), some (vI v0), none, some (vI y1), some (vI v3)]) rfl rfl rfl rfl ?_
          refine wp_iload rfl rfl rfl ?_
          refine wp_const rfl rfl ?_
          refine wp_icmp_eq (Y := (-1)) rfl rfl rfl rfl rfl (fun c => ?_) (fun c => ?_)
          · replace F := F.1 c
            refine wp_const' (L' := [none, none, none, none, none, none, none, none, none, none, none]) rfl rfl rfl ?_
            exact wp_retI rfl (Or.inr rfl) F
          · replace F := F.2 c
            refine wp_iload rfl rfl rfl ?_
            refine wp_iload rfl rfl rfl ?_
            refine wp_ishr rfl rfl ?_
            refine wp_const rfl rfl ?_
            refine wp_iand rfl rfl ?_
            refine wp_if_ne rfl rfl rfl rfl (fun c => ?_) (fun c => ?_)
            · replace F := F.1 c
              refine wp_const' (L' := [none, none, none, none, none, none, none, none, none, none, none]) rfl rfl rfl ?_
              exact wp_retI rfl (Or.inr rfl) F
            · replace F := F.2 c
              refine wp_aload' (L' := [some (vR l0), some (vI l1), some (vI l2), some (vI l3), none, some (vI l5), some (vI l6), some (vI v0), none, some (vI y1), some (vI v3)]) rfl rfl rfl rfl ?_
              refine wp_getR rfl rfl rfl f3 rfl ?_
              refine wp_iload rfl rfl rfl ?_
              refine wp_iload rfl rfl rfl ?_
              refine wp_aload rfl rfl rfl ?_
              refine wp_getR rfl rfl rfl f3 rfl ?_
              refine wp_iload rfl rfl rfl ?_
              obtain ⟨i5, b9, F⟩ := F
              refine wp_iaload rfl b9 rfl ?_
              refine wp_iadd rfl rfl ?_
              obtain ⟨f4, F⟩ := F
              obtain ⟨i6, b9, F⟩ := F
              refine wp_iastore rfl f4 b9 rfl ?_
              have f5 : gK (pI h1 (gR h1 l0 61) i6 (y1 + (gI h1 (gR h1 l0 60) i5))) l0 = 14 := (gK_pI _ _ _ _ _).trans f3
              replace F := F _ rfl
              generalize pI h1 (gR h1 l0 61) i6 (y1 + (gI h1 (gR h1 l0 60) i5)) = h2 at F f5 ⊢
              refine wp_const rfl rfl ?_
              refine wp_istore (L2 := [some (vR l0), some (vI l1), some (vI l2), some (vI l3), some (vI 1), some (vI l5), some (vI l6), some (vI v0), none, some (vI y1), some (vI v3)]) rfl rfl rfl rfl ?_
              refine wp_aload rfl rfl rfl ?_
              refine wp_getR rfl rfl rfl f5 rfl ?_
              refine wp_iload rfl rfl rfl ?_
              obtain ⟨i7, b9, F⟩ := F
              refine wp_iaload rfl b9 rfl ?_
              refine wp_aload rfl rfl rfl ?_
              refine wp_getR rfl rfl rfl f5 rfl ?_
              refine wp_const rfl rfl ?_
              refine wp_iload rfl rfl rfl ?_
              refine wp_imul rfl rfl ?_
              refine wp_iload rfl rfl rfl ?_
              refine wp_iadd rfl rfl ?_
              obtain ⟨i8, b9, F⟩ := F
              refine wp_iaload rfl b9 rfl ?_
              refine wp_icmp_ge rfl rfl rfl rfl rfl (fun c => ?_) (fun c => ?_)
              · replace F := F.1 c
                refine wp_const rfl rfl ?_
                exact wp_retI rfl (Or.inr rfl) F
              · replace F := F.2 c
                refine wp_iinc' (L' := [some (vR l0), some (vI l1), some (vI l2), some (vI l3), some (vI 1), some (vI l5), some (vI l6), none, none, none, none]) (y := 1) (L2 := [some (vR l0), some (vI l1), some (vI l2), some (vI l3), some (vI 1), some (vI l5), some (vI (l6 + 1)), none, none, none, none]) rfl rfl rfl rfl rfl rfl ?_
                replace F := F _ rfl
                generalize (l6 + 1 : Int32) = v4 at F ⊢
                refine wp_goto rfl rfl ?_
                exact F
        · replace F := F.2 c
          refine wp_goto rfl rfl ?_
          refine wp_iinc' (L' := [some (vR l0), some (vI l1), some (vI l2), some (vI l3), some (vI l4), some (vI l5), some (vI l6), none, none, none, none]) (y := 1) (L2 := [some (vR l0), some (vI l1), some (vI l2), some (vI l3), some (vI l4), some (vI l5), some (vI (l6 + 1)), none, none, none, none]) rfl rfl rfl rfl rfl rfl ?_
          replace F := F _ rfl
          generalize (l6 + 1 : Int32) = v5 at F ⊢
          refine wp_goto rfl rfl ?_
          exact F
  · replace F := F.2 c
    refine wp_goto' (L' := [some (vR l0), some (vI l1), some (vI l2), some (vI l3), some (vI l4), some (vI l5), none, none, none, none, none]) rfl rfl rfl ?_
    exact F
