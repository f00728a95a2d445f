/-! THE FORMULAS OF THE METHODS 123 TO 146 (written by wip/tools/gen13.py): what a run from a cut point needs -/
-- CensusOfficeLaw statement (LCensusOffice;III[J)I
theorem m123 {d : Nat} {a0 : Nat} {a1 : Int32} {a2 : Int32} {a3 : Int32} {a4 : Nat} {h : aH} {K : Int32 → aH → Prop} {X : Nat → aH → Prop} (F : 8 ≤ a0 ∧ gK h a0 = 1 ∧ CI d 122 [vR a0, vI a1, vI a2, vI a3] h (fun y0 h0 => 8 ≤ a4 ∧ inB h0 101 a4 0 0 ∧ ∀ h1 : aH, h1 = pJ h0 a4 0 (y0.toInt64) → K 0 h1) (fun x9 h9 => (x9 = 3 ∧ K 1 h9) ∨ (x9 = 1 ∧ K 2 h9))) : CI (d + 1) 123 [vR a0, vI a1, vI a2, vI a3, vR a4] h K X := by
  show Wp (d + 1) 123 (0, [some (vR a0), some (vI a1), some (vI a2), some (vI a3), some (vR a4), none], [], h) (RI K X)
  refine wp_aload rfl rfl rfl ?_
  refine wp_const rfl rfl ?_
  refine wp_aload rfl rfl rfl ?_
  refine wp_iload rfl rfl rfl ?_
  refine wp_iload rfl rfl rfl ?_
  refine wp_iload rfl rfl rfl ?_
  obtain ⟨f0, F⟩ := F
  obtain ⟨f1, F⟩ := F
  refine wp_callhI (X := (fun x9 h9 => (x9 = 3 ∧ K 1 h9) ∨ (x9 = 1 ∧ K 2 h9))) rfl rfl rfl (rcv_v f0 f1 (by decide) (by decide)) rfl rfl rfl (fun x9 h9 F => ?_) ?_
  · rcases F with ⟨rfl, F⟩ | ⟨rfl, F⟩
    · refine ⟨15, rfl, ?_⟩
      refine wp_astoreJ' (L' := [none, none, none, none, none, none]) (L2 := [none, none, none, none, none, some vJ]) rfl rfl rfl rfl rfl ?_
      refine wp_const rfl rfl ?_
      exact wp_retI rfl (Or.inl rfl) F
    · refine ⟨19, rfl, ?_⟩
      refine wp_astoreJ' (L' := [none, none, none, none, none, none]) (L2 := [none, none, none, none, none, some vJ]) rfl rfl rfl rfl rfl ?_
      refine wp_const rfl rfl ?_
      exact wp_retI rfl (Or.inl rfl) F
  · refine CI.mono F (fun y0 h0 F => ?_) (fun _ _ w => w)
    refine wp_i2l rfl rfl ?_
    obtain ⟨f2, F⟩ := F
    obtain ⟨b9, F⟩ := F
    refine wp_lastore rfl f2 b9 rfl ?_
    replace F := F _ rfl
    generalize pJ h0 a4 0 (y0.toInt64) = h1 at F ⊢
    refine wp_goto rfl rfl ?_
    refine wp_const' (L' := [none, none, none, none, none, none]) rfl rfl rfl ?_
    exact wp_retI rfl (Or.inl rfl) F
-- CensusOfficeModel isForm (I)Z
theorem m124 {d : Nat} {a0 : Nat} {a1 : Int32} {h : aH} {K : Int32 → aH → Prop} {X : Nat → aH → Prop} (F : gK h a0 = 14 ∧ CI d 14 [vL (a1.toInt64), vL 0, vL (((gI h a0 14) - 1).toInt64)] h (fun y0 h0 => y0 &&& 1 = y0 ∧ K y0 h0) X) : CI (d + 1) 124 [vR a0, vI a1] h K X := by
  show Wp (d + 1) 124 (0, [some (vR a0), some (vI a1)], [], h) (RI K X)
  refine wp_iload rfl rfl rfl ?_
  refine wp_i2l rfl rfl ?_
  refine wp_const rfl rfl ?_
  refine wp_aload rfl rfl rfl ?_
  obtain ⟨f0, F⟩ := F
  refine wp_getI rfl rfl rfl f0 rfl ?_
  refine wp_const rfl rfl ?_
  refine wp_isub rfl rfl ?_
  refine wp_i2l rfl rfl ?_
  refine wp_callI rfl rfl rfl rfl rfl rfl rfl rfl ?_
  refine CI.mono F (fun y0 h0 F => ?_) (fun _ _ w => rx_I w)
  exact wp_retI rfl (Or.inr F.1) F.2
-- CensusOfficeModel isStatementOf (II)Z
theorem m125 {d : Nat} {a0 : Nat} {a1 : Int32} {a2 : Int32} {h : aH} {K : Int32 → aH → Prop} {X : Nat → aH → Prop} (F : 8 ≤ a0 ∧ gK h a0 = 14 ∧ CI d 124 [vR a0, vI a1] h (fun y0 h0 => ((y0.toInt = 0 → K 0 h0) ∧ (¬ y0.toInt = 0 → gK h0 a0 = 14 ∧ ∃ i0 : Nat, inB h0 100 (gR h0 a0 15) a1 i0 ∧ CI d 14 [vL (a2.toInt64), vL 0, vL (((gI h0 (gR h0 a0 15) i0) - 1).toInt64)] h0 (fun y1 h1 => ((y1.toInt = 0 → K 0 h1) ∧ (¬ y1.toInt = 0 → K 1 h1))) X))) X) : CI (d + 1) 125 [vR a0, vI a1, vI a2] h K X := by
  show Wp (d + 1) 125 (0, [some (vR a0), some (vI a1), some (vI a2)], [], h) (RI K X)
  refine wp_aload rfl rfl rfl ?_
  refine wp_iload rfl rfl rfl ?_
  obtain ⟨f0, F⟩ := F
  obtain ⟨f1, F⟩ := F
  refine wp_callI rfl rfl rfl (rcv_v f0 f1 (by decide) (by decide)) rfl rfl rfl rfl ?_
  refine CI.mono F (fun y0 h0 F => ?_) (fun _ _ w => rx_I w)
  refine wp_if_eq rfl rfl rfl rfl (fun c => ?_) (fun c => ?_)
  · replace F := F.1 c
    refine wp_const' (L' := [none, none, none]) rfl rfl rfl ?_
    exact wp_retI rfl (Or.inr rfl) F
  · replace F := F.2 c
    refine wp_iload rfl rfl rfl ?_
    refine wp_i2l rfl rfl ?_
    refine wp_const rfl rfl ?_
    refine wp_aload rfl rfl rfl ?_
    obtain ⟨f2, F⟩ := F
    refine wp_getR rfl rfl rfl f2 rfl ?_
    refine wp_iload rfl rfl rfl ?_
    obtain ⟨i0, b9, F⟩ := F
    refine wp_iaload rfl b9 rfl ?_
    refine wp_const rfl rfl ?_
    refine wp_isub rfl rfl ?_
    refine wp_i2l rfl rfl ?_
    refine wp_callI rfl rfl rfl rfl rfl rfl rfl rfl ?_
    refine CI.mono F (fun y1 h1 F => ?_) (fun _ _ w => rx_I w)
    refine wp_if_eq rfl rfl rfl rfl (fun c => ?_) (fun c => ?_)
    · replace F := F.1 c
      refine wp_const' (L' := [none, none, none]) rfl rfl rfl ?_
      exact wp_retI rfl (Or.inr rfl) F
    · replace F := F.2 c
      refine wp_const rfl rfl ?_
      refine wp_goto rfl rfl ?_
      exact wp_retI rfl (Or.inr rfl) F
-- CensusOfficeModel statement (III)I
theorem m126 {d : Nat} {a0 : Nat} {a1 : Int32} {a2 : Int32} {a3 : Int32} {h : aH} {K : Int32 → aH → Prop} {X : Nat → aH → Prop} (F : 8 ≤ a0 ∧ gK h a0 = 14 ∧ ∀ h0 : aH, h0 = pI h a0 0 0 → CI d 125 [vR a0, vI a1, vI a2] h0 (fun y0 h1 => ((y0.toInt = 0 → gK h1 a0 = 14 ∧ CI d 15 [vR a0, vI 1] h1 (fun y1 h2 => K y1 h2) X) ∧ (¬ y0.toInt = 0 → CI d 14 [vL (a3.toInt64), vL 0, vL 3] h1 (fun y2 h3 => ((y2.toInt = 0 → gK h3 a0 = 14 ∧ CI d 15 [vR a0, vI 2] h3 (fun y3 h4 => K y3 h4) X) ∧ (¬ y2.toInt = 0 → ∀ v0 : Int32, v0 = (20 * a1) + a2 → ((a3.toInt = 0 → gK h3 a0 = 14 ∧ ∃ i0 : Nat, inB h3 100 (gR h3 a0 16) v0 i0 ∧ K (gI h3 (gR h3 a0 16) i0) h3) ∧ (¬ a3.toInt = 0 → ((a3.toInt = 1 → gK h3 a0 = 14 ∧ ∃ i1 : Nat, inB h3 100 (gR h3 a0 18) v0 i1 ∧ K (gI h3 (gR h3 a0 18) i1) h3) ∧ (¬ a3.toInt = 1 → ((a3.toInt = 2 → gK h3 a0 = 14 ∧ ∃ i2 : Nat, inB h3 100 (gR h3 a0 19) v0 i2 ∧ K (gI h3 (gR h3 a0 19) i2) h3) ∧ (¬ a3.toInt = 2 → gK h3 a0 = 14 ∧ ∃ i3 : Nat, inB h3 100 (gR h3 a0 20) v0 i3 ∧ K (gI h3 (gR h3 a0 20) i3) h3))))))))) X))) X) : CI (d + 1) 126 [vR a0, vI a1, vI a2, vI a3] h K X := by
  show Wp (d + 1) 126 (0, [some (vR a0), some (vI a1), some (vI a2), some (vI a3), none], [], h) (RI K X)
  refine wp_aload rfl rfl rfl ?_
  refine wp_const rfl rfl ?_
  obtain ⟨f0, F⟩ := F
  obtain ⟨f1, F⟩ := F
  refine wp_putI rfl rfl rfl f0 f1 rfl ?_
  have f2 : gK (pI h a0 0 0) a0 = 14 := (gK_pI _ _ _ _ _).trans f1
  replace F := F _ rfl
  generalize pI h a0 0 0 = h0 at F f2 ⊢
  refine wp_aload rfl rfl rfl ?_
  refine wp_iload rfl rfl rfl ?_
  refine wp_iload rfl rfl rfl ?_
  refine wp_callI rfl rfl rfl (rcv_v f0 f2 (by decide) (by decide)) rfl rfl rfl rfl ?_
  refine CI.mono F (fun y0 h1 F => ?_) (fun _ _ w => rx_I w)
  refine wp_if_ne rfl rfl rfl rfl (fun c => ?_) (fun c => ?_)
  · replace F := F.1 c
    refine wp_aload rfl rfl rfl ?_
    refine wp_const rfl rfl ?_
    obtain ⟨f3, F⟩ := F
    refine wp_callI rfl rfl rfl (rcv_v f0 f3 (by decide) (by decide)) rfl rfl rfl rfl ?_
    refine CI.mono F (fun y1 h2 F => ?_) (fun _ _ w => rx_I w)
    exact wp_retI rfl (Or.inl rfl) F
  · replace F := F.2 c
    refine wp_iload' (L' := [some (vR a0), some (vI a1), some (vI a2), some (vI a3), none]) rfl rfl rfl rfl ?_
    refine wp_i2l rfl rfl ?_
    refine wp_const rfl rfl ?_
    refine wp_const rfl rfl ?_
    refine wp_callI rfl rfl rfl rfl rfl rfl rfl rfl ?_
    refine CI.mono F (fun y2 h3 F => ?_) (fun _ _ w => rx_I w)
    refine wp_if_ne rfl rfl rfl rfl (fun c => ?_) (fun c => ?_)
    · replace F := F.1 c
      refine wp_aload rfl rfl rfl ?_
      refine wp_const rfl rfl ?_
      obtain ⟨f4, F⟩ := F
      refine wp_callI rfl rfl rfl (rcv_v f0 f4 (by decide) (by decide)) rfl rfl rfl rfl ?_
      refine CI.mono F (fun y3 h4 F => ?_) (fun _ _ w => rx_I w)
      exact wp_retI rfl (Or.inl rfl) F
    · replace F := F.2 c
      refine wp_const' (L' := [some (vR a0), some (vI a1), some (vI a2), some (vI a3), none]) rfl rfl rfl ?_
      refine wp_iload rfl rfl rfl ?_
      refine wp_imul rfl rfl ?_
      refine wp_iload rfl rfl rfl ?_
      refine wp_iadd rfl rfl ?_
      replace F := F _ rfl
      generalize ((20 * a1) + a2 : Int32) = v0 at F ⊢
      refine wp_istore (L2 := [some (vR a0), some (vI a1), some (vI a2), some (vI a3), some (vI v0)]) rfl rfl rfl rfl ?_
      refine wp_iload rfl rfl rfl ?_
      refine wp_if_ne rfl rfl rfl rfl (fun c => ?_) (fun c => ?_)
      · replace F := F.1 c
        refine wp_aload rfl rfl rfl ?_
        obtain ⟨f5, F⟩ := F
        refine wp_getR rfl rfl rfl f5 rfl ?_
        refine wp_iload rfl rfl rfl ?_
        obtain ⟨i0, b9, F⟩ := F
        refine wp_iaload rfl b9 rfl ?_
        refine wp_goto rfl rfl ?_
        exact wp_retI rfl (Or.inl rfl) F
      · replace F := F.2 c
        refine wp_iload' (L' := [some (vR a0), none, none, some (vI a3), some (vI v0)]) rfl rfl rfl rfl ?_
        refine wp_const rfl rfl ?_
        refine wp_icmp_ne (Y := 1) rfl rfl rfl rfl rfl (fun c => ?_) (fun c => ?_)
        · replace F := F.1 c
          refine wp_aload rfl rfl rfl ?_
          obtain ⟨f6, F⟩ := F
          refine wp_getR rfl rfl rfl f6 rfl ?_
          refine wp_iload rfl rfl rfl ?_
          obtain ⟨i1, b9, F⟩ := F
          refine wp_iaload rfl b9 rfl ?_
          refine wp_goto rfl rfl ?_
          exact wp_retI rfl (Or.inl rfl) F
        · replace F := F.2 c
          refine wp_iload' (L' := [some (vR a0), none, none, some (vI a3), some (vI v0)]) rfl rfl rfl rfl ?_
          refine wp_const rfl rfl ?_
          refine wp_icmp_ne (Y := 2) rfl rfl rfl rfl rfl (fun c => ?_) (fun c => ?_)
          · replace F := F.1 c
            refine wp_aload rfl rfl rfl ?_
            obtain ⟨f7, F⟩ := F
            refine wp_getR rfl rfl rfl f7 rfl ?_
            refine wp_iload rfl rfl rfl ?_
            obtain ⟨i2, b9, F⟩ := F
            refine wp_iaload rfl b9 rfl ?_
            refine wp_goto rfl rfl ?_
            exact wp_retI rfl (Or.inl rfl) F
          · replace F := F.2 c
            refine wp_aload' (L' := [some (vR a0), none, none, none, some (vI v0)]) rfl rfl rfl rfl ?_
            obtain ⟨f8, F⟩ := F
            refine wp_getR rfl rfl rfl f8 rfl ?_
            refine wp_iload rfl rfl rfl ?_
            obtain ⟨i3, b9, F⟩ := F
            refine wp_iaload rfl b9 rfl ?_
            exact wp_retI rfl (Or.inl rfl) F
-- CensusOffice$Register numbersOf (II)[I
theorem m127 {d : Nat} {a0 : Nat} {a1 : Int32} {a2 : Int32} {h : aH} {K : Nat → aH → Prop} {X : Nat → aH → Prop} (F : ∀ (r0 : Nat) (h0 : aH), r0 = gN h → h0 = gNew h 100 6 → Wp (d + 1) 127 (8, [some (vR a0), some (vI a1), some (vI a2), some (vR r0), some (vI 0)], [], h0) (RR K X)) : CR (d + 1) 127 [vR a0, vI a1, vI a2] h K X := by
  show Wp (d + 1) 127 (0, [some (vR a0), some (vI a1), some (vI a2), none, none], [], h) (RR K X)
  refine wp_const rfl rfl ?_
  refine wp_newI (j := 6) rfl rfl (by decide) rfl ?_
  replace F := F _ _ rfl rfl
  generalize gNew h 100 6 = h0 at F ⊢
  generalize gN h = r0 at F ⊢
  refine wp_astore (L2 := [some (vR a0), some (vI a1), some (vI a2), some (vR r0), none]) rfl rfl rfl rfl ?_
  refine wp_const rfl rfl ?_
  refine wp_istore (L2 := [some (vR a0), some (vI a1), some (vI a2), some (vR r0), some (vI 0)]) rfl rfl rfl rfl ?_
  exact F
theorem w127_8 {d : Nat} {l0 : Nat} {l1 : Int32} {l2 : Int32} {l3 : Nat} {l4 : Int32} {h : aH} {K : Nat → aH → Prop} {X : Nat → aH → Prop} (F : ((l4.toInt < 6 → 8 ≤ l0 ∧ gK h l0 = 6 ∧ CI d 50 [vR l0, vI l1, vI l4, vI l2, vI l2] h (fun y0 h0 => 8 ≤ l3 ∧ ∃ i0 : Nat, inB h0 100 l3 l4 i0 ∧ ∀ h1 : aH, h1 = pI h0 l3 i0 y0 → ∀ v0 : Int32, v0 = l4 + 1 → Wp (d + 1) 127 (8, [some (vR l0), some (vI l1), some (vI l2), some (vR l3), some (vI v0)], [], h1) (RR K X)) X) ∧ (¬ l4.toInt < 6 → K l3 h))) : Wp (d + 1) 127 (8, [some (vR l0), some (vI l1), some (vI l2), some (vR l3), some (vI l4)], [], h) (RR K X) := by
  refine wp_iload rfl rfl rfl ?_
  refine wp_const rfl rfl ?_
  refine wp_icmp_ge (Y := 6) rfl rfl rfl rfl rfl (fun c => ?_) (fun c => ?_)
  · replace F := F.1 c
    refine wp_aload rfl rfl rfl ?_
    refine wp_iload rfl rfl rfl ?_
    refine wp_aload rfl rfl rfl ?_
    refine wp_iload rfl rfl rfl ?_
    refine wp_iload rfl rfl rfl ?_
    refine wp_iload rfl rfl rfl ?_
    refine wp_iload rfl rfl rfl ?_
    obtain ⟨f0, F⟩ := F
    obtain ⟨f1, F⟩ := F
    refine wp_callI rfl rfl rfl (rcv_v f0 f1 (by decide) (by decide)) rfl rfl rfl rfl ?_
    refine CI.mono F (fun y0 h0 F => ?_) (fun _ _ w => rx_R w)
    obtain ⟨f2, F⟩ := F
    obtain ⟨i0, b9, F⟩ := F
    refine wp_iastore rfl f2 b9 rfl ?_
    replace F := F _ rfl
    generalize pI h0 l3 i0 y0 = h1 at F ⊢
    refine wp_iinc (y := 1) (L2 := [some (vR l0), some (vI l1), some (vI l2), some (vR l3), some (vI (l4 + 1))]) rfl rfl rfl rfl rfl ?_
    replace F := F _ rfl
    generalize (l4 + 1 : Int32) = v0 at F ⊢
    refine wp_goto rfl rfl ?_
    exact F
  · replace F := F.2 c
    refine wp_aload' (L' := [none, none, none, some (vR l3), none]) rfl rfl rfl rfl ?_
    exact wp_retR rfl F
-- CensusOffice$Session <init> (LCensusOffice$Form;I[I)V
theorem m128 {d : Nat} {a0 : Nat} {a1 : Nat} {a2 : Int32} {a3 : Nat} {h : aH} {K : aH → Prop} {X : Nat → aH → Prop} (F : 8 ≤ a0 ∧ gK h a0 = 10 ∧ ∀ h0 : aH, h0 = pI h a0 6 0 → ∀ h1 : aH, h1 = pI h0 a0 7 0 → ∀ h2 : aH, h2 = pI h1 a0 8 0 → ∀ h3 : aH, h3 = pI h2 a0 9 0 → Wp (d + 1) 128 (24, [some (vR a0), some (vR a1), some (vI a2), some (vR a3)], [], h3) (RV K X)) : CV (d + 1) 128 [vR a0, vR a1, vI a2, vR a3] h K X := by
  show Wp (d + 1) 128 (0, [some (vR a0), some (vR a1), some (vI a2), some (vR a3)], [], h) (RV K X)
  refine wp_aload rfl rfl rfl ?_
  obtain ⟨f0, F⟩ := F
  refine wp_obj rfl f0 rfl rfl ?_
  refine wp_aload rfl rfl rfl ?_
  refine wp_const rfl rfl ?_
  obtain ⟨f1, F⟩ := F
  refine wp_putI rfl rfl rfl f0 f1 rfl ?_
  have f2 : gK (pI h a0 6 0) a0 = 10 := (gK_pI _ _ _ _ _).trans f1
  replace F := F _ rfl
  generalize pI h a0 6 0 = h0 at F f2 ⊢
  refine wp_aload rfl rfl rfl ?_
  refine wp_const rfl rfl ?_
  refine wp_putI rfl rfl rfl f0 f2 rfl ?_
  have f3 : gK (pI h0 a0 7 0) a0 = 10 := (gK_pI _ _ _ _ _).trans f2
  replace F := F _ rfl
  generalize pI h0 a0 7 0 = h1 at F f3 ⊢
  refine wp_aload rfl rfl rfl ?_
  refine wp_const rfl rfl ?_
  refine wp_putI rfl rfl rfl f0 f3 rfl ?_
  have f4 : gK (pI h1 a0 8 0) a0 = 10 := (gK_pI _ _ _ _ _).trans f3
  replace F := F _ rfl
  generalize pI h1 a0 8 0 = h2 at F f4 ⊢
  refine wp_aload rfl rfl rfl ?_
  refine wp_const rfl rfl ?_
  refine wp_putI rfl rfl rfl f0 f4 rfl ?_
  have f5 : gK (pI h2 a0 9 0) a0 = 10 := (gK_pI _ _ _ _ _).trans f4
  replace F := F _ rfl
  generalize pI h2 a0 9 0 = h3 at F f5 ⊢
  exact F
theorem w128_24 {d : Nat} {l0 : Nat} {l1 : Nat} {l2 : Int32} {l3 : Nat} {h : aH} {K : aH → Prop} {X : Nat → aH → Prop} (F : 8 ≤ l0 ∧ gK h l0 = 10 ∧ ∀ h0 : aH, h0 = pI h l0 10 (-1) → ∀ h1 : aH, h1 = pI h0 l0 11 0 → ∀ h2 : aH, h2 = pI h1 l0 12 0 → ∀ h3 : aH, h3 = pR h2 l0 0 l1 → Wp (d + 1) 128 (44, [some (vR l0), some (vR l1), some (vI l2), some (vR l3)], [], h3) (RV K X)) : Wp (d + 1) 128 (24, [some (vR l0), some (vR l1), some (vI l2), some (vR l3)], [], h) (RV K X) := by
  refine wp_aload rfl rfl rfl ?_
  refine wp_const rfl rfl ?_
  obtain ⟨f0, F⟩ := F
  obtain ⟨f1, F⟩ := F
  refine wp_putI rfl rfl rfl f0 f1 rfl ?_
  have f2 : gK (pI h l0 10 (-1)) l0 = 10 := (gK_pI _ _ _ _ _).trans f1
  replace F := F _ rfl
  generalize pI h l0 10 (-1) = h0 at F f2 ⊢
  refine wp_aload rfl rfl rfl ?_
  refine wp_const rfl rfl ?_
  refine wp_putI rfl rfl rfl f0 f2 rfl ?_
  have f3 : gK (pI h0 l0 11 0) l0 = 10 := (gK_pI _ _ _ _ _).trans f2
  replace F := F _ rfl
  generalize pI h0 l0 11 0 = h1 at F f3 ⊢
  refine wp_aload rfl rfl rfl ?_
  refine wp_const rfl rfl ?_
  refine wp_putZ rfl rfl rfl f0 f3 rfl rfl ?_
  have f4 : gK (pI h1 l0 12 0) l0 = 10 := (gK_pI _ _ _ _ _).trans f3
  replace F := F _ rfl
  generalize pI h1 l0 12 0 = h2 at F f4 ⊢
  refine wp_aload rfl rfl rfl ?_
  refine wp_aload rfl rfl rfl ?_
  refine wp_putR rfl rfl rfl f0 f4 rfl ?_
  have f5 : gK (pR h2 l0 0 l1) l0 = 10 := (gK_pR _ _ _ _ _).trans f4
  replace F := F _ rfl
  generalize pR h2 l0 0 l1 = h3 at F f5 ⊢
  exact F
theorem w128_44 {d : Nat} {l0 : Nat} {l1 : Nat} {l2 : Int32} {l3 : Nat} {h : aH} {K : aH → Prop} {X : Nat → aH → Prop} (F : 8 ≤ l0 ∧ gK h l0 = 10 ∧ ∀ h0 : aH, h0 = pI h l0 1 l2 → ∀ h1 : aH, h1 = pR h0 l0 2 l3 → ∀ (r0 : Nat) (h2 : aH), r0 = gN h1 → h2 = gNew h1 100 20 → gK h2 l0 = 10 ∧ ∀ h3 : aH, h3 = pR h2 l0 3 r0 → ∀ (r1 : Nat) (h4 : aH), r1 = gN h3 → h4 = gNew h3 100 20 → gK h4 l0 = 10 ∧ ∀ h5 : aH, h5 = pR h4 l0 4 r1 → Wp (d + 1) 128 (70, [some (vR l0), some (vR l1), some (vI l2), some (vR l3)], [], h5) (RV K X)) : Wp (d + 1) 128 (44, [some (vR l0), some (vR l1), some (vI l2), some (vR l3)], [], h) (RV K X) := by
  refine wp_aload rfl rfl rfl ?_
  refine wp_iload rfl rfl rfl ?_
  obtain ⟨f0, F⟩ := F
  obtain ⟨f1, F⟩ := F
  refine wp_putI rfl rfl rfl f0 f1 rfl ?_
  have f2 : gK (pI h l0 1 l2) l0 = 10 := (gK_pI _ _ _ _ _).trans f1
  replace F := F _ rfl
  generalize pI h l0 1 l2 = h0 at F f2 ⊢
  refine wp_aload rfl rfl rfl ?_
  refine wp_aload rfl rfl rfl ?_
  refine wp_putR rfl rfl rfl f0 f2 rfl ?_
  have f3 : gK (pR h0 l0 2 l3) l0 = 10 := (gK_pR _ _ _ _ _).trans f2
  replace F := F _ rfl
  generalize pR h0 l0 2 l3 = h1 at F f3 ⊢
  refine wp_aload rfl rfl rfl ?_
  refine wp_const rfl rfl ?_
  refine wp_newI (j := 20) rfl rfl (by decide) rfl ?_
  replace F := F _ _ rfl rfl
  generalize gNew h1 100 20 = h2 at F ⊢
  generalize gN h1 = r0 at F ⊢
  obtain ⟨f4, F⟩ := F
  refine wp_putR rfl rfl rfl f0 f4 rfl ?_
  have f5 : gK (pR h2 l0 3 r0) l0 = 10 := (gK_pR _ _ _ _ _).trans f4
  replace F := F _ rfl
  generalize pR h2 l0 3 r0 = h3 at F f5 ⊢
  refine wp_aload rfl rfl rfl ?_
  refine wp_const rfl rfl ?_
  refine wp_newI (j := 20) rfl rfl (by decide) rfl ?_
  replace F := F _ _ rfl rfl
  generalize gNew h3 100 20 = h4 at F ⊢
  generalize gN h3 = r1 at F ⊢
  obtain ⟨f6, F⟩ := F
  refine wp_putR rfl rfl rfl f0 f6 rfl ?_
  have f7 : gK (pR h4 l0 4 r1) l0 = 10 := (gK_pR _ _ _ _ _).trans f6
  replace F := F _ rfl
  generalize pR h4 l0 4 r1 = h5 at F f7 ⊢
  exact F
theorem w128_70 {d : Nat} {l0 : Nat} {l1 : Nat} {l2 : Int32} {l3 : Nat} {h : aH} {K : aH → Prop} {X : Nat → aH → Prop} (F : ∀ (r0 : Nat) (h0 : aH), r0 = gN h → h0 = gNew h 100 20 → 8 ≤ l0 ∧ gK h0 l0 = 10 ∧ ∀ h1 : aH, h1 = pR h0 l0 5 r0 → CV d 48 [vR (gR h1 l0 3), vI (-2000000)] h1 (fun h2 => gK h2 l0 = 10 ∧ CV d 48 [vR (gR h2 l0 4), vI (-2000000)] h2 (fun h3 => gK h3 l0 = 10 ∧ CV d 48 [vR (gR h3 l0 5), vI (-2000000)] h3 (fun h4 => K h4) X) X) X) : Wp (d + 1) 128 (70, [some (vR l0), some (vR l1), some (vI l2), some (vR l3)], [], h) (RV K X) := by
  refine wp_aload rfl rfl rfl ?_
  refine wp_const rfl rfl ?_
  refine wp_newI (j := 20) rfl rfl (by decide) rfl ?_
  replace F := F _ _ rfl rfl
  generalize gNew h 100 20 = h0 at F ⊢
  generalize gN h = r0 at F ⊢
  obtain ⟨f0, F⟩ := F
  obtain ⟨f1, F⟩ := F
  refine wp_putR rfl rfl rfl f0 f1 rfl ?_
  have f2 : gK (pR h0 l0 5 r0) l0 = 10 := (gK_pR _ _ _ _ _).trans f1
  replace F := F _ rfl
  generalize pR h0 l0 5 r0 = h1 at F f2 ⊢
  refine wp_aload rfl rfl rfl ?_
  refine wp_getR rfl rfl rfl f2 rfl ?_
  refine wp_const rfl rfl ?_
  refine wp_callV rfl rfl rfl rfl rfl rfl rfl rfl ?_
  refine CV.mono F (fun h2 F => ?_) (fun _ _ w => rx_V w)
  refine wp_aload rfl rfl rfl ?_
  obtain ⟨f3, F⟩ := F
  refine wp_getR rfl rfl rfl f3 rfl ?_
  refine wp_const rfl rfl ?_
  refine wp_callV rfl rfl rfl rfl rfl rfl rfl rfl ?_
  refine CV.mono F (fun h3 F => ?_) (fun _ _ w => rx_V w)
  refine wp_aload rfl rfl rfl ?_
  obtain ⟨f4, F⟩ := F
  refine wp_getR rfl rfl rfl f4 rfl ?_
  refine wp_const rfl rfl ?_
  refine wp_callV rfl rfl rfl rfl rfl rfl rfl rfl ?_
  refine CV.mono F (fun h4 F => ?_) (fun _ _ w => rx_V w)
  exact wp_retV rfl F
-- CensusOffice$Form closed (J)I
theorem m129 {d : Nat} {a0 : Nat} {a1 : Int64} {h : aH} {K : Int32 → aH → Prop} {X : Nat → aH → Prop} (F : ((a1.toInt < (-1000000) → K (-2000000) h) ∧ (¬ a1.toInt < (-1000000) → ((1000000 < a1.toInt → K (-2000000) h) ∧ (¬ 1000000 < a1.toInt → K (a1.toInt32) h))))) : CI d 129 [vR a0, vL a1] h K X := by
  show Wp d 129 (0, [some (vR a0), some (vL a1), none], [], h) (RI K X)
  refine wp_lload rfl rfl rfl ?_
  refine wp_const rfl rfl ?_
  refine wp_lcmp_lt (Y := (-1000000)) rfl rfl rfl rfl rfl rfl rfl (fun c => ?_) (fun c => ?_)
  · replace F := F.1 c
    refine wp_const' (L' := [none, none, none]) rfl rfl rfl ?_
    refine wp_goto rfl rfl ?_
    exact wp_retI rfl (Or.inl rfl) F
  · replace F := F.2 c
    refine wp_lload rfl rfl rfl ?_
    refine wp_const rfl rfl ?_
    refine wp_lcmp_le (Y := 1000000) rfl rfl rfl rfl rfl rfl rfl (fun c => ?_) (fun c => ?_)
    · replace F := F.1 c
      refine wp_const' (L' := [none, none, none]) rfl rfl rfl ?_
      refine wp_goto rfl rfl ?_
      exact wp_retI rfl (Or.inl rfl) F
    · replace F := F.2 c
      refine wp_lload' (L' := [none, some (vL a1), none]) rfl rfl rfl rfl ?_
      refine wp_l2i rfl rfl ?_
      exact wp_retI rfl (Or.inl rfl) F
-- CensusOffice$Form outcome (II)I
theorem m130 {d : Nat} {a0 : Nat} {a1 : Int32} {a2 : Int32} {h : aH} {K : Int32 → aH → Prop} {X : Nat → aH → Prop} (F : ((a1.toInt = (-2000000) → K 0 h) ∧ (¬ a1.toInt = (-2000000) → ((a2.toInt = (-2000000) → K 0 h) ∧ (¬ a2.toInt = (-2000000) → ((a1.toInt = a2.toInt → K 2 h) ∧ (¬ a1.toInt = a2.toInt → ((a1.toInt < a2.toInt → K 1 h) ∧ (¬ a1.toInt < a2.toInt → K 4 h))))))))) : CI d 130 [vR a0, vI a1, vI a2] h K X := by
  show Wp d 130 (0, [some (vR a0), some (vI a1), some (vI a2)], [], h) (RI K X)
  refine wp_iload rfl rfl rfl ?_
  refine wp_const rfl rfl ?_
  refine wp_icmp_eq (Y := (-2000000)) rfl rfl rfl rfl rfl (fun c => ?_) (fun c => ?_)
  · replace F := F.1 c
    refine wp_const' (L' := [none, none, none]) rfl rfl rfl ?_
    exact wp_retI rfl (Or.inl rfl) F
  · replace F := F.2 c
    refine wp_iload rfl rfl rfl ?_
    refine wp_const rfl rfl ?_
    refine wp_icmp_ne (Y := (-2000000)) rfl rfl rfl rfl rfl (fun c => ?_) (fun c => ?_)
    · replace F := F.1 c
      refine wp_const' (L' := [none, none, none]) rfl rfl rfl ?_
      exact wp_retI rfl (Or.inl rfl) F
    · replace F := F.2 c
      refine wp_iload' (L' := [none, some (vI a1), some (vI a2)]) rfl rfl rfl rfl ?_
      refine wp_iload rfl rfl rfl ?_
      refine wp_icmp_ne rfl rfl rfl rfl rfl (fun c => ?_) (fun c => ?_)
      · replace F := F.1 c
        refine wp_const rfl rfl ?_
        exact wp_retI rfl (Or.inl rfl) F
      · replace F := F.2 c
        refine wp_iload' (L' := [none, some (vI a1), some (vI a2)]) rfl rfl rfl rfl ?_
        refine wp_iload rfl rfl rfl ?_
        refine wp_icmp_ge rfl rfl rfl rfl rfl (fun c => ?_) (fun c => ?_)
        · replace F := F.1 c
          refine wp_const rfl rfl ?_
          refine wp_goto rfl rfl ?_
          exact wp_retI rfl (Or.inl rfl) F
        · replace F := F.2 c
          refine wp_const' (L' := [none, none, none]) rfl rfl rfl ?_
          exact wp_retI rfl (Or.inl rfl) F
-- CensusOffice$Form term (I[I[I)J
theorem m131 {d : Nat} {a0 : Nat} {a1 : Int32} {a2 : Nat} {a3 : Nat} {h : aH} {K : Int64 → aH → Prop} {X : Nat → aH → Prop} (F : gK h a0 = 3 ∧ ∃ i0 : Nat, inB h 100 (gR h a0 1) a1 i0 ∧ ∀ v0 : Int32, v0 = gI h (gR h a0 1) i0 → ∃ i1 : Nat, inB h 100 (gR h a0 0) a1 i1 ∧ (((gI h (gR h a0 0) i1).toInt = 0 → K (v0.toInt64) h) ∧ (¬ (gI h (gR h a0 0) i1).toInt = 0 → ∃ i2 : Nat, inB h 100 (gR h a0 0) a1 i2 ∧ (((gI h (gR h a0 0) i2).toInt = 1 → Wp d 131 (46, [some (vR a0), some (vI a1), none, none, some (vI v0), none], [vR a2], h) (RL K X)) ∧ (¬ (gI h (gR h a0 0) i2).toInt = 1 → ∃ i3 : Nat, inB h 100 (gR h a0 0) a1 i3 ∧ (((gI h (gR h a0 0) i3).toInt = 3 → Wp d 131 (46, [some (vR a0), some (vI a1), none, none, some (vI v0), none], [vR a2], h) (RL K X)) ∧ (¬ (gI h (gR h a0 0) i3).toInt = 3 → Wp d 131 (46, [some (vR a0), some (vI a1), none, none, some (vI v0), none], [vR a3], h) (RL K X)))))))) : CL d 131 [vR a0, vI a1, vR a2, vR a3] h K X := by
  show Wp d 131 (0, [some (vR a0), some (vI a1), some (vR a2), some (vR a3), none, none], [], h) (RL K X)
  refine wp_aload rfl rfl rfl ?_
  obtain ⟨f0, F⟩ := F
  refine wp_getR rfl rfl rfl f0 rfl ?_
  refine wp_iload rfl rfl rfl ?_
  obtain ⟨i0, b9, F⟩ := F
  refine wp_iaload rfl b9 rfl ?_
  replace F := F _ rfl
  generalize (gI h (gR h a0 1) i0 : Int32) = v0 at F ⊢
  refine wp_istore (L2 := [some (vR a0), some (vI a1), some (vR a2), some (vR a3), some (vI v0), none]) rfl rfl rfl rfl ?_
  refine wp_aload rfl rfl rfl ?_
  refine wp_getR rfl rfl rfl f0 rfl ?_
  refine wp_iload rfl rfl rfl ?_
  obtain ⟨i1, b9, F⟩ := F
  refine wp_iaload rfl b9 rfl ?_
  refine wp_if_ne rfl rfl rfl rfl (fun c => ?_) (fun c => ?_)
  · replace F := F.1 c
    refine wp_iload rfl rfl rfl ?_
    refine wp_i2l rfl rfl ?_
    exact wp_retL rfl F
  · replace F := F.2 c
    refine wp_aload' (L' := [some (vR a0), some (vI a1), some (vR a2), some (vR a3), some (vI v0), none]) rfl rfl rfl rfl ?_
    refine wp_getR rfl rfl rfl f0 rfl ?_
    refine wp_iload rfl rfl rfl ?_
    obtain ⟨i2, b9, F⟩ := F
    refine wp_iaload rfl b9 rfl ?_
    refine wp_const rfl rfl ?_
    refine wp_icmp_eq (Y := 1) rfl rfl rfl rfl rfl (fun c => ?_) (fun c => ?_)
    · replace F := F.1 c
      refine wp_aload' (L' := [some (vR a0), some (vI a1), some (vR a2), none, some (vI v0), none]) rfl rfl rfl rfl ?_
      refine wp_goto rfl rfl ?_
      refine wp_kill (L' := [some (vR a0), some (vI a1), none, none, some (vI v0), none]) rfl rfl ?_
      exact F
    · replace F := F.2 c
      refine wp_aload rfl rfl rfl ?_
      refine wp_getR rfl rfl rfl f0 rfl ?_
      refine wp_iload rfl rfl rfl ?_
      obtain ⟨i3, b9, F⟩ := F
      refine wp_iaload rfl b9 rfl ?_
      refine wp_const rfl rfl ?_
      refine wp_icmp_ne (Y := 3) rfl rfl rfl rfl rfl (fun c => ?_) (fun c => ?_)
      · replace F := F.1 c
        refine wp_aload' (L' := [some (vR a0), some (vI a1), some (vR a2), none, some (vI v0), none]) rfl rfl rfl rfl ?_
        refine wp_goto rfl rfl ?_
        refine wp_kill (L' := [some (vR a0), some (vI a1), none, none, some (vI v0), none]) rfl rfl ?_
        exact F
      · replace F := F.2 c
        refine wp_aload' (L' := [some (vR a0), some (vI a1), none, some (vR a3), some (vI v0), none]) rfl rfl rfl rfl ?_
        refine wp_kill (L' := [some (vR a0), some (vI a1), none, none, some (vI v0), none]) rfl rfl ?_
        exact F
theorem w131_46 {d : Nat} {l0 : Nat} {l1 : Int32} {l4 : Int32} {s0 : Nat} {h : aH} {K : Int64 → aH → Prop} {X : Nat → aH → Prop} (F : ((l4.toInt < 0 → K 1099511627776 h) ∧ (¬ l4.toInt < 0 → (100 ≤ gK h s0 ∧ gK h s0 ≤ 106) ∧ ((l4.toInt < (nI (gL h s0)).toInt → ∃ i0 : Nat, inB h 100 s0 l4 i0 ∧ (((gI h s0 i0).toInt = (-2000000) → K 1099511627776 h) ∧ (¬ (gI h s0 i0).toInt = (-2000000) → gK h l0 = 3 ∧ ∃ i1 : Nat, inB h 100 (gR h l0 0) l1 i1 ∧ (((gI h (gR h l0 0) i1).toInt = 3 → ∃ i2 : Nat, inB h 100 s0 l4 i2 ∧ K ((-(gI h s0 i2)).toInt64) h) ∧ (¬ (gI h (gR h l0 0) i1).toInt = 3 → ∃ i3 : Nat, inB h 100 (gR h l0 0) l1 i3 ∧ (((gI h (gR h l0 0) i3).toInt = 4 → ∃ i4 : Nat, inB h 100 s0 l4 i4 ∧ K ((-(gI h s0 i4)).toInt64) h) ∧ (¬ (gI h (gR h l0 0) i3).toInt = 4 → ∃ i5 : Nat, inB h 100 s0 l4 i5 ∧ K ((gI h s0 i5).toInt64) h))))))) ∧ (¬ l4.toInt < (nI (gL h s0)).toInt → K 1099511627776 h))))) : Wp d 131 (46, [some (vR l0), some (vI l1), none, none, some (vI l4), none], [vR s0], h) (RL K X) := by
  refine wp_astore' (L' := [some (vR l0), some (vI l1), none, none, some (vI l4), none]) (L2 := [some (vR l0), some (vI l1), none, none, some (vI l4), some (vR s0)]) rfl rfl rfl rfl rfl ?_
  refine wp_iload rfl rfl rfl ?_
  refine wp_if_lt rfl rfl rfl rfl (fun c => ?_) (fun c => ?_)
  · replace F := F.1 c
    refine wp_const' (L' := [none, none, none, none, none, none]) rfl rfl rfl ?_
    exact wp_retL rfl F
  · replace F := F.2 c
    refine wp_iload rfl rfl rfl ?_
    refine wp_aload rfl rfl rfl ?_
    obtain ⟨f0, F⟩ := F
    refine wp_alen rfl f0 rfl ?_
    refine wp_icmp_ge rfl rfl rfl rfl rfl (fun c => ?_) (fun c => ?_)
    · replace F := F.1 c
      refine wp_aload rfl rfl rfl ?_
      refine wp_iload rfl rfl rfl ?_
      obtain ⟨i0, b9, F⟩ := F
      refine wp_iaload rfl b9 rfl ?_
      refine wp_const rfl rfl ?_
      refine wp_icmp_ne (Y := (-2000000)) rfl rfl rfl rfl rfl (fun c => ?_) (fun c => ?_)
      · replace F := F.1 c
        refine wp_const' (L' := [none, none, none, none, none, none]) rfl rfl rfl ?_
        exact wp_retL rfl F
      · replace F := F.2 c
        refine wp_aload' (L' := [some (vR l0), some (vI l1), none, none, some (vI l4), some (vR s0)]) rfl rfl rfl rfl ?_
        obtain ⟨f1, F⟩ := F
        refine wp_getR rfl rfl rfl f1 rfl ?_
        refine wp_iload rfl rfl rfl ?_
        obtain ⟨i1, b9, F⟩ := F
        refine wp_iaload rfl b9 rfl ?_
        refine wp_const rfl rfl ?_
        refine wp_icmp_eq (Y := 3) rfl rfl rfl rfl rfl (fun c => ?_) (fun c => ?_)
        · replace F := F.1 c
          refine wp_aload' (L' := [none, none, none, none, some (vI l4), some (vR s0)]) rfl rfl rfl rfl ?_
          refine wp_iload rfl rfl rfl ?_
          obtain ⟨i2, b9, F⟩ := F
          refine wp_iaload rfl b9 rfl ?_
          refine wp_ineg rfl rfl ?_
          refine wp_i2l rfl rfl ?_
          refine wp_goto rfl rfl ?_
          exact wp_retL rfl F
        · replace F := F.2 c
          refine wp_aload rfl rfl rfl ?_
          refine wp_getR rfl rfl rfl f1 rfl ?_
          refine wp_iload rfl rfl rfl ?_
          obtain ⟨i3, b9, F⟩ := F
          refine wp_iaload rfl b9 rfl ?_
          refine wp_const rfl rfl ?_
          refine wp_icmp_ne (Y := 4) rfl rfl rfl rfl rfl (fun c => ?_) (fun c => ?_)
          · replace F := F.1 c
            refine wp_aload' (L' := [none, none, none, none, some (vI l4), some (vR s0)]) rfl rfl rfl rfl ?_
            refine wp_iload rfl rfl rfl ?_
            obtain ⟨i4, b9, F⟩ := F
            refine wp_iaload rfl b9 rfl ?_
            refine wp_ineg rfl rfl ?_
            refine wp_i2l rfl rfl ?_
            refine wp_goto rfl rfl ?_
            exact wp_retL rfl F
          · replace F := F.2 c
            refine wp_aload' (L' := [none, none, none, none, some (vI l4), some (vR s0)]) rfl rfl rfl rfl ?_
            refine wp_iload rfl rfl rfl ?_
            obtain ⟨i5, b9, F⟩ := F
            refine wp_iaload rfl b9 rfl ?_
            refine wp_i2l rfl rfl ?_
            exact wp_retL rfl F
    · replace F := F.2 c
      refine wp_const' (L' := [none, none, none, none, none, none]) rfl rfl rfl ?_
      exact wp_retL rfl F
-- CensusOffice$Form judge (II[I[I)I
theorem m132 {d : Nat} {a0 : Nat} {a1 : Int32} {a2 : Int32} {a3 : Nat} {a4 : Nat} {h : aH} {K : Int32 → aH → Prop} {X : Nat → aH → Prop} (F : Wp (d + 1) 132 (18, [some (vR a0), none, some (vI a2), some (vR a3), some (vR a4), some (vI 0), some (vI 0), some (vI 1), some (vL 0), none, some (vL 0), none, some (vI a1), none], [], h) (RI K X)) : CI (d + 1) 132 [vR a0, vI a1, vI a2, vR a3, vR a4] h K X := by
  show Wp (d + 1) 132 (0, [some (vR a0), some (vI a1), some (vI a2), some (vR a3), some (vR a4), none, none, none, none, none, none, none, none, none], [], h) (RI K X)
  refine wp_const rfl rfl ?_
  refine wp_istore (L2 := [some (vR a0), some (vI a1), some (vI a2), some (vR a3), some (vR a4), some (vI 0), none, none, none, none, none, none, none, none]) rfl rfl rfl rfl ?_
  refine wp_const rfl rfl ?_
  refine wp_istore (L2 := [some (vR a0), some (vI a1), some (vI a2), some (vR a3), some (vR a4), some (vI 0), some (vI 0), none, none, none, none, none, none, none]) rfl rfl rfl rfl ?_
  refine wp_const rfl rfl ?_
  refine wp_istore (L2 := [some (vR a0), some (vI a1), some (vI a2), some (vR a3), some (vR a4), some (vI 0), some (vI 0), some (vI 1), none, none, none, none, none, none]) rfl rfl rfl rfl ?_
  refine wp_const rfl rfl ?_
  refine wp_lstore (L2 := [some (vR a0), some (vI a1), some (vI a2), some (vR a3), some (vR a4), some (vI 0), some (vI 0), some (vI 1), some (vL 0), none, none, none, none, none]) rfl rfl rfl rfl ?_
  refine wp_const rfl rfl ?_
  refine wp_lstore (L2 := [some (vR a0), some (vI a1), some (vI a2), some (vR a3), some (vR a4), some (vI 0), some (vI 0), some (vI 1), some (vL 0), none, some (vL 0), none, none, none]) rfl rfl rfl rfl ?_
  refine wp_iload rfl rfl rfl ?_
  refine wp_istore (L2 := [some (vR a0), some (vI a1), some (vI a2), some (vR a3), some (vR a4), some (vI 0), some (vI 0), some (vI 1), some (vL 0), none, some (vL 0), none, some (vI a1), none]) rfl rfl rfl rfl ?_
  refine wp_kill (L' := [some (vR a0), none, some (vI a2), some (vR a3), some (vR a4), some (vI 0), some (vI 0), some (vI 1), some (vL 0), none, some (vL 0), none, some (vI a1), none]) rfl rfl ?_
  exact F
theorem w132_18 {d : Nat} {l0 : Nat} {l2 : Int32} {l3 : Nat} {l4 : Nat} {l5 : Int32} {l6 : Int32} {l7 : Int32} {l8 : Int64} {l10 : Int64} {l12 : Int32} {h : aH} {K : Int32 → aH → Prop} {X : Nat → aH → Prop} (F : ((l12.toInt < l2.toInt → gK h l0 = 3 ∧ (100 ≤ gK h (gR h l0 0) ∧ gK h (gR h l0 0) ≤ 106) ∧ ((l12.toInt < (nI (gL h (gR h l0 0))).toInt → ∃ i0 : Nat, inB h 100 (gR h l0 0) l12 i0 ∧ (((gI h (gR h l0 0) i0).toInt = 5 → ∃ i1 : Nat, inB h 100 (gR h l0 1) l12 i1 ∧ ∀ v0 : Int32, v0 = gI h (gR h l0 1) i1 → ∀ v1 : Int32, v1 = l12 + 1 → Wp (d + 1) 132 (18, [some (vR l0), none, some (vI l2), some (vR l3), some (vR l4), some (vI l5), some (vI v0), some (vI l7), some (vL l10), none, some (vL 0), none, some (vI v1), none], [], h) (RI K X)) ∧ (¬ (gI h (gR h l0 0) i0).toInt = 5 → ∃ i2 : Nat, inB h 100 (gR h l0 0) l12 i2 ∧ (((gI h (gR h l0 0) i2).toInt = 6 → Wp (d + 1) 132 (88, [some (vR l0), none, some (vI l2), some (vR l3), some (vR l4), some (vI l5), some (vI l6), some (vI l7), some (vL l8), none, some (vL l10), none, some (vI l12), none], [], h) (RI K X)) ∧ (¬ (gI h (gR h l0 0) i2).toInt = 6 → ∃ i3 : Nat, inB h 100 (gR h l0 0) l12 i3 ∧ (((gI h (gR h l0 0) i3).toInt = 7 → Wp (d + 1) 132 (88, [some (vR l0), none, some (vI l2), some (vR l3), some (vR l4), some (vI l5), some (vI l6), some (vI l7), some (vL l8), none, some (vL l10), none, some (vI l12), none], [], h) (RI K X)) ∧ (¬ (gI h (gR h l0 0) i3).toInt = 7 → 8 ≤ l0 ∧ CL d 131 [vR l0, vI l12, vR l3, vR l4] h (fun y0 h0 => ∀ v2 : Int64, v2 = l10 + y0 → ∀ v3 : Int32, v3 = l12 + 1 → Wp (d + 1) 132 (18, [some (vR l0), none, some (vI l2), some (vR l3), some (vR l4), some (vI l5), some (vI l6), some (vI l7), some (vL l8), none, some (vL v2), none, some (vI v3), none], [], h0) (RI K X)) X))))))) ∧ (¬ l12.toInt < (nI (gL h (gR h l0 0))).toInt → K l5 h))) ∧ (¬ l12.toInt < l2.toInt → K l5 h))) : Wp (d + 1) 132 (18, [some (vR l0), none, some (vI l2), some (vR l3), some (vR l4), some (vI l5), some (vI l6), some (vI l7), some (vL l8), none, some (vL l10), none, some (vI l12), none], [], h) (RI K X) := by
  refine wp_iload' (L' := [some (vR l0), none, some (vI l2), some (vR l3), some (vR l4), some (vI l5), some (vI l6), some (vI l7), some (vL l8), none, some (vL l10), none, some (vI l12), none]) rfl rfl rfl rfl ?_
  refine wp_iload rfl rfl rfl ?_
  refine wp_icmp_ge rfl rfl rfl rfl rfl (fun c => ?_) (fun c => ?_)
  · replace F := F.1 c
    refine wp_iload rfl rfl rfl ?_
    refine wp_aload rfl rfl rfl ?_
    obtain ⟨f0, F⟩ := F
    refine wp_getR rfl rfl rfl f0 rfl ?_
    obtain ⟨f1, F⟩ := F
    refine wp_alen rfl f1 rfl ?_
    refine wp_icmp_ge rfl rfl rfl rfl rfl (fun c => ?_) (fun c => ?_)
    · replace F := F.1 c
      refine wp_aload rfl rfl rfl ?_
      refine wp_getR rfl rfl rfl f0 rfl ?_
      refine wp_iload rfl rfl rfl ?_
      obtain ⟨i0, b9, F⟩ := F
      refine wp_iaload rfl b9 rfl ?_
      refine wp_const rfl rfl ?_
      refine wp_icmp_ne (Y := 5) rfl rfl rfl rfl rfl (fun c => ?_) (fun c => ?_)
      · replace F := F.1 c
        refine wp_lload rfl rfl rfl ?_
        refine wp_lstore (L2 := [some (vR l0), none, some (vI l2), some (vR l3), some (vR l4), some (vI l5), some (vI l6), some (vI l7), some (vL l10), none, some (vL l10), none, some (vI l12), none]) rfl rfl rfl rfl ?_
        refine wp_const rfl rfl ?_
        refine wp_lstore (L2 := [some (vR l0), none, some (vI l2), some (vR l3), some (vR l4), some (vI l5), some (vI l6), some (vI l7), some (vL l10), none, some (vL 0), none, some (vI l12), none]) rfl rfl rfl rfl ?_
        refine wp_aload rfl rfl rfl ?_
        refine wp_getR rfl rfl rfl f0 rfl ?_
        refine wp_iload rfl rfl rfl ?_
        obtain ⟨i1, b9, F⟩ := F
        refine wp_iaload rfl b9 rfl ?_
        replace F := F _ rfl
        generalize (gI h (gR h l0 1) i1 : Int32) = v0 at F ⊢
        refine wp_istore (L2 := [some (vR l0), none, some (vI l2), some (vR l3), some (vR l4), some (vI l5), some (vI v0), some (vI l7), some (vL l10), none, some (vL 0), none, some (vI l12), none]) rfl rfl rfl rfl ?_
        refine wp_goto rfl rfl ?_
        refine wp_iinc' (L' := [some (vR l0), none, some (vI l2), some (vR l3), some (vR l4), some (vI l5), some (vI v0), some (vI l7), some (vL l10), none, some (vL 0), none, some (vI l12), none]) (y := 1) (L2 := [some (vR l0), none, some (vI l2), some (vR l3), some (vR l4), some (vI l5), some (vI v0), some (vI l7), some (vL l10), none, some (vL 0), none, some (vI (l12 + 1)), none]) rfl rfl rfl rfl rfl rfl ?_
        replace F := F _ rfl
        generalize (l12 + 1 : Int32) = v1 at F ⊢
        refine wp_goto rfl rfl ?_
        exact F
      · replace F := F.2 c
        refine wp_aload' (L' := [some (vR l0), none, some (vI l2), some (vR l3), some (vR l4), some (vI l5), some (vI l6), some (vI l7), some (vL l8), none, some (vL l10), none, some (vI l12), none]) rfl rfl rfl rfl ?_
        refine wp_getR rfl rfl rfl f0 rfl ?_
        refine wp_iload rfl rfl rfl ?_
        obtain ⟨i2, b9, F⟩ := F
        refine wp_iaload rfl b9 rfl ?_
        refine wp_const rfl rfl ?_
        refine wp_icmp_eq (Y := 6) rfl rfl rfl rfl rfl (fun c => ?_) (fun c => ?_)
        · replace F := F.1 c
          exact F
        · replace F := F.2 c
          refine wp_aload rfl rfl rfl ?_
          refine wp_getR rfl rfl rfl f0 rfl ?_
          refine wp_iload rfl rfl rfl ?_
          obtain ⟨i3, b9, F⟩ := F
          refine wp_iaload rfl b9 rfl ?_
          refine wp_const rfl rfl ?_
          refine wp_icmp_ne (Y := 7) rfl rfl rfl rfl rfl (fun c => ?_) (fun c => ?_)
          · replace F := F.1 c
            exact F
          · replace F := F.2 c
            refine wp_lload' (L' := [some (vR l0), none, some (vI l2), some (vR l3), some (vR l4), some (vI l5), some (vI l6), some (vI l7), some (vL l8), none, some (vL l10), none, some (vI l12), none]) rfl rfl rfl rfl ?_
            refine wp_aload rfl rfl rfl ?_
            refine wp_iload rfl rfl rfl ?_
            refine wp_aload rfl rfl rfl ?_
            refine wp_aload rfl rfl rfl ?_
            obtain ⟨f2, F⟩ := F
            refine wp_callL rfl rfl rfl (rcv_v f2 f0 (by decide) (by decide)) rfl rfl rfl rfl ?_
            refine CL.mono F (fun y0 h0 F => ?_) (fun _ _ w => rx_I w)
            refine wp_ladd rfl rfl ?_
            replace F := F _ rfl
            generalize (l10 + y0 : Int64) = v2 at F ⊢
            refine wp_lstore (L2 := [some (vR l0), none, some (vI l2), some (vR l3), some (vR l4), some (vI l5), some (vI l6), some (vI l7), some (vL l8), none, some (vL v2), none, some (vI l12), none]) rfl rfl rfl rfl ?_
            refine wp_iinc' (L' := [some (vR l0), none, some (vI l2), some (vR l3), some (vR l4), some (vI l5), some (vI l6), some (vI l7), some (vL l8), none, some (vL v2), none, some (vI l12), none]) (y := 1) (L2 := [some (vR l0), none, some (vI l2), some (vR l3), some (vR l4), some (vI l5), some (vI l6), some (vI l7), some (vL l8), none, some (vL v2), none, some (vI (l12 + 1)), none]) rfl rfl rfl rfl rfl rfl ?_
            replace F := F _ rfl
            generalize (l12 + 1 : Int32) = v3 at F ⊢
            refine wp_goto rfl rfl ?_
            exact F
    · replace F := F.2 c
      refine wp_iload' (L' := [none, none, none, none, none, some (vI l5), none, none, none, none, none, none, none, none]) rfl rfl rfl rfl ?_
      exact wp_retI rfl (Or.inl rfl) F
  · replace F := F.2 c
    refine wp_iload' (L' := [none, none, none, none, none, some (vI l5), none, none, none, none, none, none, none, none]) rfl rfl rfl rfl ?_
    exact wp_retI rfl (Or.inl rfl) F
theorem w132_88 {d : Nat} {l0 : Nat} {l2 : Int32} {l3 : Nat} {l4 : Nat} {l5 : Int32} {l6 : Int32} {l7 : Int32} {l8 : Int64} {l10 : Int64} {l12 : Int32} {h : aH} {K : Int32 → aH → Prop} {X : Nat → aH → Prop} (F : 8 ≤ l0 ∧ gK h l0 = 3 ∧ CI d 129 [vR l0, vL l8] h (fun y0 h0 => gK h0 l0 = 3 ∧ CI d 129 [vR l0, vL l10] h0 (fun y1 h1 => gK h1 l0 = 3 ∧ CI d 130 [vR l0, vI y0, vI y1] h1 (fun y2 h2 => ((y2.toInt = 0 → Wp (d + 1) 132 (121, [some (vR l0), none, some (vI l2), some (vR l3), some (vR l4), none, some (vI l6), some (vI l7), some (vL l8), none, some (vL 0), none, some (vI l12), some (vI y2)], [vI 2, vI l5], h2) (RI K X)) ∧ (¬ y2.toInt = 0 → Wp (d + 1) 132 (121, [some (vR l0), none, some (vI l2), some (vR l3), some (vR l4), none, some (vI l6), some (vI l7), some (vL l8), none, some (vL 0), none, some (vI l12), some (vI y2)], [vI 0, vI l5], h2) (RI K X)))) X) X) X) : Wp (d + 1) 132 (88, [some (vR l0), none, some (vI l2), some (vR l3), some (vR l4), some (vI l5), some (vI l6), some (vI l7), some (vL l8), none, some (vL l10), none, some (vI l12), none], [], h) (RI K X) := by
  refine wp_aload' (L' := [some (vR l0), none, some (vI l2), some (vR l3), some (vR l4), some (vI l5), some (vI l6), some (vI l7), some (vL l8), none, some (vL l10), none, some (vI l12), none]) rfl rfl rfl rfl ?_
  refine wp_aload rfl rfl rfl ?_
  refine wp_lload rfl rfl rfl ?_
  obtain ⟨f0, F⟩ := F
  obtain ⟨f1, F⟩ := F
  refine wp_callI rfl rfl rfl (rcv_v f0 f1 (by decide) (by decide)) rfl rfl rfl rfl ?_
  refine CI.mono F (fun y0 h0 F => ?_) (fun _ _ w => rx_I w)
  refine wp_aload rfl rfl rfl ?_
  refine wp_lload rfl rfl rfl ?_
  obtain ⟨f2, F⟩ := F
  refine wp_callI rfl rfl rfl (rcv_v f0 f2 (by decide) (by decide)) rfl rfl rfl rfl ?_
  refine CI.mono F (fun y1 h1 F => ?_) (fun _ _ w => rx_I w)
  obtain ⟨f3, F⟩ := F
  refine wp_callI rfl rfl rfl (rcv_v f0 f3 (by decide) (by decide)) rfl rfl rfl rfl ?_
  refine CI.mono F (fun y2 h2 F => ?_) (fun _ _ w => rx_I w)
  refine wp_istore (L2 := [some (vR l0), none, some (vI l2), some (vR l3), some (vR l4), some (vI l5), some (vI l6), some (vI l7), some (vL l8), none, some (vL l10), none, some (vI l12), some (vI y2)]) rfl rfl rfl rfl ?_
  refine wp_const rfl rfl ?_
  refine wp_lstore (L2 := [some (vR l0), none, some (vI l2), some (vR l3), some (vR l4), some (vI l5), some (vI l6), some (vI l7), some (vL l8), none, some (vL 0), none, some (vI l12), some (vI y2)]) rfl rfl rfl rfl ?_
  refine wp_iload rfl rfl rfl ?_
  refine wp_iload rfl rfl rfl ?_
  refine wp_if_ne rfl rfl rfl rfl (fun c => ?_) (fun c => ?_)
  · replace F := F.1 c
    refine wp_const rfl rfl ?_
    refine wp_goto rfl rfl ?_
    refine wp_kill (L' := [some (vR l0), none, some (vI l2), some (vR l3), some (vR l4), none, some (vI l6), some (vI l7), some (vL l8), none, some (vL 0), none, some (vI l12), some (vI y2)]) rfl rfl ?_
    exact F
  · replace F := F.2 c
    refine wp_const' (L' := [some (vR l0), none, some (vI l2), some (vR l3), some (vR l4), none, some (vI l6), some (vI l7), some (vL l8), none, some (vL 0), none, some (vI l12), some (vI y2)]) rfl rfl rfl ?_
    exact F
theorem w132_121 {d : Nat} {l0 : Nat} {l2 : Int32} {l3 : Nat} {l4 : Nat} {l6 : Int32} {l7 : Int32} {l8 : Int64} {l10 : Int64} {l12 : Int32} {l13 : Int32} {s0 : Int32} {s1 : Int32} {h : aH} {K : Int32 → aH → Prop} {X : Nat → aH → Prop} (F : ∀ v0 : Int32, v0 = s1 ||| s0 → ((l7.toInt = 0 → gK h l0 = 3 ∧ ∃ i0 : Nat, inB h 100 (gR h l0 0) l12 i0 ∧ (((gI h (gR h l0 0) i0).toInt = 7 → ∀ v1 : Int32, v1 = v0 ||| 0 → ∀ v2 : Int32, v2 = l12 + 1 → Wp (d + 1) 132 (18, [some (vR l0), none, some (vI l2), some (vR l3), some (vR l4), some (vI v1), some (vI l6), some (vI 1), some (vL l8), none, some (vL l10), none, some (vI v2), none], [], h) (RI K X)) ∧ (¬ (gI h (gR h l0 0) i0).toInt = 7 → ∀ v3 : Int32, v3 = l12 + 1 → Wp (d + 1) 132 (18, [some (vR l0), none, some (vI l2), some (vR l3), some (vR l4), some (vI v0), some (vI l6), some (vI 0), some (vL l8), none, some (vL l10), none, some (vI v3), none], [], h) (RI K X)))) ∧ (¬ l7.toInt = 0 → (((l6 &&& l13).toInt = 0 → gK h l0 = 3 ∧ ∃ i1 : Nat, inB h 100 (gR h l0 0) l12 i1 ∧ (((gI h (gR h l0 0) i1).toInt = 7 → ∀ v4 : Int32, v4 = v0 ||| 0 → ∀ v5 : Int32, v5 = l12 + 1 → Wp (d + 1) 132 (18, [some (vR l0), none, some (vI l2), some (vR l3), some (vR l4), some (vI v4), some (vI l6), some (vI 1), some (vL l8), none, some (vL l10), none, some (vI v5), none], [], h) (RI K X)) ∧ (¬ (gI h (gR h l0 0) i1).toInt = 7 → ∀ v6 : Int32, v6 = l12 + 1 → Wp (d + 1) 132 (18, [some (vR l0), none, some (vI l2), some (vR l3), some (vR l4), some (vI v0), some (vI l6), some (vI 0), some (vL l8), none, some (vL l10), none, some (vI v6), none], [], h) (RI K X)))) ∧ (¬ (l6 &&& l13).toInt = 0 → gK h l0 = 3 ∧ ∃ i2 : Nat, inB h 100 (gR h l0 0) l12 i2 ∧ (((gI h (gR h l0 0) i2).toInt = 7 → ∀ v7 : Int32, v7 = v0 ||| 1 → ∀ v8 : Int32, v8 = l12 + 1 → Wp (d + 1) 132 (18, [some (vR l0), none, some (vI l2), some (vR l3), some (vR l4), some (vI v7), some (vI l6), some (vI 1), some (vL l8), none, some (vL l10), none, some (vI v8), none], [], h) (RI K X)) ∧ (¬ (gI h (gR h l0 0) i2).toInt = 7 → ∀ v9 : Int32, v9 = l12 + 1 → Wp (d + 1) 132 (18, [some (vR l0), none, some (vI l2), some (vR l3), some (vR l4), some (vI v0), some (vI l6), some (vI 1), some (vL l8), none, some (vL l10), none, some (vI v9), none], [], h) (RI K X)))))))) : Wp (d + 1) 132 (121, [some (vR l0), none, some (vI l2), some (vR l3), some (vR l4), none, some (vI l6), some (vI l7), some (vL l8), none, some (vL l10), none, some (vI l12), some (vI l13)], [vI s0, vI s1], h) (RI K X) := by
  refine wp_ior' (L' := [some (vR l0), none, some (vI l2), some (vR l3), some (vR l4), none, some (vI l6), some (vI l7), some (vL l8), none, some (vL l10), none, some (vI l12), some (vI l13)]) rfl rfl rfl ?_
  replace F := F _ rfl
  generalize (s1 ||| s0 : Int32) = v0 at F ⊢
  refine wp_istore (L2 := [some (vR l0), none, some (vI l2), some (vR l3), some (vR l4), some (vI v0), some (vI l6), some (vI l7), some (vL l8), none, some (vL l10), none, some (vI l12), some (vI l13)]) rfl rfl rfl rfl ?_
  refine wp_iload rfl rfl rfl ?_
  refine wp_if_eq rfl rfl rfl rfl (fun c => ?_) (fun c => ?_)
  · replace F := F.1 c
    refine wp_const' (L' := [some (vR l0), none, some (vI l2), some (vR l3), some (vR l4), some (vI v0), some (vI l6), none, some (vL l8), none, some (vL l10), none, some (vI l12), none]) rfl rfl rfl ?_
    refine wp_istore' (L' := [some (vR l0), none, some (vI l2), some (vR l3), some (vR l4), some (vI v0), some (vI l6), none, some (vL l8), none, some (vL l10), none, some (vI l12), none]) (L2 := [some (vR l0), none, some (vI l2), some (vR l3), some (vR l4), some (vI v0), some (vI l6), some (vI 0), some (vL l8), none, some (vL l10), none, some (vI l12), none]) rfl rfl rfl rfl rfl ?_
    refine wp_aload rfl rfl rfl ?_
    obtain ⟨f0, F⟩ := F
    refine wp_getR rfl rfl rfl f0 rfl ?_
    refine wp_iload rfl rfl rfl ?_
    obtain ⟨i0, b9, F⟩ := F
    refine wp_iaload rfl b9 rfl ?_
    refine wp_const rfl rfl ?_
    refine wp_icmp_ne (Y := 7) rfl rfl rfl rfl rfl (fun c => ?_) (fun c => ?_)
    · replace F := F.1 c
      refine wp_iload rfl rfl rfl ?_
      refine wp_iload rfl rfl rfl ?_
      refine wp_if_eq (X := 0) rfl rfl rfl rfl (fun _ => ?_) (fun c => absurd (by decide) c)
      refine wp_const' (L' := [some (vR l0), none, some (vI l2), some (vR l3), some (vR l4), none, some (vI l6), none, some (vL l8), none, some (vL l10), none, some (vI l12), none]) rfl rfl rfl ?_
      refine wp_ior' (L' := [some (vR l0), none, some (vI l2), some (vR l3), some (vR l4), none, some (vI l6), none, some (vL l8), none, some (vL l10), none, some (vI l12), none]) rfl rfl rfl ?_
      replace F := F _ rfl
      generalize (v0 ||| 0 : Int32) = v1 at F ⊢
      refine wp_istore (L2 := [some (vR l0), none, some (vI l2), some (vR l3), some (vR l4), some (vI v1), some (vI l6), none, some (vL l8), none, some (vL l10), none, some (vI l12), none]) rfl rfl rfl rfl ?_
      refine wp_const rfl rfl ?_
      refine wp_istore (L2 := [some (vR l0), none, some (vI l2), some (vR l3), some (vR l4), some (vI v1), some (vI l6), some (vI 1), some (vL l8), none, some (vL l10), none, some (vI l12), none]) rfl rfl rfl rfl ?_
      refine wp_goto' (L' := [some (vR l0), none, some (vI l2), some (vR l3), some (vR l4), some (vI v1), some (vI l6), some (vI 1), some (vL l8), none, some (vL l10), none, some (vI l12), none]) rfl rfl rfl ?_
      refine wp_iinc' (L' := [some (vR l0), none, some (vI l2), some (vR l3), some (vR l4), some (vI v1), some (vI l6), some (vI 1), some (vL l8), none, some (vL l10), none, some (vI l12), none]) (y := 1) (L2 := [some (vR l0), none, some (vI l2), some (vR l3), some (vR l4), some (vI v1), some (vI l6), some (vI 1), some (vL l8), none, some (vL l10), none, some (vI (l12 + 1)), none]) rfl rfl rfl rfl rfl rfl ?_
      replace F := F _ rfl
      generalize (l12 + 1 : Int32) = v2 at F ⊢
      refine wp_goto rfl rfl ?_
      exact F
    · replace F := F.2 c
      refine wp_goto' (L' := [some (vR l0), none, some (vI l2), some (vR l3), some (vR l4), some (vI v0), some (vI l6), some (vI 0), some (vL l8), none, some (vL l10), none, some (vI l12), none]) rfl rfl rfl ?_
      refine wp_iinc' (L' := [some (vR l0), none, some (vI l2), some (vR l3), some (vR l4), some (vI v0), some (vI l6), some (vI 0), some (vL l8), none, some (vL l10), none, some (vI l12), none]) (y := 1) (L2 := [some (vR l0), none, some (vI l2), some (vR l3), some (vR l4), some (vI v0), some (vI l6), some (vI 0), some (vL l8), none, some (vL l10), none, some (vI (l12 + 1)), none]) rfl rfl rfl rfl rfl rfl ?_
      replace F := F _ rfl
      generalize (l12 + 1 : Int32) = v3 at F ⊢
      refine wp_goto rfl rfl ?_
      exact F
  · replace F := F.2 c
    refine wp_iload rfl rfl rfl ?_
    refine wp_iload rfl rfl rfl ?_
    refine wp_iand rfl rfl ?_
    refine wp_if_eq rfl rfl rfl rfl (fun c => ?_) (fun c => ?_)
    · replace F := F.1 c
      refine wp_const' (L' := [some (vR l0), none, some (vI l2), some (vR l3), some (vR l4), some (vI v0), some (vI l6), none, some (vL l8), none, some (vL l10), none, some (vI l12), none]) rfl rfl rfl ?_
      refine wp_istore' (L' := [some (vR l0), none, some (vI l2), some (vR l3), some (vR l4), some (vI v0), some (vI l6), none, some (vL l8), none, some (vL l10), none, some (vI l12), none]) (L2 := [some (vR l0), none, some (vI l2), some (vR l3), some (vR l4), some (vI v0), some (vI l6), some (vI 0), some (vL l8), none, some (vL l10), none, some (vI l12), none]) rfl rfl rfl rfl rfl ?_
      refine wp_aload rfl rfl rfl ?_
      obtain ⟨f1, F⟩ := F
      refine wp_getR rfl rfl rfl f1 rfl ?_
      refine wp_iload rfl rfl rfl ?_
      obtain ⟨i1, b9, F⟩ := F
      refine wp_iaload rfl b9 rfl ?_
      refine wp_const rfl rfl ?_
      refine wp_icmp_ne (Y := 7) rfl rfl rfl rfl rfl (fun c => ?_) (fun c => ?_)
      · replace F := F.1 c
        refine wp_iload rfl rfl rfl ?_
        refine wp_iload rfl rfl rfl ?_
        refine wp_if_eq (X := 0) rfl rfl rfl rfl (fun _ => ?_) (fun c => absurd (by decide) c)
        refine wp_const' (L' := [some (vR l0), none, some (vI l2), some (vR l3), some (vR l4), none, some (vI l6), none, some (vL l8), none, some (vL l10), none, some (vI l12), none]) rfl rfl rfl ?_
        refine wp_ior' (L' := [some (vR l0), none, some (vI l2), some (vR l3), some (vR l4), none, some (vI l6), none, some (vL l8), none, some (vL l10), none, some (vI l12), none]) rfl rfl rfl ?_
        replace F := F _ rfl
        generalize (v0 ||| 0 : Int32) = v4 at F ⊢
        refine wp_istore (L2 := [some (vR l0), none, some (vI l2), some (vR l3), some (vR l4), some (vI v4), some (vI l6), none, some (vL l8), none, some (vL l10), none, some (vI l12), none]) rfl rfl rfl rfl ?_
        refine wp_const rfl rfl ?_
        refine wp_istore (L2 := [some (vR l0), none, some (vI l2), some (vR l3), some (vR l4), some (vI v4), some (vI l6), some (vI 1), some (vL l8), none, some (vL l10), none, some (vI l12), none]) rfl rfl rfl rfl ?_
        refine wp_goto' (L' := [some (vR l0), none, some (vI l2), some (vR l3), some (vR l4), some (vI v4), some (vI l6), some (vI 1), some (vL l8), none, some (vL l10), none, some (vI l12), none]) rfl rfl rfl ?_
        refine wp_iinc' (L' := [some (vR l0), none, some (vI l2), some (vR l3), some (vR l4), some (vI v4), some (vI l6), some (vI 1), some (vL l8), none, some (vL l10), none, some (vI l12), none]) (y := 1) (L2 := [some (vR l0), none, some (vI l2), some (vR l3), some (vR l4), some (vI v4), some (vI l6), some (vI 1), some (vL l8), none, some (vL l10), none, some (vI (l12 + 1)), none]) rfl rfl rfl rfl rfl rfl ?_
        replace F := F _ rfl
        generalize (l12 + 1 : Int32) = v5 at F ⊢
        refine wp_goto rfl rfl ?_
        exact F
      · replace F := F.2 c
        refine wp_goto' (L' := [some (vR l0), none, some (vI l2), some (vR l3), some (vR l4), some (vI v0), some (vI l6), some (vI 0), some (vL l8), none, some (vL l10), none, some (vI l12), none]) rfl rfl rfl ?_
        refine wp_iinc' (L' := [some (vR l0), none, some (vI l2), some (vR l3), some (vR l4), some (vI v0), some (vI l6), some (vI 0), some (vL l8), none, some (vL l10), none, some (vI l12), none]) (y := 1) (L2 := [some (vR l0), none, some (vI l2), some (vR l3), some (vR l4), some (vI v0), some (vI l6), some (vI 0), some (vL l8), none, some (vL l10), none, some (vI (l12 + 1)), none]) rfl rfl rfl rfl rfl rfl ?_
        replace F := F _ rfl
        generalize (l12 + 1 : Int32) = v6 at F ⊢
        refine wp_goto rfl rfl ?_
        exact F
    · replace F := F.2 c
      refine wp_const rfl rfl ?_
      refine wp_goto rfl rfl ?_
      refine wp_istore' (L' := [some (vR l0), none, some (vI l2), some (vR l3), some (vR l4), some (vI v0), some (vI l6), none, some (vL l8), none, some (vL l10), none, some (vI l12), none]) (L2 := [some (vR l0), none, some (vI l2), some (vR l3), some (vR l4), some (vI v0), some (vI l6), some (vI 1), some (vL l8), none, some (vL l10), none, some (vI l12), none]) rfl rfl rfl rfl rfl ?_
      refine wp_aload rfl rfl rfl ?_
      obtain ⟨f2, F⟩ := F
      refine wp_getR rfl rfl rfl f2 rfl ?_
      refine wp_iload rfl rfl rfl ?_
      obtain ⟨i2, b9, F⟩ := F
      refine wp_iaload rfl b9 rfl ?_
      refine wp_const rfl rfl ?_
      refine wp_icmp_ne (Y := 7) rfl rfl rfl rfl rfl (fun c => ?_) (fun c => ?_)
      · replace F := F.1 c
        refine wp_iload rfl rfl rfl ?_
        refine wp_iload rfl rfl rfl ?_
        refine wp_if_eq (X := 1) rfl rfl rfl rfl (fun c => absurd c (by decide)) (fun _ => ?_)
        refine wp_const rfl rfl ?_
        refine wp_goto rfl rfl ?_
        refine wp_ior' (L' := [some (vR l0), none, some (vI l2), some (vR l3), some (vR l4), none, some (vI l6), none, some (vL l8), none, some (vL l10), none, some (vI l12), none]) rfl rfl rfl ?_
        replace F := F _ rfl
        generalize (v0 ||| 1 : Int32) = v7 at F ⊢
        refine wp_istore (L2 := [some (vR l0), none, some (vI l2), some (vR l3), some (vR l4), some (vI v7), some (vI l6), none, some (vL l8), none, some (vL l10), none, some (vI l12), none]) rfl rfl rfl rfl ?_
        refine wp_const rfl rfl ?_
        refine wp_istore (L2 := [some (vR l0), none, some (vI l2), some (vR l3), some (vR l4), some (vI v7), some (vI l6), some (vI 1), some (vL l8), none, some (vL l10), none, some (vI l12), none]) rfl rfl rfl rfl ?_
        refine wp_goto' (L' := [some (vR l0), none, some (vI l2), some (vR l3), some (vR l4), some (vI v7), some (vI l6), some (vI 1), some (vL l8), none, some (vL l10), none, some (vI l12), none]) rfl rfl rfl ?_
        refine wp_iinc' (L' := [some (vR l0), none, some (vI l2), some (vR l3), some (vR l4), some (vI v7), some (vI l6), some (vI 1), some (vL l8), none, some (vL l10), none, some (vI l12), none]) (y := 1) (L2 := [some (vR l0), none, some (vI l2), some (vR l3), some (vR l4), some (vI v7), some (vI l6), some (vI 1), some (vL l8), none, some (vL l10), none, some (vI (l12 + 1)), none]) rfl rfl rfl rfl rfl rfl ?_
        replace F := F _ rfl
        generalize (l12 + 1 : Int32) = v8 at F ⊢
        refine wp_goto rfl rfl ?_
        exact F
      · replace F := F.2 c
        refine wp_goto' (L' := [some (vR l0), none, some (vI l2), some (vR l3), some (vR l4), some (vI v0), some (vI l6), some (vI 1), some (vL l8), none, some (vL l10), none, some (vI l12), none]) rfl rfl rfl ?_
        refine wp_iinc' (L' := [some (vR l0), none, some (vI l2), some (vR l3), some (vR l4), some (vI v0), some (vI l6), some (vI 1), some (vL l8), none, some (vL l10), none, some (vI l12), none]) (y := 1) (L2 := [some (vR l0), none, some (vI l2), some (vR l3), some (vR l4), some (vI v0), some (vI l6), some (vI 1), some (vL l8), none, some (vL l10), none, some (vI (l12 + 1)), none]) rfl rfl rfl rfl rfl rfl ?_
        replace F := F _ rfl
        generalize (l12 + 1 : Int32) = v9 at F ⊢
        refine wp_goto rfl rfl ?_
        exact F
-- CensusOffice$Form applies (I[I[I)Z
theorem m133 {d : Nat} {a0 : Nat} {a1 : Int32} {a2 : Nat} {a3 : Nat} {h : aH} {K : Int32 → aH → Prop} {X : Nat → aH → Prop} (F : gK h a0 = 3 ∧ ∃ i0 : Nat, inB h 100 (gR h a0 8) a1 i0 ∧ ∃ i1 : Nat, inB h 100 (gR h a0 7) (a1 + 1) i1 ∧ (((gI h (gR h a0 8) i0).toInt = (gI h (gR h a0 7) i1).toInt → K 1 h) ∧ (¬ (gI h (gR h a0 8) i0).toInt = (gI h (gR h a0 7) i1).toInt → ∃ i2 : Nat, inB h 100 (gR h a0 8) a1 i2 ∧ ∃ i3 : Nat, inB h 100 (gR h a0 7) (a1 + 1) i3 ∧ 8 ≤ a0 ∧ CI d 132 [vR a0, vI (gI h (gR h a0 8) i2), vI (gI h (gR h a0 7) i3), vR a2, vR a3] h (fun y0 h0 => (((y0 &&& 1).toInt = 0 → K 0 h0) ∧ (¬ (y0 &&& 1).toInt = 0 → K 1 h0))) X))) : CI (d + 1) 133 [vR a0, vI a1, vR a2, vR a3] h K X := by
  show Wp (d + 1) 133 (0, [some (vR a0), some (vI a1), some (vR a2), some (vR a3)], [], h) (RI K X)
  refine wp_aload rfl rfl rfl ?_
  obtain ⟨f0, F⟩ := F
  refine wp_getR rfl rfl rfl f0 rfl ?_
  refine wp_iload rfl rfl rfl ?_
  obtain ⟨i0, b9, F⟩ := F
  refine wp_iaload rfl b9 rfl ?_
  refine wp_aload rfl rfl rfl ?_
  refine wp_getR rfl rfl rfl f0 rfl ?_
  refine wp_iload rfl rfl rfl ?_
  refine wp_const rfl rfl ?_
  refine wp_iadd rfl rfl ?_
  obtain ⟨i1, b9, F⟩ := F
  refine wp_iaload rfl b9 rfl ?_
  refine wp_icmp_eq rfl rfl rfl rfl rfl (fun c => ?_) (fun c => ?_)
  · replace F := F.1 c
    refine wp_const' (L' := [none, none, none, none]) rfl rfl rfl ?_
    refine wp_goto rfl rfl ?_
    exact wp_retI rfl (Or.inr rfl) F
  · replace F := F.2 c
    refine wp_aload rfl rfl rfl ?_
    refine wp_aload rfl rfl rfl ?_
    refine wp_getR rfl rfl rfl f0 rfl ?_
    refine wp_iload rfl rfl rfl ?_
    obtain ⟨i2, b9, F⟩ := F
    refine wp_iaload rfl b9 rfl ?_
    refine wp_aload rfl rfl rfl ?_
    refine wp_getR rfl rfl rfl f0 rfl ?_
    refine wp_iload rfl rfl rfl ?_
    refine wp_const rfl rfl ?_
    refine wp_iadd rfl rfl ?_
    obtain ⟨i3, b9, F⟩ := F
    refine wp_iaload rfl b9 rfl ?_
    refine wp_aload rfl rfl rfl ?_
    refine wp_aload rfl rfl rfl ?_
    obtain ⟨f1, F⟩ := F
    refine wp_callI rfl rfl rfl (rcv_v f1 f0 (by decide) (by decide)) rfl rfl rfl rfl ?_
    refine CI.mono F (fun y0 h0 F => ?_) (fun _ _ w => rx_I w)
    refine wp_const rfl rfl ?_
    refine wp_iand rfl rfl ?_
    refine wp_if_eq rfl rfl rfl rfl (fun c => ?_) (fun c => ?_)
    · replace F := F.1 c
      refine wp_const' (L' := [none, none, none, none]) rfl rfl rfl ?_
      exact wp_retI rfl (Or.inr rfl) F
    · replace F := F.2 c
      refine wp_const' (L' := [none, none, none, none]) rfl rfl rfl ?_
      refine wp_goto rfl rfl ?_
      exact wp_retI rfl (Or.inr rfl) F
-- CensusOffice$Form worth (I[I[I)I
theorem m134 {d : Nat} {a0 : Nat} {a1 : Int32} {a2 : Nat} {a3 : Nat} {h : aH} {K : Int32 → aH → Prop} {X : Nat → aH → Prop} (F : 8 ≤ a0 ∧ gK h a0 = 3 ∧ CI d 133 [vR a0, vI a1, vR a2, vR a3] h (fun y0 h0 => ((y0.toInt = 0 → K (-2000000) h0) ∧ (¬ y0.toInt = 0 → gK h0 a0 = 3 ∧ ∃ i0 : Nat, inB h0 100 (gR h0 a0 7) a1 i0 ∧ ∀ v0 : Int32, v0 = gI h0 (gR h0 a0 7) i0 → Wp (d + 1) 134 (24, [some (vR a0), some (vI a1), some (vR a2), some (vR a3), some (vL 0), none, some (vI v0)], [], h0) (RI K X)))) X) : CI (d + 1) 134 [vR a0, vI a1, vR a2, vR a3] h K X := by
  show Wp (d + 1) 134 (0, [some (vR a0), some (vI a1), some (vR a2), some (vR a3), none, none, none], [], h) (RI K X)
  refine wp_aload rfl rfl rfl ?_
  refine wp_iload rfl rfl rfl ?_
  refine wp_aload rfl rfl rfl ?_
  refine wp_aload rfl rfl rfl ?_
  obtain ⟨f0, F⟩ := F
  obtain ⟨f1, F⟩ := F
  refine wp_callI rfl rfl rfl (rcv_v f0 f1 (by decide) (by decide)) rfl rfl rfl rfl ?_
  refine CI.mono F (fun y0 h0 F => ?_) (fun _ _ w => rx_I w)
  refine wp_if_ne rfl rfl rfl rfl (fun c => ?_) (fun c => ?_)
  · replace F := F.1 c
    refine wp_const rfl rfl ?_
    exact wp_retI rfl (Or.inl rfl) F
  · replace F := F.2 c
    refine wp_const' (L' := [some (vR a0), some (vI a1), some (vR a2), some (vR a3), none, none, none]) rfl rfl rfl ?_
    refine wp_lstore (L2 := [some (vR a0), some (vI a1), some (vR a2), some (vR a3), some (vL 0), none, none]) rfl rfl rfl rfl ?_
    refine wp_aload rfl rfl rfl ?_
    obtain ⟨f2, F⟩ := F
    refine wp_getR rfl rfl rfl f2 rfl ?_
    refine wp_iload rfl rfl rfl ?_
    obtain ⟨i0, b9, F⟩ := F
    refine wp_iaload rfl b9 rfl ?_
    replace F := F _ rfl
    generalize (gI h0 (gR h0 a0 7) i0 : Int32) = v0 at F ⊢
    refine wp_istore (L2 := [some (vR a0), some (vI a1), some (vR a2), some (vR a3), some (vL 0), none, some (vI v0)]) rfl rfl rfl rfl ?_
    exact F
theorem w134_24 {d : Nat} {l0 : Nat} {l1 : Int32} {l2 : Nat} {l3 : Nat} {l4 : Int64} {l6 : Int32} {h : aH} {K : Int32 → aH → Prop} {X : Nat → aH → Prop} (F : gK h l0 = 3 ∧ ∃ i0 : Nat, inB h 100 (gR h l0 8) l1 i0 ∧ ((l6.toInt < (gI h (gR h l0 8) i0).toInt → 8 ≤ l0 ∧ CL d 131 [vR l0, vI l6, vR l2, vR l3] h (fun y0 h0 => ∀ v0 : Int64, v0 = l4 + y0 → ∀ v1 : Int32, v1 = l6 + 1 → Wp (d + 1) 134 (24, [some (vR l0), some (vI l1), some (vR l2), some (vR l3), some (vL v0), none, some (vI v1)], [], h0) (RI K X)) X) ∧ (¬ l6.toInt < (gI h (gR h l0 8) i0).toInt → 8 ≤ l0 ∧ CI d 129 [vR l0, vL l4] h (fun y1 h1 => K y1 h1) X))) : Wp (d + 1) 134 (24, [some (vR l0), some (vI l1), some (vR l2), some (vR l3), some (vL l4), none, some (vI l6)], [], h) (RI K X) := by
  refine wp_iload rfl rfl rfl ?_
  refine wp_aload rfl rfl rfl ?_
  obtain ⟨f0, F⟩ := F
  refine wp_getR rfl rfl rfl f0 rfl ?_
  refine wp_iload rfl rfl rfl ?_
  obtain ⟨i0, b9, F⟩ := F
  refine wp_iaload rfl b9 rfl ?_
  refine wp_icmp_ge rfl rfl rfl rfl rfl (fun c => ?_) (fun c => ?_)
  · replace F := F.1 c
    refine wp_lload rfl rfl rfl ?_
    refine wp_aload rfl rfl rfl ?_
    refine wp_iload rfl rfl rfl ?_
    refine wp_aload rfl rfl rfl ?_
    refine wp_aload rfl rfl rfl ?_
    obtain ⟨f1, F⟩ := F
    refine wp_callL rfl rfl rfl (rcv_v f1 f0 (by decide) (by decide)) rfl rfl rfl rfl ?_
    refine CL.mono F (fun y0 h0 F => ?_) (fun _ _ w => rx_I w)
    refine wp_ladd rfl rfl ?_
    replace F := F _ rfl
    generalize (l4 + y0 : Int64) = v0 at F ⊢
    refine wp_lstore (L2 := [some (vR l0), some (vI l1), some (vR l2), some (vR l3), some (vL v0), none, some (vI l6)]) rfl rfl rfl rfl ?_
    refine wp_iinc (y := 1) (L2 := [some (vR l0), some (vI l1), some (vR l2), some (vR l3), some (vL v0), none, some (vI (l6 + 1))]) rfl rfl rfl rfl rfl ?_
    replace F := F _ rfl
    generalize (l6 + 1 : Int32) = v1 at F ⊢
    refine wp_goto rfl rfl ?_
    exact F
  · replace F := F.2 c
    refine wp_aload' (L' := [some (vR l0), none, none, none, some (vL l4), none, none]) rfl rfl rfl rfl ?_
    refine wp_lload rfl rfl rfl ?_
    obtain ⟨f2, F⟩ := F
    refine wp_callI rfl rfl rfl (rcv_v f2 f0 (by decide) (by decide)) rfl rfl rfl rfl ?_
    refine CI.mono F (fun y1 h1 F => ?_) (fun _ _ w => rx_I w)
    exact wp_retI rfl (Or.inl rfl) F
-- CensusOffice$Form isBroken (I[I[I)Z
theorem m135 {d : Nat} {a0 : Nat} {a1 : Int32} {a2 : Nat} {a3 : Nat} {h : aH} {K : Int32 → aH → Prop} {X : Nat → aH → Prop} (F : gK h a0 = 3 ∧ ∃ i0 : Nat, inB h 100 (gR h a0 8) a1 i0 ∧ ∃ i1 : Nat, inB h 100 (gR h a0 7) (a1 + 1) i1 ∧ 8 ≤ a0 ∧ CI d 132 [vR a0, vI (gI h (gR h a0 8) i0), vI (gI h (gR h a0 7) i1), vR a2, vR a3] h (fun y0 h0 => ((y0.toInt = 0 → K 1 h0) ∧ (¬ y0.toInt = 0 → K 0 h0))) X) : CI (d + 1) 135 [vR a0, vI a1, vR a2, vR a3] h K X := by
  show Wp (d + 1) 135 (0, [some (vR a0), some (vI a1), some (vR a2), some (vR a3)], [], h) (RI K X)
  refine wp_aload rfl rfl rfl ?_
  refine wp_aload rfl rfl rfl ?_
  obtain ⟨f0, F⟩ := F
  refine wp_getR rfl rfl rfl f0 rfl ?_
  refine wp_iload rfl rfl rfl ?_
  obtain ⟨i0, b9, F⟩ := F
  refine wp_iaload rfl b9 rfl ?_
  refine wp_aload rfl rfl rfl ?_
  refine wp_getR rfl rfl rfl f0 rfl ?_
  refine wp_iload rfl rfl rfl ?_
  refine wp_const rfl rfl ?_
  refine wp_iadd rfl rfl ?_
  obtain ⟨i1, b9, F⟩ := F
  refine wp_iaload rfl b9 rfl ?_
  refine wp_aload rfl rfl rfl ?_
  refine wp_aload rfl rfl rfl ?_
  obtain ⟨f1, F⟩ := F
  refine wp_callI rfl rfl rfl (rcv_v f1 f0 (by decide) (by decide)) rfl rfl rfl rfl ?_
  refine CI.mono F (fun y0 h0 F => ?_) (fun _ _ w => rx_I w)
  refine wp_if_ne rfl rfl rfl rfl (fun c => ?_) (fun c => ?_)
  · replace F := F.1 c
    refine wp_const rfl rfl ?_
    refine wp_goto rfl rfl ?_
    exact wp_retI rfl (Or.inr rfl) F
  · replace F := F.2 c
    refine wp_const' (L' := [none, none, none, none]) rfl rfl rfl ?_
    exact wp_retI rfl (Or.inr rfl) F
-- CensusOffice$Session walk ()V
theorem m136 {d : Nat} {a0 : Nat} {h : aH} {K : aH → Prop} {X : Nat → aH → Prop} (F : gK h a0 = 10 ∧ CV d 48 [vR (gR h a0 3), vI (-2000000)] h (fun h0 => 8 ≤ a0 ∧ gK h0 a0 = 10 ∧ ∀ h1 : aH, h1 = pI h0 a0 7 0 → ∀ h2 : aH, h2 = pI h1 a0 8 0 → Wp (d + 1) 136 (21, [some (vR a0), some (vI 0), none], [], h2) (RV K X)) X) : CV (d + 1) 136 [vR a0] h K X := by
  show Wp (d + 1) 136 (0, [some (vR a0), none, none], [], h) (RV K X)
  refine wp_aload rfl rfl rfl ?_
  obtain ⟨f0, F⟩ := F
  refine wp_getR rfl rfl rfl f0 rfl ?_
  refine wp_const rfl rfl ?_
  refine wp_callV rfl rfl rfl rfl rfl rfl rfl rfl ?_
  refine CV.mono F (fun h0 F => ?_) (fun _ _ w => rx_V w)
  refine wp_aload rfl rfl rfl ?_
  refine wp_const rfl rfl ?_
  obtain ⟨f1, F⟩ := F
  obtain ⟨f2, F⟩ := F
  refine wp_putI rfl rfl rfl f1 f2 rfl ?_
  have f3 : gK (pI h0 a0 7 0) a0 = 10 := (gK_pI _ _ _ _ _).trans f2
  replace F := F _ rfl
  generalize pI h0 a0 7 0 = h1 at F f3 ⊢
  refine wp_aload rfl rfl rfl ?_
  refine wp_const rfl rfl ?_
  refine wp_putI rfl rfl rfl f1 f3 rfl ?_
  have f4 : gK (pI h1 a0 8 0) a0 = 10 := (gK_pI _ _ _ _ _).trans f3
  replace F := F _ rfl
  generalize pI h1 a0 8 0 = h2 at F f4 ⊢
  refine wp_const rfl rfl ?_
  refine wp_istore (L2 := [some (vR a0), some (vI 0), none]) rfl rfl rfl rfl ?_
  exact F
theorem w136_21 {d : Nat} {l0 : Nat} {l1 : Int32} {h : aH} {K : aH → Prop} {X : Nat → aH → Prop} (F : gK h l0 = 10 ∧ gK h (gR h l0 0) = 3 ∧ ((l1.toInt < (gI h (gR h l0 0) 11).toInt → ∃ i0 : Nat, inB h 100 (gR h (gR h l0 0) 2) l1 i0 ∧ ∀ v0 : Int32, v0 = gI h (gR h (gR h l0 0) 2) i0 → ((v0.toInt = 1 → 8 ≤ (gR h l0 0) ∧ CI d 134 [vR (gR h l0 0), vI l1, vR (gR h l0 3), vR (gR h l0 2)] h (fun y0 h0 => 8 ≤ (gR h l0 3) ∧ ∃ i1 : Nat, inB h0 100 (gR h l0 3) l1 i1 ∧ ∀ h1 : aH, h1 = pI h0 (gR h l0 3) i1 y0 → ∀ v1 : Int32, v1 = l1 + 1 → Wp (d + 1) 136 (21, [some (vR l0), some (vI v1), none], [], h1) (RV K X)) X) ∧ (¬ v0.toInt = 1 → ((v0.toInt = 0 → 8 ≤ (gR h l0 0) ∧ CI d 133 [vR (gR h l0 0), vI l1, vR (gR h l0 3), vR (gR h l0 2)] h (fun y1 h2 => ((y1.toInt = 0 → Wp (d + 1) 136 (124, [some (vR l0), some (vI l1), some (vI v0)], [], h2) (RV K X)) ∧ (¬ y1.toInt = 0 → gK h2 l0 = 10 ∧ ∃ i2 : Nat, inB h2 100 (gR h2 l0 4) l1 i2 ∧ 8 ≤ (gR h2 l0 3) ∧ ∃ i3 : Nat, inB h2 100 (gR h2 l0 3) l1 i3 ∧ ∀ h3 : aH, h3 = pI h2 (gR h2 l0 3) i3 (gI h2 (gR h2 l0 4) i2) → ∃ i4 : Nat, inB h3 100 (gR h3 l0 4) l1 i4 ∧ (((gI h3 (gR h3 l0 4) i4).toInt = (-2000000) → 8 ≤ l0 ∧ ∀ h4 : aH, h4 = pI h3 l0 6 l1 → K h4) ∧ (¬ (gI h3 (gR h3 l0 4) i4).toInt = (-2000000) → ∀ v2 : Int32, v2 = l1 + 1 → Wp (d + 1) 136 (21, [some (vR l0), some (vI v2), none], [], h3) (RV K X)))))) X) ∧ (¬ v0.toInt = 0 → Wp (d + 1) 136 (124, [some (vR l0), some (vI l1), some (vI v0)], [], h) (RV K X)))))) ∧ (¬ l1.toInt < (gI h (gR h l0 0) 11).toInt → 8 ≤ l0 ∧ ∀ h5 : aH, h5 = pI h l0 6 (gI h (gR h l0 0) 11) → K h5))) : Wp (d + 1) 136 (21, [some (vR l0), some (vI l1), none], [], h) (RV K X) := by
  refine wp_iload' (L' := [some (vR l0), some (vI l1), none]) rfl rfl rfl rfl ?_
  refine wp_aload rfl rfl rfl ?_
  obtain ⟨f0, F⟩ := F
  refine wp_getR rfl rfl rfl f0 rfl ?_
  obtain ⟨f1, F⟩ := F
  refine wp_getI rfl rfl rfl f1 rfl ?_
  refine wp_icmp_ge rfl rfl rfl rfl rfl (fun c => ?_) (fun c => ?_)
  · replace F := F.1 c
    refine wp_aload rfl rfl rfl ?_
    refine wp_getR rfl rfl rfl f0 rfl ?_
    refine wp_getR rfl rfl rfl f1 rfl ?_
    refine wp_iload rfl rfl rfl ?_
    obtain ⟨i0, b9, F⟩ := F
    refine wp_iaload rfl b9 rfl ?_
    replace F := F _ rfl
    generalize (gI h (gR h (gR h l0 0) 2) i0 : Int32) = v0 at F ⊢
    refine wp_istore (L2 := [some (vR l0), some (vI l1), some (vI v0)]) rfl rfl rfl rfl ?_
    refine wp_iload rfl rfl rfl ?_
    refine wp_const rfl rfl ?_
    refine wp_icmp_ne (Y := 1) rfl rfl rfl rfl rfl (fun c => ?_) (fun c => ?_)
    · replace F := F.1 c
      refine wp_aload rfl rfl rfl ?_
      refine wp_getR rfl rfl rfl f0 rfl ?_
      refine wp_iload rfl rfl rfl ?_
      refine wp_aload rfl rfl rfl ?_
      refine wp_getR rfl rfl rfl f0 rfl ?_
      refine wp_iload rfl rfl rfl ?_
      refine wp_aload rfl rfl rfl ?_
      refine wp_getR rfl rfl rfl f0 rfl ?_
      refine wp_aload rfl rfl rfl ?_
      refine wp_getR rfl rfl rfl f0 rfl ?_
      obtain ⟨f2, F⟩ := F
      refine wp_callI rfl rfl rfl (rcv_v f2 f1 (by decide) (by decide)) rfl rfl rfl rfl ?_
      refine CI.mono F (fun y0 h0 F => ?_) (fun _ _ w => rx_V w)
      obtain ⟨f3, F⟩ := F
      obtain ⟨i1, b9, F⟩ := F
      refine wp_iastore rfl f3 b9 rfl ?_
      replace F := F _ rfl
      generalize pI h0 (gR h l0 3) i1 y0 = h1 at F ⊢
      refine wp_goto rfl rfl ?_
      refine wp_iinc' (L' := [some (vR l0), some (vI l1), none]) (y := 1) (L2 := [some (vR l0), some (vI (l1 + 1)), none]) rfl rfl rfl rfl rfl rfl ?_
      replace F := F _ rfl
      generalize (l1 + 1 : Int32) = v1 at F ⊢
      refine wp_goto rfl rfl ?_
      exact F
    · replace F := F.2 c
      refine wp_iload rfl rfl rfl ?_
      refine wp_if_ne rfl rfl rfl rfl (fun c => ?_) (fun c => ?_)
      · replace F := F.1 c
        refine wp_aload rfl rfl rfl ?_
        refine wp_getR rfl rfl rfl f0 rfl ?_
        refine wp_iload rfl rfl rfl ?_
        refine wp_aload rfl rfl rfl ?_
        refine wp_getR rfl rfl rfl f0 rfl ?_
        refine wp_aload rfl rfl rfl ?_
        refine wp_getR rfl rfl rfl f0 rfl ?_
        obtain ⟨f4, F⟩ := F
        refine wp_callI rfl rfl rfl (rcv_v f4 f1 (by decide) (by decide)) rfl rfl rfl rfl ?_
        refine CI.mono F (fun y1 h2 F => ?_) (fun _ _ w => rx_V w)
        refine wp_if_eq rfl rfl rfl rfl (fun c => ?_) (fun c => ?_)
        · replace F := F.1 c
          exact F
        · replace F := F.2 c
          refine wp_aload rfl rfl rfl ?_
          obtain ⟨f5, F⟩ := F
          refine wp_getR rfl rfl rfl f5 rfl ?_
          refine wp_iload rfl rfl rfl ?_
          refine wp_aload rfl rfl rfl ?_
          refine wp_getR rfl rfl rfl f5 rfl ?_
          refine wp_iload rfl rfl rfl ?_
          obtain ⟨i2, b9, F⟩ := F
          refine wp_iaload rfl b9 rfl ?_
          obtain ⟨f6, F⟩ := F
          obtain ⟨i3, b9, F⟩ := F
          refine wp_iastore rfl f6 b9 rfl ?_
          have f7 : gK (pI h2 (gR h2 l0 3) i3 (gI h2 (gR h2 l0 4) i2)) l0 = 10 := (gK_pI _ _ _ _ _).trans f5
          replace F := F _ rfl
          generalize pI h2 (gR h2 l0 3) i3 (gI h2 (gR h2 l0 4) i2) = h3 at F f7 ⊢
          refine wp_aload rfl rfl rfl ?_
          refine wp_getR rfl rfl rfl f7 rfl ?_
          refine wp_iload rfl rfl rfl ?_
          obtain ⟨i4, b9, F⟩ := F
          refine wp_iaload rfl b9 rfl ?_
          refine wp_const rfl rfl ?_
          refine wp_icmp_ne (Y := (-2000000)) rfl rfl rfl rfl rfl (fun c => ?_) (fun c => ?_)
          · replace F := F.1 c
            refine wp_aload rfl rfl rfl ?_
            refine wp_iload rfl rfl rfl ?_
            obtain ⟨f8, F⟩ := F
            refine wp_putI rfl rfl rfl f8 f7 rfl ?_
            have f9 : gK (pI h3 l0 6 l1) l0 = 10 := (gK_pI _ _ _ _ _).trans f7
            replace F := F _ rfl
            generalize pI h3 l0 6 l1 = h4 at F f9 ⊢
            exact wp_retV rfl F
          · replace F := F.2 c
            refine wp_iinc' (L' := [some (vR l0), some (vI l1), none]) (y := 1) (L2 := [some (vR l0), some (vI (l1 + 1)), none]) rfl rfl rfl rfl rfl rfl ?_
            replace F := F _ rfl
            generalize (l1 + 1 : Int32) = v2 at F ⊢
            refine wp_goto rfl rfl ?_
            exact F
      · replace F := F.2 c
        exact F
  · replace F := F.2 c
    refine wp_aload' (L' := [some (vR l0), none, none]) rfl rfl rfl rfl ?_
    refine wp_aload rfl rfl rfl ?_
    refine wp_getR rfl rfl rfl f0 rfl ?_
    refine wp_getI rfl rfl rfl f1 rfl ?_
    obtain ⟨f10, F⟩ := F
    refine wp_putI rfl rfl rfl f10 f0 rfl ?_
    have f11 : gK (pI h l0 6 (gI h (gR h l0 0) 11)) l0 = 10 := (gK_pI _ _ _ _ _).trans f0
    have f12 : gK (pI h l0 6 (gI h (gR h l0 0) 11)) (gR (pI h l0 6 (gI h (gR h l0 0) 11)) l0 0) = 3 := (by simp only [gK_pI, gR_pI]; exact f1)
    replace F := F _ rfl
    generalize pI h l0 6 (gI h (gR h l0 0) 11) = h5 at F f11 f12 ⊢
    exact wp_retV rfl F
theorem w136_124 {d : Nat} {l0 : Nat} {l1 : Int32} {l2 : Int32} {h : aH} {K : aH → Prop} {X : Nat → aH → Prop} (F : ((l2.toInt = 2 → gK h l0 = 10 ∧ 8 ≤ (gR h l0 0) ∧ gK h (gR h l0 0) = 3 ∧ CI d 135 [vR (gR h l0 0), vI l1, vR (gR h l0 3), vR (gR h l0 2)] h (fun y0 h0 => ((y0.toInt = 0 → Wp (d + 1) 136 (163, [some (vR l0), some (vI l1), some (vI l2)], [], h0) (RV K X)) ∧ (¬ y0.toInt = 0 → gK h0 l0 = 10 ∧ 8 ≤ l0 ∧ ∀ h1 : aH, h1 = pI h0 l0 7 ((gI h0 l0 7) ||| (1 <<< (l1 &&& 31))) → ∀ v0 : Int32, v0 = l1 + 1 → Wp (d + 1) 136 (21, [some (vR l0), some (vI v0), none], [], h1) (RV K X)))) X) ∧ (¬ l2.toInt = 2 → Wp (d + 1) 136 (163, [some (vR l0), some (vI l1), some (vI l2)], [], h) (RV K X)))) : Wp (d + 1) 136 (124, [some (vR l0), some (vI l1), some (vI l2)], [], h) (RV K X) := by
  refine wp_iload rfl rfl rfl ?_
  refine wp_const rfl rfl ?_
  refine wp_icmp_ne (Y := 2) rfl rfl rfl rfl rfl (fun c => ?_) (fun c => ?_)
  · replace F := F.1 c
    refine wp_aload rfl rfl rfl ?_
    obtain ⟨f0, F⟩ := F
    refine wp_getR rfl rfl rfl f0 rfl ?_
    refine wp_iload rfl rfl rfl ?_
    refine wp_aload rfl rfl rfl ?_
    refine wp_getR rfl rfl rfl f0 rfl ?_
    refine wp_aload rfl rfl rfl ?_
    refine wp_getR rfl rfl rfl f0 rfl ?_
    obtain ⟨f1, F⟩ := F
    obtain ⟨f2, F⟩ := F
    refine wp_callI rfl rfl rfl (rcv_v f1 f2 (by decide) (by decide)) rfl rfl rfl rfl ?_
    refine CI.mono F (fun y0 h0 F => ?_) (fun _ _ w => rx_V w)
    refine wp_if_eq rfl rfl rfl rfl (fun c => ?_) (fun c => ?_)
    · replace F := F.1 c
      exact F
    · replace F := F.2 c
      refine wp_aload rfl rfl rfl ?_
      refine wp_dup rfl rfl rfl ?_
      obtain ⟨f3, F⟩ := F
      refine wp_getI rfl rfl rfl f3 rfl ?_
      refine wp_const rfl rfl ?_
      refine wp_iload rfl rfl rfl ?_
      refine wp_ishl rfl rfl ?_
      refine wp_ior rfl rfl ?_
      obtain ⟨f4, F⟩ := F
      refine wp_putI rfl rfl rfl f4 f3 rfl ?_
      have f5 : gK (pI h0 l0 7 ((gI h0 l0 7) ||| (1 <<< (l1 &&& 31)))) l0 = 10 := (gK_pI _ _ _ _ _).trans f3
      replace F := F _ rfl
      generalize pI h0 l0 7 ((gI h0 l0 7) ||| (1 <<< (l1 &&& 31))) = h1 at F f5 ⊢
      refine wp_goto rfl rfl ?_
      refine wp_iinc' (L' := [some (vR l0), some (vI l1), none]) (y := 1) (L2 := [some (vR l0), some (vI (l1 + 1)), none]) rfl rfl rfl rfl rfl rfl ?_
      replace F := F _ rfl
      generalize (l1 + 1 : Int32) = v0 at F ⊢
      refine wp_goto rfl rfl ?_
      exact F
  · replace F := F.2 c
    exact F
theorem w136_163 {d : Nat} {l0 : Nat} {l1 : Int32} {l2 : Int32} {h : aH} {K : aH → Prop} {X : Nat → aH → Prop} (F : ((l2.toInt = 3 → gK h l0 = 10 ∧ 8 ≤ (gR h l0 0) ∧ gK h (gR h l0 0) = 3 ∧ CI d 135 [vR (gR h l0 0), vI l1, vR (gR h l0 3), vR (gR h l0 2)] h (fun y0 h0 => ((y0.toInt = 0 → ∀ v0 : Int32, v0 = l1 + 1 → Wp (d + 1) 136 (21, [some (vR l0), some (vI v0), none], [], h0) (RV K X)) ∧ (¬ y0.toInt = 0 → gK h0 l0 = 10 ∧ 8 ≤ l0 ∧ ∀ h1 : aH, h1 = pI h0 l0 8 ((gI h0 l0 8) ||| (1 <<< (l1 &&& 31))) → ∀ v1 : Int32, v1 = l1 + 1 → Wp (d + 1) 136 (21, [some (vR l0), some (vI v1), none], [], h1) (RV K X)))) X) ∧ (¬ l2.toInt = 3 → ∀ v2 : Int32, v2 = l1 + 1 → Wp (d + 1) 136 (21, [some (vR l0), some (vI v2), none], [], h) (RV K X)))) : Wp (d + 1) 136 (163, [some (vR l0), some (vI l1), some (vI l2)], [], h) (RV K X) := by
  refine wp_iload rfl rfl rfl ?_
  refine wp_const rfl rfl ?_
  refine wp_icmp_ne (Y := 3) rfl rfl rfl rfl rfl (fun c => ?_) (fun c => ?_)
  · replace F := F.1 c
    refine wp_aload rfl rfl rfl ?_
    obtain ⟨f0, F⟩ := F
    refine wp_getR rfl rfl rfl f0 rfl ?_
    refine wp_iload rfl rfl rfl ?_
    refine wp_aload rfl rfl rfl ?_
    refine wp_getR rfl rfl rfl f0 rfl ?_
    refine wp_aload rfl rfl rfl ?_
    refine wp_getR rfl rfl rfl f0 rfl ?_
    obtain ⟨f1, F⟩ := F
    obtain ⟨f2, F⟩ := F
    refine wp_callI rfl rfl rfl (rcv_v f1 f2 (by decide) (by decide)) rfl rfl rfl rfl ?_
    refine CI.mono F (fun y0 h0 F => ?_) (fun _ _ w => rx_V w)
    refine wp_if_eq rfl rfl rfl rfl (fun c => ?_) (fun c => ?_)
    · replace F := F.1 c
      refine wp_iinc' (L' := [some (vR l0), some (vI l1), none]) (y := 1) (L2 := [some (vR l0), some (vI (l1 + 1)), none]) rfl rfl rfl rfl rfl rfl ?_
      replace F := F _ rfl
      generalize (l1 + 1 : Int32) = v0 at F ⊢
      refine wp_goto rfl rfl ?_
      exact F
    · replace F := F.2 c
      refine wp_aload rfl rfl rfl ?_
      refine wp_dup rfl rfl rfl ?_
      obtain ⟨f3, F⟩ := F
      refine wp_getI rfl rfl rfl f3 rfl ?_
      refine wp_const rfl rfl ?_
      refine wp_iload rfl rfl rfl ?_
      refine wp_ishl rfl rfl ?_
      refine wp_ior rfl rfl ?_
      obtain ⟨f4, F⟩ := F
      refine wp_putI rfl rfl rfl f4 f3 rfl ?_
      have f5 : gK (pI h0 l0 8 ((gI h0 l0 8) ||| (1 <<< (l1 &&& 31)))) l0 = 10 := (gK_pI _ _ _ _ _).trans f3
      replace F := F _ rfl
      generalize pI h0 l0 8 ((gI h0 l0 8) ||| (1 <<< (l1 &&& 31))) = h1 at F f5 ⊢
      refine wp_iinc' (L' := [some (vR l0), some (vI l1), none]) (y := 1) (L2 := [some (vR l0), some (vI (l1 + 1)), none]) rfl rfl rfl rfl rfl rfl ?_
      replace F := F _ rfl
      generalize (l1 + 1 : Int32) = v1 at F ⊢
      refine wp_goto rfl rfl ?_
      exact F
  · replace F := F.2 c
    refine wp_iinc' (L' := [some (vR l0), some (vI l1), none]) (y := 1) (L2 := [some (vR l0), some (vI (l1 + 1)), none]) rfl rfl rfl rfl rfl rfl ?_
    replace F := F _ rfl
    generalize (l1 + 1 : Int32) = v2 at F ⊢
    refine wp_goto rfl rfl ?_
    exact F
-- CensusOffice open (II)I
theorem m137 {d : Nat} {a0 : Nat} {a1 : Int32} {a2 : Int32} {h : aH} {K : Int32 → aH → Prop} {X : Nat → aH → Prop} (F : 8 ≤ a0 ∧ gK h a0 = 1 ∧ CR d 120 [vR a0, vI a1] h (fun q0 h0 => gK h0 a0 = 1 ∧ CV d 30 [vR a0, vI a2] h0 (fun h1 => gK h1 a0 = 1 ∧ CV d 34 [vR a0, vI a2] h1 (fun h2 => gK h2 a0 = 1 ∧ 8 ≤ (gR h2 a0 5) ∧ gK h2 (gR h2 a0 5) = 13 ∧ CI d 65 [vR (gR h2 a0 5)] h2 (fun y0 h3 => ((y0.toInt < 60 → ∀ (r0 : Nat) (h4 : aH), r0 = gN h3 → h4 = gNew h3 10 13 → gK h4 a0 = 1 ∧ CI d 35 [vR a0] h4 (fun y1 h5 => 8 ≤ (gR h4 a0 0) ∧ gK h5 (gR h4 a0 0) = 6 ∧ CR d 127 [vR (gR h4 a0 0), vI a2, vI y1] h5 (fun q1 h6 => 8 ≤ r0 ∧ CV d 128 [vR r0, vR q0, vI a2, vR q1] h6 (fun h7 => gK h7 r0 = 10 ∧ CV d 136 [vR r0] h7 (fun h8 => gK h8 a0 = 1 ∧ 8 ≤ (gR h8 a0 5) ∧ gK h8 (gR h8 a0 5) = 13 ∧ CI d 98 [vR (gR h8 a0 5), vR r0] h8 (fun y2 h9 => gK h9 a0 = 1 ∧ 8 ≤ (gR h9 a0 5) ∧ gK h9 (gR h9 a0 5) = 13 ∧ CI d 65 [vR (gR h9 a0 5)] h9 (fun y3 h10 => K (y3 - 1) h10) X) X) X) (fun _ _ => False)) X) X) ∧ (¬ y0.toInt < 60 → X 4 (gNew h3 200 6)))) X) X) X) X) : CI (d + 1) 137 [vR a0, vI a1, vI a2] h K X := by
  show Wp (d + 1) 137 (0, [some (vR a0), some (vI a1), some (vI a2), none, none], [], h) (RI K X)
  refine wp_aload rfl rfl rfl ?_
  refine wp_iload rfl rfl rfl ?_
  obtain ⟨f0, F⟩ := F
  obtain ⟨f1, F⟩ := F
  refine wp_callR rfl rfl rfl (rcv_v f0 f1 (by decide) (by decide)) rfl rfl rfl rfl ?_
  refine CR.mono F (fun q0 h0 F => ?_) (fun _ _ w => rx_I w)
  refine wp_astore (L2 := [some (vR a0), some (vI a1), some (vI a2), some (vR q0), none]) rfl rfl rfl rfl ?_
  refine wp_aload rfl rfl rfl ?_
  refine wp_iload rfl rfl rfl ?_
  obtain ⟨f2, F⟩ := F
  refine wp_callV rfl rfl rfl (rcv_v f0 f2 (by decide) (by decide)) rfl rfl rfl rfl ?_
  refine CV.mono F (fun h1 F => ?_) (fun _ _ w => rx_I w)
  refine wp_aload rfl rfl rfl ?_
  refine wp_iload rfl rfl rfl ?_
  obtain ⟨f3, F⟩ := F
  refine wp_callV rfl rfl rfl (rcv_v f0 f3 (by decide) (by decide)) rfl rfl rfl rfl ?_
  refine CV.mono F (fun h2 F => ?_) (fun _ _ w => rx_I w)
  refine wp_aload rfl rfl rfl ?_
  obtain ⟨f4, F⟩ := F
  refine wp_getR rfl rfl rfl f4 rfl ?_
  obtain ⟨f5, F⟩ := F
  obtain ⟨f6, F⟩ := F
  refine wp_callI rfl rfl rfl (rcv_v f5 f6 (by decide) (by decide)) rfl rfl rfl rfl ?_
  refine CI.mono F (fun y0 h3 F => ?_) (fun _ _ w => rx_I w)
  refine wp_const rfl rfl ?_
  refine wp_icmp_lt (Y := 60) rfl rfl rfl rfl rfl (fun c => ?_) (fun c => ?_)
  · replace F := F.1 c
    refine wp_new' (L' := [some (vR a0), none, some (vI a2), some (vR q0), none]) rfl rfl rfl rfl rfl ?_
    replace F := F _ _ rfl rfl
    generalize gNew h3 10 13 = h4 at F ⊢
    generalize gN h3 = r0 at F ⊢
    refine wp_dup rfl rfl rfl ?_
    refine wp_aload rfl rfl rfl ?_
    refine wp_iload rfl rfl rfl ?_
    refine wp_aload rfl rfl rfl ?_
    obtain ⟨f7, F⟩ := F
    refine wp_getR rfl rfl rfl f7 rfl ?_
    refine wp_iload rfl rfl rfl ?_
    refine wp_aload rfl rfl rfl ?_
    refine wp_callI rfl rfl rfl (rcv_v f0 f7 (by decide) (by decide)) rfl rfl rfl rfl ?_
    refine CI.mono F (fun y1 h5 F => ?_) (fun _ _ w => rx_I w)
    obtain ⟨f8, F⟩ := F
    obtain ⟨f9, F⟩ := F
    refine wp_callR rfl rfl rfl (rcv_v f8 f9 (by decide) (by decide)) rfl rfl rfl rfl ?_
    refine CR.mono F (fun q1 h6 F => ?_) (fun _ _ w => rx_I w)
    obtain ⟨f10, F⟩ := F
    refine wp_callqV rfl rfl rfl (rcv_c f10) rfl rfl ?_
    refine CV.mono F (fun h7 F => ?_) (fun _ _ w => w)
    refine wp_astore (L2 := [some (vR a0), none, some (vI a2), some (vR q0), some (vR r0)]) rfl rfl rfl rfl ?_
    refine wp_aload rfl rfl rfl ?_
    obtain ⟨f11, F⟩ := F
    refine wp_callV rfl rfl rfl (rcv_v f10 f11 (by decide) (by decide)) rfl rfl rfl rfl ?_
    refine CV.mono F (fun h8 F => ?_) (fun _ _ w => rx_I w)
    refine wp_aload rfl rfl rfl ?_
    obtain ⟨f12, F⟩ := F
    refine wp_getR rfl rfl rfl f12 rfl ?_
    refine wp_aload rfl rfl rfl ?_
    obtain ⟨f13, F⟩ := F
    obtain ⟨f14, F⟩ := F
    refine wp_callI rfl rfl rfl (rcv_v f13 f14 (by decide) (by decide)) rfl rfl rfl rfl ?_
    refine CI.mono F (fun y2 h9 F => ?_) (fun _ _ w => rx_I w)
    refine wp_pop rfl rfl rfl ?_
    refine wp_aload rfl rfl rfl ?_
    obtain ⟨f15, F⟩ := F
    refine wp_getR rfl rfl rfl f15 rfl ?_
    obtain ⟨f16, F⟩ := F
    obtain ⟨f17, F⟩ := F
    refine wp_callI rfl rfl rfl (rcv_v f16 f17 (by decide) (by decide)) rfl rfl rfl rfl ?_
    refine CI.mono F (fun y3 h10 F => ?_) (fun _ _ w => rx_I w)
    refine wp_const rfl rfl ?_
    refine wp_isub rfl rfl ?_
    exact wp_retI rfl (Or.inl rfl) F
  · replace F := F.2 c
    exact wp_thrI rfl F
-- CensusOfficeLaw open (LCensusOffice;II[J)I
theorem m138 {d : Nat} {a0 : Nat} {a1 : Int32} {a2 : Int32} {a3 : Nat} {h : aH} {K : Int32 → aH → Prop} {X : Nat → aH → Prop} (F : 8 ≤ a0 ∧ gK h a0 = 1 ∧ CI d 137 [vR a0, vI a1, vI a2] h (fun y0 h0 => 8 ≤ a3 ∧ inB h0 101 a3 0 0 ∧ ∀ h1 : aH, h1 = pJ h0 a3 0 (y0.toInt64) → K 0 h1) (fun x9 h9 => (x9 = 3 ∧ K 1 h9) ∨ (x9 = 2 ∧ K 2 h9) ∨ (x9 = 4 ∧ K 3 h9))) : CI (d + 1) 138 [vR a0, vI a1, vI a2, vR a3] h K X := by
  show Wp (d + 1) 138 (0, [some (vR a0), some (vI a1), some (vI a2), some (vR a3), none], [], h) (RI K X)
  refine wp_aload rfl rfl rfl ?_
  refine wp_const rfl rfl ?_
  refine wp_aload rfl rfl rfl ?_
  refine wp_iload rfl rfl rfl ?_
  refine wp_iload rfl rfl rfl ?_
  obtain ⟨f0, F⟩ := F
  obtain ⟨f1, F⟩ := F
  refine wp_callhI (X := (fun x9 h9 => (x9 = 3 ∧ K 1 h9) ∨ (x9 = 2 ∧ K 2 h9) ∨ (x9 = 4 ∧ K 3 h9))) rfl rfl rfl (rcv_v f0 f1 (by decide) (by decide)) rfl rfl rfl (fun x9 h9 F => ?_) ?_
  · rcases F with ⟨rfl, F⟩ | ⟨rfl, F⟩ | ⟨rfl, F⟩
    · refine ⟨13, rfl, ?_⟩
      refine wp_astoreJ' (L' := [none, none, none, none, none]) (L2 := [none, none, none, none, some vJ]) rfl rfl rfl rfl rfl ?_
      refine wp_const rfl rfl ?_
      exact wp_retI rfl (Or.inl rfl) F
    · refine ⟨17, rfl, ?_⟩
      refine wp_astoreJ' (L' := [none, none, none, none, none]) (L2 := [none, none, none, none, some vJ]) rfl rfl rfl rfl rfl ?_
      refine wp_const rfl rfl ?_
      exact wp_retI rfl (Or.inl rfl) F
    · refine ⟨21, rfl, ?_⟩
      refine wp_astoreJ' (L' := [none, none, none, none, none]) (L2 := [none, none, none, none, some vJ]) rfl rfl rfl rfl rfl ?_
      refine wp_const rfl rfl ?_
      exact wp_retI rfl (Or.inl rfl) F
  · refine CI.mono F (fun y0 h0 F => ?_) (fun _ _ w => w)
    refine wp_i2l rfl rfl ?_
    obtain ⟨f2, F⟩ := F
    obtain ⟨b9, F⟩ := F
    refine wp_lastore rfl f2 b9 rfl ?_
    replace F := F _ rfl
    generalize pJ h0 a3 0 (y0.toInt64) = h1 at F ⊢
    refine wp_goto rfl rfl ?_
    refine wp_const' (L' := [none, none, none, none, none]) rfl rfl rfl ?_
    exact wp_retI rfl (Or.inl rfl) F
-- CensusOfficeModel open (II)I
theorem m139 {d : Nat} {a0 : Nat} {a1 : Int32} {a2 : Int32} {h : aH} {K : Int32 → aH → Prop} {X : Nat → aH → Prop} (F : 8 ≤ a0 ∧ gK h a0 = 14 ∧ ∀ h0 : aH, h0 = pI h a0 0 0 → CI d 124 [vR a0, vI a1] h0 (fun y0 h1 => ((y0.toInt = 0 → gK h1 a0 = 14 ∧ CI d 15 [vR a0, vI 1] h1 (fun y1 h2 => K y1 h2) X) ∧ (¬ y0.toInt = 0 → gK h1 a0 = 14 ∧ CI d 39 [vR a0, vI a2] h1 (fun y2 h3 => ((y2.toInt = 0 → gK h3 a0 = 14 ∧ CI d 15 [vR a0, vI 1] h3 (fun y3 h4 => K y3 h4) X) ∧ (¬ y2.toInt = 0 → gK h3 a0 = 14 ∧ ∃ i0 : Nat, inB h3 100 (gR h3 a0 3) a2 i0 ∧ (((gI h3 (gR h3 a0 3) i0).toInt = (-1) → (((gI h3 a0 38).toInt = 60 → CI d 15 [vR a0, vI 3] h3 (fun y4 h5 => K y4 h5) X) ∧ (¬ (gI h3 a0 38).toInt = 60 → 8 ≤ (gR h3 a0 39) ∧ ∃ i1 : Nat, inB h3 100 (gR h3 a0 39) (gI h3 a0 38) i1 ∧ ∀ h6 : aH, h6 = pI h3 (gR h3 a0 39) i1 a1 → 8 ≤ (gR h6 a0 40) ∧ ∃ i2 : Nat, inB h6 100 (gR h6 a0 40) (gI h6 a0 38) i2 ∧ ∀ h7 : aH, h7 = pI h6 (gR h6 a0 40) i2 a2 → Wp (d + 1) 139 (80, [some (vR a0), none, some (vI a2), some (vI 0)], [], h7) (RI K X)))) ∧ (¬ (gI h3 (gR h3 a0 3) i0).toInt = (-1) → CI d 15 [vR a0, vI 2] h3 (fun y5 h8 => K y5 h8) X))))) X))) X) : CI (d + 1) 139 [vR a0, vI a1, vI a2] h K X := by
  show Wp (d + 1) 139 (0, [some (vR a0), some (vI a1), some (vI a2), none], [], h) (RI K X)
  refine wp_aload rfl rfl rfl ?_
  refine wp_const rfl rfl ?_
  obtain ⟨f0, F⟩ := F
  obtain ⟨f1, F⟩ := F
  refine wp_putI rfl rfl rfl f0 f1 rfl ?_
  have f2 : gK (pI h a0 0 0) a0 = 14 := (gK_pI _ _ _ _ _).trans f1
  replace F := F _ rfl
  generalize pI h a0 0 0 = h0 at F f2 ⊢
  refine wp_aload rfl rfl rfl ?_
  refine wp_iload rfl rfl rfl ?_
  refine wp_callI rfl rfl rfl (rcv_v f0 f2 (by decide) (by decide)) rfl rfl rfl rfl ?_
  refine CI.mono F (fun y0 h1 F => ?_) (fun _ _ w => rx_I w)
  refine wp_if_eq rfl rfl rfl rfl (fun c => ?_) (fun c => ?_)
  · replace F := F.1 c
    refine wp_aload' (L' := [some (vR a0), none, none, none]) rfl rfl rfl rfl ?_
    refine wp_const rfl rfl ?_
    obtain ⟨f3, F⟩ := F
    refine wp_callI rfl rfl rfl (rcv_v f0 f3 (by decide) (by decide)) rfl rfl rfl rfl ?_
    refine CI.mono F (fun y1 h2 F => ?_) (fun _ _ w => rx_I w)
    exact wp_retI rfl (Or.inl rfl) F
  · replace F := F.2 c
    refine wp_aload rfl rfl rfl ?_
    refine wp_iload rfl rfl rfl ?_
    obtain ⟨f4, F⟩ := F
    refine wp_callI rfl rfl rfl (rcv_v f0 f4 (by decide) (by decide)) rfl rfl rfl rfl ?_
    refine CI.mono F (fun y2 h3 F => ?_) (fun _ _ w => rx_I w)
    refine wp_if_ne rfl rfl rfl rfl (fun c => ?_) (fun c => ?_)
    · replace F := F.1 c
      refine wp_aload' (L' := [some (vR a0), none, none, none]) rfl rfl rfl rfl ?_
      refine wp_const rfl rfl ?_
      obtain ⟨f5, F⟩ := F
      refine wp_callI rfl rfl rfl (rcv_v f0 f5 (by decide) (by decide)) rfl rfl rfl rfl ?_
      refine CI.mono F (fun y3 h4 F => ?_) (fun _ _ w => rx_I w)
      exact wp_retI rfl (Or.inl rfl) F
    · replace F := F.2 c
      refine wp_aload' (L' := [some (vR a0), some (vI a1), some (vI a2), none]) rfl rfl rfl rfl ?_
      obtain ⟨f6, F⟩ := F
      refine wp_getR rfl rfl rfl f6 rfl ?_
      refine wp_iload rfl rfl rfl ?_
      obtain ⟨i0, b9, F⟩ := F
      refine wp_iaload rfl b9 rfl ?_
      refine wp_const rfl rfl ?_
      refine wp_icmp_eq (Y := (-1)) rfl rfl rfl rfl rfl (fun c => ?_) (fun c => ?_)
      · replace F := F.1 c
        refine wp_aload' (L' := [some (vR a0), some (vI a1), some (vI a2), none]) rfl rfl rfl rfl ?_
        refine wp_getI rfl rfl rfl f6 rfl ?_
        refine wp_const rfl rfl ?_
        refine wp_icmp_ne (Y := 60) rfl rfl rfl rfl rfl (fun c => ?_) (fun c => ?_)
        · replace F := F.1 c
          refine wp_aload rfl rfl rfl ?_
          refine wp_const rfl rfl ?_
          refine wp_callI rfl rfl rfl (rcv_v f0 f6 (by decide) (by decide)) rfl rfl rfl rfl ?_
          refine CI.mono F (fun y4 h5 F => ?_) (fun _ _ w => rx_I w)
          exact wp_retI rfl (Or.inl rfl) F
        · replace F := F.2 c
          refine wp_aload' (L' := [some (vR a0), some (vI a1), some (vI a2), none]) rfl rfl rfl rfl ?_
          refine wp_getR rfl rfl rfl f6 rfl ?_
          refine wp_aload rfl rfl rfl ?_
          refine wp_getI rfl rfl rfl f6 rfl ?_
          refine wp_iload rfl rfl rfl ?_
          obtain ⟨f7, F⟩ := F
          obtain ⟨i1, b9, F⟩ := F
          refine wp_iastore rfl f7 b9 rfl ?_
          have f8 : gK (pI h3 (gR h3 a0 39) i1 a1) a0 = 14 := (gK_pI _ _ _ _ _).trans f6
          replace F := F _ rfl
          generalize pI h3 (gR h3 a0 39) i1 a1 = h6 at F f8 ⊢
          refine wp_aload rfl rfl rfl ?_
          refine wp_getR rfl rfl rfl f8 rfl ?_
          refine wp_aload rfl rfl rfl ?_
          refine wp_getI rfl rfl rfl f8 rfl ?_
          refine wp_iload rfl rfl rfl ?_
          obtain ⟨f9, F⟩ := F
          obtain ⟨i2, b9, F⟩ := F
          refine wp_iastore rfl f9 b9 rfl ?_
          have f10 : gK (pI h6 (gR h6 a0 40) i2 a2) a0 = 14 := (gK_pI _ _ _ _ _).trans f8
          replace F := F _ rfl
          generalize pI h6 (gR h6 a0 40) i2 a2 = h7 at F f10 ⊢
          refine wp_const rfl rfl ?_
          refine wp_istore (L2 := [some (vR a0), some (vI a1), some (vI a2), some (vI 0)]) rfl rfl rfl rfl ?_
          refine wp_kill (L' := [some (vR a0), none, some (vI a2), some (vI 0)]) rfl rfl ?_
          exact F
      · replace F := F.2 c
        refine wp_aload rfl rfl rfl ?_
        refine wp_const rfl rfl ?_
        refine wp_callI rfl rfl rfl (rcv_v f0 f6 (by decide) (by decide)) rfl rfl rfl rfl ?_
        refine CI.mono F (fun y5 h8 F => ?_) (fun _ _ w => rx_I w)
        exact wp_retI rfl (Or.inl rfl) F
theorem w139_80 {d : Nat} {l0 : Nat} {l2 : Int32} {l3 : Int32} {h : aH} {K : Int32 → aH → Prop} {X : Nat → aH → Prop} (F : ((l3.toInt < 6 → gK h l0 = 14 ∧ 8 ≤ l0 ∧ CI d 40 [vR l0] h (fun y0 h0 => gK h0 l0 = 14 ∧ CI d 40 [vR l0] h0 (fun y1 h1 => gK h1 l0 = 14 ∧ CI d 53 [vR l0, vI l2, vI l3, vI y0, vI y1] h1 (fun y2 h2 => 8 ≤ (gR h l0 41) ∧ ∃ i0 : Nat, inB h2 100 (gR h l0 41) ((6 * (gI h l0 38)) + l3) i0 ∧ ∀ h3 : aH, h3 = pI h2 (gR h l0 41) i0 y2 → ∀ v0 : Int32, v0 = l3 + 1 → Wp (d + 1) 139 (80, [some (vR l0), none, some (vI l2), some (vI v0)], [], h3) (RI K X)) X) X) X) ∧ (¬ l3.toInt < 6 → gK h l0 = 14 ∧ 8 ≤ (gR h l0 48) ∧ ∃ i1 : Nat, inB h 100 (gR h l0 48) (gI h l0 38) i1 ∧ ∀ h4 : aH, h4 = pI h (gR h l0 48) i1 (-1) → 8 ≤ l0 ∧ ∀ h5 : aH, h5 = pI h4 l0 38 ((gI h4 l0 38) + 1) → K ((gI h5 l0 38) - 1) h5))) : Wp (d + 1) 139 (80, [some (vR l0), none, some (vI l2), some (vI l3)], [], h) (RI K X) := by
  refine wp_iload' (L' := [some (vR l0), none, some (vI l2), some (vI l3)]) rfl rfl rfl rfl ?_
  refine wp_const rfl rfl ?_
  refine wp_icmp_ge (Y := 6) rfl rfl rfl rfl rfl (fun c => ?_) (fun c => ?_)
  · replace F := F.1 c
    refine wp_aload rfl rfl rfl ?_
    obtain ⟨f0, F⟩ := F
    refine wp_getR rfl rfl rfl f0 rfl ?_
    refine wp_const rfl rfl ?_
    refine wp_aload rfl rfl rfl ?_
    refine wp_getI rfl rfl rfl f0 rfl ?_
    refine wp_imul rfl rfl ?_
    refine wp_iload rfl rfl rfl ?_
    refine wp_iadd rfl rfl ?_
    refine wp_aload rfl rfl rfl ?_
    refine wp_iload rfl rfl rfl ?_
    refine wp_iload rfl rfl rfl ?_
    refine wp_aload rfl rfl rfl ?_
    obtain ⟨f1, F⟩ := F
    refine wp_callI rfl rfl rfl (rcv_v f1 f0 (by decide) (by decide)) rfl rfl rfl rfl ?_
    refine CI.mono F (fun y0 h0 F => ?_) (fun _ _ w => rx_I w)
    refine wp_aload rfl rfl rfl ?_
    obtain ⟨f2, F⟩ := F
    refine wp_callI rfl rfl rfl (rcv_v f1 f2 (by decide) (by decide)) rfl rfl rfl rfl ?_
    refine CI.mono F (fun y1 h1 F => ?_) (fun _ _ w => rx_I w)
    obtain ⟨f3, F⟩ := F
    refine wp_callI rfl rfl rfl (rcv_v f1 f3 (by decide) (by decide)) rfl rfl rfl rfl ?_
    refine CI.mono F (fun y2 h2 F => ?_) (fun _ _ w => rx_I w)
    obtain ⟨f4, F⟩ := F
    obtain ⟨i0, b9, F⟩ := F
    refine wp_iastore rfl f4 b9 rfl ?_
    replace F := F _ rfl
    generalize pI h2 (gR h l0 41) i0 y2 = h3 at F ⊢
    refine wp_iinc (y := 1) (L2 := [some (vR l0), none, some (vI l2), some (vI (l3 + 1))]) rfl rfl rfl rfl rfl ?_
    replace F := F _ rfl
    generalize (l3 + 1 : Int32) = v0 at F ⊢
    refine wp_goto rfl rfl ?_
    exact F
  · replace F := F.2 c
    refine wp_aload' (L' := [some (vR l0), none, none, none]) rfl rfl rfl rfl ?_
    obtain ⟨f5, F⟩ := F
    refine wp_getR rfl rfl rfl f5 rfl ?_
    refine wp_aload rfl rfl rfl ?_
    refine wp_getI rfl rfl rfl f5 rfl ?_
    refine wp_const rfl rfl ?_
    obtain ⟨f6, F⟩ := F
    obtain ⟨i1, b9, F⟩ := F
    refine wp_iastore rfl f6 b9 rfl ?_
    have f7 : gK (pI h (gR h l0 48) i1 (-1)) l0 = 14 := (gK_pI _ _ _ _ _).trans f5
    replace F := F _ rfl
    generalize pI h (gR h l0 48) i1 (-1) = h4 at F f7 ⊢
    refine wp_aload rfl rfl rfl ?_
    refine wp_dup rfl rfl rfl ?_
    refine wp_getI rfl rfl rfl f7 rfl ?_
    refine wp_const rfl rfl ?_
    refine wp_iadd rfl rfl ?_
    obtain ⟨f8, F⟩ := F
    refine wp_putI rfl rfl rfl f8 f7 rfl ?_
    have f9 : gK (pI h4 l0 38 ((gI h4 l0 38) + 1)) l0 = 14 := (gK_pI _ _ _ _ _).trans f7
    replace F := F _ rfl
    generalize pI h4 l0 38 ((gI h4 l0 38) + 1) = h5 at F f9 ⊢
    refine wp_aload rfl rfl rfl ?_
    refine wp_getI rfl rfl rfl f9 rfl ?_
    refine wp_const rfl rfl ?_
    refine wp_isub rfl rfl ?_
    exact wp_retI rfl (Or.inl rfl) F
-- CensusOffice sessionAt (I)LCensusOffice$Session;
theorem m140 {d : Nat} {a0 : Nat} {a1 : Int32} {h : aH} {K : Nat → aH → Prop} {X : Nat → aH → Prop} (F : gK h a0 = 1 ∧ 8 ≤ (gR h a0 5) ∧ gK h (gR h a0 5) = 13 ∧ CI d 65 [vR (gR h a0 5)] h (fun y0 h0 => CV d 29 [vI a1, vI y0] h0 (fun h1 => gK h1 a0 = 1 ∧ 8 ≤ (gR h1 a0 5) ∧ gK h1 (gR h1 a0 5) = 13 ∧ CR d 119 [vR (gR h1 a0 5), vI a1] h1 (fun q0 h2 => (q0 = 0 ∨ gK h2 q0 = 10) ∧ K q0 h2) X) X) X) : CR (d + 1) 140 [vR a0, vI a1] h K X := by
  show Wp (d + 1) 140 (0, [some (vR a0), some (vI a1)], [], h) (RR K X)
  refine wp_iload rfl rfl rfl ?_
  refine wp_aload rfl rfl rfl ?_
  obtain ⟨f0, F⟩ := F
  refine wp_getR rfl rfl rfl f0 rfl ?_
  obtain ⟨f1, F⟩ := F
  obtain ⟨f2, F⟩ := F
  refine wp_callI rfl rfl rfl (rcv_v f1 f2 (by decide) (by decide)) rfl rfl rfl rfl ?_
  refine CI.mono F (fun y0 h0 F => ?_) (fun _ _ w => rx_R w)
  refine wp_callV rfl rfl rfl rfl rfl rfl rfl rfl ?_
  refine CV.mono F (fun h1 F => ?_) (fun _ _ w => rx_R w)
  refine wp_aload rfl rfl rfl ?_
  obtain ⟨f3, F⟩ := F
  refine wp_getR rfl rfl rfl f3 rfl ?_
  refine wp_iload rfl rfl rfl ?_
  obtain ⟨f4, F⟩ := F
  obtain ⟨f5, F⟩ := F
  refine wp_callR rfl rfl rfl (rcv_v f4 f5 (by decide) (by decide)) rfl rfl rfl rfl ?_
  refine CR.mono F (fun q0 h2 F => ?_) (fun _ _ w => rx_R w)
  refine wp_cast rfl F.1 rfl ?_
  replace F := F.2
  exact wp_retR rfl F
-- CensusOffice$Form has (I)Z
theorem m141 {d : Nat} {a0 : Nat} {a1 : Int32} {h : aH} {K : Int32 → aH → Prop} {X : Nat → aH → Prop} (F : ((a1.toInt < 0 → K 0 h) ∧ (¬ a1.toInt < 0 → gK h a0 = 3 ∧ ((a1.toInt < (gI h a0 11).toInt → K 1 h) ∧ (¬ a1.toInt < (gI h a0 11).toInt → K 0 h))))) : CI d 141 [vR a0, vI a1] h K X := by
  show Wp d 141 (0, [some (vR a0), some (vI a1)], [], h) (RI K X)
  refine wp_iload rfl rfl rfl ?_
  refine wp_if_lt rfl rfl rfl rfl (fun c => ?_) (fun c => ?_)
  · replace F := F.1 c
    refine wp_const' (L' := [none, none]) rfl rfl rfl ?_
    exact wp_retI rfl (Or.inr rfl) F
  · replace F := F.2 c
    refine wp_iload rfl rfl rfl ?_
    refine wp_aload rfl rfl rfl ?_
    obtain ⟨f0, F⟩ := F
    refine wp_getI rfl rfl rfl f0 rfl ?_
    refine wp_icmp_ge rfl rfl rfl rfl rfl (fun c => ?_) (fun c => ?_)
    · replace F := F.1 c
      refine wp_const rfl rfl ?_
      refine wp_goto rfl rfl ?_
      exact wp_retI rfl (Or.inr rfl) F
    · replace F := F.2 c
      refine wp_const' (L' := [none, none]) rfl rfl rfl ?_
      exact wp_retI rfl (Or.inr rfl) F
-- CensusOffice$Session asked ()I
theorem m142 {d : Nat} {a0 : Nat} {h : aH} {K : Int32 → aH → Prop} {X : Nat → aH → Prop} (F : gK h a0 = 10 ∧ 8 ≤ (gR h a0 0) ∧ gK h (gR h a0 0) = 3 ∧ CI d 141 [vR (gR h a0 0), vI (gI h a0 6)] h (fun y0 h0 => ((y0.toInt = 0 → K (-1) h0) ∧ (¬ y0.toInt = 0 → gK h0 a0 = 10 ∧ K (gI h0 a0 6) h0))) X) : CI (d + 1) 142 [vR a0] h K X := by
  show Wp (d + 1) 142 (0, [some (vR a0)], [], h) (RI K X)
  refine wp_aload rfl rfl rfl ?_
  obtain ⟨f0, F⟩ := F
  refine wp_getR rfl rfl rfl f0 rfl ?_
  refine wp_aload rfl rfl rfl ?_
  refine wp_getI rfl rfl rfl f0 rfl ?_
  obtain ⟨f1, F⟩ := F
  obtain ⟨f2, F⟩ := F
  refine wp_callI rfl rfl rfl (rcv_v f1 f2 (by decide) (by decide)) rfl rfl rfl rfl ?_
  refine CI.mono F (fun y0 h0 F => ?_) (fun _ _ w => rx_I w)
  refine wp_if_eq rfl rfl rfl rfl (fun c => ?_) (fun c => ?_)
  · replace F := F.1 c
    refine wp_const' (L' := [none]) rfl rfl rfl ?_
    exact wp_retI rfl (Or.inl rfl) F
  · replace F := F.2 c
    refine wp_aload rfl rfl rfl ?_
    obtain ⟨f3, F⟩ := F
    refine wp_getI rfl rfl rfl f3 rfl ?_
    refine wp_goto rfl rfl ?_
    exact wp_retI rfl (Or.inl rfl) F
-- CensusOffice question (I)I
theorem m143 {d : Nat} {a0 : Nat} {a1 : Int32} {h : aH} {K : Int32 → aH → Prop} {X : Nat → aH → Prop} (F : 8 ≤ a0 ∧ gK h a0 = 1 ∧ CR d 140 [vR a0, vI a1] h (fun q0 h0 => 8 ≤ q0 ∧ gK h0 q0 = 10 ∧ CI d 142 [vR q0] h0 (fun y0 h1 => K y0 h1) X) X) : CI (d + 1) 143 [vR a0, vI a1] h K X := by
  show Wp (d + 1) 143 (0, [some (vR a0), some (vI a1)], [], h) (RI K X)
  refine wp_aload rfl rfl rfl ?_
  refine wp_iload rfl rfl rfl ?_
  obtain ⟨f0, F⟩ := F
  obtain ⟨f1, F⟩ := F
  refine wp_callR rfl rfl rfl (rcv_v f0 f1 (by decide) (by decide)) rfl rfl rfl rfl ?_
  refine CR.mono F (fun q0 h0 F => ?_) (fun _ _ w => rx_I w)
  obtain ⟨f2, F⟩ := F
  obtain ⟨f3, F⟩ := F
  refine wp_callI rfl rfl rfl (rcv_v f2 f3 (by decide) (by decide)) rfl rfl rfl rfl ?_
  refine CI.mono F (fun y0 h1 F => ?_) (fun _ _ w => rx_I w)
  exact wp_retI rfl (Or.inl rfl) F
-- CensusOfficeLaw question (LCensusOffice;I[J)I
theorem m144 {d : Nat} {a0 : Nat} {a1 : Int32} {a2 : Nat} {h : aH} {K : Int32 → aH → Prop} {X : Nat → aH → Prop} (F : 8 ≤ a0 ∧ gK h a0 = 1 ∧ CI d 143 [vR a0, vI a1] h (fun y0 h0 => 8 ≤ a2 ∧ inB h0 101 a2 0 0 ∧ ∀ h1 : aH, h1 = pJ h0 a2 0 (y0.toInt64) → K 0 h1) (fun x9 h9 => (x9 = 3 ∧ K 1 h9))) : CI (d + 1) 144 [vR a0, vI a1, vR a2] h K X := by
  show Wp (d + 1) 144 (0, [some (vR a0), some (vI a1), some (vR a2), none], [], h) (RI K X)
  refine wp_aload rfl rfl rfl ?_
  refine wp_const rfl rfl ?_
  refine wp_aload rfl rfl rfl ?_
  refine wp_iload rfl rfl rfl ?_
  obtain ⟨f0, F⟩ := F
  obtain ⟨f1, F⟩ := F
  refine wp_callhI (X := (fun x9 h9 => (x9 = 3 ∧ K 1 h9))) rfl rfl rfl (rcv_v f0 f1 (by decide) (by decide)) rfl rfl rfl (fun x9 h9 F => ?_) ?_
  · rcases F with ⟨rfl, F⟩
    · refine ⟨12, rfl, ?_⟩
      refine wp_astoreJ' (L' := [none, none, none, none]) (L2 := [none, none, none, some vJ]) rfl rfl rfl rfl rfl ?_
      refine wp_const rfl rfl ?_
      exact wp_retI rfl (Or.inl rfl) F
  · refine CI.mono F (fun y0 h0 F => ?_) (fun _ _ w => w)
    refine wp_i2l rfl rfl ?_
    obtain ⟨f2, F⟩ := F
    obtain ⟨b9, F⟩ := F
    refine wp_lastore rfl f2 b9 rfl ?_
    replace F := F _ rfl
    generalize pJ h0 a2 0 (y0.toInt64) = h1 at F ⊢
    refine wp_goto rfl rfl ?_
    refine wp_const' (L' := [none, none, none, none]) rfl rfl rfl ?_
    exact wp_retI rfl (Or.inl rfl) F
-- CensusOfficeModel isSession (I)Z
theorem m145 {d : Nat} {a0 : Nat} {a1 : Int32} {h : aH} {K : Int32 → aH → Prop} {X : Nat → aH → Prop} (F : gK h a0 = 14 ∧ CI d 14 [vL (a1.toInt64), vL 0, vL (((gI h a0 38) - 1).toInt64)] h (fun y0 h0 => y0 &&& 1 = y0 ∧ K y0 h0) X) : CI (d + 1) 145 [vR a0, vI a1] h K X := by
  show Wp (d + 1) 145 (0, [some (vR a0), some (vI a1)], [], h) (RI K X)
  refine wp_iload rfl rfl rfl ?_
  refine wp_i2l rfl rfl ?_
  refine wp_const rfl rfl ?_
  refine wp_aload rfl rfl rfl ?_
  obtain ⟨f0, F⟩ := F
  refine wp_getI rfl rfl rfl f0 rfl ?_
  refine wp_const rfl rfl ?_
  refine wp_isub rfl rfl ?_
  refine wp_i2l rfl rfl ?_
  refine wp_callI rfl rfl rfl rfl rfl rfl rfl rfl ?_
  refine CI.mono F (fun y0 h0 F => ?_) (fun _ _ w => rx_I w)
  exact wp_retI rfl (Or.inr F.1) F.2
-- CensusOfficeModel sum (II)I
theorem m146 {d : Nat} {a0 : Nat} {a1 : Int32} {a2 : Int32} {h : aH} {K : Int32 → aH → Prop} {X : Nat → aH → Prop} (F : 8 ≤ a0 ∧ gK h a0 = 14 ∧ ∀ h0 : aH, h0 = pI h a0 36 a1 → Wp (d + 1) 146 (13, [some (vR a0), none, some (vI a2), some (vL 0), none, some (vI 0), some (vI 1), none], [], h0) (RI K X)) : CI (d + 1) 146 [vR a0, vI a1, vI a2] h K X := by
  show Wp (d + 1) 146 (0, [some (vR a0), some (vI a1), some (vI a2), none, none, none, none, none], [], h) (RI K X)
  refine wp_const rfl rfl ?_
  refine wp_lstore (L2 := [some (vR a0), some (vI a1), some (vI a2), some (vL 0), none, none, none, none]) rfl rfl rfl rfl ?_
  refine wp_const rfl rfl ?_
  refine wp_istore (L2 := [some (vR a0), some (vI a1), some (vI a2), some (vL 0), none, some (vI 0), none, none]) rfl rfl rfl rfl ?_
  refine wp_const rfl rfl ?_
  refine wp_istore (L2 := [some (vR a0), some (vI a1), some (vI a2), some (vL 0), none, some (vI 0), some (vI 1), none]) rfl rfl rfl rfl ?_
  refine wp_aload rfl rfl rfl ?_
  refine wp_iload rfl rfl rfl ?_
  obtain ⟨f0, F⟩ := F
  obtain ⟨f1, F⟩ := F
  refine wp_putI rfl rfl rfl f0 f1 rfl ?_
  have f2 : gK (pI h a0 36 a1) a0 = 14 := (gK_pI _ _ _ _ _).trans f1
  replace F := F _ rfl
  generalize pI h a0 36 a1 = h0 at F f2 ⊢
  refine wp_kill (L' := [some (vR a0), none, some (vI a2), some (vL 0), none, some (vI 0), some (vI 1), none]) rfl rfl ?_
  exact F
theorem w146_13 {d : Nat} {l0 : Nat} {l2 : Int32} {l3 : Int64} {l5 : Int32} {l6 : Int32} {h : aH} {K : Int32 → aH → Prop} {X : Nat → aH → Prop} (F : gK h l0 = 14 ∧ (((gI h l0 36).toInt < l2.toInt → ∃ i0 : Nat, inB h 100 (gR h l0 25) (gI h l0 36) i0 ∧ ((4 < (gI h (gR h l0 25) i0).toInt → Wp (d + 1) 146 (182, [none, none, none, some (vL l3), none, some (vI l5), none, none], [], h) (RI K X)) ∧ (¬ 4 < (gI h (gR h l0 25) i0).toInt → ∃ i1 : Nat, inB h 100 (gR h l0 25) (gI h l0 36) i1 ∧ (((gI h (gR h l0 25) i1).toInt < 3 → ∃ i2 : Nat, inB h 100 (gR h l0 25) (gI h l0 36) i2 ∧ (((gI h (gR h l0 25) i2).toInt = 0 → ∃ i3 : Nat, inB h 100 (gR h l0 26) (gI h l0 36) i3 ∧ ∀ v0 : Int32, v0 = gI h (gR h l0 26) i3 → ((l5.toInt = 0 → ((v0.toInt = (-2000000) → ∀ v1 : Int64, v1 = l3 + ((l6.toInt64) * (v0.toInt64)) → 8 ≤ l0 ∧ ∀ h0 : aH, h0 = pI h l0 36 ((gI h l0 36) + 1) → Wp (d + 1) 146 (13, [some (vR l0), none, some (vI l2), some (vL v1), none, some (vI 1), some (vI l6), none], [], h0) (RI K X)) ∧ (¬ v0.toInt = (-2000000) → ∀ v2 : Int64, v2 = l3 + ((l6.toInt64) * (v0.toInt64)) → 8 ≤ l0 ∧ ∀ h1 : aH, h1 = pI h l0 36 ((gI h l0 36) + 1) → Wp (d + 1) 146 (13, [some (vR l0), none, some (vI l2), some (vL v2), none, some (vI 0), some (vI l6), none], [], h1) (RI K X)))) ∧ (¬ l5.toInt = 0 → ∀ v3 : Int64, v3 = l3 + ((l6.toInt64) * (v0.toInt64)) → 8 ≤ l0 ∧ ∀ h2 : aH, h2 = pI h l0 36 ((gI h l0 36) + 1) → Wp (d + 1) 146 (13, [some (vR l0), none, some (vI l2), some (vL v3), none, some (vI 1), some (vI l6), none], [], h2) (RI K X)))) ∧ (¬ (gI h (gR h l0 25) i2).toInt = 0 → ∃ i4 : Nat, inB h 100 (gR h l0 25) (gI h l0 36) i4 ∧ (((gI h (gR h l0 25) i4).toInt = 1 → ∃ i5 : Nat, inB h 100 (gR h l0 26) (gI h l0 36) i5 ∧ ∃ i6 : Nat, inB h 100 (gR h l0 34) (gI h (gR h l0 26) i5) i6 ∧ ∀ v4 : Int32, v4 = gI h (gR h l0 34) i6 → ((l5.toInt = 0 → ((v4.toInt = (-2000000) → ∀ v5 : Int64, v5 = l3 + ((l6.toInt64) * (v4.toInt64)) → 8 ≤ l0 ∧ ∀ h3 : aH, h3 = pI h l0 36 ((gI h l0 36) + 1) → Wp (d + 1) 146 (13, [some (vR l0), none, some (vI l2), some (vL v5), none, some (vI 1), some (vI l6), none], [], h3) (RI K X)) ∧ (¬ v4.toInt = (-2000000) → ∀ v6 : Int64, v6 = l3 + ((l6.toInt64) * (v4.toInt64)) → 8 ≤ l0 ∧ ∀ h4 : aH, h4 = pI h l0 36 ((gI h l0 36) + 1) → Wp (d + 1) 146 (13, [some (vR l0), none, some (vI l2), some (vL v6), none, some (vI 0), some (vI l6), none], [], h4) (RI K X)))) ∧ (¬ l5.toInt = 0 → ∀ v7 : Int64, v7 = l3 + ((l6.toInt64) * (v4.toInt64)) → 8 ≤ l0 ∧ ∀ h5 : aH, h5 = pI h l0 36 ((gI h l0 36) + 1) → Wp (d + 1) 146 (13, [some (vR l0), none, some (vI l2), some (vL v7), none, some (vI 1), some (vI l6), none], [], h5) (RI K X)))) ∧ (¬ (gI h (gR h l0 25) i4).toInt = 1 → ∃ i7 : Nat, inB h 100 (gR h l0 26) (gI h l0 36) i7 ∧ ∃ i8 : Nat, inB h 100 (gR h l0 35) (gI h (gR h l0 26) i7) i8 ∧ ∀ v8 : Int32, v8 = gI h (gR h l0 35) i8 → ((l5.toInt = 0 → ((v8.toInt = (-2000000) → ∀ v9 : Int64, v9 = l3 + ((l6.toInt64) * (v8.toInt64)) → 8 ≤ l0 ∧ ∀ h6 : aH, h6 = pI h l0 36 ((gI h l0 36) + 1) → Wp (d + 1) 146 (13, [some (vR l0), none, some (vI l2), some (vL v9), none, some (vI 1), some (vI l6), none], [], h6) (RI K X)) ∧ (¬ v8.toInt = (-2000000) → ∀ v10 : Int64, v10 = l3 + ((l6.toInt64) * (v8.toInt64)) → 8 ≤ l0 ∧ ∀ h7 : aH, h7 = pI h l0 36 ((gI h l0 36) + 1) → Wp (d + 1) 146 (13, [some (vR l0), none, some (vI l2), some (vL v10), none, some (vI 0), some (vI l6), none], [], h7) (RI K X)))) ∧ (¬ l5.toInt = 0 → ∀ v11 : Int64, v11 = l3 + ((l6.toInt64) * (v8.toInt64)) → 8 ≤ l0 ∧ ∀ h8 : aH, h8 = pI h l0 36 ((gI h l0 36) + 1) → Wp (d + 1) 146 (13, [some (vR l0), none, some (vI l2), some (vL v11), none, some (vI 1), some (vI l6), none], [], h8) (RI K X)))))))) ∧ (¬ (gI h (gR h l0 25) i1).toInt < 3 → ∃ i9 : Nat, inB h 100 (gR h l0 25) (gI h l0 36) i9 ∧ (((gI h (gR h l0 25) i9).toInt = 3 → 8 ≤ l0 ∧ ∀ h9 : aH, h9 = pI h l0 36 ((gI h l0 36) + 1) → Wp (d + 1) 146 (13, [some (vR l0), none, some (vI l2), some (vL l3), none, some (vI l5), some (vI 1), none], [], h9) (RI K X)) ∧ (¬ (gI h (gR h l0 25) i9).toInt = 3 → 8 ≤ l0 ∧ ∀ h10 : aH, h10 = pI h l0 36 ((gI h l0 36) + 1) → Wp (d + 1) 146 (13, [some (vR l0), none, some (vI l2), some (vL l3), none, some (vI l5), some (vI (-1)), none], [], h10) (RI K X)))))))) ∧ (¬ (gI h l0 36).toInt < l2.toInt → Wp (d + 1) 146 (182, [none, none, none, some (vL l3), none, some (vI l5), none, none], [], h) (RI K X)))) : Wp (d + 1) 146 (13, [some (vR l0), none, some (vI l2), some (vL l3), none, some (vI l5), some (vI l6), none], [], h) (RI K X) := by
  refine wp_aload' (L' := [some (vR l0), none, some (vI l2), some (vL l3), none, some (vI l5), some (vI l6), none]) rfl rfl rfl rfl ?_
  obtain ⟨f0, F⟩ := F
  refine wp_getI rfl rfl rfl f0 rfl ?_
  refine wp_iload rfl rfl rfl ?_
  refine wp_icmp_ge rfl rfl rfl rfl rfl (fun c => ?_) (fun c => ?_)
  · replace F := F.1 c
    refine wp_aload rfl rfl rfl ?_
    refine wp_getR rfl rfl rfl f0 rfl ?_
    refine wp_aload rfl rfl rfl ?_
    refine wp_getI rfl rfl rfl f0 rfl ?_
    obtain ⟨i0, b9, F⟩ := F
    refine wp_iaload rfl b9 rfl ?_
    refine wp_const rfl rfl ?_
    refine wp_icmp_gt (Y := 4) rfl rfl rfl rfl rfl (fun c => ?_) (fun c => ?_)
    · replace F := F.1 c
      refine wp_kill (L' := [none, none, none, some (vL l3), none, some (vI l5), none, none]) rfl rfl ?_
      exact F
    · replace F := F.2 c
      refine wp_aload rfl rfl rfl ?_
      refine wp_getR rfl rfl rfl f0 rfl ?_
      refine wp_aload rfl rfl rfl ?_
      refine wp_getI rfl rfl rfl f0 rfl ?_
      obtain ⟨i1, b9, F⟩ := F
      refine wp_iaload rfl b9 rfl ?_
      refine wp_const rfl rfl ?_
      refine wp_icmp_lt (Y := 3) rfl rfl rfl rfl rfl (fun c => ?_) (fun c => ?_)
      · replace F := F.1 c
        refine wp_aload' (L' := [some (vR l0), none, some (vI l2), some (vL l3), none, some (vI l5), some (vI l6), none]) rfl rfl rfl rfl ?_
        refine wp_getR rfl rfl rfl f0 rfl ?_
        refine wp_aload rfl rfl rfl ?_
        refine wp_getI rfl rfl rfl f0 rfl ?_
        obtain ⟨i2, b9, F⟩ := F
        refine wp_iaload rfl b9 rfl ?_
        refine wp_if_ne rfl rfl rfl rfl (fun c => ?_) (fun c => ?_)
        · replace F := F.1 c
          refine wp_aload rfl rfl rfl ?_
          refine wp_getR rfl rfl rfl f0 rfl ?_
          refine wp_aload rfl rfl rfl ?_
          refine wp_getI rfl rfl rfl f0 rfl ?_
          obtain ⟨i3, b9, F⟩ := F
          refine wp_iaload rfl b9 rfl ?_
          refine wp_goto rfl rfl ?_
          replace F := F _ rfl
          generalize (gI h (gR h l0 26) i3 : Int32) = v0 at F ⊢
          refine wp_istore' (L' := [some (vR l0), none, some (vI l2), some (vL l3), none, some (vI l5), some (vI l6), none]) (L2 := [some (vR l0), none, some (vI l2), some (vL l3), none, some (vI l5), some (vI l6), some (vI v0)]) rfl rfl rfl rfl rfl ?_
          refine wp_iload rfl rfl rfl ?_
          refine wp_if_ne rfl rfl rfl rfl (fun c => ?_) (fun c => ?_)
          · replace F := F.1 c
            refine wp_iload rfl rfl rfl ?_
            refine wp_const rfl rfl ?_
            refine wp_icmp_ne (Y := (-2000000)) rfl rfl rfl rfl rfl (fun c => ?_) (fun c => ?_)
            · replace F := F.1 c
              refine wp_const' (L' := [some (vR l0), none, some (vI l2), some (vL l3), none, none, some (vI l6), some (vI v0)]) rfl rfl rfl ?_
              refine wp_goto rfl rfl ?_
              refine wp_istore' (L' := [some (vR l0), none, some (vI l2), some (vL l3), none, none, some (vI l6), some (vI v0)]) (L2 := [some (vR l0), none, some (vI l2), some (vL l3), none, some (vI 1), some (vI l6), some (vI v0)]) rfl rfl rfl rfl rfl ?_
              refine wp_lload rfl rfl rfl ?_
              refine wp_iload rfl rfl rfl ?_
              refine wp_i2l rfl rfl ?_
              refine wp_iload rfl rfl rfl ?_
              refine wp_i2l rfl rfl ?_
              refine wp_lmul rfl rfl ?_
              refine wp_ladd rfl rfl ?_
              replace F := F _ rfl
              generalize (l3 + ((l6.toInt64) * (v0.toInt64)) : Int64) = v1 at F ⊢
              refine wp_lstore (L2 := [some (vR l0), none, some (vI l2), some (vL v1), none, some (vI 1), some (vI l6), some (vI v0)]) rfl rfl rfl rfl ?_
              refine wp_aload' (L' := [some (vR l0), none, some (vI l2), some (vL v1), none, some (vI 1), some (vI l6), none]) rfl rfl rfl rfl ?_
              refine wp_dup rfl rfl rfl ?_
              refine wp_getI rfl rfl rfl f0 rfl ?_
              refine wp_const rfl rfl ?_
              refine wp_iadd rfl rfl ?_
              obtain ⟨f1, F⟩ := F
              refine wp_putI rfl rfl rfl f1 f0 rfl ?_
              have f2 : gK (pI h l0 36 ((gI h l0 36) + 1)) l0 = 14 := (gK_pI _ _ _ _ _).trans f0
              replace F := F _ rfl
              generalize pI h l0 36 ((gI h l0 36) + 1) = h0 at F f2 ⊢
              refine wp_goto rfl rfl ?_
              exact F
            · replace F := F.2 c
              refine wp_const' (L' := [some (vR l0), none, some (vI l2), some (vL l3), none, none, some (vI l6), some (vI v0)]) rfl rfl rfl ?_
              refine wp_istore' (L' := [some (vR l0), none, some (vI l2), some (vL l3), none, none, some (vI l6), some (vI v0)]) (L2 := [some (vR l0), none, some (vI l2), some (vL l3), none, some (vI 0), some (vI l6), some (vI v0)]) rfl rfl rfl rfl rfl ?_
              refine wp_lload rfl rfl rfl ?_
              refine wp_iload rfl rfl rfl ?_
              refine wp_i2l rfl rfl ?_
              refine wp_iload rfl rfl rfl ?_
              refine wp_i2l rfl rfl ?_
              refine wp_lmul rfl rfl ?_
              refine wp_ladd rfl rfl ?_
              replace F := F _ rfl
              generalize (l3 + ((l6.toInt64) * (v0.toInt64)) : Int64) = v2 at F ⊢
              refine wp_lstore (L2 := [some (vR l0), none, some (vI l2), some (vL v2), none, some (vI 0), some (vI l6), some (vI v0)]) rfl rfl rfl rfl ?_
              refine wp_aload' (L' := [some (vR l0), none, some (vI l2), some (vL v2), none, some (vI 0), some (vI l6), none]) rfl rfl rfl rfl ?_
              refine wp_dup rfl rfl rfl ?_
              refine wp_getI rfl rfl rfl f0 rfl ?_
              refine wp_const rfl rfl ?_
              refine wp_iadd rfl rfl ?_
              obtain ⟨f3, F⟩ := F
              refine wp_putI rfl rfl rfl f3 f0 rfl ?_
              have f4 : gK (pI h l0 36 ((gI h l0 36) + 1)) l0 = 14 := (gK_pI _ _ _ _ _).trans f0
              replace F := F _ rfl
              generalize pI h l0 36 ((gI h l0 36) + 1) = h1 at F f4 ⊢
              refine wp_goto rfl rfl ?_
              exact F
          · replace F := F.2 c
            refine wp_const' (L' := [some (vR l0), none, some (vI l2), some (vL l3), none, none, some (vI l6), some (vI v0)]) rfl rfl rfl ?_
            refine wp_goto rfl rfl ?_
            refine wp_istore' (L' := [some (vR l0), none, some (vI l2), some (vL l3), none, none, some (vI l6), some (vI v0)]) (L2 := [some (vR l0), none, some (vI l2), some (vL l3), none, some (vI 1), some (vI l6), some (vI v0)]) rfl rfl rfl rfl rfl ?_
            refine wp_lload rfl rfl rfl ?_
            refine wp_iload rfl rfl rfl ?_
            refine wp_i2l rfl rfl ?_
            refine wp_iload rfl rfl rfl ?_
            refine wp_i2l rfl rfl ?_
            refine wp_lmul rfl rfl ?_
            refine wp_ladd rfl rfl ?_
            replace F := F _ rfl
            generalize (l3 + ((l6.toInt64) * (v0.toInt64)) : Int64) = v3 at F ⊢
            refine wp_lstore (L2 := [some (vR l0), none, some (vI l2), some (vL v3), none, some (vI 1), some (vI l6), some (vI v0)]) rfl rfl rfl rfl ?_
            refine wp_aload' (L' := [some (vR l0), none, some (vI l2), some (vL v3), none, some (vI 1), some (vI l6), none]) rfl rfl rfl rfl ?_
            refine wp_dup rfl rfl rfl ?_
            refine wp_getI rfl rfl rfl f0 rfl ?_
            refine wp_const rfl rfl ?_
            refine wp_iadd rfl rfl ?_
            obtain ⟨f5, F⟩ := F
            refine wp_putI rfl rfl rfl f5 f0 rfl ?_
            have f6 : gK (pI h l0 36 ((gI h l0 36) + 1)) l0 = 14 := (gK_pI _ _ _ _ _).trans f0
            replace F := F _ rfl
            generalize pI h l0 36 ((gI h l0 36) + 1) = h2 at F f6 ⊢
            refine wp_goto rfl rfl ?_
            exact F
        · replace F := F.2 c
          refine wp_aload' (L' := [some (vR l0), none, some (vI l2), some (vL l3), none, some (vI l5), some (vI l6), none]) rfl rfl rfl rfl ?_
          refine wp_getR rfl rfl rfl f0 rfl ?_
          refine wp_aload rfl rfl rfl ?_
          refine wp_getI rfl rfl rfl f0 rfl ?_
          obtain ⟨i4, b9, F⟩ := F
          refine wp_iaload rfl b9 rfl ?_
          refine wp_const rfl rfl ?_
          refine wp_icmp_ne (Y := 1) rfl rfl rfl rfl rfl (fun c => ?_) (fun c => ?_)
          · replace F := F.1 c
            refine wp_aload rfl rfl rfl ?_
            refine wp_getR rfl rfl rfl f0 rfl ?_
            refine wp_aload rfl rfl rfl ?_
            refine wp_getR rfl rfl rfl f0 rfl ?_
            refine wp_aload rfl rfl rfl ?_
            refine wp_getI rfl rfl rfl f0 rfl ?_
            obtain ⟨i5, b9, F⟩ := F
            refine wp_iaload rfl b9 rfl ?_
            obtain ⟨i6, b9, F⟩ := F
            refine wp_iaload rfl b9 rfl ?_
            refine wp_goto rfl rfl ?_
            replace F := F _ rfl
            generalize (gI h (gR h l0 34) i6 : Int32) = v4 at F ⊢
            refine wp_istore' (L' := [some (vR l0), none, some (vI l2), some (vL l3), none, some (vI l5), some (vI l6), none]) (L2 := [some (vR l0), none, some (vI l2), some (vL l3), none, some (vI l5), some (vI l6), some (vI v4)]) rfl rfl rfl rfl rfl ?_
            refine wp_iload rfl rfl rfl ?_
            refine wp_if_ne rfl rfl rfl rfl (fun c => ?_) (fun c => ?_)
            · replace F := F.1 c
              refine wp_iload rfl rfl rfl ?_
              refine wp_const rfl rfl ?_
              refine wp_icmp_ne (Y := (-2000000)) rfl rfl rfl rfl rfl (fun c => ?_) (fun c => ?_)
              · replace F := F.1 c
                refine wp_const' (L' := [some (vR l0), none, some (vI l2), some (vL l3), none, none, some (vI l6), some (vI v4)]) rfl rfl rfl ?_
                refine wp_goto rfl rfl ?_
                refine wp_istore' (L' := [some (vR l0), none, some (vI l2), some (vL l3), none, none, some (vI l6), some (vI v4)]) (L2 := [some (vR l0), none, some (vI l2), some (vL l3), none, some (vI 1), some (vI l6), some (vI v4)]) rfl rfl rfl rfl rfl ?_
                refine wp_lload rfl rfl rfl ?_
                refine wp_iload rfl rfl rfl ?_
                refine wp_i2l rfl rfl ?_
                refine wp_iload rfl rfl rfl ?_
                refine wp_i2l rfl rfl ?_
                refine wp_lmul rfl rfl ?_
                refine wp_ladd rfl rfl ?_
                replace F := F _ rfl
                generalize (l3 + ((l6.toInt64) * (v4.toInt64)) : Int64) = v5 at F ⊢
                refine wp_lstore (L2 := [some (vR l0), none, some (vI l2), some (vL v5), none, some (vI 1), some (vI l6), some (vI v4)]) rfl rfl rfl rfl ?_
                refine wp_aload' (L' := [some (vR l0), none, some (vI l2), some (vL v5), none, some (vI 1), some (vI l6), none]) rfl rfl rfl rfl ?_
                refine wp_dup rfl rfl rfl ?_
                refine wp_getI rfl rfl rfl f0 rfl ?_
                refine wp_const rfl rfl ?_
                refine wp_iadd rfl rfl ?_
                obtain ⟨f7, F⟩ := F
                refine wp_putI rfl rfl rfl f7 f0 rfl ?_
                have f8 : gK (pI h l0 36 ((gI h l0 36) + 1)) l0 = 14 := (gK_pI _ _ _ _ _).trans f0
                replace F := F _ rfl
                generalize pI h l0 36 ((gI h l0 36) + 1) = h3 at F f8 ⊢
                refine wp_goto rfl rfl ?_
                exact F
              · replace F := F.2 c
                refine wp_const' (L' := [some (vR l0), none, some (vI l2), some (vL l3), none, none, some (vI l6), some (vI v4)]) rfl rfl rfl ?_
                refine wp_istore' (L' := [some (vR l0), none, some (vI l2), some (vL l3), none, none, some (vI l6), some (vI v4)]) (L2 := [some (vR l0), none, some (vI l2), some (vL l3), none, some (vI 0), some (vI l6), some (vI v4)]) rfl rfl rfl rfl rfl ?_
                refine wp_lload rfl rfl rfl ?_
                refine wp_iload rfl rfl rfl ?_
                refine wp_i2l rfl rfl ?_
                refine wp_iload rfl rfl rfl ?_
                refine wp_i2l rfl rfl ?_
                refine wp_lmul rfl rfl ?_
                refine wp_ladd rfl rfl ?_
                replace F := F _ rfl
                generalize (l3 + ((l6.toInt64) * (v4.toInt64)) : Int64) = v6 at F ⊢
                refine wp_lstore (L2 := [some (vR l0), none, some (vI l2), some (vL v6), none, some (vI 0), some (vI l6), some (vI v4)]) rfl rfl rfl rfl ?_
                refine wp_aload' (L' := [some (vR l0), none, some (vI l2), some (vL v6), none, some (vI 0), some (vI l6), none]) rfl rfl rfl rfl ?_
                refine wp_dup rfl rfl rfl ?_
                refine wp_getI rfl rfl rfl f0 rfl ?_
                refine wp_const rfl rfl ?_
                refine wp_iadd rfl rfl ?_
                obtain ⟨f9, F⟩ := F
                refine wp_putI rfl rfl rfl f9 f0 rfl ?_
                have f10 : gK (pI h l0 36 ((gI h l0 36) + 1)) l0 = 14 := (gK_pI _ _ _ _ _).trans f0
                replace F := F _ rfl
                generalize pI h l0 36 ((gI h l0 36) + 1) = h4 at F f10 ⊢
                refine wp_goto rfl rfl ?_
                exact F
            · replace F := F.2 c
              refine wp_const' (L' := [some (vR l0), none, some (vI l2), some (vL l3), none, none, some (vI l6), some (vI v4)]) rfl rfl rfl ?_
              refine wp_goto rfl rfl ?_
              refine wp_istore' (L' := [some (vR l0), none, some (vI l2), some (vL l3), none, none, some (vI l6), some (vI v4)]) (L2 := [some (vR l0), none, some (vI l2), some (vL l3), none, some (vI 1), some (vI l6), some (vI v4)]) rfl rfl rfl rfl rfl ?_
              refine wp_lload rfl rfl rfl ?_
              refine wp_iload rfl rfl rfl ?_
              refine wp_i2l rfl rfl ?_
              refine wp_iload rfl rfl rfl ?_
              refine wp_i2l rfl rfl ?_
              refine wp_lmul rfl rfl ?_
              refine wp_ladd rfl rfl ?_
              replace F := F _ rfl
              generalize (l3 + ((l6.toInt64) * (v4.toInt64)) : Int64) = v7 at F ⊢
              refine wp_lstore (L2 := [some (vR l0), none, some (vI l2), some (vL v7), none, some (vI 1), some (vI l6), some (vI v4)]) rfl rfl rfl rfl ?_
              refine wp_aload' (L' := [some (vR l0), none, some (vI l2), some (vL v7), none, some (vI 1), some (vI l6), none]) rfl rfl rfl rfl ?_
              refine wp_dup rfl rfl rfl ?_
              refine wp_getI rfl rfl rfl f0 rfl ?_
              refine wp_const rfl rfl ?_
              refine wp_iadd rfl rfl ?_
              obtain ⟨f11, F⟩ := F
              refine wp_putI rfl rfl rfl f11 f0 rfl ?_
              have f12 : gK (pI h l0 36 ((gI h l0 36) + 1)) l0 = 14 := (gK_pI _ _ _ _ _).trans f0
              replace F := F _ rfl
              generalize pI h l0 36 ((gI h l0 36) + 1) = h5 at F f12 ⊢
              refine wp_goto rfl rfl ?_
              exact F
          · replace F := F.2 c
            refine wp_aload' (L' := [some (vR l0), none, some (vI l2), some (vL l3), none, some (vI l5), some (vI l6), none]) rfl rfl rfl rfl ?_
            refine wp_getR rfl rfl rfl f0 rfl ?_
            refine wp_aload rfl rfl rfl ?_
            refine wp_getR rfl rfl rfl f0 rfl ?_
            refine wp_aload rfl rfl rfl ?_
            refine wp_getI rfl rfl rfl f0 rfl ?_
            obtain ⟨i7, b9, F⟩ := F
            refine wp_iaload rfl b9 rfl ?_
            obtain ⟨i8, b9, F⟩ := F
            refine wp_iaload rfl b9 rfl ?_
            replace F := F _ rfl
            generalize (gI h (gR h l0 35) i8 : Int32) = v8 at F ⊢
            refine wp_istore' (L' := [some (vR l0), none, some (vI l2), some (vL l3), none, some (vI l5), some (vI l6), none]) (L2 := [some (vR l0), none, some (vI l2), some (vL l3), none, some (vI l5), some (vI l6), some (vI v8)]) rfl rfl rfl rfl rfl ?_
            refine wp_iload rfl rfl rfl ?_
            refine wp_if_ne rfl rfl rfl rfl (fun c => ?_) (fun c => ?_)
            · replace F := F.1 c
              refine wp_iload rfl rfl rfl ?_
              refine wp_const rfl rfl ?_
              refine wp_icmp_ne (Y := (-2000000)) rfl rfl rfl rfl rfl (fun c => ?_) (fun c => ?_)
              · replace F := F.1 c
                refine wp_const' (L' := [some (vR l0), none, some (vI l2), some (vL l3), none, none, some (vI l6), some (vI v8)]) rfl rfl rfl ?_
                refine wp_goto rfl rfl ?_
                refine wp_istore' (L' := [some (vR l0), none, some (vI l2), some (vL l3), none, none, some (vI l6), some (vI v8)]) (L2 := [some (vR l0), none, some (vI l2), some (vL l3), none, some (vI 1), some (vI l6), some (vI v8)]) rfl rfl rfl rfl rfl ?_
                refine wp_lload rfl rfl rfl ?_
                refine wp_iload rfl rfl rfl ?_
                refine wp_i2l rfl rfl ?_
                refine wp_iload rfl rfl rfl ?_
                refine wp_i2l rfl rfl ?_
                refine wp_lmul rfl rfl ?_
                refine wp_ladd rfl rfl ?_
                replace F := F _ rfl
                generalize (l3 + ((l6.toInt64) * (v8.toInt64)) : Int64) = v9 at F ⊢
                refine wp_lstore (L2 := [some (vR l0), none, some (vI l2), some (vL v9), none, some (vI 1), some (vI l6), some (vI v8)]) rfl rfl rfl rfl ?_
                refine wp_aload' (L' := [some (vR l0), none, some (vI l2), some (vL v9), none, some (vI 1), some (vI l6), none]) rfl rfl rfl rfl ?_
                refine wp_dup rfl rfl rfl ?_
                refine wp_getI rfl rfl rfl f0 rfl ?_
                refine wp_const rfl rfl ?_
                refine wp_iadd rfl rfl ?_
                obtain ⟨f13, F⟩ := F
                refine wp_putI rfl rfl rfl f13 f0 rfl ?_
                have f14 : gK (pI h l0 36 ((gI h l0 36) + 1)) l0 = 14 := (gK_pI _ _ _ _ _).trans f0
                replace F := F _ rfl
                generalize pI h l0 36 ((gI h l0 36) + 1) = h6 at F f14 ⊢
                refine wp_goto rfl rfl ?_
                exact F
              · replace F := F.2 c
                refine wp_const' (L' := [some (vR l0), none, some (vI l2), some (vL l3), none, none, some (vI l6), some (vI v8)]) rfl rfl rfl ?_
                refine wp_istore' (L' := [some (vR l0), none, some (vI l2), some (vL l3), none, none, some (vI l6), some (vI v8)]) (L2 := [some (vR l0), none, some (vI l2), some (vL l3), none, some (vI 0), some (vI l6), some (vI v8)]) rfl rfl rfl rfl rfl ?_
                refine wp_lload rfl rfl rfl ?_
                refine wp_iload rfl rfl rfl ?_
                refine wp_i2l rfl rfl ?_
                refine wp_iload rfl rfl rfl ?_
                refine wp_i2l rfl rfl ?_
                refine wp_lmul rfl rfl ?_
                refine wp_ladd rfl rfl ?_
                replace F := F _ rfl
                generalize (l3 + ((l6.toInt64) * (v8.toInt64)) : Int64) = v10 at F ⊢
                refine wp_lstore (L2 := [some (vR l0), none, some (vI l2), some (vL v10), none, some (vI 0), some (vI l6), some (vI v8)]) rfl rfl rfl rfl ?_
                refine wp_aload' (L' := [some (vR l0), none, some (vI l2), some (vL v10), none, some (vI 0), some (vI l6), none]) rfl rfl rfl rfl ?_
                refine wp_dup rfl rfl rfl ?_
                refine wp_getI rfl rfl rfl f0 rfl ?_
                refine wp_const rfl rfl ?_
                refine wp_iadd rfl rfl ?_
                obtain ⟨f15, F⟩ := F
                refine wp_putI rfl rfl rfl f15 f0 rfl ?_
                have f16 : gK (pI h l0 36 ((gI h l0 36) + 1)) l0 = 14 := (gK_pI _ _ _ _ _).trans f0
                replace F := F _ rfl
                generalize pI h l0 36 ((gI h l0 36) + 1) = h7 at F f16 ⊢
                refine wp_goto rfl rfl ?_
                exact F
            · replace F := F.2 c
              refine wp_const' (L' := [some (vR l0), none, some (vI l2), some (vL l3), none, none, some (vI l6), some (vI v8)]) rfl rfl rfl ?_
              refine wp_goto rfl rfl ?_
              refine wp_istore' (L' := [some (vR l0), none, some (vI l2), some (vL l3), none, none, some (vI l6), some (vI v8)]) (L2 := [some (vR l0), none, some (vI l2), some (vL l3), none, some (vI 1), some (vI l6), some (vI v8)]) rfl rfl rfl rfl rfl ?_
              refine wp_lload rfl rfl rfl ?_
              refine wp_iload rfl rfl rfl ?_
              refine wp_i2l rfl rfl ?_
              refine wp_iload rfl rfl rfl ?_
              refine wp_i2l rfl rfl ?_
              refine wp_lmul rfl rfl ?_
              refine wp_ladd rfl rfl ?_
              replace F := F _ rfl
              generalize (l3 + ((l6.toInt64) * (v8.toInt64)) : Int64) = v11 at F ⊢
              refine wp_lstore (L2 := [some (vR l0), none, some (vI l2), some (vL v11), none, some (vI 1), some (vI l6), some (vI v8)]) rfl rfl rfl rfl ?_
              refine wp_aload' (L' := [some (vR l0), none, some (vI l2), some (vL v11), none, some (vI 1), some (vI l6), none]) rfl rfl rfl rfl ?_
              refine wp_dup rfl rfl rfl ?_
              refine wp_getI rfl rfl rfl f0 rfl ?_
              refine wp_const rfl rfl ?_
              refine wp_iadd rfl rfl ?_
              obtain ⟨f17, F⟩ := F
              refine wp_putI rfl rfl rfl f17 f0 rfl ?_
              have f18 : gK (pI h l0 36 ((gI h l0 36) + 1)) l0 = 14 := (gK_pI _ _ _ _ _).trans f0
              replace F := F _ rfl
              generalize pI h l0 36 ((gI h l0 36) + 1) = h8 at F f18 ⊢
              refine wp_goto rfl rfl ?_
              exact F
      · replace F := F.2 c
        refine wp_aload rfl rfl rfl ?_
        refine wp_getR rfl rfl rfl f0 rfl ?_
        refine wp_aload rfl rfl rfl ?_
        refine wp_getI rfl rfl rfl f0 rfl ?_
        obtain ⟨i9, b9, F⟩ := F
        refine wp_iaload rfl b9 rfl ?_
        refine wp_const rfl rfl ?_
        refine wp_icmp_ne (Y := 3) rfl rfl rfl rfl rfl (fun c => ?_) (fun c => ?_)
        · replace F := F.1 c
          refine wp_const rfl rfl ?_
          refine wp_goto rfl rfl ?_
          refine wp_istore' (L' := [some (vR l0), none, some (vI l2), some (vL l3), none, some (vI l5), none, none]) (L2 := [some (vR l0), none, some (vI l2), some (vL l3), none, some (vI l5), some (vI 1), none]) rfl rfl rfl rfl rfl ?_
          refine wp_goto rfl rfl ?_
          refine wp_aload' (L' := [some (vR l0), none, some (vI l2), some (vL l3), none, some (vI l5), some (vI 1), none]) rfl rfl rfl rfl ?_
          refine wp_dup rfl rfl rfl ?_
          refine wp_getI rfl rfl rfl f0 rfl ?_
          refine wp_const rfl rfl ?_
          refine wp_iadd rfl rfl ?_
          obtain ⟨f19, F⟩ := F
          refine wp_putI rfl rfl rfl f19 f0 rfl ?_
          have f20 : gK (pI h l0 36 ((gI h l0 36) + 1)) l0 = 14 := (gK_pI _ _ _ _ _).trans f0
          replace F := F _ rfl
          generalize pI h l0 36 ((gI h l0 36) + 1) = h9 at F f20 ⊢
          refine wp_goto rfl rfl ?_
          exact F
        · replace F := F.2 c
          refine wp_const' (L' := [some (vR l0), none, some (vI l2), some (vL l3), none, some (vI l5), none, none]) rfl rfl rfl ?_
          refine wp_istore' (L' := [some (vR l0), none, some (vI l2), some (vL l3), none, some (vI l5), none, none]) (L2 := [some (vR l0), none, some (vI l2), some (vL l3), none, some (vI l5), some (vI (-1)), none]) rfl rfl rfl rfl rfl ?_
          refine wp_goto rfl rfl ?_
          refine wp_aload' (L' := [some (vR l0), none, some (vI l2), some (vL l3), none, some (vI l5), some (vI (-1)), none]) rfl rfl rfl rfl ?_
          refine wp_dup rfl rfl rfl ?_
          refine wp_getI rfl rfl rfl f0 rfl ?_
          refine wp_const rfl rfl ?_
          refine wp_iadd rfl rfl ?_
          obtain ⟨f21, F⟩ := F
          refine wp_putI rfl rfl rfl f21 f0 rfl ?_
          have f22 : gK (pI h l0 36 ((gI h l0 36) + 1)) l0 = 14 := (gK_pI _ _ _ _ _).trans f0
          replace F := F _ rfl
          generalize pI h l0 36 ((gI h l0 36) + 1) = h10 at F f22 ⊢
          refine wp_goto rfl rfl ?_
          exact F
  · replace F := F.2 c
    refine wp_kill (L' := [none, none, none, some (vL l3), none, some (vI l5), none, none]) rfl rfl ?_
    exact F
theorem w146_182 {d : Nat} {l3 : Int64} {l5 : Int32} {h : aH} {K : Int32 → aH → Prop} {X : Nat → aH → Prop} (F : ((l5.toInt = 0 → CI d 14 [vL l3, vL (-1000000), vL 1000000] h (fun y0 h0 => ((y0.toInt = 0 → K (-2000000) h0) ∧ (¬ y0.toInt = 0 → K (l3.toInt32) h0))) X) ∧ (¬ l5.toInt = 0 → K (-2000000) h))) : Wp (d + 1) 146 (182, [none, none, none, some (vL l3), none, some (vI l5), none, none], [], h) (RI K X) := by
  refine wp_iload' (L' := [none, none, none, some (vL l3), none, some (vI l5), none, none]) rfl rfl rfl rfl ?_
  refine wp_if_ne rfl rfl rfl rfl (fun c => ?_) (fun c => ?_)
  · replace F := F.1 c
    refine wp_lload rfl rfl rfl ?_
    refine wp_const rfl rfl ?_
    refine wp_const rfl rfl ?_
    refine wp_callI rfl rfl rfl rfl rfl rfl rfl rfl ?_
    refine CI.mono F (fun y0 h0 F => ?_) (fun _ _ w => rx_I w)
    refine wp_if_ne rfl rfl rfl rfl (fun c => ?_) (fun c => ?_)
    · replace F := F.1 c
      refine wp_const' (L' := [none, none, none, none, none, none, none, none]) rfl rfl rfl ?_
      refine wp_goto rfl rfl ?_
      exact wp_retI rfl (Or.inl rfl) F
    · replace F := F.2 c
      refine wp_lload' (L' := [none, none, none, some (vL l3), none, none, none, none]) rfl rfl rfl rfl ?_
      refine wp_l2i rfl rfl ?_
      exact wp_retI rfl (Or.inl rfl) F
  · replace F := F.2 c
    refine wp_const' (L' := [none, none, none, none, none, none, none, none]) rfl rfl rfl ?_
    refine wp_goto rfl rfl ?_
    exact wp_retI rfl (Or.inl rfl) F
