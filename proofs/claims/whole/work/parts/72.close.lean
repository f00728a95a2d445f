/-! CLOSE: the class's side, the model's side -/
section CLS
variable {d k f n nf ns nr U : Nat} {h g h1 h5 : aH} {A A1 A2 o o1 o2 : Nat → Nat} {X : Nat → aH → Prop} {M I : Nat → Nat → Int32} {J : Nat → Nat → Int64} {E : Nat → Nat → List Tm} {Cn : Nat → Nat → List Cmp}
abbrev eN (M : Nat → Nat → Int32) (E : Nat → Nat → List Tm) (Cn : Nat → Nat → List Cmp) (k : Nat) : Nat := enW (soM M (fS M k)) (E (fS M k)) (Cn (fS M k)) (gvM M k) (rgM M k) (cnM M (fS M k))
abbrev wN (M : Nat → Nat → Int32) (E : Nat → Nat → List Tm) (Cn : Nat → Nat → List Cmp) (k : Nat) : Nat → Int32 := wI (soM M (fS M k)) (E (fS M k)) (Cn (fS M k)) (gvM M k) (rgM M k) (eN M E Cn k)
/-- a record is new: the class's heap -/
def recN (h h5 : aH) (A A2 o o2 : Nat → Nat) (k nr : Nat) : Prop := listT h5 A2 o2 36 7 (nr + 1) 5 ∧ fr h h5 A A2 o o2 (fun c => c = 6 ∨ c = 7) ∧ (∀ l, l ≠ 7000035 → (l < bR nr ∨ bR nr + 3 ≤ l) → A2 l = A l) ∧ keeps h h5 (fun q => q = A (bS k) ∨ q = 36 ∨ (0 < nr ∧ q = A 7000035)) ∧ TR h5 A2 o2 nr ∧ (gR h5 (A2 (bR nr)) 0 = gR h (A (bS k)) 0 ∧ gR h5 (A2 (bR nr)) 2 = gR h (A (bS k)) 2 ∧ gI h5 (A2 (bR nr)) 1 = gI h (A (bS k)) 1) ∧ (∀ i, i < 20 → gI h5 (A2 (bR nr + 1)) i = gI h (A (bS k + 2)) i ∧ gI h5 (A2 (bR nr + 2)) i = 0) ∧ ((∀ j, gI h5 (A (bS k)) j = if j = 12 then 1 else gI h (A (bS k)) j) ∧ ∀ j, gR h5 (A (bS k)) j = gR h (A (bS k)) j) ∧ gN h5 ≤ gN h + 4 ∧ gT h5 ≤ gT h + 160
theorem c_close {K : Int32 → aH → Prop} (b : base h o) (F : FormA h A o (gI h) E Cn nf) (S : SessA h A o (gI h) E Cn nf ns U) (L : listT h A o 36 7 nr 5) (hk : k < ns) (hnr0 : (gI h 70 k).toInt = 0 ∧ eN (gI h) E Cn k = cnM (gI h) (fS (gI h) k) → nr < 60)
    (w1 : (gI h 70 k).toInt = 0 ∧ eN (gI h) E Cn k = cnM (gI h) (fS (gI h) k) → ∀ h5 A2 o2, recN h h5 A A2 o o2 k nr → K (nI nr) h5) (w2 : ¬ ((gI h 70 k).toInt = 0 ∧ eN (gI h) E Cn k = cnM (gI h) (fS (gI h) k)) → X 2 (gNew h 200 6)) : CI 500 169 [vR 8, vI (nI k)] h K X := by
  have X0 := sX_of F S hk
  have hs6 := S.2.1.2
  obtain ⟨s1, ⟨s2, s3⟩, s4, s5, ⟨s8, s9⟩, ⟨y1, y2, y3, y4⟩, ⟨c1, c2⟩, g1, g2, n1, n2⟩ := S.2.2.1 k hk
  have hle := en_le (so := soM (gI h) (fS (gI h) k)) (E := E (fS (gI h) k)) (Cn := Cn (fS (gI h) k)) (gv := gvM (gI h) k) (rg := rgM (gI h) k) (cnt := cnM (gI h) (fS (gI h) k))
  have c20 := (cn_of F _ s3).2
  have hkI : (nI k).toInt = k := ti_n (by omega)
  have q : 0 ≤ (k : Int) ∧ (k : Int) < ns := by omega
  have hN := b.1.1
  have N0 := nS_0 s1
  have L36 := L.1.2.2.2.2
  refine m169 ?_
  simp only [↓forall_eq, ↓inB_iff, gK_hU, gL_hU, gR_hU, gIh, gJh, pI_hU, pJ_hU, hU_hU, uI_app, uJ_app, and_true, true_and, and_false, false_and, and_self, true_implies, false_implies, not_true, not_false_iff, if_true, if_false, eq_self, Nat.reduceLeDiff, Nat.reduceEqDiff, reduceCtorEq, i32c, ti0, ti1, tiM, Int.natCast_nonneg, Int.reduceEq, Int.reduceLE, Int.reduceLT, Int.reduceNeg, tl_i, Int32.reduceToInt, Int64.reduceToInt, tiA, tlM6, Int.toNat_natCast, natc, nI_1, Int.zero_sub, implies_true, not_false_eq_true, ck_8 b.1, ↓sessionAt_br b S.1, hkI, q, eS_0 s1, kS_0 s1, c1, ↓asked_br X0 y4 hle]
  refine ⟨fun c => ?_, fun c => w2 (fun z => c z.1)⟩
  have en9 : eN (gI h) E Cn k = cnM (gI h) (fS (gI h) k) ∨ eN (gI h) E Cn k < cnM (gI h) (fS (gI h) k) := by
    have : eN (gI h) E Cn k ≤ cnM (gI h) (fS (gI h) k) := hle
    omega
  rcases en9 with e9 | e9
  · have hnr := hnr0 ⟨c, e9⟩
    have e8 : ¬ eN (gI h) E Cn k < cnM (gI h) (fS (gI h) k) := by omega
    simp only [↓forall_eq, ↓inB_iff, gK_hU, gL_hU, gR_hU, gIh, gJh, pI_hU, pJ_hU, hU_hU, uI_app, uJ_app, and_true, true_and, and_false, false_and, and_self, true_implies, false_implies, not_true, not_false_iff, if_true, if_false, eq_self, Nat.reduceLeDiff, Nat.reduceEqDiff, reduceCtorEq, i32c, ti0, ti1, tiM, Int.natCast_nonneg, Int.reduceEq, Int.reduceLE, Int.reduceLT, Int.reduceNeg, tl_i, Int32.reduceToInt, Int64.reduceToInt, tiA, tlM6, Int.toNat_natCast, natc, nI_1, Int.zero_sub, implies_true, not_false_eq_true, e8]
    simp only [r_eq, gN_pI, cr_8_6 b.1, ck_8 b.1, gR_pI, gK_pI]
    refine ⟨trivial, by omega, ?_⟩
    have n2 : A (bS k + 2) < gN h := nS_2 s1
    refine c_newRec (d := 497) (h := pI h (A (bS k)) 12 1) (q0 := A (bS k)) (by rw [gN_pI]; omega) ⟨by rw [gN_pI]; exact N0, by rw [gK_pI]; exact kS_0 s1⟩ (by simp only [gN_pI, gT_pI, gK_pI, gL_pI, gR_pI, gI_pI, gJ_pI, rS_0_3 s1]; exact ⟨n2, eS_2 s1, kS_2 s1, lS_2 s1⟩) (fun h4 k4 z1 z2 z3 z4 z5 z6 => ?_)
    simp only [gN_pI, gT_pI, gK_pI, gL_pI, gR_pI, gI_pI, gJ_pI] at z1 z2 z3 z4 z5 z6
    have kp : keeps h h4 (fun q => q = A (bS k)) := keeps_trans (keeps_pI h (A (bS k)) 12 1) (keeps_mono k4 (fun q _ w => w.elim))
    have s36 : gK h4 36 = 13 := by rw [(kp.2.2.1 36 (by omega)).1]; exact L.1.1
    have a36 : ¬ ((36 : Nat) = A (bS k)) := fun e => by
      have := (vS_0 s1).1
      rw [← e, L.1.2.2.2.1] at this
      unfold bS at this; omega
    have ad : 0 < nr → ¬ (A (7 * 1000000 + 35) = A (bS k)) := fun z e => by
      have := list_dat L z
      exact liv_ne this.2.1 (vS_0 s1) (by unfold bS; omega) e
    rw [s36]
    refine ⟨by decide, rfl, ?_⟩
    refine c_born (d := 493) (h := h) (A := A) (o := o) (m := 3) (σ := fun j => if j = 1 then 2 else if j = 2 then 1 else j) (τ := fun j => if j = 1 then 2 else if j = 2 then 1 else j) (C := fun c => c = 6 ∨ c = 7) (p := fun q => q = A (bS k)) L hnr (by decide) (by decide) kp (by omega) (by decide) (by decide) rfl z3.1 a36 ad (fun q _ e => by rw [e, (vS_0 s1).1]; exact Or.inl (by unfold bS; omega)) (Or.inr rfl) (fun h5 A2 o2 l5 f5 lb st k5 i5 gn gt => ?_)
    have h1a := lb 0 (by decide)
    have h1b := lb 1 (by decide)
    have h1c := lb 2 (by decide)
    have eb : 7 * 1000000 + 1000 + 100 * nr = bR nr := by unfold bR; omega
    rw [eb, if_neg (by decide), if_neg (by decide), Nat.add_zero, Nat.add_zero] at h1a
    rw [eb, if_pos rfl] at h1b
    rw [eb, if_neg (by decide), if_pos rfl] at h1c
    have nw : ∀ q, q = gN h ∨ q = gN h + 1 ∨ q = gN h + 2 → same h4 h5 q := fun q hq => k5.2.2.2 q (by omega) (by
      rintro (w | ⟨w0, w⟩)
      · omega
      · have := (list_dat L w0).2.1.2.2.1
        omega)
    have d0 := nw (gN h) (by omega)
    have d1 := nw (gN h + 1) (by omega)
    have d2 := nw (gN h + 2) (by omega)
    have N5 := k5.1
    have sS : same h4 h5 (A (bS k)) := k5.2.2.2 _ (by omega) (by
      rintro (w | ⟨w0, w⟩)
      · exact a36 w.symm
      · exact ad w0 w.symm)
    have s45 := k4.2.2.2 (A (bS k)) (by rw [gN_pI]; omega) (fun z => z)
    have fin := w1 ⟨c, e9⟩ h5 A2 o2 ⟨l5, f5, fun l h1 h2 => st l (by omega) (by rw [eb]; exact h2), ⟨f5.1.1, f5.1.2.1, f5.1.2.2.1, fun q hq hp => ?_⟩, ⟨fun q hq => ?_, fun q hq => ?_, fun q hq => ?_⟩, ⟨?_, ?_, ?_⟩, fun i hi => ⟨?_, ?_⟩, ⟨fun j => ?_, fun j => ?_⟩, by omega, by omega⟩
    · have c8 : gK h5 8 = 1 := by rw [(f5.1.2.2.1 8 (by omega)).1]; exact ck_8 b.1
      have r8 : gR h5 8 6 = 36 := by
        have s8 := fr_same f5 (a := 8) (by omega) (by rw [ol_8 b.2.2]; decide)
        rw [s8.2.2.2.2]; exact cr_8_6 b.1
      rw [c8, r8]
      refine ⟨rfl, by decide, l5.1.1, ?_⟩
      rw [lsize_br l5]
      rw [nI_pred]
      exact fin
    · refine same_trans (kp.2.2.2 q hq (fun w => hp (Or.inl w))) (k5.2.2.2 q (by omega) ?_)
      rintro (w | ⟨w0, w⟩)
      · exact hp (Or.inr (Or.inl w))
      · exact hp (Or.inr (Or.inr ⟨w0, w⟩))
    · have : q = (0, 5) ∨ q = (1, 100) ∨ q = (2, 100) := (show ∀ q ∈ kR, q = (0, 5) ∨ q = (1, 100) ∨ q = (2, 100) by decide) q hq
      rcases this with e | e | e <;> rw [e] <;> unfold liv <;> dsimp only
      · rw [Nat.add_zero, h1a.1, h1a.2, d0.1]; exact ⟨rfl, by omega, by omega, z3.1⟩
      · rw [h1b.1, h1b.2, d2.1]; exact ⟨rfl, by omega, by omega, z3.2.2.1⟩
      · rw [h1c.1, h1c.2, d1.1]; exact ⟨rfl, by omega, by omega, z3.2.1⟩
    · have : q = (1, 20) ∨ q = (2, 20) := (show ∀ q ∈ lR, q = (1, 20) ∨ q = (2, 20) by decide) q hq
      rcases this with e | e <;> rw [e] <;> dsimp only
      · rw [h1b.1, d2.2.1]; exact z3.2.2.2.2
      · rw [h1c.1, d1.2.1]; exact z3.2.2.2.1
    · have : q = (0, 3, 1) ∨ q = (0, 4, 2) := (show ∀ q ∈ rR, q = (0, 3, 1) ∨ q = (0, 4, 2) by decide) q hq
      rcases this with e | e <;> rw [e] <;> dsimp only <;> rw [Nat.add_zero, h1a.1]
      · rw [h1b.1, d0.2.2.2.2]; exact z4.2.2.1
      · rw [h1c.1, d0.2.2.2.2]; exact z4.2.2.2
    · rw [h1a.1, d0.2.2.2.2]; exact z4.1
    · rw [h1a.1, d0.2.2.2.2]; exact z4.2.1
    · rw [h1a.1, d0.2.2.1, z5, if_neg (fun z => absurd z.2 (by decide))]
    · have ne : A (bS k + 2) ≠ A (bS k) := liv_ne (vS_2 s1) (vS_0 s1) (by omega)
      rw [h1b.1, d2.2.2.1, (z6 i hi).2, rS_0_3 s1, if_neg (fun z => ne z.1)]
    · rw [h1c.1, d1.2.2.1, (z6 i hi).1]
    · rw [sS.2.2.1, s45.2.2.1, gI_pI]
      by_cases z : j = 12
      · rw [if_pos ⟨rfl, z⟩, if_pos z]
      · rw [if_neg (fun y => z y.2), if_neg z]
    · rw [sS.2.2.2.2, s45.2.2.2.2, gR_pI]
  · simp only [↓forall_eq, ↓inB_iff, gK_hU, gL_hU, gR_hU, gIh, gJh, pI_hU, pJ_hU, hU_hU, uI_app, uJ_app, and_true, true_and, and_false, false_and, and_self, true_implies, false_implies, not_true, not_false_iff, if_true, if_false, eq_self, Nat.reduceLeDiff, Nat.reduceEqDiff, reduceCtorEq, i32c, ti0, ti1, tiM, Int.natCast_nonneg, Int.reduceEq, Int.reduceLE, Int.reduceLT, Int.reduceNeg, tl_i, Int32.reduceToInt, Int64.reduceToInt, tiA, tlM6, Int.toNat_natCast, natc, nI_1, Int.zero_sub, implies_true, not_false_eq_true, e9]
    have z : ¬ (nI (eN (gI h) E Cn k)).toInt = -1 := by rw [ti_n (by omega)]; omega
    refine ⟨fun z2 => absurd z2 z, fun _ => w2 (fun z2 => by have := z2.2; omega)⟩
end CLS
