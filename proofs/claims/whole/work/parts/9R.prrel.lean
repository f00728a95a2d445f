/-! RELEASES: the model's whole, the pair -/
section PRL
variable {d np nt nk t k : Nat} {h h2 g : aH} {A A1 o o1 : Nat → Nat} {X : Nat → aH → Prop} {M I : Nat → Nat → Int32} {J : Nat → Nat → Int64} {p : Nat → Prop} {a1 a2 a3 : Int32}
theorem oL_L {k : Nat} (hk : k ≤ 60) : objL (bL k) 10 kL lL rL := ⟨fun q hq => by
    have : q.1 < 20 := (show ∀ q ∈ kL, q.1 < 20 by decide) q hq
    unfold bL; omega, fun q hq => absurd hq (by unfold lL; simp), fun q hq => ⟨(show ∀ q ∈ rL, ∃ k ∈ [7, 100], (q.1, k) ∈ kL by decide) q hq |>.imp fun _ w => w.2, (show ∀ q ∈ rL, ∃ k ∈ [7, 100], (q.2.2, k) ∈ kL by decide) q hq |>.imp fun _ w => w.2⟩⟩
def relY (I I' : Nat → Nat → Int32) (nk t : Nat) (a1 a3 : Int32) : Prop := (∀ a, a ≠ 44 → ¬ (100 ≤ a ∧ a ≤ 105) → I' a = I a) ∧ (∀ j, j ≠ 0 → j ≠ 82 → I' 44 j = I 44 j) ∧ (I' 44 0 = 0 ∧ I' 44 82 = nI (nk + 1)) ∧ (∀ k, k ≠ nk → I' 100 k = I 100 k ∧ I' 101 k = I 101 k ∧ I' 102 k = I 102 k ∧ I' 103 k = I 103 k ∧ I' 104 k = I 104 k) ∧ (I' 100 nk = a1 ∧ I' 101 nk = a3 ∧ I' 102 nk = I 90 t ∧ I' 103 nk = I 91 t ∧ I' 104 nk = I 97 t) ∧ (∀ i, (i < 12 * nk ∨ 12 * nk + 12 ≤ i) → I' 105 i = I 105 i) ∧ ∀ i, i < 12 → I' 105 (12 * nk + i) = nwV I t 3 i
theorem m_release {K : Int32 → aH → Prop} (mf : MF g) (f80 : I 44 80 = nI np) (hp : np ≤ 12) (f69 : I 44 69 = nI nt) (hnt : nt ≤ 12) (f82 : I 44 82 = nI nk) (hk : nk ≤ 12)
    (w1 : ¬ ((0 ≤ a1.toInt ∧ a1.toInt < np) ∧ (0 ≤ a2.toInt ∧ a2.toInt < nt)) → K 0 (hU g (uI (uI I 44 0 0) 44 0 (nI 1)) J))
    (w2 : ((0 ≤ a1.toInt ∧ a1.toInt < np) ∧ (0 ≤ a2.toInt ∧ a2.toInt < nt)) → (I 99 a1.toInt.toNat &&& 1).toInt = 0 → K 0 (hU g (uI (uI I 44 0 0) 44 0 (nI 2)) J))
    (w3 : ((0 ≤ a1.toInt ∧ a1.toInt < np) ∧ (0 ≤ a2.toInt ∧ a2.toInt < nt)) → ¬ (I 99 a1.toInt.toNat &&& 1).toInt = 0 → a3.toInt < (I 44 1).toInt → K 0 (hU g (uI (uI I 44 0 0) 44 0 (nI 3)) J))
    (w4 : ((0 ≤ a1.toInt ∧ a1.toInt < np) ∧ (0 ≤ a2.toInt ∧ a2.toInt < nt)) → ¬ (I 99 a1.toInt.toNat &&& 1).toInt = 0 → ¬ a3.toInt < (I 44 1).toInt → ¬ nk < 12 → K 0 (hU g (uI (uI I 44 0 0) 44 0 (nI 4)) J))
    (w5 : ((0 ≤ a1.toInt ∧ a1.toInt < np) ∧ (0 ≤ a2.toInt ∧ a2.toInt < nt)) → ¬ (I 99 a1.toInt.toNat &&& 1).toInt = 0 → ¬ a3.toInt < (I 44 1).toInt → nk < 12 → ∀ I', relY I I' nk a2.toInt.toNat a1 a3 → K (nI nk) (hU g I' J)) : CI (d + 2) 316 [vR 44, vI a1, vI a2, vI a3] (hU g I J) K X := by
  have hn : (nI nt).toInt = nt := ti_n (by omega)
  have hk0 : (nI nk).toInt = nk := ti_n (by omega)
  have hn1 : (nI np - 1).toInt = (np : Int) - 1 := by rw [ti_sub (by rw [ti_n (by omega), ti1]; omega) (by rw [ti_n (by omega), ti1]; omega), ti_n (by omega), ti1]
  by_cases q : 0 ≤ a1.toInt ∧ a1.toInt < np
  · have q1 : 0 ≤ a1.toInt ∧ a1.toInt ≤ (np : Int) - 1 := by omega
    by_cases q2 : 0 ≤ a2.toInt ∧ a2.toInt < nt
    · have q2' : 0 ≤ a2.toInt ∧ a2.toInt < (nt : Int) := q2
      generalize h1x : a1.toInt.toNat = pp at *
      have hx1 : a1 = nI pp := by rw [← h1x]; exact ti_nat q.1
      generalize h2x : a2.toInt.toNat = t at *
      have hx2 : a2 = nI t := by rw [← h2x]; exact ti_nat q2.1
      have z1 : a1.toInt = (pp : Int) := by omega
      have z2 : a2.toInt = (t : Int) := by omega
      have z3 : (pp : Int) < 12 := by omega
      have z4 : (t : Int) < 12 := by omega
      have q3 : (0 : Int) ≤ pp ∧ (pp : Int) ≤ (np : Int) - 1 := by omega
      have q4 : (0 : Int) ≤ t ∧ (t : Int) < (nt : Int) := by omega
      by_cases c1 : (I 99 pp &&& 1).toInt = 0
      · refine m316 ?_
        simp only [↓forall_eq, ↓inB_iff, gK_hU, gL_hU, gR_hU, gIh, gJh, pI_hU, pJ_hU, hU_hU, uI_app, uJ_app, and_true, true_and, and_false, false_and, and_self, true_implies, false_implies, not_true, not_false_iff, if_true, if_false, eq_self, Nat.reduceLeDiff, Nat.reduceEqDiff, reduceCtorEq, i32c, ti0, ti1, tiM, Int.natCast_nonneg, Int.reduceEq, Int.reduceLE, Int.reduceLT, Int.reduceNeg, tl_i, Int32.reduceToInt, Int64.reduceToInt, tiA, tlM6, Int.toNat_natCast, natc, nI_1, Int.zero_sub, implies_true, not_false_eq_true, mf.1, mr_70 mf, mk_90 mf, ml_90 mf, mr_71 mf, mk_91 mf, ml_91 mf, mr_77 mf, mk_97 mf, ml_97 mf, mr_81 mf, mk_99 mf, ml_99 mf, mr_83 mf, mk_100 mf, ml_100 mf, mr_84 mf, mk_101 mf, ml_101 mf, mr_85 mf, mk_102 mf, ml_102 mf, mr_86 mf, mk_103 mf, ml_103 mf, mr_87 mf, mk_104 mf, ml_104 mf, mr_88 mf, mk_105 mf, ml_105 mf, ↓fail_br mf, ↓isTable_br mf, ↓isIn_br, f80, f69, hn, hn1, z1, z2, q3, q4, z3, z4, c1]
        exact w2 ⟨q, q2⟩ c1
      · by_cases c2 : a3.toInt < (I 44 1).toInt
        · refine m316 ?_
          simp only [↓forall_eq, ↓inB_iff, gK_hU, gL_hU, gR_hU, gIh, gJh, pI_hU, pJ_hU, hU_hU, uI_app, uJ_app, and_true, true_and, and_false, false_and, and_self, true_implies, false_implies, not_true, not_false_iff, if_true, if_false, eq_self, Nat.reduceLeDiff, Nat.reduceEqDiff, reduceCtorEq, i32c, ti0, ti1, tiM, Int.natCast_nonneg, Int.reduceEq, Int.reduceLE, Int.reduceLT, Int.reduceNeg, tl_i, Int32.reduceToInt, Int64.reduceToInt, tiA, tlM6, Int.toNat_natCast, natc, nI_1, Int.zero_sub, implies_true, not_false_eq_true, mf.1, mr_70 mf, mk_90 mf, ml_90 mf, mr_71 mf, mk_91 mf, ml_91 mf, mr_77 mf, mk_97 mf, ml_97 mf, mr_81 mf, mk_99 mf, ml_99 mf, mr_83 mf, mk_100 mf, ml_100 mf, mr_84 mf, mk_101 mf, ml_101 mf, mr_85 mf, mk_102 mf, ml_102 mf, mr_86 mf, mk_103 mf, ml_103 mf, mr_87 mf, mk_104 mf, ml_104 mf, mr_88 mf, mk_105 mf, ml_105 mf, ↓fail_br mf, ↓isTable_br mf, ↓isIn_br, f80, f69, hn, hn1, z1, z2, q3, q4, z3, z4, c1, c2]
          exact w3 ⟨q, q2⟩ c1 c2
        · by_cases c3 : nk < 12
          · have n12 : ¬ ((nk : Int) = 12) := by omega
            have l12 : (nk : Int) < 12 := by omega
            refine m316 ?_
            simp only [↓forall_eq, ↓inB_iff, gK_hU, gL_hU, gR_hU, gIh, gJh, pI_hU, pJ_hU, hU_hU, uI_app, uJ_app, and_true, true_and, and_false, false_and, and_self, true_implies, false_implies, not_true, not_false_iff, if_true, if_false, eq_self, Nat.reduceLeDiff, Nat.reduceEqDiff, reduceCtorEq, i32c, ti0, ti1, tiM, Int.natCast_nonneg, Int.reduceEq, Int.reduceLE, Int.reduceLT, Int.reduceNeg, tl_i, Int32.reduceToInt, Int64.reduceToInt, tiA, tlM6, Int.toNat_natCast, natc, nI_1, Int.zero_sub, implies_true, not_false_eq_true, mf.1, mr_70 mf, mk_90 mf, ml_90 mf, mr_71 mf, mk_91 mf, ml_91 mf, mr_77 mf, mk_97 mf, ml_97 mf, mr_81 mf, mk_99 mf, ml_99 mf, mr_83 mf, mk_100 mf, ml_100 mf, mr_84 mf, mk_101 mf, ml_101 mf, mr_85 mf, mk_102 mf, ml_102 mf, mr_86 mf, mk_103 mf, ml_103 mf, mr_87 mf, mk_104 mf, ml_104 mf, mr_88 mf, mk_105 mf, ml_105 mf, ↓fail_br mf, ↓isTable_br mf, ↓isIn_br, f80, f69, f82, hn, hn1, hk0, z1, z2, q3, q4, z3, z4, c1, c2, n12, l12]
            rw [hx2]
            refine m_149 (nk := nk) mf (by omega) c3 (by simp only [↓forall_eq, ↓inB_iff, gK_hU, gL_hU, gR_hU, gIh, gJh, pI_hU, pJ_hU, hU_hU, uI_app, uJ_app, and_true, true_and, and_false, false_and, and_self, true_implies, false_implies, not_true, not_false_iff, if_true, if_false, eq_self, Nat.reduceLeDiff, Nat.reduceEqDiff, reduceCtorEq, i32c, ti0, ti1, tiM, Int.natCast_nonneg, Int.reduceEq, Int.reduceLE, Int.reduceLT, Int.reduceNeg, tl_i, Int32.reduceToInt, Int64.reduceToInt, tiA, tlM6, Int.toNat_natCast, natc, nI_1, Int.zero_sub, implies_true, not_false_eq_true, f82]) (fun I' s1 s2 s3 s4 s5 => ?_) 12 0 _ (by omega) (fun _ _ => rfl) (fun _ _ => rfl) (fun _ w => absurd w (by omega))
            refine w5 ⟨q, q2⟩ c1 c2 c3 I' ⟨fun a x1 x2 => ?_, fun j x1 x2 => ?_, ⟨?_, s3⟩, fun k x1 => ⟨?_, ?_, ?_, ?_, ?_⟩, ⟨?_, ?_, ?_, ?_, ?_⟩, fun i hi => ?_, fun i hi => ?_⟩
            · rw [s1 a x1 (by omega), uI_ne _ _ _ (by omega), uI_ne _ _ _ (by omega), uI_ne _ _ _ (by omega), uI_ne _ _ _ (by omega), uI_ne _ _ _ (by omega), uI_ne _ _ _ x1]
            · rw [s2 j x2]; simp only [↓forall_eq, ↓inB_iff, gK_hU, gL_hU, gR_hU, gIh, gJh, pI_hU, pJ_hU, hU_hU, uI_app, uJ_app, and_true, true_and, and_false, false_and, and_self, true_implies, false_implies, not_true, not_false_iff, if_true, if_false, eq_self, Nat.reduceLeDiff, Nat.reduceEqDiff, reduceCtorEq, i32c, ti0, ti1, tiM, Int.natCast_nonneg, Int.reduceEq, Int.reduceLE, Int.reduceLT, Int.reduceNeg, tl_i, Int32.reduceToInt, Int64.reduceToInt, tiA, tlM6, Int.toNat_natCast, natc, nI_1, Int.zero_sub, implies_true, not_false_eq_true, x1]
            · rw [s2 0 (by decide)]; simp only [↓forall_eq, ↓inB_iff, gK_hU, gL_hU, gR_hU, gIh, gJh, pI_hU, pJ_hU, hU_hU, uI_app, uJ_app, and_true, true_and, and_false, false_and, and_self, true_implies, false_implies, not_true, not_false_iff, if_true, if_false, eq_self, Nat.reduceLeDiff, Nat.reduceEqDiff, reduceCtorEq, i32c, ti0, ti1, tiM, Int.natCast_nonneg, Int.reduceEq, Int.reduceLE, Int.reduceLT, Int.reduceNeg, tl_i, Int32.reduceToInt, Int64.reduceToInt, tiA, tlM6, Int.toNat_natCast, natc, nI_1, Int.zero_sub, implies_true, not_false_eq_true]
            · rw [s1 100 (by decide) (by decide)]; simp only [↓forall_eq, ↓inB_iff, gK_hU, gL_hU, gR_hU, gIh, gJh, pI_hU, pJ_hU, hU_hU, uI_app, uJ_app, and_true, true_and, and_false, false_and, and_self, true_implies, false_implies, not_true, not_false_iff, if_true, if_false, eq_self, Nat.reduceLeDiff, Nat.reduceEqDiff, reduceCtorEq, i32c, ti0, ti1, tiM, Int.natCast_nonneg, Int.reduceEq, Int.reduceLE, Int.reduceLT, Int.reduceNeg, tl_i, Int32.reduceToInt, Int64.reduceToInt, tiA, tlM6, Int.toNat_natCast, natc, nI_1, Int.zero_sub, implies_true, not_false_eq_true, x1]
            · rw [s1 101 (by decide) (by decide)]; simp only [↓forall_eq, ↓inB_iff, gK_hU, gL_hU, gR_hU, gIh, gJh, pI_hU, pJ_hU, hU_hU, uI_app, uJ_app, and_true, true_and, and_false, false_and, and_self, true_implies, false_implies, not_true, not_false_iff, if_true, if_false, eq_self, Nat.reduceLeDiff, Nat.reduceEqDiff, reduceCtorEq, i32c, ti0, ti1, tiM, Int.natCast_nonneg, Int.reduceEq, Int.reduceLE, Int.reduceLT, Int.reduceNeg, tl_i, Int32.reduceToInt, Int64.reduceToInt, tiA, tlM6, Int.toNat_natCast, natc, nI_1, Int.zero_sub, implies_true, not_false_eq_true, x1]
            · rw [s1 102 (by decide) (by decide)]; simp only [↓forall_eq, ↓inB_iff, gK_hU, gL_hU, gR_hU, gIh, gJh, pI_hU, pJ_hU, hU_hU, uI_app, uJ_app, and_true, true_and, and_false, false_and, and_self, true_implies, false_implies, not_true, not_false_iff, if_true, if_false, eq_self, Nat.reduceLeDiff, Nat.reduceEqDiff, reduceCtorEq, i32c, ti0, ti1, tiM, Int.natCast_nonneg, Int.reduceEq, Int.reduceLE, Int.reduceLT, Int.reduceNeg, tl_i, Int32.reduceToInt, Int64.reduceToInt, tiA, tlM6, Int.toNat_natCast, natc, nI_1, Int.zero_sub, implies_true, not_false_eq_true, x1]
            · rw [s1 103 (by decide) (by decide)]; simp only [↓forall_eq, ↓inB_iff, gK_hU, gL_hU, gR_hU, gIh, gJh, pI_hU, pJ_hU, hU_hU, uI_app, uJ_app, and_true, true_and, and_false, false_and, and_self, true_implies, false_implies, not_true, not_false_iff, if_true, if_false, eq_self, Nat.reduceLeDiff, Nat.reduceEqDiff, reduceCtorEq, i32c, ti0, ti1, tiM, Int.natCast_nonneg, Int.reduceEq, Int.reduceLE, Int.reduceLT, Int.reduceNeg, tl_i, Int32.reduceToInt, Int64.reduceToInt, tiA, tlM6, Int.toNat_natCast, natc, nI_1, Int.zero_sub, implies_true, not_false_eq_true, x1]
            · rw [s1 104 (by decide) (by decide)]; simp only [↓forall_eq, ↓inB_iff, gK_hU, gL_hU, gR_hU, gIh, gJh, pI_hU, pJ_hU, hU_hU, uI_app, uJ_app, and_true, true_and, and_false, false_and, and_self, true_implies, false_implies, not_true, not_false_iff, if_true, if_false, eq_self, Nat.reduceLeDiff, Nat.reduceEqDiff, reduceCtorEq, i32c, ti0, ti1, tiM, Int.natCast_nonneg, Int.reduceEq, Int.reduceLE, Int.reduceLT, Int.reduceNeg, tl_i, Int32.reduceToInt, Int64.reduceToInt, tiA, tlM6, Int.toNat_natCast, natc, nI_1, Int.zero_sub, implies_true, not_false_eq_true, x1]
            · rw [s1 100 (by decide) (by decide)]; simp only [↓forall_eq, ↓inB_iff, gK_hU, gL_hU, gR_hU, gIh, gJh, pI_hU, pJ_hU, hU_hU, uI_app, uJ_app, and_true, true_and, and_false, false_and, and_self, true_implies, false_implies, not_true, not_false_iff, if_true, if_false, eq_self, Nat.reduceLeDiff, Nat.reduceEqDiff, reduceCtorEq, i32c, ti0, ti1, tiM, Int.natCast_nonneg, Int.reduceEq, Int.reduceLE, Int.reduceLT, Int.reduceNeg, tl_i, Int32.reduceToInt, Int64.reduceToInt, tiA, tlM6, Int.toNat_natCast, natc, nI_1, Int.zero_sub, implies_true, not_false_eq_true]
            · rw [s1 101 (by decide) (by decide)]; simp only [↓forall_eq, ↓inB_iff, gK_hU, gL_hU, gR_hU, gIh, gJh, pI_hU, pJ_hU, hU_hU, uI_app, uJ_app, and_true, true_and, and_false, false_and, and_self, true_implies, false_implies, not_true, not_false_iff, if_true, if_false, eq_self, Nat.reduceLeDiff, Nat.reduceEqDiff, reduceCtorEq, i32c, ti0, ti1, tiM, Int.natCast_nonneg, Int.reduceEq, Int.reduceLE, Int.reduceLT, Int.reduceNeg, tl_i, Int32.reduceToInt, Int64.reduceToInt, tiA, tlM6, Int.toNat_natCast, natc, nI_1, Int.zero_sub, implies_true, not_false_eq_true]
            · rw [s1 102 (by decide) (by decide)]; simp only [↓forall_eq, ↓inB_iff, gK_hU, gL_hU, gR_hU, gIh, gJh, pI_hU, pJ_hU, hU_hU, uI_app, uJ_app, and_true, true_and, and_false, false_and, and_self, true_implies, false_implies, not_true, not_false_iff, if_true, if_false, eq_self, Nat.reduceLeDiff, Nat.reduceEqDiff, reduceCtorEq, i32c, ti0, ti1, tiM, Int.natCast_nonneg, Int.reduceEq, Int.reduceLE, Int.reduceLT, Int.reduceNeg, tl_i, Int32.reduceToInt, Int64.reduceToInt, tiA, tlM6, Int.toNat_natCast, natc, nI_1, Int.zero_sub, implies_true, not_false_eq_true]
            · rw [s1 103 (by decide) (by decide)]; simp only [↓forall_eq, ↓inB_iff, gK_hU, gL_hU, gR_hU, gIh, gJh, pI_hU, pJ_hU, hU_hU, uI_app, uJ_app, and_true, true_and, and_false, false_and, and_self, true_implies, false_implies, not_true, not_false_iff, if_true, if_false, eq_self, Nat.reduceLeDiff, Nat.reduceEqDiff, reduceCtorEq, i32c, ti0, ti1, tiM, Int.natCast_nonneg, Int.reduceEq, Int.reduceLE, Int.reduceLT, Int.reduceNeg, tl_i, Int32.reduceToInt, Int64.reduceToInt, tiA, tlM6, Int.toNat_natCast, natc, nI_1, Int.zero_sub, implies_true, not_false_eq_true]
            · rw [s1 104 (by decide) (by decide)]; simp only [↓forall_eq, ↓inB_iff, gK_hU, gL_hU, gR_hU, gIh, gJh, pI_hU, pJ_hU, hU_hU, uI_app, uJ_app, and_true, true_and, and_false, false_and, and_self, true_implies, false_implies, not_true, not_false_iff, if_true, if_false, eq_self, Nat.reduceLeDiff, Nat.reduceEqDiff, reduceCtorEq, i32c, ti0, ti1, tiM, Int.natCast_nonneg, Int.reduceEq, Int.reduceLE, Int.reduceLT, Int.reduceNeg, tl_i, Int32.reduceToInt, Int64.reduceToInt, tiA, tlM6, Int.toNat_natCast, natc, nI_1, Int.zero_sub, implies_true, not_false_eq_true]
            · rw [s4 i hi]; simp only [↓forall_eq, ↓inB_iff, gK_hU, gL_hU, gR_hU, gIh, gJh, pI_hU, pJ_hU, hU_hU, uI_app, uJ_app, and_true, true_and, and_false, false_and, and_self, true_implies, false_implies, not_true, not_false_iff, if_true, if_false, eq_self, Nat.reduceLeDiff, Nat.reduceEqDiff, reduceCtorEq, i32c, ti0, ti1, tiM, Int.natCast_nonneg, Int.reduceEq, Int.reduceLE, Int.reduceLT, Int.reduceNeg, tl_i, Int32.reduceToInt, Int64.reduceToInt, tiA, tlM6, Int.toNat_natCast, natc, nI_1, Int.zero_sub, implies_true, not_false_eq_true]
            · rw [s5 i hi]; unfold nwV; simp only [↓forall_eq, ↓inB_iff, gK_hU, gL_hU, gR_hU, gIh, gJh, pI_hU, pJ_hU, hU_hU, uI_app, uJ_app, and_true, true_and, and_false, false_and, and_self, true_implies, false_implies, not_true, not_false_iff, if_true, if_false, eq_self, Nat.reduceLeDiff, Nat.reduceEqDiff, reduceCtorEq, i32c, ti0, ti1, tiM, Int.natCast_nonneg, Int.reduceEq, Int.reduceLE, Int.reduceLT, Int.reduceNeg, tl_i, Int32.reduceToInt, Int64.reduceToInt, tiA, tlM6, Int.toNat_natCast, natc, nI_1, Int.zero_sub, implies_true, not_false_eq_true]
          · have n12 : (nk : Int) = 12 := by omega
            refine m316 ?_
            simp only [↓forall_eq, ↓inB_iff, gK_hU, gL_hU, gR_hU, gIh, gJh, pI_hU, pJ_hU, hU_hU, uI_app, uJ_app, and_true, true_and, and_false, false_and, and_self, true_implies, false_implies, not_true, not_false_iff, if_true, if_false, eq_self, Nat.reduceLeDiff, Nat.reduceEqDiff, reduceCtorEq, i32c, ti0, ti1, tiM, Int.natCast_nonneg, Int.reduceEq, Int.reduceLE, Int.reduceLT, Int.reduceNeg, tl_i, Int32.reduceToInt, Int64.reduceToInt, tiA, tlM6, Int.toNat_natCast, natc, nI_1, Int.zero_sub, implies_true, not_false_eq_true, mf.1, mr_70 mf, mk_90 mf, ml_90 mf, mr_71 mf, mk_91 mf, ml_91 mf, mr_77 mf, mk_97 mf, ml_97 mf, mr_81 mf, mk_99 mf, ml_99 mf, mr_83 mf, mk_100 mf, ml_100 mf, mr_84 mf, mk_101 mf, ml_101 mf, mr_85 mf, mk_102 mf, ml_102 mf, mr_86 mf, mk_103 mf, ml_103 mf, mr_87 mf, mk_104 mf, ml_104 mf, mr_88 mf, mk_105 mf, ml_105 mf, ↓fail_br mf, ↓isTable_br mf, ↓isIn_br, f80, f69, f82, hn, hn1, hk0, z1, z2, q3, q4, z3, z4, c1, c2, n12]
            exact w4 ⟨q, q2⟩ c1 c2 c3
    · refine m316 ?_
      simp only [↓forall_eq, ↓inB_iff, gK_hU, gL_hU, gR_hU, gIh, gJh, pI_hU, pJ_hU, hU_hU, uI_app, uJ_app, and_true, true_and, and_false, false_and, and_self, true_implies, false_implies, not_true, not_false_iff, if_true, if_false, eq_self, Nat.reduceLeDiff, Nat.reduceEqDiff, reduceCtorEq, i32c, ti0, ti1, tiM, Int.natCast_nonneg, Int.reduceEq, Int.reduceLE, Int.reduceLT, Int.reduceNeg, tl_i, Int32.reduceToInt, Int64.reduceToInt, tiA, tlM6, Int.toNat_natCast, natc, nI_1, Int.zero_sub, implies_true, not_false_eq_true, mf.1, mr_70 mf, mk_90 mf, ml_90 mf, mr_71 mf, mk_91 mf, ml_91 mf, mr_77 mf, mk_97 mf, ml_97 mf, mr_81 mf, mk_99 mf, ml_99 mf, mr_83 mf, mk_100 mf, ml_100 mf, mr_84 mf, mk_101 mf, ml_101 mf, mr_85 mf, mk_102 mf, ml_102 mf, mr_86 mf, mk_103 mf, ml_103 mf, mr_87 mf, mk_104 mf, ml_104 mf, mr_88 mf, mk_105 mf, ml_105 mf, ↓fail_br mf, ↓isTable_br mf, ↓isIn_br, f80, f69, hn, hn1, q1, q2]
      exact w1 (fun z => q2 z.2)
  · have q1 : ¬ (0 ≤ a1.toInt ∧ a1.toInt ≤ (np : Int) - 1) := fun z => q (by omega)
    refine m316 ?_
    simp only [↓forall_eq, ↓inB_iff, gK_hU, gL_hU, gR_hU, gIh, gJh, pI_hU, pJ_hU, hU_hU, uI_app, uJ_app, and_true, true_and, and_false, false_and, and_self, true_implies, false_implies, not_true, not_false_iff, if_true, if_false, eq_self, Nat.reduceLeDiff, Nat.reduceEqDiff, reduceCtorEq, i32c, ti0, ti1, tiM, Int.natCast_nonneg, Int.reduceEq, Int.reduceLE, Int.reduceLT, Int.reduceNeg, tl_i, Int32.reduceToInt, Int64.reduceToInt, tiA, tlM6, Int.toNat_natCast, natc, nI_1, Int.zero_sub, implies_true, not_false_eq_true, mf.1, mr_70 mf, mk_90 mf, ml_90 mf, mr_71 mf, mk_91 mf, ml_91 mf, mr_77 mf, mk_97 mf, ml_97 mf, mr_81 mf, mk_99 mf, ml_99 mf, mr_83 mf, mk_100 mf, ml_100 mf, mr_84 mf, mk_101 mf, ml_101 mf, mr_85 mf, mk_102 mf, ml_102 mf, mr_86 mf, mk_103 mf, ml_103 mf, mr_87 mf, mk_104 mf, ml_104 mf, mr_88 mf, mk_105 mf, ml_105 mf, ↓fail_br mf, ↓isIn_br, f80, hn1, q1]
    exact w1 (fun z => q z.1)
theorem relS_cg {R C : Nat} {M2 : Nat → Nat → Int32} (S : relS h A M k R C) (hI : ∀ j, j < 2 → gI h2 (A1 (bL k + j)) = gI h (A (bL k + j)) ∧ gL h2 (A1 (bL k + j)) = gL h (A (bL k + j))) (m : M2 100 k = M 100 k ∧ M2 101 k = M 101 k ∧ M2 102 k = M 102 k ∧ M2 103 k = M 103 k ∧ M2 104 k = M 104 k) (m5 : ∀ i, i < 12 → M2 105 (12 * k + i) = M 105 (12 * k + i)) : relS h2 A1 M2 k R C := by
  obtain ⟨s1, s2, s3, s4, s5⟩ := S
  obtain ⟨e0, e1, e2, e3, e4⟩ := m
  have m12 : R * C ≤ 4 * 3 := Nat.mul_le_mul s1.1.2 s1.2.2
  have i0 : gI h2 (A1 (bL k)) = gI h (A (bL k)) := (hI 0 (by omega)).1
  exact ⟨s1, by rw [e2, e3]; exact s2, by rw [(hI 1 (by omega)).2]; exact s3, by rw [i0, e0, e1, e4]; exact s4, fun i hi => by rw [(hI 1 (by omega)).1, m5 i (by omega)]; exact s5 i hi⟩
theorem RelA_new (b : base h o) (S : RelA h A o (gI h) nt nk) (hns : nk < 12) (L : listT h2 A1 o1 39 10 (nk + 1) 7) (kp : keeps h h2 p) (hp : ∀ q, q < gN h → p q → q = 39 ∨ (0 < nk ∧ q = A 10000035) ∨ o q / 1000000 ≠ 10) (hA : ∀ l, l ≠ 10000035 → (l < bL nk ∨ bL nk + 2 ≤ l) → A1 l = A l) (ho : ∀ q, q < gN h → o1 q = o q) (m82 : gI h2 44 82 = nI (nk + 1)) (ot : ∀ k, k < nk → (gI h2 100 k = gI h 100 k ∧ gI h2 101 k = gI h 101 k ∧ gI h2 102 k = gI h 102 k ∧ gI h2 103 k = gI h 103 k ∧ gI h2 104 k = gI h 104 k) ∧ ∀ i, i < 12 → gI h2 105 (12 * k + i) = gI h 105 (12 * k + i)) (tt : ∀ t, t < nt → A1 (bT t) = A (bT t) ∧ gI h2 90 t = gI h 90 t ∧ gI h2 91 t = gI h 91 t)
    (new : relOK h2 A1 o1 (gI h2) nt nk) : RelA h2 A1 o1 (gI h2) nt (nk + 1) := by
  obtain ⟨f1, f2, f3⟩ := S
  have kn := kp.1
  refine ⟨L, ⟨m82, by omega⟩, fun k hk => ?_⟩
  by_cases e : k = nk
  · rw [e]; exact new
  · obtain ⟨T, t, R, C, h1, h3, ⟨h4, h5⟩, S⟩ := f3 k (by omega)
    have A6 : ∀ j, j < 2 → A1 (bL k + j) = A (bL k + j) := fun j hj => hA _ (by unfold bL; omega) (by unfold bL; omega)
    have sm : ∀ j, j < 2 → same h h2 (A (bL k + j)) := fun j hj => by
      obtain ⟨kd, v⟩ := vL_j T hj
      refine kp.2.2.2 _ v.2.2.1 (fun w => ?_)
      rcases hp _ v.2.2.1 w with e | ⟨e0, e⟩ | e
      · have := v.1
        rw [e, ol_39 b.2.2] at this
        unfold bL at this; omega
      · have dt := list_dat f1 e0
        exact liv_ne v dt.2.1 (by unfold bL; omega) e
      · exact e (by rw [v.1]; unfold bL; omega)
    have T2 : TL h2 A1 o1 k := obj_kp (oL_L (by omega)) T kn (fun q hq => by
      have hj : q.1 < 2 := (show ∀ q ∈ kL, q.1 < 2 by decide) q hq
      exact ⟨A6 _ hj, sm _ hj, ho _ (T.1 q hq).2.2.1⟩)
    obtain ⟨y1, y2, y3⟩ := tt t h1
    have a0 : A1 (bL k) = A (bL k) := A6 0 (by omega)
    have r0 := (sm 0 (by omega)).2.2.2.2 0
    obtain ⟨ot1, ot2⟩ := ot k (by omega)
    refine ⟨T2, t, R, C, h1, ?_, ⟨by rw [y2]; exact h4, by rw [y3]; exact h5⟩, relS_cg S (fun j hj => ?_) ot1 ot2⟩
    · rw [a0, y1, ← h3]; exact r0
    · rw [A6 j hj]; exact ⟨funext (sm j hj).2.2.1, (sm j hj).2.1⟩
theorem pr_release (b : base h o) (P : PerA h A o (gI h) np) (mm : gI h 8 12 = gI h 44 1) (Tb : TabA h A o (gI h) nt) (S : RelA h A o (gI h) nt nk) : Pr 314 316 [vI a1, vI a2, vI a3] [3, 2, 1, 4] h (fun h2 => ∃ A1 o1 nk1, left h h2 A A1 o o1 (fun c => c = 10) [100, 101, 102, 103, 104, 105] [82] 3 200 ∧ RelA h2 A1 o1 (gI h2) nt nk1) := by
  have n12 := Tb.2.1.2
  have fin : ∀ h2, left h h2 A A o o (fun _ => False) [] [] 1 6 → ∃ A1 o1 nk1, left h h2 A A1 o o1 (fun c => c = 10) [100, 101, 102, 103, 104, 105] [82] 3 200 ∧ RelA h2 A1 o1 (gI h2) nt nk1 := fun h2 l => ⟨A, o, nk, left_mono l (fun _ w => w.elim) (by simp) (by simp) (by omega) (by omega), RelA_out b S n12 l (fun w => w) (fun w => w) (by simp) (by simp)⟩
  by_cases q : (0 ≤ a1.toInt ∧ a1.toInt < np) ∧ (0 ≤ a2.toInt ∧ a2.toInt < nt)
  · by_cases c1 : (gI h 99 a1.toInt.toNat &&& 1).toInt = 0
    · refine Pr_gc (A := A) (C := fun _ => False) 1 2 b (by decide) rfl (fun K X kk => c_release b P Tb S.1 mm (fun z => absurd q z) (fun _ _ => kk) (fun _ z => absurd c1 z) (fun _ z => absurd c1 z) (fun _ z => absurd c1 z)) (fun g J K X mf e kk => ?_) fin
      have e4 := e 44 (by decide) (by decide)
      have e9 := e 99 (by decide) (by decide)
      exact m_release mf (by rw [e4]; exact P.1.1) P.1.2 (by rw [e4]; exact Tb.2.1.1) n12 (by rw [e4]; exact S.2.1.1) S.2.1.2 (fun z => absurd q z) (fun _ _ => kk) (fun _ z => absurd (by rw [e9]; exact c1) z) (fun _ z => absurd (by rw [e9]; exact c1) z) (fun _ z => absurd (by rw [e9]; exact c1) z)
    · by_cases c2 : a3.toInt < (gI h 44 1).toInt
      · refine Pr_gc (A := A) (C := fun _ => False) 2 1 b (by decide) rfl (fun K X kk => c_release b P Tb S.1 mm (fun z => absurd q z) (fun _ z => absurd z c1) (fun _ _ _ => kk) (fun _ _ z => absurd c2 z) (fun _ _ z => absurd c2 z)) (fun g J K X mf e kk => ?_) fin
        have e4 := e 44 (by decide) (by decide)
        have e9 := e 99 (by decide) (by decide)
        exact m_release mf (by rw [e4]; exact P.1.1) P.1.2 (by rw [e4]; exact Tb.2.1.1) n12 (by rw [e4]; exact S.2.1.1) S.2.1.2 (fun z => absurd q z) (fun _ z => absurd (by rw [e9] at z; exact z) c1) (fun _ _ _ => kk) (fun _ _ z => absurd (by rw [e4]; exact c2) z) (fun _ _ z => absurd (by rw [e4]; exact c2) z)
      · by_cases c3 : nk < 12
        · refine Pr_ok (nI nk) (fun h1 => ∃ A2 o2 R C, tabS h A (gI h) a2.toInt.toNat R C ∧ relN h h1 A A2 o o2 nk (A (bT a2.toInt.toNat)) (A (bT a2.toInt.toNat + 4)) (R * C) a1 a3) (fun K X kk => c_release b P Tb S.1 mm (fun z => absurd q z) (fun _ z => absurd z c1) (fun _ _ z => absurd z c2) (fun _ _ _ z => absurd c3 z) (fun _ _ _ _ h5 A2 o2 R C y1 y2 => kk h5 ⟨A2, o2, R, C, y1, y2⟩)) (fun h1 J1 m j K X kk => ?_)
          obtain ⟨A2, o2, R, C, TS, l5, f5, st, k5, t5, r0, gl, ⟨i2, i3, i4⟩, v5, gn, gt⟩ := m
          have b1 : base h1 o2 := base_fr b f5 (by decide)
          have e9 : ∀ x, 44 ≤ x → x < 107 → gI h1 x = gI h x := fun x z1 z2 => (fr_m b f5 (by decide) z1 z2).1
          have e4 := e9 44 (by decide) (by decide)
          refine m_release b1.2.1 (by rw [e4]; exact P.1.1) P.1.2 (by rw [e4]; exact Tb.2.1.1) n12 (by rw [e4]; exact S.2.1.1) S.2.1.2 (fun z => absurd q z) (fun _ z => absurd (by rw [e9 99 (by decide) (by decide)] at z; exact z) c1) (fun _ _ z => absurd (by rw [e4] at z; exact z) c2) (fun _ _ _ z => absurd c3 z) (fun _ _ _ _ I4 mt => ?_)
          obtain ⟨s1, s2, ⟨m0, m82⟩, s3, s4, s5, s6⟩ := mt
          generalize htx : a2.toInt.toNat = t at *
          have htn : t < nt := by omega
          have out : ∀ a, ¬ (44 ≤ a ∧ a ≤ 107) → I4 a = gI h1 a := fun a ha => s1 a (by omega) (by omega)
          have ls : left h (hU h1 I4 J1) A A2 o o2 (fun c => c = 10) [100, 101, 102, 103, 104, 105] [82] 3 200 := left_mk (h1 := h1) b b1 f5 (by decide) (by decide) (fun a z1 z2 => by
            simp only [List.mem_cons, List.mem_nil_iff, or_false, not_or] at z2
            exact s1 a z1 (by omega)) (fun j9 z1 z2 => by
            simp only [List.mem_cons, List.mem_nil_iff, or_false] at z2
            exact s2 j9 z1 z2) (fun a a1 _ => j a a1) gn gt
          have kp : keeps h (hU h1 I4 J1) (fun q => q = 39 ∨ (0 < nk ∧ q = A 10000035) ∨ (44 ≤ q ∧ q ≤ 107)) := by
            refine ⟨k5.1, k5.2.1, k5.2.2.1, fun q hq hp => ?_⟩
            have sq := k5.2.2.2 q hq (fun z => hp (by rcases z with z | z; exact Or.inl z; exact Or.inr (Or.inl z)))
            have hm : ¬ (44 ≤ q ∧ q ≤ 107) := fun z => hp (Or.inr (Or.inr z))
            refine ⟨sq.1, sq.2.1, fun j9 => ?_, fun j9 => ?_, sq.2.2.2.2⟩
            · rw [gI_hU, out q hm]; exact sq.2.2.1 j9
            · rw [gJ_hU, j q (by omega)]; exact sq.2.2.2.1 j9
          have tt : ∀ t, t < nt → A2 (bT t) = A (bT t) ∧ I4 90 t = gI h 90 t ∧ I4 91 t = gI h 91 t := fun t ht => ⟨st _ (by unfold bT; omega) (by unfold bT bL; omega), by rw [s1 90 (by decide) (by decide), e9 90 (by decide) (by decide)], by rw [s1 91 (by decide) (by decide), e9 91 (by decide) (by decide)]⟩
          have hlist : listT (hU h1 I4 J1) A2 o2 39 10 (nk + 1) 7 := ⟨l5.1, ⟨by rw [gIh, out 39 (by decide)]; exact l5.2.1.1, l5.2.1.2⟩, l5.2.2⟩
          have loT : ∀ j9, j9 < 2 → ¬ (44 ≤ A2 (bL nk + j9) ∧ A2 (bL nk + j9) ≤ 107) := fun j9 hj => by
            obtain ⟨kd, v⟩ := vL_j t5 hj
            exact lab_out b1 v (by unfold bL; omega)
          have o0 : I4 (A2 (bL nk)) = gI h1 (A2 (bL nk)) := out _ (loT 0 (by omega))
          have o1' : I4 (A2 (bL nk + 1)) = gI h1 (A2 (bL nk + 1)) := out _ (loT 1 (by omega))
          have m12 : R * C ≤ 4 * 3 := Nat.mul_le_mul TS.1.1.2 TS.1.2.2
          refine kk (hU h1 I4 J1) m0 rfl ⟨A2, o2, nk + 1, ls, RelA_new b S c3 hlist kp (fun q hq w => ?_) st f5.2.1 m82 (fun k hk => ?_) tt ⟨t5, t, R, C, htn, ?_, ⟨?_, ?_⟩, TS.1, ⟨?_, ?_⟩, gl, ⟨?_, ?_, ?_⟩, fun i hi => ?_⟩⟩
          · rcases w with w | w | w
            · exact Or.inl w
            · exact Or.inr (Or.inl w)
            · refine Or.inr (Or.inr ?_)
              by_cases z : q = 107
              · rw [z, ol_107 b.2.2]; decide
              · rw [ol_m b.2.2 w.1 (by omega)]; decide
          · have w := s3 k (by omega)
            rw [e9 100 (by decide) (by decide), e9 101 (by decide) (by decide), e9 102 (by decide) (by decide), e9 103 (by decide) (by decide), e9 104 (by decide) (by decide)] at w
            exact ⟨w, fun i hi => by rw [gIh, s5 _ (by omega), e9 105 (by decide) (by decide)]⟩
          · rw [(tt t htn).1]; exact r0
          · rw [gIh, (tt t htn).2.1]; exact TS.2.1.1
          · rw [gIh, (tt t htn).2.2]; exact TS.2.1.2
          · rw [gIh, s4.2.2.1, e9 90 (by decide) (by decide)]; exact TS.2.1.1
          · rw [gIh, s4.2.2.2.1, e9 91 (by decide) (by decide)]; exact TS.2.1.2
          · rw [gIh, o0, i2, s4.2.2.2.2, e9 97 (by decide) (by decide)]; exact TS.2.2.2.2.2.2.1.2
          · rw [gIh, o0, i3, s4.1]
          · rw [gIh, o0, i4, s4.2.1]
          · rw [gIh, o1', v5 i hi, s6 i (by omega)]
            have w := (TS.2.2.2.2.1 i hi).2.2.2.2
            rw [w]
            unfold nwV
            rw [e9 96 (by decide) (by decide), e9 92 (by decide) (by decide), e9 95 (by decide) (by decide)]
            rfl
        · refine Pr_gc (A := A) (C := fun _ => False) 3 4 b (by decide) rfl (fun K X kk => c_release b P Tb S.1 mm (fun z => absurd q z) (fun _ z => absurd z c1) (fun _ _ z => absurd z c2) (fun _ _ _ _ => kk) (fun _ _ _ z => absurd z c3)) (fun g J K X mf e kk => ?_) fin
          have e4 := e 44 (by decide) (by decide)
          have e9 := e 99 (by decide) (by decide)
          exact m_release mf (by rw [e4]; exact P.1.1) P.1.2 (by rw [e4]; exact Tb.2.1.1) n12 (by rw [e4]; exact S.2.1.1) S.2.1.2 (fun z => absurd q z) (fun _ z => absurd (by rw [e9] at z; exact z) c1) (fun _ _ z => absurd (by rw [e4] at z; exact z) c2) (fun _ _ _ _ => kk) (fun _ _ _ z => absurd z c3)
  · refine Pr_gc (A := A) (C := fun _ => False) 0 3 b (by decide) rfl (fun K X kk => c_release b P Tb S.1 mm (fun _ => kk) (fun z => absurd z q) (fun z => absurd z q) (fun z => absurd z q) (fun z => absurd z q)) (fun g J K X mf e kk => ?_) fin
    have e4 := e 44 (by decide) (by decide)
    exact m_release mf (by rw [e4]; exact P.1.1) P.1.2 (by rw [e4]; exact Tb.2.1.1) n12 (by rw [e4]; exact S.2.1.1) S.2.1.2 (fun _ => kk) (fun z => absurd z q) (fun z => absurd z q) (fun z => absurd z q) (fun z => absurd z q)
end PRL
