/-! LOOKS: the pair -/
section PLL
variable {d nl nk nt np k R C : Nat} {h h1 h2 g : aH} {A A1 o o1 : Nat → Nat} {X : Nat → aH → Prop} {M I : Nat → Nat → Int32} {J : Nat → Nat → Int64} {a1 a2 a3 a4 rt mn v : Int32} {K : Int32 → aH → Prop}
abbrev lk12 (np nk : Nat) (a1 a2 : Int32) : Prop := (0 ≤ a1.toInt ∧ a1.toInt < np) ∧ (0 ≤ a2.toInt ∧ a2.toInt < nk)
theorem m_look (mf : MF g) (f80 : I 44 80 = nI np) (hp : np ≤ 12) (f82 : I 44 82 = nI nk) (hk : nk ≤ 12) (f89 : I 44 89 = nI nl) (hl : nl ≤ 500)
    (w1 : ¬ lk12 np nk a1 a2 → K 0 (hU g (uI (uI I 44 0 0) 44 0 (nI 1)) J))
    (rs : lk12 np nk a1 a2 → (I 102 a2.toInt.toNat = nI R ∧ I 103 a2.toInt.toNat = nI C) ∧ (1 ≤ R ∧ R ≤ 4) ∧ 1 ≤ C ∧ C ≤ 3)
    (w2 : lk12 np nk a1 a2 → ¬ ((0 ≤ a3.toInt ∧ a3.toInt ≤ R) ∧ (0 ≤ a4.toInt ∧ a4.toInt ≤ C)) → K 0 (hU g (uI (uI I 44 0 0) 44 0 (nI 1)) J))
    (w3 : lk12 np nk a1 a2 → (0 ≤ a3.toInt ∧ a3.toInt ≤ R) ∧ (0 ≤ a4.toInt ∧ a4.toInt ≤ C) → ¬ nl < 500 → K 0 (hU g (uI (uI I 44 0 0) 44 0 (nI 2)) J))
    (w4 : lk12 np nk a1 a2 → (0 ≤ a3.toInt ∧ a3.toInt ≤ R) ∧ (0 ≤ a4.toInt ∧ a4.toInt ≤ C) → nl < 500 → lokV I a2.toInt.toNat R C (I 44 1) (I 99 a1.toInt.toNat) a1 a3 a4 v ∧ K v (hU g (lkU (uI I 44 0 0) nl a1 a2 a3 a4 v (I 44 1)) J)) : CI (d + 1) 321 [vR 44, vI a1, vI a2, vI a3, vI a4] (hU g I J) K X := by
  have hn1 : (nI np - 1).toInt = (np : Int) - 1 := by rw [ti_sub (by rw [ti_n (by omega), ti1]; omega) (by rw [ti_n (by omega), ti1]; omega), ti_n (by omega), ti1]
  have hk1 : (nI nk - 1).toInt = (nk : Int) - 1 := by rw [ti_sub (by rw [ti_n (by omega), ti1]; omega) (by rw [ti_n (by omega), ti1]; omega), ti_n (by omega), ti1]
  have hlI : (nI nl).toInt = nl := ti_n (by omega)
  by_cases q1 : 0 ≤ a1.toInt ∧ a1.toInt < np
  · have q1' : 0 ≤ a1.toInt ∧ a1.toInt ≤ (np : Int) - 1 := by omega
    by_cases q2 : 0 ≤ a2.toInt ∧ a2.toInt < nk
    · have q2' : 0 ≤ a2.toInt ∧ a2.toInt ≤ (nk : Int) - 1 := by omega
      obtain ⟨⟨e2, e3⟩, RR, CC⟩ := rs ⟨q1, q2⟩
      generalize hkx : a2.toInt.toNat = k at *
      have ek : a2 = nI k := by rw [← hkx]; exact ti_nat q2.1
      generalize hpx : a1.toInt.toNat = pp at *
      have ep : a1 = nI pp := by rw [← hpx]; exact ti_nat q1.1
      have z2 : a2.toInt = (k : Int) := by omega
      have kl : (k : Int) < 12 := by omega
      have q2k : (0 : Int) ≤ k ∧ (k : Int) ≤ (nk : Int) - 1 := by omega
      have RN : (nI R).toInt = R := ti_n (by omega)
      have CN : (nI C).toInt = C := ti_n (by omega)
      by_cases q3 : 0 ≤ a3.toInt ∧ a3.toInt ≤ (R : Int)
      · by_cases q4 : 0 ≤ a4.toInt ∧ a4.toInt ≤ (C : Int)
        · by_cases c5 : nl < 500
          · have n5 : ¬ (nl : Int) = 500 := by omega
            refine m321 ?_
            simp only [↓forall_eq, ↓inB_iff, gK_hU, gL_hU, gR_hU, gIh, gJh, pI_hU, pJ_hU, hU_hU, uI_app, uJ_app, and_true, true_and, and_false, false_and, and_self, true_implies, false_implies, not_true, not_false_iff, if_true, if_false, eq_self, Nat.reduceLeDiff, Nat.reduceEqDiff, reduceCtorEq, i32c, ti0, ti1, tiM, Int.natCast_nonneg, Int.reduceEq, Int.reduceLE, Int.reduceLT, Int.reduceNeg, tl_i, Int32.reduceToInt, Int64.reduceToInt, tiA, tlM6, Int.toNat_natCast, natc, nI_1, Int.zero_sub, implies_true, not_false_eq_true, mf.1, mr_81 mf, mk_99 mf, ml_99 mf, mr_83 mf, mk_100 mf, ml_100 mf, mr_84 mf, mk_101 mf, ml_101 mf, mr_85 mf, mk_102 mf, ml_102 mf, mr_86 mf, mk_103 mf, ml_103 mf, mr_87 mf, mk_104 mf, ml_104 mf, mr_88 mf, mk_105 mf, ml_105 mf, mr_90 mf, mk_106 mf, ml_106 mf, ↓fail_br mf, ↓isIn_br, f80, f82, f89, hn1, hk1, q1', z2, q2k, kl, e2, e3, RN, CN, q3, q4, hlI, n5]
            obtain ⟨hv, kk⟩ := w4 ⟨q1, q2⟩ ⟨q3, q4⟩ c5
            have H : lkF (uI I 44 0 0) nl k R C pp a1 a2 := ⟨by simp only [↓forall_eq, ↓inB_iff, gK_hU, gL_hU, gR_hU, gIh, gJh, pI_hU, pJ_hU, hU_hU, uI_app, uJ_app, and_true, true_and, and_false, false_and, and_self, true_implies, false_implies, not_true, not_false_iff, if_true, if_false, eq_self, Nat.reduceLeDiff, Nat.reduceEqDiff, reduceCtorEq, i32c, ti0, ti1, tiM, Int.natCast_nonneg, Int.reduceEq, Int.reduceLE, Int.reduceLT, Int.reduceNeg, tl_i, Int32.reduceToInt, Int64.reduceToInt, tiA, tlM6, Int.toNat_natCast, natc, nI_1, Int.zero_sub, implies_true, not_false_eq_true]; exact f89, c5, by omega, ek, ep, by omega, by simp only [↓forall_eq, ↓inB_iff, gK_hU, gL_hU, gR_hU, gIh, gJh, pI_hU, pJ_hU, hU_hU, uI_app, uJ_app, and_true, true_and, and_false, false_and, and_self, true_implies, false_implies, not_true, not_false_iff, if_true, if_false, eq_self, Nat.reduceLeDiff, Nat.reduceEqDiff, reduceCtorEq, i32c, ti0, ti1, tiM, Int.natCast_nonneg, Int.reduceEq, Int.reduceLE, Int.reduceLT, Int.reduceNeg, tl_i, Int32.reduceToInt, Int64.reduceToInt, tiA, tlM6, Int.toNat_natCast, natc, nI_1, Int.zero_sub, implies_true, not_false_eq_true]; exact e2, by simp only [↓forall_eq, ↓inB_iff, gK_hU, gL_hU, gR_hU, gIh, gJh, pI_hU, pJ_hU, hU_hU, uI_app, uJ_app, and_true, true_and, and_false, false_and, and_self, true_implies, false_implies, not_true, not_false_iff, if_true, if_false, eq_self, Nat.reduceLeDiff, Nat.reduceEqDiff, reduceCtorEq, i32c, ti0, ti1, tiM, Int.natCast_nonneg, Int.reduceEq, Int.reduceLE, Int.reduceLT, Int.reduceNeg, tl_i, Int32.reduceToInt, Int64.reduceToInt, tiA, tlM6, Int.toNat_natCast, natc, nI_1, Int.zero_sub, implies_true, not_false_eq_true]; exact e3, RR, CC⟩
            have s1 : uI I 44 0 0 44 1 = I 44 1 := by simp only [↓forall_eq, ↓inB_iff, gK_hU, gL_hU, gR_hU, gIh, gJh, pI_hU, pJ_hU, hU_hU, uI_app, uJ_app, and_true, true_and, and_false, false_and, and_self, true_implies, false_implies, not_true, not_false_iff, if_true, if_false, eq_self, Nat.reduceLeDiff, Nat.reduceEqDiff, reduceCtorEq, i32c, ti0, ti1, tiM, Int.natCast_nonneg, Int.reduceEq, Int.reduceLE, Int.reduceLT, Int.reduceNeg, tl_i, Int32.reduceToInt, Int64.reduceToInt, tiA, tlM6, Int.toNat_natCast, natc, nI_1, Int.zero_sub, implies_true, not_false_eq_true]
            have s2 : ∀ a, a ≠ 44 → uI I 44 0 0 a = I a := fun a ha => uI_ne _ _ _ ha
            refine m_lsum (v := v) mf H ?_ q3 q4 (fun x hx => ?_) (R * C) 0 (by omega)
            · unfold lokV hidC at hv ⊢
              rw [s1, s2 99 (by decide), s2 100 (by decide), s2 101 (by decide), s2 104 (by decide), s2 105 (by decide)]; exact hv
            · subst hx; rw [s1]; exact kk
          · have n5 : (nl : Int) = 500 := by omega
            refine m321 ?_
            simp only [↓forall_eq, ↓inB_iff, gK_hU, gL_hU, gR_hU, gIh, gJh, pI_hU, pJ_hU, hU_hU, uI_app, uJ_app, and_true, true_and, and_false, false_and, and_self, true_implies, false_implies, not_true, not_false_iff, if_true, if_false, eq_self, Nat.reduceLeDiff, Nat.reduceEqDiff, reduceCtorEq, i32c, ti0, ti1, tiM, Int.natCast_nonneg, Int.reduceEq, Int.reduceLE, Int.reduceLT, Int.reduceNeg, tl_i, Int32.reduceToInt, Int64.reduceToInt, tiA, tlM6, Int.toNat_natCast, natc, nI_1, Int.zero_sub, implies_true, not_false_eq_true, mf.1, mr_81 mf, mk_99 mf, ml_99 mf, mr_83 mf, mk_100 mf, ml_100 mf, mr_84 mf, mk_101 mf, ml_101 mf, mr_85 mf, mk_102 mf, ml_102 mf, mr_86 mf, mk_103 mf, ml_103 mf, mr_87 mf, mk_104 mf, ml_104 mf, mr_88 mf, mk_105 mf, ml_105 mf, mr_90 mf, mk_106 mf, ml_106 mf, ↓fail_br mf, ↓isIn_br, f80, f82, f89, hn1, hk1, q1', z2, q2k, kl, e2, e3, RN, CN, q3, q4, hlI, n5]
            exact w3 ⟨q1, q2⟩ ⟨q3, q4⟩ c5
        · refine m321 ?_
          simp only [↓forall_eq, ↓inB_iff, gK_hU, gL_hU, gR_hU, gIh, gJh, pI_hU, pJ_hU, hU_hU, uI_app, uJ_app, and_true, true_and, and_false, false_and, and_self, true_implies, false_implies, not_true, not_false_iff, if_true, if_false, eq_self, Nat.reduceLeDiff, Nat.reduceEqDiff, reduceCtorEq, i32c, ti0, ti1, tiM, Int.natCast_nonneg, Int.reduceEq, Int.reduceLE, Int.reduceLT, Int.reduceNeg, tl_i, Int32.reduceToInt, Int64.reduceToInt, tiA, tlM6, Int.toNat_natCast, natc, nI_1, Int.zero_sub, implies_true, not_false_eq_true, mf.1, mr_81 mf, mk_99 mf, ml_99 mf, mr_83 mf, mk_100 mf, ml_100 mf, mr_84 mf, mk_101 mf, ml_101 mf, mr_85 mf, mk_102 mf, ml_102 mf, mr_86 mf, mk_103 mf, ml_103 mf, mr_87 mf, mk_104 mf, ml_104 mf, mr_88 mf, mk_105 mf, ml_105 mf, mr_90 mf, mk_106 mf, ml_106 mf, ↓fail_br mf, ↓isIn_br, f80, f82, hn1, hk1, q1', z2, q2k, kl, e2, e3, RN, CN, q3, q4]
          exact w2 ⟨q1, q2⟩ (fun z => q4 z.2)
      · refine m321 ?_
        simp only [↓forall_eq, ↓inB_iff, gK_hU, gL_hU, gR_hU, gIh, gJh, pI_hU, pJ_hU, hU_hU, uI_app, uJ_app, and_true, true_and, and_false, false_and, and_self, true_implies, false_implies, not_true, not_false_iff, if_true, if_false, eq_self, Nat.reduceLeDiff, Nat.reduceEqDiff, reduceCtorEq, i32c, ti0, ti1, tiM, Int.natCast_nonneg, Int.reduceEq, Int.reduceLE, Int.reduceLT, Int.reduceNeg, tl_i, Int32.reduceToInt, Int64.reduceToInt, tiA, tlM6, Int.toNat_natCast, natc, nI_1, Int.zero_sub, implies_true, not_false_eq_true, mf.1, mr_81 mf, mk_99 mf, ml_99 mf, mr_83 mf, mk_100 mf, ml_100 mf, mr_84 mf, mk_101 mf, ml_101 mf, mr_85 mf, mk_102 mf, ml_102 mf, mr_86 mf, mk_103 mf, ml_103 mf, mr_87 mf, mk_104 mf, ml_104 mf, mr_88 mf, mk_105 mf, ml_105 mf, mr_90 mf, mk_106 mf, ml_106 mf, ↓fail_br mf, ↓isIn_br, f80, f82, hn1, hk1, q1', z2, q2k, kl, e2, RN, q3]
        exact w2 ⟨q1, q2⟩ (fun z => q3 z.1)
    · have q2' : ¬ (0 ≤ a2.toInt ∧ a2.toInt ≤ (nk : Int) - 1) := fun z => q2 (by omega)
      refine m321 ?_
      simp only [↓forall_eq, ↓inB_iff, gK_hU, gL_hU, gR_hU, gIh, gJh, pI_hU, pJ_hU, hU_hU, uI_app, uJ_app, and_true, true_and, and_false, false_and, and_self, true_implies, false_implies, not_true, not_false_iff, if_true, if_false, eq_self, Nat.reduceLeDiff, Nat.reduceEqDiff, reduceCtorEq, i32c, ti0, ti1, tiM, Int.natCast_nonneg, Int.reduceEq, Int.reduceLE, Int.reduceLT, Int.reduceNeg, tl_i, Int32.reduceToInt, Int64.reduceToInt, tiA, tlM6, Int.toNat_natCast, natc, nI_1, Int.zero_sub, implies_true, not_false_eq_true, mf.1, mr_81 mf, mk_99 mf, ml_99 mf, mr_83 mf, mk_100 mf, ml_100 mf, mr_84 mf, mk_101 mf, ml_101 mf, mr_85 mf, mk_102 mf, ml_102 mf, mr_86 mf, mk_103 mf, ml_103 mf, mr_87 mf, mk_104 mf, ml_104 mf, mr_88 mf, mk_105 mf, ml_105 mf, mr_90 mf, mk_106 mf, ml_106 mf, ↓fail_br mf, ↓isIn_br, f80, f82, hn1, hk1, q1', q2']
      exact w1 (fun z => q2 z.2)
  · have q1' : ¬ (0 ≤ a1.toInt ∧ a1.toInt ≤ (np : Int) - 1) := fun z => q1 (by omega)
    refine m321 ?_
    simp only [↓forall_eq, ↓inB_iff, gK_hU, gL_hU, gR_hU, gIh, gJh, pI_hU, pJ_hU, hU_hU, uI_app, uJ_app, and_true, true_and, and_false, false_and, and_self, true_implies, false_implies, not_true, not_false_iff, if_true, if_false, eq_self, Nat.reduceLeDiff, Nat.reduceEqDiff, reduceCtorEq, i32c, ti0, ti1, tiM, Int.natCast_nonneg, Int.reduceEq, Int.reduceLE, Int.reduceLT, Int.reduceNeg, tl_i, Int32.reduceToInt, Int64.reduceToInt, tiA, tlM6, Int.toNat_natCast, natc, nI_1, Int.zero_sub, implies_true, not_false_eq_true, mf.1, mr_81 mf, mk_99 mf, ml_99 mf, mr_83 mf, mk_100 mf, ml_100 mf, mr_84 mf, mk_101 mf, ml_101 mf, mr_85 mf, mk_102 mf, ml_102 mf, mr_86 mf, mk_103 mf, ml_103 mf, mr_87 mf, mk_104 mf, ml_104 mf, mr_88 mf, mk_105 mf, ml_105 mf, mr_90 mf, mk_106 mf, ml_106 mf, ↓fail_br mf, ↓isIn_br, f80, hn1, q1']
    exact w1 (fun z => q1 z.1)
theorem lokV_cg {M2 : Nat → Nat → Int32} (m : M2 100 = M 100 ∧ M2 101 = M 101 ∧ M2 104 = M 104 ∧ M2 105 = M 105) (hv : lokV M k R C mn rt a1 a3 a4 v) : lokV M2 k R C mn rt a1 a3 a4 v := by
  unfold lokV hidC at hv ⊢
  rw [m.1, m.2.1, m.2.2.1, m.2.2.2]; exact hv
theorem pr_look (b : base h o) (P : PerA h A o (gI h) np) (mm : gI h 8 12 = gI h 44 1) (Tb : TabA h A o (gI h) nt) (S : RelA h A o (gI h) nt nk) (L : LookA h A o (gI h) nl) : Pr 319 321 [vI a1, vI a2, vI a3, vI a4] [3, 4] h (fun h2 => ∃ A1 o1 nl1, left h h2 A A1 o o1 (fun c => c = 12) [106] [89] 1 (12 * (nl + 1)) ∧ LookA h2 A1 o1 (gI h2) nl1 ∧ nl1 ≤ nl + 1) := by
  have nl5 := L.1.2
  have fin : ∀ h2, left h h2 A A o o (fun _ => False) [] [] 1 6 → ∃ A1 o1 nl1, left h h2 A A1 o o1 (fun c => c = 12) [106] [89] 1 (12 * (nl + 1)) ∧ LookA h2 A1 o1 (gI h2) nl1 ∧ nl1 ≤ nl + 1 := fun h2 l => ⟨A, o, nl, left_mono l (fun _ w => w.elim) (by simp) (by simp) (by omega) (by omega), LookA_left b L l (fun w => w) (by simp) (by simp), by omega⟩
  by_cases q : lk12 np nk a1 a2
  · obtain ⟨T, t, R, C, ht, hr, ⟨e90, e91⟩, RS⟩ := S.2.2 a2.toInt.toNat (by have := q.2; omega)
    have uq : ∀ R' C', relS h A (gI h) a2.toInt.toNat R' C' → R' = R ∧ C' = C := fun R' C' rs => by
      have x1 := congrArg Int32.toInt (show nI R' = nI R by rw [← rs.2.1.1, RS.2.1.1])
      have x2 := congrArg Int32.toInt (show nI C' = nI C by rw [← rs.2.1.2, RS.2.1.2])
      have y1 := rs.1
      have y2 := RS.1
      rw [ti_n (by omega), ti_n (by omega)] at x1 x2
      omega
    by_cases q3 : (0 ≤ a3.toInt ∧ a3.toInt ≤ R) ∧ (0 ≤ a4.toInt ∧ a4.toInt ≤ C)
    · by_cases q5 : nl < 500
      · obtain ⟨v, hv⟩ := lok_ex (gI h) a2.toInt.toNat R C (gI h 44 1) (gI h 99 a1.toInt.toNat) a1 a3 a4
        have uv : ∀ v', lokV (gI h) a2.toInt.toNat R C (gI h 44 1) (gI h 99 a1.toInt.toNat) a1 a3 a4 v' → v' = v := fun v' hv' => by
          by_cases x1 : (gI h 44 1).toInt < (gI h 101 a2.toInt.toNat).toInt ∧ ¬ a1.toInt = (gI h 100 a2.toInt.toNat).toInt
          · rw [hv.1 x1.1 x1.2, hv'.1 x1.1 x1.2]
          · have y1 := hv.2 x1
            have y2 := hv'.2 x1
            by_cases x2 : (gI h 99 a1.toInt.toNat).toInt = 0
            · rw [y1.1 x2, y2.1 x2]
            · have u1 := y1.2 x2
              have u2 := y2.2 x2
              by_cases x3 : hidC (gI h) a2.toInt.toNat R C a3 a4 ∧ (gI h 99 a1.toInt.toNat &&& 4).toInt = 0
              · rw [u1.1 x3, u2.1 x3]
              · rw [u1.2 x3, u2.2 x3]
        refine Pr_ok v (fun h1 => ∃ A1 o1, lokN h h1 A A1 o o1 nl a1 a2 a3 a4 v (gI h 44 1)) (fun K X kk => c_look b P Tb S L mm (fun z => absurd q z) (fun _ R' C' rs z => absurd (by obtain ⟨e1, e2⟩ := uq R' C' rs; rw [e1, e2]; exact q3) z) (fun _ _ _ _ _ z => absurd q5 z) (fun _ R' C' rs _ _ v' hv' h1 A1 o1 ln => ?_)) (fun h1 J1 m j K X kk => ?_)
        · obtain ⟨e1, e2⟩ := uq R' C' rs
          rw [e1, e2] at hv'
          have ev := uv v' hv'
          rw [ev] at ln ⊢
          exact kk h1 ⟨A1, o1, ln⟩
        · obtain ⟨A1, o1, b1, f1, ⟨r1, r2⟩, r3, r4, n1, t1⟩ := m
          have e9 : ∀ x, 44 ≤ x → x < 107 → gI h1 x = gI h x := fun x z1 z2 => (fr_m b f1 (by decide) z1 z2).1
          have e4 := e9 44 (by decide) (by decide)
          refine m_look (R := R) (C := C) (np := np) (nk := nk) (nl := nl) (v := v) b1.2.1 (by rw [e4]; exact P.1.1) P.1.2 (by rw [e4]; exact S.2.1.1) S.2.1.2 (by rw [e4]; exact L.1.1) nl5 (fun z => absurd q z) (fun _ => ⟨by rw [e9 102 (by decide) (by decide), e9 103 (by decide) (by decide)]; exact RS.2.1, RS.1⟩) (fun _ z => absurd q3 z) (fun _ _ z => absurd q5 z) (fun _ _ _ => ⟨?_, ?_⟩)
          · rw [e4, e9 99 (by decide) (by decide)]
            exact lokV_cg ⟨e9 100 (by decide) (by decide), e9 101 (by decide) (by decide), e9 104 (by decide) (by decide), e9 105 (by decide) (by decide)⟩ hv
          · have lo : ¬ (44 ≤ A1 12000043 ∧ A1 12000043 ≤ 107) := fun z => by
              have q := r2
              by_cases e : A1 12000043 = 107
              · rw [e, ol_107 b1.2.2] at q; omega
              · have w := ol_m b1.2.2 z.1 (by omega)
                rw [q] at w; omega
            have i1 : ∀ a, a ≠ 44 → a ≠ 106 → lkU (uI (gI h1) 44 0 0) nl a1 a2 a3 a4 v (gI h1 44 1) a = gI h1 a := fun a z1 z2 => by unfold lkU; rw [uI_ne _ _ _ z1, uI_ne _ _ _ z2, uI_ne _ _ _ z2, uI_ne _ _ _ z2, uI_ne _ _ _ z2, uI_ne _ _ _ z2, uI_ne _ _ _ z2, uI_ne _ _ _ z1]
            have i2 : ∀ jj, jj ≠ 0 → jj ≠ 89 → lkU (uI (gI h1) 44 0 0) nl a1 a2 a3 a4 v (gI h1 44 1) 44 jj = gI h1 44 jj := fun jj z1 z2 => by unfold lkU; rw [uI_nj _ _ _ _ z2, uI_ne _ _ _ (by decide), uI_ne _ _ _ (by decide), uI_ne _ _ _ (by decide), uI_ne _ _ _ (by decide), uI_ne _ _ _ (by decide), uI_ne _ _ _ (by decide), uI_nj _ _ _ _ z1]
            refine kk _ ?_ rfl ⟨A1, o1, nl + 1, left_mk (h1 := h1) b b1 f1 (by decide) (by decide) (fun a z1 z2 => i1 a z1 (fun e => z2 (by rw [e]; simp))) (fun jj z1 z2 => i2 jj z1 (fun e => z2 (by rw [e]; simp))) (fun a a1 _ => j a a1) n1 t1, ⟨⟨by rw [gIh]; unfold lkU; rw [uI_same], by omega⟩, ⟨rows_hU r1 (i1 42 (by decide) (by decide)), r2⟩, fun i hi => ?_⟩, Nat.le_refl _⟩
            · rw [gIh]; unfold lkU; rw [uI_nj _ _ _ _ (by decide), uI_ne _ _ _ (by decide), uI_ne _ _ _ (by decide), uI_ne _ _ _ (by decide), uI_ne _ _ _ (by decide), uI_ne _ _ _ (by decide), uI_ne _ _ _ (by decide), uI_same]
            · rw [gIh, i1 _ (by omega) (by omega)]
              unfold lkU
              rw [uI_ne _ _ _ (by decide)]
              by_cases hi2 : i < 6 * nl
              · rw [uI_nj _ _ _ _ (by omega), uI_nj _ _ _ _ (by omega), uI_nj _ _ _ _ (by omega), uI_nj _ _ _ _ (by omega), uI_nj _ _ _ _ (by omega), uI_nj _ _ _ _ (by omega), uI_ne _ _ _ (by decide), e9 106 (by decide) (by decide), r3 i hi2]
                exact L.2.2 i hi2
              · obtain ⟨jj, hj⟩ : ∃ jj, i = 6 * nl + jj := ⟨i - 6 * nl, by omega⟩
                subst hj
                rw [r4 jj (by omega)]
                unfold rowV
                rw [e4]
                have : jj = 0 ∨ jj = 1 ∨ jj = 2 ∨ jj = 3 ∨ jj = 4 ∨ jj = 5 := by omega
                rcases this with e | e | e | e | e | e <;> subst e <;> simp only [↓forall_eq, ↓inB_iff, gK_hU, gL_hU, gR_hU, gIh, gJh, pI_hU, pJ_hU, hU_hU, uI_app, uJ_app, and_true, true_and, and_false, false_and, and_self, true_implies, false_implies, not_true, not_false_iff, if_true, if_false, eq_self, Nat.reduceLeDiff, Nat.reduceEqDiff, reduceCtorEq, i32c, ti0, ti1, tiM, Int.natCast_nonneg, Int.reduceEq, Int.reduceLE, Int.reduceLT, Int.reduceNeg, tl_i, Int32.reduceToInt, Int64.reduceToInt, tiA, tlM6, Int.toNat_natCast, natc, nI_1, Int.zero_sub, implies_true, not_false_eq_true, Nat.add_zero, Nat.add_left_cancel_iff, Nat.add_eq_left, Nat.left_eq_add]
      · refine Pr_gc (A := A) (C := fun _ => False) 1 4 b (by decide) rfl (fun K X kk => c_look b P Tb S L mm (fun z => absurd q z) (fun _ R' C' rs z => absurd (by obtain ⟨e1, e2⟩ := uq R' C' rs; rw [e1, e2]; exact q3) z) (fun _ _ _ _ _ _ => kk) (fun _ _ _ _ _ z => absurd z q5)) (fun g J K X mf e kk => ?_) fin
        have e4 := e 44 (by decide) (by decide)
        exact m_look (R := R) (C := C) (np := np) (nk := nk) (nl := nl) (v := 0) mf (by rw [e4]; exact P.1.1) P.1.2 (by rw [e4]; exact S.2.1.1) S.2.1.2 (by rw [e4]; exact L.1.1) nl5 (fun z => absurd q z) (fun _ => ⟨by rw [e 102 (by decide) (by decide), e 103 (by decide) (by decide)]; exact RS.2.1, RS.1⟩) (fun _ z => absurd q3 z) (fun _ _ _ => kk) (fun _ _ z => absurd z q5)
    · refine Pr_gc (A := A) (C := fun _ => False) 0 3 b (by decide) rfl (fun K X kk => c_look b P Tb S L mm (fun z => absurd q z) (fun _ _ _ _ _ => kk) (fun _ R' C' rs z => absurd (by obtain ⟨e1, e2⟩ := uq R' C' rs; rw [e1, e2] at z; exact z) q3) (fun _ R' C' rs z => absurd (by obtain ⟨e1, e2⟩ := uq R' C' rs; rw [e1, e2] at z; exact z) q3)) (fun g J K X mf e kk => ?_) fin
      have e4 := e 44 (by decide) (by decide)
      exact m_look (R := R) (C := C) (np := np) (nk := nk) (nl := nl) (v := 0) mf (by rw [e4]; exact P.1.1) P.1.2 (by rw [e4]; exact S.2.1.1) S.2.1.2 (by rw [e4]; exact L.1.1) nl5 (fun z => absurd q z) (fun _ => ⟨by rw [e 102 (by decide) (by decide), e 103 (by decide) (by decide)]; exact RS.2.1, RS.1⟩) (fun _ _ => kk) (fun _ z => absurd z q3) (fun _ z => absurd z q3)
  · refine Pr_gc (A := A) (C := fun _ => False) 0 3 b (by decide) rfl (fun K X kk => c_look b P Tb S L mm (fun _ => kk) (fun z => absurd z q) (fun z => absurd z q) (fun z => absurd z q)) (fun g J K X mf e kk => ?_) fin
    have e4 := e 44 (by decide) (by decide)
    exact m_look (R := 1) (C := 1) (np := np) (nk := nk) (nl := nl) (v := 0) mf (by rw [e4]; exact P.1.1) P.1.2 (by rw [e4]; exact S.2.1.1) S.2.1.2 (by rw [e4]; exact L.1.1) nl5 (fun _ => kk) (fun z => absurd z q) (fun z => absurd z q) (fun z => absurd z q) (fun z => absurd z q)
end PLL
