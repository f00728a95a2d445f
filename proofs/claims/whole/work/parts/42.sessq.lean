/-! SESSIONS: given, back -/
section SSQ
variable {d U nf ns k f : Nat} {h h1 h2 g : aH} {A A1 o o1 : Nat → Nat} {X : Nat → aH → Prop} {M M2 : Nat → Nat → Int32} {I : Nat → Nat → Int32} {J : Nat → Nat → Int64} {C : Nat → Prop} {E : Nat → Nat → List Tm} {Cn : Nat → Nat → List Cmp}
theorem pr_given {x s a : Int32} (b : base h o) (F : FormA h A o (gI h) E Cn nf) (S : SessA h A o (gI h) E Cn nf ns U) : Pr 165 167 [vI x, vI s, vI a] [3] h (fun h2 => left h h2 A A o o (fun _ => False) [65, 66] [36, 37, 50, 51, 52] 1 6) := by
  have hs := S.2.1.1
  have hs6 := S.2.1.2
  have hs2 : (nI ns).toInt = ns := ti_n (by omega)
  have fin : ∀ h2, left h h2 A A o o (fun _ => False) [] [] 1 6 → left h h2 A A o o (fun _ => False) [65, 66] [36, 37, 50, 51, 52] 1 6 := fun h2 l => left_mono l (fun _ w => w) (by simp) (by simp) (by omega) (by omega)
  by_cases q : 0 ≤ x.toInt ∧ x.toInt < ns
  · generalize hk : x.toInt.toNat = k at *
    have hx : x = nI k := by rw [← hk]; exact ti_nat q.1
    have hk2 : k < ns := by omega
    have X0 := sX_of F S hk2
    obtain ⟨s1, ⟨s2, s3⟩, s4, s5, ⟨s8, s9⟩, ⟨w1, w2, w3, w4⟩, ⟨c1, c2⟩, g1, g2, n1, n2⟩ := S.2.2.1 k hk2
    have FO := F.2.2 _ s3
    generalize hf : fS (gI h) k = f at *
    obtain ⟨⟨t, l, ⟨d1, d2, d3⟩, d4⟩, -⟩ := X0
    have hcn : gI h 53 f = nI (cnM (gI h) f) := FO.2.1.1.1
    have f6 := FO.2.1.1.2.2
    have hcI : (nI (cnM (gI h) f)).toInt = (cnM (gI h) f : Nat) := ti_n (by omega)
    have hc1 : (nI (cnM (gI h) f) - 1).toInt = (cnM (gI h) f : Int) - 1 := by rw [ti_sub (by rw [hcI, ti1]; omega) (by rw [hcI, ti1]; omega), hcI, ti1]
    have hfI : (nI f).toInt = f := ti_n (by omega)
    have f6' : (f : Int) < 6 := by omega
    have hkI : (nI k).toInt = k := ti_n (by omega)
    have k60 : (k : Int) < 60 := by omega
    have k0 : (k : Int) < ns := by omega
    subst hx
    by_cases q2 : 0 ≤ s.toInt ∧ s.toInt < cnM (gI h) f
    · have q2' : 0 ≤ s.toInt ∧ s.toInt ≤ (cnM (gI h) f : Int) - 1 := by omega
      have z20 : s.toInt < 20 := by omega
      have hst : s.toInt.toNat < 20 := by omega
      by_cases qa : a.toInt = 0
      · refine Pr_ok (gI h (A (bS k + 2)) s.toInt.toNat) (fun h1 => h1 = h) (fun K X kk => m165 ?_) (fun h1 J1 m j K X kk => m167 ?_)
        · simp only [↓forall_eq, ↓inB_iff, gK_hU, gL_hU, gR_hU, gIh, gJh, pI_hU, pJ_hU, hU_hU, uI_app, uJ_app, and_true, true_and, and_false, false_and, and_self, true_implies, false_implies, not_true, not_false_iff, if_true, if_false, eq_self, Nat.reduceLeDiff, Nat.reduceEqDiff, reduceCtorEq, i32c, ti0, ti1, tiM, Int.natCast_nonneg, Int.reduceEq, Int.reduceLE, Int.reduceLT, Int.reduceNeg, tl_i, Int32.reduceToInt, Int64.reduceToInt, tiA, tlM6, Int.toNat_natCast, natc, nI_1, Int.zero_sub, implies_true, not_false_eq_true, ck_8 b.1, ↓sessionAt_br b S.1, hkI, k0, kS_0 s1, s4, ↓needSt_br (kF_0 t) d1 d2, q2, qa, rS_0_3 s1, kS_2 s1, lS_2 s1, z20]
          exact kk h rfl
        · subst m
          have mf := b.2.1
          simp only [↓forall_eq, ↓inB_iff, gK_hU, gL_hU, gR_hU, gIh, gJh, pI_hU, pJ_hU, hU_hU, uI_app, uJ_app, and_true, true_and, and_false, false_and, and_self, true_implies, false_implies, not_true, not_false_iff, if_true, if_false, eq_self, Nat.reduceLeDiff, Nat.reduceEqDiff, reduceCtorEq, i32c, ti0, ti1, tiM, Int.natCast_nonneg, Int.reduceEq, Int.reduceLE, Int.reduceLT, Int.reduceNeg, tl_i, Int32.reduceToInt, Int64.reduceToInt, tiA, tlM6, Int.toNat_natCast, natc, nI_1, Int.zero_sub, implies_true, not_false_eq_true, mf.1, mr_15 mf, mk_53 mf, ml_53 mf, mr_34 mf, mk_65 mf, ml_65 mf, mr_39 mf, mk_67 mf, ml_67 mf, mr_45 mf, mk_73 mf, ml_73 mf, mr_46 mf, mk_74 mf, ml_74 mf, ↓fail_br mf, ↓isSession_br mf, ↓isIn_br, hs, hs2, hkI, k0, k60, s2, hfI, f6', hcn, hc1, q2', qa]
          have fm : fmM (uI (gI h1) 44 0 0) f (cnM (gI h1) f) (soM (gI h1) f) (E f) (Cn f) := fmM_cg (fun a q1 q2 => by rw [uI_ne _ _ _ (by omega)]) FO.2.1
          refine m_walk mf (by rw [uI_ne _ _ _ (by decide)]; exact s2) fm (by omega) (fun i hi => by rw [uI_ne _ _ _ (by decide), uI_ne _ _ _ (by decide)]; exact gOK_of g1 FO.2.2.1 i hi) fun I2 a1 a2 a3 => ?_
          have e1 : gvM (uI (gI h1) 44 0 0) k = gvM (gI h1) k := by funext i; unfold gvM; rw [uI_ne _ _ _ (by decide), uI_ne _ _ _ (by decide)]
          have e2 : rgM (uI (gI h1) 44 0 0) k = rgM (gI h1) k := by funext i; unfold rgM; rw [uI_ne _ _ _ (by decide)]
          rw [e1, e2] at a2
          have a2' := a2 s.toInt.toNat hst
          rw [← w3 _ hst] at a2'
          simp only [↓forall_eq, ↓inB_iff, gK_hU, gL_hU, gR_hU, gIh, gJh, pI_hU, pJ_hU, hU_hU, uI_app, uJ_app, and_true, true_and, and_false, false_and, and_self, true_implies, false_implies, not_true, not_false_iff, if_true, if_false, eq_self, Nat.reduceLeDiff, Nat.reduceEqDiff, reduceCtorEq, i32c, ti0, ti1, tiM, Int.natCast_nonneg, Int.reduceEq, Int.reduceLE, Int.reduceLT, Int.reduceNeg, tl_i, Int32.reduceToInt, Int64.reduceToInt, tiA, tlM6, Int.toNat_natCast, natc, nI_1, Int.zero_sub, implies_true, not_false_eq_true, mf.1, mr_15 mf, mk_53 mf, ml_53 mf, mr_34 mf, mk_65 mf, ml_65 mf, mr_39 mf, mk_67 mf, ml_67 mf, mr_45 mf, mk_73 mf, ml_73 mf, mr_46 mf, mk_74 mf, ml_74 mf, z20, q2, a2']
          exact kk _ (by rw [gIh, a1.2 0 (by decide) (by decide) (by decide) (by decide) (by decide), uI_same]) rfl (left_mk b b fr_refl (fun w => w) (by simp) (fun a z1 z2 => by simp only [List.mem_cons, List.not_mem_nil, or_false, not_or] at z2; rw [a1.1 a z1 z2.1 z2.2, uI_ne _ _ _ z1]) (fun j9 z1 z2 => by simp only [List.mem_cons, List.not_mem_nil, or_false, not_or] at z2; rw [a1.2 j9 z2.1 z2.2.1 z2.2.2.1 z2.2.2.2.1 z2.2.2.2.2, uI_nj _ _ _ _ z1]) (fun a a1 _ => j a a1) (by omega) (by omega))
      · refine Pr_ok (gI h (A (bS k + 4)) s.toInt.toNat) (fun h1 => h1 = h) (fun K X kk => m165 ?_) (fun h1 J1 m j K X kk => m167 ?_)
        · simp only [↓forall_eq, ↓inB_iff, gK_hU, gL_hU, gR_hU, gIh, gJh, pI_hU, pJ_hU, hU_hU, uI_app, uJ_app, and_true, true_and, and_false, false_and, and_self, true_implies, false_implies, not_true, not_false_iff, if_true, if_false, eq_self, Nat.reduceLeDiff, Nat.reduceEqDiff, reduceCtorEq, i32c, ti0, ti1, tiM, Int.natCast_nonneg, Int.reduceEq, Int.reduceLE, Int.reduceLT, Int.reduceNeg, tl_i, Int32.reduceToInt, Int64.reduceToInt, tiA, tlM6, Int.toNat_natCast, natc, nI_1, Int.zero_sub, implies_true, not_false_eq_true, ck_8 b.1, ↓sessionAt_br b S.1, hkI, k0, kS_0 s1, s4, ↓needSt_br (kF_0 t) d1 d2, q2, qa, rS_0_5 s1, kS_4 s1, lS_4 s1, z20]
          exact kk h rfl
        · subst m
          have mf := b.2.1
          have hix : (20 : Int32) * nI k + s = nI (20 * k + s.toInt.toNat) := by rw [show (20 : Int32) = nI 20 from rfl, nI_mul, ← nI_add, ← ti_nat q2.1]
          have hxI : (nI (20 * k + s.toInt.toNat)).toInt = ((20 * k + s.toInt.toNat : Nat) : Int) := ti_n (by omega)
          have zx : ((20 * k + s.toInt.toNat : Nat) : Int) < 1200 := by omega
          simp only [↓forall_eq, ↓inB_iff, gK_hU, gL_hU, gR_hU, gIh, gJh, pI_hU, pJ_hU, hU_hU, uI_app, uJ_app, and_true, true_and, and_false, false_and, and_self, true_implies, false_implies, not_true, not_false_iff, if_true, if_false, eq_self, Nat.reduceLeDiff, Nat.reduceEqDiff, reduceCtorEq, i32c, ti0, ti1, tiM, Int.natCast_nonneg, Int.reduceEq, Int.reduceLE, Int.reduceLT, Int.reduceNeg, tl_i, Int32.reduceToInt, Int64.reduceToInt, tiA, tlM6, Int.toNat_natCast, natc, nI_1, Int.zero_sub, implies_true, not_false_eq_true, mf.1, mr_15 mf, mk_53 mf, ml_53 mf, mr_34 mf, mk_65 mf, ml_65 mf, mr_39 mf, mk_67 mf, ml_67 mf, mr_45 mf, mk_73 mf, ml_73 mf, mr_46 mf, mk_74 mf, ml_74 mf, ↓fail_br mf, ↓isSession_br mf, ↓isIn_br, hs, hs2, hkI, k0, k60, s2, hfI, f6', hcn, hc1, q2', qa, hix, hxI, zx]
          have hw := w2 _ hst
          unfold avM at hw
          rw [if_pos hst] at hw
          have fi := left_mk (n := 1) (t := 6) (as := [65, 66]) (fs := [36, 37, 50, 51, 52]) (I' := uI (gI h1) 44 0 0) (J' := J1) (C := fun _ => False) (A := A) (A1 := A) b b fr_refl (fun w => w) (by simp) (fun a a1 a2 => by funext j9; simp only [uI_app]; grind) (fun j9 a1 a2 => by simp only [uI_app]; grind) (fun a a1 _ => j a a1) (by omega) (by omega)
          refine ⟨fun c => ?_, fun c => ?_⟩
          · rw [if_pos c] at hw
            rw [hw] at kk
            exact kk _ (by rw [gIh, uI_same]) rfl fi
          · rw [if_neg c] at hw
            rw [hw] at kk
            exact kk _ (by rw [gIh, uI_same]) rfl fi
    · have q2' : ¬ (0 ≤ s.toInt ∧ s.toInt ≤ (cnM (gI h) f : Int) - 1) := by omega
      refine Pr_gc (A := A) (C := fun _ => False) 0 3 b (by decide) rfl (fun K X kk => m165 ?_) (fun g J K X mf e kk => m167 ?_) fin
      · simp only [↓forall_eq, ↓inB_iff, gK_hU, gL_hU, gR_hU, gIh, gJh, pI_hU, pJ_hU, hU_hU, uI_app, uJ_app, and_true, true_and, and_false, false_and, and_self, true_implies, false_implies, not_true, not_false_iff, if_true, if_false, eq_self, Nat.reduceLeDiff, Nat.reduceEqDiff, reduceCtorEq, i32c, ti0, ti1, tiM, Int.natCast_nonneg, Int.reduceEq, Int.reduceLE, Int.reduceLT, Int.reduceNeg, tl_i, Int32.reduceToInt, Int64.reduceToInt, tiA, tlM6, Int.toNat_natCast, natc, nI_1, Int.zero_sub, implies_true, not_false_eq_true, ck_8 b.1, ↓sessionAt_br b S.1, hkI, k0, kS_0 s1, s4, ↓needSt_br (kF_0 t) d1 d2, q2]
        exact kk
      · have e44 := e 44 (by decide) (by decide)
        have e67 := e 67 (by decide) (by decide)
        have e53 := e 53 (by decide) (by decide)
        simp only [↓forall_eq, ↓inB_iff, gK_hU, gL_hU, gR_hU, gIh, gJh, pI_hU, pJ_hU, hU_hU, uI_app, uJ_app, and_true, true_and, and_false, false_and, and_self, true_implies, false_implies, not_true, not_false_iff, if_true, if_false, eq_self, Nat.reduceLeDiff, Nat.reduceEqDiff, reduceCtorEq, i32c, ti0, ti1, tiM, Int.natCast_nonneg, Int.reduceEq, Int.reduceLE, Int.reduceLT, Int.reduceNeg, tl_i, Int32.reduceToInt, Int64.reduceToInt, tiA, tlM6, Int.toNat_natCast, natc, nI_1, Int.zero_sub, implies_true, not_false_eq_true, mf.1, mr_15 mf, mk_53 mf, ml_53 mf, mr_34 mf, mk_65 mf, ml_65 mf, mr_39 mf, mk_67 mf, ml_67 mf, mr_45 mf, mk_73 mf, ml_73 mf, mr_46 mf, mk_74 mf, ml_74 mf, ↓fail_br mf, ↓isSession_br mf, ↓isIn_br, e44, e67, e53, hs, hs2, hkI, k0, k60, s2, hfI, f6', hcn, hc1, q2']
        exact kk
  · refine Pr_gc (A := A) (C := fun _ => False) 0 3 b (by decide) rfl (fun K X k => m165 ?_) (fun g J K X mf e k => m167 ?_) fin
    · simp only [↓forall_eq, ↓inB_iff, gK_hU, gL_hU, gR_hU, gIh, gJh, pI_hU, pJ_hU, hU_hU, uI_app, uJ_app, and_true, true_and, and_false, false_and, and_self, true_implies, false_implies, not_true, not_false_iff, if_true, if_false, eq_self, Nat.reduceLeDiff, Nat.reduceEqDiff, reduceCtorEq, i32c, ti0, ti1, tiM, Int.natCast_nonneg, Int.reduceEq, Int.reduceLE, Int.reduceLT, Int.reduceNeg, tl_i, Int32.reduceToInt, Int64.reduceToInt, tiA, tlM6, Int.toNat_natCast, natc, nI_1, Int.zero_sub, implies_true, not_false_eq_true, ck_8 b.1, ↓sessionAt_br b S.1, q]
      exact k
    · simp only [↓forall_eq, ↓inB_iff, gK_hU, gL_hU, gR_hU, gIh, gJh, pI_hU, pJ_hU, hU_hU, uI_app, uJ_app, and_true, true_and, and_false, false_and, and_self, true_implies, false_implies, not_true, not_false_iff, if_true, if_false, eq_self, Nat.reduceLeDiff, Nat.reduceEqDiff, reduceCtorEq, i32c, ti0, ti1, tiM, Int.natCast_nonneg, Int.reduceEq, Int.reduceLE, Int.reduceLT, Int.reduceNeg, tl_i, Int32.reduceToInt, Int64.reduceToInt, tiA, tlM6, Int.toNat_natCast, natc, nI_1, Int.zero_sub, implies_true, not_false_eq_true, mf.1, mr_15 mf, mk_53 mf, ml_53 mf, mr_34 mf, mk_65 mf, ml_65 mf, mr_39 mf, mk_67 mf, ml_67 mf, mr_45 mf, mk_73 mf, ml_73 mf, mr_46 mf, mk_74 mf, ml_74 mf, ↓fail_br mf, ↓isSession_br mf, e 44 (by decide) (by decide), hs, hs2, q]
      exact k
end SSQ
