/-! FORMS: statement, cost -/
section FPR
variable {d U nf ns k f : Nat} {h h1 h2 g : aH} {A A1 o o1 : Nat → Nat} {X : Nat → aH → Prop} {M M2 : Nat → Nat → Int32} {I I1 I2 : Nat → Nat → Int32} {J J2 : Nat → Nat → Int64} {C : Nat → Prop} {E : Nat → Nat → List Tm} {Cn : Nat → Nat → List Cmp}
def isSt (M : Nat → Nat → Int32) (nf : Nat) (x s : Int32) : Prop := (0 ≤ x.toInt ∧ x.toInt < nf) ∧ 0 ≤ s.toInt ∧ s.toInt < cnM M x.toInt.toNat
theorem isStOf_br {K : Int32 → aH → Prop} {x s : Int32} (mf : MF g) (hnf : M 44 14 = nI nf) (n6 : nf ≤ 6) (hc : ∀ f, f < nf → M 53 f = nI (cnM M f) ∧ cnM M f ≤ 20) (e44 : I 44 14 = M 44 14) (e53 : I 53 = M 53) : CI (d + 2) 125 [vR 44, vI x, vI s] (hU g I J) K X ↔ ((isSt M nf x s → K 1 (hU g I J)) ∧ (¬ isSt M nf x s → K 0 (hU g I J))) := by
  have hn : (nI nf).toInt = nf := ti_n (by omega)
  have H : ∀ (K : Int32 → aH → Prop) (X : Nat → aH → Prop), ((isSt M nf x s → K 1 (hU g I J)) ∧ (¬ isSt M nf x s → K 0 (hU g I J))) → CI (d + 2) 125 [vR 44, vI x, vI s] (hU g I J) K X := fun K X w => by
    refine m125 ?_
    by_cases q : 0 ≤ x.toInt ∧ x.toInt < nf
    · obtain ⟨c1, c2⟩ := hc x.toInt.toNat (by omega)
      have hcI : (nI (cnM M x.toInt.toNat)).toInt = (cnM M x.toInt.toNat : Nat) := ti_n (by omega)
      have hc1 : (nI (cnM M x.toInt.toNat) - 1).toInt = (cnM M x.toInt.toNat : Int) - 1 := by rw [ti_sub (by rw [hcI, ti1]; omega) (by rw [hcI, ti1]; omega), hcI, ti1]
      have z6 : x.toInt < 6 := by omega
      simp only [↓forall_eq, ↓inB_iff, gK_hU, gL_hU, gR_hU, gIh, gJh, pI_hU, pJ_hU, hU_hU, uI_app, uJ_app, and_true, true_and, and_false, false_and, and_self, true_implies, false_implies, not_true, not_false_iff, if_true, if_false, eq_self, Nat.reduceLeDiff, Nat.reduceEqDiff, reduceCtorEq, i32c, ti0, ti1, tiM, Int.natCast_nonneg, Int.reduceEq, Int.reduceLE, Int.reduceLT, Int.reduceNeg, tl_i, Int32.reduceToInt, Int64.reduceToInt, tiA, tlM6, Int.toNat_natCast, natc, nI_1, Int.zero_sub, implies_true, not_false_eq_true, mf.1, mr_15 mf, mk_53 mf, ml_53 mf, ↓isForm_br mf, ↓isIn_br, e44, e53, hnf, hn, q, z6, c1, hc1]
      exact ⟨fun z => w.1 ⟨q, by omega⟩, fun z => w.2 (fun y => z (by have := y.2; omega))⟩
    · simp only [↓forall_eq, ↓inB_iff, gK_hU, gL_hU, gR_hU, gIh, gJh, pI_hU, pJ_hU, hU_hU, uI_app, uJ_app, and_true, true_and, and_false, false_and, and_self, true_implies, false_implies, not_true, not_false_iff, if_true, if_false, eq_self, Nat.reduceLeDiff, Nat.reduceEqDiff, reduceCtorEq, i32c, ti0, ti1, tiM, Int.natCast_nonneg, Int.reduceEq, Int.reduceLE, Int.reduceLT, Int.reduceNeg, tl_i, Int32.reduceToInt, Int64.reduceToInt, tiA, tlM6, Int.toNat_natCast, natc, nI_1, Int.zero_sub, implies_true, not_false_eq_true, mf.1, mr_15 mf, mk_53 mf, ml_53 mf, ↓isForm_br mf, e44, hnf, hn, q]
      exact w.2 (fun y => q y.1)
  by_cases q : isSt M nf x s
  · rw [bz_t q]; exact CI_iff fun K X w => H K X ((bz_t q).mpr w)
  · rw [bz_f q]; exact CI_iff fun K X w => H K X ((bz_f q).mpr w)
theorem cn_of (F : FormA h A o M E Cn nf) : ∀ f, f < nf → M 53 f = nI (cnM M f) ∧ cnM M f ≤ 20 := fun f hf => ⟨(F.2.2 f hf).2.1.1.1, (F.2.2 f hf).2.1.1.2.1⟩
/-- formAt and needStatement of the class -/
theorem formSt {K : Nat → aH → Prop} {x s : Int32} (b : base h o) (F : FormA h A o M E Cn nf) (w1 : isSt M nf x s → K (A (bF x.toInt.toNat)) h) (w2 : ¬ isSt M nf x s → X 3 (gNew h 200 6)) : CR (d + 3) 120 [vR 8, vI x] h (fun q0 h0 => gK h0 8 = 1 ∧ CV (d + 3) 121 [vR 8, vR q0, vI s] h0 (fun h1 => K q0 h1) X) X := by
  rw [formAt_br b F.1]
  refine ⟨fun q => ?_, fun q => w2 (fun y => q y.1)⟩
  obtain ⟨⟨t, l, ⟨c1, c2, c3⟩, c4⟩, -⟩ := F.2.2 x.toInt.toNat (by omega)
  refine ⟨ck_8 b.1, ?_⟩
  rw [needSt_br (kF_0 t) c1 c2]
  exact ⟨fun z => w1 ⟨q, z⟩, fun z => w2 (fun y => z y.2)⟩
theorem pr_statement {x s a : Int32} (b : base h o) (F : FormA h A o (gI h) E Cn nf) : Pr 122 126 [vI x, vI s, vI a] [3, 1] h (fun h2 => left h h2 A A o o (fun _ => False) [] [] 1 6) := by
  have hnf := F.2.1.1
  have n6 := F.2.1.2
  have hc := cn_of F
  have mf := b.2.1
  by_cases q : isSt (gI h) nf x s
  · by_cases qa : 0 ≤ a.toInt ∧ a.toInt ≤ 3
    · obtain ⟨q1, q2⟩ := id q
      generalize hfx : x.toInt.toNat = f at *
      obtain ⟨⟨t, l, ⟨c1, c2, c3⟩, c4⟩, fm, fb, -⟩ := F.2.2 f (by omega)
      have hsn : s.toInt.toNat < cnM (gI h) f := by omega
      have s20 : s.toInt < 20 := by omega
      obtain ⟨y1, -⟩ := c4 _ hsn
      obtain ⟨b1, b2, b3, -⟩ := fb _ hsn
      have y1' : gI h (A (bF f + 3)) s.toInt.toNat = gI h 54 (20 * f + s.toInt.toNat) := by rw [y1]; unfold soM; rw [if_pos (by omega)]
      have hix : (20 : Int32) * x + s = nI (20 * f + s.toInt.toNat) := by rw [ti_nat q1.1, hfx, ti_nat q2.1, show (20 : Int32) = nI 20 from rfl, nI_mul, nI_add, ← ti_nat q2.1]
      have hxI : (nI (20 * f + s.toInt.toNat)).toInt = ((20 * f + s.toInt.toNat : Nat) : Int) := ti_n (by omega)
      have zx : ((20 * f + s.toInt.toNat : Nat) : Int) < 120 := by omega
      have za : ¬ a.toInt < 0 := by omega
      have zb : ¬ 3 < a.toInt := by omega
      refine Pr_ok (if a.toInt = 0 then gI h 54 (20 * f + s.toInt.toNat) else if a.toInt = 1 then gI h 56 (20 * f + s.toInt.toNat) else if a.toInt = 2 then gI h 57 (20 * f + s.toInt.toNat) else gI h 58 (20 * f + s.toInt.toNat)) (fun h1 => h1 = h) (fun K X kk => m122 ⟨by decide, ck_8 b.1, formSt b F (fun _ => ?_) (fun z => absurd q z)⟩) (fun h1 J1 m j K X kk => m126 ?_)
      · rw [hfx]
        simp only [↓forall_eq, ↓inB_iff, gK_hU, gL_hU, gR_hU, gIh, gJh, pI_hU, pJ_hU, hU_hU, uI_app, uJ_app, and_true, true_and, and_false, false_and, and_self, true_implies, false_implies, not_true, not_false_iff, if_true, if_false, eq_self, Nat.reduceLeDiff, Nat.reduceEqDiff, reduceCtorEq, i32c, ti0, ti1, tiM, Int.natCast_nonneg, Int.reduceEq, Int.reduceLE, Int.reduceLT, Int.reduceNeg, tl_i, Int32.reduceToInt, Int64.reduceToInt, tiA, tlM6, Int.toNat_natCast, natc, nI_1, Int.zero_sub, implies_true, not_false_eq_true, za, zb, kF_0 t, rF_0_2 t, rF_0_3 t, rF_0_4 t, rF_0_5 t, kF_3 t, kF_4 t, kF_5 t, kF_6 t, lF_3 t, lF_4 t, lF_5 t, lF_6 t, q2, s20, y1', b1, b2, b3]
        have kk := kk h rfl
        refine ⟨fun e => ?_, fun e => ?_, fun e => ?_, fun e => ?_⟩
        · rw [if_pos e] at kk; exact kk
        · rw [if_neg (by omega), if_pos e] at kk; exact kk
        · rw [if_neg (by omega), if_neg (by omega), if_pos e] at kk; exact kk
        · rw [if_neg e.1, if_neg e.2.1, if_neg e.2.2] at kk; exact kk
      · subst m
        simp only [↓forall_eq, ↓inB_iff, gK_hU, gL_hU, gR_hU, gIh, gJh, pI_hU, pJ_hU, hU_hU, uI_app, uJ_app, and_true, true_and, and_false, false_and, and_self, true_implies, false_implies, not_true, not_false_iff, if_true, if_false, eq_self, Nat.reduceLeDiff, Nat.reduceEqDiff, reduceCtorEq, i32c, ti0, ti1, tiM, Int.natCast_nonneg, Int.reduceEq, Int.reduceLE, Int.reduceLT, Int.reduceNeg, tl_i, Int32.reduceToInt, Int64.reduceToInt, tiA, tlM6, Int.toNat_natCast, natc, nI_1, Int.zero_sub, implies_true, not_false_eq_true, mf.1, mr_16 mf, mk_54 mf, ml_54 mf, mr_18 mf, mk_56 mf, ml_56 mf, mr_19 mf, mk_57 mf, ml_57 mf, mr_20 mf, mk_58 mf, ml_58 mf, ↓fail_br mf, ↓isIn_br, ↓isStOf_br (M := gI h1) mf hnf n6 hc, uI_ne, ne_eq, Nat.reduceEqDiff, not_false_eq_true, q, qa, hix, hxI, zx]
        have kk := kk (hU h1 (uI (gI h1) 44 0 0) J1) (by rw [gIh, uI_same]) rfl (left_mk b b fr_refl (fun w => w) (by simp) (fun a a1 a2 => by funext j9; simp only [uI_app]; grind) (fun j9 a1 a2 => by simp only [uI_app]; grind) (fun a a1 _ => j a a1) (by omega) (by omega))
        refine ⟨fun e => ?_, fun e => ⟨fun e1 => ?_, fun e1 => ⟨fun e2 => ?_, fun e2 => ?_⟩⟩⟩
        · rw [if_pos e] at kk; exact kk
        · rw [if_neg e, if_pos e1] at kk; exact kk
        · rw [if_neg e, if_neg e1, if_pos e2] at kk; exact kk
        · rw [if_neg e, if_neg e1, if_neg e2] at kk; exact kk
    · refine Pr_gc (A := A) (C := fun _ => False) 1 1 b (by decide) rfl (fun K X kk => m122 ⟨by decide, ck_8 b.1, formSt b F (fun _ => ?_) (fun z => absurd q z)⟩) (fun g J K X mf e kk => m126 ?_) (fun h2 l => l)
      · exact ⟨fun _ => kk, fun c1 => ⟨fun _ => kk, fun c2 => absurd ⟨by omega, by omega⟩ qa⟩⟩
      · simp only [↓forall_eq, ↓inB_iff, gK_hU, gL_hU, gR_hU, gIh, gJh, pI_hU, pJ_hU, hU_hU, uI_app, uJ_app, and_true, true_and, and_false, false_and, and_self, true_implies, false_implies, not_true, not_false_iff, if_true, if_false, eq_self, Nat.reduceLeDiff, Nat.reduceEqDiff, reduceCtorEq, i32c, ti0, ti1, tiM, Int.natCast_nonneg, Int.reduceEq, Int.reduceLE, Int.reduceLT, Int.reduceNeg, tl_i, Int32.reduceToInt, Int64.reduceToInt, tiA, tlM6, Int.toNat_natCast, natc, nI_1, Int.zero_sub, implies_true, not_false_eq_true, mf.1, mr_16 mf, mk_54 mf, ml_54 mf, mr_18 mf, mk_56 mf, ml_56 mf, mr_19 mf, mk_57 mf, ml_57 mf, mr_20 mf, mk_58 mf, ml_58 mf, ↓fail_br mf, ↓isIn_br, ↓isStOf_br (M := gI h) mf hnf n6 hc, uI_ne, ne_eq, not_false_eq_true, e 44 (by decide) (by decide), e 53 (by decide) (by decide), q, qa]
        exact kk
  · refine Pr_gc (A := A) (C := fun _ => False) 0 3 b (by decide) rfl (fun K X kk => m122 ⟨by decide, ck_8 b.1, formSt b F (fun z => absurd z q) (fun _ => kk)⟩) (fun g J K X mf e kk => m126 ?_) (fun h2 l => l)
    simp only [↓forall_eq, ↓inB_iff, gK_hU, gL_hU, gR_hU, gIh, gJh, pI_hU, pJ_hU, hU_hU, uI_app, uJ_app, and_true, true_and, and_false, false_and, and_self, true_implies, false_implies, not_true, not_false_iff, if_true, if_false, eq_self, Nat.reduceLeDiff, Nat.reduceEqDiff, reduceCtorEq, i32c, ti0, ti1, tiM, Int.natCast_nonneg, Int.reduceEq, Int.reduceLE, Int.reduceLT, Int.reduceNeg, tl_i, Int32.reduceToInt, Int64.reduceToInt, tiA, tlM6, Int.toNat_natCast, natc, nI_1, Int.zero_sub, implies_true, not_false_eq_true, mf.1, mr_16 mf, mk_54 mf, ml_54 mf, mr_18 mf, mk_56 mf, ml_56 mf, mr_19 mf, mk_57 mf, ml_57 mf, mr_20 mf, mk_58 mf, ml_58 mf, ↓fail_br mf, ↓isIn_br, ↓isStOf_br (M := gI h) mf hnf n6 hc, uI_ne, ne_eq, not_false_eq_true, e 44 (by decide) (by decide), e 53 (by decide) (by decide), q]
    exact kk
end FPR
