/-! RECORDS: their area; item, mark, broken -/
section RCA
variable {d U nf ns nr k f s r : Nat} {h h1 h2 g : aH} {A A1 o o1 : Nat → Nat} {X : Nat → aH → Prop} {M M2 : Nat → Nat → Int32} {I I1 I2 : Nat → Nat → Int32} {J J2 : Nat → Nat → Int64} {C : Nat → Prop} {E : Nat → Nat → List Tm} {Cn : Nat → Nat → List Cmp}
def sR (M : Nat → Nat → Int32) (r : Nat) : Nat := (M 78 r).toInt.toNat
/-- a record's form -/
def fR (M : Nat → Nat → Int32) (r : Nat) : Nat := fS M (sR M r)
def itM (M : Nat → Nat → Int32) (r i : Nat) : Int32 := if i < 20 then M 79 (20 * r + i) else -2000000
/-- numbers that may stand in a record -/
def itV (M : Nat → Nat → Int32) (f : Nat) (it : Nat → Int32) : Prop := bndI 20 it ∧ ∀ i, i < cnM M f → (soM M f i).toInt = 0 → (it i).toInt = -2000000 ∨ ((M 56 (20 * f + i)).toInt ≤ (it i).toInt ∧ (it i).toInt ≤ (M 57 (20 * f + i)).toInt)
def recOK (h : aH) (A o : Nat → Nat) (M : Nat → Nat → Int32) (nf ns r : Nat) : Prop := TR h A o r ∧ (M 78 r = nI (sR M r) ∧ sR M r < ns ∧ M 67 (sR M r) = nI (fR M r) ∧ fR M r < nf) ∧ (gR h (A (bR r)) 0 = A (bF (fR M r)) ∧ gI h (A (bR r)) 1 = M 68 (sR M r) ∧ gR h (A (bR r)) 2 = A (bS (sR M r) + 1)) ∧ (∀ i, i < 20 → gI h (A (bR r + 1)) i = itM M r i ∧ gI h (A (bR r + 2)) i = M 80 (20 * r + i)) ∧ itV M (fR M r) (itM M r)
def RecA (h : aH) (A o : Nat → Nat) (M : Nat → Nat → Int32) (nf ns nr : Nat) : Prop := listT h A o 36 7 nr 5 ∧ (M 44 53 = nI nr ∧ nr ≤ 60) ∧ ∀ r, r < nr → recOK h A o M nf ns r
theorem vR_j {j : Nat} (t : TR h A o r) (hj : j < 3) : ∃ kd, liv h A o (bR r + j) kd := by
  have : ∃ kd ∈ [5, 100], (j, kd) ∈ kR := (show ∀ j : Fin 3, ∃ kd ∈ [5, 100], (j.val, kd) ∈ kR by decide) ⟨j, hj⟩
  obtain ⟨kd, -, hm⟩ := this
  exact ⟨kd, t.1 _ hm⟩
theorem itV_cg {it : Nat → Int32} (fv : fV M M2 f) (c20 : cnM M f ≤ 20) (v : itV M f it) : itV M2 f it := by
  obtain ⟨e1, e2, e3⟩ := fv
  refine ⟨v.1, fun i hi => ?_⟩
  rw [e1] at hi
  rw [e2, (e3 i (by omega)).1, (e3 i (by omega)).2]
  exact v.2 i hi
theorem recOK_cg {nf2 ns2 : Nat} (R : recOK h A o M nf ns r) (t2 : TR h2 A1 o1 r) (hI : ∀ j, j < 3 → gI h2 (A1 (bR r + j)) = gI h (A (bR r + j))) (hR : gR h2 (A1 (bR r)) = gR h (A (bR r))) (hF : ∀ f, f < nf → A1 (bF f) = A (bF f)) (hS : ∀ k, k < ns → A1 (bS k + 1) = A (bS k + 1)) (hnf : nf ≤ nf2) (hns : ns ≤ ns2) (fv : ∀ f, f < nf → fV M M2 f ∧ cnM M f ≤ 20) (sv : ∀ k, k < ns → M2 67 k = M 67 k ∧ M2 68 k = M 68 k) (rv : M2 78 r = M 78 r ∧ ∀ i, i < 20 → M2 79 (20 * r + i) = M 79 (20 * r + i) ∧ M2 80 (20 * r + i) = M 80 (20 * r + i)) : recOK h2 A1 o1 M2 nf2 ns2 r := by
  obtain ⟨r1, ⟨r2, r3, r4, r5⟩, ⟨r6, r7, r8⟩, r9, r10⟩ := R
  have es : sR M2 r = sR M r := by unfold sR; rw [rv.1]
  have ef : fR M2 r = fR M r := by unfold fR fS; rw [es, (sv _ r3).1]
  have ei : itM M2 r = itM M r := by
    funext i
    unfold itM
    by_cases hi : i < 20
    · rw [if_pos hi, if_pos hi, (rv.2 i hi).1]
    · rw [if_neg hi, if_neg hi]
  have i0 : gI h2 (A1 (bR r)) = gI h (A (bR r)) := hI 0 (by omega)
  refine ⟨t2, ⟨by rw [es, rv.1]; exact r2, by rw [es]; omega, by rw [es, ef, (sv _ r3).1]; exact r4, by rw [ef]; omega⟩, ⟨by rw [ef, hR, hF _ r5]; exact r6, by rw [es, i0, (sv _ r3).2]; exact r7, by rw [es, hR, hS _ r3]; exact r8⟩, fun i hi => ?_, by rw [ef, ei]; exact itV_cg (fv _ r5).1 (fv _ r5).2 r10⟩
  rw [hI 1 (by omega), hI 2 (by omega), ei, (rv.2 i hi).2]
  exact r9 i hi
theorem RecA_fr {nf2 ns2 : Nat} (b : base h o) (R : RecA h A o M nf ns nr) (fr1 : fr h h2 A A1 o o1 C) (hc : ¬ C 7) (hF : ∀ f, f < nf → A1 (bF f) = A (bF f)) (hS : ∀ k, k < ns → A1 (bS k + 1) = A (bS k + 1)) (hnf : nf ≤ nf2) (hns : ns ≤ ns2) (fv : ∀ f, f < nf → fV M M2 f ∧ cnM M f ≤ 20) (sv : ∀ k, k < ns → M2 67 k = M 67 k ∧ M2 68 k = M 68 k) (rv : M2 78 = M 78 ∧ M2 79 = M 79 ∧ M2 80 = M 80) (m3 : M2 44 53 = M 44 53) : RecA h2 A1 o1 M2 nf2 ns2 nr := by
  have hN := b.1.1
  obtain ⟨f1, f2, f3⟩ := R
  refine ⟨list_fr fr1 hc (by omega) (by omega) f1, by rw [m3]; exact f2, fun r hr => ?_⟩
  have S := f3 r hr
  have ii : ∀ j, j < 3 → gI h2 (A1 (bR r + j)) = gI h (A (bR r + j)) ∧ gR h2 (A1 (bR r + j)) = gR h (A (bR r + j)) := fun j hj => by
    obtain ⟨kd, v⟩ := vR_j S.1 hj
    have := iR_fr fr1 hc (by omega) (by omega) v
    exact ⟨this.1, this.2.2.1⟩
  exact recOK_cg S (TR_fr fr1 hc (by omega) S.1) (fun j hj => (ii j hj).1) (ii 0 (by omega)).2 hF hS hnf hns fv sv ⟨by rw [rv.1], fun i _ => by rw [rv.2.1, rv.2.2]; exact ⟨rfl, rfl⟩⟩
theorem RecA_left {as fs : List Nat} {n t : Nat} (b : base h o) (F : FormA h A o (gI h) E Cn nf) (R : RecA h A o (gI h) nf ns nr) (l : left h h2 A A1 o o1 C as fs n t) (hn : ns ≤ 60) (hc : ¬ C 5 ∧ ¬ C 6 ∧ ¬ C 7) (ha : ∀ a ∈ as, a ≠ 53 ∧ a ≠ 54 ∧ a ≠ 56 ∧ a ≠ 57 ∧ a ≠ 67 ∧ a ≠ 68 ∧ a ≠ 78 ∧ a ≠ 79 ∧ a ≠ 80) (hf : 53 ∉ fs) : RecA h2 A1 o1 (gI h2) nf ns nr := by
  obtain ⟨l1, l2, ⟨l3, l4, l5⟩, -⟩ := l
  have hcc : ∀ c, c < 14 → ¬ C c → ¬ (C c ∨ c = 14 ∨ c = 15) := fun c h1 h2 => by rintro (q | q | q); exact h2 q; omega; omega
  have m := fun a (h1 : 44 < a) (h2 : a < 107) (h3 : a = 53 ∨ a = 54 ∨ a = 56 ∨ a = 57 ∨ a = 67 ∨ a = 68 ∨ a = 78 ∨ a = 79 ∨ a = 80) => l3 a h1 h2 (fun w => by have := ha a w; omega)
  have n6 := F.2.1.2
  refine RecA_fr b R l2 (hcc 7 (by omega) hc.2.2) (fun f hf => ?_) (fun k hk => ?_) (Nat.le_refl _) (Nat.le_refl _) (fun f hf => ⟨fV_of fun a q => m a (by omega) (by omega) (by omega), (cn_of F f hf).2⟩) (fun k hk => by rw [m 67 (by omega) (by omega) (by omega), m 68 (by omega) (by omega) (by omega)]; exact ⟨rfl, rfl⟩) ⟨m 78 (by omega) (by omega) (by omega), m 79 (by omega) (by omega) (by omega), m 80 (by omega) (by omega) (by omega)⟩ (l4 53 (by decide) hf)
  · exact l2.2.2 _ (by unfold bF; rw [show (5001000 + 100 * f) / 1000000 = 5 by omega]; exact hcc 5 (by omega) hc.1)
  · exact l2.2.2 _ (by unfold bS; rw [show (6001000 + 100 * k + 1) / 1000000 = 6 by omega]; exact hcc 6 (by omega) hc.2.1)
theorem formOf_br {K : Int32 → aH → Prop} (mf : MF g) (R : RecA h A o M nf ns nr) (hr : r < nr) (hn : ns ≤ 60) (e78 : I 78 = M 78) (e67 : I 67 = M 67) : CI d 175 [vR 44, vI (nI r)] (hU g I J) K X ↔ K (nI (fR M r)) (hU g I J) := by
  obtain ⟨-, ⟨r2, r3, r4, r5⟩, -⟩ := R.2.2 r hr
  have h60 := R.2.1.2
  have hrI : (nI r).toInt = r := ti_n (by omega)
  have z1 : (r : Int) < 60 := by omega
  have hsI : (nI (sR M r)).toInt = (sR M r : Nat) := ti_n (by omega)
  have z2 : ((sR M r : Nat) : Int) < 60 := by omega
  refine CI_iff fun K X w => m175 ?_
  simp only [↓forall_eq, ↓inB_iff, gK_hU, gL_hU, gR_hU, gIh, gJh, pI_hU, pJ_hU, hU_hU, uI_app, uJ_app, and_true, true_and, and_false, false_and, and_self, true_implies, false_implies, not_true, not_false_iff, if_true, if_false, eq_self, Nat.reduceLeDiff, Nat.reduceEqDiff, reduceCtorEq, i32c, ti0, ti1, tiM, Int.natCast_nonneg, Int.reduceEq, Int.reduceLE, Int.reduceLT, Int.reduceNeg, tl_i, Int32.reduceToInt, Int64.reduceToInt, tiA, tlM6, Int.toNat_natCast, natc, nI_1, Int.zero_sub, implies_true, not_false_eq_true, mf.1, mr_39 mf, mk_67 mf, ml_67 mf, mr_54 mf, mk_78 mf, ml_78 mf, hrI, z1, e78, r2, hsI, z2, e67, r4]
  exact w
/-- a record's statement -/
def isIt (M : Nat → Nat → Int32) (nr : Nat) (x s : Int32) : Prop := (0 ≤ x.toInt ∧ x.toInt < nr) ∧ 0 ≤ s.toInt ∧ s.toInt < cnM M (fR M x.toInt.toNat)
theorem isItem_br {K : Int32 → aH → Prop} {x s : Int32} (mf : MF g) (F : FormA h A o M E Cn nf) (R : RecA h A o M nf ns nr) (hn : ns ≤ 60) (e44 : I 44 53 = M 44 53) (e53 : I 53 = M 53) (e78 : I 78 = M 78) (e67 : I 67 = M 67) : CI (d + 1) 176 [vR 44, vI x, vI s] (hU g I J) K X ↔ ((isIt M nr x s → K 1 (hU g I J)) ∧ (¬ isIt M nr x s → K 0 (hU g I J))) := by
  have h60 := R.2.1.2
  have hnr : (nI nr).toInt = nr := ti_n (by omega)
  have hnr1 : (nI nr - 1).toInt = (nr : Int) - 1 := by rw [ti_sub (by rw [hnr, ti1]; omega) (by rw [hnr, ti1]; omega), hnr, ti1]
  have H : ∀ (K : Int32 → aH → Prop) (X : Nat → aH → Prop), ((isIt M nr x s → K 1 (hU g I J)) ∧ (¬ isIt M nr x s → K 0 (hU g I J))) → CI (d + 1) 176 [vR 44, vI x, vI s] (hU g I J) K X := fun K X w => by
    refine m176 ?_
    by_cases q : 0 ≤ x.toInt ∧ x.toInt < nr
    · generalize hrx : x.toInt.toNat = r at *
      have hx : x = nI r := by rw [← hrx]; exact ti_nat q.1
      have hr : r < nr := by omega
      obtain ⟨-, ⟨r2, r3, r4, r5⟩, -⟩ := R.2.2 r hr
      obtain ⟨c1, c2⟩ := cn_of F _ r5
      have n6 := F.2.1.2
      have hcI : (nI (cnM M (fR M r))).toInt = (cnM M (fR M r) : Nat) := ti_n (by omega)
      have hc1 : (nI (cnM M (fR M r)) - 1).toInt = (cnM M (fR M r) : Int) - 1 := by rw [ti_sub (by rw [hcI, ti1]; omega) (by rw [hcI, ti1]; omega), hcI, ti1]
      have hfI : (nI (fR M r)).toInt = (fR M r : Nat) := ti_n (by omega)
      have z6 : ((fR M r : Nat) : Int) < 6 := by omega
      have q' : 0 ≤ x.toInt ∧ x.toInt ≤ (nr : Int) - 1 := by omega
      have wi : isIt M nr x s ↔ (0 ≤ s.toInt ∧ s.toInt ≤ (cnM M (fR M r) : Int) - 1) := by
        unfold isIt
        rw [hrx]
        constructor
        · rintro ⟨-, y⟩; omega
        · intro y; exact ⟨q, by omega⟩
      rw [wi] at w
      rw [hx] at q' ⊢
      simp only [↓forall_eq, ↓inB_iff, gK_hU, gL_hU, gR_hU, gIh, gJh, pI_hU, pJ_hU, hU_hU, uI_app, uJ_app, and_true, true_and, and_false, false_and, and_self, true_implies, false_implies, not_true, not_false_iff, if_true, if_false, eq_self, Nat.reduceLeDiff, Nat.reduceEqDiff, reduceCtorEq, i32c, ti0, ti1, tiM, Int.natCast_nonneg, Int.reduceEq, Int.reduceLE, Int.reduceLT, Int.reduceNeg, tl_i, Int32.reduceToInt, Int64.reduceToInt, tiA, tlM6, Int.toNat_natCast, natc, nI_1, Int.zero_sub, implies_true, not_false_eq_true, mf.1, mr_15 mf, mk_53 mf, ml_53 mf, ↓isIn_br, e44, R.2.1.1, hnr1, q', ↓formOf_br mf R hr hn e78 e67, e53, c1, hc1, hfI, z6]
      exact w
    · have q' : ¬ (0 ≤ x.toInt ∧ x.toInt ≤ (nr : Int) - 1) := by omega
      simp only [↓forall_eq, ↓inB_iff, gK_hU, gL_hU, gR_hU, gIh, gJh, pI_hU, pJ_hU, hU_hU, uI_app, uJ_app, and_true, true_and, and_false, false_and, and_self, true_implies, false_implies, not_true, not_false_iff, if_true, if_false, eq_self, Nat.reduceLeDiff, Nat.reduceEqDiff, reduceCtorEq, i32c, ti0, ti1, tiM, Int.natCast_nonneg, Int.reduceEq, Int.reduceLE, Int.reduceLT, Int.reduceNeg, tl_i, Int32.reduceToInt, Int64.reduceToInt, tiA, tlM6, Int.toNat_natCast, natc, nI_1, Int.zero_sub, implies_true, not_false_eq_true, mf.1, mr_15 mf, mk_53 mf, ml_53 mf, ↓isIn_br, e44, R.2.1.1, hnr1, q']
      exact w.2 (fun y => q y.1)
  by_cases q : isIt M nr x s
  · rw [bz_t q]; exact CI_iff fun K X w => H K X ((bz_t q).mpr w)
  · rw [bz_f q]; exact CI_iff fun K X w => H K X ((bz_f q).mpr w)
/-- recordAt and needStatement of the class -/
theorem recSt {K : Nat → aH → Prop} {x s : Int32} (b : base h o) (F : FormA h A o M E Cn nf) (R : RecA h A o M nf ns nr) (w1 : isIt M nr x s → K (A (bR x.toInt.toNat)) h) (w2 : ¬ isIt M nr x s → X 3 (gNew h 200 6)) : CR (d + 3) 172 [vR 8, vI x] h (fun q0 h0 => gK h0 q0 = 5 ∧ gK h0 8 = 1 ∧ CV (d + 3) 121 [vR 8, vR (gR h0 q0 0), vI s] h0 (fun h1 => K q0 h1) X) X := by
  rw [recordAt_br b R.1]
  refine ⟨fun q => ?_, fun q => w2 (fun y => q y.1)⟩
  obtain ⟨t, ⟨r2, r3, r4, r5⟩, ⟨r6, r7, r8⟩, -⟩ := R.2.2 x.toInt.toNat (by omega)
  obtain ⟨⟨tf, l, ⟨c1, c2, c3⟩, c4⟩, -⟩ := F.2.2 _ r5
  refine ⟨kR_0 t, ck_8 b.1, ?_⟩
  rw [r6, needSt_br (kF_0 tf) c1 c2]
  exact ⟨fun z => w1 ⟨q, z⟩, fun z => w2 (fun y => z y.2)⟩
theorem pr_item {x s : Int32} (b : base h o) (F : FormA h A o (gI h) E Cn nf) (R : RecA h A o (gI h) nf ns nr) (hn : ns ≤ 60) : Pr 173 177 [vI x, vI s] [3] h (fun h2 => left h h2 A A o o (fun _ => False) [] [] 1 6) := by
  have mf := b.2.1
  by_cases q : isIt (gI h) nr x s
  · obtain ⟨q1, q2⟩ := id q
    generalize hrx : x.toInt.toNat = r at *
    obtain ⟨t, ⟨r2, r3, r4, r5⟩, ⟨r6, r7, r8⟩, r9, r10⟩ := R.2.2 r (by omega)
    have c2 := (cn_of F _ r5).2
    have h60 := R.2.1.2
    have s20 : s.toInt < 20 := by omega
    obtain ⟨y1, y2⟩ := r9 s.toInt.toNat (by omega)
    unfold itM at y1
    rw [if_pos (by omega)] at y1
    have hix : (20 : Int32) * x + s = nI (20 * r + s.toInt.toNat) := by rw [ti_nat q1.1, hrx, ti_nat q2.1, show (20 : Int32) = nI 20 from rfl, nI_mul, nI_add, ← ti_nat q2.1]
    have hxI : (nI (20 * r + s.toInt.toNat)).toInt = ((20 * r + s.toInt.toNat : Nat) : Int) := ti_n (by omega)
    have zx : ((20 * r + s.toInt.toNat : Nat) : Int) < 1200 := by omega
    refine Pr_ok (gI h 79 (20 * r + s.toInt.toNat)) (fun h1 => h1 = h) (fun K X kk => m173 ⟨by decide, ck_8 b.1, recSt b F R (fun _ => ?_) (fun z => absurd q z)⟩) (fun h1 J1 m j K X kk => m177 ?_)
    · rw [hrx]
      simp only [↓forall_eq, ↓inB_iff, gK_hU, gL_hU, gR_hU, gIh, gJh, pI_hU, pJ_hU, hU_hU, uI_app, uJ_app, and_true, true_and, and_false, false_and, and_self, true_implies, false_implies, not_true, not_false_iff, if_true, if_false, eq_self, Nat.reduceLeDiff, Nat.reduceEqDiff, reduceCtorEq, i32c, ti0, ti1, tiM, Int.natCast_nonneg, Int.reduceEq, Int.reduceLE, Int.reduceLT, Int.reduceNeg, tl_i, Int32.reduceToInt, Int64.reduceToInt, tiA, tlM6, Int.toNat_natCast, natc, nI_1, Int.zero_sub, implies_true, not_false_eq_true, kR_0 t, rR_0_3 t, kR_1 t, lR_1 t, q2, s20, y1]
      exact kk h rfl
    · subst m
      simp only [↓forall_eq, ↓inB_iff, gK_hU, gL_hU, gR_hU, gIh, gJh, pI_hU, pJ_hU, hU_hU, uI_app, uJ_app, and_true, true_and, and_false, false_and, and_self, true_implies, false_implies, not_true, not_false_iff, if_true, if_false, eq_self, Nat.reduceLeDiff, Nat.reduceEqDiff, reduceCtorEq, i32c, ti0, ti1, tiM, Int.natCast_nonneg, Int.reduceEq, Int.reduceLE, Int.reduceLT, Int.reduceNeg, tl_i, Int32.reduceToInt, Int64.reduceToInt, tiA, tlM6, Int.toNat_natCast, natc, nI_1, Int.zero_sub, implies_true, not_false_eq_true, mf.1, mr_55 mf, mk_79 mf, ml_79 mf, ↓fail_br mf, ↓isItem_br mf F R hn, uI_ne, ne_eq, Nat.reduceEqDiff, not_false_eq_true, q, hix, hxI, zx]
      exact kk _ (by rw [gIh, uI_same]) rfl (left_mk b b fr_refl (fun w => w) (by simp) (fun a a1 a2 => by funext j9; simp only [uI_app]; grind) (fun j9 a1 a2 => by simp only [uI_app]; grind) (fun a a1 _ => j a a1) (by omega) (by omega))
  · refine Pr_gc (A := A) (C := fun _ => False) 0 3 b (by decide) rfl (fun K X kk => m173 ⟨by decide, ck_8 b.1, recSt b F R (fun z => absurd z q) (fun _ => kk)⟩) (fun g J K X mf e kk => m177 ?_) (fun h2 l => l)
    simp only [↓forall_eq, ↓inB_iff, gK_hU, gL_hU, gR_hU, gIh, gJh, pI_hU, pJ_hU, hU_hU, uI_app, uJ_app, and_true, true_and, and_false, false_and, and_self, true_implies, false_implies, not_true, not_false_iff, if_true, if_false, eq_self, Nat.reduceLeDiff, Nat.reduceEqDiff, reduceCtorEq, i32c, ti0, ti1, tiM, Int.natCast_nonneg, Int.reduceEq, Int.reduceLE, Int.reduceLT, Int.reduceNeg, tl_i, Int32.reduceToInt, Int64.reduceToInt, tiA, tlM6, Int.toNat_natCast, natc, nI_1, Int.zero_sub, implies_true, not_false_eq_true, mf.1, mr_55 mf, mk_79 mf, ml_79 mf, ↓fail_br mf, ↓isItem_br mf F R hn, uI_ne, ne_eq, not_false_eq_true, e 44 (by decide) (by decide), e 53 (by decide) (by decide), e 78 (by decide) (by decide), e 67 (by decide) (by decide), q]
    exact kk
theorem pr_mark {x s : Int32} (b : base h o) (F : FormA h A o (gI h) E Cn nf) (R : RecA h A o (gI h) nf ns nr) (hn : ns ≤ 60) : Pr 178 180 [vI x, vI s] [3] h (fun h2 => left h h2 A A o o (fun _ => False) [] [] 1 6) := by
  have mf := b.2.1
  by_cases q : isIt (gI h) nr x s
  · obtain ⟨q1, q2⟩ := id q
    generalize hrx : x.toInt.toNat = r at *
    obtain ⟨t, ⟨r2, r3, r4, r5⟩, ⟨r6, r7, r8⟩, r9, r10⟩ := R.2.2 r (by omega)
    have c2 := (cn_of F _ r5).2
    have h60 := R.2.1.2
    have s20 : s.toInt < 20 := by omega
    obtain ⟨y1, y2⟩ := r9 s.toInt.toNat (by omega)
    have hix : (20 : Int32) * x + s = nI (20 * r + s.toInt.toNat) := by rw [ti_nat q1.1, hrx, ti_nat q2.1, show (20 : Int32) = nI 20 from rfl, nI_mul, nI_add, ← ti_nat q2.1]
    have hxI : (nI (20 * r + s.toInt.toNat)).toInt = ((20 * r + s.toInt.toNat : Nat) : Int) := ti_n (by omega)
    have zx : ((20 * r + s.toInt.toNat : Nat) : Int) < 1200 := by omega
    refine Pr_ok (gI h 80 (20 * r + s.toInt.toNat)) (fun h1 => h1 = h) (fun K X kk => m178 ⟨by decide, ck_8 b.1, recSt b F R (fun _ => ?_) (fun z => absurd q z)⟩) (fun h1 J1 m j K X kk => m180 ?_)
    · rw [hrx]
      simp only [↓forall_eq, ↓inB_iff, gK_hU, gL_hU, gR_hU, gIh, gJh, pI_hU, pJ_hU, hU_hU, uI_app, uJ_app, and_true, true_and, and_false, false_and, and_self, true_implies, false_implies, not_true, not_false_iff, if_true, if_false, eq_self, Nat.reduceLeDiff, Nat.reduceEqDiff, reduceCtorEq, i32c, ti0, ti1, tiM, Int.natCast_nonneg, Int.reduceEq, Int.reduceLE, Int.reduceLT, Int.reduceNeg, tl_i, Int32.reduceToInt, Int64.reduceToInt, tiA, tlM6, Int.toNat_natCast, natc, nI_1, Int.zero_sub, implies_true, not_false_eq_true, kR_0 t, rR_0_4 t, kR_2 t, lR_2 t, q2, s20, y2]
      exact kk h rfl
    · subst m
      simp only [↓forall_eq, ↓inB_iff, gK_hU, gL_hU, gR_hU, gIh, gJh, pI_hU, pJ_hU, hU_hU, uI_app, uJ_app, and_true, true_and, and_false, false_and, and_self, true_implies, false_implies, not_true, not_false_iff, if_true, if_false, eq_self, Nat.reduceLeDiff, Nat.reduceEqDiff, reduceCtorEq, i32c, ti0, ti1, tiM, Int.natCast_nonneg, Int.reduceEq, Int.reduceLE, Int.reduceLT, Int.reduceNeg, tl_i, Int32.reduceToInt, Int64.reduceToInt, tiA, tlM6, Int.toNat_natCast, natc, nI_1, Int.zero_sub, implies_true, not_false_eq_true, mf.1, mr_56 mf, mk_80 mf, ml_80 mf, ↓fail_br mf, ↓isItem_br mf F R hn, uI_ne, ne_eq, Nat.reduceEqDiff, not_false_eq_true, q, hix, hxI, zx]
      exact kk _ (by rw [gIh, uI_same]) rfl (left_mk b b fr_refl (fun w => w) (by simp) (fun a a1 a2 => by funext j9; simp only [uI_app]; grind) (fun j9 a1 a2 => by simp only [uI_app]; grind) (fun a a1 _ => j a a1) (by omega) (by omega))
  · refine Pr_gc (A := A) (C := fun _ => False) 0 3 b (by decide) rfl (fun K X kk => m178 ⟨by decide, ck_8 b.1, recSt b F R (fun z => absurd z q) (fun _ => kk)⟩) (fun g J K X mf e kk => m180 ?_) (fun h2 l => l)
    simp only [↓forall_eq, ↓inB_iff, gK_hU, gL_hU, gR_hU, gIh, gJh, pI_hU, pJ_hU, hU_hU, uI_app, uJ_app, and_true, true_and, and_false, false_and, and_self, true_implies, false_implies, not_true, not_false_iff, if_true, if_false, eq_self, Nat.reduceLeDiff, Nat.reduceEqDiff, reduceCtorEq, i32c, ti0, ti1, tiM, Int.natCast_nonneg, Int.reduceEq, Int.reduceLE, Int.reduceLT, Int.reduceNeg, tl_i, Int32.reduceToInt, Int64.reduceToInt, tiA, tlM6, Int.toNat_natCast, natc, nI_1, Int.zero_sub, implies_true, not_false_eq_true, mf.1, mr_56 mf, mk_80 mf, ml_80 mf, ↓fail_br mf, ↓isItem_br mf F R hn, uI_ne, ne_eq, not_false_eq_true, e 44 (by decide) (by decide), e 53 (by decide) (by decide), e 78 (by decide) (by decide), e 67 (by decide) (by decide), q]
    exact kk
end RCA
