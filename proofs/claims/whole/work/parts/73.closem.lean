/-! CLOSE: the model's side -/
section CLM
variable {d k f n nf ns nr U : Nat} {h g h1 h5 : aH} {A A1 A2 o o1 o2 : Nat → Nat} {X : Nat → aH → Prop} {M I : Nat → Nat → Int32} {J : Nat → Nat → Int64} {E : Nat → Nat → List Tm} {Cn : Nat → Nat → List Cmp}
def clF (I I4 : Nat → Nat → Int32) (k nr : Nat) (wv : Nat → Int32) : Prop := (∀ a, a ≠ 44 → a ≠ 65 → a ≠ 66 → a ≠ 70 → a ≠ 78 → a ≠ 79 → a ≠ 80 → I4 a = I a) ∧ (∀ j, j ≠ 0 → j ≠ 36 → j ≠ 37 → j ≠ 50 → j ≠ 51 → j ≠ 52 → j ≠ 53 → I4 44 j = I 44 j) ∧ I4 44 0 = 0 ∧ I4 44 53 = nI (nr + 1) ∧ (∀ j, I4 70 j = if j = k then 1 else I 70 j) ∧ (∀ j, I4 78 j = if j = nr then nI k else I 78 j) ∧ (∀ j, j < 20 * nr ∨ 20 * nr + 20 ≤ j → I4 79 j = I 79 j ∧ I4 80 j = I 80 j) ∧ ∀ i, i < 20 → I4 79 (20 * nr + i) = wv i ∧ I4 80 (20 * nr + i) = 0
theorem m_close {K : Int32 → aH → Prop} (mf : MF g) (F : FormA h A o (gI h) E Cn nf) (S : SessA h A o (gI h) E Cn nf ns U) (R : gI h 44 53 = nI nr) (hk : k < ns) (hn61 : nr ≤ 60) (hnr0 : (gI h 70 k).toInt = 0 ∧ eN (gI h) E Cn k = cnM (gI h) (fS (gI h) k) → nr < 60) (e9 : ∀ x, 44 ≤ x → x < 107 → I x = gI h x)
    (w1 : (gI h 70 k).toInt = 0 ∧ eN (gI h) E Cn k = cnM (gI h) (fS (gI h) k) → ∀ I4, clF I I4 k nr (wN (gI h) E Cn k) → K (nI nr) (hU g I4 J))
    (w2 : ¬ ((gI h 70 k).toInt = 0 ∧ eN (gI h) E Cn k = cnM (gI h) (fS (gI h) k)) → ∀ I', (∀ a, a ≠ 44 → a ≠ 65 → a ≠ 66 → I' a = I a) → (∀ j, j ≠ 0 → j ≠ 36 → j ≠ 37 → j ≠ 50 → j ≠ 51 → j ≠ 52 → I' 44 j = I 44 j) → I' 44 0 = 2 → K 0 (hU g I' J)) : CI 500 171 [vR 44, vI (nI k)] (hU g I J) K X := by
  have hs := S.2.1.1
  have hs6 := S.2.1.2
  have hs2 : (nI ns).toInt = ns := ti_n (by omega)
  obtain ⟨s1, ⟨s2, s3⟩, s4, s5, ⟨s8, s9⟩, ⟨y1, y2, y3, y4⟩, ⟨c1, c2⟩, g1, g2, n1, n2⟩ := S.2.2.1 k hk
  have FO := F.2.2 _ s3
  have hle : eN (gI h) E Cn k ≤ cnM (gI h) (fS (gI h) k) := en_le
  have c20 := (cn_of F _ s3).2
  have hkI : (nI k).toInt = k := ti_n (by omega)
  have k60 : (k : Int) < 60 := by omega
  have q : 0 ≤ (k : Int) ∧ (k : Int) < ns := by omega
  have hrI : (nI nr).toInt = nr := ti_n (by omega)
  have ok := gOK_of g1 FO.2.2.1
  have e38 : I 44 38 = nI ns := by rw [e9 44 (by decide) (by decide)]; exact hs
  have e53 : I 44 53 = nI nr := by rw [e9 44 (by decide) (by decide)]; exact R
  -- the loop
  have loop : ∀ (n p : Nat) (I3 : Nat → Nat → Int32), p + n = 20 → (∀ a, a ≠ 44 → a ≠ 65 → a ≠ 66 → a ≠ 70 → a ≠ 78 → a ≠ 79 → a ≠ 80 → I3 a = I a) → (∀ j, j ≠ 0 → j ≠ 36 → j ≠ 37 → j ≠ 50 → j ≠ 51 → j ≠ 52 → I3 44 j = I 44 j) → I3 44 0 = 0 → (∀ j, I3 70 j = if j = k then 1 else I 70 j) → (∀ j, I3 78 j = if j = nr then nI k else I 78 j) → (∀ j, j < 20 * nr ∨ 20 * nr + 20 ≤ j → I3 79 j = I 79 j ∧ I3 80 j = I 80 j) → (∀ i, i < p → I3 79 (20 * nr + i) = wN (gI h) E Cn k i ∧ I3 80 (20 * nr + i) = 0) → (∀ i, i < 20 → I3 65 i = wN (gI h) E Cn k i) → (gI h 70 k).toInt = 0 ∧ eN (gI h) E Cn k = cnM (gI h) (fS (gI h) k) → Wp 500 171 (68, [some (vR 44), none, some (vI (nI p))], [], hU g I3 J) (RI K X) := by
    intro n
    induction n with
    | zero =>
      intro p I3 hp i1 i2 i3 i4 i5 i6 i7 i8 i9
      have hnr := hnr0 i9
      have hpc : p = 20 := by omega
      subst hpc
      have t20 : (nI 20).toInt = 20 := rfl
      have j53 : I3 44 53 = nI nr := by rw [i2 53 (by decide) (by decide) (by decide) (by decide) (by decide) (by decide)]; exact e53
      refine w171_68 ?_
      simp only [↓forall_eq, ↓inB_iff, gK_hU, gL_hU, gR_hU, gIh, gJh, pI_hU, pJ_hU, hU_hU, uI_app, uJ_app, and_true, true_and, and_false, false_and, and_self, true_implies, false_implies, not_true, not_false_iff, if_true, if_false, eq_self, Nat.reduceLeDiff, Nat.reduceEqDiff, reduceCtorEq, i32c, ti0, ti1, tiM, Int.natCast_nonneg, Int.reduceEq, Int.reduceLE, Int.reduceLT, Int.reduceNeg, tl_i, Int32.reduceToInt, Int64.reduceToInt, tiA, tlM6, Int.toNat_natCast, natc, nI_1, Int.zero_sub, implies_true, not_false_eq_true, mf.1, mr_34 mf, mk_65 mf, ml_65 mf, mr_42 mf, mk_70 mf, ml_70 mf, mr_54 mf, mk_78 mf, ml_78 mf, mr_55 mf, mk_79 mf, ml_79 mf, mr_56 mf, mk_80 mf, ml_80 mf, t20, Int.lt_irrefl, j53, nI_pred]
      refine w1 i9 _ ⟨fun a q1 q2 q3 q4 q5 q6 q7 => by rw [uI_ne _ _ _ q1]; exact i1 a q1 q2 q3 q4 q5 q6 q7, fun j q1 q2 q3 q4 q5 q6 q7 => by rw [uI_nj _ _ _ _ q7]; exact i2 j q1 q2 q3 q4 q5 q6, by rw [uI_nj _ _ _ _ (by decide)]; exact i3, by rw [uI_same], fun j => by rw [uI_ne _ _ _ (by decide)]; exact i4 j, fun j => by rw [uI_ne _ _ _ (by decide)]; exact i5 j, fun j hj => by rw [uI_ne _ _ _ (by decide), uI_ne _ _ _ (by decide)]; exact i6 j hj, fun i hi => by rw [uI_ne _ _ _ (by decide), uI_ne _ _ _ (by decide)]; exact i7 i hi⟩
    | succ n ih =>
      intro p I3 hp i1 i2 i3 i4 i5 i6 i7 i8 i9
      have hnr := hnr0 i9
      have hpI : (nI p).toInt = p := ti_n (by omega)
      have z20 : (p : Int) < 20 := by omega
      have j53 : I3 44 53 = nI nr := by rw [i2 53 (by decide) (by decide) (by decide) (by decide) (by decide) (by decide)]; exact e53
      have x1 : (20 : Int32) * nI nr + nI p = nI (20 * nr + p) := by rw [show (20 : Int32) = nI 20 from rfl, nI_mul, nI_add]
      have x2 : (nI (20 * nr + p)).toInt = ((20 * nr + p : Nat) : Int) := ti_n (by omega)
      have x3 : ((20 * nr + p : Nat) : Int) < 1200 := by omega
      refine w171_68 ?_
      simp only [↓forall_eq, ↓inB_iff, gK_hU, gL_hU, gR_hU, gIh, gJh, pI_hU, pJ_hU, hU_hU, uI_app, uJ_app, and_true, true_and, and_false, false_and, and_self, true_implies, false_implies, not_true, not_false_iff, if_true, if_false, eq_self, Nat.reduceLeDiff, Nat.reduceEqDiff, reduceCtorEq, i32c, ti0, ti1, tiM, Int.natCast_nonneg, Int.reduceEq, Int.reduceLE, Int.reduceLT, Int.reduceNeg, tl_i, Int32.reduceToInt, Int64.reduceToInt, tiA, tlM6, Int.toNat_natCast, natc, nI_1, Int.zero_sub, implies_true, not_false_eq_true, mf.1, mr_34 mf, mk_65 mf, ml_65 mf, mr_42 mf, mk_70 mf, ml_70 mf, mr_54 mf, mk_78 mf, ml_78 mf, mr_55 mf, mk_79 mf, ml_79 mf, mr_56 mf, mk_80 mf, ml_80 mf, hpI, z20, j53, x1, x2, x3, i8 p (by omega)]
      refine ih (p + 1) _ (by omega) (fun a q1 q2 q3 q4 q5 q6 q7 => ?_) (fun j q1 q2 q3 q4 q5 q6 => ?_) ?_ (fun j => ?_) (fun j => ?_) (fun j hj => ⟨?_, ?_⟩) (fun i hi => ⟨?_, ?_⟩) (fun i hi => ?_) i9
      · rw [uI_ne _ _ _ q7, uI_ne _ _ _ q6]; exact i1 a q1 q2 q3 q4 q5 q6 q7
      · rw [uI_ne _ _ _ (by decide), uI_ne _ _ _ (by decide)]; exact i2 j q1 q2 q3 q4 q5 q6
      · rw [uI_ne _ _ _ (by decide), uI_ne _ _ _ (by decide)]; exact i3
      · rw [uI_ne _ _ _ (by decide), uI_ne _ _ _ (by decide)]; exact i4 j
      · rw [uI_ne _ _ _ (by decide), uI_ne _ _ _ (by decide)]; exact i5 j
      · rw [uI_ne _ _ _ (by decide), uI_nj _ _ _ _ (by omega)]; exact (i6 j hj).1
      · rw [uI_nj _ _ _ _ (by omega), uI_ne _ _ _ (by decide)]; exact (i6 j hj).2
      · rw [uI_ne _ _ _ (by decide), uI_app]
        by_cases c : i = p
        · rw [if_pos ⟨rfl, by omega⟩, c]
        · rw [if_neg (fun z => by have := z.2; omega)]; exact (i7 i (by omega)).1
      · rw [uI_app]
        by_cases c : i = p
        · rw [if_pos ⟨rfl, by omega⟩]
        · rw [if_neg (fun z => by have := z.2; omega), uI_ne _ _ _ (by decide)]; exact (i7 i (by omega)).2
      · rw [uI_ne _ _ _ (by decide), uI_ne _ _ _ (by decide)]; exact i8 i hi
  have ee : ∀ a, 44 < a → a < 107 → uI I 44 0 0 a = gI h a := fun a h1 h2 => by rw [uI_ne _ _ _ (by omega), e9 a (by omega) h2]
  have e70 := e9 70 (by decide) (by decide)
  refine m171 ?_
  simp only [↓forall_eq, ↓inB_iff, gK_hU, gL_hU, gR_hU, gIh, gJh, pI_hU, pJ_hU, hU_hU, uI_app, uJ_app, and_true, true_and, and_false, false_and, and_self, true_implies, false_implies, not_true, not_false_iff, if_true, if_false, eq_self, Nat.reduceLeDiff, Nat.reduceEqDiff, reduceCtorEq, i32c, ti0, ti1, tiM, Int.natCast_nonneg, Int.reduceEq, Int.reduceLE, Int.reduceLT, Int.reduceNeg, tl_i, Int32.reduceToInt, Int64.reduceToInt, tiA, tlM6, Int.toNat_natCast, natc, nI_1, Int.zero_sub, implies_true, not_false_eq_true, mf.1, mr_34 mf, mk_65 mf, ml_65 mf, mr_42 mf, mk_70 mf, ml_70 mf, mr_54 mf, mk_78 mf, ml_78 mf, mr_55 mf, mk_79 mf, ml_79 mf, mr_56 mf, mk_80 mf, ml_80 mf, ↓fail_br mf, ↓isSession_br mf, e38, hs2, hkI, q, k60, e70]
  refine ⟨fun c => ?_, fun c => w2 (fun z => c z.1) _ (fun a q1 q2 q3 => by rw [uI_ne _ _ _ q1, uI_ne _ _ _ q1]) (fun j q1 q2 q3 q4 q5 q6 => by rw [uI_nj _ _ _ _ q1, uI_nj _ _ _ _ q1]) (by rw [uI_same])⟩
  have fm : fmM (uI I 44 0 0) (fS (gI h) k) (cnM (gI h) (fS (gI h) k)) (soM (gI h) (fS (gI h) k)) (E (fS (gI h) k)) (Cn (fS (gI h) k)) := fmM_cg (fun a q1 q2 => ee a (by omega) (by omega)) FO.2.1
  refine m_quest mf (by rw [ee 67 (by decide) (by decide)]; exact s2) fm (by omega) (fun i hi => by rw [ee 71 (by decide) (by decide), ee 72 (by decide) (by decide)]; exact ok i hi) fun I2 a1 _ => ?_
  have v1 : gvM (uI I 44 0 0) k = gvM (gI h) k := by funext i; unfold gvM; rw [ee 71 (by decide) (by decide), ee 72 (by decide) (by decide)]
  have v2 : rgM (uI I 44 0 0) k = rgM (gI h) k := by funext i; unfold rgM; rw [ee 69 (by decide) (by decide)]
  rw [v1, v2]
  have b70 : (!decide ((uI I 44 0 0 70 k).toInt = 0)) = false := by rw [ee 70 (by decide) (by decide), decide_eq_true c]; rfl
  rw [b70]
  have f44 : ∀ j, j ≠ 36 → j ≠ 37 → j ≠ 50 → j ≠ 51 → j ≠ 52 → I2 44 j = if j = 0 then 0 else I 44 j := fun j q1 q2 q3 q4 q5 => by
    rw [a1.2 j q1 q2 q3 q4 q5, uI_app]
    by_cases z : j = 0
    · rw [if_pos ⟨rfl, z⟩, if_pos z]
    · rw [if_neg (fun y => z y.2), if_neg z]
  unfold quM
  by_cases en9 : eN (gI h) E Cn k = cnM (gI h) (fS (gI h) k)
  · rw [if_pos (Or.inr en9)]
    have hnr := hnr0 ⟨c, en9⟩
    have r60 : (nr : Int) < 60 := by omega
    have o11 : (1 : Int32) &&& 1 = 1 := rfl
    have o12 : (-1 : Int32).toInt = -1 := rfl
    simp only [↓forall_eq, ↓inB_iff, gK_hU, gL_hU, gR_hU, gIh, gJh, pI_hU, pJ_hU, hU_hU, uI_app, uJ_app, and_true, true_and, and_false, false_and, and_self, true_implies, false_implies, not_true, not_false_iff, if_true, if_false, eq_self, Nat.reduceLeDiff, Nat.reduceEqDiff, reduceCtorEq, i32c, ti0, ti1, tiM, Int.natCast_nonneg, Int.reduceEq, Int.reduceLE, Int.reduceLT, Int.reduceNeg, tl_i, Int32.reduceToInt, Int64.reduceToInt, tiA, tlM6, Int.toNat_natCast, natc, nI_1, Int.zero_sub, implies_true, not_false_eq_true, mf.1, mr_34 mf, mk_65 mf, ml_65 mf, mr_42 mf, mk_70 mf, ml_70 mf, mr_54 mf, mk_78 mf, ml_78 mf, mr_55 mf, mk_79 mf, ml_79 mf, mr_56 mf, mk_80 mf, ml_80 mf, hkI, k60, o11, o12]
    have ee2 : ∀ a, 44 < a → a < 107 → a ≠ 65 → a ≠ 66 → a ≠ 70 → uI I2 70 k 1 a = gI h a := fun a h1 h2 h3 h4 h5 => by rw [uI_ne _ _ _ h5, a1.1 a (by omega) h3 h4]; exact ee a h1 h2
    have fm2 : fmM (uI I2 70 k 1) (fS (gI h) k) (cnM (gI h) (fS (gI h) k)) (soM (gI h) (fS (gI h) k)) (E (fS (gI h) k)) (Cn (fS (gI h) k)) := fmM_cg (fun a q1 q2 => ee2 a (by omega) (by omega) (by omega) (by omega) (by omega)) FO.2.1
    refine m_walk mf (by rw [ee2 67 (by decide) (by decide) (by decide) (by decide) (by decide)]; exact s2) fm2 (by omega) (fun i hi => by rw [ee2 71 (by decide) (by decide) (by decide) (by decide) (by decide), ee2 72 (by decide) (by decide) (by decide) (by decide) (by decide)]; exact ok i hi) fun I3 u1 u2 _ => ?_
    have v3 : gvM (uI I2 70 k 1) k = gvM (gI h) k := by funext i; unfold gvM; rw [ee2 71 (by decide) (by decide) (by decide) (by decide) (by decide), ee2 72 (by decide) (by decide) (by decide) (by decide) (by decide)]
    have v4 : rgM (uI I2 70 k 1) k = rgM (gI h) k := by funext i; unfold rgM; rw [ee2 69 (by decide) (by decide) (by decide) (by decide) (by decide)]
    rw [v3, v4] at u2
    have j44 : ∀ j, j ≠ 36 → j ≠ 37 → j ≠ 50 → j ≠ 51 → j ≠ 52 → I3 44 j = if j = 0 then 0 else I 44 j := fun j q1 q2 q3 q4 q5 => by
      rw [u1.2 j q1 q2 q3 q4 q5, uI_ne _ _ _ (by decide)]; exact f44 j q1 q2 q3 q4 q5
    have j53 : I3 44 53 = nI nr := by rw [j44 53 (by decide) (by decide) (by decide) (by decide) (by decide), if_neg (by decide)]; exact e53
    have j0 : ∀ a, a ≠ 44 → a ≠ 65 → a ≠ 66 → a ≠ 70 → I3 a = I a := fun a q1 q2 q3 q4 => by rw [u1.1 a q1 q2 q3, uI_ne _ _ _ q4, a1.1 a q1 q2 q3, uI_ne _ _ _ q1]
    simp only [↓forall_eq, ↓inB_iff, gK_hU, gL_hU, gR_hU, gIh, gJh, pI_hU, pJ_hU, hU_hU, uI_app, uJ_app, and_true, true_and, and_false, false_and, and_self, true_implies, false_implies, not_true, not_false_iff, if_true, if_false, eq_self, Nat.reduceLeDiff, Nat.reduceEqDiff, reduceCtorEq, i32c, ti0, ti1, tiM, Int.natCast_nonneg, Int.reduceEq, Int.reduceLE, Int.reduceLT, Int.reduceNeg, tl_i, Int32.reduceToInt, Int64.reduceToInt, tiA, tlM6, Int.toNat_natCast, natc, nI_1, Int.zero_sub, implies_true, not_false_eq_true, mf.1, mr_34 mf, mk_65 mf, ml_65 mf, mr_42 mf, mk_70 mf, ml_70 mf, mr_54 mf, mk_78 mf, ml_78 mf, mr_55 mf, mk_79 mf, ml_79 mf, mr_56 mf, mk_80 mf, ml_80 mf, j53, hrI, r60]
    refine loop 20 0 _ (by omega) (fun a q1 q2 q3 q4 q5 q6 q7 => ?_) (fun j q1 q2 q3 q4 q5 q6 => ?_) ?_ (fun j => ?_) (fun j => ?_) (fun j hj => ⟨?_, ?_⟩) (fun i hi => by omega) (fun i hi => ?_) ⟨c, en9⟩
    · rw [uI_ne _ _ _ q5]; exact j0 a q1 q2 q3 q4
    · rw [uI_ne _ _ _ (by decide), j44 j q2 q3 q4 q5 q6, if_neg q1]
    · rw [uI_ne _ _ _ (by decide), j44 0 (by decide) (by decide) (by decide) (by decide) (by decide), if_pos rfl]
    · rw [uI_ne _ _ _ (by decide), u1.1 70 (by decide) (by decide) (by decide), uI_app, a1.1 70 (by decide) (by decide) (by decide), uI_ne _ _ _ (by decide)]
      by_cases z : j = k
      · rw [if_pos ⟨rfl, z⟩, if_pos z]
      · rw [if_neg (fun y => z y.2), if_neg z]
    · rw [uI_app, j0 78 (by decide) (by decide) (by decide) (by decide)]
      by_cases z : j = nr
      · rw [if_pos ⟨rfl, z⟩, if_pos z]
      · rw [if_neg (fun y => z y.2), if_neg z]
    · rw [uI_ne _ _ _ (by decide), j0 79 (by decide) (by decide) (by decide) (by decide)]
    · rw [uI_ne _ _ _ (by decide), j0 80 (by decide) (by decide) (by decide) (by decide)]
    · rw [uI_ne _ _ _ (by decide)]; exact u2 i hi
  · rw [if_neg (by rintro (z | z); exact absurd z (by decide); exact en9 z)]
    have z : ¬ (nI (eN (gI h) E Cn k)).toInt = -1 := by rw [ti_n (by omega)]; omega
    simp only [↓forall_eq, ↓inB_iff, gK_hU, gL_hU, gR_hU, gIh, gJh, pI_hU, pJ_hU, hU_hU, uI_app, uJ_app, and_true, true_and, and_false, false_and, and_self, true_implies, false_implies, not_true, not_false_iff, if_true, if_false, eq_self, Nat.reduceLeDiff, Nat.reduceEqDiff, reduceCtorEq, i32c, ti0, ti1, tiM, Int.natCast_nonneg, Int.reduceEq, Int.reduceLE, Int.reduceLT, Int.reduceNeg, tl_i, Int32.reduceToInt, Int64.reduceToInt, tiA, tlM6, Int.toNat_natCast, natc, nI_1, Int.zero_sub, implies_true, not_false_eq_true, mf.1, mr_34 mf, mk_65 mf, ml_65 mf, mr_42 mf, mk_70 mf, ml_70 mf, mr_54 mf, mk_78 mf, ml_78 mf, mr_55 mf, mk_79 mf, ml_79 mf, mr_56 mf, mk_80 mf, ml_80 mf, ↓fail_br mf, z]
    refine w2 (fun z => en9 z.2) _ (fun a q1 q2 q3 => by rw [uI_ne _ _ _ q1, a1.1 a q1 q2 q3, uI_ne _ _ _ q1]) (fun j q1 q2 q3 q4 q5 q6 => by rw [uI_nj _ _ _ _ q1, f44 j q2 q3 q4 q5 q6, if_neg q1]) (by rw [uI_same])
end CLM
