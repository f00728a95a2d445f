/-! READING A TEXT: the model's statements, from their beginnings -/
section MSC
variable {d L p q q1 w w0 w1 W k cnt nf ak s : Nat} {g : aH} {X : Nat → aH → Prop} {B : Nat → Int32} {I0 I I' : Nat → Nat → Int32} {J0 J J' : Nat → Nat → Int64} {nam : Nat → Int64} {K : Int32 → aH → Prop} {hd : Int64 × Int32 × Int32 × List Tm}
theorem rowH_N (r : rowH I J k s hd w0 w1) (u : fN I I' J J') : rowH I' J' k s hd w0 w1 := rowH_X (w := 0) r (fX_N u)
theorem m_s207 {r : Option StD × Nat} {c : Int32} (mf : MF g) (hW : W ≤ 6000) (hk : k = 20 * nf + cnt ∧ k < 120) (t : tpM I B L) (a : atM I J B L p) (nc : nmM I J nf cnt nam) (hp : p ≤ L) (hk6 : lxK B L p ≠ 6) (fq : fQ k w0 I0 I J0 J) (h54 : I 54 k = nI s) (h56 : I 56 k = 0) (h57 : I 57 k = 0) (hc : c = if s = 0 then 1 else 0) (hs : s ≤ 3) (hw : I 44 27 = nI w0) (hle : w0 ≤ W + lxS B L p)
    (hsome : ∀ hd q, hdN B L nam cnt s (lxE B L p) = (some hd, q) → r = afF B L s hd (cnF B L nam cnt s q)) (hnone : ∀ q, hdN B L nam cnt s (lxE B L p) = (none, q) → r = (none, q)) (ok : kOKm g K B L W k w0 I0 J0 r) (no : kNOm g K B L k w0 I0 J0 r) : Wp (d + 6) 114 (207, [some (vR 44), some (vI (nI k)), some (vI (nI s)), none, none], [vI c, vI (nI k), vR 58], hU g I J) (RI K X) := by
  have l12 := t.2.1
  have kI : (nI k).toInt = k := ti_n (by omega)
  have k120 : (k : Int) < 120 := by omega
  have sI : (nI s).toInt = s := ti_n (by omega)
  have go := lxK_go (B := B) hp hk6
  have k58 := mk_58 mf
  have l58 := ml_58 mf
  refine w114_207 ?_
  simp only [↓forall_eq, ↓inB_iff, gK_hU, gL_hU, gR_hU, gIh, gJh, pI_hU, pJ_hU, hU_hU, uI_app, uJ_app, and_true, true_and, and_false, false_and, and_self, true_implies, false_implies, not_true, not_false_iff, if_true, if_false, eq_self, Nat.reduceLeDiff, Nat.reduceEqDiff, reduceCtorEq, i32c, ti0, ti1, tiM, Int.natCast_nonneg, Int.reduceEq, Int.reduceLE, Int.reduceLT, Int.reduceNeg, tl_i, Int32.reduceToInt, Int64.reduceToInt, tiA, tlM6, Int.toNat_natCast, natc, nI_1, Int.zero_sub, implies_true, not_false_eq_true, mf.1, mr_15 mf, mk_53 mf, ml_53 mf, mr_16 mf, mk_54 mf, ml_54 mf, mr_17 mf, mk_55 mf, ml_55 mf, mr_18 mf, mk_56 mf, ml_56 mf, mr_19 mf, mk_57 mf, ml_57 mf, mr_20 mf, mk_58 mf, ml_58 mf, mr_21 mf, mk_59 mf, ml_59 mf, mr_22 mf, mk_60 mf, ml_60 mf, mr_23 mf, mk_61 mf, ml_61 mf, mr_24 mf, mk_62 mf, ml_62 mf, kI, k120, hw, k58, l58]
  have u1 : fQ k w0 I (uI (uI (uI (uI (uI I 58 k c) 59 k (nI w0)) 60 k (nI w0)) 61 k (-1)) 62 k (-1)) J J := fQ_tr (fQ_tr (fQ_tr (fQ_tr (fQ_row (by omega)) (fQ_row (w := w0) (by omega)) (Nat.le_refl _)) (fQ_row (w := w0) (by omega)) (Nat.le_refl _)) (fQ_row (w := w0) (by omega)) (Nat.le_refl _)) (fQ_row (w := w0) (by omega)) (Nat.le_refl _)
  have v1 : (uI (uI (uI (uI (uI I 58 k c) 59 k (nI w0)) 60 k (nI w0)) 61 k (-1)) 62 k (-1)) 54 k = nI s ∧ (uI (uI (uI (uI (uI I 58 k c) 59 k (nI w0)) 60 k (nI w0)) 61 k (-1)) 62 k (-1)) 56 k = 0 ∧ (uI (uI (uI (uI (uI I 58 k c) 59 k (nI w0)) 60 k (nI w0)) 61 k (-1)) 62 k (-1)) 57 k = 0 ∧ (uI (uI (uI (uI (uI I 58 k c) 59 k (nI w0)) 60 k (nI w0)) 61 k (-1)) 62 k (-1)) 58 k = c ∧ (uI (uI (uI (uI (uI I 58 k c) 59 k (nI w0)) 60 k (nI w0)) 61 k (-1)) 62 k (-1)) 59 k = nI w0 ∧ (uI (uI (uI (uI (uI I 58 k c) 59 k (nI w0)) 60 k (nI w0)) 61 k (-1)) 62 k (-1)) 60 k = nI w0 ∧ (uI (uI (uI (uI (uI I 58 k c) 59 k (nI w0)) 60 k (nI w0)) 61 k (-1)) 62 k (-1)) 61 k = -1 ∧ (uI (uI (uI (uI (uI I 58 k c) 59 k (nI w0)) 60 k (nI w0)) 61 k (-1)) 62 k (-1)) 62 k = -1 ∧ (uI (uI (uI (uI (uI I 58 k c) 59 k (nI w0)) 60 k (nI w0)) 61 k (-1)) 62 k (-1)) 44 = I 44 := by
    refine ⟨?_, ?_, ?_, ?_, ?_, ?_, ?_, ?_, ?_⟩
    · simp only [↓forall_eq, ↓inB_iff, gK_hU, gL_hU, gR_hU, gIh, gJh, pI_hU, pJ_hU, hU_hU, uI_app, uJ_app, and_true, true_and, and_false, false_and, and_self, true_implies, false_implies, not_true, not_false_iff, if_true, if_false, eq_self, Nat.reduceLeDiff, Nat.reduceEqDiff, reduceCtorEq, i32c, ti0, ti1, tiM, Int.natCast_nonneg, Int.reduceEq, Int.reduceLE, Int.reduceLT, Int.reduceNeg, tl_i, Int32.reduceToInt, Int64.reduceToInt, tiA, tlM6, Int.toNat_natCast, natc, nI_1, Int.zero_sub, implies_true, not_false_eq_true]; exact h54
    · simp only [↓forall_eq, ↓inB_iff, gK_hU, gL_hU, gR_hU, gIh, gJh, pI_hU, pJ_hU, hU_hU, uI_app, uJ_app, and_true, true_and, and_false, false_and, and_self, true_implies, false_implies, not_true, not_false_iff, if_true, if_false, eq_self, Nat.reduceLeDiff, Nat.reduceEqDiff, reduceCtorEq, i32c, ti0, ti1, tiM, Int.natCast_nonneg, Int.reduceEq, Int.reduceLE, Int.reduceLT, Int.reduceNeg, tl_i, Int32.reduceToInt, Int64.reduceToInt, tiA, tlM6, Int.toNat_natCast, natc, nI_1, Int.zero_sub, implies_true, not_false_eq_true]; exact h56
    · simp only [↓forall_eq, ↓inB_iff, gK_hU, gL_hU, gR_hU, gIh, gJh, pI_hU, pJ_hU, hU_hU, uI_app, uJ_app, and_true, true_and, and_false, false_and, and_self, true_implies, false_implies, not_true, not_false_iff, if_true, if_false, eq_self, Nat.reduceLeDiff, Nat.reduceEqDiff, reduceCtorEq, i32c, ti0, ti1, tiM, Int.natCast_nonneg, Int.reduceEq, Int.reduceLE, Int.reduceLT, Int.reduceNeg, tl_i, Int32.reduceToInt, Int64.reduceToInt, tiA, tlM6, Int.toNat_natCast, natc, nI_1, Int.zero_sub, implies_true, not_false_eq_true]; exact h57
    · simp only [↓forall_eq, ↓inB_iff, gK_hU, gL_hU, gR_hU, gIh, gJh, pI_hU, pJ_hU, hU_hU, uI_app, uJ_app, and_true, true_and, and_false, false_and, and_self, true_implies, false_implies, not_true, not_false_iff, if_true, if_false, eq_self, Nat.reduceLeDiff, Nat.reduceEqDiff, reduceCtorEq, i32c, ti0, ti1, tiM, Int.natCast_nonneg, Int.reduceEq, Int.reduceLE, Int.reduceLT, Int.reduceNeg, tl_i, Int32.reduceToInt, Int64.reduceToInt, tiA, tlM6, Int.toNat_natCast, natc, nI_1, Int.zero_sub, implies_true, not_false_eq_true]
    · simp only [↓forall_eq, ↓inB_iff, gK_hU, gL_hU, gR_hU, gIh, gJh, pI_hU, pJ_hU, hU_hU, uI_app, uJ_app, and_true, true_and, and_false, false_and, and_self, true_implies, false_implies, not_true, not_false_iff, if_true, if_false, eq_self, Nat.reduceLeDiff, Nat.reduceEqDiff, reduceCtorEq, i32c, ti0, ti1, tiM, Int.natCast_nonneg, Int.reduceEq, Int.reduceLE, Int.reduceLT, Int.reduceNeg, tl_i, Int32.reduceToInt, Int64.reduceToInt, tiA, tlM6, Int.toNat_natCast, natc, nI_1, Int.zero_sub, implies_true, not_false_eq_true]
    · simp only [↓forall_eq, ↓inB_iff, gK_hU, gL_hU, gR_hU, gIh, gJh, pI_hU, pJ_hU, hU_hU, uI_app, uJ_app, and_true, true_and, and_false, false_and, and_self, true_implies, false_implies, not_true, not_false_iff, if_true, if_false, eq_self, Nat.reduceLeDiff, Nat.reduceEqDiff, reduceCtorEq, i32c, ti0, ti1, tiM, Int.natCast_nonneg, Int.reduceEq, Int.reduceLE, Int.reduceLT, Int.reduceNeg, tl_i, Int32.reduceToInt, Int64.reduceToInt, tiA, tlM6, Int.toNat_natCast, natc, nI_1, Int.zero_sub, implies_true, not_false_eq_true]
    · simp only [↓forall_eq, ↓inB_iff, gK_hU, gL_hU, gR_hU, gIh, gJh, pI_hU, pJ_hU, hU_hU, uI_app, uJ_app, and_true, true_and, and_false, false_and, and_self, true_implies, false_implies, not_true, not_false_iff, if_true, if_false, eq_self, Nat.reduceLeDiff, Nat.reduceEqDiff, reduceCtorEq, i32c, ti0, ti1, tiM, Int.natCast_nonneg, Int.reduceEq, Int.reduceLE, Int.reduceLT, Int.reduceNeg, tl_i, Int32.reduceToInt, Int64.reduceToInt, tiA, tlM6, Int.toNat_natCast, natc, nI_1, Int.zero_sub, implies_true, not_false_eq_true]
    · simp only [↓forall_eq, ↓inB_iff, gK_hU, gL_hU, gR_hU, gIh, gJh, pI_hU, pJ_hU, hU_hU, uI_app, uJ_app, and_true, true_and, and_false, false_and, and_self, true_implies, false_implies, not_true, not_false_iff, if_true, if_false, eq_self, Nat.reduceLeDiff, Nat.reduceEqDiff, reduceCtorEq, i32c, ti0, ti1, tiM, Int.natCast_nonneg, Int.reduceEq, Int.reduceLE, Int.reduceLT, Int.reduceNeg, tl_i, Int32.reduceToInt, Int64.reduceToInt, tiA, tlM6, Int.toNat_natCast, natc, nI_1, Int.zero_sub, implies_true, not_false_eq_true]
    · rw [uI_ne _ _ _ (by decide), uI_ne _ _ _ (by decide), uI_ne _ _ _ (by decide), uI_ne _ _ _ (by decide), uI_ne _ _ _ (by decide)]
  generalize uI (uI (uI (uI (uI I 58 k c) 59 k (nI w0)) 60 k (nI w0)) 61 k (-1)) 62 k (-1) = I1 at *
  obtain ⟨d54, d56, d57, d58, d59, d60, d61, d62, d44⟩ := v1
  have t1 := tpM_fQ t u1
  have a1 : atM I1 J B L p := by unfold atM at a ⊢; rw [d44]; exact a
  refine m_next mf t1 go.2.2.2 a1.1.1 (fun I2 J2 u2 a2 => ?_)
  have t2 := tpM_fN t1 u2
  have v2 : fX w0 I1 I2 J J2 := fX_N u2
  have f2 : fQ k w0 I0 I2 J0 J2 := fQ_tr fq (fQ_tr u1 (fQ_X v2) (Nat.le_refl _)) (Nat.le_refl _)
  have nc1 : nmM I1 J nf cnt nam := by rw [hk.1] at u1; exact nmM_fQ nc u1
  have nc2 := nmM_fX nc1 v2
  have w2 : I2 44 27 = nI w0 := by rw [u2.2.1 27 (by decide) (by decide) (by decide) (by decide), d44]; exact hw
  have h61 : (I2 61 k).toInt = -1 ∧ (I2 62 k).toInt = -1 := by rw [u2.1 61 (by decide), u2.1 62 (by decide), d61, d62]; exact ⟨rfl, rfl⟩
  simp only [sI]
  refine ⟨fun z => ⟨fun y => absurd y (by omega), fun _ => ?_⟩, fun z => ?_⟩
  · have hh : hdN B L nam cnt s (lxE B L p) = (some (0, 0, 0, []), lxE B L p) := by unfold hdN; rw [if_pos (by omega)]
    have rr : rowH I2 J2 k s ((0 : Int64), (0 : Int32), (0 : Int32), ([] : List Tm)) w0 w0 := by
      refine ⟨⟨?_, ?_, ?_, ?_, ?_, ?_⟩, fun y => by omega⟩
      · rw [u2.1 54 (by decide)]; exact d54
      · rw [u2.1 56 (by decide)]; exact d56
      · rw [u2.1 57 (by decide)]; exact d57
      · rw [u2.1 58 (by decide), d58]; exact hc
      · rw [u2.1 59 (by decide)]; exact d59
      · rw [u2.1 60 (by decide)]; exact d60
    exact m_s345 mf hW hk t2 a2 nc2 go.2.2.2 f2 rr h61 hs w2 (Nat.le_refl _) (fun y => by omega) (by omega) (hsome _ _ hh) (by rw [if_pos (by omega)]) ok no
  · obtain ⟨qI, q2, -⟩ := kdM_i (lxK B L (lxE B L p))
    have bad : ¬ nmK B L nam cnt (lxE B L p) → K 0 (hU g I2 J2) := fun y => no (lxE B L p) I2 J2 (hnone _ (by unfold hdN; rw [if_neg (by omega), if_neg y])) f2 a2.1.2.2
    simp only [↓forall_eq, ↓inB_iff, gK_hU, gL_hU, gR_hU, gIh, gJh, pI_hU, pJ_hU, hU_hU, uI_app, uJ_app, and_true, true_and, and_false, false_and, and_self, true_implies, false_implies, not_true, not_false_iff, if_true, if_false, eq_self, Nat.reduceLeDiff, Nat.reduceEqDiff, reduceCtorEq, i32c, ti0, ti1, tiM, Int.natCast_nonneg, Int.reduceEq, Int.reduceLE, Int.reduceLT, Int.reduceNeg, tl_i, Int32.reduceToInt, Int64.reduceToInt, tiA, tlM6, Int.toNat_natCast, natc, nI_1, Int.zero_sub, implies_true, not_false_eq_true, mf.1, mr_15 mf, mk_53 mf, ml_53 mf, mr_16 mf, mk_54 mf, ml_54 mf, mr_17 mf, mk_55 mf, ml_55 mf, mr_18 mf, mk_56 mf, ml_56 mf, mr_19 mf, mk_57 mf, ml_57 mf, mr_20 mf, mk_58 mf, ml_58 mf, mr_21 mf, mk_59 mf, ml_59 mf, mr_22 mf, mk_60 mf, ml_60 mf, mr_23 mf, mk_61 mf, ml_61 mf, mr_24 mf, mk_62 mf, ml_62 mf, a2.1.2.1, qI]
    refine ⟨fun z2 => ?_, fun z2 => bad (fun y => z2 (by have := q2.2 y.1; omega))⟩
    have ck : lxK B L (lxE B L p) = 0 := q2.1 (by omega)
    have xw := lxW_ne go.2.2.2 ck
    have NM := fun (K : Int32 → aH → Prop) X => nameOf_br (d := d + 5) (K := K) (X := X) mf nc2 xw
    simp only [↓forall_eq, ↓inB_iff, gK_hU, gL_hU, gR_hU, gIh, gJh, pI_hU, pJ_hU, hU_hU, uI_app, uJ_app, and_true, true_and, and_false, false_and, and_self, true_implies, false_implies, not_true, not_false_iff, if_true, if_false, eq_self, Nat.reduceLeDiff, Nat.reduceEqDiff, reduceCtorEq, i32c, ti0, ti1, tiM, Int.natCast_nonneg, Int.reduceEq, Int.reduceLE, Int.reduceLT, Int.reduceNeg, tl_i, Int32.reduceToInt, Int64.reduceToInt, tiA, tlM6, Int.toNat_natCast, natc, nI_1, Int.zero_sub, implies_true, not_false_eq_true, mf.1, mr_15 mf, mk_53 mf, ml_53 mf, mr_16 mf, mk_54 mf, ml_54 mf, mr_17 mf, mk_55 mf, ml_55 mf, mr_18 mf, mk_56 mf, ml_56 mf, mr_19 mf, mk_57 mf, ml_57 mf, mr_20 mf, mk_58 mf, ml_58 mf, mr_21 mf, mk_59 mf, ml_59 mf, mr_22 mf, mk_60 mf, ml_60 mf, mr_23 mf, mk_61 mf, ml_61 mf, mr_24 mf, mk_62 mf, ml_62 mf, a2.2.2.2.2.2 ck, nc2.1.1, ↓keptM_br, ↓NM, kI, k120]
    refine ⟨fun kp => bad (fun y => y.2.1 kp), fun kp => ⟨fun zn => ?_, fun zn => bad (fun y => zn (by rw [y.2.2]; rfl))⟩⟩
    have hnm : nmK B L nam cnt (lxE B L p) := ⟨ck, kp, ti_inj zn⟩
    have go2 := lxK_go (B := B) go.2.2.2 (by omega)
    have a3 : atM I2 (uJ J2 55 k (lxW B L (lxE B L p))) B L (lxE B L p) := atM_name a2
    have j3 : uJ J2 55 k (lxW B L (lxE B L p)) 55 k = lxW B L (lxE B L p) := by rw [uJ_app, if_pos ⟨rfl, rfl⟩]
    have f3 : fQ k w0 I2 I2 J2 (uJ J2 55 k (lxW B L (lxE B L p))) := fQ_name
    generalize uJ J2 55 k (lxW B L (lxE B L p)) = J3 at *
    refine m_next mf t2 go2.2.2.2 a3.1.1 (fun I4 J4 u4 a4 => ?_)
    have t4 := tpM_fN t2 u4
    have v4 : fX w0 I2 I4 J3 J4 := fX_N u4
    have f4 : fQ k w0 I0 I4 J0 J4 := fQ_tr f2 (fQ_tr f3 (fQ_X v4) (Nat.le_refl _)) (Nat.le_refl _)
    have nc4 : nmM I4 J4 nf cnt nam := by
      have : nmM I2 J3 nf cnt nam := by rw [hk.1] at f3; exact nmM_fQ nc2 f3
      exact nmM_fX this v4
    have w4 : I4 44 27 = nI w0 := by rw [u4.2.1 27 (by decide) (by decide) (by decide) (by decide)]; exact w2
    have j4 : J4 55 k = lxW B L (lxE B L p) := by rw [u4.2.2 55 (by decide)]; exact j3
    have e4 : ∀ b, b ≠ 44 → I4 b = I1 b := fun b hb => by rw [u4.1 b hb, u2.1 b hb]
    by_cases s0 : s = 0
    · have s0' : (s : Int) = 0 := by omega
      simp only [↓forall_eq, ↓inB_iff, gK_hU, gL_hU, gR_hU, gIh, gJh, pI_hU, pJ_hU, hU_hU, uI_app, uJ_app, and_true, true_and, and_false, false_and, and_self, true_implies, false_implies, not_true, not_false_iff, if_true, if_false, eq_self, Nat.reduceLeDiff, Nat.reduceEqDiff, reduceCtorEq, i32c, ti0, ti1, tiM, Int.natCast_nonneg, Int.reduceEq, Int.reduceLE, Int.reduceLT, Int.reduceNeg, tl_i, Int32.reduceToInt, Int64.reduceToInt, tiA, tlM6, Int.toNat_natCast, natc, nI_1, Int.zero_sub, implies_true, not_false_eq_true, mf.1, mr_15 mf, mk_53 mf, ml_53 mf, mr_16 mf, mk_54 mf, ml_54 mf, mr_17 mf, mk_55 mf, ml_55 mf, mr_18 mf, mk_56 mf, ml_56 mf, mr_19 mf, mk_57 mf, ml_57 mf, mr_20 mf, mk_58 mf, ml_58 mf, mr_21 mf, mk_59 mf, ml_59 mf, mr_22 mf, mk_60 mf, ml_60 mf, mr_23 mf, mk_61 mf, ml_61 mf, mr_24 mf, mk_62 mf, ml_62 mf, s0']
      refine m_bounds (w := w0) mf hk.2 t4 a4 go2.2.2.2 (fun lo hi q5 I5 J5 hb u5 a5 hq5 ls5 => ?_) (fun q5 I5 J5 hb u5 x30 => ⟨fun _ => no q5 I5 J5 (hnone _ (by unfold hdN; rw [if_neg (by omega), if_pos hnm, if_pos s0, hb])) (fQ_tr f4 u5 (Nat.le_refl _)) x30, fun y => absurd rfl y⟩)
      have hh : hdN B L nam cnt s (lxE B L p) = (some (lxW B L (lxE B L p), lo, hi, []), q5) := by unfold hdN; rw [if_neg (by omega), if_pos hnm, if_pos s0, hb]
      have w5 : I5 44 27 = nI w0 := by rw [u5.2.2.2.1 27 (by decide) (by decide) (by decide) (by decide) (by decide)]; exact w4
      have f5 : fQ k w0 I0 (uI I5 60 k (nI w0)) J0 J5 := fQ_tr f4 (fQ_tr (fQ_V u5) (fQ_row (w := w0) (by omega)) (Nat.le_refl _)) (Nat.le_refl _)
      have t5 := tpM_fQ (tpM_fQ t4 (fQ_V (w := w0) u5)) (fQ_row (k := k) (w := w0) (I := I5) (J := J5) (a := 60) (x := nI w0) (by omega))
      have a6 : atM (uI I5 60 k (nI w0)) J5 B L q5 := atM_row (by decide) a5
      have nc5 : nmM (uI I5 60 k (nI w0)) J5 nf cnt nam := by
        have x1 : fQ (20 * nf + cnt) w0 I4 I5 J4 J5 := by rw [← hk.1]; exact fQ_V u5
        have x2 : fQ (20 * nf + cnt) w0 I5 (uI I5 60 k (nI w0)) J5 J5 := by rw [hk.1]; exact fQ_row (by omega)
        exact nmM_fQ (nmM_fQ nc4 x1) x2
      have rr : rowH (uI I5 60 k (nI w0)) J5 k s (lxW B L (lxE B L p), lo, hi, ([] : List Tm)) w0 w0 := by
        refine ⟨⟨?_, ?_, ?_, ?_, ?_, ?_⟩, fun y => ?_⟩
        · rw [uI_ne _ _ _ (by decide), u5.1 54 (by decide) (by decide) (by decide), e4 54 (by decide)]; exact d54
        · rw [uI_ne _ _ _ (by decide)]; exact u5.2.2.1.1
        · rw [uI_ne _ _ _ (by decide)]; exact u5.2.2.1.2
        · rw [uI_ne _ _ _ (by decide), u5.1 58 (by decide) (by decide) (by decide), e4 58 (by decide), d58]; exact hc
        · rw [uI_ne _ _ _ (by decide), u5.1 59 (by decide) (by decide) (by decide), e4 59 (by decide)]; exact d59
        · rw [uI_same]
        · rw [u5.2.2.2.2 55 (by decide)]; exact j4
      have h61' : ((uI I5 60 k (nI w0)) 61 k).toInt = -1 ∧ ((uI I5 60 k (nI w0)) 62 k).toInt = -1 := by
        rw [uI_ne _ _ _ (by decide), uI_ne _ _ _ (by decide), u5.1 61 (by decide) (by decide) (by decide), u5.1 62 (by decide) (by decide) (by decide), e4 61 (by decide), e4 62 (by decide), d61, d62]; exact ⟨rfl, rfl⟩
      have z2 : (s : Int) < 2 := by omega
      simp only [↓forall_eq, ↓inB_iff, gK_hU, gL_hU, gR_hU, gIh, gJh, pI_hU, pJ_hU, hU_hU, uI_app, uJ_app, and_true, true_and, and_false, false_and, and_self, true_implies, false_implies, not_true, not_false_iff, if_true, if_false, eq_self, Nat.reduceLeDiff, Nat.reduceEqDiff, reduceCtorEq, i32c, ti0, ti1, tiM, Int.natCast_nonneg, Int.reduceEq, Int.reduceLE, Int.reduceLT, Int.reduceNeg, tl_i, Int32.reduceToInt, Int64.reduceToInt, tiA, tlM6, Int.toNat_natCast, natc, nI_1, Int.zero_sub, implies_true, not_false_eq_true, mf.1, mr_15 mf, mk_53 mf, ml_53 mf, mr_16 mf, mk_54 mf, ml_54 mf, mr_17 mf, mk_55 mf, ml_55 mf, mr_18 mf, mk_56 mf, ml_56 mf, mr_19 mf, mk_57 mf, ml_57 mf, mr_20 mf, mk_58 mf, ml_58 mf, mr_21 mf, mk_59 mf, ml_59 mf, mr_22 mf, mk_60 mf, ml_60 mf, mr_23 mf, mk_61 mf, ml_61 mf, mr_24 mf, mk_62 mf, ml_62 mf, kI, k120, w5]
      exact m_s345 mf hW hk t5 a6 nc5 hq5 f5 rr h61' hs (by rw [uI_ne _ _ _ (by decide)]; exact w5) (Nat.le_refl _) (fun y => by omega) (by omega) (hsome _ _ hh) (by rw [if_neg (by omega)]) ok no
    · have s0' : ¬ (s : Int) = 0 := by omega
      have s1 : s = 1 := by omega
      simp only [↓forall_eq, ↓inB_iff, gK_hU, gL_hU, gR_hU, gIh, gJh, pI_hU, pJ_hU, hU_hU, uI_app, uJ_app, and_true, true_and, and_false, false_and, and_self, true_implies, false_implies, not_true, not_false_iff, if_true, if_false, eq_self, Nat.reduceLeDiff, Nat.reduceEqDiff, reduceCtorEq, i32c, ti0, ti1, tiM, Int.natCast_nonneg, Int.reduceEq, Int.reduceLE, Int.reduceLT, Int.reduceNeg, tl_i, Int32.reduceToInt, Int64.reduceToInt, tiA, tlM6, Int.toNat_natCast, natc, nI_1, Int.zero_sub, implies_true, not_false_eq_true, mf.1, mr_15 mf, mk_53 mf, ml_53 mf, mr_16 mf, mk_54 mf, ml_54 mf, mr_17 mf, mk_55 mf, ml_55 mf, mr_18 mf, mk_56 mf, ml_56 mf, mr_19 mf, mk_57 mf, ml_57 mf, mr_20 mf, mk_58 mf, ml_58 mf, mr_21 mf, mk_59 mf, ml_59 mf, mr_22 mf, mk_60 mf, ml_60 mf, mr_23 mf, mk_61 mf, ml_61 mf, mr_24 mf, mk_62 mf, ml_62 mf, s0']
      refine m_rexp (W := W) (w := w0) mf hW t4 a4 nc4 go2.2.2.2 w4 (by omega) (fun ts q5 I5 J5 hx u5 a5 hq5 w5 le5 ls5 en5 => ?_) (fun q5 I5 J5 hx u5 x30 => ⟨fun _ => no q5 I5 J5 (hnone _ (by unfold hdN; rw [if_neg (by omega), if_pos hnm, if_neg s0, hx])) (fQ_tr f4 (fQ_X u5) (Nat.le_refl _)) x30, fun y => absurd rfl y⟩)
      have hh : hdN B L nam cnt s (lxE B L p) = (some (lxW B L (lxE B L p), 0, 0, ts), q5) := by unfold hdN; rw [if_neg (by omega), if_pos hnm, if_neg s0, hx]
      have f5 : fQ k w0 I0 (uI I5 60 k (nI (w0 + mL ts))) J0 J5 := fQ_tr f4 (fQ_tr (fQ_X u5) (fQ_row (w := w0) (by omega)) (Nat.le_refl _)) (Nat.le_refl _)
      have t5 := tpM_fQ (tpM_fX t4 u5) (fQ_row (k := k) (w := w0) (I := I5) (J := J5) (a := 60) (x := nI (w0 + mL ts)) (by omega))
      have a6 : atM (uI I5 60 k (nI (w0 + mL ts))) J5 B L q5 := atM_row (by decide) a5
      have nc5 : nmM (uI I5 60 k (nI (w0 + mL ts))) J5 nf cnt nam := by
        have x2 : fQ (20 * nf + cnt) w0 I5 (uI I5 60 k (nI (w0 + mL ts))) J5 J5 := by rw [hk.1]; exact fQ_row (by omega)
        exact nmM_fQ (nmM_fX nc4 u5) x2
      have rr : rowH (uI I5 60 k (nI (w0 + mL ts))) J5 k s (lxW B L (lxE B L p), (0 : Int32), (0 : Int32), ts) w0 (w0 + mL ts) := by
        refine ⟨⟨?_, ?_, ?_, ?_, ?_, ?_⟩, fun y => ?_⟩
        · rw [uI_ne _ _ _ (by decide), u5.1 54 (by decide) (by decide) (by decide), e4 54 (by decide)]; exact d54
        · rw [uI_ne _ _ _ (by decide), u5.1 56 (by decide) (by decide) (by decide), e4 56 (by decide)]; exact d56
        · rw [uI_ne _ _ _ (by decide), u5.1 57 (by decide) (by decide) (by decide), e4 57 (by decide)]; exact d57
        · rw [uI_ne _ _ _ (by decide), u5.1 58 (by decide) (by decide) (by decide), e4 58 (by decide), d58]; exact hc
        · rw [uI_ne _ _ _ (by decide), u5.1 59 (by decide) (by decide) (by decide), e4 59 (by decide)]; exact d59
        · rw [uI_same]
        · rw [u5.2.2.2 55 (by decide)]; exact j4
      have h61' : ((uI I5 60 k (nI (w0 + mL ts))) 61 k).toInt = -1 ∧ ((uI I5 60 k (nI (w0 + mL ts))) 62 k).toInt = -1 := by
        rw [uI_ne _ _ _ (by decide), uI_ne _ _ _ (by decide), u5.1 61 (by decide) (by decide) (by decide), u5.1 62 (by decide) (by decide) (by decide), e4 61 (by decide), e4 62 (by decide), d61, d62]; exact ⟨rfl, rfl⟩
      have z2 : (s : Int) < 2 := by omega
      simp only [↓forall_eq, ↓inB_iff, gK_hU, gL_hU, gR_hU, gIh, gJh, pI_hU, pJ_hU, hU_hU, uI_app, uJ_app, and_true, true_and, and_false, false_and, and_self, true_implies, false_implies, not_true, not_false_iff, if_true, if_false, eq_self, Nat.reduceLeDiff, Nat.reduceEqDiff, reduceCtorEq, i32c, ti0, ti1, tiM, Int.natCast_nonneg, Int.reduceEq, Int.reduceLE, Int.reduceLT, Int.reduceNeg, tl_i, Int32.reduceToInt, Int64.reduceToInt, tiA, tlM6, Int.toNat_natCast, natc, nI_1, Int.zero_sub, implies_true, not_false_eq_true, mf.1, mr_15 mf, mk_53 mf, ml_53 mf, mr_16 mf, mk_54 mf, ml_54 mf, mr_17 mf, mk_55 mf, ml_55 mf, mr_18 mf, mk_56 mf, ml_56 mf, mr_19 mf, mk_57 mf, ml_57 mf, mr_20 mf, mk_58 mf, ml_58 mf, mr_21 mf, mk_59 mf, ml_59 mf, mr_22 mf, mk_60 mf, ml_60 mf, mr_23 mf, mk_61 mf, ml_61 mf, mr_24 mf, mk_62 mf, ml_62 mf, kI, k120, w5, z2]
      exact m_s345 mf hW hk t5 a6 nc5 hq5 f5 rr h61' hs (by rw [uI_ne _ _ _ (by decide)]; exact w5) (by omega) (fun _ => ⟨rfl, by rw [uI_ne _ _ _ (by decide), uI_ne _ _ _ (by decide)]; exact en5⟩) le5 (hsome _ _ hh) (by rw [if_neg (by omega)]) ok no
theorem m_stmt (mf : MF g) (hW : W ≤ 6000) (hk : k = 20 * nf + cnt ∧ k < 120) (t : tpM I0 B L) (a : atM I0 J0 B L p) (nc : nmM I0 J0 nf cnt nam) (hp : p ≤ L) (h20 : cnt < 20) (hw : I0 44 27 = nI w0) (hle : w0 ≤ W + lxS B L p) (hak : akN (fun i => I0 54 (20 * nf + i)) cnt = ak) (h10 : ak ≤ 10)
    (ok : kOKm g K B L W k w0 I0 J0 (stF B L nam cnt ak p)) (no : kNOm g K B L k w0 I0 J0 (stF B L nam cnt ak p)) : CI (d + 6) 114 [vR 44] (hU g I0 J0) K X := by
  have l12 := t.2.1
  have kI : (nI k).toInt = k := ti_n (by omega)
  have k120 : (k : Int) < 120 := by omega
  have cI : (nI cnt).toInt = cnt := ti_n (by omega)
  have f6 := nc.1.2.1
  have fI : (nI nf).toInt = nf := ti_n (by omega)
  have f6' : (nf : Int) < 6 := by omega
  have c20 : ¬ (cnt : Int) = 20 := by omega
  obtain ⟨qI, q2, -⟩ := kdM_i (lxK B L p)
  have bad : stF B L nam cnt ak p = (none, p) → K 0 (hU g I0 J0) := fun z => no p I0 J0 z fQ_refl a.1.2.2
  have kx : (20 : Int32) * nI nf + nI cnt = nI k := by rw [show (20 : Int32) = nI 20 from rfl, nI_mul, nI_add, hk.1]
  have akI : (nI ak).toInt = ak := ti_n (by omega)
  by_cases ck : lxK B L p = 0
  · have z2 : ((kdM (lxK B L p) : Nat) : Int) = 2 := by have := q2.2 ck; omega
    have s9 : ∀ s : Nat, s = srN B L p → ∀ sc : Int32, (s = 4 → sc.toInt = -1) → (s ≠ 4 → sc = nI s) → Wp (d + 6) 114 (109, [some (vR 44), some (vI (nI k)), some (vI sc), some (vI 0), some (vI 0)], [], hU g I0 J0) (RI K X) := by
      intro s hs sc h4 hn4
      have sle := srN_le (B := B) (L := L) (p := p)
      -- behind the count of the asks
      have fin : Wp (d + 6) 114 (109, [some (vR 44), some (vI (nI k)), some (vI sc), some (vI (nI ak)), some (vI (nI cnt))], [], hU g I0 J0) (RI K X) := by
        by_cases e4 : s = 4
        · have zz := h4 e4
          refine w114_109 ?_
          simp only [↓forall_eq, ↓inB_iff, gK_hU, gL_hU, gR_hU, gIh, gJh, pI_hU, pJ_hU, hU_hU, uI_app, uJ_app, and_true, true_and, and_false, false_and, and_self, true_implies, false_implies, not_true, not_false_iff, if_true, if_false, eq_self, Nat.reduceLeDiff, Nat.reduceEqDiff, reduceCtorEq, i32c, ti0, ti1, tiM, Int.natCast_nonneg, Int.reduceEq, Int.reduceLE, Int.reduceLT, Int.reduceNeg, tl_i, Int32.reduceToInt, Int64.reduceToInt, tiA, tlM6, Int.toNat_natCast, natc, nI_1, Int.zero_sub, implies_true, not_false_eq_true, mf.1, mr_15 mf, mk_53 mf, ml_53 mf, mr_16 mf, mk_54 mf, ml_54 mf, mr_17 mf, mk_55 mf, ml_55 mf, mr_18 mf, mk_56 mf, ml_56 mf, mr_19 mf, mk_57 mf, ml_57 mf, mr_20 mf, mk_58 mf, ml_58 mf, mr_21 mf, mk_59 mf, ml_59 mf, mr_22 mf, mk_60 mf, ml_60 mf, mr_23 mf, mk_61 mf, ml_61 mf, mr_24 mf, mk_62 mf, ml_62 mf, nc.1.1, fI, f6', nc.1.2.2.1, cI, Int.lt_irrefl, zz]
          exact bad (by unfold stF; rw [if_pos (Or.inl (by omega))])
        · have es := hn4 e4
          subst es
          have sI : (nI s).toInt = s := ti_n (by omega)
          have n1 : ¬ (s : Int) = -1 := by omega
          have go : ∀ c : Int32, ¬ (srN B L p = 4 ∨ (srN B L p = 0 ∧ 10 ≤ ak)) → c = (if s = 0 then 1 else 0) → Wp (d + 6) 114 (207, [some (vR 44), some (vI (nI k)), some (vI (nI s)), none, none], [vI c, vI (nI k), vR 58], hU g (uI (uI (uI I0 54 k (nI s)) 56 k 0) 57 k 0) J0) (RI K X) := by
            intro c hn hc
            have u1 : fQ k w0 I0 (uI (uI (uI I0 54 k (nI s)) 56 k 0) 57 k 0) J0 J0 := fQ_tr (fQ_tr (fQ_row (by omega)) (fQ_row (w := w0) (by omega)) (Nat.le_refl _)) (fQ_row (w := w0) (by omega)) (Nat.le_refl _)
            have a1 : atM (uI (uI (uI I0 54 k (nI s)) 56 k 0) 57 k 0) J0 B L p := atM_row (by decide) (atM_row (by decide) (atM_row (by decide) a))
            have nc1 : nmM (uI (uI (uI I0 54 k (nI s)) 56 k 0) 57 k 0) J0 nf cnt nam := by rw [hk.1] at u1 ⊢; exact nmM_fQ nc u1
            refine m_s207 mf hW hk (tpM_fQ t u1) a1 nc1 hp (by omega) u1 (by simp only [↓forall_eq, ↓inB_iff, gK_hU, gL_hU, gR_hU, gIh, gJh, pI_hU, pJ_hU, hU_hU, uI_app, uJ_app, and_true, true_and, and_false, false_and, and_self, true_implies, false_implies, not_true, not_false_iff, if_true, if_false, eq_self, Nat.reduceLeDiff, Nat.reduceEqDiff, reduceCtorEq, i32c, ti0, ti1, tiM, Int.natCast_nonneg, Int.reduceEq, Int.reduceLE, Int.reduceLT, Int.reduceNeg, tl_i, Int32.reduceToInt, Int64.reduceToInt, tiA, tlM6, Int.toNat_natCast, natc, nI_1, Int.zero_sub, implies_true, not_false_eq_true]) (by simp only [↓forall_eq, ↓inB_iff, gK_hU, gL_hU, gR_hU, gIh, gJh, pI_hU, pJ_hU, hU_hU, uI_app, uJ_app, and_true, true_and, and_false, false_and, and_self, true_implies, false_implies, not_true, not_false_iff, if_true, if_false, eq_self, Nat.reduceLeDiff, Nat.reduceEqDiff, reduceCtorEq, i32c, ti0, ti1, tiM, Int.natCast_nonneg, Int.reduceEq, Int.reduceLE, Int.reduceLT, Int.reduceNeg, tl_i, Int32.reduceToInt, Int64.reduceToInt, tiA, tlM6, Int.toNat_natCast, natc, nI_1, Int.zero_sub, implies_true, not_false_eq_true]) (by simp only [↓forall_eq, ↓inB_iff, gK_hU, gL_hU, gR_hU, gIh, gJh, pI_hU, pJ_hU, hU_hU, uI_app, uJ_app, and_true, true_and, and_false, false_and, and_self, true_implies, false_implies, not_true, not_false_iff, if_true, if_false, eq_self, Nat.reduceLeDiff, Nat.reduceEqDiff, reduceCtorEq, i32c, ti0, ti1, tiM, Int.natCast_nonneg, Int.reduceEq, Int.reduceLE, Int.reduceLT, Int.reduceNeg, tl_i, Int32.reduceToInt, Int64.reduceToInt, tiA, tlM6, Int.toNat_natCast, natc, nI_1, Int.zero_sub, implies_true, not_false_eq_true]) hc (by omega) (by rw [uI_ne _ _ _ (by decide), uI_ne _ _ _ (by decide), uI_ne _ _ _ (by decide)]; exact hw) hle (fun hd q hh => ?_) (fun q hh => ?_) ok no
            · rw [hs] at hh ⊢; exact stF_hd hn hh
            · rw [hs] at hh; exact stF_no hn hh
          by_cases s0 : s = 0
          · have s0' : (s : Int) = 0 := by omega
            by_cases a10 : ak = 10
            · have a10' : (ak : Int) = 10 := by omega
              refine w114_109 ?_
              simp only [↓forall_eq, ↓inB_iff, gK_hU, gL_hU, gR_hU, gIh, gJh, pI_hU, pJ_hU, hU_hU, uI_app, uJ_app, and_true, true_and, and_false, false_and, and_self, true_implies, false_implies, not_true, not_false_iff, if_true, if_false, eq_self, Nat.reduceLeDiff, Nat.reduceEqDiff, reduceCtorEq, i32c, ti0, ti1, tiM, Int.natCast_nonneg, Int.reduceEq, Int.reduceLE, Int.reduceLT, Int.reduceNeg, tl_i, Int32.reduceToInt, Int64.reduceToInt, tiA, tlM6, Int.toNat_natCast, natc, nI_1, Int.zero_sub, implies_true, not_false_eq_true, mf.1, mr_15 mf, mk_53 mf, ml_53 mf, mr_16 mf, mk_54 mf, ml_54 mf, mr_17 mf, mk_55 mf, ml_55 mf, mr_18 mf, mk_56 mf, ml_56 mf, mr_19 mf, mk_57 mf, ml_57 mf, mr_20 mf, mk_58 mf, ml_58 mf, mr_21 mf, mk_59 mf, ml_59 mf, mr_22 mf, mk_60 mf, ml_60 mf, mr_23 mf, mk_61 mf, ml_61 mf, mr_24 mf, mk_62 mf, ml_62 mf, nc.1.1, fI, f6', nc.1.2.2.1, cI, Int.lt_irrefl, sI, n1, s0', akI, a10']
              exact bad (by unfold stF; rw [if_pos (Or.inr ⟨by omega, by omega⟩)])
            · have a10' : ¬ (ak : Int) = 10 := by omega
              refine w114_109 ?_
              simp only [↓forall_eq, ↓inB_iff, gK_hU, gL_hU, gR_hU, gIh, gJh, pI_hU, pJ_hU, hU_hU, uI_app, uJ_app, and_true, true_and, and_false, false_and, and_self, true_implies, false_implies, not_true, not_false_iff, if_true, if_false, eq_self, Nat.reduceLeDiff, Nat.reduceEqDiff, reduceCtorEq, i32c, ti0, ti1, tiM, Int.natCast_nonneg, Int.reduceEq, Int.reduceLE, Int.reduceLT, Int.reduceNeg, tl_i, Int32.reduceToInt, Int64.reduceToInt, tiA, tlM6, Int.toNat_natCast, natc, nI_1, Int.zero_sub, implies_true, not_false_eq_true, mf.1, mr_15 mf, mk_53 mf, ml_53 mf, mr_16 mf, mk_54 mf, ml_54 mf, mr_17 mf, mk_55 mf, ml_55 mf, mr_18 mf, mk_56 mf, ml_56 mf, mr_19 mf, mk_57 mf, ml_57 mf, mr_20 mf, mk_58 mf, ml_58 mf, mr_21 mf, mk_59 mf, ml_59 mf, mr_22 mf, mk_60 mf, ml_60 mf, mr_23 mf, mk_61 mf, ml_61 mf, mr_24 mf, mk_62 mf, ml_62 mf, nc.1.1, fI, f6', nc.1.2.2.1, cI, Int.lt_irrefl, sI, n1, s0', akI, a10', kI, k120]
              exact go 1 (by omega) (by rw [if_pos s0])
          · have s0' : ¬ (s : Int) = 0 := by omega
            refine w114_109 ?_
            simp only [↓forall_eq, ↓inB_iff, gK_hU, gL_hU, gR_hU, gIh, gJh, pI_hU, pJ_hU, hU_hU, uI_app, uJ_app, and_true, true_and, and_false, false_and, and_self, true_implies, false_implies, not_true, not_false_iff, if_true, if_false, eq_self, Nat.reduceLeDiff, Nat.reduceEqDiff, reduceCtorEq, i32c, ti0, ti1, tiM, Int.natCast_nonneg, Int.reduceEq, Int.reduceLE, Int.reduceLT, Int.reduceNeg, tl_i, Int32.reduceToInt, Int64.reduceToInt, tiA, tlM6, Int.toNat_natCast, natc, nI_1, Int.zero_sub, implies_true, not_false_eq_true, mf.1, mr_15 mf, mk_53 mf, ml_53 mf, mr_16 mf, mk_54 mf, ml_54 mf, mr_17 mf, mk_55 mf, ml_55 mf, mr_18 mf, mk_56 mf, ml_56 mf, mr_19 mf, mk_57 mf, ml_57 mf, mr_20 mf, mk_58 mf, ml_58 mf, mr_21 mf, mk_59 mf, ml_59 mf, mr_22 mf, mk_60 mf, ml_60 mf, mr_23 mf, mk_61 mf, ml_61 mf, mr_24 mf, mk_62 mf, ml_62 mf, nc.1.1, fI, f6', nc.1.2.2.1, cI, Int.lt_irrefl, sI, n1, s0', kI, k120]
            exact go 0 (by omega) (by rw [if_neg s0])
      have loop : ∀ n j, j + n = cnt → Wp (d + 6) 114 (109, [some (vR 44), some (vI (nI k)), some (vI sc), some (vI (nI (akN (fun i => I0 54 (20 * nf + i)) j))), some (vI (nI j))], [], hU g I0 J0) (RI K X) := by
        intro n
        induction n with
        | zero =>
          intro j hj
          have hjc : j = cnt := by omega
          subst hjc
          rw [hak]; exact fin
        | succ n ih =>
          intro j hj
          have jI : (nI j).toInt = j := ti_n (by omega)
          have jl : (j : Int) < cnt := by omega
          have x1 : (20 : Int32) * nI nf + nI j = nI (20 * nf + j) := by rw [show (20 : Int32) = nI 20 from rfl, nI_mul, nI_add]
          have x2 : (nI (20 * nf + j)).toInt = ((20 * nf + j : Nat) : Int) := ti_n (by omega)
          have x3 : ((20 * nf + j : Nat) : Int) < 120 := by omega
          have nx := ih (j + 1) (by omega)
          rw [akN] at nx
          refine w114_109 ?_
          simp only [↓forall_eq, ↓inB_iff, gK_hU, gL_hU, gR_hU, gIh, gJh, pI_hU, pJ_hU, hU_hU, uI_app, uJ_app, and_true, true_and, and_false, false_and, and_self, true_implies, false_implies, not_true, not_false_iff, if_true, if_false, eq_self, Nat.reduceLeDiff, Nat.reduceEqDiff, reduceCtorEq, i32c, ti0, ti1, tiM, Int.natCast_nonneg, Int.reduceEq, Int.reduceLE, Int.reduceLT, Int.reduceNeg, tl_i, Int32.reduceToInt, Int64.reduceToInt, tiA, tlM6, Int.toNat_natCast, natc, nI_1, Int.zero_sub, implies_true, not_false_eq_true, mf.1, mr_15 mf, mk_53 mf, ml_53 mf, mr_16 mf, mk_54 mf, ml_54 mf, mr_17 mf, mk_55 mf, ml_55 mf, mr_18 mf, mk_56 mf, ml_56 mf, mr_19 mf, mk_57 mf, ml_57 mf, mr_20 mf, mk_58 mf, ml_58 mf, mr_21 mf, mk_59 mf, ml_59 mf, mr_22 mf, mk_60 mf, ml_60 mf, mr_23 mf, mk_61 mf, ml_61 mf, mr_24 mf, mk_62 mf, ml_62 mf, nc.1.1, fI, f6', nc.1.2.2.1, cI, jI, jl, x1, x2, x3]
          refine ⟨fun z => ?_, fun z => ?_⟩
          · rw [if_pos z] at nx; exact nx
          · rw [if_neg z] at nx
            have e0 : nI (akN (fun i => I0 54 (20 * nf + i)) j) + 0 = nI (akN (fun i => I0 54 (20 * nf + i)) j + 0) := by rw [show (0 : Int32) = nI 0 from rfl, nI_add]
            rw [e0]; exact nx
      exact loop cnt 0 (by omega)
    refine m114 ?_
    simp only [↓forall_eq, ↓inB_iff, gK_hU, gL_hU, gR_hU, gIh, gJh, pI_hU, pJ_hU, hU_hU, uI_app, uJ_app, and_true, true_and, and_false, false_and, and_self, true_implies, false_implies, not_true, not_false_iff, if_true, if_false, eq_self, Nat.reduceLeDiff, Nat.reduceEqDiff, reduceCtorEq, i32c, ti0, ti1, tiM, Int.natCast_nonneg, Int.reduceEq, Int.reduceLE, Int.reduceLT, Int.reduceNeg, tl_i, Int32.reduceToInt, Int64.reduceToInt, tiA, tlM6, Int.toNat_natCast, natc, nI_1, Int.zero_sub, implies_true, not_false_eq_true, mf.1, mr_15 mf, mk_53 mf, ml_53 mf, mr_16 mf, mk_54 mf, ml_54 mf, mr_17 mf, mk_55 mf, ml_55 mf, mr_18 mf, mk_56 mf, ml_56 mf, mr_19 mf, mk_57 mf, ml_57 mf, mr_20 mf, mk_58 mf, ml_58 mf, mr_21 mf, mk_59 mf, ml_59 mf, mr_22 mf, mk_60 mf, ml_60 mf, mr_23 mf, mk_61 mf, ml_61 mf, mr_24 mf, mk_62 mf, ml_62 mf, a.1.2.1, qI, z2, nc.1.1, fI, f6', nc.1.2.2.1, cI, c20, kx, a.2.2.2.2.2 ck]
    have sr : ∀ x : Int64, (lxW B L p).toInt = x.toInt → lxW B L p = x := fun x y => Int64.toInt_inj.1 y
    refine ⟨fun y0 => ?_, fun y0 => ⟨fun y1 => ?_, fun y1 => ⟨fun y2 => ?_, fun y2 => ⟨fun y3 => ?_, fun y3 => ?_⟩⟩⟩⟩
    · have e := sr 6386539 y0
      exact s9 0 (by unfold srN; rw [if_pos ⟨ck, e⟩]) 0 (fun z => by omega) (fun _ => rfl)
    · have e := sr 7103860 y1
      exact s9 1 (by unfold srN; rw [if_neg (fun z => y0 (by rw [z.2]; rfl)), if_pos ⟨ck, e⟩]) 1 (fun z => by omega) (fun _ => rfl)
    · have e := sr 1836413812 y2
      exact s9 2 (by unfold srN; rw [if_neg (fun z => y0 (by rw [z.2]; rfl)), if_neg (fun z => y1 (by rw [z.2]; rfl)), if_pos ⟨ck, e⟩]) 2 (fun z => by omega) (fun _ => rfl)
    · have e := sr 2002874990 y3
      exact s9 3 (by unfold srN; rw [if_neg (fun z => y0 (by rw [z.2]; rfl)), if_neg (fun z => y1 (by rw [z.2]; rfl)), if_neg (fun z => y2 (by rw [z.2]; rfl)), if_pos ⟨ck, e⟩]) 3 (fun z => by omega) (fun _ => rfl)
    · exact s9 4 (by unfold srN; rw [if_neg (fun z => y0 (by rw [z.2]; rfl)), if_neg (fun z => y1 (by rw [z.2]; rfl)), if_neg (fun z => y2 (by rw [z.2]; rfl)), if_neg (fun z => y3 (by rw [z.2]; rfl))]) (-1) (fun _ => rfl) (fun z => absurd rfl z)
  · have z2 : ¬ ((kdM (lxK B L p) : Nat) : Int) = 2 := fun z => ck (q2.1 (by omega))
    refine m114 ?_
    simp only [↓forall_eq, ↓inB_iff, gK_hU, gL_hU, gR_hU, gIh, gJh, pI_hU, pJ_hU, hU_hU, uI_app, uJ_app, and_true, true_and, and_false, false_and, and_self, true_implies, false_implies, not_true, not_false_iff, if_true, if_false, eq_self, Nat.reduceLeDiff, Nat.reduceEqDiff, reduceCtorEq, i32c, ti0, ti1, tiM, Int.natCast_nonneg, Int.reduceEq, Int.reduceLE, Int.reduceLT, Int.reduceNeg, tl_i, Int32.reduceToInt, Int64.reduceToInt, tiA, tlM6, Int.toNat_natCast, natc, nI_1, Int.zero_sub, implies_true, not_false_eq_true, mf.1, mr_15 mf, mk_53 mf, ml_53 mf, mr_16 mf, mk_54 mf, ml_54 mf, mr_17 mf, mk_55 mf, ml_55 mf, mr_18 mf, mk_56 mf, ml_56 mf, mr_19 mf, mk_57 mf, ml_57 mf, mr_20 mf, mk_58 mf, ml_58 mf, mr_21 mf, mk_59 mf, ml_59 mf, mr_22 mf, mk_60 mf, ml_60 mf, mr_23 mf, mk_61 mf, ml_61 mf, mr_24 mf, mk_62 mf, ml_62 mf, a.1.2.1, qI, z2]
    refine bad ?_
    have : srN B L p = 4 := by unfold srN; rw [if_neg (fun z => ck z.1), if_neg (fun z => ck z.1), if_neg (fun z => ck z.1), if_neg (fun z => ck z.1)]
    unfold stF; rw [if_pos (Or.inl this)]
end MSC
