/-! SIGNS OF A TEXT: the class goes a sign further -/
section ADV
variable {d L p q s : Nat} {h : aH} {X : Nat → aH → Prop} {B : Nat → Int32} {I : Nat → Nat → Int32} {J : Nat → Nat → Int64} {K : aH → Prop}
/-- the class stands at the sign that is read from p on -/
def atC (I : Nat → Nat → Int32) (J : Nat → Nat → Int64) (B : Nat → Int32) (L p : Nat) : Prop := (I 17 2 = nI (lxE B L p) ∧ I 17 3 = nI (lxK B L p) ∧ I 17 4 = nI (lxS B L p)) ∧ ((lxK B L p = 1 ∨ lxK B L p = 2) → I 17 5 = lxN B L p) ∧ (lxK B L p = 0 → J 17 6 = lxW B L p)
theorem c_sign {v : Int32} (f : CF h) (e2 : I 17 2 = nI s) (kk : ∀ k, k = (if v.toInt = 43 then 3 else if v.toInt = 45 then 4 else if v.toInt = 59 then 5 else 7) → K (hU h (uI (uI I 17 2 (nI (s + 1))) 17 3 (nI k)) J)) : CV d 70 [vR 17, vI v] (hU h I J) K X := by
  have k1 := kk _ rfl
  refine m70 ?_
  simp only [↓forall_eq, ↓inB_iff, gK_hU, gL_hU, gR_hU, gIh, gJh, pI_hU, pJ_hU, hU_hU, uI_app, uJ_app, and_true, true_and, and_false, false_and, and_self, true_implies, false_implies, not_true, not_false_iff, if_true, if_false, eq_self, Nat.reduceLeDiff, Nat.reduceEqDiff, reduceCtorEq, i32c, ti0, ti1, tiM, Int.natCast_nonneg, Int.reduceEq, Int.reduceLE, Int.reduceLT, Int.reduceNeg, tl_i, Int32.reduceToInt, Int64.reduceToInt, tiA, tlM6, Int.toNat_natCast, natc, nI_1, Int.zero_sub, implies_true, not_false_eq_true, ck_17 f, cr_17_0 f, ck_18 f, cl_18 f, e2]
  refine ⟨fun z => ?_, fun z => ?_, fun z => ?_, fun z => ?_⟩
  · rw [if_pos z] at k1; exact k1
  · rw [if_neg (by omega), if_pos z] at k1; exact k1
  · rw [if_neg (by omega), if_neg (by omega), if_pos z] at k1; exact k1
  · rw [if_neg z.1, if_neg z.2.1, if_neg z.2.2] at k1; exact k1
theorem c_rel {v w : Int32} (f : CF h) (t : tpC I B L) (hs : s < L) (e2 : I 17 2 = nI s) (hv : 60 ≤ v.toInt ∧ v.toInt ≤ 62) (hw : w = lxA B L (s + 1)) (kk : ∀ I', fT I I' J J → I' 17 4 = I 17 4 → I' 17 2 = nI (s + rlE v w) → I' 17 3 = 2 → I' 17 5 = rlN v w → K (hU h I' J)) : CV d 69 [vR 17, vI v] (hU h I J) K X := by
  have l12 := t.2.1
  have qI : (nI (s + 1)).toInt = ((s + 1 : Nat) : Int) := ti_n (by omega)
  have LI : (nI L).toInt = L := ti_n (by omega)
  have o1 : (1 : Int32) ||| 2 = 3 := by decide
  have o2 : (1 : Int32) ||| 4 = 5 := by decide
  have o3 : (4 : Int32) ||| 2 = 6 := by decide
  have tail : ∀ (x y : Int32), (v.toInt = 60 → y = 1) → (v.toInt = 61 → y = 2) → (v.toInt = 62 → y = 4) → (x.toInt = 61 ↔ w.toInt = 61) → (x.toInt = 62 ↔ w.toInt = 62) → Wp d 69 (64, [some (vR 17), some (vI v), none], [vI x], hU h (uI (uI (uI I 17 2 (nI (s + 1))) 17 3 2) 17 5 y) J) (RV K X) := fun x y y0 y1 y2 x1 x2 => by
    have u : fT I (uI (uI (uI I 17 2 (nI (s + 1))) 17 3 2) 17 5 y) J J := fT_i (fT_i (fT_i fT_refl (by decide)) (by decide)) (by decide)
    refine w69_64 ?_
    simp only [↓forall_eq, ↓inB_iff, gK_hU, gL_hU, gR_hU, gIh, gJh, pI_hU, pJ_hU, hU_hU, uI_app, uJ_app, and_true, true_and, and_false, false_and, and_self, true_implies, false_implies, not_true, not_false_iff, if_true, if_false, eq_self, Nat.reduceLeDiff, Nat.reduceEqDiff, reduceCtorEq, i32c, ti0, ti1, tiM, Int.natCast_nonneg, Int.reduceEq, Int.reduceLE, Int.reduceLT, Int.reduceNeg, tl_i, Int32.reduceToInt, Int64.reduceToInt, tiA, tlM6, Int.toNat_natCast, natc, nI_1, Int.zero_sub, implies_true, not_false_eq_true, ck_17 f, cr_17_0 f, ck_18 f, cl_18 f]
    refine ⟨fun c1 => ⟨fun c2 => ⟨fun c3 => absurd c3 (by omega), fun c3 => ?_⟩, fun c2 => ?_⟩, fun c1 => ⟨fun c3 => ⟨fun c2 => ?_, fun c2 => ?_⟩, fun c3 => ?_⟩⟩
    · refine kk _ u (by simp only [↓forall_eq, ↓inB_iff, gK_hU, gL_hU, gR_hU, gIh, gJh, pI_hU, pJ_hU, hU_hU, uI_app, uJ_app, and_true, true_and, and_false, false_and, and_self, true_implies, false_implies, not_true, not_false_iff, if_true, if_false, eq_self, Nat.reduceLeDiff, Nat.reduceEqDiff, reduceCtorEq, i32c, ti0, ti1, tiM, Int.natCast_nonneg, Int.reduceEq, Int.reduceLE, Int.reduceLT, Int.reduceNeg, tl_i, Int32.reduceToInt, Int64.reduceToInt, tiA, tlM6, Int.toNat_natCast, natc, nI_1, Int.zero_sub, implies_true, not_false_eq_true]) ?_ (by simp only [↓forall_eq, ↓inB_iff, gK_hU, gL_hU, gR_hU, gIh, gJh, pI_hU, pJ_hU, hU_hU, uI_app, uJ_app, and_true, true_and, and_false, false_and, and_self, true_implies, false_implies, not_true, not_false_iff, if_true, if_false, eq_self, Nat.reduceLeDiff, Nat.reduceEqDiff, reduceCtorEq, i32c, ti0, ti1, tiM, Int.natCast_nonneg, Int.reduceEq, Int.reduceLE, Int.reduceLT, Int.reduceNeg, tl_i, Int32.reduceToInt, Int64.reduceToInt, tiA, tlM6, Int.toNat_natCast, natc, nI_1, Int.zero_sub, implies_true, not_false_eq_true]) ?_
      · simp only [↓forall_eq, ↓inB_iff, gK_hU, gL_hU, gR_hU, gIh, gJh, pI_hU, pJ_hU, hU_hU, uI_app, uJ_app, and_true, true_and, and_false, false_and, and_self, true_implies, false_implies, not_true, not_false_iff, if_true, if_false, eq_self, Nat.reduceLeDiff, Nat.reduceEqDiff, reduceCtorEq, i32c, ti0, ti1, tiM, Int.natCast_nonneg, Int.reduceEq, Int.reduceLE, Int.reduceLT, Int.reduceNeg, tl_i, Int32.reduceToInt, Int64.reduceToInt, tiA, tlM6, Int.toNat_natCast, natc, nI_1, Int.zero_sub, implies_true, not_false_eq_true]; rw [rlE, if_neg (by omega)]
      · simp only [↓forall_eq, ↓inB_iff, gK_hU, gL_hU, gR_hU, gIh, gJh, pI_hU, pJ_hU, hU_hU, uI_app, uJ_app, and_true, true_and, and_false, false_and, and_self, true_implies, false_implies, not_true, not_false_iff, if_true, if_false, eq_self, Nat.reduceLeDiff, Nat.reduceEqDiff, reduceCtorEq, i32c, ti0, ti1, tiM, Int.natCast_nonneg, Int.reduceEq, Int.reduceLE, Int.reduceLT, Int.reduceNeg, tl_i, Int32.reduceToInt, Int64.reduceToInt, tiA, tlM6, Int.toNat_natCast, natc, nI_1, Int.zero_sub, implies_true, not_false_eq_true]; rw [rlN, if_pos c2]; exact y1 c2
    · refine kk _ (fT_i (fT_i u (by decide)) (by decide)) (by simp only [↓forall_eq, ↓inB_iff, gK_hU, gL_hU, gR_hU, gIh, gJh, pI_hU, pJ_hU, hU_hU, uI_app, uJ_app, and_true, true_and, and_false, false_and, and_self, true_implies, false_implies, not_true, not_false_iff, if_true, if_false, eq_self, Nat.reduceLeDiff, Nat.reduceEqDiff, reduceCtorEq, i32c, ti0, ti1, tiM, Int.natCast_nonneg, Int.reduceEq, Int.reduceLE, Int.reduceLT, Int.reduceNeg, tl_i, Int32.reduceToInt, Int64.reduceToInt, tiA, tlM6, Int.toNat_natCast, natc, nI_1, Int.zero_sub, implies_true, not_false_eq_true]) ?_ (by simp only [↓forall_eq, ↓inB_iff, gK_hU, gL_hU, gR_hU, gIh, gJh, pI_hU, pJ_hU, hU_hU, uI_app, uJ_app, and_true, true_and, and_false, false_and, and_self, true_implies, false_implies, not_true, not_false_iff, if_true, if_false, eq_self, Nat.reduceLeDiff, Nat.reduceEqDiff, reduceCtorEq, i32c, ti0, ti1, tiM, Int.natCast_nonneg, Int.reduceEq, Int.reduceLE, Int.reduceLT, Int.reduceNeg, tl_i, Int32.reduceToInt, Int64.reduceToInt, tiA, tlM6, Int.toNat_natCast, natc, nI_1, Int.zero_sub, implies_true, not_false_eq_true]) ?_
      · simp only [↓forall_eq, ↓inB_iff, gK_hU, gL_hU, gR_hU, gIh, gJh, pI_hU, pJ_hU, hU_hU, uI_app, uJ_app, and_true, true_and, and_false, false_and, and_self, true_implies, false_implies, not_true, not_false_iff, if_true, if_false, eq_self, Nat.reduceLeDiff, Nat.reduceEqDiff, reduceCtorEq, i32c, ti0, ti1, tiM, Int.natCast_nonneg, Int.reduceEq, Int.reduceLE, Int.reduceLT, Int.reduceNeg, tl_i, Int32.reduceToInt, Int64.reduceToInt, tiA, tlM6, Int.toNat_natCast, natc, nI_1, Int.zero_sub, implies_true, not_false_eq_true]; rw [rlE, if_pos (by omega)]
      · simp only [↓forall_eq, ↓inB_iff, gK_hU, gL_hU, gR_hU, gIh, gJh, pI_hU, pJ_hU, hU_hU, uI_app, uJ_app, and_true, true_and, and_false, false_and, and_self, true_implies, false_implies, not_true, not_false_iff, if_true, if_false, eq_self, Nat.reduceLeDiff, Nat.reduceEqDiff, reduceCtorEq, i32c, ti0, ti1, tiM, Int.natCast_nonneg, Int.reduceEq, Int.reduceLE, Int.reduceLT, Int.reduceNeg, tl_i, Int32.reduceToInt, Int64.reduceToInt, tiA, tlM6, Int.toNat_natCast, natc, nI_1, Int.zero_sub, implies_true, not_false_eq_true]
        rw [rlN, if_neg c2]
        by_cases c0 : v.toInt = 60
        · rw [if_pos c0, if_pos (x1.1 c1), y0 c0, o1]
        · rw [if_neg c0, if_pos (x1.1 c1), y2 (by omega), o3]
    · refine kk _ (fT_i (fT_i u (by decide)) (by decide)) (by simp only [↓forall_eq, ↓inB_iff, gK_hU, gL_hU, gR_hU, gIh, gJh, pI_hU, pJ_hU, hU_hU, uI_app, uJ_app, and_true, true_and, and_false, false_and, and_self, true_implies, false_implies, not_true, not_false_iff, if_true, if_false, eq_self, Nat.reduceLeDiff, Nat.reduceEqDiff, reduceCtorEq, i32c, ti0, ti1, tiM, Int.natCast_nonneg, Int.reduceEq, Int.reduceLE, Int.reduceLT, Int.reduceNeg, tl_i, Int32.reduceToInt, Int64.reduceToInt, tiA, tlM6, Int.toNat_natCast, natc, nI_1, Int.zero_sub, implies_true, not_false_eq_true]) ?_ (by simp only [↓forall_eq, ↓inB_iff, gK_hU, gL_hU, gR_hU, gIh, gJh, pI_hU, pJ_hU, hU_hU, uI_app, uJ_app, and_true, true_and, and_false, false_and, and_self, true_implies, false_implies, not_true, not_false_iff, if_true, if_false, eq_self, Nat.reduceLeDiff, Nat.reduceEqDiff, reduceCtorEq, i32c, ti0, ti1, tiM, Int.natCast_nonneg, Int.reduceEq, Int.reduceLE, Int.reduceLT, Int.reduceNeg, tl_i, Int32.reduceToInt, Int64.reduceToInt, tiA, tlM6, Int.toNat_natCast, natc, nI_1, Int.zero_sub, implies_true, not_false_eq_true]) ?_
      · simp only [↓forall_eq, ↓inB_iff, gK_hU, gL_hU, gR_hU, gIh, gJh, pI_hU, pJ_hU, hU_hU, uI_app, uJ_app, and_true, true_and, and_false, false_and, and_self, true_implies, false_implies, not_true, not_false_iff, if_true, if_false, eq_self, Nat.reduceLeDiff, Nat.reduceEqDiff, reduceCtorEq, i32c, ti0, ti1, tiM, Int.natCast_nonneg, Int.reduceEq, Int.reduceLE, Int.reduceLT, Int.reduceNeg, tl_i, Int32.reduceToInt, Int64.reduceToInt, tiA, tlM6, Int.toNat_natCast, natc, nI_1, Int.zero_sub, implies_true, not_false_eq_true]; rw [rlE, if_pos (by have := x2.1 c3; omega)]
      · simp only [↓forall_eq, ↓inB_iff, gK_hU, gL_hU, gR_hU, gIh, gJh, pI_hU, pJ_hU, hU_hU, uI_app, uJ_app, and_true, true_and, and_false, false_and, and_self, true_implies, false_implies, not_true, not_false_iff, if_true, if_false, eq_self, Nat.reduceLeDiff, Nat.reduceEqDiff, reduceCtorEq, i32c, ti0, ti1, tiM, Int.natCast_nonneg, Int.reduceEq, Int.reduceLE, Int.reduceLT, Int.reduceNeg, tl_i, Int32.reduceToInt, Int64.reduceToInt, tiA, tlM6, Int.toNat_natCast, natc, nI_1, Int.zero_sub, implies_true, not_false_eq_true]
        have c1' : ¬ w.toInt = 61 := fun z => c1 (x1.2 z)
        rw [rlN, if_neg (by omega), if_pos c2, if_neg c1', if_pos (x2.1 c3), y0 c2, o2]
    · refine kk _ u (by simp only [↓forall_eq, ↓inB_iff, gK_hU, gL_hU, gR_hU, gIh, gJh, pI_hU, pJ_hU, hU_hU, uI_app, uJ_app, and_true, true_and, and_false, false_and, and_self, true_implies, false_implies, not_true, not_false_iff, if_true, if_false, eq_self, Nat.reduceLeDiff, Nat.reduceEqDiff, reduceCtorEq, i32c, ti0, ti1, tiM, Int.natCast_nonneg, Int.reduceEq, Int.reduceLE, Int.reduceLT, Int.reduceNeg, tl_i, Int32.reduceToInt, Int64.reduceToInt, tiA, tlM6, Int.toNat_natCast, natc, nI_1, Int.zero_sub, implies_true, not_false_eq_true]) ?_ (by simp only [↓forall_eq, ↓inB_iff, gK_hU, gL_hU, gR_hU, gIh, gJh, pI_hU, pJ_hU, hU_hU, uI_app, uJ_app, and_true, true_and, and_false, false_and, and_self, true_implies, false_implies, not_true, not_false_iff, if_true, if_false, eq_self, Nat.reduceLeDiff, Nat.reduceEqDiff, reduceCtorEq, i32c, ti0, ti1, tiM, Int.natCast_nonneg, Int.reduceEq, Int.reduceLE, Int.reduceLT, Int.reduceNeg, tl_i, Int32.reduceToInt, Int64.reduceToInt, tiA, tlM6, Int.toNat_natCast, natc, nI_1, Int.zero_sub, implies_true, not_false_eq_true]) ?_
      · simp only [↓forall_eq, ↓inB_iff, gK_hU, gL_hU, gR_hU, gIh, gJh, pI_hU, pJ_hU, hU_hU, uI_app, uJ_app, and_true, true_and, and_false, false_and, and_self, true_implies, false_implies, not_true, not_false_iff, if_true, if_false, eq_self, Nat.reduceLeDiff, Nat.reduceEqDiff, reduceCtorEq, i32c, ti0, ti1, tiM, Int.natCast_nonneg, Int.reduceEq, Int.reduceLE, Int.reduceLT, Int.reduceNeg, tl_i, Int32.reduceToInt, Int64.reduceToInt, tiA, tlM6, Int.toNat_natCast, natc, nI_1, Int.zero_sub, implies_true, not_false_eq_true]; rw [rlE, if_neg (by have := x2.1 c3; omega)]
      · simp only [↓forall_eq, ↓inB_iff, gK_hU, gL_hU, gR_hU, gIh, gJh, pI_hU, pJ_hU, hU_hU, uI_app, uJ_app, and_true, true_and, and_false, false_and, and_self, true_implies, false_implies, not_true, not_false_iff, if_true, if_false, eq_self, Nat.reduceLeDiff, Nat.reduceEqDiff, reduceCtorEq, i32c, ti0, ti1, tiM, Int.natCast_nonneg, Int.reduceEq, Int.reduceLE, Int.reduceLT, Int.reduceNeg, tl_i, Int32.reduceToInt, Int64.reduceToInt, tiA, tlM6, Int.toNat_natCast, natc, nI_1, Int.zero_sub, implies_true, not_false_eq_true]
        have c1' : ¬ w.toInt = 61 := fun z => c1 (x1.2 z)
        by_cases c0 : v.toInt = 61
        · rw [rlN, if_pos c0, y1 c0]
        · rw [rlN, if_neg c0, if_neg c2, if_neg c1', y2 (by omega)]
    · have c1' : ¬ w.toInt = 61 := fun z => c1 (x1.2 z)
      have c3' : ¬ w.toInt = 62 := fun z => c3 (x2.2 z)
      refine kk _ u (by simp only [↓forall_eq, ↓inB_iff, gK_hU, gL_hU, gR_hU, gIh, gJh, pI_hU, pJ_hU, hU_hU, uI_app, uJ_app, and_true, true_and, and_false, false_and, and_self, true_implies, false_implies, not_true, not_false_iff, if_true, if_false, eq_self, Nat.reduceLeDiff, Nat.reduceEqDiff, reduceCtorEq, i32c, ti0, ti1, tiM, Int.natCast_nonneg, Int.reduceEq, Int.reduceLE, Int.reduceLT, Int.reduceNeg, tl_i, Int32.reduceToInt, Int64.reduceToInt, tiA, tlM6, Int.toNat_natCast, natc, nI_1, Int.zero_sub, implies_true, not_false_eq_true]) ?_ (by simp only [↓forall_eq, ↓inB_iff, gK_hU, gL_hU, gR_hU, gIh, gJh, pI_hU, pJ_hU, hU_hU, uI_app, uJ_app, and_true, true_and, and_false, false_and, and_self, true_implies, false_implies, not_true, not_false_iff, if_true, if_false, eq_self, Nat.reduceLeDiff, Nat.reduceEqDiff, reduceCtorEq, i32c, ti0, ti1, tiM, Int.natCast_nonneg, Int.reduceEq, Int.reduceLE, Int.reduceLT, Int.reduceNeg, tl_i, Int32.reduceToInt, Int64.reduceToInt, tiA, tlM6, Int.toNat_natCast, natc, nI_1, Int.zero_sub, implies_true, not_false_eq_true]) ?_
      · simp only [↓forall_eq, ↓inB_iff, gK_hU, gL_hU, gR_hU, gIh, gJh, pI_hU, pJ_hU, hU_hU, uI_app, uJ_app, and_true, true_and, and_false, false_and, and_self, true_implies, false_implies, not_true, not_false_iff, if_true, if_false, eq_self, Nat.reduceLeDiff, Nat.reduceEqDiff, reduceCtorEq, i32c, ti0, ti1, tiM, Int.natCast_nonneg, Int.reduceEq, Int.reduceLE, Int.reduceLT, Int.reduceNeg, tl_i, Int32.reduceToInt, Int64.reduceToInt, tiA, tlM6, Int.toNat_natCast, natc, nI_1, Int.zero_sub, implies_true, not_false_eq_true]; rw [rlE, if_neg (by omega)]
      · simp only [↓forall_eq, ↓inB_iff, gK_hU, gL_hU, gR_hU, gIh, gJh, pI_hU, pJ_hU, hU_hU, uI_app, uJ_app, and_true, true_and, and_false, false_and, and_self, true_implies, false_implies, not_true, not_false_iff, if_true, if_false, eq_self, Nat.reduceLeDiff, Nat.reduceEqDiff, reduceCtorEq, i32c, ti0, ti1, tiM, Int.natCast_nonneg, Int.reduceEq, Int.reduceLE, Int.reduceLT, Int.reduceNeg, tl_i, Int32.reduceToInt, Int64.reduceToInt, tiA, tlM6, Int.toNat_natCast, natc, nI_1, Int.zero_sub, implies_true, not_false_eq_true]
        by_cases c0 : v.toInt = 61
        · rw [rlN, if_pos c0, y1 c0]
        · by_cases c2 : v.toInt = 60
          · rw [rlN, if_neg c0, if_pos c2, if_neg c1', if_neg c3', y0 c2]
          · rw [rlN, if_neg c0, if_neg c2, if_neg c1', y2 (by omega)]
  have z0 : (0 : Int32).toInt = 0 := rfl
  have nxt : s + 1 < L → (((I 18 (s + 1)).toInt = 61 ↔ w.toInt = 61) ∧ ((I 18 (s + 1)).toInt = 62 ↔ w.toInt = 62)) := fun hl => by
    have by' := t.2.2 (s + 1) hl
    rw [hw, lxA, if_pos hl, by'.1]
    rcases cb_i by'.2 with e | e
    · rw [e]; omega
    · omega
  have nx0 : ¬ s + 1 < L → (((0 : Int32).toInt = 61 ↔ w.toInt = 61) ∧ ((0 : Int32).toInt = 62 ↔ w.toInt = 62)) := fun hl => by
    rw [hw, lxA, if_neg hl]; omega
  refine m69 ?_
  simp only [↓forall_eq, ↓inB_iff, gK_hU, gL_hU, gR_hU, gIh, gJh, pI_hU, pJ_hU, hU_hU, uI_app, uJ_app, and_true, true_and, and_false, false_and, and_self, true_implies, false_implies, not_true, not_false_iff, if_true, if_false, eq_self, Nat.reduceLeDiff, Nat.reduceEqDiff, reduceCtorEq, i32c, ti0, ti1, tiM, Int.natCast_nonneg, Int.reduceEq, Int.reduceLE, Int.reduceLT, Int.reduceNeg, tl_i, Int32.reduceToInt, Int64.reduceToInt, tiA, tlM6, Int.toNat_natCast, natc, nI_1, Int.zero_sub, implies_true, not_false_eq_true, ck_17 f, cr_17_0 f, ck_18 f, cl_18 f, e2, t.1, qI, LI]
  have ix : ((s + 1 : Nat) : Int) < L ↔ s + 1 < L := by omega
  have ix2 : s + 1 < L → ((s + 1 : Nat) : Int) < 1200 := by omega
  refine ⟨fun c => ⟨fun z => ⟨ix2 (ix.1 z), ?_⟩, fun z => ?_⟩, fun c => ⟨fun c' => ⟨fun z => ⟨ix2 (ix.1 z), ?_⟩, fun z => ?_⟩, fun c' => ⟨fun z => ⟨ix2 (ix.1 z), ?_⟩, fun z => ?_⟩⟩⟩
  · exact tail _ 1 (fun _ => rfl) (fun z => by omega) (fun z => by omega) (nxt (ix.1 z)).1 (nxt (ix.1 z)).2
  · exact tail 0 1 (fun _ => rfl) (fun z => by omega) (fun z => by omega) (nx0 (fun y => z (ix.2 y))).1 (nx0 (fun y => z (ix.2 y))).2
  · exact tail _ 2 (fun z => by omega) (fun _ => rfl) (fun z => by omega) (nxt (ix.1 z)).1 (nxt (ix.1 z)).2
  · exact tail 0 2 (fun z => by omega) (fun _ => rfl) (fun z => by omega) (nx0 (fun y => z (ix.2 y))).1 (nx0 (fun y => z (ix.2 y))).2
  · exact tail _ 4 (fun z => by omega) (fun z => by omega) (fun _ => rfl) (nxt (ix.1 z)).1 (nxt (ix.1 z)).2
  · exact tail 0 4 (fun z => by omega) (fun z => by omega) (fun _ => rfl) (nx0 (fun y => z (ix.2 y))).1 (nx0 (fun y => z (ix.2 y))).2
/-- behind the blanks -/
theorem c_tak9 (f : CF h) (t : tpC I B L) (hp : p ≤ L) (e2 : I 17 2 = nI (lxS B L p)) (kk : ∀ I' J', fT I I' J J' → atC I' J' B L p → K (hU h I' J')) : Wp (d + 1) 71 (40, [some (vR 17), none], [], hU h I J) (RV K X) := by
  have l12 := t.2.1
  have hs := lxS_b (B := B) hp
  have eE := lxE_d B L p
  have eK := lxK_d B L p
  generalize hS : lxS B L p = s at *
  have sI : (nI s).toInt = s := ti_n (by omega)
  have LI : (nI L).toInt = L := ti_n (by omega)
  have u0 : fT I (uI (uI I 17 4 (nI s)) 17 3 6) J J := fT_i (fT_i fT_refl (by decide)) (by decide)
  by_cases c : s < L
  · have cI : (s : Int) < L := by omega
    have s12 : (s : Int) < 1200 := by omega
    have by' := t.2.2 s c
    rw [if_pos c] at eE
    rw [if_pos c] at eK
    by_cases cl : lxL (B s) = true
    · have ci := lxL_i.1 cl
      have cb : I 18 s = B s := by rw [by'.1]; exact (cb_f _ by'.2).1 (by omega)
      have n1 : ¬ (B s).toInt < 97 := by omega
      have n2 : ¬ 122 < (B s).toInt := by omega
      rw [if_pos cl] at eE eK
      refine w71_40 ?_
      simp only [↓forall_eq, ↓inB_iff, gK_hU, gL_hU, gR_hU, gIh, gJh, pI_hU, pJ_hU, hU_hU, uI_app, uJ_app, and_true, true_and, and_false, false_and, and_self, true_implies, false_implies, not_true, not_false_iff, if_true, if_false, eq_self, Nat.reduceLeDiff, Nat.reduceEqDiff, reduceCtorEq, i32c, ti0, ti1, tiM, Int.natCast_nonneg, Int.reduceEq, Int.reduceLE, Int.reduceLT, Int.reduceNeg, tl_i, Int32.reduceToInt, Int64.reduceToInt, tiA, tlM6, Int.toNat_natCast, natc, nI_1, Int.zero_sub, implies_true, not_false_eq_true, ck_17 f, cr_17_0 f, ck_18 f, cl_18 f, e2, t.1, sI, LI, cI, s12, cb, n1, n2]
      refine m67 ?_
      simp only [↓forall_eq, ↓inB_iff, gK_hU, gL_hU, gR_hU, gIh, gJh, pI_hU, pJ_hU, hU_hU, uI_app, uJ_app, and_true, true_and, and_false, false_and, and_self, true_implies, false_implies, not_true, not_false_iff, if_true, if_false, eq_self, Nat.reduceLeDiff, Nat.reduceEqDiff, reduceCtorEq, i32c, ti0, ti1, tiM, Int.natCast_nonneg, Int.reduceEq, Int.reduceLE, Int.reduceLT, Int.reduceNeg, tl_i, Int32.reduceToInt, Int64.reduceToInt, tiA, tlM6, Int.toNat_natCast, natc, nI_1, Int.zero_sub, implies_true, not_false_eq_true, ck_17 f, cr_17_0 f, ck_18 f, cl_18 f]
      refine c_word (B := B) (L := L) (s := s) f (L - s) s _ _ (by omega) ?_ (Nat.le_refl _) (by simp only [↓forall_eq, ↓inB_iff, gK_hU, gL_hU, gR_hU, gIh, gJh, pI_hU, pJ_hU, hU_hU, uI_app, uJ_app, and_true, true_and, and_false, false_and, and_self, true_implies, false_implies, not_true, not_false_iff, if_true, if_false, eq_self, Nat.reduceLeDiff, Nat.reduceEqDiff, reduceCtorEq, i32c, ti0, ti1, tiM, Int.natCast_nonneg, Int.reduceEq, Int.reduceLE, Int.reduceLT, Int.reduceNeg, tl_i, Int32.reduceToInt, Int64.reduceToInt, tiA, tlM6, Int.toNat_natCast, natc, nI_1, Int.zero_sub, implies_true, not_false_eq_true, e2]) (by simp only [↓forall_eq, ↓inB_iff, gK_hU, gL_hU, gR_hU, gIh, gJh, pI_hU, pJ_hU, hU_hU, uI_app, uJ_app, and_true, true_and, and_false, false_and, and_self, true_implies, false_implies, not_true, not_false_iff, if_true, if_false, eq_self, Nat.reduceLeDiff, Nat.reduceEqDiff, reduceCtorEq, i32c, ti0, ti1, tiM, Int.natCast_nonneg, Int.reduceEq, Int.reduceLE, Int.reduceLT, Int.reduceNeg, tl_i, Int32.reduceToInt, Int64.reduceToInt, tiA, tlM6, Int.toNat_natCast, natc, nI_1, Int.zero_sub, implies_true, not_false_eq_true]) (by simp only [↓forall_eq, ↓inB_iff, gK_hU, gL_hU, gR_hU, gIh, gJh, pI_hU, pJ_hU, hU_hU, uI_app, uJ_app, and_true, true_and, and_false, false_and, and_self, true_implies, false_implies, not_true, not_false_iff, if_true, if_false, eq_self, Nat.reduceLeDiff, Nat.reduceEqDiff, reduceCtorEq, i32c, ti0, ti1, tiM, Int.natCast_nonneg, Int.reduceEq, Int.reduceLE, Int.reduceLT, Int.reduceNeg, tl_i, Int32.reduceToInt, Int64.reduceToInt, tiA, tlM6, Int.toNat_natCast, natc, nI_1, Int.zero_sub, implies_true, not_false_eq_true]; rw [Nat.sub_self, lxV]) (fun I' J' u x4 x2 x3 x6 => ?_)
      · exact tpC_fT t u0
      · refine kk I' J' (fT_tr (fT_j u0) u) ⟨⟨by rw [x2, eE], by rw [x3, eK, eE], by rw [hS]; exact x4⟩, fun z => ?_, fun _ => ?_⟩
        · rw [eK] at z; split at z <;> omega
        · rw [x6, lxW, hS, eE]
    · rw [if_neg cl] at eE eK
      have cl' : ¬ (97 ≤ (B s).toInt ∧ (B s).toInt ≤ 122) := fun z => cl (lxL_i.2 z)
      -- to the next question
      have go : ∀ v : Int32, v = I 18 s → Wp (d + 1) 71 (95, [some (vR 17), some (vI v)], [], hU h (uI (uI I 17 4 (nI s)) 17 3 6) J) (RV K X) → Wp (d + 1) 71 (40, [some (vR 17), none], [], hU h I J) (RV K X) := fun v hv w => by
        subst hv
        have nn : (I 18 s).toInt < 97 ∨ 122 < (I 18 s).toInt := by
          rw [by'.1]
          rcases cb_i by'.2 with e | e
          · rw [e]; omega
          · omega
        refine w71_40 ?_
        simp only [↓forall_eq, ↓inB_iff, gK_hU, gL_hU, gR_hU, gIh, gJh, pI_hU, pJ_hU, hU_hU, uI_app, uJ_app, and_true, true_and, and_false, false_and, and_self, true_implies, false_implies, not_true, not_false_iff, if_true, if_false, eq_self, Nat.reduceLeDiff, Nat.reduceEqDiff, reduceCtorEq, i32c, ti0, ti1, tiM, Int.natCast_nonneg, Int.reduceEq, Int.reduceLE, Int.reduceLT, Int.reduceNeg, tl_i, Int32.reduceToInt, Int64.reduceToInt, tiA, tlM6, Int.toNat_natCast, natc, nI_1, Int.zero_sub, implies_true, not_false_eq_true, ck_17 f, cr_17_0 f, ck_18 f, cl_18 f, e2, t.1, sI, LI, cI, s12]
        exact ⟨fun _ => w, fun z => ⟨fun _ => w, fun z2 => absurd nn (by omega)⟩⟩
      refine go _ rfl ?_
      by_cases cd : lxD (B s) = true
      · have ci := lxD_i.1 cd
        have cb : I 18 s = B s := by rw [by'.1]; exact (cb_f _ by'.2).1 (by omega)
        have n1 : ¬ (B s).toInt < 48 := by omega
        have n2 : ¬ 57 < (B s).toInt := by omega
        rw [if_pos cd] at eE eK
        refine w71_95 ?_
        simp only [↓forall_eq, ↓inB_iff, gK_hU, gL_hU, gR_hU, gIh, gJh, pI_hU, pJ_hU, hU_hU, uI_app, uJ_app, and_true, true_and, and_false, false_and, and_self, true_implies, false_implies, not_true, not_false_iff, if_true, if_false, eq_self, Nat.reduceLeDiff, Nat.reduceEqDiff, reduceCtorEq, i32c, ti0, ti1, tiM, Int.natCast_nonneg, Int.reduceEq, Int.reduceLE, Int.reduceLT, Int.reduceNeg, tl_i, Int32.reduceToInt, Int64.reduceToInt, tiA, tlM6, Int.toNat_natCast, natc, nI_1, Int.zero_sub, implies_true, not_false_eq_true, ck_17 f, cr_17_0 f, ck_18 f, cl_18 f, cb, n1, n2]
        refine m68 ?_
        simp only [↓forall_eq, ↓inB_iff, gK_hU, gL_hU, gR_hU, gIh, gJh, pI_hU, pJ_hU, hU_hU, uI_app, uJ_app, and_true, true_and, and_false, false_and, and_self, true_implies, false_implies, not_true, not_false_iff, if_true, if_false, eq_self, Nat.reduceLeDiff, Nat.reduceEqDiff, reduceCtorEq, i32c, ti0, ti1, tiM, Int.natCast_nonneg, Int.reduceEq, Int.reduceLE, Int.reduceLT, Int.reduceNeg, tl_i, Int32.reduceToInt, Int64.reduceToInt, tiA, tlM6, Int.toNat_natCast, natc, nI_1, Int.zero_sub, implies_true, not_false_eq_true, ck_17 f, cr_17_0 f, ck_18 f, cl_18 f]
        refine c_num (B := B) (L := L) (s := s) f (L - s) s _ (by omega) ?_ (Nat.le_refl _) (by simp only [↓forall_eq, ↓inB_iff, gK_hU, gL_hU, gR_hU, gIh, gJh, pI_hU, pJ_hU, hU_hU, uI_app, uJ_app, and_true, true_and, and_false, false_and, and_self, true_implies, false_implies, not_true, not_false_iff, if_true, if_false, eq_self, Nat.reduceLeDiff, Nat.reduceEqDiff, reduceCtorEq, i32c, ti0, ti1, tiM, Int.natCast_nonneg, Int.reduceEq, Int.reduceLE, Int.reduceLT, Int.reduceNeg, tl_i, Int32.reduceToInt, Int64.reduceToInt, tiA, tlM6, Int.toNat_natCast, natc, nI_1, Int.zero_sub, implies_true, not_false_eq_true, e2]) (by simp only [↓forall_eq, ↓inB_iff, gK_hU, gL_hU, gR_hU, gIh, gJh, pI_hU, pJ_hU, hU_hU, uI_app, uJ_app, and_true, true_and, and_false, false_and, and_self, true_implies, false_implies, not_true, not_false_iff, if_true, if_false, eq_self, Nat.reduceLeDiff, Nat.reduceEqDiff, reduceCtorEq, i32c, ti0, ti1, tiM, Int.natCast_nonneg, Int.reduceEq, Int.reduceLE, Int.reduceLT, Int.reduceNeg, tl_i, Int32.reduceToInt, Int64.reduceToInt, tiA, tlM6, Int.toNat_natCast, natc, nI_1, Int.zero_sub, implies_true, not_false_eq_true]) (by simp only [↓forall_eq, ↓inB_iff, gK_hU, gL_hU, gR_hU, gIh, gJh, pI_hU, pJ_hU, hU_hU, uI_app, uJ_app, and_true, true_and, and_false, false_and, and_self, true_implies, false_implies, not_true, not_false_iff, if_true, if_false, eq_self, Nat.reduceLeDiff, Nat.reduceEqDiff, reduceCtorEq, i32c, ti0, ti1, tiM, Int.natCast_nonneg, Int.reduceEq, Int.reduceLE, Int.reduceLT, Int.reduceNeg, tl_i, Int32.reduceToInt, Int64.reduceToInt, tiA, tlM6, Int.toNat_natCast, natc, nI_1, Int.zero_sub, implies_true, not_false_eq_true]; rw [Nat.sub_self, lxC]) (fun I' u x4 x2 x3 x6 => ?_)
        · exact tpC_fT t (fT_i u0 (by decide))
        · refine kk I' J (fT_tr (fT_i u0 (by decide)) u) ⟨⟨by rw [x2, eE], by rw [x3, eK, eE], by rw [hS]; exact x4⟩, fun z => ?_, fun z => ?_⟩
          · rw [x6, lxN, hS, if_pos cd, eE]
          · rw [eK] at z; split at z <;> omega
      · rw [if_neg cd] at eE eK
        have cd' : ¬ (48 ≤ (B s).toInt ∧ (B s).toInt ≤ 57) := fun z => cd (lxD_i.2 z)
        have nn : (I 18 s).toInt < 48 ∨ 57 < (I 18 s).toInt := by
          rw [by'.1]
          rcases cb_i by'.2 with e | e
          · rw [e]; omega
          · omega
        refine w71_95 ?_
        have nxt : Wp (d + 1) 71 (114, [some (vR 17), some (vI (I 18 s))], [], hU h (uI (uI I 17 4 (nI s)) 17 3 6) J) (RV K X) := by
          by_cases cr : 60 ≤ (B s).toInt ∧ (B s).toInt ≤ 62
          · have cb : I 18 s = B s := by rw [by'.1]; exact (cb_f _ by'.2).1 (by omega)
            have n1 : ¬ (B s).toInt < 60 := by omega
            have n2 : ¬ 62 < (B s).toInt := by omega
            rw [if_pos cr] at eE eK
            refine w71_114 ?_
            simp only [↓forall_eq, ↓inB_iff, gK_hU, gL_hU, gR_hU, gIh, gJh, pI_hU, pJ_hU, hU_hU, uI_app, uJ_app, and_true, true_and, and_false, false_and, and_self, true_implies, false_implies, not_true, not_false_iff, if_true, if_false, eq_self, Nat.reduceLeDiff, Nat.reduceEqDiff, reduceCtorEq, i32c, ti0, ti1, tiM, Int.natCast_nonneg, Int.reduceEq, Int.reduceLE, Int.reduceLT, Int.reduceNeg, tl_i, Int32.reduceToInt, Int64.reduceToInt, tiA, tlM6, Int.toNat_natCast, natc, nI_1, Int.zero_sub, implies_true, not_false_eq_true, ck_17 f, cr_17_0 f, ck_18 f, cl_18 f, cb, n1, n2]
            refine c_rel (s := s) (w := lxA B L (s + 1)) f (tpC_fT t u0) c (by simp only [↓forall_eq, ↓inB_iff, gK_hU, gL_hU, gR_hU, gIh, gJh, pI_hU, pJ_hU, hU_hU, uI_app, uJ_app, and_true, true_and, and_false, false_and, and_self, true_implies, false_implies, not_true, not_false_iff, if_true, if_false, eq_self, Nat.reduceLeDiff, Nat.reduceEqDiff, reduceCtorEq, i32c, ti0, ti1, tiM, Int.natCast_nonneg, Int.reduceEq, Int.reduceLE, Int.reduceLT, Int.reduceNeg, tl_i, Int32.reduceToInt, Int64.reduceToInt, tiA, tlM6, Int.toNat_natCast, natc, nI_1, Int.zero_sub, implies_true, not_false_eq_true, e2]) cr rfl (fun I' u x4 x2 x3 x5 => ?_)
            refine kk I' J (fT_tr u0 u) ⟨⟨by rw [x2, eE], by rw [x3, eK]; rfl, by rw [hS, x4]; simp only [↓forall_eq, ↓inB_iff, gK_hU, gL_hU, gR_hU, gIh, gJh, pI_hU, pJ_hU, hU_hU, uI_app, uJ_app, and_true, true_and, and_false, false_and, and_self, true_implies, false_implies, not_true, not_false_iff, if_true, if_false, eq_self, Nat.reduceLeDiff, Nat.reduceEqDiff, reduceCtorEq, i32c, ti0, ti1, tiM, Int.natCast_nonneg, Int.reduceEq, Int.reduceLE, Int.reduceLT, Int.reduceNeg, tl_i, Int32.reduceToInt, Int64.reduceToInt, tiA, tlM6, Int.toNat_natCast, natc, nI_1, Int.zero_sub, implies_true, not_false_eq_true]⟩, fun z => ?_, fun z => by omega⟩
            rw [x5, lxN, hS, if_neg cd]
          · rw [if_neg cr] at eE eK
            have k9 : lxK B L p = 3 ∨ lxK B L p = 4 ∨ lxK B L p = 5 ∨ lxK B L p = 7 := by
              rw [eK]
              by_cases x1 : (B s).toInt = 43
              · rw [if_pos x1]; omega
              · rw [if_neg x1]
                by_cases x2 : (B s).toInt = 45
                · rw [if_pos x2]; omega
                · rw [if_neg x2]
                  by_cases x3 : (B s).toInt = 59
                  · rw [if_pos x3]; omega
                  · rw [if_neg x3]; omega
            have sg : CV d 70 [vR 17, vI (I 18 s)] (hU h (uI (uI I 17 4 (nI s)) 17 3 6) J) (fun h0 => K h0) X := by
              refine c_sign (s := s) f (by simp only [↓forall_eq, ↓inB_iff, gK_hU, gL_hU, gR_hU, gIh, gJh, pI_hU, pJ_hU, hU_hU, uI_app, uJ_app, and_true, true_and, and_false, false_and, and_self, true_implies, false_implies, not_true, not_false_iff, if_true, if_false, eq_self, Nat.reduceLeDiff, Nat.reduceEqDiff, reduceCtorEq, i32c, ti0, ti1, tiM, Int.natCast_nonneg, Int.reduceEq, Int.reduceLE, Int.reduceLT, Int.reduceNeg, tl_i, Int32.reduceToInt, Int64.reduceToInt, tiA, tlM6, Int.toNat_natCast, natc, nI_1, Int.zero_sub, implies_true, not_false_eq_true, e2]) (fun k hk => ?_)
              have ek : k = lxK B L p := by
                rw [hk, eK, by'.1]
                rcases cb_i by'.2 with e | e
                · rw [e]
                · rw [if_neg (by omega), if_neg (by omega), if_neg (by omega), if_neg (by omega), if_neg (by omega), if_neg (by omega)]
              refine kk _ J (fT_i (fT_i u0 (by decide)) (by decide)) ⟨⟨by simp only [↓forall_eq, ↓inB_iff, gK_hU, gL_hU, gR_hU, gIh, gJh, pI_hU, pJ_hU, hU_hU, uI_app, uJ_app, and_true, true_and, and_false, false_and, and_self, true_implies, false_implies, not_true, not_false_iff, if_true, if_false, eq_self, Nat.reduceLeDiff, Nat.reduceEqDiff, reduceCtorEq, i32c, ti0, ti1, tiM, Int.natCast_nonneg, Int.reduceEq, Int.reduceLE, Int.reduceLT, Int.reduceNeg, tl_i, Int32.reduceToInt, Int64.reduceToInt, tiA, tlM6, Int.toNat_natCast, natc, nI_1, Int.zero_sub, implies_true, not_false_eq_true]; rw [eE], by simp only [↓forall_eq, ↓inB_iff, gK_hU, gL_hU, gR_hU, gIh, gJh, pI_hU, pJ_hU, hU_hU, uI_app, uJ_app, and_true, true_and, and_false, false_and, and_self, true_implies, false_implies, not_true, not_false_iff, if_true, if_false, eq_self, Nat.reduceLeDiff, Nat.reduceEqDiff, reduceCtorEq, i32c, ti0, ti1, tiM, Int.natCast_nonneg, Int.reduceEq, Int.reduceLE, Int.reduceLT, Int.reduceNeg, tl_i, Int32.reduceToInt, Int64.reduceToInt, tiA, tlM6, Int.toNat_natCast, natc, nI_1, Int.zero_sub, implies_true, not_false_eq_true]; rw [ek], by rw [hS]; simp only [↓forall_eq, ↓inB_iff, gK_hU, gL_hU, gR_hU, gIh, gJh, pI_hU, pJ_hU, hU_hU, uI_app, uJ_app, and_true, true_and, and_false, false_and, and_self, true_implies, false_implies, not_true, not_false_iff, if_true, if_false, eq_self, Nat.reduceLeDiff, Nat.reduceEqDiff, reduceCtorEq, i32c, ti0, ti1, tiM, Int.natCast_nonneg, Int.reduceEq, Int.reduceLE, Int.reduceLT, Int.reduceNeg, tl_i, Int32.reduceToInt, Int64.reduceToInt, tiA, tlM6, Int.toNat_natCast, natc, nI_1, Int.zero_sub, implies_true, not_false_eq_true]⟩, fun z => ?_, fun z => ?_⟩
              · exfalso; have := k9; omega
              · exfalso; have := k9; omega
            refine w71_114 ?_
            simp only [↓forall_eq, ↓inB_iff, gK_hU, gL_hU, gR_hU, gIh, gJh, pI_hU, pJ_hU, hU_hU, uI_app, uJ_app, and_true, true_and, and_false, false_and, and_self, true_implies, false_implies, not_true, not_false_iff, if_true, if_false, eq_self, Nat.reduceLeDiff, Nat.reduceEqDiff, reduceCtorEq, i32c, ti0, ti1, tiM, Int.natCast_nonneg, Int.reduceEq, Int.reduceLE, Int.reduceLT, Int.reduceNeg, tl_i, Int32.reduceToInt, Int64.reduceToInt, tiA, tlM6, Int.toNat_natCast, natc, nI_1, Int.zero_sub, implies_true, not_false_eq_true, ck_17 f, cr_17_0 f, ck_18 f, cl_18 f]
            refine ⟨fun _ => sg, fun z1 => ⟨fun _ => sg, fun z2 => absurd ?_ cr⟩⟩
            rw [by'.1] at z1 z2
            rcases cb_i by'.2 with e | e
            · rw [e] at z1 z2; omega
            · omega
        exact ⟨fun _ => nxt, fun z => ⟨fun _ => nxt, fun z2 => absurd nn (by omega)⟩⟩
  · have cI : ¬ (s : Int) < L := by omega
    rw [if_neg c] at eE
    rw [if_neg c] at eK
    refine w71_40 ?_
    simp only [↓forall_eq, ↓inB_iff, gK_hU, gL_hU, gR_hU, gIh, gJh, pI_hU, pJ_hU, hU_hU, uI_app, uJ_app, and_true, true_and, and_false, false_and, and_self, true_implies, false_implies, not_true, not_false_iff, if_true, if_false, eq_self, Nat.reduceLeDiff, Nat.reduceEqDiff, reduceCtorEq, i32c, ti0, ti1, tiM, Int.natCast_nonneg, Int.reduceEq, Int.reduceLE, Int.reduceLT, Int.reduceNeg, tl_i, Int32.reduceToInt, Int64.reduceToInt, tiA, tlM6, Int.toNat_natCast, natc, nI_1, Int.zero_sub, implies_true, not_false_eq_true, ck_17 f, cr_17_0 f, ck_18 f, cl_18 f, e2, t.1, sI, LI, cI]
    refine kk _ J u0 ⟨⟨by simp only [↓forall_eq, ↓inB_iff, gK_hU, gL_hU, gR_hU, gIh, gJh, pI_hU, pJ_hU, hU_hU, uI_app, uJ_app, and_true, true_and, and_false, false_and, and_self, true_implies, false_implies, not_true, not_false_iff, if_true, if_false, eq_self, Nat.reduceLeDiff, Nat.reduceEqDiff, reduceCtorEq, i32c, ti0, ti1, tiM, Int.natCast_nonneg, Int.reduceEq, Int.reduceLE, Int.reduceLT, Int.reduceNeg, tl_i, Int32.reduceToInt, Int64.reduceToInt, tiA, tlM6, Int.toNat_natCast, natc, nI_1, Int.zero_sub, implies_true, not_false_eq_true, e2]; rw [eE], by simp only [↓forall_eq, ↓inB_iff, gK_hU, gL_hU, gR_hU, gIh, gJh, pI_hU, pJ_hU, hU_hU, uI_app, uJ_app, and_true, true_and, and_false, false_and, and_self, true_implies, false_implies, not_true, not_false_iff, if_true, if_false, eq_self, Nat.reduceLeDiff, Nat.reduceEqDiff, reduceCtorEq, i32c, ti0, ti1, tiM, Int.natCast_nonneg, Int.reduceEq, Int.reduceLE, Int.reduceLT, Int.reduceNeg, tl_i, Int32.reduceToInt, Int64.reduceToInt, tiA, tlM6, Int.toNat_natCast, natc, nI_1, Int.zero_sub, implies_true, not_false_eq_true]; rw [eK]; rfl, by rw [hS]; simp only [↓forall_eq, ↓inB_iff, gK_hU, gL_hU, gR_hU, gIh, gJh, pI_hU, pJ_hU, hU_hU, uI_app, uJ_app, and_true, true_and, and_false, false_and, and_self, true_implies, false_implies, not_true, not_false_iff, if_true, if_false, eq_self, Nat.reduceLeDiff, Nat.reduceEqDiff, reduceCtorEq, i32c, ti0, ti1, tiM, Int.natCast_nonneg, Int.reduceEq, Int.reduceLE, Int.reduceLT, Int.reduceNeg, tl_i, Int32.reduceToInt, Int64.reduceToInt, tiA, tlM6, Int.toNat_natCast, natc, nI_1, Int.zero_sub, implies_true, not_false_eq_true]⟩, fun z => by omega, fun z => by omega⟩
theorem c_adv (f : CF h) (t : tpC I B L) (hp : p ≤ L) (e2 : I 17 2 = nI p) (kk : ∀ I' J', fT I I' J J' → atC I' J' B L p → K (hU h I' J')) : CV (d + 1) 71 [vR 17] (hU h I J) K X := by
  have l12 := t.2.1
  have LI : (nI L).toInt = L := ti_n (by omega)
  have loop : ∀ (n q : Nat) (I1 : Nat → Nat → Int32), q + n = L → fT I I1 J J → I1 17 2 = nI q → lxR B L lxB q = lxS B L p → Wp (d + 1) 71 (0, [some (vR 17), none], [], hU h I1 J) (RV K X) := by
    intro n
    induction n with
    | zero =>
      intro q I1 hq u e hr
      have hqc : q = L := by omega
      rw [lxR_end (by omega)] at hr
      have t1 := tpC_fT t u
      subst hqc
      refine w71_0 ?_
      simp only [↓forall_eq, ↓inB_iff, gK_hU, gL_hU, gR_hU, gIh, gJh, pI_hU, pJ_hU, hU_hU, uI_app, uJ_app, and_true, true_and, and_false, false_and, and_self, true_implies, false_implies, not_true, not_false_iff, if_true, if_false, eq_self, Nat.reduceLeDiff, Nat.reduceEqDiff, reduceCtorEq, i32c, ti0, ti1, tiM, Int.natCast_nonneg, Int.reduceEq, Int.reduceLE, Int.reduceLT, Int.reduceNeg, tl_i, Int32.reduceToInt, Int64.reduceToInt, tiA, tlM6, Int.toNat_natCast, natc, nI_1, Int.zero_sub, implies_true, not_false_eq_true, ck_17 f, cr_17_0 f, ck_18 f, cl_18 f, e, t1.1, LI, Int.lt_irrefl]
      exact c_tak9 f t1 hp (by rw [e]; exact congrArg nI hr) (fun I' J' v => kk I' J' (fT_tr u v))
    | succ n ih =>
      intro q I1 hq u e hr
      have t1 := tpC_fT t u
      have qI : (nI q).toInt = q := ti_n (by omega)
      have ql : (q : Int) < L := by omega
      have q12 : (q : Int) < 1200 := by omega
      have by' := t1.2.2 q (by omega)
      refine w71_0 ?_
      simp only [↓forall_eq, ↓inB_iff, gK_hU, gL_hU, gR_hU, gIh, gJh, pI_hU, pJ_hU, hU_hU, uI_app, uJ_app, and_true, true_and, and_false, false_and, and_self, true_implies, false_implies, not_true, not_false_iff, if_true, if_false, eq_self, Nat.reduceLeDiff, Nat.reduceEqDiff, reduceCtorEq, i32c, ti0, ti1, tiM, Int.natCast_nonneg, Int.reduceEq, Int.reduceLE, Int.reduceLT, Int.reduceNeg, tl_i, Int32.reduceToInt, Int64.reduceToInt, tiA, tlM6, Int.toNat_natCast, natc, nI_1, Int.zero_sub, implies_true, not_false_eq_true, ck_17 f, cr_17_0 f, ck_18 f, cl_18 f, e, t1.1, qI, LI, ql, q12]
      by_cases c : lxB (B q) = true
      · have ci := lxB_i.1 c
        have cb : I1 18 q = B q := by rw [by'.1]; exact (cb_f _ by'.2).1 (by omega)
        rw [lxR_go (by omega) c] at hr
        have go : Wp (d + 1) 71 (0, [some (vR 17), none], [], hU h (uI I1 17 2 (nI (q + 1))) J) (RV K X) := ih (q + 1) _ (by omega) (fT_i u (by decide)) (by simp only [↓forall_eq, ↓inB_iff, gK_hU, gL_hU, gR_hU, gIh, gJh, pI_hU, pJ_hU, hU_hU, uI_app, uJ_app, and_true, true_and, and_false, false_and, and_self, true_implies, false_implies, not_true, not_false_iff, if_true, if_false, eq_self, Nat.reduceLeDiff, Nat.reduceEqDiff, reduceCtorEq, i32c, ti0, ti1, tiM, Int.natCast_nonneg, Int.reduceEq, Int.reduceLE, Int.reduceLT, Int.reduceNeg, tl_i, Int32.reduceToInt, Int64.reduceToInt, tiA, tlM6, Int.toNat_natCast, natc, nI_1, Int.zero_sub, implies_true, not_false_eq_true]) hr
        refine m66 ?_
        simp only [↓forall_eq, ↓inB_iff, gK_hU, gL_hU, gR_hU, gIh, gJh, pI_hU, pJ_hU, hU_hU, uI_app, uJ_app, and_true, true_and, and_false, false_and, and_self, true_implies, false_implies, not_true, not_false_iff, if_true, if_false, eq_self, Nat.reduceLeDiff, Nat.reduceEqDiff, reduceCtorEq, i32c, ti0, ti1, tiM, Int.natCast_nonneg, Int.reduceEq, Int.reduceLE, Int.reduceLT, Int.reduceNeg, tl_i, Int32.reduceToInt, Int64.reduceToInt, tiA, tlM6, Int.toNat_natCast, natc, nI_1, Int.zero_sub, implies_true, not_false_eq_true, ck_17 f, cr_17_0 f, ck_18 f, cl_18 f, cb, e]
        refine ⟨fun _ => go, fun z1 => ⟨fun _ => go, fun z2 => ⟨fun _ => go, fun z3 => ⟨fun _ => go, fun z4 => absurd ci (by omega)⟩⟩⟩⟩
      · rw [lxR_no c] at hr
        have ci : ¬ ((B q).toInt = 9 ∨ (B q).toInt = 10 ∨ (B q).toInt = 13 ∨ (B q).toInt = 32) := fun z => c (lxB_i.2 z)
        have stp' : Wp (d + 1) 71 (40, [some (vR 17), none], [], hU h I1 J) (RV K X) := c_tak9 f t1 hp (by rw [e, hr]) (fun I' J' v => kk I' J' (fT_tr u v))
        have nn : ¬ (I1 18 q).toInt = 9 ∧ ¬ (I1 18 q).toInt = 10 ∧ ¬ (I1 18 q).toInt = 13 ∧ ¬ (I1 18 q).toInt = 32 := by
          rw [by'.1]
          rcases cb_i by'.2 with e | e
          · rw [e]; omega
          · omega
        refine m66 ?_
        simp only [↓forall_eq, ↓inB_iff, gK_hU, gL_hU, gR_hU, gIh, gJh, pI_hU, pJ_hU, hU_hU, uI_app, uJ_app, and_true, true_and, and_false, false_and, and_self, true_implies, false_implies, not_true, not_false_iff, if_true, if_false, eq_self, Nat.reduceLeDiff, Nat.reduceEqDiff, reduceCtorEq, i32c, ti0, ti1, tiM, Int.natCast_nonneg, Int.reduceEq, Int.reduceLE, Int.reduceLT, Int.reduceNeg, tl_i, Int32.reduceToInt, Int64.reduceToInt, tiA, tlM6, Int.toNat_natCast, natc, nI_1, Int.zero_sub, implies_true, not_false_eq_true, ck_17 f, cr_17_0 f, ck_18 f, cl_18 f, nn]
        exact stp'
  exact m71 (loop (L - p) p I (by omega) fT_refl e2 rfl)
end ADV
