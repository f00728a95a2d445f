/-! READING A TEXT: the class reads a term -/
section RTM
variable {d L p q w cnt e : Nat} {h : aH} {X : Nat → aH → Prop} {B : Nat → Int32} {I I' : Nat → Nat → Int32} {J J' : Nat → Nat → Int64} {nam : Nat → Int64} {F0 F1 F2 F7 : Nat}
theorem isAt_br {K : Int32 → aH → Prop} {x : Int64} (f : CF h) (a : atC I J B L p) : CI d 73 [vR 17, vL x] (hU h I J) K X ↔ ((lxK B L p = 0 ∧ lxW B L p = x → K 1 (hU h I J)) ∧ (¬ (lxK B L p = 0 ∧ lxW B L p = x) → K 0 (hU h I J))) := by
  have kl := lxK_le (B := B) (L := L) (p := p)
  have kI : (nI (lxK B L p)).toInt = lxK B L p := ti_n (by omega)
  by_cases c : lxK B L p = 0 ∧ lxW B L p = x
  · rw [bz_t c]
    refine CI_iff fun K X w => m73 ?_
    have z : ((lxK B L p : Nat) : Int) = 0 := by omega
    simp only [↓forall_eq, ↓inB_iff, gK_hU, gL_hU, gR_hU, gIh, gJh, pI_hU, pJ_hU, hU_hU, uI_app, uJ_app, and_true, true_and, and_false, false_and, and_self, true_implies, false_implies, not_true, not_false_iff, if_true, if_false, eq_self, Nat.reduceLeDiff, Nat.reduceEqDiff, reduceCtorEq, i32c, ti0, ti1, tiM, Int.natCast_nonneg, Int.reduceEq, Int.reduceLE, Int.reduceLT, Int.reduceNeg, tl_i, Int32.reduceToInt, Int64.reduceToInt, tiA, tlM6, Int.toNat_natCast, natc, nI_1, Int.zero_sub, implies_true, not_false_eq_true, ck_17 f, a.1.2.1, kI, z, a.2.2 c.1, c.2]
    exact w
  · rw [bz_f c]
    refine CI_iff fun K X w => m73 ?_
    simp only [↓forall_eq, ↓inB_iff, gK_hU, gL_hU, gR_hU, gIh, gJh, pI_hU, pJ_hU, hU_hU, uI_app, uJ_app, and_true, true_and, and_false, false_and, and_self, true_implies, false_implies, not_true, not_false_iff, if_true, if_false, eq_self, Nat.reduceLeDiff, Nat.reduceEqDiff, reduceCtorEq, i32c, ti0, ti1, tiM, Int.natCast_nonneg, Int.reduceEq, Int.reduceLE, Int.reduceLT, Int.reduceNeg, tl_i, Int32.reduceToInt, Int64.reduceToInt, tiA, tlM6, Int.toNat_natCast, natc, nI_1, Int.zero_sub, implies_true, not_false_eq_true, ck_17 f, a.1.2.1, kI]
    refine ⟨fun z => ⟨fun y => absurd ⟨by omega, ?_⟩ c, fun _ => w⟩, fun _ => w⟩
    rw [a.2.2 (by omega)] at y
    exact Int64.toInt_inj.1 y
theorem sg_mul (sg : Bool) (n : Int32) : sgI sg * n = cAm (sg, 0, n) ∧ -sgI sg * n = cAm (sg, 0, -n) := by
  unfold sgI cAm
  cases sg
  · simp only [if_true, Bool.false_eq_true, if_false, Int32.one_mul, Int32.neg_mul, and_self]
  · simp only [if_true, Int32.one_mul, Int32.neg_mul, Int32.neg_neg, and_self]
theorem tOK_0 {sg : Bool} {v : Int32} (h : -999999 ≤ v.toInt ∧ v.toInt ≤ 999999) : tOK (sg, 0, v) := ⟨by show 0 ≤ 2; omega, fun _ => h, fun z => absurd z (by show ¬ (0 = 1); omega), fun z => absurd z (by show ¬ (0 = 2); omega)⟩
theorem cAm_n {sg : Bool} {s : Nat} {v : Int32} (hs : s ≠ 0) : v = cAm (sg, s, v) := by unfold cAm; rw [if_neg hs]
theorem c_rterm {K : Int32 → aH → Prop} {sg : Bool} (hE : pE h F0 F1 F2 F7 L) (t : tpC I B L) (a : atC I J B L p) (nc : nmC I J F0 F7 cnt nam) (hp : p ≤ L) (hw : I F0 10 = nI w) (hle : w + e ≤ lxS B L p)
    (ok : ∀ s v q I' J', trF B L nam cnt p = (some (s, v), q) → fE F0 F1 F2 w I I' J J' → atC I' J' B L q → q ≤ L → I' F0 10 = nI (w + 1) → w + 1 + e ≤ lxS B L q → (I' F1 w = cSt (sg, s, v) ∧ I' F2 w = cAm (sg, s, v) ∧ tOK (sg, s, v)) → K 1 (hU h I' J'))
    (no : ∀ q I' J', trF B L nam cnt p = (none, q) → fE F0 F1 F2 w I I' J J' → I' 19 4 = nI (lxS B L q) → K 0 (hU h I' J')) : CI (d + 2) 84 [vR 19, vI (sgI sg)] (hU h I J) K X := by
  have hE0 := hE
  obtain ⟨f, ⟨k0, r1, -⟩, -, -, -, -, ⟨g0, g1, g2, g3⟩, l12⟩ := hE0
  have e0 : 8 ≤ F0 := by omega
  have done : ∀ (p1 : Nat) (I1 : Nat → Nat → Int32) (J1 : Nat → Nat → Int64) (s : Nat) (v x : Int32), s ≤ 2 → fE F0 F1 F2 w I I1 J J1 → atC I1 J1 B L p1 → p1 ≤ L → lxK B L p1 ≠ 6 → w + e ≤ lxS B L p1 → I1 F0 10 = nI w → x = cAm (sg, s, v) → tOK (sg, s, v) → trF B L nam cnt p = (some (s, v), lxE B L p1) → Wp (d + 2) 84 (196, [some (vR 19), some (vI (sgI sg)), some (vI (nI s)), some (vI x), none], [vI 1], hU h I1 J1) (RI K X) := by
    intro p1 I1 J1 s v x hs u1 a1 hp1 hk1 hl1 hw1 hx hok htr
    have go := lxK_go (B := B) hp1 hk1
    have sI : (nI s).toInt = s := ti_n (by omega)
    have wr : ∀ y : Int32, y = cSt (sg, s, v) → CV (d + 1) 83 [vR F0, vI y, vI x] (hU h I1 J1) (fun h1 => gK h1 19 = 4 ∧ 8 ≤ gR h1 19 0 ∧ gK h1 (gR h1 19 0) = 12 ∧ CV (d + 1) 71 [vR (gR h1 19 0)] h1 (fun h2 => K 1 h2) X) X := by
      intro y hy
      refine c_write hE hw1 (by omega) (fun I2 u2 w2 x1 x2 ou => ?_)
      simp only [↓forall_eq, ↓inB_iff, gK_hU, gL_hU, gR_hU, gIh, gJh, pI_hU, pJ_hU, hU_hU, uI_app, uJ_app, and_true, true_and, and_false, false_and, and_self, true_implies, false_implies, not_true, not_false_iff, if_true, if_false, eq_self, Nat.reduceLeDiff, Nat.reduceEqDiff, reduceCtorEq, i32c, ti0, ti1, tiM, Int.natCast_nonneg, Int.reduceEq, Int.reduceLE, Int.reduceLT, Int.reduceNeg, tl_i, Int32.reduceToInt, Int64.reduceToInt, tiA, tlM6, Int.toNat_natCast, natc, nI_1, Int.zero_sub, implies_true, not_false_eq_true, ck_17 f, ck_19 f, cr_19_0 f]
      have a2 := atC_w hE a1 ou
      refine c_adv f (tpC_fE hE (tpC_fE hE t u1) u2) go.2.2.2 a2.1.1 (fun I3 J3 u3 a3 => ?_)
      have u4 : fE F0 F1 F2 (w + 1) I2 I3 J1 J3 := fE_T hE u3
      refine ok s v _ I3 J3 htr (fE_tr u1 (fE_tr u2 u4 (by omega)) (Nat.le_refl _)) a3 go.2.2.2 ?_ (by omega) ⟨?_, ?_, hok⟩
      · rw [u4.2.2.2.2.1 w (by omega) |>.1 |> fun _ => u3.1 F0 (by omega)]; exact w2
      · rw [(u4.2.2.2.2.1 w (by omega)).1, x1]; exact hy
      · rw [(u4.2.2.2.2.1 w (by omega)).2, x2]; exact hx
    refine w84_196 ?_
    simp only [↓forall_eq, ↓inB_iff, gK_hU, gL_hU, gR_hU, gIh, gJh, pI_hU, pJ_hU, hU_hU, uI_app, uJ_app, and_true, true_and, and_false, false_and, and_self, true_implies, false_implies, not_true, not_false_iff, if_true, if_false, eq_self, Nat.reduceLeDiff, Nat.reduceEqDiff, reduceCtorEq, i32c, ti0, ti1, tiM, Int.natCast_nonneg, Int.reduceEq, Int.reduceLE, Int.reduceLT, Int.reduceNeg, tl_i, Int32.reduceToInt, Int64.reduceToInt, tiA, tlM6, Int.toNat_natCast, natc, nI_1, Int.zero_sub, implies_true, not_false_eq_true, ck_17 f, ck_19 f, cr_19_0 f, r1, k0, e0, sI]
    refine ⟨fun z => ?_, fun z => ⟨fun z2 => ?_, fun z2 => ?_⟩⟩
    · refine wr _ ?_
      have : s = 0 := by omega
      subst this; rfl
    · refine wr _ ?_
      have : sg = false := by cases sg with | false => rfl | true => exact absurd z2 (by decide)
      subst this
      unfold cSt
      rw [if_neg (by show ¬ s = 0; omega)]
      rfl
    · refine wr _ ?_
      have : sg = true := by cases sg with | true => rfl | false => exact absurd (by decide) z2
      subst this
      unfold cSt
      rw [if_neg (by show ¬ s = 0; omega)]
      show nI s + nI 2 = nI (s + 2)
      rw [nI_add]
  have bad : ∀ (p1 : Nat) (I1 : Nat → Nat → Int32) (J1 : Nat → Nat → Int64) (l2 l3 : Int32), fE F0 F1 F2 w I I1 J J1 → atC I1 J1 B L p1 → trF B L nam cnt p = (none, p1) → Wp (d + 2) 84 (196, [some (vR 19), some (vI (sgI sg)), some (vI l2), some (vI l3), none], [vI 0], hU h I1 J1) (RI K X) := by
    intro p1 I1 J1 l2 l3 u1 a1 htr
    refine w84_196 ?_
    simp only [↓forall_eq, ↓inB_iff, gK_hU, gL_hU, gR_hU, gIh, gJh, pI_hU, pJ_hU, hU_hU, uI_app, uJ_app, and_true, true_and, and_false, false_and, and_self, true_implies, false_implies, not_true, not_false_iff, if_true, if_false, eq_self, Nat.reduceLeDiff, Nat.reduceEqDiff, reduceCtorEq, i32c, ti0, ti1, tiM, Int.natCast_nonneg, Int.reduceEq, Int.reduceLE, Int.reduceLT, Int.reduceNeg, tl_i, Int32.reduceToInt, Int64.reduceToInt, tiA, tlM6, Int.toNat_natCast, natc, nI_1, Int.zero_sub, implies_true, not_false_eq_true, ck_17 f, ck_19 f, cr_19_0 f]
    refine c_fail (w := w) hE (fun I2 u2 x2 => no p1 I2 J1 htr (fE_tr u1 u2 (Nat.le_refl _)) ?_)
    rw [x2]; exact a1.1.2.2
  have kl := lxK_le (B := B) (L := L) (p := p)
  have kI : (nI (lxK B L p)).toInt = lxK B L p := ti_n (by omega)
  have kI2 : (nI (lxK B L (lxE B L p))).toInt = lxK B L (lxE B L p) := ti_n (by have := lxK_le (B := B) (L := L) (p := lxE B L p); omega)
  have u0 : fE F0 F1 F2 w I I J J := ⟨fun _ _ _ _ _ _ => rfl, rfl, fun _ _ => rfl, fun _ _ => rfl, fun _ _ => ⟨rfl, rfl⟩, fun _ _ => rfl⟩
  have at30 : ∀ s0 : Int32, (lxK B L p = 0 → s0 = nmF nam cnt (lxW B L p)) → (lxK B L p ≠ 0 → s0 = -1) → Wp (d + 2) 84 (30, [some (vR 19), some (vI (sgI sg)), some (vI 1), none, none], [vI s0], hU h I J) (RI K X) := by
    intro s0 h0 h1
    by_cases c1 : lxK B L p = 1
    · have z1 : ((lxK B L p : Nat) : Int) = 1 := by omega
      have nb := lxN_b hp c1
      have hn : I 17 5 = lxN B L p := a.2.1 (Or.inl c1)
      refine w84_30 ?_
      simp only [↓forall_eq, ↓inB_iff, gK_hU, gL_hU, gR_hU, gIh, gJh, pI_hU, pJ_hU, hU_hU, uI_app, uJ_app, and_true, true_and, and_false, false_and, and_self, true_implies, false_implies, not_true, not_false_iff, if_true, if_false, eq_self, Nat.reduceLeDiff, Nat.reduceEqDiff, reduceCtorEq, i32c, ti0, ti1, tiM, Int.natCast_nonneg, Int.reduceEq, Int.reduceLE, Int.reduceLT, Int.reduceNeg, tl_i, Int32.reduceToInt, Int64.reduceToInt, tiA, tlM6, Int.toNat_natCast, natc, nI_1, Int.zero_sub, implies_true, not_false_eq_true, ck_17 f, ck_19 f, cr_19_0 f, a.1.2.1, kI, z1, hn]
      refine w84_163 ?_
      simp only [↓forall_eq, ↓inB_iff, gK_hU, gL_hU, gR_hU, gIh, gJh, pI_hU, pJ_hU, hU_hU, uI_app, uJ_app, and_true, true_and, and_false, false_and, and_self, true_implies, false_implies, not_true, not_false_iff, if_true, if_false, eq_self, Nat.reduceLeDiff, Nat.reduceEqDiff, reduceCtorEq, i32c, ti0, ti1, tiM, Int.natCast_nonneg, Int.reduceEq, Int.reduceLE, Int.reduceLT, Int.reduceNeg, tl_i, Int32.reduceToInt, Int64.reduceToInt, tiA, tlM6, Int.toNat_natCast, natc, nI_1, Int.zero_sub, implies_true, not_false_eq_true, ck_17 f, ck_19 f, cr_19_0 f, a.1.2.1, kI, z1]
      refine done p I J 0 (lxN B L p) _ (by omega) u0 a hp (by omega) hle hw (sg_mul sg _).1 (tOK_0 (by omega)) ?_
      unfold trF; rw [if_pos c1]
    · have z1 : ¬ ((lxK B L p : Nat) : Int) = 1 := by omega
      by_cases c4 : lxK B L p = 4
      · have z4 : ((lxK B L p : Nat) : Int) = 4 := by omega
        have go := lxK_go (B := B) hp (by omega)
        refine w84_30 ?_
        simp only [↓forall_eq, ↓inB_iff, gK_hU, gL_hU, gR_hU, gIh, gJh, pI_hU, pJ_hU, hU_hU, uI_app, uJ_app, and_true, true_and, and_false, false_and, and_self, true_implies, false_implies, not_true, not_false_iff, if_true, if_false, eq_self, Nat.reduceLeDiff, Nat.reduceEqDiff, reduceCtorEq, i32c, ti0, ti1, tiM, Int.natCast_nonneg, Int.reduceEq, Int.reduceLE, Int.reduceLT, Int.reduceNeg, tl_i, Int32.reduceToInt, Int64.reduceToInt, tiA, tlM6, Int.toNat_natCast, natc, nI_1, Int.zero_sub, implies_true, not_false_eq_true, ck_17 f, ck_19 f, cr_19_0 f, a.1.2.1, kI, z1, z4]
        refine c_adv f t go.2.2.2 a.1.1 (fun I2 J2 u2 a2 => ?_)
        have v2 : fE F0 F1 F2 w I I2 J J2 := fE_T hE u2
        simp only [↓forall_eq, ↓inB_iff, gK_hU, gL_hU, gR_hU, gIh, gJh, pI_hU, pJ_hU, hU_hU, uI_app, uJ_app, and_true, true_and, and_false, false_and, and_self, true_implies, false_implies, not_true, not_false_iff, if_true, if_false, eq_self, Nat.reduceLeDiff, Nat.reduceEqDiff, reduceCtorEq, i32c, ti0, ti1, tiM, Int.natCast_nonneg, Int.reduceEq, Int.reduceLE, Int.reduceLT, Int.reduceNeg, tl_i, Int32.reduceToInt, Int64.reduceToInt, tiA, tlM6, Int.toNat_natCast, natc, nI_1, Int.zero_sub, implies_true, not_false_eq_true, ck_17 f, ck_19 f, cr_19_0 f, a2.1.2.1, kI2]
        refine ⟨fun z => ?_, fun z => ?_⟩
        · have c2 : lxK B L (lxE B L p) = 1 := by omega
          have nb := lxN_b go.2.2.2 c2
          have hn : I2 17 5 = lxN B L (lxE B L p) := a2.2.1 (Or.inl c2)
          refine w84_163 ?_
          simp only [↓forall_eq, ↓inB_iff, gK_hU, gL_hU, gR_hU, gIh, gJh, pI_hU, pJ_hU, hU_hU, uI_app, uJ_app, and_true, true_and, and_false, false_and, and_self, true_implies, false_implies, not_true, not_false_iff, if_true, if_false, eq_self, Nat.reduceLeDiff, Nat.reduceEqDiff, reduceCtorEq, i32c, ti0, ti1, tiM, Int.natCast_nonneg, Int.reduceEq, Int.reduceLE, Int.reduceLT, Int.reduceNeg, tl_i, Int32.reduceToInt, Int64.reduceToInt, tiA, tlM6, Int.toNat_natCast, natc, nI_1, Int.zero_sub, implies_true, not_false_eq_true, ck_17 f, ck_19 f, cr_19_0 f, a2.1.2.1, kI2, z, hn]
          refine done (lxE B L p) I2 J2 0 (-lxN B L (lxE B L p)) _ (by omega) v2 a2 go.2.2.2 (by omega) (by omega) (by rw [u2.1 F0 (by omega)]; exact hw) (sg_mul sg _).2 (tOK_0 ?_) ?_
          · rw [ti_neg (by omega)]; omega
          · unfold trF; rw [if_neg c1, if_pos c4, if_pos c2]
        · refine w84_163 ?_
          simp only [↓forall_eq, ↓inB_iff, gK_hU, gL_hU, gR_hU, gIh, gJh, pI_hU, pJ_hU, hU_hU, uI_app, uJ_app, and_true, true_and, and_false, false_and, and_self, true_implies, false_implies, not_true, not_false_iff, if_true, if_false, eq_self, Nat.reduceLeDiff, Nat.reduceEqDiff, reduceCtorEq, i32c, ti0, ti1, tiM, Int.natCast_nonneg, Int.reduceEq, Int.reduceLE, Int.reduceLT, Int.reduceNeg, tl_i, Int32.reduceToInt, Int64.reduceToInt, tiA, tlM6, Int.toNat_natCast, natc, nI_1, Int.zero_sub, implies_true, not_false_eq_true, ck_17 f, ck_19 f, cr_19_0 f, a2.1.2.1, kI2, z]
          refine bad (lxE B L p) I2 J2 _ _ v2 a2 ?_
          unfold trF; rw [if_neg c1, if_pos c4, if_neg (by omega)]
      · have z4 : ¬ ((lxK B L p : Nat) : Int) = 4 := by omega
        refine w84_30 ?_
        simp only [↓forall_eq, ↓inB_iff, gK_hU, gL_hU, gR_hU, gIh, gJh, pI_hU, pJ_hU, hU_hU, uI_app, uJ_app, and_true, true_and, and_false, false_and, and_self, true_implies, false_implies, not_true, not_false_iff, if_true, if_false, eq_self, Nat.reduceLeDiff, Nat.reduceEqDiff, reduceCtorEq, i32c, ti0, ti1, tiM, Int.natCast_nonneg, Int.reduceEq, Int.reduceLE, Int.reduceLT, Int.reduceNeg, tl_i, Int32.reduceToInt, Int64.reduceToInt, tiA, tlM6, Int.toNat_natCast, natc, nI_1, Int.zero_sub, implies_true, not_false_eq_true, ck_17 f, ck_19 f, cr_19_0 f, a.1.2.1, kI, z1, z4, ↓isAt_br f a]
        refine ⟨fun cr => ?_, fun cr => ?_⟩
        · have go := lxK_go (B := B) hp (by omega)
          refine c_adv f t go.2.2.2 a.1.1 (fun I2 J2 u2 a2 => ?_)
          have v2 : fE F0 F1 F2 w I I2 J J2 := fE_T hE u2
          simp only [↓forall_eq, ↓inB_iff, gK_hU, gL_hU, gR_hU, gIh, gJh, pI_hU, pJ_hU, hU_hU, uI_app, uJ_app, and_true, true_and, and_false, false_and, and_self, true_implies, false_implies, not_true, not_false_iff, if_true, if_false, eq_self, Nat.reduceLeDiff, Nat.reduceEqDiff, reduceCtorEq, i32c, ti0, ti1, tiM, Int.natCast_nonneg, Int.reduceEq, Int.reduceLE, Int.reduceLT, Int.reduceNeg, tl_i, Int32.reduceToInt, Int64.reduceToInt, tiA, tlM6, Int.toNat_natCast, natc, nI_1, Int.zero_sub, implies_true, not_false_eq_true, ck_17 f, ck_19 f, cr_19_0 f, a2.1.2.1, kI2]
          refine ⟨fun z => ?_, fun z => ?_⟩
          · have c2 : lxK B L (lxE B L p) = 1 := by omega
            have nb := lxN_b go.2.2.2 c2
            have hn : I2 17 5 = lxN B L (lxE B L p) := a2.2.1 (Or.inl c2)
            rw [hn]
            refine ⟨fun z6 => ?_, fun z6 => ?_⟩
            · have hm : ¬ (lxN B L (lxE B L p)).toInt = -1 := by omega
              refine w84_163 ?_
              simp only [↓forall_eq, ↓inB_iff, gK_hU, gL_hU, gR_hU, gIh, gJh, pI_hU, pJ_hU, hU_hU, uI_app, uJ_app, and_true, true_and, and_false, false_and, and_self, true_implies, false_implies, not_true, not_false_iff, if_true, if_false, eq_self, Nat.reduceLeDiff, Nat.reduceEqDiff, reduceCtorEq, i32c, ti0, ti1, tiM, Int.natCast_nonneg, Int.reduceEq, Int.reduceLE, Int.reduceLT, Int.reduceNeg, tl_i, Int32.reduceToInt, Int64.reduceToInt, tiA, tlM6, Int.toNat_natCast, natc, nI_1, Int.zero_sub, implies_true, not_false_eq_true, ck_17 f, ck_19 f, cr_19_0 f, hm]
              refine done (lxE B L p) I2 J2 2 (lxN B L (lxE B L p)) _ (by omega) v2 a2 go.2.2.2 (by omega) (by omega) (by rw [u2.1 F0 (by omega)]; exact hw) (cAm_n (by omega)) ⟨by show 2 ≤ 2; omega, fun z => absurd z (by show ¬ (2 = 0); omega), fun z => absurd z (by show ¬ (2 = 1); omega), fun _ => ⟨nb.1, z6⟩⟩ ?_
              unfold trF; rw [if_neg c1, if_neg c4, if_pos cr, if_pos ⟨c2, z6⟩]
            · refine w84_163 ?_
              simp only [↓forall_eq, ↓inB_iff, gK_hU, gL_hU, gR_hU, gIh, gJh, pI_hU, pJ_hU, hU_hU, uI_app, uJ_app, and_true, true_and, and_false, false_and, and_self, true_implies, false_implies, not_true, not_false_iff, if_true, if_false, eq_self, Nat.reduceLeDiff, Nat.reduceEqDiff, reduceCtorEq, i32c, ti0, ti1, tiM, Int.natCast_nonneg, Int.reduceEq, Int.reduceLE, Int.reduceLT, Int.reduceNeg, tl_i, Int32.reduceToInt, Int64.reduceToInt, tiA, tlM6, Int.toNat_natCast, natc, nI_1, Int.zero_sub, implies_true, not_false_eq_true, ck_17 f, ck_19 f, cr_19_0 f]
              refine bad (lxE B L p) I2 J2 _ _ v2 a2 ?_
              unfold trF; rw [if_neg c1, if_neg c4, if_pos cr, if_neg (fun y => z6 y.2)]
          · refine w84_163 ?_
            simp only [↓forall_eq, ↓inB_iff, gK_hU, gL_hU, gR_hU, gIh, gJh, pI_hU, pJ_hU, hU_hU, uI_app, uJ_app, and_true, true_and, and_false, false_and, and_self, true_implies, false_implies, not_true, not_false_iff, if_true, if_false, eq_self, Nat.reduceLeDiff, Nat.reduceEqDiff, reduceCtorEq, i32c, ti0, ti1, tiM, Int.natCast_nonneg, Int.reduceEq, Int.reduceLE, Int.reduceLT, Int.reduceNeg, tl_i, Int32.reduceToInt, Int64.reduceToInt, tiA, tlM6, Int.toNat_natCast, natc, nI_1, Int.zero_sub, implies_true, not_false_eq_true, ck_17 f, ck_19 f, cr_19_0 f]
            refine bad (lxE B L p) I2 J2 _ _ v2 a2 ?_
            unfold trF; rw [if_neg c1, if_neg c4, if_pos cr, if_neg (fun y => z (by rw [y.1]; rfl))]
        · by_cases cn : s0 = -1
          · have hm : s0.toInt = -1 := by rw [cn]; rfl
            refine w84_163 ?_
            simp only [↓forall_eq, ↓inB_iff, gK_hU, gL_hU, gR_hU, gIh, gJh, pI_hU, pJ_hU, hU_hU, uI_app, uJ_app, and_true, true_and, and_false, false_and, and_self, true_implies, false_implies, not_true, not_false_iff, if_true, if_false, eq_self, Nat.reduceLeDiff, Nat.reduceEqDiff, reduceCtorEq, i32c, ti0, ti1, tiM, Int.natCast_nonneg, Int.reduceEq, Int.reduceLE, Int.reduceLT, Int.reduceNeg, tl_i, Int32.reduceToInt, Int64.reduceToInt, tiA, tlM6, Int.toNat_natCast, natc, nI_1, Int.zero_sub, implies_true, not_false_eq_true, ck_17 f, ck_19 f, cr_19_0 f, hm]
            refine bad p I J _ _ u0 a ?_
            unfold trF; rw [if_neg c1, if_neg c4, if_neg cr, if_neg (fun y => y.2 (by rw [← h0 y.1]; exact cn))]
          · have ck : lxK B L p = 0 := Decidable.byContradiction fun y => cn (h1 y)
            have hm : ¬ s0.toInt = -1 := fun y => cn (ti_inj y)
            have e9 := h0 ck
            rw [e9] at cn
            have nb := nmF_b nc.1.2 cn
            refine w84_163 ?_
            simp only [↓forall_eq, ↓inB_iff, gK_hU, gL_hU, gR_hU, gIh, gJh, pI_hU, pJ_hU, hU_hU, uI_app, uJ_app, and_true, true_and, and_false, false_and, and_self, true_implies, false_implies, not_true, not_false_iff, if_true, if_false, eq_self, Nat.reduceLeDiff, Nat.reduceEqDiff, reduceCtorEq, i32c, ti0, ti1, tiM, Int.natCast_nonneg, Int.reduceEq, Int.reduceLE, Int.reduceLT, Int.reduceNeg, tl_i, Int32.reduceToInt, Int64.reduceToInt, tiA, tlM6, Int.toNat_natCast, natc, nI_1, Int.zero_sub, implies_true, not_false_eq_true, ck_17 f, ck_19 f, cr_19_0 f, hm]
            refine done p I J 1 (nmF nam cnt (lxW B L p)) s0 (by omega) u0 a hp (by omega) hle hw (by rw [e9]; exact cAm_n (by omega)) ⟨by show 1 ≤ 2; omega, fun z => absurd z (by show ¬ (1 = 0); omega), fun _ => nb, fun z => absurd z (by show ¬ (1 = 2); omega)⟩ ?_
            unfold trF; rw [if_neg c1, if_neg c4, if_neg cr, if_pos ⟨ck, cn⟩]
  refine m84 ?_
  simp only [↓forall_eq, ↓inB_iff, gK_hU, gL_hU, gR_hU, gIh, gJh, pI_hU, pJ_hU, hU_hU, uI_app, uJ_app, and_true, true_and, and_false, false_and, and_self, true_implies, false_implies, not_true, not_false_iff, if_true, if_false, eq_self, Nat.reduceLeDiff, Nat.reduceEqDiff, reduceCtorEq, i32c, ti0, ti1, tiM, Int.natCast_nonneg, Int.reduceEq, Int.reduceLE, Int.reduceLT, Int.reduceNeg, tl_i, Int32.reduceToInt, Int64.reduceToInt, tiA, tlM6, Int.toNat_natCast, natc, nI_1, Int.zero_sub, implies_true, not_false_eq_true, ck_17 f, ck_19 f, cr_19_0 f, a.1.2.1, kI, r1, k0, e0, ↓named_br hE nc]
  refine ⟨fun z => ?_, fun z => at30 _ (fun y => absurd (by omega) z) (fun _ => rfl)⟩
  have ck : lxK B L p = 0 := by omega
  rw [a.2.2 ck]
  exact at30 _ (fun _ => rfl) (fun y => absurd ck y)
end RTM
