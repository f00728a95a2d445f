/-! READING A TEXT: the model's bounds and statements -/
section MSB
variable {d L p q q1 w w0 w1 W k cnt nf ak s : Nat} {g : aH} {X : Nat → aH → Prop} {B : Nat → Int32} {I0 I I' : Nat → Nat → Int32} {J0 J J' : Nat → Nat → Int64} {nam : Nat → Int64} {K : Int32 → aH → Prop} {hd : Int64 × Int32 × Int32 × List Tm}
def fU (I I' : Nat → Nat → Int32) (J J' : Nat → Nat → Int64) : Prop := (∀ a, a ≠ 44 → I' a = I a) ∧ (∀ j, j ≠ 28 → j ≠ 29 → j ≠ 30 → j ≠ 32 → j ≠ 33 → I' 44 j = I 44 j) ∧ ∀ a, a ≠ 44 → J' a = J a
theorem fU_refl : fU I I J J := ⟨fun _ _ => rfl, fun _ _ _ _ _ _ => rfl, fun _ _ => rfl⟩
theorem fU_N (t : fN I I' J J') : fU I I' J J' := ⟨t.1, fun j h1 h2 h3 h4 _ => t.2.1 j h1 h2 h3 h4, t.2.2⟩
theorem fU_tr {I2 : Nat → Nat → Int32} {J2 : Nat → Nat → Int64} (t : fU I I' J J') (u : fU I' I2 J' J2) : fU I I2 J J2 := ⟨fun a ha => (u.1 a ha).trans (t.1 a ha), fun j h1 h2 h3 h4 h5 => (u.2.1 j h1 h2 h3 h4 h5).trans (t.2.1 j h1 h2 h3 h4 h5), fun a ha => (u.2.2 a ha).trans (t.2.2 a ha)⟩
theorem fU_b {j : Nat} {x : Int32} (hj : j = 30 ∨ j = 33) : fU I (uI I 44 j x) J J := ⟨fun a ha => by rw [uI_ne _ _ _ ha], fun i h1 h2 h3 h4 h5 => by rw [uI_nj _ _ _ _ (by omega)], fun _ _ => rfl⟩
theorem fQ_U (u : fU I I' J J') : fQ k w I I' J J' := ⟨fun a h1 _ => u.1 a h1, fun j _ h2 h3 h4 h5 h6 => u.2.1 j h2 h3 h4 h5 h6, fun a _ _ i _ => by rw [u.1 a (by omega)], fun i _ => by rw [u.1 63 (by decide), u.1 64 (by decide)]; exact ⟨rfl, rfl⟩, fun a h1 _ => u.2.2 a h1, fun i _ => by rw [u.2.2 55 (by decide)]⟩
theorem tpM_fU (t : tpM I B L) (u : fU I I' J J') : tpM I' B L := ⟨by rw [u.2.1 13 (by decide) (by decide) (by decide) (by decide) (by decide)]; exact t.1, t.2.1, fun i hi => by rw [u.1 52 (by decide)]; exact t.2.2 i hi⟩
theorem atM_b {x : Int32} (t : atM I J B L p) : atM (uI I 44 33 x) J B L p := by
  have e : ∀ j, j ≠ 33 → uI I 44 33 x 44 j = I 44 j := fun j hj => uI_nj _ _ _ _ hj
  unfold atM at t ⊢
  rw [e 28 (by decide), e 29 (by decide), e 30 (by decide), e 32 (by decide)]; exact t
theorem m_bound (mf : MF g) (t : tpM I B L) (a : atM I J B L p) (hp : p ≤ L)
    (ok : ∀ v pn I' J', bdF B L p = (some v, lxE B L pn) → fU I I' J J' → atM I' J' B L pn → pn ≤ L → lxK B L pn ≠ 6 → lxS B L p ≤ lxS B L pn → I' 44 33 = v → K 1 (hU g I' J'))
    (no : ∀ q I' J', bdF B L p = (none, q) → fU I I' J J' → I' 44 30 = nI (lxS B L q) → K 0 (hU g I' J')) : CI (d + 3) 107 [vR 44] (hU g I J) K X := by
  obtain ⟨kI, -, k3, k4, -⟩ := kdM_i (lxK B L p)
  obtain ⟨qI, -, q3, -⟩ := kdM_i (lxK B L (lxE B L p))
  by_cases c4 : lxK B L p = 4
  · have z4 : ((kdM (lxK B L p) : Nat) : Int) = 4 := by have := k4.2 (Or.inr c4); omega
    have go := lxK_go (B := B) hp (by omega)
    refine m107 ?_
    simp only [↓forall_eq, ↓inB_iff, gK_hU, gL_hU, gR_hU, gIh, gJh, pI_hU, pJ_hU, hU_hU, uI_app, uJ_app, and_true, true_and, and_false, false_and, and_self, true_implies, false_implies, not_true, not_false_iff, if_true, if_false, eq_self, Nat.reduceLeDiff, Nat.reduceEqDiff, reduceCtorEq, i32c, ti0, ti1, tiM, Int.natCast_nonneg, Int.reduceEq, Int.reduceLE, Int.reduceLT, Int.reduceNeg, tl_i, Int32.reduceToInt, Int64.reduceToInt, tiA, tlM6, Int.toNat_natCast, natc, nI_1, Int.zero_sub, implies_true, not_false_eq_true, mf.1, a.1.2.1, kI, z4, a.2.2.2.2.1 c4]
    refine w107_21 ?_
    simp only [↓forall_eq, ↓inB_iff, gK_hU, gL_hU, gR_hU, gIh, gJh, pI_hU, pJ_hU, hU_hU, uI_app, uJ_app, and_true, true_and, and_false, false_and, and_self, true_implies, false_implies, not_true, not_false_iff, if_true, if_false, eq_self, Nat.reduceLeDiff, Nat.reduceEqDiff, reduceCtorEq, i32c, ti0, ti1, tiM, Int.natCast_nonneg, Int.reduceEq, Int.reduceLE, Int.reduceLT, Int.reduceNeg, tl_i, Int32.reduceToInt, Int64.reduceToInt, tiA, tlM6, Int.toNat_natCast, natc, nI_1, Int.zero_sub, implies_true, not_false_eq_true, mf.1]
    refine m_next mf t go.2.2.2 a.1.1 (fun I2 J2 u2 a2 => ?_)
    simp only [↓forall_eq, ↓inB_iff, gK_hU, gL_hU, gR_hU, gIh, gJh, pI_hU, pJ_hU, hU_hU, uI_app, uJ_app, and_true, true_and, and_false, false_and, and_self, true_implies, false_implies, not_true, not_false_iff, if_true, if_false, eq_self, Nat.reduceLeDiff, Nat.reduceEqDiff, reduceCtorEq, i32c, ti0, ti1, tiM, Int.natCast_nonneg, Int.reduceEq, Int.reduceLE, Int.reduceLT, Int.reduceNeg, tl_i, Int32.reduceToInt, Int64.reduceToInt, tiA, tlM6, Int.toNat_natCast, natc, nI_1, Int.zero_sub, implies_true, not_false_eq_true, mf.1, a2.1.2.1, qI]
    refine ⟨fun z => ?_, fun z => no (lxE B L p) I2 J2 (by unfold bdF; rw [if_pos c4, if_neg (fun y => z (by have := q3.2 y; omega))]) (fU_N u2) a2.1.2.2⟩
    have c2 : lxK B L (lxE B L p) = 1 := q3.1 (by omega)
    rw [a2.2.1 c2]
    refine ok (-lxN B L (lxE B L p)) (lxE B L p) _ J2 (by unfold bdF; rw [if_pos c4, if_pos c2]) (fU_tr (fU_N u2) (fU_b (Or.inr rfl))) (atM_b a2) go.2.2.2 (by omega) (by omega) (by rw [uI_same])
  · have go0 : Wp (d + 3) 107 (21, [some (vR 44), none], [vI 0], hU g I J) (RI K X) := by
      refine w107_21 ?_
      simp only [↓forall_eq, ↓inB_iff, gK_hU, gL_hU, gR_hU, gIh, gJh, pI_hU, pJ_hU, hU_hU, uI_app, uJ_app, and_true, true_and, and_false, false_and, and_self, true_implies, false_implies, not_true, not_false_iff, if_true, if_false, eq_self, Nat.reduceLeDiff, Nat.reduceEqDiff, reduceCtorEq, i32c, ti0, ti1, tiM, Int.natCast_nonneg, Int.reduceEq, Int.reduceLE, Int.reduceLT, Int.reduceNeg, tl_i, Int32.reduceToInt, Int64.reduceToInt, tiA, tlM6, Int.toNat_natCast, natc, nI_1, Int.zero_sub, implies_true, not_false_eq_true, mf.1, a.1.2.1, kI]
      refine ⟨fun z => ?_, fun z => no p I J (by unfold bdF; rw [if_neg c4, if_neg (fun y => z (by have := k3.2 y; omega))]) fU_refl a.1.2.2⟩
      have c2 : lxK B L p = 1 := k3.1 (by omega)
      rw [a.2.1 c2]
      exact ok (lxN B L p) p _ J (by unfold bdF; rw [if_neg c4, if_pos c2]) (fU_b (Or.inr rfl)) (atM_b a) hp (by omega) (Nat.le_refl _) (by rw [uI_same])
    refine m107 ?_
    simp only [↓forall_eq, ↓inB_iff, gK_hU, gL_hU, gR_hU, gIh, gJh, pI_hU, pJ_hU, hU_hU, uI_app, uJ_app, and_true, true_and, and_false, false_and, and_self, true_implies, false_implies, not_true, not_false_iff, if_true, if_false, eq_self, Nat.reduceLeDiff, Nat.reduceEqDiff, reduceCtorEq, i32c, ti0, ti1, tiM, Int.natCast_nonneg, Int.reduceEq, Int.reduceLE, Int.reduceLT, Int.reduceNeg, tl_i, Int32.reduceToInt, Int64.reduceToInt, tiA, tlM6, Int.toNat_natCast, natc, nI_1, Int.zero_sub, implies_true, not_false_eq_true, mf.1, a.1.2.1, kI]
    refine ⟨fun z => ⟨fun y => ?_, fun _ => go0⟩, fun _ => go0⟩
    have c3 : lxK B L p = 3 := by have := k4.1 (by omega); omega
    rw [a.2.2.2.1 c3] at y
    exact absurd y (by decide)
/-- two bounds, into row k -/
def fVb (k : Nat) (lo hi : Int32) (I I' : Nat → Nat → Int32) (J J' : Nat → Nat → Int64) : Prop := (∀ a, a ≠ 44 → a ≠ 56 → a ≠ 57 → I' a = I a) ∧ (∀ i, i ≠ k → I' 56 i = I 56 i ∧ I' 57 i = I 57 i) ∧ (I' 56 k = lo ∧ I' 57 k = hi) ∧ (∀ j, j ≠ 28 → j ≠ 29 → j ≠ 30 → j ≠ 32 → j ≠ 33 → I' 44 j = I 44 j) ∧ ∀ a, a ≠ 44 → J' a = J a
theorem fQ_V {lo hi : Int32} (u : fVb k lo hi I I' J J') : fQ k w I I' J J' := ⟨fun a h1 h2 => u.1 a h1 (by omega) (by omega), fun j _ h2 h3 h4 h5 h6 => u.2.2.2.1 j h2 h3 h4 h5 h6, fun a _ _ i hi => by
    by_cases e6 : a = 56
    · rw [e6]; exact (u.2.1 i hi).1
    · by_cases e7 : a = 57
      · rw [e7]; exact (u.2.1 i hi).2
      · rw [u.1 a (by omega) e6 e7], fun i _ => by rw [u.1 63 (by decide) (by decide) (by decide), u.1 64 (by decide) (by decide) (by decide)]; exact ⟨rfl, rfl⟩, fun a h1 _ => u.2.2.2.2 a h1, fun i _ => by rw [u.2.2.2.2 55 (by decide)]⟩
theorem m_bounds (mf : MF g) (hk : k < 120) (t : tpM I B L) (a : atM I J B L p) (hp : p ≤ L)
    (ok : ∀ lo hi q I' J', bsF B L p = (some (lo, hi), q) → fVb k lo hi I I' J J' → atM I' J' B L q → q ≤ L → lxS B L p ≤ lxS B L q → K 1 (hU g I' J'))
    (no : ∀ q I' J', bsF B L p = (none, q) → fQ k w I I' J J' → I' 44 30 = nI (lxS B L q) → K 0 (hU g I' J')) : CI (d + 4) 108 [vR 44, vI (nI k)] (hU g I J) K X := by
  have kI : (nI k).toInt = k := ti_n (by omega)
  have k120 : (k : Int) < 120 := by omega
  refine m108 ?_
  simp only [↓forall_eq, ↓inB_iff, gK_hU, gL_hU, gR_hU, gIh, gJh, pI_hU, pJ_hU, hU_hU, uI_app, uJ_app, and_true, true_and, and_false, false_and, and_self, true_implies, false_implies, not_true, not_false_iff, if_true, if_false, eq_self, Nat.reduceLeDiff, Nat.reduceEqDiff, reduceCtorEq, i32c, ti0, ti1, tiM, Int.natCast_nonneg, Int.reduceEq, Int.reduceLE, Int.reduceLT, Int.reduceNeg, tl_i, Int32.reduceToInt, Int64.reduceToInt, tiA, tlM6, Int.toNat_natCast, natc, nI_1, Int.zero_sub, implies_true, not_false_eq_true, mf.1, mr_18 mf, mk_56 mf, ml_56 mf, mr_19 mf, mk_57 mf, ml_57 mf]
  refine m_bound mf t a hp (fun lo pn I1 J1 hb u1 a1 hp1 k1 ls1 e33 => ?_) (fun q I1 J1 hb u1 x30 => ⟨fun _ => no q I1 J1 (by unfold bsF; rw [hb]) (fQ_U u1) x30, fun z => absurd rfl z⟩)
  have go := lxK_go (B := B) hp1 k1
  simp only [↓forall_eq, ↓inB_iff, gK_hU, gL_hU, gR_hU, gIh, gJh, pI_hU, pJ_hU, hU_hU, uI_app, uJ_app, and_true, true_and, and_false, false_and, and_self, true_implies, false_implies, not_true, not_false_iff, if_true, if_false, eq_self, Nat.reduceLeDiff, Nat.reduceEqDiff, reduceCtorEq, i32c, ti0, ti1, tiM, Int.natCast_nonneg, Int.reduceEq, Int.reduceLE, Int.reduceLT, Int.reduceNeg, tl_i, Int32.reduceToInt, Int64.reduceToInt, tiA, tlM6, Int.toNat_natCast, natc, nI_1, Int.zero_sub, implies_true, not_false_eq_true, mf.1, mr_18 mf, mk_56 mf, ml_56 mf, mr_19 mf, mk_57 mf, ml_57 mf, kI, k120, e33]
  have r2 : fQ k w I1 (uI I1 56 k lo) J1 J1 := fQ_row (by omega)
  have t2 := tpM_fQ (tpM_fU t u1) r2
  have a2 : atM (uI I1 56 k lo) J1 B L pn := atM_row (by decide) a1
  refine m_next mf t2 go.2.2.2 a2.1.1 (fun I3 J3 u3 a3 => ?_)
  have t3 := tpM_fN t2 u3
  have e56 : I3 56 k = lo := by rw [u3.1 56 (by decide), uI_same]
  simp only [↓forall_eq, ↓inB_iff, gK_hU, gL_hU, gR_hU, gIh, gJh, pI_hU, pJ_hU, hU_hU, uI_app, uJ_app, and_true, true_and, and_false, false_and, and_self, true_implies, false_implies, not_true, not_false_iff, if_true, if_false, eq_self, Nat.reduceLeDiff, Nat.reduceEqDiff, reduceCtorEq, i32c, ti0, ti1, tiM, Int.natCast_nonneg, Int.reduceEq, Int.reduceLE, Int.reduceLT, Int.reduceNeg, tl_i, Int32.reduceToInt, Int64.reduceToInt, tiA, tlM6, Int.toNat_natCast, natc, nI_1, Int.zero_sub, implies_true, not_false_eq_true, mf.1, mr_18 mf, mk_56 mf, ml_56 mf, mr_19 mf, mk_57 mf, ml_57 mf, a3.1.2.2]
  refine m_bound mf t3 a3 go.2.2.2 (fun hi pn2 I4 J4 hb4 u4 a4 hp4 k4 ls4 f33 => ?_) (fun q I4 J4 hb4 u4 x30 => ⟨fun _ => no q I4 J4 (by unfold bsF; rw [hb]; dsimp only; rw [hb4]) (fQ_tr (fQ_U u1) (fQ_tr r2 (fQ_tr (fQ_U (fU_N u3)) (fQ_U (w := w) u4) (Nat.le_refl _)) (Nat.le_refl _)) (Nat.le_refl _)) x30, fun z => absurd rfl z⟩)
  have go4 := lxK_go (B := B) hp4 k4
  have g56 : I4 56 k = lo := by rw [u4.1 56 (by decide)]; exact e56
  simp only [↓forall_eq, ↓inB_iff, gK_hU, gL_hU, gR_hU, gIh, gJh, pI_hU, pJ_hU, hU_hU, uI_app, uJ_app, and_true, true_and, and_false, false_and, and_self, true_implies, false_implies, not_true, not_false_iff, if_true, if_false, eq_self, Nat.reduceLeDiff, Nat.reduceEqDiff, reduceCtorEq, i32c, ti0, ti1, tiM, Int.natCast_nonneg, Int.reduceEq, Int.reduceLE, Int.reduceLT, Int.reduceNeg, tl_i, Int32.reduceToInt, Int64.reduceToInt, tiA, tlM6, Int.toNat_natCast, natc, nI_1, Int.zero_sub, implies_true, not_false_eq_true, mf.1, mr_18 mf, mk_56 mf, ml_56 mf, mr_19 mf, mk_57 mf, ml_57 mf, kI, k120, f33, g56]
  refine ⟨fun z => ?_, fun z => ?_⟩
  · refine no (lxE B L pn) _ J4 ?_ (fQ_tr (fQ_U u1) (fQ_tr r2 (fQ_tr (fQ_U (fU_N u3)) (fQ_tr (fQ_U (w := w) u4) (fQ_U (fU_b (Or.inl rfl))) (Nat.le_refl _)) (Nat.le_refl _)) (Nat.le_refl _)) (Nat.le_refl _)) (by rw [uI_same])
    unfold bsF; rw [hb]; dsimp only; rw [hb4]; dsimp only; rw [if_pos z]
  · have r5 : fQ k w I4 (uI I4 57 k hi) J4 J4 := fQ_row (by omega)
    have t5 := tpM_fQ (tpM_fU t3 u4) r5
    have a5 : atM (uI I4 57 k hi) J4 B L pn2 := atM_row (by decide) a4
    refine m_next mf t5 go4.2.2.2 a5.1.1 (fun I6 J6 u6 a6 => ?_)
    refine ok lo hi (lxE B L pn2) I6 J6 ?_ ⟨fun b h1 h2 h3 => ?_, fun i hi => ⟨?_, ?_⟩, ⟨?_, ?_⟩, fun j h1 h2 h3 h4 h5 => ?_, fun b hb => ?_⟩ a6 go4.2.2.2 (by omega)
    · unfold bsF; rw [hb]; dsimp only; rw [hb4]; dsimp only; rw [if_neg z]
    · rw [u6.1 b h1, uI_ne _ _ _ h3, u4.1 b h1, u3.1 b h1, uI_ne _ _ _ h2, u1.1 b h1]
    · rw [u6.1 56 (by decide), uI_ne _ _ _ (by decide), u4.1 56 (by decide), u3.1 56 (by decide), uI_nj _ _ _ _ hi, u1.1 56 (by decide)]
    · rw [u6.1 57 (by decide), uI_nj _ _ _ _ hi, u4.1 57 (by decide), u3.1 57 (by decide), uI_ne _ _ _ (by decide), u1.1 57 (by decide)]
    · rw [u6.1 56 (by decide), uI_ne _ _ _ (by decide)]; exact g56
    · rw [u6.1 57 (by decide), uI_same]
    · rw [u6.2.1 j h1 h2 h3 h4, uI_ne _ _ _ (by decide), u4.2.1 j h1 h2 h3 h4 h5, u3.2.1 j h1 h2 h3 h4, uI_ne _ _ _ (by decide), u1.2.1 j h1 h2 h3 h4 h5]
    · rw [u6.2.2 b hb, u4.2.2 b hb, u3.2.2 b hb, u1.2.2 b hb]
end MSB
