/-! READING A TEXT: the model's sums and conditions -/
section MCD
variable {d L p q w W cnt nf : Nat} {g : aH} {X : Nat → aH → Prop} {B : Nat → Int32} {I I' : Nat → Nat → Int32} {J J' : Nat → Nat → Int64} {nam : Nat → Int64} {K : Int32 → aH → Prop}
def rsF (B : Nat → Int32) (L : Nat) (nam : Nat → Int64) (cnt n q : Nat) : Option (List Tm) × Nat := if lxK B L q = 3 ∨ lxK B L q = 4 then exF B L nam cnt n (decide (lxK B L q = 4)) (lxE B L q) else (some [], q)
theorem exF_no {n : Nat} {sg : Bool} (h : trF B L nam cnt p = (none, q)) : exF B L nam cnt (n + 1) sg p = (none, q) := by rw [exF, h]
theorem exF_rs {n : Nat} {sg : Bool} {t : Nat × Int32} (h : trF B L nam cnt p = (some t, q)) : exF B L nam cnt (n + 1) sg p = (match rsF B L nam cnt n q with
    | (none, q2) => (none, q2)
    | (some ts, q2) => (some ((sg, t.1, t.2) :: ts), q2)) := by
  rw [exF, h]
  dsimp only
  unfold rsF
  by_cases c : lxK B L q = 3 ∨ lxK B L q = 4
  · rw [if_pos c, if_pos c]
    generalize exF B L nam cnt n (decide (lxK B L q = 4)) (lxE B L q) = r
    obtain ⟨r1, q2⟩ := r
    cases r1 <;> rfl
  · rw [if_neg c, if_neg c]
theorem encR_cg {S T S' T' : Nat → Int32} : ∀ (ts : List Tm) (i : Nat), encR S T i ts → (∀ j, i ≤ j → j < i + 2 * ts.length → S' j = S j ∧ T' j = T j) → encR S' T' i ts := by
  intro ts
  induction ts with
  | nil => intro i _ _; exact True.intro
  | cons t ts ih =>
    intro i he hj
    have h0 := hj i (Nat.le_refl _) (by rw [List.length_cons]; omega)
    have h1 := hj (i + 1) (by omega) (by rw [List.length_cons]; omega)
    refine ⟨⟨by rw [h0.1]; exact he.1.1, by rw [h1.1]; exact he.1.2.1, by rw [h1.2]; exact he.1.2.2.1, he.1.2.2.2⟩, ih (i + 2) he.2 (fun j z1 z2 => hj j (by omega) (by rw [List.length_cons]; omega))⟩
theorem encE_cg {S T S' T' : Nat → Int32} {ts : List Tm} {i : Nat} (he : encE S T i ts) (hj : ∀ j, i ≤ j → j < i + mL ts → S' j = S j ∧ T' j = T j) : encE S' T' i ts := by
  cases ts with
  | nil => exact he.elim
  | cons t ts =>
    have hm : mL (t :: ts) = 2 * ts.length + 1 := by unfold mL; rw [List.length_cons]; omega
    have h0 := hj i (Nat.le_refl _) (by omega)
    exact ⟨⟨he.1.1, by rw [h0.1]; exact he.1.2.1, by rw [h0.2]; exact he.1.2.2.1, he.1.2.2.2⟩, encR_cg _ _ he.2 (fun j z1 z2 => hj j (by omega) (by omega))⟩
theorem m_rsts (mf : MF g) (hW : W ≤ 6000) : ∀ (n q w : Nat) (I : Nat → Nat → Int32) (J : Nat → Nat → Int64), tpM I B L → atM I J B L q → nmM I J nf cnt nam → q ≤ L → I 44 27 = nI w → w ≤ W + lxS B L q → L ≤ lxS B L q + n →
    (∀ ts q' I' J', rsF B L nam cnt n q = (some ts, q') → fX w I I' J J' → atM I' J' B L q' → q' ≤ L → I' 44 27 = nI (w + 2 * ts.length) → w + 2 * ts.length ≤ W + lxS B L q' → lxS B L q ≤ lxS B L q' → encR (I' 63) (I' 64) w ts → K 1 (hU g I' J')) →
    (∀ q' I' J', rsF B L nam cnt n q = (none, q') → fX w I I' J J' → I' 44 30 = nI (lxS B L q') → K 0 (hU g I' J')) → Wp (d + 4) 112 (9, [some (vR 44)], [], hU g I J) (RI K X) := by
  intro n
  induction n with
  | zero =>
    intro q w I J t a nc hq hw hle hL ok no
    obtain ⟨kI, -, -, k4, -⟩ := kdM_i (lxK B L q)
    have k6 : lxK B L q = 6 := lxK_6.2 (by omega)
    have z4 : ¬ ((kdM (lxK B L q) : Nat) : Int) = 4 := fun z => by have := k4.1 (by omega); omega
    refine w112_9 ?_
    simp only [↓forall_eq, ↓inB_iff, gK_hU, gL_hU, gR_hU, gIh, gJh, pI_hU, pJ_hU, hU_hU, uI_app, uJ_app, and_true, true_and, and_false, false_and, and_self, true_implies, false_implies, not_true, not_false_iff, if_true, if_false, eq_self, Nat.reduceLeDiff, Nat.reduceEqDiff, reduceCtorEq, i32c, ti0, ti1, tiM, Int.natCast_nonneg, Int.reduceEq, Int.reduceLE, Int.reduceLT, Int.reduceNeg, tl_i, Int32.reduceToInt, Int64.reduceToInt, tiA, tlM6, Int.toNat_natCast, natc, nI_1, Int.zero_sub, implies_true, not_false_eq_true, mf.1, a.1.2.1, kI, z4]
    exact ok [] q I J (by unfold rsF; rw [if_neg (by omega)]) fX_refl a hq hw hle (Nat.le_refl _) True.intro
  | succ n ih =>
    intro q w I J t a nc hq hw hle hL ok no
    have l12 := t.2.1
    obtain ⟨kI, -, -, k4, -⟩ := kdM_i (lxK B L q)
    by_cases c : lxK B L q = 3 ∨ lxK B L q = 4
    · have z4 : ((kdM (lxK B L q) : Nat) : Int) = 4 := by have := k4.2 c; omega
      have go := lxK_go (B := B) hq (by omega)
      have hn : I 44 32 = if decide (lxK B L q = 4) = true then 4 else 3 := by
        by_cases c4 : lxK B L q = 4
        · rw [if_pos (decide_eq_true c4)]; exact a.2.2.2.2.1 c4
        · rw [if_neg (by rw [decide_eq_false c4]; decide)]; exact a.2.2.2.1 (by omega)
      have hrs : rsF B L nam cnt (n + 1) q = exF B L nam cnt (n + 1) (decide (lxK B L q = 4)) (lxE B L q) := by unfold rsF; rw [if_pos c]
      generalize decide (lxK B L q = 4) = sg at *
      refine w112_9 ?_
      simp only [↓forall_eq, ↓inB_iff, gK_hU, gL_hU, gR_hU, gIh, gJh, pI_hU, pJ_hU, hU_hU, uI_app, uJ_app, and_true, true_and, and_false, false_and, and_self, true_implies, false_implies, not_true, not_false_iff, if_true, if_false, eq_self, Nat.reduceLeDiff, Nat.reduceEqDiff, reduceCtorEq, i32c, ti0, ti1, tiM, Int.natCast_nonneg, Int.reduceEq, Int.reduceLE, Int.reduceLT, Int.reduceNeg, tl_i, Int32.reduceToInt, Int64.reduceToInt, tiA, tlM6, Int.toNat_natCast, natc, nI_1, Int.zero_sub, implies_true, not_false_eq_true, mf.1, a.1.2.1, kI, z4, hn, ↓lay_br mf hw (show w < 7200 by omega)]
      have a2 := atM_lay (w := w) (x := if sg = true then 4 else 3) (y := 0) a
      have u2 := fX_lay (w := w) (x := if sg = true then 4 else 3) (y := 0) (I := I) (J := J)
      have v2 := lay_v (w := w) (x := if sg = true then 4 else 3) (y := 0) (I := I)
      generalize uI (uI (uI I 63 w (if sg = true then 4 else 3)) 64 w 0) 44 27 (nI (w + 1)) = I2 at *
      refine m_next mf (tpM_fX t u2) go.2.2.2 a2.1.1 (fun I3 J3 u3 a3 => ?_)
      have v3 : fX (w + 1) I2 I3 J J3 := fX_N u3
      have t3 := tpM_fX (tpM_fX t u2) v3
      have nc3 := nmM_fX (nmM_fX nc u2) v3
      simp only [↓forall_eq, ↓inB_iff, gK_hU, gL_hU, gR_hU, gIh, gJh, pI_hU, pJ_hU, hU_hU, uI_app, uJ_app, and_true, true_and, and_false, false_and, and_self, true_implies, false_implies, not_true, not_false_iff, if_true, if_false, eq_self, Nat.reduceLeDiff, Nat.reduceEqDiff, reduceCtorEq, i32c, ti0, ti1, tiM, Int.natCast_nonneg, Int.reduceEq, Int.reduceLE, Int.reduceLT, Int.reduceNeg, tl_i, Int32.reduceToInt, Int64.reduceToInt, tiA, tlM6, Int.toNat_natCast, natc, nI_1, Int.zero_sub, implies_true, not_false_eq_true, mf.1]
      refine m_rterm (W := W) mf t3 a3 nc3 go.2.2.2 (by rw [u3.2.1 27 (by decide) (by decide) (by decide) (by decide)]; exact v2.2.2) (by omega) hW (fun s v q2 I4 J4 htr u4 a4 hq4 w4 le4 ls4 e63 e64 => ?_) (fun q2 I4 J4 htr u4 x30 => ⟨fun _ => no q2 I4 J4 (by rw [hrs, exF_no htr]) (fX_tr u2 (fX_tr v3 u4 (Nat.le_refl _)) (by omega)) x30, fun z => absurd rfl z⟩)
      have ok4 := trF_ok (sg := sg) go.2.2.2 nc.1.2.2.2 htr
      simp only [↓forall_eq, ↓inB_iff, gK_hU, gL_hU, gR_hU, gIh, gJh, pI_hU, pJ_hU, hU_hU, uI_app, uJ_app, and_true, true_and, and_false, false_and, and_self, true_implies, false_implies, not_true, not_false_iff, if_true, if_false, eq_self, Nat.reduceLeDiff, Nat.reduceEqDiff, reduceCtorEq, i32c, ti0, ti1, tiM, Int.natCast_nonneg, Int.reduceEq, Int.reduceLE, Int.reduceLT, Int.reduceNeg, tl_i, Int32.reduceToInt, Int64.reduceToInt, tiA, tlM6, Int.toNat_natCast, natc, nI_1, Int.zero_sub, implies_true, not_false_eq_true]
      have u24 : fX w I I4 J J4 := fX_tr u2 (fX_tr v3 u4 (Nat.le_refl _)) (by omega)
      refine ih q2 (w + 2) I4 J4 (tpM_fX t3 u4) a4 (nmM_fX nc3 u4) hq4 w4 (by omega) (by omega) (fun ts q5 I5 J5 hx u5 a5 hq5 w5 le5 ls5 en5 => ?_) (fun q5 I5 J5 hx u5 x30 => ?_)
      · refine ok ((sg, s, v) :: ts) q5 I5 J5 (by rw [hrs, exF_rs htr, hx]) (fX_tr u24 u5 (by omega)) a5 hq5 ?_ ?_ (by omega) ⟨⟨?_, ?_, ?_, ok4⟩, en5⟩
        · rw [w5, List.length_cons, show w + 2 + 2 * ts.length = w + 2 * (ts.length + 1) by omega]
        · rw [List.length_cons]; omega
        · rw [(u5.2.2.1 w (by omega)).1, (u4.2.2.1 w (by omega)).1, (v3.2.2.1 w (by omega)).1]; exact v2.1
        · rw [(u5.2.2.1 (w + 1) (by omega)).1]; exact e63
        · rw [(u5.2.2.1 (w + 1) (by omega)).2]; exact e64
      · exact no q5 I5 J5 (by rw [hrs, exF_rs htr, hx]) (fX_tr u24 u5 (by omega)) x30
    · have z4 : ¬ ((kdM (lxK B L q) : Nat) : Int) = 4 := fun z => c (k4.1 (by omega))
      refine w112_9 ?_
      simp only [↓forall_eq, ↓inB_iff, gK_hU, gL_hU, gR_hU, gIh, gJh, pI_hU, pJ_hU, hU_hU, uI_app, uJ_app, and_true, true_and, and_false, false_and, and_self, true_implies, false_implies, not_true, not_false_iff, if_true, if_false, eq_self, Nat.reduceLeDiff, Nat.reduceEqDiff, reduceCtorEq, i32c, ti0, ti1, tiM, Int.natCast_nonneg, Int.reduceEq, Int.reduceLE, Int.reduceLT, Int.reduceNeg, tl_i, Int32.reduceToInt, Int64.reduceToInt, tiA, tlM6, Int.toNat_natCast, natc, nI_1, Int.zero_sub, implies_true, not_false_eq_true, mf.1, a.1.2.1, kI, z4]
      exact ok [] q I J (by unfold rsF; rw [if_neg c]) fX_refl a hq hw hle (Nat.le_refl _) True.intro
theorem m_rexp (mf : MF g) (hW : W ≤ 6000) (t : tpM I B L) (a : atM I J B L p) (nc : nmM I J nf cnt nam) (hp : p ≤ L) (hw : I 44 27 = nI w) (hle : w ≤ W + lxS B L p)
    (ok : ∀ ts q I' J', exF B L nam cnt 1200 false p = (some ts, q) → fX w I I' J J' → atM I' J' B L q → q ≤ L → I' 44 27 = nI (w + mL ts) → w + mL ts ≤ W + lxS B L q → lxS B L p + 1 ≤ lxS B L q → encE (I' 63) (I' 64) w ts → K 1 (hU g I' J'))
    (no : ∀ q I' J', exF B L nam cnt 1200 false p = (none, q) → fX w I I' J J' → I' 44 30 = nI (lxS B L q) → K 0 (hU g I' J')) : CI (d + 4) 112 [vR 44] (hU g I J) K X := by
  have l12 := t.2.1
  refine m112 ?_
  simp only [↓forall_eq, ↓inB_iff, gK_hU, gL_hU, gR_hU, gIh, gJh, pI_hU, pJ_hU, hU_hU, uI_app, uJ_app, and_true, true_and, and_false, false_and, and_self, true_implies, false_implies, not_true, not_false_iff, if_true, if_false, eq_self, Nat.reduceLeDiff, Nat.reduceEqDiff, reduceCtorEq, i32c, ti0, ti1, tiM, Int.natCast_nonneg, Int.reduceEq, Int.reduceLE, Int.reduceLT, Int.reduceNeg, tl_i, Int32.reduceToInt, Int64.reduceToInt, tiA, tlM6, Int.toNat_natCast, natc, nI_1, Int.zero_sub, implies_true, not_false_eq_true, mf.1]
  refine m_rterm (W := W) mf t a nc hp hw hle hW (fun s v q I1 J1 htr u1 a1 hq w1 le1 ls1 e63 e64 => ?_) (fun q I1 J1 htr u1 x30 => ⟨fun _ => no q I1 J1 (exF_no htr) u1 x30, fun z => absurd rfl z⟩)
  have ok1 := trF_ok (sg := false) hp nc.1.2.2.2 htr
  simp only [↓forall_eq, ↓inB_iff, gK_hU, gL_hU, gR_hU, gIh, gJh, pI_hU, pJ_hU, hU_hU, uI_app, uJ_app, and_true, true_and, and_false, false_and, and_self, true_implies, false_implies, not_true, not_false_iff, if_true, if_false, eq_self, Nat.reduceLeDiff, Nat.reduceEqDiff, reduceCtorEq, i32c, ti0, ti1, tiM, Int.natCast_nonneg, Int.reduceEq, Int.reduceLE, Int.reduceLT, Int.reduceNeg, tl_i, Int32.reduceToInt, Int64.reduceToInt, tiA, tlM6, Int.toNat_natCast, natc, nI_1, Int.zero_sub, implies_true, not_false_eq_true]
  refine m_rsts (W := W) mf hW 1199 q (w + 1) I1 J1 (tpM_fX t u1) a1 (nmM_fX nc u1) hq w1 le1 (by omega) (fun ts q2 I2 J2 hx u2 a2 hq2 w2 le2 ls2 en2 => ?_) (fun q2 I2 J2 hx u2 x30 => no q2 I2 J2 (by rw [exF_rs (n := 1199) htr, hx]) (fX_tr u1 u2 (by omega)) x30)
  have hm : mL ((false, s, v) :: ts) = 2 * ts.length + 1 := by unfold mL; rw [List.length_cons]; omega
  refine ok ((false, s, v) :: ts) q2 I2 J2 (by rw [exF_rs (n := 1199) htr, hx]) (fX_tr u1 u2 (by omega)) a2 hq2 ?_ (by omega) (by omega) ⟨⟨rfl, ?_, ?_, ok1⟩, en2⟩
  · rw [w2, hm, show w + 1 + 2 * ts.length = w + (2 * ts.length + 1) by omega]
  · rw [(u2.2.2.1 w (by omega)).1]; exact e63
  · rw [(u2.2.2.1 w (by omega)).2]; exact e64
theorem exF_end (hk : lxK B L p = 6) : exF B L nam cnt 1200 false p = (none, p) := by
  refine exF_no (n := 1199) ?_
  unfold trF
  rw [if_neg (by omega), if_neg (by omega), if_neg (by rw [hk]; rintro ⟨z, -⟩; cases z), if_neg (by rw [hk]; rintro ⟨z, -⟩; cases z)]
theorem m_rcond (mf : MF g) (hW : W ≤ 6000) : ∀ (n p w : Nat) (I : Nat → Nat → Int32) (J : Nat → Nat → Int64), tpM I B L → atM I J B L p → nmM I J nf cnt nam → p ≤ L → I 44 27 = nI w → w ≤ W + lxS B L p → L ≤ lxS B L p + n →
    (∀ cs q to I' J', cdF B L nam cnt n p = (some cs, q) → fX w I I' J J' → atM I' J' B L q → q ≤ L → I' 44 27 = nI to → w + mLC cs = to + 1 → to ≤ W + lxS B L q → lxS B L p ≤ lxS B L q → encMM (I' 63) (I' 64) w cs → cs ≠ [] → K 1 (hU g I' J')) →
    (∀ q I' J', cdF B L nam cnt n p = (none, q) → fX w I I' J J' → I' 44 30 = nI (lxS B L q) → K 0 (hU g I' J')) → Wp (d + 5) 113 (2, [some (vR 44), some (vI 1)], [], hU g I J) (RI K X) := by
  intro n
  induction n with
  | zero =>
    intro p w I J t a nc hp hw hle hL ok no
    have k6 : lxK B L p = 6 := lxK_6.2 (by omega)
    have ex := exF_end (B := B) (L := L) (nam := nam) (cnt := cnt) k6
    refine w113_2 ?_
    simp only [↓forall_eq, ↓inB_iff, gK_hU, gL_hU, gR_hU, gIh, gJh, pI_hU, pJ_hU, hU_hU, uI_app, uJ_app, and_true, true_and, and_false, false_and, and_self, true_implies, false_implies, not_true, not_false_iff, if_true, if_false, eq_self, Nat.reduceLeDiff, Nat.reduceEqDiff, reduceCtorEq, i32c, ti0, ti1, tiM, Int.natCast_nonneg, Int.reduceEq, Int.reduceLE, Int.reduceLT, Int.reduceNeg, tl_i, Int32.reduceToInt, Int64.reduceToInt, tiA, tlM6, Int.toNat_natCast, natc, nI_1, Int.zero_sub, implies_true, not_false_eq_true, mf.1]
    refine m_rexp (W := W) mf hW t a nc hp hw hle (fun ts q I1 J1 hx => ?_) (fun q I1 J1 hx u1 x30 => ⟨fun _ => no q I1 J1 ?_ u1 x30, fun z => absurd rfl z⟩)
    · rw [ex] at hx; cases hx
    · rw [ex] at hx; cases hx; rw [cdF]
  | succ n ih =>
    intro p w I J t a nc hp hw hle hL ok no
    have l12 := t.2.1
    refine w113_2 ?_
    simp only [↓forall_eq, ↓inB_iff, gK_hU, gL_hU, gR_hU, gIh, gJh, pI_hU, pJ_hU, hU_hU, uI_app, uJ_app, and_true, true_and, and_false, false_and, and_self, true_implies, false_implies, not_true, not_false_iff, if_true, if_false, eq_self, Nat.reduceLeDiff, Nat.reduceEqDiff, reduceCtorEq, i32c, ti0, ti1, tiM, Int.natCast_nonneg, Int.reduceEq, Int.reduceLE, Int.reduceLT, Int.reduceNeg, tl_i, Int32.reduceToInt, Int64.reduceToInt, tiA, tlM6, Int.toNat_natCast, natc, nI_1, Int.zero_sub, implies_true, not_false_eq_true, mf.1]
    refine m_rexp (W := W) mf hW t a nc hp hw hle (fun e1 q I1 J1 hx1 u1 a1 hq w1 le1 ls1 en1 => ?_) (fun q I1 J1 hx1 u1 x30 => ⟨fun _ => no q I1 J1 (by rw [cdF, hx1]) u1 x30, fun z => absurd rfl z⟩)
    obtain ⟨kI, -, -, -, k5, -⟩ := kdM_i (lxK B L q)
    simp only [↓forall_eq, ↓inB_iff, gK_hU, gL_hU, gR_hU, gIh, gJh, pI_hU, pJ_hU, hU_hU, uI_app, uJ_app, and_true, true_and, and_false, false_and, and_self, true_implies, false_implies, not_true, not_false_iff, if_true, if_false, eq_self, Nat.reduceLeDiff, Nat.reduceEqDiff, reduceCtorEq, i32c, ti0, ti1, tiM, Int.natCast_nonneg, Int.reduceEq, Int.reduceLE, Int.reduceLT, Int.reduceNeg, tl_i, Int32.reduceToInt, Int64.reduceToInt, tiA, tlM6, Int.toNat_natCast, natc, nI_1, Int.zero_sub, implies_true, not_false_eq_true, mf.1, a1.1.2.1, kI]
    refine ⟨fun z5 => ?_, fun z5 => no q I1 J1 (by rw [cdF, hx1]; dsimp only; rw [if_neg (fun y => z5 (by have := k5.2 y; omega))]) u1 a1.1.2.2⟩
    have c2 : lxK B L q = 2 := k5.1 (by omega)
    have go := lxK_go (B := B) hq (by omega)
    have hn : I1 44 32 = relM (lxN B L q) := a1.2.2.1 c2
    simp only [hn, ↓lay_br mf w1 (show w + mL e1 < 7200 by omega), gK_hU, mf.1, true_and]
    have a2 := atM_lay (w := w + mL e1) (x := relM (lxN B L q)) (y := 0) a1
    have u2 := fX_lay (w := w + mL e1) (x := relM (lxN B L q)) (y := 0) (I := I1) (J := J1)
    have v2 := lay_v (w := w + mL e1) (x := relM (lxN B L q)) (y := 0) (I := I1)
    generalize uI (uI (uI I1 63 (w + mL e1) (relM (lxN B L q))) 64 (w + mL e1) 0) 44 27 (nI (w + mL e1 + 1)) = I2 at *
    refine m_next mf (tpM_fX (tpM_fX t u1) u2) go.2.2.2 a2.1.1 (fun I3 J3 u3 a3 => ?_)
    have v3 : fX (w + mL e1 + 1) I2 I3 J1 J3 := fX_N u3
    have t3 := tpM_fX (tpM_fX (tpM_fX t u1) u2) v3
    have nc3 := nmM_fX (nmM_fX (nmM_fX nc u1) u2) v3
    have u13 : fX w I I3 J J3 := fX_tr u1 (fX_tr u2 v3 (by omega)) (by omega)
    simp only [↓forall_eq, ↓inB_iff, gK_hU, gL_hU, gR_hU, gIh, gJh, pI_hU, pJ_hU, hU_hU, uI_app, uJ_app, and_true, true_and, and_false, false_and, and_self, true_implies, false_implies, not_true, not_false_iff, if_true, if_false, eq_self, Nat.reduceLeDiff, Nat.reduceEqDiff, reduceCtorEq, i32c, ti0, ti1, tiM, Int.natCast_nonneg, Int.reduceEq, Int.reduceLE, Int.reduceLT, Int.reduceNeg, tl_i, Int32.reduceToInt, Int64.reduceToInt, tiA, tlM6, Int.toNat_natCast, natc, nI_1, Int.zero_sub, implies_true, not_false_eq_true, mf.1]
    refine m_rexp (W := W) mf hW t3 a3 nc3 go.2.2.2 (by rw [u3.2.1 27 (by decide) (by decide) (by decide) (by decide)]; exact v2.2.2) (by omega) (fun e2 q2 I4 J4 hx2 u4 a4 hq4 w4 le4 ls4 en4 => ?_) (fun q2 I4 J4 hx2 u4 x30 => ⟨fun _ => no q2 I4 J4 (by rw [cdF, hx1]; dsimp only; rw [if_pos c2, hx2]) (fX_tr u13 u4 (by omega)) x30, fun z => absurd rfl z⟩)
    have t4 := tpM_fX t3 u4
    have nc4 := nmM_fX nc3 u4
    have u14 : fX w I I4 J J4 := fX_tr u13 u4 (by omega)
    have rk : rOK (lxN B L q) := by
      unfold lxN
      by_cases cd : lxD (B (lxS B L q)) = true
      · exfalso
        rw [lxK_d, if_pos go.1] at c2
        by_cases cl : lxL (B (lxS B L q)) = true
        · rw [if_pos cl] at c2; split at c2 <;> omega
        · rw [if_neg cl, if_pos cd] at c2; split at c2 <;> omega
      · rw [if_neg cd]; exact rlN_ok _ _
    -- what was laid, seen from later on
    have old : ∀ (I9 : Nat → Nat → Int32) (J9 : Nat → Nat → Int64), fX (w + mL e1 + 1 + mL e2) I4 I9 J4 J9 → (encE (I9 63) (I9 64) w e1 ∧ I9 63 (w + mL e1) = relM (lxN B L q) ∧ rOK (lxN B L q)) ∧ encE (I9 63) (I9 64) (w + mL e1 + 1) e2 := by
      intro I9 J9 u9
      refine ⟨⟨encE_cg en1 (fun j h1 h2 => ?_), ?_, rk⟩, encE_cg en4 (fun j h1 h2 => u9.2.2.1 j (by omega))⟩
      · have y9 := u9.2.2.1 j (by omega)
        have y4 := u4.2.2.1 j (by omega)
        have y3 := v3.2.2.1 j (by omega)
        have y2 := u2.2.2.1 j (by omega)
        exact ⟨by rw [y9.1, y4.1, y3.1, y2.1], by rw [y9.2, y4.2, y3.2, y2.2]⟩
      · rw [(u9.2.2.1 (w + mL e1) (by omega)).1, (u4.2.2.1 (w + mL e1) (by omega)).1, (v3.2.2.1 (w + mL e1) (by omega)).1]; exact v2.1
    -- it goes on
    have more : ∀ (bb : Bool) (x : Int32), x = (if bb = true then 11 else 12) → lxK B L q2 = 0 → (∀ n', cdF B L nam cnt (n' + 1) p = match cdF B L nam cnt n' (lxE B L q2) with
          | (none, q3) => (none, q3)
          | (some cs, q3) => (some ((e1, lxN B L q, e2, bb) :: cs), q3)) → CV (d + 4) 109 [vR 44, vI x, vI 0] (hU g I4 J4) (fun h0 => gK h0 44 = 14 ∧ CV (d + 4) 104 [vR 44] h0 (fun h1 => Wp (d + 5) 113 (2, [some (vR 44), some (vI 1)], [], h1) (RI K X)) X) X := by
      intro bb x hx hk2 hcd
      have go2 := lxK_go (B := B) hq4 (by omega)
      rw [lay_br mf w4 (by omega)]
      have a5 := atM_lay (w := w + mL e1 + 1 + mL e2) (x := x) (y := 0) a4
      have u5 := fX_lay (w := w + mL e1 + 1 + mL e2) (x := x) (y := 0) (I := I4) (J := J4)
      have v5 := lay_v (w := w + mL e1 + 1 + mL e2) (x := x) (y := 0) (I := I4)
      generalize uI (uI (uI I4 63 (w + mL e1 + 1 + mL e2) x) 64 (w + mL e1 + 1 + mL e2) 0) 44 27 (nI (w + mL e1 + 1 + mL e2 + 1)) = I5 at *
      refine ⟨by rw [gK_hU]; exact mf.1, ?_⟩
      refine m_next mf (tpM_fX t4 u5) go2.2.2.2 a5.1.1 (fun I6 J6 u6 a6 => ?_)
      have v6 : fX (w + mL e1 + 1 + mL e2 + 1) I5 I6 J4 J6 := fX_N u6
      have u16 : fX w I I6 J J6 := fX_tr u14 (fX_tr u5 v6 (by omega)) (by omega)
      refine ih (lxE B L q2) (w + mL e1 + 1 + mL e2 + 1) I6 J6 (tpM_fX (tpM_fX t4 u5) v6) a6 (nmM_fX (nmM_fX nc4 u5) v6) go2.2.2.2 (by rw [u6.2.1 27 (by decide) (by decide) (by decide) (by decide)]; exact v5.2.2) (by omega) (by omega) (fun cs q3 to I7 J7 hx7 u7 a7 hq7 w7 ml7 le7 ls7 en7 ne7 => ?_) (fun q3 I7 J7 hx7 u7 x30 => no q3 I7 J7 (by rw [hcd n, hx7]) (fX_tr u16 u7 (by omega)) x30)
      have o9 := old I7 J7 (fX_tr u5 (fX_tr v6 u7 (by omega)) (by omega))
      refine ok ((e1, lxN B L q, e2, bb) :: cs) q3 to I7 J7 (by rw [hcd n, hx7]) (fX_tr u16 u7 (by omega)) a7 hq7 w7 ?_ le7 (by omega) ⟨o9.1, ⟨o9.2, fun _ => ?_, fun z => absurd z ne7⟩, en7⟩ (by simp)
      · rw [mLC]; dsimp only; omega
      · rw [(u7.2.2.1 (w + mL e1 + 1 + mL e2) (by omega)).1, (v6.2.2.1 (w + mL e1 + 1 + mL e2) (by omega)).1, v5.1]; exact hx
    simp only [↓forall_eq, ↓inB_iff, gK_hU, gL_hU, gR_hU, gIh, gJh, pI_hU, pJ_hU, hU_hU, uI_app, uJ_app, and_true, true_and, and_false, false_and, and_self, true_implies, false_implies, not_true, not_false_iff, if_true, if_false, eq_self, Nat.reduceLeDiff, Nat.reduceEqDiff, reduceCtorEq, i32c, ti0, ti1, tiM, Int.natCast_nonneg, Int.reduceEq, Int.reduceLE, Int.reduceLT, Int.reduceNeg, tl_i, Int32.reduceToInt, Int64.reduceToInt, tiA, tlM6, Int.toNat_natCast, natc, nI_1, Int.zero_sub, implies_true, not_false_eq_true, mf.1, ↓isWord_br mf a4]
    have at70 : lxK B L q2 = 0 → (lxW B L q2 = 6385252 ∨ (¬ lxW B L q2 = 6385252 ∧ lxW B L q2 = 28530)) → Wp (d + 5) 113 (70, [some (vR 44), none], [vI 1], hU g I4 J4) (RI K X) := by
      intro hk2 hww
      have ew := a4.2.2.2.2.2 hk2
      refine w113_70 ?_
      simp only [↓forall_eq, ↓inB_iff, gK_hU, gL_hU, gR_hU, gIh, gJh, pI_hU, pJ_hU, hU_hU, uI_app, uJ_app, and_true, true_and, and_false, false_and, and_self, true_implies, false_implies, not_true, not_false_iff, if_true, if_false, eq_self, Nat.reduceLeDiff, Nat.reduceEqDiff, reduceCtorEq, i32c, ti0, ti1, tiM, Int.natCast_nonneg, Int.reduceEq, Int.reduceLE, Int.reduceLT, Int.reduceNeg, tl_i, Int32.reduceToInt, Int64.reduceToInt, tiA, tlM6, Int.toNat_natCast, natc, nI_1, Int.zero_sub, implies_true, not_false_eq_true, mf.1, ew]
      refine ⟨fun z => ?_, fun z => ?_⟩
      · have ca : lxW B L q2 = 6385252 := Int64.toInt_inj.1 z
        have := more true 11 rfl hk2 (fun n' => by rw [cdF, hx1]; dsimp only; rw [if_pos c2, hx2]; dsimp only; rw [if_pos ⟨hk2, ca⟩]; generalize cdF B L nam cnt n' (lxE B L q2) = r; obtain ⟨r1, q9⟩ := r; cases r1 <;> rfl)
        exact this
      · have na : ¬ lxW B L q2 = 6385252 := fun y => z (by rw [y]; rfl)
        have co : lxW B L q2 = 28530 := by rcases hww with y | y; exact absurd y na; exact y.2
        have := more false 12 rfl hk2 (fun n' => by rw [cdF, hx1]; dsimp only; rw [if_pos c2, hx2]; dsimp only; rw [if_neg (fun y => na y.2), if_pos ⟨hk2, co⟩]; generalize cdF B L nam cnt n' (lxE B L q2) = r; obtain ⟨r1, q9⟩ := r; cases r1 <;> rfl)
        exact this
    refine ⟨fun ca => at70 ca.1 (Or.inl ca.2), fun ca => ⟨fun co => at70 co.1 (Or.inr ⟨fun y => ca ⟨co.1, y⟩, co.2⟩), fun co => ?_⟩⟩
    refine w113_70 ?_
    simp only [↓forall_eq, ↓inB_iff, gK_hU, gL_hU, gR_hU, gIh, gJh, pI_hU, pJ_hU, hU_hU, uI_app, uJ_app, and_true, true_and, and_false, false_and, and_self, true_implies, false_implies, not_true, not_false_iff, if_true, if_false, eq_self, Nat.reduceLeDiff, Nat.reduceEqDiff, reduceCtorEq, i32c, ti0, ti1, tiM, Int.natCast_nonneg, Int.reduceEq, Int.reduceLE, Int.reduceLT, Int.reduceNeg, tl_i, Int32.reduceToInt, Int64.reduceToInt, tiA, tlM6, Int.toNat_natCast, natc, nI_1, Int.zero_sub, implies_true, not_false_eq_true, mf.1]
    refine w113_2 ?_
    simp only [↓forall_eq, ↓inB_iff, gK_hU, gL_hU, gR_hU, gIh, gJh, pI_hU, pJ_hU, hU_hU, uI_app, uJ_app, and_true, true_and, and_false, false_and, and_self, true_implies, false_implies, not_true, not_false_iff, if_true, if_false, eq_self, Nat.reduceLeDiff, Nat.reduceEqDiff, reduceCtorEq, i32c, ti0, ti1, tiM, Int.natCast_nonneg, Int.reduceEq, Int.reduceLE, Int.reduceLT, Int.reduceNeg, tl_i, Int32.reduceToInt, Int64.reduceToInt, tiA, tlM6, Int.toNat_natCast, natc, nI_1, Int.zero_sub, implies_true, not_false_eq_true]
    have o9 := old I4 J4 fX_refl
    refine ok [(e1, lxN B L q, e2, false)] q2 (w + mL e1 + 1 + mL e2) I4 J4 ?_ u14 a4 hq4 w4 ?_ le4 (by omega) ⟨o9.1, ⟨o9.2, fun z => absurd rfl z, fun _ => rfl⟩, True.intro⟩ (by simp)
    · rw [cdF, hx1]; dsimp only; rw [if_pos c2, hx2]; dsimp only; rw [if_neg ca, if_neg co]
    · rw [mLC, mLC]; dsimp only; omega
end MCD
