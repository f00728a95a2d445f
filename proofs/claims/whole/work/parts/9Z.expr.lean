/-! READING A TEXT: the class reads sums and conditions -/
section REX
section
variable (B : Nat → Int32) (L : Nat) (nam : Nat → Int64) (cnt : Nat)
def cdF : Nat → Nat → Option (List Cmp) × Nat
  | 0, p => (none, p)
  | n + 1, p => match exF B L nam cnt 1200 false p with
    | (none, q) => (none, q)
    | (some e1, q) => if lxK B L q = 2 then (match exF B L nam cnt 1200 false (lxE B L q) with
        | (none, q2) => (none, q2)
        | (some e2, q2) => if lxK B L q2 = 0 ∧ lxW B L q2 = 6385252 then (match cdF n (lxE B L q2) with
            | (none, q3) => (none, q3)
            | (some cs, q3) => (some ((e1, lxN B L q, e2, true) :: cs), q3))
          else if lxK B L q2 = 0 ∧ lxW B L q2 = 28530 then (match cdF n (lxE B L q2) with
            | (none, q3) => (none, q3)
            | (some cs, q3) => (some ((e1, lxN B L q, e2, false) :: cs), q3))
          else (some [(e1, lxN B L q, e2, false)], q2)) else (none, q)
end
variable {d L p q w cnt e : Nat} {h : aH} {X : Nat → aH → Prop} {B : Nat → Int32} {I I' : Nat → Nat → Int32} {J J' : Nat → Nat → Int64} {nam : Nat → Int64} {F0 F1 F2 F7 : Nat}
theorem encC_cg {S Am S' Am' : Nat → Int32} : ∀ (ts : List Tm) (i : Nat), encC S Am i ts → (∀ j, i ≤ j → j < i + ts.length → S' j = S j ∧ Am' j = Am j) → encC S' Am' i ts := by
  intro ts
  induction ts with
  | nil => intro i _ _; exact True.intro
  | cons t ts ih =>
    intro i he hj
    have h0 := hj i (Nat.le_refl _) (by rw [List.length_cons]; omega)
    refine ⟨⟨by rw [h0.1]; exact he.1.1, by rw [h0.2]; exact he.1.2.1, he.1.2.2⟩, ih (i + 1) he.2 (fun j h1 h2 => hj j (by omega) (by rw [List.length_cons]; omega))⟩
theorem c_rexpr {K : Int32 → aH → Prop} (hE : pE h F0 F1 F2 F7 L) : ∀ (n k w p : Nat) (sg : Bool) (I : Nat → Nat → Int32) (J : Nat → Nat → Int64), k + n = 1200 → tpC I B L → atC I J B L p → nmC I J F0 F7 cnt nam → p ≤ L → I F0 10 = nI w → w + e ≤ lxS B L p →
    (∀ ts q I' J', exF B L nam cnt n sg p = (some ts, q) → fE F0 F1 F2 w I I' J J' → atC I' J' B L q → q ≤ L → I' F0 10 = nI (w + ts.length) → w + ts.length + e ≤ lxS B L q → encC (I' F1) (I' F2) w ts → K 1 (hU h I' J')) →
    (∀ q I' J', exF B L nam cnt n sg p = (none, q) → fE F0 F1 F2 w I I' J J' → I' 19 4 = nI (lxS B L q) → K 0 (hU h I' J')) → Wp (d + 3) 85 (4, [some (vR 19), some (vI (sgI sg)), some (vI (nI k))], [], hU h I J) (RI K X) := by
  have hE0 := hE
  obtain ⟨f, ⟨k0, r1, -⟩, -, -, -, -, ⟨g0, g1, g2, g3⟩, l12⟩ := hE0
  intro n
  induction n with
  | zero =>
    intro k w p sg I J hk t a nc hp hw hle ok no
    have kc : k = 1200 := by omega
    subst kc
    have z : ¬ (nI 1200).toInt < 1200 := by decide
    refine w85_4 ?_
    simp only [↓forall_eq, ↓inB_iff, gK_hU, gL_hU, gR_hU, gIh, gJh, pI_hU, pJ_hU, hU_hU, uI_app, uJ_app, and_true, true_and, and_false, false_and, and_self, true_implies, false_implies, not_true, not_false_iff, if_true, if_false, eq_self, Nat.reduceLeDiff, Nat.reduceEqDiff, reduceCtorEq, i32c, ti0, ti1, tiM, Int.natCast_nonneg, Int.reduceEq, Int.reduceLE, Int.reduceLT, Int.reduceNeg, tl_i, Int32.reduceToInt, Int64.reduceToInt, tiA, tlM6, Int.toNat_natCast, natc, nI_1, Int.zero_sub, implies_true, not_false_eq_true, ck_17 f, ck_19 f, cr_19_0 f, z]
    refine c_fail (w := w) hE (fun I2 u2 x2 => no p I2 J (by rw [exF]) u2 ?_)
    rw [x2]; exact a.1.2.2
  | succ n ih =>
    intro k w p sg I J hk t a nc hp hw hle ok no
    have kI : (nI k).toInt = k := ti_n (by omega)
    have kl : (k : Int) < 1200 := by omega
    refine w85_4 ?_
    simp only [↓forall_eq, ↓inB_iff, gK_hU, gL_hU, gR_hU, gIh, gJh, pI_hU, pJ_hU, hU_hU, uI_app, uJ_app, and_true, true_and, and_false, false_and, and_self, true_implies, false_implies, not_true, not_false_iff, if_true, if_false, eq_self, Nat.reduceLeDiff, Nat.reduceEqDiff, reduceCtorEq, i32c, ti0, ti1, tiM, Int.natCast_nonneg, Int.reduceEq, Int.reduceLE, Int.reduceLT, Int.reduceNeg, tl_i, Int32.reduceToInt, Int64.reduceToInt, tiA, tlM6, Int.toNat_natCast, natc, nI_1, Int.zero_sub, implies_true, not_false_eq_true, ck_17 f, ck_19 f, cr_19_0 f, kI, kl]
    refine c_rterm (e := e) hE t a nc hp hw hle (fun s v q I1 J1 htr u1 a1 hq w1 le1 en1 => ?_) (fun q I1 J1 htr u1 x4 => ?_)
    · have ql := lxK_le (B := B) (L := L) (p := q)
      have qI : (nI (lxK B L q)).toInt = lxK B L q := ti_n (by omega)
      simp only [↓forall_eq, ↓inB_iff, gK_hU, gL_hU, gR_hU, gIh, gJh, pI_hU, pJ_hU, hU_hU, uI_app, uJ_app, and_true, true_and, and_false, false_and, and_self, true_implies, false_implies, not_true, not_false_iff, if_true, if_false, eq_self, Nat.reduceLeDiff, Nat.reduceEqDiff, reduceCtorEq, i32c, ti0, ti1, tiM, Int.natCast_nonneg, Int.reduceEq, Int.reduceLE, Int.reduceLT, Int.reduceNeg, tl_i, Int32.reduceToInt, Int64.reduceToInt, tiA, tlM6, Int.toNat_natCast, natc, nI_1, Int.zero_sub, implies_true, not_false_eq_true, ck_17 f, ck_19 f, cr_19_0 f, a1.1.2.1, qI]
      have t1 := tpC_fE hE t u1
      have nc1 := nmC_fE hE nc u1
      have more : ∀ sg2 : Bool, sg2 = decide (lxK B L q = 4) → (lxK B L q = 3 ∨ lxK B L q = 4) → CV (d + 2) 71 [vR 17] (hU h I1 J1) (fun h1 => Wp (d + 3) 85 (4, [some (vR 19), some (vI (sgI sg2)), some (vI (nI (k + 1)))], [], h1) (RI K X)) X := by
        intro sg2 hsg hq2
        have go := lxK_go (B := B) hq (by omega)
        refine c_adv f t1 go.2.2.2 a1.1.1 (fun I2 J2 u2 a2 => ?_)
        have v2 : fE F0 F1 F2 (w + 1) I1 I2 J1 J2 := fE_T hE u2
        refine ih (k + 1) (w + 1) (lxE B L q) sg2 I2 J2 (by omega) (tpC_fE hE t1 v2) a2 (nmC_fE hE nc1 v2) go.2.2.2 (by rw [u2.1 F0 (by omega)]; exact w1) (by omega) (fun ts q2 I3 J3 hx u3 a3 hq3 w3 le3 en3 => ?_) (fun q2 I3 J3 hx u3 x4 => ?_)
        · have ex : exF B L nam cnt (n + 1) sg p = (some ((sg, s, v) :: ts), q2) := by
            rw [exF, htr]
            dsimp only
            rw [if_pos hq2, ← hsg, hx]
          refine ok _ _ I3 J3 ex (fE_tr u1 (fE_tr v2 u3 (Nat.le_refl _)) (by omega)) a3 hq3 ?_ ?_ ⟨⟨?_, ?_, en1.2.2⟩, en3⟩
          · rw [w3, List.length_cons, show w + 1 + ts.length = w + (ts.length + 1) by omega]
          · rw [List.length_cons]; omega
          · rw [(u3.2.2.2.2.1 w (by omega)).1, (v2.2.2.2.2.1 w (by omega)).1]; exact en1.1
          · rw [(u3.2.2.2.2.1 w (by omega)).2, (v2.2.2.2.2.1 w (by omega)).2]; exact en1.2.1
        · refine no q2 I3 J3 ?_ (fE_tr u1 (fE_tr v2 u3 (Nat.le_refl _)) (by omega)) x4
          rw [exF, htr]
          dsimp only
          rw [if_pos hq2, ← hsg, hx]
      refine ⟨fun z3 => ?_, fun z3 => ⟨fun z4 => ?_, fun z4 => ?_⟩⟩
      · have c3 : lxK B L q = 3 := by omega
        refine ⟨fun _ => more false (by rw [c3]; decide) (Or.inl c3), fun z => absurd z3 z⟩
      · have c4 : lxK B L q = 4 := by omega
        refine ⟨fun z => absurd z z3, fun _ => more true (by rw [c4]; decide) (Or.inr c4)⟩
      · have ex : exF B L nam cnt (n + 1) sg p = (some [(sg, s, v)], q) := by
          rw [exF, htr]
          dsimp only
          rw [if_neg (by omega)]
        exact ok _ _ I1 J1 ex u1 a1 hq w1 le1 ⟨en1, True.intro⟩
    · refine ⟨fun _ => no q I1 J1 ?_ u1 x4, fun z => absurd rfl z⟩
      rw [exF, htr]
theorem c_rexp {K : Int32 → aH → Prop} (hE : pE h F0 F1 F2 F7 L) (t : tpC I B L) (a : atC I J B L p) (nc : nmC I J F0 F7 cnt nam) (hp : p ≤ L) (hw : I F0 10 = nI w) (hle : w + e ≤ lxS B L p)
    (ok : ∀ ts q I' J', exF B L nam cnt 1200 false p = (some ts, q) → fE F0 F1 F2 w I I' J J' → atC I' J' B L q → q ≤ L → I' F0 10 = nI (w + ts.length) → w + ts.length + e ≤ lxS B L q → encC (I' F1) (I' F2) w ts → K 1 (hU h I' J'))
    (no : ∀ q I' J', exF B L nam cnt 1200 false p = (none, q) → fE F0 F1 F2 w I I' J J' → I' 19 4 = nI (lxS B L q) → K 0 (hU h I' J')) : CI (d + 3) 85 [vR 19] (hU h I J) K X :=
  m85 (c_rexpr (e := e) hE 1200 0 w p false I J rfl t a nc hp hw hle ok no)
theorem c_rcond {K : Int32 → aH → Prop} (hE : pE h F0 F1 F2 F7 L) : ∀ (n k w p : Nat) (I : Nat → Nat → Int32) (J : Nat → Nat → Int64), k + n = 1200 → tpC I B L → atC I J B L p → nmC I J F0 F7 cnt nam → p ≤ L → I F0 10 = nI w → w + 1 ≤ lxS B L p →
    (∀ cs q I' J', cdF B L nam cnt n p = (some cs, q) → fE F0 F1 F2 w I I' J J' → atC I' J' B L q → q ≤ L → I' F0 10 = nI (w + lenC cs) → w + lenC cs ≤ lxS B L q → encCC (I' F1) (I' F2) w cs → cs ≠ [] → K 1 (hU h I' J')) →
    (∀ q I' J', cdF B L nam cnt n p = (none, q) → fE F0 F1 F2 w I I' J J' → I' 19 4 = nI (lxS B L q) → K 0 (hU h I' J')) → Wp (d + 4) 87 (2, [some (vR 19), some (vI (nI k)), none], [], hU h I J) (RI K X) := by
  have hE0 := hE
  obtain ⟨f, ⟨k0, r1, -⟩, -, -, -, -, ⟨g0, g1, g2, g3⟩, l12⟩ := hE0
  have e0 : 8 ≤ F0 := by omega
  intro n
  induction n with
  | zero =>
    intro k w p I J hk t a nc hp hw hle ok no
    have kc : k = 1200 := by omega
    subst kc
    have z : ¬ (nI 1200).toInt < 1200 := by decide
    refine w87_2 ?_
    simp only [↓forall_eq, ↓inB_iff, gK_hU, gL_hU, gR_hU, gIh, gJh, pI_hU, pJ_hU, hU_hU, uI_app, uJ_app, and_true, true_and, and_false, false_and, and_self, true_implies, false_implies, not_true, not_false_iff, if_true, if_false, eq_self, Nat.reduceLeDiff, Nat.reduceEqDiff, reduceCtorEq, i32c, ti0, ti1, tiM, Int.natCast_nonneg, Int.reduceEq, Int.reduceLE, Int.reduceLT, Int.reduceNeg, tl_i, Int32.reduceToInt, Int64.reduceToInt, tiA, tlM6, Int.toNat_natCast, natc, nI_1, Int.zero_sub, implies_true, not_false_eq_true, ck_17 f, ck_19 f, cr_19_0 f, z]
    refine c_fail (w := w) hE (fun I2 u2 x2 => no p I2 J (by rw [cdF]) u2 ?_)
    rw [x2]; exact a.1.2.2
  | succ n ih =>
    intro k w p I J hk t a nc hp hw hle ok no
    have kI : (nI k).toInt = k := ti_n (by omega)
    have kl : (k : Int) < 1200 := by omega
    refine w87_2 ?_
    simp only [↓forall_eq, ↓inB_iff, gK_hU, gL_hU, gR_hU, gIh, gJh, pI_hU, pJ_hU, hU_hU, uI_app, uJ_app, and_true, true_and, and_false, false_and, and_self, true_implies, false_implies, not_true, not_false_iff, if_true, if_false, eq_self, Nat.reduceLeDiff, Nat.reduceEqDiff, reduceCtorEq, i32c, ti0, ti1, tiM, Int.natCast_nonneg, Int.reduceEq, Int.reduceLE, Int.reduceLT, Int.reduceNeg, tl_i, Int32.reduceToInt, Int64.reduceToInt, tiA, tlM6, Int.toNat_natCast, natc, nI_1, Int.zero_sub, implies_true, not_false_eq_true, ck_17 f, ck_19 f, cr_19_0 f, kI, kl]
    refine c_rexp (e := 1) hE t a nc hp hw hle (fun e1 q I1 J1 hx1 u1 a1 hq w1 le1 en1 => ?_) (fun q I1 J1 hx1 u1 x4 => ⟨fun _ => no q I1 J1 (by rw [cdF, hx1]) u1 x4, fun z => absurd rfl z⟩)
    have ql := lxK_le (B := B) (L := L) (p := q)
    have qI : (nI (lxK B L q)).toInt = lxK B L q := ti_n (by omega)
    have t1 := tpC_fE hE t u1
    have nc1 := nmC_fE hE nc u1
    simp only [↓forall_eq, ↓inB_iff, gK_hU, gL_hU, gR_hU, gIh, gJh, pI_hU, pJ_hU, hU_hU, uI_app, uJ_app, and_true, true_and, and_false, false_and, and_self, true_implies, false_implies, not_true, not_false_iff, if_true, if_false, eq_self, Nat.reduceLeDiff, Nat.reduceEqDiff, reduceCtorEq, i32c, ti0, ti1, tiM, Int.natCast_nonneg, Int.reduceEq, Int.reduceLE, Int.reduceLT, Int.reduceNeg, tl_i, Int32.reduceToInt, Int64.reduceToInt, tiA, tlM6, Int.toNat_natCast, natc, nI_1, Int.zero_sub, implies_true, not_false_eq_true, ck_17 f, ck_19 f, cr_19_0 f, a1.1.2.1, qI, r1, k0, e0]
    refine ⟨fun z2 => ?_, fun z2 => ?_⟩
    · have c2 : lxK B L q = 2 := by omega
      have go := lxK_go (B := B) hq (by omega)
      rw [a1.2.1 (Or.inr c2)]
      refine c_write hE w1 (by omega) (fun I2 u2 w2 x1 x2 ou => ?_)
      simp only [↓forall_eq, ↓inB_iff, gK_hU, gL_hU, gR_hU, gIh, gJh, pI_hU, pJ_hU, hU_hU, uI_app, uJ_app, and_true, true_and, and_false, false_and, and_self, true_implies, false_implies, not_true, not_false_iff, if_true, if_false, eq_self, Nat.reduceLeDiff, Nat.reduceEqDiff, reduceCtorEq, i32c, ti0, ti1, tiM, Int.natCast_nonneg, Int.reduceEq, Int.reduceLE, Int.reduceLT, Int.reduceNeg, tl_i, Int32.reduceToInt, Int64.reduceToInt, tiA, tlM6, Int.toNat_natCast, natc, nI_1, Int.zero_sub, implies_true, not_false_eq_true, ck_17 f, ck_19 f, cr_19_0 f]
      have a2 := atC_w hE a1 ou
      have t2 := tpC_fE hE t1 u2
      refine c_adv f t2 go.2.2.2 a2.1.1 (fun I3 J3 u3 a3 => ?_)
      have v3 : fE F0 F1 F2 (w + e1.length + 1) I2 I3 J1 J3 := fE_T hE u3
      have u13 : fE F0 F1 F2 w I I3 J J3 := fE_tr u1 (fE_tr u2 v3 (by omega)) (by omega)
      have t3 := tpC_fE hE t2 v3
      have nc3 := nmC_fE hE (nmC_fE hE nc1 u2) v3
      simp only [↓forall_eq, ↓inB_iff, gK_hU, gL_hU, gR_hU, gIh, gJh, pI_hU, pJ_hU, hU_hU, uI_app, uJ_app, and_true, true_and, and_false, false_and, and_self, true_implies, false_implies, not_true, not_false_iff, if_true, if_false, eq_self, Nat.reduceLeDiff, Nat.reduceEqDiff, reduceCtorEq, i32c, ti0, ti1, tiM, Int.natCast_nonneg, Int.reduceEq, Int.reduceLE, Int.reduceLT, Int.reduceNeg, tl_i, Int32.reduceToInt, Int64.reduceToInt, tiA, tlM6, Int.toNat_natCast, natc, nI_1, Int.zero_sub, implies_true, not_false_eq_true, ck_17 f, ck_19 f, cr_19_0 f]
      refine c_rexp (e := 1) hE t3 a3 nc3 go.2.2.2 (by rw [u3.1 F0 (by omega)]; exact w2) (by omega) (fun e2 q2 I4 J4 hx2 u4 a4 hq4 w4 le4 en4 => ?_) (fun q2 I4 J4 hx2 u4 x4 => ⟨fun _ => no q2 I4 J4 (by rw [cdF, hx1]; dsimp only; rw [if_pos c2, hx2]) (fE_tr u13 u4 (by omega)) x4, fun z => absurd rfl z⟩)
      have t4 := tpC_fE hE t3 u4
      have nc4 := nmC_fE hE nc3 u4
      have ss := lxS_b (B := B) hq4
      simp only [↓forall_eq, ↓inB_iff, gK_hU, gL_hU, gR_hU, gIh, gJh, pI_hU, pJ_hU, hU_hU, uI_app, uJ_app, and_true, true_and, and_false, false_and, and_self, true_implies, false_implies, not_true, not_false_iff, if_true, if_false, eq_self, Nat.reduceLeDiff, Nat.reduceEqDiff, reduceCtorEq, i32c, ti0, ti1, tiM, Int.natCast_nonneg, Int.reduceEq, Int.reduceLE, Int.reduceLT, Int.reduceNeg, tl_i, Int32.reduceToInt, Int64.reduceToInt, tiA, tlM6, Int.toNat_natCast, natc, nI_1, Int.zero_sub, implies_true, not_false_eq_true, ck_17 f, ck_19 f, cr_19_0 f, r1, ↓isAt_br f a4]
      -- what is written, seen from later on
      have seen : ∀ (I9 : Nat → Nat → Int32) (J9 : Nat → Nat → Int64) (b9 : Bool), fE F0 F1 F2 (w + e1.length + 1 + e2.length + 1) I4 I9 J4 J9 → True := fun _ _ _ _ => True.intro
      have old : ∀ (I5 I9 : Nat → Nat → Int32) (J9 : Nat → Nat → Int64), fE F0 F1 F2 (w + e1.length + 1 + e2.length) I4 I5 J4 J4 → fE F0 F1 F2 (w + e1.length + 1 + e2.length + 1) I5 I9 J4 J9 → (encC (I9 F1) (I9 F2) w e1 ∧ I9 F1 (w + e1.length) = 5 ∧ I9 F2 (w + e1.length) = lxN B L q) ∧ encC (I9 F1) (I9 F2) (w + e1.length + 1) e2 := by
        intro I5 I9 J9 u5 u9
        refine ⟨⟨encC_cg _ _ en1 (fun j h1 h2 => ?_), ?_, ?_⟩, encC_cg _ _ en4 (fun j h1 h2 => ?_)⟩
        · have y9 := u9.2.2.2.2.1 j (by omega)
          have y5 := u5.2.2.2.2.1 j (by omega)
          have y4 := u4.2.2.2.2.1 j (by omega)
          have y3 := v3.2.2.2.2.1 j (by omega)
          have y2 := u2.2.2.2.2.1 j (by omega)
          exact ⟨by rw [y9.1, y5.1, y4.1, y3.1, y2.1], by rw [y9.2, y5.2, y4.2, y3.2, y2.2]⟩
        · rw [(u9.2.2.2.2.1 (w + e1.length) (by omega)).1, (u5.2.2.2.2.1 (w + e1.length) (by omega)).1, (u4.2.2.2.2.1 (w + e1.length) (by omega)).1, (v3.2.2.2.2.1 (w + e1.length) (by omega)).1]; exact x1
        · rw [(u9.2.2.2.2.1 (w + e1.length) (by omega)).2, (u5.2.2.2.2.1 (w + e1.length) (by omega)).2, (u4.2.2.2.2.1 (w + e1.length) (by omega)).2, (v3.2.2.2.2.1 (w + e1.length) (by omega)).2]; exact x2
        · have y9 := u9.2.2.2.2.1 j (by omega)
          have y5 := u5.2.2.2.2.1 j (by omega)
          exact ⟨by rw [y9.1, y5.1], by rw [y9.2, y5.2]⟩
      have more : ∀ (bb : Bool) (I5 : Nat → Nat → Int32), fE F0 F1 F2 (w + e1.length + 1 + e2.length) I4 I5 J4 J4 → I5 F0 10 = nI (w + e1.length + 1 + e2.length + 1) → I5 F1 (w + e1.length + 1 + e2.length) = (if bb = true then 6 else 7) → atC I5 J4 B L q2 → lxK B L q2 = 0 → (∀ n', cdF B L nam cnt (n' + 1) p = match cdF B L nam cnt n' (lxE B L q2) with
            | (none, q3) => (none, q3)
            | (some cs, q3) => (some ((e1, lxN B L q, e2, bb) :: cs), q3)) → CV (d + 3) 71 [vR 17] (hU h I5 J4) (fun h1 => Wp (d + 4) 87 (2, [some (vR 19), some (vI (nI (k + 1))), none], [], h1) (RI K X)) X := by
        intro bb I5 u5 w5 s5 a5 hk2 hcd
        have go2 := lxK_go (B := B) hq4 (by omega)
        have t5 := tpC_fE hE t4 u5
        refine c_adv f t5 go2.2.2.2 a5.1.1 (fun I6 J6 u6 a6 => ?_)
        have v6 : fE F0 F1 F2 (w + e1.length + 1 + e2.length + 1) I5 I6 J4 J6 := fE_T hE u6
        refine ih (k + 1) (w + e1.length + 1 + e2.length + 1) (lxE B L q2) I6 J6 (by omega) (tpC_fE hE t5 v6) a6 (nmC_fE hE (nmC_fE hE nc4 u5) v6) go2.2.2.2 (by rw [u6.1 F0 (by omega)]; exact w5) (by omega) (fun cs q3 I7 J7 hx7 u7 a7 hq7 w7 le7 en7 ne7 => ?_) (fun q3 I7 J7 hx7 u7 x4 => ?_)
        · have ex : cdF B L nam cnt (n + 1) p = (some ((e1, lxN B L q, e2, bb) :: cs), q3) := by rw [hcd n, hx7]
          have o9 := old I5 I7 J7 u5 (fE_tr v6 u7 (by omega))
          refine ok _ _ I7 J7 ex (fE_tr u13 (fE_tr u4 (fE_tr u5 (fE_tr v6 u7 (by omega)) (by omega)) (by omega)) (by omega)) a7 hq7 ?_ ?_ ⟨⟨o9.1.1, o9.1.2.1, o9.1.2.2⟩, ⟨o9.2, ?_⟩, en7⟩ (by simp)
          · rw [w7, lenC]; dsimp only; rw [show w + e1.length + 1 + e2.length + 1 + lenC cs = w + (e1.length + 1 + e2.length + 1 + lenC cs) by omega]
          · rw [lenC]; dsimp only; omega
          · dsimp only
            rw [(u7.2.2.2.2.1 (w + e1.length + 1 + e2.length) (by omega)).1, (v6.2.2.2.2.1 (w + e1.length + 1 + e2.length) (by omega)).1]; exact s5
        · refine no q3 I7 J7 (by rw [hcd n, hx7]) (fE_tr u13 (fE_tr u4 (fE_tr u5 (fE_tr v6 u7 (by omega)) (by omega)) (by omega)) (by omega)) x4
      refine ⟨fun ca => ?_, fun ca => ?_⟩
      · refine w87_98 ?_
        simp only [↓forall_eq, ↓inB_iff, gK_hU, gL_hU, gR_hU, gIh, gJh, pI_hU, pJ_hU, hU_hU, uI_app, uJ_app, and_true, true_and, and_false, false_and, and_self, true_implies, false_implies, not_true, not_false_iff, if_true, if_false, eq_self, Nat.reduceLeDiff, Nat.reduceEqDiff, reduceCtorEq, i32c, ti0, ti1, tiM, Int.natCast_nonneg, Int.reduceEq, Int.reduceLE, Int.reduceLT, Int.reduceNeg, tl_i, Int32.reduceToInt, Int64.reduceToInt, tiA, tlM6, Int.toNat_natCast, natc, nI_1, Int.zero_sub, implies_true, not_false_eq_true, ck_17 f, ck_19 f, cr_19_0 f, e0, k0]
        refine c_write hE w4 (by omega) (fun I5 u5 w5 s5 _ ou5 => ?_)
        simp only [↓forall_eq, ↓inB_iff, gK_hU, gL_hU, gR_hU, gIh, gJh, pI_hU, pJ_hU, hU_hU, uI_app, uJ_app, and_true, true_and, and_false, false_and, and_self, true_implies, false_implies, not_true, not_false_iff, if_true, if_false, eq_self, Nat.reduceLeDiff, Nat.reduceEqDiff, reduceCtorEq, i32c, ti0, ti1, tiM, Int.natCast_nonneg, Int.reduceEq, Int.reduceLE, Int.reduceLT, Int.reduceNeg, tl_i, Int32.reduceToInt, Int64.reduceToInt, tiA, tlM6, Int.toNat_natCast, natc, nI_1, Int.zero_sub, implies_true, not_false_eq_true, ck_17 f, ck_19 f, cr_19_0 f]
        refine more true I5 u5 w5 s5 (atC_w hE a4 ou5) ca.1 (fun n' => ?_)
        rw [cdF, hx1]; dsimp only; rw [if_pos c2, hx2]; dsimp only; rw [if_pos ca]
      · refine w87_98 ?_
        simp only [↓forall_eq, ↓inB_iff, gK_hU, gL_hU, gR_hU, gIh, gJh, pI_hU, pJ_hU, hU_hU, uI_app, uJ_app, and_true, true_and, and_false, false_and, and_self, true_implies, false_implies, not_true, not_false_iff, if_true, if_false, eq_self, Nat.reduceLeDiff, Nat.reduceEqDiff, reduceCtorEq, i32c, ti0, ti1, tiM, Int.natCast_nonneg, Int.reduceEq, Int.reduceLE, Int.reduceLT, Int.reduceNeg, tl_i, Int32.reduceToInt, Int64.reduceToInt, tiA, tlM6, Int.toNat_natCast, natc, nI_1, Int.zero_sub, implies_true, not_false_eq_true, ck_17 f, ck_19 f, cr_19_0 f, e0, k0]
        refine c_write hE w4 (by omega) (fun I5 u5 w5 s5 _ ou5 => ?_)
        have a5 := atC_w hE a4 ou5
        simp only [↓forall_eq, ↓inB_iff, gK_hU, gL_hU, gR_hU, gIh, gJh, pI_hU, pJ_hU, hU_hU, uI_app, uJ_app, and_true, true_and, and_false, false_and, and_self, true_implies, false_implies, not_true, not_false_iff, if_true, if_false, eq_self, Nat.reduceLeDiff, Nat.reduceEqDiff, reduceCtorEq, i32c, ti0, ti1, tiM, Int.natCast_nonneg, Int.reduceEq, Int.reduceLE, Int.reduceLT, Int.reduceNeg, tl_i, Int32.reduceToInt, Int64.reduceToInt, tiA, tlM6, Int.toNat_natCast, natc, nI_1, Int.zero_sub, implies_true, not_false_eq_true, ck_17 f, ck_19 f, cr_19_0 f, ↓isAt_br f a5]
        refine ⟨fun co => ?_, fun co => ?_⟩
        · refine more false I5 u5 w5 s5 a5 co.1 (fun n' => ?_)
          rw [cdF, hx1]; dsimp only; rw [if_pos c2, hx2]; dsimp only; rw [if_neg ca, if_pos co]
        · have ex : cdF B L nam cnt (n + 1) p = (some [(e1, lxN B L q, e2, false)], q2) := by
            rw [cdF, hx1]; dsimp only; rw [if_pos c2, hx2]; dsimp only; rw [if_neg ca, if_neg co]
          have z5 : fE F0 F1 F2 (w + e1.length + 1 + e2.length + 1) I5 I5 J4 J4 := ⟨fun _ _ _ _ _ _ => rfl, rfl, fun _ _ => rfl, fun _ _ => rfl, fun _ _ => ⟨rfl, rfl⟩, fun _ _ => rfl⟩
          have o9 := old I5 I5 J4 u5 z5
          refine ok _ _ I5 J4 ex (fE_tr u13 (fE_tr u4 u5 (by omega)) (by omega)) a5 hq4 ?_ ?_ ⟨⟨o9.1.1, o9.1.2.1, o9.1.2.2⟩, ⟨o9.2, ?_⟩, True.intro⟩ (by simp)
          · rw [w5, lenC, lenC]; dsimp only; rw [show w + e1.length + 1 + e2.length + 1 = w + (e1.length + 1 + e2.length + 1 + 0) by omega]
          · rw [lenC, lenC]; dsimp only; omega
          · exact s5
    · refine c_fail (w := w) hE (fun I2 u2 x2 => no q I2 J1 (by rw [cdF, hx1]; dsimp only; rw [if_neg (by omega)]) (fE_tr u1 u2 (Nat.le_refl _)) ?_)
      rw [x2]; exact a1.1.2.2
end REX
