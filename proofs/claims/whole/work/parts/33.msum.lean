/-! EXPRESSIONS AND CONDITIONS: the model's side -/
section MSM
variable {d : Nat} {g : aH} {X : Nat → aH → Prop} {I : Nat → Nat → Int32} {J : Nat → Nat → Int64}
def encR (Th Wh : Nat → Int32) : Nat → List Tm → Prop
  | _, [] => True
  | p, t :: ts => (Th p = (if t.1 = true then 4 else 3) ∧ Th (p + 1) = nI t.2.1 ∧ Wh (p + 1) = t.2.2 ∧ tOK t) ∧ encR Th Wh (p + 2) ts
def encE (Th Wh : Nat → Int32) (p : Nat) : List Tm → Prop
  | [] => False
  | t :: ts => (t.1 = false ∧ Th p = nI t.2.1 ∧ Wh p = t.2.2 ∧ tOK t) ∧ encR Th Wh (p + 1) ts
def mL (ts : List Tm) : Nat := 2 * ts.length - 1
theorem tV_rng (it rg : Nat → Int32) (t : Tm) : -2147483648 ≤ (tV it rg t).toInt ∧ (tV it rg t).toInt < 2147483648 := ⟨ti_lo _, ti_hi _⟩
/-- the model's cells while it adds up: the place changes, nothing else -/
def sumI (I I' : Nat → Nat → Int32) : Prop := (∀ a, a ≠ 44 → I' a = I a) ∧ ∀ j, j ≠ 36 → I' 44 j = I 44 j
theorem sumI_refl : sumI I I := ⟨fun _ _ => rfl, fun _ _ => rfl⟩
theorem sumI_up {I' : Nat → Nat → Int32} {x : Int32} (s : sumI I I') : sumI I (uI I' 44 36 x) := ⟨fun a ha => by rw [uI_ne _ _ _ ha, s.1 a ha], fun j hj => by rw [uI_nj _ _ _ _ hj, s.2 j hj]⟩
/-- a term -/
theorem m_term {K : Int32 → aH → Prop} {p to : Nat} {y : Int64} {ab : Bool} {sg : Bool} {t : Tm} {I' : Nat → Nat → Int32} (f : MF g) (s : sumI I I') (hp : I' 44 36 = nI p) (h1 : p < to) (h2 : to ≤ 7200) (e1 : I 63 p = nI t.2.1) (e2 : I 64 p = t.2.2) (e3 : tOK t)
    (k : ∀ (I2 : Nat → Nat → Int32) (z : Int64), sumI I I2 → I2 44 36 = nI (p + 1) → z = y + (if sg = true then (-1 : Int32) else 1).toInt64 * (tV (I 65) (I 66) t).toInt64 → Wp (d + 1) 146 (13, [some (vR 44), none, some (vI (nI to)), some (vL z), none, some (vI (bI (ab || tA (I 65) (I 66) t))), some (vI (if sg = true then -1 else 1)), none], [], hU g I2 J) (RI K X)) :
    Wp (d + 1) 146 (13, [some (vR 44), none, some (vI (nI to)), some (vL y), none, some (vI (bI ab)), some (vI (if sg = true then -1 else 1)), none], [], hU g I' J) (RI K X) := by
  have hpI : (nI p).toInt = p := ti_n (by omega)
  have htI : (nI to).toInt = to := ti_n (by omega)
  have q1 : (p : Int) < to := by omega
  have q2 : (p : Int) < 7200 := by omega
  obtain ⟨neg, so, x⟩ := t
  obtain ⟨o1, o2, o3, o4⟩ := e3
  simp only at o1 o2 o3 o4 e1 e2
  have hsI : (nI so).toInt = so := ti_n (by omega)
  have q3 : ¬ (4 : Int) < so := by omega
  have q4 : (so : Int) < 3 := by omega
  have i63 := s.1 63 (by decide)
  have i64 := s.1 64 (by decide)
  have i65 := s.1 65 (by decide)
  have i66 := s.1 66 (by decide)
  have k' : ∀ (v : Int32), v = tV (I 65) (I 66) (neg, so, x) → ∀ b : Bool, b = (ab || decide (v.toInt = -2000000)) → Wp (d + 1) 146 (13, [some (vR 44), none, some (vI (nI to)), some (vL (y + (if sg = true then (-1 : Int32) else 1).toInt64 * v.toInt64)), none, some (vI (bI b)), some (vI (if sg = true then -1 else 1)), none], [], hU g (uI I' 44 36 (nI (p + 1))) J) (RI K X) := fun v hv b hb => by
    have := k (uI I' 44 36 (nI (p + 1))) _ (sumI_up s) (uI_same _ _ _ _) rfl
    rw [← hv] at this
    unfold tA at this
    rw [← hv, ← hb] at this
    exact this
  have b1' : (1 : Int32) = bI true := rfl
  have b0' : (0 : Int32) = bI false := rfl
  refine w146_13 ?_
  simp only [↓forall_eq, ↓inB_iff, gK_hU, gL_hU, gR_hU, gIh, gJh, pI_hU, pJ_hU, hU_hU, uI_app, uJ_app, and_true, true_and, and_false, false_and, and_self, true_implies, false_implies, not_true, not_false_iff, if_true, if_false, eq_self, Nat.reduceLeDiff, Nat.reduceEqDiff, reduceCtorEq, i32c, ti0, ti1, tiM, Int.natCast_nonneg, Int.reduceEq, Int.reduceLE, Int.reduceLT, Int.reduceNeg, tl_i, Int32.reduceToInt, Int64.reduceToInt, tiA, tlM6, Int.toNat_natCast, natc, nI_1, Int.zero_sub, implies_true, not_false_eq_true, f.1, mr_25 f, mk_63 f, ml_63 f, mr_26 f, mk_64 f, ml_64 f, mr_34 f, mk_65 f, ml_65 f, mr_35 f, mk_66 f, ml_66 f, hp, hpI, htI, q1, q2, i63, i64, i65, i66, e1, e2, hsI, q3, q4, bI0]
  refine ⟨fun c0 => ⟨fun ca => ⟨fun cv => ?_, fun cv => ?_⟩, fun ca => ?_⟩, fun c0 => ⟨fun c1 => ?_, fun c1 => ?_⟩⟩
  · exact k' x (by unfold tV; simp only; rw [if_pos (by omega)]) true (by rw [decide_eq_true cv, Bool.or_true])
  · exact k' x (by unfold tV; simp only; rw [if_pos (by omega)]) false (by rw [ca, decide_eq_false cv]; rfl)
  · exact k' x (by unfold tV; simp only; rw [if_pos (by omega)]) true (by revert ca; cases ab <;> simp)
  · have := o3 (by omega)
    have hv : I 65 x.toInt.toNat = tV (I 65) (I 66) (neg, so, x) := by unfold tV; simp only; rw [if_neg (by omega), if_pos (by omega)]
    refine ⟨by omega, by omega, fun ca => ⟨fun cv => ?_, fun cv => ?_⟩, fun ca => ?_⟩
    · exact k' _ hv true (by rw [decide_eq_true cv, Bool.or_true])
    · exact k' _ hv false (by rw [ca, decide_eq_false cv]; rfl)
    · exact k' _ hv true (by revert ca; cases ab <;> simp)
  · have := o4 (by omega)
    have hv : I 66 x.toInt.toNat = tV (I 65) (I 66) (neg, so, x) := by unfold tV; simp only; rw [if_neg (by omega), if_neg (by omega)]
    refine ⟨by omega, by omega, fun ca => ⟨fun cv => ?_, fun cv => ?_⟩, fun ca => ?_⟩
    · exact k' _ hv true (by rw [decide_eq_true cv, Bool.or_true])
    · exact k' _ hv false (by rw [ca, decide_eq_false cv]; rfl)
    · exact k' _ hv true (by revert ca; cases ab <;> simp)
theorem uI36 {x : Int32} : (uI I 44 36 x) 44 36 = x := uI_same _ _ _ _
/-- the rest of a sum: signs and terms -/
theorem m_rest {K : Int32 → aH → Prop} {to : Nat} (f : MF g) (h2 : to ≤ 7200) :
    ∀ (ts : List Tm) (p : Nat) (y : Int64) (ab sg : Bool) (I' : Nat → Nat → Int32), sumI I I' → I' 44 36 = nI p → p + 2 * ts.length ≤ to → (p + 2 * ts.length < to → 4 < (I 63 (p + 2 * ts.length)).toInt) → encR (I 63) (I 64) p ts →
      -9000000000000000 - 2147483648 * (ts.length : Int) * -1 ≤ y.toInt → y.toInt ≤ 9000000000000000 - 2147483648 * (ts.length : Int) →
      (∀ (I2 : Nat → Nat → Int32), sumI I I2 → I2 44 36 = nI (p + 2 * ts.length) → K (if (ab || eA (I 65) (I 66) ts) = true ∨ ¬ (-1000000 ≤ y.toInt + eS (I 65) (I 66) ts ∧ y.toInt + eS (I 65) (I 66) ts ≤ 1000000) then -2000000 else iZ (y.toInt + eS (I 65) (I 66) ts)) (hU g I2 J)) →
      Wp (d + 1) 146 (13, [some (vR 44), none, some (vI (nI to)), some (vL y), none, some (vI (bI ab)), some (vI (if sg = true then -1 else 1)), none], [], hU g I' J) (RI K X) := by
  have htI : (nI to).toInt = to := ti_n (by omega)
  intro ts
  induction ts with
  | nil =>
    intro p y ab sg I' s hp h1 h3 he y1 y2 k
    simp only [List.length_nil, Nat.mul_zero, Nat.add_zero] at h1 h3 k
    have hpI : (nI p).toInt = p := ti_n (by omega)
    have i63 := s.1 63 (by decide)
    have stop : Wp (d + 1) 146 (182, [none, none, none, some (vL y), none, some (vI (bI ab)), none, none], [], hU g I' J) (RI K X) := by
      refine w146_182 ?_
      simp only [↓forall_eq, ↓inB_iff, gK_hU, gL_hU, gR_hU, gIh, gJh, pI_hU, pJ_hU, hU_hU, uI_app, uJ_app, and_true, true_and, and_false, false_and, and_self, true_implies, false_implies, not_true, not_false_iff, if_true, if_false, eq_self, Nat.reduceLeDiff, Nat.reduceEqDiff, reduceCtorEq, i32c, ti0, ti1, tiM, Int.natCast_nonneg, Int.reduceEq, Int.reduceLE, Int.reduceLT, Int.reduceNeg, tl_i, Int32.reduceToInt, Int64.reduceToInt, tiA, tlM6, Int.toNat_natCast, natc, nI_1, Int.zero_sub, implies_true, not_false_eq_true, ↓isIn_br, bI0]
      have k2 := k I' s hp
      simp only [eA, eS, Int.add_zero, Bool.or_false] at k2
      refine ⟨fun ca => ⟨fun cr => ?_, fun cr => ?_⟩, fun ca => ?_⟩
      · rw [if_neg (by rintro (e | e); rw [ca] at e; cases e; exact e cr)] at k2
        have e : y.toInt32 = iZ y.toInt := by
          apply ti_inj
          rw [Int64.toInt_toInt32, ti_z (by omega) (by omega)]
          exact Jvm.Kit.bmod32 (by omega) (by omega)
        rw [e]; exact k2
      · rw [if_pos (Or.inr cr)] at k2; exact k2
      · rw [if_pos (Or.inl (by simpa using ca))] at k2; exact k2
    refine w146_13 ?_
    by_cases c : p < to
    · have q1 : (p : Int) < to := by omega
      have q2 : (p : Int) < 7200 := by omega
      have q3 := h3 c
      simp only [↓forall_eq, ↓inB_iff, gK_hU, gL_hU, gR_hU, gIh, gJh, pI_hU, pJ_hU, hU_hU, uI_app, uJ_app, and_true, true_and, and_false, false_and, and_self, true_implies, false_implies, not_true, not_false_iff, if_true, if_false, eq_self, Nat.reduceLeDiff, Nat.reduceEqDiff, reduceCtorEq, i32c, ti0, ti1, tiM, Int.natCast_nonneg, Int.reduceEq, Int.reduceLE, Int.reduceLT, Int.reduceNeg, tl_i, Int32.reduceToInt, Int64.reduceToInt, tiA, tlM6, Int.toNat_natCast, natc, nI_1, Int.zero_sub, implies_true, not_false_eq_true, f.1, mr_25 f, mk_63 f, ml_63 f, mr_26 f, mk_64 f, ml_64 f, mr_34 f, mk_65 f, ml_65 f, mr_35 f, mk_66 f, ml_66 f, hp, hpI, htI, q1, q2, i63, q3]
      exact stop
    · have q1 : ¬ (p : Int) < to := by omega
      simp only [↓forall_eq, ↓inB_iff, gK_hU, gL_hU, gR_hU, gIh, gJh, pI_hU, pJ_hU, hU_hU, uI_app, uJ_app, and_true, true_and, and_false, false_and, and_self, true_implies, false_implies, not_true, not_false_iff, if_true, if_false, eq_self, Nat.reduceLeDiff, Nat.reduceEqDiff, reduceCtorEq, i32c, ti0, ti1, tiM, Int.natCast_nonneg, Int.reduceEq, Int.reduceLE, Int.reduceLT, Int.reduceNeg, tl_i, Int32.reduceToInt, Int64.reduceToInt, tiA, tlM6, Int.toNat_natCast, natc, nI_1, Int.zero_sub, implies_true, not_false_eq_true, f.1, mr_25 f, mk_63 f, ml_63 f, mr_26 f, mk_64 f, ml_64 f, mr_34 f, mk_65 f, ml_65 f, mr_35 f, mk_66 f, ml_66 f, hp, hpI, htI, q1]
      exact stop
  | cons t ts ih =>
    intro p y ab sg I' s hp h1 h3 he y1 y2 k
    obtain ⟨⟨e1, e2, e3, e4⟩, e5⟩ := he
    simp only [List.length_cons] at h1 h3 y1 y2 k
    have hpI : (nI p).toInt = p := ti_n (by omega)
    have q1 : (p : Int) < to := by omega
    have q2 : (p : Int) < 7200 := by omega
    have i63 := s.1 63 (by decide)
    have step : Wp (d + 1) 146 (13, [some (vR 44), none, some (vI (nI to)), some (vL y), none, some (vI (bI ab)), some (vI (if t.1 = true then -1 else 1)), none], [], hU g (uI I' 44 36 (nI (p + 1))) J) (RI K X) := by
      refine m_term f (sumI_up s) (uI_same _ _ _ _) (by omega) h2 e2 e3 e4 fun I2 z s2 p2 hz => ?_
      have hr := tV_rng (I 65) (I 66) t
      have hz2 : z.toInt = y.toInt + tS (I 65) (I 66) t := by
        have hm : ((if t.1 = true then (-1 : Int32) else 1).toInt64 * (tV (I 65) (I 66) t).toInt64).toInt = tS (I 65) (I 66) t := by
          unfold tS
          cases t.1
          · simp only [Bool.false_eq_true, if_false]
            rw [tl_mul (by rw [tl_i, tl_i, ti1]; omega) (by rw [tl_i, tl_i, ti1]; omega), tl_i, tl_i, ti1]; omega
          · simp only [if_true]
            rw [tl_mul (by rw [tl_i, tl_i, tiM]; omega) (by rw [tl_i, tl_i, tiM]; omega), tl_i, tl_i, tiM]; omega
        have hts : -2147483648 ≤ tS (I 65) (I 66) t ∧ tS (I 65) (I 66) t ≤ 2147483648 := by unfold tS; split <;> omega
        rw [hz, tl_add (by rw [hm]; omega) (by rw [hm]; omega), hm]
      have hts : -2147483648 ≤ tS (I 65) (I 66) t ∧ tS (I 65) (I 66) t ≤ 2147483648 := by unfold tS; split <;> omega
      refine ih (p + 2) z (ab || tA (I 65) (I 66) t) t.1 I2 s2 p2 (by omega) (fun w => by have := h3 (by omega); rw [show p + 2 + 2 * ts.length = p + 2 * (ts.length + 1) by omega]; exact this) e5 (by omega) (by omega) (fun I3 s3 p3 => ?_)
      have := k I3 s3 (by rw [p3]; congr 1; omega)
      simp only [eA, eS] at this
      rw [hz2, Int.add_assoc, Bool.or_assoc]
      exact this
    refine w146_13 ?_
    cases hn : t.1
    · rw [hn] at e1 step
      simp only [Bool.false_eq_true, if_false] at e1 step
      simp only [↓forall_eq, ↓inB_iff, gK_hU, gL_hU, gR_hU, gIh, gJh, pI_hU, pJ_hU, hU_hU, uI_app, uJ_app, and_true, true_and, and_false, false_and, and_self, true_implies, false_implies, not_true, not_false_iff, if_true, if_false, eq_self, Nat.reduceLeDiff, Nat.reduceEqDiff, reduceCtorEq, i32c, ti0, ti1, tiM, Int.natCast_nonneg, Int.reduceEq, Int.reduceLE, Int.reduceLT, Int.reduceNeg, tl_i, Int32.reduceToInt, Int64.reduceToInt, tiA, tlM6, Int.toNat_natCast, natc, nI_1, Int.zero_sub, implies_true, not_false_eq_true, f.1, mr_25 f, mk_63 f, ml_63 f, mr_26 f, mk_64 f, ml_64 f, mr_34 f, mk_65 f, ml_65 f, mr_35 f, mk_66 f, ml_66 f, hp, hpI, htI, q1, q2, i63, e1]
      exact step
    · rw [hn] at e1 step
      simp only [if_true] at e1 step
      simp only [↓forall_eq, ↓inB_iff, gK_hU, gL_hU, gR_hU, gIh, gJh, pI_hU, pJ_hU, hU_hU, uI_app, uJ_app, and_true, true_and, and_false, false_and, and_self, true_implies, false_implies, not_true, not_false_iff, if_true, if_false, eq_self, Nat.reduceLeDiff, Nat.reduceEqDiff, reduceCtorEq, i32c, ti0, ti1, tiM, Int.natCast_nonneg, Int.reduceEq, Int.reduceLE, Int.reduceLT, Int.reduceNeg, tl_i, Int32.reduceToInt, Int64.reduceToInt, tiA, tlM6, Int.toNat_natCast, natc, nI_1, Int.zero_sub, implies_true, not_false_eq_true, f.1, mr_25 f, mk_63 f, ml_63 f, mr_26 f, mk_64 f, ml_64 f, mr_34 f, mk_65 f, ml_65 f, mr_35 f, mk_66 f, ml_66 f, hp, hpI, htI, q1, q2, i63, e1]
      exact step
theorem m_sum {K : Int32 → aH → Prop} {p to : Nat} {E : List Tm} (f : MF g) (h2 : to ≤ 7200) (h1 : p + mL E ≤ to) (h3 : p + mL E < to → 4 < (I 63 (p + mL E)).toInt) (he : encE (I 63) (I 64) p E)
    (k : ∀ (I2 : Nat → Nat → Int32), sumI I I2 → I2 44 36 = nI (p + mL E) → K (eV (I 65) (I 66) E) (hU g I2 J)) : CI (d + 1) 146 [vR 44, vI (nI p), vI (nI to)] (hU g I J) K X := by
  cases E with
  | nil => exact he.elim
  | cons t ts =>
    obtain ⟨⟨e0, e1, e2, e3⟩, e4⟩ := he
    have hl : mL (t :: ts) = 1 + 2 * ts.length := by unfold mL; simp only [List.length_cons]; omega
    rw [hl] at h1 h3 k
    refine m146 ?_
    simp only [↓forall_eq, ↓inB_iff, gK_hU, gL_hU, gR_hU, gIh, gJh, pI_hU, pJ_hU, hU_hU, uI_app, uJ_app, and_true, true_and, and_false, false_and, and_self, true_implies, false_implies, not_true, not_false_iff, if_true, if_false, eq_self, Nat.reduceLeDiff, Nat.reduceEqDiff, reduceCtorEq, i32c, ti0, ti1, tiM, Int.natCast_nonneg, Int.reduceEq, Int.reduceLE, Int.reduceLT, Int.reduceNeg, tl_i, Int32.reduceToInt, Int64.reduceToInt, tiA, tlM6, Int.toNat_natCast, natc, nI_1, Int.zero_sub, implies_true, not_false_eq_true, f.1, mr_25 f, mk_63 f, ml_63 f, mr_26 f, mk_64 f, ml_64 f, mr_34 f, mk_65 f, ml_65 f, mr_35 f, mk_66 f, ml_66 f]
    refine m_term (ab := false) (sg := false) (y := 0) f (sumI_up sumI_refl) (uI_same _ _ _ _) (by omega) h2 e1 e2 e3 fun I2 z s2 p2 hz => ?_
    have hr := tV_rng (I 65) (I 66) t
    have hz2 : z.toInt = tS (I 65) (I 66) t := by
      have e9 : (if false = true then (-1 : Int32) else 1).toInt64.toInt = 1 := rfl
      have h0 : (0 : Int64).toInt = 0 := rfl
      have hm : ((if false = true then (-1 : Int32) else 1).toInt64 * (tV (I 65) (I 66) t).toInt64).toInt = (tV (I 65) (I 66) t).toInt := by
        rw [tl_mul (by rw [e9, tl_i]; omega) (by rw [e9, tl_i]; omega), e9, tl_i]; omega
      rw [hz, tl_add (by rw [hm, h0]; omega) (by rw [hm, h0]; omega), hm, h0]
      unfold tS
      rw [if_neg (by rw [e0]; decide)]; omega
    have hts : -2147483648 ≤ tS (I 65) (I 66) t ∧ tS (I 65) (I 66) t ≤ 2147483648 := by unfold tS; split <;> omega
    refine m_rest f h2 ts (p + 1) z _ false I2 s2 p2 (by omega) (fun w => by have := h3 (by omega); rw [show p + 1 + 2 * ts.length = p + (1 + 2 * ts.length) by omega]; exact this) e4 (by omega) (by omega) (fun I3 s3 p3 => ?_)
    have := k I3 s3 (by rw [p3]; congr 1; omega)
    unfold eV at this
    simp only [eA, eS] at this
    rw [hz2, Bool.false_or]
    exact this
end MSM
