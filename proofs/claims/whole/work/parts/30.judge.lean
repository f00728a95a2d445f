/-! CONDITIONS: the class's judge, applies, isBroken, worth -/
section JUD
variable {it rg : Nat → Int32} {d F sA aA n ai ri : Nat} {h : aH} {X : Nat → aH → Prop}
/-- how two numbers stand: 0 unknown, 1 less, 2 equal, 4 greater -/
def oc (a b : Int32) : Int32 := if a.toInt = -2000000 ∨ b.toInt = -2000000 then 0 else if a.toInt = b.toInt then 2 else if a.toInt < b.toInt then 1 else 4
def cO (it rg : Nat → Int32) (c : Cmp) : Int32 := oc (eV it rg c.1) (eV it rg c.2.2.1)
def cT (it rg : Nat → Int32) (c : Cmp) : Bool := decide ((c.2.1 &&& cO it rg c).toInt ≠ 0)
def cN (it rg : Nat → Int32) (c : Cmp) : Bool := decide ((cO it rg c).toInt = 0)
/-- holds, lacks -/
def jf (it rg : Nat → Int32) : List Cmp → Bool → Bool → Bool → Bool × Bool
  | [], hb, lb, _ => (hb, lb)
  | c :: cs, hb, lb, row => if c.2.2.2 = true then jf it rg cs hb (lb || cN it rg c) (row && cT it rg c) else jf it rg cs (hb || (row && cT it rg c)) (lb || cN it rg c) true
def rB (a b : Bool) : Int32 := if a = true then (if b = true then 3 else 1) else (if b = true then 2 else 0)
def bI (a : Bool) : Int32 := if a = true then 1 else 0
theorem bI0 {a : Bool} : (bI a).toInt = 0 ↔ a = false := by cases a <;> decide
theorem bI1 {a : Bool} : (bI a).toInt = 1 ↔ a = true := by cases a <;> decide
def encCC (S Am : Nat → Int32) : Nat → List Cmp → Prop
  | _, [] => True
  | i, c :: cs => (encC S Am i c.1 ∧ S (i + c.1.length) = 5 ∧ Am (i + c.1.length) = c.2.1) ∧ (encC S Am (i + c.1.length + 1) c.2.2.1 ∧ S (i + c.1.length + 1 + c.2.2.1.length) = (if c.2.2.2 = true then 6 else 7)) ∧ encCC S Am (i + c.1.length + 1 + c.2.2.1.length + 1) cs
def lenC : List Cmp → Nat
  | [] => 0
  | c :: cs => c.1.length + 1 + c.2.2.1.length + 1 + lenC cs
theorem outcome_br {K : Int32 → aH → Prop} {a b : Int32} : CI d 130 [vR F, vI a, vI b] h K X ↔ K (oc a b) h := by
  refine CI_iff fun K X w => m130 ?_
  unfold oc at w
  refine ⟨fun c1 => by rw [if_pos (Or.inl c1)] at w; exact w, fun c1 => ⟨fun c2 => by rw [if_pos (Or.inr c2)] at w; exact w, fun c2 => ?_⟩⟩
  rw [if_neg (by omega)] at w
  refine ⟨fun c3 => by rw [if_pos c3] at w; exact w, fun c3 => ?_⟩
  rw [if_neg c3] at w
  exact ⟨fun c4 => by rw [if_pos c4] at w; exact w, fun c4 => by rw [if_neg c4] at w; exact w⟩
theorem cSt_le {t : Tm} (h3 : tOK t) : 0 ≤ (cSt t).toInt ∧ (cSt t).toInt ≤ 4 := by
  obtain ⟨neg, s, x⟩ := t
  have := h3.1
  simp only at this
  unfold cSt
  simp only
  split
  · decide
  · rw [ti_n (by split <;> omega)]
    cases neg
    · simp only [Bool.false_eq_true, if_false]; omega
    · simp only [if_true]; omega
theorem c_jrun {K : Int32 → aH → Prop} {e : Nat} {l5 l6 l7 : Int32} {l8 : Int64} (v : evC h F sA aA n ai ri it rg) (b1 : bndI 20 it) (b2 : bndI 6 rg) (he9 : e ≤ n) :
    ∀ (ts : List Tm) (k : Nat) (y : Int64), k + ts.length < e → encC (gI h sA) (gI h aA) k ts → y.toInt ≤ 1099511627776 * 1200 - 1099511627776 * (ts.length : Int) → -(1000000 * (1200 - (ts.length : Int))) ≤ y.toInt →
      (∀ z : Int64, z.toInt = y.toInt + sI it rg ts → Wp (d + 1) 132 (18, [some (vR F), none, some (vI (nI e)), some (vR ai), some (vR ri), some (vI l5), some (vI l6), some (vI l7), some (vL l8), none, some (vL z), none, some (vI (nI (k + ts.length))), none], [], h) (RI K X)) →
      Wp (d + 1) 132 (18, [some (vR F), none, some (vI (nI e)), some (vR ai), some (vR ri), some (vI l5), some (vI l6), some (vI l7), some (vL l8), none, some (vL y), none, some (vI (nI k)), none], [], h) (RI K X) := by
  have v' := v
  obtain ⟨⟨v1, v2, v3, v4⟩, ⟨v5, v6, v7, v8, v9⟩, ⟨v10, v11, v12, v13⟩, v14, v15⟩ := v'
  have heI : (nI e).toInt = e := ti_n (by omega)
  have hnI : (nI n).toInt = n := ti_n (by omega)
  intro ts
  induction ts with
  | nil =>
    intro k y hk he y2 y3 kk
    exact kk y (by simp [sI])
  | cons t ts ih =>
    intro k y hk he y2 y3 kk
    obtain ⟨⟨e1, e2, e3⟩, e4⟩ := he
    simp only [List.length_cons] at hk y2 y3
    have hkI : (nI k).toInt = k := ti_n (by omega)
    have hkm : (k : Int) < e := by omega
    have hkn : (k : Int) < n := by omega
    have hti : -1000000 ≤ tI it rg t ∧ tI it rg t ≤ 1099511627776 := by
      unfold tI
      split
      · omega
      · rename_i q; have := tS_b e3 b1 b2 q; omega
    have hst := cSt_le e3
    have q5 : ¬ (cSt t).toInt = 5 := by omega
    have q6 : ¬ (cSt t).toInt = 6 := by omega
    have q7 : ¬ (cSt t).toInt = 7 := by omega
    refine w132_18 ?_
    simp only [↓forall_eq, ↓inB_iff, gK_hU, gL_hU, gR_hU, gIh, gJh, pI_hU, pJ_hU, hU_hU, uI_app, uJ_app, and_true, true_and, and_false, false_and, and_self, true_implies, false_implies, not_true, not_false_iff, if_true, if_false, eq_self, Nat.reduceLeDiff, Nat.reduceEqDiff, reduceCtorEq, i32c, ti0, ti1, tiM, Int.natCast_nonneg, Int.reduceEq, Int.reduceLE, Int.reduceLT, Int.reduceNeg, tl_i, Int32.reduceToInt, Int64.reduceToInt, tiA, tlM6, Int.toNat_natCast, natc, nI_1, Int.zero_sub, implies_true, not_false_eq_true, v1, v2, v3, v5, v7, hkI, hkm, hkn, heI, hnI, e1, q5, q6, q7]
    refine c_term v b1 b2 (by omega) e1 e2 e3 fun z hz => ?_
    have hyz : (y + z).toInt = y.toInt + tI it rg t := by rw [tl_add (by omega) (by omega), hz]
    refine ih (k + 1) (y + z) (by omega) e4 (by omega) (by omega) (fun w hw => ?_)
    have := kk w (by rw [hw, hyz]; simp only [sI]; omega)
    rw [List.length_cons, show k + (ts.length + 1) = k + 1 + ts.length by omega] at this
    exact this
theorem lenC_cons (c : Cmp) (cs : List Cmp) : lenC (c :: cs) = c.1.length + 1 + c.2.2.1.length + 1 + lenC cs := rfl
theorem rB_or (a b x y : Bool) : (rB a b ||| (if x = true then 2 else 0)) ||| (if y = true then 1 else 0) = rB (a || y) (b || x) := by cases a <;> cases b <;> cases x <;> cases y <;> decide
theorem rB_or2 (a b x : Bool) : rB a b ||| (if x = true then 2 else 0) = rB a (b || x) := by cases a <;> cases b <;> cases x <;> decide
theorem c_judgew {K : Int32 → aH → Prop} {e : Nat} (v : evC h F sA aA n ai ri it rg) (b1 : bndI 20 it) (b2 : bndI 6 rg) (he9 : e ≤ n) :
    ∀ (cs : List Cmp) (k : Nat) (l6 : Int32) (l8 : Int64) (hb lb row : Bool), k + lenC cs = e → encCC (gI h sA) (gI h aA) k cs → K (rB (jf it rg cs hb lb row).1 (jf it rg cs hb lb row).2) h →
      Wp (d + 1) 132 (18, [some (vR F), none, some (vI (nI e)), some (vR ai), some (vR ri), some (vI (rB hb lb)), some (vI l6), some (vI (bI row)), some (vL l8), none, some (vL 0), none, some (vI (nI k)), none], [], h) (RI K X) := by
  have v' := v
  obtain ⟨⟨v1, v2, v3, v4⟩, ⟨v5, v6, v7, v8, v9⟩, ⟨v10, v11, v12, v13⟩, v14, v15⟩ := v'
  have heI : (nI e).toInt = e := ti_n (by omega)
  have hnI : (nI n).toInt = n := ti_n (by omega)
  intro cs
  induction cs with
  | nil =>
    intro k l6 l8 hb lb row hk he kk
    have hke : k = e := by simpa [lenC] using hk
    subst hke
    refine w132_18 ⟨fun c => absurd c (Int.lt_irrefl _), fun _ => kk⟩
  | cons c cs ih =>
    intro k l6 l8 hb lb row hk he kk
    obtain ⟨⟨f1, f2, f3⟩, ⟨f4, f5⟩, f6⟩ := he
    rw [lenC_cons] at hk
    refine c_jrun v b1 b2 he9 c.1 k 0 (by omega) f1 (by rw [show (0 : Int64).toInt = 0 from rfl]; omega) (by rw [show (0 : Int64).toInt = 0 from rfl]; omega) fun z hz => ?_
    rw [show (0 : Int64).toInt = 0 from rfl, Int.zero_add] at hz
    have k1I : (nI (k + c.1.length)).toInt = ((k + c.1.length : Nat) : Int) := ti_n (by omega)
    have k1e : ((k + c.1.length : Nat) : Int) < e := by omega
    have k1n : ((k + c.1.length : Nat) : Int) < n := by omega
    refine w132_18 ?_
    have t5 : (5 : Int32).toInt = 5 := rfl
    simp only [↓forall_eq, ↓inB_iff, gK_hU, gL_hU, gR_hU, gIh, gJh, pI_hU, pJ_hU, hU_hU, uI_app, uJ_app, and_true, true_and, and_false, false_and, and_self, true_implies, false_implies, not_true, not_false_iff, if_true, if_false, eq_self, Nat.reduceLeDiff, Nat.reduceEqDiff, reduceCtorEq, i32c, ti0, ti1, tiM, Int.natCast_nonneg, Int.reduceEq, Int.reduceLE, Int.reduceLT, Int.reduceNeg, tl_i, Int32.reduceToInt, Int64.reduceToInt, tiA, tlM6, Int.toNat_natCast, natc, nI_1, Int.zero_sub, implies_true, not_false_eq_true, v1, v2, v3, v4, v5, v6, v7, v8, k1I, k1e, k1n, heI, hnI, f2, f3]
    refine c_jrun v b1 b2 he9 c.2.2.1 (k + c.1.length + 1) 0 (by omega) f4 (by rw [show (0 : Int64).toInt = 0 from rfl]; omega) (by rw [show (0 : Int64).toInt = 0 from rfl]; omega) fun w hw => ?_
    rw [show (0 : Int64).toInt = 0 from rfl, Int.zero_add] at hw
    have k2I : (nI (k + c.1.length + 1 + c.2.2.1.length)).toInt = ((k + c.1.length + 1 + c.2.2.1.length : Nat) : Int) := ti_n (by omega)
    have k2e : ((k + c.1.length + 1 + c.2.2.1.length : Nat) : Int) < e := by omega
    have k2n : ((k + c.1.length + 1 + c.2.2.1.length : Nat) : Int) < n := by omega
    have g1 : (if sI it rg c.1 < -1000000 ∨ 1000000 < sI it rg c.1 then -2000000 else iZ (sI it rg c.1)) = eV it rg c.1 := (eV_of b1 b2 f1 (by omega)).symm
    have g2 : (if sI it rg c.2.2.1 < -1000000 ∨ 1000000 < sI it rg c.2.2.1 then -2000000 else iZ (sI it rg c.2.2.1)) = eV it rg c.2.2.1 := (eV_of b1 b2 f4 (by omega)).symm
    have g3 : oc (eV it rg c.1) (eV it rg c.2.2.1) = cO it rg c := rfl
    have tail : Wp (d + 1) 132 (88, [some (vR F), none, some (vI (nI e)), some (vR ai), some (vR ri), some (vI (rB hb lb)), some (vI c.2.1), some (vI (bI row)), some (vL z), none, some (vL w), none, some (vI (nI (k + c.1.length + 1 + c.2.2.1.length))), none], [], h) (RI K X) := by
      refine w132_88 ?_
      simp only [↓forall_eq, ↓inB_iff, gK_hU, gL_hU, gR_hU, gIh, gJh, pI_hU, pJ_hU, hU_hU, uI_app, uJ_app, and_true, true_and, and_false, false_and, and_self, true_implies, false_implies, not_true, not_false_iff, if_true, if_false, eq_self, Nat.reduceLeDiff, Nat.reduceEqDiff, reduceCtorEq, i32c, ti0, ti1, tiM, Int.natCast_nonneg, Int.reduceEq, Int.reduceLE, Int.reduceLT, Int.reduceNeg, tl_i, Int32.reduceToInt, Int64.reduceToInt, tiA, tlM6, Int.toNat_natCast, natc, nI_1, Int.zero_sub, implies_true, not_false_eq_true, v1, v2, ↓closed_br, ↓outcome_br, hz, hw, g1, g2, g3]
      have main : ∀ x : Int32, x = (if cN it rg c = true then 2 else 0) → Wp (d + 1) 132 (121, [some (vR F), none, some (vI (nI e)), some (vR ai), some (vR ri), none, some (vI c.2.1), some (vI (bI row)), some (vL z), none, some (vL 0), none, some (vI (nI (k + c.1.length + 1 + c.2.2.1.length))), some (vI (cO it rg c))], [vI x, vI (rB hb lb)], h) (RI K X) := fun x hx => by
        rw [jf] at kk
        refine w132_121 ?_
        subst hx
        simp only [↓forall_eq, ↓inB_iff, gK_hU, gL_hU, gR_hU, gIh, gJh, pI_hU, pJ_hU, hU_hU, uI_app, uJ_app, and_true, true_and, and_false, false_and, and_self, true_implies, false_implies, not_true, not_false_iff, if_true, if_false, eq_self, Nat.reduceLeDiff, Nat.reduceEqDiff, reduceCtorEq, i32c, ti0, ti1, tiM, Int.natCast_nonneg, Int.reduceEq, Int.reduceLE, Int.reduceLT, Int.reduceNeg, tl_i, Int32.reduceToInt, Int64.reduceToInt, tiA, tlM6, Int.toNat_natCast, natc, nI_1, Int.zero_sub, implies_true, not_false_eq_true, v2, v3, v5, v7, k2I, k2n, f5, rB_or2, bI0]
        have hq : (c.2.1 &&& cO it rg c).toInt = 0 ↔ cT it rg c = false := by unfold cT; simp
        have r0 : ∀ a b : Bool, rB a b ||| 0 = rB a b := by decide
        have r1 : ∀ a b : Bool, rB a b ||| 1 = rB true b := by decide
        simp only [hq, r0, r1]
        have b1' : (1 : Int32) = bI true := rfl
        have b0' : (0 : Int32) = bI false := rfl
        cases hc : c.2.2.2
        · rw [hc] at kk
          simp only [Bool.false_eq_true, if_false] at kk ⊢
          cases hr : row
          · rw [hr] at kk
            simp only [Bool.false_and, Bool.or_false] at kk
            simp only [↓forall_eq, ↓inB_iff, gK_hU, gL_hU, gR_hU, gIh, gJh, pI_hU, pJ_hU, hU_hU, uI_app, uJ_app, and_true, true_and, and_false, false_and, and_self, true_implies, false_implies, not_true, not_false_iff, if_true, if_false, eq_self, Nat.reduceLeDiff, Nat.reduceEqDiff, reduceCtorEq, i32c, ti0, ti1, tiM, Int.natCast_nonneg, Int.reduceEq, Int.reduceLE, Int.reduceLT, Int.reduceNeg, tl_i, Int32.reduceToInt, Int64.reduceToInt, tiA, tlM6, Int.toNat_natCast, natc, nI_1, Int.zero_sub, implies_true, not_false_eq_true]
            exact ih _ _ _ _ _ _ (by omega) f6 kk
          · rw [hr] at kk
            simp only [Bool.true_and] at kk
            cases ht : cT it rg c
            · rw [ht] at kk
              simp only [Bool.or_false] at kk
              simp only [↓forall_eq, ↓inB_iff, gK_hU, gL_hU, gR_hU, gIh, gJh, pI_hU, pJ_hU, hU_hU, uI_app, uJ_app, and_true, true_and, and_false, false_and, and_self, true_implies, false_implies, not_true, not_false_iff, if_true, if_false, eq_self, Nat.reduceLeDiff, Nat.reduceEqDiff, reduceCtorEq, i32c, ti0, ti1, tiM, Int.natCast_nonneg, Int.reduceEq, Int.reduceLE, Int.reduceLT, Int.reduceNeg, tl_i, Int32.reduceToInt, Int64.reduceToInt, tiA, tlM6, Int.toNat_natCast, natc, nI_1, Int.zero_sub, implies_true, not_false_eq_true, Bool.true_eq_false]
              exact ih _ _ _ _ _ _ (by omega) f6 kk
            · rw [ht] at kk
              simp only [Bool.or_true] at kk
              simp only [↓forall_eq, ↓inB_iff, gK_hU, gL_hU, gR_hU, gIh, gJh, pI_hU, pJ_hU, hU_hU, uI_app, uJ_app, and_true, true_and, and_false, false_and, and_self, true_implies, false_implies, not_true, not_false_iff, if_true, if_false, eq_self, Nat.reduceLeDiff, Nat.reduceEqDiff, reduceCtorEq, i32c, ti0, ti1, tiM, Int.natCast_nonneg, Int.reduceEq, Int.reduceLE, Int.reduceLT, Int.reduceNeg, tl_i, Int32.reduceToInt, Int64.reduceToInt, tiA, tlM6, Int.toNat_natCast, natc, nI_1, Int.zero_sub, implies_true, not_false_eq_true, Bool.true_eq_false]
              exact ih _ _ _ _ _ _ (by omega) f6 kk
        · rw [hc] at kk
          simp only [if_true] at kk ⊢
          cases hr : row
          · rw [hr] at kk
            simp only [Bool.false_and] at kk
            simp only [↓forall_eq, ↓inB_iff, gK_hU, gL_hU, gR_hU, gIh, gJh, pI_hU, pJ_hU, hU_hU, uI_app, uJ_app, and_true, true_and, and_false, false_and, and_self, true_implies, false_implies, not_true, not_false_iff, if_true, if_false, eq_self, Nat.reduceLeDiff, Nat.reduceEqDiff, reduceCtorEq, i32c, ti0, ti1, tiM, Int.natCast_nonneg, Int.reduceEq, Int.reduceLE, Int.reduceLT, Int.reduceNeg, tl_i, Int32.reduceToInt, Int64.reduceToInt, tiA, tlM6, Int.toNat_natCast, natc, nI_1, Int.zero_sub, implies_true, not_false_eq_true]
            exact ih _ _ _ _ _ _ (by omega) f6 kk
          · rw [hr] at kk
            simp only [Bool.true_and] at kk
            cases ht : cT it rg c
            · rw [ht] at kk
              simp only [↓forall_eq, ↓inB_iff, gK_hU, gL_hU, gR_hU, gIh, gJh, pI_hU, pJ_hU, hU_hU, uI_app, uJ_app, and_true, true_and, and_false, false_and, and_self, true_implies, false_implies, not_true, not_false_iff, if_true, if_false, eq_self, Nat.reduceLeDiff, Nat.reduceEqDiff, reduceCtorEq, i32c, ti0, ti1, tiM, Int.natCast_nonneg, Int.reduceEq, Int.reduceLE, Int.reduceLT, Int.reduceNeg, tl_i, Int32.reduceToInt, Int64.reduceToInt, tiA, tlM6, Int.toNat_natCast, natc, nI_1, Int.zero_sub, implies_true, not_false_eq_true, Bool.true_eq_false]
              exact ih _ _ _ _ _ _ (by omega) f6 kk
            · rw [ht] at kk
              simp only [↓forall_eq, ↓inB_iff, gK_hU, gL_hU, gR_hU, gIh, gJh, pI_hU, pJ_hU, hU_hU, uI_app, uJ_app, and_true, true_and, and_false, false_and, and_self, true_implies, false_implies, not_true, not_false_iff, if_true, if_false, eq_self, Nat.reduceLeDiff, Nat.reduceEqDiff, reduceCtorEq, i32c, ti0, ti1, tiM, Int.natCast_nonneg, Int.reduceEq, Int.reduceLE, Int.reduceLT, Int.reduceNeg, tl_i, Int32.reduceToInt, Int64.reduceToInt, tiA, tlM6, Int.toNat_natCast, natc, nI_1, Int.zero_sub, implies_true, not_false_eq_true, Bool.true_eq_false]
              exact ih _ _ _ _ _ _ (by omega) f6 kk
      refine ⟨fun c0 => main _ ?_, fun c0 => main _ ?_⟩
      · have : cN it rg c = true := by unfold cN; simpa using c0
        rw [if_pos this]
      · have : ¬ cN it rg c = true := by unfold cN; simpa using c0
        rw [if_neg this]
    refine w132_18 ?_
    cases hc : c.2.2.2
    · rw [hc] at f5
      simp only [Bool.false_eq_true, if_false] at f5
      simp only [↓forall_eq, ↓inB_iff, gK_hU, gL_hU, gR_hU, gIh, gJh, pI_hU, pJ_hU, hU_hU, uI_app, uJ_app, and_true, true_and, and_false, false_and, and_self, true_implies, false_implies, not_true, not_false_iff, if_true, if_false, eq_self, Nat.reduceLeDiff, Nat.reduceEqDiff, reduceCtorEq, i32c, ti0, ti1, tiM, Int.natCast_nonneg, Int.reduceEq, Int.reduceLE, Int.reduceLT, Int.reduceNeg, tl_i, Int32.reduceToInt, Int64.reduceToInt, tiA, tlM6, Int.toNat_natCast, natc, nI_1, Int.zero_sub, implies_true, not_false_eq_true, v1, v2, v3, v4, v5, v6, v7, v8, k2I, k2e, k2n, heI, hnI, f5]
      exact tail
    · rw [hc] at f5
      simp only [if_true] at f5
      simp only [↓forall_eq, ↓inB_iff, gK_hU, gL_hU, gR_hU, gIh, gJh, pI_hU, pJ_hU, hU_hU, uI_app, uJ_app, and_true, true_and, and_false, false_and, and_self, true_implies, false_implies, not_true, not_false_iff, if_true, if_false, eq_self, Nat.reduceLeDiff, Nat.reduceEqDiff, reduceCtorEq, i32c, ti0, ti1, tiM, Int.natCast_nonneg, Int.reduceEq, Int.reduceLE, Int.reduceLT, Int.reduceNeg, tl_i, Int32.reduceToInt, Int64.reduceToInt, tiA, tlM6, Int.toNat_natCast, natc, nI_1, Int.zero_sub, implies_true, not_false_eq_true, v1, v2, v3, v4, v5, v6, v7, v8, k2I, k2e, k2n, heI, hnI, f5]
      exact tail
end JUD
