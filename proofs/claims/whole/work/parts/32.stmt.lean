/-! STATEMENTS: what applies, what is broken, what a let is worth: the class's side -/
section STM
variable {it rg : Nat → Int32} {d n f s ai ri : Nat} {h : aH} {A o : Nat → Nat} {X : Nat → aH → Prop}
def apF (it rg : Nat → Int32) (cs : List Cmp) : Bool := cs.isEmpty || (jf it rg cs false false true).1
def brF (it rg : Nat → Int32) (cs : List Cmp) : Bool := !(jf it rg cs false false true).1 && !(jf it rg cs false false true).2
def wtF (it rg : Nat → Int32) (e : List Tm) (cs : List Cmp) : Int32 := if apF it rg cs = true then eV it rg e else -2000000
/-- a statement's steps in the class -/
def stC (h : aH) (A : Nat → Nat) (f s : Nat) (E : List Tm) (Cn : List Cmp) : Prop := ∃ a, (gI h (A (bF f + 8)) s = nI a ∧ gI h (A (bF f + 9)) s = nI (a + E.length) ∧ gI h (A (bF f + 8)) (s + 1) = nI (a + E.length + lenC Cn)) ∧ a + E.length + lenC Cn ≤ gL h (A (bF f + 1)) ∧ encC (gI h (A (bF f + 1))) (gI h (A (bF f + 2))) a E ∧ encCC (gI h (A (bF f + 1))) (gI h (A (bF f + 2))) (a + E.length) Cn
/-- steps and amounts have one length -/
def lenT (h : aH) (A : Nat → Nat) (f : Nat) : Prop := gL h (A (bF f + 2)) = gL h (A (bF f + 1)) ∧ gL h (A (bF f + 1)) ≤ 1200
/-- items and regs to look at -/
def itT (h : aH) (ai ri : Nat) (it rg : Nat → Int32) : Prop := (gK h ai = 100 ∧ gL h ai = 20 ∧ gK h ri = 100 ∧ gL h ri = 6) ∧ (∀ i, i < 20 → gI h ai i = it i) ∧ ∀ i, i < 6 → gI h ri i = rg i
theorem evC_of (t : TF h A o f) (l : lenT h A f) (v : itT h ai ri it rg) : evC h (A (bF f)) (A (bF f + 1)) (A (bF f + 2)) (gL h (A (bF f + 1))) ai ri it rg :=
  ⟨⟨eF_0 t, kF_0 t, rF_0_0 t, rF_0_1 t⟩, ⟨kF_1 t, kF_2 t, rfl, l.1, l.2⟩, v⟩
theorem judge_br {K : Int32 → aH → Prop} {a : Nat} {cs : List Cmp} (t : TF h A o f) (l : lenT h A f) (v : itT h ai ri it rg) (b1 : bndI 20 it) (b2 : bndI 6 rg) (hc : encCC (gI h (A (bF f + 1))) (gI h (A (bF f + 2))) a cs) (hl : a + lenC cs ≤ gL h (A (bF f + 1))) : CI (d + 1) 132 [vR (A (bF f)), vI (nI a), vI (nI (a + lenC cs)), vR ai, vR ri] h K X ↔ K (rB (jf it rg cs false false true).1 (jf it rg cs false false true).2) h :=
  CI_iff fun K X w => m132 (c_judgew (evC_of t l v) b1 b2 hl cs a 0 0 false false true rfl hc w)
theorem lenC_0 {cs : List Cmp} : lenC cs = 0 ↔ cs = [] := by
  cases cs with
  | nil => simp [lenC]
  | cons c cs => simp [lenC]
theorem rB_1 : ∀ a b : Bool, (rB a b &&& 1).toInt = 0 ↔ a = false := by decide
theorem rB_0 : ∀ a b : Bool, (rB a b).toInt = 0 ↔ (a = false ∧ b = false) := by decide
theorem applies_br {K : Int32 → aH → Prop} {E : List Tm} {Cn : List Cmp} (t : TF h A o f) (l : lenT h A f) (v : itT h ai ri it rg) (b1 : bndI 20 it) (b2 : bndI 6 rg) (hs : s < 20) (c : stC h A f s E Cn) : CI (d + 2) 133 [vR (A (bF f)), vI (nI s), vR ai, vR ri] h K X ↔ K (bI (apF it rg Cn)) h := by
  obtain ⟨a, ⟨c1, c2, c3⟩, c4, c5, c6⟩ := c
  have l2 := l.2
  refine CI_iff fun K X w => m133 ?_
  have hsI : (nI s).toInt = s := ti_n (by omega)
  have hs1I : (nI (s + 1)).toInt = ((s + 1 : Nat) : Int) := ti_n (by omega)
  have q1 : (s : Int) < 20 := by omega
  have q2 : ((s + 1 : Nat) : Int) < 21 := by omega
  have z1 : (nI (a + E.length)).toInt = ((a + E.length : Nat) : Int) := ti_n (by omega)
  have z2 : (nI (a + E.length + lenC Cn)).toInt = ((a + E.length + lenC Cn : Nat) : Int) := ti_n (by omega)
  simp only [↓forall_eq, ↓inB_iff, gK_hU, gL_hU, gR_hU, gIh, gJh, pI_hU, pJ_hU, hU_hU, uI_app, uJ_app, and_true, true_and, and_false, false_and, and_self, true_implies, false_implies, not_true, not_false_iff, if_true, if_false, eq_self, Nat.reduceLeDiff, Nat.reduceEqDiff, reduceCtorEq, i32c, ti0, ti1, tiM, Int.natCast_nonneg, Int.reduceEq, Int.reduceLE, Int.reduceLT, Int.reduceNeg, tl_i, Int32.reduceToInt, Int64.reduceToInt, tiA, tlM6, Int.toNat_natCast, natc, nI_1, Int.zero_sub, implies_true, not_false_eq_true, kF_0 t, rF_0_8 t, kF_9 t, lF_9 t, rF_0_7 t, kF_8 t, lF_8 t, hsI, hs1I, q1, q2, c2, c3, eF_0 t, ↓judge_br t l v b1 b2 c6 c4, rB_1, z1, z2]
  refine ⟨fun q => ?_, fun q => ⟨fun q3 => ?_, fun q3 => ?_⟩⟩
  · have : Cn = [] := lenC_0.mp (by omega)
    subst this
    exact w
  · have : apF it rg Cn = false := by
      unfold apF
      cases Cn with
      | nil => exact absurd (by simp [lenC]) q
      | cons c cs => simpa using q3
    rw [this] at w; exact w
  · have : apF it rg Cn = true := by
      unfold apF
      cases Cn with
      | nil => exact absurd (by simp [lenC]) q
      | cons c cs => simpa using q3
    rw [this] at w; exact w
theorem isBroken_br {K : Int32 → aH → Prop} {E : List Tm} {Cn : List Cmp} (t : TF h A o f) (l : lenT h A f) (v : itT h ai ri it rg) (b1 : bndI 20 it) (b2 : bndI 6 rg) (hs : s < 20) (c : stC h A f s E Cn) : CI (d + 2) 135 [vR (A (bF f)), vI (nI s), vR ai, vR ri] h K X ↔ K (bI (brF it rg Cn)) h := by
  obtain ⟨a, ⟨c1, c2, c3⟩, c4, c5, c6⟩ := c
  refine CI_iff fun K X w => m135 ?_
  have hsI : (nI s).toInt = s := ti_n (by omega)
  have hs1I : (nI (s + 1)).toInt = ((s + 1 : Nat) : Int) := ti_n (by omega)
  have q1 : (s : Int) < 20 := by omega
  have q2 : ((s + 1 : Nat) : Int) < 21 := by omega
  simp only [↓forall_eq, ↓inB_iff, gK_hU, gL_hU, gR_hU, gIh, gJh, pI_hU, pJ_hU, hU_hU, uI_app, uJ_app, and_true, true_and, and_false, false_and, and_self, true_implies, false_implies, not_true, not_false_iff, if_true, if_false, eq_self, Nat.reduceLeDiff, Nat.reduceEqDiff, reduceCtorEq, i32c, ti0, ti1, tiM, Int.natCast_nonneg, Int.reduceEq, Int.reduceLE, Int.reduceLT, Int.reduceNeg, tl_i, Int32.reduceToInt, Int64.reduceToInt, tiA, tlM6, Int.toNat_natCast, natc, nI_1, Int.zero_sub, implies_true, not_false_eq_true, kF_0 t, rF_0_8 t, kF_9 t, lF_9 t, rF_0_7 t, kF_8 t, lF_8 t, hsI, hs1I, q1, q2, c2, c3, eF_0 t, ↓judge_br t l v b1 b2 c6 c4, rB_0]
  refine ⟨fun q => ?_, fun q => ?_⟩
  · have : brF it rg Cn = true := by unfold brF; rw [q.1, q.2]; rfl
    rw [this] at w; exact w
  · have : brF it rg Cn = false := by
      unfold brF
      revert q
      cases (jf it rg Cn false false true).1 <;> cases (jf it rg Cn false false true).2 <;> simp
    rw [this] at w; exact w
theorem worth_br {K : Int32 → aH → Prop} {E : List Tm} {Cn : List Cmp} (t : TF h A o f) (l : lenT h A f) (v : itT h ai ri it rg) (b1 : bndI 20 it) (b2 : bndI 6 rg) (hs : s < 20) (c : stC h A f s E Cn) : CI (d + 3) 134 [vR (A (bF f)), vI (nI s), vR ai, vR ri] h K X ↔ K (wtF it rg E Cn) h := by
  have c' := c
  obtain ⟨a, ⟨c1, c2, c3⟩, c4, c5, c6⟩ := c
  refine CI_iff fun K X w => m134 ?_
  have l2 := l.2
  have hsI : (nI s).toInt = s := ti_n (by omega)
  have q2 : (s : Int) < 21 := by omega
  simp only [↓forall_eq, ↓inB_iff, gK_hU, gL_hU, gR_hU, gIh, gJh, pI_hU, pJ_hU, hU_hU, uI_app, uJ_app, and_true, true_and, and_false, false_and, and_self, true_implies, false_implies, not_true, not_false_iff, if_true, if_false, eq_self, Nat.reduceLeDiff, Nat.reduceEqDiff, reduceCtorEq, i32c, ti0, ti1, tiM, Int.natCast_nonneg, Int.reduceEq, Int.reduceLE, Int.reduceLT, Int.reduceNeg, tl_i, Int32.reduceToInt, Int64.reduceToInt, tiA, tlM6, Int.toNat_natCast, natc, nI_1, Int.zero_sub, implies_true, not_false_eq_true, kF_0 t, eF_0 t, rF_0_7 t, kF_8 t, lF_8 t, hsI, q2, c1, ↓applies_br t l v b1 b2 hs c', bI0]
  unfold wtF at w
  refine ⟨fun q => ?_, fun q => ?_⟩
  · rw [if_neg (by rw [q]; decide)] at w; exact w
  · rw [if_pos (by simpa using q)] at w
    rw [eV_of b1 b2 c5 (by omega)] at w
    refine c_worthw (evC_of t l v) b1 b2 ⟨rF_0_8 t, kF_9 t, lF_9 t, hs, c2⟩ (by omega) E a 0 rfl c5 (by decide) (by rw [show (0 : Int64).toInt = 0 from rfl]; omega) (by rw [show (0 : Int64).toInt = 0 from rfl]; omega) (fun z hz => ?_)
    rw [show (0 : Int64).toInt = 0 from rfl, Int.zero_add] at hz
    rw [hz]; exact w
end STM
