/-! THE TAPE: feed, trim -/
section TAP
theorem bv8 (X : BitVec 32) (s : Nat) (hs : s ≤ 24) : (X.sshiftRight s).setWidth 8 = (X >>> s).setWidth 8 := by
  apply BitVec.eq_of_getLsbD_eq
  intro i hi
  rw [BitVec.getLsbD_setWidth, BitVec.getLsbD_setWidth, BitVec.getLsbD_sshiftRight, BitVec.getLsbD_ushiftRight, if_pos (by omega)]
  have q : ¬ (32 ≤ i) := by omega
  simp [q]
theorem bv8a (X : BitVec 32) : (X &&& 255#32).setWidth 8 = X.setWidth 8 := by
  apply BitVec.eq_of_toNat_eq
  rw [BitVec.toNat_setWidth, BitVec.toNat_setWidth, BitVec.toNat_and]
  have : (255#32).toNat = 2 ^ 8 - 1 := by decide
  rw [this, Nat.and_two_pow_sub_one_eq_mod]
  omega
theorem by_eq (x : Int32) (s : Nat) (hs : s ≤ 24) (y : Int32) (hy : y = nI s) : (x >>> (y &&& 31)).toInt8 = (aUshr x y &&& 255).toInt8 := by
  have e1 : y &&& 31 = nI s := by
    subst hy
    have : ∀ s : Fin 25, nI s.val &&& 31 = nI s.val := by decide
    exact this ⟨s, by omega⟩
  have e2 : y.toUInt32 &&& Int32.toUInt32 31 = UInt32.ofNat s := by
    subst hy
    have : ∀ s : Fin 25, (nI s.val).toUInt32 &&& Int32.toUInt32 31 = UInt32.ofNat s.val := by decide
    exact this ⟨s, by omega⟩
  have z : ∀ s : Fin 25, ((nI s.val).toBitVec.smod 32).toNat = s.val ∧ ((UInt32.ofNat s.val).toBitVec % 32#32).toNat = s.val := by decide
  obtain ⟨z1, z2⟩ := z ⟨s, by omega⟩
  unfold aUshr
  rw [e1, e2]
  apply Int8.toBitVec_inj.mp
  have t : ∀ w : Int32, w.toInt8.toBitVec = w.toBitVec.setWidth 8 := fun w => by
    rw [Int32.toBitVec_toInt8]
    exact BitVec.signExtend_eq_setWidth_of_le _ (by decide)
  rw [t, t, Int32.toBitVec_and]
  have a1 : (x >>> nI s).toBitVec = x.toBitVec.sshiftRight s := by
    rw [Int32.toBitVec_shiftRight]
    show x.toBitVec.sshiftRight _ = _
    rw [z1]
  have a2 : (x.toUInt32 >>> UInt32.ofNat s).toInt32.toBitVec = x.toBitVec >>> s := by
    show (x.toUInt32 >>> UInt32.ofNat s).toBitVec = _
    rw [UInt32.toBitVec_shiftRight]
    show x.toBitVec >>> ((UInt32.ofNat s).toBitVec % 32#32) = _
    rw [BitVec.ushiftRight_eq', z2]
  have a3 : (255 : Int32).toBitVec = 255#32 := rfl
  rw [a1, a2, a3, bv8a, bv8 _ _ hs]
theorem and255 (x : Int32) : 0 ≤ (x &&& 255).toInt ∧ (x &&& 255).toInt ≤ 255 := by
  have e : (x &&& 255).toBitVec.toNat ≤ 255 := by
    rw [Int32.toBitVec_and, BitVec.toNat_and]
    exact Nat.le_trans Nat.and_le_right (by decide)
  have e2 : (x &&& 255).toInt = (x &&& 255).toBitVec.toNat := BitVec.toInt_eq_toNat_of_lt (by omega)
  omega
/-- a byte of a number, as the model has it -/
def cB (x : Int32) (t : Nat) : Int32 := aUshr x (24 - 8 * nI t) &&& 255
def fB (a b c d e : Int32) (k : Nat) : Int32 := if k < 4 then cB a k else if k < 8 then cB b (k - 4) else if k < 12 then cB c (k - 8) else if k < 16 then cB d (k - 12) else cB e (k - 16)
theorem i8_id (b : Int8) : b.toInt32.toInt8 = b := by simp
variable {d L : Nat} {h h1 h2 : aH} {A A1 o o1 : Nat → Nat} {X : Nat → aH → Prop} {M : Nat → Nat → Int32} {I : Nat → Nat → Int32} {J : Nat → Nat → Int64} {C : Nat → Prop}
theorem c_tput {x : Int32} {K : aH → Prop} (f : CF h) (hI : I 17 1 = nI L) (hL : L + 4 ≤ 1200)
    (k : ∀ I' : Nat → Nat → Int32, (∀ a, a ≠ 17 → a ≠ 18 → I' a = I a) → (∀ i, I' 18 i = if L ≤ i ∧ i < L + 4 then (cB x (i - L)).toInt8.toInt32 else I 18 i) → I' 17 1 = nI (L + 4) → K (hU h I' J)) : CV d 58 [vR 17, vI x] (hU h I J) K X := by
  have hn : ∀ j, j < 5 → (nI (L + j)).toInt = ((L + j : Nat) : Int) := fun j hj => ti_n (by omega)
  have n0 : (nI L).toInt = (L : Int) := ti_n (by omega)
  have n1 := hn 1 (by omega)
  have n2 := hn 2 (by omega)
  have n3 := hn 3 (by omega)
  have s0 : (24 : Int32) + -8 = 16 := by decide
  have s1 : (16 : Int32) + -8 = 8 := by decide
  have s2 : (8 : Int32) + -8 = 0 := by decide
  have s3 : (0 : Int32) + -8 = -8 := by decide
  have m8 : (-8 : Int32).toInt = -8 := rfl
  have b0 : (x >>> ((24 : Int32) &&& 31)).toInt8.toInt32 = (cB x 0).toInt8.toInt32 := by rw [by_eq x 24 (by omega) 24 rfl]; rfl
  have b1 : (x >>> ((16 : Int32) &&& 31)).toInt8.toInt32 = (cB x 1).toInt8.toInt32 := by rw [by_eq x 16 (by omega) 16 rfl]; rfl
  have b2 : (x >>> ((8 : Int32) &&& 31)).toInt8.toInt32 = (cB x 2).toInt8.toInt32 := by rw [by_eq x 8 (by omega) 8 rfl]; rfl
  have b3 : (x >>> ((0 : Int32) &&& 31)).toInt8.toInt32 = (cB x 3).toInt8.toInt32 := by rw [by_eq x 0 (by omega) 0 rfl]; rfl
  refine m58 (w58_3 ?_)
  simp only [↓forall_eq, ↓inB_iff, gK_hU, gL_hU, gR_hU, gIh, gJh, pI_hU, pJ_hU, hU_hU, uI_app, uJ_app, and_true, true_and, and_false, false_and, and_self, true_implies, false_implies, not_true, not_false_iff, if_true, if_false, eq_self, Nat.reduceLeDiff, Nat.reduceEqDiff, reduceCtorEq, i32c, ti0, ti1, tiM, Int.natCast_nonneg, Int.reduceEq, Int.reduceLE, Int.reduceLT, Int.reduceNeg, tl_i, Int32.reduceToInt, Int64.reduceToInt, tiA, tlM6, Int.toNat_natCast, natc, nI_1, Int.zero_sub, implies_true, not_false_eq_true, ck_17 f, cr_17_0 f, ck_18 f, cl_18 f, hI, n0, s0, i8_id]
  refine ⟨fun _ => ⟨by omega, w58_3 ?_⟩, fun c => absurd (by omega) c⟩
  simp only [↓forall_eq, ↓inB_iff, gK_hU, gL_hU, gR_hU, gIh, gJh, pI_hU, pJ_hU, hU_hU, uI_app, uJ_app, and_true, true_and, and_false, false_and, and_self, true_implies, false_implies, not_true, not_false_iff, if_true, if_false, eq_self, Nat.reduceLeDiff, Nat.reduceEqDiff, reduceCtorEq, i32c, ti0, ti1, tiM, Int.natCast_nonneg, Int.reduceEq, Int.reduceLE, Int.reduceLT, Int.reduceNeg, tl_i, Int32.reduceToInt, Int64.reduceToInt, tiA, tlM6, Int.toNat_natCast, natc, nI_1, Int.zero_sub, implies_true, not_false_eq_true, ck_17 f, cr_17_0 f, ck_18 f, cl_18 f, hI, n1, s1, i8_id]
  refine ⟨fun _ => ⟨by omega, w58_3 ?_⟩, fun c => absurd (by omega) c⟩
  simp only [↓forall_eq, ↓inB_iff, gK_hU, gL_hU, gR_hU, gIh, gJh, pI_hU, pJ_hU, hU_hU, uI_app, uJ_app, and_true, true_and, and_false, false_and, and_self, true_implies, false_implies, not_true, not_false_iff, if_true, if_false, eq_self, Nat.reduceLeDiff, Nat.reduceEqDiff, reduceCtorEq, i32c, ti0, ti1, tiM, Int.natCast_nonneg, Int.reduceEq, Int.reduceLE, Int.reduceLT, Int.reduceNeg, tl_i, Int32.reduceToInt, Int64.reduceToInt, tiA, tlM6, Int.toNat_natCast, natc, nI_1, Int.zero_sub, implies_true, not_false_eq_true, ck_17 f, cr_17_0 f, ck_18 f, cl_18 f, hI, n2, s2, i8_id]
  refine ⟨fun _ => ⟨by omega, w58_3 ?_⟩, fun c => absurd (by omega) c⟩
  simp only [↓forall_eq, ↓inB_iff, gK_hU, gL_hU, gR_hU, gIh, gJh, pI_hU, pJ_hU, hU_hU, uI_app, uJ_app, and_true, true_and, and_false, false_and, and_self, true_implies, false_implies, not_true, not_false_iff, if_true, if_false, eq_self, Nat.reduceLeDiff, Nat.reduceEqDiff, reduceCtorEq, i32c, ti0, ti1, tiM, Int.natCast_nonneg, Int.reduceEq, Int.reduceLE, Int.reduceLT, Int.reduceNeg, tl_i, Int32.reduceToInt, Int64.reduceToInt, tiA, tlM6, Int.toNat_natCast, natc, nI_1, Int.zero_sub, implies_true, not_false_eq_true, ck_17 f, cr_17_0 f, ck_18 f, cl_18 f, hI, n3, s3, i8_id]
  refine ⟨fun _ => ⟨by omega, w58_3 ?_⟩, fun c => absurd (by omega) c⟩
  simp only [↓forall_eq, ↓inB_iff, gK_hU, gL_hU, gR_hU, gIh, gJh, pI_hU, pJ_hU, hU_hU, uI_app, uJ_app, and_true, true_and, and_false, false_and, and_self, true_implies, false_implies, not_true, not_false_iff, if_true, if_false, eq_self, Nat.reduceLeDiff, Nat.reduceEqDiff, reduceCtorEq, i32c, ti0, ti1, tiM, Int.natCast_nonneg, Int.reduceEq, Int.reduceLE, Int.reduceLT, Int.reduceNeg, tl_i, Int32.reduceToInt, Int64.reduceToInt, tiA, tlM6, Int.toNat_natCast, natc, nI_1, Int.zero_sub, implies_true, not_false_eq_true, m8]
  refine k _ (fun a a1 a2 => by simp only [uI_ne, uJ_ne, ne_eq, Nat.reduceEqDiff, not_false_eq_true, a1, a2]) (fun i => ?_) (by simp only [↓forall_eq, ↓inB_iff, gK_hU, gL_hU, gR_hU, gIh, gJh, pI_hU, pJ_hU, hU_hU, uI_app, uJ_app, and_true, true_and, and_false, false_and, and_self, true_implies, false_implies, not_true, not_false_iff, if_true, if_false, eq_self, Nat.reduceLeDiff, Nat.reduceEqDiff, reduceCtorEq, i32c, ti0, ti1, tiM, Int.natCast_nonneg, Int.reduceEq, Int.reduceLE, Int.reduceLT, Int.reduceNeg, tl_i, Int32.reduceToInt, Int64.reduceToInt, tiA, tlM6, Int.toNat_natCast, natc, nI_1, Int.zero_sub, implies_true, not_false_eq_true])
  simp only [↓forall_eq, ↓inB_iff, gK_hU, gL_hU, gR_hU, gIh, gJh, pI_hU, pJ_hU, hU_hU, uI_app, uJ_app, and_true, true_and, and_false, false_and, and_self, true_implies, false_implies, not_true, not_false_iff, if_true, if_false, eq_self, Nat.reduceLeDiff, Nat.reduceEqDiff, reduceCtorEq, i32c, ti0, ti1, tiM, Int.natCast_nonneg, Int.reduceEq, Int.reduceLE, Int.reduceLT, Int.reduceNeg, tl_i, Int32.reduceToInt, Int64.reduceToInt, tiA, tlM6, Int.toNat_natCast, natc, nI_1, Int.zero_sub, implies_true, not_false_eq_true, b0, b1, b2, b3]
  by_cases q3 : i = L + 3
  · subst q3
    rw [if_pos rfl, if_pos (by omega), show L + 3 - L = 3 by omega]
  · rw [if_neg q3]
    by_cases q2 : i = L + 2
    · subst q2
      rw [if_pos rfl, if_pos (by omega), show L + 2 - L = 2 by omega]
    · rw [if_neg q2]
      by_cases q1 : i = L + 1
      · subst q1
        rw [if_pos rfl, if_pos (by omega), show L + 1 - L = 1 by omega]
      · rw [if_neg q1]
        by_cases q0 : i = L
        · subst q0
          rw [if_pos rfl, if_pos (by omega), Nat.sub_self]
        · rw [if_neg q0, if_neg (by omega)]
def TapeA (h : aH) (M : Nat → Nat → Int32) (L : Nat) : Prop := (gI h 17 1 = nI L ∧ M 44 13 = nI L ∧ L ≤ 1200) ∧ ∀ k, k < L → gI h 18 k = (M 52 k).toInt8.toInt32 ∧ 0 ≤ (M 52 k).toInt ∧ (M 52 k).toInt ≤ 255
theorem TapeA_left {as fs : List Nat} {n t : Nat} (b : base h o) (R : TapeA h (gI h) L) (l : left h h2 A A1 o o1 C as fs n t) (hc : ¬ C 2) (ha : 52 ∉ as) (hf : 13 ∉ fs) : TapeA h2 (gI h2) L := by
  obtain ⟨l1, l2, ⟨l3, l4, l5⟩, -⟩ := l
  have hN := b.1.1
  have hc2 : ¬ (C 2 ∨ 2 = 14 ∨ 2 = 15) := by rintro (q | q | q); exact hc q; omega; omega
  have e1 := (fr_same l2 (a := 17) (by omega) (by rw [ol_17 b.2.2]; exact hc2)).2.2.1 1
  have e2 := (fr_same l2 (a := 18) (by omega) (by rw [ol_18 b.2.2]; exact hc2)).2.2.1
  unfold TapeA
  rw [e1, l4 13 (by decide) hf, l3 52 (by decide) (by decide) ha]
  exact ⟨R.1, fun k hk => by rw [e2]; exact R.2 k hk⟩
theorem pr_trim {x : Int32} (b : base h o) (R : TapeA h (gI h) L) : Pr 62 64 [vI x] [1] h (fun h2 => ∃ L1, left h h2 A A o o (fun c => c = 2) [] [13] 1 6 ∧ TapeA h2 (gI h2) L1) := by
  have fin : ∀ h2, left h h2 A A o o (fun _ => False) [] [] 1 6 → ∃ L1, left h h2 A A o o (fun c => c = 2) [] [13] 1 6 ∧ TapeA h2 (gI h2) L1 := fun h2 l =>
    ⟨L, left_mono l (fun _ w => w.elim) (by simp) (by simp) (by omega) (by omega), TapeA_left b R l (fun w => w) (by simp) (by simp)⟩
  obtain ⟨⟨r1, r2, r3⟩, r4⟩ := R
  have hL : (nI L).toInt = L := ti_n (by omega)
  by_cases q : 0 ≤ x.toInt ∧ x.toInt ≤ L
  · have z1 : ¬ x.toInt < 0 := by omega
    have z2 : ¬ (L : Int) < x.toInt := by omega
    refine Pr_ok (nI L) (fun h1 => h1 = pI h 17 1 x) (fun K X k => m62 ?_) (fun h1 J1 m j K X k => m64 ?_)
    · simp only [↓forall_eq, ↓inB_iff, gK_hU, gL_hU, gR_hU, gIh, gJh, pI_hU, pJ_hU, hU_hU, uI_app, uJ_app, and_true, true_and, and_false, false_and, and_self, true_implies, false_implies, not_true, not_false_iff, if_true, if_false, eq_self, Nat.reduceLeDiff, Nat.reduceEqDiff, reduceCtorEq, i32c, ti0, ti1, tiM, Int.natCast_nonneg, Int.reduceEq, Int.reduceLE, Int.reduceLT, Int.reduceNeg, tl_i, Int32.reduceToInt, Int64.reduceToInt, tiA, tlM6, Int.toNat_natCast, natc, nI_1, Int.zero_sub, implies_true, not_false_eq_true, ck_8 b.1, cr_8_1 b.1, ck_17 b.1, cr_17_0 b.1, ck_18 b.1, cl_18 b.1, z1, z2, r1, hL]
      exact k _ rfl
    · subst m
      have mf : MF (pI h 17 1 x) := b.2.1
      have e44 : gI (pI h 17 1 x) 44 = gI h 44 := by funext j9; rw [gI_pI, if_neg (by omega)]
      simp only [↓forall_eq, ↓inB_iff, gK_hU, gL_hU, gR_hU, gIh, gJh, pI_hU, pJ_hU, hU_hU, uI_app, uJ_app, and_true, true_and, and_false, false_and, and_self, true_implies, false_implies, not_true, not_false_iff, if_true, if_false, eq_self, Nat.reduceLeDiff, Nat.reduceEqDiff, reduceCtorEq, i32c, ti0, ti1, tiM, Int.natCast_nonneg, Int.reduceEq, Int.reduceLE, Int.reduceLT, Int.reduceNeg, tl_i, Int32.reduceToInt, Int64.reduceToInt, tiA, tlM6, Int.toNat_natCast, natc, nI_1, Int.zero_sub, implies_true, not_false_eq_true, mf.1, ↓fail_br mf, ↓isIn_br, e44, r2, hL, q]
      have fI : fr h (pI h 17 1 x) A A o o (fun c => c = 2) := ⟨keeps_mono (keeps_pI _ _ _ _) (fun a _ e => by show o a / 1000000 = 2; rw [e, ol_17 b.2.2]), fun _ _ => rfl, fun _ _ => rfl⟩
      refine k _ (by simp only [↓forall_eq, ↓inB_iff, gK_hU, gL_hU, gR_hU, gIh, gJh, pI_hU, pJ_hU, hU_hU, uI_app, uJ_app, and_true, true_and, and_false, false_and, and_self, true_implies, false_implies, not_true, not_false_iff, if_true, if_false, eq_self, Nat.reduceLeDiff, Nat.reduceEqDiff, reduceCtorEq, i32c, ti0, ti1, tiM, Int.natCast_nonneg, Int.reduceEq, Int.reduceLE, Int.reduceLT, Int.reduceNeg, tl_i, Int32.reduceToInt, Int64.reduceToInt, tiA, tlM6, Int.toNat_natCast, natc, nI_1, Int.zero_sub, implies_true, not_false_eq_true]) rfl ⟨x.toInt.toNat, left_mk (h1 := pI h 17 1 x) b (show base h o from b) fI (by decide) (by simp) (fun a a1 a2 => by funext j9; simp only [uI_app]; grind) (fun j9 a1 a2 => by simp only [uI_app]; grind) (fun a a1 _ => j a a1) (by rw [gN_pI]; omega) (by rw [gT_pI]; omega), ⟨?_, ?_, by omega⟩, fun k hk => ?_⟩
      · simp only [↓forall_eq, ↓inB_iff, gK_hU, gL_hU, gR_hU, gIh, gJh, pI_hU, pJ_hU, hU_hU, uI_app, uJ_app, and_true, true_and, and_false, false_and, and_self, true_implies, false_implies, not_true, not_false_iff, if_true, if_false, eq_self, Nat.reduceLeDiff, Nat.reduceEqDiff, reduceCtorEq, i32c, ti0, ti1, tiM, Int.natCast_nonneg, Int.reduceEq, Int.reduceLE, Int.reduceLT, Int.reduceNeg, tl_i, Int32.reduceToInt, Int64.reduceToInt, tiA, tlM6, Int.toNat_natCast, natc, nI_1, Int.zero_sub, implies_true, not_false_eq_true, pI_eq]; exact ti_nat q.1
      · simp only [↓forall_eq, ↓inB_iff, gK_hU, gL_hU, gR_hU, gIh, gJh, pI_hU, pJ_hU, hU_hU, uI_app, uJ_app, and_true, true_and, and_false, false_and, and_self, true_implies, false_implies, not_true, not_false_iff, if_true, if_false, eq_self, Nat.reduceLeDiff, Nat.reduceEqDiff, reduceCtorEq, i32c, ti0, ti1, tiM, Int.natCast_nonneg, Int.reduceEq, Int.reduceLE, Int.reduceLT, Int.reduceNeg, tl_i, Int32.reduceToInt, Int64.reduceToInt, tiA, tlM6, Int.toNat_natCast, natc, nI_1, Int.zero_sub, implies_true, not_false_eq_true, pI_eq]; exact ti_nat q.1
      · have := r4 k (by omega)
        simp only [↓forall_eq, ↓inB_iff, gK_hU, gL_hU, gR_hU, gIh, gJh, pI_hU, pJ_hU, hU_hU, uI_app, uJ_app, and_true, true_and, and_false, false_and, and_self, true_implies, false_implies, not_true, not_false_iff, if_true, if_false, eq_self, Nat.reduceLeDiff, Nat.reduceEqDiff, reduceCtorEq, i32c, ti0, ti1, tiM, Int.natCast_nonneg, Int.reduceEq, Int.reduceLE, Int.reduceLT, Int.reduceNeg, tl_i, Int32.reduceToInt, Int64.reduceToInt, tiA, tlM6, Int.toNat_natCast, natc, nI_1, Int.zero_sub, implies_true, not_false_eq_true, pI_eq]; exact this
  · refine Pr_gc (A := A) (C := fun _ => False) 0 1 b (by decide) rfl (fun K X k => m62 ?_) (fun g J K X mf e k => m64 ?_) fin
    · simp only [↓forall_eq, ↓inB_iff, gK_hU, gL_hU, gR_hU, gIh, gJh, pI_hU, pJ_hU, hU_hU, uI_app, uJ_app, and_true, true_and, and_false, false_and, and_self, true_implies, false_implies, not_true, not_false_iff, if_true, if_false, eq_self, Nat.reduceLeDiff, Nat.reduceEqDiff, reduceCtorEq, i32c, ti0, ti1, tiM, Int.natCast_nonneg, Int.reduceEq, Int.reduceLE, Int.reduceLT, Int.reduceNeg, tl_i, Int32.reduceToInt, Int64.reduceToInt, tiA, tlM6, Int.toNat_natCast, natc, nI_1, Int.zero_sub, implies_true, not_false_eq_true, ck_8 b.1, cr_8_1 b.1, ck_17 b.1, cr_17_0 b.1, ck_18 b.1, cl_18 b.1, r1, hL]
      exact ⟨fun _ => k, fun c1 => ⟨fun _ => k, fun c2 => absurd ⟨by omega, by omega⟩ q⟩⟩
    · simp only [↓forall_eq, ↓inB_iff, gK_hU, gL_hU, gR_hU, gIh, gJh, pI_hU, pJ_hU, hU_hU, uI_app, uJ_app, and_true, true_and, and_false, false_and, and_self, true_implies, false_implies, not_true, not_false_iff, if_true, if_false, eq_self, Nat.reduceLeDiff, Nat.reduceEqDiff, reduceCtorEq, i32c, ti0, ti1, tiM, Int.natCast_nonneg, Int.reduceEq, Int.reduceLE, Int.reduceLT, Int.reduceNeg, tl_i, Int32.reduceToInt, Int64.reduceToInt, tiA, tlM6, Int.toNat_natCast, natc, nI_1, Int.zero_sub, implies_true, not_false_eq_true, mf.1, ↓fail_br mf, ↓isIn_br, e 44 (by decide) (by decide), r2, hL, q]
      exact k
theorem irem4 : ∀ k : Fin 20, aIrem (nI k.val) 4 = nI (k.val % 4) := by decide
theorem pr_feed {a b' c d' e : Int32} (b : base h o) (R : TapeA h (gI h) L) : Pr 59 61 [vI a, vI b', vI c, vI d', vI e] [4] h (fun h2 => ∃ L1, left h h2 A A o o (fun c => c = 2) [52] [13] 1 6 ∧ TapeA h2 (gI h2) L1) := by
  have fin : ∀ h2, left h h2 A A o o (fun _ => False) [] [] 1 6 → ∃ L1, left h h2 A A o o (fun c => c = 2) [52] [13] 1 6 ∧ TapeA h2 (gI h2) L1 := fun h2 l =>
    ⟨L, left_mono l (fun _ w => w.elim) (by simp) (by simp) (by omega) (by omega), TapeA_left b R l (fun w => w) (by simp) (by simp)⟩
  obtain ⟨⟨r1, r2, r3⟩, r4⟩ := R
  have hL : (nI L).toInt = L := ti_n (by omega)
  have h20 : (nI L + 20).toInt = (L : Int) + 20 := by rw [ti_add (by rw [hL, show (20 : Int32).toInt = 20 from rfl]; omega) (by rw [hL, show (20 : Int32).toInt = 20 from rfl]; omega), hL]; rfl
  by_cases q : L + 20 ≤ 1200
  · have z : ¬ (1200 : Int) < (L : Int) + 20 := by omega
    refine Pr_ok (nI (L + 20)) (fun h1 => ∃ I1, (∀ a, a ≠ 17 → a ≠ 18 → I1 a = gI h a) ∧ I1 17 1 = nI (L + 20) ∧ (∀ i, I1 18 i = if L ≤ i ∧ i < L + 20 then (fB a b' c d' e (i - L)).toInt8.toInt32 else gI h 18 i) ∧ h1 = hU h I1 (gJ h)) (fun K X k => m59 ?_) (fun h1 J1 m j K X k => m61 ?_)
    · simp only [↓forall_eq, ↓inB_iff, gK_hU, gL_hU, gR_hU, gIh, gJh, pI_hU, pJ_hU, hU_hU, uI_app, uJ_app, and_true, true_and, and_false, false_and, and_self, true_implies, false_implies, not_true, not_false_iff, if_true, if_false, eq_self, Nat.reduceLeDiff, Nat.reduceEqDiff, reduceCtorEq, i32c, ti0, ti1, tiM, Int.natCast_nonneg, Int.reduceEq, Int.reduceLE, Int.reduceLT, Int.reduceNeg, tl_i, Int32.reduceToInt, Int64.reduceToInt, tiA, tlM6, Int.toNat_natCast, natc, nI_1, Int.zero_sub, implies_true, not_false_eq_true, ck_8 b.1, cr_8_1 b.1, ck_17 b.1, cr_17_0 b.1, ck_18 b.1, cl_18 b.1, r1, h20, z]
      refine c_tput (h := h) (I := gI h) (J := gJ h) b.1 r1 (by omega) fun I1 a1 a2 a3 => ?_
      simp only [↓forall_eq, ↓inB_iff, gK_hU, gL_hU, gR_hU, gIh, gJh, pI_hU, pJ_hU, hU_hU, uI_app, uJ_app, and_true, true_and, and_false, false_and, and_self, true_implies, false_implies, not_true, not_false_iff, if_true, if_false, eq_self, Nat.reduceLeDiff, Nat.reduceEqDiff, reduceCtorEq, i32c, ti0, ti1, tiM, Int.natCast_nonneg, Int.reduceEq, Int.reduceLE, Int.reduceLT, Int.reduceNeg, tl_i, Int32.reduceToInt, Int64.reduceToInt, tiA, tlM6, Int.toNat_natCast, natc, nI_1, Int.zero_sub, implies_true, not_false_eq_true, ck_8 b.1, cr_8_1 b.1, ck_17 b.1, cr_17_0 b.1, ck_18 b.1, cl_18 b.1]
      refine c_tput b.1 a3 (by omega) fun I2 b1 b2 b3 => ?_
      simp only [↓forall_eq, ↓inB_iff, gK_hU, gL_hU, gR_hU, gIh, gJh, pI_hU, pJ_hU, hU_hU, uI_app, uJ_app, and_true, true_and, and_false, false_and, and_self, true_implies, false_implies, not_true, not_false_iff, if_true, if_false, eq_self, Nat.reduceLeDiff, Nat.reduceEqDiff, reduceCtorEq, i32c, ti0, ti1, tiM, Int.natCast_nonneg, Int.reduceEq, Int.reduceLE, Int.reduceLT, Int.reduceNeg, tl_i, Int32.reduceToInt, Int64.reduceToInt, tiA, tlM6, Int.toNat_natCast, natc, nI_1, Int.zero_sub, implies_true, not_false_eq_true, ck_8 b.1, cr_8_1 b.1, ck_17 b.1, cr_17_0 b.1, ck_18 b.1, cl_18 b.1]
      refine c_tput b.1 b3 (by omega) fun I3 c1 c2 c3 => ?_
      simp only [↓forall_eq, ↓inB_iff, gK_hU, gL_hU, gR_hU, gIh, gJh, pI_hU, pJ_hU, hU_hU, uI_app, uJ_app, and_true, true_and, and_false, false_and, and_self, true_implies, false_implies, not_true, not_false_iff, if_true, if_false, eq_self, Nat.reduceLeDiff, Nat.reduceEqDiff, reduceCtorEq, i32c, ti0, ti1, tiM, Int.natCast_nonneg, Int.reduceEq, Int.reduceLE, Int.reduceLT, Int.reduceNeg, tl_i, Int32.reduceToInt, Int64.reduceToInt, tiA, tlM6, Int.toNat_natCast, natc, nI_1, Int.zero_sub, implies_true, not_false_eq_true, ck_8 b.1, cr_8_1 b.1, ck_17 b.1, cr_17_0 b.1, ck_18 b.1, cl_18 b.1]
      refine c_tput b.1 c3 (by omega) fun I4 d1 d2 d3 => ?_
      simp only [↓forall_eq, ↓inB_iff, gK_hU, gL_hU, gR_hU, gIh, gJh, pI_hU, pJ_hU, hU_hU, uI_app, uJ_app, and_true, true_and, and_false, false_and, and_self, true_implies, false_implies, not_true, not_false_iff, if_true, if_false, eq_self, Nat.reduceLeDiff, Nat.reduceEqDiff, reduceCtorEq, i32c, ti0, ti1, tiM, Int.natCast_nonneg, Int.reduceEq, Int.reduceLE, Int.reduceLT, Int.reduceNeg, tl_i, Int32.reduceToInt, Int64.reduceToInt, tiA, tlM6, Int.toNat_natCast, natc, nI_1, Int.zero_sub, implies_true, not_false_eq_true, ck_8 b.1, cr_8_1 b.1, ck_17 b.1, cr_17_0 b.1, ck_18 b.1, cl_18 b.1]
      refine c_tput b.1 d3 (by omega) fun I5 e1 e2 e3 => ?_
      simp only [↓forall_eq, ↓inB_iff, gK_hU, gL_hU, gR_hU, gIh, gJh, pI_hU, pJ_hU, hU_hU, uI_app, uJ_app, and_true, true_and, and_false, false_and, and_self, true_implies, false_implies, not_true, not_false_iff, if_true, if_false, eq_self, Nat.reduceLeDiff, Nat.reduceEqDiff, reduceCtorEq, i32c, ti0, ti1, tiM, Int.natCast_nonneg, Int.reduceEq, Int.reduceLE, Int.reduceLT, Int.reduceNeg, tl_i, Int32.reduceToInt, Int64.reduceToInt, tiA, tlM6, Int.toNat_natCast, natc, nI_1, Int.zero_sub, implies_true, not_false_eq_true, ck_8 b.1, cr_8_1 b.1, ck_17 b.1, cr_17_0 b.1, ck_18 b.1, cl_18 b.1, e3]
      refine k _ ⟨I5, fun q q1 q2 => by rw [e1 q q1 q2, d1 q q1 q2, c1 q q1 q2, b1 q q1 q2, a1 q q1 q2], e3, fun i => ?_, rfl⟩
      rw [e2, d2, c2, b2, a2]
      unfold fB
      by_cases w : L ≤ i ∧ i < L + 20
      · rw [if_pos w]
        rcases (by omega : i - L < 4 ∨ (4 ≤ i - L ∧ i - L < 8) ∨ (8 ≤ i - L ∧ i - L < 12) ∨ (12 ≤ i - L ∧ i - L < 16) ∨ (16 ≤ i - L ∧ i - L < 20)) with v | v | v | v | v
        · rw [if_neg (by omega), if_neg (by omega), if_neg (by omega), if_neg (by omega), if_pos (by omega), if_pos (by omega)]
        · rw [if_neg (by omega), if_neg (by omega), if_neg (by omega), if_pos (by omega), if_neg (by omega), if_pos (by omega), show i - (L + 4) = i - L - 4 by omega]
        · rw [if_neg (by omega), if_neg (by omega), if_pos (by omega), if_neg (by omega), if_neg (by omega), if_pos (by omega), show i - (L + 4 + 4) = i - L - 8 by omega]
        · rw [if_neg (by omega), if_pos (by omega), if_neg (by omega), if_neg (by omega), if_neg (by omega), if_pos (by omega), show i - (L + 4 + 4 + 4) = i - L - 12 by omega]
        · rw [if_pos (by omega), if_neg (by omega), if_neg (by omega), if_neg (by omega), if_neg (by omega), show i - (L + 4 + 4 + 4 + 4) = i - L - 16 by omega]
      · rw [if_neg w, if_neg (by omega), if_neg (by omega), if_neg (by omega), if_neg (by omega), if_neg (by omega)]
    · obtain ⟨I1, i1, i2, i3, rfl⟩ := m
      have mf : MF h := b.2.1
      have i44 := i1 44 (by decide) (by decide)
      have main : ∀ (m k9 : Nat) (I' : Nat → Nat → Int32), k9 + m = 20 → (∀ a, a ≠ 44 → a ≠ 52 → I' a = I1 a) → (∀ j, j ≠ 0 → j ≠ 13 → I' 44 j = I1 44 j) → I' 44 0 = 0 → I' 44 13 = nI (L + k9) → (∀ i, I' 52 i = if L ≤ i ∧ i < L + k9 then fB a b' c d' e (i - L) else I1 52 i) → Wp 500 61 (27, [some (vR 44), some (vI a), some (vI b'), some (vI c), some (vI d'), some (vI e), some (vI (nI k9)), none], [], hU h I' J1) (RI K X) := by
        intro m
        induction m with
        | zero =>
          intro k9 I' hk e1 e2 e3 e4 e5
          have hk' : k9 = 20 := by omega
          subst hk'
          refine w61_27 ?_
          have t20 : (nI 20).toInt = 20 := rfl
          simp only [↓forall_eq, ↓inB_iff, gK_hU, gL_hU, gR_hU, gIh, gJh, pI_hU, pJ_hU, hU_hU, uI_app, uJ_app, and_true, true_and, and_false, false_and, and_self, true_implies, false_implies, not_true, not_false_iff, if_true, if_false, eq_self, Nat.reduceLeDiff, Nat.reduceEqDiff, reduceCtorEq, i32c, ti0, ti1, tiM, Int.natCast_nonneg, Int.reduceEq, Int.reduceLE, Int.reduceLT, Int.reduceNeg, tl_i, Int32.reduceToInt, Int64.reduceToInt, tiA, tlM6, Int.toNat_natCast, natc, nI_1, Int.zero_sub, implies_true, not_false_eq_true, mf.1, mr_12 mf, mk_52 mf, ml_52 mf, t20, e4, Int.lt_irrefl]
          have fI : fr h (hU h I1 (gJ h)) A A o o (fun c => c = 2) := by
            refine ⟨⟨Nat.le_refl _, Nat.le_refl _, fun a _ => ⟨rfl, rfl⟩, fun a _ hp => ⟨rfl, rfl, fun j9 => ?_, fun _ => rfl, fun _ => rfl⟩⟩, fun _ _ => rfl, fun _ _ => rfl⟩
            have e1 : a ≠ 17 := fun e => hp (by show o a / 1000000 = 2; rw [e, ol_17 b.2.2])
            have e2 : a ≠ 18 := fun e => hp (by show o a / 1000000 = 2; rw [e, ol_18 b.2.2])
            rw [gI_hU, i1 a e1 e2]
          refine k _ e3 rfl ⟨L + 20, left_mk (h1 := hU h I1 (gJ h)) b (show base h o from b) fI (by decide) (by simp) (fun a a1 a2 => by rw [gIh]; exact e1 a a1 (by simpa using a2)) (fun j9 a1 a2 => by rw [gIh]; exact e2 j9 a1 (by simpa using a2)) (fun a a1 _ => j a a1) (by rw [gN_hU]; omega) (by rw [gT_hU]; omega), ⟨?_, e4, q⟩, fun k hk => ?_⟩
          · rw [gI_hU, e1 17 (by decide) (by decide)]; exact i2
          · rw [gI_hU, gI_hU, e1 18 (by decide) (by decide), e5, i3]
            by_cases w : L ≤ k ∧ k < L + 20
            · rw [if_pos w, if_pos w]
              refine ⟨rfl, ?_⟩
              unfold fB cB
              split
              · exact and255 _
              · split
                · exact and255 _
                · split
                  · exact and255 _
                  · split
                    · exact and255 _
                    · exact and255 _
            · rw [if_neg w, if_neg w, i1 52 (by decide) (by decide)]
              exact r4 k (by omega)
        | succ m ih =>
          intro k9 I' hk e1 e2 e3 e4 e5
          have hkI : (nI k9).toInt = k9 := ti_n (by omega)
          have hLk : (nI (L + k9)).toInt = ((L + k9 : Nat) : Int) := ti_n (by omega)
          have hir := irem4 ⟨k9, by omega⟩
          dsimp only at hir
          have nx : ∀ v : Int32, v = fB a b' c d' e k9 → Wp 500 61 (27, [some (vR 44), some (vI a), some (vI b'), some (vI c), some (vI d'), some (vI e), some (vI (nI (k9 + 1))), none], [], hU h (uI (uI I' 52 (L + k9) v) 44 13 (nI (L + k9 + 1))) J1) (RI K X) := fun v hv => by
            refine ih (k9 + 1) _ (by omega) (fun a a1 a2 => by simp only [uI_ne, uJ_ne, ne_eq, Nat.reduceEqDiff, not_false_eq_true, a1, a2]; exact e1 a a1 a2) (fun j j1 j2 => by simp only [↓forall_eq, ↓inB_iff, gK_hU, gL_hU, gR_hU, gIh, gJh, pI_hU, pJ_hU, hU_hU, uI_app, uJ_app, and_true, true_and, and_false, false_and, and_self, true_implies, false_implies, not_true, not_false_iff, if_true, if_false, eq_self, Nat.reduceLeDiff, Nat.reduceEqDiff, reduceCtorEq, i32c, ti0, ti1, tiM, Int.natCast_nonneg, Int.reduceEq, Int.reduceLE, Int.reduceLT, Int.reduceNeg, tl_i, Int32.reduceToInt, Int64.reduceToInt, tiA, tlM6, Int.toNat_natCast, natc, nI_1, Int.zero_sub, implies_true, not_false_eq_true, j2]; exact e2 j j1 j2) (by simp only [↓forall_eq, ↓inB_iff, gK_hU, gL_hU, gR_hU, gIh, gJh, pI_hU, pJ_hU, hU_hU, uI_app, uJ_app, and_true, true_and, and_false, false_and, and_self, true_implies, false_implies, not_true, not_false_iff, if_true, if_false, eq_self, Nat.reduceLeDiff, Nat.reduceEqDiff, reduceCtorEq, i32c, ti0, ti1, tiM, Int.natCast_nonneg, Int.reduceEq, Int.reduceLE, Int.reduceLT, Int.reduceNeg, tl_i, Int32.reduceToInt, Int64.reduceToInt, tiA, tlM6, Int.toNat_natCast, natc, nI_1, Int.zero_sub, implies_true, not_false_eq_true]; exact e3) (by simp only [↓forall_eq, ↓inB_iff, gK_hU, gL_hU, gR_hU, gIh, gJh, pI_hU, pJ_hU, hU_hU, uI_app, uJ_app, and_true, true_and, and_false, false_and, and_self, true_implies, false_implies, not_true, not_false_iff, if_true, if_false, eq_self, Nat.reduceLeDiff, Nat.reduceEqDiff, reduceCtorEq, i32c, ti0, ti1, tiM, Int.natCast_nonneg, Int.reduceEq, Int.reduceLE, Int.reduceLT, Int.reduceNeg, tl_i, Int32.reduceToInt, Int64.reduceToInt, tiA, tlM6, Int.toNat_natCast, natc, nI_1, Int.zero_sub, implies_true, not_false_eq_true]; rfl) (fun i => ?_)
            simp only [↓forall_eq, ↓inB_iff, gK_hU, gL_hU, gR_hU, gIh, gJh, pI_hU, pJ_hU, hU_hU, uI_app, uJ_app, and_true, true_and, and_false, false_and, and_self, true_implies, false_implies, not_true, not_false_iff, if_true, if_false, eq_self, Nat.reduceLeDiff, Nat.reduceEqDiff, reduceCtorEq, i32c, ti0, ti1, tiM, Int.natCast_nonneg, Int.reduceEq, Int.reduceLE, Int.reduceLT, Int.reduceNeg, tl_i, Int32.reduceToInt, Int64.reduceToInt, tiA, tlM6, Int.toNat_natCast, natc, nI_1, Int.zero_sub, implies_true, not_false_eq_true]
            by_cases w : i = L + k9
            · subst w
              rw [if_pos rfl, if_pos (by omega), hv, show L + k9 - L = k9 by omega]
            · rw [if_neg w, e5]
              by_cases w2 : L ≤ i ∧ i < L + k9
              · rw [if_pos w2, if_pos (by omega)]
              · rw [if_neg w2, if_neg (by omega)]
          refine w61_27 ?_
          simp only [↓forall_eq, ↓inB_iff, gK_hU, gL_hU, gR_hU, gIh, gJh, pI_hU, pJ_hU, hU_hU, uI_app, uJ_app, and_true, true_and, and_false, false_and, and_self, true_implies, false_implies, not_true, not_false_iff, if_true, if_false, eq_self, Nat.reduceLeDiff, Nat.reduceEqDiff, reduceCtorEq, i32c, ti0, ti1, tiM, Int.natCast_nonneg, Int.reduceEq, Int.reduceLE, Int.reduceLT, Int.reduceNeg, tl_i, Int32.reduceToInt, Int64.reduceToInt, tiA, tlM6, Int.toNat_natCast, natc, nI_1, Int.zero_sub, implies_true, not_false_eq_true, mf.1, mr_12 mf, mk_52 mf, ml_52 mf, hkI, e4, hLk, hir]
          unfold fB cB at nx
          refine ⟨fun _ => ⟨fun c1 => ⟨by omega, nx _ ?_⟩, fun c1 => ⟨fun c2 => ⟨by omega, nx _ ?_⟩, fun c2 => ⟨fun c3 => ⟨by omega, nx _ ?_⟩, fun c3 => ⟨fun c4 => ⟨by omega, nx _ ?_⟩, fun c4 => ⟨by omega, nx _ ?_⟩⟩⟩⟩⟩, fun c => absurd (by omega) c⟩
          · rw [if_pos (by omega), show k9 % 4 = k9 by omega]
          · rw [if_neg (by omega), if_pos (by omega), show k9 % 4 = k9 - 4 by omega]
          · rw [if_neg (by omega), if_neg (by omega), if_pos (by omega), show k9 % 4 = k9 - 8 by omega]
          · rw [if_neg (by omega), if_neg (by omega), if_neg (by omega), if_pos (by omega), show k9 % 4 = k9 - 12 by omega]
          · rw [if_neg (by omega), if_neg (by omega), if_neg (by omega), if_neg (by omega), show k9 % 4 = k9 - 16 by omega]
      simp only [↓forall_eq, ↓inB_iff, gK_hU, gL_hU, gR_hU, gIh, gJh, pI_hU, pJ_hU, hU_hU, uI_app, uJ_app, and_true, true_and, and_false, false_and, and_self, true_implies, false_implies, not_true, not_false_iff, if_true, if_false, eq_self, Nat.reduceLeDiff, Nat.reduceEqDiff, reduceCtorEq, i32c, ti0, ti1, tiM, Int.natCast_nonneg, Int.reduceEq, Int.reduceLE, Int.reduceLT, Int.reduceNeg, tl_i, Int32.reduceToInt, Int64.reduceToInt, tiA, tlM6, Int.toNat_natCast, natc, nI_1, Int.zero_sub, implies_true, not_false_eq_true, mf.1, mr_12 mf, mk_52 mf, ml_52 mf, ↓fail_br mf, i44, r2, h20, z]
      refine main 20 0 _ (by omega) (fun a a1 a2 => by simp only [uI_ne, uJ_ne, ne_eq, Nat.reduceEqDiff, not_false_eq_true, a1]) (fun j j1 j2 => by simp only [↓forall_eq, ↓inB_iff, gK_hU, gL_hU, gR_hU, gIh, gJh, pI_hU, pJ_hU, hU_hU, uI_app, uJ_app, and_true, true_and, and_false, false_and, and_self, true_implies, false_implies, not_true, not_false_iff, if_true, if_false, eq_self, Nat.reduceLeDiff, Nat.reduceEqDiff, reduceCtorEq, i32c, ti0, ti1, tiM, Int.natCast_nonneg, Int.reduceEq, Int.reduceLE, Int.reduceLT, Int.reduceNeg, tl_i, Int32.reduceToInt, Int64.reduceToInt, tiA, tlM6, Int.toNat_natCast, natc, nI_1, Int.zero_sub, implies_true, not_false_eq_true, j1]) (by simp only [↓forall_eq, ↓inB_iff, gK_hU, gL_hU, gR_hU, gIh, gJh, pI_hU, pJ_hU, hU_hU, uI_app, uJ_app, and_true, true_and, and_false, false_and, and_self, true_implies, false_implies, not_true, not_false_iff, if_true, if_false, eq_self, Nat.reduceLeDiff, Nat.reduceEqDiff, reduceCtorEq, i32c, ti0, ti1, tiM, Int.natCast_nonneg, Int.reduceEq, Int.reduceLE, Int.reduceLT, Int.reduceNeg, tl_i, Int32.reduceToInt, Int64.reduceToInt, tiA, tlM6, Int.toNat_natCast, natc, nI_1, Int.zero_sub, implies_true, not_false_eq_true]) (by simp only [↓forall_eq, ↓inB_iff, gK_hU, gL_hU, gR_hU, gIh, gJh, pI_hU, pJ_hU, hU_hU, uI_app, uJ_app, and_true, true_and, and_false, false_and, and_self, true_implies, false_implies, not_true, not_false_iff, if_true, if_false, eq_self, Nat.reduceLeDiff, Nat.reduceEqDiff, reduceCtorEq, i32c, ti0, ti1, tiM, Int.natCast_nonneg, Int.reduceEq, Int.reduceLE, Int.reduceLT, Int.reduceNeg, tl_i, Int32.reduceToInt, Int64.reduceToInt, tiA, tlM6, Int.toNat_natCast, natc, nI_1, Int.zero_sub, implies_true, not_false_eq_true]; rw [i44]; exact r2) (fun i => ?_)
      rw [if_neg (by omega)]
      simp only [uI_ne, uJ_ne, ne_eq, Nat.reduceEqDiff, not_false_eq_true]
  · have z : (1200 : Int) < (L : Int) + 20 := by omega
    refine Pr_gc (A := A) (C := fun _ => False) 0 4 b (by decide) rfl (fun K X k => m59 ?_) (fun g J K X mf e k => m61 ?_) fin
    · simp only [↓forall_eq, ↓inB_iff, gK_hU, gL_hU, gR_hU, gIh, gJh, pI_hU, pJ_hU, hU_hU, uI_app, uJ_app, and_true, true_and, and_false, false_and, and_self, true_implies, false_implies, not_true, not_false_iff, if_true, if_false, eq_self, Nat.reduceLeDiff, Nat.reduceEqDiff, reduceCtorEq, i32c, ti0, ti1, tiM, Int.natCast_nonneg, Int.reduceEq, Int.reduceLE, Int.reduceLT, Int.reduceNeg, tl_i, Int32.reduceToInt, Int64.reduceToInt, tiA, tlM6, Int.toNat_natCast, natc, nI_1, Int.zero_sub, implies_true, not_false_eq_true, ck_8 b.1, cr_8_1 b.1, ck_17 b.1, cr_17_0 b.1, ck_18 b.1, cl_18 b.1, r1, h20, z]
      exact k
    · simp only [↓forall_eq, ↓inB_iff, gK_hU, gL_hU, gR_hU, gIh, gJh, pI_hU, pJ_hU, hU_hU, uI_app, uJ_app, and_true, true_and, and_false, false_and, and_self, true_implies, false_implies, not_true, not_false_iff, if_true, if_false, eq_self, Nat.reduceLeDiff, Nat.reduceEqDiff, reduceCtorEq, i32c, ti0, ti1, tiM, Int.natCast_nonneg, Int.reduceEq, Int.reduceLE, Int.reduceLT, Int.reduceNeg, tl_i, Int32.reduceToInt, Int64.reduceToInt, tiA, tlM6, Int.toNat_natCast, natc, nI_1, Int.zero_sub, implies_true, not_false_eq_true, mf.1, mr_12 mf, mk_52 mf, ml_52 mf, ↓fail_br mf, e 44 (by decide) (by decide), r2, h20, z]
      exact k
end TAP
