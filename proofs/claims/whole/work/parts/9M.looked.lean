/-! LOOKS: their area, looked -/
section LKD
variable {d nl : Nat} {h h1 h2 : aH} {A A1 o o1 : Nat → Nat} {X : Nat → aH → Prop} {M M2 : Nat → Nat → Int32} {I : Nat → Nat → Int32} {J : Nat → Nat → Int64} {C9 : Nat → Prop} {x w : Int32}
def LookA (h : aH) (A o : Nat → Nat) (M : Nat → Nat → Int32) (nl : Nat) : Prop := (M 44 89 = nI nl ∧ nl ≤ 500) ∧ (rowsOK h 42 (A 12000043) 6 500 nl ∧ o (A 12000043) = 12000043) ∧ ∀ i, i < 6 * nl → gI h (A 12000043) i = M 106 i
theorem LookA_left {as fs : List Nat} {n q : Nat} (b : base h o) (S : LookA h A o (gI h) nl) (l : left h h2 A A1 o o1 C9 as fs n q) (hc : ¬ C9 12) (ha : 106 ∉ as) (hf : 89 ∉ fs) : LookA h2 A1 o1 (gI h2) nl := by
  obtain ⟨l1, l2, ⟨l3, l4, l5⟩, -⟩ := l
  have hcc : ¬ (C9 12 ∨ 12 = 14 ∨ 12 = 15) := by rintro (q | q | q); exact hc q; omega; omega
  have hN := b.1.1
  obtain ⟨⟨f1, f2⟩, ⟨f3, f4⟩, f5⟩ := S
  have e1 := l2.2.2 12000043 hcc
  have n1 := f3.2.2.1.2.2.1
  have s2 := fr_same l2 (a := A 12000043) n1 (by rw [f4]; exact hcc)
  refine ⟨⟨by rw [l4 89 (by decide) hf]; exact f1, f2⟩, ⟨?_, by rw [e1, l2.2.1 _ n1]; exact f4⟩, fun k hk => ?_⟩
  · rw [e1]
    exact rows_keeps f3 l2.1 (by show ¬ _; rw [ol_42 b.2.2]; exact hcc)
  · rw [e1, s2.2.2.1 k, l3 106 (by decide) (by decide) ha]
    exact f5 k hk
theorem pr_looked (b : base h o) (L : LookA h A o (gI h) nl) : Pr 322 324 [vI x, vI w] [3, 1] h (fun h2 => left h h2 A A o o (fun _ => False) [] [] 1 6) := by
  have mf := b.2.1
  obtain ⟨⟨f1, f2⟩, ⟨f3, f4⟩, f5⟩ := L
  have hn : (nI nl).toInt = nl := ti_n (by omega)
  have hn1 : (nI nl - 1).toInt = (nl : Int) - 1 := by rw [ti_sub (by rw [hn, ti1]; omega) (by rw [hn, ti1]; omega), hn, ti1]
  have SZ := fun (K : Int32 → aH → Prop) X => size_br (d := 499) (K := K) (X := X) (I := gI h) (J := gJ h) f3 rfl
  rw [hU_eta] at SZ
  have t5 : (5 : Int64).toInt = 5 := rfl
  by_cases q : 0 ≤ x.toInt ∧ x.toInt < nl
  · have q1 : 0 ≤ x.toInt ∧ x.toInt ≤ (nl : Int) - 1 := by omega
    by_cases qw : 0 ≤ w.toInt ∧ w.toInt < 6
    · generalize htx : x.toInt.toNat = k at *
      have hx : x = nI k := by rw [← htx]; exact ti_nat q.1
      generalize hcx : w.toInt.toNat = c at *
      have hw : w = nI c := by rw [← hcx]; exact ti_nat qw.1
      have kl : k < nl := by omega
      have c6 : c < 6 := by omega
      have n0 : ¬ w.toInt < 0 := by omega
      have AT := fun (K : Int32 → aH → Prop) X => at_br (d := 498) (K := K) (X := X) (I := gI h) (J := gJ h) f3 kl hw c6 rfl
      rw [hU_eta, ← hx] at AT
      have qw5 : 0 ≤ w.toInt ∧ w.toInt ≤ 5 := by omega
      refine Pr_ok (gI h 106 (6 * k + c)) (fun h1 => h1 = h) (fun K X kk => m322 ?_) (fun h1 J1 m j K X kk => m324 ?_)
      · have v := f5 (k * 6 + c) (by omega)
        simp only [↓forall_eq, ↓inB_iff, gK_hU, gL_hU, gR_hU, gIh, gJh, pI_hU, pJ_hU, hU_hU, uI_app, uJ_app, and_true, true_and, and_false, false_and, and_self, true_implies, false_implies, not_true, not_false_iff, if_true, if_false, eq_self, Nat.reduceLeDiff, Nat.reduceEqDiff, reduceCtorEq, i32c, ti0, ti1, tiM, Int.natCast_nonneg, Int.reduceEq, Int.reduceLE, Int.reduceLT, Int.reduceNeg, tl_i, Int32.reduceToInt, Int64.reduceToInt, tiA, tlM6, Int.toNat_natCast, natc, nI_1, Int.zero_sub, implies_true, not_false_eq_true, ck_8 b.1, cr_8_11 b.1, ck_42 b.1, ↓SZ]
        refine c_needIndex (fun _ _ => ?_) (fun z => absurd ⟨q.1, by rw [hn]; exact q.2⟩ z)
        simp only [↓forall_eq, ↓inB_iff, gK_hU, gL_hU, gR_hU, gIh, gJh, pI_hU, pJ_hU, hU_hU, uI_app, uJ_app, and_true, true_and, and_false, false_and, and_self, true_implies, false_implies, not_true, not_false_iff, if_true, if_false, eq_self, Nat.reduceLeDiff, Nat.reduceEqDiff, reduceCtorEq, i32c, ti0, ti1, tiM, Int.natCast_nonneg, Int.reduceEq, Int.reduceLE, Int.reduceLT, Int.reduceNeg, tl_i, Int32.reduceToInt, Int64.reduceToInt, tiA, tlM6, Int.toNat_natCast, natc, nI_1, Int.zero_sub, implies_true, not_false_eq_true, n0, qw.2, ck_8 b.1, cr_8_11 b.1, ck_42 b.1, ↓AT]
        rw [v, Nat.mul_comm k 6]
        exact kk h rfl
      · subst m
        have fin := kk (hU h1 (uI (gI h1) 44 0 0) J1) (by rw [gIh, uI_same]) rfl (left_mk b b fr_refl (fun w => w) (by simp) (fun a a1 a2 => by funext j9; simp only [uI_app]; grind) (fun j9 a1 a2 => by simp only [uI_app]; grind) (fun a a1 _ => j a a1) (by omega) (by omega))
        have x1 : (6 : Int32) * x + w = nI (6 * k + c) := by rw [show (6 : Int32) = nI 6 from rfl, hx, hw, nI_mul, nI_add]
        have x2 : (nI (6 * k + c)).toInt = ((6 * k + c : Nat) : Int) := ti_n (by omega)
        have x3 : ((6 * k + c : Nat) : Int) < 3000 := by omega
        simp only [↓forall_eq, ↓inB_iff, gK_hU, gL_hU, gR_hU, gIh, gJh, pI_hU, pJ_hU, hU_hU, uI_app, uJ_app, and_true, true_and, and_false, false_and, and_self, true_implies, false_implies, not_true, not_false_iff, if_true, if_false, eq_self, Nat.reduceLeDiff, Nat.reduceEqDiff, reduceCtorEq, i32c, ti0, ti1, tiM, Int.natCast_nonneg, Int.reduceEq, Int.reduceLE, Int.reduceLT, Int.reduceNeg, tl_i, Int32.reduceToInt, Int64.reduceToInt, tiA, tlM6, Int.toNat_natCast, natc, nI_1, Int.zero_sub, implies_true, not_false_eq_true, mf.1, mr_90 mf, mk_106 mf, ml_106 mf, ↓fail_br mf, ↓isIn_br, f1, hn1, q1, qw5, x1, x2, x3]
        exact fin
    · refine Pr_gc (A := A) (C := fun _ => False) 1 1 b (by decide) rfl (fun K X kk => m322 ?_) (fun g J K X mf e kk => m324 ?_) (fun h2 l => l)
      · simp only [↓forall_eq, ↓inB_iff, gK_hU, gL_hU, gR_hU, gIh, gJh, pI_hU, pJ_hU, hU_hU, uI_app, uJ_app, and_true, true_and, and_false, false_and, and_self, true_implies, false_implies, not_true, not_false_iff, if_true, if_false, eq_self, Nat.reduceLeDiff, Nat.reduceEqDiff, reduceCtorEq, i32c, ti0, ti1, tiM, Int.natCast_nonneg, Int.reduceEq, Int.reduceLE, Int.reduceLT, Int.reduceNeg, tl_i, Int32.reduceToInt, Int64.reduceToInt, tiA, tlM6, Int.toNat_natCast, natc, nI_1, Int.zero_sub, implies_true, not_false_eq_true, ck_8 b.1, cr_8_11 b.1, ck_42 b.1, ↓SZ]
        refine c_needIndex (fun _ _ => ?_) (fun z => absurd ⟨q.1, by rw [hn]; exact q.2⟩ z)
        refine ⟨fun _ => kk, fun z1 => ⟨fun z2 => absurd ⟨by omega, z2⟩ qw, fun _ => kk⟩⟩
      · have qw5 : ¬ (0 ≤ w.toInt ∧ w.toInt ≤ 5) := fun z => qw (by omega)
        simp only [↓forall_eq, ↓inB_iff, gK_hU, gL_hU, gR_hU, gIh, gJh, pI_hU, pJ_hU, hU_hU, uI_app, uJ_app, and_true, true_and, and_false, false_and, and_self, true_implies, false_implies, not_true, not_false_iff, if_true, if_false, eq_self, Nat.reduceLeDiff, Nat.reduceEqDiff, reduceCtorEq, i32c, ti0, ti1, tiM, Int.natCast_nonneg, Int.reduceEq, Int.reduceLE, Int.reduceLT, Int.reduceNeg, tl_i, Int32.reduceToInt, Int64.reduceToInt, tiA, tlM6, Int.toNat_natCast, natc, nI_1, Int.zero_sub, implies_true, not_false_eq_true, mf.1, mr_90 mf, mk_106 mf, ml_106 mf, ↓fail_br mf, ↓isIn_br, e 44 (by decide) (by decide), f1, hn1, q1, qw5]
        exact kk
  · refine Pr_gc (A := A) (C := fun _ => False) 0 3 b (by decide) rfl (fun K X kk => m322 ?_) (fun g J K X mf e kk => m324 ?_) (fun h2 l => l)
    · simp only [↓forall_eq, ↓inB_iff, gK_hU, gL_hU, gR_hU, gIh, gJh, pI_hU, pJ_hU, hU_hU, uI_app, uJ_app, and_true, true_and, and_false, false_and, and_self, true_implies, false_implies, not_true, not_false_iff, if_true, if_false, eq_self, Nat.reduceLeDiff, Nat.reduceEqDiff, reduceCtorEq, i32c, ti0, ti1, tiM, Int.natCast_nonneg, Int.reduceEq, Int.reduceLE, Int.reduceLT, Int.reduceNeg, tl_i, Int32.reduceToInt, Int64.reduceToInt, tiA, tlM6, Int.toNat_natCast, natc, nI_1, Int.zero_sub, implies_true, not_false_eq_true, ck_8 b.1, cr_8_11 b.1, ck_42 b.1, ↓SZ]
      exact c_needIndex (fun z1 z2 => absurd ⟨z1, by rw [hn] at z2; exact z2⟩ q) (fun _ => kk)
    · have q1 : ¬ (0 ≤ x.toInt ∧ x.toInt ≤ (nl : Int) - 1) := fun z => q (by omega)
      simp only [↓forall_eq, ↓inB_iff, gK_hU, gL_hU, gR_hU, gIh, gJh, pI_hU, pJ_hU, hU_hU, uI_app, uJ_app, and_true, true_and, and_false, false_and, and_self, true_implies, false_implies, not_true, not_false_iff, if_true, if_false, eq_self, Nat.reduceLeDiff, Nat.reduceEqDiff, reduceCtorEq, i32c, ti0, ti1, tiM, Int.natCast_nonneg, Int.reduceEq, Int.reduceLE, Int.reduceLT, Int.reduceNeg, tl_i, Int32.reduceToInt, Int64.reduceToInt, tiA, tlM6, Int.toNat_natCast, natc, nI_1, Int.zero_sub, implies_true, not_false_eq_true, mf.1, mr_90 mf, mk_106 mf, ml_106 mf, ↓fail_br mf, ↓isIn_br, e 44 (by decide) (by decide), f1, hn1, q1]
      exact kk
end LKD
