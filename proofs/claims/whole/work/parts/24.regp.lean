/-! THE REGISTER'S AREA: its pairs of calls -/
section RGP
variable {d U T : Nat} {h h1 h2 : aH} {A A1 o o1 : Nat → Nat} {X : Nat → aH → Prop} {M M1 M2 : Nat → Nat → Int32} {I : Nat → Nat → Int32} {J : Nat → Nat → Int64} {C : Nat → Prop}
def RegA (h : aH) (A o : Nat → Nat) (M : Nat → Nat → Int32) (U T : Nat) : Prop :=
  (M 44 2 = nI U ∧ M 44 6 = nI T) ∧ unitsC h (A 1000011) U (M 45) (M 46) ∧ tellC h (A 1000013) T (M 47) (M 48) (M 49) (M 50) (M 51) ∧ gI h 9 5 = M 44 5 ∧ (o (A 1000011) = 1000011 ∧ o (A 1000013) = 1000013) ∧ forest (M 45) U ∧
  (∀ w, w < U → 0 ≤ (M 45 w).toInt → (M 46 w).toInt ≤ (M 44 1 / 1440).toInt) ∧ ∀ r, r < T → ((0 ≤ (M 47 r).toInt ∧ (M 47 r).toInt < U) ∧ 0 ≤ (M 49 r).toInt) ∧ -1000000 ≤ (M 50 r).toInt ∧ (M 50 r).toInt ≤ 1000000
theorem RegA_le (R : RegA h A o M U T) : U ≤ 100 ∧ T ≤ 1500 := ⟨R.2.1.1.2.2.2.2.2.2.2, R.2.2.1.1.2.2.2.2.2.2.2⟩
/-- another area's work leaves this one alone -/
theorem RegA_fr (b : base h o) (R : RegA h A o M U T) (f : fr h h2 A A1 o o1 C) (hc : ¬ C 1) (m1 : ∀ a, 45 ≤ a → a ≤ 51 → M2 a = M a) (m2 : M2 44 1 = M 44 1 ∧ M2 44 2 = M 44 2 ∧ M2 44 5 = M 44 5 ∧ M2 44 6 = M 44 6) : RegA h2 A1 o1 M2 U T := by
  obtain ⟨⟨r1, r2⟩, r3, r4, r5, ⟨r6, r7⟩, r8, r9, r10⟩ := R
  have ol := b.2.2
  have hN := b.1.1
  have e1 := f.2.2 1000011 (by rw [show 1000011 / 1000000 = 1 from rfl]; exact hc)
  have e2 := f.2.2 1000013 (by rw [show 1000013 / 1000000 = 1 from rfl]; exact hc)
  have n1 := r3.1.2.2.1.2.2.1
  have n2 := r4.1.2.2.1.2.2.1
  unfold RegA
  rw [m1 45 (by omega) (by omega), m1 46 (by omega) (by omega), m1 47 (by omega) (by omega), m1 48 (by omega) (by omega), m1 49 (by omega) (by omega), m1 50 (by omega) (by omega), m1 51 (by omega) (by omega), m2.1, m2.2.1, m2.2.2.1, m2.2.2.2, e1, e2, f.2.1 _ n1, f.2.1 _ n2]
  refine ⟨⟨r1, r2⟩, units_keeps r3 f.1 ?_ ?_, tell_keeps r4 f.1 ?_ ?_, ?_, ⟨r6, r7⟩, r8, r9, r10⟩
  · show ¬ C (o 10 / 1000000); rw [ol_10 ol]; exact hc
  · show ¬ C (o (A 1000011) / 1000000); rw [r6]; exact hc
  · show ¬ C (o 12 / 1000000); rw [ol_12 ol]; exact hc
  · show ¬ C (o (A 1000013) / 1000000); rw [r7]; exact hc
  · rw [(fr_same f (a := 9) (by omega) (by rw [ol_9 ol]; exact hc)).2.2.1]; exact r5
theorem reg_ne (b : base h o) (R : RegA h A o M U T) : A 1000011 ≠ 14 ∧ A 1000011 ≠ 15 ∧ A 1000013 ≠ 14 ∧ A 1000013 ≠ 15 := by
  have r6 := R.2.2.2.2.1
  have ol := b.2.2
  refine ⟨fun e => ?_, fun e => ?_, fun e => ?_, fun e => ?_⟩
  · have := r6.1; rw [e, ol_14 ol] at this; omega
  · have := r6.1; rw [e, ol_15 ol] at this; omega
  · have := r6.2; rw [e, ol_14 ol] at this; omega
  · have := r6.2; rw [e, ol_15 ol] at this; omega
theorem needUnit_br {K : aH → Prop} {x : Int32} (b : base h o) (R : RegA h A o M U T) : CV (d + 1) 30 [vR 8, vI x] h K X ↔ ((0 ≤ x.toInt ∧ x.toInt < U → K h) ∧ (¬ (0 ≤ x.toInt ∧ x.toInt < U) → X 3 (gNew h 200 6))) := by
  by_cases q : 0 ≤ x.toInt ∧ x.toInt < U
  · rw [bz_t q]; exact CV_iff fun K X w => c_needUnit b.1 R.2.1.1 (fun _ _ => w) (fun n => absurd q n)
  · rw [bz_f q]; exact CVx_iff fun K X w => c_needUnit b.1 R.2.1.1 (fun a c => absurd ⟨a, c⟩ q) (fun _ => w)
theorem needField_br {K : aH → Prop} {x : Int32} : CV (d + 1) 31 [vR 8, vI x] h K X ↔ ((0 ≤ x.toInt ∧ x.toInt ≤ 5 → K h) ∧ (¬ (0 ≤ x.toInt ∧ x.toInt ≤ 5) → X 3 (gNew h 200 6))) := by
  by_cases q : 0 ≤ x.toInt ∧ x.toInt ≤ 5
  · rw [bz_t q]; exact CV_iff fun K X w => c_needField (fun _ _ => w) (fun n => absurd ⟨q.1, by omega⟩ n)
  · rw [bz_f q]; exact CVx_iff fun K X w => c_needField (fun a c => absurd ⟨a, by omega⟩ q) (fun _ => w)
theorem needUnm_br {K : aH → Prop} {x : Int32} (b : base h o) (R : RegA h A o M U T) (h0 : 0 ≤ x.toInt ∧ x.toInt < U) : CV (d + 3) 34 [vR 8, vI x] h K X ↔ (((M 45 x.toInt.toNat).toInt = -1 → K h) ∧ (¬ (M 45 x.toInt.toNat).toInt = -1 → X 2 (gNew h 200 6))) := by
  by_cases q : (M 45 x.toInt.toNat).toInt = -1
  · rw [bz_t q]; exact CV_iff fun K X w => c_needUnm b.1 R.2.1 h0.1 h0.2 (fun _ => w) (fun n => absurd q n)
  · rw [bz_f q]; exact CVx_iff fun K X w => c_needUnm b.1 R.2.1 h0.1 h0.2 (fun a => absurd a q) (fun _ => w)
theorem todayc_br {K : Int32 → aH → Prop} (b : base h o) (hm : gI h 8 12 = M 44 1) : CI d 35 [vR 8] h K X ↔ K (M 44 1 / 1440) h := CI_iff fun K X w => c_today b.1 (by rw [hm]; exact w)
theorem lastk_br {K : Int32 → aH → Prop} {x kn : Int32} (b : base h o) (R : RegA h A o M U T) (h0 : 0 ≤ x.toInt ∧ x.toInt < U) : CI (d + 2) 42 [vR 9, vI x, vI kn] h K X ↔ K (nI (lastM M kn.toInt x.toInt.toNat)) h :=
  CI_iff fun K X w => c_last b.1 R.2.1 R.2.2.2.2.2.1 h0.1 h0.2 w
/-- the model's other cells are as they were -/
def mOnly (h h2 : aH) (as fs : List Nat) : Prop := (∀ a, 44 < a → a < 107 → a ∉ as → gI h2 a = gI h a) ∧ (∀ j, j ≠ 0 → j ∉ fs → gI h2 44 j = gI h 44 j) ∧ ∀ a, 44 ≤ a → a < 107 → a ∉ as → gJ h2 a = gJ h a
/-- what a pair of calls leaves: the areas C changed, of the model the arrays as and the fields fs; so many cells and slots -/
def left (h h2 : aH) (A A1 o o1 : Nat → Nat) (C : Nat → Prop) (as fs : List Nat) (n t : Nat) : Prop := base h2 o1 ∧ fr h h2 A A1 o o1 (fun c => C c ∨ c = 14 ∨ c = 15) ∧ mOnly h h2 as fs ∧ gN h2 ≤ gN h + n ∧ gT h2 ≤ gT h + t
theorem left_mk {as fs : List Nat} {n t : Nat} {I' : Nat → Nat → Int32} {J' : Nat → Nat → Int64} (b : base h o) (b1 : base h1 o1) (f : fr h h1 A A1 o o1 C) (hc : ¬ C 14) (ha : ∀ a ∈ as, 44 < a ∧ a < 107)
    (i1 : ∀ a, a ≠ 44 → a ∉ as → I' a = gI h1 a) (i2 : ∀ j, j ≠ 0 → j ∉ fs → I' 44 j = gI h1 44 j) (j1 : ∀ a, a ≠ 107 → a ∉ as → J' a = gJ h1 a) (hn : gN h1 ≤ gN h + n) (ht : gT h1 ≤ gT h + t) : left h (hU h1 I' J') A A1 o o1 C as fs n t := by
  have hN := b.1.1
  have hm := fun {a : Nat} (h44 : 44 ≤ a) (h107 : a < 107) => fr_m b f hc h44 h107
  refine ⟨b1, ⟨⟨f.1.1, f.1.2.1, f.1.2.2.1, fun a ha2 hp => ?_⟩, f.2.1, fun l hl => f.2.2 l (fun q => hl (Or.inl q))⟩, ⟨fun a h1 h2 hna => ?_, fun j h0 hnj => ?_, fun a h1 h2 hna => ?_⟩, hn, ht⟩
  · have hp1 : ¬ C (o a / 1000000) := fun q => hp (Or.inl q)
    have hp2 : ¬ (44 ≤ a ∧ a < 107) := fun q => hp (Or.inr (Or.inl (ol_m b.2.2 q.1 q.2)))
    have hp3 : a ≠ 107 := fun q => hp (Or.inr (Or.inr (by rw [q, ol_107 b.2.2])))
    have hna : a ∉ as := fun q => hp2 ⟨by have := (ha a q).1; omega, (ha a q).2⟩
    obtain ⟨s1, s2, s3, s4, s5⟩ := fr_same f ha2 hp1
    refine ⟨s1, s2, fun j => ?_, fun j => ?_, s5⟩
    · show I' a j = _
      rw [i1 a (by omega) hna]; exact s3 j
    · show J' a j = _
      rw [j1 a hp3 hna]; exact s4 j
  · show I' a = _
    rw [i1 a (by omega) hna]; exact (hm (by omega) h2).1
  · show I' 44 j = _
    rw [i2 j h0 hnj, (hm (a := 44) (by omega) (by omega)).1]
  · show J' a = _
    rw [j1 a (by omega) hna]; exact (hm h1 h2).2
theorem nin1 {a b : Nat} : a ∉ [b] ↔ a ≠ b := by simp
theorem gc_new {C : Nat → Prop} : fr h (gNew h 200 6) A A o o C := fr_new _ _
theorem base_new (b : base h o) : base (gNew h 200 6) o := base_of b (A := fun _ => 0) (C := fun _ => False) (fr_new _ _) (fun a ha j => by
  have hN := b.1.1
  rw [gR_gNew, if_neg (by omega)]) (by have hN := b.1.1; rw [gR_gNew, if_neg (by omega)])
theorem pr_last {x : Int32} (b : base h o) (R : RegA h A o (gI h) U T) (hm : gI h 8 12 = gI h 44 1) : Pr 55 57 [vI x] [3] h (fun h2 => left h h2 A A o o (fun _ => False) [] [] 1 6) := by
  obtain ⟨u9, t9⟩ := RegA_le R
  have hu := R.1.1
  have hu2 : (nI U).toInt = U := ti_n (by omega)
  by_cases q : 0 ≤ x.toInt ∧ x.toInt < U
  · refine Pr_ok (nI (lastM (gI h) (gI h 44 1 / 1440).toInt x.toInt.toNat)) (fun h1 => h1 = h) (fun K X k => m55 ?_) (fun h1 J1 m j K X k => m57 ?_)
    · simp only [↓forall_eq, ↓inB_iff, gK_hU, gL_hU, gR_hU, gI_hU, gJ_hU, pI_hU, pJ_hU, hU_hU, uI_app, uJ_app, and_true, true_and, and_false, false_and, and_self, true_implies, false_implies, not_true, not_false_iff, if_true, if_false, eq_self, Nat.reduceLeDiff, Nat.reduceEqDiff, reduceCtorEq, i32c, ti0, ti1, tiM, Int.natCast_nonneg, Int.reduceEq, Int.reduceLE, Int.reduceLT, Int.reduceNeg, tl_i, Int32.reduceToInt, Int64.reduceToInt, tiA, tlM6, Int.toNat_natCast, natc, nI_1, Int.zero_sub, implies_true, not_false_eq_true, ck_8 b.1, cr_8_0 b.1, ck_9 b.1, ↓needUnit_br b R, ↓todayc_br b hm, ↓lastk_br b R q, q]
      exact k h rfl
    · subst m
      simp only [↓forall_eq, ↓inB_iff, gK_hU, gL_hU, gR_hU, gI_hU, gJ_hU, pI_hU, pJ_hU, hU_hU, uI_app, uJ_app, and_true, true_and, and_false, false_and, and_self, true_implies, false_implies, not_true, not_false_iff, if_true, if_false, eq_self, Nat.reduceLeDiff, Nat.reduceEqDiff, reduceCtorEq, i32c, ti0, ti1, tiM, Int.natCast_nonneg, Int.reduceEq, Int.reduceLE, Int.reduceLT, Int.reduceNeg, tl_i, Int32.reduceToInt, Int64.reduceToInt, tiA, tlM6, Int.toNat_natCast, natc, nI_1, Int.zero_sub, implies_true, not_false_eq_true, b.2.1.1, ↓fail_br b.2.1, ↓isUnit_br b.2.1, ↓today_br b.2.1, hu, hu2, q]
      rw [last_br b.2.1 (by exact hu) u9 (by exact R.2.2.2.2.2.1) q.1 q.2]
      exact k _ (by simp only [↓forall_eq, ↓inB_iff, gK_hU, gL_hU, gR_hU, gI_hU, gJ_hU, pI_hU, pJ_hU, hU_hU, uI_app, uJ_app, and_true, true_and, and_false, false_and, and_self, true_implies, false_implies, not_true, not_false_iff, if_true, if_false, eq_self, Nat.reduceLeDiff, Nat.reduceEqDiff, reduceCtorEq, i32c, ti0, ti1, tiM, Int.natCast_nonneg, Int.reduceEq, Int.reduceLE, Int.reduceLT, Int.reduceNeg, tl_i, Int32.reduceToInt, Int64.reduceToInt, tiA, tlM6, Int.toNat_natCast, natc, nI_1, Int.zero_sub, implies_true, not_false_eq_true]) rfl (left_mk b b fr_refl (fun w => w) (by simp) (fun a a1 a2 => by funext j9; simp only [uI_app]; grind) (fun j9 a1 a2 => by simp only [uI_app]; grind) (fun a a1 _ => j a a1) (by omega) (by omega))
  · refine Pr_no 0 (fun h1 => h1 = gNew h 200 6) 3 (by decide) rfl (fun K X k => m55 ?_) (fun h1 J1 m j K X k => m57 ?_)
    · simp only [↓forall_eq, ↓inB_iff, gK_hU, gL_hU, gR_hU, gI_hU, gJ_hU, pI_hU, pJ_hU, hU_hU, uI_app, uJ_app, and_true, true_and, and_false, false_and, and_self, true_implies, false_implies, not_true, not_false_iff, if_true, if_false, eq_self, Nat.reduceLeDiff, Nat.reduceEqDiff, reduceCtorEq, i32c, ti0, ti1, tiM, Int.natCast_nonneg, Int.reduceEq, Int.reduceLE, Int.reduceLT, Int.reduceNeg, tl_i, Int32.reduceToInt, Int64.reduceToInt, tiA, tlM6, Int.toNat_natCast, natc, nI_1, Int.zero_sub, implies_true, not_false_eq_true, ck_8 b.1, cr_8_0 b.1, ck_9 b.1, ↓needUnit_br b R, q]
      exact k _ rfl
    · have b1 := base_new b
      have hi := fr_m (A := A) (A1 := A) (C := fun _ => False) b (fr_new 200 6) (fun w => w) (a := 44) (by decide) (by decide)
      subst m
      rw [← hi.1] at hu
      simp only [↓forall_eq, ↓inB_iff, gK_hU, gL_hU, gR_hU, gI_hU, gJ_hU, pI_hU, pJ_hU, hU_hU, uI_app, uJ_app, and_true, true_and, and_false, false_and, and_self, true_implies, false_implies, not_true, not_false_iff, if_true, if_false, eq_self, Nat.reduceLeDiff, Nat.reduceEqDiff, reduceCtorEq, i32c, ti0, ti1, tiM, Int.natCast_nonneg, Int.reduceEq, Int.reduceLE, Int.reduceLT, Int.reduceNeg, tl_i, Int32.reduceToInt, Int64.reduceToInt, tiA, tlM6, Int.toNat_natCast, natc, nI_1, Int.zero_sub, implies_true, not_false_eq_true, b1.2.1.1, ↓fail_br b1.2.1, ↓isUnit_br b1.2.1, hu, hu2, q]
      exact k _ _ (by simp only [↓forall_eq, ↓inB_iff, gK_hU, gL_hU, gR_hU, gI_hU, gJ_hU, pI_hU, pJ_hU, hU_hU, uI_app, uJ_app, and_true, true_and, and_false, false_and, and_self, true_implies, false_implies, not_true, not_false_iff, if_true, if_false, eq_self, Nat.reduceLeDiff, Nat.reduceEqDiff, reduceCtorEq, i32c, ti0, ti1, tiM, Int.natCast_nonneg, Int.reduceEq, Int.reduceLE, Int.reduceLT, Int.reduceNeg, tl_i, Int32.reduceToInt, Int64.reduceToInt, tiA, tlM6, Int.toNat_natCast, natc, nI_1, Int.zero_sub, implies_true, not_false_eq_true]; rfl) rfl (left_mk b b1 gc_new (fun w => w) (by simp) (fun a a1 a2 => by funext j9; simp only [uI_app]; grind) (fun j9 a1 a2 => by simp only [uI_app]; grind) (fun a a1 _ => j a a1) (by rw [gN_gNew]; omega) (by rw [gT_gNew]; omega))
end RGP
