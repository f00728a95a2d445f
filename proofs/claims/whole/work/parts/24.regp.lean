/-! THE REGISTER'S AREA: its pairs of calls -/
section RGP
variable {d U T : Nat} {h h1 h2 : aH} {A A1 o o1 : Nat → Nat} {X : Nat → aH → Prop} {M M1 M2 : Nat → Nat → Int32} {I : Nat → Nat → Int32} {J : Nat → Nat → Int64} {C : Nat → Prop}
def RegA (h : aH) (A o : Nat → Nat) (M : Nat → Nat → Int32) (U T : Nat) : Prop :=
  (M 44 2 = nI U ∧ M 44 6 = nI T) ∧ unitsC h (A 1000011) U (M 45) (M 46) ∧ tellC h (A 1000013) T (M 47) (M 48) (M 49) (M 50) (M 51) ∧ gI h 9 5 = M 44 5 ∧ (o (A 1000011) = 1000011 ∧ o (A 1000013) = 1000013) ∧ forest (M 45) U ∧
  (∀ w, w < U → 0 ≤ (M 45 w).toInt → (M 46 w).toInt ≤ (M 44 1 / 1440).toInt) ∧ ∀ r, r < T → ((0 ≤ (M 47 r).toInt ∧ (M 47 r).toInt < U) ∧ 0 ≤ (M 49 r).toInt) ∧ -1000000 ≤ (M 50 r).toInt ∧ (M 50 r).toInt ≤ 1000000
theorem RegA_le (R : RegA h A o M U T) : U ≤ 100 ∧ T ≤ 1500 := ⟨R.2.1.1.2.2.2.2.2.2.2, R.2.2.1.1.2.2.2.2.2.2.2⟩
/-- another area's work leaves this one alone -/
theorem RegA_fr (b : base h o) (R : RegA h A o M U T) (f : fr h h2 A A1 o o1 C) (hc : ¬ C 1) (m1 : ∀ a, 45 ≤ a → a ≤ 51 → M2 a = M a) (m2 : M2 44 1 = M 44 1 ∧ M2 44 2 = M 44 2 ∧ M2 44 5 = M 44 5 ∧ M2 44 6 = M 44 6) : RegA h2 A1 o1 M2 U T := by
  obtain ⟨⟨r1, r2⟩, r3, r4, r5, ⟨r6, r7⟩, r8, r9, r10⟩ := R
  have ol := b.2.2
  have hN := b.1.1
  have e1 := f.2.2 1000011 (by rw [show 1000011 / 1000000 = 1 from rfl]; exact hc)
  have e2 := f.2.2 1000013 (by rw [show 1000013 / 1000000 = 1 from rfl]; exact hc)
  have n1 := r3.1.2.2.1.2.2.1
  have n2 := r4.1.2.2.1.2.2.1
  unfold RegA
  rw [m1 45 (by omega) (by omega), m1 46 (by omega) (by omega), m1 47 (by omega) (by omega), m1 48 (by omega) (by omega), m1 49 (by omega) (by omega), m1 50 (by omega) (by omega), m1 51 (by omega) (by omega), m2.1, m2.2.1, m2.2.2.1, m2.2.2.2, e1, e2, f.2.1 _ n1, f.2.1 _ n2]
  refine ⟨⟨r1, r2⟩, units_keeps r3 f.1 ?_ ?_, tell_keeps r4 f.1 ?_ ?_, ?_, ⟨r6, r7⟩, r8, r9, r10⟩
  · show ¬ C (o 10 / 1000000); rw [ol_10 ol]; exact hc
  · show ¬ C (o (A 1000011) / 1000000); rw [r6]; exact hc
  · show ¬ C (o 12 / 1000000); rw [ol_12 ol]; exact hc
  · show ¬ C (o (A 1000013) / 1000000); rw [r7]; exact hc
  · rw [(fr_same f (a := 9) (by omega) (by rw [ol_9 ol]; exact hc)).2.2.1]; exact r5
theorem reg_ne (b : base h o) (R : RegA h A o M U T) : A 1000011 ≠ 14 ∧ A 1000011 ≠ 15 ∧ A 1000013 ≠ 14 ∧ A 1000013 ≠ 15 := by
  have r6 := R.2.2.2.2.1
  have ol := b.2.2
  refine ⟨fun e => ?_, fun e => ?_, fun e => ?_, fun e => ?_⟩
  · have := r6.1; rw [e, ol_14 ol] at this; omega
  · have := r6.1; rw [e, ol_15 ol] at this; omega
  · have := r6.2; rw [e, ol_14 ol] at this; omega
  · have := r6.2; rw [e, ol_15 ol] at this; omega
theorem needUnit_br {K : aH → Prop} {x : Int32} (b : base h o) (R : RegA h A o M U T) : CV (d + 1) 30 [vR 8, vI x] h K X ↔ ((0 ≤ x.toInt ∧ x.toInt < U → K h) ∧ (¬ (0 ≤ x.toInt ∧ x.toInt < U) → X 3 (gNew h 200 6))) := by
  by_cases q : 0 ≤ x.toInt ∧ x.toInt < U
  · rw [bz_t q]; exact CV_iff fun K X w => c_needUnit b.1 R.2.1.1 (fun _ _ => w) (fun n => absurd q n)
  · rw [bz_f q]; exact CVx_iff fun K X w => c_needUnit b.1 R.2.1.1 (fun a c => absurd ⟨a, c⟩ q) (fun _ => w)
theorem needField_br {K : aH → Prop} {x : Int32} : CV (d + 1) 31 [vR 8, vI x] h K X ↔ ((0 ≤ x.toInt ∧ x.toInt ≤ 5 → K h) ∧ (¬ (0 ≤ x.toInt ∧ x.toInt ≤ 5) → X 3 (gNew h 200 6))) := by
  by_cases q : 0 ≤ x.toInt ∧ x.toInt ≤ 5
  · rw [bz_t q]; exact CV_iff fun K X w => c_needField (fun _ _ => w) (fun n => absurd ⟨q.1, by omega⟩ n)
  · rw [bz_f q]; exact CVx_iff fun K X w => c_needField (fun a c => absurd ⟨a, by omega⟩ q) (fun _ => w)
theorem needUnm_br {K : aH → Prop} {x : Int32} (b : base h o) (R : RegA h A o M U T) (h0 : 0 ≤ x.toInt ∧ x.toInt < U) : CV (d + 3) 34 [vR 8, vI x] h K X ↔ (((M 45 x.toInt.toNat).toInt = -1 → K h) ∧ (¬ (M 45 x.toInt.toNat).toInt = -1 → X 2 (gNew h 200 6))) := by
  by_cases q : (M 45 x.toInt.toNat).toInt = -1
  · rw [bz_t q]; exact CV_iff fun K X w => c_needUnm b.1 R.2.1 h0.1 h0.2 (fun _ => w) (fun n => absurd q n)
  · rw [bz_f q]; exact CVx_iff fun K X w => c_needUnm b.1 R.2.1 h0.1 h0.2 (fun a => absurd a q) (fun _ => w)
theorem todayc_br {K : Int32 → aH → Prop} (b : base h o) (hm : gI h 8 12 = M 44 1) : CI d 35 [vR 8] h K X ↔ K (M 44 1 / 1440) h := CI_iff fun K X w => c_today b.1 (by rw [hm]; exact w)
theorem lastk_br {K : Int32 → aH → Prop} {x kn : Int32} (b : base h o) (R : RegA h A o M U T) (h0 : 0 ≤ x.toInt ∧ x.toInt < U) : CI (d + 2) 42 [vR 9, vI x, vI kn] h K X ↔ K (nI (lastM M kn.toInt x.toInt.toNat)) h :=
  CI_iff fun K X w => c_last b.1 R.2.1 R.2.2.2.2.2.1 h0.1 h0.2 w
/-- the model's other cells are as they were -/
def mOnly (h h2 : aH) (as fs : List Nat) : Prop := (∀ a, 44 < a → a < 107 → a ∉ as → gI h2 a = gI h a) ∧ (∀ j, j ≠ 0 → j ∉ fs → gI h2 44 j = gI h 44 j) ∧ ∀ a, 44 ≤ a → a < 107 → a ∉ as → gJ h2 a = gJ h a
/-- what a pair of calls leaves: the areas C changed, of the model the arrays as and the fields fs; so many cells and slots -/
def left (h h2 : aH) (A A1 o o1 : Nat → Nat) (C : Nat → Prop) (as fs : List Nat) (n t : Nat) : Prop := base h2 o1 ∧ fr h h2 A A1 o o1 (fun c => C c ∨ c = 14 ∨ c = 15) ∧ mOnly h h2 as fs ∧ gN h2 ≤ gN h + n ∧ gT h2 ≤ gT h + t
theorem left_mk {as fs : List Nat} {n t : Nat} {I' : Nat → Nat → Int32} {J' : Nat → Nat → Int64} (b : base h o) (b1 : base h1 o1) (f : fr h h1 A A1 o o1 C) (hc : ¬ C 14) (ha : ∀ a ∈ as, 44 < a ∧ a < 107)
    (i1 : ∀ a, a ≠ 44 → a ∉ as → I' a = gI h1 a) (i2 : ∀ j, j ≠ 0 → j ∉ fs → I' 44 j = gI h1 44 j) (j1 : ∀ a, a ≠ 107 → a ∉ as → J' a = gJ h1 a) (hn : gN h1 ≤ gN h + n) (ht : gT h1 ≤ gT h + t) : left h (hU h1 I' J') A A1 o o1 C as fs n t := by
  have hN := b.1.1
  have hm := fun {a : Nat} (h44 : 44 ≤ a) (h107 : a < 107) => fr_m b f hc h44 h107
  refine ⟨b1, ⟨⟨f.1.1, f.1.2.1, f.1.2.2.1, fun a ha2 hp => ?_⟩, f.2.1, fun l hl => f.2.2 l (fun q => hl (Or.inl q))⟩, ⟨fun a h1 h2 hna => ?_, fun j h0 hnj => ?_, fun a h1 h2 hna => ?_⟩, hn, ht⟩
  · have hp1 : ¬ C (o a / 1000000) := fun q => hp (Or.inl q)
    have hp2 : ¬ (44 ≤ a ∧ a < 107) := fun q => hp (Or.inr (Or.inl (ol_m b.2.2 q.1 q.2)))
    have hp3 : a ≠ 107 := fun q => hp (Or.inr (Or.inr (by rw [q, ol_107 b.2.2])))
    have hna : a ∉ as := fun q => hp2 ⟨by have := (ha a q).1; omega, (ha a q).2⟩
    obtain ⟨s1, s2, s3, s4, s5⟩ := fr_same f ha2 hp1
    refine ⟨s1, s2, fun j => ?_, fun j => ?_, s5⟩
    · show I' a j = _
      rw [i1 a (by omega) hna]; exact s3 j
    · show J' a j = _
      rw [j1 a hp3 hna]; exact s4 j
  · show I' a = _
    rw [i1 a (by omega) hna]; exact (hm (by omega) h2).1
  · show I' 44 j = _
    rw [i2 j h0 hnj, (hm (a := 44) (by omega) (by omega)).1]
  · show J' a = _
    rw [j1 a (by omega) hna]; exact (hm h1 h2).2
theorem nin1 {a b : Nat} : a ∉ [b] ↔ a ≠ b := by simp
theorem gc_new {C : Nat → Prop} : fr h (gNew h 200 6) A A o o C := fr_new _ _
theorem base_new (b : base h o) : base (gNew h 200 6) o := base_of b (A := fun _ => 0) (C := fun _ => False) (fr_new _ _) (fun a ha j => by
  have hN := b.1.1
  rw [gR_gNew, if_neg (by omega)]) (by have hN := b.1.1; rw [gR_gNew, if_neg (by omega)])
/-- both fail, and nothing but the thrown one is made -/
theorem Pr_gc {nc nm : Nat} {args : List aV} {exs : List Nat} {Post : aH → Prop} (c x : Nat) (b : base h o) (h0 : c + 1 ≤ exs.length) (hx : exs.getD c 0 = x)
    (hc : ∀ (K : Int32 → aH → Prop) (X : Nat → aH → Prop), X x (gNew h 200 6) → CI 500 nc (vR 8 :: args) h K X)
    (hm : ∀ (g : aH) (J : Nat → Nat → Int64) (K : Int32 → aH → Prop) (X : Nat → aH → Prop), MF g → (∀ a, 44 ≤ a → a < 107 → gI g a = gI h a) → K 0 (hU g (uI (uI (gI g) 44 0 0) 44 0 (nI (c + 1))) J) → CI 500 nm (vR 44 :: args) (hU g (gI g) J) K X)
    (hp : ∀ h2, left h h2 A A o o C [] [] 1 6 → Post h2) : Pr nc nm args exs h Post := by
  have b1 := base_new b
  refine Pr_no c (fun h1 => h1 = gNew h 200 6) x h0 hx (fun K X k => hc K X (k _ rfl)) (fun h1 J1 m j K X k => ?_)
  subst m
  refine hm _ J1 K X b1.2.1 (fun a h44 h107 => (fr_m (A := A) (A1 := A) (C := fun _ => False) b (fr_new 200 6) (fun w => w) h44 h107).1) (k _ _ rfl rfl (hp _ ?_))
  have l1 := left_mk (n := 1) (t := 6) (as := []) (fs := []) (I' := uI (uI (gI (gNew h 200 6)) 44 0 0) 44 0 (nI (c + 1))) (J' := J1) (C := fun _ => False) (A := A) (A1 := A) b b1 gc_new (fun w => w) (by simp) (fun a a1 a2 => by funext j9; simp only [uI_app]; grind) (fun j9 a1 a2 => by simp only [uI_app]; grind) (fun a a1 _ => j a a1) (by rw [gN_gNew]; omega) (by rw [gT_gNew]; omega)
  exact ⟨l1.1, fr_mono l1.2.1 (fun a q => q.elim (fun w => w.elim) Or.inr), l1.2.2⟩
theorem RegA_left {as fs : List Nat} {n t : Nat} (b : base h o) (R : RegA h A o (gI h) U T) (l : left h h2 A A1 o o1 C as fs n t) (hc : ¬ C 1) (ha : ∀ a ∈ as, a < 45 ∨ 51 < a) (hf : ∀ j ∈ fs, j ≠ 1 ∧ j ≠ 2 ∧ j ≠ 5 ∧ j ≠ 6) : RegA h2 A1 o1 (gI h2) U T := by
  obtain ⟨l1, l2, ⟨l3, l4, l5⟩, -⟩ := l
  refine RegA_fr b R l2 (by rintro (q | q | q); exact hc q; omega; omega) (fun a a1 a2 => l3 a (by omega) (by omega) (fun q => by have := ha a q; omega)) ⟨l4 1 (by decide) (fun q => (hf 1 q).1 rfl), l4 2 (by decide) (fun q => (hf 2 q).2.1 rfl), l4 5 (by decide) (fun q => (hf 5 q).2.2.1 rfl), l4 6 (by decide) (fun q => (hf 6 q).2.2.2 rfl)⟩
theorem left_mono {as fs as' fs' : List Nat} {n t n' t' : Nat} {C' : Nat → Prop} (l : left h h2 A A1 o o1 C as fs n t) (hC : ∀ c, C c → C' c) (ha : ∀ a ∈ as, a ∈ as') (hf : ∀ a ∈ fs, a ∈ fs') (hn : n ≤ n') (ht : t ≤ t') : left h h2 A A1 o o1 C' as' fs' n' t' :=
  ⟨l.1, fr_mono l.2.1 (fun a q => q.imp_left (hC a)), ⟨fun a h1 h2 q => l.2.2.1.1 a h1 h2 (fun w => q (ha a w)), fun a h1 q => l.2.2.1.2.1 a h1 (fun w => q (hf a w)), fun a h1 h2 q => l.2.2.1.2.2 a h1 h2 (fun w => q (ha a w))⟩, Nat.le_trans l.2.2.2.1 (Nat.add_le_add_left hn _), Nat.le_trans l.2.2.2.2 (Nat.add_le_add_left ht _)⟩
theorem pr_last {x : Int32} (b : base h o) (R : RegA h A o (gI h) U T) (hm : gI h 8 12 = gI h 44 1) : Pr 55 57 [vI x] [3] h (fun h2 => left h h2 A A o o (fun _ => False) [] [] 1 6) := by
  obtain ⟨u9, t9⟩ := RegA_le R
  have hu := R.1.1
  have hu2 : (nI U).toInt = U := ti_n (by omega)
  by_cases q : 0 ≤ x.toInt ∧ x.toInt < U
  · refine Pr_ok (nI (lastM (gI h) (gI h 44 1 / 1440).toInt x.toInt.toNat)) (fun h1 => h1 = h) (fun K X k => m55 ?_) (fun h1 J1 m j K X k => m57 ?_)
    · simp only [↓forall_eq, ↓inB_iff, gK_hU, gL_hU, gR_hU, gIh, gJh, pI_hU, pJ_hU, hU_hU, uI_app, uJ_app, and_true, true_and, and_false, false_and, and_self, true_implies, false_implies, not_true, not_false_iff, if_true, if_false, eq_self, Nat.reduceLeDiff, Nat.reduceEqDiff, reduceCtorEq, i32c, ti0, ti1, tiM, Int.natCast_nonneg, Int.reduceEq, Int.reduceLE, Int.reduceLT, Int.reduceNeg, tl_i, Int32.reduceToInt, Int64.reduceToInt, tiA, tlM6, Int.toNat_natCast, natc, nI_1, Int.zero_sub, implies_true, not_false_eq_true, ck_8 b.1, cr_8_0 b.1, ck_9 b.1, ↓needUnit_br b R, ↓todayc_br b hm, ↓lastk_br b R q, q]
      exact k h rfl
    · subst m
      simp only [↓forall_eq, ↓inB_iff, gK_hU, gL_hU, gR_hU, gIh, gJh, pI_hU, pJ_hU, hU_hU, uI_app, uJ_app, and_true, true_and, and_false, false_and, and_self, true_implies, false_implies, not_true, not_false_iff, if_true, if_false, eq_self, Nat.reduceLeDiff, Nat.reduceEqDiff, reduceCtorEq, i32c, ti0, ti1, tiM, Int.natCast_nonneg, Int.reduceEq, Int.reduceLE, Int.reduceLT, Int.reduceNeg, tl_i, Int32.reduceToInt, Int64.reduceToInt, tiA, tlM6, Int.toNat_natCast, natc, nI_1, Int.zero_sub, implies_true, not_false_eq_true, b.2.1.1, ↓fail_br b.2.1, ↓isUnit_br b.2.1, ↓today_br b.2.1, hu, hu2, q]
      rw [last_br b.2.1 (by exact hu) u9 (by exact R.2.2.2.2.2.1) q.1 q.2]
      exact k _ (by simp only [↓forall_eq, ↓inB_iff, gK_hU, gL_hU, gR_hU, gIh, gJh, pI_hU, pJ_hU, hU_hU, uI_app, uJ_app, and_true, true_and, and_false, false_and, and_self, true_implies, false_implies, not_true, not_false_iff, if_true, if_false, eq_self, Nat.reduceLeDiff, Nat.reduceEqDiff, reduceCtorEq, i32c, ti0, ti1, tiM, Int.natCast_nonneg, Int.reduceEq, Int.reduceLE, Int.reduceLT, Int.reduceNeg, tl_i, Int32.reduceToInt, Int64.reduceToInt, tiA, tlM6, Int.toNat_natCast, natc, nI_1, Int.zero_sub, implies_true, not_false_eq_true]) rfl (left_mk b b fr_refl (fun w => w) (by simp) (fun a a1 a2 => by funext j9; simp only [uI_app]; grind) (fun j9 a1 a2 => by simp only [uI_app]; grind) (fun a a1 _ => j a a1) (by omega) (by omega))
  · refine Pr_gc 0 3 b (by decide) rfl (fun K X k => m55 ?_) (fun g J K X mf e k => m57 ?_) (fun h2 l => l)
    · simp only [↓forall_eq, ↓inB_iff, gK_hU, gL_hU, gR_hU, gIh, gJh, pI_hU, pJ_hU, hU_hU, uI_app, uJ_app, and_true, true_and, and_false, false_and, and_self, true_implies, false_implies, not_true, not_false_iff, if_true, if_false, eq_self, Nat.reduceLeDiff, Nat.reduceEqDiff, reduceCtorEq, i32c, ti0, ti1, tiM, Int.natCast_nonneg, Int.reduceEq, Int.reduceLE, Int.reduceLT, Int.reduceNeg, tl_i, Int32.reduceToInt, Int64.reduceToInt, tiA, tlM6, Int.toNat_natCast, natc, nI_1, Int.zero_sub, implies_true, not_false_eq_true, ck_8 b.1, cr_8_0 b.1, ck_9 b.1, ↓needUnit_br b R, q]
      exact k
    · simp only [↓forall_eq, ↓inB_iff, gK_hU, gL_hU, gR_hU, gIh, gJh, pI_hU, pJ_hU, hU_hU, uI_app, uJ_app, and_true, true_and, and_false, false_and, and_self, true_implies, false_implies, not_true, not_false_iff, if_true, if_false, eq_self, Nat.reduceLeDiff, Nat.reduceEqDiff, reduceCtorEq, i32c, ti0, ti1, tiM, Int.natCast_nonneg, Int.reduceEq, Int.reduceLE, Int.reduceLT, Int.reduceNeg, tl_i, Int32.reduceToInt, Int64.reduceToInt, tiA, tlM6, Int.toNat_natCast, natc, nI_1, Int.zero_sub, implies_true, not_false_eq_true, mf.1, ↓fail_br mf, ↓isUnit_br mf, e 44 (by decide) (by decide), hu, hu2, q]
      exact k
theorem isFull_br {a bb w lim n : Nat} {K : Int32 → aH → Prop} (R : rowsOK h a bb w lim n) : CI d 18 [vR a] h K X ↔ ((n < lim → K 0 h) ∧ (¬ n < lim → K 1 h)) := by
  by_cases q : n < lim
  · rw [bz_t q]; exact CI_iff fun K X w => c_isFull R (fun _ => w) (fun n => absurd q n)
  · rw [bz_f q]; exact CI_iff fun K X w => c_isFull R (fun n => absurd n q) (fun _ => w)
/-- the register's rows behind a new one -/
theorem rows_new {a l w lim n b' : Nat} (b : base h o) (ha : a = 10 ∨ a = 12) (hl : l = a + 1000001) (R : rowsOK h a (A l) w lim n) (hlab : o (A l) = l) (hb' : (b' = A l ∧ gN h1 = gN h) ∨ (b' = gN h ∧ gN h1 = gN h + 1)) (k : keeps h h1 (fun q => q = a ∨ q = A l)) :
    ∃ A1 o1 : Nat → Nat, A1 l = b' ∧ o1 b' = l ∧ (∀ m, m ≠ l → A1 m = A m) ∧ (∀ q, q < gN h → o1 q = o q) ∧ fr h h1 A A1 o o1 (fun c => c = 1) ∧ base h1 o1 := by
  have hN := b.1.1
  have ol := b.2.2
  have hll : l / 1000000 = 1 := by omega
  have hal : A l ≠ 8 ∧ A l ≠ 9 ∧ A l ≠ 17 ∧ A l ≠ 19 ∧ A l ≠ 32 ∧ A l ≠ 44 := by
    refine ⟨fun e => ?_, fun e => ?_, fun e => ?_, fun e => ?_, fun e => ?_, fun e => ?_⟩ <;> rw [e] at hlab
    · rw [ol_8 ol] at hlab; omega
    · rw [ol_9 ol] at hlab; omega
    · rw [ol_17 ol] at hlab; omega
    · rw [ol_19 ol] at hlab; omega
    · rw [ol_32 ol] at hlab; omega
    · have := ol_m ol (a := 44) (by decide) (by decide); omega
  refine ⟨fun m => if m = l then b' else A m, fun q => if q = b' then l else o q, if_pos rfl, if_pos rfl, fun m hm => if_neg hm, fun q hq => ?_, ?_, ?_⟩
  · show (if q = b' then l else o q) = o q
    split
    · rename_i e
      rcases hb' with ⟨e1, -⟩ | ⟨e1, -⟩
      · rw [e, e1, hlab]
      · omega
    · rfl
  all_goals
    have f : fr h h1 A (fun m => if m = l then b' else A m) o (fun q => if q = b' then l else o q) (fun c => c = 1) := by
      refine ⟨keeps_mono k (fun q hq w => ?_), fun q hq => ?_, fun m hm => if_neg (fun e => hm (by rw [e]; exact hll))⟩
      · rcases w with e | e
        · show o q / 1000000 = 1
          rcases ha with e2 | e2 <;> rw [e, e2]
          · rw [ol_10 ol]
          · rw [ol_12 ol]
        · show o q / 1000000 = 1
          rw [e, hlab]; exact hll
      · show (if q = b' then l else o q) = o q
        split
        · rename_i e
          rcases hb' with ⟨e1, -⟩ | ⟨e1, -⟩
          · rw [e, e1, hlab]
          · omega
        · rfl
  · exact f
  · refine base_of b f (fun q hq j => (k.2.2.2 q (by omega) (by omega)).2.2.2.2 j) ((k.2.2.2 19 (by omega) (by omega)).2.2.2.2 0)
theorem c_addUnit {K : Int32 → aH → Prop} {bu : Nat} (f : CF h) (R : rowsOK h 10 bu 2 100 U) (hU : U < 100)
    (k : ∀ b' h1, rowsOK h1 10 b' 2 100 (U + 1) → (∀ i, i < U * 2 → gI h1 b' i = gI h bu i) → gI h1 b' (U * 2 + 0) = -1 → ((b' = bu ∧ gN h1 = gN h) ∨ (b' = gN h ∧ gN h1 = gN h + 1)) → keeps h h1 (fun q => q = 10 ∨ q = bu) → gT h1 ≤ gT h + 2 * ((U + 1) * 2) → K (nI U) h1) : CI (d + 3) 24 [vR 9] h K X := by
  have hN := f.1
  have bN := R.2.2.1.2.2.1
  refine m24 ?_
  simp only [↓forall_eq, ↓inB_iff, gK_hU, gL_hU, gR_hU, gIh, gJh, pI_hU, pJ_hU, hU_hU, uI_app, uJ_app, and_true, true_and, and_false, false_and, and_self, true_implies, false_implies, not_true, not_false_iff, if_true, if_false, eq_self, Nat.reduceLeDiff, Nat.reduceEqDiff, reduceCtorEq, i32c, ti0, ti1, tiM, Int.natCast_nonneg, Int.reduceEq, Int.reduceLE, Int.reduceLT, Int.reduceNeg, tl_i, Int32.reduceToInt, Int64.reduceToInt, tiA, tlM6, Int.toNat_natCast, natc, nI_1, Int.zero_sub, implies_true, not_false_eq_true, ck_9 f, cr_9_0 f, ck_10 f]
  refine c_add R hU fun b' h1 R1 e1 e2 k1 t1 => ?_
  have f1 : CF h1 := CF_keeps f k1 (by omega)
  have hb10 : (10 : Nat) ≠ b' := fun e => by have := R1.2.2.1.2.2.2; rw [← e, R1.1.2.2] at this; omega
  simp only [↓forall_eq, ↓inB_iff, gK_hU, gL_hU, gR_hU, gIh, gJh, pI_hU, pJ_hU, hU_hU, uI_app, uJ_app, and_true, true_and, and_false, false_and, and_self, true_implies, false_implies, not_true, not_false_iff, if_true, if_false, eq_self, Nat.reduceLeDiff, Nat.reduceEqDiff, reduceCtorEq, i32c, ti0, ti1, tiM, Int.natCast_nonneg, Int.reduceEq, Int.reduceLE, Int.reduceLT, Int.reduceNeg, tl_i, Int32.reduceToInt, Int64.reduceToInt, tiA, tlM6, Int.toNat_natCast, natc, nI_1, Int.zero_sub, implies_true, not_false_eq_true, ck_9 f1, cr_9_0 f1, ck_10 f1]
  have hUI : (nI U).toInt = U := ti_n (by omega)
  refine c_put 0 R1 (by omega) (by omega) rfl (by decide) ?_
  rw [hUI, Int.toNat_natCast]
  refine k b' _ (rows_keeps R1 (keeps_pI _ _ _ _) hb10) (fun i hi => ?_) ?_ e2 ⟨k1.1, k1.2.1, fun a ha => k1.2.2.1 a ha, fun a ha hp => ?_⟩ t1
  · rw [gI_pI, if_neg (by omega)]; exact e1 i hi
  · rw [gI_pI, if_pos ⟨rfl, rfl⟩]
  · have s := k1.2.2.2 a ha (fun e => hp (Or.inl e))
    have hab : a ≠ b' := by
      rcases e2 with ⟨q, -⟩ | ⟨q, -⟩
      · rw [q]; exact fun e => hp (Or.inr e)
      · omega
    exact ⟨s.1, s.2.1, fun j => by rw [gI_pI, if_neg (fun w => hab w.1)]; exact s.2.2.1 j, s.2.2.2.1, s.2.2.2.2⟩
theorem pr_unit (b : base h o) (R : RegA h A o (gI h) U T) : Pr 25 27 [] [4] h (fun h2 => ∃ A1 o1 U1, left h h2 A A1 o o1 (fun c => c = 1) [45] [2] 1 404 ∧ RegA h2 A1 o1 (gI h2) U1 T ∧ U ≤ U1 ∧ U1 ≤ U + 1) := by
  obtain ⟨u9, t9⟩ := RegA_le R
  have hu := R.1.1
  have hu2 : (nI U).toInt = U := ti_n (by omega)
  by_cases q : U < 100
  · refine Pr_ok (nI U) (fun h1 => ∃ A1 o1, base h1 o1 ∧ fr h h1 A A1 o o1 (fun c => c = 1) ∧ RegA h1 A1 o1 (uI (uI (gI h) 45 U (-1)) 44 2 (nI (U + 1))) (U + 1) T ∧ gN h1 ≤ gN h + 1 ∧ gT h1 ≤ gT h + 404) (fun K X k => m25 ?_) (fun h1 J1 m j K X k => m27 ?_)
    · simp only [↓forall_eq, ↓inB_iff, gK_hU, gL_hU, gR_hU, gIh, gJh, pI_hU, pJ_hU, hU_hU, uI_app, uJ_app, and_true, true_and, and_false, false_and, and_self, true_implies, false_implies, not_true, not_false_iff, if_true, if_false, eq_self, Nat.reduceLeDiff, Nat.reduceEqDiff, reduceCtorEq, i32c, ti0, ti1, tiM, Int.natCast_nonneg, Int.reduceEq, Int.reduceLE, Int.reduceLT, Int.reduceNeg, tl_i, Int32.reduceToInt, Int64.reduceToInt, tiA, tlM6, Int.toNat_natCast, natc, nI_1, Int.zero_sub, implies_true, not_false_eq_true, ck_8 b.1, cr_8_0 b.1, ck_9 b.1, cr_9_0 b.1, ck_10 b.1, ↓isFull_br R.2.1.1, q]
      refine c_addUnit b.1 R.2.1.1 q fun b' h1 R1 e1 e3 e2 k1 t1 => ?_
      obtain ⟨A1, o1, a1, a2, a3, a4, a5, a6⟩ := rows_new b (Or.inl rfl) rfl R.2.1.1 R.2.2.2.2.1.1 e2 k1
      obtain ⟨⟨r1, r2⟩, r3, r4, r5, ⟨r6, r7⟩, r8, r9, r10⟩ := R
      have n13 : A 1000013 ≠ 10 ∧ A 1000013 ≠ A 1000011 := ⟨fun e => by rw [e, ol_10 b.2.2] at r7; omega, fun e => by rw [e, r6] at r7; omega⟩
      have n12 : (12 : Nat) ≠ A 1000011 := fun e => by rw [← e, ol_12 b.2.2] at r6; omega
      have n9 : (9 : Nat) ≠ A 1000011 := fun e => by rw [← e, ol_9 b.2.2] at r6; omega
      have hN := b.1.1
      refine k h1 ⟨A1, o1, a6, a5, ⟨⟨by simp only [↓forall_eq, ↓inB_iff, gK_hU, gL_hU, gR_hU, gIh, gJh, pI_hU, pJ_hU, hU_hU, uI_app, uJ_app, and_true, true_and, and_false, false_and, and_self, true_implies, false_implies, not_true, not_false_iff, if_true, if_false, eq_self, Nat.reduceLeDiff, Nat.reduceEqDiff, reduceCtorEq, i32c, ti0, ti1, tiM, Int.natCast_nonneg, Int.reduceEq, Int.reduceLE, Int.reduceLT, Int.reduceNeg, tl_i, Int32.reduceToInt, Int64.reduceToInt, tiA, tlM6, Int.toNat_natCast, natc, nI_1, Int.zero_sub, implies_true, not_false_eq_true], by simp only [↓forall_eq, ↓inB_iff, gK_hU, gL_hU, gR_hU, gIh, gJh, pI_hU, pJ_hU, hU_hU, uI_app, uJ_app, and_true, true_and, and_false, false_and, and_self, true_implies, false_implies, not_true, not_false_iff, if_true, if_false, eq_self, Nat.reduceLeDiff, Nat.reduceEqDiff, reduceCtorEq, i32c, ti0, ti1, tiM, Int.natCast_nonneg, Int.reduceEq, Int.reduceLE, Int.reduceLT, Int.reduceNeg, tl_i, Int32.reduceToInt, Int64.reduceToInt, tiA, tlM6, Int.toNat_natCast, natc, nI_1, Int.zero_sub, implies_true, not_false_eq_true]; exact r2⟩, ⟨by rw [a1]; exact R1, fun r hr => ?_⟩, ?_, ?_, ⟨by rw [a1]; exact a2, ?_⟩, ?_, fun w hw h0 => ?_, fun r hr => ?_⟩, by omega, by omega⟩
      · rw [a1]
        by_cases e : r = U
        · subst e
          rw [e3]
          exact ⟨by simp only [↓forall_eq, ↓inB_iff, gK_hU, gL_hU, gR_hU, gIh, gJh, pI_hU, pJ_hU, hU_hU, uI_app, uJ_app, and_true, true_and, and_false, false_and, and_self, true_implies, false_implies, not_true, not_false_iff, if_true, if_false, eq_self, Nat.reduceLeDiff, Nat.reduceEqDiff, reduceCtorEq, i32c, ti0, ti1, tiM, Int.natCast_nonneg, Int.reduceEq, Int.reduceLE, Int.reduceLT, Int.reduceNeg, tl_i, Int32.reduceToInt, Int64.reduceToInt, tiA, tlM6, Int.toNat_natCast, natc, nI_1, Int.zero_sub, implies_true, not_false_eq_true], fun w => absurd w (by simp only [↓forall_eq, ↓inB_iff, gK_hU, gL_hU, gR_hU, gIh, gJh, pI_hU, pJ_hU, hU_hU, uI_app, uJ_app, and_true, true_and, and_false, false_and, and_self, true_implies, false_implies, not_true, not_false_iff, if_true, if_false, eq_self, Nat.reduceLeDiff, Nat.reduceEqDiff, reduceCtorEq, i32c, ti0, ti1, tiM, Int.natCast_nonneg, Int.reduceEq, Int.reduceLE, Int.reduceLT, Int.reduceNeg, tl_i, Int32.reduceToInt, Int64.reduceToInt, tiA, tlM6, Int.toNat_natCast, natc, nI_1, Int.zero_sub, implies_true, not_false_eq_true])⟩
        · rw [e1 _ (by omega), e1 _ (by omega)]
          have := r3.2 r (by omega)
          simp only [↓forall_eq, ↓inB_iff, gK_hU, gL_hU, gR_hU, gIh, gJh, pI_hU, pJ_hU, hU_hU, uI_app, uJ_app, and_true, true_and, and_false, false_and, and_self, true_implies, false_implies, not_true, not_false_iff, if_true, if_false, eq_self, Nat.reduceLeDiff, Nat.reduceEqDiff, reduceCtorEq, i32c, ti0, ti1, tiM, Int.natCast_nonneg, Int.reduceEq, Int.reduceLE, Int.reduceLT, Int.reduceNeg, tl_i, Int32.reduceToInt, Int64.reduceToInt, tiA, tlM6, Int.toNat_natCast, natc, nI_1, Int.zero_sub, implies_true, not_false_eq_true, e]
          exact this
      · simp only [uI_ne, uJ_ne, ne_eq, Nat.reduceEqDiff, not_false_eq_true]
        rw [a3 _ (by decide)]
        exact tell_keeps r4 k1 (by omega) (by omega)
      · rw [(k1.2.2.2 9 (by omega) (by omega)).2.2.1]
        simp only [↓forall_eq, ↓inB_iff, gK_hU, gL_hU, gR_hU, gIh, gJh, pI_hU, pJ_hU, hU_hU, uI_app, uJ_app, and_true, true_and, and_false, false_and, and_self, true_implies, false_implies, not_true, not_false_iff, if_true, if_false, eq_self, Nat.reduceLeDiff, Nat.reduceEqDiff, reduceCtorEq, i32c, ti0, ti1, tiM, Int.natCast_nonneg, Int.reduceEq, Int.reduceLE, Int.reduceLT, Int.reduceNeg, tl_i, Int32.reduceToInt, Int64.reduceToInt, tiA, tlM6, Int.toNat_natCast, natc, nI_1, Int.zero_sub, implies_true, not_false_eq_true]
        exact r5
      · rw [a3 _ (by decide), a4 _ r4.1.2.2.1.2.2.1]; exact r7
      · have := forest_new r8
        have e : uI (uI (gI h) 45 U (-1)) 44 2 (nI (U + 1)) 45 = fun w => if w = U then -1 else gI h 45 w := by funext w; simp only [↓forall_eq, ↓inB_iff, gK_hU, gL_hU, gR_hU, gIh, gJh, pI_hU, pJ_hU, hU_hU, uI_app, uJ_app, and_true, true_and, and_false, false_and, and_self, true_implies, false_implies, not_true, not_false_iff, if_true, if_false, eq_self, Nat.reduceLeDiff, Nat.reduceEqDiff, reduceCtorEq, i32c, ti0, ti1, tiM, Int.natCast_nonneg, Int.reduceEq, Int.reduceLE, Int.reduceLT, Int.reduceNeg, tl_i, Int32.reduceToInt, Int64.reduceToInt, tiA, tlM6, Int.toNat_natCast, natc, nI_1, Int.zero_sub, implies_true, not_false_eq_true]
        rw [e]; exact this
      · simp only [↓forall_eq, ↓inB_iff, gK_hU, gL_hU, gR_hU, gIh, gJh, pI_hU, pJ_hU, hU_hU, uI_app, uJ_app, and_true, true_and, and_false, false_and, and_self, true_implies, false_implies, not_true, not_false_iff, if_true, if_false, eq_self, Nat.reduceLeDiff, Nat.reduceEqDiff, reduceCtorEq, i32c, ti0, ti1, tiM, Int.natCast_nonneg, Int.reduceEq, Int.reduceLE, Int.reduceLT, Int.reduceNeg, tl_i, Int32.reduceToInt, Int64.reduceToInt, tiA, tlM6, Int.toNat_natCast, natc, nI_1, Int.zero_sub, implies_true, not_false_eq_true] at h0 ⊢
        by_cases e : w = U
        · rw [if_pos e] at h0; exact absurd h0 (by decide)
        · rw [if_neg e] at h0; exact r9 w (by omega) h0
      · have := r10 r hr
        simp only [↓forall_eq, ↓inB_iff, gK_hU, gL_hU, gR_hU, gIh, gJh, pI_hU, pJ_hU, hU_hU, uI_app, uJ_app, and_true, true_and, and_false, false_and, and_self, true_implies, false_implies, not_true, not_false_iff, if_true, if_false, eq_self, Nat.reduceLeDiff, Nat.reduceEqDiff, reduceCtorEq, i32c, ti0, ti1, tiM, Int.natCast_nonneg, Int.reduceEq, Int.reduceLE, Int.reduceLT, Int.reduceNeg, tl_i, Int32.reduceToInt, Int64.reduceToInt, tiA, tlM6, Int.toNat_natCast, natc, nI_1, Int.zero_sub, implies_true, not_false_eq_true]
        omega
    · obtain ⟨A1, o1, b1, f1, R1, n1, t1⟩ := m
      have hh := (fr_m b f1 (by decide) (a := 44) (by decide) (by decide)).1
      have hh5 := (fr_m b f1 (by decide) (a := 45) (by decide) (by decide)).1
      have hu1 : gI h1 44 2 = nI U := by rw [hh]; exact hu
      have hne : ¬ ((U : Int) = 100) := by omega
      have hlt : (U : Int) < 100 := by omega
      simp only [↓forall_eq, ↓inB_iff, gK_hU, gL_hU, gR_hU, gIh, gJh, pI_hU, pJ_hU, hU_hU, uI_app, uJ_app, and_true, true_and, and_false, false_and, and_self, true_implies, false_implies, not_true, not_false_iff, if_true, if_false, eq_self, Nat.reduceLeDiff, Nat.reduceEqDiff, reduceCtorEq, i32c, ti0, ti1, tiM, Int.natCast_nonneg, Int.reduceEq, Int.reduceLE, Int.reduceLT, Int.reduceNeg, tl_i, Int32.reduceToInt, Int64.reduceToInt, tiA, tlM6, Int.toNat_natCast, natc, nI_1, Int.zero_sub, implies_true, not_false_eq_true, b1.2.1.1, mr_3 b1.2.1, mk_45 b1.2.1, ml_45 b1.2.1, ↓fail_br b1.2.1, hu1, hu2, hne, hlt, nI_pred]
      have l1 := left_mk (n := 0) (t := 0) (as := [45]) (fs := [2]) (I' := uI (uI (uI (gI h1) 44 0 0) 45 U (-1)) 44 2 (nI (U + 1))) (J' := J1) (C := fun _ => False) (A := A1) (A1 := A1) b1 b1 fr_refl (fun w => w) (by simp) (fun a a1 a2 => by funext j9; simp only [uI_app]; grind) (fun j9 a1 a2 => by simp only [uI_app]; grind) (fun a a1 _ => j a a1) (by omega) (by omega)
      refine k _ (by simp only [↓forall_eq, ↓inB_iff, gK_hU, gL_hU, gR_hU, gIh, gJh, pI_hU, pJ_hU, hU_hU, uI_app, uJ_app, and_true, true_and, and_false, false_and, and_self, true_implies, false_implies, not_true, not_false_iff, if_true, if_false, eq_self, Nat.reduceLeDiff, Nat.reduceEqDiff, reduceCtorEq, i32c, ti0, ti1, tiM, Int.natCast_nonneg, Int.reduceEq, Int.reduceLE, Int.reduceLT, Int.reduceNeg, tl_i, Int32.reduceToInt, Int64.reduceToInt, tiA, tlM6, Int.toNat_natCast, natc, nI_1, Int.zero_sub, implies_true, not_false_eq_true]) rfl ⟨A1, o1, U + 1, left_mk b b1 f1 (by decide) (by simp) (fun a a1 a2 => by funext j9; simp only [uI_app]; grind) (fun j9 a1 a2 => by simp only [uI_app]; grind) (fun a a1 _ => j a a1) n1 t1, RegA_fr b1 R1 l1.2.1 (by decide) (fun a h4 h5 => ?_) ?_, by omega, Nat.le_refl _⟩
      · have e := (fr_m b f1 (by decide) (a := a) (by omega) (by omega)).1
        funext j9
        simp only [↓forall_eq, ↓inB_iff, gK_hU, gL_hU, gR_hU, gIh, gJh, pI_hU, pJ_hU, hU_hU, uI_app, uJ_app, and_true, true_and, and_false, false_and, and_self, true_implies, false_implies, not_true, not_false_iff, if_true, if_false, eq_self, Nat.reduceLeDiff, Nat.reduceEqDiff, reduceCtorEq, i32c, ti0, ti1, tiM, Int.natCast_nonneg, Int.reduceEq, Int.reduceLE, Int.reduceLT, Int.reduceNeg, tl_i, Int32.reduceToInt, Int64.reduceToInt, tiA, tlM6, Int.toNat_natCast, natc, nI_1, Int.zero_sub, implies_true, not_false_eq_true, e]
        grind
      · simp only [↓forall_eq, ↓inB_iff, gK_hU, gL_hU, gR_hU, gIh, gJh, pI_hU, pJ_hU, hU_hU, uI_app, uJ_app, and_true, true_and, and_false, false_and, and_self, true_implies, false_implies, not_true, not_false_iff, if_true, if_false, eq_self, Nat.reduceLeDiff, Nat.reduceEqDiff, reduceCtorEq, i32c, ti0, ti1, tiM, Int.natCast_nonneg, Int.reduceEq, Int.reduceLE, Int.reduceLT, Int.reduceNeg, tl_i, Int32.reduceToInt, Int64.reduceToInt, tiA, tlM6, Int.toNat_natCast, natc, nI_1, Int.zero_sub, implies_true, not_false_eq_true, hh]
  · refine Pr_gc (A := A) 0 4 b (by decide) rfl (fun K X k => m25 ?_) (fun g J K X mf e k => m27 ?_) (C := fun _ => False) (fun h2 l => ⟨A, o, U, left_mono l (fun _ w => w.elim) (by simp) (by simp) (by omega) (by omega), RegA_left b R l (fun w => w) (by simp) (by simp), by omega, by omega⟩)
    · simp only [↓forall_eq, ↓inB_iff, gK_hU, gL_hU, gR_hU, gIh, gJh, pI_hU, pJ_hU, hU_hU, uI_app, uJ_app, and_true, true_and, and_false, false_and, and_self, true_implies, false_implies, not_true, not_false_iff, if_true, if_false, eq_self, Nat.reduceLeDiff, Nat.reduceEqDiff, reduceCtorEq, i32c, ti0, ti1, tiM, Int.natCast_nonneg, Int.reduceEq, Int.reduceLE, Int.reduceLT, Int.reduceNeg, tl_i, Int32.reduceToInt, Int64.reduceToInt, tiA, tlM6, Int.toNat_natCast, natc, nI_1, Int.zero_sub, implies_true, not_false_eq_true, ck_8 b.1, cr_8_0 b.1, ck_9 b.1, cr_9_0 b.1, ck_10 b.1, ↓isFull_br R.2.1.1, q]
      exact k
    · have hne : (U : Int) = 100 := by omega
      simp only [↓forall_eq, ↓inB_iff, gK_hU, gL_hU, gR_hU, gIh, gJh, pI_hU, pJ_hU, hU_hU, uI_app, uJ_app, and_true, true_and, and_false, false_and, and_self, true_implies, false_implies, not_true, not_false_iff, if_true, if_false, eq_self, Nat.reduceLeDiff, Nat.reduceEqDiff, reduceCtorEq, i32c, ti0, ti1, tiM, Int.natCast_nonneg, Int.reduceEq, Int.reduceLE, Int.reduceLT, Int.reduceNeg, tl_i, Int32.reduceToInt, Int64.reduceToInt, tiA, tlM6, Int.toNat_natCast, natc, nI_1, Int.zero_sub, implies_true, not_false_eq_true, mf.1, mr_3 mf, mk_45 mf, ml_45 mf, ↓fail_br mf, e 44 (by decide) (by decide), hu, hu2, hne]
      exact k
end RGP
