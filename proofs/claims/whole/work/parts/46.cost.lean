/-! FORMS: cost -/
section CST
variable {d U nf ns k f s : Nat} {h h1 h2 g : aH} {A A1 o o1 : Nat → Nat} {X : Nat → aH → Prop} {M M2 : Nat → Nat → Int32} {I I1 I2 : Nat → Nat → Int32} {J J2 : Nat → Nat → Int64} {C : Nat → Prop} {E : Nat → Nat → List Tm} {Cn : Nat → Nat → List Cmp}
theorem isAsk_br {K : Int32 → aH → Prop} (t : TF h A o f) {cnt : Nat} (hc : gI h (A (bF f)) 11 = nI cnt) (h20 : cnt ≤ 20) (hs : s < cnt) : CI (d + 1) 182 [vR (A (bF f)), vI (nI s)] h K X ↔ (((gI h (A (bF f + 3)) s).toInt = 0 → K 1 h) ∧ (¬ (gI h (A (bF f + 3)) s).toInt = 0 → K 0 h)) := by
  have hsI : (nI s).toInt = s := ti_n (by omega)
  have hcI : (nI cnt).toInt = cnt := ti_n (by omega)
  have H : ∀ (K : Int32 → aH → Prop) (X : Nat → aH → Prop), (((gI h (A (bF f + 3)) s).toInt = 0 → K 1 h) ∧ (¬ (gI h (A (bF f + 3)) s).toInt = 0 → K 0 h)) → CI (d + 1) 182 [vR (A (bF f)), vI (nI s)] h K X := fun K X w => by
    refine m182 ⟨eF_0 t, kF_0 t, m141 ?_⟩
    have z0 : ¬ (s : Int) < 0 := by omega
    have z1 : (s : Int) < cnt := by omega
    have z2 : (s : Int) < 20 := by omega
    simp only [↓forall_eq, ↓inB_iff, gK_hU, gL_hU, gR_hU, gIh, gJh, pI_hU, pJ_hU, hU_hU, uI_app, uJ_app, and_true, true_and, and_false, false_and, and_self, true_implies, false_implies, not_true, not_false_iff, if_true, if_false, eq_self, Nat.reduceLeDiff, Nat.reduceEqDiff, reduceCtorEq, i32c, ti0, ti1, tiM, Int.natCast_nonneg, Int.reduceEq, Int.reduceLE, Int.reduceLT, Int.reduceNeg, tl_i, Int32.reduceToInt, Int64.reduceToInt, tiA, tlM6, Int.toNat_natCast, natc, nI_1, Int.zero_sub, implies_true, not_false_eq_true, kF_0 t, hc, hsI, hcI, z0, z1, rF_0_2 t, kF_3 t, lF_3 t, z2]
    exact w
  by_cases q : (gI h (A (bF f + 3)) s).toInt = 0
  · rw [bz_t q]; exact CI_iff fun K X w => H K X ((bz_t q).mpr w)
  · rw [bz_f q]; exact CI_iff fun K X w => H K X ((bz_f q).mpr w)
/-- a form with other costs -/
theorem formOK_cost {E : Nat → List Tm} {Cn : Nat → List Cmp} (F : formOK h A o (gI h) E Cn f) (hI : ∀ j, j < 12 → j ≠ 6 → I2 (A (bF f + j)) = gI h (A (bF f + j))) (m1 : ∀ a, 53 ≤ a → a ≤ 64 → a ≠ 58 → I2 a = gI h a) (m2 : ∀ a, 81 ≤ a → a ≤ 84 → I2 a = gI h a) (hc : ∀ s, s < cnM (gI h) f → I2 (A (bF f + 6)) s = I2 58 (20 * f + s) ∧ ((soM (gI h) f s).toInt = 0 → 1 ≤ (I2 58 (20 * f + s)).toInt ∧ (I2 58 (20 * f + s)).toInt ≤ 100)) : formOK (hU h I2 J2) A o I2 E Cn f := by
  obtain ⟨⟨t, l, ⟨c1, c2, c3⟩, c4⟩, fm, fb, ak, rr, rr2, rr3⟩ := F
  have i0 : I2 (A (bF f)) = gI h (A (bF f)) := hI 0 (by omega) (by omega)
  have ecn : cnM I2 f = cnM (gI h) f := by unfold cnM; rw [m1 53 (by omega) (by omega) (by omega)]
  have enr : nrM I2 f = nrM (gI h) f := by unfold nrM; rw [m2 81 (by omega) (by omega)]
  have eso : soM I2 f = soM (gI h) f := by unfold soM; rw [m1 54 (by omega) (by omega) (by omega)]
  refine ⟨⟨t, l, ⟨by rw [gIh, i0, ecn]; exact c1, by rw [ecn]; exact c2, c3⟩, fun s hs => ?_⟩, ?_, fun s hs => ?_, by rw [ecn, eso]; exact ak, by rw [enr, m2 81 (by omega) (by omega)]; exact rr, ?_, fun r hr => ?_⟩
  · rw [ecn] at hs
    obtain ⟨q1, q2, q3⟩ := c4 s hs
    rw [gIh, hI 3 (by omega) (by omega), eso]
    refine ⟨q1, ?_, q3⟩
    unfold stC
    rw [gIh, hI 8 (by omega) (by omega), hI 9 (by omega) (by omega), hI 1 (by omega) (by omega), hI 2 (by omega) (by omega), gL_hU]
    exact q2
  · rw [ecn, eso]
    obtain ⟨⟨y1, y2, y3⟩, y4⟩ := fm
    unfold fmM stM
    rw [m1 53 (by omega) (by omega) (by omega), m1 54 (by omega) (by omega) (by omega), m1 59 (by omega) (by omega) (by omega), m1 60 (by omega) (by omega) (by omega), m1 61 (by omega) (by omega) (by omega), m1 62 (by omega) (by omega) (by omega), m1 63 (by omega) (by omega) (by omega), m1 64 (by omega) (by omega) (by omega)]
    exact ⟨⟨y1, y2, y3⟩, y4⟩
  · rw [ecn] at hs
    obtain ⟨z1, z2, z3, z4⟩ := fb s hs
    unfold formB
    rw [gIh, hI 4 (by omega) (by omega), hI 5 (by omega) (by omega), m1 56 (by omega) (by omega) (by omega), m1 57 (by omega) (by omega) (by omega), eso]
    exact ⟨z1, z2, (hc s hs).1, fun e => ⟨(z4 e).1, (hc s hs).2 e⟩⟩
  · rw [enr]; exact rows_hU rr2 (hI 10 (by omega) (by omega))
  · rw [enr] at hr
    rw [gIh, hI 11 (by omega) (by omega), m2 82 (by omega) (by omega), m2 83 (by omega) (by omega), m2 84 (by omega) (by omega)]
    unfold rlA
    rw [ecn, eso]
    exact rr3 r hr
theorem F_ne {i j f' : Nat} (t : TF h A o f) (t' : TF h A o f') (hi : i < 12) (hj : j < 12) (hne : f' ≠ f ∨ i ≠ j) (h6 : f < 60 ∧ f' < 60) : A (bF f' + j) ≠ A (bF f + i) := by
  obtain ⟨k1, v1⟩ := vF_j t hi
  obtain ⟨k2, v2⟩ := vF_j t' hj
  exact liv_ne v2 v1 (by unfold bF; omega)
theorem F_out {j : Nat} (b : base h o) (t : TF h A o f) (hj : j < 12) (h6 : f < 60) : ¬ (44 ≤ A (bF f + j) ∧ A (bF f + j) ≤ 107) := by
  obtain ⟨kd, v⟩ := vF_j t hj
  exact lab_out b v (by unfold bF; omega)
theorem pr_cost {x s c : Int32} (b : base h o) (F : FormA h A o (gI h) E Cn nf) : Pr 188 190 [vI x, vI s, vI c] [3, 1] h (fun h2 => left h h2 A A o o (fun c => c = 5) [58] [] 1 6 ∧ FormA h2 A o (gI h2) E Cn nf) := by
  have hnf := F.2.1.1
  have n6 := F.2.1.2
  have hc := cn_of F
  have mf := b.2.1
  have fin : ∀ h2, left h h2 A A o o (fun _ => False) [] [] 1 6 → left h h2 A A o o (fun c => c = 5) [58] [] 1 6 ∧ FormA h2 A o (gI h2) E Cn nf := fun h2 l => ⟨left_mono l (fun _ w => w.elim) (by simp) (by simp) (by omega) (by omega), FormA_left b F l (fun w => w) (by simp) (by simp)⟩
  by_cases q : isSt (gI h) nf x s
  · obtain ⟨q1, q2⟩ := id q
    generalize hfx : x.toInt.toNat = f at *
    have FO := F.2.2 f (by omega)
    obtain ⟨⟨t, l, ⟨c1, c2, c3⟩, c4⟩, fm, fb, -⟩ := id FO
    have hsn : s.toInt.toNat < cnM (gI h) f := by omega
    have s20 : s.toInt < 20 := by omega
    obtain ⟨y1, -⟩ := c4 _ hsn
    obtain ⟨b1, b2, b3, -⟩ := fb _ hsn
    have y1' : gI h (A (bF f + 3)) s.toInt.toNat = gI h 54 (20 * f + s.toInt.toNat) := by rw [y1]; unfold soM; rw [if_pos (by omega)]
    have ysm : soM (gI h) f s.toInt.toNat = gI h 54 (20 * f + s.toInt.toNat) := by unfold soM; rw [if_pos (by omega)]
    have hsx : s = nI s.toInt.toNat := ti_nat q2.1
    have hix : (20 : Int32) * x + s = nI (20 * f + s.toInt.toNat) := by rw [ti_nat q1.1, hfx, ti_nat q2.1, show (20 : Int32) = nI 20 from rfl, nI_mul, nI_add, ← ti_nat q2.1]
    have hxI : (nI (20 * f + s.toInt.toNat)).toInt = ((20 * f + s.toInt.toNat : Nat) : Int) := ti_n (by omega)
    have zx : ((20 * f + s.toInt.toNat : Nat) : Int) < 120 := by omega
    generalize hsv : s.toInt.toNat = sv at *
    have hsI : (nI sv).toInt = sv := ti_n (by omega)
    have z20 : (sv : Int) < 20 := by omega
    have isA : ∀ (g : aH) (I : Nat → Nat → Int32) (J : Nat → Nat → Int64) (K : Int32 → aH → Prop) (X : Nat → aH → Prop), MF g → I 54 = gI h 54 → (CI 499 186 [vR 44, vI x, vI s] (hU g I J) K X ↔ (((gI h 54 (20 * f + sv)).toInt = 0 → K 1 (hU g I J)) ∧ (¬ (gI h 54 (20 * f + sv)).toInt = 0 → K 0 (hU g I J)))) := fun g I J K X mf e => by
      have H : ∀ (K : Int32 → aH → Prop) (X : Nat → aH → Prop), (((gI h 54 (20 * f + sv)).toInt = 0 → K 1 (hU g I J)) ∧ (¬ (gI h 54 (20 * f + sv)).toInt = 0 → K 0 (hU g I J))) → CI 499 186 [vR 44, vI x, vI s] (hU g I J) K X := fun K X w => by
        refine m186 ?_
        simp only [↓forall_eq, ↓inB_iff, gK_hU, gL_hU, gR_hU, gIh, gJh, pI_hU, pJ_hU, hU_hU, uI_app, uJ_app, and_true, true_and, and_false, false_and, and_self, true_implies, false_implies, not_true, not_false_iff, if_true, if_false, eq_self, Nat.reduceLeDiff, Nat.reduceEqDiff, reduceCtorEq, i32c, ti0, ti1, tiM, Int.natCast_nonneg, Int.reduceEq, Int.reduceLE, Int.reduceLT, Int.reduceNeg, tl_i, Int32.reduceToInt, Int64.reduceToInt, tiA, tlM6, Int.toNat_natCast, natc, nI_1, Int.zero_sub, implies_true, not_false_eq_true, mf.1, mr_16 mf, mk_54 mf, ml_54 mf, hix, hxI, zx, e]
        exact w
      by_cases z : (gI h 54 (20 * f + sv)).toInt = 0
      · rw [bz_t z]; exact CI_iff fun K X w => H K X ((bz_t z).mpr w)
      · rw [bz_f z]; exact CI_iff fun K X w => H K X ((bz_f z).mpr w)
    by_cases qs : (gI h 54 (20 * f + sv)).toInt = 0
    · by_cases qc : 1 ≤ c.toInt ∧ c.toInt ≤ 100
      · have za : ¬ c.toInt < 1 := by omega
        have zb : ¬ 100 < c.toInt := by omega
        refine Pr_ok (gI h 58 (20 * f + sv)) (fun h1 => h1 = hU h (uI (gI h) (A (bF f + 6)) sv c) (gJ h)) (fun K X kk => m188 ⟨by decide, ck_8 b.1, formSt b F (fun _ => ?_) (fun z => absurd q z)⟩) (fun h1 J1 m j K X kk => m190 ?_)
        · rw [hfx, hsx]
          simp only [↓forall_eq, ↓inB_iff, gK_hU, gL_hU, gR_hU, gIh, gJh, pI_hU, pJ_hU, hU_hU, uI_app, uJ_app, and_true, true_and, and_false, false_and, and_self, true_implies, false_implies, not_true, not_false_iff, if_true, if_false, eq_self, Nat.reduceLeDiff, Nat.reduceEqDiff, reduceCtorEq, i32c, ti0, ti1, tiM, Int.natCast_nonneg, Int.reduceEq, Int.reduceLE, Int.reduceLT, Int.reduceNeg, tl_i, Int32.reduceToInt, Int64.reduceToInt, tiA, tlM6, Int.toNat_natCast, natc, nI_1, Int.zero_sub, implies_true, not_false_eq_true, pI_eq, eF_0 t, kF_0 t, ↓isAsk_br t c1 c2 hsn, y1', qs, za, zb, rF_0_5 t, kF_6 t, lF_6 t, eF_6 t, hsI, z20, b3]
          exact kk _ rfl
        · subst m
          have n58 : (58 : Nat) ≠ A (bF f + 6) := fun e => F_out b t (j := 6) (by omega) (by omega) (by rw [← e]; omega)
          have n54 : (54 : Nat) ≠ A (bF f + 6) := fun e => F_out b t (j := 6) (by omega) (by omega) (by rw [← e]; omega)
          have n53 : (53 : Nat) ≠ A (bF f + 6) := fun e => F_out b t (j := 6) (by omega) (by omega) (by rw [← e]; omega)
          have n44 : (44 : Nat) ≠ A (bF f + 6) := fun e => F_out b t (j := 6) (by omega) (by omega) (by rw [← e]; omega)
          have e54 : uI (uI (gI h) (A (bF f + 6)) sv c) 44 0 0 54 = gI h 54 := by rw [uI_ne _ _ _ (by decide), uI_ne _ _ _ n54]
          simp only [↓forall_eq, ↓inB_iff, gK_hU, gL_hU, gR_hU, gIh, gJh, pI_hU, pJ_hU, hU_hU, uI_app, uJ_app, and_true, true_and, and_false, false_and, and_self, true_implies, false_implies, not_true, not_false_iff, if_true, if_false, eq_self, Nat.reduceLeDiff, Nat.reduceEqDiff, reduceCtorEq, i32c, ti0, ti1, tiM, Int.natCast_nonneg, Int.reduceEq, Int.reduceLE, Int.reduceLT, Int.reduceNeg, tl_i, Int32.reduceToInt, Int64.reduceToInt, tiA, tlM6, Int.toNat_natCast, natc, nI_1, Int.zero_sub, implies_true, not_false_eq_true, mf.1, mr_20 mf, mk_58 mf, ml_58 mf, ↓fail_br mf, ↓isIn_br, ↓isStOf_br (M := gI h) mf hnf n6 hc, uI_ne, ne_eq, Nat.reduceEqDiff, not_false_eq_true, n44, n53, q, ↓isA h _ _ _ _ mf e54, qs, qc, hix, hxI, zx, n58]
          have fI : fr h (hU h (uI (gI h) (A (bF f + 6)) sv c) (gJ h)) A A o o (fun c => c = 5) := by
            refine ⟨⟨Nat.le_refl _, Nat.le_refl _, fun a _ => ⟨rfl, rfl⟩, fun a _ hp => ⟨rfl, rfl, fun j9 => ?_, fun _ => rfl, fun _ => rfl⟩⟩, fun _ _ => rfl, fun _ _ => rfl⟩
            have e1 : a ≠ A (bF f + 6) := fun e => hp (by show o a / 1000000 = 5; rw [e, oF_6 t]; unfold bF; omega)
            rw [gI_hU, uI_ne _ _ _ e1]
          refine kk _ (by simp only [↓forall_eq, ↓inB_iff, gK_hU, gL_hU, gR_hU, gIh, gJh, pI_hU, pJ_hU, hU_hU, uI_app, uJ_app, and_true, true_and, and_false, false_and, and_self, true_implies, false_implies, not_true, not_false_iff, if_true, if_false, eq_self, Nat.reduceLeDiff, Nat.reduceEqDiff, reduceCtorEq, i32c, ti0, ti1, tiM, Int.natCast_nonneg, Int.reduceEq, Int.reduceLE, Int.reduceLT, Int.reduceNeg, tl_i, Int32.reduceToInt, Int64.reduceToInt, tiA, tlM6, Int.toNat_natCast, natc, nI_1, Int.zero_sub, implies_true, not_false_eq_true]) rfl ⟨left_mk (h1 := hU h (uI (gI h) (A (bF f + 6)) sv c) (gJ h)) b (show base h o from b) fI (by decide) (by simp) (fun a a1 a2 => by rw [gIh]; funext j9; simp only [uI_app]; grind) (fun j9 a1 a2 => by rw [gIh]; simp only [uI_app]; grind) (fun a a1 _ => j a a1) (by rw [gN_hU]; omega) (by rw [gT_hU]; omega), ?_⟩
          have ii : ∀ a, a ≠ A (bF f + 6) → a ≠ 44 → a ≠ 58 → uI (uI (uI (gI h) (A (bF f + 6)) sv c) 44 0 0) 58 (20 * f + sv) c a = gI h a := fun a w1 w2 w3 => by rw [uI_ne _ _ _ w3, uI_ne _ _ _ w2, uI_ne _ _ _ w1]
          have i34 : (34 : Nat) ≠ A (bF f + 6) := fun e => by have := oF_6 t; rw [← e, ol_34 b.2.2] at this; unfold bF at this; omega
          refine ⟨?_, ⟨by rw [gIh, uI_ne _ _ _ (by decide), uI_nj _ _ _ _ (by decide), uI_ne _ _ _ n44]; exact hnf, n6⟩, fun f' hf' => ?_⟩
          · obtain ⟨l1, ⟨l2, l3⟩, l4, l5⟩ := F.1
            exact ⟨l1, ⟨by rw [gIh, ii 34 i34 (by decide) (by decide)]; exact l2, l3⟩, l4, l5⟩
          · have FO' := F.2.2 f' hf'
            have t' := FO'.1.1
            have out := fun j hj => F_out b t' (j := j) hj (by omega)
            refine formOK_cost FO' (fun j hj hj6 => ?_) (fun a w1 w2 w3 => ii a (fun e => F_out b t (j := 6) (by omega) (by omega) (by rw [← e]; omega)) (by omega) w3) (fun a w1 w2 => ii a (fun e => F_out b t (j := 6) (by omega) (by omega) (by rw [← e]; omega)) (by omega) (by omega)) (fun s' hs' => ?_)
            · have := out j hj
              exact ii _ (F_ne t t' (by omega) hj (Or.inr (by omega)) (by omega)) (by omega) (by omega)
            · obtain ⟨-, -, z3, z4⟩ := FO'.2.2.1 s' hs'
              have o6 := out 6 (by omega)
              by_cases ef : f' = f
              · subst ef
                rw [uI_ne _ _ _ (show A (bF f' + 6) ≠ 58 by omega), uI_ne _ _ _ (show A (bF f' + 6) ≠ 44 by omega), uI_app, uI_app, uI_ne _ _ _ (show (58 : Nat) ≠ 44 by decide), uI_ne _ _ _ n58]
                by_cases es : s' = sv
                · rw [if_pos ⟨rfl, es⟩, if_pos ⟨rfl, by omega⟩]; exact ⟨rfl, fun _ => qc⟩
                · rw [if_neg (fun w => es w.2), if_neg (fun w => es (by omega))]; exact ⟨z3, fun e => (z4 e).2⟩
              · have c20 := FO'.2.1.1.2.1
                rw [ii (A (bF f' + 6)) (F_ne t t' (by omega) (by omega) (Or.inl ef) (by omega)) (by omega) (by omega), uI_nj _ _ _ _ (show 20 * f' + s' ≠ 20 * f + sv by omega), uI_ne _ _ _ (show (58 : Nat) ≠ 44 by decide), uI_ne _ _ _ n58]
                exact ⟨z3, fun e => (z4 e).2⟩
      · refine Pr_gc (A := A) (C := fun _ => False) 1 1 b (by decide) rfl (fun K X kk => m188 ⟨by decide, ck_8 b.1, formSt b F (fun _ => ?_) (fun z => absurd q z)⟩) (fun g J K X mf e kk => m190 ?_) fin
        · rw [hfx, hsx]
          simp only [↓forall_eq, ↓inB_iff, gK_hU, gL_hU, gR_hU, gIh, gJh, pI_hU, pJ_hU, hU_hU, uI_app, uJ_app, and_true, true_and, and_false, false_and, and_self, true_implies, false_implies, not_true, not_false_iff, if_true, if_false, eq_self, Nat.reduceLeDiff, Nat.reduceEqDiff, reduceCtorEq, i32c, ti0, ti1, tiM, Int.natCast_nonneg, Int.reduceEq, Int.reduceLE, Int.reduceLT, Int.reduceNeg, tl_i, Int32.reduceToInt, Int64.reduceToInt, tiA, tlM6, Int.toNat_natCast, natc, nI_1, Int.zero_sub, implies_true, not_false_eq_true, eF_0 t, kF_0 t, ↓isAsk_br t c1 c2 hsn, y1', qs]
          exact ⟨fun _ => kk, fun w1 => ⟨fun _ => kk, fun w2 => absurd ⟨by omega, by omega⟩ qc⟩⟩
        · have e54 : uI (gI g) 44 0 0 54 = gI h 54 := by rw [uI_ne _ _ _ (by decide), e 54 (by decide) (by decide)]
          simp only [↓forall_eq, ↓inB_iff, gK_hU, gL_hU, gR_hU, gIh, gJh, pI_hU, pJ_hU, hU_hU, uI_app, uJ_app, and_true, true_and, and_false, false_and, and_self, true_implies, false_implies, not_true, not_false_iff, if_true, if_false, eq_self, Nat.reduceLeDiff, Nat.reduceEqDiff, reduceCtorEq, i32c, ti0, ti1, tiM, Int.natCast_nonneg, Int.reduceEq, Int.reduceLE, Int.reduceLT, Int.reduceNeg, tl_i, Int32.reduceToInt, Int64.reduceToInt, tiA, tlM6, Int.toNat_natCast, natc, nI_1, Int.zero_sub, implies_true, not_false_eq_true, mf.1, mr_20 mf, mk_58 mf, ml_58 mf, ↓fail_br mf, ↓isIn_br, ↓isStOf_br (M := gI h) mf hnf n6 hc, uI_ne, ne_eq, not_false_eq_true, e 44 (by decide) (by decide), e 53 (by decide) (by decide), q, ↓isA g _ _ _ _ mf e54, qs, qc]
          exact kk
    · refine Pr_gc (A := A) (C := fun _ => False) 1 1 b (by decide) rfl (fun K X kk => m188 ⟨by decide, ck_8 b.1, formSt b F (fun _ => ?_) (fun z => absurd q z)⟩) (fun g J K X mf e kk => m190 ?_) fin
      · rw [hfx, hsx]
        simp only [↓forall_eq, ↓inB_iff, gK_hU, gL_hU, gR_hU, gIh, gJh, pI_hU, pJ_hU, hU_hU, uI_app, uJ_app, and_true, true_and, and_false, false_and, and_self, true_implies, false_implies, not_true, not_false_iff, if_true, if_false, eq_self, Nat.reduceLeDiff, Nat.reduceEqDiff, reduceCtorEq, i32c, ti0, ti1, tiM, Int.natCast_nonneg, Int.reduceEq, Int.reduceLE, Int.reduceLT, Int.reduceNeg, tl_i, Int32.reduceToInt, Int64.reduceToInt, tiA, tlM6, Int.toNat_natCast, natc, nI_1, Int.zero_sub, implies_true, not_false_eq_true, eF_0 t, kF_0 t, ↓isAsk_br t c1 c2 hsn, y1', qs]
        exact kk
      · have e54 : uI (gI g) 44 0 0 54 = gI h 54 := by rw [uI_ne _ _ _ (by decide), e 54 (by decide) (by decide)]
        simp only [↓forall_eq, ↓inB_iff, gK_hU, gL_hU, gR_hU, gIh, gJh, pI_hU, pJ_hU, hU_hU, uI_app, uJ_app, and_true, true_and, and_false, false_and, and_self, true_implies, false_implies, not_true, not_false_iff, if_true, if_false, eq_self, Nat.reduceLeDiff, Nat.reduceEqDiff, reduceCtorEq, i32c, ti0, ti1, tiM, Int.natCast_nonneg, Int.reduceEq, Int.reduceLE, Int.reduceLT, Int.reduceNeg, tl_i, Int32.reduceToInt, Int64.reduceToInt, tiA, tlM6, Int.toNat_natCast, natc, nI_1, Int.zero_sub, implies_true, not_false_eq_true, mf.1, mr_20 mf, mk_58 mf, ml_58 mf, ↓fail_br mf, ↓isIn_br, ↓isStOf_br (M := gI h) mf hnf n6 hc, uI_ne, ne_eq, not_false_eq_true, e 44 (by decide) (by decide), e 53 (by decide) (by decide), q, ↓isA g _ _ _ _ mf e54, qs]
        exact kk
  · refine Pr_gc (A := A) (C := fun _ => False) 0 3 b (by decide) rfl (fun K X kk => m188 ⟨by decide, ck_8 b.1, formSt b F (fun z => absurd z q) (fun _ => kk)⟩) (fun g J K X mf e kk => m190 ?_) fin
    simp only [↓forall_eq, ↓inB_iff, gK_hU, gL_hU, gR_hU, gIh, gJh, pI_hU, pJ_hU, hU_hU, uI_app, uJ_app, and_true, true_and, and_false, false_and, and_self, true_implies, false_implies, not_true, not_false_iff, if_true, if_false, eq_self, Nat.reduceLeDiff, Nat.reduceEqDiff, reduceCtorEq, i32c, ti0, ti1, tiM, Int.natCast_nonneg, Int.reduceEq, Int.reduceLE, Int.reduceLT, Int.reduceNeg, tl_i, Int32.reduceToInt, Int64.reduceToInt, tiA, tlM6, Int.toNat_natCast, natc, nI_1, Int.zero_sub, implies_true, not_false_eq_true, mf.1, mr_20 mf, mk_58 mf, ml_58 mf, ↓fail_br mf, ↓isIn_br, ↓isStOf_br (M := gI h) mf hnf n6 hc, uI_ne, ne_eq, not_false_eq_true, e 44 (by decide) (by decide), e 53 (by decide) (by decide), q]
    exact kk
end CST
