/-! OPEN: the model's side -/
section OPM
variable {d k f n nf ns U T : Nat} {h g : aH} {u : Int32} {A o : Nat → Nat} {X : Nat → aH → Prop} {M I : Nat → Nat → Int32} {J : Nat → Nat → Int64} {E : Nat → Nat → List Tm} {Cn : Nat → Nat → List Cmp}
def opF (I I4 : Nat → Nat → Int32) (f ns : Nat) (u : Int32) (rv : Nat → Int32) : Prop := (∀ a, a ≠ 44 → a ≠ 67 → a ≠ 68 → a ≠ 69 → a ≠ 76 → I4 a = I a) ∧ (∀ j, j ≠ 0 → j ≠ 38 → I4 44 j = I 44 j) ∧ I4 44 0 = 0 ∧ I4 44 38 = nI (ns + 1) ∧ (∀ j, I4 67 j = if j = ns then nI f else I 67 j) ∧ (∀ j, I4 68 j = if j = ns then u else I 68 j) ∧ (∀ j, j < 6 * ns ∨ 6 * ns + 6 ≤ j → I4 69 j = I 69 j) ∧ (∀ i, i < 6 → I4 69 (6 * ns + i) = rv i) ∧ ∀ j, j ≠ ns → I4 76 j = I 76 j
theorem m_open {K : Int32 → aH → Prop} (mf : MF g) (F : FormA h A o (gI h) E Cn nf) (R : RegA h A o (gI h) U T) (hs : gI h 44 38 = nI ns) (hf : f < nf) (hu : 0 ≤ u.toInt ∧ u.toInt < U) (hu2 : (gI h 45 u.toInt.toNat).toInt = -1) (hns : ns < 60) (e9 : ∀ x, 44 ≤ x → x < 107 → I x = gI h x)
    (w1 : ∀ I4, opF I I4 f ns u (rgV (gI h) T u) → K (nI ns) (hU g I4 J)) : CI 500 139 [vR 44, vI (nI f), vI u] (hU g I J) K X := by
  have n6 := F.2.1.2
  have hnf := F.2.1.1
  obtain ⟨u9, t9⟩ := RegA_le R
  have hu' := R.1.1
  have ht := R.1.2
  have fo := R.2.2.2.2.2.1
  have hd : ∀ r, r < T → (0 ≤ (gI h 47 r).toInt ∧ (gI h 47 r).toInt < U) ∧ 0 ≤ (gI h 49 r).toInt := fun r hr => (R.2.2.2.2.2.2.2 r hr).1
  have hUI : (nI U).toInt = U := ti_n (by omega)
  have hn : (nI nf).toInt = nf := ti_n (by omega)
  have hfI : (nI f).toInt = f := ti_n (by omega)
  have q : 0 ≤ (f : Int) ∧ (f : Int) < nf := by omega
  have hsI : (nI ns).toInt = ns := ti_n (by omega)
  have z60 : (ns : Int) < 60 := by omega
  have n60 : ¬ (ns : Int) = 60 := by omega
  have u100 : u.toInt < 100 := by omega
  have e44 := e9 44 (by decide) (by decide)
  have e45 := e9 45 (by decide) (by decide)
  have loop : ∀ (n p : Nat) (I3 : Nat → Nat → Int32), p + n = 6 → (∀ a, a ≠ 44 → a ≠ 67 → a ≠ 68 → a ≠ 69 → I3 a = I a) → (∀ j, j ≠ 0 → I3 44 j = I 44 j) → I3 44 0 = 0 → (∀ j, I3 67 j = if j = ns then nI f else I 67 j) → (∀ j, I3 68 j = if j = ns then u else I 68 j) → (∀ j, j < 6 * ns ∨ 6 * ns + 6 ≤ j → I3 69 j = I 69 j) → (∀ i, i < p → I3 69 (6 * ns + i) = rgV (gI h) T u i) → Wp 500 139 (80, [some (vR 44), none, some (vI u), some (vI (nI p))], [], hU g I3 J) (RI K X) := by
    intro n
    induction n with
    | zero =>
      intro p I3 hp i1 i2 i3 i4 i5 i6 i7
      have hpc : p = 6 := by omega
      subst hpc
      have t6 : (nI 6).toInt = 6 := rfl
      have j38 : I3 44 38 = nI ns := by rw [i2 38 (by decide), e44]; exact hs
      refine w139_80 ?_
      simp only [↓forall_eq, ↓inB_iff, gK_hU, gL_hU, gR_hU, gIh, gJh, pI_hU, pJ_hU, hU_hU, uI_app, uJ_app, and_true, true_and, and_false, false_and, and_self, true_implies, false_implies, not_true, not_false_iff, if_true, if_false, eq_self, Nat.reduceLeDiff, Nat.reduceEqDiff, reduceCtorEq, i32c, ti0, ti1, tiM, Int.natCast_nonneg, Int.reduceEq, Int.reduceLE, Int.reduceLT, Int.reduceNeg, tl_i, Int32.reduceToInt, Int64.reduceToInt, tiA, tlM6, Int.toNat_natCast, natc, nI_1, Int.zero_sub, implies_true, not_false_eq_true, mf.1, mr_3 mf, mk_45 mf, ml_45 mf, mr_39 mf, mk_67 mf, ml_67 mf, mr_40 mf, mk_68 mf, ml_68 mf, mr_41 mf, mk_69 mf, ml_69 mf, mr_48 mf, mk_76 mf, ml_76 mf, t6, Int.lt_irrefl, j38, hsI, z60, nI_pred]
      refine w1 _ ⟨fun a q1 q2 q3 q4 q5 => by rw [uI_ne _ _ _ q1, uI_ne _ _ _ q5]; exact i1 a q1 q2 q3 q4, fun j q1 q2 => by rw [uI_nj _ _ _ _ q2, uI_ne _ _ _ (by decide)]; exact i2 j q1, by rw [uI_nj _ _ _ _ (by decide), uI_ne _ _ _ (by decide)]; exact i3, by rw [uI_same], fun j => by rw [uI_ne _ _ _ (by decide), uI_ne _ _ _ (by decide)]; exact i4 j, fun j => by rw [uI_ne _ _ _ (by decide), uI_ne _ _ _ (by decide)]; exact i5 j, fun j hj => by rw [uI_ne _ _ _ (by decide), uI_ne _ _ _ (by decide)]; exact i6 j hj, fun i hi => by rw [uI_ne _ _ _ (by decide), uI_ne _ _ _ (by decide)]; exact i7 i hi, fun j hj => by rw [uI_ne _ _ _ (by decide), uI_nj _ _ _ _ hj, i1 76 (by decide) (by decide) (by decide) (by decide)]⟩
    | succ n ih =>
      intro p I3 hp i1 i2 i3 i4 i5 i6 i7
      have hpI : (nI p).toInt = p := ti_n (by omega)
      have z6 : (p : Int) < 6 := by omega
      have j38 : I3 44 38 = nI ns := by rw [i2 38 (by decide), e44]; exact hs
      have j1 : I3 44 1 = gI h 44 1 := by rw [i2 1 (by decide), e44]
      have x1 : (6 : Int32) * nI ns + nI p = nI (6 * ns + p) := by rw [show (6 : Int32) = nI 6 from rfl, nI_mul, nI_add]
      have x2 : (nI (6 * ns + p)).toInt = ((6 * ns + p : Nat) : Int) := ti_n (by omega)
      have x3 : ((6 * ns + p : Nat) : Int) < 360 := by omega
      have jm : ∀ a, 45 ≤ a → a ≤ 51 → I3 a = gI h a := fun a h1 h2 => by rw [i1 a (by omega) (by omega) (by omega) (by omega)]; exact e9 a (by omega) (by omega)
      have V := fun (K : Int32 → aH → Prop) X => valueOf_br (d := 498) (X := X) (J := J) (K := K) (g := g) (I := I3) (u := u) (fi := nI p) (da := gI h 44 1 / 1440) (kn := gI h 44 1 / 1440) (M := gI h) mf hu' ht u9 t9 fo hd ⟨by rw [i2 2 (by decide), e44], by rw [i2 6 (by decide), e44]⟩ (jm 45 (by decide) (by decide)) (jm 46 (by decide) (by decide)) (jm 47 (by decide) (by decide)) (jm 48 (by decide) (by decide)) (jm 49 (by decide) (by decide)) (jm 50 (by decide) (by decide)) (jm 51 (by decide) (by decide)) hu.1 hu.2
      rw [hpI] at V
      refine w139_80 ?_
      simp only [↓forall_eq, ↓inB_iff, gK_hU, gL_hU, gR_hU, gIh, gJh, pI_hU, pJ_hU, hU_hU, uI_app, uJ_app, and_true, true_and, and_false, false_and, and_self, true_implies, false_implies, not_true, not_false_iff, if_true, if_false, eq_self, Nat.reduceLeDiff, Nat.reduceEqDiff, reduceCtorEq, i32c, ti0, ti1, tiM, Int.natCast_nonneg, Int.reduceEq, Int.reduceLE, Int.reduceLT, Int.reduceNeg, tl_i, Int32.reduceToInt, Int64.reduceToInt, tiA, tlM6, Int.toNat_natCast, natc, nI_1, Int.zero_sub, implies_true, not_false_eq_true, mf.1, mr_3 mf, mk_45 mf, ml_45 mf, mr_39 mf, mk_67 mf, ml_67 mf, mr_40 mf, mk_68 mf, ml_68 mf, mr_41 mf, mk_69 mf, ml_69 mf, mr_48 mf, mk_76 mf, ml_76 mf, hpI, z6, ↓today_br mf, j1, ↓V, j38, x1, x2, x3]
      refine ih (p + 1) _ (by omega) (fun a q1 q2 q3 q4 => by rw [uI_ne _ _ _ q4]; exact i1 a q1 q2 q3 q4) (fun j q1 => by rw [uI_ne _ _ _ (by decide)]; exact i2 j q1) (by rw [uI_ne _ _ _ (by decide)]; exact i3) (fun j => by rw [uI_ne _ _ _ (by decide)]; exact i4 j) (fun j => by rw [uI_ne _ _ _ (by decide)]; exact i5 j) (fun j hj => by rw [uI_nj _ _ _ _ (by omega)]; exact i6 j hj) (fun i hi => ?_)
      rw [uI_app]
      by_cases c : i = p
      · rw [if_pos ⟨rfl, by omega⟩, c]; unfold rgV; rw [if_pos (by omega)]
      · rw [if_neg (fun z => by have := z.2; omega)]; exact i7 i (by omega)
  refine m139 ?_
  have k2 : I 44 2 = nI U := by rw [e44]; exact hu'
  have k14 : I 44 14 = nI nf := by rw [e44]; exact hnf
  have k38 : I 44 38 = nI ns := by rw [e44]; exact hs
  have k45 : (I 45 u.toInt.toNat).toInt = -1 := by rw [e45]; exact hu2
  simp only [↓forall_eq, ↓inB_iff, gK_hU, gL_hU, gR_hU, gIh, gJh, pI_hU, pJ_hU, hU_hU, uI_app, uJ_app, and_true, true_and, and_false, false_and, and_self, true_implies, false_implies, not_true, not_false_iff, if_true, if_false, eq_self, Nat.reduceLeDiff, Nat.reduceEqDiff, reduceCtorEq, i32c, ti0, ti1, tiM, Int.natCast_nonneg, Int.reduceEq, Int.reduceLE, Int.reduceLT, Int.reduceNeg, tl_i, Int32.reduceToInt, Int64.reduceToInt, tiA, tlM6, Int.toNat_natCast, natc, nI_1, Int.zero_sub, implies_true, not_false_eq_true, mf.1, mr_3 mf, mk_45 mf, ml_45 mf, mr_39 mf, mk_67 mf, ml_67 mf, mr_40 mf, mk_68 mf, ml_68 mf, mr_41 mf, mk_69 mf, ml_69 mf, mr_48 mf, mk_76 mf, ml_76 mf, ↓fail_br mf, ↓isForm_br mf, ↓isUnit_br mf, k2, k14, k38, hn, hUI, hfI, hsI, q, hu, u100, k45, n60, z60]
  refine loop 6 0 _ (by omega) (fun a q1 q2 q3 q4 => by rw [uI_ne _ _ _ q3, uI_ne _ _ _ q2, uI_ne _ _ _ q1]) (fun j q1 => by rw [uI_ne _ _ _ (by decide), uI_ne _ _ _ (by decide), uI_nj _ _ _ _ q1]) (by rw [uI_ne _ _ _ (by decide), uI_ne _ _ _ (by decide), uI_same]) (fun j => ?_) (fun j => ?_) (fun j hj => by rw [uI_ne _ _ _ (by decide), uI_ne _ _ _ (by decide), uI_ne _ _ _ (by decide)]) (fun i hi => by omega)
  · rw [uI_ne _ _ _ (by decide), uI_app, uI_ne _ _ _ (by decide)]
    by_cases z : j = ns
    · rw [if_pos ⟨rfl, z⟩, if_pos z]
    · rw [if_neg (fun y => z y.2), if_neg z]
  · rw [uI_app, uI_ne _ _ _ (by decide), uI_ne _ _ _ (by decide)]
    by_cases z : j = ns
    · rw [if_pos ⟨rfl, z⟩, if_pos z]
    · rw [if_neg (fun y => z y.2), if_neg z]
end OPM
