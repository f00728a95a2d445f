/-! SAMPLES: the model's whole call -/
section SMW
variable {d U T nm : Nat} {h g : aH} {A o : Nat → Nat} {X : Nat → aH → Prop} {M : Nat → Nat → Int32} {I : Nat → Nat → Int32} {J : Nat → Nat → Int64} {a1 a2 a3 a4 a5 a6 : Int32}
theorem last_self {u : Nat} {kn : Int} (hu : (M 45 u).toInt = -1) : lastM M kn u = u := by
  unfold lastM
  exact last_stop (Or.inl (by omega))
abbrev c42 (hh : aH) (a1 a2 a3 a4 a5 a6 l7 : Int32) (p : Nat) : aCf := (42, [some (vR 44), some (vI a1), some (vI a2), some (vI a3), some (vI a4), some (vI a5), some (vI a6), some (vI l7), some (vI (nI p)), none, none, none, none, none, none], [], hh)
abbrev c104 (hh : aH) (a1 a2 a3 a4 a5 a6 l7 s0 : Int32) (p : Nat) : aCf := (104, [some (vR 44), some (vI a1), some (vI a2), some (vI a3), some (vI a4), some (vI a5), some (vI a6), some (vI l7), some (vI (nI p)), none, none, none, none, none, none], [vI s0], hh)
theorem m_sample {K : Int32 → aH → Prop} (mf : MF g) (R : RegA h A o (gI h) U T) (h64 : gI h 44 64 = nI nm) (nm9 : nm ≤ 12) (e9 : ∀ x, 44 ≤ x → x < 107 → I x = gI h x) (h1 : 0 ≤ a1.toInt ∧ a1.toInt ≤ 5) (h4 : 0 ≤ a4.toInt ∧ a4.toInt ≤ 5)
    (w1 : ¬ (0 ≤ a5.toInt ∧ a5.toInt ≤ (frD (gI h) U T a1 a2 a3 a4 : Nat)) → ∀ I', (∀ a, a ≠ 44 → a ≠ 89 → I' a = I a) → (∀ j, j ≠ 0 → I' 44 j = I 44 j) → I' 44 0 = 2 → K 0 (hU g I' J))
    (w2 : (0 ≤ a5.toInt ∧ a5.toInt ≤ (frD (gI h) U T a1 a2 a3 a4 : Nat)) → ¬ nm < 12 → ∀ I', (∀ a, a ≠ 44 → a ≠ 89 → I' a = I a) → (∀ j, j ≠ 0 → I' 44 j = I 44 j) → I' 44 0 = 3 → K 0 (hU g I' J))
    (w3 : (0 ≤ a5.toInt ∧ a5.toInt ≤ (frD (gI h) U T a1 a2 a3 a4 : Nat)) → nm < 12 → ∀ I1, smF (uI I 44 0 0) I1 nm U (stD (gI h) U T a1 a2 a3 a4) → (∀ i, i < U → I1 86 (100 * nm + i) = nI (alS (stD (gI h) U T a1 a2 a3 a4) U a5.toInt.toNat (frD (gI h) U T a1 a2 a3 a4) i) ∧ I1 87 (100 * nm + i) = nI (nN (stD (gI h) U T a1 a2 a3 a4) U i) ∧ I1 88 (100 * nm + i) = bI (drS (stD (gI h) U T a1 a2 a3 a4) U a5.toInt.toNat (frD (gI h) U T a1 a2 a3 a4) a6 i)) → K (nI nm) (hU g (uI I1 44 64 (nI (nm + 1))) J)) : CI 500 241 [vR 44, vI a1, vI a2, vI a3, vI a4, vI a5, vI a6] (hU g I J) K X := by
  obtain ⟨u9, t9⟩ := RegA_le R
  have hu' := R.1.1
  have ht := R.1.2
  have fo := R.2.2.2.2.2.1
  have hd : ∀ r, r < T → (0 ≤ (gI h 47 r).toInt ∧ (gI h 47 r).toInt < U) ∧ 0 ≤ (gI h 49 r).toInt := fun r hr => (R.2.2.2.2.2.2.2 r hr).1
  have hUI : (nI U).toInt = U := ti_n (by omega)
  have e44 := e9 44 (by decide) (by decide)
  have frle : frD (gI h) U T a1 a2 a3 a4 ≤ U := cntP_le U
  have frI : (nI (frD (gI h) U T a1 a2 a3 a4)).toInt = (frD (gI h) U T a1 a2 a3 a4 : Nat) := ti_n (by omega)
  have hnI : (nI nm).toInt = nm := ti_n (by omega)
  have a0 : ∀ x : Int32, x + 0 = x := Int32.add_zero
  have main : ∀ (m p : Nat) (I2 : Nat → Nat → Int32), p + m = U → (∀ a, a ≠ 89 → I2 a = uI I 44 0 0 a) → (∀ i, i < p → I2 89 i = stD (gI h) U T a1 a2 a3 a4 i) → Wp 500 241 (c42 (hU g I2 J) a1 a2 a3 a4 a5 a6 (nI (cntP (fun i => thr (stD (gI h) U T a1 a2 a3 a4 i)) p)) p) (RI K X) := by
    intro m
    induction m with
    | zero =>
      intro p I2 hp i1 i2
      have hpc : p = U := by omega
      subst hpc
      have j44 : ∀ j, I2 44 j = if j = 0 then 0 else gI h 44 j := fun j => by
        rw [i1 44 (by decide), uI_app, e44]
        by_cases z : j = 0
        · rw [if_pos ⟨rfl, z⟩, if_pos z]
        · rw [if_neg (fun y => z y.2), if_neg z]
      have j2 : I2 44 2 = nI p := by rw [j44, if_neg (by decide)]; exact hu'
      have j64 : I2 44 64 = nI nm := by rw [j44, if_neg (by decide)]; exact h64
      have frI' : (nI (cntP (fun i => thr (stD (gI h) p T a1 a2 a3 a4 i)) p)).toInt = (frD (gI h) p T a1 a2 a3 a4 : Nat) := frI
      have mul : (100 : Int32) * nI nm = nI (100 * nm) := nI_mul 100 nm
      have fl : ∀ x : Int32, (∀ a, a ≠ 44 → a ≠ 89 → uI I2 44 0 x a = I a) ∧ (∀ j, j ≠ 0 → uI I2 44 0 x 44 j = I 44 j) ∧ uI I2 44 0 x 44 0 = x := fun x => by
        refine ⟨fun a q1 q2 => ?_, fun j q1 => ?_, uI_same _ _ _ _⟩
        · rw [uI_ne _ _ _ q1, i1 a q2, uI_ne _ _ _ q1]
        · rw [uI_nj _ _ _ _ q1, j44, if_neg q1, e44]
      refine w241_42 ?_
      simp only [↓forall_eq, ↓inB_iff, gK_hU, gL_hU, gR_hU, gIh, gJh, pI_hU, pJ_hU, hU_hU, uI_app, uJ_app, and_true, true_and, and_false, false_and, and_self, true_implies, false_implies, not_true, not_false_iff, if_true, if_false, eq_self, Nat.reduceLeDiff, Nat.reduceEqDiff, reduceCtorEq, i32c, ti0, ti1, tiM, Int.natCast_nonneg, Int.reduceEq, Int.reduceLE, Int.reduceLT, Int.reduceNeg, tl_i, Int32.reduceToInt, Int64.reduceToInt, tiA, tlM6, Int.toNat_natCast, natc, nI_1, Int.zero_sub, implies_true, not_false_eq_true, mf.1, mr_3 mf, mk_45 mf, ml_45 mf, mr_65 mf, mk_86 mf, ml_86 mf, mr_66 mf, mk_87 mf, ml_87 mf, mr_67 mf, mk_88 mf, ml_88 mf, mr_68 mf, mk_89 mf, ml_89 mf, ↓fail_br mf, j2, j64, hnI, Int.lt_irrefl, frI', mul]
      refine ⟨fun c => ?_, fun c => ⟨fun c2 => ?_, fun c2 => ⟨fun c3 => ?_, fun c3 => ?_⟩⟩⟩
      · obtain ⟨q1, q2, q3⟩ := fl 2
        exact w1 (by omega) _ q1 q2 q3
      · obtain ⟨q1, q2, q3⟩ := fl 2
        exact w1 (by omega) _ q1 q2 q3
      · obtain ⟨q1, q2, q3⟩ := fl 3
        exact w2 (by omega) (by omega) _ q1 q2 q3
      · have n12 : nm < 12 := by omega
        have n9 : a5.toInt.toNat ≤ 100 := by omega
        have e5 : a5 = nI a5.toInt.toNat := ti_nat (by omega)
        have k2 : uI I 44 0 0 44 2 = nI p := by rw [uI_nj _ _ _ _ (by decide), e44]; exact hu'
        have k64 : uI I 44 0 0 44 64 = nI nm := by rw [uI_nj _ _ _ _ (by decide), e44]; exact h64
        have sm : smF (uI I 44 0 0) I2 nm p (stD (gI h) p T a1 a2 a3 a4) := ⟨fun a _ _ _ q4 => i1 a q4, fun j _ => by rw [i1 86 (by decide), i1 87 (by decide), i1 88 (by decide)]; exact ⟨rfl, rfl, rfl⟩, fun j _ _ => by rw [i1 86 (by decide), i1 87 (by decide), i1 88 (by decide)]; exact ⟨rfl, rfl, rfl⟩, i2⟩
        have hfr : ∀ i, i < p → ¬ (stD (gI h) p T a1 a2 a3 a4 i).toInt = -2000000 → frD (gI h) p T a1 a2 a3 a4 ≠ 0 := fun i hi hn e => by
          have := cntP_0 (P := fun i => thr (stD (gI h) p T a1 a2 a3 a4 i)) (j := i) (by unfold thr; rw [decide_eq_false hn]; rfl) p hi
          have e' : cntP (fun i => thr (stD (gI h) p T a1 a2 a3 a4 i)) p = 0 := e
          omega
        have ok : 0 ≤ a5.toInt ∧ a5.toInt ≤ (frD (gI h) p T a1 a2 a3 a4 : Nat) := by omega
        have B := m_base (d := 498) (J := J) (g := g) (K := K) (X := X) (sd := a6) (st := stD (gI h) p T a1 a2 a3 a4) (n := a5.toInt.toNat) (fr := frD (gI h) p T a1 a2 a3 a4) mf u9 n12 n9 (Nat.le_trans frle u9) k2 (fun I3 s3 v3 => m_more (d := 498) mf u9 n12 n9 (Nat.le_trans frle u9) hfr k2 (fun I4 s4 v4 => m_drawn (d := 498) mf u9 n12 n9 k2 k64 (fun I5 s5 v5 => w3 ok n12 I5 s5 v5) p 0 I4 (by omega) s4 v4 (fun i hi => by omega)) p 0 I3 (by omega) s3 (fun i hi => ⟨(v3 i hi).2, by rw [if_neg (by omega)]; exact (v3 i hi).1⟩)) p 0 I2 (by omega) sm (fun i hi => by omega)
        have r0 : iZ (rstS (stD (gI h) p T a1 a2 a3 a4) p a5.toInt.toNat (frD (gI h) p T a1 a2 a3 a4) 0) = a5 := by
          unfold rstS
          rw [show smP (isF (stD (gI h) p T a1 a2 a3 a4)) (fun j => ((bsS (stD (gI h) p T a1 a2 a3 a4) p a5.toInt.toNat (frD (gI h) p T a1 a2 a3 a4) j : Nat) : Int)) 0 = 0 from rfl, Int.sub_zero]
          exact ti_inj (by rw [ti_z (by omega) (by omega)]; omega)
        rw [r0] at B
        unfold c216 at B
        rw [← e5] at B
        exact B
    | succ m ih =>
      intro p I2 hp i1 i2
      have hpI : (nI p).toInt = p := ti_n (by omega)
      have zU : (p : Int) < U := by omega
      have z100 : (p : Int) < 100 := by omega
      have j44 : ∀ j, j ≠ 0 → I2 44 j = gI h 44 j := fun j hj => by rw [i1 44 (by decide), uI_nj _ _ _ _ hj, e44]
      have j2 : I2 44 2 = nI U := by rw [j44 2 (by decide)]; exact hu'
      have j1 : I2 44 1 = gI h 44 1 := j44 1 (by decide)
      have jm : ∀ a, 45 ≤ a → a ≤ 51 → I2 a = gI h a := fun a q1 q2 => by rw [i1 a (by omega), uI_ne _ _ _ (by omega)]; exact e9 a (by omega) (by omega)
      have j45 : I2 45 p = gI h 45 p := by rw [jm 45 (by decide) (by decide)]
      have V := fun (fi : Int32) (K : Int32 → aH → Prop) X => valueOf_br (d := 498) (X := X) (J := J) (K := K) (g := g) (I := I2) (u := nI p) (fi := fi) (da := gI h 44 1 / 1440) (kn := gI h 44 1 / 1440) (M := gI h) mf hu' ht u9 t9 fo hd ⟨j44 2 (by decide), j44 6 (by decide)⟩ (jm 45 (by decide) (by decide)) (jm 46 (by decide) (by decide)) (jm 47 (by decide) (by decide)) (jm 48 (by decide) (by decide)) (jm 49 (by decide) (by decide)) (jm 50 (by decide) (by decide)) (jm 51 (by decide) (by decide)) (by omega) (by omega)
      simp only [hpI, Int.toNat_natCast] at V
      have put : ∀ x : Int32, x = stD (gI h) U T a1 a2 a3 a4 p → (x.toInt = -2000000 → Wp 500 241 (c42 (hU g (uI I2 89 p x) J) a1 a2 a3 a4 a5 a6 (nI (cntP (fun i => thr (stD (gI h) U T a1 a2 a3 a4 i)) p)) (p + 1)) (RI K X)) ∧ (¬ x.toInt = -2000000 → Wp 500 241 (c42 (hU g (uI I2 89 p x) J) a1 a2 a3 a4 a5 a6 (nI (cntP (fun i => thr (stD (gI h) U T a1 a2 a3 a4 i)) p + 1)) (p + 1)) (RI K X)) := fun x hx => by
        have nx := ih (p + 1) (uI I2 89 p x) (by omega) (fun a ha => by rw [uI_ne _ _ _ ha]; exact i1 a ha) (fun i hi => by
          rw [uI_app]
          by_cases e : i = p
          · rw [if_pos ⟨rfl, e⟩, e]; exact hx
          · rw [if_neg (fun w => e w.2)]; exact i2 i (by omega))
        rw [cntP] at nx
        refine ⟨fun c => ?_, fun c => ?_⟩
        · rw [if_neg (by unfold thr; rw [← hx, decide_eq_true c]; decide), Nat.add_zero] at nx; exact nx
        · rw [if_pos (by unfold thr; rw [← hx, decide_eq_false c]; rfl)] at nx; exact nx
      have no : stD (gI h) U T a1 a2 a3 a4 p = -2000000 → Wp 500 241 (c104 (hU g I2 J) a1 a2 a3 a4 a5 a6 (nI (cntP (fun i => thr (stD (gI h) U T a1 a2 a3 a4 i)) p)) 0 p) (RI K X) := fun c => by
        have k1 := (put (-2000000) c.symm).1 rfl
        refine w241_104 ?_
        simp only [↓forall_eq, ↓inB_iff, gK_hU, gL_hU, gR_hU, gIh, gJh, pI_hU, pJ_hU, hU_hU, uI_app, uJ_app, and_true, true_and, and_false, false_and, and_self, true_implies, false_implies, not_true, not_false_iff, if_true, if_false, eq_self, Nat.reduceLeDiff, Nat.reduceEqDiff, reduceCtorEq, i32c, ti0, ti1, tiM, Int.natCast_nonneg, Int.reduceEq, Int.reduceLE, Int.reduceLT, Int.reduceNeg, tl_i, Int32.reduceToInt, Int64.reduceToInt, tiA, tlM6, Int.toNat_natCast, natc, nI_1, Int.zero_sub, implies_true, not_false_eq_true, mf.1, mr_3 mf, mk_45 mf, ml_45 mf, mr_65 mf, mk_86 mf, ml_86 mf, mr_66 mf, mk_87 mf, ml_87 mf, mr_67 mf, mk_88 mf, ml_88 mf, mr_68 mf, mk_89 mf, ml_89 mf, hpI, z100, a0]
        exact k1
      have yes : stD (gI h) U T a1 a2 a3 a4 p = valM (gI h) a4.toInt (gI h 44 1 / 1440).toInt (gI h 44 1 / 1440).toInt p T → (gI h 45 p).toInt = -1 → Wp 500 241 (c104 (hU g I2 J) a1 a2 a3 a4 a5 a6 (nI (cntP (fun i => thr (stD (gI h) U T a1 a2 a3 a4 i)) p)) 1 p) (RI K X) := fun c cm => by
        have V4 := V a4
        rw [last_self cm] at V4
        have k1 := put _ c.symm
        refine w241_104 ?_
        simp only [↓forall_eq, ↓inB_iff, gK_hU, gL_hU, gR_hU, gIh, gJh, pI_hU, pJ_hU, hU_hU, uI_app, uJ_app, and_true, true_and, and_false, false_and, and_self, true_implies, false_implies, not_true, not_false_iff, if_true, if_false, eq_self, Nat.reduceLeDiff, Nat.reduceEqDiff, reduceCtorEq, i32c, ti0, ti1, tiM, Int.natCast_nonneg, Int.reduceEq, Int.reduceLE, Int.reduceLT, Int.reduceNeg, tl_i, Int32.reduceToInt, Int64.reduceToInt, tiA, tlM6, Int.toNat_natCast, natc, nI_1, Int.zero_sub, implies_true, not_false_eq_true, mf.1, mr_3 mf, mk_45 mf, ml_45 mf, mr_65 mf, mk_86 mf, ml_86 mf, mr_66 mf, mk_87 mf, ml_87 mf, mr_67 mf, mk_88 mf, ml_88 mf, mr_68 mf, mk_89 mf, ml_89 mf, hpI, z100, a0, ↓today_br mf, j1, ↓V4]
        exact k1
      refine w241_42 ?_
      simp only [↓forall_eq, ↓inB_iff, gK_hU, gL_hU, gR_hU, gIh, gJh, pI_hU, pJ_hU, hU_hU, uI_app, uJ_app, and_true, true_and, and_false, false_and, and_self, true_implies, false_implies, not_true, not_false_iff, if_true, if_false, eq_self, Nat.reduceLeDiff, Nat.reduceEqDiff, reduceCtorEq, i32c, ti0, ti1, tiM, Int.natCast_nonneg, Int.reduceEq, Int.reduceLE, Int.reduceLT, Int.reduceNeg, tl_i, Int32.reduceToInt, Int64.reduceToInt, tiA, tlM6, Int.toNat_natCast, natc, nI_1, Int.zero_sub, implies_true, not_false_eq_true, mf.1, mr_3 mf, mk_45 mf, ml_45 mf, mr_65 mf, mk_86 mf, ml_86 mf, mr_66 mf, mk_87 mf, ml_87 mf, mr_67 mf, mk_88 mf, ml_88 mf, mr_68 mf, mk_89 mf, ml_89 mf, j2, hUI, hpI, zU, z100, ↓today_br mf, j1, ↓V a1, j45]
      refine ⟨fun cm => ?_, fun cm => no (if_neg (fun w => cm w.2.1))⟩
      rw [last_self cm]
      refine ⟨fun c => no (if_neg (fun w => w.2.2.1 c)), fun c => ?_⟩
      rw [isIn_br, tl_i, tl_i, tl_i]
      refine ⟨fun c2 => ⟨fun z => absurd z (by decide), fun _ => yes (if_pos ⟨by omega, cm, c, c2.1, c2.2⟩) cm⟩, fun c2 => ⟨fun _ => no (if_neg (fun w => c2 ⟨w.2.2.2.1, w.2.2.2.2⟩)), fun z => absurd rfl z⟩⟩
  have t5 : (5 : Int64).toInt = 5 := rfl
  refine m241 ?_
  simp only [↓forall_eq, ↓inB_iff, gK_hU, gL_hU, gR_hU, gIh, gJh, pI_hU, pJ_hU, hU_hU, uI_app, uJ_app, and_true, true_and, and_false, false_and, and_self, true_implies, false_implies, not_true, not_false_iff, if_true, if_false, eq_self, Nat.reduceLeDiff, Nat.reduceEqDiff, reduceCtorEq, i32c, ti0, ti1, tiM, Int.natCast_nonneg, Int.reduceEq, Int.reduceLE, Int.reduceLT, Int.reduceNeg, tl_i, Int32.reduceToInt, Int64.reduceToInt, tiA, tlM6, Int.toNat_natCast, natc, nI_1, Int.zero_sub, implies_true, not_false_eq_true, mf.1, mr_3 mf, mk_45 mf, ml_45 mf, mr_65 mf, mk_86 mf, ml_86 mf, mr_66 mf, mk_87 mf, ml_87 mf, mr_67 mf, mk_88 mf, ml_88 mf, mr_68 mf, mk_89 mf, ml_89 mf, ↓fail_br mf, ↓isIn_br, h1, h4]
  exact main U 0 (uI I 44 0 0) (by omega) (fun _ _ => rfl) (fun i hi => by omega)
end SMW
