/-! SESSIONS: back in the class; the model's side -/
section SSM
variable {so : Nat → Int32} {E : Nat → List Tm} {Cn : Nat → List Cmp} {gv av rg : Nat → Int32} {nt : Nat → Bool} {d f k cnt : Nat} {h g : aH} {A o : Nat → Nat} {X : Nat → aH → Prop} {I I0 : Nat → Nat → Int32} {J : Nat → Nat → Int64}
/-- the last one given, or -1 -/
def lsG (gv : Nat → Int32) : Nat → Int
  | 0 => -1
  | n + 1 => if (gv n).toInt = -2000000 then lsG gv n else n
theorem lsG_rng : ∀ n, lsG gv n = -1 ∨ (0 ≤ lsG gv n ∧ lsG gv n < n ∧ ¬ (gv (lsG gv n).toNat).toInt = -2000000) := by
  intro n
  induction n with
  | zero => exact Or.inl rfl
  | succ n ih =>
    rw [lsG]
    split
    · rcases ih with e | e
      · exact Or.inl e
      · exact Or.inr ⟨e.1, by omega, e.2.2⟩
    · rename_i c
      exact Or.inr ⟨by omega, by omega, by simpa using c⟩
theorem c_back {K : Int32 → aH → Prop} (x : sX h A o k f cnt so E Cn rg) (w : sW h A k cnt so E Cn rg gv av) (b1 : bndI 20 gv)
    (k1 : lsG gv cnt = -1 → K (-1) h)
    (k2 : ∀ I, ¬ lsG gv cnt = -1 → sFr h A k I → sW (hU h I (gJ h)) A k cnt so E Cn rg (upG gv (lsG gv cnt).toNat (-2000000)) (upG av (lsG gv cnt).toNat (gv (lsG gv cnt).toNat)) → I (A (bS k)) 9 = 0 → K (if enW so E Cn (upG gv (lsG gv cnt).toNat (-2000000)) rg cnt < cnt then nI (enW so E Cn (upG gv (lsG gv cnt).toNat (-2000000)) rg cnt) else -1) (hU h I (gJ h))) : CI (d + 5) 161 [vR (A (bS k))] h K X := by
  have x' := x
  obtain ⟨⟨t, l, ⟨c1, c2, c3⟩, c4⟩, u, hk, hf, -⟩ := x'
  obtain ⟨w1, w2, w3, w4⟩ := w
  have n3 : A (bS k) ≠ A (bS k + 3) := S_ne u (i := 0) (j := 3) (by omega) (by omega) (by omega)
  have n3' : A (bS k + 3) ≠ A (bS k) := n3.symm
  have n4 : A (bS k) ≠ A (bS k + 4) := S_ne u (i := 0) (j := 4) (by omega) (by omega) (by omega)
  have n4' : A (bS k + 4) ≠ A (bS k) := n4.symm
  have n43 := S_ne u (i := 4) (j := 3) (by omega) (by omega) (by omega)
  have n34 := S_ne u (i := 3) (j := 4) (by omega) (by omega) (by omega)
  have main : ∀ n, n ≤ cnt → lsG gv cnt = lsG gv n → Wp (d + 5) 161 (10, [some (vR (A (bS k))), some (vI (nI n - 1))], [], h) (RI K X) := by
    intro n
    induction n with
    | zero =>
      intro _ e
      refine w161_10 ⟨fun _ => k1 e, fun c => absurd (by decide) c⟩
    | succ n ih =>
      intro hn e
      have hnI : (nI n).toInt = n := ti_n (by omega)
      have z2 : (n : Int) < 20 := by omega
      have z0 : ¬ (n : Int) < 0 := by omega
      rw [nI_pred]
      refine w161_10 ?_
      simp only [↓forall_eq, ↓inB_iff, gK_hU, gL_hU, gR_hU, gIh, gJh, pI_hU, pJ_hU, hU_hU, uI_app, uJ_app, and_true, true_and, and_false, false_and, and_self, true_implies, false_implies, not_true, not_false_iff, if_true, if_false, eq_self, Nat.reduceLeDiff, Nat.reduceEqDiff, reduceCtorEq, i32c, ti0, ti1, tiM, Int.natCast_nonneg, Int.reduceEq, Int.reduceLE, Int.reduceLT, Int.reduceNeg, tl_i, Int32.reduceToInt, Int64.reduceToInt, tiA, tlM6, Int.toNat_natCast, natc, nI_1, Int.zero_sub, implies_true, not_false_eq_true, pI_eq, kS_0 u, eS_0 u, rS_0_4 u, rS_0_5 u, kS_3 u, lS_3 u, eS_3 u, kS_4 u, lS_4 u, eS_4 u, hnI, z2, z0, w1 n (by omega)]
      refine ⟨fun c => ?_, fun c => ?_⟩
      · rw [lsG, if_pos c] at e
        have := ih (by omega) e
        rw [Int32.sub_eq_add_neg] at this
        exact this
      · rw [lsG, if_neg c] at e
        have hl : (lsG gv cnt).toNat = n := by rw [e]; omega
        rw [hl] at k2
        have k2 := fun I => k2 I (by omega)
        have F1 : sFr h A k (uI (uI (uI (gI h) (A (bS k + 4)) n (gv n)) (A (bS k + 3)) n (-2000000)) (A (bS k)) 9 0) := ⟨fun a a1 _ a3 a4 => by rw [uI_ne _ _ _ a1, uI_ne _ _ _ a3, uI_ne _ _ _ a4], fun j hj => by rw [uI_nj _ _ _ _ (by omega), uI_ne _ _ _ n3, uI_ne _ _ _ n4]⟩
        refine c_walkS (sX_hU (J := gJ h) x F1) (gv := upG gv n (-2000000)) (av := upG av n (gv n)) (fun i hi => ?_) (fun i hi => ?_) (bnd_upG b1 (Or.inl rfl)) fun I5 s5 t5 p5 m5 => ?_
        · rw [gIh, uI_ne _ _ _ n3']
          exact uI_row (I := uI (gI h) (A (bS k + 4)) n (gv n)) (fun i hi => by rw [uI_ne _ _ _ n34]; exact w1 i hi) i hi
        · rw [gIh, uI_ne _ _ _ n4', uI_ne _ _ _ n43]
          exact uI_row (I := gI h) w2 i hi
        · have F5 := sFr_trans (J := gJ h) F1 s5
          have hle := en_le (so := so) (E := E) (Cn := Cn) (gv := upG gv n (-2000000)) (rg := rg) (cnt := cnt)
          refine ⟨kS_0 u, ?_⟩
          refine (asked_br (h := hU h I5 (gJ h)) (sX_hU x F5) t5.2.2.2 hle).mpr ?_
          exact k2 I5 F5 t5 (by rw [m5 9 (by omega), gIh, uI_same])
  refine m161 ⟨kS_0 u, by rw [hf]; exact kF_0 t, fun v ev => ?_⟩
  rw [hf, c1] at ev
  subst ev
  exact main cnt (Nat.le_refl _) rfl
/-- the model's session k by what is given and aside, and what is noted -/
def gvM (I : Nat → Nat → Int32) (k i : Nat) : Int32 := if (I 71 (20 * k + i)).toInt = 0 then -2000000 else I 72 (20 * k + i)
def avM (I : Nat → Nat → Int32) (k i : Nat) : Int32 := if (I 73 (20 * k + i)).toInt = 0 then -2000000 else I 74 (20 * k + i)
def ntM (I : Nat → Nat → Int32) (k i : Nat) : Bool := !decide ((I 75 (20 * k + i)).toInt = 0)
def rgM (I : Nat → Nat → Int32) (k j : Nat) : Int32 := I 69 (6 * k + j)
/-- a number that is given isn't ABSENT -/
def gOK (I : Nat → Nat → Int32) (k : Nat) : Prop := ∀ i, i < 20 → ¬ (I 71 (20 * k + i)).toInt = 0 → ¬ (I 72 (20 * k + i)).toInt = -2000000
theorem m_walk {K : aH → Prop} {beh : Int32} (mf : MF g) (hf : I 67 k = nI f) (fm : fmM I f cnt so E Cn) (hk : k < 60) (ok : gOK I k)
    (kk : ∀ I2 : Nat → Nat → Int32, wmI I I2 → (∀ i, i < 20 → I2 65 i = wI so E Cn (gvM I k) (rgM I k) (enW so E Cn (gvM I k) (rgM I k) cnt) i) → (I2 44 50 = nI (enW so E Cn (gvM I k) (rgM I k) cnt) ∧ I2 44 51 = iZ (fsB (bkM so E Cn (gvM I k) (rgM I k) 2 beh.toInt (fun _ => false)) (enW so E Cn (gvM I k) (rgM I k) cnt)) ∧ I2 44 52 = iZ (fsB (bkM so E Cn (gvM I k) (rgM I k) 3 beh.toInt (ntM I k)) (enW so E Cn (gvM I k) (rgM I k) cnt))) → K (hU g I2 J)) : CV (d + 3) 148 [vR 44, vI (nI k), vI beh] (hU g I J) K X := by
  have hkI : (nI k).toInt = k := ti_n (by omega)
  have k60 : (k : Int) < 60 := by omega
  -- the fields
  have l2 : ∀ (n j : Nat) (I2 : Nat → Nat → Int32), j + n = 6 → wmI I I2 → (∀ i, i < 20 → I2 65 i = -2000000) → (∀ i, i < j → I2 66 i = rgM I k i) → Wp (d + 3) 148 (35, [some (vR 44), some (vI (nI k)), some (vI beh), some (vI (nI f)), some (vI (nI j)), none, none], [], hU g I2 J) (RV K X) := by
    intro n
    induction n with
    | zero =>
      intro j I2 hj a1 a2 a3
      have hj6 : j = 6 := by omega
      subst hj6
      refine w148_35 ?_
      have t6 : (nI 6).toInt = 6 := rfl
      simp only [↓forall_eq, ↓inB_iff, gK_hU, gL_hU, gR_hU, gIh, gJh, pI_hU, pJ_hU, hU_hU, uI_app, uJ_app, and_true, true_and, and_false, false_and, and_self, true_implies, false_implies, not_true, not_false_iff, if_true, if_false, eq_self, Nat.reduceLeDiff, Nat.reduceEqDiff, reduceCtorEq, i32c, ti0, ti1, tiM, Int.natCast_nonneg, Int.reduceEq, Int.reduceLE, Int.reduceLT, Int.reduceNeg, tl_i, Int32.reduceToInt, Int64.reduceToInt, tiA, tlM6, Int.toNat_natCast, natc, nI_1, Int.zero_sub, implies_true, not_false_eq_true, mf.1, mr_15 mf, mk_53 mf, ml_53 mf, mr_16 mf, mk_54 mf, ml_54 mf, mr_21 mf, mk_59 mf, ml_59 mf, mr_22 mf, mk_60 mf, ml_60 mf, mr_23 mf, mk_61 mf, ml_61 mf, mr_24 mf, mk_62 mf, ml_62 mf, mr_34 mf, mk_65 mf, ml_65 mf, mr_35 mf, mk_66 mf, ml_66 mf, mr_39 mf, mk_67 mf, ml_67 mf, mr_41 mf, mk_69 mf, ml_69 mf, mr_43 mf, mk_71 mf, ml_71 mf, mr_44 mf, mk_72 mf, ml_72 mf, mr_47 mf, mk_75 mf, ml_75 mf, t6, Int.lt_irrefl]
      refine m_walkw (I0 := I) (gv := gvM I k) (rg := rgM I k) (nt := ntM I k) mf fm hk (fun i hi => ⟨fun c => by unfold gvM; rw [if_pos c], fun c => ?_⟩) (fun i hi => rfl) kk cnt 0 _ (by omega) rfl ⟨fun a q1 q2 q3 => by rw [uI_ne _ _ _ q1, uI_ne _ _ _ q1, uI_ne _ _ _ q1, a1.1 a q1 q2 q3], fun j q1 q2 q3 q4 q5 => by rw [uI_nj _ _ _ _ q3, uI_nj _ _ _ _ q5, uI_nj _ _ _ _ q4, a1.2 j q1 q2 q3 q4 q5]⟩ (fun i hi => by rw [uI_ne _ _ _ (by decide), uI_ne _ _ _ (by decide), uI_ne _ _ _ (by decide), a2 i hi]; rfl) (fun i hi => by rw [uI_ne _ _ _ (by decide), uI_ne _ _ _ (by decide), uI_ne _ _ _ (by decide), a3 i hi]) ⟨by rw [uI_same]; rfl, ?_, ?_⟩
      · have : gvM I k i = I 72 (20 * k + i) := by unfold gvM; rw [if_neg c]
        rw [this]; exact ⟨rfl, ok i hi c⟩
      · rw [uI_nj _ _ _ _ (by decide), uI_nj _ _ _ _ (by decide), uI_same]; rfl
      · rw [uI_nj _ _ _ _ (by decide), uI_same]; rfl
    | succ n ih =>
      intro j I2 hj a1 a2 a3
      have hjI : (nI j).toInt = j := ti_n (by omega)
      have z6 : (j : Int) < 6 := by omega
      have h6 : (6 : Int32) * nI k + nI j = nI (6 * k + j) := by rw [show (6 : Int32) = nI 6 from rfl, nI_mul, nI_add]
      have hxI : (nI (6 * k + j)).toInt = ((6 * k + j : Nat) : Int) := ti_n (by omega)
      have zx : ((6 * k + j : Nat) : Int) < 360 := by omega
      have i69 := a1.1 69 (by decide) (by decide) (by decide)
      refine w148_35 ?_
      simp only [↓forall_eq, ↓inB_iff, gK_hU, gL_hU, gR_hU, gIh, gJh, pI_hU, pJ_hU, hU_hU, uI_app, uJ_app, and_true, true_and, and_false, false_and, and_self, true_implies, false_implies, not_true, not_false_iff, if_true, if_false, eq_self, Nat.reduceLeDiff, Nat.reduceEqDiff, reduceCtorEq, i32c, ti0, ti1, tiM, Int.natCast_nonneg, Int.reduceEq, Int.reduceLE, Int.reduceLT, Int.reduceNeg, tl_i, Int32.reduceToInt, Int64.reduceToInt, tiA, tlM6, Int.toNat_natCast, natc, nI_1, Int.zero_sub, implies_true, not_false_eq_true, mf.1, mr_15 mf, mk_53 mf, ml_53 mf, mr_16 mf, mk_54 mf, ml_54 mf, mr_21 mf, mk_59 mf, ml_59 mf, mr_22 mf, mk_60 mf, ml_60 mf, mr_23 mf, mk_61 mf, ml_61 mf, mr_24 mf, mk_62 mf, ml_62 mf, mr_34 mf, mk_65 mf, ml_65 mf, mr_35 mf, mk_66 mf, ml_66 mf, mr_39 mf, mk_67 mf, ml_67 mf, mr_41 mf, mk_69 mf, ml_69 mf, mr_43 mf, mk_71 mf, ml_71 mf, mr_44 mf, mk_72 mf, ml_72 mf, mr_47 mf, mk_75 mf, ml_75 mf, hjI, z6, h6, hxI, zx, i69]
      refine ih (j + 1) _ (by omega) ⟨fun a q1 q2 q3 => by rw [uI_ne _ _ _ q3, a1.1 a q1 q2 q3], fun j q1 q2 q3 q4 q5 => by rw [uI_ne _ _ _ (by decide), a1.2 j q1 q2 q3 q4 q5]⟩ (fun i hi => by rw [uI_ne _ _ _ (by decide)]; exact a2 i hi) (fun i hi => ?_)
      rw [uI_app]
      by_cases e : i = j
      · rw [if_pos ⟨rfl, e⟩, e]; rfl
      · rw [if_neg (fun w => e w.2)]; exact a3 i (by omega)
  have l1 : ∀ (n j : Nat) (I2 : Nat → Nat → Int32), j + n = 20 → wmI I I2 → (∀ i, i < j → I2 65 i = -2000000) → Wp (d + 3) 148 (10, [some (vR 44), some (vI (nI k)), some (vI beh), some (vI (nI f)), some (vI (nI j)), none, none], [], hU g I2 J) (RV K X) := by
    intro n
    induction n with
    | zero =>
      intro j I2 hj a1 a2
      have hj6 : j = 20 := by omega
      subst hj6
      refine w148_10 ?_
      have t6 : (nI 20).toInt = 20 := rfl
      simp only [↓forall_eq, ↓inB_iff, gK_hU, gL_hU, gR_hU, gIh, gJh, pI_hU, pJ_hU, hU_hU, uI_app, uJ_app, and_true, true_and, and_false, false_and, and_self, true_implies, false_implies, not_true, not_false_iff, if_true, if_false, eq_self, Nat.reduceLeDiff, Nat.reduceEqDiff, reduceCtorEq, i32c, ti0, ti1, tiM, Int.natCast_nonneg, Int.reduceEq, Int.reduceLE, Int.reduceLT, Int.reduceNeg, tl_i, Int32.reduceToInt, Int64.reduceToInt, tiA, tlM6, Int.toNat_natCast, natc, nI_1, Int.zero_sub, implies_true, not_false_eq_true, mf.1, mr_15 mf, mk_53 mf, ml_53 mf, mr_16 mf, mk_54 mf, ml_54 mf, mr_21 mf, mk_59 mf, ml_59 mf, mr_22 mf, mk_60 mf, ml_60 mf, mr_23 mf, mk_61 mf, ml_61 mf, mr_24 mf, mk_62 mf, ml_62 mf, mr_34 mf, mk_65 mf, ml_65 mf, mr_35 mf, mk_66 mf, ml_66 mf, mr_39 mf, mk_67 mf, ml_67 mf, mr_41 mf, mk_69 mf, ml_69 mf, mr_43 mf, mk_71 mf, ml_71 mf, mr_44 mf, mk_72 mf, ml_72 mf, mr_47 mf, mk_75 mf, ml_75 mf, t6, Int.lt_irrefl]
      exact l2 6 0 I2 (by omega) a1 a2 (fun i hi => by omega)
    | succ n ih =>
      intro j I2 hj a1 a2
      have hjI : (nI j).toInt = j := ti_n (by omega)
      have z6 : (j : Int) < 20 := by omega
      refine w148_10 ?_
      simp only [↓forall_eq, ↓inB_iff, gK_hU, gL_hU, gR_hU, gIh, gJh, pI_hU, pJ_hU, hU_hU, uI_app, uJ_app, and_true, true_and, and_false, false_and, and_self, true_implies, false_implies, not_true, not_false_iff, if_true, if_false, eq_self, Nat.reduceLeDiff, Nat.reduceEqDiff, reduceCtorEq, i32c, ti0, ti1, tiM, Int.natCast_nonneg, Int.reduceEq, Int.reduceLE, Int.reduceLT, Int.reduceNeg, tl_i, Int32.reduceToInt, Int64.reduceToInt, tiA, tlM6, Int.toNat_natCast, natc, nI_1, Int.zero_sub, implies_true, not_false_eq_true, mf.1, mr_15 mf, mk_53 mf, ml_53 mf, mr_16 mf, mk_54 mf, ml_54 mf, mr_21 mf, mk_59 mf, ml_59 mf, mr_22 mf, mk_60 mf, ml_60 mf, mr_23 mf, mk_61 mf, ml_61 mf, mr_24 mf, mk_62 mf, ml_62 mf, mr_34 mf, mk_65 mf, ml_65 mf, mr_35 mf, mk_66 mf, ml_66 mf, mr_39 mf, mk_67 mf, ml_67 mf, mr_41 mf, mk_69 mf, ml_69 mf, mr_43 mf, mk_71 mf, ml_71 mf, mr_44 mf, mk_72 mf, ml_72 mf, mr_47 mf, mk_75 mf, ml_75 mf, hjI, z6]
      refine ih (j + 1) _ (by omega) ⟨fun a q1 q2 q3 => by rw [uI_ne _ _ _ q2, a1.1 a q1 q2 q3], fun j q1 q2 q3 q4 q5 => by rw [uI_ne _ _ _ (by decide), a1.2 j q1 q2 q3 q4 q5]⟩ (fun i hi => ?_)
      rw [uI_app]
      by_cases e : i = j
      · rw [if_pos ⟨rfl, e⟩]
      · rw [if_neg (fun w => e w.2)]; exact a2 i (by omega)
  refine m148 ?_
  simp only [↓forall_eq, ↓inB_iff, gK_hU, gL_hU, gR_hU, gIh, gJh, pI_hU, pJ_hU, hU_hU, uI_app, uJ_app, and_true, true_and, and_false, false_and, and_self, true_implies, false_implies, not_true, not_false_iff, if_true, if_false, eq_self, Nat.reduceLeDiff, Nat.reduceEqDiff, reduceCtorEq, i32c, ti0, ti1, tiM, Int.natCast_nonneg, Int.reduceEq, Int.reduceLE, Int.reduceLT, Int.reduceNeg, tl_i, Int32.reduceToInt, Int64.reduceToInt, tiA, tlM6, Int.toNat_natCast, natc, nI_1, Int.zero_sub, implies_true, not_false_eq_true, mf.1, mr_15 mf, mk_53 mf, ml_53 mf, mr_16 mf, mk_54 mf, ml_54 mf, mr_21 mf, mk_59 mf, ml_59 mf, mr_22 mf, mk_60 mf, ml_60 mf, mr_23 mf, mk_61 mf, ml_61 mf, mr_24 mf, mk_62 mf, ml_62 mf, mr_34 mf, mk_65 mf, ml_65 mf, mr_35 mf, mk_66 mf, ml_66 mf, mr_39 mf, mk_67 mf, ml_67 mf, mr_41 mf, mk_69 mf, ml_69 mf, mr_43 mf, mk_71 mf, ml_71 mf, mr_44 mf, mk_72 mf, ml_72 mf, mr_47 mf, mk_75 mf, ml_75 mf, hkI, k60, hf]
  exact l1 20 0 I (by omega) ⟨fun _ _ _ _ => rfl, fun _ _ _ _ _ _ => rfl⟩ (fun i hi => by omega)
/-- the question that a session is at, or -1 -/
def quM (so : Nat → Int32) (E : Nat → List Tm) (Cn : Nat → List Cmp) (gv rg : Nat → Int32) (cnt : Nat) (cl : Bool) : Int32 := if cl = true ∨ enW so E Cn gv rg cnt = cnt then -1 else nI (enW so E Cn gv rg cnt)
theorem m_quest {K : Int32 → aH → Prop} (mf : MF g) (hf : I 67 k = nI f) (fm : fmM I f cnt so E Cn) (hk : k < 60) (ok : gOK I k)
    (kk : ∀ I2 : Nat → Nat → Int32, wmI I I2 → (∀ i, i < 20 → I2 65 i = wI so E Cn (gvM I k) (rgM I k) (enW so E Cn (gvM I k) (rgM I k) cnt) i) → K (quM so E Cn (gvM I k) (rgM I k) cnt (!decide ((I 70 k).toInt = 0))) (hU g I2 J)) : CI (d + 4) 149 [vR 44, vI (nI k)] (hU g I J) K X := by
  have hkI : (nI k).toInt = k := ti_n (by omega)
  have k60 : (k : Int) < 60 := by omega
  have hfI : (nI f).toInt = f := ti_n (by have := fm.1.2.2; omega)
  have f6 : (f : Int) < 6 := by have := fm.1.2.2; omega
  have c20 := fm.1.2.1
  have hle := en_le (so := so) (E := E) (Cn := Cn) (gv := gvM I k) (rg := rgM I k) (cnt := cnt)
  have eI : (nI (enW so E Cn (gvM I k) (rgM I k) cnt)).toInt = (enW so E Cn (gvM I k) (rgM I k) cnt : Nat) := ti_n (by omega)
  have cI : (nI cnt).toInt = cnt := ti_n (by omega)
  refine m149 ⟨by decide, mf.1, m_walk mf hf fm hk ok fun I2 a1 a2 a3 => ?_⟩
  have kk := kk I2 a1 a2
  unfold quM at kk
  have i70 := a1.1 70 (by decide) (by decide) (by decide)
  have i67 := a1.1 67 (by decide) (by decide) (by decide)
  have i53 := a1.1 53 (by decide) (by decide) (by decide)
  simp only [↓forall_eq, ↓inB_iff, gK_hU, gL_hU, gR_hU, gIh, gJh, pI_hU, pJ_hU, hU_hU, uI_app, uJ_app, and_true, true_and, and_false, false_and, and_self, true_implies, false_implies, not_true, not_false_iff, if_true, if_false, eq_self, Nat.reduceLeDiff, Nat.reduceEqDiff, reduceCtorEq, i32c, ti0, ti1, tiM, Int.natCast_nonneg, Int.reduceEq, Int.reduceLE, Int.reduceLT, Int.reduceNeg, tl_i, Int32.reduceToInt, Int64.reduceToInt, tiA, tlM6, Int.toNat_natCast, natc, nI_1, Int.zero_sub, implies_true, not_false_eq_true, mf.1, mr_15 mf, mk_53 mf, ml_53 mf, mr_39 mf, mk_67 mf, ml_67 mf, mr_42 mf, mk_70 mf, ml_70 mf, hkI, k60, i70, i67, i53, hf, hfI, f6, fm.1.1, a3.1, eI, cI]
  refine ⟨fun c1 => ⟨fun c2 => ?_, fun c2 => ?_⟩, fun c1 => ?_⟩
  · rw [if_pos (Or.inr (by omega))] at kk; exact kk
  · rw [if_neg (by rintro (e | e); rw [decide_eq_true c1] at e; cases e; omega)] at kk; exact kk
  · rw [if_pos (Or.inl (by rw [decide_eq_false c1]; rfl))] at kk; exact kk
/-- all notes are forgotten -/
theorem m_forget {K : aH → Prop} (mf : MF g) (hk : k < 60) (kk : ∀ I2 : Nat → Nat → Int32, (∀ a, a ≠ 75 → I2 a = I a) → (∀ i, (i < 20 * k ∨ 20 * k + 20 ≤ i) → I2 75 i = I 75 i) → (∀ i, i < 20 → I2 75 (20 * k + i) = 0) → K (hU g I2 J)) : CV d 158 [vR 44, vI (nI k)] (hU g I J) K X := by
  have main : ∀ (n j : Nat) (I2 : Nat → Nat → Int32), j + n = 20 → (∀ a, a ≠ 75 → I2 a = I a) → (∀ i, (i < 20 * k ∨ 20 * k + 20 ≤ i) → I2 75 i = I 75 i) → (∀ i, i < j → I2 75 (20 * k + i) = 0) → Wp d 158 (2, [some (vR 44), some (vI (nI k)), some (vI (nI j))], [], hU g I2 J) (RV K X) := by
    intro n
    induction n with
    | zero =>
      intro j I2 hj a1 a2 a3
      have hj6 : j = 20 := by omega
      subst hj6
      exact w158_2 ⟨fun c => absurd c (by decide), fun _ => kk I2 a1 a2 a3⟩
    | succ n ih =>
      intro j I2 hj a1 a2 a3
      have hjI : (nI j).toInt = j := ti_n (by omega)
      have z6 : (j : Int) < 20 := by omega
      have h6 : (20 : Int32) * nI k + nI j = nI (20 * k + j) := by rw [show (20 : Int32) = nI 20 from rfl, nI_mul, nI_add]
      have hxI : (nI (20 * k + j)).toInt = ((20 * k + j : Nat) : Int) := ti_n (by omega)
      have zx : ((20 * k + j : Nat) : Int) < 1200 := by omega
      refine w158_2 ?_
      simp only [↓forall_eq, ↓inB_iff, gK_hU, gL_hU, gR_hU, gIh, gJh, pI_hU, pJ_hU, hU_hU, uI_app, uJ_app, and_true, true_and, and_false, false_and, and_self, true_implies, false_implies, not_true, not_false_iff, if_true, if_false, eq_self, Nat.reduceLeDiff, Nat.reduceEqDiff, reduceCtorEq, i32c, ti0, ti1, tiM, Int.natCast_nonneg, Int.reduceEq, Int.reduceLE, Int.reduceLT, Int.reduceNeg, tl_i, Int32.reduceToInt, Int64.reduceToInt, tiA, tlM6, Int.toNat_natCast, natc, nI_1, Int.zero_sub, implies_true, not_false_eq_true, mf.1, mr_47 mf, mk_75 mf, ml_75 mf, hjI, z6, h6, hxI, zx]
      refine ih (j + 1) _ (by omega) (fun a ha => by rw [uI_ne _ _ _ ha, a1 a ha]) (fun i hi => by rw [uI_nj _ _ _ _ (by omega)]; exact a2 i hi) (fun i hi => ?_)
      rw [uI_app]
      by_cases e : i = j
      · rw [if_pos ⟨rfl, by omega⟩]; rfl
      · rw [if_neg (fun w => e (by omega))]; exact a3 i (by omega)
  exact m158 (main 20 0 I (by omega) (fun _ _ => rfl) (fun _ _ => rfl) (fun i hi => by omega))
end SSM
