/-! SESSIONS: back in the class; the model's side -/
section SSM
variable {so : Nat → Int32} {E : Nat → List Tm} {Cn : Nat → List Cmp} {gv av rg : Nat → Int32} {nt : Nat → Bool} {d f k cnt : Nat} {h g : aH} {A o : Nat → Nat} {X : Nat → aH → Prop} {I I0 : Nat → Nat → Int32} {J : Nat → Nat → Int64}
/-- the last one given, or -1 -/
def lsG (gv : Nat → Int32) : Nat → Int
  | 0 => -1
  | n + 1 => if (gv n).toInt = -2000000 then lsG gv n else n
theorem lsG_rng : ∀ n, lsG gv n = -1 ∨ (0 ≤ lsG gv n ∧ lsG gv n < n ∧ ¬ (gv (lsG gv n).toNat).toInt = -2000000) := by
  intro n
  induction n with
  | zero => exact Or.inl rfl
  | succ n ih =>
    rw [lsG]
    split
    · rcases ih with e | e
      · exact Or.inl e
      · exact Or.inr ⟨e.1, by omega, e.2.2⟩
    · rename_i c
      exact Or.inr ⟨by omega, by omega, by simpa using c⟩
theorem c_back {K : Int32 → aH → Prop} (x : sX h A o k f cnt so E Cn rg) (w : sW h A k cnt so E Cn rg gv av) (b1 : bndI 20 gv)
    (k1 : lsG gv cnt = -1 → K (-1) h)
    (k2 : ∀ I, ¬ lsG gv cnt = -1 → sFr h A k I → sW (hU h I (gJ h)) A k cnt so E Cn rg (upG gv (lsG gv cnt).toNat (-2000000)) (upG av (lsG gv cnt).toNat (gv (lsG gv cnt).toNat)) → I (A (bS k)) 9 = 0 → K (if enW so E Cn (upG gv (lsG gv cnt).toNat (-2000000)) rg cnt < cnt then nI (enW so E Cn (upG gv (lsG gv cnt).toNat (-2000000)) rg cnt) else -1) (hU h I (gJ h))) : CI (d + 5) 161 [vR (A (bS k))] h K X := by
  have x' := x
  obtain ⟨⟨t, l, ⟨c1, c2, c3⟩, c4⟩, u, hk, hf, -⟩ := x'
  obtain ⟨w1, w2, w3, w4⟩ := w
  have n3 : A (bS k) ≠ A (bS k + 3) := S_ne u (i := 0) (j := 3) (by omega) (by omega) (by omega)
  have n3' : A (bS k + 3) ≠ A (bS k) := n3.symm
  have n4 : A (bS k) ≠ A (bS k + 4) := S_ne u (i := 0) (j := 4) (by omega) (by omega) (by omega)
  have n4' : A (bS k + 4) ≠ A (bS k) := n4.symm
  have n43 := S_ne u (i := 4) (j := 3) (by omega) (by omega) (by omega)
  have n34 := S_ne u (i := 3) (j := 4) (by omega) (by omega) (by omega)
  have main : ∀ n, n ≤ cnt → lsG gv cnt = lsG gv n → Wp (d + 5) 161 (10, [some (vR (A (bS k))), some (vI (nI n - 1))], [], h) (RI K X) := by
    intro n
    induction n with
    | zero =>
      intro _ e
      refine w161_10 ⟨fun _ => k1 e, fun c => absurd (by decide) c⟩
    | succ n ih =>
      intro hn e
      have hnI : (nI n).toInt = n := ti_n (by omega)
      have z2 : (n : Int) < 20 := by omega
      have z0 : ¬ (n : Int) < 0 := by omega
      rw [nI_pred]
      refine w161_10 ?_
      simp only [↓forall_eq, ↓inB_iff, gK_hU, gL_hU, gR_hU, gIh, gJh, pI_hU, pJ_hU, hU_hU, uI_app, uJ_app, and_true, true_and, and_false, false_and, and_self, true_implies, false_implies, not_true, not_false_iff, if_true, if_false, eq_self, Nat.reduceLeDiff, Nat.reduceEqDiff, reduceCtorEq, i32c, ti0, ti1, tiM, Int.natCast_nonneg, Int.reduceEq, Int.reduceLE, Int.reduceLT, Int.reduceNeg, tl_i, Int32.reduceToInt, Int64.reduceToInt, tiA, tlM6, Int.toNat_natCast, natc, nI_1, Int.zero_sub, implies_true, not_false_eq_true, pI_eq, kS_0 u, eS_0 u, rS_0_4 u, rS_0_5 u, kS_3 u, lS_3 u, eS_3 u, kS_4 u, lS_4 u, eS_4 u, hnI, z2, z0, w1 n (by omega)]
      refine ⟨fun c => ?_, fun c => ?_⟩
      · rw [lsG, if_pos c] at e
        have := ih (by omega) e
        rw [Int32.sub_eq_add_neg] at this
        exact this
      · rw [lsG, if_neg c] at e
        have hl : (lsG gv cnt).toNat = n := by rw [e]; omega
        rw [hl] at k2
        have k2 := fun I => k2 I (by omega)
        have F1 : sFr h A k (uI (uI (uI (gI h) (A (bS k + 4)) n (gv n)) (A (bS k + 3)) n (-2000000)) (A (bS k)) 9 0) := ⟨fun a a1 _ a3 a4 => by rw [uI_ne _ _ _ a1, uI_ne _ _ _ a3, uI_ne _ _ _ a4], fun j hj => by rw [uI_nj _ _ _ _ (by omega), uI_ne _ _ _ n3, uI_ne _ _ _ n4]⟩
        refine c_walkS (sX_hU (J := gJ h) x F1) (gv := upG gv n (-2000000)) (av := upG av n (gv n)) (fun i hi => ?_) (fun i hi => ?_) (bnd_upG b1 (Or.inl rfl)) fun I5 s5 t5 p5 m5 => ?_
        · rw [gIh, uI_ne _ _ _ n3']
          exact uI_row (I := uI (gI h) (A (bS k + 4)) n (gv n)) (fun i hi => by rw [uI_ne _ _ _ n34]; exact w1 i hi) i hi
        · rw [gIh, uI_ne _ _ _ n4', uI_ne _ _ _ n43]
          exact uI_row (I := gI h) w2 i hi
        · have F5 := sFr_trans (J := gJ h) F1 s5
          have hle := en_le (so := so) (E := E) (Cn := Cn) (gv := upG gv n (-2000000)) (rg := rg) (cnt := cnt)
          refine ⟨kS_0 u, ?_⟩
          refine (asked_br (h := hU h I5 (gJ h)) (sX_hU x F5) t5.2.2.2 hle).mpr ?_
          exact k2 I5 F5 t5 (by rw [m5 9 (by omega), gIh, uI_same])
  refine m161 ⟨kS_0 u, by rw [hf]; exact kF_0 t, fun v ev => ?_⟩
  rw [hf, c1] at ev
  subst ev
  exact main cnt (Nat.le_refl _) rfl
/-- the model's session k by what is given and aside, and what is noted -/
def gvM (I : Nat → Nat → Int32) (k i : Nat) : Int32 := if i < 20 then (if (I 71 (20 * k + i)).toInt = 0 then -2000000 else I 72 (20 * k + i)) else -2000000
def avM (I : Nat → Nat → Int32) (k i : Nat) : Int32 := if i < 20 then (if (I 73 (20 * k + i)).toInt = 0 then -2000000 else I 74 (20 * k + i)) else -2000000
def ntM (I : Nat → Nat → Int32) (k i : Nat) : Bool := decide (i < 20) && !decide ((I 75 (20 * k + i)).toInt = 0)
def rgM (I : Nat → Nat → Int32) (k j : Nat) : Int32 := if j < 6 then I 69 (6 * k + j) else 0
/-- a number that is given isn't ABSENT -/
def gOK (I : Nat → Nat → Int32) (k : Nat) : Prop := ∀ i, i < 20 → ¬ (I 71 (20 * k + i)).toInt = 0 → ¬ (I 72 (20 * k + i)).toInt = -2000000
theorem m_walk {K : aH → Prop} {beh : Int32} (mf : MF g) (hf : I 67 k = nI f) (fm : fmM I f cnt so E Cn) (hk : k < 60) (ok : gOK I k)
    (kk : ∀ I2 : Nat → Nat → Int32, wmI I I2 → (∀ i, i < 20 → I2 65 i = wI so E Cn (gvM I k) (rgM I k) (enW so E Cn (gvM I k) (rgM I k) cnt) i) → (I2 44 50 = nI (enW so E Cn (gvM I k) (rgM I k) cnt) ∧ I2 44 51 = iZ (fsB (bkM so E Cn (gvM I k) (rgM I k) 2 beh.toInt (fun _ => false)) (enW so E Cn (gvM I k) (rgM I k) cnt)) ∧ I2 44 52 = iZ (fsB (bkM so E Cn (gvM I k) (rgM I k) 3 beh.toInt (ntM I k)) (enW so E Cn (gvM I k) (rgM I k) cnt))) → K (hU g I2 J)) : CV (d + 3) 148 [vR 44, vI (nI k), vI beh] (hU g I J) K X := by
  have hkI : (nI k).toInt = k := ti_n (by omega)
  have k60 : (k : Int) < 60 := by omega
  -- the fields
  have l2 : ∀ (n j : Nat) (I2 : Nat → Nat → Int32), j + n = 6 → wmI I I2 → (∀ i, i < 20 → I2 65 i = -2000000) → (∀ i, i < j → I2 66 i = rgM I k i) → Wp (d + 3) 148 (35, [some (vR 44), some (vI (nI k)), some (vI beh), some (vI (nI f)), some (vI (nI j)), none, none], [], hU g I2 J) (RV K X) := by
    intro n
    induction n with
    | zero =>
      intro j I2 hj a1 a2 a3
      have hj6 : j = 6 := by omega
      subst hj6
      refine w148_35 ?_
      have t6 : (nI 6).toInt = 6 := rfl
      simp only [↓forall_eq, ↓inB_iff, gK_hU, gL_hU, gR_hU, gIh, gJh, pI_hU, pJ_hU, hU_hU, uI_app, uJ_app, and_true, true_and, and_false, false_and, and_self, true_implies, false_implies, not_true, not_false_iff, if_true, if_false, eq_self, Nat.reduceLeDiff, Nat.reduceEqDiff, reduceCtorEq, i32c, ti0, ti1, tiM, Int.natCast_nonneg, Int.reduceEq, Int.reduceLE, Int.reduceLT, Int.reduceNeg, tl_i, Int32.reduceToInt, Int64.reduceToInt, tiA, tlM6, Int.toNat_natCast, natc, nI_1, Int.zero_sub, implies_true, not_false_eq_true, mf.1, mr_15 mf, mk_53 mf, ml_53 mf, mr_16 mf, mk_54 mf, ml_54 mf, mr_21 mf, mk_59 mf, ml_59 mf, mr_22 mf, mk_60 mf, ml_60 mf, mr_23 mf, mk_61 mf, ml_61 mf, mr_24 mf, mk_62 mf, ml_62 mf, mr_34 mf, mk_65 mf, ml_65 mf, mr_35 mf, mk_66 mf, ml_66 mf, mr_39 mf, mk_67 mf, ml_67 mf, mr_41 mf, mk_69 mf, ml_69 mf, mr_43 mf, mk_71 mf, ml_71 mf, mr_44 mf, mk_72 mf, ml_72 mf, mr_47 mf, mk_75 mf, ml_75 mf, t6, Int.lt_irrefl]
      refine m_walkw (I0 := I) (gv := gvM I k) (rg := rgM I k) (nt := ntM I k) mf fm hk (fun i hi => ⟨fun c => by unfold gvM; rw [if_pos hi, if_pos c], fun c => ?_⟩) (fun i hi => by unfold ntM; rw [decide_eq_true hi]; rfl) kk cnt 0 _ (by omega) rfl ⟨fun a q1 q2 q3 => by rw [uI_ne _ _ _ q1, uI_ne _ _ _ q1, uI_ne _ _ _ q1, a1.1 a q1 q2 q3], fun j q1 q2 q3 q4 q5 => by rw [uI_nj _ _ _ _ q3, uI_nj _ _ _ _ q5, uI_nj _ _ _ _ q4, a1.2 j q1 q2 q3 q4 q5]⟩ (fun i hi => by rw [uI_ne _ _ _ (by decide), uI_ne _ _ _ (by decide), uI_ne _ _ _ (by decide), a2 i hi]; rfl) (fun i hi => by rw [uI_ne _ _ _ (by decide), uI_ne _ _ _ (by decide), uI_ne _ _ _ (by decide), a3 i hi]) ⟨by rw [uI_same]; rfl, ?_, ?_⟩
      · have : gvM I k i = I 72 (20 * k + i) := by unfold gvM; rw [if_pos hi, if_neg c]
        rw [this]; exact ⟨rfl, ok i hi c⟩
      · rw [uI_nj _ _ _ _ (by decide), uI_nj _ _ _ _ (by decide), uI_same]; rfl
      · rw [uI_nj _ _ _ _ (by decide), uI_same]; rfl
    | succ n ih =>
      intro j I2 hj a1 a2 a3
      have hjI : (nI j).toInt = j := ti_n (by omega)
      have z6 : (j : Int) < 6 := by omega
      have h6 : (6 : Int32) * nI k + nI j = nI (6 * k + j) := by rw [show (6 : Int32) = nI 6 from rfl, nI_mul, nI_add]
      have hxI : (nI (6 * k + j)).toInt = ((6 * k + j : Nat) : Int) := ti_n (by omega)
      have zx : ((6 * k + j : Nat) : Int) < 360 := by omega
      have i69 := a1.1 69 (by decide) (by decide) (by decide)
      refine w148_35 ?_
      simp only [↓forall_eq, ↓inB_iff, gK_hU, gL_hU, gR_hU, gIh, gJh, pI_hU, pJ_hU, hU_hU, uI_app, uJ_app, and_true, true_and, and_false, false_and, and_self, true_implies, false_implies, not_true, not_false_iff, if_true, if_false, eq_self, Nat.reduceLeDiff, Nat.reduceEqDiff, reduceCtorEq, i32c, ti0, ti1, tiM, Int.natCast_nonneg, Int.reduceEq, Int.reduceLE, Int.reduceLT, Int.reduceNeg, tl_i, Int32.reduceToInt, Int64.reduceToInt, tiA, tlM6, Int.toNat_natCast, natc, nI_1, Int.zero_sub, implies_true, not_false_eq_true, mf.1, mr_15 mf, mk_53 mf, ml_53 mf, mr_16 mf, mk_54 mf, ml_54 mf, mr_21 mf, mk_59 mf, ml_59 mf, mr_22 mf, mk_60 mf, ml_60 mf, mr_23 mf, mk_61 mf, ml_61 mf, mr_24 mf, mk_62 mf, ml_62 mf, mr_34 mf, mk_65 mf, ml_65 mf, mr_35 mf, mk_66 mf, ml_66 mf, mr_39 mf, mk_67 mf, ml_67 mf, mr_41 mf, mk_69 mf, ml_69 mf, mr_43 mf, mk_71 mf, ml_71 mf, mr_44 mf, mk_72 mf, ml_72 mf, mr_47 mf, mk_75 mf, ml_75 mf, hjI, z6, h6, hxI, zx, i69]
      refine ih (j + 1) _ (by omega) ⟨fun a q1 q2 q3 => by rw [uI_ne _ _ _ q3, a1.1 a q1 q2 q3], fun j q1 q2 q3 q4 q5 => by rw [uI_ne _ _ _ (by decide), a1.2 j q1 q2 q3 q4 q5]⟩ (fun i hi => by rw [uI_ne _ _ _ (by decide)]; exact a2 i hi) (fun i hi => ?_)
      rw [uI_app]
      by_cases e : i = j
      · rw [if_pos ⟨rfl, e⟩, e]; unfold rgM; rw [if_pos (by omega)]
      · rw [if_neg (fun w => e w.2)]; exact a3 i (by omega)
  have l1 : ∀ (n j : Nat) (I2 : Nat → Nat → Int32), j + n = 20 → wmI I I2 → (∀ i, i < j → I2 65 i = -2000000) → Wp (d + 3) 148 (10, [some (vR 44), some (vI (nI k)), some (vI beh), some (vI (nI f)), some (vI (nI j)), none, none], [], hU g I2 J) (RV K X) := by
    intro n
    induction n with
    | zero =>
      intro j I2 hj a1 a2
      have hj6 : j = 20 := by omega
      subst hj6
      refine w148_10 ?_
      have t6 : (nI 20).toInt = 20 := rfl
      simp only [↓forall_eq, ↓inB_iff, gK_hU, gL_hU, gR_hU, gIh, gJh, pI_hU, pJ_hU, hU_hU, uI_app, uJ_app, and_true, true_and, and_false, false_and, and_self, true_implies, false_implies, not_true, not_false_iff, if_true, if_false, eq_self, Nat.reduceLeDiff, Nat.reduceEqDiff, reduceCtorEq, i32c, ti0, ti1, tiM, Int.natCast_nonneg, Int.reduceEq, Int.reduceLE, Int.reduceLT, Int.reduceNeg, tl_i, Int32.reduceToInt, Int64.reduceToInt, tiA, tlM6, Int.toNat_natCast, natc, nI_1, Int.zero_sub, implies_true, not_false_eq_true, mf.1, mr_15 mf, mk_53 mf, ml_53 mf, mr_16 mf, mk_54 mf, ml_54 mf, mr_21 mf, mk_59 mf, ml_59 mf, mr_22 mf, mk_60 mf, ml_60 mf, mr_23 mf, mk_61 mf, ml_61 mf, mr_24 mf, mk_62 mf, ml_62 mf, mr_34 mf, mk_65 mf, ml_65 mf, mr_35 mf, mk_66 mf, ml_66 mf, mr_39 mf, mk_67 mf, ml_67 mf, mr_41 mf, mk_69 mf, ml_69 mf, mr_43 mf, mk_71 mf, ml_71 mf, mr_44 mf, mk_72 mf, ml_72 mf, mr_47 mf, mk_75 mf, ml_75 mf, t6, Int.lt_irrefl]
      exact l2 6 0 I2 (by omega) a1 a2 (fun i hi => by omega)
    | succ n ih =>
      intro j I2 hj a1 a2
      have hjI : (nI j).toInt = j := ti_n (by omega)
      have z6 : (j : Int) < 20 := by omega
      refine w148_10 ?_
      simp only [↓forall_eq, ↓inB_iff, gK_hU, gL_hU, gR_hU, gIh, gJh, pI_hU, pJ_hU, hU_hU, uI_app, uJ_app, and_true, true_and, and_false, false_and, and_self, true_implies, false_implies, not_true, not_false_iff, if_true, if_false, eq_self, Nat.reduceLeDiff, Nat.reduceEqDiff, reduceCtorEq, i32c, ti0, ti1, tiM, Int.natCast_nonneg, Int.reduceEq, Int.reduceLE, Int.reduceLT, Int.reduceNeg, tl_i, Int32.reduceToInt, Int64.reduceToInt, tiA, tlM6, Int.toNat_natCast, natc, nI_1, Int.zero_sub, implies_true, not_false_eq_true, mf.1, mr_15 mf, mk_53 mf, ml_53 mf, mr_16 mf, mk_54 mf, ml_54 mf, mr_21 mf, mk_59 mf, ml_59 mf, mr_22 mf, mk_60 mf, ml_60 mf, mr_23 mf, mk_61 mf, ml_61 mf, mr_24 mf, mk_62 mf, ml_62 mf, mr_34 mf, mk_65 mf, ml_65 mf, mr_35 mf, mk_66 mf, ml_66 mf, mr_39 mf, mk_67 mf, ml_67 mf, mr_41 mf, mk_69 mf, ml_69 mf, mr_43 mf, mk_71 mf, ml_71 mf, mr_44 mf, mk_72 mf, ml_72 mf, mr_47 mf, mk_75 mf, ml_75 mf, hjI, z6]
      refine ih (j + 1) _ (by omega) ⟨fun a q1 q2 q3 => by rw [uI_ne _ _ _ q2, a1.1 a q1 q2 q3], fun j q1 q2 q3 q4 q5 => by rw [uI_ne _ _ _ (by decide), a1.2 j q1 q2 q3 q4 q5]⟩ (fun i hi => ?_)
      rw [uI_app]
      by_cases e : i = j
      · rw [if_pos ⟨rfl, e⟩]
      · rw [if_neg (fun w => e w.2)]; exact a2 i (by omega)
  refine m148 ?_
  simp only [↓forall_eq, ↓inB_iff, gK_hU, gL_hU, gR_hU, gIh, gJh, pI_hU, pJ_hU, hU_hU, uI_app, uJ_app, and_true, true_and, and_false, false_and, and_self, true_implies, false_implies, not_true, not_false_iff, if_true, if_false, eq_self, Nat.reduceLeDiff, Nat.reduceEqDiff, reduceCtorEq, i32c, ti0, ti1, tiM, Int.natCast_nonneg, Int.reduceEq, Int.reduceLE, Int.reduceLT, Int.reduceNeg, tl_i, Int32.reduceToInt, Int64.reduceToInt, tiA, tlM6, Int.toNat_natCast, natc, nI_1, Int.zero_sub, implies_true, not_false_eq_true, mf.1, mr_15 mf, mk_53 mf, ml_53 mf, mr_16 mf, mk_54 mf, ml_54 mf, mr_21 mf, mk_59 mf, ml_59 mf, mr_22 mf, mk_60 mf, ml_60 mf, mr_23 mf, mk_61 mf, ml_61 mf, mr_24 mf, mk_62 mf, ml_62 mf, mr_34 mf, mk_65 mf, ml_65 mf, mr_35 mf, mk_66 mf, ml_66 mf, mr_39 mf, mk_67 mf, ml_67 mf, mr_41 mf, mk_69 mf, ml_69 mf, mr_43 mf, mk_71 mf, ml_71 mf, mr_44 mf, mk_72 mf, ml_72 mf, mr_47 mf, mk_75 mf, ml_75 mf, hkI, k60, hf]
  exact l1 20 0 I (by omega) ⟨fun _ _ _ _ => rfl, fun _ _ _ _ _ _ => rfl⟩ (fun i hi => by omega)
/-- the question that a session is at, or -1 -/
def quM (so : Nat → Int32) (E : Nat → List Tm) (Cn : Nat → List Cmp) (gv rg : Nat → Int32) (cnt : Nat) (cl : Bool) : Int32 := if cl = true ∨ enW so E Cn gv rg cnt = cnt then -1 else nI (enW so E Cn gv rg cnt)
theorem m_quest {K : Int32 → aH → Prop} (mf : MF g) (hf : I 67 k = nI f) (fm : fmM I f cnt so E Cn) (hk : k < 60) (ok : gOK I k)
    (kk : ∀ I2 : Nat → Nat → Int32, wmI I I2 → (∀ i, i < 20 → I2 65 i = wI so E Cn (gvM I k) (rgM I k) (enW so E Cn (gvM I k) (rgM I k) cnt) i) → K (quM so E Cn (gvM I k) (rgM I k) cnt (!decide ((I 70 k).toInt = 0))) (hU g I2 J)) : CI (d + 4) 149 [vR 44, vI (nI k)] (hU g I J) K X := by
  have hkI : (nI k).toInt = k := ti_n (by omega)
  have k60 : (k : Int) < 60 := by omega
  have hfI : (nI f).toInt = f := ti_n (by have := fm.1.2.2; omega)
  have f6 : (f : Int) < 6 := by have := fm.1.2.2; omega
  have c20 := fm.1.2.1
  have hle := en_le (so := so) (E := E) (Cn := Cn) (gv := gvM I k) (rg := rgM I k) (cnt := cnt)
  have eI : (nI (enW so E Cn (gvM I k) (rgM I k) cnt)).toInt = (enW so E Cn (gvM I k) (rgM I k) cnt : Nat) := ti_n (by omega)
  have cI : (nI cnt).toInt = cnt := ti_n (by omega)
  refine m149 ⟨by decide, mf.1, m_walk mf hf fm hk ok fun I2 a1 a2 a3 => ?_⟩
  have kk := kk I2 a1 a2
  unfold quM at kk
  have i70 := a1.1 70 (by decide) (by decide) (by decide)
  have i67 := a1.1 67 (by decide) (by decide) (by decide)
  have i53 := a1.1 53 (by decide) (by decide) (by decide)
  simp only [↓forall_eq, ↓inB_iff, gK_hU, gL_hU, gR_hU, gIh, gJh, pI_hU, pJ_hU, hU_hU, uI_app, uJ_app, and_true, true_and, and_false, false_and, and_self, true_implies, false_implies, not_true, not_false_iff, if_true, if_false, eq_self, Nat.reduceLeDiff, Nat.reduceEqDiff, reduceCtorEq, i32c, ti0, ti1, tiM, Int.natCast_nonneg, Int.reduceEq, Int.reduceLE, Int.reduceLT, Int.reduceNeg, tl_i, Int32.reduceToInt, Int64.reduceToInt, tiA, tlM6, Int.toNat_natCast, natc, nI_1, Int.zero_sub, implies_true, not_false_eq_true, mf.1, mr_15 mf, mk_53 mf, ml_53 mf, mr_39 mf, mk_67 mf, ml_67 mf, mr_42 mf, mk_70 mf, ml_70 mf, hkI, k60, i70, i67, i53, hf, hfI, f6, fm.1.1, a3.1, eI, cI]
  refine ⟨fun c1 => ⟨fun c2 => ?_, fun c2 => ?_⟩, fun c1 => ?_⟩
  · rw [if_pos (Or.inr (by omega))] at kk; exact kk
  · rw [if_neg (by rintro (e | e); rw [decide_eq_true c1] at e; cases e; omega)] at kk; exact kk
  · rw [if_pos (Or.inl (by rw [decide_eq_false c1]; rfl))] at kk; exact kk
/-- all notes are forgotten -/
theorem m_forget {K : aH → Prop} (mf : MF g) (hk : k < 60) (kk : ∀ I2 : Nat → Nat → Int32, (∀ a, a ≠ 75 → I2 a = I a) → (∀ i, (i < 20 * k ∨ 20 * k + 20 ≤ i) → I2 75 i = I 75 i) → (∀ i, i < 20 → I2 75 (20 * k + i) = 0) → K (hU g I2 J)) : CV d 158 [vR 44, vI (nI k)] (hU g I J) K X := by
  have main : ∀ (n j : Nat) (I2 : Nat → Nat → Int32), j + n = 20 → (∀ a, a ≠ 75 → I2 a = I a) → (∀ i, (i < 20 * k ∨ 20 * k + 20 ≤ i) → I2 75 i = I 75 i) → (∀ i, i < j → I2 75 (20 * k + i) = 0) → Wp d 158 (2, [some (vR 44), some (vI (nI k)), some (vI (nI j))], [], hU g I2 J) (RV K X) := by
    intro n
    induction n with
    | zero =>
      intro j I2 hj a1 a2 a3
      have hj6 : j = 20 := by omega
      subst hj6
      exact w158_2 ⟨fun c => absurd c (by decide), fun _ => kk I2 a1 a2 a3⟩
    | succ n ih =>
      intro j I2 hj a1 a2 a3
      have hjI : (nI j).toInt = j := ti_n (by omega)
      have z6 : (j : Int) < 20 := by omega
      have h6 : (20 : Int32) * nI k + nI j = nI (20 * k + j) := by rw [show (20 : Int32) = nI 20 from rfl, nI_mul, nI_add]
      have hxI : (nI (20 * k + j)).toInt = ((20 * k + j : Nat) : Int) := ti_n (by omega)
      have zx : ((20 * k + j : Nat) : Int) < 1200 := by omega
      refine w158_2 ?_
      simp only [↓forall_eq, ↓inB_iff, gK_hU, gL_hU, gR_hU, gIh, gJh, pI_hU, pJ_hU, hU_hU, uI_app, uJ_app, and_true, true_and, and_false, false_and, and_self, true_implies, false_implies, not_true, not_false_iff, if_true, if_false, eq_self, Nat.reduceLeDiff, Nat.reduceEqDiff, reduceCtorEq, i32c, ti0, ti1, tiM, Int.natCast_nonneg, Int.reduceEq, Int.reduceLE, Int.reduceLT, Int.reduceNeg, tl_i, Int32.reduceToInt, Int64.reduceToInt, tiA, tlM6, Int.toNat_natCast, natc, nI_1, Int.zero_sub, implies_true, not_false_eq_true, mf.1, mr_47 mf, mk_75 mf, ml_75 mf, hjI, z6, h6, hxI, zx]
      refine ih (j + 1) _ (by omega) (fun a ha => by rw [uI_ne _ _ _ ha, a1 a ha]) (fun i hi => by rw [uI_nj _ _ _ _ (by omega)]; exact a2 i hi) (fun i hi => ?_)
      rw [uI_app]
      by_cases e : i = j
      · rw [if_pos ⟨rfl, by omega⟩]; rfl
      · rw [if_neg (fun w => e (by omega))]; exact a3 i (by omega)
  exact m158 (main 20 0 I (by omega) (fun _ _ => rfl) (fun _ _ => rfl) (fun i hi => by omega))
theorem fmM_cg {I2 : Nat → Nat → Int32} (e : ∀ a, 53 ≤ a → a ≤ 64 → I2 a = I a) (fm : fmM I f cnt so E Cn) : fmM I2 f cnt so E Cn := by
  unfold fmM stM
  rw [e 53 (by omega) (by omega), e 54 (by omega) (by omega), e 59 (by omega) (by omega), e 60 (by omega) (by omega), e 61 (by omega) (by omega), e 62 (by omega) (by omega), e 63 (by omega) (by omega), e 64 (by omega) (by omega)]
  exact fm
theorem fsB_cg {P Q : Nat → Bool} : ∀ n, (∀ i, i < n → P i = Q i) → fsB P n = fsB Q n := by
  intro n
  induction n with
  | zero => intro _; rfl
  | succ n ih => intro h; rw [fsB, fsB, ih (fun i hi => h i (by omega)), h n (by omega)]
/-- how many are aside -/
def acn (av : Nat → Int32) : Nat → Nat
  | 0 => 0
  | n + 1 => acn av n + if (av n).toInt = -2000000 then 0 else 1
theorem acn_le : ∀ n, acn av n ≤ n := by
  intro n
  induction n with
  | zero => exact Nat.le_refl _
  | succ n ih => rw [acn]; split <;> omega
theorem acn_0 : ∀ n, acn av n = 0 → ∀ i, i < n → (av i).toInt = -2000000 := by
  intro n
  induction n with
  | zero => intro _ i hi; omega
  | succ n ih =>
    intro h i hi
    rw [acn] at h
    by_cases e : i = n
    · subst e
      by_cases c : (av i).toInt = -2000000
      · exact c
      · rw [if_neg c] at h; omega
    · exact ih (by omega) i (by omega)
theorem acn_up {q : Nat} (hq : ¬ (av q).toInt = -2000000) : ∀ n, (n ≤ q → acn (upG av q (-2000000)) n = acn av n) ∧ (q < n → acn (upG av q (-2000000)) n + 1 = acn av n) := by
  intro n
  induction n with
  | zero => exact ⟨fun _ => rfl, fun h => by omega⟩
  | succ n ih =>
    rw [acn, acn]
    unfold upG at ih ⊢
    by_cases e : n = q
    · subst e
      have := ih.1 (Nat.le_refl _)
      refine ⟨fun h => by omega, fun _ => ?_⟩
      rw [if_pos rfl, if_pos (by decide), if_neg hq, this]
    · rw [if_neg e]
      refine ⟨fun h => ?_, fun h => ?_⟩
      · have := ih.1 (by omega); omega
      · have := ih.2 (by omega); omega
/-- what taking up changes in the model -/
def tuF (I I2 : Nat → Nat → Int32) (k : Nat) : Prop := (∀ a, a ≠ 44 → a ≠ 65 → a ≠ 66 → a ≠ 71 → a ≠ 72 → a ≠ 73 → I2 a = I a) ∧ (∀ j, j ≠ 36 → j ≠ 37 → j ≠ 50 → j ≠ 51 → j ≠ 52 → I2 44 j = I 44 j) ∧ ∀ a, (a = 71 ∨ a = 72 ∨ a = 73) → ∀ i, (i < 20 * k ∨ 20 * k + 20 ≤ i) → I2 a i = I a i
theorem tuF_refl : tuF I I k := ⟨fun _ _ _ _ _ _ _ => rfl, fun _ _ _ _ _ _ => rfl, fun _ _ _ _ => rfl⟩
theorem tuF_wm {I1 I2 : Nat → Nat → Int32} (a : tuF I I1 k) (b : wmI I1 I2) : tuF I I2 k := ⟨fun a9 h1 h2 h3 h4 h5 h6 => (b.1 a9 h1 h2 h3).trans (a.1 a9 h1 h2 h3 h4 h5 h6), fun j h1 h2 h3 h4 h5 => (b.2 j h1 h2 h3 h4 h5).trans (a.2.1 j h1 h2 h3 h4 h5), fun a9 h1 i hi => by rw [b.1 a9 (by omega) (by omega) (by omega)]; exact a.2.2 a9 h1 i hi⟩
theorem tuF_up {I1 : Nat → Nat → Int32} {a9 q : Nat} {v : Int32} (a : tuF I I1 k) (h9 : a9 = 71 ∨ a9 = 72 ∨ a9 = 73) (hq : q < 20) : tuF I (uI I1 a9 (20 * k + q) v) k := ⟨fun b h1 h2 h3 h4 h5 h6 => by rw [uI_ne _ _ _ (by omega), a.1 b h1 h2 h3 h4 h5 h6], fun j h1 h2 h3 h4 h5 => by rw [uI_ne _ _ _ (by omega), a.2.1 j h1 h2 h3 h4 h5], fun b hb i hi => by rw [uI_nj _ _ _ _ (by omega)]; exact a.2.2 b hb i hi⟩
theorem m_up {K : aH → Prop} (mf : MF g) (hf : I 67 k = nI f) (fm : fmM I f cnt so E Cn) (hk : k < 60) (hcl : (I 70 k).toInt = 0) (hnt : ∀ i, i < 20 → (I 75 (20 * k + i)).toInt = 0) (oka : ∀ i, i < 20 → ¬ (I 73 (20 * k + i)).toInt = 0 → ¬ (I 74 (20 * k + i)).toInt = -2000000) :
    ∀ (n : Nat) (I1 : Nat → Nat → Int32) (gv av : Nat → Int32), tuF I I1 k → gvM I1 k = gv → avM I1 k = av → gOK I1 k → (∀ i, i < 20 → ¬ (I1 73 (20 * k + i)).toInt = 0 → ¬ (I 73 (20 * k + i)).toInt = 0) → acn av cnt ≤ n →
      (∀ I2 : Nat → Nat → Int32, tuF I I2 k → gvM I2 k = (tu so E Cn (rgM I k) cnt n gv av).1 → avM I2 k = (tu so E Cn (rgM I k) cnt n gv av).2 → gOK I2 k → (∀ i, i < 20 → ¬ (I2 73 (20 * k + i)).toInt = 0 → ¬ (I 73 (20 * k + i)).toInt = 0) → K (hU g I2 J)) →
      Wp (d + 5) 159 (6, [some (vR 44), some (vI (nI k)), some (vI (quM so E Cn gv (rgM I k) cnt false))], [], hU g I1 J) (RV K X) := by
  have c20 := fm.1.2.1
  intro n
  induction n with
  | zero =>
    intro I1 gv av s e1 e2 ok oka1 hn kk
    rw [tu] at kk
    have hle := en_le (so := so) (E := E) (Cn := Cn) (gv := gv) (rg := rgM I k) (cnt := cnt)
    refine w159_6 ?_
    unfold quM
    by_cases c : enW so E Cn gv (rgM I k) cnt = cnt
    · rw [if_pos (Or.inr c)]
      exact ⟨fun _ => kk I1 s e1 e2 ok oka1, fun z => absurd rfl z⟩
    · rw [if_neg (by rintro (z | z); cases z; exact c z)]
      generalize hq : enW so E Cn gv (rgM I k) cnt = q at *
      have hqI : (nI q).toInt = q := ti_n (by omega)
      have z1 : ¬ ((q : Int) = -1) := by omega
      have h6 : (20 : Int32) * nI k + nI q = nI (20 * k + q) := by rw [show (20 : Int32) = nI 20 from rfl, nI_mul, nI_add]
      have hxI : (nI (20 * k + q)).toInt = ((20 * k + q : Nat) : Int) := ti_n (by omega)
      have zx : ((20 * k + q : Nat) : Int) < 1200 := by omega
      have ha := acn_0 (av := av) cnt (by omega) q (by omega)
      have h73 : (I1 73 (20 * k + q)).toInt = 0 := by
        by_cases z : (I1 73 (20 * k + q)).toInt = 0
        · exact z
        · have i74 := s.1 74 (by decide) (by decide) (by decide) (by decide) (by decide) (by decide)
          rw [← e2] at ha
          unfold avM at ha
          rw [if_pos (by omega), if_neg z, i74] at ha
          exact absurd ha (oka q (by omega) (oka1 q (by omega) z))
      simp only [↓forall_eq, ↓inB_iff, gK_hU, gL_hU, gR_hU, gIh, gJh, pI_hU, pJ_hU, hU_hU, uI_app, uJ_app, and_true, true_and, and_false, false_and, and_self, true_implies, false_implies, not_true, not_false_iff, if_true, if_false, eq_self, Nat.reduceLeDiff, Nat.reduceEqDiff, reduceCtorEq, i32c, ti0, ti1, tiM, Int.natCast_nonneg, Int.reduceEq, Int.reduceLE, Int.reduceLT, Int.reduceNeg, tl_i, Int32.reduceToInt, Int64.reduceToInt, tiA, tlM6, Int.toNat_natCast, natc, nI_1, Int.zero_sub, implies_true, not_false_eq_true, mf.1, mr_43 mf, mk_71 mf, ml_71 mf, mr_44 mf, mk_72 mf, ml_72 mf, mr_45 mf, mk_73 mf, ml_73 mf, mr_46 mf, mk_74 mf, ml_74 mf, hqI, z1, h6, hxI, zx, h73]
      exact kk I1 s e1 e2 ok oka1
  | succ n ih =>
    intro I1 gv av s e1 e2 ok oka1 hn kk
    rw [tu] at kk
    have hle := en_le (so := so) (E := E) (Cn := Cn) (gv := gv) (rg := rgM I k) (cnt := cnt)
    refine w159_6 ?_
    by_cases c : enW so E Cn gv (rgM I k) cnt = cnt
    · have : quM so E Cn gv (rgM I k) cnt false = -1 := by unfold quM; rw [if_pos (Or.inr c)]
      rw [this]
      rw [if_neg (by omega)] at kk
      exact ⟨fun _ => kk I1 s e1 e2 ok oka1, fun z => absurd rfl z⟩
    · have : quM so E Cn gv (rgM I k) cnt false = nI (enW so E Cn gv (rgM I k) cnt) := by unfold quM; rw [if_neg (by rintro (z | z); cases z; exact c z)]
      rw [this]
      clear this
      have ea := en_abs (so := so) (E := E) (Cn := Cn) (gv := gv) (rg := rgM I k) (cnt := cnt) (by omega)
      generalize hq : enW so E Cn gv (rgM I k) cnt = q at *
      have hqI : (nI q).toInt = q := ti_n (by omega)
      have z1 : ¬ ((q : Int) = -1) := by omega
      have h6 : (20 : Int32) * nI k + nI q = nI (20 * k + q) := by rw [show (20 : Int32) = nI 20 from rfl, nI_mul, nI_add]
      have hxI : (nI (20 * k + q)).toInt = ((20 * k + q : Nat) : Int) := ti_n (by omega)
      have zx : ((20 * k + q : Nat) : Int) < 1200 := by omega
      have i74 := s.1 74 (by decide) (by decide) (by decide) (by decide) (by decide) (by decide)
      simp only [↓forall_eq, ↓inB_iff, gK_hU, gL_hU, gR_hU, gIh, gJh, pI_hU, pJ_hU, hU_hU, uI_app, uJ_app, and_true, true_and, and_false, false_and, and_self, true_implies, false_implies, not_true, not_false_iff, if_true, if_false, eq_self, Nat.reduceLeDiff, Nat.reduceEqDiff, reduceCtorEq, i32c, ti0, ti1, tiM, Int.natCast_nonneg, Int.reduceEq, Int.reduceLE, Int.reduceLT, Int.reduceNeg, tl_i, Int32.reduceToInt, Int64.reduceToInt, tiA, tlM6, Int.toNat_natCast, natc, nI_1, Int.zero_sub, implies_true, not_false_eq_true, mf.1, mr_43 mf, mk_71 mf, ml_71 mf, mr_44 mf, mk_72 mf, ml_72 mf, mr_45 mf, mk_73 mf, ml_73 mf, mr_46 mf, mk_74 mf, ml_74 mf, hqI, z1, h6, hxI, zx]
      refine ⟨fun c1 => ?_, fun c1 => ?_⟩
      · have ha : (av q).toInt = -2000000 := by rw [← e2]; unfold avM; rw [if_pos (by omega), if_pos c1]; rfl
        rw [if_neg (fun z => z.2 ha)] at kk
        exact kk I1 s e1 e2 ok oka1
      · have hav : av q = I1 74 (20 * k + q) := by rw [← e2]; unfold avM; rw [if_pos (by omega), if_neg c1]
        have hav2 : ¬ (av q).toInt = -2000000 := by rw [hav, i74]; exact oka q (by omega) (oka1 q (by omega) c1)
        rw [if_pos ⟨by omega, hav2⟩] at kk
        rw [← hav]
        have s1 : tuF I (uI (uI I1 71 (20 * k + q) (1 &&& 1)) 72 (20 * k + q) (av q)) k := tuF_up (tuF_up s (by omega) (by omega)) (by omega) (by omega)
        have g1 : gvM (uI (uI I1 71 (20 * k + q) (1 &&& 1)) 72 (20 * k + q) (av q)) k = upG gv q (av q) := by
          funext i
          rw [← e1]
          unfold gvM upG
          simp only [↓forall_eq, ↓inB_iff, gK_hU, gL_hU, gR_hU, gIh, gJh, pI_hU, pJ_hU, hU_hU, uI_app, uJ_app, and_true, true_and, and_false, false_and, and_self, true_implies, false_implies, not_true, not_false_iff, if_true, if_false, eq_self, Nat.reduceLeDiff, Nat.reduceEqDiff, reduceCtorEq, i32c, ti0, ti1, tiM, Int.natCast_nonneg, Int.reduceEq, Int.reduceLE, Int.reduceLT, Int.reduceNeg, tl_i, Int32.reduceToInt, Int64.reduceToInt, tiA, tlM6, Int.toNat_natCast, natc, nI_1, Int.zero_sub, implies_true, not_false_eq_true]
          by_cases z : i = q
          · subst z
            have z3 : i < 20 := by omega
            simp [z3]
          · have z2 : ¬ 20 * k + i = 20 * k + q := by omega
            simp [z]
        have ok1 : gOK (uI (uI I1 71 (20 * k + q) (1 &&& 1)) 72 (20 * k + q) (av q)) k := fun i hi => by
          simp only [↓forall_eq, ↓inB_iff, gK_hU, gL_hU, gR_hU, gIh, gJh, pI_hU, pJ_hU, hU_hU, uI_app, uJ_app, and_true, true_and, and_false, false_and, and_self, true_implies, false_implies, not_true, not_false_iff, if_true, if_false, eq_self, Nat.reduceLeDiff, Nat.reduceEqDiff, reduceCtorEq, i32c, ti0, ti1, tiM, Int.natCast_nonneg, Int.reduceEq, Int.reduceLE, Int.reduceLT, Int.reduceNeg, tl_i, Int32.reduceToInt, Int64.reduceToInt, tiA, tlM6, Int.toNat_natCast, natc, nI_1, Int.zero_sub, implies_true, not_false_eq_true]
          by_cases z : i = q
          · subst z; rw [if_pos rfl, if_pos rfl]; exact fun _ => hav2
          · have z2 : ¬ 20 * k + i = 20 * k + q := by omega
            simp only [z2, if_false]; exact ok i hi
        have fm1 : fmM (uI (uI I1 71 (20 * k + q) (1 &&& 1)) 72 (20 * k + q) (av q)) f cnt so E Cn := fmM_cg (fun a h1 h2 => by rw [s1.1 a (by omega) (by omega) (by omega) (by omega) (by omega) (by omega)]) fm
        have rg1 : rgM (uI (uI I1 71 (20 * k + q) (1 &&& 1)) 72 (20 * k + q) (av q)) k = rgM I k := by unfold rgM; rw [s1.1 69 (by decide) (by decide) (by decide) (by decide) (by decide) (by decide)]
        refine m_walk mf (by rw [s1.1 67 (by decide) (by decide) (by decide) (by decide) (by decide) (by decide)]; exact hf) fm1 hk ok1 fun I2 a1 a2 a3 => ?_
        rw [g1, rg1, hqI] at a3
        have s2 : tuF I I2 k := tuF_wm s1 a1
        have nt1 : fsB (bkM so E Cn (upG gv q (av q)) (rgM I k) 3 q (ntM (uI (uI I1 71 (20 * k + q) (1 &&& 1)) 72 (20 * k + q) (av q)) k)) (enW so E Cn (upG gv q (av q)) (rgM I k) cnt) = fsB (bkM so E Cn (upG gv q (av q)) (rgM I k) 3 q (fun _ => false)) (enW so E Cn (upG gv q (av q)) (rgM I k) cnt) := by
          have hle2 := en_le (so := so) (E := E) (Cn := Cn) (gv := upG gv q (av q)) (rg := rgM I k) (cnt := cnt)
          refine fsB_cg _ fun i hi => ?_
          unfold bkM ntM
          rw [s1.1 75 (by decide) (by decide) (by decide) (by decide) (by decide) (by decide), decide_eq_true (hnt i (by omega))]
          simp
        rw [nt1] at a3
        have r1 := fsB_rng (bkM so E Cn (upG gv q (av q)) (rgM I k) 2 q (fun _ => false)) (enW so E Cn (upG gv q (av q)) (rgM I k) cnt)
        have r2 := fsB_rng (bkM so E Cn (upG gv q (av q)) (rgM I k) 3 q (fun _ => false)) (enW so E Cn (upG gv q (av q)) (rgM I k) cnt)
        have hle2 := en_le (so := so) (E := E) (Cn := Cn) (gv := upG gv q (av q)) (rg := rgM I k) (cnt := cnt)
        have y1 := ti_z (z := fsB (bkM so E Cn (upG gv q (av q)) (rgM I k) 2 q (fun _ => false)) (enW so E Cn (upG gv q (av q)) (rgM I k) cnt)) (by omega) (by omega)
        have y2 := ti_z (z := fsB (bkM so E Cn (upG gv q (av q)) (rgM I k) 3 q (fun _ => false)) (enW so E Cn (upG gv q (av q)) (rgM I k) cnt)) (by omega) (by omega)
        -- given no more
        have undo : anyB so E Cn (upG gv q (av q)) (rgM I k) cnt q = true → K (hU g (uI I2 71 (20 * k + q) (0 &&& 1)) J) := fun hb => by
          rw [if_pos hb] at kk
          have i71 := a1.1 71 (by decide) (by decide) (by decide)
          have i72 := a1.1 72 (by decide) (by decide) (by decide)
          have i73 := a1.1 73 (by decide) (by decide) (by decide)
          have i74' := a1.1 74 (by decide) (by decide) (by decide)
          refine kk _ (tuF_up s2 (by omega) (by omega)) ?_ ?_ (fun i hi => ?_) (fun i hi => by rw [uI_ne _ _ _ (by decide), i73, uI_ne _ _ _ (by decide), uI_ne _ _ _ (by decide)]; exact oka1 i hi)
          · funext i
            by_cases z : i = q
            · subst z
              show _ = gv i
              rw [ea.1]
              unfold gvM
              rw [if_pos (by omega)]
              simp only [↓forall_eq, ↓inB_iff, gK_hU, gL_hU, gR_hU, gIh, gJh, pI_hU, pJ_hU, hU_hU, uI_app, uJ_app, and_true, true_and, and_false, false_and, and_self, true_implies, false_implies, not_true, not_false_iff, if_true, if_false, eq_self, Nat.reduceLeDiff, Nat.reduceEqDiff, reduceCtorEq, i32c, ti0, ti1, tiM, Int.natCast_nonneg, Int.reduceEq, Int.reduceLE, Int.reduceLT, Int.reduceNeg, tl_i, Int32.reduceToInt, Int64.reduceToInt, tiA, tlM6, Int.toNat_natCast, natc, nI_1, Int.zero_sub, implies_true, not_false_eq_true]
              rfl
            · have z2 : ¬ 20 * k + i = 20 * k + q := by omega
              rw [← e1]
              unfold gvM
              simp only [↓forall_eq, ↓inB_iff, gK_hU, gL_hU, gR_hU, gIh, gJh, pI_hU, pJ_hU, hU_hU, uI_app, uJ_app, and_true, true_and, and_false, false_and, and_self, true_implies, false_implies, not_true, not_false_iff, if_true, if_false, eq_self, Nat.reduceLeDiff, Nat.reduceEqDiff, reduceCtorEq, i32c, ti0, ti1, tiM, Int.natCast_nonneg, Int.reduceEq, Int.reduceLE, Int.reduceLT, Int.reduceNeg, tl_i, Int32.reduceToInt, Int64.reduceToInt, tiA, tlM6, Int.toNat_natCast, natc, nI_1, Int.zero_sub, implies_true, not_false_eq_true, z2, i71, i72]
          · rw [← e2]
            funext i
            unfold avM
            simp only [↓forall_eq, ↓inB_iff, gK_hU, gL_hU, gR_hU, gIh, gJh, pI_hU, pJ_hU, hU_hU, uI_app, uJ_app, and_true, true_and, and_false, false_and, and_self, true_implies, false_implies, not_true, not_false_iff, if_true, if_false, eq_self, Nat.reduceLeDiff, Nat.reduceEqDiff, reduceCtorEq, i32c, ti0, ti1, tiM, Int.natCast_nonneg, Int.reduceEq, Int.reduceLE, Int.reduceLT, Int.reduceNeg, tl_i, Int32.reduceToInt, Int64.reduceToInt, tiA, tlM6, Int.toNat_natCast, natc, nI_1, Int.zero_sub, implies_true, not_false_eq_true, i73, i74']
          · by_cases z : i = q
            · subst z
              simp only [↓forall_eq, ↓inB_iff, gK_hU, gL_hU, gR_hU, gIh, gJh, pI_hU, pJ_hU, hU_hU, uI_app, uJ_app, and_true, true_and, and_false, false_and, and_self, true_implies, false_implies, not_true, not_false_iff, if_true, if_false, eq_self, Nat.reduceLeDiff, Nat.reduceEqDiff, reduceCtorEq, i32c, ti0, ti1, tiM, Int.natCast_nonneg, Int.reduceEq, Int.reduceLE, Int.reduceLT, Int.reduceNeg, tl_i, Int32.reduceToInt, Int64.reduceToInt, tiA, tlM6, Int.toNat_natCast, natc, nI_1, Int.zero_sub, implies_true, not_false_eq_true]
              exact fun w => absurd (by decide) w
            · have z2 : ¬ 20 * k + i = 20 * k + q := by omega
              simp only [↓forall_eq, ↓inB_iff, gK_hU, gL_hU, gR_hU, gIh, gJh, pI_hU, pJ_hU, hU_hU, uI_app, uJ_app, and_true, true_and, and_false, false_and, and_self, true_implies, false_implies, not_true, not_false_iff, if_true, if_false, eq_self, Nat.reduceLeDiff, Nat.reduceEqDiff, reduceCtorEq, i32c, ti0, ti1, tiM, Int.natCast_nonneg, Int.reduceEq, Int.reduceLE, Int.reduceLT, Int.reduceNeg, tl_i, Int32.reduceToInt, Int64.reduceToInt, tiA, tlM6, Int.toNat_natCast, natc, nI_1, Int.zero_sub, implies_true, not_false_eq_true, z2, i71, i72]
              exact ok i hi
        simp only [↓forall_eq, ↓inB_iff, gK_hU, gL_hU, gR_hU, gIh, gJh, pI_hU, pJ_hU, hU_hU, uI_app, uJ_app, and_true, true_and, and_false, false_and, and_self, true_implies, false_implies, not_true, not_false_iff, if_true, if_false, eq_self, Nat.reduceLeDiff, Nat.reduceEqDiff, reduceCtorEq, i32c, ti0, ti1, tiM, Int.natCast_nonneg, Int.reduceEq, Int.reduceLE, Int.reduceLT, Int.reduceNeg, tl_i, Int32.reduceToInt, Int64.reduceToInt, tiA, tlM6, Int.toNat_natCast, natc, nI_1, Int.zero_sub, implies_true, not_false_eq_true, mf.1, mr_43 mf, mk_71 mf, ml_71 mf, mr_44 mf, mk_72 mf, ml_72 mf, mr_45 mf, mk_73 mf, ml_73 mf, mr_46 mf, mk_74 mf, ml_74 mf, hqI, z1, h6, hxI, zx, a3.2.1, a3.2.2, y1, y2]
        refine ⟨fun c2 => ⟨fun c3 => ?_, fun c3 => ?_⟩, fun c2 => ?_⟩
        · have hb : anyB so E Cn (upG gv q (av q)) (rgM I k) cnt q = false := any_iff.mpr ⟨c2, c3⟩
          rw [if_neg (by rw [hb]; decide)] at kk
          have i71 := a1.1 71 (by decide) (by decide) (by decide)
          have i72 := a1.1 72 (by decide) (by decide) (by decide)
          have i73 := a1.1 73 (by decide) (by decide) (by decide)
          have i74' := a1.1 74 (by decide) (by decide) (by decide)
          have s3 : tuF I (uI I2 73 (20 * k + q) (0 &&& 1)) k := tuF_up s2 (by omega) (by omega)
          have fm3 : fmM (uI I2 73 (20 * k + q) (0 &&& 1)) f cnt so E Cn := fmM_cg (fun a h1 h2 => by rw [s3.1 a (by omega) (by omega) (by omega) (by omega) (by omega) (by omega)]) fm
          have g3 : gvM (uI I2 73 (20 * k + q) (0 &&& 1)) k = upG gv q (av q) := by
            rw [← g1]
            funext i
            unfold gvM
            simp only [uI_ne _ _ _ (show (71 : Nat) ≠ 73 by decide), uI_ne _ _ _ (show (72 : Nat) ≠ 73 by decide), i71, i72]
          have av3 : avM (uI I2 73 (20 * k + q) (0 &&& 1)) k = upG av q (-2000000) := by
            funext i
            unfold upG
            by_cases z : i = q
            · subst z
              rw [if_pos rfl]
              unfold avM
              rw [if_pos (by omega)]
              simp only [↓forall_eq, ↓inB_iff, gK_hU, gL_hU, gR_hU, gIh, gJh, pI_hU, pJ_hU, hU_hU, uI_app, uJ_app, and_true, true_and, and_false, false_and, and_self, true_implies, false_implies, not_true, not_false_iff, if_true, if_false, eq_self, Nat.reduceLeDiff, Nat.reduceEqDiff, reduceCtorEq, i32c, ti0, ti1, tiM, Int.natCast_nonneg, Int.reduceEq, Int.reduceLE, Int.reduceLT, Int.reduceNeg, tl_i, Int32.reduceToInt, Int64.reduceToInt, tiA, tlM6, Int.toNat_natCast, natc, nI_1, Int.zero_sub, implies_true, not_false_eq_true]
              rfl
            · have z2 : ¬ 20 * k + i = 20 * k + q := by omega
              rw [if_neg z, ← e2]
              unfold avM
              simp only [↓forall_eq, ↓inB_iff, gK_hU, gL_hU, gR_hU, gIh, gJh, pI_hU, pJ_hU, hU_hU, uI_app, uJ_app, and_true, true_and, and_false, false_and, and_self, true_implies, false_implies, not_true, not_false_iff, if_true, if_false, eq_self, Nat.reduceLeDiff, Nat.reduceEqDiff, reduceCtorEq, i32c, ti0, ti1, tiM, Int.natCast_nonneg, Int.reduceEq, Int.reduceLE, Int.reduceLT, Int.reduceNeg, tl_i, Int32.reduceToInt, Int64.reduceToInt, tiA, tlM6, Int.toNat_natCast, natc, nI_1, Int.zero_sub, implies_true, not_false_eq_true, z2, i73, i74']
          have ok3 : gOK (uI I2 73 (20 * k + q) (0 &&& 1)) k := fun i hi => by
            have := ok1 i hi
            simp only [uI_ne _ _ _ (show (71 : Nat) ≠ 73 by decide), uI_ne _ _ _ (show (72 : Nat) ≠ 73 by decide), i71, i72]
            exact this
          have rg3 : rgM (uI I2 73 (20 * k + q) (0 &&& 1)) k = rgM I k := by unfold rgM; rw [s3.1 69 (by decide) (by decide) (by decide) (by decide) (by decide) (by decide)]
          refine m_quest mf (by rw [s3.1 67 (by decide) (by decide) (by decide) (by decide) (by decide) (by decide)]; exact hf) fm3 hk ok3 fun I4 b1 b2 => ?_
          have hcl4 : (!decide ((uI I2 73 (20 * k + q) (0 &&& 1) 70 k).toInt = 0)) = false := by
            rw [s3.1 70 (by decide) (by decide) (by decide) (by decide) (by decide) (by decide), decide_eq_true hcl]; rfl
          rw [g3, rg3, hcl4]
          have j71 := b1.1 71 (by decide) (by decide) (by decide)
          have j72 := b1.1 72 (by decide) (by decide) (by decide)
          have j73 := b1.1 73 (by decide) (by decide) (by decide)
          have j74 := b1.1 74 (by decide) (by decide) (by decide)
          refine ih I4 (upG gv q (av q)) (upG av q (-2000000)) (tuF_wm s3 b1) (by rw [← g3]; funext i; unfold gvM; rw [j71, j72]) (by rw [← av3]; funext i; unfold avM; rw [j73, j74]) (fun i hi => by rw [j71, j72]; exact ok3 i hi) (fun i hi => ?_) ?_ kk
          · rw [j73]
            by_cases z : i = q
            · subst z
              simp only [↓forall_eq, ↓inB_iff, gK_hU, gL_hU, gR_hU, gIh, gJh, pI_hU, pJ_hU, hU_hU, uI_app, uJ_app, and_true, true_and, and_false, false_and, and_self, true_implies, false_implies, not_true, not_false_iff, if_true, if_false, eq_self, Nat.reduceLeDiff, Nat.reduceEqDiff, reduceCtorEq, i32c, ti0, ti1, tiM, Int.natCast_nonneg, Int.reduceEq, Int.reduceLE, Int.reduceLT, Int.reduceNeg, tl_i, Int32.reduceToInt, Int64.reduceToInt, tiA, tlM6, Int.toNat_natCast, natc, nI_1, Int.zero_sub, implies_true, not_false_eq_true]
              exact fun w => absurd (by decide) w
            · have z2 : ¬ 20 * k + i = 20 * k + q := by omega
              simp only [↓forall_eq, ↓inB_iff, gK_hU, gL_hU, gR_hU, gIh, gJh, pI_hU, pJ_hU, hU_hU, uI_app, uJ_app, and_true, true_and, and_false, false_and, and_self, true_implies, false_implies, not_true, not_false_iff, if_true, if_false, eq_self, Nat.reduceLeDiff, Nat.reduceEqDiff, reduceCtorEq, i32c, ti0, ti1, tiM, Int.natCast_nonneg, Int.reduceEq, Int.reduceLE, Int.reduceLT, Int.reduceNeg, tl_i, Int32.reduceToInt, Int64.reduceToInt, tiA, tlM6, Int.toNat_natCast, natc, nI_1, Int.zero_sub, implies_true, not_false_eq_true, z2, i73]
              exact oka1 i hi
          · have := (acn_up hav2 cnt).2 (by omega); omega
        · exact undo (by
            cases hb : anyB so E Cn (upG gv q (av q)) (rgM I k) cnt q
            · exact absurd (any_iff.mp hb).2 c3
            · rfl)
        · exact undo (by
            cases hb : anyB so E Cn (upG gv q (av q)) (rgM I k) cnt q
            · exact absurd (any_iff.mp hb).1 c2
            · rfl)
end SSM
