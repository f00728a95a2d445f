/-! A RECORD CHANGED: the model's lets -/
section LTS
variable {d f r n p cnt sr : Nat} {it dn rg so : Nat → Int32} {g : aH} {X : Nat → aH → Prop} {M I0 I I1 : Nat → Nat → Int32} {J : Nat → Nat → Int64} {S mk : Int32} {E : Nat → List Tm} {Cn : Nat → List Cmp}
/-- only one record's numbers, and what the model works with -/
def lFr (r : Nat) (I0 I : Nat → Nat → Int32) : Prop := (∀ a, a ≠ 44 → a ≠ 65 → a ≠ 66 → a ≠ 79 → I a = I0 a) ∧ (∀ j, j ≠ 36 → j ≠ 37 → I 44 j = I0 44 j) ∧ ∀ j, j < 20 * r ∨ 20 * r + 20 ≤ j → I 79 j = I0 79 j
theorem lFr_65 {i : Nat} {x : Int32} (s : lFr r I0 I) : lFr r I0 (uI I 65 i x) := ⟨fun a h1 h2 h3 h4 => by rw [uI_ne _ _ _ h2]; exact s.1 a h1 h2 h3 h4, fun j h1 h2 => by rw [uI_ne _ _ _ (by decide)]; exact s.2.1 j h1 h2, fun j hj => by rw [uI_ne _ _ _ (by decide)]; exact s.2.2 j hj⟩
theorem lFr_66 {i : Nat} {x : Int32} (s : lFr r I0 I) : lFr r I0 (uI I 66 i x) := ⟨fun a h1 h2 h3 h4 => by rw [uI_ne _ _ _ h3]; exact s.1 a h1 h2 h3 h4, fun j h1 h2 => by rw [uI_ne _ _ _ (by decide)]; exact s.2.1 j h1 h2, fun j hj => by rw [uI_ne _ _ _ (by decide)]; exact s.2.2 j hj⟩
theorem lFr_79 {i : Nat} {x : Int32} (hi : i < 20) (s : lFr r I0 I) : lFr r I0 (uI I 79 (20 * r + i) x) := ⟨fun a h1 h2 h3 h4 => by rw [uI_ne _ _ _ h4]; exact s.1 a h1 h2 h3 h4, fun j h1 h2 => by rw [uI_ne _ _ _ (by decide)]; exact s.2.1 j h1 h2, fun j hj => by rw [uI_app, if_neg (fun q => by have := q.2; omega)]; exact s.2.2 j hj⟩
theorem m_lets {K : aH → Prop} (mf : MF g) (r60 : r < 60) (s60 : sr < 60) (fm : fmM I0 f cnt so E Cn) (hs : I0 78 r = nI sr) (hrg : ∀ i, i < 6 → I0 69 (6 * sr + i) = rg i) (hit : ∀ i, i < 20 → I0 79 (20 * r + i) = it i) (hf : ∀ K X, CI (d + 2) 175 [vR 44, vI (nI r)] (hU g I0 J) K X ↔ K (nI f) (hU g I0 J))
    (kk : ∀ I1, lFr r I0 I1 → (∀ i, i < 20 → I1 79 (20 * r + i) = ltI so E Cn rg it cnt i) → K (hU g I1 J)) : CV (d + 3) 226 [vR 44, vI (nI r)] (hU g I0 J) K X := by
  obtain ⟨⟨e53, c20, f6⟩, c4⟩ := fm
  have hfI : (nI f).toInt = f := ti_n (by omega)
  have z6 : (f : Int) < 6 := by omega
  have hrI : (nI r).toInt = r := ti_n (by omega)
  have zr : (r : Int) < 60 := by omega
  have hcI : (nI cnt).toInt = cnt := ti_n (by omega)
  have lets : ∀ (n p : Nat) (I : Nat → Nat → Int32), p + n = cnt → lFr r I0 I → (∀ i, i < 20 → I 65 i = ltI so E Cn rg it p i) → (∀ i, i < 6 → I 66 i = rg i) → (∀ i, i < 20 → I 79 (20 * r + i) = ltI so E Cn rg it p i) → Wp (d + 3) 226 (75, [some (vR 44), some (vI (nI r)), some (vI (nI f)), some (vI (nI p)), none, none], [], hU g I J) (RV K X) := by
    intro n
    induction n with
    | zero =>
      intro p I hp s v1 v2 v3
      have hpc : p = cnt := by omega
      subst hpc
      refine w226_75 ?_
      simp only [↓forall_eq, ↓inB_iff, gK_hU, gL_hU, gR_hU, gIh, gJh, pI_hU, pJ_hU, hU_hU, uI_app, uJ_app, and_true, true_and, and_false, false_and, and_self, true_implies, false_implies, not_true, not_false_iff, if_true, if_false, eq_self, Nat.reduceLeDiff, Nat.reduceEqDiff, reduceCtorEq, i32c, ti0, ti1, tiM, Int.natCast_nonneg, Int.reduceEq, Int.reduceLE, Int.reduceLT, Int.reduceNeg, tl_i, Int32.reduceToInt, Int64.reduceToInt, tiA, tlM6, Int.toNat_natCast, natc, nI_1, Int.zero_sub, implies_true, not_false_eq_true, mf.1, mr_15 mf, mk_53 mf, ml_53 mf, mr_16 mf, mk_54 mf, ml_54 mf, mr_21 mf, mk_59 mf, ml_59 mf, mr_22 mf, mk_60 mf, ml_60 mf, mr_23 mf, mk_61 mf, ml_61 mf, mr_24 mf, mk_62 mf, ml_62 mf, mr_34 mf, mk_65 mf, ml_65 mf, mr_35 mf, mk_66 mf, ml_66 mf, mr_41 mf, mk_69 mf, ml_69 mf, mr_54 mf, mk_78 mf, ml_78 mf, mr_55 mf, mk_79 mf, ml_79 mf, hfI, z6, s.1 53 (by decide) (by decide) (by decide) (by decide), e53, Int.lt_irrefl]
      exact kk I s v3
    | succ n ih =>
      intro p I hp s v1 v2 v3
      obtain ⟨s1, ⟨s2, s3, s4, s5⟩, -⟩ := c4 p (by omega)
      have hpI : (nI p).toInt = p := ti_n (by omega)
      have hlt : (p : Int) < cnt := by omega
      have z20 : (p : Int) < 20 := by omega
      have x1 : (20 : Int32) * nI f + nI p = nI (20 * f + p) := by rw [show (20 : Int32) = nI 20 from rfl, nI_mul, nI_add]
      have x2 : (nI (20 * f + p)).toInt = ((20 * f + p : Nat) : Int) := ti_n (by omega)
      have x3 : ((20 * f + p : Nat) : Int) < 120 := by omega
      have y1 : (20 : Int32) * nI r + nI p = nI (20 * r + p) := by rw [show (20 : Int32) = nI 20 from rfl, nI_mul, nI_add]
      have y2 : (nI (20 * r + p)).toInt = ((20 * r + p : Nat) : Int) := ti_n (by omega)
      have y3 : ((20 * r + p : Nat) : Int) < 1200 := by omega
      have ag : agr (I 65) (ltI so E Cn rg it p) (I 66) rg := ⟨v1, v2⟩
      have put : ∀ (I2 : Nat → Nat → Int32) (x : Int32), lFr r I0 I2 → I2 65 = I 65 → I2 66 = I 66 → I2 79 = I 79 → (so p).toInt = 1 → x = wtF (ltI so E Cn rg it p) rg (E p) (Cn p) → Wp (d + 3) 226 (75, [some (vR 44), some (vI (nI r)), some (vI (nI f)), some (vI (nI (p + 1))), none, none], [], hU g (uI (uI I2 65 p x) 79 (20 * r + p) x) J) (RV K X) := fun I2 x s9 h65 h66 h79 h1 hx => by
        refine ih (p + 1) _ (by omega) (lFr_79 (by omega) (lFr_65 s9)) (fun i hi => ?_) (fun i hi => ?_) (fun i hi => ?_)
        · rw [uI_ne _ _ _ (by decide), uI_app, ltI, if_pos h1, h65]
          unfold upG
          by_cases c9 : i = p
          · rw [if_pos ⟨rfl, c9⟩, if_pos c9]; exact hx
          · rw [if_neg (fun q => c9 q.2), if_neg c9]; exact v1 i hi
        · rw [uI_ne _ _ _ (by decide), uI_ne _ _ _ (by decide), h66]; exact v2 i hi
        · rw [uI_app, ltI, if_pos h1]
          unfold upG
          by_cases c9 : i = p
          · rw [if_pos ⟨rfl, by omega⟩, if_pos c9]; exact hx
          · rw [if_neg (fun q => by have := q.2; omega), if_neg c9, uI_ne _ _ _ (by decide), h79]; exact v3 i hi
      have i59 := s.1 59 (by decide) (by decide) (by decide) (by decide)
      have i60 := s.1 60 (by decide) (by decide) (by decide) (by decide)
      have i61 := s.1 61 (by decide) (by decide) (by decide) (by decide)
      have i62 := s.1 62 (by decide) (by decide) (by decide) (by decide)
      have i63 := s.1 63 (by decide) (by decide) (by decide) (by decide)
      have i64 := s.1 64 (by decide) (by decide) (by decide) (by decide)
      refine w226_75 ?_
      simp only [↓forall_eq, ↓inB_iff, gK_hU, gL_hU, gR_hU, gIh, gJh, pI_hU, pJ_hU, hU_hU, uI_app, uJ_app, and_true, true_and, and_false, false_and, and_self, true_implies, false_implies, not_true, not_false_iff, if_true, if_false, eq_self, Nat.reduceLeDiff, Nat.reduceEqDiff, reduceCtorEq, i32c, ti0, ti1, tiM, Int.natCast_nonneg, Int.reduceEq, Int.reduceLE, Int.reduceLT, Int.reduceNeg, tl_i, Int32.reduceToInt, Int64.reduceToInt, tiA, tlM6, Int.toNat_natCast, natc, nI_1, Int.zero_sub, implies_true, not_false_eq_true, mf.1, mr_15 mf, mk_53 mf, ml_53 mf, mr_16 mf, mk_54 mf, ml_54 mf, mr_21 mf, mk_59 mf, ml_59 mf, mr_22 mf, mk_60 mf, ml_60 mf, mr_23 mf, mk_61 mf, ml_61 mf, mr_24 mf, mk_62 mf, ml_62 mf, mr_34 mf, mk_65 mf, ml_65 mf, mr_35 mf, mk_66 mf, ml_66 mf, mr_41 mf, mk_69 mf, ml_69 mf, mr_54 mf, mk_78 mf, ml_78 mf, mr_55 mf, mk_79 mf, ml_79 mf, hfI, z6, s.1 53 (by decide) (by decide) (by decide) (by decide), e53, hcI, hpI, hlt, x1, x2, x3, s.1 54 (by decide) (by decide) (by decide) (by decide), s1, i61, i59, i60, i62]
      refine ⟨fun c => ?_, fun c => ih (p + 1) I (by omega) s (fun i hi => by rw [ltI, if_neg c]; exact v1 i hi) v2 (fun i hi => by rw [ltI, if_neg c]; exact v3 i hi)⟩
      obtain ⟨q, q1, q2, q3, q4⟩ := s2 c
      have sumI1 : ∀ (I3 : Nat → Nat → Int32), holI I I3 → lFr r I0 I3 := fun I3 z => ⟨fun a h1 h2 h3 h4 => (z.1 a h1).trans (s.1 a h1 h2 h3 h4), fun j h1 h2 => (z.2 j h1 h2).trans (s.2.1 j h1 h2), fun j hj => by rw [z.1 79 (by decide)]; exact s.2.2 j hj⟩
      refine ⟨fun cn => ?_, fun cn => ?_⟩
      · have hcn : Cn p = [] := by
          by_cases z : Cn p = []
          · exact z
          · obtain ⟨p9, to, w1, w2, w3, w4, -⟩ := s4 z
            have h9 : (nI p9).toInt = p9 := ti_n (by omega)
            rw [w1, h9] at cn
            omega
        rw [q1, q2]
        refine m_sum (I := I) (d := d + 1) (E := E p) mf q3 (Nat.le_refl _) (fun w => absurd w (Nat.lt_irrefl _)) (by rw [i63, i64]; exact q4) fun I2 z2 z3 => ?_
        have zh : holI I I2 := ⟨z2.1, fun j h1 h2 => z2.2 j h1⟩
        simp only [↓forall_eq, ↓inB_iff, gK_hU, gL_hU, gR_hU, gIh, gJh, pI_hU, pJ_hU, hU_hU, uI_app, uJ_app, and_true, true_and, and_false, false_and, and_self, true_implies, false_implies, not_true, not_false_iff, if_true, if_false, eq_self, Nat.reduceLeDiff, Nat.reduceEqDiff, reduceCtorEq, i32c, ti0, ti1, tiM, Int.natCast_nonneg, Int.reduceEq, Int.reduceLE, Int.reduceLT, Int.reduceNeg, tl_i, Int32.reduceToInt, Int64.reduceToInt, tiA, tlM6, Int.toNat_natCast, natc, nI_1, Int.zero_sub, implies_true, not_false_eq_true, mf.1, mr_15 mf, mk_53 mf, ml_53 mf, mr_16 mf, mk_54 mf, ml_54 mf, mr_21 mf, mk_59 mf, ml_59 mf, mr_22 mf, mk_60 mf, ml_60 mf, mr_23 mf, mk_61 mf, ml_61 mf, mr_24 mf, mk_62 mf, ml_62 mf, mr_34 mf, mk_65 mf, ml_65 mf, mr_35 mf, mk_66 mf, ml_66 mf, mr_41 mf, mk_69 mf, ml_69 mf, mr_54 mf, mk_78 mf, ml_78 mf, mr_55 mf, mk_79 mf, ml_79 mf, hpI, z20, uI_same, y1, y2, y3]
        refine put I2 _ (sumI1 I2 zh) (z2.1 65 (by decide)) (z2.1 66 (by decide)) (z2.1 79 (by decide)) c ?_
        unfold wtF
        rw [hcn, if_pos (show apF (ltI so E Cn rg it p) rg [] = true from rfl)]
        exact eV_cg ag (ok_encE q4)
      · have hcn : Cn p ≠ [] := fun z => cn (s3 z)
        obtain ⟨p9, to, w1, w2, w3, w4, w5⟩ := s4 hcn
        rw [w1, w2]
        refine m_holds (I := I) (d := d) mf w3 hcn w4 (by rw [i63, i64]; exact w5) fun I2 z2 z3 => ?_
        have hap : apF (ltI so E Cn rg it p) rg (Cn p) = (jf (I 65) (I 66) (Cn p) false false true).1 := by
          rw [jf_cg ag _ _ _ _ (ok_encMM _ _ w5)]
          unfold apF
          cases hq : Cn p with
          | nil => exact absurd hq hcn
          | cons c cs => rfl
        have k59 := (z2.1 59 (by decide)).trans i59
        have k60 := (z2.1 60 (by decide)).trans i60
        simp only [↓forall_eq, ↓inB_iff, gK_hU, gL_hU, gR_hU, gIh, gJh, pI_hU, pJ_hU, hU_hU, uI_app, uJ_app, and_true, true_and, and_false, false_and, and_self, true_implies, false_implies, not_true, not_false_iff, if_true, if_false, eq_self, Nat.reduceLeDiff, Nat.reduceEqDiff, reduceCtorEq, i32c, ti0, ti1, tiM, Int.natCast_nonneg, Int.reduceEq, Int.reduceLE, Int.reduceLT, Int.reduceNeg, tl_i, Int32.reduceToInt, Int64.reduceToInt, tiA, tlM6, Int.toNat_natCast, natc, nI_1, Int.zero_sub, implies_true, not_false_eq_true, mf.1, mr_15 mf, mk_53 mf, ml_53 mf, mr_16 mf, mk_54 mf, ml_54 mf, mr_21 mf, mk_59 mf, ml_59 mf, mr_22 mf, mk_60 mf, ml_60 mf, mr_23 mf, mk_61 mf, ml_61 mf, mr_24 mf, mk_62 mf, ml_62 mf, mr_34 mf, mk_65 mf, ml_65 mf, mr_35 mf, mk_66 mf, ml_66 mf, mr_41 mf, mk_69 mf, ml_69 mf, mr_54 mf, mk_78 mf, ml_78 mf, mr_55 mf, mk_79 mf, ml_79 mf, bI0, hpI, z20, uI_same, y1, y2, y3, k59, k60, x2, x3, q1, q2]
        refine ⟨fun c5 => ?_, fun c5 => ?_⟩
        · refine put I2 _ (sumI1 I2 z2) (z2.1 65 (by decide)) (z2.1 66 (by decide)) (z2.1 79 (by decide)) c ?_
          unfold wtF
          rw [hap, c5, if_neg (by decide)]
        · refine m_sum (I := I2) (d := d + 1) (E := E p) mf q3 (Nat.le_refl _) (fun w => absurd w (Nat.lt_irrefl _)) (by rw [z2.1 63 (by decide), z2.1 64 (by decide), i63, i64]; exact q4) fun I3 y4 y5 => ?_
          have zh : holI I I3 := ⟨fun a h1 => (y4.1 a h1).trans (z2.1 a h1), fun j h1 h2 => (y4.2 j h1).trans (z2.2 j h1 h2)⟩
          simp only [↓forall_eq, ↓inB_iff, gK_hU, gL_hU, gR_hU, gIh, gJh, pI_hU, pJ_hU, hU_hU, uI_app, uJ_app, and_true, true_and, and_false, false_and, and_self, true_implies, false_implies, not_true, not_false_iff, if_true, if_false, eq_self, Nat.reduceLeDiff, Nat.reduceEqDiff, reduceCtorEq, i32c, ti0, ti1, tiM, Int.natCast_nonneg, Int.reduceEq, Int.reduceLE, Int.reduceLT, Int.reduceNeg, tl_i, Int32.reduceToInt, Int64.reduceToInt, tiA, tlM6, Int.toNat_natCast, natc, nI_1, Int.zero_sub, implies_true, not_false_eq_true, mf.1, mr_15 mf, mk_53 mf, ml_53 mf, mr_16 mf, mk_54 mf, ml_54 mf, mr_21 mf, mk_59 mf, ml_59 mf, mr_22 mf, mk_60 mf, ml_60 mf, mr_23 mf, mk_61 mf, ml_61 mf, mr_24 mf, mk_62 mf, ml_62 mf, mr_34 mf, mk_65 mf, ml_65 mf, mr_35 mf, mk_66 mf, ml_66 mf, mr_41 mf, mk_69 mf, ml_69 mf, mr_54 mf, mk_78 mf, ml_78 mf, mr_55 mf, mk_79 mf, ml_79 mf, hpI, z20, uI_same, y1, y2, y3]
          refine put I3 _ (sumI1 I3 zh) (zh.1 65 (by decide)) (zh.1 66 (by decide)) (zh.1 79 (by decide)) c ?_
          unfold wtF
          rw [hap, bnf c5, if_pos rfl, z2.1 65 (by decide), z2.1 66 (by decide)]
          exact eV_cg ag (ok_encE q4)
  have hsI : (nI sr).toInt = sr := ti_n (by omega)
  have flds : ∀ (n p : Nat) (I : Nat → Nat → Int32), p + n = 6 → lFr r I0 I → I 79 = I0 79 → (∀ i, i < 20 → I 65 i = it i) → (∀ i, i < p → I 66 i = rg i) → Wp (d + 3) 226 (39, [some (vR 44), some (vI (nI r)), some (vI (nI f)), some (vI (nI p)), none, none], [], hU g I J) (RV K X) := by
    intro n
    induction n with
    | zero =>
      intro p I hp s h79 v1 v2
      have hpc : p = 6 := by omega
      subst hpc
      have t6 : (nI 6).toInt = 6 := rfl
      refine w226_39 ?_
      simp only [↓forall_eq, ↓inB_iff, gK_hU, gL_hU, gR_hU, gIh, gJh, pI_hU, pJ_hU, hU_hU, uI_app, uJ_app, and_true, true_and, and_false, false_and, and_self, true_implies, false_implies, not_true, not_false_iff, if_true, if_false, eq_self, Nat.reduceLeDiff, Nat.reduceEqDiff, reduceCtorEq, i32c, ti0, ti1, tiM, Int.natCast_nonneg, Int.reduceEq, Int.reduceLE, Int.reduceLT, Int.reduceNeg, tl_i, Int32.reduceToInt, Int64.reduceToInt, tiA, tlM6, Int.toNat_natCast, natc, nI_1, Int.zero_sub, implies_true, not_false_eq_true, mf.1, mr_15 mf, mk_53 mf, ml_53 mf, mr_16 mf, mk_54 mf, ml_54 mf, mr_21 mf, mk_59 mf, ml_59 mf, mr_22 mf, mk_60 mf, ml_60 mf, mr_23 mf, mk_61 mf, ml_61 mf, mr_24 mf, mk_62 mf, ml_62 mf, mr_34 mf, mk_65 mf, ml_65 mf, mr_35 mf, mk_66 mf, ml_66 mf, mr_41 mf, mk_69 mf, ml_69 mf, mr_54 mf, mk_78 mf, ml_78 mf, mr_55 mf, mk_79 mf, ml_79 mf, t6, Int.lt_irrefl]
      exact lets cnt 0 I (by omega) s v1 v2 (fun i hi => by rw [h79]; exact hit i hi)
    | succ n ih =>
      intro p I hp s h79 v1 v2
      have hpI : (nI p).toInt = p := ti_n (by omega)
      have z6' : (p : Int) < 6 := by omega
      have y1 : (6 : Int32) * nI sr + nI p = nI (6 * sr + p) := by rw [show (6 : Int32) = nI 6 from rfl, nI_mul, nI_add]
      have y2 : (nI (6 * sr + p)).toInt = ((6 * sr + p : Nat) : Int) := ti_n (by omega)
      have y3 : ((6 * sr + p : Nat) : Int) < 360 := by omega
      refine w226_39 ?_
      simp only [↓forall_eq, ↓inB_iff, gK_hU, gL_hU, gR_hU, gIh, gJh, pI_hU, pJ_hU, hU_hU, uI_app, uJ_app, and_true, true_and, and_false, false_and, and_self, true_implies, false_implies, not_true, not_false_iff, if_true, if_false, eq_self, Nat.reduceLeDiff, Nat.reduceEqDiff, reduceCtorEq, i32c, ti0, ti1, tiM, Int.natCast_nonneg, Int.reduceEq, Int.reduceLE, Int.reduceLT, Int.reduceNeg, tl_i, Int32.reduceToInt, Int64.reduceToInt, tiA, tlM6, Int.toNat_natCast, natc, nI_1, Int.zero_sub, implies_true, not_false_eq_true, mf.1, mr_15 mf, mk_53 mf, ml_53 mf, mr_16 mf, mk_54 mf, ml_54 mf, mr_21 mf, mk_59 mf, ml_59 mf, mr_22 mf, mk_60 mf, ml_60 mf, mr_23 mf, mk_61 mf, ml_61 mf, mr_24 mf, mk_62 mf, ml_62 mf, mr_34 mf, mk_65 mf, ml_65 mf, mr_35 mf, mk_66 mf, ml_66 mf, mr_41 mf, mk_69 mf, ml_69 mf, mr_54 mf, mk_78 mf, ml_78 mf, mr_55 mf, mk_79 mf, ml_79 mf, hpI, z6', hrI, zr, s.1 78 (by decide) (by decide) (by decide) (by decide), hs, s.1 69 (by decide) (by decide) (by decide) (by decide), y1, y2, y3, hrg p (by omega)]
      refine ih (p + 1) _ (by omega) (lFr_66 s) (by rw [uI_ne _ _ _ (by decide)]; exact h79) (fun i hi => by rw [uI_ne _ _ _ (by decide)]; exact v1 i hi) (fun i hi => ?_)
      rw [uI_app]
      by_cases c9 : i = p
      · rw [if_pos ⟨rfl, c9⟩, c9]
      · rw [if_neg (fun q => c9 q.2)]; exact v2 i (by omega)
  have itms : ∀ (n p : Nat) (I : Nat → Nat → Int32), p + n = 20 → lFr r I0 I → I 79 = I0 79 → (∀ i, i < p → I 65 i = it i) → Wp (d + 3) 226 (8, [some (vR 44), some (vI (nI r)), some (vI (nI f)), some (vI (nI p)), none, none], [], hU g I J) (RV K X) := by
    intro n
    induction n with
    | zero =>
      intro p I hp s h79 v1
      have hpc : p = 20 := by omega
      subst hpc
      have t20 : (nI 20).toInt = 20 := rfl
      refine w226_8 ?_
      simp only [↓forall_eq, ↓inB_iff, gK_hU, gL_hU, gR_hU, gIh, gJh, pI_hU, pJ_hU, hU_hU, uI_app, uJ_app, and_true, true_and, and_false, false_and, and_self, true_implies, false_implies, not_true, not_false_iff, if_true, if_false, eq_self, Nat.reduceLeDiff, Nat.reduceEqDiff, reduceCtorEq, i32c, ti0, ti1, tiM, Int.natCast_nonneg, Int.reduceEq, Int.reduceLE, Int.reduceLT, Int.reduceNeg, tl_i, Int32.reduceToInt, Int64.reduceToInt, tiA, tlM6, Int.toNat_natCast, natc, nI_1, Int.zero_sub, implies_true, not_false_eq_true, mf.1, mr_15 mf, mk_53 mf, ml_53 mf, mr_16 mf, mk_54 mf, ml_54 mf, mr_21 mf, mk_59 mf, ml_59 mf, mr_22 mf, mk_60 mf, ml_60 mf, mr_23 mf, mk_61 mf, ml_61 mf, mr_24 mf, mk_62 mf, ml_62 mf, mr_34 mf, mk_65 mf, ml_65 mf, mr_35 mf, mk_66 mf, ml_66 mf, mr_41 mf, mk_69 mf, ml_69 mf, mr_54 mf, mk_78 mf, ml_78 mf, mr_55 mf, mk_79 mf, ml_79 mf, t20, Int.lt_irrefl]
      exact flds 6 0 I (by omega) s h79 v1 (fun i hi => by omega)
    | succ n ih =>
      intro p I hp s h79 v1
      have hpI : (nI p).toInt = p := ti_n (by omega)
      have z20 : (p : Int) < 20 := by omega
      have y1 : (20 : Int32) * nI r + nI p = nI (20 * r + p) := by rw [show (20 : Int32) = nI 20 from rfl, nI_mul, nI_add]
      have y2 : (nI (20 * r + p)).toInt = ((20 * r + p : Nat) : Int) := ti_n (by omega)
      have y3 : ((20 * r + p : Nat) : Int) < 1200 := by omega
      refine w226_8 ?_
      simp only [↓forall_eq, ↓inB_iff, gK_hU, gL_hU, gR_hU, gIh, gJh, pI_hU, pJ_hU, hU_hU, uI_app, uJ_app, and_true, true_and, and_false, false_and, and_self, true_implies, false_implies, not_true, not_false_iff, if_true, if_false, eq_self, Nat.reduceLeDiff, Nat.reduceEqDiff, reduceCtorEq, i32c, ti0, ti1, tiM, Int.natCast_nonneg, Int.reduceEq, Int.reduceLE, Int.reduceLT, Int.reduceNeg, tl_i, Int32.reduceToInt, Int64.reduceToInt, tiA, tlM6, Int.toNat_natCast, natc, nI_1, Int.zero_sub, implies_true, not_false_eq_true, mf.1, mr_15 mf, mk_53 mf, ml_53 mf, mr_16 mf, mk_54 mf, ml_54 mf, mr_21 mf, mk_59 mf, ml_59 mf, mr_22 mf, mk_60 mf, ml_60 mf, mr_23 mf, mk_61 mf, ml_61 mf, mr_24 mf, mk_62 mf, ml_62 mf, mr_34 mf, mk_65 mf, ml_65 mf, mr_35 mf, mk_66 mf, ml_66 mf, mr_41 mf, mk_69 mf, ml_69 mf, mr_54 mf, mk_78 mf, ml_78 mf, mr_55 mf, mk_79 mf, ml_79 mf, hpI, z20, y1, y2, y3, h79, hit p (by omega)]
      refine ih (p + 1) _ (by omega) (lFr_65 s) (by rw [uI_ne _ _ _ (by decide)]; exact h79) (fun i hi => ?_)
      rw [uI_app]
      by_cases c9 : i = p
      · rw [if_pos ⟨rfl, c9⟩, c9]
      · rw [if_neg (fun q => c9 q.2)]; exact v1 i (by omega)
  refine m226 ?_
  simp only [↓forall_eq, ↓inB_iff, gK_hU, gL_hU, gR_hU, gIh, gJh, pI_hU, pJ_hU, hU_hU, uI_app, uJ_app, and_true, true_and, and_false, false_and, and_self, true_implies, false_implies, not_true, not_false_iff, if_true, if_false, eq_self, Nat.reduceLeDiff, Nat.reduceEqDiff, reduceCtorEq, i32c, ti0, ti1, tiM, Int.natCast_nonneg, Int.reduceEq, Int.reduceLE, Int.reduceLT, Int.reduceNeg, tl_i, Int32.reduceToInt, Int64.reduceToInt, tiA, tlM6, Int.toNat_natCast, natc, nI_1, Int.zero_sub, implies_true, not_false_eq_true, mf.1, mr_15 mf, mk_53 mf, ml_53 mf, mr_16 mf, mk_54 mf, ml_54 mf, mr_21 mf, mk_59 mf, ml_59 mf, mr_22 mf, mk_60 mf, ml_60 mf, mr_23 mf, mk_61 mf, ml_61 mf, mr_24 mf, mk_62 mf, ml_62 mf, mr_34 mf, mk_65 mf, ml_65 mf, mr_35 mf, mk_66 mf, ml_66 mf, mr_41 mf, mk_69 mf, ml_69 mf, mr_54 mf, mk_78 mf, ml_78 mf, mr_55 mf, mk_79 mf, ml_79 mf, ↓hf]
  exact itms 20 0 I0 (by omega) ⟨fun _ _ _ _ _ => rfl, fun _ _ _ => rfl, fun _ _ => rfl⟩ rfl (fun i hi => by omega)
end LTS
