/-! SAMPLES: the model's side -/
section SMM
variable {d U T nm n fr p : Nat} {h g : aH} {A o : Nat → Nat} {X : Nat → aH → Prop} {M : Nat → Nat → Int32} {I I0 : Nat → Nat → Int32} {J : Nat → Nat → Int64} {a1 a2 a3 a4 a5 sd : Int32} {st : Nat → Int32}
theorem isFirst_br {K : Int32 → aH → Prop} (mf : MF g) (u9 : U ≤ 100) (hp : p < U) (hst : ∀ i, i < U → I 89 i = st i) : CI d 238 [vR 44, vI (nI p)] (hU g I J) K X ↔ K (bI (isF st p)) (hU g I J) := by
  have hpI : (nI p).toInt = p := ti_n (by omega)
  have z100 : (p : Int) < 100 := by omega
  have sp : I 89 p = st p := hst p hp
  refine CI_iff fun K X w => m238 ?_
  have main : ∀ (m q : Nat) (fl : Bool), q + m = p → fl = (thr (st p) && decide (cntP (eqS st p) q = 0)) → Wp d 238 (19, [some (vR 44), some (vI (nI p)), some (vI (bI fl)), some (vI (nI q))], [], hU g I J) (RI K X) := by
    intro m
    induction m with
    | zero =>
      intro q fl hq e
      have hqc : q = p := by omega
      subst hqc
      refine w238_19 ⟨fun c => absurd c (by omega), fun _ => ⟨bI_and, ?_⟩⟩
      rw [e]; exact w
    | succ m ih =>
      intro q fl hq e
      have hqI : (nI q).toInt = q := ti_n (by omega)
      have zq : (q : Int) < p := by omega
      have zq1 : (q : Int) < 100 := by omega
      have sq : I 89 q = st q := hst q (by omega)
      have nx := fun fl' => ih (q + 1) fl' (by omega)
      refine w238_19 ?_
      simp only [↓forall_eq, ↓inB_iff, gK_hU, gL_hU, gR_hU, gIh, gJh, pI_hU, pJ_hU, hU_hU, uI_app, uJ_app, and_true, true_and, and_false, false_and, and_self, true_implies, false_implies, not_true, not_false_iff, if_true, if_false, eq_self, Nat.reduceLeDiff, Nat.reduceEqDiff, reduceCtorEq, i32c, ti0, ti1, tiM, Int.natCast_nonneg, Int.reduceEq, Int.reduceLE, Int.reduceLT, Int.reduceNeg, tl_i, Int32.reduceToInt, Int64.reduceToInt, tiA, tlM6, Int.toNat_natCast, natc, nI_1, Int.zero_sub, implies_true, not_false_eq_true, mf.1, mr_68 mf, mk_89 mf, ml_89 mf, hqI, hpI, zq, zq1, z100, sp, sq, bI0]
      refine ⟨fun c => ?_, fun c => ⟨fun c2 => ?_, fun c2 => ?_⟩⟩
      · refine nx false ?_
        rw [c] at e
        cases ht : thr (st p)
        · rfl
        · rw [ht, Bool.true_and] at e
          have := of_decide_eq_false e.symm
          rw [Bool.true_and]
          symm
          refine decide_eq_false ?_
          rw [cntP]; omega
      · refine nx false ?_
        symm
        have hE : eqS st p q = true := decide_eq_true c2
        rw [cntP, if_pos hE, decide_eq_false (by omega), Bool.and_false]
      · refine nx true ?_
        rw [cntP, if_neg (by rw [show eqS st p q = false from decide_eq_false c2]; decide), Nat.add_zero, ← e]
        exact (bnf c).symm
  simp only [↓forall_eq, ↓inB_iff, gK_hU, gL_hU, gR_hU, gIh, gJh, pI_hU, pJ_hU, hU_hU, uI_app, uJ_app, and_true, true_and, and_false, false_and, and_self, true_implies, false_implies, not_true, not_false_iff, if_true, if_false, eq_self, Nat.reduceLeDiff, Nat.reduceEqDiff, reduceCtorEq, i32c, ti0, ti1, tiM, Int.natCast_nonneg, Int.reduceEq, Int.reduceLE, Int.reduceLT, Int.reduceNeg, tl_i, Int32.reduceToInt, Int64.reduceToInt, tiA, tlM6, Int.toNat_natCast, natc, nI_1, Int.zero_sub, implies_true, not_false_eq_true, mf.1, mr_68 mf, mk_89 mf, ml_89 mf, hpI, z100, sp]
  refine ⟨fun c => main p 0 false (by omega) ?_, fun c => main p 0 true (by omega) ?_⟩
  · unfold thr; rw [decide_eq_true c]; rfl
  · unfold thr; rw [decide_eq_false c]; rfl
theorem before_br {K : Int32 → aH → Prop} {i j : Nat} (hi : i < 100) (hj : j < 100) : CI (d + 1) 240 [vR 44, vI sd, vI (nI j), vI (nI i)] h K X ↔ K (bI (decide ((keyS sd (nI j)).toInt < (keyS sd (nI i)).toInt) || (decide ((keyS sd (nI j)).toInt = (keyS sd (nI i)).toInt) && decide (j < i)))) h := by
  have hiI : (nI i).toInt = i := ti_n (by omega)
  have hjI : (nI j).toInt = j := ti_n (by omega)
  refine CI_iff fun K X w => m240 ?_
  rw [keyM_br, keyM_br, hiI, hjI]
  refine ⟨fun c => ?_, fun c => ⟨fun c2 => ⟨fun c3 => ?_, fun c3 => ?_⟩, fun c2 => ?_⟩⟩
  · rw [decide_eq_true c] at w; exact w
  · rw [decide_eq_false c, decide_eq_true c2, decide_eq_true (show j < i by omega)] at w; exact w
  · rw [decide_eq_false c, decide_eq_false (show ¬ j < i by omega), Bool.and_false] at w; exact w
  · rw [decide_eq_false c, decide_eq_false c2] at w; exact w
/-- what the model has while it draws -/
def smF (I0 I : Nat → Nat → Int32) (nm U : Nat) (st : Nat → Int32) : Prop := (∀ a, a ≠ 86 → a ≠ 87 → a ≠ 88 → a ≠ 89 → I a = I0 a) ∧ (∀ j, j < 100 * nm ∨ 100 * nm + 100 ≤ j → I 86 j = I0 86 j ∧ I 87 j = I0 87 j ∧ I 88 j = I0 88 j) ∧ (∀ j, U ≤ j → j < 100 → I 86 (100 * nm + j) = I0 86 (100 * nm + j) ∧ I 87 (100 * nm + j) = I0 87 (100 * nm + j) ∧ I 88 (100 * nm + j) = I0 88 (100 * nm + j)) ∧ ∀ i, i < U → I 89 i = st i
theorem smF_u {a i : Nat} {x : Int32} (ha : a = 86 ∨ a = 87 ∨ a = 88) (hi : i < U) (hU9 : U ≤ 100) (s : smF I0 I nm U st) : smF I0 (uI I a (100 * nm + i) x) nm U st := by
  obtain ⟨s1, s2, s3, s4⟩ := s
  refine ⟨fun b h1 h2 h3 h4 => by rw [uI_ne _ _ _ (by omega)]; exact s1 b h1 h2 h3 h4, fun j hj => ?_, fun j h1 h2 => ?_, fun j hj => by rw [uI_ne _ _ _ (by omega)]; exact s4 j hj⟩
  · rw [uI_nj _ _ _ _ (by omega), uI_nj _ _ _ _ (by omega), uI_nj _ _ _ _ (by omega)]; exact s2 j hj
  · rw [uI_nj _ _ _ _ (by omega), uI_nj _ _ _ _ (by omega), uI_nj _ _ _ _ (by omega)]; exact s3 j h1 h2
abbrev c216 (hh : aH) (n fr nm p : Nat) (sd l9 : Int32) : aCf := (216, [some (vR 44), none, none, none, none, some (vI (nI n)), some (vI sd), some (vI (nI fr)), some (vI (nI (100 * nm))), some (vI l9), some (vI (nI p)), none, none, none, none], [], hh)
abbrev c231 (hh : aH) (n fr nm p q : Nat) (sd l9 l11 : Int32) : aCf := (231, [some (vR 44), none, none, none, none, some (vI (nI n)), some (vI sd), some (vI (nI fr)), some (vI (nI (100 * nm))), some (vI l9), some (vI (nI p)), some (vI l11), some (vI (nI q)), none, none], [], hh)
abbrev c372 (hh : aH) (n fr nm p : Nat) (sd l9 : Int32) : aCf := (372, [some (vR 44), none, none, none, none, some (vI (nI n)), some (vI sd), some (vI (nI fr)), some (vI (nI (100 * nm))), some (vI l9), some (vI (nI p)), none, none, none, none], [], hh)
abbrev c387 (hh : aH) (n fr nm p q : Nat) (sd l9 l11 : Int32) : aCf := (387, [some (vR 44), none, none, none, none, some (vI (nI n)), some (vI sd), some (vI (nI fr)), some (vI (nI (100 * nm))), some (vI l9), some (vI (nI p)), some (vI l11), some (vI (nI q)), none, none], [], hh)
abbrev c563 (hh : aH) (nm p : Nat) (sd : Int32) : aCf := (563, [some (vR 44), none, none, none, none, none, some (vI sd), none, some (vI (nI (100 * nm))), none, some (vI (nI p)), none, none, none, none], [], hh)
abbrev c578 (hh : aH) (nm p q : Nat) (sd l11 : Int32) : aCf := (578, [some (vR 44), none, none, none, none, none, some (vI sd), none, some (vI (nI (100 * nm))), none, some (vI (nI p)), some (vI l11), some (vI (nI q)), none, none], [], hh)
/-- the drawing itself -/
theorem m_drawn {K : Int32 → aH → Prop} (mf : MF g) (u9 : U ≤ 100) (n12 : nm < 12) (n9 : n ≤ 100) (hU1 : I0 44 2 = nI U) (h64 : I0 44 64 = nI nm)
    (kk : ∀ I1, smF I0 I1 nm U st → (∀ i, i < U → I1 86 (100 * nm + i) = nI (alS st U n fr i) ∧ I1 87 (100 * nm + i) = nI (nN st U i) ∧ I1 88 (100 * nm + i) = bI (drS st U n fr sd i)) → K (nI nm) (hU g (uI I1 44 64 (nI (nm + 1))) J)) :
    ∀ (m p : Nat) (I : Nat → Nat → Int32), p + m = U → smF I0 I nm U st → (∀ i, i < U → I 86 (100 * nm + i) = nI (alS st U n fr i) ∧ I 87 (100 * nm + i) = nI (nN st U i)) → (∀ i, i < p → I 88 (100 * nm + i) = bI (drS st U n fr sd i)) → Wp (d + 2) 241 (c563 (hU g I J) nm p sd) (RI K X) := by
  have hUI : (nI U).toInt = U := ti_n (by omega)
  have z01 : (0 : Int32) &&& 1 = 0 := rfl
  have z11 : (1 : Int32) &&& 1 = 1 := rfl
  intro m
  induction m with
  | zero =>
    intro p I hp s v1 v2
    have hpc : p = U := by omega
    subst hpc
    have e2 : I 44 2 = nI p := by rw [s.1 44 (by decide) (by decide) (by decide) (by decide)]; exact hU1
    have e64 : I 44 64 = nI nm := by rw [s.1 44 (by decide) (by decide) (by decide) (by decide)]; exact h64
    refine w241_563 ?_
    simp only [↓forall_eq, ↓inB_iff, gK_hU, gL_hU, gR_hU, gIh, gJh, pI_hU, pJ_hU, hU_hU, uI_app, uJ_app, and_true, true_and, and_false, false_and, and_self, true_implies, false_implies, not_true, not_false_iff, if_true, if_false, eq_self, Nat.reduceLeDiff, Nat.reduceEqDiff, reduceCtorEq, i32c, ti0, ti1, tiM, Int.natCast_nonneg, Int.reduceEq, Int.reduceLE, Int.reduceLT, Int.reduceNeg, tl_i, Int32.reduceToInt, Int64.reduceToInt, tiA, tlM6, Int.toNat_natCast, natc, nI_1, Int.zero_sub, implies_true, not_false_eq_true, mf.1, mr_3 mf, mk_45 mf, ml_45 mf, mr_65 mf, mk_86 mf, ml_86 mf, mr_66 mf, mk_87 mf, ml_87 mf, mr_67 mf, mk_88 mf, ml_88 mf, mr_68 mf, mk_89 mf, ml_89 mf, e2, e64, Int.lt_irrefl, nI_pred]
    exact kk I s (fun i hi => ⟨(v1 i hi).1, (v1 i hi).2, v2 i hi⟩)
  | succ m ih =>
    intro p I hp s v1 v2
    have hpI : (nI p).toInt = p := ti_n (by omega)
    have zU : (p : Int) < U := by omega
    have z100 : (p : Int) < 100 := by omega
    have e2 : I 44 2 = nI U := by rw [s.1 44 (by decide) (by decide) (by decide) (by decide)]; exact hU1
    have sp : I 89 p = st p := s.2.2.2 p (by omega)
    have x1 : nI (100 * nm) + nI p = nI (100 * nm + p) := nI_add _ _
    have x2 : (nI (100 * nm + p)).toInt = ((100 * nm + p : Nat) : Int) := ti_n (by omega)
    have x3 : ((100 * nm + p : Nat) : Int) < 1200 := by omega
    have ale := al_le (st := st) (U := U) (n := n) (fr := fr) (i := p) u9 n9
    have aI : (nI (alS st U n fr p)).toInt = (alS st U n fr p : Nat) := ti_n (by omega)
    have step : ∀ v : Int32, v = bI (drS st U n fr sd p) → Wp (d + 2) 241 (c563 (hU g (uI I 88 (100 * nm + p) v) J) nm (p + 1) sd) (RI K X) := fun v hv => by
      refine ih (p + 1) _ (by omega) (smF_u (Or.inr (Or.inr rfl)) (by omega) u9 s) (fun i hi => by rw [uI_ne _ _ _ (by decide), uI_ne _ _ _ (by decide)]; exact v1 i hi) (fun i hi => ?_)
      rw [uI_app]
      by_cases e : i = p
      · rw [if_pos ⟨rfl, by omega⟩, e]; exact hv
      · rw [if_neg (fun w => by have := w.2; omega)]; exact v2 i (by omega)
    have inner : ∀ (k q : Nat), q + k = U → Wp (d + 2) 241 (c578 (hU g I J) nm p q sd (nI (if (st p).toInt = -2000000 then 0 else cntP (bkS st sd p) q))) (RI K X) := by
      intro k
      induction k with
      | zero =>
        intro q hq
        have hqc : q = U := by omega
        subst hqc
        have cle := cntP_le (P := bkS st sd p) q
        refine w241_578 ?_
        simp only [↓forall_eq, ↓inB_iff, gK_hU, gL_hU, gR_hU, gIh, gJh, pI_hU, pJ_hU, hU_hU, uI_app, uJ_app, and_true, true_and, and_false, false_and, and_self, true_implies, false_implies, not_true, not_false_iff, if_true, if_false, eq_self, Nat.reduceLeDiff, Nat.reduceEqDiff, reduceCtorEq, i32c, ti0, ti1, tiM, Int.natCast_nonneg, Int.reduceEq, Int.reduceLE, Int.reduceLT, Int.reduceNeg, tl_i, Int32.reduceToInt, Int64.reduceToInt, tiA, tlM6, Int.toNat_natCast, natc, nI_1, Int.zero_sub, implies_true, not_false_eq_true, mf.1, mr_3 mf, mk_45 mf, ml_45 mf, mr_65 mf, mk_86 mf, ml_86 mf, mr_66 mf, mk_87 mf, ml_87 mf, mr_67 mf, mk_88 mf, ml_88 mf, mr_68 mf, mk_89 mf, ml_89 mf, e2, Int.lt_irrefl, hpI, z100, sp, x1, x2, x3, (v1 p (by omega)).1, aI, z01, z11]
        refine ⟨fun c => step 0 ?_, fun c => ?_⟩
        · unfold drS alS; rw [if_pos c]; rfl
        · rw [if_neg c, ti_n (by omega)]
          refine ⟨fun c2 => step 1 ?_, fun c2 => step 0 ?_⟩
          · unfold drS; rw [decide_eq_true (show cntP (bkS st sd p) q < alS st q n fr p by omega), decide_eq_true (show 0 < alS st q n fr p by omega)]; rfl
          · unfold drS; rw [decide_eq_false (show ¬ cntP (bkS st sd p) q < alS st q n fr p by omega), Bool.and_false]; rfl
      | succ k ihk =>
        intro q hq
        have nx := ihk (q + 1) (by omega)
        have hqI : (nI q).toInt = q := ti_n (by omega)
        have zq : (q : Int) < U := by omega
        have zq1 : (q : Int) < 100 := by omega
        have sq : I 89 q = st q := s.2.2.2 q (by omega)
        have BF := fun (K : Int32 → aH → Prop) X => before_br (d := d) (sd := sd) (h := hU g I J) (K := K) (X := X) (i := p) (j := q) (by omega) (by omega)
        have a0 : ∀ x : Int32, x + 0 = x := Int32.add_zero
        refine w241_578 ?_
        simp only [↓forall_eq, ↓inB_iff, gK_hU, gL_hU, gR_hU, gIh, gJh, pI_hU, pJ_hU, hU_hU, uI_app, uJ_app, and_true, true_and, and_false, false_and, and_self, true_implies, false_implies, not_true, not_false_iff, if_true, if_false, eq_self, Nat.reduceLeDiff, Nat.reduceEqDiff, reduceCtorEq, i32c, ti0, ti1, tiM, Int.natCast_nonneg, Int.reduceEq, Int.reduceLE, Int.reduceLT, Int.reduceNeg, tl_i, Int32.reduceToInt, Int64.reduceToInt, tiA, tlM6, Int.toNat_natCast, natc, nI_1, Int.zero_sub, implies_true, not_false_eq_true, mf.1, mr_3 mf, mk_45 mf, ml_45 mf, mr_65 mf, mk_86 mf, ml_86 mf, mr_66 mf, mk_87 mf, ml_87 mf, mr_67 mf, mk_88 mf, ml_88 mf, mr_68 mf, mk_89 mf, ml_89 mf, e2, hUI, hqI, zq, hpI, zq1, z100, sp, sq, ↓BF, bI0, a0]
        refine ⟨fun c => ?_, fun c => ?_⟩
        · rw [if_pos c] at nx ⊢; exact nx
        · rw [if_neg c] at nx ⊢
          rw [cntP] at nx
          refine ⟨fun e => ⟨fun c2 => ?_, fun c2 => ?_⟩, fun e => ?_⟩
          · rw [if_neg (by unfold bkS; rw [c2, Bool.and_false]; decide), Nat.add_zero] at nx; exact nx
          · rw [if_pos (by unfold bkS; rw [bnf c2, show eqS st p q = true from decide_eq_true e]; rfl)] at nx; exact nx
          · rw [if_neg (by unfold bkS; rw [show eqS st p q = false from decide_eq_false e, Bool.false_and]; decide), Nat.add_zero] at nx; exact nx
    refine w241_563 ?_
    simp only [↓forall_eq, ↓inB_iff, gK_hU, gL_hU, gR_hU, gIh, gJh, pI_hU, pJ_hU, hU_hU, uI_app, uJ_app, and_true, true_and, and_false, false_and, and_self, true_implies, false_implies, not_true, not_false_iff, if_true, if_false, eq_self, Nat.reduceLeDiff, Nat.reduceEqDiff, reduceCtorEq, i32c, ti0, ti1, tiM, Int.natCast_nonneg, Int.reduceEq, Int.reduceLE, Int.reduceLT, Int.reduceNeg, tl_i, Int32.reduceToInt, Int64.reduceToInt, tiA, tlM6, Int.toNat_natCast, natc, nI_1, Int.zero_sub, implies_true, not_false_eq_true, mf.1, mr_3 mf, mk_45 mf, ml_45 mf, mr_65 mf, mk_86 mf, ml_86 mf, mr_66 mf, mk_87 mf, ml_87 mf, mr_67 mf, mk_88 mf, ml_88 mf, mr_68 mf, mk_89 mf, ml_89 mf, e2, hUI, hpI, zU]
    have := inner U 0 (by omega)
    have e0 : (if (st p).toInt = -2000000 then 0 else cntP (bkS st sd p) 0) = 0 := by split <;> rfl
    rw [e0] at this
    exact this
/-- one more for some -/
theorem m_more {K : Int32 → aH → Prop} (mf : MF g) (u9 : U ≤ 100) (n12 : nm < 12) (n9 : n ≤ 100) (f9 : fr ≤ 100) (hfr : ∀ i, i < U → ¬ (st i).toInt = -2000000 → fr ≠ 0) (hU1 : I0 44 2 = nI U)
    (kk : ∀ I1, smF I0 I1 nm U st → (∀ i, i < U → I1 86 (100 * nm + i) = nI (alS st U n fr i) ∧ I1 87 (100 * nm + i) = nI (nN st U i)) → Wp (d + 2) 241 (c563 (hU g I1 J) nm 0 sd) (RI K X)) :
    ∀ (m p : Nat) (I : Nat → Nat → Int32), p + m = U → smF I0 I nm U st → (∀ i, i < U → I 87 (100 * nm + i) = nI (nN st U i) ∧ I 86 (100 * nm + i) = if i < p then nI (alS st U n fr i) else nI (bsS st U n fr i)) → Wp (d + 2) 241 (c372 (hU g I J) n fr nm p sd (iZ (rstS st U n fr U))) (RI K X) := by
  have hUI : (nI U).toInt = U := ti_n (by omega)
  have a0 : ∀ x : Int32, x + 0 = x := Int32.add_zero
  have rb9 := rst_b (st := st) (fr := fr) u9 n9 U (Nat.le_refl _)
  have rI : (iZ (rstS st U n fr U)).toInt = rstS st U n fr U := by unfold rstS; exact ti_z (by omega) (by omega)
  have nb := fun i => bs_le (st := st) (U := U) (n := n) (fr := fr) (i := i) u9 n9
  have mul : ∀ i, nI n * nI (nN st U i) = nI (n * nN st U i) := fun i => nI_mul _ _
  have md : ∀ i, aIrem (nI (n * nN st U i)) (nI fr) = nI (rmS st U n fr i) := fun i => nI_rem (by have := (nb i).1; omega) (by omega)
  intro m
  induction m with
  | zero =>
    intro p I hp s v
    have hpc : p = U := by omega
    subst hpc
    have e2 : I 44 2 = nI p := by rw [s.1 44 (by decide) (by decide) (by decide) (by decide)]; exact hU1
    refine w241_372 ?_
    simp only [↓forall_eq, ↓inB_iff, gK_hU, gL_hU, gR_hU, gIh, gJh, pI_hU, pJ_hU, hU_hU, uI_app, uJ_app, and_true, true_and, and_false, false_and, and_self, true_implies, false_implies, not_true, not_false_iff, if_true, if_false, eq_self, Nat.reduceLeDiff, Nat.reduceEqDiff, reduceCtorEq, i32c, ti0, ti1, tiM, Int.natCast_nonneg, Int.reduceEq, Int.reduceLE, Int.reduceLT, Int.reduceNeg, tl_i, Int32.reduceToInt, Int64.reduceToInt, tiA, tlM6, Int.toNat_natCast, natc, nI_1, Int.zero_sub, implies_true, not_false_eq_true, mf.1, mr_3 mf, mk_45 mf, ml_45 mf, mr_65 mf, mk_86 mf, ml_86 mf, mr_66 mf, mk_87 mf, ml_87 mf, mr_67 mf, mk_88 mf, ml_88 mf, mr_68 mf, mk_89 mf, ml_89 mf, e2, Int.lt_irrefl]
    exact kk I s (fun i hi => ⟨by rw [(v i hi).2, if_pos hi], (v i hi).1⟩)
  | succ m ih =>
    intro p I hp s v
    have hpI : (nI p).toInt = p := ti_n (by omega)
    have zU : (p : Int) < U := by omega
    have z0 : (0 : Int) < U := by omega
    have z100 : (p : Int) < 100 := by omega
    have e2 : I 44 2 = nI U := by rw [s.1 44 (by decide) (by decide) (by decide) (by decide)]; exact hU1
    have sp : I 89 p = st p := s.2.2.2 p (by omega)
    have x1 : nI (100 * nm) + nI p = nI (100 * nm + p) := nI_add _ _
    have x2 : (nI (100 * nm + p)).toInt = ((100 * nm + p : Nat) : Int) := ti_n (by omega)
    have x3 : ((100 * nm + p : Nat) : Int) < 1200 := by omega
    have v86 : I 86 (100 * nm + p) = nI (bsS st U n fr p) := by rw [(v p (by omega)).2, if_neg (by omega)]
    have v87 : I 87 (100 * nm + p) = nI (nN st U p) := (v p (by omega)).1
    have step : ∀ x : Int32, x = nI (alS st U n fr p) → Wp (d + 2) 241 (c372 (hU g (uI I 86 (100 * nm + p) x) J) n fr nm (p + 1) sd (iZ (rstS st U n fr U))) (RI K X) := fun x hx => by
      refine ih (p + 1) _ (by omega) (smF_u (Or.inl rfl) (by omega) u9 s) (fun i hi => ⟨by rw [uI_ne _ _ _ (by decide)]; exact (v i hi).1, ?_⟩)
      rw [uI_app]
      by_cases e : i = p
      · rw [if_pos ⟨rfl, by omega⟩, if_pos (by omega), e]; exact hx
      · rw [if_neg (fun w => by have := w.2; omega), (v i hi).2]
        by_cases l : i < p
        · rw [if_pos l, if_pos (by omega)]
        · rw [if_neg l, if_neg (by omega)]
    by_cases c : (st p).toInt = -2000000
    · have b0 : bsS st U n fr p = 0 := by unfold bsS nN; rw [if_pos c, Nat.mul_zero, Nat.zero_div]
      have fin := step (nI (bsS st U n fr p)) (by unfold alS; rw [if_pos c, b0])
      have t00 : (nI 0).toInt = 0 := rfl
      refine w241_372 ?_
      simp only [↓forall_eq, ↓inB_iff, gK_hU, gL_hU, gR_hU, gIh, gJh, pI_hU, pJ_hU, hU_hU, uI_app, uJ_app, and_true, true_and, and_false, false_and, and_self, true_implies, false_implies, not_true, not_false_iff, if_true, if_false, eq_self, Nat.reduceLeDiff, Nat.reduceEqDiff, reduceCtorEq, i32c, ti0, ti1, tiM, Int.natCast_nonneg, Int.reduceEq, Int.reduceLE, Int.reduceLT, Int.reduceNeg, tl_i, Int32.reduceToInt, Int64.reduceToInt, tiA, tlM6, Int.toNat_natCast, natc, nI_1, Int.zero_sub, implies_true, not_false_eq_true, mf.1, mr_3 mf, mk_45 mf, ml_45 mf, mr_65 mf, mk_86 mf, ml_86 mf, mr_66 mf, mk_87 mf, ml_87 mf, mr_67 mf, mk_88 mf, ml_88 mf, mr_68 mf, mk_89 mf, ml_89 mf, e2, hUI, hpI, zU]
      refine w241_387 ?_
      simp only [↓forall_eq, ↓inB_iff, gK_hU, gL_hU, gR_hU, gIh, gJh, pI_hU, pJ_hU, hU_hU, uI_app, uJ_app, and_true, true_and, and_false, false_and, and_self, true_implies, false_implies, not_true, not_false_iff, if_true, if_false, eq_self, Nat.reduceLeDiff, Nat.reduceEqDiff, reduceCtorEq, i32c, ti0, ti1, tiM, Int.natCast_nonneg, Int.reduceEq, Int.reduceLE, Int.reduceLT, Int.reduceNeg, tl_i, Int32.reduceToInt, Int64.reduceToInt, tiA, tlM6, Int.toNat_natCast, natc, nI_1, Int.zero_sub, implies_true, not_false_eq_true, mf.1, mr_3 mf, mk_45 mf, ml_45 mf, mr_65 mf, mk_86 mf, ml_86 mf, mr_66 mf, mk_87 mf, ml_87 mf, mr_67 mf, mk_88 mf, ml_88 mf, mr_68 mf, mk_89 mf, ml_89 mf, e2, hUI, hpI, z0, t00, zU, z100, sp, c, x1, x2, x3, v86, a0]
      exact fin
    · have f0 := hfr p (by omega) c
      have hfI : (nI fr).toInt = fr := ti_n (by omega)
      have fne : ¬ nI fr = 0 := fun e => by rw [e] at hfI; have : (0 : Int32).toInt = 0 := rfl; omega
      have mlt : ∀ i, rmS st U n fr i < 100 := fun i => by have : rmS st U n fr i < fr := Nat.mod_lt _ (by omega); omega
      have mI : ∀ i, (nI (rmS st U n fr i)).toInt = (rmS st U n fr i : Nat) := fun i => ti_n (by have := mlt i; omega)
      have inner : ∀ (k q : Nat), q + k = U → Wp (d + 2) 241 (c387 (hU g I J) n fr nm p q sd (iZ (rstS st U n fr U)) (nI (cntP (bfS st U n fr p) q))) (RI K X) := by
        intro k
        induction k with
        | zero =>
          intro q hq
          have hqc : q = U := by omega
          subst hqc
          have cle := cntP_le (P := bfS st q n fr p) q
          have cI : (nI (cntP (bfS st q n fr p) q)).toInt = (cntP (bfS st q n fr p) q : Nat) := ti_n (by omega)
          refine w241_387 ?_
          simp only [↓forall_eq, ↓inB_iff, gK_hU, gL_hU, gR_hU, gIh, gJh, pI_hU, pJ_hU, hU_hU, uI_app, uJ_app, and_true, true_and, and_false, false_and, and_self, true_implies, false_implies, not_true, not_false_iff, if_true, if_false, eq_self, Nat.reduceLeDiff, Nat.reduceEqDiff, reduceCtorEq, i32c, ti0, ti1, tiM, Int.natCast_nonneg, Int.reduceEq, Int.reduceLE, Int.reduceLT, Int.reduceNeg, tl_i, Int32.reduceToInt, Int64.reduceToInt, tiA, tlM6, Int.toNat_natCast, natc, nI_1, Int.zero_sub, implies_true, not_false_eq_true, mf.1, mr_3 mf, mk_45 mf, ml_45 mf, mr_65 mf, mk_86 mf, ml_86 mf, mr_66 mf, mk_87 mf, ml_87 mf, mr_67 mf, mk_88 mf, ml_88 mf, mr_68 mf, mk_89 mf, ml_89 mf, e2, Int.lt_irrefl, hpI, z100, sp, c, x1, x2, x3, v86, a0, cI, rI]
          refine ⟨fun c2 => step _ ?_, fun c2 => step _ ?_⟩
          · unfold alS; rw [if_neg c, if_neg f0, if_pos c2]
          · unfold alS; rw [if_neg c, if_neg f0, if_neg c2, Nat.add_zero]
        | succ k ihk =>
          intro q hq
          have nx := ihk (q + 1) (by omega)
          rw [cntP] at nx
          have hqI : (nI q).toInt = q := ti_n (by omega)
          have zq : (q : Int) < U := by omega
          have zq1 : (q : Int) < 100 := by omega
          have sq : I 89 q = st q := s.2.2.2 q (by omega)
          have y1 : nI (100 * nm) + nI q = nI (100 * nm + q) := nI_add _ _
          have y2 : (nI (100 * nm + q)).toInt = ((100 * nm + q : Nat) : Int) := ti_n (by omega)
          have y3 : ((100 * nm + q : Nat) : Int) < 1200 := by omega
          have q87 : I 87 (100 * nm + q) = nI (nN st U q) := (v q (by omega)).1
          have IF := fun (K : Int32 → aH → Prop) X => isFirst_br (d := d + 1) (J := J) (K := K) (X := X) (p := q) mf u9 (by omega) s.2.2.2
          have yes : bfS st U n fr p q = true → Wp (d + 2) 241 (c387 (hU g I J) n fr nm p (q + 1) sd (iZ (rstS st U n fr U)) (nI (cntP (bfS st U n fr p) q + 1))) (RI K X) := fun z => by rw [if_pos z] at nx; exact nx
          have no : bfS st U n fr p q = false → Wp (d + 2) 241 (c387 (hU g I J) n fr nm p (q + 1) sd (iZ (rstS st U n fr U)) (nI (cntP (bfS st U n fr p) q))) (RI K X) := fun z => by rw [if_neg (by rw [z]; decide), Nat.add_zero] at nx; exact nx
          refine w241_387 ?_
          simp only [↓forall_eq, ↓inB_iff, gK_hU, gL_hU, gR_hU, gIh, gJh, pI_hU, pJ_hU, hU_hU, uI_app, uJ_app, and_true, true_and, and_false, false_and, and_self, true_implies, false_implies, not_true, not_false_iff, if_true, if_false, eq_self, Nat.reduceLeDiff, Nat.reduceEqDiff, reduceCtorEq, i32c, ti0, ti1, tiM, Int.natCast_nonneg, Int.reduceEq, Int.reduceLE, Int.reduceLT, Int.reduceNeg, tl_i, Int32.reduceToInt, Int64.reduceToInt, tiA, tlM6, Int.toNat_natCast, natc, nI_1, Int.zero_sub, implies_true, not_false_eq_true, mf.1, mr_3 mf, mk_45 mf, ml_45 mf, mr_65 mf, mk_86 mf, ml_86 mf, mr_66 mf, mk_87 mf, ml_87 mf, mr_67 mf, mk_88 mf, ml_88 mf, mr_68 mf, mk_89 mf, ml_89 mf, e2, hUI, hqI, hpI, zq, zq1, z100, sp, sq, c, x1, x2, x3, y1, y2, y3, v87, q87, mul, md, fne, ↓IF, bI0, a0, mI]
          have ub : isF st q = true → ∀ b : Bool, bfS st U n fr p q = b ↔ (decide (rmS st U n fr p < rmS st U n fr q) || (decide (rmS st U n fr q = rmS st U n fr p) && decide ((st q).toInt < (st p).toInt))) = b := fun hf b => by unfold bfS; rw [hf, Bool.true_and]
          refine ⟨fun z => no (by unfold bfS; rw [z]; rfl), fun z => ⟨fun e => no ?_, fun e => ⟨fun c2 => yes ?_, fun c2 => ⟨fun c3 => ⟨fun c4 => yes ?_, fun c4 => no ?_⟩, fun c3 => no ?_⟩⟩⟩⟩
          · have en : nN st U q = nN st U p := by
              have : eqS st q = eqS st p := by funext j; unfold eqS; rw [e]
              unfold nN; rw [this, e]
            rw [ub (bnf z), decide_eq_false (by unfold rmS; rw [en]; omega), decide_eq_false (show ¬ (st q).toInt < (st p).toInt by omega)]; simp
          · rw [ub (bnf z), decide_eq_true (by omega)]; rfl
          · rw [ub (bnf z), decide_eq_true (show rmS st U n fr q = rmS st U n fr p by omega), decide_eq_true c4]; simp
          · rw [ub (bnf z), decide_eq_false (by omega), decide_eq_false c4]; simp
          · rw [ub (bnf z), decide_eq_false (by omega), decide_eq_false (show ¬ rmS st U n fr q = rmS st U n fr p by omega)]; simp
      refine w241_372 ?_
      simp only [↓forall_eq, ↓inB_iff, gK_hU, gL_hU, gR_hU, gIh, gJh, pI_hU, pJ_hU, hU_hU, uI_app, uJ_app, and_true, true_and, and_false, false_and, and_self, true_implies, false_implies, not_true, not_false_iff, if_true, if_false, eq_self, Nat.reduceLeDiff, Nat.reduceEqDiff, reduceCtorEq, i32c, ti0, ti1, tiM, Int.natCast_nonneg, Int.reduceEq, Int.reduceLE, Int.reduceLT, Int.reduceNeg, tl_i, Int32.reduceToInt, Int64.reduceToInt, tiA, tlM6, Int.toNat_natCast, natc, nI_1, Int.zero_sub, implies_true, not_false_eq_true, mf.1, mr_3 mf, mk_45 mf, ml_45 mf, mr_65 mf, mk_86 mf, ml_86 mf, mr_66 mf, mk_87 mf, ml_87 mf, mr_67 mf, mk_88 mf, ml_88 mf, mr_68 mf, mk_89 mf, ml_89 mf, e2, hUI, hpI, zU]
      exact inner U 0 (by omega)
/-- the first allotment -/
theorem m_base {K : Int32 → aH → Prop} (mf : MF g) (u9 : U ≤ 100) (n12 : nm < 12) (n9 : n ≤ 100) (f9 : fr ≤ 100) (hU1 : I0 44 2 = nI U)
    (kk : ∀ I1, smF I0 I1 nm U st → (∀ i, i < U → I1 86 (100 * nm + i) = nI (bsS st U n fr i) ∧ I1 87 (100 * nm + i) = nI (nN st U i)) → Wp (d + 2) 241 (c372 (hU g I1 J) n fr nm 0 sd (iZ (rstS st U n fr U))) (RI K X)) :
    ∀ (m p : Nat) (I : Nat → Nat → Int32), p + m = U → smF I0 I nm U st → (∀ i, i < p → I 86 (100 * nm + i) = nI (bsS st U n fr i) ∧ I 87 (100 * nm + i) = nI (nN st U i)) → Wp (d + 2) 241 (c216 (hU g I J) n fr nm p sd (iZ (rstS st U n fr p))) (RI K X) := by
  have hUI : (nI U).toInt = U := ti_n (by omega)
  have a0 : ∀ x : Int32, x + 0 = x := Int32.add_zero
  have s0 : ∀ x : Int32, x - 0 = x := Int32.sub_zero
  have z01 : (0 : Int32) &&& 1 = 0 := rfl
  have hfI : (nI fr).toInt = fr := ti_n (by omega)
  have nb := fun i => bs_le (st := st) (U := U) (n := n) (fr := fr) (i := i) u9 n9
  have mul : ∀ i, nI n * nI (nN st U i) = nI (n * nN st U i) := fun i => nI_mul _ _
  intro m
  induction m with
  | zero =>
    intro p I hp s v
    have hpc : p = U := by omega
    subst hpc
    have e2 : I 44 2 = nI p := by rw [s.1 44 (by decide) (by decide) (by decide) (by decide)]; exact hU1
    refine w241_216 ?_
    simp only [↓forall_eq, ↓inB_iff, gK_hU, gL_hU, gR_hU, gIh, gJh, pI_hU, pJ_hU, hU_hU, uI_app, uJ_app, and_true, true_and, and_false, false_and, and_self, true_implies, false_implies, not_true, not_false_iff, if_true, if_false, eq_self, Nat.reduceLeDiff, Nat.reduceEqDiff, reduceCtorEq, i32c, ti0, ti1, tiM, Int.natCast_nonneg, Int.reduceEq, Int.reduceLE, Int.reduceLT, Int.reduceNeg, tl_i, Int32.reduceToInt, Int64.reduceToInt, tiA, tlM6, Int.toNat_natCast, natc, nI_1, Int.zero_sub, implies_true, not_false_eq_true, mf.1, mr_3 mf, mk_45 mf, ml_45 mf, mr_65 mf, mk_86 mf, ml_86 mf, mr_66 mf, mk_87 mf, ml_87 mf, mr_67 mf, mk_88 mf, ml_88 mf, mr_68 mf, mk_89 mf, ml_89 mf, e2, Int.lt_irrefl]
    exact kk I s v
  | succ m ih =>
    intro p I hp s v
    have hpI : (nI p).toInt = p := ti_n (by omega)
    have zU : (p : Int) < U := by omega
    have z100 : (p : Int) < 100 := by omega
    have e2 : I 44 2 = nI U := by rw [s.1 44 (by decide) (by decide) (by decide) (by decide)]; exact hU1
    have sp : I 89 p = st p := s.2.2.2 p (by omega)
    have x1 : nI (100 * nm) + nI p = nI (100 * nm + p) := nI_add _ _
    have x2 : (nI (100 * nm + p)).toInt = ((100 * nm + p : Nat) : Int) := ti_n (by omega)
    have x3 : ((100 * nm + p : Nat) : Int) < 1200 := by omega
    have rb9 := rst_b (st := st) (fr := fr) u9 n9 p (by omega)
    have bq := (nb p).2
    -- the numbers are put down, and the rest is less
    have fin : ∀ y : Int32, y = nI (bsS st U n fr p) → smF I0 (uI (uI (uI I 87 (100 * nm + p) (nI (nN st U p))) 86 (100 * nm + p) y) 88 (100 * nm + p) 0) nm U st ∧ ((isF st p = false → Wp (d + 2) 241 (c216 (hU g (uI (uI (uI I 87 (100 * nm + p) (nI (nN st U p))) 86 (100 * nm + p) y) 88 (100 * nm + p) 0) J) n fr nm (p + 1) sd (iZ (rstS st U n fr p))) (RI K X)) ∧ (isF st p = true → Wp (d + 2) 241 (c216 (hU g (uI (uI (uI I 87 (100 * nm + p) (nI (nN st U p))) 86 (100 * nm + p) y) 88 (100 * nm + p) 0) J) n fr nm (p + 1) sd (iZ (rstS st U n fr p) - y)) (RI K X))) := fun y hy => by
      have s' : smF I0 (uI (uI (uI I 87 (100 * nm + p) (nI (nN st U p))) 86 (100 * nm + p) y) 88 (100 * nm + p) 0) nm U st := smF_u (Or.inr (Or.inr rfl)) (by omega) u9 (smF_u (Or.inl rfl) (by omega) u9 (smF_u (Or.inr (Or.inl rfl)) (by omega) u9 s))
      have nx := ih (p + 1) _ (by omega) s' (fun i hi => by
        have h86 : uI (uI (uI I 87 (100 * nm + p) (nI (nN st U p))) 86 (100 * nm + p) y) 88 (100 * nm + p) 0 86 (100 * nm + i) = uI I 86 (100 * nm + p) y 86 (100 * nm + i) := by
          rw [uI_app, uI_app, uI_app, uI_app]; simp
        have h87 : uI (uI (uI I 87 (100 * nm + p) (nI (nN st U p))) 86 (100 * nm + p) y) 88 (100 * nm + p) 0 87 (100 * nm + i) = uI I 87 (100 * nm + p) (nI (nN st U p)) 87 (100 * nm + i) := by
          rw [uI_ne _ _ _ (by decide), uI_ne _ _ _ (by decide)]
        rw [h86, h87]
        by_cases e : i = p
        · subst e
          rw [uI_same, uI_same]; exact ⟨hy, rfl⟩
        · rw [uI_nj _ _ _ _ (by omega), uI_nj _ _ _ _ (by omega)]
          exact v i (by omega))
      unfold rstS at nx
      rw [smP] at nx
      refine ⟨s', fun hf => ?_, fun hf => ?_⟩
      · rw [if_neg (by rw [hf]; decide), Int.add_zero] at nx; exact nx
      · rw [if_pos hf] at nx
        have key : iZ (rstS st U n fr p) - y = iZ ((n : Int) - (smP (isF st) (fun j => (bsS st U n fr j : Nat)) p + (bsS st U n fr p : Nat))) := by
          rw [hy]
          unfold rstS
          have z1 := ti_z (z := (n : Int) - smP (isF st) (fun j => (bsS st U n fr j : Nat)) p) (by omega) (by omega)
          have z2 : (nI (bsS st U n fr p)).toInt = (bsS st U n fr p : Nat) := ti_n (by omega)
          exact ti_inj (by rw [ti_sub (by rw [z1, z2]; omega) (by rw [z1, z2]; omega), z1, z2, ti_z (by omega) (by omega)]; omega)
        rw [key]; exact nx
    have inner : ∀ (k q : Nat), q + k = U → Wp (d + 2) 241 (c231 (hU g I J) n fr nm p q sd (iZ (rstS st U n fr p)) (nI (if (st p).toInt = -2000000 then 0 else cntP (eqS st p) q))) (RI K X) := by
      intro k
      induction k with
      | zero =>
        intro q hq
        have hqc : q = U := by omega
        subst hqc
        have eN9 : (if (st p).toInt = -2000000 then 0 else cntP (eqS st p) q) = nN st q p := rfl
        rw [eN9]
        have IF := fun (I' : Nat → Nat → Int32) (s' : smF I0 I' nm q st) (K : Int32 → aH → Prop) X => isFirst_br (d := d + 1) (J := J) (K := K) (X := X) (p := p) mf u9 (by omega) s'.2.2.2
        refine w241_231 ?_
        simp only [↓forall_eq, ↓inB_iff, gK_hU, gL_hU, gR_hU, gIh, gJh, pI_hU, pJ_hU, hU_hU, uI_app, uJ_app, and_true, true_and, and_false, false_and, and_self, true_implies, false_implies, not_true, not_false_iff, if_true, if_false, eq_self, Nat.reduceLeDiff, Nat.reduceEqDiff, reduceCtorEq, i32c, ti0, ti1, tiM, Int.natCast_nonneg, Int.reduceEq, Int.reduceLE, Int.reduceLT, Int.reduceNeg, tl_i, Int32.reduceToInt, Int64.reduceToInt, tiA, tlM6, Int.toNat_natCast, natc, nI_1, Int.zero_sub, implies_true, not_false_eq_true, mf.1, mr_3 mf, mk_45 mf, ml_45 mf, mr_65 mf, mk_86 mf, ml_86 mf, mr_66 mf, mk_87 mf, ml_87 mf, mr_67 mf, mk_88 mf, ml_88 mf, mr_68 mf, mk_89 mf, ml_89 mf, e2, Int.lt_irrefl, x1, x2, x3, hfI, mul, z01]
        refine ⟨fun c => ?_, fun c => ?_⟩
        · have f0 : fr = 0 := by omega
          obtain ⟨s', n1, n2⟩ := fin 0 (by unfold bsS; rw [f0, Nat.div_zero]; rfl)
          rw [IF _ s']
          simp only [↓forall_eq, ↓inB_iff, gK_hU, gL_hU, gR_hU, gIh, gJh, pI_hU, pJ_hU, hU_hU, uI_app, uJ_app, and_true, true_and, and_false, false_and, and_self, true_implies, false_implies, not_true, not_false_iff, if_true, if_false, eq_self, Nat.reduceLeDiff, Nat.reduceEqDiff, reduceCtorEq, i32c, ti0, ti1, tiM, Int.natCast_nonneg, Int.reduceEq, Int.reduceLE, Int.reduceLT, Int.reduceNeg, tl_i, Int32.reduceToInt, Int64.reduceToInt, tiA, tlM6, Int.toNat_natCast, natc, nI_1, Int.zero_sub, implies_true, not_false_eq_true, mf.1, mr_3 mf, mk_45 mf, ml_45 mf, mr_65 mf, mk_86 mf, ml_86 mf, mr_66 mf, mk_87 mf, ml_87 mf, mr_67 mf, mk_88 mf, ml_88 mf, mr_68 mf, mk_89 mf, ml_89 mf, bI0, s0, x1, x2, x3]
          refine ⟨fun z => n1 z, fun z => ?_⟩
          have := n2 (bnf z)
          rw [s0] at this
          exact this
        · have fne : ¬ nI fr = 0 := fun e => by rw [e] at hfI; have : (0 : Int32).toInt = 0 := rfl; omega
          have dv : nI (n * nN st q p) / nI fr = nI (bsS st q n fr p) := nI_div (by have := (nb p).1; omega) (by omega)
          rw [dv]
          obtain ⟨s', n1, n2⟩ := fin (nI (bsS st q n fr p)) rfl
          refine ⟨fne, ?_⟩
          rw [IF _ s']
          simp only [↓forall_eq, ↓inB_iff, gK_hU, gL_hU, gR_hU, gIh, gJh, pI_hU, pJ_hU, hU_hU, uI_app, uJ_app, and_true, true_and, and_false, false_and, and_self, true_implies, false_implies, not_true, not_false_iff, if_true, if_false, eq_self, Nat.reduceLeDiff, Nat.reduceEqDiff, reduceCtorEq, i32c, ti0, ti1, tiM, Int.natCast_nonneg, Int.reduceEq, Int.reduceLE, Int.reduceLT, Int.reduceNeg, tl_i, Int32.reduceToInt, Int64.reduceToInt, tiA, tlM6, Int.toNat_natCast, natc, nI_1, Int.zero_sub, implies_true, not_false_eq_true, mf.1, mr_3 mf, mk_45 mf, ml_45 mf, mr_65 mf, mk_86 mf, ml_86 mf, mr_66 mf, mk_87 mf, ml_87 mf, mr_67 mf, mk_88 mf, ml_88 mf, mr_68 mf, mk_89 mf, ml_89 mf, bI0, s0, x1, x2, x3]
          exact ⟨fun z => n1 z, fun z => n2 (bnf z)⟩
      | succ k ihk =>
        intro q hq
        have nx := ihk (q + 1) (by omega)
        have hqI : (nI q).toInt = q := ti_n (by omega)
        have zq : (q : Int) < U := by omega
        have zq1 : (q : Int) < 100 := by omega
        have sq : I 89 q = st q := s.2.2.2 q (by omega)
        refine w241_231 ?_
        simp only [↓forall_eq, ↓inB_iff, gK_hU, gL_hU, gR_hU, gIh, gJh, pI_hU, pJ_hU, hU_hU, uI_app, uJ_app, and_true, true_and, and_false, false_and, and_self, true_implies, false_implies, not_true, not_false_iff, if_true, if_false, eq_self, Nat.reduceLeDiff, Nat.reduceEqDiff, reduceCtorEq, i32c, ti0, ti1, tiM, Int.natCast_nonneg, Int.reduceEq, Int.reduceLE, Int.reduceLT, Int.reduceNeg, tl_i, Int32.reduceToInt, Int64.reduceToInt, tiA, tlM6, Int.toNat_natCast, natc, nI_1, Int.zero_sub, implies_true, not_false_eq_true, mf.1, mr_3 mf, mk_45 mf, ml_45 mf, mr_65 mf, mk_86 mf, ml_86 mf, mr_66 mf, mk_87 mf, ml_87 mf, mr_67 mf, mk_88 mf, ml_88 mf, mr_68 mf, mk_89 mf, ml_89 mf, e2, hUI, hqI, hpI, zq, zq1, z100, sp, sq, a0]
        refine ⟨fun c => ?_, fun c => ?_⟩
        · rw [if_pos c] at nx ⊢; exact nx
        · rw [if_neg c] at nx ⊢
          rw [cntP] at nx
          refine ⟨fun e => ?_, fun e => ?_⟩
          · rw [if_pos (show eqS st p q = true from decide_eq_true e)] at nx; exact nx
          · rw [if_neg (by rw [show eqS st p q = false from decide_eq_false e]; decide), Nat.add_zero] at nx; exact nx
    refine w241_216 ?_
    simp only [↓forall_eq, ↓inB_iff, gK_hU, gL_hU, gR_hU, gIh, gJh, pI_hU, pJ_hU, hU_hU, uI_app, uJ_app, and_true, true_and, and_false, false_and, and_self, true_implies, false_implies, not_true, not_false_iff, if_true, if_false, eq_self, Nat.reduceLeDiff, Nat.reduceEqDiff, reduceCtorEq, i32c, ti0, ti1, tiM, Int.natCast_nonneg, Int.reduceEq, Int.reduceLE, Int.reduceLT, Int.reduceNeg, tl_i, Int32.reduceToInt, Int64.reduceToInt, tiA, tlM6, Int.toNat_natCast, natc, nI_1, Int.zero_sub, implies_true, not_false_eq_true, mf.1, mr_3 mf, mk_45 mf, ml_45 mf, mr_65 mf, mk_86 mf, ml_86 mf, mr_66 mf, mk_87 mf, ml_87 mf, mr_67 mf, mk_88 mf, ml_88 mf, mr_68 mf, mk_89 mf, ml_89 mf, e2, hUI, hpI, zU]
    have := inner U 0 (by omega)
    have e0 : (if (st p).toInt = -2000000 then 0 else cntP (eqS st p) 0) = 0 := by split <;> rfl
    rw [e0] at this
    exact this
end SMM
