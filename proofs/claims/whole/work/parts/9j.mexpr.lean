/-! READING A TEXT: the model's sums and conditions -/
section MEX
variable {d L p q w W cnt nf : Nat} {g : aH} {X : Nat → aH → Prop} {B : Nat → Int32} {I I' : Nat → Nat → Int32} {J J' : Nat → Nat → Int64} {nam : Nat → Int64} {K : Int32 → aH → Prop}
theorem trF_ok {s : Nat} {v : Int32} {sg : Bool} (hp : p ≤ L) (hc : cnt ≤ 20) (h : trF B L nam cnt p = (some (s, v), q)) : tOK (sg, s, v) := by
  have e := lxE_le (B := B) hp
  unfold trF at h
  split at h
  · rename_i c
    have nb := lxN_b hp c
    cases h
    exact tOK_0 (by omega)
  · split at h
    · split at h
      · rename_i c
        have nb := lxN_b e.2.1 c
        cases h
        refine tOK_0 ?_
        rw [ti_neg (by omega)]; omega
      · cases h
    · split at h
      · split at h
        · rename_i c
          have nb := lxN_b e.2.1 c.1
          cases h
          exact ⟨by show 2 ≤ 2; omega, fun z => absurd z (by show ¬ (2 = 0); omega), fun z => absurd z (by show ¬ (2 = 1); omega), fun _ => ⟨nb.1, c.2⟩⟩
        · cases h
      · split at h
        · rename_i c
          have nb := nmF_b hc c.2
          cases h
          exact ⟨by show 1 ≤ 2; omega, fun z => absurd z (by show ¬ (1 = 0); omega), fun _ => nb, fun z => absurd z (by show ¬ (1 = 2); omega)⟩
        · cases h
theorem fdN_kpt {x : Int64} (hx : kpt x) : ∀ n s, (∀ i, s ≤ i → i < s + n → ¬ kpt (nam i)) → fdN nam x n s = -1 := by
  intro n
  induction n with
  | zero => intro s _; rfl
  | succ n ih =>
    intro s hk
    rw [fdN, if_neg (fun e => hk s (Nat.le_refl _) (by omega) (by rw [e]; exact hx))]
    exact ih (s + 1) (fun i h1 h2 => hk i (by omega) (by omega))
theorem kpt_reg : kpt 7497063 := Or.inr (Or.inr (Or.inr (Or.inr (Or.inr (Or.inr (Or.inr (by decide)))))))
theorem m_rterm (mf : MF g) (t : tpM I B L) (a : atM I J B L p) (nc : nmM I J nf cnt nam) (hp : p ≤ L) (hw : I 44 27 = nI w) (hle : w ≤ W + lxS B L p) (hW : W ≤ 6000)
    (ok : ∀ s v q I' J', trF B L nam cnt p = (some (s, v), q) → fX w I I' J J' → atM I' J' B L q → q ≤ L → I' 44 27 = nI (w + 1) → w + 1 ≤ W + lxS B L q → lxS B L p + 1 ≤ lxS B L q → I' 63 w = nI s → I' 64 w = v → K 1 (hU g I' J'))
    (no : ∀ q I' J', trF B L nam cnt p = (none, q) → fX w I I' J J' → I' 44 30 = nI (lxS B L q) → K 0 (hU g I' J')) : CI (d + 3) 111 [vR 44] (hU g I J) K X := by
  have l12 := t.2.1
  obtain ⟨kI, k2, k3, k4, -⟩ := kdM_i (lxK B L p)
  obtain ⟨qI, q2, q3, -⟩ := kdM_i (lxK B L (lxE B L p))
  -- a thing is laid, a sign further
  have done : ∀ (p1 : Nat) (I1 : Nat → Nat → Int32) (J1 : Nat → Nat → Int64) (s : Nat) (x v : Int32), fX w I I1 J J1 → tpM I1 B L → atM I1 J1 B L p1 → p1 ≤ L → lxK B L p1 ≠ 6 → lxS B L p ≤ lxS B L p1 → I1 44 27 = nI w → x = nI s → trF B L nam cnt p = (some (s, v), lxE B L p1) → CV (d + 2) 109 [vR 44, vI x, vI v] (hU g I1 J1) (fun h0 => gK h0 44 = 14 ∧ CV (d + 2) 104 [vR 44] h0 (fun h1 => K 1 h1) X) X := by
    intro p1 I1 J1 s x v u1 t1 a1 hp1 hk1 hs1 hw1 hx htr
    have go := lxK_go (B := B) hp1 hk1
    rw [lay_br mf hw1 (by omega)]
    have a2 := atM_lay (w := w) (x := x) (y := v) a1
    have u2 := fX_lay (w := w) (x := x) (y := v) (I := I1) (J := J1)
    have v2 := lay_v (w := w) (x := x) (y := v) (I := I1)
    generalize uI (uI (uI I1 63 w x) 64 w v) 44 27 (nI (w + 1)) = I2 at *
    refine ⟨by rw [gK_hU]; exact mf.1, ?_⟩
    refine m_next mf (tpM_fX t1 u2) go.2.2.2 a2.1.1 (fun I3 J3 u3 a3 => ?_)
    have v3 : fX (w + 1) I2 I3 J1 J3 := fX_N u3
    refine ok s v _ I3 J3 htr (fX_tr u1 (fX_tr u2 v3 (by omega)) (Nat.le_refl _)) a3 go.2.2.2 ?_ (by omega) (by omega) ?_ ?_
    · rw [u3.2.1 27 (by decide) (by decide) (by decide) (by decide)]; exact v2.2.2
    · rw [u3.1 63 (by decide), v2.1]; exact hx
    · rw [u3.1 64 (by decide)]; exact v2.2.1
  have fwd : ∀ (K' : aH → Prop), lxK B L p ≠ 6 → (∀ I1 J1, fX w I I1 J J1 → tpM I1 B L → atM I1 J1 B L (lxE B L p) → I1 44 27 = nI w → K' (hU g I1 J1)) → CV (d + 2) 104 [vR 44] (hU g I J) K' X := by
    intro K' h6 kk
    have go := lxK_go (B := B) hp h6
    refine m_next mf t go.2.2.2 a.1.1 (fun I1 J1 u1 a1 => kk I1 J1 (fX_N u1) (tpM_fN t u1) a1 ?_)
    rw [u1.2.1 27 (by decide) (by decide) (by decide) (by decide)]; exact hw
  by_cases c1 : lxK B L p = 1
  · have z3 : ((kdM (lxK B L p) : Nat) : Int) = 3 := by have := k3.2 c1; omega
    have hn : I 44 32 = lxN B L p := a.2.1 c1
    refine m111 ?_
    simp only [↓forall_eq, ↓inB_iff, gK_hU, gL_hU, gR_hU, gIh, gJh, pI_hU, pJ_hU, hU_hU, uI_app, uJ_app, and_true, true_and, and_false, false_and, and_self, true_implies, false_implies, not_true, not_false_iff, if_true, if_false, eq_self, Nat.reduceLeDiff, Nat.reduceEqDiff, reduceCtorEq, i32c, ti0, ti1, tiM, Int.natCast_nonneg, Int.reduceEq, Int.reduceLE, Int.reduceLT, Int.reduceNeg, tl_i, Int32.reduceToInt, Int64.reduceToInt, tiA, tlM6, Int.toNat_natCast, natc, nI_1, Int.zero_sub, implies_true, not_false_eq_true, mf.1, a.1.2.1, kI, z3, hn]
    exact done p I J 0 _ _ fX_refl t a hp (by omega) (Nat.le_refl _) hw rfl (by unfold trF; rw [if_pos c1])
  · have z3 : ¬ ((kdM (lxK B L p) : Nat) : Int) = 3 := fun z => c1 (k3.1 (by omega))
    by_cases c4 : lxK B L p = 4
    · have z4 : ((kdM (lxK B L p) : Nat) : Int) = 4 := by have := k4.2 (Or.inr c4); omega
      have hn : I 44 32 = 4 := a.2.2.2.2.1 c4
      have go := lxK_go (B := B) hp (by omega)
      refine m111 ?_
      simp only [↓forall_eq, ↓inB_iff, gK_hU, gL_hU, gR_hU, gIh, gJh, pI_hU, pJ_hU, hU_hU, uI_app, uJ_app, and_true, true_and, and_false, false_and, and_self, true_implies, false_implies, not_true, not_false_iff, if_true, if_false, eq_self, Nat.reduceLeDiff, Nat.reduceEqDiff, reduceCtorEq, i32c, ti0, ti1, tiM, Int.natCast_nonneg, Int.reduceEq, Int.reduceLE, Int.reduceLT, Int.reduceNeg, tl_i, Int32.reduceToInt, Int64.reduceToInt, tiA, tlM6, Int.toNat_natCast, natc, nI_1, Int.zero_sub, implies_true, not_false_eq_true, mf.1, a.1.2.1, kI, z3, z4, hn]
      refine fwd _ (by omega) (fun I1 J1 u1 t1 a1 w1 => ?_)
      simp only [↓forall_eq, ↓inB_iff, gK_hU, gL_hU, gR_hU, gIh, gJh, pI_hU, pJ_hU, hU_hU, uI_app, uJ_app, and_true, true_and, and_false, false_and, and_self, true_implies, false_implies, not_true, not_false_iff, if_true, if_false, eq_self, Nat.reduceLeDiff, Nat.reduceEqDiff, reduceCtorEq, i32c, ti0, ti1, tiM, Int.natCast_nonneg, Int.reduceEq, Int.reduceLE, Int.reduceLT, Int.reduceNeg, tl_i, Int32.reduceToInt, Int64.reduceToInt, tiA, tlM6, Int.toNat_natCast, natc, nI_1, Int.zero_sub, implies_true, not_false_eq_true, mf.1, a1.1.2.1, qI]
      refine ⟨fun z => ?_, fun z => ?_⟩
      · have c2 : lxK B L (lxE B L p) = 1 := q3.1 (by omega)
        rw [a1.2.1 c2]
        have := done (lxE B L p) I1 J1 0 0 (-lxN B L (lxE B L p)) u1 t1 a1 go.2.2.2 (by omega) (by omega) w1 rfl (by unfold trF; rw [if_neg c1, if_pos c4, if_pos c2])
        exact this
      · refine no (lxE B L p) I1 J1 ?_ u1 a1.1.2.2
        unfold trF; rw [if_neg c1, if_pos c4, if_neg (fun y => z (by have := q3.2 y; omega))]
    · -- a word, or nothing
      have at69 : Wp (d + 3) 111 (69, [some (vR 44)], [], hU g I J) (RI K X) := by
        refine w111_69 ?_
        simp only [↓forall_eq, ↓inB_iff, gK_hU, gL_hU, gR_hU, gIh, gJh, pI_hU, pJ_hU, hU_hU, uI_app, uJ_app, and_true, true_and, and_false, false_and, and_self, true_implies, false_implies, not_true, not_false_iff, if_true, if_false, eq_self, Nat.reduceLeDiff, Nat.reduceEqDiff, reduceCtorEq, i32c, ti0, ti1, tiM, Int.natCast_nonneg, Int.reduceEq, Int.reduceLE, Int.reduceLT, Int.reduceNeg, tl_i, Int32.reduceToInt, Int64.reduceToInt, tiA, tlM6, Int.toNat_natCast, natc, nI_1, Int.zero_sub, implies_true, not_false_eq_true, mf.1, ↓isWord_br mf a]
        refine ⟨fun cr => ?_, fun cr => ?_⟩
        · have k6 : lxK B L p ≠ 6 := fun z => by rw [cr.1] at z; cases z
          have go := lxK_go (B := B) hp k6
          refine fwd _ k6 (fun I1 J1 u1 t1 a1 w1 => ?_)
          simp only [↓forall_eq, ↓inB_iff, gK_hU, gL_hU, gR_hU, gIh, gJh, pI_hU, pJ_hU, hU_hU, uI_app, uJ_app, and_true, true_and, and_false, false_and, and_self, true_implies, false_implies, not_true, not_false_iff, if_true, if_false, eq_self, Nat.reduceLeDiff, Nat.reduceEqDiff, reduceCtorEq, i32c, ti0, ti1, tiM, Int.natCast_nonneg, Int.reduceEq, Int.reduceLE, Int.reduceLT, Int.reduceNeg, tl_i, Int32.reduceToInt, Int64.reduceToInt, tiA, tlM6, Int.toNat_natCast, natc, nI_1, Int.zero_sub, implies_true, not_false_eq_true, mf.1, a1.1.2.1, qI]
          refine ⟨fun z => ?_, fun z => ?_⟩
          · have c2 : lxK B L (lxE B L p) = 1 := q3.1 (by clear cr; omega)
            rw [a1.2.1 c2]
            refine ⟨fun z5 => ?_, fun z5 => ?_⟩
            · refine no (lxE B L p) I1 J1 ?_ u1 a1.1.2.2
              unfold trF; rw [if_neg c1, if_neg c4, if_pos cr, if_neg (fun y => by have := y.2; omega)]
            · have := done (lxE B L p) I1 J1 2 2 (lxN B L (lxE B L p)) u1 t1 a1 go.2.2.2 (by clear cr; omega) (by clear cr; omega) w1 rfl (by unfold trF; rw [if_neg c1, if_neg c4, if_pos cr, if_pos ⟨c2, by omega⟩])
              exact this
          · refine no (lxE B L p) I1 J1 ?_ u1 a1.1.2.2
            unfold trF; rw [if_neg c1, if_neg c4, if_pos cr, if_neg (fun y => z (by have := q3.2 y.1; omega))]
        · simp only [↓forall_eq, ↓inB_iff, gK_hU, gL_hU, gR_hU, gIh, gJh, pI_hU, pJ_hU, hU_hU, uI_app, uJ_app, and_true, true_and, and_false, false_and, and_self, true_implies, false_implies, not_true, not_false_iff, if_true, if_false, eq_self, Nat.reduceLeDiff, Nat.reduceEqDiff, reduceCtorEq, i32c, ti0, ti1, tiM, Int.natCast_nonneg, Int.reduceEq, Int.reduceLE, Int.reduceLT, Int.reduceNeg, tl_i, Int32.reduceToInt, Int64.reduceToInt, tiA, tlM6, Int.toNat_natCast, natc, nI_1, Int.zero_sub, implies_true, not_false_eq_true, mf.1, a.1.2.1, kI]
          refine ⟨fun z => ?_, fun z => ?_⟩
          · have ck : lxK B L p = 0 := k2.1 (by omega)
            have xw := lxW_ne hp ck
            have NM := fun (K : Int32 → aH → Prop) X => nameOf_br (d := d + 2) (K := K) (X := X) mf nc xw
            simp only [↓forall_eq, ↓inB_iff, gK_hU, gL_hU, gR_hU, gIh, gJh, pI_hU, pJ_hU, hU_hU, uI_app, uJ_app, and_true, true_and, and_false, false_and, and_self, true_implies, false_implies, not_true, not_false_iff, if_true, if_false, eq_self, Nat.reduceLeDiff, Nat.reduceEqDiff, reduceCtorEq, i32c, ti0, ti1, tiM, Int.natCast_nonneg, Int.reduceEq, Int.reduceLE, Int.reduceLT, Int.reduceNeg, tl_i, Int32.reduceToInt, Int64.reduceToInt, tiA, tlM6, Int.toNat_natCast, natc, nI_1, Int.zero_sub, implies_true, not_false_eq_true, mf.1, a.2.2.2.2.2 ck, nc.1.1, ↓keptM_br, ↓NM]
            refine ⟨fun kp => ?_, fun kp => ?_⟩
            · refine no p I J ?_ fX_refl a.1.2.2
              have nn : nmF nam cnt (lxW B L p) = -1 := fdN_kpt kp cnt 0 (fun i _ h2 => (nc.2 i (by omega)).2.2)
              unfold trF; rw [if_neg c1, if_neg c4, if_neg cr, if_neg (fun y => y.2 nn)]
            · refine ⟨fun zn => ?_, fun zn => ?_⟩
              · refine no p I J ?_ fX_refl a.1.2.2
                unfold trF; rw [if_neg c1, if_neg c4, if_neg cr, if_neg (fun y => y.2 (ti_inj zn))]
              · have := done p I J 1 1 (nmF nam cnt (lxW B L p)) fX_refl t a hp (by omega) (Nat.le_refl _) hw rfl (by unfold trF; rw [if_neg c1, if_neg c4, if_neg cr, if_pos ⟨ck, fun y => zn (by rw [y]; rfl)⟩])
                exact this
          · refine no p I J ?_ fX_refl a.1.2.2
            unfold trF; rw [if_neg c1, if_neg c4, if_neg cr, if_neg (fun y => z (by have := k2.2 y.1; omega))]
      refine m111 ?_
      simp only [↓forall_eq, ↓inB_iff, gK_hU, gL_hU, gR_hU, gIh, gJh, pI_hU, pJ_hU, hU_hU, uI_app, uJ_app, and_true, true_and, and_false, false_and, and_self, true_implies, false_implies, not_true, not_false_iff, if_true, if_false, eq_self, Nat.reduceLeDiff, Nat.reduceEqDiff, reduceCtorEq, i32c, ti0, ti1, tiM, Int.natCast_nonneg, Int.reduceEq, Int.reduceLE, Int.reduceLT, Int.reduceNeg, tl_i, Int32.reduceToInt, Int64.reduceToInt, tiA, tlM6, Int.toNat_natCast, natc, nI_1, Int.zero_sub, implies_true, not_false_eq_true, mf.1, a.1.2.1, kI, z3]
      refine ⟨fun z => ⟨fun y => ?_, fun _ => at69⟩, fun _ => at69⟩
      have c3 : lxK B L p = 3 := by
        have := k4.1 (by omega); omega
      rw [a.2.2.2.1 c3] at y
      exact absurd y (by decide)
end MEX
