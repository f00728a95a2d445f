/-! FORM: the model's loop, the whole -/
section MFB
variable {d L p q w w0 w1 w2 W k cnt nf s : Nat} {g : aH} {X : Nat → aH → Prop} {B : Nat → Int32} {I0 I I' : Nat → Nat → Int32} {J0 J J' : Nat → Nat → Int64} {nam : Nat → Int64} {K : Int32 → aH → Prop} {hd : Int64 × Int32 × Int32 × List Tm} {cs : List Cmp} {st : Nat → StD}
theorem mdW_step (m : mdW I J nf st cnt w) (h20 : cnt < 20) (fq : fQ (20 * nf + cnt) w I I' J J') (ms : mdS I' J' (20 * nf + cnt) s hd cs w1) (hw : I' 44 27 = nI w1) (hle : w ≤ w1) (h3 : s ≤ 3 ∧ (2 ≤ s → hd.1 = 0) ∧ ¬ kpt hd.1) : mdW (uI I' 53 nf (nI (cnt + 1))) J' nf (up1 st cnt (s, hd, cs)) (cnt + 1) w1 := by
  obtain ⟨⟨m1, m2, m3, m4, m5⟩, m6⟩ := m
  refine ⟨⟨by rw [uI_ne _ _ _ (by decide), fq.2.1 14 (by decide) (by decide) (by decide) (by decide) (by decide) (by decide)]; exact m1, m2, by rw [uI_same], by omega, by rw [uI_ne _ _ _ (by decide)]; exact hw⟩, fun i hi => ?_⟩
  have cg : ∀ {k s hd cs w}, mdS I' J' k s hd cs w → mdS (uI I' 53 nf (nI (cnt + 1))) J' k s hd cs w := fun {k s hd cs w} z => mdS_cg z (fun a h1 h2 => by rw [uI_ne _ _ _ (by omega)]) rfl
  by_cases e : i = cnt
  · subst e
    rw [up1_eq]
    exact ⟨cg ms, h3.1, h3.2.1, h3.2.2⟩
  · rw [up1_ne e]
    obtain ⟨y1, y2⟩ := m6 i (by omega)
    exact ⟨cg (mdS_fQ y1 fq (by omega) (Nat.le_refl _) hle), y2⟩
theorem mdW_N (m : mdW I J nf st cnt w) (u : fN I I' J J') : mdW I' J' nf st cnt w := by
  obtain ⟨⟨m1, m2, m3, m4, m5⟩, m6⟩ := m
  refine ⟨⟨by rw [u.2.1 14 (by decide) (by decide) (by decide) (by decide)]; exact m1, m2, by rw [u.1 53 (by decide)]; exact m3, m4, by rw [u.2.1 27 (by decide) (by decide) (by decide) (by decide)]; exact m5⟩, fun i hi => ?_⟩
  obtain ⟨y1, y2⟩ := m6 i hi
  exact ⟨mdS_cg y1 (fun a h1 h2 => by rw [u.1 a (by omega)]) (by rw [u.2.2 55 (by decide)]), y2⟩
/-- a fault: back to where the things were -/
theorem m_fbad {x : Int32} (mf : MF g) (hx : I 44 30 = x) (kk : K (-1 - x) (hU g (uI (uI I 44 13 0) 44 27 (nI w0)) J)) : Wp (d + 7) 115 (57, [some (vR 44), some (vI (nI w0)), some (vI 0)], [], hU g I J) (RI K X) := by
  refine w115_57 ?_
  simp only [↓forall_eq, ↓inB_iff, gK_hU, gL_hU, gR_hU, gIh, gJh, pI_hU, pJ_hU, hU_hU, uI_app, uJ_app, and_true, true_and, and_false, false_and, and_self, true_implies, false_implies, not_true, not_false_iff, if_true, if_false, eq_self, Nat.reduceLeDiff, Nat.reduceEqDiff, reduceCtorEq, i32c, ti0, ti1, tiM, Int.natCast_nonneg, Int.reduceEq, Int.reduceLE, Int.reduceLT, Int.reduceNeg, tl_i, Int32.reduceToInt, Int64.reduceToInt, tiA, tlM6, Int.toNat_natCast, natc, nI_1, Int.zero_sub, implies_true, not_false_eq_true, mf.1, mr_15 mf, mk_53 mf, ml_53 mf, hx]
  exact kk
theorem m_forms (mf : MF g) (hW : W ≤ 6000) : ∀ (n cnt w p : Nat) (st : Nat → StD) (I : Nat → Nat → Int32) (J : Nat → Nat → Int64), cnt + n = 20 → tpM I B L → atM I J B L p → p ≤ L → lxK B L p ≠ 6 → mdW I J nf st cnt w → w ≤ W + lxS B L p → w0 ≤ w → stA st cnt ≤ 10 →
    (∀ cnt' w' st' q I' J', fmF B L n cnt st p = (some (cnt', st'), q) → mdW I' J' nf st' cnt' w' → w' ≤ W + L → w0 ≤ w' → fF nf w0 I I' J J' → K (nI nf) (hU g (uI (uI I' 44 13 0) 44 14 (nI (nf + 1))) J')) →
    (∀ q I' J', fmF B L n cnt st p = (none, q) → fF nf w0 I I' J J' → K (-1 - nI (lxS B L q)) (hU g (uI (uI I' 44 13 0) 44 27 (nI w0)) J')) → Wp (d + 7) 115 (57, [some (vR 44), some (vI (nI w0)), some (vI 1)], [], hU g I J) (RI K X) := by
  intro n
  induction n with
  | zero =>
    intro cnt w p st I J hn t a hp hk6 m hle hw0 h10 ok no
    have hc : cnt = 20 := by omega
    subst hc
    obtain ⟨qI, q2, -, -, -, -, q0⟩ := kdM_i (lxK B L p)
    have z0 : ¬ ((kdM (lxK B L p) : Nat) : Int) = 0 := fun z => hk6 (q0.1 (by omega))
    have fI : (nI nf).toInt = nf := ti_n (by have := m.1.2.1; omega)
    have f6 : (nf : Int) < 6 := by have := m.1.2.1; omega
    have c20 : (nI 20).toInt = 20 := rfl
    have bad := m_fbad (d := d) (I := I) (J := J) (w0 := w0) (K := K) (X := X) mf a.1.2.2 (no p I J (by rw [fmF]) fF_refl)
    refine w115_57 ?_
    simp only [↓forall_eq, ↓inB_iff, gK_hU, gL_hU, gR_hU, gIh, gJh, pI_hU, pJ_hU, hU_hU, uI_app, uJ_app, and_true, true_and, and_false, false_and, and_self, true_implies, false_implies, not_true, not_false_iff, if_true, if_false, eq_self, Nat.reduceLeDiff, Nat.reduceEqDiff, reduceCtorEq, i32c, ti0, ti1, tiM, Int.natCast_nonneg, Int.reduceEq, Int.reduceLE, Int.reduceLT, Int.reduceNeg, tl_i, Int32.reduceToInt, Int64.reduceToInt, tiA, tlM6, Int.toNat_natCast, natc, nI_1, Int.zero_sub, implies_true, not_false_eq_true, mf.1, mr_15 mf, mk_53 mf, ml_53 mf, a.1.2.1, qI, z0]
    refine m114 ?_
    simp only [↓forall_eq, ↓inB_iff, gK_hU, gL_hU, gR_hU, gIh, gJh, pI_hU, pJ_hU, hU_hU, uI_app, uJ_app, and_true, true_and, and_false, false_and, and_self, true_implies, false_implies, not_true, not_false_iff, if_true, if_false, eq_self, Nat.reduceLeDiff, Nat.reduceEqDiff, reduceCtorEq, i32c, ti0, ti1, tiM, Int.natCast_nonneg, Int.reduceEq, Int.reduceLE, Int.reduceLT, Int.reduceNeg, tl_i, Int32.reduceToInt, Int64.reduceToInt, tiA, tlM6, Int.toNat_natCast, natc, nI_1, Int.zero_sub, implies_true, not_false_eq_true, mf.1, mr_15 mf, mk_53 mf, ml_53 mf, mr_16 mf, mk_54 mf, ml_54 mf, mr_17 mf, mk_55 mf, ml_55 mf, mr_18 mf, mk_56 mf, ml_56 mf, mr_19 mf, mk_57 mf, ml_57 mf, mr_20 mf, mk_58 mf, ml_58 mf, mr_21 mf, mk_59 mf, ml_59 mf, mr_22 mf, mk_60 mf, ml_60 mf, mr_23 mf, mk_61 mf, ml_61 mf, mr_24 mf, mk_62 mf, ml_62 mf, a.1.2.1, qI, m.1.1, fI, f6, m.1.2.2.1, c20]
    exact ⟨fun _ => bad, fun _ => bad⟩
  | succ n ih =>
    intro cnt w p st I J hn t a hp hk6 m hle hw0 h10 ok no
    have l12 := t.2.1
    have h6 := m.1.2.1
    obtain ⟨qI, -, -, -, -, -, q0⟩ := kdM_i (lxK B L p)
    have z0 : ¬ ((kdM (lxK B L p) : Nat) : Int) = 0 := fun z => hk6 (q0.1 (by omega))
    have fI : (nI nf).toInt = nf := ti_n (by omega)
    have f6 : (nf : Int) < 6 := by omega
    refine w115_57 ?_
    simp only [↓forall_eq, ↓inB_iff, gK_hU, gL_hU, gR_hU, gIh, gJh, pI_hU, pJ_hU, hU_hU, uI_app, uJ_app, and_true, true_and, and_false, false_and, and_self, true_implies, false_implies, not_true, not_false_iff, if_true, if_false, eq_self, Nat.reduceLeDiff, Nat.reduceEqDiff, reduceCtorEq, i32c, ti0, ti1, tiM, Int.natCast_nonneg, Int.reduceEq, Int.reduceLE, Int.reduceLT, Int.reduceNeg, tl_i, Int32.reduceToInt, Int64.reduceToInt, tiA, tlM6, Int.toNat_natCast, natc, nI_1, Int.zero_sub, implies_true, not_false_eq_true, mf.1, mr_15 mf, mk_53 mf, ml_53 mf, a.1.2.1, qI, z0]
    refine m_stmt (nam := sdN st) (ak := stA st cnt) (w0 := w) (k := 20 * nf + cnt) mf hW ⟨rfl, by omega⟩ t a (nmM_F m) hp (by omega) m.1.2.2.2.2 hle (ak_F m cnt (Nat.le_refl _)) h10 (fun s hd cs q w1 I1 J1 hr c5 fq ms w1e le1 ww a1 hq => ?_) (fun q I1 J1 hr fq x30 => ?_)
    · have go := lxK_go (B := B) hq (by omega)
      have h3 := stF_hd3 hr
      have z10 := stF_10 hr
      have m1 := mdW_step m (by omega) fq ms w1e ww h3
      have a10 : stA (up1 st cnt (s, hd, cs)) (cnt + 1) ≤ 10 := by
        rw [stA_up]
        dsimp only
        by_cases s0 : s = 0
        · rw [if_pos s0]; omega
        · rw [if_neg s0]; omega
      have e53 : I1 53 nf = nI cnt := by rw [fq.1 53 (by decide) (by decide)]; exact m.1.2.2.1
      have e14 : I1 44 14 = nI nf := by rw [fq.2.1 14 (by decide) (by decide) (by decide) (by decide) (by decide) (by decide)]; exact m.1.1
      have f1 : fF nf w I (uI I1 53 nf (nI (cnt + 1))) J J1 := fF_tr (fF_Q fq) (fF_53 (w := w)) (Nat.le_refl _)
      have t1 := tpM_fQ t fq
      have t2 : tpM (uI I1 53 nf (nI (cnt + 1))) B L := ⟨by rw [uI_ne _ _ _ (by decide)]; exact t1.1, t1.2.1, fun k hk => by rw [uI_ne _ _ _ (by decide)]; exact t1.2.2 k hk⟩
      have a2 : atM (uI I1 53 nf (nI (cnt + 1))) J1 B L q := atM_row (by decide) a1
      simp only [↓forall_eq, ↓inB_iff, gK_hU, gL_hU, gR_hU, gIh, gJh, pI_hU, pJ_hU, hU_hU, uI_app, uJ_app, and_true, true_and, and_false, false_and, and_self, true_implies, false_implies, not_true, not_false_iff, if_true, if_false, eq_self, Nat.reduceLeDiff, Nat.reduceEqDiff, reduceCtorEq, i32c, ti0, ti1, tiM, Int.natCast_nonneg, Int.reduceEq, Int.reduceLE, Int.reduceLT, Int.reduceNeg, tl_i, Int32.reduceToInt, Int64.reduceToInt, tiA, tlM6, Int.toNat_natCast, natc, nI_1, Int.zero_sub, implies_true, not_false_eq_true, mf.1, mr_15 mf, mk_53 mf, ml_53 mf, e14, fI, f6, e53]
      refine m_next mf t2 go.2.2.2 a2.1.1 (fun I3 J3 u3 a3 => ?_)
      have m3 := mdW_N m1 u3
      have f3 : fF nf w I I3 J J3 := fF_tr f1 (fF_N (w := w) u3) (Nat.le_refl _)
      have f30 : fF nf w0 I I3 J J3 := ⟨f3.1, f3.2.1, f3.2.2.1, f3.2.2.2.1, fun i hi => f3.2.2.2.2.1 i (by omega), f3.2.2.2.2.2⟩
      by_cases c6 : lxK B L (lxE B L q) = 6
      · obtain ⟨rI, -, -, -, -, -, r0⟩ := kdM_i (lxK B L (lxE B L q))
        have y0 : ((kdM (lxK B L (lxE B L q)) : Nat) : Int) = 0 := by have := r0.2 c6; omega
        have sq := lxS_b (B := B) hq
        refine w115_57 ?_
        simp only [↓forall_eq, ↓inB_iff, gK_hU, gL_hU, gR_hU, gIh, gJh, pI_hU, pJ_hU, hU_hU, uI_app, uJ_app, and_true, true_and, and_false, false_and, and_self, true_implies, false_implies, not_true, not_false_iff, if_true, if_false, eq_self, Nat.reduceLeDiff, Nat.reduceEqDiff, reduceCtorEq, i32c, ti0, ti1, tiM, Int.natCast_nonneg, Int.reduceEq, Int.reduceLE, Int.reduceLT, Int.reduceNeg, tl_i, Int32.reduceToInt, Int64.reduceToInt, tiA, tlM6, Int.toNat_natCast, natc, nI_1, Int.zero_sub, implies_true, not_false_eq_true, mf.1, mr_15 mf, mk_53 mf, ml_53 mf, a3.1.2.1, rI, y0, m3.1.1, nI_pred]
        exact ok (cnt + 1) w1 _ (lxE B L q) I3 J3 (by rw [fmF, hr]; dsimp only; rw [if_pos c6]) m3 (by omega) (by omega) f30
      · refine ih (cnt + 1) w1 (lxE B L q) _ I3 J3 (by omega) (tpM_fN t2 u3) a3 go.2.2.2 c6 m3 (by omega) (by omega) a10 (fun cnt' w' st' q' I4 J4 hx m4 le4 w4 f4 => ?_) (fun q' I4 J4 hx f4 => ?_)
        · exact ok cnt' w' st' q' I4 J4 (by rw [fmF, hr]; dsimp only; rw [if_neg c6]; exact hx) m4 le4 w4 (fF_tr f30 f4 (Nat.le_refl _))
        · exact no q' I4 J4 (by rw [fmF, hr]; dsimp only; rw [if_neg c6]; exact hx) (fF_tr f30 f4 (Nat.le_refl _))
    · have f1 := fF_Q fq
      have f10 : fF nf w0 I I1 J J1 := ⟨f1.1, f1.2.1, f1.2.2.1, f1.2.2.2.1, fun i hi => f1.2.2.2.2.1 i (by omega), f1.2.2.2.2.2⟩
      refine ⟨fun _ => m_fbad mf x30 (no q I1 J1 (by rw [fmF, hr]) f10), fun z => absurd rfl z⟩
theorem m_form (mf : MF g) (t : tpM I B L) (h14 : I 44 14 = nI nf) (h6 : nf ≤ 6) (h27 : I 44 27 = nI w0) (hw : w0 ≤ 1200 * nf)
    (k1 : ¬ nf < 6 → K 0 (hU g (uI (uI I 44 0 0) 44 0 (nI 1)) J))
    (k2 : nf < 6 → ∀ q I' J', fmF B L 20 0 st0 0 = (none, q) → fF nf w0 (uI I 44 0 0) I' J J' → K (-1 - nI (lxS B L q)) (hU g (uI (uI I' 44 13 0) 44 27 (nI w0)) J'))
    (k3 : nf < 6 → ∀ cnt w st q I' J', fmF B L 20 0 st0 0 = (some (cnt, st), q) → mdW I' J' nf st cnt w → w ≤ 1200 * (nf + 1) → w0 ≤ w → fF nf w0 (uI I 44 0 0) I' J J' → K (nI nf) (hU g (uI (uI I' 44 13 0) 44 14 (nI (nf + 1))) J')) : CI (d + 8) 115 [vR 44] (hU g I J) K X := by
  have l12 := t.2.1
  have fI : (nI nf).toInt = nf := ti_n (by omega)
  by_cases c6 : nf < 6
  · have n6 : ¬ (nf : Int) = 6 := by omega
    have f6 : (nf : Int) < 6 := by omega
    refine m115 ?_
    simp only [↓forall_eq, ↓inB_iff, gK_hU, gL_hU, gR_hU, gIh, gJh, pI_hU, pJ_hU, hU_hU, uI_app, uJ_app, and_true, true_and, and_false, false_and, and_self, true_implies, false_implies, not_true, not_false_iff, if_true, if_false, eq_self, Nat.reduceLeDiff, Nat.reduceEqDiff, reduceCtorEq, i32c, ti0, ti1, tiM, Int.natCast_nonneg, Int.reduceEq, Int.reduceLE, Int.reduceLT, Int.reduceNeg, tl_i, Int32.reduceToInt, Int64.reduceToInt, tiA, tlM6, Int.toNat_natCast, natc, nI_1, Int.zero_sub, implies_true, not_false_eq_true, mf.1, mr_15 mf, mk_53 mf, ml_53 mf, h14, fI, n6, f6, h27]
    have f1 : fF nf w0 (uI I 44 0 0) (uI (uI (uI I 44 0 0) 53 nf 0) 44 28 0) J J := fF_tr (fF_53 (w := w0)) ⟨fun a h1 _ => by rw [uI_ne _ _ _ h1], fun j _ h2 _ _ _ _ => by rw [uI_nj _ _ _ _ h2], fun i _ => by rw [uI_ne _ _ _ (by decide)], fun a _ _ i _ => by rw [uI_ne _ _ _ (by omega)], fun i _ => ⟨by rw [uI_ne _ _ _ (by decide)], by rw [uI_ne _ _ _ (by decide)]⟩, fun _ _ _ => rfl⟩ (Nat.le_refl _)
    have t1 : tpM (uI (uI (uI I 44 0 0) 53 nf 0) 44 28 0) B L := ⟨by simp only [↓forall_eq, ↓inB_iff, gK_hU, gL_hU, gR_hU, gIh, gJh, pI_hU, pJ_hU, hU_hU, uI_app, uJ_app, and_true, true_and, and_false, false_and, and_self, true_implies, false_implies, not_true, not_false_iff, if_true, if_false, eq_self, Nat.reduceLeDiff, Nat.reduceEqDiff, reduceCtorEq, i32c, ti0, ti1, tiM, Int.natCast_nonneg, Int.reduceEq, Int.reduceLE, Int.reduceLT, Int.reduceNeg, tl_i, Int32.reduceToInt, Int64.reduceToInt, tiA, tlM6, Int.toNat_natCast, natc, nI_1, Int.zero_sub, implies_true, not_false_eq_true]; exact t.1, l12, fun k hk => by simp only [↓forall_eq, ↓inB_iff, gK_hU, gL_hU, gR_hU, gIh, gJh, pI_hU, pJ_hU, hU_hU, uI_app, uJ_app, and_true, true_and, and_false, false_and, and_self, true_implies, false_implies, not_true, not_false_iff, if_true, if_false, eq_self, Nat.reduceLeDiff, Nat.reduceEqDiff, reduceCtorEq, i32c, ti0, ti1, tiM, Int.natCast_nonneg, Int.reduceEq, Int.reduceLE, Int.reduceLT, Int.reduceNeg, tl_i, Int32.reduceToInt, Int64.reduceToInt, tiA, tlM6, Int.toNat_natCast, natc, nI_1, Int.zero_sub, implies_true, not_false_eq_true]; exact t.2.2 k hk⟩
    have v1 : (uI (uI (uI I 44 0 0) 53 nf 0) 44 28 0) 44 28 = nI 0 ∧ (uI (uI (uI I 44 0 0) 53 nf 0) 44 28 0) 53 nf = 0 ∧ (uI (uI (uI I 44 0 0) 53 nf 0) 44 28 0) 44 14 = nI nf ∧ (uI (uI (uI I 44 0 0) 53 nf 0) 44 28 0) 44 27 = nI w0 := ⟨by simp only [↓forall_eq, ↓inB_iff, gK_hU, gL_hU, gR_hU, gIh, gJh, pI_hU, pJ_hU, hU_hU, uI_app, uJ_app, and_true, true_and, and_false, false_and, and_self, true_implies, false_implies, not_true, not_false_iff, if_true, if_false, eq_self, Nat.reduceLeDiff, Nat.reduceEqDiff, reduceCtorEq, i32c, ti0, ti1, tiM, Int.natCast_nonneg, Int.reduceEq, Int.reduceLE, Int.reduceLT, Int.reduceNeg, tl_i, Int32.reduceToInt, Int64.reduceToInt, tiA, tlM6, Int.toNat_natCast, natc, nI_1, Int.zero_sub, implies_true, not_false_eq_true]; rfl, by simp only [↓forall_eq, ↓inB_iff, gK_hU, gL_hU, gR_hU, gIh, gJh, pI_hU, pJ_hU, hU_hU, uI_app, uJ_app, and_true, true_and, and_false, false_and, and_self, true_implies, false_implies, not_true, not_false_iff, if_true, if_false, eq_self, Nat.reduceLeDiff, Nat.reduceEqDiff, reduceCtorEq, i32c, ti0, ti1, tiM, Int.natCast_nonneg, Int.reduceEq, Int.reduceLE, Int.reduceLT, Int.reduceNeg, tl_i, Int32.reduceToInt, Int64.reduceToInt, tiA, tlM6, Int.toNat_natCast, natc, nI_1, Int.zero_sub, implies_true, not_false_eq_true], by simp only [↓forall_eq, ↓inB_iff, gK_hU, gL_hU, gR_hU, gIh, gJh, pI_hU, pJ_hU, hU_hU, uI_app, uJ_app, and_true, true_and, and_false, false_and, and_self, true_implies, false_implies, not_true, not_false_iff, if_true, if_false, eq_self, Nat.reduceLeDiff, Nat.reduceEqDiff, reduceCtorEq, i32c, ti0, ti1, tiM, Int.natCast_nonneg, Int.reduceEq, Int.reduceLE, Int.reduceLT, Int.reduceNeg, tl_i, Int32.reduceToInt, Int64.reduceToInt, tiA, tlM6, Int.toNat_natCast, natc, nI_1, Int.zero_sub, implies_true, not_false_eq_true]; exact h14, by simp only [↓forall_eq, ↓inB_iff, gK_hU, gL_hU, gR_hU, gIh, gJh, pI_hU, pJ_hU, hU_hU, uI_app, uJ_app, and_true, true_and, and_false, false_and, and_self, true_implies, false_implies, not_true, not_false_iff, if_true, if_false, eq_self, Nat.reduceLeDiff, Nat.reduceEqDiff, reduceCtorEq, i32c, ti0, ti1, tiM, Int.natCast_nonneg, Int.reduceEq, Int.reduceLE, Int.reduceLT, Int.reduceNeg, tl_i, Int32.reduceToInt, Int64.reduceToInt, tiA, tlM6, Int.toNat_natCast, natc, nI_1, Int.zero_sub, implies_true, not_false_eq_true]; exact h27⟩
    generalize uI (uI (uI I 44 0 0) 53 nf 0) 44 28 0 = I1 at *
    refine m_next mf t1 (Nat.zero_le _) v1.1 (fun I2 J2 u2 a2 => ?_)
    obtain ⟨rI, -, -, -, -, -, r0⟩ := kdM_i (lxK B L 0)
    have f2 : fF nf w0 (uI I 44 0 0) I2 J J2 := fF_tr f1 (fF_N (w := w0) u2) (Nat.le_refl _)
    simp only [↓forall_eq, ↓inB_iff, gK_hU, gL_hU, gR_hU, gIh, gJh, pI_hU, pJ_hU, hU_hU, uI_app, uJ_app, and_true, true_and, and_false, false_and, and_self, true_implies, false_implies, not_true, not_false_iff, if_true, if_false, eq_self, Nat.reduceLeDiff, Nat.reduceEqDiff, reduceCtorEq, i32c, ti0, ti1, tiM, Int.natCast_nonneg, Int.reduceEq, Int.reduceLE, Int.reduceLT, Int.reduceNeg, tl_i, Int32.reduceToInt, Int64.reduceToInt, tiA, tlM6, Int.toNat_natCast, natc, nI_1, Int.zero_sub, implies_true, not_false_eq_true, mf.1, mr_15 mf, mk_53 mf, ml_53 mf, a2.1.2.1, rI]
    refine ⟨fun z => ?_, fun z => ?_⟩
    · have k6 : lxK B L 0 = 6 := r0.1 (by omega)
      refine m_fbad mf a2.1.2.2 (k2 c6 0 I2 J2 ?_ f2)
      have sr : srN B L 0 = 4 := by unfold srN; rw [k6, if_neg (fun y => by cases y.1), if_neg (fun y => by cases y.1), if_neg (fun y => by cases y.1), if_neg (fun y => by cases y.1)]
      rw [fmF]
      have : stF B L (sdN st0) 0 (stA st0 0) 0 = (none, 0) := by unfold stF; rw [if_pos (Or.inl sr)]
      rw [this]
    · have k6 : lxK B L 0 ≠ 6 := fun y => z (by have := r0.2 y; omega)
      refine m_forms (W := 1200 * nf) (w0 := w0) mf (by omega) 20 0 w0 0 st0 I2 J2 rfl (tpM_fN t1 u2) a2 (Nat.zero_le _) k6 ⟨⟨by rw [u2.2.1 14 (by decide) (by decide) (by decide) (by decide)]; exact v1.2.2.1, c6, by rw [u2.1 53 (by decide)]; exact v1.2.1, by omega, by rw [u2.2.1 27 (by decide) (by decide) (by decide) (by decide)]; exact v1.2.2.2⟩, fun s hs => by omega⟩ (by omega) (Nat.le_refl _) (by show 0 ≤ 10; omega) (fun cnt' w' st' q I4 J4 hx m4 le4 w4 f4 => ?_) (fun q I4 J4 hx f4 => ?_)
      · exact k3 c6 cnt' w' st' q I4 J4 hx m4 (by omega) w4 (fF_tr f2 f4 (Nat.le_refl _))
      · exact k2 c6 q I4 J4 hx (fF_tr f2 f4 (Nat.le_refl _))
  · have n6 : (nf : Int) = 6 := by omega
    refine m115 ?_
    simp only [↓forall_eq, ↓inB_iff, gK_hU, gL_hU, gR_hU, gIh, gJh, pI_hU, pJ_hU, hU_hU, uI_app, uJ_app, and_true, true_and, and_false, false_and, and_self, true_implies, false_implies, not_true, not_false_iff, if_true, if_false, eq_self, Nat.reduceLeDiff, Nat.reduceEqDiff, reduceCtorEq, i32c, ti0, ti1, tiM, Int.natCast_nonneg, Int.reduceEq, Int.reduceLE, Int.reduceLT, Int.reduceNeg, tl_i, Int32.reduceToInt, Int64.reduceToInt, tiA, tlM6, Int.toNat_natCast, natc, nI_1, Int.zero_sub, implies_true, not_false_eq_true, mf.1, mr_15 mf, mk_53 mf, ml_53 mf, h14, fI, n6, ↓fail_br mf]
    exact k1 c6
end MFB
