/-! READING A TEXT: the model's statements, from their ends -/
section MST
variable {d L p q q1 w w0 w1 W k cnt nf s : Nat} {g : aH} {X : Nat → aH → Prop} {B : Nat → Int32} {I0 I I' : Nat → Nat → Int32} {J0 J J' : Nat → Nat → Int64} {nam : Nat → Int64} {K : Int32 → aH → Prop} {hd : Int64 × Int32 × Int32 × List Tm}
/-- what reading a statement changes in the model: row k, the things from w on -/
def fQ (k w : Nat) (I I' : Nat → Nat → Int32) (J J' : Nat → Nat → Int64) : Prop := (∀ a, a ≠ 44 → ¬ (54 ≤ a ∧ a ≤ 64) → I' a = I a) ∧ (∀ j, j ≠ 27 → j ≠ 28 → j ≠ 29 → j ≠ 30 → j ≠ 32 → j ≠ 33 → I' 44 j = I 44 j) ∧ (∀ a, 54 ≤ a → a ≤ 62 → ∀ i, i ≠ k → I' a i = I a i) ∧ (∀ i, i < w → I' 63 i = I 63 i ∧ I' 64 i = I 64 i) ∧ (∀ a, a ≠ 44 → a ≠ 55 → J' a = J a) ∧ ∀ i, i ≠ k → J' 55 i = J 55 i
theorem fQ_refl : fQ k w I I J J := ⟨fun _ _ _ => rfl, fun _ _ _ _ _ _ _ => rfl, fun _ _ _ _ _ => rfl, fun _ _ => ⟨rfl, rfl⟩, fun _ _ _ => rfl, fun _ _ => rfl⟩
theorem fQ_X (u : fX w I I' J J') : fQ k w I I' J J' := ⟨fun a h1 h2 => u.1 a h1 (by omega) (by omega), fun j h1 h2 h3 h4 h5 _ => u.2.1 j h1 h2 h3 h4 h5, fun a h1 h2 i _ => by rw [u.1 a (by omega) (by omega) (by omega)], u.2.2.1, fun a h1 _ => u.2.2.2 a h1, fun i _ => by rw [u.2.2.2 55 (by decide)]⟩
theorem fQ_tr {I2 : Nat → Nat → Int32} {J2 : Nat → Nat → Int64} {w2 : Nat} (t : fQ k w I I' J J') (u : fQ k w2 I' I2 J' J2) (hw : w ≤ w2) : fQ k w I I2 J J2 :=
  ⟨fun a h1 h2 => (u.1 a h1 h2).trans (t.1 a h1 h2), fun j h1 h2 h3 h4 h5 h6 => (u.2.1 j h1 h2 h3 h4 h5 h6).trans (t.2.1 j h1 h2 h3 h4 h5 h6), fun a h1 h2 i hi => (u.2.2.1 a h1 h2 i hi).trans (t.2.2.1 a h1 h2 i hi), fun i hi => ⟨(u.2.2.2.1 i (by omega)).1.trans (t.2.2.2.1 i hi).1, (u.2.2.2.1 i (by omega)).2.trans (t.2.2.2.1 i hi).2⟩, fun a h1 h2 => (u.2.2.2.2.1 a h1 h2).trans (t.2.2.2.2.1 a h1 h2), fun i hi => (u.2.2.2.2.2 i hi).trans (t.2.2.2.2.2 i hi)⟩
theorem fQ_row {a : Nat} {x : Int32} (ha : 54 ≤ a ∧ a ≤ 62) : fQ k w I (uI I a k x) J J := ⟨fun b _ h2 => by rw [uI_ne _ _ _ (by omega)], fun j _ _ _ _ _ _ => by rw [uI_ne _ _ _ (by omega)], fun b _ _ i hi => by rw [uI_nj _ _ _ _ hi], fun i _ => ⟨by rw [uI_ne _ _ _ (by omega)], by rw [uI_ne _ _ _ (by omega)]⟩, fun _ _ _ => rfl, fun _ _ => rfl⟩
theorem fQ_name {x : Int64} : fQ k w I I J (uJ J 55 k x) := ⟨fun _ _ _ => rfl, fun _ _ _ _ _ _ _ => rfl, fun _ _ _ _ _ => rfl, fun _ _ => ⟨rfl, rfl⟩, fun a _ h2 => by rw [uJ_ne _ _ _ h2], fun i hi => by rw [uJ_app, if_neg (fun z => hi z.2)]⟩
theorem tpM_fQ (t : tpM I B L) (u : fQ k w I I' J J') : tpM I' B L := ⟨by rw [u.2.1 13 (by decide) (by decide) (by decide) (by decide) (by decide) (by decide)]; exact t.1, t.2.1, fun i hi => by rw [u.1 52 (by decide) (by decide)]; exact t.2.2 i hi⟩
theorem nmM_fQ (t : nmM I J nf cnt nam) (u : fQ (20 * nf + cnt) w I I' J J') : nmM I' J' nf cnt nam := by
  obtain ⟨⟨t1, t2, t3, t4⟩, t5⟩ := t
  refine ⟨⟨by rw [u.2.1 14 (by decide) (by decide) (by decide) (by decide) (by decide) (by decide)]; exact t1, t2, by rw [u.1 53 (by decide) (by decide)]; exact t3, t4⟩, fun i hi => ?_⟩
  rw [u.2.2.1 54 (by decide) (by decide) (20 * nf + i) (by omega), u.2.2.2.2.2 (20 * nf + i) (by omega)]
  exact t5 i hi
theorem atM_row {a i : Nat} {x : Int32} (ha : a ≠ 44) (t : atM I J B L p) : atM (uI I a i x) J B L p := by
  unfold atM at t ⊢
  rw [uI_ne _ _ _ (Ne.symm ha)]; exact t
theorem atM_name {i : Nat} {x : Int64} (t : atM I J B L p) : atM I (uJ J 55 i x) B L p := by
  unfold atM at t ⊢
  rw [uJ_ne _ _ _ (by decide)]; exact t
/-- the row behind the head -/
def rwH (I : Nat → Nat → Int32) (J : Nat → Nat → Int64) (k s : Nat) (hd : Int64 × Int32 × Int32 × List Tm) (w0 w1 : Nat) : Prop := (I 54 k = nI s ∧ I 56 k = hd.2.1 ∧ I 57 k = hd.2.2.1 ∧ I 58 k = (if s = 0 then 1 else 0) ∧ I 59 k = nI w0 ∧ I 60 k = nI w1) ∧ s ≤ 1 → J 55 k = hd.1
def rowH (I : Nat → Nat → Int32) (J : Nat → Nat → Int64) (k s : Nat) (hd : Int64 × Int32 × Int32 × List Tm) (w0 w1 : Nat) : Prop := (I 54 k = nI s ∧ I 56 k = hd.2.1 ∧ I 57 k = hd.2.2.1 ∧ I 58 k = (if s = 0 then 1 else 0) ∧ I 59 k = nI w0 ∧ I 60 k = nI w1) ∧ (s ≤ 1 → J 55 k = hd.1)
theorem rowH_X (r : rowH I J k s hd w0 w1) (u : fX w I I' J J') : rowH I' J' k s hd w0 w1 := by
  unfold rowH at r ⊢
  rw [u.1 54 (by decide) (by decide) (by decide), u.1 56 (by decide) (by decide) (by decide), u.1 57 (by decide) (by decide) (by decide), u.1 58 (by decide) (by decide) (by decide), u.1 59 (by decide) (by decide) (by decide), u.1 60 (by decide) (by decide) (by decide), u.2.2.2 55 (by decide)]
  exact r
/-- a statement in the model's row -/
def mdS (I : Nat → Nat → Int32) (J : Nat → Nat → Int64) (k s : Nat) (hd : Int64 × Int32 × Int32 × List Tm) (cs : List Cmp) (w : Nat) : Prop := (I 54 k = nI s ∧ I 56 k = hd.2.1 ∧ I 57 k = hd.2.2.1 ∧ I 58 k = (if s = 0 then 1 else 0)) ∧ (s ≤ 1 → J 55 k = hd.1) ∧ stM I k (nI s) hd.2.2.2 cs ∧ (I 60 k).toInt ≤ w ∧ (I 62 k).toInt ≤ w
def kOKm (g : aH) (K : Int32 → aH → Prop) (B : Nat → Int32) (L W k w0 : Nat) (I0 : Nat → Nat → Int32) (J0 : Nat → Nat → Int64) (r : Option StD × Nat) : Prop := ∀ s hd cs q w I' J', r = (some (s, hd, cs), lxE B L q) → lxK B L q = 5 → fQ k w0 I0 I' J0 J' → mdS I' J' k s hd cs w → I' 44 27 = nI w → w ≤ W + lxS B L q → w0 ≤ w → atM I' J' B L q → q ≤ L → K 1 (hU g I' J')
def kNOm (g : aH) (K : Int32 → aH → Prop) (B : Nat → Int32) (L k w0 : Nat) (I0 : Nat → Nat → Int32) (J0 : Nat → Nat → Int64) (r : Option StD × Nat) : Prop := ∀ q I' J', r = (none, q) → fQ k w0 I0 I' J0 J' → I' 44 30 = nI (lxS B L q) → K 0 (hU g I' J')
theorem m_s369 {r : Option StD × Nat} {cond : Bool} (mf : MF g) (hW : W ≤ 6000) (hk : k = 20 * nf + cnt ∧ k < 120) (t : tpM I B L) (a : atM I J B L q1) (nc : nmM I J nf cnt nam) (hq : q1 ≤ L) (fq : fQ k w0 I0 I J0 J) (rw1 : rowH I J k s hd w0 w1) (h61 : (I 61 k).toInt = -1 ∧ (I 62 k).toInt = -1) (hs : s ≤ 3) (hw : I 44 27 = nI w1) (h01 : w0 ≤ w1) (en : s = 1 → w1 = w0 + mL hd.2.2.2 ∧ encE (I 63) (I 64) w0 hd.2.2.2) (hle : w1 ≤ W + lxS B L q1) (hst : r = afF B L s hd (if cond = true then cdF B L nam cnt 1200 q1 else (some [], q1))) (hne : 2 ≤ s → cond = true) (ok : kOKm g K B L W k w0 I0 J0 r) (no : kNOm g K B L k w0 I0 J0 r) : Wp (d + 6) 114 (369, [some (vR 44), some (vI (nI k)), none, none, some (vI (if cond = true then 1 else 0))], [], hU g I J) (RI K X) := by
  have l12 := t.2.1
  have sq := lxS_b (B := B) hq
  have kI : (nI k).toInt = k := ti_n (by omega)
  have k120 : (k : Int) < 120 := by omega
  have sI : (nI s).toInt = s := ti_n (by omega)
  cases cond with
  | false =>
    have hst2 : r = if lxK B L q1 = 5 then (some (s, hd, []), lxE B L q1) else (none, q1) := hst
    have s2 : ¬ 2 ≤ s := fun z => by have := hne z; cases this
    obtain ⟨qI, -, -, -, -, q6, -⟩ := kdM_i (lxK B L q1)
    refine w114_369 ?_
    simp only [↓forall_eq, ↓inB_iff, gK_hU, gL_hU, gR_hU, gIh, gJh, pI_hU, pJ_hU, hU_hU, uI_app, uJ_app, and_true, true_and, and_false, false_and, and_self, true_implies, false_implies, not_true, not_false_iff, if_true, if_false, eq_self, Nat.reduceLeDiff, Nat.reduceEqDiff, reduceCtorEq, i32c, ti0, ti1, tiM, Int.natCast_nonneg, Int.reduceEq, Int.reduceLE, Int.reduceLT, Int.reduceNeg, tl_i, Int32.reduceToInt, Int64.reduceToInt, tiA, tlM6, Int.toNat_natCast, natc, nI_1, Int.zero_sub, implies_true, not_false_eq_true, mf.1, mr_15 mf, mk_53 mf, ml_53 mf, mr_16 mf, mk_54 mf, ml_54 mf, mr_17 mf, mk_55 mf, ml_55 mf, mr_18 mf, mk_56 mf, ml_56 mf, mr_19 mf, mk_57 mf, ml_57 mf, mr_20 mf, mk_58 mf, ml_58 mf, mr_21 mf, mk_59 mf, ml_59 mf, mr_22 mf, mk_60 mf, ml_60 mf, mr_23 mf, mk_61 mf, ml_61 mf, mr_24 mf, mk_62 mf, ml_62 mf, Bool.false_eq_true, a.1.2.1, qI]
    refine ⟨fun z => ?_, fun z => ?_⟩
    · have c5 : lxK B L q1 = 5 := q6.1 (by omega)
      refine ok s hd [] q1 w1 I J (by rw [hst2, if_pos c5]) c5 fq ⟨⟨rw1.1.1, rw1.1.2.1, rw1.1.2.2.1, rw1.1.2.2.2.1⟩, rw1.2, ⟨fun z1 => ?_, fun _ => h61.1, fun z1 => absurd rfl z1, fun z1 => by omega⟩, ?_, ?_⟩ hw hle h01 a hq
      · have e := en (by omega)
        exact ⟨w0, rw1.1.2.2.2.2.1, by rw [rw1.1.2.2.2.2.2, e.1], by omega, e.2⟩
      · rw [rw1.1.2.2.2.2.2, ti_n (by omega)]; omega
      · rw [h61.2]; omega
    · exact no q1 I J (by rw [hst2, if_neg (fun y => z (by have := q6.2 y; omega))]) fq a.1.2.2
  | true =>
    have hst2 : r = afF B L s hd (cdF B L nam cnt 1200 q1) := hst
    refine w114_369 ?_
    simp only [↓forall_eq, ↓inB_iff, gK_hU, gL_hU, gR_hU, gIh, gJh, pI_hU, pJ_hU, hU_hU, uI_app, uJ_app, and_true, true_and, and_false, false_and, and_self, true_implies, false_implies, not_true, not_false_iff, if_true, if_false, eq_self, Nat.reduceLeDiff, Nat.reduceEqDiff, reduceCtorEq, i32c, ti0, ti1, tiM, Int.natCast_nonneg, Int.reduceEq, Int.reduceLE, Int.reduceLT, Int.reduceNeg, tl_i, Int32.reduceToInt, Int64.reduceToInt, tiA, tlM6, Int.toNat_natCast, natc, nI_1, Int.zero_sub, implies_true, not_false_eq_true, mf.1, mr_15 mf, mk_53 mf, ml_53 mf, mr_16 mf, mk_54 mf, ml_54 mf, mr_17 mf, mk_55 mf, ml_55 mf, mr_18 mf, mk_56 mf, ml_56 mf, mr_19 mf, mk_57 mf, ml_57 mf, mr_20 mf, mk_58 mf, ml_58 mf, mr_21 mf, mk_59 mf, ml_59 mf, mr_22 mf, mk_60 mf, ml_60 mf, mr_23 mf, mk_61 mf, ml_61 mf, mr_24 mf, mk_62 mf, ml_62 mf, kI, k120, hw]
    have t2 : tpM (uI I 61 k (nI w1)) B L := tpM_fQ t (fQ_row (k := k) (w := w1) (J := J) (by omega))
    have a2 : atM (uI I 61 k (nI w1)) J B L q1 := atM_row (by decide) a
    have u2 : fQ k w1 I (uI I 61 k (nI w1)) J J := fQ_row (by omega)
    have nc2 : nmM (uI I 61 k (nI w1)) J nf cnt nam := by rw [hk.1] at u2 ⊢; exact nmM_fQ nc u2
    have rw2 : rowH (uI I 61 k (nI w1)) J k s hd w0 w1 := by
      unfold rowH at rw1 ⊢
      rw [uI_ne _ _ _ (by decide), uI_ne _ _ _ (by decide), uI_ne _ _ _ (by decide), uI_ne _ _ _ (by decide), uI_ne _ _ _ (by decide), uI_ne _ _ _ (by decide)]; exact rw1
    have hw2 : (uI I 61 k (nI w1)) 44 27 = nI w1 := by rw [uI_ne _ _ _ (by decide)]; exact hw
    have e61 : (uI I 61 k (nI w1)) 61 k = nI w1 := by rw [uI_same]
    have e3 : (uI I 61 k (nI w1)) 63 = I 63 ∧ (uI I 61 k (nI w1)) 64 = I 64 := ⟨by rw [uI_ne _ _ _ (by decide)], by rw [uI_ne _ _ _ (by decide)]⟩
    generalize uI I 61 k (nI w1) = I2 at *
    refine m113 (m_rcond (W := W) mf hW 1200 q1 w1 I2 J t2 a2 nc2 hq hw2 hle (by omega) (fun cs q2 to I3 J3 hx u3 a3 hq3 w3 ml le3 ls3 en3 ne3 => ?_) (fun q2 I3 J3 hx u3 x30 => ⟨fun _ => no q2 I3 J3 (by rw [hst2, hx]; rfl) (fQ_tr fq (fQ_tr u2 (fQ_X u3) (Nat.le_refl _)) h01) x30, fun z => absurd rfl z⟩))
    rw [hx] at hst2
    have hst3 : r = if lxK B L q2 = 5 then (some (s, hd, cs), lxE B L q2) else (none, q2) := hst2
    obtain ⟨qI, -, -, -, -, q6, -⟩ := kdM_i (lxK B L q2)
    have sq3 := lxS_b (B := B) hq3
    have u4 : fQ k w1 I3 (uI I3 62 k (nI to)) J3 J3 := fQ_row (by omega)
    have f4 : fQ k w0 I0 (uI I3 62 k (nI to)) J0 J3 := fQ_tr fq (fQ_tr u2 (fQ_tr (fQ_X u3) u4 (Nat.le_refl _)) (Nat.le_refl _)) h01
    have a4 : atM (uI I3 62 k (nI to)) J3 B L q2 := atM_row (by decide) a3
    simp only [↓forall_eq, ↓inB_iff, gK_hU, gL_hU, gR_hU, gIh, gJh, pI_hU, pJ_hU, hU_hU, uI_app, uJ_app, and_true, true_and, and_false, false_and, and_self, true_implies, false_implies, not_true, not_false_iff, if_true, if_false, eq_self, Nat.reduceLeDiff, Nat.reduceEqDiff, reduceCtorEq, i32c, ti0, ti1, tiM, Int.natCast_nonneg, Int.reduceEq, Int.reduceLE, Int.reduceLT, Int.reduceNeg, tl_i, Int32.reduceToInt, Int64.reduceToInt, tiA, tlM6, Int.toNat_natCast, natc, nI_1, Int.zero_sub, implies_true, not_false_eq_true, mf.1, mr_15 mf, mk_53 mf, ml_53 mf, mr_16 mf, mk_54 mf, ml_54 mf, mr_17 mf, mk_55 mf, ml_55 mf, mr_18 mf, mk_56 mf, ml_56 mf, mr_19 mf, mk_57 mf, ml_57 mf, mr_20 mf, mk_58 mf, ml_58 mf, mr_21 mf, mk_59 mf, ml_59 mf, mr_22 mf, mk_60 mf, ml_60 mf, mr_23 mf, mk_61 mf, ml_61 mf, mr_24 mf, mk_62 mf, ml_62 mf, kI, k120, w3, a3.1.2.1, qI]
    have to1 : w1 ≤ to + 1 := by omega
    have mc1 : 1 ≤ mLC cs := by
      cases cs with
      | nil => exact absurd rfl ne3
      | cons c cs => rw [mLC]; omega
    have wto : w1 ≤ to := by omega
    refine ⟨fun z => ?_, fun z => no q2 _ J3 (by rw [hst3, if_neg (fun y => z (by have := q6.2 y; omega))]) f4 a4.1.2.2⟩
    have c5 : lxK B L q2 = 5 := q6.1 (by omega)
    have rw3 := rowH_X rw2 u3
    have rr : rowH (uI I3 62 k (nI to)) J3 k s hd w0 w1 := by
      unfold rowH at rw3 ⊢
      rw [uI_ne _ _ _ (by decide), uI_ne _ _ _ (by decide), uI_ne _ _ _ (by decide), uI_ne _ _ _ (by decide), uI_ne _ _ _ (by decide), uI_ne _ _ _ (by decide)]; exact rw3
    have e4 : (uI I3 62 k (nI to)) 63 = I3 63 ∧ (uI I3 62 k (nI to)) 64 = I3 64 := ⟨by rw [uI_ne _ _ _ (by decide)], by rw [uI_ne _ _ _ (by decide)]⟩
    refine ok s hd cs q2 to _ J3 (by rw [hst3, if_pos c5]) c5 f4 ⟨⟨rr.1.1, rr.1.2.1, rr.1.2.2.1, rr.1.2.2.2.1⟩, rr.2, ⟨fun z1 => ?_, fun z1 => absurd z1 ne3, fun _ => ⟨w1, to, ?_, by rw [uI_same], by omega, ml, by rw [e4.1, e4.2]; exact en3⟩, fun _ => ne3⟩, ?_, ?_⟩ (by rw [uI_ne _ _ _ (by decide)]; exact w3) le3 (by omega) a4 hq3
    · have e := en (by omega)
      refine ⟨w0, rr.1.2.2.2.2.1, by rw [rr.1.2.2.2.2.2, e.1], by omega, ?_⟩
      rw [e4.1, e4.2]
      refine encE_cg (S := I 63) (T := I 64) e.2 (fun j z2 z3 => ?_)
      have y := u3.2.2.1 j (by omega)
      rw [y.1, y.2, e3.1, e3.2]; exact ⟨rfl, rfl⟩
    · rw [uI_ne _ _ _ (by decide), u3.1 61 (by decide) (by decide) (by decide)]; exact e61
    · rw [rr.1.2.2.2.2.2, ti_n (by omega)]; omega
    · rw [uI_same, ti_n (by omega)]; omega
theorem m_s345 {r : Option StD × Nat} {s0 : Int32} (mf : MF g) (hW : W ≤ 6000) (hk : k = 20 * nf + cnt ∧ k < 120) (t : tpM I B L) (a : atM I J B L q1) (nc : nmM I J nf cnt nam) (hq : q1 ≤ L) (fq : fQ k w0 I0 I J0 J) (rw1 : rowH I J k s hd w0 w1) (h61 : (I 61 k).toInt = -1 ∧ (I 62 k).toInt = -1) (hs : s ≤ 3) (hw : I 44 27 = nI w1) (h01 : w0 ≤ w1) (en : s = 1 → w1 = w0 + mL hd.2.2.2 ∧ encE (I 63) (I 64) w0 hd.2.2.2) (hle : w1 ≤ W + lxS B L q1) (hst : r = afF B L s hd (cnF B L nam cnt s q1)) (hs0 : s0 = if 2 ≤ s then 1 else 0) (ok : kOKm g K B L W k w0 I0 J0 r) (no : kNOm g K B L k w0 I0 J0 r) : Wp (d + 6) 114 (345, [some (vR 44), some (vI (nI k)), some (vI (nI s)), none, none], [vI s0], hU g I J) (RI K X) := by
  have sI : (nI s).toInt = s := ti_n (by omega)
  unfold cnF at hst
  by_cases c2 : 2 ≤ s
  · rw [if_pos c2] at hst hs0
    subst hs0
    have z1 : 1 < (s : Int) := by omega
    refine w114_345 ?_
    simp only [↓forall_eq, ↓inB_iff, gK_hU, gL_hU, gR_hU, gIh, gJh, pI_hU, pJ_hU, hU_hU, uI_app, uJ_app, and_true, true_and, and_false, false_and, and_self, true_implies, false_implies, not_true, not_false_iff, if_true, if_false, eq_self, Nat.reduceLeDiff, Nat.reduceEqDiff, reduceCtorEq, i32c, ti0, ti1, tiM, Int.natCast_nonneg, Int.reduceEq, Int.reduceLE, Int.reduceLT, Int.reduceNeg, tl_i, Int32.reduceToInt, Int64.reduceToInt, tiA, tlM6, Int.toNat_natCast, natc, nI_1, Int.zero_sub, implies_true, not_false_eq_true, sI, z1]
    exact m_s369 (cond := true) mf hW hk t a nc hq fq rw1 h61 hs hw h01 en hle hst (fun _ => rfl) ok no
  · rw [if_neg c2] at hst hs0
    subst hs0
    have z1 : ¬ 1 < (s : Int) := by omega
    refine w114_345 ?_
    simp only [↓forall_eq, ↓inB_iff, gK_hU, gL_hU, gR_hU, gIh, gJh, pI_hU, pJ_hU, hU_hU, uI_app, uJ_app, and_true, true_and, and_false, false_and, and_self, true_implies, false_implies, not_true, not_false_iff, if_true, if_false, eq_self, Nat.reduceLeDiff, Nat.reduceEqDiff, reduceCtorEq, i32c, ti0, ti1, tiM, Int.natCast_nonneg, Int.reduceEq, Int.reduceLE, Int.reduceLT, Int.reduceNeg, tl_i, Int32.reduceToInt, Int64.reduceToInt, tiA, tlM6, Int.toNat_natCast, natc, nI_1, Int.zero_sub, implies_true, not_false_eq_true, mf.1, mr_15 mf, mk_53 mf, ml_53 mf, mr_16 mf, mk_54 mf, ml_54 mf, mr_17 mf, mk_55 mf, ml_55 mf, mr_18 mf, mk_56 mf, ml_56 mf, mr_19 mf, mk_57 mf, ml_57 mf, mr_20 mf, mk_58 mf, ml_58 mf, mr_21 mf, mk_59 mf, ml_59 mf, mr_22 mf, mk_60 mf, ml_60 mf, mr_23 mf, mk_61 mf, ml_61 mf, mr_24 mf, mk_62 mf, ml_62 mf, sI, z1, ↓isWord_br mf a]
    refine ⟨fun ci => ?_, fun ci => ?_⟩
    · rw [if_pos ci] at hst
      have go := lxK_go (B := B) hq (fun z => by rw [ci.1] at z; cases z)
      refine m_next mf t go.2.2.2 a.1.1 (fun I2 J2 u2 a2 => ?_)
      have v2 : fX w1 I I2 J J2 := fX_N u2
      refine m_s369 (cond := true) mf hW hk (tpM_fN t u2) a2 (nmM_fX nc v2) go.2.2.2 (fQ_tr fq (fQ_X v2) h01) (rowH_X rw1 v2) (by rw [u2.1 61 (by decide), u2.1 62 (by decide)]; exact h61) hs (by rw [u2.2.1 27 (by decide) (by decide) (by decide) (by decide)]; exact hw) h01 (by rw [u2.1 63 (by decide), u2.1 64 (by decide)]; exact en) ?_ hst (fun _ => rfl) ok no
      have x1 := go.2.1
      have x2 := go.2.2.1
      clear hst ci
      omega
    · rw [if_neg ci] at hst
      exact m_s369 (cond := false) mf hW hk t a nc hq fq rw1 h61 hs hw h01 en hle hst (fun z => absurd z c2) ok no
end MST
