/-! READING A TEXT: the model's terms -/
section MTM
variable {d L p q w W cnt nf : Nat} {g : aH} {X : Nat → aH → Prop} {B : Nat → Int32} {I I' : Nat → Nat → Int32} {J J' : Nat → Nat → Int64} {nam : Nat → Int64}
/-- what reading a sum changes in the model -/
def fX (w : Nat) (I I' : Nat → Nat → Int32) (J J' : Nat → Nat → Int64) : Prop := (∀ a, a ≠ 44 → a ≠ 63 → a ≠ 64 → I' a = I a) ∧ (∀ j, j ≠ 27 → j ≠ 28 → j ≠ 29 → j ≠ 30 → j ≠ 32 → I' 44 j = I 44 j) ∧ (∀ i, i < w → I' 63 i = I 63 i ∧ I' 64 i = I 64 i) ∧ ∀ a, a ≠ 44 → J' a = J a
theorem fX_refl : fX w I I J J := ⟨fun _ _ _ _ => rfl, fun _ _ _ _ _ _ => rfl, fun _ _ => ⟨rfl, rfl⟩, fun _ _ => rfl⟩
theorem fX_N (t : fN I I' J J') : fX w I I' J J' := ⟨fun a h1 _ _ => t.1 a h1, fun j _ h2 h3 h4 h5 => t.2.1 j h2 h3 h4 h5, fun i _ => by rw [t.1 63 (by decide), t.1 64 (by decide)]; exact ⟨rfl, rfl⟩, t.2.2⟩
theorem fX_tr {I2 : Nat → Nat → Int32} {J2 : Nat → Nat → Int64} {w2 : Nat} (t : fX w I I' J J') (u : fX w2 I' I2 J' J2) (hw : w ≤ w2) : fX w I I2 J J2 :=
  ⟨fun a h1 h2 h3 => (u.1 a h1 h2 h3).trans (t.1 a h1 h2 h3), fun j h1 h2 h3 h4 h5 => (u.2.1 j h1 h2 h3 h4 h5).trans (t.2.1 j h1 h2 h3 h4 h5), fun i hi => ⟨(u.2.2.1 i (by omega)).1.trans (t.2.2.1 i hi).1, (u.2.2.1 i (by omega)).2.trans (t.2.2.1 i hi).2⟩, fun a ha => (u.2.2.2 a ha).trans (t.2.2.2 a ha)⟩
theorem tpM_fX (t : tpM I B L) (u : fX w I I' J J') : tpM I' B L := ⟨by rw [u.2.1 13 (by decide) (by decide) (by decide) (by decide) (by decide)]; exact t.1, t.2.1, fun k hk => by rw [u.1 52 (by decide) (by decide) (by decide)]; exact t.2.2 k hk⟩
/-- the names so far, in the model -/
def nmM (I : Nat → Nat → Int32) (J : Nat → Nat → Int64) (nf cnt : Nat) (nam : Nat → Int64) : Prop := (I 44 14 = nI nf ∧ nf < 6 ∧ I 53 nf = nI cnt ∧ cnt ≤ 20) ∧ ∀ s, s < cnt → ((I 54 (20 * nf + s)).toInt ≤ 1 → J 55 (20 * nf + s) = nam s) ∧ (1 < (I 54 (20 * nf + s)).toInt → nam s = 0) ∧ ¬ kpt (nam s)
theorem nmM_fX (t : nmM I J nf cnt nam) (u : fX w I I' J J') : nmM I' J' nf cnt nam := by
  unfold nmM at t ⊢
  rw [u.2.1 14 (by decide) (by decide) (by decide) (by decide) (by decide), u.1 53 (by decide) (by decide) (by decide), u.1 54 (by decide) (by decide) (by decide), u.2.2.2 55 (by decide)]
  exact t
theorem nameOf_br {K : Int32 → aH → Prop} {x : Int64} (mf : MF g) (t : nmM I J nf cnt nam) (hx : x ≠ 0) : CI d 106 [vR 44, vI (nI nf), vL x] (hU g I J) K X ↔ K (nmF nam cnt x) (hU g I J) := by
  obtain ⟨⟨t1, t2, t3, t4⟩, t5⟩ := t
  refine CI_iff fun K X w => ?_
  have cI : (nI cnt).toInt = cnt := ti_n (by omega)
  have fI : (nI nf).toInt = nf := ti_n (by omega)
  have f6 : (nf : Int) < 6 := by omega
  have loop : ∀ n s, s + n = cnt → K (fdN nam x n s) (hU g I J) → Wp d 106 (3, [some (vR 44), some (vI (nI nf)), some (vL x), none, some (vI (nI s))], [], hU g I J) (RI K X) := by
    intro n
    induction n with
    | zero =>
      intro s hs k
      have hsc : s = cnt := by omega
      subst hsc
      refine w106_3 ?_
      simp only [↓forall_eq, ↓inB_iff, gK_hU, gL_hU, gR_hU, gIh, gJh, pI_hU, pJ_hU, hU_hU, uI_app, uJ_app, and_true, true_and, and_false, false_and, and_self, true_implies, false_implies, not_true, not_false_iff, if_true, if_false, eq_self, Nat.reduceLeDiff, Nat.reduceEqDiff, reduceCtorEq, i32c, ti0, ti1, tiM, Int.natCast_nonneg, Int.reduceEq, Int.reduceLE, Int.reduceLT, Int.reduceNeg, tl_i, Int32.reduceToInt, Int64.reduceToInt, tiA, tlM6, Int.toNat_natCast, natc, nI_1, Int.zero_sub, implies_true, not_false_eq_true, mf.1, mr_15 mf, mk_53 mf, ml_53 mf, mr_16 mf, mk_54 mf, ml_54 mf, mr_17 mf, mk_55 mf, ml_55 mf, fI, f6, t3, cI, Int.lt_irrefl]
      exact k
    | succ n ih =>
      intro s hs k
      have sI : (nI s).toInt = s := ti_n (by omega)
      have sl : (s : Int) < cnt := by omega
      have x1 : (20 : Int32) * nI nf + nI s = nI (20 * nf + s) := by rw [show (20 : Int32) = nI 20 from rfl, nI_mul, nI_add]
      have x2 : (nI (20 * nf + s)).toInt = ((20 * nf + s : Nat) : Int) := ti_n (by omega)
      have x3 : ((20 * nf + s : Nat) : Int) < 120 := by omega
      obtain ⟨e1, e2, -⟩ := t5 s (by omega)
      rw [fdN] at k
      refine w106_3 ?_
      simp only [↓forall_eq, ↓inB_iff, gK_hU, gL_hU, gR_hU, gIh, gJh, pI_hU, pJ_hU, hU_hU, uI_app, uJ_app, and_true, true_and, and_false, false_and, and_self, true_implies, false_implies, not_true, not_false_iff, if_true, if_false, eq_self, Nat.reduceLeDiff, Nat.reduceEqDiff, reduceCtorEq, i32c, ti0, ti1, tiM, Int.natCast_nonneg, Int.reduceEq, Int.reduceLE, Int.reduceLT, Int.reduceNeg, tl_i, Int32.reduceToInt, Int64.reduceToInt, tiA, tlM6, Int.toNat_natCast, natc, nI_1, Int.zero_sub, implies_true, not_false_eq_true, mf.1, mr_15 mf, mk_53 mf, ml_53 mf, mr_16 mf, mk_54 mf, ml_54 mf, mr_17 mf, mk_55 mf, ml_55 mf, fI, f6, t3, cI, sI, sl, x1, x2, x3]
      refine ⟨fun z => ?_, fun z => ⟨fun y => ?_, fun y => ?_⟩⟩
      · rw [if_neg (fun y => hx (by rw [← y]; exact e2 z))] at k
        exact ih (s + 1) (by omega) k
      · rw [e1 (by omega)] at y
        rw [if_pos (Int64.toInt_inj.1 y)] at k; exact k
      · rw [e1 (by omega)] at y
        rw [if_neg (fun z2 => y (by rw [z2]))] at k
        exact ih (s + 1) (by omega) k
  exact m106 (loop cnt 0 (by omega) w)
theorem keptM_br {K : Int32 → aH → Prop} {x : Int64} {h : aH} : CI d 105 [vL x] h K X ↔ ((kpt x → K 1 h) ∧ (¬ kpt x → K 0 h)) := by
  by_cases c : kpt x
  · rw [bz_t c]
    refine CI_iff fun K X w => m105 ?_
    unfold kpt at c
    exact ⟨fun _ => w, fun c1 => ⟨fun _ => w, fun c2 => ⟨fun _ => w, fun c3 => ⟨fun _ => w, fun c4 => ⟨fun _ => w, fun c5 => ⟨fun _ => w, fun c6 => ⟨fun _ => w, fun c7 => ⟨fun _ => w, fun c8 => by exfalso; rcases c with z | z | z | z | z | z | z | z; exact c1 z; exact c2 z; exact c3 z; exact c4 z; exact c5 z; exact c6 z; exact c7 z; exact c8 z⟩⟩⟩⟩⟩⟩⟩⟩
  · rw [bz_f c]
    refine CI_iff fun K X w => m105 ?_
    unfold kpt at c
    exact ⟨fun z => absurd (Or.inl z) c, fun _ => ⟨fun z => absurd (Or.inr (Or.inl z)) c, fun _ => ⟨fun z => absurd (Or.inr (Or.inr (Or.inl z))) c, fun _ => ⟨fun z => absurd (Or.inr (Or.inr (Or.inr (Or.inl z)))) c, fun _ => ⟨fun z => absurd (Or.inr (Or.inr (Or.inr (Or.inr (Or.inl z))))) c, fun _ => ⟨fun z => absurd (Or.inr (Or.inr (Or.inr (Or.inr (Or.inr (Or.inl z)))))) c, fun _ => ⟨fun z => absurd (Or.inr (Or.inr (Or.inr (Or.inr (Or.inr (Or.inr (Or.inl z))))))) c, fun _ => ⟨fun z => absurd (Or.inr (Or.inr (Or.inr (Or.inr (Or.inr (Or.inr (Or.inr z))))))) c, fun _ => w⟩⟩⟩⟩⟩⟩⟩⟩
theorem kdM_i (k : Nat) : (nI (kdM k)).toInt = kdM k ∧ (kdM k = 2 ↔ k = 0) ∧ (kdM k = 3 ↔ k = 1) ∧ (kdM k = 4 ↔ (k = 3 ∨ k = 4)) ∧ (kdM k = 5 ↔ k = 2) ∧ (kdM k = 6 ↔ k = 5) ∧ (kdM k = 0 ↔ k = 6) := by
  have h : kdM k ≤ 6 := by unfold kdM; repeat' split
                           all_goals omega
  refine ⟨ti_n (by omega), ?_⟩
  unfold kdM
  by_cases c0 : k = 0
  · rw [if_pos c0]; omega
  · rw [if_neg c0]
    by_cases c1 : k = 1
    · rw [if_pos c1]; omega
    · rw [if_neg c1]
      by_cases c2 : k = 2
      · rw [if_pos c2]; omega
      · rw [if_neg c2]
        by_cases c3 : k = 3 ∨ k = 4
        · rw [if_pos c3]; omega
        · rw [if_neg c3]
          by_cases c5 : k = 5
          · rw [if_pos c5]; omega
          · rw [if_neg c5]
            by_cases c6 : k = 6
            · rw [if_pos c6]; omega
            · rw [if_neg c6]; omega
theorem isWord_br {K : Int32 → aH → Prop} {x : Int64} (mf : MF g) (a : atM I J B L p) : CI d 110 [vR 44, vL x] (hU g I J) K X ↔ ((lxK B L p = 0 ∧ lxW B L p = x → K 1 (hU g I J)) ∧ (¬ (lxK B L p = 0 ∧ lxW B L p = x) → K 0 (hU g I J))) := by
  obtain ⟨kI, k2, -⟩ := kdM_i (lxK B L p)
  by_cases c : lxK B L p = 0 ∧ lxW B L p = x
  · rw [bz_t c]
    refine CI_iff fun K X w => m110 ?_
    have z : ((kdM (lxK B L p) : Nat) : Int) = 2 := by have := k2.2 c.1; omega
    simp only [↓forall_eq, ↓inB_iff, gK_hU, gL_hU, gR_hU, gIh, gJh, pI_hU, pJ_hU, hU_hU, uI_app, uJ_app, and_true, true_and, and_false, false_and, and_self, true_implies, false_implies, not_true, not_false_iff, if_true, if_false, eq_self, Nat.reduceLeDiff, Nat.reduceEqDiff, reduceCtorEq, i32c, ti0, ti1, tiM, Int.natCast_nonneg, Int.reduceEq, Int.reduceLE, Int.reduceLT, Int.reduceNeg, tl_i, Int32.reduceToInt, Int64.reduceToInt, tiA, tlM6, Int.toNat_natCast, natc, nI_1, Int.zero_sub, implies_true, not_false_eq_true, mf.1, a.1.2.1, kI, z, a.2.2.2.2.2 c.1, c.2]
    exact w
  · rw [bz_f c]
    refine CI_iff fun K X w => m110 ?_
    simp only [↓forall_eq, ↓inB_iff, gK_hU, gL_hU, gR_hU, gIh, gJh, pI_hU, pJ_hU, hU_hU, uI_app, uJ_app, and_true, true_and, and_false, false_and, and_self, true_implies, false_implies, not_true, not_false_iff, if_true, if_false, eq_self, Nat.reduceLeDiff, Nat.reduceEqDiff, reduceCtorEq, i32c, ti0, ti1, tiM, Int.natCast_nonneg, Int.reduceEq, Int.reduceLE, Int.reduceLT, Int.reduceNeg, tl_i, Int32.reduceToInt, Int64.reduceToInt, tiA, tlM6, Int.toNat_natCast, natc, nI_1, Int.zero_sub, implies_true, not_false_eq_true, mf.1, a.1.2.1, kI]
    refine ⟨fun z => ⟨fun y => absurd ⟨k2.1 (by omega), ?_⟩ c, fun _ => w⟩, fun _ => w⟩
    rw [a.2.2.2.2.2 (k2.1 (by omega))] at y
    exact Int64.toInt_inj.1 y
theorem lay_br {K : aH → Prop} {x y : Int32} (mf : MF g) (hw : I 44 27 = nI w) (hl : w < 7200) : CV d 109 [vR 44, vI x, vI y] (hU g I J) K X ↔ K (hU g (uI (uI (uI I 63 w x) 64 w y) 44 27 (nI (w + 1))) J) := by
  have wI : (nI w).toInt = w := ti_n (by omega)
  have wl : (w : Int) < 7200 := by omega
  refine CV_iff fun K X k => m109 ?_
  simp only [↓forall_eq, ↓inB_iff, gK_hU, gL_hU, gR_hU, gIh, gJh, pI_hU, pJ_hU, hU_hU, uI_app, uJ_app, and_true, true_and, and_false, false_and, and_self, true_implies, false_implies, not_true, not_false_iff, if_true, if_false, eq_self, Nat.reduceLeDiff, Nat.reduceEqDiff, reduceCtorEq, i32c, ti0, ti1, tiM, Int.natCast_nonneg, Int.reduceEq, Int.reduceLE, Int.reduceLT, Int.reduceNeg, tl_i, Int32.reduceToInt, Int64.reduceToInt, tiA, tlM6, Int.toNat_natCast, natc, nI_1, Int.zero_sub, implies_true, not_false_eq_true, mf.1, mr_25 mf, mk_63 mf, ml_63 mf, mr_26 mf, mk_64 mf, ml_64 mf, hw, wI, wl]
  exact k
theorem fX_lay {x y : Int32} : fX w I (uI (uI (uI I 63 w x) 64 w y) 44 27 (nI (w + 1))) J J := ⟨fun a h1 h2 h3 => by rw [uI_ne _ _ _ h1, uI_ne _ _ _ h3, uI_ne _ _ _ h2], fun j h1 _ _ _ _ => by rw [uI_nj _ _ _ _ h1, uI_ne _ _ _ (by decide), uI_ne _ _ _ (by decide)], fun i hi => ⟨by rw [uI_ne _ _ _ (by decide), uI_ne _ _ _ (by decide), uI_nj _ _ _ _ (by omega)], by rw [uI_ne _ _ _ (by decide), uI_nj _ _ _ _ (by omega), uI_ne _ _ _ (by decide)]⟩, fun _ _ => rfl⟩
theorem lay_v {x y : Int32} : uI (uI (uI I 63 w x) 64 w y) 44 27 (nI (w + 1)) 63 w = x ∧ uI (uI (uI I 63 w x) 64 w y) 44 27 (nI (w + 1)) 64 w = y ∧ uI (uI (uI I 63 w x) 64 w y) 44 27 (nI (w + 1)) 44 27 = nI (w + 1) := ⟨by rw [uI_ne _ _ _ (by decide), uI_ne _ _ _ (by decide), uI_same], by rw [uI_ne _ _ _ (by decide), uI_same], by rw [uI_same]⟩
theorem atM_lay {x y : Int32} (a : atM I J B L p) : atM (uI (uI (uI I 63 w x) 64 w y) 44 27 (nI (w + 1))) J B L p := by
  have e : ∀ j, j ≠ 27 → uI (uI (uI I 63 w x) 64 w y) 44 27 (nI (w + 1)) 44 j = I 44 j := fun j hj => by rw [uI_nj _ _ _ _ hj, uI_ne _ _ _ (by decide), uI_ne _ _ _ (by decide)]
  unfold atM at a ⊢
  rw [e 28 (by decide), e 29 (by decide), e 30 (by decide), e 32 (by decide)]
  exact a
/-- a word is not nought -/
theorem lxV_ne {s k : Nat} (hb : 0 < (B (s + k)).toInt) : lxV B s (k + 1) ≠ 0 := by
  intro z
  rw [lxV] at z
  have z1 := congrArg Int64.toBitVec z
  rw [Int64.toBitVec_or] at z1
  have z0 : (0 : Int64).toBitVec = 0#64 := rfl
  rw [z0] at z1
  have z2 : (B (s + k)).toInt64.toBitVec = 0#64 := by
    apply BitVec.eq_of_getLsbD_eq
    intro i hi
    have z3 := congrArg (fun v => v.getLsbD i) z1
    simp only [BitVec.getLsbD_or, BitVec.getLsbD_zero, Bool.or_eq_false_iff] at z3
    rw [z3.2, BitVec.getLsbD_zero]
  have z4 : (B (s + k)).toInt64 = 0 := Int64.toBitVec_inj.1 z2
  have z5 : (B (s + k)).toInt64.toInt = (B (s + k)).toInt := tl_i _
  rw [z4] at z5
  have : (0 : Int64).toInt = 0 := rfl
  omega
theorem lxW_ne (hp : p ≤ L) (hk : lxK B L p = 0) : lxW B L p ≠ 0 := by
  have go := lxK_go (B := B) hp (by omega)
  have c := go.1
  have cl : lxL (B (lxS B L p)) = true := by
    refine Decidable.byContradiction fun cl => ?_
    rw [lxK_d, if_pos c, if_neg cl] at hk
    by_cases cd : lxD (B (lxS B L p)) = true
    · rw [if_pos cd] at hk; split at hk <;> omega
    · rw [if_neg cd] at hk
      split at hk
      · omega
      · split at hk
        · omega
        · split at hk
          · omega
          · split at hk <;> omega
  have eE : lxE B L p = lxR B L lxL (lxS B L p) := by rw [lxE_d, if_pos c, if_pos cl]
  unfold lxW
  obtain ⟨k, hk2⟩ : ∃ k, lxE B L p - lxS B L p = k + 1 := ⟨lxE B L p - lxS B L p - 1, by omega⟩
  rw [hk2]
  refine lxV_ne ?_
  have := lxL_i.1 (lxR_all (B := B) (P := lxL) (L := L) (L - lxS B L p) (lxS B L p) (by omega) (lxS B L p + k) (by omega) (by rw [← eE]; omega))
  omega
end MTM
