/-! READING A TEXT: the class reads a whole statement -/
section STC
variable {d L p q q1 w w0 cnt ak s : Nat} {h : aH} {X : Nat → aH → Prop} {B : Nat → Int32} {I0 I I' : Nat → Nat → Int32} {J0 J J' : Nat → Nat → Int64} {nam : Nat → Int64} {F : Nat → Nat} {f3 f4 f5 f6 f9 : Nat → Int32} {K : Int32 → aH → Prop} {hd : Int64 × Int32 × Int32 × List Tm}
theorem srN_le : srN B L p ≤ 4 := by
  unfold srN
  repeat' split
  all_goals omega
theorem stF_hd (hn : ¬ (srN B L p = 4 ∨ (srN B L p = 0 ∧ 10 ≤ ak))) (hh : hdN B L nam cnt (srN B L p) (lxE B L p) = (some hd, q)) : stF B L nam cnt ak p = afF B L (srN B L p) hd (cnF B L nam cnt (srN B L p) q) := by
  unfold stF
  rw [if_neg hn, hh]
  rfl
theorem stF_no (hn : ¬ (srN B L p = 4 ∨ (srN B L p = 0 ∧ 10 ≤ ak))) (hh : hdN B L nam cnt (srN B L p) (lxE B L p) = (none, q)) : stF B L nam cnt ak p = (none, q) := by
  unfold stF
  rw [if_neg hn, hh]
theorem sC_0 (hw : I0 (F 0) 10 = nI w0) (hc : I0 (F 0) 11 = nI cnt) (hk : I0 (F 0) 12 = nI ak) : sC F I0 I0 J0 J0 w0 (I0 (F 3)) (I0 (F 4)) (I0 (F 5)) (I0 (F 6)) (I0 (F 9)) ak w0 cnt := ⟨⟨fun _ _ _ _ => ⟨rfl, rfl⟩, rfl⟩, ⟨rfl, rfl, rfl, rfl, rfl⟩, ⟨rfl, rfl, rfl, fun _ _ => rfl⟩, ⟨hw, hc, hk⟩, fun _ _ => ⟨rfl, rfl⟩⟩
theorem c_rname (S : pS h F L) (t : tpC I B L) (a : atC I J B L p) (nc : nmC I J (F 0) (F 7) cnt nam) (hp : p ≤ L)
    (ok : nmK B L nam cnt p → ∀ I' J', fT I I' (uJ J 19 2 (lxW B L p)) J' → atC I' J' B L (lxE B L p) → K 1 (hU h I' J'))
    (no : ¬ nmK B L nam cnt p → ∀ I', fB9 I I' J J → I' 19 4 = nI (lxS B L p) → K 0 (hU h I' J)) : CI (d + 2) 79 [vR 19] (hU h I J) K X := by
  have f := S.1.1
  have r1 := S.1.2.1.2.1
  have k0 := S.1.2.1.1
  have g0 := S.2.2.2.1 0 (by decide)
  have e0 : 8 ≤ F 0 := by omega
  have kl := lxK_le (B := B) (L := L) (p := p)
  have kI : (nI (lxK B L p)).toInt = lxK B L p := ti_n (by omega)
  have fl : ¬ nmK B L nam cnt p → CI (d + 1) 75 [vR 19, vI (I 17 4)] (hU h I J) (fun y h0 => y &&& 1 = y ∧ K y h0) X := fun z => by
    refine m75 ?_
    simp only [↓forall_eq, ↓inB_iff, gK_hU, gL_hU, gR_hU, gIh, gJh, pI_hU, pJ_hU, hU_hU, uI_app, uJ_app, and_true, true_and, and_false, false_and, and_self, true_implies, false_implies, not_true, not_false_iff, if_true, if_false, eq_self, Nat.reduceLeDiff, Nat.reduceEqDiff, reduceCtorEq, i32c, ti0, ti1, tiM, Int.natCast_nonneg, Int.reduceEq, Int.reduceLE, Int.reduceLT, Int.reduceNeg, tl_i, Int32.reduceToInt, Int64.reduceToInt, tiA, tlM6, Int.toNat_natCast, natc, nI_1, Int.zero_sub, implies_true, not_false_eq_true, ck_17 f, ck_19 f, cr_19_0 f]
    exact ⟨by decide, no z _ fB_9 (by rw [uI_same]; exact a.1.2.2)⟩
  refine m79 ?_
  simp only [↓forall_eq, ↓inB_iff, gK_hU, gL_hU, gR_hU, gIh, gJh, pI_hU, pJ_hU, hU_hU, uI_app, uJ_app, and_true, true_and, and_false, false_and, and_self, true_implies, false_implies, not_true, not_false_iff, if_true, if_false, eq_self, Nat.reduceLeDiff, Nat.reduceEqDiff, reduceCtorEq, i32c, ti0, ti1, tiM, Int.natCast_nonneg, Int.reduceEq, Int.reduceLE, Int.reduceLT, Int.reduceNeg, tl_i, Int32.reduceToInt, Int64.reduceToInt, tiA, tlM6, Int.toNat_natCast, natc, nI_1, Int.zero_sub, implies_true, not_false_eq_true, ck_17 f, ck_19 f, cr_19_0 f, a.1.2.1, kI, ↓kept_br, r1, k0, e0, ↓named_br S.1 nc]
  refine ⟨fun z => ?_, fun z => fl (fun y => z (by rw [y.1]; rfl))⟩
  have ck : lxK B L p = 0 := by omega
  rw [a.2.2 ck]
  refine ⟨fun kp => fl (fun y => y.2.1 kp), fun kp => ⟨fun nn => ?_, fun nn => fl (fun y => nn (by rw [y.2.2]; rfl))⟩⟩
  have go := lxK_go (B := B) hp (by omega)
  exact c_adv f t go.2.2.2 a.1.1 (fun I2 J2 u2 a2 => ok ⟨ck, kp, ti_inj nn⟩ I2 J2 u2 a2)
theorem c_stmt (S : pS h F L) (t : tpC I0 B L) (a : atC I0 J0 B L p) (hp : p ≤ L) (hw : I0 (F 0) 10 = nI w0) (hc : I0 (F 0) 11 = nI cnt) (hk : I0 (F 0) 12 = nI ak) (h20 : cnt < 20) (hak : ak ≤ 20) (n0 : ∀ k, k < cnt → J0 (F 7) k = nam k) (hle : w0 ≤ lxS B L p)
    (ok : kOK h K F B L I0 J0 (stF B L nam cnt ak p) w0 cnt ak) (no : kNO h K F B L I0 J0 (stF B L nam cnt ak p)) : CI (d + 5) 89 [vR 19] (hU h I0 J0) K X := by
  have f := S.1.1
  have r1 := S.1.2.1.2.1
  have k0 := S.1.2.1.1
  have g := S.2.2.2.1
  have g0 := g 0 (by decide)
  have g1 := g 1 (by decide)
  have g2 := g 2 (by decide)
  have g3 := g 3 (by decide)
  have e0 : 8 ≤ F 0 := by omega
  have akI : (nI ak).toInt = ak := ti_n (by omega)
  have ne : ∀ i j, i < 12 → j < 12 → i ≠ j → F i ≠ F j := fun i j hi hj hn => pS_ne S hi hj hn
  have fl : stF B L nam cnt ak p = (none, p) → CI (d + 4) 75 [vR 19, vI (I0 17 4)] (hU h I0 J0) (fun y h0 => y &&& 1 = y ∧ K y h0) X := fun z => by
    refine m75 ?_
    simp only [↓forall_eq, ↓inB_iff, gK_hU, gL_hU, gR_hU, gIh, gJh, pI_hU, pJ_hU, hU_hU, uI_app, uJ_app, and_true, true_and, and_false, false_and, and_self, true_implies, false_implies, not_true, not_false_iff, if_true, if_false, eq_self, Nat.reduceLeDiff, Nat.reduceEqDiff, reduceCtorEq, i32c, ti0, ti1, tiM, Int.natCast_nonneg, Int.reduceEq, Int.reduceLE, Int.reduceLT, Int.reduceNeg, tl_i, Int32.reduceToInt, Int64.reduceToInt, tiA, tlM6, Int.toNat_natCast, natc, nI_1, Int.zero_sub, implies_true, not_false_eq_true, ck_17 f, ck_19 f, cr_19_0 f]
    exact ⟨by decide, no p _ J0 z ⟨fun b _ h2 _ => by rw [uI_ne _ _ _ h2]; exact ⟨rfl, rfl⟩, by rw [uI_ne _ _ _ (by decide)]⟩ (by rw [uI_same]; exact a.1.2.2)⟩
  have body : ∀ s : Nat, s = srN B L p → s ≠ 4 → ¬ (srN B L p = 4 ∨ (srN B L p = 0 ∧ 10 ≤ ak)) → Wp (d + 5) 89 (38, [some (vR 19), some (vI (nI s)), none], [], hU h I0 J0) (RI K X) := by
    intro s hs s4 hn
    have s3 : s ≤ 3 := by
      have := srN_le (B := B) (L := L) (p := p)
      omega
    have k6 : lxK B L p ≠ 6 := by
      intro z
      rw [hs] at s4
      unfold srN at s4
      rw [if_neg (by rw [z]; rintro ⟨y, -⟩; cases y), if_neg (by rw [z]; rintro ⟨y, -⟩; cases y), if_neg (by rw [z]; rintro ⟨y, -⟩; cases y), if_neg (by rw [z]; rintro ⟨y, -⟩; cases y)] at s4
      exact s4 rfl
    have go := lxK_go (B := B) hp k6
    have sI : (nI s).toInt = s := ti_n (by omega)
    rw [← hs] at hn
    have hst : ∀ {hd q}, hdN B L nam cnt s (lxE B L p) = (some hd, q) → stF B L nam cnt ak p = afF B L s hd (cnF B L nam cnt s q) := fun {hd q} z => by rw [hs] at z hn ⊢; exact stF_hd hn z
    have hsn : ∀ {q}, hdN B L nam cnt s (lxE B L p) = (none, q) → stF B L nam cnt ak p = (none, q) := fun {q} z => by rw [hs] at z hn; exact stF_no hn z
    refine w89_38 ?_
    simp only [↓forall_eq, ↓inB_iff, gK_hU, gL_hU, gR_hU, gIh, gJh, pI_hU, pJ_hU, hU_hU, uI_app, uJ_app, and_true, true_and, and_false, false_and, and_self, true_implies, false_implies, not_true, not_false_iff, if_true, if_false, eq_self, Nat.reduceLeDiff, Nat.reduceEqDiff, reduceCtorEq, i32c, ti0, ti1, tiM, Int.natCast_nonneg, Int.reduceEq, Int.reduceLE, Int.reduceLT, Int.reduceNeg, tl_i, Int32.reduceToInt, Int64.reduceToInt, tiA, tlM6, Int.toNat_natCast, natc, nI_1, Int.zero_sub, implies_true, not_false_eq_true, ck_17 f, ck_19 f, cr_19_0 f]
    refine c_adv f t go.2.2.2 a.1.1 (fun I1 J1 u1 a1 => ?_)
    simp only [↓forall_eq, ↓inB_iff, gK_hU, gL_hU, gR_hU, gIh, gJh, pI_hU, pJ_hU, hU_hU, uI_app, uJ_app, and_true, true_and, and_false, false_and, and_self, true_implies, false_implies, not_true, not_false_iff, if_true, if_false, eq_self, Nat.reduceLeDiff, Nat.reduceEqDiff, reduceCtorEq, i32c, ti0, ti1, tiM, Int.natCast_nonneg, Int.reduceEq, Int.reduceLE, Int.reduceLT, Int.reduceNeg, tl_i, Int32.reduceToInt, Int64.reduceToInt, tiA, tlM6, Int.toNat_natCast, natc, nI_1, Int.zero_sub, implies_true, not_false_eq_true, ck_17 f, ck_19 f, cr_19_0 f, r1, k0, e0]
    have c1 := sC_fB S (sC_0 (F := F) (J0 := J0) hw hc hk) (fB_T u1)
    refine c_begin S c1.2.2.2.1.2.1 h20 ?_
    have c2 := sC_3 (i := cnt) (x := nI s) S c1
    have t2 : tpC (uI I1 (F 3) cnt (nI s)) B L := by
      have t1 := tpC_fT t u1
      exact ⟨by rw [uI_ne _ _ _ (by omega)]; exact t1.1, t1.2.1, fun k hk => by rw [uI_ne _ _ _ (by omega)]; exact t1.2.2 k hk⟩
    have a2 : atC (uI I1 (F 3) cnt (nI s)) J1 B L (lxE B L p) := by
      unfold atC at a1 ⊢
      rw [uI_ne _ _ _ (by omega)]; exact a1
    generalize uI I1 (F 3) cnt (nI s) = I2 at *
    have nc2 := nmC_sC S c2 h20 n0
    simp only [sI]
    refine ⟨fun z => ?_, fun z => ⟨ck_19 f, ?_⟩⟩
    · -- must or warn
      have hh : hdN B L nam cnt s (lxE B L p) = (some (0, 0, 0, []), lxE B L p) := by unfold hdN; rw [if_pos (by omega)]
      have s0 : ¬ s = 0 := by omega
      have s1 : ¬ ((s : Int) = 1) := by omega
      have s0' : ¬ ((s : Int) = 0) := by omega
      have c3 : sH F I0 I2 J0 J1 w0 cnt ak s ((0 : Int64), (0 : Int32), (0 : Int32), ([] : List Tm)) (I0 (F 9)) (w0 + 0) := by
        unfold sH
        simp only [s0, if_false, Nat.add_zero]
        exact c2
      refine w89_67 ?_
      simp only [↓forall_eq, ↓inB_iff, gK_hU, gL_hU, gR_hU, gIh, gJh, pI_hU, pJ_hU, hU_hU, uI_app, uJ_app, and_true, true_and, and_false, false_and, and_self, true_implies, false_implies, not_true, not_false_iff, if_true, if_false, eq_self, Nat.reduceLeDiff, Nat.reduceEqDiff, reduceCtorEq, i32c, ti0, ti1, tiM, Int.natCast_nonneg, Int.reduceEq, Int.reduceLE, Int.reduceLT, Int.reduceNeg, tl_i, Int32.reduceToInt, Int64.reduceToInt, tiA, tlM6, Int.toNat_natCast, natc, nI_1, Int.zero_sub, implies_true, not_false_eq_true, sI, s0']
      refine w89_78 ?_
      simp only [↓forall_eq, ↓inB_iff, gK_hU, gL_hU, gR_hU, gIh, gJh, pI_hU, pJ_hU, hU_hU, uI_app, uJ_app, and_true, true_and, and_false, false_and, and_self, true_implies, false_implies, not_true, not_false_iff, if_true, if_false, eq_self, Nat.reduceLeDiff, Nat.reduceEqDiff, reduceCtorEq, i32c, ti0, ti1, tiM, Int.natCast_nonneg, Int.reduceEq, Int.reduceLE, Int.reduceLT, Int.reduceNeg, tl_i, Int32.reduceToInt, Int64.reduceToInt, tiA, tlM6, Int.toNat_natCast, natc, nI_1, Int.zero_sub, implies_true, not_false_eq_true, ck_17 f, ck_19 f, cr_19_0 f, sI, s1, r1, k0, e0]
      have := c_s78b (d := d) (X := X) S t2 a2 go.2.2.2 h20 n0 c3 ⟨s3, fun _ => rfl, fun y => absurd y s0, fun _ => ⟨rfl, rfl⟩, fun _ => rfl⟩ (fun y => by omega) True.intro (by show w0 + 0 + 1 ≤ _; omega) (hst hh) ok no
      rw [sI] at this
      exact this
    · -- ask or let
      refine c_rname S t2 a2 nc2 go.2.2.2 (fun hnm I3 J3 u3 a3 => ?_) (fun hnm I3 u3 x4 => ⟨fun _ => no (lxE B L p) I3 J1 ?_ ?_ x4, fun y => absurd rfl y⟩)
      · have go2 := lxK_go (B := B) go.2.2.2 (fun y => by rw [hnm.1] at y; cases y)
        have c3 := sC_fB S (sC_j (x := lxW B L (lxE B L p)) S c2) (fB_T u3)
        have t3 := tpC_fT t2 u3
        have nc3 := nmC_sC S c3 h20 n0
        have nm3 : J3 19 2 = lxW B L (lxE B L p) := by rw [u3.2.2 19 (by decide), uJ_app, if_pos ⟨rfl, rfl⟩]
        simp only [↓forall_eq, ↓inB_iff, gK_hU, gL_hU, gR_hU, gIh, gJh, pI_hU, pJ_hU, hU_hU, uI_app, uJ_app, and_true, true_and, and_false, false_and, and_self, true_implies, false_implies, not_true, not_false_iff, if_true, if_false, eq_self, Nat.reduceLeDiff, Nat.reduceEqDiff, reduceCtorEq, i32c, ti0, ti1, tiM, Int.natCast_nonneg, Int.reduceEq, Int.reduceLE, Int.reduceLT, Int.reduceNeg, tl_i, Int32.reduceToInt, Int64.reduceToInt, tiA, tlM6, Int.toNat_natCast, natc, nI_1, Int.zero_sub, implies_true, not_false_eq_true]
        by_cases s0 : s = 0
        · have s0' : ((s : Int) = 0) := by omega
          have s1 : ¬ ((s : Int) = 1) := by omega
          refine w89_67 ?_
          simp only [↓forall_eq, ↓inB_iff, gK_hU, gL_hU, gR_hU, gIh, gJh, pI_hU, pJ_hU, hU_hU, uI_app, uJ_app, and_true, true_and, and_false, false_and, and_self, true_implies, false_implies, not_true, not_false_iff, if_true, if_false, eq_self, Nat.reduceLeDiff, Nat.reduceEqDiff, reduceCtorEq, i32c, ti0, ti1, tiM, Int.natCast_nonneg, Int.reduceEq, Int.reduceLE, Int.reduceLT, Int.reduceNeg, tl_i, Int32.reduceToInt, Int64.reduceToInt, tiA, tlM6, Int.toNat_natCast, natc, nI_1, Int.zero_sub, implies_true, not_false_eq_true, ck_17 f, ck_19 f, cr_19_0 f, sI, s0']
          refine c_bounds (cnt := cnt) S t3 a3 go2.2.2.2 c3.2.2.2.1.2.1 h20 (fun lo hi q2 I4 J4 hb u4 a4 hq4 le4 nb => ?_) (fun q2 I4 J4 hb u4 x4 => ⟨fun _ => no q2 I4 J4 (hsn ?_) (sC_fB S c3 u4).1 x4, fun y => absurd rfl y⟩)
          · have hh : hdN B L nam cnt s (lxE B L p) = (some (lxW B L (lxE B L p), lo, hi, []), q2) := by
              unfold hdN; rw [if_neg (by omega), if_pos hnm, if_pos s0, hb]
            have c4 := sC_b (i := cnt) (x := lo) (y := hi) S (sC_fB S c3 u4)
            have t4 : tpC (uI (uI (uI (uI I4 (F 4) cnt lo) (F 5) cnt hi) (F 6) cnt 1) (F 0) 12 (I4 (F 0) 12 + 1)) B L := by
              have t1 := tpC_fB t3 u4
              have g4 := g 4 (by decide)
              have g5 := g 5 (by decide)
              have g6 := g 6 (by decide)
              exact ⟨by rw [uI_ne _ _ _ (by omega), uI_ne _ _ _ (by omega), uI_ne _ _ _ (by omega), uI_ne _ _ _ (by omega)]; exact t1.1, t1.2.1, fun k hk => by rw [uI_ne _ _ _ (by omega), uI_ne _ _ _ (by omega), uI_ne _ _ _ (by omega), uI_ne _ _ _ (by omega)]; exact t1.2.2 k hk⟩
            have a5 : atC (uI (uI (uI (uI I4 (F 4) cnt lo) (F 5) cnt hi) (F 6) cnt 1) (F 0) 12 (I4 (F 0) 12 + 1)) J4 B L q2 := by
              have g4 := g 4 (by decide)
              have g5 := g 5 (by decide)
              have g6 := g 6 (by decide)
              unfold atC at a4 ⊢
              rw [uI_ne _ _ _ (by omega), uI_ne _ _ _ (by omega), uI_ne _ _ _ (by omega), uI_ne _ _ _ (by omega)]; exact a4
            generalize uI (uI (uI (uI I4 (F 4) cnt lo) (F 5) cnt hi) (F 6) cnt 1) (F 0) 12 (I4 (F 0) 12 + 1) = I5 at *
            have c5 : sH F I0 I5 J0 J4 w0 cnt ak s (lxW B L (lxE B L p), lo, hi, ([] : List Tm)) (I0 (F 9)) (w0 + 0) := by
              unfold sH
              simp only [s0, if_true, Nat.add_zero]
              rw [s0] at c4
              exact c4
            simp only [↓forall_eq, ↓inB_iff, gK_hU, gL_hU, gR_hU, gIh, gJh, pI_hU, pJ_hU, hU_hU, uI_app, uJ_app, and_true, true_and, and_false, false_and, and_self, true_implies, false_implies, not_true, not_false_iff, if_true, if_false, eq_self, Nat.reduceLeDiff, Nat.reduceEqDiff, reduceCtorEq, i32c, ti0, ti1, tiM, Int.natCast_nonneg, Int.reduceEq, Int.reduceLE, Int.reduceLT, Int.reduceNeg, tl_i, Int32.reduceToInt, Int64.reduceToInt, tiA, tlM6, Int.toNat_natCast, natc, nI_1, Int.zero_sub, implies_true, not_false_eq_true]
            refine w89_78 ?_
            simp only [↓forall_eq, ↓inB_iff, gK_hU, gL_hU, gR_hU, gIh, gJh, pI_hU, pJ_hU, hU_hU, uI_app, uJ_app, and_true, true_and, and_false, false_and, and_self, true_implies, false_implies, not_true, not_false_iff, if_true, if_false, eq_self, Nat.reduceLeDiff, Nat.reduceEqDiff, reduceCtorEq, i32c, ti0, ti1, tiM, Int.natCast_nonneg, Int.reduceEq, Int.reduceLE, Int.reduceLT, Int.reduceNeg, tl_i, Int32.reduceToInt, Int64.reduceToInt, tiA, tlM6, Int.toNat_natCast, natc, nI_1, Int.zero_sub, implies_true, not_false_eq_true, ck_17 f, ck_19 f, cr_19_0 f, sI, s1, r1, k0, e0]
            have := c_s78b (d := d) (X := X) S t4 a5 hq4 h20 n0 c5 ⟨s3, fun _ => rfl, fun _ => nb, fun y => absurd s0 y, fun y => by omega⟩ (fun y => by rw [u4.2.2 19 (by decide)]; exact nm3) True.intro (by show w0 + 0 + 1 ≤ _; omega) (hst hh) ok no
            rw [sI] at this
            exact this
          · unfold hdN; rw [if_neg (by omega), if_pos hnm, if_pos s0, hb]
        · have s0' : ¬ ((s : Int) = 0) := by omega
          have s1 : ((s : Int) = 1) := by omega
          refine w89_67 ?_
          simp only [↓forall_eq, ↓inB_iff, gK_hU, gL_hU, gR_hU, gIh, gJh, pI_hU, pJ_hU, hU_hU, uI_app, uJ_app, and_true, true_and, and_false, false_and, and_self, true_implies, false_implies, not_true, not_false_iff, if_true, if_false, eq_self, Nat.reduceLeDiff, Nat.reduceEqDiff, reduceCtorEq, i32c, ti0, ti1, tiM, Int.natCast_nonneg, Int.reduceEq, Int.reduceLE, Int.reduceLT, Int.reduceNeg, tl_i, Int32.reduceToInt, Int64.reduceToInt, tiA, tlM6, Int.toNat_natCast, natc, nI_1, Int.zero_sub, implies_true, not_false_eq_true, ck_17 f, ck_19 f, cr_19_0 f, sI, s0']
          refine w89_78 ?_
          simp only [↓forall_eq, ↓inB_iff, gK_hU, gL_hU, gR_hU, gIh, gJh, pI_hU, pJ_hU, hU_hU, uI_app, uJ_app, and_true, true_and, and_false, false_and, and_self, true_implies, false_implies, not_true, not_false_iff, if_true, if_false, eq_self, Nat.reduceLeDiff, Nat.reduceEqDiff, reduceCtorEq, i32c, ti0, ti1, tiM, Int.natCast_nonneg, Int.reduceEq, Int.reduceLE, Int.reduceLT, Int.reduceNeg, tl_i, Int32.reduceToInt, Int64.reduceToInt, tiA, tlM6, Int.toNat_natCast, natc, nI_1, Int.zero_sub, implies_true, not_false_eq_true, ck_17 f, ck_19 f, cr_19_0 f, sI, s1]
          refine c_rexp (e := 1) S.1 t3 a3 nc3 go2.2.2.2 c3.2.2.2.1.1 (by omega) (fun ts q2 I4 J4 hx u4 a4 hq4 w4 le4 en4 => ?_) (fun q2 I4 J4 hx u4 x4 => ⟨fun _ => no q2 I4 J4 (hsn ?_) ?_ x4, fun y => absurd rfl y⟩)
          · have hh : hdN B L nam cnt s (lxE B L p) = (some (lxW B L (lxE B L p), 0, 0, ts), q2) := by
              unfold hdN; rw [if_neg (by omega), if_pos hnm, if_neg s0, hx]
            have c4 := sC_fE S c3 u4 (Nat.le_refl _) w4
            have c5 : sH F I0 I4 J0 J4 w0 cnt ak s (lxW B L (lxE B L p), (0 : Int32), (0 : Int32), ts) (I0 (F 9)) (w0 + ts.length) := by
              unfold sH
              simp only [s0, if_false, Nat.add_zero]
              exact c4
            simp only [↓forall_eq, ↓inB_iff, gK_hU, gL_hU, gR_hU, gIh, gJh, pI_hU, pJ_hU, hU_hU, uI_app, uJ_app, and_true, true_and, and_false, false_and, and_self, true_implies, false_implies, not_true, not_false_iff, if_true, if_false, eq_self, Nat.reduceLeDiff, Nat.reduceEqDiff, reduceCtorEq, i32c, ti0, ti1, tiM, Int.natCast_nonneg, Int.reduceEq, Int.reduceLE, Int.reduceLT, Int.reduceNeg, tl_i, Int32.reduceToInt, Int64.reduceToInt, tiA, tlM6, Int.toNat_natCast, natc, nI_1, Int.zero_sub, implies_true, not_false_eq_true, ck_17 f, ck_19 f, cr_19_0 f, r1, k0, e0]
            have := c_s78b (d := d) (X := X) S (tpC_fE S.1 t3 u4) a4 hq4 h20 n0 c5 ⟨s3, fun y => by omega, fun y => absurd y s0, fun _ => ⟨rfl, rfl⟩, fun y => by omega⟩ (fun y => by rw [u4.2.2.2.2.2 19 (by decide)]; exact nm3) en4 le4 (hst hh) ok no
            rw [sI, s1] at this
            simp only [↓forall_eq, ↓inB_iff, gK_hU, gL_hU, gR_hU, gIh, gJh, pI_hU, pJ_hU, hU_hU, uI_app, uJ_app, and_true, true_and, and_false, false_and, and_self, true_implies, false_implies, not_true, not_false_iff, if_true, if_false, eq_self, Nat.reduceLeDiff, Nat.reduceEqDiff, reduceCtorEq, i32c, ti0, ti1, tiM, Int.natCast_nonneg, Int.reduceEq, Int.reduceLE, Int.reduceLT, Int.reduceNeg, tl_i, Int32.reduceToInt, Int64.reduceToInt, tiA, tlM6, Int.toNat_natCast, natc, nI_1, Int.zero_sub, implies_true, not_false_eq_true] at this
            exact this
          · unfold hdN; rw [if_neg (by omega), if_pos hnm, if_neg s0, hx]
          · refine ⟨fun b h1 h2 h3 => ?_, by rw [u4.2.1]; exact c3.1.2⟩
            rw [u4.1 b h1 h2 (h3 0 (by decide)) (h3 1 (by decide)) (h3 2 (by decide)), u4.2.2.2.2.2 b h1]
            exact c3.1.1 b h1 h2 h3
      · refine hsn ?_
        unfold hdN; rw [if_neg (by omega), if_neg hnm]
      · exact (sC_fB S c2 u3).1
  refine m89 ?_
  simp only [↓forall_eq, ↓inB_iff, gK_hU, gL_hU, gR_hU, gIh, gJh, pI_hU, pJ_hU, hU_hU, uI_app, uJ_app, and_true, true_and, and_false, false_and, and_self, true_implies, false_implies, not_true, not_false_iff, if_true, if_false, eq_self, Nat.reduceLeDiff, Nat.reduceEqDiff, reduceCtorEq, i32c, ti0, ti1, tiM, Int.natCast_nonneg, Int.reduceEq, Int.reduceLE, Int.reduceLT, Int.reduceNeg, tl_i, Int32.reduceToInt, Int64.reduceToInt, tiA, tlM6, Int.toNat_natCast, natc, nI_1, Int.zero_sub, implies_true, not_false_eq_true, ck_17 f, ck_19 f, cr_19_0 f, ↓srt_br f a, r1, k0]
  by_cases s4 : srN B L p = 4
  · rw [if_pos s4]
    refine ⟨fun _ => fl (by unfold stF; rw [if_pos (Or.inl s4)]), fun z => absurd rfl z⟩
  · rw [if_neg s4]
    have s3 : srN B L p ≤ 3 := by
      have := srN_le (B := B) (L := L) (p := p)
      omega
    have sI : (nI (srN B L p)).toInt = srN B L p := ti_n (by omega)
    rw [sI, hk, akI]
    refine ⟨fun z => by omega, fun _ => ⟨fun z => ⟨fun z2 => body _ rfl s4 (by omega), fun z2 => fl (by unfold stF; rw [if_pos (Or.inr (by omega))])⟩, fun z => body _ rfl s4 (by omega)⟩⟩
end STC
