/-! THE LEAST SET: both sides -/
section LST
variable {d f s r n p nf ns nr : Nat} {it t t1 : Nat → Int32} {h g : aH} {A o : Nat → Nat} {X : Nat → aH → Prop} {M : Nat → Nat → Int32} {I I1 : Nat → Nat → Int32} {J : Nat → Nat → Int64} {S T U : Int32} {E : Nat → Nat → List Tm} {Cn : Nat → Nat → List Cmp}
/-- what may be changed -/
def pfB (M : Nat → Nat → Int32) (f : Nat) (it : Nat → Int32) (s : Nat) : Bool := decide ((soM M f s).toInt = 0) && !decide ((it s).toInt = -2000000)
abbrev frU (M : Nat → Nat → Int32) (f : Nat) (it : Nat → Int32) : Int32 := bits (pfB M f it) (cnM M f)
abbrev bst (M : Nat → Nat → Int32) (f : Nat) (it : Nat → Int32) (U : Int32) (b : Int32 × Int) : Prop := best (fun T => fitB M f it (gB T)) (fun T => cS M f T (cnM M f)) (btw 0 U) (-1, 2147483647) b
theorem sub_0 : subB 0 S := fun i hi => by rw [gB_0] at hi; cases hi
theorem or_0 : 0 ||| S = S := gB_ext fun i _ => by rw [gB_or, gB_0, Bool.false_or]
theorem c_least {K : Int32 → aH → Prop} (e : edC h A o M f r it) (eu : edU M f it (frU M f it)) (s : eFr h I) (kk : ∀ I1 b1, eFr h I1 → I1 32 1 = b1.1 → (I1 32 2).toInt = b1.2 → bst M f it (frU M f it) b1 → K b1.1 (hU h I1 J)) : CI (d + 27) 206 [vR 32, vR (A (bR r))] (hU h I J) K X := by
  have e0 := e
  obtain ⟨⟨e1, e2⟩, e3, e4, ⟨e5, e6⟩, ⟨e7, e8⟩, R, e12, e13, e14⟩ := edC_hU (J := J) e s
  have e13' : gR h (A (bR r)) 0 = A (bF f) := e13
  have e7' : I (A (bF f)) 11 = nI (cnM M f) := e7
  have hcI : (nI (cnM M f)).toInt = (cnM M f : Nat) := ti_n (by omega)
  have main : ∀ (n p : Nat), p + n = cnM M f → Wp (d + 27) 206 (4, [some (vR 32), some (vR (A (bR r))), some (vI (bits (pfB M f it) p)), some (vI (nI p))], [], hU h I J) (RI K X) := by
    intro n
    induction n with
    | zero =>
      intro p hp
      have hpc : p = cnM M f := by omega
      subst hpc
      have s9 : ∀ x y : Int32, eFr h (uI (uI I 32 1 x) 32 2 y) := fun x y c h1 h2 => by rw [uI_ne _ _ _ h1, uI_ne _ _ _ h1]; exact s c h1 h2
      refine w206_4 ?_
      simp only [↓forall_eq, ↓inB_iff, gK_hU, gL_hU, gR_hU, gIh, gJh, pI_hU, pJ_hU, hU_hU, uI_app, uJ_app, and_true, true_and, and_false, false_and, and_self, true_implies, false_implies, not_true, not_false_iff, if_true, if_false, eq_self, Nat.reduceLeDiff, Nat.reduceEqDiff, reduceCtorEq, i32c, ti0, ti1, tiM, Int.natCast_nonneg, Int.reduceEq, Int.reduceLE, Int.reduceLT, Int.reduceNeg, tl_i, Int32.reduceToInt, Int64.reduceToInt, tiA, tlM6, Int.toNat_natCast, natc, nI_1, Int.zero_sub, implies_true, not_false_eq_true, kR_0 e4, kF_0 e3, e13', e7', Int.lt_irrefl, ck_32 e1]
      refine c_fits (d := d + 22) e0 (eu.1 _ (fun i hi => hi)) (s9 _ _) (fun I1 q1 q2 _ => ?_)
      obtain ⟨⟨x1, x2⟩, -⟩ := edC_hU (J := J) e0 q1
      have i1 : I1 32 1 = -1 := by rw [q2, uI_app, if_neg (by decide), uI_same]
      have i2 : (I1 32 2).toInt = 2147483647 := by rw [q2, uI_same]; rfl
      simp only [↓forall_eq, ↓inB_iff, gK_hU, gL_hU, gR_hU, gIh, gJh, pI_hU, pJ_hU, hU_hU, uI_app, uJ_app, and_true, true_and, and_false, false_and, and_self, true_implies, false_implies, not_true, not_false_iff, if_true, if_false, eq_self, Nat.reduceLeDiff, Nat.reduceEqDiff, reduceCtorEq, i32c, ti0, ti1, tiM, Int.natCast_nonneg, Int.reduceEq, Int.reduceLE, Int.reduceLT, Int.reduceNeg, tl_i, Int32.reduceToInt, Int64.reduceToInt, tiA, tlM6, Int.toNat_natCast, natc, nI_1, Int.zero_sub, implies_true, not_false_eq_true, bI0, ck_32 x1]
      refine ⟨fun c => ?_, fun c => ?_⟩
      · rw [i1]
        refine kk I1 (-1, 2147483647) q1 i1 i2 (best_none fun T hT => ?_)
        have hT2 := hT.2
        rw [or_0] at hT2
        cases hb : fitB M f it (gB T)
        · rfl
        · rw [eu.2.1 T _ hT2 (fun i hi => hi) hb] at c; cases c
      · refine c_choose e0 eu 20 _ 0 _ 0 I1 (-1, 2147483647) (by omega) (fun i hi => ?_) sub_0 (fun i hi => hi) (fun i j hi => by rw [gB_0] at hi; cases hi) (by rw [or_0]; exact bnf c) ?_ q1 i1 i2 (fun I2 b1 w1 w2 w3 w4 => ?_)
        · rw [gB_bits _ (by omega), decide_eq_false (by omega), Bool.false_and]
        · have : ∀ n, cS M f 0 n = 0 := fun n => by
            induction n with
            | zero => rfl
            | succ n ih => rw [cS, ih, gB_0, if_neg (by decide)]; rfl
          rw [this]; rfl
        · obtain ⟨⟨x1, x2⟩, -⟩ := edC_hU (J := J) e0 w1
          simp only [↓forall_eq, ↓inB_iff, gK_hU, gL_hU, gR_hU, gIh, gJh, pI_hU, pJ_hU, hU_hU, uI_app, uJ_app, and_true, true_and, and_false, false_and, and_self, true_implies, false_implies, not_true, not_false_iff, if_true, if_false, eq_self, Nat.reduceLeDiff, Nat.reduceEqDiff, reduceCtorEq, i32c, ti0, ti1, tiM, Int.natCast_nonneg, Int.reduceEq, Int.reduceLE, Int.reduceLT, Int.reduceNeg, tl_i, Int32.reduceToInt, Int64.reduceToInt, tiA, tlM6, Int.toNat_natCast, natc, nI_1, Int.zero_sub, implies_true, not_false_eq_true, ck_32 x1]
          rw [w2]; exact kk I2 b1 w1 w2 w3 w4
    | succ n ih =>
      intro p hp
      have hpI : (nI p).toInt = p := ti_n (by omega)
      have hlt : (p : Int) < (cnM M f : Nat) := by omega
      have z20 : (p : Int) < 20 := by omega
      have y1 : I (A (bF f + 3)) p = soM M f p := (e12 p (by omega)).2
      have y2 : I (A (bR r + 1)) p = it p := e14 p (by omega)
      have nx := ih (p + 1) (by omega)
      rw [bits] at nx
      unfold pfB at nx
      have ak := fun K X => @isAsk_br (d + 25) f p (hU h I J) A o X K e3 (cnM M f) e7 e8 (by omega)
      refine w206_4 ?_
      simp only [↓forall_eq, ↓inB_iff, gK_hU, gL_hU, gR_hU, gIh, gJh, pI_hU, pJ_hU, hU_hU, uI_app, uJ_app, and_true, true_and, and_false, false_and, and_self, true_implies, false_implies, not_true, not_false_iff, if_true, if_false, eq_self, Nat.reduceLeDiff, Nat.reduceEqDiff, reduceCtorEq, i32c, ti0, ti1, tiM, Int.natCast_nonneg, Int.reduceEq, Int.reduceLE, Int.reduceLT, Int.reduceNeg, tl_i, Int32.reduceToInt, Int64.reduceToInt, tiA, tlM6, Int.toNat_natCast, natc, nI_1, Int.zero_sub, implies_true, not_false_eq_true, kR_0 e4, kF_0 e3, eF_0 e3, e13', e7', hpI, hcI, hlt, ↓ak, y1, rR_0_3 e4, kR_1 e4, lR_1 e4, z20, y2]
      refine ⟨fun c => ⟨fun c2 => ?_, fun c2 => ?_⟩, fun c => ?_⟩
      · rw [if_neg (by rw [decide_eq_true c, decide_eq_true c2]; decide)] at nx; exact nx
      · rw [if_pos (by rw [decide_eq_true c, decide_eq_false c2]; decide)] at nx; exact nx
      · rw [if_neg (by rw [decide_eq_false c]; simp)] at nx; exact nx
  exact m206 (main (cnM M f) 0 (by omega))
end LST
