/-! SAMPLES: how many of each stratum -/
section SAL
variable {d U n fr : Nat} {h : aH} {X : Nat → aH → Prop} {st : Nat → Int32}
abbrev bsS (st : Nat → Int32) (U n fr i : Nat) : Nat := n * nN st U i / fr
abbrev rmS (st : Nat → Int32) (U n fr i : Nat) : Nat := n * nN st U i % fr
def rstS (st : Nat → Int32) (U n fr : Nat) (p : Nat) : Int := (n : Int) - smP (isF st) (fun j => (bsS st U n fr j : Nat)) p
def bfS (st : Nat → Int32) (U n fr i j : Nat) : Bool := isF st j && (decide (rmS st U n fr i < rmS st U n fr j) || (decide (rmS st U n fr j = rmS st U n fr i) && decide ((st j).toInt < (st i).toInt)))
/-- how many of a unit's stratum are drawn -/
def alS (st : Nat → Int32) (U n fr i : Nat) : Nat := if (st i).toInt = -2000000 then 0 else if fr = 0 then 0 else bsS st U n fr i + if (cntP (bfS st U n fr i) U : Int) < rstS st U n fr U then 1 else 0
theorem nN_le {i : Nat} : nN st U i ≤ U := by unfold nN; split; omega; exact cntP_le U
theorem bs_le {i : Nat} (u9 : U ≤ 100) (n9 : n ≤ 100) : n * nN st U i ≤ 10000 ∧ bsS st U n fr i ≤ 10000 := by
  have h1 : nN st U i ≤ 100 := Nat.le_trans nN_le u9
  have h2 : n * nN st U i ≤ 100 * 100 := Nat.mul_le_mul n9 h1
  have h3 : bsS st U n fr i ≤ n * nN st U i := Nat.div_le_self _ _
  omega
theorem rst_b (u9 : U ≤ 100) (n9 : n ≤ 100) : ∀ p, p ≤ U → 0 ≤ smP (isF st) (fun j => (bsS st U n fr j : Nat)) p ∧ smP (isF st) (fun j => (bsS st U n fr j : Nat)) p ≤ 10000 * p := by
  intro p
  induction p with
  | zero => intro _; exact ⟨Int.le_refl _, Int.le_refl _⟩
  | succ p ih =>
    intro hp
    have h1 := ih (by omega)
    have h2 := (bs_le (st := st) (U := U) (fr := fr) (i := p) u9 n9).2
    rw [smP]
    split <;> omega
theorem c_allot {K : aH → Prop} {r0 be ab q0 : Nat} (u9 : U ≤ 100) (n9 : n ≤ 100) (f9 : fr ≤ 100) (hr : gK h r0 = 9 ∧ gR h r0 0 = be ∧ gR h r0 1 = ab) (hb : 8 ≤ be ∧ gK h be = 100 ∧ gL h be = U) (ha : gK h ab = 100 ∧ gL h ab = U) (hs : gK h 16 = 100 ∧ gL h 16 = 100) (hq : gK h q0 = 100 ∧ gL h q0 = cntP (isF st) U) (ne : be ≠ ab ∧ be ≠ 16 ∧ be ≠ q0)
    (hst : ∀ i, i < U → gI h 16 i = st i) (hab : ∀ i, i < U → gI h ab i = nI (nN st U i)) (hld : ∀ i, i < U → isF st i = true → gI h q0 (cntP (isF st) i) = nI i) (h0 : ∀ i, i < U → gI h be i = 0)
    (kk : ∀ I, (∀ x, x ≠ be → I x = gI h x) → (∀ i, i < U → I be i = nI (alS st U n fr i)) → K (hU h I (gJ h))) : CV d 231 [vR r0, vR 16, vR q0, vI (nI n), vI (nI fr)] h K X := by
  obtain ⟨rk, rb, ra⟩ := hr
  obtain ⟨b8, bk, bl⟩ := hb
  obtain ⟨ak, al⟩ := ha
  obtain ⟨sk, sl⟩ := hs
  obtain ⟨qk, ql⟩ := hq
  obtain ⟨ne1, ne2, ne3⟩ := ne
  have hUI : (nI U).toInt = U := ti_n (by omega)
  have hfI : (nI fr).toInt = fr := ti_n (by omega)
  have kb : 100 ≤ 100 ∧ 100 ≤ 106 := by decide
  have Lle := cntP_le (P := isF st) U
  have LI : (nI (cntP (isF st) U)).toInt = (cntP (isF st) U : Nat) := ti_n (by omega)
  have lt : ∀ i, i < U → isF st i = true → cntP (isF st) i < cntP (isF st) U := fun i hi hf => by
    have : ∀ m, i < m → m ≤ U → cntP (isF st) i < cntP (isF st) m := by
      intro m
      induction m with
      | zero => intro z; omega
      | succ m ih =>
        intro z z2
        rw [cntP]
        by_cases c : i = m
        · rw [← c, if_pos hf]; omega
        · have := ih (by omega) (by omega); omega
    exact this U hi (Nat.le_refl _)
  by_cases f0 : fr = 0
  · refine m231 ⟨fun c => ?_, fun _ => ?_⟩
    · rw [hfI] at c; omega
    · have := kk (gI h) (fun _ _ => rfl) (fun i hi => by
        rw [h0 i hi]
        unfold alS
        rw [if_pos f0]
        split <;> rfl)
      rw [hU_eta] at this
      exact this
  · have fne : ¬ nI fr = 0 := fun e => by rw [e] at hfI; have : (0 : Int32).toInt = 0 := rfl; omega
    have nb := fun i => bs_le (st := st) (U := U) (n := n) (fr := fr) (i := i) u9 n9
    have mul : ∀ i, nI n * nI (nN st U i) = nI (n * nN st U i) := fun i => nI_mul _ _
    have dv : ∀ i, nI (n * nN st U i) / nI fr = nI (bsS st U n fr i) := fun i => nI_div (by have := (nb i).1; omega) (by omega)
    have md : ∀ i, aIrem (nI (n * nN st U i)) (nI fr) = nI (rmS st U n fr i) := fun i => nI_rem (by have := (nb i).1; omega) (by omega)
    have mlt : ∀ i, rmS st U n fr i < 100 := fun i => by have : rmS st U n fr i < fr := Nat.mod_lt _ (by omega); omega
    have mI : ∀ i, (nI (rmS st U n fr i)).toInt = (rmS st U n fr i : Nat) := fun i => ti_n (by have := mlt i; omega)
    have units : ∀ (m p : Nat) (I : Nat → Nat → Int32), p + m = U → (∀ x, x ≠ be → I x = gI h x) → (∀ i, i < U → I be i = if i < p then nI (alS st U n fr i) else 0) → Wp d 231 (60, [some (vR r0), some (vR 16), some (vR q0), some (vI (nI n)), some (vI (nI fr)), some (vI (iZ (rstS st U n fr U))), some (vI (nI p)), none, none, none, none, none, none, none], [], hU h I (gJ h)) (RV K X) := by
      have rb9 := rst_b (st := st) (fr := fr) u9 n9 U (Nat.le_refl _)
      have rI : (iZ (rstS st U n fr U)).toInt = rstS st U n fr U := by unfold rstS; exact ti_z (by omega) (by omega)
      intro m
      induction m with
      | zero =>
        intro p I hp i1 i2
        have hpc : p = U := by omega
        subst hpc
        refine w231_60 ?_
        simp only [↓forall_eq, ↓inB_iff, gK_hU, gL_hU, gR_hU, gIh, gJh, pI_hU, pJ_hU, hU_hU, uI_app, uJ_app, and_true, true_and, and_false, false_and, and_self, true_implies, false_implies, not_true, not_false_iff, if_true, if_false, eq_self, Nat.reduceLeDiff, Nat.reduceEqDiff, reduceCtorEq, i32c, ti0, ti1, tiM, Int.natCast_nonneg, Int.reduceEq, Int.reduceLE, Int.reduceLT, Int.reduceNeg, tl_i, Int32.reduceToInt, Int64.reduceToInt, tiA, tlM6, Int.toNat_natCast, natc, nI_1, Int.zero_sub, implies_true, not_false_eq_true, rk, rb, bk, bl, kb, Int.lt_irrefl]
        exact kk I i1 (fun i hi => by rw [i2 i hi, if_pos hi])
      | succ m ih =>
        intro p I hp i1 i2
        have hpI : (nI p).toInt = p := ti_n (by omega)
        have zU : (p : Int) < U := by omega
        have z100 : (p : Int) < 100 := by omega
        have e16 : I 16 = gI h 16 := i1 16 (fun e => ne2 e.symm)
        have eab : I ab = gI h ab := i1 ab (fun e => ne1 e.symm)
        have eq0 : I q0 = gI h q0 := i1 q0 (fun e => ne3 e.symm)
        have sp : gI h 16 p = st p := hst p (by omega)
        have ap : gI h ab p = nI (nN st U p) := hab p (by omega)
        have done : ∀ I2 : Nat → Nat → Int32, (∀ x, x ≠ be → I2 x = gI h x) → (∀ i, i < U → I2 be i = if i < p + 1 then nI (alS st U n fr i) else 0) → Wp d 231 (60, [some (vR r0), some (vR 16), some (vR q0), some (vI (nI n)), some (vI (nI fr)), some (vI (iZ (rstS st U n fr U))), some (vI (nI (p + 1))), none, none, none, none, none, none, none], [], hU h I2 (gJ h)) (RV K X) := fun I2 j1 j2 => ih (p + 1) I2 (by omega) j1 j2
        have leads : ∀ (m q : Nat), q + m = U → Wp d 231 (98, [some (vR r0), some (vR 16), some (vR q0), some (vI (nI n)), some (vI (nI fr)), some (vI (iZ (rstS st U n fr U))), some (vI (nI p)), some (vI (nI (rmS st U n fr p))), some (vI (nI (cntP (bfS st U n fr p) q))), some (vR q0), some (vI (nI (cntP (isF st) U))), some (vI (nI (cntP (isF st) q))), none, none], [], hU h I (gJ h)) (RV K X) := by
          intro m
          induction m with
          | zero =>
            intro q hq
            have hqc : q = U := by omega
            subst hqc
            have cle := cntP_le (P := bfS st q n fr p) q
            have cI : (nI (cntP (bfS st q n fr p) q)).toInt = (cntP (bfS st q n fr p) q : Nat) := ti_n (by omega)
            refine w231_98 ?_
            simp only [↓forall_eq, ↓inB_iff, gK_hU, gL_hU, gR_hU, gIh, gJh, pI_hU, pJ_hU, hU_hU, uI_app, uJ_app, and_true, true_and, and_false, false_and, and_self, true_implies, false_implies, not_true, not_false_iff, if_true, if_false, eq_self, Nat.reduceLeDiff, Nat.reduceEqDiff, reduceCtorEq, i32c, ti0, ti1, tiM, Int.natCast_nonneg, Int.reduceEq, Int.reduceLE, Int.reduceLT, Int.reduceNeg, tl_i, Int32.reduceToInt, Int64.reduceToInt, tiA, tlM6, Int.toNat_natCast, natc, nI_1, Int.zero_sub, implies_true, not_false_eq_true, Int.lt_irrefl, hpI, z100, zU, sk, sl, e16, sp, rk, ra, rb, ak, al, bk, bl, b8, eab, ap, mul, dv, fne, cI, rI]
            refine ⟨fun c => ?_, fun c => ⟨fun c2 => ?_, fun c2 => ?_⟩⟩
            · refine done I i1 (fun i hi => ?_)
              rw [i2 i hi]
              by_cases e : i = p
              · rw [if_neg (by omega), if_pos (by omega), e]; unfold alS; rw [if_pos c]; rfl
              · by_cases l : i < p
                · rw [if_pos l, if_pos (by omega)]
                · rw [if_neg l, if_neg (by omega)]
            · refine done _ (fun x hx => by rw [uI_ne _ _ _ hx]; exact i1 x hx) (fun i hi => ?_)
              rw [uI_app]
              by_cases e : i = p
              · rw [if_pos ⟨rfl, e⟩, if_pos (by omega), e]; unfold alS; rw [if_neg c, if_neg f0, if_pos c2]
              · rw [if_neg (fun w => e w.2), i2 i hi]
                by_cases l : i < p
                · rw [if_pos l, if_pos (by omega)]
                · rw [if_neg l, if_neg (by omega)]
            · refine done _ (fun x hx => by rw [uI_ne _ _ _ hx]; exact i1 x hx) (fun i hi => ?_)
              rw [uI_app]
              by_cases e : i = p
              · rw [if_pos ⟨rfl, e⟩, if_pos (by omega), e]; unfold alS; rw [if_neg c, if_neg f0, if_neg c2, Nat.add_zero]
                first | rfl | exact Int32.add_zero _
              · rw [if_neg (fun w => e w.2), i2 i hi]
                by_cases l : i < p
                · rw [if_pos l, if_pos (by omega)]
                · rw [if_neg l, if_neg (by omega)]
          | succ m ihm =>
            intro q hq
            have nx := ihm (q + 1) (by omega)
            rw [cntP, cntP] at nx
            by_cases hf : isF st q = true
            · have l1 := lt q (by omega) hf
              have cI : (nI (cntP (isF st) q)).toInt = (cntP (isF st) q : Nat) := ti_n (by omega)
              have zc : ((cntP (isF st) q : Nat) : Int) < (cntP (isF st) U : Nat) := by omega
              have hqI : (nI q).toInt = q := ti_n (by omega)
              have zq : (q : Int) < U := by omega
              have zq1 : (q : Int) < 100 := by omega
              have lq : gI h q0 (cntP (isF st) q) = nI q := hld q (by omega) hf
              have sq : gI h 16 q = st q := hst q (by omega)
              have aq : gI h ab q = nI (nN st U q) := hab q (by omega)
              have df : (nI (rmS st U n fr q) - nI (rmS st U n fr p)).toInt = (rmS st U n fr q : Int) - (rmS st U n fr p : Nat) := by
                have h1 := mlt q
                have h2 := mlt p
                rw [ti_sub (by rw [mI, mI]; omega) (by rw [mI, mI]; omega), mI, mI]
              rw [if_pos hf] at nx
              have yes : bfS st U n fr p q = true → Wp d 231 (98, [some (vR r0), some (vR 16), some (vR q0), some (vI (nI n)), some (vI (nI fr)), some (vI (iZ (rstS st U n fr U))), some (vI (nI p)), some (vI (nI (rmS st U n fr p))), some (vI (nI (cntP (bfS st U n fr p) q + 1))), some (vR q0), some (vI (nI (cntP (isF st) U))), some (vI (nI (cntP (isF st) q + 1))), none, none], [], hU h I (gJ h)) (RV K X) := fun z => by
                rw [if_pos z] at nx; exact nx
              have no : bfS st U n fr p q = false → Wp d 231 (98, [some (vR r0), some (vR 16), some (vR q0), some (vI (nI n)), some (vI (nI fr)), some (vI (iZ (rstS st U n fr U))), some (vI (nI p)), some (vI (nI (rmS st U n fr p))), some (vI (nI (cntP (bfS st U n fr p) q) + 0)), some (vR q0), some (vI (nI (cntP (isF st) U))), some (vI (nI (cntP (isF st) q + 1))), none, none], [], hU h I (gJ h)) (RV K X) := fun z => by
                rw [if_neg (by rw [z]; decide), Nat.add_zero] at nx
                rw [Int32.add_zero]; exact nx
              have ub : ∀ b : Bool, bfS st U n fr p q = b ↔ (decide (rmS st U n fr p < rmS st U n fr q) || (decide (rmS st U n fr q = rmS st U n fr p) && decide ((st q).toInt < (st p).toInt))) = b := fun b => by unfold bfS; rw [hf, Bool.true_and]
              refine w231_98 ?_
              simp only [↓forall_eq, ↓inB_iff, gK_hU, gL_hU, gR_hU, gIh, gJh, pI_hU, pJ_hU, hU_hU, uI_app, uJ_app, and_true, true_and, and_false, false_and, and_self, true_implies, false_implies, not_true, not_false_iff, if_true, if_false, eq_self, Nat.reduceLeDiff, Nat.reduceEqDiff, reduceCtorEq, i32c, ti0, ti1, tiM, Int.natCast_nonneg, Int.reduceEq, Int.reduceLE, Int.reduceLT, Int.reduceNeg, tl_i, Int32.reduceToInt, Int64.reduceToInt, tiA, tlM6, Int.toNat_natCast, natc, nI_1, Int.zero_sub, implies_true, not_false_eq_true, cI, LI, zc, qk, ql, eq0, lq, rk, ra, ak, al, hqI, zq, zq1, hpI, z100, zU, sk, sl, e16, eab, sp, sq, aq, mul, md, fne, df]
              refine ⟨fun c => yes ?_, fun c => ⟨fun c2 => ⟨fun c3 => yes ?_, fun c3 => no ?_⟩, fun c2 => no ?_⟩⟩
              · rw [ub, decide_eq_true (by omega)]; rfl
              · rw [ub, decide_eq_true (show rmS st U n fr q = rmS st U n fr p by omega), decide_eq_true c3]; simp
              · rw [ub, decide_eq_false (by omega), decide_eq_false c3]; simp
              · rw [ub, decide_eq_false (by omega), decide_eq_false (show ¬ rmS st U n fr q = rmS st U n fr p by omega)]; simp
            · have hf2 : isF st q = false := by cases hh : isF st q; rfl; exact absurd hh hf
              have hb2 : bfS st U n fr p q = false := by unfold bfS; rw [hf2]; rfl
              rw [if_neg hf, if_neg (by rw [hb2]; decide), Nat.add_zero, Nat.add_zero] at nx
              exact nx
        refine w231_60 ?_
        simp only [↓forall_eq, ↓inB_iff, gK_hU, gL_hU, gR_hU, gIh, gJh, pI_hU, pJ_hU, hU_hU, uI_app, uJ_app, and_true, true_and, and_false, false_and, and_self, true_implies, false_implies, not_true, not_false_iff, if_true, if_false, eq_self, Nat.reduceLeDiff, Nat.reduceEqDiff, reduceCtorEq, i32c, ti0, ti1, tiM, Int.natCast_nonneg, Int.reduceEq, Int.reduceLE, Int.reduceLT, Int.reduceNeg, tl_i, Int32.reduceToInt, Int64.reduceToInt, tiA, tlM6, Int.toNat_natCast, natc, nI_1, Int.zero_sub, implies_true, not_false_eq_true, rk, ra, rb, bk, bl, ak, al, kb, hUI, hpI, zU, eab, ap, mul, md, fne, qk, ql]
        exact leads U 0 (by omega)
    have first : ∀ (m q : Nat), q + m = U → Wp d 231 (20, [some (vR r0), some (vR 16), some (vR q0), some (vI (nI n)), some (vI (nI fr)), some (vI (iZ (rstS st U n fr q))), some (vR q0), some (vI (nI (cntP (isF st) U))), some (vI (nI (cntP (isF st) q))), none, none, none, none, none], [], h) (RV K X) := by
      intro m
      induction m with
      | zero =>
        intro q hq
        have hqc : q = U := by omega
        subst hqc
        refine w231_20 ?_
        simp only [↓forall_eq, ↓inB_iff, gK_hU, gL_hU, gR_hU, gIh, gJh, pI_hU, pJ_hU, hU_hU, uI_app, uJ_app, and_true, true_and, and_false, false_and, and_self, true_implies, false_implies, not_true, not_false_iff, if_true, if_false, eq_self, Nat.reduceLeDiff, Nat.reduceEqDiff, reduceCtorEq, i32c, ti0, ti1, tiM, Int.natCast_nonneg, Int.reduceEq, Int.reduceLE, Int.reduceLT, Int.reduceNeg, tl_i, Int32.reduceToInt, Int64.reduceToInt, tiA, tlM6, Int.toNat_natCast, natc, nI_1, Int.zero_sub, implies_true, not_false_eq_true, Int.lt_irrefl]
        have := units q 0 (gI h) (by omega) (fun _ _ => rfl) (fun i hi => by rw [if_neg (by omega)]; exact h0 i hi)
        rw [hU_eta] at this
        exact this
      | succ m ihm =>
        intro q hq
        have nx := ihm (q + 1) (by omega)
        unfold rstS at nx
        rw [smP, cntP] at nx
        by_cases hf : isF st q = true
        · have l1 := lt q (by omega) hf
          have cI : (nI (cntP (isF st) q)).toInt = (cntP (isF st) q : Nat) := ti_n (by omega)
          have zc : ((cntP (isF st) q : Nat) : Int) < (cntP (isF st) U : Nat) := by omega
          have hqI : (nI q).toInt = q := ti_n (by omega)
          have zq : (q : Int) < U := by omega
          have lq : gI h q0 (cntP (isF st) q) = nI q := hld q (by omega) hf
          have aq : gI h ab q = nI (nN st U q) := hab q (by omega)
          have rb9 := rst_b (st := st) (fr := fr) u9 n9 q (by omega)
          have bq := (nb q).2
          rw [if_pos hf, if_pos hf] at nx
          have key : iZ (rstS st U n fr q) - nI (bsS st U n fr q) = iZ ((n : Int) - (smP (isF st) (fun j => (bsS st U n fr j : Nat)) q + (bsS st U n fr q : Nat))) := by
            unfold rstS
            have z1 := ti_z (z := (n : Int) - smP (isF st) (fun j => (bsS st U n fr j : Nat)) q) (by omega) (by omega)
            have z2 : (nI (bsS st U n fr q)).toInt = (bsS st U n fr q : Nat) := ti_n (by omega)
            exact ti_inj (by rw [ti_sub (by rw [z1, z2]; omega) (by rw [z1, z2]; omega), z1, z2, ti_z (by omega) (by omega)]; omega)
          refine w231_20 ?_
          simp only [↓forall_eq, ↓inB_iff, gK_hU, gL_hU, gR_hU, gIh, gJh, pI_hU, pJ_hU, hU_hU, uI_app, uJ_app, and_true, true_and, and_false, false_and, and_self, true_implies, false_implies, not_true, not_false_iff, if_true, if_false, eq_self, Nat.reduceLeDiff, Nat.reduceEqDiff, reduceCtorEq, i32c, ti0, ti1, tiM, Int.natCast_nonneg, Int.reduceEq, Int.reduceLE, Int.reduceLT, Int.reduceNeg, tl_i, Int32.reduceToInt, Int64.reduceToInt, tiA, tlM6, Int.toNat_natCast, natc, nI_1, Int.zero_sub, implies_true, not_false_eq_true, cI, LI, zc, qk, ql, lq, rk, ra, ak, al, hqI, zq, aq, mul, dv, fne, key]
          exact nx
        · rw [if_neg hf, if_neg hf, Nat.add_zero, Int.add_zero] at nx
          exact nx
    refine m231 ⟨fun _ => ?_, fun c => absurd (by rw [hfI]; omega) c⟩
    rw [qk, ql]
    refine ⟨by decide, fun v0 e0 => ?_⟩
    rw [e0]
    have := first U 0 (by omega)
    unfold rstS at this
    rw [show smP (isF st) (fun j => ((bsS st U n fr j : Nat) : Int)) 0 = 0 from rfl, Int.sub_zero, show iZ (n : Int) = nI n from ti_inj (by rw [ti_z (by omega) (by omega), ti_n (by omega)])] at this
    exact this
end SAL
