/-! ROUNDING: the pair -/
section PRD
variable {d nt t R C N m k p : Nat} {h g : aH} {A o : Nat → Nat} {X : Nat → aH → Prop} {M I I0 : Nat → Nat → Int32} {J : Nat → Nat → Int64} {rn wn : Nat → Nat} {T y z x l1 : Int32}
theorem lex_anti (h1 : lexT y z) (h2 : lexT z y) : y = z := by
  rcases h1 with e | ⟨j1, a1, a2, a3⟩
  · exact e
  · rcases h2 with e | ⟨j2, b1, b2, b3⟩
    · exact e.symm
    · exfalso
      by_cases c1 : j1 < j2
      · rw [b3 j1 c1, a1] at a2; cases a2
      · by_cases c2 : j2 < j1
        · rw [← a3 j2 c2, b2] at b1; cases b1
        · have : j1 = j2 := by omega
          subst this
          rw [a2] at b1; cases b1
theorem fst_all (rn : Nat → Nat) (m R C : Nat) : ∃ yy, ∀ y, fstT rn m R C y → y = yy := by
  by_cases ex : ∃ y, fstT rn m R C y
  · obtain ⟨yy, hy⟩ := ex
    exact ⟨yy, fun y q => lex_anti (q.2 _ hy.1) (hy.2 _ q.1)⟩
  · exact ⟨0, fun y q => absurd ⟨y, q⟩ ex⟩
/-- the number of a set, the first cell highest -/
abbrev numY (N : Nat) (y : Int32) : Nat := msk (bits (fun i => gB y (N - 1 - i)) N)
theorem numY_bit (hN : N ≤ 12) {i : Nat} : (numY N y).testBit i = (decide (i < N) && gB y (N - 1 - i)) := by rw [← msk_bit, gB_bits _ (by omega)]
theorem numY_lt (hN : N ≤ 12) : numY N y < 2 ^ N := bits_lt hN
theorem set_num (hN : N ≤ 12) (hy : ∀ i, gB y i = true → i < N) : setP N (numY N y) = y := gB_ext fun i hi => by
  rw [gB_bits _ (by omega), numY_bit hN]
  by_cases l : i < N
  · rw [decide_eq_true l, decide_eq_true (show N - 1 - i < N by omega), show N - 1 - (N - 1 - i) = i by omega, Bool.true_and, Bool.true_and]
  · rw [decide_eq_false l, Bool.false_and]
    cases hh : gB y i
    · rfl
    · exact absurd (hy i hh) l
theorem lex_num (hN : N ≤ 12) (hp : p < 2 ^ N) (hl : lexT y (setP N p)) : numY N y ≤ p := by
  have pb : ∀ i, N ≤ i → p.testBit i = false := fun i hi => Nat.testBit_lt_two_pow (Nat.lt_of_lt_of_le hp (Nat.pow_le_pow_right (by decide) hi))
  have sp : ∀ i, i < N → gB (setP N p) i = p.testBit (N - 1 - i) := fun i hi => by rw [gB_bits _ (by omega), decide_eq_true hi, Bool.true_and]
  rcases hl with e | ⟨j, a1, a2, a3⟩
  · refine Nat.le_of_eq (Nat.eq_of_testBit_eq fun i => ?_)
    rw [numY_bit hN]
    by_cases l : i < N
    · rw [decide_eq_true l, Bool.true_and, e, sp _ (by omega), show N - 1 - (N - 1 - i) = i by omega]
    · rw [decide_eq_false l, Bool.false_and, pb i (by omega)]
  · have jl : j < N := by
      rw [gB_bits _ (by omega), Bool.and_eq_true, decide_eq_true_iff] at a2
      exact a2.1
    refine Nat.le_of_lt (nat_lt_bit (t := N - 1 - j) ?_ ?_ (fun i hi => ?_))
    · rw [numY_bit hN, show N - 1 - (N - 1 - j) = j by omega, a1, Bool.and_false]
    · rw [← sp j jl]; exact a2
    · rw [numY_bit hN]
      by_cases l : i < N
      · rw [decide_eq_true l, Bool.true_and, a3 _ (by omega), sp _ (by omega), show N - 1 - (N - 1 - i) = i by omega]
      · rw [decide_eq_false l, Bool.false_and, pb i (by omega)]
abbrev j44 (t p : Nat) (hh : aH) : aCf := (44, [some (vR 44), some (vI (nI t)), none, some (vI (nI p)), none, none], [], hh)
abbrev j72 (t : Nat) (l4 : Int32) (k : Nat) (hh : aH) : aCf := (72, [some (vR 44), some (vI (nI t)), none, none, some (vI l4), some (vI (nI k))], [], hh)
/-- the cells that were raised -/
theorem m_72 {K : Int32 → aH → Prop} (mf : MF g) (mw : mwT I t R C m wn) (hy : wayT (fun k => wn k % m) m (frC (fun k => wn k % m) (R * C)) y R C) (h95 : ∀ k, k < R * C → I 95 (12 * t + k) = nI (rdV wn m y k)) (kk : K (nI (cntB y (R * C))) (hU g I J)) : ∀ (q k : Nat), k + q = R * C → Wp (d + 1) 308 (j72 t (nI (cntB y k)) k (hU g I J)) (RI K X) := by
  obtain ⟨⟨ht, R4, C3, m1⟩, ⟨m90, m91, m79⟩, vs⟩ := mw
  have m12 : R * C ≤ 4 * 3 := Nat.mul_le_mul R4.2 C3.2
  have NI : (nI (R * C)).toInt = ((R * C : Nat) : Int) := ti_n (by omega)
  have mul : nI R * nI C = nI (R * C) := nI_mul R C
  have htI : (nI t).toInt = t := ti_n (by omega)
  have zt : (t : Int) < 12 := by omega
  intro q
  induction q with
  | zero =>
    intro k hk
    have hkc : k = R * C := by omega
    subst hkc
    refine w308_72 ?_
    simp only [↓forall_eq, ↓inB_iff, gK_hU, gL_hU, gR_hU, gIh, gJh, pI_hU, pJ_hU, hU_hU, uI_app, uJ_app, and_true, true_and, and_false, false_and, and_self, true_implies, false_implies, not_true, not_false_iff, if_true, if_false, eq_self, Nat.reduceLeDiff, Nat.reduceEqDiff, reduceCtorEq, i32c, ti0, ti1, tiM, Int.natCast_nonneg, Int.reduceEq, Int.reduceLE, Int.reduceLT, Int.reduceNeg, tl_i, Int32.reduceToInt, Int64.reduceToInt, tiA, tlM6, Int.toNat_natCast, natc, nI_1, Int.zero_sub, implies_true, not_false_eq_true, mf.1, mr_70 mf, mk_90 mf, ml_90 mf, mr_71 mf, mk_91 mf, ml_91 mf, mr_72 mf, mk_92 mf, ml_92 mf, mr_75 mf, mk_95 mf, ml_95 mf, mr_76 mf, mk_96 mf, ml_96 mf, htI, zt, m90, m91, mul, Int.lt_irrefl]
    exact kk
  | succ q ih =>
    intro k hk
    have nx := ih (k + 1) (by omega)
    rw [cntB] at nx
    have v1 := vs k (by omega)
    have hkI : (nI k).toInt = k := ti_n (by omega)
    have zk : (k : Int) < ((R * C : Nat) : Int) := by omega
    have x1 : (12 : Int32) * nI t + nI k = nI (12 * t + k) := by rw [show (12 : Int32) = nI 12 from rfl, nI_mul, nI_add]
    have x2 : (nI (12 * t + k)).toInt = ((12 * t + k : Nat) : Int) := ti_n (by omega)
    have x3 : ((12 * t + k : Nat) : Int) < 144 := by omega
    have ml := Nat.mod_lt (wn k) (show 0 < m by omega)
    have mle := Nat.mod_le (wn k) m
    have vb : rdV wn m y k ≤ 60001000 := by rw [rdV]; split <;> omega
    have wI : (nI (wn k)).toInt = wn k := ti_n (by omega)
    have rI : (nI (rdV wn m y k)).toInt = rdV wn m y k := ti_n (by omega)
    refine w308_72 ?_
    simp only [↓forall_eq, ↓inB_iff, gK_hU, gL_hU, gR_hU, gIh, gJh, pI_hU, pJ_hU, hU_hU, uI_app, uJ_app, and_true, true_and, and_false, false_and, and_self, true_implies, false_implies, not_true, not_false_iff, if_true, if_false, eq_self, Nat.reduceLeDiff, Nat.reduceEqDiff, reduceCtorEq, i32c, ti0, ti1, tiM, Int.natCast_nonneg, Int.reduceEq, Int.reduceLE, Int.reduceLT, Int.reduceNeg, tl_i, Int32.reduceToInt, Int64.reduceToInt, tiA, tlM6, Int.toNat_natCast, natc, nI_1, Int.zero_sub, implies_true, not_false_eq_true, mf.1, mr_70 mf, mk_90 mf, ml_90 mf, mr_71 mf, mk_91 mf, ml_91 mf, mr_72 mf, mk_92 mf, ml_92 mf, mr_75 mf, mk_95 mf, ml_95 mf, mr_76 mf, mk_96 mf, ml_96 mf, htI, zt, m90, m91, mul, NI, hkI, zk, x1, x2, x3, v1.1, h95 k (by omega), wI, rI, Int32.add_zero]
    by_cases b : gB y k = true
    · rw [if_pos b] at nx
      have l : (wn k : Int) < (rdV wn m y k : Nat) := by rw [rdV, if_pos b]; omega
      exact ⟨fun _ => nx, fun z => absurd l z⟩
    · rw [if_neg b] at nx
      have l : ¬ (wn k : Int) < (rdV wn m y k : Nat) := by rw [rdV, if_neg b]; omega
      exact ⟨fun z => absurd z l, fun _ => nx⟩
theorem m_44 {K : Int32 → aH → Prop} (mf : MF g) (mw : mwT I0 t R C m wn) (hy : fstT (fun k => wn k % m) m R C y)
    (kk : ∀ I, (∀ a, a ≠ 95 → a ≠ 96 → I a = I0 a) → (∀ i, (i < 12 * t ∨ 12 * t + 12 ≤ i) → I 95 i = I0 95 i) → (∀ i, i ≠ t → I 96 i = I0 96 i) → I 96 t = 1 → (∀ k, k < R * C → I 95 (12 * t + k) = nI (rdV wn m y k)) → K (nI (cntB y (R * C))) (hU g I J)) :
    ∀ (q p : Nat) (I : Nat → Nat → Int32), p + q = numY (R * C) y → (∀ a, a ≠ 95 → I a = I0 a) → (∀ i, (i < 12 * t ∨ 12 * t + 12 ≤ i) → I 95 i = I0 95 i) → Wp (d + 2) 308 (j44 t p (hU g I J)) (RI K X) := by
  have mw0 := mw
  obtain ⟨⟨ht, R4, C3, m1⟩, ⟨m90, m91, m79⟩, vs⟩ := mw
  have m12 : R * C ≤ 4 * 3 := Nat.mul_le_mul R4.2 C3.2
  have htI : (nI t).toInt = t := ti_n (by omega)
  have zt : (t : Int) < 12 := by omega
  have mul : nI R * nI C = nI (R * C) := nI_mul R C
  have p12 : 2 ^ (R * C) ≤ 2 ^ 12 := Nat.pow_le_pow_right (by decide) (by omega)
  have nl := numY_lt (N := R * C) (y := y) (by omega)
  have fm := fst_msk (by omega) hy.1
  have mwI : ∀ I : Nat → Nat → Int32, (∀ a, a ≠ 95 → a ≠ 96 → I a = I0 a) → mwT I t R C m wn := fun I f1 => ⟨⟨ht, R4, C3, m1⟩, ⟨by rw [f1 90 (by decide) (by decide)]; exact m90, by rw [f1 91 (by decide) (by decide)]; exact m91, by rw [f1 44 (by decide) (by decide)]; exact m79⟩, by rw [f1 92 (by decide) (by decide)]; exact vs⟩
  intro q
  induction q with
  | zero =>
    intro p I hp f1 f2
    have hpc : p = numY (R * C) y := by omega
    have sp : setP (R * C) p = y := by rw [hpc]; exact set_num (by omega) (fun i hi => (fm.2 i hi).1)
    have mI := mwI I (fun a h1 _ => f1 a h1)
    refine w308_44 ⟨by decide, mf.1, m307 ?_⟩
    simp only [↓forall_eq, ↓inB_iff, gK_hU, gL_hU, gR_hU, gIh, gJh, pI_hU, pJ_hU, hU_hU, uI_app, uJ_app, and_true, true_and, and_false, false_and, and_self, true_implies, false_implies, not_true, not_false_iff, if_true, if_false, eq_self, Nat.reduceLeDiff, Nat.reduceEqDiff, reduceCtorEq, i32c, ti0, ti1, tiM, Int.natCast_nonneg, Int.reduceEq, Int.reduceLE, Int.reduceLT, Int.reduceNeg, tl_i, Int32.reduceToInt, Int64.reduceToInt, tiA, tlM6, Int.toNat_natCast, natc, nI_1, Int.zero_sub, implies_true, not_false_eq_true, mf.1, mr_70 mf, mk_90 mf, ml_90 mf, mr_71 mf, mk_91 mf, ml_91 mf, mr_72 mf, mk_92 mf, ml_92 mf, mr_75 mf, mk_95 mf, ml_95 mf, htI, zt, mI.2.1.1, mI.2.1.2.1, mul]
    refine m_17 mf mI (by omega) (fun I2 w g1 g2 g3 => ?_) (fun I2 w g1 g2 => ?_) (R * C) 0 I (by omega) (fun _ _ => rfl) (fun _ _ => rfl) (fun k' hk' => by omega) (fun k' hk' => by omega)
    · rw [sp] at w g3
      have one : (1 : Int32) &&& 1 = 1 := rfl
      simp only [↓forall_eq, ↓inB_iff, gK_hU, gL_hU, gR_hU, gIh, gJh, pI_hU, pJ_hU, hU_hU, uI_app, uJ_app, and_true, true_and, and_false, false_and, and_self, true_implies, false_implies, not_true, not_false_iff, if_true, if_false, eq_self, Nat.reduceLeDiff, Nat.reduceEqDiff, reduceCtorEq, i32c, ti0, ti1, tiM, Int.natCast_nonneg, Int.reduceEq, Int.reduceLE, Int.reduceLT, Int.reduceNeg, tl_i, Int32.reduceToInt, Int64.reduceToInt, tiA, tlM6, Int.toNat_natCast, natc, nI_1, Int.zero_sub, implies_true, not_false_eq_true, mf.1, mr_70 mf, mk_90 mf, ml_90 mf, mr_71 mf, mk_91 mf, ml_91 mf, mr_72 mf, mk_92 mf, ml_92 mf, mr_75 mf, mk_95 mf, ml_95 mf, mr_76 mf, mk_96 mf, ml_96 mf, htI, zt, one]
      have fr1 : ∀ a, a ≠ 95 → a ≠ 96 → (uI I2 96 t 1) a = I0 a := fun a h1 h2 => by rw [uI_ne _ _ _ h2, g1 a h1, f1 a h1]
      have e95 : (uI I2 96 t 1) 95 = I2 95 := uI_ne _ _ _ (by decide)
      refine m_72 (d := d + 1) mf (mwI _ fr1) w (by rw [e95]; exact g3) ?_ (R * C) 0 (by omega)
      refine kk _ fr1 (fun i hi => by rw [e95, g2 i hi, f2 i hi]) (fun i hi => by rw [uI_app, if_neg (by omega), g1 96 (by decide), f1 96 (by decide)]) (by rw [uI_same]) (by rw [e95]; exact g3)
    · rw [sp] at w; exact absurd hy.1 w
  | succ q ih =>
    intro p I hp f1 f2
    have mI := mwI I (fun a h1 _ => f1 a h1)
    refine w308_44 ⟨by decide, mf.1, m307 ?_⟩
    simp only [↓forall_eq, ↓inB_iff, gK_hU, gL_hU, gR_hU, gIh, gJh, pI_hU, pJ_hU, hU_hU, uI_app, uJ_app, and_true, true_and, and_false, false_and, and_self, true_implies, false_implies, not_true, not_false_iff, if_true, if_false, eq_self, Nat.reduceLeDiff, Nat.reduceEqDiff, reduceCtorEq, i32c, ti0, ti1, tiM, Int.natCast_nonneg, Int.reduceEq, Int.reduceLE, Int.reduceLT, Int.reduceNeg, tl_i, Int32.reduceToInt, Int64.reduceToInt, tiA, tlM6, Int.toNat_natCast, natc, nI_1, Int.zero_sub, implies_true, not_false_eq_true, mf.1, mr_70 mf, mk_90 mf, ml_90 mf, mr_71 mf, mk_91 mf, ml_91 mf, mr_72 mf, mk_92 mf, ml_92 mf, mr_75 mf, mk_95 mf, ml_95 mf, htI, zt, mI.2.1.1, mI.2.1.2.1, mul]
    refine m_17 mf mI (by omega) (fun I2 w g1 g2 g3 => ?_) (fun I2 w g1 g2 => ?_) (R * C) 0 I (by omega) (fun _ _ => rfl) (fun _ _ => rfl) (fun k' hk' => by omega) (fun k' hk' => by omega)
    · have := lex_num (by omega) (by omega) (hy.2 _ w)
      omega
    · simp only [↓forall_eq, ↓inB_iff, gK_hU, gL_hU, gR_hU, gIh, gJh, pI_hU, pJ_hU, hU_hU, uI_app, uJ_app, and_true, true_and, and_false, false_and, and_self, true_implies, false_implies, not_true, not_false_iff, if_true, if_false, eq_self, Nat.reduceLeDiff, Nat.reduceEqDiff, reduceCtorEq, i32c, ti0, ti1, tiM, Int.natCast_nonneg, Int.reduceEq, Int.reduceLE, Int.reduceLT, Int.reduceNeg, tl_i, Int32.reduceToInt, Int64.reduceToInt, tiA, tlM6, Int.toNat_natCast, natc, nI_1, Int.zero_sub, implies_true, not_false_eq_true]
      exact ih (p + 1) I2 (by omega) (fun a ha => by rw [g1 a ha, f1 a ha]) (fun i hi => by rw [g2 i hi, f2 i hi])
end PRD
