/-! ROUNDING: the model tries a way -/
section RDW
variable {d t R C N m k p r c : Nat} {h g : aH} {X : Nat → aH → Prop} {M I I0 : Nat → Nat → Int32} {J : Nat → Nat → Int64} {rn wn : Nat → Nat} {S T F Fr y : Int32}
abbrev j122 (t N r : Nat) (hh : aH) : aCf := (122, [some (vR 44), some (vI (nI t)), none, some (vI (nI N)), some (vI (nI r)), none, none, none, none, none, none], [], hh)
abbrev j136 (t N r c : Nat) (hh : aH) : aCf := (136, [some (vR 44), some (vI (nI t)), none, some (vI (nI N)), some (vI (nI r)), some (vI (nI c)), none, none, none, none, none], [], hh)
abbrev j156 (t N r c : Nat) (l6 l8 : Int64) (k : Nat) (hh : aH) : aCf := (156, [some (vR 44), some (vI (nI t)), none, some (vI (nI N)), some (vI (nI r)), some (vI (nI c)), some (vL l6), none, some (vL l8), none, some (vI (nI k))], [], hh)
abbrev j17 (t p N k : Nat) (hh : aH) : aCf := (17, [some (vR 44), some (vI (nI t)), some (vI (nI p)), some (vI (nI N)), some (vI (nI k)), none, none, none, none, none, none], [], hh)
abbrev j56 (t p N k : Nat) (l5 s : Int32) (hh : aH) : aCf := (56, [some (vR 44), some (vI (nI t)), some (vI (nI p)), some (vI (nI N)), some (vI (nI k)), some (vI l5), none, none, none, none, none], [vI s], hh)
def mwT (I : Nat → Nat → Int32) (t R C m : Nat) (wn : Nat → Nat) : Prop := (t < 12 ∧ (1 ≤ R ∧ R ≤ 4) ∧ (1 ≤ C ∧ C ≤ 3) ∧ (1 ≤ m ∧ m ≤ 1000)) ∧ (I 90 t = nI R ∧ I 91 t = nI C ∧ I 44 79 = nI m) ∧ ∀ k, k < R * C → I 92 (12 * t + k) = nI (wn k) ∧ wn k ≤ 60000000
theorem rdV_dvd (m1 : 1 ≤ m) : rdV wn m T k = m * (wn k / m + if gB T k = true then 1 else 0) := by
  have dm := Nat.div_add_mod (wn k) m
  rw [rdV, Nat.mul_add]
  by_cases z : gB T k = true
  · rw [if_pos z, if_pos z, Nat.mul_one]; omega
  · rw [if_neg z, if_neg z]; omega
theorem m_156 {K : Int32 → aH → Prop} (mf : MF g) (mw : mwT I t R C m wn) (h95 : ∀ k, k < R * C → I 95 (12 * t + k) = nI (rdV wn m T k)) (hr : r ≤ R) (hc : c ≤ C) (ky : okL (fun k => wn k % m) m T R C r c → Wp (d + 1) 307 (j136 t (R * C) r (c + 1) (hU g I J)) (RI K X)) (kn : ¬ okL (fun k => wn k % m) m T R C r c → K 0 (hU g I J)) :
    ∀ (q k : Nat) (l6 l8 : Int64), k + q = R * C → l6.toInt = (sO wn R C r c k : Int) → l8.toInt = (sO (rdV wn m T) R C r c k : Int) → Wp (d + 1) 307 (j156 t (R * C) r c l6 l8 k (hU g I J)) (RI K X) := by
  obtain ⟨⟨ht, R4, C3, m1⟩, ⟨m90, m91, m79⟩, vs⟩ := mw
  have m12 : R * C ≤ 4 * 3 := Nat.mul_le_mul R4.2 C3.2
  have NI : (nI (R * C)).toInt = ((R * C : Nat) : Int) := ti_n (by omega)
  have RN : (nI R).toInt = R := ti_n (by omega)
  have CN : (nI C).toInt = C := ti_n (by omega)
  have rI : (nI r).toInt = r := ti_n (by omega)
  have cI : (nI c).toInt = c := ti_n (by omega)
  have htI : (nI t).toInt = t := ti_n (by omega)
  have zt : (t : Int) < 12 := by omega
  have cne : ¬ nI C = 0 := fun e => by rw [e] at CN; have : (0 : Int32).toInt = 0 := rfl; omega
  have c1 : (nI c + 1) = nI (c + 1) := nI_1 c
  have vb : ∀ k, k < R * C → rdV wn m T k ≤ 60001000 := fun k hk => by
    have := (vs k hk).2
    rw [rdV]; split <;> omega
  intro q
  induction q with
  | zero =>
    intro k l6 l8 hk h6 h8
    have hkc : k = R * C := by omega
    subst hkc
    have b1 := sO_b (R := R) (C := C) (r := r) (c := c) (f := wn) (B := 60000000) (fun k hk => (vs k hk).2) (R * C) (Nat.le_refl _)
    have dv := sO_dvd (R := R) (C := C) (r := r) (c := c) (m := m) (f := rdV wn m T) (e := fun k => wn k / m + if gB T k = true then 1 else 0) (fun k => rdV_dvd m1.1) (R * C)
    have ln := sO_ln (wn := wn) (m := m) (T := T) (R := R) (C := C) (r := r) (c := c) (R * C)
    rw [dv] at h8 ln
    have WB := fun (K : Int32 → aH → Prop) X => way_br (d := d) (K := K) (X := X) (J := J) (I := I) mf m79 m1 h6 h8 (by omega)
    rw [ln] at WB
    refine w307_156 ?_
    simp only [↓forall_eq, ↓inB_iff, gK_hU, gL_hU, gR_hU, gIh, gJh, pI_hU, pJ_hU, hU_hU, uI_app, uJ_app, and_true, true_and, and_false, false_and, and_self, true_implies, false_implies, not_true, not_false_iff, if_true, if_false, eq_self, Nat.reduceLeDiff, Nat.reduceEqDiff, reduceCtorEq, i32c, ti0, ti1, tiM, Int.natCast_nonneg, Int.reduceEq, Int.reduceLE, Int.reduceLT, Int.reduceNeg, tl_i, Int32.reduceToInt, Int64.reduceToInt, tiA, tlM6, Int.toNat_natCast, natc, nI_1, Int.zero_sub, implies_true, not_false_eq_true, mf.1, mr_70 mf, mk_90 mf, ml_90 mf, mr_71 mf, mk_91 mf, ml_91 mf, mr_72 mf, mk_92 mf, ml_92 mf, mr_75 mf, mk_95 mf, ml_95 mf, Int.lt_irrefl, ↓WB, bI0]
    refine ⟨fun z => kn (fun o => ?_), fun z => ?_⟩
    · rw [decide_eq_true (show _ ∧ _ from o)] at z; cases z
    · have z' := bnf z
      rw [decide_eq_true_iff] at z'
      exact ky z'
  | succ q ih =>
    intro k l6 l8 hk h6 h8
    have nx := fun x y => ih (k + 1) x y (by omega)
    have b1 := sO_b (R := R) (C := C) (r := r) (c := c) (f := wn) (B := 60000000) (fun k hk => (vs k hk).2) k (by omega)
    have b2 := sO_b (R := R) (C := C) (r := r) (c := c) (f := rdV wn m T) (B := 60001000) vb k (by omega)
    have v1 := vs k (by omega)
    have v2 := vb k (by omega)
    have v3 := h95 k (by omega)
    have hkI : (nI k).toInt = k := ti_n (by omega)
    have zk : (k : Int) < ((R * C : Nat) : Int) := by omega
    have dv : nI k / nI C = nI (k / C) := nI_div (by omega) (by omega)
    have md : aIrem (nI k) (nI C) = nI (k % C) := nI_rem (by omega) (by omega)
    have d1 : k / C ≤ k := Nat.div_le_self _ _
    have d2 : k % C ≤ k := Nat.mod_le _ _
    have dI : (nI (k / C)).toInt = ((k / C : Nat) : Int) := ti_n (by omega)
    have mI2 : (nI (k % C)).toInt = ((k % C : Nat) : Int) := ti_n (by omega)
    have x1 : (12 : Int32) * nI t + nI k = nI (12 * t + k) := by rw [show (12 : Int32) = nI 12 from rfl, nI_mul, nI_add]
    have x2 : (nI (12 * t + k)).toInt = ((12 * t + k : Nat) : Int) := ti_n (by omega)
    have x3 : ((12 * t + k : Nat) : Int) < 144 := by omega
    have wI : (nI (wn k)).toInt = wn k := ti_n (by omega)
    have rvI : (nI (rdV wn m T k)).toInt = rdV wn m T k := ti_n (by omega)
    have s1 : (l6 + (nI (wn k)).toInt64).toInt = l6.toInt + wn k := by rw [tl_add (by rw [tl_i, wI]; omega) (by rw [tl_i, wI]; omega), tl_i, wI]
    have s2 : (l8 + (nI (rdV wn m T k)).toInt64).toInt = l8.toInt + (rdV wn m T k : Nat) := by rw [tl_add (by rw [tl_i, rvI]; omega) (by rw [tl_i, rvI]; omega), tl_i, rvI]
    have no : inC R C (r : Int) (c : Int) k = false → Wp (d + 1) 307 (j156 t (R * C) r c l6 l8 (k + 1) (hU g I J)) (RI K X) := fun z => nx _ _ (by rw [h6, sO, if_neg (by rw [z]; decide), Nat.add_zero]) (by rw [h8, sO, if_neg (by rw [z]; decide), Nat.add_zero])
    have yes : inC R C (r : Int) (c : Int) k = true → Wp (d + 1) 307 (j156 t (R * C) r c (l6 + (nI (wn k)).toInt64) (l8 + (nI (rdV wn m T k)).toInt64) (k + 1) (hU g I J)) (RI K X) := fun z => nx _ _ (by rw [s1, h6, sO, if_pos z]; omega) (by rw [s2, h8, sO, if_pos z]; omega)
    refine w307_156 ?_
    simp only [↓forall_eq, ↓inB_iff, gK_hU, gL_hU, gR_hU, gIh, gJh, pI_hU, pJ_hU, hU_hU, uI_app, uJ_app, and_true, true_and, and_false, false_and, and_self, true_implies, false_implies, not_true, not_false_iff, if_true, if_false, eq_self, Nat.reduceLeDiff, Nat.reduceEqDiff, reduceCtorEq, i32c, ti0, ti1, tiM, Int.natCast_nonneg, Int.reduceEq, Int.reduceLE, Int.reduceLT, Int.reduceNeg, tl_i, Int32.reduceToInt, Int64.reduceToInt, tiA, tlM6, Int.toNat_natCast, natc, nI_1, Int.zero_sub, implies_true, not_false_eq_true, mf.1, mr_70 mf, mk_90 mf, ml_90 mf, mr_71 mf, mk_91 mf, ml_91 mf, mr_72 mf, mk_92 mf, ml_92 mf, mr_75 mf, mk_95 mf, ml_95 mf, htI, zt, m90, m91, NI, hkI, zk, RN, CN, rI, cI, cne, dv, md, dI, mI2, x1, x2, x3, v1.1, v3]
    unfold inC at no yes
    refine ⟨fun e1 => ⟨fun e2 => yes ?_, fun e2 => ⟨fun e3 => yes ?_, fun e3 => no ?_⟩⟩, fun e1 => ⟨fun e4 => ⟨fun e2 => yes ?_, fun e2 => ⟨fun e3 => yes ?_, fun e3 => no ?_⟩⟩, fun e4 => no ?_⟩⟩
    · rw [decide_eq_true e1, decide_eq_true e2]; rfl
    · rw [decide_eq_true e1, decide_eq_true e3, Bool.or_true, Bool.true_or]; rfl
    · rw [decide_eq_true e1, decide_eq_false e2, decide_eq_false e3]; rfl
    · rw [decide_eq_true e4, decide_eq_true e2, Bool.or_true, Bool.true_or]; rfl
    · rw [decide_eq_true e4, decide_eq_true e3, Bool.or_true, Bool.or_true]; rfl
    · rw [decide_eq_false e2, decide_eq_false e3, Bool.or_false, Bool.and_false]
    · rw [decide_eq_false e1, decide_eq_false e4]; rfl
theorem m_122 {K : Int32 → aH → Prop} (mf : MF g) (mw : mwT I t R C m wn) (h95 : ∀ k, k < R * C → I 95 (12 * t + k) = nI (rdV wn m T k)) (ky : (∀ r c, r ≤ R → c ≤ C → okL (fun k => wn k % m) m T R C r c) → K 1 (hU g I J)) (kn : ∀ r c, r ≤ R → c ≤ C → ¬ okL (fun k => wn k % m) m T R C r c → K 0 (hU g I J)) :
    ∀ (q r : Nat), r + q = R + 1 → (∀ r' c, r' < r → c ≤ C → okL (fun k => wn k % m) m T R C r' c) → Wp (d + 1) 307 (j122 t (R * C) r (hU g I J)) (RI K X) := by
  have mw0 := mw
  obtain ⟨⟨ht, R4, C3, m1⟩, ⟨m90, m91, m79⟩, vs⟩ := mw
  have RN : (nI R).toInt = R := ti_n (by omega)
  have CN : (nI C).toInt = C := ti_n (by omega)
  have htI : (nI t).toInt = t := ti_n (by omega)
  have zt : (t : Int) < 12 := by omega
  intro q
  induction q with
  | zero =>
    intro r hr hh
    have rI : (nI r).toInt = r := ti_n (by omega)
    have zr : (R : Int) < r := by omega
    refine w307_122 ?_
    simp only [↓forall_eq, ↓inB_iff, gK_hU, gL_hU, gR_hU, gIh, gJh, pI_hU, pJ_hU, hU_hU, uI_app, uJ_app, and_true, true_and, and_false, false_and, and_self, true_implies, false_implies, not_true, not_false_iff, if_true, if_false, eq_self, Nat.reduceLeDiff, Nat.reduceEqDiff, reduceCtorEq, i32c, ti0, ti1, tiM, Int.natCast_nonneg, Int.reduceEq, Int.reduceLE, Int.reduceLT, Int.reduceNeg, tl_i, Int32.reduceToInt, Int64.reduceToInt, tiA, tlM6, Int.toNat_natCast, natc, nI_1, Int.zero_sub, implies_true, not_false_eq_true, mf.1, mr_70 mf, mk_90 mf, ml_90 mf, mr_71 mf, mk_91 mf, ml_91 mf, mr_72 mf, mk_92 mf, ml_92 mf, mr_75 mf, mk_95 mf, ml_95 mf, htI, zt, m90, RN, rI, zr]
    exact ky (fun r c h1 h2 => hh r c (by omega) h2)
  | succ q ih =>
    intro r hr hh
    have rI : (nI r).toInt = r := ti_n (by omega)
    have zr : ¬ (R : Int) < r := by omega
    have cols : ∀ (q2 c : Nat), c + q2 = C + 1 → (∀ c', c' < c → okL (fun k => wn k % m) m T R C r c') → Wp (d + 1) 307 (j136 t (R * C) r c (hU g I J)) (RI K X) := by
      intro q2
      induction q2 with
      | zero =>
        intro c hc h3
        have cI : (nI c).toInt = c := ti_n (by omega)
        have zc : (C : Int) < c := by omega
        refine w307_136 ?_
        simp only [↓forall_eq, ↓inB_iff, gK_hU, gL_hU, gR_hU, gIh, gJh, pI_hU, pJ_hU, hU_hU, uI_app, uJ_app, and_true, true_and, and_false, false_and, and_self, true_implies, false_implies, not_true, not_false_iff, if_true, if_false, eq_self, Nat.reduceLeDiff, Nat.reduceEqDiff, reduceCtorEq, i32c, ti0, ti1, tiM, Int.natCast_nonneg, Int.reduceEq, Int.reduceLE, Int.reduceLT, Int.reduceNeg, tl_i, Int32.reduceToInt, Int64.reduceToInt, tiA, tlM6, Int.toNat_natCast, natc, nI_1, Int.zero_sub, implies_true, not_false_eq_true, mf.1, mr_70 mf, mk_90 mf, ml_90 mf, mr_71 mf, mk_91 mf, ml_91 mf, mr_72 mf, mk_92 mf, ml_92 mf, mr_75 mf, mk_95 mf, ml_95 mf, htI, zt, m91, CN, cI, zc]
        exact ih (r + 1) (by omega) (fun r' c' h1 h2 => by
          by_cases e : r' = r
          · rw [e]; exact h3 c' (by omega)
          · exact hh r' c' (by omega) h2)
      | succ q2 ih2 =>
        intro c hc h3
        have cI : (nI c).toInt = c := ti_n (by omega)
        have zc : ¬ (C : Int) < c := by omega
        refine w307_136 ?_
        simp only [↓forall_eq, ↓inB_iff, gK_hU, gL_hU, gR_hU, gIh, gJh, pI_hU, pJ_hU, hU_hU, uI_app, uJ_app, and_true, true_and, and_false, false_and, and_self, true_implies, false_implies, not_true, not_false_iff, if_true, if_false, eq_self, Nat.reduceLeDiff, Nat.reduceEqDiff, reduceCtorEq, i32c, ti0, ti1, tiM, Int.natCast_nonneg, Int.reduceEq, Int.reduceLE, Int.reduceLT, Int.reduceNeg, tl_i, Int32.reduceToInt, Int64.reduceToInt, tiA, tlM6, Int.toNat_natCast, natc, nI_1, Int.zero_sub, implies_true, not_false_eq_true, mf.1, mr_70 mf, mk_90 mf, ml_90 mf, mr_71 mf, mk_91 mf, ml_91 mf, mr_72 mf, mk_92 mf, ml_92 mf, mr_75 mf, mk_95 mf, ml_95 mf, htI, zt, m91, CN, cI, zc]
        exact m_156 mf mw0 h95 (by omega) (by omega) (fun o => ih2 (c + 1) (by omega) (fun c' h1 => by
          by_cases e : c' = c
          · rw [e]; exact o
          · exact h3 c' (by omega))) (fun o => kn r c (by omega) (by omega) o) (R * C) 0 0 0 (by omega) rfl rfl
    refine w307_122 ?_
    simp only [↓forall_eq, ↓inB_iff, gK_hU, gL_hU, gR_hU, gIh, gJh, pI_hU, pJ_hU, hU_hU, uI_app, uJ_app, and_true, true_and, and_false, false_and, and_self, true_implies, false_implies, not_true, not_false_iff, if_true, if_false, eq_self, Nat.reduceLeDiff, Nat.reduceEqDiff, reduceCtorEq, i32c, ti0, ti1, tiM, Int.natCast_nonneg, Int.reduceEq, Int.reduceLE, Int.reduceLT, Int.reduceNeg, tl_i, Int32.reduceToInt, Int64.reduceToInt, tiA, tlM6, Int.toNat_natCast, natc, nI_1, Int.zero_sub, implies_true, not_false_eq_true, mf.1, mr_70 mf, mk_90 mf, ml_90 mf, mr_71 mf, mk_91 mf, ml_91 mf, mr_72 mf, mk_92 mf, ml_92 mf, mr_75 mf, mk_95 mf, ml_95 mf, htI, zt, m90, RN, rI, zr]
    exact cols (C + 1) 0 (by omega) (fun c' h1 => by omega)
/-- the set that a number stands for, the first cell highest -/
abbrev setP (N p : Nat) : Int32 := bits (fun k => p.testBit (N - 1 - k)) N
theorem m_17 {K : Int32 → aH → Prop} (mf : MF g) (mw : mwT I0 t R C m wn) (hp : p < 4096) (ky : ∀ I, wayT (fun k => wn k % m) m (frC (fun k => wn k % m) (R * C)) (setP (R * C) p) R C → (∀ a, a ≠ 95 → I a = I0 a) → (∀ i, (i < 12 * t ∨ 12 * t + 12 ≤ i) → I 95 i = I0 95 i) → (∀ k, k < R * C → I 95 (12 * t + k) = nI (rdV wn m (setP (R * C) p) k)) → K 1 (hU g I J)) (kn : ∀ I, ¬ wayT (fun k => wn k % m) m (frC (fun k => wn k % m) (R * C)) (setP (R * C) p) R C → (∀ a, a ≠ 95 → I a = I0 a) → (∀ i, (i < 12 * t ∨ 12 * t + 12 ≤ i) → I 95 i = I0 95 i) → K 0 (hU g I J)) :
    ∀ (q k : Nat) (I : Nat → Nat → Int32), k + q = R * C → (∀ a, a ≠ 95 → I a = I0 a) → (∀ i, (i < 12 * t ∨ 12 * t + 12 ≤ i) → I 95 i = I0 95 i) → (∀ k', k' < k → I 95 (12 * t + k') = nI (rdV wn m (setP (R * C) p) k')) → (∀ k', k' < k → gB (setP (R * C) p) k' = true → ¬ wn k' % m = 0) → Wp (d + 1) 307 (j17 t p (R * C) k (hU g I J)) (RI K X) := by
  have mw0 := mw
  obtain ⟨⟨ht, R4, C3, m1⟩, ⟨m90, m91, m79⟩, vs⟩ := mw
  have m12 : R * C ≤ 4 * 3 := Nat.mul_le_mul R4.2 C3.2
  have NI : (nI (R * C)).toInt = ((R * C : Nat) : Int) := ti_n (by omega)
  have htI : (nI t).toInt = t := ti_n (by omega)
  have zt : (t : Int) < 12 := by omega
  have mI : (nI m).toInt = m := ti_n (by omega)
  have mne : ¬ nI m = 0 := fun e => by rw [e] at mI; have : (0 : Int32).toInt = 0 := rfl; omega
  have hr : ∀ k, wn k % m < m := fun k => Nat.mod_lt _ (by omega)
  have gP : ∀ k, k < R * C → gB (setP (R * C) p) k = p.testBit (R * C - 1 - k) := fun k hk => by rw [gB_bits _ (by omega), decide_eq_true hk, Bool.true_and]
  intro q
  induction q with
  | zero =>
    intro k I hk f1 f2 f3 f4
    have hkc : k = R * C := by omega
    subst hkc
    have mwI : mwT I t R C m wn := ⟨⟨ht, R4, C3, m1⟩, ⟨by rw [f1 90 (by decide)]; exact m90, by rw [f1 91 (by decide)]; exact m91, by rw [f1 44 (by decide)]; exact m79⟩, by rw [f1 92 (by decide)]; exact vs⟩
    have sb : subB (setP (R * C) p) (frC (fun k => wn k % m) (R * C)) := fun i hi => by
      have hi2 := hi
      rw [gB_bits _ (by omega), Bool.and_eq_true, decide_eq_true_iff] at hi
      rw [gB_bits _ (by omega), decide_eq_true hi.1, decide_eq_false (f4 i hi.1 hi2)]; rfl
    refine w307_17 ?_
    simp only [↓forall_eq, ↓inB_iff, gK_hU, gL_hU, gR_hU, gIh, gJh, pI_hU, pJ_hU, hU_hU, uI_app, uJ_app, and_true, true_and, and_false, false_and, and_self, true_implies, false_implies, not_true, not_false_iff, if_true, if_false, eq_self, Nat.reduceLeDiff, Nat.reduceEqDiff, reduceCtorEq, i32c, ti0, ti1, tiM, Int.natCast_nonneg, Int.reduceEq, Int.reduceLE, Int.reduceLT, Int.reduceNeg, tl_i, Int32.reduceToInt, Int64.reduceToInt, tiA, tlM6, Int.toNat_natCast, natc, nI_1, Int.zero_sub, implies_true, not_false_eq_true, mf.1, mr_70 mf, mk_90 mf, ml_90 mf, mr_71 mf, mk_91 mf, ml_91 mf, mr_72 mf, mk_92 mf, ml_92 mf, mr_75 mf, mk_95 mf, ml_95 mf, Int.lt_irrefl]
    exact m_122 mf mwI f3 (fun o => ky I ⟨sb, fun r c h1 h2 _ => o r c h1 h2⟩ f1 f2 f3) (fun r c h1 h2 o => kn I (fun w => o (ok_all m1.1 R4.1 C3.1 (by omega) hr w h1 h2)) f1 f2) (R + 1) 0 (by omega) (fun r' c h1 => by omega)
  | succ q ih =>
    intro k I hk f1 f2 f3 f4
    have v1 := vs k (by omega)
    have hkI : (nI k).toInt = k := ti_n (by omega)
    have zk : (k : Int) < ((R * C : Nat) : Int) := by omega
    have x1 : (12 : Int32) * nI t + nI k = nI (12 * t + k) := by rw [show (12 : Int32) = nI 12 from rfl, nI_mul, nI_add]
    have x2 : (nI (12 * t + k)).toInt = ((12 * t + k : Nat) : Int) := ti_n (by omega)
    have x3 : ((12 * t + k : Nat) : Int) < 144 := by omega
    have e92 : I 92 (12 * t + k) = nI (wn k) := by rw [f1 92 (by decide)]; exact v1.1
    have e79 : I 44 79 = nI m := by rw [f1 44 (by decide)]; exact m79
    have N1 : (nI (R * C) - 1).toInt = ((R * C : Nat) : Int) - 1 := by rw [ti_sub (by rw [NI, ti1]; omega) (by rw [NI, ti1]; omega), NI, ti1]
    have ix : (nI (R * C) - 1) - nI k = nI (R * C - 1 - k) := ti_inj (by rw [ti_sub (by rw [N1, hkI]; omega) (by rw [N1, hkI]; omega), N1, hkI, ti_n (by omega)]; omega)
    have sb1 : (nI p >>> (nI (R * C - 1 - k) &&& 31)) &&& 1 = bI (p.testBit (R * C - 1 - k)) := by rw [sh_bit (by omega), gB_n (by omega)]
    have dv : nI (wn k) / nI m = nI (wn k / m) := nI_div (by omega) (by omega)
    have md : aIrem (nI (wn k)) (nI m) = nI (wn k % m) := nI_rem (by omega) (by omega)
    have mu : nI (wn k / m) * nI m = nI (wn k / m * m) := nI_mul _ _
    have rI : (nI (wn k % m)).toInt = ((wn k % m : Nat) : Int) := ti_n (by have := hr k; omega)
    have dm := Nat.div_add_mod (wn k) m
    rw [Nat.mul_comm] at dm
    have ek : wn k / m * m = wn k - wn k % m := by omega
    have nx : ∀ x, x = nI (rdV wn m (setP (R * C) p) k) → (gB (setP (R * C) p) k = true → ¬ wn k % m = 0) → Wp (d + 1) 307 (j17 t p (R * C) (k + 1) (hU g (uI I 95 (12 * t + k) x) J)) (RI K X) := fun x hx hz => ih (k + 1) _ (by omega) (fun a ha => by rw [uI_ne _ _ _ ha]; exact f1 a ha) (fun i hi => by rw [uI_app, if_neg (by omega)]; exact f2 i hi) (fun k' hk' => by
        rw [uI_app]
        by_cases e : k' = k
        · subst e; rw [if_pos ⟨rfl, rfl⟩, hx]
        · rw [if_neg (by omega)]; exact f3 k' (by omega)) (fun k' hk' z => by
        by_cases e : k' = k
        · subst e; exact hz z
        · exact f4 k' (by omega) z)
    have st : ∀ b : Bool, gB (setP (R * C) p) k = b → Wp (d + 1) 307 (j56 t p (R * C) k (nI (wn k)) (bI b) (hU g I J)) (RI K X) := fun b hb => by
      have rv : rdV wn m (setP (R * C) p) k = wn k / m * m + if b = true then m else 0 := by rw [rdV, hb, ek]
      refine w307_56 ?_
      cases b
      · simp only [↓forall_eq, ↓inB_iff, gK_hU, gL_hU, gR_hU, gIh, gJh, pI_hU, pJ_hU, hU_hU, uI_app, uJ_app, and_true, true_and, and_false, false_and, and_self, true_implies, false_implies, not_true, not_false_iff, if_true, if_false, eq_self, Nat.reduceLeDiff, Nat.reduceEqDiff, reduceCtorEq, i32c, ti0, ti1, tiM, Int.natCast_nonneg, Int.reduceEq, Int.reduceLE, Int.reduceLT, Int.reduceNeg, tl_i, Int32.reduceToInt, Int64.reduceToInt, tiA, tlM6, Int.toNat_natCast, natc, nI_1, Int.zero_sub, implies_true, not_false_eq_true, mf.1, mr_70 mf, mk_90 mf, ml_90 mf, mr_71 mf, mk_91 mf, ml_91 mf, mr_72 mf, mk_92 mf, ml_92 mf, mr_75 mf, mk_95 mf, ml_95 mf, bI0, e79, mne, md, dv, mu, x1, x2, x3, Bool.true_eq_false, Bool.false_eq_true, Int32.add_zero]
        exact nx _ (by rw [rv]; rfl) (fun z => by rw [hb] at z; cases z)
      · simp only [↓forall_eq, ↓inB_iff, gK_hU, gL_hU, gR_hU, gIh, gJh, pI_hU, pJ_hU, hU_hU, uI_app, uJ_app, and_true, true_and, and_false, false_and, and_self, true_implies, false_implies, not_true, not_false_iff, if_true, if_false, eq_self, Nat.reduceLeDiff, Nat.reduceEqDiff, reduceCtorEq, i32c, ti0, ti1, tiM, Int.natCast_nonneg, Int.reduceEq, Int.reduceLE, Int.reduceLT, Int.reduceNeg, tl_i, Int32.reduceToInt, Int64.reduceToInt, tiA, tlM6, Int.toNat_natCast, natc, nI_1, Int.zero_sub, implies_true, not_false_eq_true, mf.1, mr_70 mf, mk_90 mf, ml_90 mf, mr_71 mf, mk_91 mf, ml_91 mf, mr_72 mf, mk_92 mf, ml_92 mf, mr_75 mf, mk_95 mf, ml_95 mf, bI0, e79, mne, md, dv, mu, x1, x2, x3, rI, Bool.true_eq_false, Bool.false_eq_true]
        refine ⟨fun z => kn I (fun w => ?_) f1 f2, fun z => nx _ (by rw [rv, if_pos rfl, nI_add]) (fun _ => by omega)⟩
        exact ((fst_msk (by omega) w).2 k hb).2 (by omega)
    refine w307_17 ?_
    simp only [↓forall_eq, ↓inB_iff, gK_hU, gL_hU, gR_hU, gIh, gJh, pI_hU, pJ_hU, hU_hU, uI_app, uJ_app, and_true, true_and, and_false, false_and, and_self, true_implies, false_implies, not_true, not_false_iff, if_true, if_false, eq_self, Nat.reduceLeDiff, Nat.reduceEqDiff, reduceCtorEq, i32c, ti0, ti1, tiM, Int.natCast_nonneg, Int.reduceEq, Int.reduceLE, Int.reduceLT, Int.reduceNeg, tl_i, Int32.reduceToInt, Int64.reduceToInt, tiA, tlM6, Int.toNat_natCast, natc, nI_1, Int.zero_sub, implies_true, not_false_eq_true, mf.1, mr_70 mf, mk_90 mf, ml_90 mf, mr_71 mf, mk_91 mf, ml_91 mf, mr_72 mf, mk_92 mf, ml_92 mf, mr_75 mf, mk_95 mf, ml_95 mf, NI, hkI, zk, htI, zt, x1, x2, x3, e92, ix, sb1, bI1]
    have gk := gP k (by omega)
    refine ⟨fun z => st true (by rw [gk]; exact z), fun z => st false (by rw [gk]; exact bnt z)⟩
end RDW
