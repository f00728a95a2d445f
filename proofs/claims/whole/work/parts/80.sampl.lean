/-! SAMPLES: leaders of the strata -/
section SLD
variable {d U n a L : Nat} {h : aH} {X : Nat → aH → Prop} {st : Nat → Int32}
theorem nI_div {x y : Nat} (hx : x < 2147483648) (hy : y < 2147483648) : nI x / nI y = nI (x / y) := by
  have hd : x / y ≤ x := Nat.div_le_self x y
  have h1 : (nI x).toInt = x := ti_n hx
  have h2 : (nI y).toInt = y := ti_n hy
  refine ti_inj ?_
  rw [Int32.toInt_div_of_ne_left _ _ (fun e => by rw [e] at h1; have : (Int32.minValue).toInt = -2147483648 := rfl; omega), h1, h2, ti_n (by omega)]
  rfl
theorem nI_rem {x y : Nat} (hx : x < 2147483648) (hy : y < 2147483648) : aIrem (nI x) (nI y) = nI (x % y) := by
  unfold aIrem
  have hm : x / y * y ≤ x := Nat.div_mul_le_self x y
  rw [nI_div hx hy, nI_mul, nI_sub hm (by omega)]
  congr 1
  have := Nat.div_add_mod x y
  rw [Nat.mul_comm] at this
  omega
/-- a copy of the first numbers -/
theorem c_copyOf {K : Nat → aH → Prop} (ha : 8 ≤ a ∧ a < gN h ∧ gK h a = 100 ∧ gL h a = n) (hL : L ≤ n) (hn : n ≤ 1000000)
    (kk : ∀ h2, keeps h h2 (fun _ => False) → gN h2 = gN h + 1 → gT h2 = gT h + L → (gK h2 (gN h) = 100 ∧ gL h2 (gN h) = L) → (∀ i, i < L → gI h2 (gN h) i = gI h a i) → K (gN h) h2) : CR (d + 1) 20 [vR a, vI (nI L)] h K X := by
  obtain ⟨a8, aN, ka, la⟩ := ha
  have hLI : (nI L).toInt = L := ti_n (by omega)
  have hnI : (nI n).toInt = n := ti_n (by omega)
  have go : K (gN h) (gCopyI (gNew h 100 L) a 0 (gN h) 0 L) := by
    refine kk _ ⟨?_, ?_, fun q hq => ?_, fun q hq _ => ⟨?_, ?_, fun j => ?_, fun j => ?_, fun j => ?_⟩⟩ ?_ ?_ ⟨?_, ?_⟩ (fun i hi => ?_)
    · rw [gN_cpI, gN_gNew]; omega
    · rw [gT_cpI, gT_gNew]; omega
    · rw [gK_cpI, gL_cpI, gK_gNew, gL_gNew, if_neg (by omega), if_neg (by omega)]; exact ⟨rfl, rfl⟩
    · rw [gK_cpI, gK_gNew, if_neg (by omega)]
    · rw [gL_cpI, gL_gNew, if_neg (by omega)]
    · rw [gI_cpI, if_neg (fun w => by have := w.1; omega), gI_gNew, if_neg (by omega)]
    · rw [gJ_cpI, gJ_gNew, if_neg (by omega)]
    · rw [gR_cpI, gR_gNew, if_neg (by omega)]
    · rw [gN_cpI, gN_gNew]
    · rw [gT_cpI, gT_gNew]
    · rw [gK_cpI, gK_gNew, if_pos rfl]
    · rw [gL_cpI, gL_gNew, if_pos rfl]
    · rw [gI_cpI, if_pos ⟨rfl, by omega, by omega⟩, gI_gNew, if_neg (by omega), Nat.zero_add, Nat.sub_zero]
  refine m20 ⟨by rw [ka]; decide, fun c => ?_, fun c => ?_⟩
  · rw [la, hLI, hnI] at c
    have e : L = n := by omega
    rw [la]
    refine ⟨a8, ka, fun r0 h0 e0 e1 => ?_⟩
    subst e0 e1
    refine ⟨Or.inr (by rw [gK_cpI, gK_gNew, if_pos rfl]), ?_⟩
    rw [← e]; exact go
  · refine ⟨L, rfl, by omega, fun r1 h1 e0 e1 => ?_⟩
    subst e0 e1
    have k1 : gK (gNew h 100 L) a = 100 := by rw [gK_gNew, if_neg (by omega)]; exact ka
    have l1 : gL (gNew h 100 L) a = n := by rw [gL_gNew, if_neg (by omega)]; exact la
    rw [k1, l1, min_br]
    refine ⟨by decide, 0, 0, L, ⟨a8, by omega, by omega, rfl, rfl, ?_, by decide, by decide, by omega, by rw [l1]; omega, by rw [gL_gNew, if_pos rfl]; omega⟩, k1, by rw [gK_gNew, if_pos rfl], fun h3 e3 => ?_⟩
    · rw [hLI, hnI]
      by_cases c2 : (L : Int) < n
      · rw [if_pos c2]
      · rw [if_neg c2]; exact ti_inj (by rw [hnI, hLI]; omega)
    · rw [e3]; exact go
def eqS (st : Nat → Int32) (i j : Nat) : Bool := decide ((st j).toInt = (st i).toInt)
/-- how many are of a unit's stratum -/
def nN (st : Nat → Int32) (U i : Nat) : Nat := if (st i).toInt = -2000000 then 0 else cntP (eqS st i) U
/-- the first of its stratum -/
def isF (st : Nat → Int32) (i : Nat) : Bool := thr (st i) && decide (cntP (eqS st i) i = 0)
theorem cntP_0 {P : Nat → Bool} {j : Nat} (hj : P j = true) : ∀ n, j < n → 0 < cntP P n := by
  intro n
  induction n with
  | zero => intro h; omega
  | succ n ih =>
    intro h
    rw [cntP]
    by_cases c : j = n
    · rw [← c, if_pos hj]; omega
    · have := ih (by omega); omega
theorem c_lead {K : Nat → aH → Prop} {r0 ab : Nat} (u9 : U ≤ 100) (hN : 8 ≤ gN h) (hr : r0 < gN h ∧ gK h r0 = 9 ∧ gR h r0 1 = ab) (ha : ab < gN h ∧ 8 ≤ ab ∧ gK h ab = 100 ∧ gL h ab = U ∧ ab ≠ 16) (hs : gK h 16 = 100 ∧ gL h 16 = 100 ∧ 16 < gN h) (hst : ∀ i, i < U → gI h 16 i = st i) (h0 : ∀ i, i < U → gI h ab i = 0)
    (kk : ∀ q0 h2, keeps h h2 (fun q => q = ab) → (∀ i, i < U → gI h2 ab i = nI (nN st U i)) → (gN h ≤ q0 ∧ q0 < gN h2 ∧ 8 ≤ q0 ∧ gK h2 q0 = 100 ∧ gL h2 q0 = cntP (isF st) U) → (∀ i, i < U → isF st i = true → gI h2 q0 (cntP (isF st) i) = nI i) → gN h2 ≤ gN h + 2 → gT h2 ≤ gT h + 200 → K q0 h2) : CR (d + 2) 230 [vR r0, vR 16] h K X := by
  obtain ⟨rN, rk, rr⟩ := hr
  obtain ⟨aN, a8, ak, al, a16⟩ := ha
  obtain ⟨sk, sl, sN⟩ := hs
  have hUI : (nI U).toInt = U := ti_n (by omega)
  generalize hg : gNew h 100 U = g
  have N0 : gN g = gN h + 1 := by rw [← hg, gN_gNew]
  have T0 : gT g = gT h + U := by rw [← hg, gT_gNew]
  have rk' : gK g r0 = 9 := by rw [← hg, gK_gNew, if_neg (by omega)]; exact rk
  have rr' : gR g r0 1 = ab := by rw [← hg, gR_gNew, if_neg (by omega)]; exact rr
  have ak' : gK g ab = 100 := by rw [← hg, gK_gNew, if_neg (by omega)]; exact ak
  have al' : gL g ab = U := by rw [← hg, gL_gNew, if_neg (by omega)]; exact al
  have sk' : gK g 16 = 100 := by rw [← hg, gK_gNew, if_neg (by omega)]; exact sk
  have sl' : gL g 16 = 100 := by rw [← hg, gL_gNew, if_neg (by omega)]; exact sl
  have nk : gK g (gN h) = 100 := by rw [← hg, gK_gNew, if_pos rfl]
  have nl : gL g (gN h) = U := by rw [← hg, gL_gNew, if_pos rfl]
  have gi : ∀ x, x ≠ gN h → gI g x = gI h x := fun x hx => by funext j; rw [← hg, gI_gNew, if_neg hx]
  have ne1 : ab ≠ gN h := by omega
  have ne2 : (16 : Nat) ≠ gN h := by omega
  have kb : 100 ≤ 100 ∧ 100 ≤ 106 := by decide
  have Lle := fun p => cntP_le (P := isF st) p
  -- the end of it
  have fin : ∀ I : Nat → Nat → Int32, (∀ x, x ≠ ab → x ≠ gN h → I x = gI h x) → (∀ i, i < U → I ab i = nI (nN st U i)) → (∀ i, i < U → isF st i = true → I (gN h) (cntP (isF st) i) = nI i) → CR (d + 1) 20 [vR (gN h), vI (nI (cntP (isF st) U))] (hU g I (gJ g)) (fun q0 h0 => K q0 h0) X := fun I i1 i2 i3 => by
    have hl := Lle U
    refine c_copyOf (n := U) ⟨by omega, by rw [gN_hU]; omega, nk, nl⟩ hl (by omega) (fun h2 k2 e1 e2 e3 e4 => ?_)
    rw [gN_hU, N0] at e1 e3 e4 ⊢
    rw [gT_hU, T0] at e2
    have sm : ∀ q, q < gN h → same (hU g I (gJ g)) h2 q := fun q hq => k2.2.2.2 q (by rw [gN_hU]; omega) (fun w => w)
    refine kk (gN h + 1) h2 ⟨by omega, by omega, fun q hq => ?_, fun q hq hp => ?_⟩ (fun i hi => ?_) ⟨by omega, by omega, by omega, e3.1, e3.2⟩ (fun i hi hf => ?_) (by omega) (by omega)
    · have z := sm q hq
      rw [z.1, z.2.1, gK_hU, gL_hU, ← hg, gK_gNew, gL_gNew, if_neg (by omega), if_neg (by omega)]; exact ⟨rfl, rfl⟩
    · have z := sm q hq
      refine ⟨?_, ?_, fun j => ?_, fun j => ?_, fun j => ?_⟩
      · rw [z.1, gK_hU, ← hg, gK_gNew, if_neg (by omega)]
      · rw [z.2.1, gL_hU, ← hg, gL_gNew, if_neg (by omega)]
      · rw [z.2.2.1, gIh, i1 q hp (by omega)]
      · rw [z.2.2.2.1, gJh, ← hg, gJ_gNew, if_neg (by omega)]
      · rw [z.2.2.2.2, gR_hU, ← hg, gR_gNew, if_neg (by omega)]
    · rw [(sm ab aN).2.2.1, gIh]; exact i2 i hi
    · have c1 : cntP (isF st) i < cntP (isF st) U := by
        have : ∀ m, i < m → m ≤ U → cntP (isF st) i < cntP (isF st) m := by
          intro m
          induction m with
          | zero => intro z; omega
          | succ m ih =>
            intro z z2
            rw [cntP]
            by_cases c : i = m
            · rw [← c, if_pos hf]; omega
            · have := ih (by omega) (by omega); omega
        exact this U hi (Nat.le_refl _)
      rw [e4 _ c1, gIh]; exact i3 i hi hf
  have outer : ∀ (n p : Nat) (I : Nat → Nat → Int32), p + n = U → (∀ x, x ≠ ab → x ≠ gN h → I x = gI h x) → (∀ i, i < U → I ab i = if i < p then nI (nN st U i) else 0) → (∀ i, i < p → isF st i = true → I (gN h) (cntP (isF st) i) = nI i) → Wp (d + 2) 230 (13, [some (vR r0), some (vR 16), some (vR (gN h)), some (vI (nI (cntP (isF st) p))), some (vI (nI p)), none, none], [], hU g I (gJ g)) (RR K X) := by
    intro n
    induction n with
    | zero =>
      intro p I hp i1 i2 i3
      have hpc : p = U := by omega
      subst hpc
      refine w230_13 ?_
      simp only [↓forall_eq, ↓inB_iff, gK_hU, gL_hU, gR_hU, gIh, gJh, pI_hU, pJ_hU, hU_hU, uI_app, uJ_app, and_true, true_and, and_false, false_and, and_self, true_implies, false_implies, not_true, not_false_iff, if_true, if_false, eq_self, Nat.reduceLeDiff, Nat.reduceEqDiff, reduceCtorEq, i32c, ti0, ti1, tiM, Int.natCast_nonneg, Int.reduceEq, Int.reduceLE, Int.reduceLT, Int.reduceNeg, tl_i, Int32.reduceToInt, Int64.reduceToInt, tiA, tlM6, Int.toNat_natCast, natc, nI_1, Int.zero_sub, implies_true, not_false_eq_true, rk', rr', ak', al', kb, Int.lt_irrefl]
      exact fin I i1 (fun i hi => by rw [i2 i hi, if_pos hi]) i3
    | succ n ih =>
      intro p I hp i1 i2 i3
      have hpI : (nI p).toInt = p := ti_n (by omega)
      have zU : (p : Int) < U := by omega
      have z100 : (p : Int) < 100 := by omega
      have sp : I 16 p = st p := by rw [i1 16 (fun e => a16 e.symm) ne2]; exact hst p (by omega)
      have cl := Lle p
      have cI : (nI (cntP (isF st) p)).toInt = (cntP (isF st) p : Nat) := ti_n (by omega)
      have zc : ((cntP (isF st) p : Nat) : Int) < U := by omega
      -- on, with or without a new leader
      have onF : ∀ I2 : Nat → Nat → Int32, (∀ x, x ≠ ab → x ≠ gN h → I2 x = gI h x) → (∀ i, i < U → I2 ab i = if i < p + 1 then nI (nN st U i) else 0) → I2 (gN h) = I (gN h) → isF st p = false → Wp (d + 2) 230 (13, [some (vR r0), some (vR 16), some (vR (gN h)), some (vI (nI (cntP (isF st) p))), some (vI (nI (p + 1))), none, none], [], hU g I2 (gJ g)) (RR K X) := fun I2 j1 j2 j3 hf => by
        have := ih (p + 1) I2 (by omega) j1 j2 (fun i hi hfi => by
          rw [j3]
          by_cases e : i = p
          · rw [e, hf] at hfi; cases hfi
          · exact i3 i (by omega) hfi)
        rw [cntP, if_neg (by rw [hf]; decide), Nat.add_zero] at this
        exact this
      have onT : ∀ I2 : Nat → Nat → Int32, (∀ x, x ≠ ab → x ≠ gN h → I2 x = gI h x) → (∀ i, i < U → I2 ab i = if i < p + 1 then nI (nN st U i) else 0) → I2 (gN h) = I (gN h) → isF st p = true → Wp (d + 2) 230 (13, [some (vR r0), some (vR 16), some (vR (gN h)), some (vI (nI (cntP (isF st) p + 1))), some (vI (nI (p + 1))), none, none], [], hU g (uI I2 (gN h) (cntP (isF st) p) (nI p)) (gJ g)) (RR K X) := fun I2 j1 j2 j3 hf => by
        have := ih (p + 1) (uI I2 (gN h) (cntP (isF st) p) (nI p)) (by omega) (fun x h1 h2 => by rw [uI_ne _ _ _ h2]; exact j1 x h1 h2) (fun i hi => by rw [uI_ne _ _ _ ne1]; exact j2 i hi) (fun i hi hfi => by
          rw [uI_app]
          by_cases e : i = p
          · rw [if_pos ⟨rfl, by rw [e]⟩, e]
          · have lt : cntP (isF st) i < cntP (isF st) p := by
              have : ∀ m, i < m → cntP (isF st) i < cntP (isF st) m := by
                intro m
                induction m with
                | zero => intro z; omega
                | succ m ih =>
                  intro z
                  rw [cntP]
                  by_cases c : i = m
                  · rw [← c, if_pos hfi]; omega
                  · have := ih (by omega); omega
              exact this p (by omega)
            rw [if_neg (fun w => by have := w.2; omega), j3]; exact i3 i (by omega) hfi)
        rw [cntP, if_pos hf] at this
        exact this
      by_cases c : (st p).toInt = -2000000
      · have hf : isF st p = false := by unfold isF thr; rw [decide_eq_true c]; rfl
        refine w230_13 ?_
        simp only [↓forall_eq, ↓inB_iff, gK_hU, gL_hU, gR_hU, gIh, gJh, pI_hU, pJ_hU, hU_hU, uI_app, uJ_app, and_true, true_and, and_false, false_and, and_self, true_implies, false_implies, not_true, not_false_iff, if_true, if_false, eq_self, Nat.reduceLeDiff, Nat.reduceEqDiff, reduceCtorEq, i32c, ti0, ti1, tiM, Int.natCast_nonneg, Int.reduceEq, Int.reduceLE, Int.reduceLT, Int.reduceNeg, tl_i, Int32.reduceToInt, Int64.reduceToInt, tiA, tlM6, Int.toNat_natCast, natc, nI_1, Int.zero_sub, implies_true, not_false_eq_true, rk', rr', ak', al', kb, hpI, hUI, zU, sk', sl', z100, sp, c]
        have z0 : (0 : Int) < U := by omega
        have w42 : Wp (d + 2) 230 (42, [some (vR r0), some (vR 16), some (vR (gN h)), some (vI (nI (cntP (isF st) p))), some (vI (nI p)), some (vI 0), some (vI 0)], [], hU g I (gJ g)) (RR K X) := by
          refine w230_42 ?_
          simp only [↓forall_eq, ↓inB_iff, gK_hU, gL_hU, gR_hU, gIh, gJh, pI_hU, pJ_hU, hU_hU, uI_app, uJ_app, and_true, true_and, and_false, false_and, and_self, true_implies, false_implies, not_true, not_false_iff, if_true, if_false, eq_self, Nat.reduceLeDiff, Nat.reduceEqDiff, reduceCtorEq, i32c, ti0, ti1, tiM, Int.natCast_nonneg, Int.reduceEq, Int.reduceLE, Int.reduceLT, Int.reduceNeg, tl_i, Int32.reduceToInt, Int64.reduceToInt, tiA, tlM6, Int.toNat_natCast, natc, nI_1, Int.zero_sub, implies_true, not_false_eq_true, rk', rr', ak', al', kb, hpI, hUI, z0, sk', sl', z100, sp, c]
          exact onF I i1 (fun i hi => by
            rw [i2 i hi]
            by_cases e : i = p
            · rw [if_neg (by omega), if_pos (by omega), e]; unfold nN; rw [if_pos c]; rfl
            · by_cases l : i < p
              · rw [if_pos l, if_pos (by omega)]
              · rw [if_neg l, if_neg (by omega)]) rfl hf
        exact w42
      · have inner : ∀ (m q : Nat) (I2 : Nat → Nat → Int32) (fl : Bool), q + m = U → (∀ x, x ≠ ab → x ≠ gN h → I2 x = gI h x) → I2 (gN h) = I (gN h) → (∀ i, i < U → I2 ab i = if i < p then nI (nN st U i) else if i = p then nI (cntP (eqS st p) q) else 0) → fl = decide (cntP (eqS st p) (min q p) = 0) → Wp (d + 2) 230 (42, [some (vR r0), some (vR 16), some (vR (gN h)), some (vI (nI (cntP (isF st) p))), some (vI (nI p)), some (vI (bI fl)), some (vI (nI q))], [], hU g I2 (gJ g)) (RR K X) := by
          intro m
          induction m with
          | zero =>
            intro q I2 fl hq j1 j2 j3 j4
            have hqc : q = U := by omega
            subst hqc
            have e3 : ∀ i, i < q → I2 ab i = if i < p + 1 then nI (nN st q i) else 0 := fun i hi => by
              rw [j3 i hi]
              by_cases l : i < p
              · rw [if_pos l, if_pos (by omega)]
              · by_cases e : i = p
                · rw [if_neg l, if_pos e, if_pos (by omega), e]; unfold nN; rw [if_neg c]
                · rw [if_neg l, if_neg e, if_neg (by omega)]
            have hm : min q p = p := by omega
            rw [hm] at j4
            have hfe : isF st p = fl := by unfold isF thr; rw [decide_eq_false c, j4]; rfl
            have nN8 : 8 ≤ gN h := hN
            refine w230_42 ?_
            simp only [↓forall_eq, ↓inB_iff, gK_hU, gL_hU, gR_hU, gIh, gJh, pI_hU, pJ_hU, hU_hU, uI_app, uJ_app, and_true, true_and, and_false, false_and, and_self, true_implies, false_implies, not_true, not_false_iff, if_true, if_false, eq_self, Nat.reduceLeDiff, Nat.reduceEqDiff, reduceCtorEq, i32c, ti0, ti1, tiM, Int.natCast_nonneg, Int.reduceEq, Int.reduceLE, Int.reduceLT, Int.reduceNeg, tl_i, Int32.reduceToInt, Int64.reduceToInt, tiA, tlM6, Int.toNat_natCast, natc, nI_1, Int.zero_sub, implies_true, not_false_eq_true, rk', rr', ak', al', kb, Int.lt_irrefl, bI0, nk, nl, cI, zc, nN8]
            refine ⟨fun z => ?_, fun z => ?_⟩
            · rw [z] at hfe
              exact onF I2 j1 e3 j2 hfe
            · rw [bnf z] at hfe
              exact onT I2 j1 e3 j2 hfe
          | succ m ihm =>
            intro q I2 fl hq j1 j2 j3 j4
            have hqI : (nI q).toInt = q := ti_n (by omega)
            have zq : (q : Int) < U := by omega
            have zq1 : (q : Int) < 100 := by omega
            have sp2 : I2 16 p = st p := by rw [j1 16 (fun e => a16 e.symm) ne2]; exact hst p (by omega)
            have sq2 : I2 16 q = st q := by rw [j1 16 (fun e => a16 e.symm) ne2]; exact hst q (by omega)
            have abp : I2 ab p = nI (cntP (eqS st p) q) := by rw [j3 p (by omega), if_neg (by omega), if_pos rfl]
            have upd : eqS st p q = true → ∀ i, i < U → uI I2 ab p (nI (cntP (eqS st p) q + 1)) ab i = if i < p then nI (nN st U i) else if i = p then nI (cntP (eqS st p) (q + 1)) else 0 := fun he i hi => by
              rw [uI_app]
              by_cases e : i = p
              · rw [if_pos ⟨rfl, e⟩, if_neg (by omega), if_pos e, cntP, if_pos he]
              · rw [if_neg (fun w => e w.2), j3 i hi, if_neg e, if_neg e]
            refine w230_42 ?_
            simp only [↓forall_eq, ↓inB_iff, gK_hU, gL_hU, gR_hU, gIh, gJh, pI_hU, pJ_hU, hU_hU, uI_app, uJ_app, and_true, true_and, and_false, false_and, and_self, true_implies, false_implies, not_true, not_false_iff, if_true, if_false, eq_self, Nat.reduceLeDiff, Nat.reduceEqDiff, reduceCtorEq, i32c, ti0, ti1, tiM, Int.natCast_nonneg, Int.reduceEq, Int.reduceLE, Int.reduceLT, Int.reduceNeg, tl_i, Int32.reduceToInt, Int64.reduceToInt, tiA, tlM6, Int.toNat_natCast, natc, nI_1, Int.zero_sub, implies_true, not_false_eq_true, rk', rr', ak', al', kb, hpI, hqI, hUI, zq, zU, sk', sl', z100, zq1, sp2, sq2, c, abp, a8, bI0]
            refine ⟨fun he => ?_, fun he => ?_⟩
            · have hE : eqS st p q = true := decide_eq_true he
              have nx := fun fl' h4 => ihm (q + 1) (uI I2 ab p (nI (cntP (eqS st p) q + 1))) fl' (by omega) (fun x h1 h2 => by rw [uI_ne _ _ _ h1]; exact j1 x h1 h2) (by rw [uI_ne _ _ _ (fun e => ne1 e.symm)]; exact j2) (upd hE) h4
              refine ⟨fun z => ?_, fun z => ⟨fun l => ?_, fun l => ?_⟩⟩
              · refine nx false ?_
                rw [z] at j4
                have pos : ¬ cntP (eqS st p) (min q p) = 0 := of_decide_eq_false j4.symm
                symm
                refine decide_eq_false ?_
                by_cases l : q < p
                · rw [show min (q + 1) p = q + 1 by omega, cntP]; rw [show min q p = q by omega] at pos; omega
                · rw [show min (q + 1) p = p by omega]; rw [show min q p = p by omega] at pos; exact pos
              · refine nx false ?_
                symm
                refine decide_eq_false ?_
                rw [show min (q + 1) p = q + 1 by omega, cntP, if_pos hE]; omega
              · refine nx true ?_
                rw [bnf z] at j4
                rw [show min q p = p by omega] at j4
                rw [show min (q + 1) p = p by omega]; exact j4
            · have hE : eqS st p q = false := decide_eq_false he
              refine ihm (q + 1) I2 fl (by omega) j1 j2 (fun i hi => ?_) ?_
              · have e1 : cntP (eqS st p) (q + 1) = cntP (eqS st p) q := by rw [cntP, if_neg (by rw [hE]; decide), Nat.add_zero]
                rw [j3 i hi, e1]
              · rw [j4]
                by_cases l : q < p
                · rw [show min (q + 1) p = q + 1 by omega, show min q p = q by omega, cntP, if_neg (by rw [hE]; decide), Nat.add_zero]
                · rw [show min (q + 1) p = p by omega, show min q p = p by omega]
        refine w230_13 ?_
        simp only [↓forall_eq, ↓inB_iff, gK_hU, gL_hU, gR_hU, gIh, gJh, pI_hU, pJ_hU, hU_hU, uI_app, uJ_app, and_true, true_and, and_false, false_and, and_self, true_implies, false_implies, not_true, not_false_iff, if_true, if_false, eq_self, Nat.reduceLeDiff, Nat.reduceEqDiff, reduceCtorEq, i32c, ti0, ti1, tiM, Int.natCast_nonneg, Int.reduceEq, Int.reduceLE, Int.reduceLT, Int.reduceNeg, tl_i, Int32.reduceToInt, Int64.reduceToInt, tiA, tlM6, Int.toNat_natCast, natc, nI_1, Int.zero_sub, implies_true, not_false_eq_true, rk', rr', ak', al', kb, hpI, hUI, zU, sk', sl', z100, sp, c]
        refine inner U 0 I true (by omega) i1 rfl (fun i hi => ?_) ?_
        · rw [i2 i hi]
          by_cases l : i < p
          · rw [if_pos l, if_pos l]
          · rw [if_neg l, if_neg l]
            by_cases e : i = p
            · rw [if_pos e]; rfl
            · rw [if_neg e]
        · rw [show min 0 p = 0 by omega]; rfl
  refine m230 ?_
  rw [rk, rr, ak, al]
  refine ⟨rfl, by decide, U, rfl, by omega, fun r9 h9 e0 e1 => ?_⟩
  rw [e1, e0, hg]
  refine outer U 0 (gI g) (by omega) (fun x _ hx => gi x hx) (fun i hi => ?_) (fun i hi => by omega)
  rw [gi ab ne1, if_neg (by omega)]; exact h0 i hi
end SLD
