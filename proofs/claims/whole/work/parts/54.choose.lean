/-! THE LEAST SET: the class's side -/
section CHO
variable {d f s r n p : Nat} {it t t1 : Nat → Int32} {h : aH} {A o : Nat → Nat} {X : Nat → aH → Prop} {M : Nat → Nat → Int32} {I I1 : Nat → Nat → Int32} {J : Nat → Nat → Int64} {S T U : Int32}
abbrev coM (M : Nat → Nat → Int32) (f s : Nat) : Int := (M 58 (20 * f + s)).toInt
/-- what a set costs -/
def cS (M : Nat → Nat → Int32) (f : Nat) (S : Int32) : Nat → Int
  | 0 => 0
  | n + 1 => cS M f S n + if gB S n = true then coM M f n else 0
abbrev hb (t : Nat) : Int32 := 1 <<< (nI t &&& 31)
theorem cS_or {t : Nat} (ht : t < 32) (h0 : gB S t = false) : ∀ n, cS M f (S ||| hb t) n = cS M f S n + if t < n then coM M f t else 0 := by
  intro n
  induction n with
  | zero => rfl
  | succ n ih =>
    rw [cS, cS, ih, gB_or, gB_sh ht]
    by_cases e : n = t
    · subst e
      have q1 : ¬ n < n := by omega
      have q2 : n < n + 1 := by omega
      rw [h0, decide_eq_true rfl, Bool.or_true, if_pos rfl, if_neg q1, if_neg (by decide), if_pos q2]
    · rw [decide_eq_false e, Bool.or_false]
      by_cases c : t < n
      · have q2 : t < n + 1 := by omega
        rw [if_pos c, if_pos q2]; omega
      · have q2 : ¬ t < n + 1 := by omega
        rw [if_neg c, if_neg q2]; omega
theorem cS_mono (hs : subB S T) (hc : ∀ s, gB T s = true → 0 ≤ coM M f s) : ∀ n, cS M f S n ≤ cS M f T n := by
  intro n
  induction n with
  | zero => exact Int.le_refl _
  | succ n ih =>
    rw [cS, cS]
    cases h1 : gB S n
    · rw [if_neg (by decide)]
      cases h2 : gB T n
      · rw [if_neg (by decide)]; omega
      · rw [if_pos rfl]; have := hc n h2; omega
    · rw [if_pos rfl, if_pos (hs n h1)]; omega
theorem cS_b (hc : ∀ s, gB S s = true → 0 ≤ coM M f s ∧ coM M f s ≤ 100) : ∀ n, 0 ≤ cS M f S n ∧ cS M f S n ≤ 100 * n := by
  intro n
  induction n with
  | zero => exact ⟨Int.le_refl _, Int.le_refl _⟩
  | succ n ih =>
    rw [cS]
    cases h1 : gB S n
    · rw [if_neg (by decide)]; omega
    · rw [if_pos rfl]; have := hc n h1; omega
/-- between -/
def btw (set op T : Int32) : Prop := subB set T ∧ subB T (set ||| op)
theorem sub_or {a b c : Int32} (h1 : subB a c) (h2 : subB b c) : subB (a ||| b) c := fun i hi => by
  rw [gB_or] at hi
  cases ha : gB a i
  · rw [ha, Bool.false_or] at hi; exact h2 i hi
  · exact h1 i ha
theorem or_l {a b : Int32} : subB a (a ||| b) := fun i hi => by rw [gB_or, hi]; rfl
theorem sub_tr {a b c : Int32} (h1 : subB a b) (h2 : subB b c) : subB a c := fun i hi => h2 i (h1 i hi)
/-- all that is needed to look for sets within U -/
def edU (M : Nat → Nat → Int32) (f : Nat) (it : Nat → Int32) (U : Int32) : Prop := (∀ S, subB S U → edV M f (gB S) it) ∧ (∀ S T, subB S T → subB T U → fitB M f it (gB S) = true → fitB M f it (gB T) = true) ∧ (∀ s, gB U s = true → s < cnM M f ∧ 1 ≤ coM M f s ∧ coM M f s ≤ 100) ∧ cnM M f ≤ 20
theorem costOf_br {K : Int32 → aH → Prop} {t : Nat} (e : edC h A o M f r it) (ht : t < cnM M f) : CI (d + 1) 204 [vR (A (bF f)), vI (nI t)] h K X ↔ K (M 58 (20 * f + t)) h := by
  obtain ⟨⟨e1, e2⟩, e3, e4, ⟨e5, e6⟩, ⟨e7, e8⟩, R, e12, e13, e14⟩ := e
  have htI : (nI t).toInt = t := ti_n (by omega)
  have hcI : (nI (cnM M f)).toInt = (cnM M f : Nat) := ti_n (by omega)
  have z0 : ¬ (t : Int) < 0 := by omega
  have z1 : (t : Int) < (cnM M f : Nat) := by omega
  have z2 : (t : Int) < 20 := by omega
  refine CI_iff fun K X w => m204 ⟨eF_0 e3, kF_0 e3, m141 ?_⟩
  have y := (e12 t ht).1.2.2.1
  simp only [↓forall_eq, ↓inB_iff, gK_hU, gL_hU, gR_hU, gIh, gJh, pI_hU, pJ_hU, hU_hU, uI_app, uJ_app, and_true, true_and, and_false, false_and, and_self, true_implies, false_implies, not_true, not_false_iff, if_true, if_false, eq_self, Nat.reduceLeDiff, Nat.reduceEqDiff, reduceCtorEq, i32c, ti0, ti1, tiM, Int.natCast_nonneg, Int.reduceEq, Int.reduceLE, Int.reduceLT, Int.reduceNeg, tl_i, Int32.reduceToInt, Int64.reduceToInt, tiA, tlM6, Int.toNat_natCast, natc, nI_1, Int.zero_sub, implies_true, not_false_eq_true, kF_0 e3, e7, htI, hcI, z0, z1, rF_0_5 e3, kF_6 e3, lF_6 e3, z2, y]
  exact w
theorem c_choose (e : edC h A o M f r it) (eu : edU M f it U) : ∀ (n : Nat) (K : aH → Prop) (set op cost : Int32) (I : Nat → Nat → Int32) (b0 : Int32 × Int), n ≤ 20 → (∀ i, n ≤ i → gB op i = false) → subB set U → subB op U → (∀ i j, gB set i = true → gB op j = true → j < i) → fitB M f it (gB (set ||| op)) = true → cost.toInt = cS M f set (cnM M f) → eFr h I → I 32 1 = b0.1 → (I 32 2).toInt = b0.2 →
    (∀ I1 b1, eFr h I1 → I1 32 1 = b1.1 → (I1 32 2).toInt = b1.2 → best (fun T => fitB M f it (gB T)) (fun T => cS M f T (cnM M f)) (btw set op) b0 b1 → K (hU h I1 J)) → CV (d + n + 6) 205 [vR 32, vR (A (bR r)), vI set, vI op, vI cost] (hU h I J) K X := by
  obtain ⟨u1, u2, u3, u4⟩ := eu
  intro n
  induction n with
  | zero =>
    intro K set op cost I b0 hn hop s1 s2 s3 hF hcost s i1 i2 kk
    obtain ⟨⟨e1, e2⟩, -⟩ := edC_hU (J := J) e s
    have op0 : op.toInt = 0 := gB_zero.mpr fun i _ => hop i (by omega)
    have opz : op = 0 := ti_inj (by rw [op0]; rfl)
    subst opz
    have e0 : set ||| 0 = set := gB_ext fun i _ => by rw [gB_or, gB_0, Bool.or_false]
    rw [e0] at hF
    refine m205 ?_
    simp only [↓forall_eq, ↓inB_iff, gK_hU, gL_hU, gR_hU, gIh, gJh, pI_hU, pJ_hU, hU_hU, uI_app, uJ_app, and_true, true_and, and_false, false_and, and_self, true_implies, false_implies, not_true, not_false_iff, if_true, if_false, eq_self, Nat.reduceLeDiff, Nat.reduceEqDiff, reduceCtorEq, i32c, ti0, ti1, tiM, Int.natCast_nonneg, Int.reduceEq, Int.reduceLE, Int.reduceLT, Int.reduceNeg, tl_i, Int32.reduceToInt, Int64.reduceToInt, tiA, tlM6, Int.toNat_natCast, natc, nI_1, Int.zero_sub, implies_true, not_false_eq_true, ck_32 e1, op0]
    refine ⟨fun c => kk _ (set, cost.toInt) (fun a h1 h2 => ?_) ?_ ?_ ?_, fun c => kk I b0 s i1 i2 (Or.inl ⟨rfl, fun T hT hTF => ?_⟩)⟩
    · rw [uI_ne _ _ _ h1, uI_ne _ _ _ h1]; exact s a h1 h2
    · rw [uI_app, if_neg (by decide), uI_same]
    · rw [uI_same]
    · refine Or.inr ⟨⟨fun i hi => hi, or_l⟩, hF, hcost, by rw [← i2]; exact c, fun T hT hTF => ?_⟩
      have : cS M f set (cnM M f) ≤ cS M f T (cnM M f) := cS_mono hT.1 (fun s hs => by
        have h1 : gB (set ||| 0) s = true := hT.2 s hs
        rw [e0] at h1
        have := u3 s (s1 s h1)
        omega) _
      exact ⟨by dsimp only; omega, fun _ => sub_le hT.1⟩
    · have : cS M f set (cnM M f) ≤ cS M f T (cnM M f) := cS_mono hT.1 (fun s hs => by
        have h1 : gB (set ||| 0) s = true := hT.2 s hs
        rw [e0] at h1
        have := u3 s (s1 s h1)
        omega) _
      rw [i2] at c
      dsimp only
      omega
  | succ n ih =>
    intro K set op cost I b0 hn hop s1 s2 s3 hF hcost s i1 i2 kk
    obtain ⟨⟨e1, e2⟩, -⟩ := edC_hU (J := J) e s
    by_cases op0 : op.toInt = 0
    · have opz : op = 0 := ti_inj (by rw [op0]; rfl)
      subst opz
      have e0 : set ||| 0 = set := gB_ext fun i _ => by rw [gB_or, gB_0, Bool.or_false]
      rw [e0] at hF
      refine m205 ?_
      simp only [↓forall_eq, ↓inB_iff, gK_hU, gL_hU, gR_hU, gIh, gJh, pI_hU, pJ_hU, hU_hU, uI_app, uJ_app, and_true, true_and, and_false, false_and, and_self, true_implies, false_implies, not_true, not_false_iff, if_true, if_false, eq_self, Nat.reduceLeDiff, Nat.reduceEqDiff, reduceCtorEq, i32c, ti0, ti1, tiM, Int.natCast_nonneg, Int.reduceEq, Int.reduceLE, Int.reduceLT, Int.reduceNeg, tl_i, Int32.reduceToInt, Int64.reduceToInt, tiA, tlM6, Int.toNat_natCast, natc, nI_1, Int.zero_sub, implies_true, not_false_eq_true, ck_32 e1, op0]
      refine ⟨fun c => kk _ (set, cost.toInt) (fun a h1 h2 => ?_) ?_ ?_ ?_, fun c => kk I b0 s i1 i2 (Or.inl ⟨rfl, fun T hT hTF => ?_⟩)⟩
      · rw [uI_ne _ _ _ h1, uI_ne _ _ _ h1]; exact s a h1 h2
      · rw [uI_app, if_neg (by decide), uI_same]
      · rw [uI_same]
      · refine Or.inr ⟨⟨fun i hi => hi, or_l⟩, hF, hcost, by rw [← i2]; exact c, fun T hT hTF => ?_⟩
        have : cS M f set (cnM M f) ≤ cS M f T (cnM M f) := cS_mono hT.1 (fun s hs => by
          have h1 : gB (set ||| 0) s = true := hT.2 s hs
          rw [e0] at h1
          have := u3 s (s1 s h1)
          omega) _
        exact ⟨by dsimp only; omega, fun _ => sub_le hT.1⟩
      · have : cS M f set (cnM M f) ≤ cS M f T (cnM M f) := cS_mono hT.1 (fun s hs => by
          have h1 : gB (set ||| 0) s = true := hT.2 s hs
          rw [e0] at h1
          have := u3 s (s1 s h1)
          omega) _
        rw [i2] at c
        dsimp only
        omega
    · obtain ⟨t, t1, t2, t3⟩ := top_bit (n + 1) (by omega) hop op0
      have ts : gB set t = false := by
        cases hh : gB set t
        · rfl
        · have := s3 t t hh t2; omega
      generalize hrest : op &&& (hb t ^^^ (-1)) = rest at *
      have rb : ∀ i, gB rest i = (gB op i && !decide (i = t)) := fun i => by
        rw [← hrest, gB_and]
        by_cases hi : i < 32
        · rw [gB_not _ hi, gB_sh (by omega)]
        · rw [gB_32 (x := op) (by omega), Bool.false_and, Bool.false_and]
      have rsub : subB rest op := fun i hi => by
        rw [rb] at hi
        cases hh : gB op i
        · rw [hh, Bool.false_and] at hi; exact hi
        · rfl
      have hsub : subB (hb t) op := fun i hi => by
        rw [gB_sh (by omega)] at hi
        rw [of_decide_eq_true hi]; exact t2
      have rt : gB rest t = false := by rw [rb, decide_eq_true rfl, Bool.not_true, Bool.and_false]
      have rhi : ∀ i, t ≤ i → gB rest i = false := fun i hi => by
        by_cases c : i = t
        · rw [c]; exact rt
        · rw [rb, t3 i (by omega), Bool.false_and]
      have hall : (set ||| hb t) ||| rest = set ||| op := gB_ext fun i _ => by
        rw [gB_or, gB_or, gB_or, rb, gB_sh (by omega)]
        by_cases c : i = t
        · subst c; rw [t2, decide_eq_true rfl]; simp
        · rw [decide_eq_false c]; simp
      have u32 := u3 t (s2 t t2)
      have cadd : (cost + M 58 (20 * f + t)).toInt = cS M f (set ||| hb t) (cnM M f) := by
        have b1 := cS_b (M := M) (f := f) (S := set) (fun s hs => by have := u3 s (s1 s hs); omega) (cnM M f)
        have u32' : 1 ≤ (M 58 (20 * f + t)).toInt ∧ (M 58 (20 * f + t)).toInt ≤ 100 := u32.2
        rw [ti_add (by rw [hcost]; omega) (by rw [hcost]; omega), hcost, cS_or (by omega) ts, if_pos u32.1]
      have split : ∀ T, btw set op T ↔ btw set rest T ∨ btw (set ||| hb t) rest T := fun T => by
        constructor
        · rintro ⟨w1, w2⟩
          cases hT : gB T t
          · refine Or.inl ⟨w1, fun i hi => ?_⟩
            have := w2 i hi
            rw [gB_or] at this ⊢
            rw [rb]
            by_cases c : i = t
            · rw [c, hT] at hi; cases hi
            · rw [decide_eq_false c, Bool.not_false, Bool.and_true]; exact this
          · refine Or.inr ⟨sub_or w1 (fun i hi => ?_), by rw [hall]; exact w2⟩
            rw [gB_sh (by omega)] at hi
            rw [of_decide_eq_true hi]; exact hT
        · rintro (⟨w1, w2⟩ | ⟨w1, w2⟩)
          · exact ⟨w1, sub_tr w2 (sub_or or_l (fun i hi => by rw [gB_or, rsub i hi, Bool.or_true]))⟩
          · rw [hall] at w2
            exact ⟨sub_tr or_l w1, w2⟩
      have ord : ∀ T1 T2, btw set rest T1 → btw (set ||| hb t) rest T2 → msk T1 < msk T2 := fun T1 T2 ⟨w1, w2⟩ ⟨w3, w4⟩ => by
        have g1 : ∀ i, t ≤ i → gB T1 i = gB set i := fun i hi => by
          cases hs : gB set i
          · cases hT : gB T1 i
            · rfl
            · have := w2 i hT; rw [gB_or, hs, rhi i hi] at this; exact this.symm
          · exact w1 i hs
        have g2 : ∀ i, t < i → gB T2 i = gB set i := fun i hi => by
          cases hs : gB set i
          · cases hT : gB T2 i
            · rfl
            · have := w4 i hT; rw [gB_or, gB_or, hs, rhi i (by omega), gB_sh (by omega), decide_eq_false (by omega)] at this; exact this.symm
          · exact w3 i (or_l i hs)
        refine msk_lt_bit (t := t) (by rw [g1 t (Nat.le_refl _)]; exact ts) (w3 t (by rw [gB_or, gB_sh (by omega), decide_eq_true rfl, Bool.or_true])) (fun i hi => by rw [g1 i (by omega), g2 i hi])
      have sr : subB (set ||| rest) U := sub_or s1 (sub_tr rsub s2)
      have nt : ∀ (d : Nat) (h : aH) (K : Int32 → aH → Prop) (X : Nat → aH → Prop), CI d 152 [vI (hb t)] h K X ↔ K (nI t) h := fun d h K X => ntz_br (by omega) (by rw [gB_sh (by omega), decide_eq_true rfl]) (fun i hi => by rw [gB_sh (by omega), decide_eq_false (by omega)])
      have second : ∀ (I2 : Nat → Nat → Int32) (b1 : Int32 × Int), eFr h I2 → I2 32 1 = b1.1 → (I2 32 2).toInt = b1.2 → best (fun T => fitB M f it (gB T)) (fun T => cS M f T (cnM M f)) (btw set rest) b0 b1 → CV (d + n + 6) 205 [vR 32, vR (A (bR r)), vI (set ||| hb t), vI rest, vI (cost + M 58 (20 * f + t))] (hU h I2 J) K X := fun I2 b1 q1 q2 q3 q4 =>
        ih K _ _ _ I2 b1 (by omega) (fun i hi => rhi i (by omega)) (sub_or s1 (sub_tr hsub s2)) (sub_tr rsub s2) (fun i j hi hj => by
          have jt : j < t := Nat.lt_of_not_le fun q => by rw [rhi j q] at hj; cases hj
          rw [gB_or] at hi
          cases hs : gB set i
          · rw [hs, Bool.false_or, gB_sh (by omega)] at hi
            rw [of_decide_eq_true hi]; exact jt
          · exact s3 i j hs (rsub j hj)) (by rw [hall]; exact hF) cadd q1 q2 q3 (fun I3 b2 w1 w2 w3 w4 => kk I3 b2 w1 w2 w3 (best_two q4 w4 ord split))
      have rest0 : op &&& ((1 <<< (nI t &&& 31)) ^^^ (-1)) = rest := hrest
      rw [show d + (n + 1) + 6 = d + n + 7 by omega]
      refine m205 ?_
      simp only [↓forall_eq, ↓inB_iff, gK_hU, gL_hU, gR_hU, gIh, gJh, pI_hU, pJ_hU, hU_hU, uI_app, uJ_app, and_true, true_and, and_false, false_and, and_self, true_implies, false_implies, not_true, not_false_iff, if_true, if_false, eq_self, Nat.reduceLeDiff, Nat.reduceEqDiff, reduceCtorEq, i32c, ti0, ti1, tiM, Int.natCast_nonneg, Int.reduceEq, Int.reduceLE, Int.reduceLT, Int.reduceNeg, tl_i, Int32.reduceToInt, Int64.reduceToInt, tiA, tlM6, Int.toNat_natCast, natc, nI_1, Int.zero_sub, implies_true, not_false_eq_true, ck_32 e1, op0, ↓highest_br (show t < 31 by omega) t2 t3, rest0]
      refine ⟨fun c => ?_, fun c => kk I b0 s i1 i2 (Or.inl ⟨rfl, fun T hT hTF => ?_⟩)⟩
      · refine c_fits (d := d + n + 2) e (u1 _ sr) s (fun I1 q1 q2 _ => ?_)
        obtain ⟨⟨x1, x2⟩, x3, x4, -, -, -, -, x13, -⟩ := edC_hU (J := J) e q1
        have x13' : gR h (A (bR r)) 0 = A (bF f) := x13
        have eI := edC_hU (J := J) e q1
        have nt' := nt (d + n + 6) (hU h I1 J)
        have co := fun K X => @costOf_br (d + n + 5) f r it (hU h I1 J) A o X M K t eI u32.1
        simp only [↓forall_eq, ↓inB_iff, gK_hU, gL_hU, gR_hU, gIh, gJh, pI_hU, pJ_hU, hU_hU, uI_app, uJ_app, and_true, true_and, and_false, false_and, and_self, true_implies, false_implies, not_true, not_false_iff, if_true, if_false, eq_self, Nat.reduceLeDiff, Nat.reduceEqDiff, reduceCtorEq, i32c, ti0, ti1, tiM, Int.natCast_nonneg, Int.reduceEq, Int.reduceLE, Int.reduceLT, Int.reduceNeg, tl_i, Int32.reduceToInt, Int64.reduceToInt, tiA, tlM6, Int.toNat_natCast, natc, nI_1, Int.zero_sub, implies_true, not_false_eq_true, bI0, kR_0 x4, x13', eF_0 x3, kF_0 x3, ck_32 x1, ↓nt', ↓co]
        refine ⟨fun cf => second I1 b0 q1 (by rw [q2]; exact i1) (by rw [q2]; exact i2) (best_none fun T hT => ?_), fun cf => ?_⟩
        · cases hT2 : fitB M f it (gB T)
          · rfl
          · rw [u2 T _ hT.2 sr hT2] at cf; cases cf
        · refine ih _ set rest cost I1 b0 (by omega) (fun i hi => rhi i (by omega)) s1 (sub_tr rsub s2) (fun i j hi hj => s3 i j hi (rsub j hj)) (bnf cf) hcost q1 (by rw [q2]; exact i1) (by rw [q2]; exact i2) (fun I2 b1 w1 w2 w3 w4 => ?_)
          obtain ⟨⟨x1, x2⟩, x3, x4, -, -, -, -, x13, -⟩ := edC_hU (J := J) e w1
          have eI2 := edC_hU (J := J) e w1
          have nt2 := nt (d + n + 6) (hU h I2 J)
          have co2 := fun K X => @costOf_br (d + n + 5) f r it (hU h I2 J) A o X M K t eI2 u32.1
          simp only [↓forall_eq, ↓inB_iff, gK_hU, gL_hU, gR_hU, gIh, gJh, pI_hU, pJ_hU, hU_hU, uI_app, uJ_app, and_true, true_and, and_false, false_and, and_self, true_implies, false_implies, not_true, not_false_iff, if_true, if_false, eq_self, Nat.reduceLeDiff, Nat.reduceEqDiff, reduceCtorEq, i32c, ti0, ti1, tiM, Int.natCast_nonneg, Int.reduceEq, Int.reduceLE, Int.reduceLT, Int.reduceNeg, tl_i, Int32.reduceToInt, Int64.reduceToInt, tiA, tlM6, Int.toNat_natCast, natc, nI_1, Int.zero_sub, implies_true, not_false_eq_true, kR_0 x4, x13', eF_0 x3, kF_0 x3, ck_32 x1, ↓nt2, ↓co2]
          exact second I2 b1 w1 w2 w3 w4
      · have : cS M f set (cnM M f) ≤ cS M f T (cnM M f) := cS_mono hT.1 (fun s hs => by
          have h1 : gB (set ||| op) s = true := hT.2 s hs
          have := u3 s (sub_or s1 s2 s h1)
          omega) _
        rw [i2] at c
        dsimp only
        omega
end CHO
