/-! TABLES: cell -/
section CEL
variable {d nt t R C : Nat} {h g : aH} {A o : Nat → Nat} {X : Nat → aH → Prop} {M : Nat → Nat → Int32} {I : Nat → Nat → Int32} {J : Nat → Nat → Int64} {x r c w : Int32}
/-- is a cell in a row and a column, or in all of them -/
def inC (R C : Nat) (r c : Int) (k : Nat) : Bool := (decide (r = R) || decide (((k / C : Nat) : Int) = r)) && (decide (c = C) || decide (((k % C : Nat) : Int) = c))
def smC (v : Nat → Int32) (P : Nat → Bool) : Nat → Int32
  | 0 => 0
  | k + 1 => smC v P k + if P k = true then v k else 0
def mxC (v : Nat → Int32) (P : Nat → Bool) : Nat → Int32
  | 0 => 0
  | k + 1 => if P k = true then (if (mxC v P k).toInt < (v k).toInt then v k else mxC v P k) else mxC v P k
theorem isIn9_br {K : Int32 → aH → Prop} {a k : Nat} (hk : gK h a = 11) (C3 : 1 ≤ C ∧ C ≤ 3) (R4 : R ≤ 4) (i4 : gI h a 4 = nI R) (i5 : gI h a 5 = nI C) (k9 : k < 12) : CI d 269 [vR a, vI (nI k), vI r, vI c] h K X ↔ K (bI (inC R C r.toInt c.toInt k)) h := by
  have CI' : (nI C).toInt = C := ti_n (by omega)
  have RI : (nI R).toInt = R := ti_n (by omega)
  have c0 : (0 : Int) < C := by omega
  have cne : ¬ nI C = 0 := fun e => by rw [e] at CI'; have : (0 : Int32).toInt = 0 := rfl; omega
  have dv : nI k / nI C = nI (k / C) := nI_div (by omega) (by omega)
  have md : aIrem (nI k) (nI C) = nI (k % C) := nI_rem (by omega) (by omega)
  have d1 : k / C ≤ k := Nat.div_le_self _ _
  have d2 : k % C ≤ k := Nat.mod_le _ _
  have dI : (nI (k / C)).toInt = ((k / C : Nat) : Int) := ti_n (by omega)
  have mI : (nI (k % C)).toInt = ((k % C : Nat) : Int) := ti_n (by omega)
  refine CI_iff fun K X w => m269 ?_
  simp only [↓forall_eq, ↓inB_iff, gK_hU, gL_hU, gR_hU, gIh, gJh, pI_hU, pJ_hU, hU_hU, uI_app, uJ_app, and_true, true_and, and_false, false_and, and_self, true_implies, false_implies, not_true, not_false_iff, if_true, if_false, eq_self, Nat.reduceLeDiff, Nat.reduceEqDiff, reduceCtorEq, i32c, ti0, ti1, tiM, Int.natCast_nonneg, Int.reduceEq, Int.reduceLE, Int.reduceLT, Int.reduceNeg, tl_i, Int32.reduceToInt, Int64.reduceToInt, tiA, tlM6, Int.toNat_natCast, natc, nI_1, Int.zero_sub, implies_true, not_false_eq_true, hk, i4, i5, CI', RI, c0, dv, md, dI, mI, cne]
  unfold inC at w
  refine ⟨fun e1 => ⟨fun e2 => ?_, fun e2 => ⟨fun e3 => ?_, fun e3 => ?_⟩⟩, fun e1 => ⟨fun e4 => ⟨fun e2 => ?_, fun e2 => ⟨fun e3 => ?_, fun e3 => ?_⟩⟩, fun e4 => ?_⟩⟩
  · rw [decide_eq_true e1, decide_eq_true e2] at w; exact w
  · rw [decide_eq_true e1, decide_eq_true e3, Bool.or_true, Bool.true_or] at w; exact w
  · rw [decide_eq_true e1, decide_eq_false e2, decide_eq_false e3] at w; exact w
  · rw [decide_eq_true e4, decide_eq_true e2, Bool.or_true, Bool.true_or] at w; exact w
  · rw [decide_eq_true e4, decide_eq_true e3, Bool.or_true, Bool.or_true] at w; exact w
  · rw [decide_eq_false e2, decide_eq_false e3, Bool.or_false, Bool.and_false] at w; exact w
  · rw [decide_eq_false e1, decide_eq_false e4] at w; exact w
theorem sumOf_br {K : Int32 → aH → Prop} {a ar : Nat} {v : Nat → Int32} (hk : gK h a = 11 ∧ 8 ≤ a) (C3 : 1 ≤ C ∧ C ≤ 3) (R4 : R ≤ 4) (i4 : gI h a 4 = nI R) (i5 : gI h a 5 = nI C) (i6 : gI h a 6 = nI (R * C)) (ha : gK h ar = 100 ∧ gL h ar = R * C) (hv : ∀ k, k < R * C → gI h ar k = v k) : CI (d + 1) 270 [vR a, vR ar, vI r, vI c] h K X ↔ K (smC v (inC R C r.toInt c.toInt) (R * C)) h := by
  have m12 : R * C ≤ 4 * 3 := Nat.mul_le_mul R4 C3.2
  have mI : (nI (R * C)).toInt = ((R * C : Nat) : Int) := ti_n (by omega)
  have kb : 100 ≤ 100 ∧ 100 ≤ 106 := by decide
  refine CI_iff fun K X w => m270 ?_
  have main : ∀ (n p : Nat), p + n = R * C → Wp (d + 1) 270 (6, [some (vR a), some (vR ar), some (vI r), some (vI c), some (vI (smC v (inC R C r.toInt c.toInt) p)), some (vI (nI p))], [], h) (RI K X) := by
    intro n
    induction n with
    | zero =>
      intro p hp
      have hpc : p = R * C := by omega
      subst hpc
      refine w270_6 ?_
      simp only [↓forall_eq, ↓inB_iff, gK_hU, gL_hU, gR_hU, gIh, gJh, pI_hU, pJ_hU, hU_hU, uI_app, uJ_app, and_true, true_and, and_false, false_and, and_self, true_implies, false_implies, not_true, not_false_iff, if_true, if_false, eq_self, Nat.reduceLeDiff, Nat.reduceEqDiff, reduceCtorEq, i32c, ti0, ti1, tiM, Int.natCast_nonneg, Int.reduceEq, Int.reduceLE, Int.reduceLT, Int.reduceNeg, tl_i, Int32.reduceToInt, Int64.reduceToInt, tiA, tlM6, Int.toNat_natCast, natc, nI_1, Int.zero_sub, implies_true, not_false_eq_true, hk, i6, Int.lt_irrefl]
      exact w
    | succ n ih =>
      intro p hp
      have nx := ih (p + 1) (by omega)
      rw [smC] at nx
      have hpI : (nI p).toInt = p := ti_n (by omega)
      have zp : (p : Int) < ((R * C : Nat) : Int) := by omega
      have IB := fun (K : Int32 → aH → Prop) X => isIn9_br (d := d) (k := p) (r := r) (c := c) (K := K) (X := X) hk.1 C3 R4 i4 i5 (by omega)
      refine w270_6 ?_
      simp only [↓forall_eq, ↓inB_iff, gK_hU, gL_hU, gR_hU, gIh, gJh, pI_hU, pJ_hU, hU_hU, uI_app, uJ_app, and_true, true_and, and_false, false_and, and_self, true_implies, false_implies, not_true, not_false_iff, if_true, if_false, eq_self, Nat.reduceLeDiff, Nat.reduceEqDiff, reduceCtorEq, i32c, ti0, ti1, tiM, Int.natCast_nonneg, Int.reduceEq, Int.reduceLE, Int.reduceLT, Int.reduceNeg, tl_i, Int32.reduceToInt, Int64.reduceToInt, tiA, tlM6, Int.toNat_natCast, natc, nI_1, Int.zero_sub, implies_true, not_false_eq_true, hk, i6, mI, hpI, zp, ha.1, ha.2, kb, ↓IB, bI0, hv p (by omega)]
      refine ⟨fun z => ?_, fun z => ?_⟩
      · rw [if_neg (by rw [z]; decide)] at nx; exact nx
      · rw [if_pos (bnf z)] at nx; exact nx
  exact main (R * C) 0 (by omega)
theorem greatestOf_br {K : Int32 → aH → Prop} {a ar : Nat} {v : Nat → Int32} (hk : gK h a = 11 ∧ 8 ≤ a) (C3 : 1 ≤ C ∧ C ≤ 3) (R4 : R ≤ 4) (i4 : gI h a 4 = nI R) (i5 : gI h a 5 = nI C) (i6 : gI h a 6 = nI (R * C)) (q9 : gR h a 9 = ar) (ha : gK h ar = 100 ∧ gL h ar = R * C) (hv : ∀ k, k < R * C → gI h ar k = v k) : CI (d + 1) 271 [vR a, vI r, vI c] h K X ↔ K (mxC v (inC R C r.toInt c.toInt) (R * C)) h := by
  have m12 : R * C ≤ 4 * 3 := Nat.mul_le_mul R4 C3.2
  have mI : (nI (R * C)).toInt = ((R * C : Nat) : Int) := ti_n (by omega)
  refine CI_iff fun K X w => m271 ?_
  have main : ∀ (n p : Nat), p + n = R * C → Wp (d + 1) 271 (5, [some (vR a), some (vI r), some (vI c), some (vI (mxC v (inC R C r.toInt c.toInt) p)), some (vI (nI p))], [], h) (RI K X) := by
    intro n
    induction n with
    | zero =>
      intro p hp
      have hpc : p = R * C := by omega
      subst hpc
      refine w271_5 ?_
      simp only [↓forall_eq, ↓inB_iff, gK_hU, gL_hU, gR_hU, gIh, gJh, pI_hU, pJ_hU, hU_hU, uI_app, uJ_app, and_true, true_and, and_false, false_and, and_self, true_implies, false_implies, not_true, not_false_iff, if_true, if_false, eq_self, Nat.reduceLeDiff, Nat.reduceEqDiff, reduceCtorEq, i32c, ti0, ti1, tiM, Int.natCast_nonneg, Int.reduceEq, Int.reduceLE, Int.reduceLT, Int.reduceNeg, tl_i, Int32.reduceToInt, Int64.reduceToInt, tiA, tlM6, Int.toNat_natCast, natc, nI_1, Int.zero_sub, implies_true, not_false_eq_true, hk, i6, Int.lt_irrefl]
      exact w
    | succ n ih =>
      intro p hp
      have nx := ih (p + 1) (by omega)
      rw [mxC] at nx
      have hpI : (nI p).toInt = p := ti_n (by omega)
      have zp : (p : Int) < ((R * C : Nat) : Int) := by omega
      have IB := fun (K : Int32 → aH → Prop) X => isIn9_br (d := d) (k := p) (r := r) (c := c) (K := K) (X := X) hk.1 C3 R4 i4 i5 (by omega)
      refine w271_5 ?_
      simp only [↓forall_eq, ↓inB_iff, gK_hU, gL_hU, gR_hU, gIh, gJh, pI_hU, pJ_hU, hU_hU, uI_app, uJ_app, and_true, true_and, and_false, false_and, and_self, true_implies, false_implies, not_true, not_false_iff, if_true, if_false, eq_self, Nat.reduceLeDiff, Nat.reduceEqDiff, reduceCtorEq, i32c, ti0, ti1, tiM, Int.natCast_nonneg, Int.reduceEq, Int.reduceLE, Int.reduceLT, Int.reduceNeg, tl_i, Int32.reduceToInt, Int64.reduceToInt, tiA, tlM6, Int.toNat_natCast, natc, nI_1, Int.zero_sub, implies_true, not_false_eq_true, hk, i6, mI, hpI, zp, q9, ha.1, ha.2, ↓IB, bI0, hv p (by omega), ↓max_br]
      refine ⟨fun z => ?_, fun z => ?_⟩
      · rw [if_neg (by rw [z]; decide)] at nx; exact nx
      · rw [if_pos (bnf z)] at nx; exact nx
  exact main (R * C) 0 (by omega)
/-- which number of a cell -/
def nwV (M : Nat → Nat → Int32) (t : Nat) (w : Int) (k : Nat) : Int32 := if w = 0 then M 92 (12 * t + k) else if w = 1 then M 93 (12 * t + k) else if w = 2 then M 94 (12 * t + k) else if (M 96 t).toInt = 0 then M 92 (12 * t + k) else M 95 (12 * t + k)
theorem now_br {K : Int32 → aH → Prop} {k : Nat} (mf : MF g) (ht : t < 12) (hk : k < 12) (hw : 0 ≤ w.toInt ∧ w.toInt ≤ 3) (m : ∀ a, 90 ≤ a → a ≤ 98 → I a = M a) : CI d 275 [vR 44, vI (nI t), vI (nI k), vI w] (hU g I J) K X ↔ K (nwV M t w.toInt k) (hU g I J) := by
  have x1 : (12 : Int32) * nI t + nI k = nI (12 * t + k) := by rw [show (12 : Int32) = nI 12 from rfl, nI_mul, nI_add]
  have x2 : (nI (12 * t + k)).toInt = ((12 * t + k : Nat) : Int) := ti_n (by omega)
  have x3 : ((12 * t + k : Nat) : Int) < 144 := by omega
  have htI : (nI t).toInt = t := ti_n (by omega)
  have zt : (t : Int) < 12 := by omega
  refine CI_iff fun K X w9 => m275 ?_
  simp only [↓forall_eq, ↓inB_iff, gK_hU, gL_hU, gR_hU, gIh, gJh, pI_hU, pJ_hU, hU_hU, uI_app, uJ_app, and_true, true_and, and_false, false_and, and_self, true_implies, false_implies, not_true, not_false_iff, if_true, if_false, eq_self, Nat.reduceLeDiff, Nat.reduceEqDiff, reduceCtorEq, i32c, ti0, ti1, tiM, Int.natCast_nonneg, Int.reduceEq, Int.reduceLE, Int.reduceLT, Int.reduceNeg, tl_i, Int32.reduceToInt, Int64.reduceToInt, tiA, tlM6, Int.toNat_natCast, natc, nI_1, Int.zero_sub, implies_true, not_false_eq_true, mf.1, mr_72 mf, mk_92 mf, ml_92 mf, mr_73 mf, mk_93 mf, ml_93 mf, mr_74 mf, mk_94 mf, ml_94 mf, mr_75 mf, mk_95 mf, ml_95 mf, mr_76 mf, mk_96 mf, ml_96 mf, x1, x2, x3, htI, zt, m 92 (by decide) (by decide), m 93 (by decide) (by decide), m 94 (by decide) (by decide), m 95 (by decide) (by decide), m 96 (by decide) (by decide)]
  unfold nwV at w9
  refine ⟨fun c0 => ?_, fun c0 => ⟨fun c3 => ⟨fun c6 => ?_, fun c6 => ⟨fun c1 => ?_, fun c1 => ⟨fun c2 => ?_, fun c2 => ?_⟩⟩⟩, fun c3 => ⟨fun c1 => ?_, fun c1 => ⟨fun c2 => ?_, fun c2 => ?_⟩⟩⟩⟩
  · rw [if_pos c0] at w9; exact w9
  · rw [if_neg c0, if_neg (by omega), if_neg (by omega), if_pos c6] at w9; exact w9
  · omega
  · omega
  · rw [if_neg c0, if_neg c1, if_neg c2, if_neg c6] at w9; exact w9
  · rw [if_neg c0, if_pos c1] at w9; exact w9
  · rw [if_neg c0, if_neg c1, if_pos c2] at w9; exact w9
  · omega
def clV (M : Nat → Nat → Int32) (t R C : Nat) (r c w : Int) : Nat → Int32 := fun n => if w = 2 then mxC (nwV M t w) (inC R C r c) n else smC (nwV M t w) (inC R C r c) n
theorem pr_cell (b : base h o) (Tb : TabA h A o (gI h) nt) : Pr 272 276 [vI x, vI r, vI c, vI w] [3, 1] h (fun h2 => left h h2 A A o o (fun _ => False) [] [] 1 6) := by
  have mf := b.2.1
  have h69 := Tb.2.1.1
  have n12 := Tb.2.1.2
  have hn : (nI nt).toInt = nt := ti_n (by omega)
  by_cases q : 0 ≤ x.toInt ∧ x.toInt < nt
  · generalize htx : x.toInt.toNat = t at *
    have hx : x = nI t := by rw [← htx]; exact ti_nat q.1
    have ht : t < nt := by omega
    obtain ⟨T, R, C, ⟨⟨R1, R4⟩, C1, C3⟩, ⟨m90, m91⟩, ⟨i4, i5, i6⟩, gl, tv, -⟩ := Tb.2.2 t ht
    have m12 : R * C ≤ 4 * 3 := Nat.mul_le_mul R4 C3
    have RN : (nI R).toInt = R := ti_n (by omega)
    have CI' : (nI C).toInt = C := ti_n (by omega)
    have R1I : (nI R + 1).toInt = (R : Int) + 1 := by rw [nI_1, ti_n (by omega)]; omega
    have C1I : (nI C + 1).toInt = (C : Int) + 1 := by rw [nI_1, ti_n (by omega)]; omega
    have mI : (nI (R * C)).toInt = ((R * C : Nat) : Int) := ti_n (by omega)
    have hxI : (nI t).toInt = t := ti_n (by omega)
    have zt : (t : Int) < 12 := by omega
    have q' : 0 ≤ (t : Int) ∧ (t : Int) < nt := by omega
    subst hx
    have need : ∀ (K : aH → Prop) (X : Nat → aH → Prop), ((0 ≤ r.toInt ∧ r.toInt ≤ R) ∧ (0 ≤ c.toInt ∧ c.toInt ≤ C) → K h) → (¬ ((0 ≤ r.toInt ∧ r.toInt ≤ R) ∧ (0 ≤ c.toInt ∧ c.toInt ≤ C)) → X 3 (gNew h 200 6)) → CV 499 268 [vR 8, vR (A (bT t)), vI r, vI c] h K X := fun K X k1 k2 => by
      refine m268 ⟨kT_0 T, ?_⟩
      rw [i4]
      refine c_needIndex (fun z1 z2 => ⟨kT_0 T, by rw [i5]; exact c_needIndex (fun z3 z4 => k1 ⟨⟨z1, by rw [R1I] at z2; omega⟩, z3, by rw [C1I] at z4; omega⟩) (fun z => k2 (fun y => z ⟨y.2.1, by rw [C1I]; omega⟩))⟩) (fun z => k2 (fun y => z ⟨y.1.1, by rw [R1I]; omega⟩))
    by_cases qi : (0 ≤ r.toInt ∧ r.toInt ≤ R) ∧ (0 ≤ c.toInt ∧ c.toInt ≤ C)
    · by_cases qw : 0 ≤ w.toInt ∧ w.toInt ≤ 3
      · refine Pr_ok (clV (gI h) t R C r.toInt c.toInt w.toInt (R * C)) (fun h1 => h1 = h) (fun K X kk => m272 ⟨by decide, ck_8 b.1, ?_⟩) (fun h1 J1 m j K X kk => m276 ?_)
        · rw [tableAt_br b Tb.1, bz_t q, htx]
          refine ⟨ck_8 b.1, need _ _ (fun _ => ?_) (fun z => absurd qi z)⟩
          have n0 : ¬ w.toInt < 0 := by omega
          have n3 : ¬ 3 < w.toInt := by omega
          have fin := kk h rfl
          have L1' : gL h (A (bT t + 1)) = R * C := gl 0 (by omega)
          have L2' : gL h (A (bT t + 2)) = R * C := gl 1 (by omega)
          have L3' : gL h (A (bT t + 3)) = R * C := gl 2 (by omega)
          have L4' : gL h (A (bT t + 4)) = R * C := gl 3 (by omega)
          have S1 := fun (K : Int32 → aH → Prop) X (e : w.toInt = 0) => sumOf_br (d := 498) (r := r) (c := c) (K := K) (X := X) (v := nwV (gI h) t w.toInt) ⟨kT_0 T, eT_0 T⟩ ⟨C1, C3⟩ R4 i4 i5 i6 ⟨kT_1 T, L1'⟩ (fun k hk => by rw [(tv k hk).2.1]; unfold nwV; rw [if_pos e])
          have S2 := fun (K : Int32 → aH → Prop) X (e : w.toInt = 1) => sumOf_br (d := 498) (r := r) (c := c) (K := K) (X := X) (v := nwV (gI h) t w.toInt) ⟨kT_0 T, eT_0 T⟩ ⟨C1, C3⟩ R4 i4 i5 i6 ⟨kT_2 T, L2'⟩ (fun k hk => by rw [(tv k hk).2.2.1]; unfold nwV; rw [if_neg (by omega), if_pos e])
          have S3 := fun (K : Int32 → aH → Prop) X (e : w.toInt = 2) => greatestOf_br (d := 498) (r := r) (c := c) (K := K) (X := X) (v := nwV (gI h) t w.toInt) ⟨kT_0 T, eT_0 T⟩ ⟨C1, C3⟩ R4 i4 i5 i6 (rT_0_9 T) ⟨kT_3 T, L3'⟩ (fun k hk => by rw [(tv k hk).2.2.2.1]; unfold nwV; rw [if_neg (by omega), if_neg (by omega), if_pos e])
          have S4 := fun (K : Int32 → aH → Prop) X (e : ¬ w.toInt = 0 ∧ ¬ w.toInt = 1 ∧ ¬ w.toInt = 2) => sumOf_br (d := 498) (r := r) (c := c) (K := K) (X := X) (v := nwV (gI h) t w.toInt) ⟨kT_0 T, eT_0 T⟩ ⟨C1, C3⟩ R4 i4 i5 i6 ⟨kT_4 T, L4'⟩ (fun k hk => by rw [(tv k hk).2.2.2.2]; unfold nwV; rw [if_neg e.1, if_neg e.2.1, if_neg e.2.2])
          unfold clV at fin
          refine ⟨fun z => absurd z n0, fun _ => ⟨fun z => absurd z n3, fun _ => ⟨fun e => ⟨kT_0 T, eT_0 T, ?_⟩, fun e => ⟨kT_0 T, eT_0 T, ?_⟩, fun e => ⟨eT_0 T, kT_0 T, ?_⟩, fun e => ⟨kT_0 T, eT_0 T, ?_⟩⟩⟩⟩
          · rw [rT_0_7 T, S1 _ _ e]; rw [if_neg (by omega)] at fin; exact fin
          · rw [rT_0_8 T, S2 _ _ e]; rw [if_neg (by omega)] at fin; exact fin
          · rw [S3 _ _ e]; rw [if_pos e] at fin; exact fin
          · rw [rT_0_10 T, S4 _ _ e]; rw [if_neg e.2.2] at fin; exact fin
        · subst m
          have fin := kk (hU h1 (uI (gI h1) 44 0 0) J1) (by rw [gIh, uI_same]) rfl (left_mk b b fr_refl (fun w => w) (by simp) (fun a a1 a2 => by funext j9; simp only [uI_app]; grind) (fun j9 a1 a2 => by simp only [uI_app]; grind) (fun a a1 _ => j a a1) (by omega) (by omega))
          have mul : nI R * nI C = nI (R * C) := nI_mul R C
          have cne : ¬ nI C = 0 := fun e => by rw [e] at CI'; have : (0 : Int32).toInt = 0 := rfl; omega
          have loop : ∀ (n p : Nat), p + n = R * C → Wp 500 276 (76, [some (vR 44), some (vI (nI t)), some (vI r), some (vI c), some (vI w), some (vI (clV (gI h1) t R C r.toInt c.toInt w.toInt p)), some (vI (nI p)), none], [], hU h1 (uI (gI h1) 44 0 0) J1) (RI K X) := by
            intro n
            induction n with
            | zero =>
              intro p hp
              have hpc : p = R * C := by omega
              subst hpc
              refine w276_76 ?_
              simp only [↓forall_eq, ↓inB_iff, gK_hU, gL_hU, gR_hU, gIh, gJh, pI_hU, pJ_hU, hU_hU, uI_app, uJ_app, and_true, true_and, and_false, false_and, and_self, true_implies, false_implies, not_true, not_false_iff, if_true, if_false, eq_self, Nat.reduceLeDiff, Nat.reduceEqDiff, reduceCtorEq, i32c, ti0, ti1, tiM, Int.natCast_nonneg, Int.reduceEq, Int.reduceLE, Int.reduceLT, Int.reduceNeg, tl_i, Int32.reduceToInt, Int64.reduceToInt, tiA, tlM6, Int.toNat_natCast, natc, nI_1, Int.zero_sub, implies_true, not_false_eq_true, mf.1, mr_70 mf, mk_90 mf, ml_90 mf, mr_71 mf, mk_91 mf, ml_91 mf, hxI, zt, m90, m91, mul, Int.lt_irrefl]
              exact fin
            | succ n ih =>
              intro p hp
              have nx := ih (p + 1) (by omega)
              unfold clV at nx
              rw [mxC, smC] at nx
              have hpI : (nI p).toInt = p := ti_n (by omega)
              have zp : (p : Int) < ((R * C : Nat) : Int) := by omega
              have dv : nI p / nI C = nI (p / C) := nI_div (by omega) (by omega)
              have md : aIrem (nI p) (nI C) = nI (p % C) := nI_rem (by omega) (by omega)
              have d1 : p / C ≤ p := Nat.div_le_self _ _
              have d2 : p % C ≤ p := Nat.mod_le _ _
              have dI : (nI (p / C)).toInt = ((p / C : Nat) : Int) := ti_n (by omega)
              have mI2 : (nI (p % C)).toInt = ((p % C : Nat) : Int) := ti_n (by omega)
              have NW := fun (K : Int32 → aH → Prop) X => now_br (d := 499) (t := t) (k := p) (w := w) (M := gI h1) (I := uI (gI h1) 44 0 0) (J := J1) (K := K) (X := X) mf (by omega) (by omega) qw (fun a h1 h2 => by rw [uI_ne _ _ _ (by omega)])
              have no : inC R C r.toInt c.toInt p = false → Wp 500 276 (76, [some (vR 44), some (vI (nI t)), some (vI r), some (vI c), some (vI w), some (vI (clV (gI h1) t R C r.toInt c.toInt w.toInt p)), some (vI (nI (p + 1))), none], [], hU h1 (uI (gI h1) 44 0 0) J1) (RI K X) := fun z => by
                simp only [z, Bool.false_eq_true, if_false, Int32.add_zero] at nx
                unfold clV; exact nx
              have yes : inC R C r.toInt c.toInt p = true → Wp 500 276 (140, [some (vR 44), some (vI (nI t)), some (vI r), some (vI c), some (vI w), some (vI (clV (gI h1) t R C r.toInt c.toInt w.toInt p)), some (vI (nI p)), none], [], hU h1 (uI (gI h1) 44 0 0) J1) (RI K X) := fun z => by
                simp only [z, if_true] at nx
                refine w276_140 ⟨by decide, mf.1, ?_⟩
                rw [NW]
                unfold clV
                refine ⟨fun e => ?_, fun e => ?_⟩
                · rw [if_pos e] at nx ⊢
                  refine ⟨fun e2 v0 e0 => ?_, fun e2 v0 e0 => ?_⟩
                  · rw [if_pos e2] at nx; rw [e0, nI_1]; exact nx
                  · rw [if_neg e2] at nx; rw [e0, nI_1]; exact nx
                · rw [if_neg e] at nx ⊢
                  intro v0 e0 v1 e1
                  rw [e1, e0, nI_1]; exact nx
              refine w276_76 ?_
              simp only [↓forall_eq, ↓inB_iff, gK_hU, gL_hU, gR_hU, gIh, gJh, pI_hU, pJ_hU, hU_hU, uI_app, uJ_app, and_true, true_and, and_false, false_and, and_self, true_implies, false_implies, not_true, not_false_iff, if_true, if_false, eq_self, Nat.reduceLeDiff, Nat.reduceEqDiff, reduceCtorEq, i32c, ti0, ti1, tiM, Int.natCast_nonneg, Int.reduceEq, Int.reduceLE, Int.reduceLT, Int.reduceNeg, tl_i, Int32.reduceToInt, Int64.reduceToInt, tiA, tlM6, Int.toNat_natCast, natc, nI_1, Int.zero_sub, implies_true, not_false_eq_true, mf.1, mr_70 mf, mk_90 mf, ml_90 mf, mr_71 mf, mk_91 mf, ml_91 mf, hxI, zt, m90, m91, mul, mI, hpI, zp, RN, CI', cne, dv, md, dI, mI2]
              unfold inC at no yes
              refine ⟨fun e1 => ⟨fun e2 => yes ?_, fun e2 => ⟨fun e3 => yes ?_, fun e3 => no ?_⟩⟩, fun e1 => ⟨fun e4 => ⟨fun e2 => yes ?_, fun e2 => ⟨fun e3 => yes ?_, fun e3 => no ?_⟩⟩, fun e4 => no ?_⟩⟩
              · rw [decide_eq_true e1, decide_eq_true e2]; rfl
              · rw [decide_eq_true e1, decide_eq_true e3, Bool.or_true, Bool.true_or]; rfl
              · rw [decide_eq_true e1, decide_eq_false e2, decide_eq_false e3]; rfl
              · rw [decide_eq_true e4, decide_eq_true e2, Bool.or_true, Bool.true_or]; rfl
              · rw [decide_eq_true e4, decide_eq_true e3, Bool.or_true, Bool.or_true]; rfl
              · rw [decide_eq_false e2, decide_eq_false e3, Bool.or_false, Bool.and_false]
              · rw [decide_eq_false e1, decide_eq_false e4]; rfl
          have t3 : (3 : Int64).toInt = 3 := rfl
          simp only [↓forall_eq, ↓inB_iff, gK_hU, gL_hU, gR_hU, gIh, gJh, pI_hU, pJ_hU, hU_hU, uI_app, uJ_app, and_true, true_and, and_false, false_and, and_self, true_implies, false_implies, not_true, not_false_iff, if_true, if_false, eq_self, Nat.reduceLeDiff, Nat.reduceEqDiff, reduceCtorEq, i32c, ti0, ti1, tiM, Int.natCast_nonneg, Int.reduceEq, Int.reduceLE, Int.reduceLT, Int.reduceNeg, tl_i, Int32.reduceToInt, Int64.reduceToInt, tiA, tlM6, Int.toNat_natCast, natc, nI_1, Int.zero_sub, implies_true, not_false_eq_true, mf.1, mr_70 mf, mk_90 mf, ml_90 mf, mr_71 mf, mk_91 mf, ml_91 mf, ↓fail_br mf, ↓isTable_br mf, ↓isIn_br, h69, hn, hxI, q', zt, m90, m91, RN, CI', qi, qw]
          have := loop (R * C) 0 (by omega)
          have e0 : clV (gI h1) t R C r.toInt c.toInt w.toInt 0 = 0 := by unfold clV; split <;> rfl
          rw [e0] at this
          exact this
      · refine Pr_gc (A := A) (C := fun _ => False) 1 1 b (by decide) rfl (fun K X kk => m272 ⟨by decide, ck_8 b.1, ?_⟩) (fun g J K X mf e kk => m276 ?_) (fun h2 l => l)
        · rw [tableAt_br b Tb.1, bz_t q, htx]
          refine ⟨ck_8 b.1, need _ _ (fun _ => ?_) (fun z => absurd qi z)⟩
          exact ⟨fun _ => kk, fun z1 => ⟨fun _ => kk, fun z2 => absurd ⟨by omega, by omega⟩ qw⟩⟩
        · simp only [↓forall_eq, ↓inB_iff, gK_hU, gL_hU, gR_hU, gIh, gJh, pI_hU, pJ_hU, hU_hU, uI_app, uJ_app, and_true, true_and, and_false, false_and, and_self, true_implies, false_implies, not_true, not_false_iff, if_true, if_false, eq_self, Nat.reduceLeDiff, Nat.reduceEqDiff, reduceCtorEq, i32c, ti0, ti1, tiM, Int.natCast_nonneg, Int.reduceEq, Int.reduceLE, Int.reduceLT, Int.reduceNeg, tl_i, Int32.reduceToInt, Int64.reduceToInt, tiA, tlM6, Int.toNat_natCast, natc, nI_1, Int.zero_sub, implies_true, not_false_eq_true, mf.1, mr_70 mf, mk_90 mf, ml_90 mf, mr_71 mf, mk_91 mf, ml_91 mf, ↓fail_br mf, ↓isTable_br mf, ↓isIn_br, e 44 (by decide) (by decide), e 90 (by decide) (by decide), e 91 (by decide) (by decide), h69, hn, hxI, q', zt, m90, m91, RN, CI', qi, qw]
          exact kk
    · refine Pr_gc (A := A) (C := fun _ => False) 0 3 b (by decide) rfl (fun K X kk => m272 ⟨by decide, ck_8 b.1, ?_⟩) (fun g J K X mf e kk => m276 ?_) (fun h2 l => l)
      · rw [tableAt_br b Tb.1, bz_t q, htx]
        exact ⟨ck_8 b.1, need _ _ (fun z => absurd z qi) (fun _ => kk)⟩
      · simp only [↓forall_eq, ↓inB_iff, gK_hU, gL_hU, gR_hU, gIh, gJh, pI_hU, pJ_hU, hU_hU, uI_app, uJ_app, and_true, true_and, and_false, false_and, and_self, true_implies, false_implies, not_true, not_false_iff, if_true, if_false, eq_self, Nat.reduceLeDiff, Nat.reduceEqDiff, reduceCtorEq, i32c, ti0, ti1, tiM, Int.natCast_nonneg, Int.reduceEq, Int.reduceLE, Int.reduceLT, Int.reduceNeg, tl_i, Int32.reduceToInt, Int64.reduceToInt, tiA, tlM6, Int.toNat_natCast, natc, nI_1, Int.zero_sub, implies_true, not_false_eq_true, mf.1, mr_70 mf, mk_90 mf, ml_90 mf, mr_71 mf, mk_91 mf, ml_91 mf, ↓fail_br mf, ↓isTable_br mf, ↓isIn_br, e 44 (by decide) (by decide), e 90 (by decide) (by decide), e 91 (by decide) (by decide), h69, hn, hxI, q', zt, m90, m91, RN, CI']
        by_cases z : 0 ≤ r.toInt ∧ r.toInt ≤ R
        · have z2 : ¬ (0 ≤ c.toInt ∧ c.toInt ≤ C) := fun y => qi ⟨z, y⟩
          simp only [z, z2, true_implies, not_true, false_implies, and_true, true_and, implies_true, and_false, false_and, not_false_iff, and_self]
          first | exact kk | (refine ⟨fun h9 => absurd h9 (by decide), fun _ => kk⟩) | (simp only [↓forall_eq, ↓inB_iff, gK_hU, gL_hU, gR_hU, gIh, gJh, pI_hU, pJ_hU, hU_hU, uI_app, uJ_app, and_true, true_and, and_false, false_and, and_self, true_implies, false_implies, not_true, not_false_iff, if_true, if_false, eq_self, Nat.reduceLeDiff, Nat.reduceEqDiff, reduceCtorEq, i32c, ti0, ti1, tiM, Int.natCast_nonneg, Int.reduceEq, Int.reduceLE, Int.reduceLT, Int.reduceNeg, tl_i, Int32.reduceToInt, Int64.reduceToInt, tiA, tlM6, Int.toNat_natCast, natc, nI_1, Int.zero_sub, implies_true, not_false_eq_true]; exact kk)
        · simp only [z, true_implies, not_true, false_implies, and_true, true_and, implies_true, and_false, false_and, not_false_iff]
          first | exact kk | (simp only [↓forall_eq, ↓inB_iff, gK_hU, gL_hU, gR_hU, gIh, gJh, pI_hU, pJ_hU, hU_hU, uI_app, uJ_app, and_true, true_and, and_false, false_and, and_self, true_implies, false_implies, not_true, not_false_iff, if_true, if_false, eq_self, Nat.reduceLeDiff, Nat.reduceEqDiff, reduceCtorEq, i32c, ti0, ti1, tiM, Int.natCast_nonneg, Int.reduceEq, Int.reduceLE, Int.reduceLT, Int.reduceNeg, tl_i, Int32.reduceToInt, Int64.reduceToInt, tiA, tlM6, Int.toNat_natCast, natc, nI_1, Int.zero_sub, implies_true, not_false_eq_true]; exact kk)
  · refine Pr_gc (A := A) (C := fun _ => False) 0 3 b (by decide) rfl (fun K X kk => m272 ⟨by decide, ck_8 b.1, ?_⟩) (fun g J K X mf e kk => m276 ?_) (fun h2 l => l)
    · rw [tableAt_br b Tb.1, bz_f q]; exact kk
    · simp only [↓forall_eq, ↓inB_iff, gK_hU, gL_hU, gR_hU, gIh, gJh, pI_hU, pJ_hU, hU_hU, uI_app, uJ_app, and_true, true_and, and_false, false_and, and_self, true_implies, false_implies, not_true, not_false_iff, if_true, if_false, eq_self, Nat.reduceLeDiff, Nat.reduceEqDiff, reduceCtorEq, i32c, ti0, ti1, tiM, Int.natCast_nonneg, Int.reduceEq, Int.reduceLE, Int.reduceLT, Int.reduceNeg, tl_i, Int32.reduceToInt, Int64.reduceToInt, tiA, tlM6, Int.toNat_natCast, natc, nI_1, Int.zero_sub, implies_true, not_false_eq_true, mf.1, mr_70 mf, mk_90 mf, ml_90 mf, mr_71 mf, mk_91 mf, ml_91 mf, ↓fail_br mf, ↓isTable_br mf, e 44 (by decide) (by decide), h69, hn, q]
      exact kk
end CEL
