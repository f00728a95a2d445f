/-! DONORS: who may give, how far, and who gives -/
section DON
variable {d f s r q n p : Nat} {it dn t t1 : Nat → Int32} {h g : aH} {A o : Nat → Nat} {X : Nat → aH → Prop} {M : Nat → Nat → Int32} {I I1 : Nat → Nat → Int32} {J : Nat → Nat → Int64} {S T U : Int32}
def mixI (S : Int32) (dn it : Nat → Int32) (k : Nat) : Int32 := if gB S k = true then dn k else it k
def allP (S : Int32) (dn : Nat → Int32) : Nat → Bool
  | 0 => true
  | n + 1 => allP S dn n && (!gB S n || !decide ((dn n).toInt = -2000000))
theorem allP_f : ∀ n p, p ≤ n → allP S dn p = false → allP S dn n = false := by
  intro n
  induction n with
  | zero => intro p hp h; rw [show p = 0 by omega] at h; exact h
  | succ n ih =>
    intro p hp h
    by_cases c : p = n + 1
    · rw [← c]; exact h
    · rw [allP, ih p (by omega) h, Bool.false_and]
def giveB (M : Nat → Nat → Int32) (f : Nat) (S : Int32) (dn it : Nat → Int32) : Bool := allP S dn (cnM M f) && (decide (cBr M f dn (nrM M f) = 0) && decide (cBr M f (mixI S dn it) (nrM M f) = 0))
theorem c_give {K : Int32 → aH → Prop} (e : edC h A o M f r it) (e2 : edC h A o M f q dn) (bi : bndI (cnM M f) it) (bd : bndI (cnM M f) dn) (s : eFr h I) (kk : ∀ I1, eFr h I1 → I1 32 = I 32 → K (bI (giveB M f S dn it)) (hU h I1 J)) : CI (d + 5) 214 [vR 32, vR (A (bR q)), vR (A (bR r)), vI S] (hU h I J) K X := by
  have main : ∀ (n p : Nat) (I2 : Nat → Nat → Int32), p + n = cnM M f → eFr h I2 → I2 32 = I 32 → (∀ i, i < p → I2 33 i = mixI S dn it i) → allP S dn p = true → Wp (d + 5) 214 (3, [some (vR 32), some (vR (A (bR q))), some (vR (A (bR r))), some (vI S), some (vI (nI p))], [], hU h I2 J) (RI K X) := by
    intro n
    induction n with
    | zero =>
      intro p I2 hp s2 q2 v2 ap
      obtain ⟨⟨e1, -⟩, e3, e4, -, ⟨e7, e8⟩, R, e12, e13, e14⟩ := edC_hU (J := J) e s2
      obtain ⟨-, -, x4, -, -, -, -, x13, x14⟩ := edC_hU (J := J) e2 s2
      have hpc : p = cnM M f := by omega
      subst hpc
      have e13' : gR h (A (bR r)) 0 = A (bF f) := e13
      have x13' : gR h (A (bR q)) 0 = A (bF f) := x13
      have e7' : I2 (A (bF f)) 11 = nI (cnM M f) := e7
      have vd : itA (hU h I2 J) (A (bR q + 1)) (cnM M f) dn := ⟨kR_1 x4, lR_1 x4, fun i hi => x14 i (by omega)⟩
      have vm : itA (hU h I2 J) 33 (cnM M f) (mixI S dn it) := ⟨ck_33 e1, cl_33 e1, v2⟩
      have bm : bndI (cnM M f) (mixI S dn it) := fun i hi => by unfold mixI; split; exact bd i hi; exact bi i hi
      have CB1 := fun d K X => @countB_br d f (A (bR q + 1)) dn (hU h I2 J) A o X M K e3 R vd bd e8
      have CB2 := fun d K X => @countB_br d f 33 (mixI S dn it) (hU h I2 J) A o X M K e3 R vm bm e8
      have l1 := cBr_le (M := M) (f := f) (it := dn) (nrM M f)
      have l2 := cBr_le (M := M) (f := f) (it := mixI S dn it) (nrM M f)
      have n16 := nr16 R
      have i1 : (nI (cBr M f dn (nrM M f))).toInt = (cBr M f dn (nrM M f) : Nat) := ti_n (by omega)
      have i2 : (nI (cBr M f (mixI S dn it) (nrM M f))).toInt = (cBr M f (mixI S dn it) (nrM M f) : Nat) := ti_n (by omega)
      have k1 := kk I2 s2 q2
      unfold giveB at k1
      rw [ap, Bool.true_and] at k1
      refine w214_3 ?_
      simp only [↓forall_eq, ↓inB_iff, gK_hU, gL_hU, gR_hU, gIh, gJh, pI_hU, pJ_hU, hU_hU, uI_app, uJ_app, and_true, true_and, and_false, false_and, and_self, true_implies, false_implies, not_true, not_false_iff, if_true, if_false, eq_self, Nat.reduceLeDiff, Nat.reduceEqDiff, reduceCtorEq, i32c, ti0, ti1, tiM, Int.natCast_nonneg, Int.reduceEq, Int.reduceLE, Int.reduceLT, Int.reduceNeg, tl_i, Int32.reduceToInt, Int64.reduceToInt, tiA, tlM6, Int.toNat_natCast, natc, nI_1, Int.zero_sub, implies_true, not_false_eq_true, kR_0 e4, kR_0 x4, eR_0 x4, kF_0 e3, eF_0 e3, e13', e7', Int.lt_irrefl]
      refine m213 ?_
      simp only [↓forall_eq, ↓inB_iff, gK_hU, gL_hU, gR_hU, gIh, gJh, pI_hU, pJ_hU, hU_hU, uI_app, uJ_app, and_true, true_and, and_false, false_and, and_self, true_implies, false_implies, not_true, not_false_iff, if_true, if_false, eq_self, Nat.reduceLeDiff, Nat.reduceEqDiff, reduceCtorEq, i32c, ti0, ti1, tiM, Int.natCast_nonneg, Int.reduceEq, Int.reduceLE, Int.reduceLT, Int.reduceNeg, tl_i, Int32.reduceToInt, Int64.reduceToInt, tiA, tlM6, Int.toNat_natCast, natc, nI_1, Int.zero_sub, implies_true, not_false_eq_true, kR_0 e4, kR_0 x4, kF_0 e3, eF_0 e3, e13', x13', rR_0_3 x4, ↓CB1, i1, ck_32 e1, cr_32_0 e1, ↓CB2, i2]
      have t01 : (0 : Int32).toInt = 0 := rfl
      have t11 : ¬ (1 : Int32).toInt = 0 := by decide
      refine ⟨fun c => ?_, fun c => ?_⟩
      · rw [decide_eq_true (show cBr M f dn (nrM M f) = 0 by omega), Bool.true_and] at k1
        first
          | refine ⟨fun c2 => absurd c2 t11, fun _ => ⟨fun c3 => ?_, fun c3 => ?_⟩⟩
            · rw [decide_eq_true (show cBr M f (mixI S dn it) (nrM M f) = 0 by omega)] at k1; exact k1
            · rw [decide_eq_false (show ¬ cBr M f (mixI S dn it) (nrM M f) = 0 by omega)] at k1; exact k1
          | refine ⟨fun c3 => ?_, fun c3 => ?_⟩
            · rw [decide_eq_true (show cBr M f (mixI S dn it) (nrM M f) = 0 by omega)] at k1; exact k1
            · rw [decide_eq_false (show ¬ cBr M f (mixI S dn it) (nrM M f) = 0 by omega)] at k1; exact k1
      · rw [decide_eq_false (show ¬ cBr M f dn (nrM M f) = 0 by omega), Bool.false_and] at k1
        first
          | exact k1
          | exact ⟨fun _ => k1, fun c2 => absurd t01 c2⟩
    | succ n ih =>
      intro p I2 hp s2 q2 v2 ap
      obtain ⟨⟨e1, -⟩, e3, e4, -, ⟨e7, e8⟩, R, e12, e13, e14⟩ := edC_hU (J := J) e s2
      obtain ⟨-, -, x4, ⟨-, x60⟩, -, -, -, x13, x14⟩ := edC_hU (J := J) e2 s2
      have o2 := e2.1.2
      have hpI : (nI p).toInt = p := ti_n (by omega)
      have hcI : (nI (cnM M f)).toInt = (cnM M f : Nat) := ti_n (by omega)
      have hlt : (p : Int) < (cnM M f : Nat) := by omega
      have z20 : (p : Int) < 20 := by omega
      have e13' : gR h (A (bR r)) 0 = A (bF f) := e13
      have e7' : I2 (A (bF f)) 11 = nI (cnM M f) := e7
      have e14' : I2 (A (bR r + 1)) p = it p := e14 p (by omega)
      have x14' : I2 (A (bR q + 1)) p = dn p := x14 p (by omega)
      have n33 : A (bR q + 1) ≠ 33 := (eR_out o2 x4 x60 (by omega)).2
      have nx : ∀ x, x = mixI S dn it p → allP S dn (p + 1) = true → Wp (d + 5) 214 (3, [some (vR 32), some (vR (A (bR q))), some (vR (A (bR r))), some (vI S), some (vI (nI (p + 1)))], [], hU h (uI I2 33 p x) J) (RI K X) := fun x hx ha => by
        refine ih (p + 1) _ (by omega) (eFr_u s2) (by rw [uI_ne _ _ _ (by decide)]; exact q2) (fun i hi => ?_) ha
        rw [uI_app]
        by_cases c : i = p
        · rw [if_pos ⟨rfl, c⟩, hx, c]
        · rw [if_neg (fun q => c q.2)]; exact v2 i (by omega)
      refine w214_3 ?_
      simp only [↓forall_eq, ↓inB_iff, gK_hU, gL_hU, gR_hU, gIh, gJh, pI_hU, pJ_hU, hU_hU, uI_app, uJ_app, and_true, true_and, and_false, false_and, and_self, true_implies, false_implies, not_true, not_false_iff, if_true, if_false, eq_self, Nat.reduceLeDiff, Nat.reduceEqDiff, reduceCtorEq, i32c, ti0, ti1, tiM, Int.natCast_nonneg, Int.reduceEq, Int.reduceLE, Int.reduceLT, Int.reduceNeg, tl_i, Int32.reduceToInt, Int64.reduceToInt, tiA, tlM6, Int.toNat_natCast, natc, nI_1, Int.zero_sub, implies_true, not_false_eq_true, kR_0 e4, kR_0 x4, kF_0 e3, e13', e7', hpI, hcI, hlt, ck_32 e1, cr_32_0 e1, ↓hasBit_br (show p < 32 by omega), bI0, rR_0_3 e4, rR_0_3 x4, kR_1 e4, lR_1 e4, kR_1 x4, lR_1 x4, z20, e14', x14']
      refine ⟨fun c => ?_, fun c => ?_⟩
      · refine w214_47 ?_
        simp only [↓forall_eq, ↓inB_iff, gK_hU, gL_hU, gR_hU, gIh, gJh, pI_hU, pJ_hU, hU_hU, uI_app, uJ_app, and_true, true_and, and_false, false_and, and_self, true_implies, false_implies, not_true, not_false_iff, if_true, if_false, eq_self, Nat.reduceLeDiff, Nat.reduceEqDiff, reduceCtorEq, i32c, ti0, ti1, tiM, Int.natCast_nonneg, Int.reduceEq, Int.reduceLE, Int.reduceLT, Int.reduceNeg, tl_i, Int32.reduceToInt, Int64.reduceToInt, tiA, tlM6, Int.toNat_natCast, natc, nI_1, Int.zero_sub, implies_true, not_false_eq_true, ck_33 e1, cl_33 e1, hpI, z20, ↓hasBit_br (show p < 32 by omega), bI0, c]
        refine nx _ ?_ ?_
        · unfold mixI; rw [if_neg (by rw [c]; decide)]
        · rw [allP, ap, c]; rfl
      · have hS : gB S p = true := bnf c
        refine w214_47 ?_
        have y9 : uI I2 33 p (dn p) (A (bR q + 1)) p = dn p := by rw [uI_ne _ _ _ n33]; exact x14'
        simp only [↓forall_eq, ↓inB_iff, gK_hU, gL_hU, gR_hU, gIh, gJh, pI_hU, pJ_hU, hU_hU, uI_app, uJ_app, and_true, true_and, and_false, false_and, and_self, true_implies, false_implies, not_true, not_false_iff, if_true, if_false, eq_self, Nat.reduceLeDiff, Nat.reduceEqDiff, reduceCtorEq, i32c, ti0, ti1, tiM, Int.natCast_nonneg, Int.reduceEq, Int.reduceLE, Int.reduceLT, Int.reduceNeg, tl_i, Int32.reduceToInt, Int64.reduceToInt, tiA, tlM6, Int.toNat_natCast, natc, nI_1, Int.zero_sub, implies_true, not_false_eq_true, ck_33 e1, cl_33 e1, hpI, z20, ↓hasBit_br (show p < 32 by omega), bI0, c, kR_0 e2.2.2.1, rR_0_3 e2.2.2.1, kR_1 e2.2.2.1, lR_1 e2.2.2.1, y9, n33, if_false, x14']
        refine ⟨fun c2 => ?_, fun c2 => ?_⟩
        · have k1 := kk (uI I2 33 p (dn p)) (eFr_u s2) (by rw [uI_ne _ _ _ (by decide)]; exact q2)
          have : allP S dn (cnM M f) = false := allP_f _ (p + 1) (by omega) (by rw [allP, ap, hS, decide_eq_true c2]; rfl)
          unfold giveB at k1
          rw [this, Bool.false_and] at k1
          exact k1
        · refine nx _ ?_ ?_
          · unfold mixI; rw [if_pos hS]
          · rw [allP, ap, hS, decide_eq_false c2]; rfl
  exact m214 (main (cnM M f) 0 I (by omega) s rfl (fun i hi => by omega) rfl)
/-- does a statement count for the distance -/
def cnt1 (M : Nat → Nat → Int32) (f : Nat) (S : Int32) (dn it : Nat → Int32) (k : Nat) : Prop := (soM M f k).toInt = 0 ∧ gB S k = false ∧ ¬ (dn k).toInt = -2000000 ∧ ¬ (it k).toInt = -2000000
def absZ (x : Int) : Int := if x < 0 then -x else x
def dst1 (M : Nat → Nat → Int32) (f : Nat) (S : Int32) (dn it : Nat → Int32) (k : Nat) : Int := if (soM M f k).toInt = 0 then (if gB S k = false then (if (dn k).toInt = -2000000 then 0 else (if (it k).toInt = -2000000 then 0 else absZ ((dn k).toInt - (it k).toInt))) else 0) else 0
def dstI (M : Nat → Nat → Int32) (f : Nat) (S : Int32) (dn it : Nat → Int32) : Nat → Int
  | 0 => 0
  | n + 1 => dstI M f S dn it n + dst1 M f S dn it n
theorem dst1_b {k : Nat} (bi : bndI n it) (bd : bndI n dn) (hk : k < n) : 0 ≤ dst1 M f S dn it k ∧ dst1 M f S dn it k ≤ 2000000 := by
  have h1 := bi k hk
  have h2 := bd k hk
  unfold dst1 absZ
  repeat' split
  all_goals omega
theorem dst_b (bi : bndI n it) (bd : bndI n dn) : ∀ m, m ≤ n → 0 ≤ dstI M f S dn it m ∧ dstI M f S dn it m ≤ 2000000 * m := by
  intro m
  induction m with
  | zero => intro _; exact ⟨Int.le_refl _, Int.le_refl _⟩
  | succ m ih =>
    intro hm
    have h1 := ih (by omega)
    have h2 := dst1_b (M := M) (f := f) (S := S) bi bd (show m < n by omega)
    rw [dstI]
    omega
theorem dist_br {K : Int32 → aH → Prop} (e : edC h A o M f r it) (e2 : edC h A o M f q dn) (bi : bndI (cnM M f) it) (bd : bndI (cnM M f) dn) : CI (d + 3) 216 [vR 32, vR (A (bR q)), vR (A (bR r)), vI S] h K X ↔ K (iZ (dstI M f S dn it (cnM M f))) h := by
  refine CI_iff fun K X w => m216 ?_
  obtain ⟨⟨e1, -⟩, e3, e4, -, ⟨e7, e8⟩, R, e12, e13, e14⟩ := e
  obtain ⟨-, -, x4, -, -, -, -, x13, x14⟩ := e2
  have hcI : (nI (cnM M f)).toInt = (cnM M f : Nat) := ti_n (by omega)
  have main : ∀ (n p : Nat), p + n = cnM M f → Wp (d + 3) 216 (6, [none, some (vR (A (bR q))), some (vR (A (bR r))), some (vI S), some (vI (iZ (dstI M f S dn it p))), some (vI (nI p))], [], h) (RI K X) := by
    intro n
    induction n with
    | zero =>
      intro p hp
      have hpc : p = cnM M f := by omega
      subst hpc
      refine w216_6 ?_
      simp only [↓forall_eq, ↓inB_iff, gK_hU, gL_hU, gR_hU, gIh, gJh, pI_hU, pJ_hU, hU_hU, uI_app, uJ_app, and_true, true_and, and_false, false_and, and_self, true_implies, false_implies, not_true, not_false_iff, if_true, if_false, eq_self, Nat.reduceLeDiff, Nat.reduceEqDiff, reduceCtorEq, i32c, ti0, ti1, tiM, Int.natCast_nonneg, Int.reduceEq, Int.reduceLE, Int.reduceLT, Int.reduceNeg, tl_i, Int32.reduceToInt, Int64.reduceToInt, tiA, tlM6, Int.toNat_natCast, natc, nI_1, Int.zero_sub, implies_true, not_false_eq_true, kR_0 e4, kF_0 e3, e13, e7, Int.lt_irrefl]
      exact w
    | succ n ih =>
      intro p hp
      have hpI : (nI p).toInt = p := ti_n (by omega)
      have hlt : (p : Int) < (cnM M f : Nat) := by omega
      have z20 : (p : Int) < 20 := by omega
      have y1 := (e12 p (by omega)).2
      have y2 := e14 p (by omega)
      have y3 := x14 p (by omega)
      have nx := ih (p + 1) (by omega)
      rw [dstI] at nx
      have b1 := dst_b (M := M) (f := f) (S := S) bi bd p (by omega)
      have b2 := dst1_b (M := M) (f := f) (S := S) bi bd (show p < cnM M f by omega)
      have z1 := ti_z (z := dstI M f S dn it p) (by omega) (by omega)
      have ak := fun K X => @isAsk_br (d + 1) f p h A o X K e3 (cnM M f) e7 e8 (by omega)
      have n0 : dst1 M f S dn it p = 0 → Wp (d + 3) 216 (6, [none, some (vR (A (bR q))), some (vR (A (bR r))), some (vI S), some (vI (iZ (dstI M f S dn it p))), some (vI (nI (p + 1)))], [], h) (RI K X) := fun c => by
        rw [c, Int.add_zero] at nx; exact nx
      unfold dst1 at n0
      refine w216_6 ?_
      simp only [↓forall_eq, ↓inB_iff, gK_hU, gL_hU, gR_hU, gIh, gJh, pI_hU, pJ_hU, hU_hU, uI_app, uJ_app, and_true, true_and, and_false, false_and, and_self, true_implies, false_implies, not_true, not_false_iff, if_true, if_false, eq_self, Nat.reduceLeDiff, Nat.reduceEqDiff, reduceCtorEq, i32c, ti0, ti1, tiM, Int.natCast_nonneg, Int.reduceEq, Int.reduceLE, Int.reduceLT, Int.reduceNeg, tl_i, Int32.reduceToInt, Int64.reduceToInt, tiA, tlM6, Int.toNat_natCast, natc, nI_1, Int.zero_sub, implies_true, not_false_eq_true, kR_0 e4, kR_0 x4, kF_0 e3, eF_0 e3, e13, e7, hpI, hcI, hlt, ↓ak, y1, ↓hasBit_br (show p < 32 by omega), bI0, rR_0_3 e4, rR_0_3 x4, kR_1 e4, lR_1 e4, kR_1 x4, lR_1 x4, z20, y2, y3]
      refine ⟨fun c1 => ⟨fun c2 => ⟨fun c3 => ?_, fun c3 => ⟨fun c4 => ?_, fun c4 => m215 ?_⟩⟩, fun c2 => ?_⟩, fun c1 => ?_⟩
      · rw [if_pos c1, if_pos c2, if_pos c3] at n0; exact n0 rfl
      · rw [if_pos c1, if_pos c2, if_neg c3, if_pos c4] at n0; exact n0 rfl
      · have i1 := (bi p (by omega)).resolve_left c4
        have i2 := (bd p (by omega)).resolve_left c3
        have zs : (dn p - it p).toInt = (dn p).toInt - (it p).toInt := ti_sub (by omega) (by omega)
        have e9 : dst1 M f S dn it p = absZ ((dn p).toInt - (it p).toInt) := by unfold dst1; rw [if_pos c1, if_pos c2, if_neg c3, if_neg c4]
        rw [e9] at nx b2
        rw [zs]
        unfold absZ at nx b2
        refine ⟨fun c5 => ?_, fun c5 => ?_⟩
        · rw [if_pos c5] at nx b2
          have zn : (-(dn p - it p)).toInt = -((dn p).toInt - (it p).toInt) := by rw [ti_neg (by rw [zs]; omega), zs]
          have key : iZ (dstI M f S dn it p) + -(dn p - it p) = iZ (dstI M f S dn it p + -((dn p).toInt - (it p).toInt)) := ti_inj (by rw [ti_add (by rw [z1, zn]; omega) (by rw [z1, zn]; omega), z1, zn, ti_z (by omega) (by omega)])
          rw [key]; exact nx
        · rw [if_neg c5] at nx b2
          have key : iZ (dstI M f S dn it p) + (dn p - it p) = iZ (dstI M f S dn it p + ((dn p).toInt - (it p).toInt)) := ti_inj (by rw [ti_add (by rw [z1, zs]; omega) (by rw [z1, zs]; omega), z1, zs, ti_z (by omega) (by omega)])
          rw [key]; exact nx
      · rw [if_pos c1, if_neg (fun z => c2 z)] at n0; exact n0 rfl
      · rw [if_neg c1] at n0; exact n0 rfl
  exact main (cnM M f) 0 (by omega)
/-- who gives: the first of the nearest -/
def dnG (gv : Nat → Bool) (ds : Nat → Int) : Nat → Int × Int
  | 0 => (-1, 2147483647)
  | n + 1 => if gv n = true ∧ ds n < (dnG gv ds n).2 then ((n : Int), ds n) else dnG gv ds n
theorem dnG_in {gv : Nat → Bool} {ds : Nat → Int} : ∀ n, (dnG gv ds n = (-1, 2147483647)) ∨ ∃ k, k < n ∧ gv k = true ∧ dnG gv ds n = ((k : Int), ds k) := by
  intro n
  induction n with
  | zero => exact Or.inl rfl
  | succ n ih =>
    rw [dnG]
    by_cases c : gv n = true ∧ ds n < (dnG gv ds n).2
    · rw [if_pos c]; exact Or.inr ⟨n, by omega, c.1, rfl⟩
    · rw [if_neg c]
      rcases ih with e | ⟨k, k1, k2, k3⟩
      · exact Or.inl e
      · exact Or.inr ⟨k, by omega, k2, k3⟩
/-- may record k give to r -/
def gvK (M : Nat → Nat → Int32) (f : Nat) (S : Int32) (r k : Nat) : Bool := decide (k ≠ r) && (decide (fR M k = f) && giveB M f S (itM M k) (itM M r))
abbrev dsK (M : Nat → Nat → Int32) (f : Nat) (S : Int32) (r k : Nat) : Int := dstI M f S (itM M k) (itM M r) (cnM M f)
end DON
