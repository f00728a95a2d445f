/-! TABLES: what is counted; the class counts one record -/
section TBD
variable {d U T nf ns nr nm f r R C : Nat} {h g : aH} {A o : Nat → Nat} {X : Nat → aH → Prop} {M : Nat → Nat → Int32} {I : Nat → Nat → Int32} {J : Nat → Nat → Int64} {E : Nat → Nat → List Tm} {Cn : Nat → Nat → List Cmp} {a2 a3 a4 a5 : Int32}
abbrev tIt (M : Nat → Nat → Int32) (r : Nat) (a : Int32) : Int32 := itM M r a.toInt.toNat
def tS0 (M : Nat → Nat → Int32) (a4 : Int32) (r : Nat) : Int32 := if a4.toInt = -1 then 1 else tIt M r a4
def tSam (M : Nat → Nat → Int32) (a5 : Int32) (r : Nat) : Bool := decide (a5.toInt = -1) || dB M a5.toInt.toNat (lastM M (M 44 1 / 1440).toInt (M 68 (sR M r)).toInt.toNat)
def tTk (M : Nat → Nat → Int32) (f : Nat) (a2 a3 a4 : Int32) (r : Nat) : Bool := thr (tIt M r a2) && (thr (tIt M r a3) && (decide (0 ≤ (tS0 M a4 r).toInt) && decide (cBr M f (itM M r) (nrM M f) = 0)))
def tbK (M : Nat → Nat → Int32) (f : Nat) (a2 a3 a4 a5 : Int32) (r : Nat) : Bool := decide (fR M r = f) && (tSam M a5 r && tTk M f a2 a3 a4 r)
/-- an ask's span -/
def spN (M : Nat → Nat → Int32) (f : Nat) (a : Int32) : Nat := ((M 57 (20 * f + a.toInt.toNat)).toInt - (M 56 (20 * f + a.toInt.toNat)).toInt + 1).toNat
def tIx (M : Nat → Nat → Int32) (f : Nat) (a2 a3 : Int32) (r : Nat) : Nat := (((tIt M r a2).toInt - loM M f a2.toInt.toNat) * (spN M f a3 : Nat) + ((tIt M r a3).toInt - loM M f a3.toInt.toNat)).toNat
def tAc (M : Nat → Nat → Int32) (f : Nat) (a2 a3 a4 a5 : Int32) : Nat → (Nat → Int32) × (Nat → Int32) × (Nat → Int32)
  | 0 => (fun _ => 0, fun _ => 0, fun _ => 0)
  | r + 1 => if tbK M f a2 a3 a4 a5 r = true then (upG (tAc M f a2 a3 a4 a5 r).1 (tIx M f a2 a3 r) ((tAc M f a2 a3 a4 a5 r).1 (tIx M f a2 a3 r) + tS0 M a4 r), upG (tAc M f a2 a3 a4 a5 r).2.1 (tIx M f a2 a3 r) ((tAc M f a2 a3 a4 a5 r).2.1 (tIx M f a2 a3 r) + 1), upG (tAc M f a2 a3 a4 a5 r).2.2 (tIx M f a2 a3 r) (if ((tAc M f a2 a3 a4 a5 r).2.2 (tIx M f a2 a3 r)).toInt < (tS0 M a4 r).toInt then tS0 M a4 r else (tAc M f a2 a3 a4 a5 r).2.2 (tIx M f a2 a3 r))) else tAc M f a2 a3 a4 a5 r
/-- an ask of a form, by number -/
def akA (M : Nat → Nat → Int32) (f : Nat) (a : Int32) : Prop := 0 ≤ a.toInt ∧ a.toInt < cnM M f ∧ (soM M f a.toInt.toNat).toInt = 0
theorem sp_ok (F : FormA h A o M E Cn nf) (hf : f < nf) (ha : akA M f a2) : (spN M f a2 : Int) = hiM M f a2.toInt.toNat - loM M f a2.toInt.toNat + 1 ∧ 1 ≤ spN M f a2 ∧ -999999 ≤ loM M f a2.toInt.toNat ∧ hiM M f a2.toInt.toNat ≤ 999999 := by
  obtain ⟨h1, h2, h3⟩ := ha
  have := ((F.2.2 f hf).2.2.1 a2.toInt.toNat (by omega)).2.2.2 h3
  unfold spN hiM loM
  omega
/-- a number that is there is in its span -/
theorem it_in (F : FormA h A o M E Cn nf) (Rc : RecA h A o M nf ns nr) (hr : r < nr) (hfr : fR M r = f) (ha : akA M f a2) (ht : thr (tIt M r a2) = true) : loM M f a2.toInt.toNat ≤ (tIt M r a2).toInt ∧ (tIt M r a2).toInt ≤ hiM M f a2.toInt.toNat := by
  have v := (Rc.2.2 r hr).2.2.2.2.2 a2.toInt.toNat
  rw [hfr] at v
  have n : ¬ (tIt M r a2).toInt = -2000000 := by unfold thr at ht; simpa using ht
  obtain ⟨h1, h2, h3⟩ := ha
  exact (v (by omega) h3).resolve_left n
theorem ix_ok (F : FormA h A o M E Cn nf) (Rc : RecA h A o M nf ns nr) (hf : f < nf) (hr : r < nr) (hfr : fR M r = f) (h2 : akA M f a2) (h3 : akA M f a3) (c3 : spN M f a3 ≤ 3) (c2 : spN M f a2 ≤ 4) (t2 : thr (tIt M r a2) = true) (t3 : thr (tIt M r a3) = true) : tIx M f a2 a3 r < spN M f a2 * spN M f a3 ∧ (tIt M r a2 - M 56 (20 * f + a2.toInt.toNat)) * nI (spN M f a3) + tIt M r a3 - M 56 (20 * f + a3.toInt.toNat) = nI (tIx M f a2 a3 r) := by
  obtain ⟨e2, p2, l2, u2⟩ := sp_ok F hf h2
  obtain ⟨e3, p3, l3, u3⟩ := sp_ok F hf h3
  have i2 := it_in F Rc hr hfr h2 t2
  have i3 := it_in F Rc hr hfr h3 t3
  have zx : ((tIt M r a2).toInt - loM M f a2.toInt.toNat).toNat = ((tIt M r a2).toInt - loM M f a2.toInt.toNat).toNat := rfl
  obtain ⟨x, hx⟩ : ∃ x : Nat, (tIt M r a2).toInt - loM M f a2.toInt.toNat = x := ⟨((tIt M r a2).toInt - loM M f a2.toInt.toNat).toNat, by omega⟩
  obtain ⟨y, hy⟩ : ∃ y : Nat, (tIt M r a3).toInt - loM M f a3.toInt.toNat = y := ⟨((tIt M r a3).toInt - loM M f a3.toInt.toNat).toNat, by omega⟩
  have ex : tIx M f a2 a3 r = x * spN M f a3 + y := by
    unfold tIx
    rw [hx, hy, ← Int.natCast_mul, ← Int.natCast_add, Int.toNat_natCast]
  have xl : x + 1 ≤ spN M f a2 := by omega
  have yl : y < spN M f a3 := by omega
  have m1 : (x + 1) * spN M f a3 ≤ spN M f a2 * spN M f a3 := Nat.mul_le_mul_right _ xl
  have m2 : (x + 1) * spN M f a3 = x * spN M f a3 + spN M f a3 := Nat.succ_mul _ _
  have m3 : x * spN M f a3 ≤ 4 * 3 := Nat.mul_le_mul (by omega) c3
  refine ⟨by omega, ?_⟩
  rw [ex]
  unfold loM hiM at *
  have s1 : tIt M r a2 - M 56 (20 * f + a2.toInt.toNat) = nI x := ti_inj (by rw [ti_sub (by omega) (by omega), ti_n (by omega)]; exact hx)
  rw [s1, nI_mul]
  have t1 : (nI (x * spN M f a3)).toInt = ((x * spN M f a3 : Nat) : Int) := ti_n (by omega)
  have t9 : (nI (x * spN M f a3) + tIt M r a3).toInt = ((x * spN M f a3 : Nat) : Int) + (tIt M r a3).toInt := by rw [ti_add (by rw [t1]; omega) (by rw [t1]; omega), t1]
  refine ti_inj ?_
  rw [ti_sub (by rw [t9]; omega) (by rw [t9]; omega), t9, ti_n (by omega)]
  omega
/-- the table while it is made: r0 with its arrays -/
def tbO (g : aH) (I : Nat → Nat → Int32) (r0 F sm ct gr ro pa : Nat) (a2 a3 a4 : Int32) (R C : Nat) : Prop := (gK g r0 = 11 ∧ 8 ≤ r0) ∧ (gR g r0 0 = F ∧ gR g r0 7 = sm ∧ gR g r0 8 = ct ∧ gR g r0 9 = gr ∧ gR g r0 10 = ro ∧ gR g r0 11 = pa) ∧ (I r0 1 = a2 ∧ I r0 2 = a3 ∧ I r0 3 = a4 ∧ I r0 4 = nI R ∧ I r0 5 = nI C ∧ I r0 6 = nI (R * C)) ∧ (gK g sm = 100 ∧ gK g ct = 100 ∧ gK g gr = 100 ∧ gK g ro = 100 ∧ gK g pa = 100) ∧ (gL g sm = R * C ∧ gL g ct = R * C ∧ gL g gr = R * C ∧ gL g ro = R * C ∧ gL g pa = 32) ∧ (8 ≤ sm ∧ 8 ≤ ct ∧ 8 ≤ gr ∧ 8 ≤ ro ∧ 8 ≤ pa) ∧ (sm ≠ ct ∧ sm ≠ gr ∧ sm ≠ ro ∧ sm ≠ pa ∧ ct ≠ gr ∧ ct ≠ ro ∧ ct ≠ pa ∧ gr ≠ ro ∧ gr ≠ pa ∧ ro ≠ pa) ∧ (r0 ≠ sm ∧ r0 ≠ ct ∧ r0 ≠ gr ∧ r0 ≠ ro ∧ r0 ≠ pa)
theorem c_count {K : aH → Prop} {r0 sm ct gr ro pa : Nat} (F : FormA (hU g I J) A o M E Cn nf) (Rc : RecA (hU g I J) A o M nf ns nr) (hf : f < nf) (hr : r < nr) (hfr : fR M r = f) (tb : tbO g I r0 (A (bF f)) sm ct gr ro pa a2 a3 a4 (spN M f a2) (spN M f a3)) (h2 : akA M f a2) (h3 : akA M f a3) (h4 : a4.toInt = -1 ∨ (0 ≤ a4.toInt ∧ a4.toInt < cnM M f)) (c3 : spN M f a3 ≤ 3) (c2 : spN M f a2 ≤ 4)
    (w1 : tTk M f a2 a3 a4 r = false → K (hU g I J)) (w2 : tTk M f a2 a3 a4 r = true → K (hU g (uI (uI (uI I sm (tIx M f a2 a3 r) (I sm (tIx M f a2 a3 r) + tS0 M a4 r)) ct (tIx M f a2 a3 r) (I ct (tIx M f a2 a3 r) + 1)) gr (tIx M f a2 a3 r) (if (I gr (tIx M f a2 a3 r)).toInt < (tS0 M a4 r).toInt then tS0 M a4 r else I gr (tIx M f a2 a3 r))) J)) : CV (d + 5) 262 [vR r0, vR (A (bR r))] (hU g I J) K X := by
  obtain ⟨⟨k0, e0⟩, ⟨q0, q7, q8, q9, -, -⟩, ⟨i1, i2, i3, i4, i5, i6⟩, ⟨ks, kc, kg, -, -⟩, ⟨ls, lc, lg, -, -⟩, ⟨s8, c8, g8, -, -⟩, ⟨n1, n2, -, -, n5, -, -, -, -, -⟩, -⟩ := tb
  obtain ⟨t, ⟨r2, r3, r4, r5⟩, ⟨r6, r7, r8⟩, r9, r10⟩ := Rc.2.2 r hr
  rw [hfr] at r5 r6 r10
  obtain ⟨⟨tf, lf, ⟨c1, c2', c3'⟩, c4⟩, fm, fb, ak, fr9⟩ := F.2.2 f hf
  have n6 := F.2.1.2
  have CB := fun (K : Int32 → aH → Prop) X => countB_br (d := d) (K := K) (X := X) tf fr9 ⟨kR_1 t, lR_1 t, fun i hi => (r9 i (by omega)).1⟩ (bnd_le r10.1 c2') c2'
  have cle := cBr_le (M := M) (f := f) (it := itM M r) (nrM M f)
  have n16 := nr16 fr9
  have cI : (nI (cBr M f (itM M r) (nrM M f))).toInt = (cBr M f (itM M r) (nrM M f) : Nat) := ti_n (by omega)
  have z2 : a2.toInt < 20 := by have := h2.2.1; omega
  have z3 : a3.toInt < 20 := by have := h3.2.1; omega
  have p2 : 0 ≤ a2.toInt := h2.1
  have p3 : 0 ≤ a3.toInt := h3.1
  have v2 : I (A (bR r + 1)) a2.toInt.toNat = tIt M r a2 := (r9 a2.toInt.toNat (by omega)).1
  have v3 : I (A (bR r + 1)) a3.toInt.toNat = tIt M r a3 := (r9 a3.toInt.toNat (by omega)).1
  have b2 : I (A (bF f + 4)) a2.toInt.toNat = M 56 (20 * f + a2.toInt.toNat) := (fb a2.toInt.toNat (by have := h2.2.1; omega)).1
  have b3 : I (A (bF f + 4)) a3.toInt.toNat = M 56 (20 * f + a3.toInt.toNat) := (fb a3.toInt.toNat (by have := h3.2.1; omega)).1
  have r6' : gR g (A (bR r)) 0 = A (bF f) := r6
  have wp41 : Wp (d + 5) 262 (41, [some (vR r0), some (vR (A (bR r))), some (vI (tIt M r a2)), some (vI (tIt M r a3)), none, none], [vI (tS0 M a4 r)], hU g I J) (RV K X) := by
    have nt : ∀ x : Int32, x.toInt = -2000000 → thr x = false := fun x hx => by unfold thr; rw [decide_eq_true hx]; rfl
    have yt : ∀ x : Int32, ¬ x.toInt = -2000000 → thr x = true := fun x hx => by unfold thr; rw [decide_eq_false hx]; rfl
    have kR0 := kR_0 t
    refine w262_41 ⟨fun c => w1 (by unfold tTk; rw [nt _ c]; rfl), fun c => ⟨fun e => w1 (by unfold tTk; rw [nt _ e, Bool.false_and, Bool.and_false]), fun e => ⟨fun e5 => w1 (by unfold tTk; rw [decide_eq_false (by omega), Bool.false_and, Bool.and_false, Bool.and_false]), fun e5 => ⟨eR_0 t, kR0, m213 ?_⟩⟩⟩⟩
    simp only [↓forall_eq, ↓inB_iff, gK_hU, gL_hU, gR_hU, gIh, gJh, pI_hU, pJ_hU, hU_hU, uI_app, uJ_app, and_true, true_and, and_false, false_and, and_self, true_implies, false_implies, not_true, not_false_iff, if_true, if_false, eq_self, Nat.reduceLeDiff, Nat.reduceEqDiff, reduceCtorEq, i32c, ti0, ti1, tiM, Int.natCast_nonneg, Int.reduceEq, Int.reduceLE, Int.reduceLT, Int.reduceNeg, tl_i, Int32.reduceToInt, Int64.reduceToInt, tiA, tlM6, Int.toNat_natCast, natc, nI_1, Int.zero_sub, implies_true, not_false_eq_true, kR_0 t, r6', eF_0 tf, kF_0 tf, rR_0_3 t, ↓CB, cI]
    have t2 := yt _ c
    have t3 := yt _ e
    obtain ⟨kx, vx⟩ := ix_ok F Rc hf hr hfr h2 h3 c3 c2 t2 t3
    have m12 : spN M f a2 * spN M f a3 ≤ 4 * 3 := Nat.mul_le_mul c2 c3
    have xI : (nI (tIx M f a2 a3 r)).toInt = (tIx M f a2 a3 r : Nat) := ti_n (by omega)
    have mI : (nI (spN M f a2 * spN M f a3)).toInt = ((spN M f a2 * spN M f a3 : Nat) : Int) := ti_n (by omega)
    have zx : (tIx M f a2 a3 r : Int) < ((spN M f a2 * spN M f a3 : Nat) : Int) := by omega
    have nx : ¬ (tIx M f a2 a3 r : Int) < 0 := by omega
    have main : tTk M f a2 a3 a4 r = true → gK g r0 = 11 ∧ gK g (gR g r0 0) = 3 ∧ True := fun _ => ⟨k0, by rw [q0]; exact kF_0 tf, trivial⟩
    have fz : ¬ cBr M f (itM M r) (nrM M f) = 0 → tTk M f a2 a3 a4 r = false := fun z => by unfold tTk; rw [decide_eq_false z, Bool.and_false, Bool.and_false, Bool.and_false]
    have tz : cBr M f (itM M r) (nrM M f) = 0 → tTk M f a2 a3 a4 r = true := fun z => by unfold tTk; rw [t2, t3, decide_eq_true z, decide_eq_true (show 0 ≤ (tS0 M a4 r).toInt by omega)]; rfl
    have n1' : ct ≠ sm := fun e => n1 e.symm
    have n2' : gr ≠ sm := fun e => n2 e.symm
    have n5' : gr ≠ ct := fun e => n5 e.symm
    refine ⟨fun z => ?_, fun z => ?_⟩
    · have kf : gK g (A (bF f)) = 3 := kF_0 tf
      have rf3 : gR g (A (bF f)) 3 = A (bF f + 4) := rF_0_3 tf
      have kf4 : gK g (A (bF f + 4)) = 100 := kF_4 tf
      have lf4 : gL g (A (bF f + 4)) = 20 := lF_4 tf
      simp only [↓forall_eq, ↓inB_iff, gK_hU, gL_hU, gR_hU, gIh, gJh, pI_hU, pJ_hU, hU_hU, uI_app, uJ_app, and_true, true_and, and_false, false_and, and_self, true_implies, false_implies, not_true, not_false_iff, if_true, if_false, eq_self, Nat.reduceLeDiff, Nat.reduceEqDiff, reduceCtorEq, i32c, ti0, ti1, tiM, Int.natCast_nonneg, Int.reduceEq, Int.reduceLE, Int.reduceLT, Int.reduceNeg, tl_i, Int32.reduceToInt, Int64.reduceToInt, tiA, tlM6, Int.toNat_natCast, natc, nI_1, Int.zero_sub, implies_true, not_false_eq_true, k0, q0, kf, rf3, kf4, lf4, i1, i2, i5, i6, p2, p3, z2, z3, b2, b3, vx, xI, nx, mI, zx, q7, q8, q9, ks, kc, kg, ls, lc, lg, s8, c8, g8, n1', n2', n5', ↓max_br]
      exact w2 (tz (by omega))
    · first
        | exact w1 (fz (by omega))
        | exact ⟨fun _ => w1 (fz (by omega)), fun y => absurd rfl y⟩
  refine m262 ?_
  have kR0 := kR_0 t
  simp only [↓forall_eq, ↓inB_iff, gK_hU, gL_hU, gR_hU, gIh, gJh, pI_hU, pJ_hU, hU_hU, uI_app, uJ_app, and_true, true_and, and_false, false_and, and_self, true_implies, false_implies, not_true, not_false_iff, if_true, if_false, eq_self, Nat.reduceLeDiff, Nat.reduceEqDiff, reduceCtorEq, i32c, ti0, ti1, tiM, Int.natCast_nonneg, Int.reduceEq, Int.reduceLE, Int.reduceLT, Int.reduceNeg, tl_i, Int32.reduceToInt, Int64.reduceToInt, tiA, tlM6, Int.toNat_natCast, natc, nI_1, Int.zero_sub, implies_true, not_false_eq_true, kR_0 t, k0, i1, i2, i3, rR_0_3 t, kR_1 t, lR_1 t, p2, p3, z2, z3, v2, v3]
  refine ⟨fun c => ?_, fun c => ?_⟩
  · have : tS0 M a4 r = 1 := by unfold tS0; rw [if_pos c]
    rw [this] at wp41; exact wp41
  · have h4' := h4.resolve_left c
    have v4 : I (A (bR r + 1)) a4.toInt.toNat = tIt M r a4 := (r9 a4.toInt.toNat (by omega)).1
    have : tS0 M a4 r = tIt M r a4 := by unfold tS0; rw [if_neg c]
    rw [this] at wp41
    rw [v4]
    exact ⟨h4'.1, by omega, wp41⟩
end TBD
