/-! CUTS: the model's search for the least one -/
section MSM
variable {d t R C r0 c0 : Nat} {h g : aH} {X : Nat → aH → Prop} {I : Nat → Nat → Int32} {J : Nat → Nat → Int64} {v : Nat → Int} {O P Q : Nat → Bool} {S u : Int32}
abbrev c39 (t k C r0 c0 n p : Nat) (S u : Int32) (l9 : Int64) (hh : aH) : aCf := (39, [some (vR 44), some (vI (nI t)), some (vI S), some (vI (nI k)), some (vI u), some (vI (nI C)), some (vI (nI r0)), some (vI (nI c0)), some (vI (nI n)), some (vL l9), none, some (vI (nI p)), none, none, none, none, none, none, none, none], [], hh)
abbrev c89 (t k C r0 c0 n p : Nat) (S u : Int32) (l9 : Int64) (a s : Int32) (hh : aH) : aCf := (89, [some (vR 44), some (vI (nI t)), some (vI S), some (vI (nI k)), some (vI u), some (vI (nI C)), some (vI (nI r0)), some (vI (nI c0)), some (vI (nI n)), some (vL l9), none, some (vI (nI p)), some (vI a), none, none, none, none, none, none, none], [vI s], hh)
abbrev c131 (t k C r0 c0 n p : Nat) (S u : Int32) (l9 l14 : Int64) (e : Int32) (j : Nat) (hh : aH) : aCf := (131, [some (vR 44), some (vI (nI t)), some (vI S), some (vI (nI k)), some (vI u), some (vI (nI C)), some (vI (nI r0)), some (vI (nI c0)), some (vI (nI n)), some (vL l9), none, some (vI (nI p)), none, none, some (vL l14), none, some (vI e), some (vI (nI j)), none, none], [], hh)
abbrev c210 (t k C r0 c0 n p : Nat) (S u : Int32) (l9 l14 : Int64) (e : Int32) (j : Nat) (a s : Int32) (hh : aH) : aCf := (210, [some (vR 44), some (vI (nI t)), some (vI S), some (vI (nI k)), some (vI u), some (vI (nI C)), some (vI (nI r0)), some (vI (nI c0)), some (vI (nI n)), some (vL l9), none, some (vI (nI p)), none, none, some (vL l14), none, some (vI e), some (vI (nI j)), some (vI a), none], [vI s], hh)
theorem cutJ_b (hv : ∀ k, k < R * C → 0 ≤ v k ∧ v k ≤ 60000000) : ∀ j, j ≤ R * C → 0 ≤ cutJ v O P Q C j ∧ cutJ v O P Q C j ≤ 60000000 * j := by
  intro j
  induction j with
  | zero => intro _; exact ⟨Int.le_refl _, Int.le_refl _⟩
  | succ j ih =>
    intro hj
    have i := ih (by omega)
    have b := hv j (by omega)
    rw [cutJ]
    split <;> omega
theorem bnt {b : Bool} (h : ¬ b = true) : b = false := by cases b <;> simp_all
theorem add0L (x : Int64) : x + 0 = x := Int64.add_zero x
/-- one cell of a side -/
theorem m_210 {K : Int32 → aH → Prop} {k n p j : Nat} {l9 l14 : Int64} {e a b : Bool} (mf : MF g) (ht : t < 12) (hj : j < 12) (hv : 0 ≤ (I 92 (12 * t + j)).toInt ∧ (I 92 (12 * t + j)).toInt ≤ 60000000) (h0 : 0 ≤ l14.toInt) (h1 : l14.toInt ≤ 60000000 * j)
    (k0 : ∀ z : Int64, z.toInt = l14.toInt + (if (b && !a) = true then (I 92 (12 * t + j)).toInt else 0) → Wp d 286 (c131 t k C r0 c0 n p S u l9 z (bI (e && !(a && !b))) (j + 1) (hU g I J)) (RI K X)) : Wp d 286 (c210 t k C r0 c0 n p S u l9 l14 (bI e) j (bI a) (bI b) (hU g I J)) (RI K X) := by
  have x1 : (12 : Int32) * nI t + nI j = nI (12 * t + j) := by rw [show (12 : Int32) = nI 12 from rfl, nI_mul, nI_add]
  have x2 : (nI (12 * t + j)).toInt = ((12 * t + j : Nat) : Int) := ti_n (by omega)
  have x3 : ((12 * t + j : Nat) : Int) < 144 := by omega
  have s1 : (l14 + (I 92 (12 * t + j)).toInt64).toInt = l14.toInt + (I 92 (12 * t + j)).toInt := by rw [tl_add (by rw [tl_i]; omega) (by rw [tl_i]; omega), tl_i]
  have ka := k0 (l14 + (I 92 (12 * t + j)).toInt64)
  have kb := k0 l14
  refine w286_210 ?_
  cases e <;> cases a <;> cases b <;> simp only [↓forall_eq, ↓inB_iff, gK_hU, gL_hU, gR_hU, gIh, gJh, pI_hU, pJ_hU, hU_hU, uI_app, uJ_app, and_true, true_and, and_false, false_and, and_self, true_implies, false_implies, not_true, not_false_iff, if_true, if_false, eq_self, Nat.reduceLeDiff, Nat.reduceEqDiff, reduceCtorEq, i32c, ti0, ti1, tiM, Int.natCast_nonneg, Int.reduceEq, Int.reduceLE, Int.reduceLT, Int.reduceNeg, tl_i, Int32.reduceToInt, Int64.reduceToInt, tiA, tlM6, Int.toNat_natCast, natc, nI_1, Int.zero_sub, implies_true, not_false_eq_true, mf.1, mr_70 mf, mk_90 mf, ml_90 mf, mr_71 mf, mk_91 mf, ml_91 mf, mr_72 mf, mk_92 mf, ml_92 mf, bI0, x1, x2, x3, add0L, Bool.false_eq_true, Bool.true_eq_false, Bool.and_true, Bool.and_false, Bool.not_true, Bool.not_false, Bool.false_and, Bool.true_and] <;> first | exact kb (by simp) | exact ka (by rw [s1]; simp)
theorem m_131 {K : Int32 → aH → Prop} {n p : Nat} {l9 : Int64} (mf : MF g) (ht : t < 12) (R4 : 1 ≤ R ∧ R ≤ 4) (C3 : 1 ≤ C ∧ C ≤ 3) (m90 : I 90 t = nI R) (m91 : I 91 t = nI C) (hv : ∀ k, k < R * C → 0 ≤ (I 92 (12 * t + k)).toInt ∧ (I 92 (12 * t + k)).toInt ≤ 60000000) (hp : p < 128) (hr : r0 < R) (hc : c0 < C)
    (k0 : ∀ z : Int64, z.toInt = (if enJ (oth S (r0 * C + c0)) (tB p) (cRw R p) C (R * C) = true then (if l9.toInt < 0 ∨ cutJ (fun k => (I 92 (12 * t + k)).toInt) (oth S (r0 * C + c0)) (tB p) (cRw R p) C (R * C) < l9.toInt then cutJ (fun k => (I 92 (12 * t + k)).toInt) (oth S (r0 * C + c0)) (tB p) (cRw R p) C (R * C) else l9.toInt) else l9.toInt) → Wp d 286 (c39 t (r0 * C + c0) C r0 c0 n (p + 1) S u z (hU g I J)) (RI K X)) :
    ∀ (q j : Nat) (l14 : Int64), j + q = R * C → l14.toInt = cutJ (fun k => (I 92 (12 * t + k)).toInt) (oth S (r0 * C + c0)) (tB p) (cRw R p) C j → Wp d 286 (c131 t (r0 * C + c0) C r0 c0 n p S u l9 l14 (bI (enJ (oth S (r0 * C + c0)) (tB p) (cRw R p) C j)) j (hU g I J)) (RI K X) := by
  have m12 : R * C ≤ 4 * 3 := Nat.mul_le_mul R4.2 C3.2
  have klt : r0 * C + c0 < R * C := by
    have : (r0 + 1) * C ≤ R * C := Nat.mul_le_mul_right _ hr
    rw [Nat.succ_mul] at this; omega
  have kI : (nI (r0 * C + c0)).toInt = ((r0 * C + c0 : Nat) : Int) := ti_n (by omega)
  have mul : nI R * nI C = nI (R * C) := nI_mul R C
  have mI : (nI (R * C)).toInt = ((R * C : Nat) : Int) := ti_n (by omega)
  have htI : (nI t).toInt = t := ti_n (by omega)
  have zt : (t : Int) < 12 := by omega
  have CI' : (nI C).toInt = C := ti_n (by omega)
  have cne : ¬ nI C = 0 := fun e => by rw [e] at CI'; have : (0 : Int32).toInt = 0 := rfl; omega
  intro q
  induction q with
  | zero =>
    intro j l14 hj hl
    have hjc : j = R * C := by omega
    subst hjc
    refine w286_131 ?_
    rw [← hl] at k0
    simp only [↓forall_eq, ↓inB_iff, gK_hU, gL_hU, gR_hU, gIh, gJh, pI_hU, pJ_hU, hU_hU, uI_app, uJ_app, and_true, true_and, and_false, false_and, and_self, true_implies, false_implies, not_true, not_false_iff, if_true, if_false, eq_self, Nat.reduceLeDiff, Nat.reduceEqDiff, reduceCtorEq, i32c, ti0, ti1, tiM, Int.natCast_nonneg, Int.reduceEq, Int.reduceLE, Int.reduceLT, Int.reduceNeg, tl_i, Int32.reduceToInt, Int64.reduceToInt, tiA, tlM6, Int.toNat_natCast, natc, nI_1, Int.zero_sub, implies_true, not_false_eq_true, mf.1, mr_70 mf, mk_90 mf, ml_90 mf, mr_71 mf, mk_91 mf, ml_91 mf, mr_72 mf, mk_92 mf, ml_92 mf, htI, zt, m90, m91, mul, mI, Int.lt_irrefl, bI0]
    refine ⟨fun z => k0 _ (by rw [if_neg (by rw [z]; decide)]), fun z => ?_⟩
    have z' := bnf z
    refine ⟨fun a => k0 _ (by rw [if_pos z', if_pos (Or.inl a)]), fun a => ⟨fun c => k0 _ (by rw [if_pos z', if_pos (Or.inr c)]), fun c => k0 _ (by rw [if_pos z', if_neg (by omega)])⟩⟩
  | succ q ih =>
    intro j l14 hj hl
    have bd := cutJ_b (O := oth S (r0 * C + c0)) (P := tB p) (Q := cRw R p) (v := fun k => (I 92 (12 * t + k)).toInt) hv j (by omega)
    have nx := fun z => ih (j + 1) z (by omega)
    rw [cutJ, enJ, ← hl] at nx
    have hjI : (nI j).toInt = j := ti_n (by omega)
    have zj : (j : Int) < ((R * C : Nat) : Int) := by omega
    have dv : nI j / nI C = nI (j / C) := nI_div (by omega) (by omega)
    have md : aIrem (nI j) (nI C) = nI (j % C) := nI_rem (by omega) (by omega)
    have d1 : j / C ≤ j := Nat.div_le_self _ _
    have d2 : j % C ≤ j := Nat.mod_le _ _
    have sb1 : (nI p >>> (nI (j / C) &&& 31)) &&& 1 = bI (p.testBit (j / C)) := by rw [sh_bit (by omega), gB_n (by omega)]
    have sb2 : (nI p >>> ((nI R + nI (j % C)) &&& 31)) &&& 1 = bI (p.testBit (R + j % C)) := by rw [nI_add, sh_bit (by omega), gB_n (by omega)]
    have sb3 : (S >>> (nI j &&& 31)) &&& 1 = bI (gB S j) := sh_bit (by omega)
    have skip : oth S (r0 * C + c0) j = false → Wp d 286 (c131 t (r0 * C + c0) C r0 c0 n p S u l9 l14 (bI (enJ (oth S (r0 * C + c0)) (tB p) (cRw R p) C j)) (j + 1) (hU g I J)) (RI K X) := fun z => by
      rw [z, Bool.false_and, Bool.false_and, if_neg (by decide), Int.add_zero, Bool.not_false, Bool.and_true] at nx
      exact nx l14 rfl
    have take : oth S (r0 * C + c0) j = true → Wp d 286 (c210 t (r0 * C + c0) C r0 c0 n p S u l9 l14 (bI (enJ (oth S (r0 * C + c0)) (tB p) (cRw R p) C j)) j (bI (p.testBit (j / C))) (bI (p.testBit (R + j % C))) (hU g I J)) (RI K X) := fun z => by
      rw [z, Bool.true_and, Bool.true_and] at nx
      exact m_210 mf ht (by omega) (hv j (by omega)) (by omega) (by omega) nx
    refine w286_131 ?_
    simp only [↓forall_eq, ↓inB_iff, gK_hU, gL_hU, gR_hU, gIh, gJh, pI_hU, pJ_hU, hU_hU, uI_app, uJ_app, and_true, true_and, and_false, false_and, and_self, true_implies, false_implies, not_true, not_false_iff, if_true, if_false, eq_self, Nat.reduceLeDiff, Nat.reduceEqDiff, reduceCtorEq, i32c, ti0, ti1, tiM, Int.natCast_nonneg, Int.reduceEq, Int.reduceLE, Int.reduceLT, Int.reduceNeg, tl_i, Int32.reduceToInt, Int64.reduceToInt, tiA, tlM6, Int.toNat_natCast, natc, nI_1, Int.zero_sub, implies_true, not_false_eq_true, mf.1, mr_70 mf, mk_90 mf, ml_90 mf, mr_71 mf, mk_91 mf, ml_91 mf, mr_72 mf, mk_92 mf, ml_92 mf, htI, zt, m90, m91, mul, mI, hjI, zj, kI, cne, dv, md, sb1, sb2, sb3, bI0, bI1]
    refine ⟨fun z => skip ?_, fun z => ⟨fun y => skip ?_, fun y => ?_⟩⟩
    · unfold oth; rw [decide_eq_true (by omega), Bool.not_true, Bool.and_false]
    · unfold oth; rw [y, Bool.false_and]
    · have tk := take (by unfold oth; rw [bnf y, decide_eq_false (by omega)]; rfl)
      refine ⟨fun e1 => ⟨fun e2 => ?_, fun e2 => ?_⟩, fun e1 => ⟨fun e2 => ?_, fun e2 => ?_⟩⟩
      · rw [e1, e2] at tk; exact tk
      · rw [e1, bnt e2] at tk; exact tk
      · rw [bnt e1, e2] at tk; exact tk
      · rw [bnt e1, bnt e2] at tk; exact tk
theorem c_sides {n : Nat} (hn : n ≤ 7) : (1 <<< (nI n &&& 31) : Int32).toInt = ((2 ^ n : Nat) : Int) := (show ∀ n : Fin 8, (1 <<< (nI n.val &&& 31) : Int32).toInt = ((2 ^ n.val : Nat) : Int) by decide +kernel) ⟨n, by omega⟩
theorem most_br {K : Int32 → aH → Prop} (mf : MF g) (ht : t < 12) (R4 : 1 ≤ R ∧ R ≤ 4) (C3 : 1 ≤ C ∧ C ≤ 3) (m90 : I 90 t = nI R) (m91 : I 91 t = nI C) (hv : ∀ k, k < R * C → 0 ≤ (I 92 (12 * t + k)).toInt ∧ (I 92 (12 * t + k)).toInt ≤ 60000000) (hr : r0 < R) (hc : c0 < C) : CI d 286 [vR 44, vI (nI t), vI S, vI (nI (r0 * C + c0)), vI u] (hU g I J) K X ↔ K (iZ (if u.toInt = 0 then rmB (fun k => (I 92 (12 * t + k)).toInt) (oth S (r0 * C + c0)) R C r0 c0 (2 ^ R) else rmA (fun k => (I 92 (12 * t + k)).toInt) (oth S (r0 * C + c0)) R C r0 c0 (2 ^ R))) (hU g I J) := by
  have m12 : R * C ≤ 4 * 3 := Nat.mul_le_mul R4.2 C3.2
  have klt : r0 * C + c0 < R * C := by
    have : (r0 + 1) * C ≤ R * C := Nat.mul_le_mul_right _ hr
    rw [Nat.succ_mul] at this; omega
  have kI : (nI (r0 * C + c0)).toInt = ((r0 * C + c0 : Nat) : Int) := ti_n (by omega)
  have dq : (r0 * C + c0) / C = r0 := by rw [Nat.add_comm, Nat.add_mul_div_right _ _ (by omega), Nat.div_eq_of_lt hc, Nat.zero_add]
  have mq : (r0 * C + c0) % C = c0 := by rw [Nat.add_comm, Nat.add_mul_mod_self_right, Nat.mod_eq_of_lt hc]
  have dv : nI (r0 * C + c0) / nI C = nI r0 := by rw [nI_div (by omega) (by omega), dq]
  have md : aIrem (nI (r0 * C + c0)) (nI C) = nI c0 := by rw [nI_rem (by omega) (by omega), mq]
  have htI : (nI t).toInt = t := ti_n (by omega)
  have zt : (t : Int) < 12 := by omega
  have CI' : (nI C).toInt = C := ti_n (by omega)
  have cne : ¬ nI C = 0 := fun e => by rw [e] at CI'; have : (0 : Int32).toInt = 0 := rfl; omega
  have ad : nI R + nI C = nI (R + C) := nI_add R C
  have x1 : (12 : Int32) * nI t + nI (r0 * C + c0) = nI (12 * t + (r0 * C + c0)) := by rw [show (12 : Int32) = nI 12 from rfl, nI_mul, nI_add]
  have x2 : (nI (12 * t + (r0 * C + c0))).toInt = ((12 * t + (r0 * C + c0) : Nat) : Int) := ti_n (by omega)
  have x3 : ((12 * t + (r0 * C + c0) : Nat) : Int) < 144 := by omega
  have bk := hv _ klt
  have p7 : 2 ^ (R + C) ≤ 2 ^ 7 := Nat.pow_le_pow_right (by decide) (by omega)
  refine CI_iff fun K X w9 => m286 ?_
  have main : ∀ (q p : Nat) (l9 : Int64), p + q = 2 ^ (R + C) → l9.toInt = bsM (fun k => (I 92 (12 * t + k)).toInt) (oth S (r0 * C + c0)) R C r0 c0 (!decide (u.toInt = 0)) p → Wp d 286 (c39 t (r0 * C + c0) C r0 c0 (R + C) p S u l9 (hU g I J)) (RI K X) := by
    intro q
    induction q with
    | zero =>
      intro p l9 hp hl
      have hpc : p = 2 ^ (R + C) := by omega
      subst hpc
      have pI : (nI (2 ^ (R + C))).toInt = ((2 ^ (R + C) : Nat) : Int) := ti_n (by omega)
      refine w286_39 ?_
      simp only [↓forall_eq, ↓inB_iff, gK_hU, gL_hU, gR_hU, gIh, gJh, pI_hU, pJ_hU, hU_hU, uI_app, uJ_app, and_true, true_and, and_false, false_and, and_self, true_implies, false_implies, not_true, not_false_iff, if_true, if_false, eq_self, Nat.reduceLeDiff, Nat.reduceEqDiff, reduceCtorEq, i32c, ti0, ti1, tiM, Int.natCast_nonneg, Int.reduceEq, Int.reduceLE, Int.reduceLT, Int.reduceNeg, tl_i, Int32.reduceToInt, Int64.reduceToInt, tiA, tlM6, Int.toNat_natCast, natc, nI_1, Int.zero_sub, implies_true, not_false_eq_true, mf.1, mr_70 mf, mk_90 mf, ml_90 mf, mr_71 mf, mk_91 mf, ml_91 mf, mr_72 mf, mk_92 mf, ml_92 mf, htI, zt, m90, m91, x1, x2, x3, c_sides (show R + C ≤ 7 by omega), pI, Int.lt_irrefl]
      have tz : ∀ z : Int, l9.toInt = z → -1 ≤ z → z ≤ 2147483647 → l9.toInt32 = iZ z := fun z e z1 z2 => by
        apply ti_inj
        rw [Int64.toInt_toInt32, ti_z (by omega) (by omega), e]
        exact Jvm.Kit.bmod32 (by omega) (by omega)
      refine ⟨fun e => ?_, fun e => ?_⟩
      · rw [if_pos e, ← bsM_down hv (by omega) C3.2 hr hc (by unfold oth; simp)] at w9
        rw [decide_eq_true e, Bool.not_true] at hl
        refine ⟨fun e2 => ?_, fun e2 => ?_⟩
        · rw [← hl, if_pos e2] at w9
          have : -1 ≤ l9.toInt := by
            obtain ⟨m1, -⟩ := bsM_spec (O := oth S (r0 * C + c0)) hv (show 0 < C by omega) C3.2 (r0 := r0) (c0 := c0) (up := false) (2 ^ (R + C))
            rw [← hl] at m1
            rcases m1 with ⟨z, -⟩ | ⟨z, -⟩ <;> omega
          rw [tz _ rfl (by omega) (by omega)]; exact w9
        · rw [← hl, if_neg e2] at w9
          have : iZ (I 92 (12 * t + (r0 * C + c0))).toInt = I 92 (12 * t + (r0 * C + c0)) := ti_inj (ti_z (by omega) (by omega))
          rw [this] at w9; exact w9
      · rw [if_neg e, ← bsM_up hv (by omega) C3.2 R4.2 hr hc] at w9
        rw [decide_eq_false e, Bool.not_false] at hl
        have b := rmA_b (O := oth S (r0 * C + c0)) (r0 := r0) (c0 := c0) hv R4.2 C3.2 (2 ^ R)
        rw [← bsM_up hv (by omega) C3.2 R4.2 hr hc] at b
        rw [tz _ hl (by omega) b.2]; exact w9
    | succ q ih =>
      intro p l9 hp hl
      have nx := fun z => ih (p + 1) z (by omega)
      rw [bsM, ← hl] at nx
      have pI : (nI p).toInt = p := ti_n (by omega)
      have zp : (p : Int) < ((2 ^ (R + C) : Nat) : Int) := by omega
      have sb1 : (nI p >>> (nI r0 &&& 31)) &&& 1 = bI (p.testBit r0) := by rw [sh_bit (by omega), gB_n (by omega)]
      have sb2 : (nI p >>> ((nI R + nI c0) &&& 31)) &&& 1 = bI (p.testBit (R + c0)) := by rw [nI_add, sh_bit (by omega), gB_n (by omega)]
      have no : okM (!decide (u.toInt = 0)) R r0 c0 p = false → Wp d 286 (c39 t (r0 * C + c0) C r0 c0 (R + C) (p + 1) S u l9 (hU g I J)) (RI K X) := fun z => by
        rw [z, Bool.false_and, if_neg (by decide)] at nx
        exact nx l9 rfl
      have yes : okM (!decide (u.toInt = 0)) R r0 c0 p = true → Wp d 286 (c131 t (r0 * C + c0) C r0 c0 (R + C) p S u l9 0 1 0 (hU g I J)) (RI K X) := fun z => by
        rw [z, Bool.true_and] at nx
        exact m_131 mf ht R4 C3 m90 m91 hv (by omega) hr hc nx (R * C) 0 0 (by omega) rfl
      have k89 : Wp d 286 (c89 t (r0 * C + c0) C r0 c0 (R + C) p S u l9 (bI (p.testBit r0)) (bI (p.testBit (R + c0))) (hU g I J)) (RI K X) := by
        unfold okM at no yes
        refine w286_89 ?_
        simp only [↓forall_eq, ↓inB_iff, gK_hU, gL_hU, gR_hU, gIh, gJh, pI_hU, pJ_hU, hU_hU, uI_app, uJ_app, and_true, true_and, and_false, false_and, and_self, true_implies, false_implies, not_true, not_false_iff, if_true, if_false, eq_self, Nat.reduceLeDiff, Nat.reduceEqDiff, reduceCtorEq, i32c, ti0, ti1, tiM, Int.natCast_nonneg, Int.reduceEq, Int.reduceLE, Int.reduceLT, Int.reduceNeg, tl_i, Int32.reduceToInt, Int64.reduceToInt, tiA, tlM6, Int.toNat_natCast, natc, nI_1, Int.zero_sub, implies_true, not_false_eq_true, bI0]
        refine ⟨fun e => ?_, fun e => ?_⟩
        · simp only [e, decide_true, Bool.not_true, Bool.false_eq_true, if_false] at no yes
          refine ⟨fun a => ⟨fun b => ?_, fun b => ?_⟩, fun a => ?_⟩
          · rw [b] at no; exact no rfl
          · rw [bnf b, a] at yes; exact yes rfl
          · rw [bnf a, Bool.not_true, Bool.and_false] at no; exact no rfl
        · simp only [e, decide_false, Bool.not_false, if_true] at no yes
          refine ⟨fun a => ⟨fun b => ?_, fun b => ?_⟩, fun a => ?_⟩
          · rw [b, Bool.and_false] at no; exact no rfl
          · rw [bnf b, a] at yes; exact yes rfl
          · rw [bnf a, Bool.not_true, Bool.false_and] at no; exact no rfl
      refine w286_39 ?_
      simp only [↓forall_eq, ↓inB_iff, gK_hU, gL_hU, gR_hU, gIh, gJh, pI_hU, pJ_hU, hU_hU, uI_app, uJ_app, and_true, true_and, and_false, false_and, and_self, true_implies, false_implies, not_true, not_false_iff, if_true, if_false, eq_self, Nat.reduceLeDiff, Nat.reduceEqDiff, reduceCtorEq, i32c, ti0, ti1, tiM, Int.natCast_nonneg, Int.reduceEq, Int.reduceLE, Int.reduceLT, Int.reduceNeg, tl_i, Int32.reduceToInt, Int64.reduceToInt, tiA, tlM6, Int.toNat_natCast, natc, nI_1, Int.zero_sub, implies_true, not_false_eq_true, mf.1, mr_70 mf, mk_90 mf, ml_90 mf, mr_71 mf, mk_91 mf, ml_91 mf, mr_72 mf, mk_92 mf, ml_92 mf, htI, zt, m90, m91, c_sides (show R + C ≤ 7 by omega), pI, zp, sb1, sb2, bI1]
      refine ⟨fun e1 => ⟨fun e2 => ?_, fun e2 => ?_⟩, fun e1 => ⟨fun e2 => ?_, fun e2 => ?_⟩⟩
      · rw [e1, e2] at k89; exact k89
      · rw [e1, bnt e2] at k89; exact k89
      · rw [bnt e1, e2] at k89; exact k89
      · rw [bnt e1, bnt e2] at k89; exact k89
  simp only [↓forall_eq, ↓inB_iff, gK_hU, gL_hU, gR_hU, gIh, gJh, pI_hU, pJ_hU, hU_hU, uI_app, uJ_app, and_true, true_and, and_false, false_and, and_self, true_implies, false_implies, not_true, not_false_iff, if_true, if_false, eq_self, Nat.reduceLeDiff, Nat.reduceEqDiff, reduceCtorEq, i32c, ti0, ti1, tiM, Int.natCast_nonneg, Int.reduceEq, Int.reduceLE, Int.reduceLT, Int.reduceNeg, tl_i, Int32.reduceToInt, Int64.reduceToInt, tiA, tlM6, Int.toNat_natCast, natc, nI_1, Int.zero_sub, implies_true, not_false_eq_true, mf.1, mr_70 mf, mk_90 mf, ml_90 mf, mr_71 mf, mk_91 mf, ml_91 mf, mr_72 mf, mk_92 mf, ml_92 mf, htI, zt, m90, m91, dv, md, cne, ad]
  exact main (2 ^ (R + C)) 0 (-1) (Nat.zero_add _) rfl
end MSM
