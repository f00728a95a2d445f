/-! TABLES: the class settles; the constructor -/
section TBC
variable {d R C f nf : Nat} {h g : aH} {A o : Nat → Nat} {X : Nat → aH → Prop} {M : Nat → Nat → Int32} {I : Nat → Nat → Int32} {J : Nat → Nat → Int64} {a2 a3 a4 : Int32} {E : Nat → Nat → List Tm} {Cn : Nat → Nat → List Cmp}
/-- the sum of some of a row's cells -/
def sbS (v : Nat → Int32) (C r m : Nat) : Nat → Int32
  | 0 => 0
  | c + 1 => sbS v C r m c + if gB (nI m) c = true then v (r * C + c) else 0
theorem sh3 (r m : Nat) (hr : r < 4) (hm : m < 8) : (nI r <<< ((3 : Int32) &&& 31)) ||| nI m = nI (8 * r + m) := (show ∀ (r : Fin 4) (m : Fin 8), (nI r.val <<< ((3 : Int32) &&& 31)) ||| nI m.val = nI (8 * r.val + m.val) by decide) ⟨r, hr⟩ ⟨m, hm⟩
theorem sh1 (c : Nat) (hc : c < 13) : ((1 : Int32) <<< (nI c &&& 31)).toInt = ((2 ^ c : Nat) : Int) := (show ∀ (c : Fin 13), ((1 : Int32) <<< (nI c.val &&& 31)).toInt = ((2 ^ c.val : Nat) : Int) by decide) ⟨c, hc⟩
theorem c_settle {K : aH → Prop} {r0 F sm ct gr ro pa : Nat} (tb : tbO g I r0 F sm ct gr ro pa a2 a3 a4 R C) (R4 : R ≤ 4) (C3 : C ≤ 3) (h0 : ∀ i, i < 32 → I pa i = 0)
    (kk : ∀ I2, (∀ a, a ≠ ro → a ≠ pa → I2 a = I a) → (∀ k, k < R * C → I2 ro k = I sm k) → (∀ r, r < R → ∀ m, m < 2 ^ C → I2 pa (8 * r + m) = sbS (I sm) C r m C) → K (hU g I2 J)) : CV (d + 1) 263 [vR r0] (hU g I J) K X := by
  obtain ⟨⟨k0, e0⟩, ⟨q0, q7, q8, q9, q10, q11⟩, ⟨i1, i2, i3, i4, i5, i6⟩, ⟨ks, kc, kg, kr, kp⟩, ⟨ls, lc, lg, lr, lp⟩, ⟨s8, c8, g8, r8, p8⟩, ⟨n1, n2, n3, n4, n5, n6, n7, n8, n9, n10⟩, ⟨m1, m2, m3, m4, m5⟩⟩ := tb
  have m12 : R * C ≤ 4 * 3 := Nat.mul_le_mul R4 C3
  have pw : 2 ^ C ≤ 8 := by
    have : C = 0 ∨ C = 1 ∨ C = 2 ∨ C = 3 := by omega
    rcases this with e | e | e | e <;> subst e <;> decide
  have RI : (nI R).toInt = R := ti_n (by omega)
  have CI' : (nI C).toInt = C := ti_n (by omega)
  have pwI : ((1 : Int32) <<< (nI C &&& 31)).toInt = ((2 ^ C : Nat) : Int) := sh1 C (by omega)
  have a0 : ∀ x : Int32, x + 0 = x := Int32.add_zero
  have rows : ∀ (n p : Nat) (I2 : Nat → Nat → Int32), p + n = R → (∀ a, a ≠ ro → a ≠ pa → I2 a = I a) → (∀ k, k < R * C → I2 ro k = I sm k) → (∀ r, r < p → ∀ m, m < 2 ^ C → I2 pa (8 * r + m) = sbS (I sm) C r m C) → (∀ i, 8 * p ≤ i → i < 32 → I2 pa i = 0) → Wp (d + 1) 263 (19, [some (vR r0), some (vI (nI p)), none, none], [], hU g I2 J) (RV K X) := by
    intro n
    induction n with
    | zero =>
      intro p I2 hp j1 j2 j3 j4
      have hpc : p = R := by omega
      subst hpc
      have jr : I2 r0 = I r0 := j1 r0 m4 m5
      refine w263_19 ?_
      simp only [↓forall_eq, ↓inB_iff, gK_hU, gL_hU, gR_hU, gIh, gJh, pI_hU, pJ_hU, hU_hU, uI_app, uJ_app, and_true, true_and, and_false, false_and, and_self, true_implies, false_implies, not_true, not_false_iff, if_true, if_false, eq_self, Nat.reduceLeDiff, Nat.reduceEqDiff, reduceCtorEq, i32c, ti0, ti1, tiM, Int.natCast_nonneg, Int.reduceEq, Int.reduceLE, Int.reduceLT, Int.reduceNeg, tl_i, Int32.reduceToInt, Int64.reduceToInt, tiA, tlM6, Int.toNat_natCast, natc, nI_1, Int.zero_sub, implies_true, not_false_eq_true, k0, jr, i4, Int.lt_irrefl]
      exact kk I2 j1 j2 j3
    | succ n ih =>
      intro p I2 hp j1 j2 j3 j4
      have hpI : (nI p).toInt = p := ti_n (by omega)
      have zp : (p : Int) < R := by omega
      have jr : I2 r0 = I r0 := j1 r0 m4 m5
      have masks : ∀ (n m : Nat) (I3 : Nat → Nat → Int32), m + n = 2 ^ C → (∀ a, a ≠ ro → a ≠ pa → I3 a = I a) → (∀ k, k < R * C → I3 ro k = I sm k) → (∀ r, r < p → ∀ m, m < 2 ^ C → I3 pa (8 * r + m) = sbS (I sm) C r m C) → (∀ m', m' < m → I3 pa (8 * p + m') = sbS (I sm) C p m' C) → (∀ i, 8 * p + m ≤ i → i < 32 → I3 pa i = 0) → Wp (d + 1) 263 (29, [some (vR r0), some (vI (nI p)), some (vI (nI m)), none], [], hU g I3 J) (RV K X) := by
        intro n
        induction n with
        | zero =>
          intro m I3 hm l1 l2 l3 l4 l5
          have hmc : m = 2 ^ C := by omega
          have hmI : (nI m).toInt = ((2 ^ C : Nat) : Int) := by rw [ti_n (by omega), hmc]
          have lr' : I3 r0 = I r0 := l1 r0 m4 m5
          refine w263_29 ?_
          simp only [↓forall_eq, ↓inB_iff, gK_hU, gL_hU, gR_hU, gIh, gJh, pI_hU, pJ_hU, hU_hU, uI_app, uJ_app, and_true, true_and, and_false, false_and, and_self, true_implies, false_implies, not_true, not_false_iff, if_true, if_false, eq_self, Nat.reduceLeDiff, Nat.reduceEqDiff, reduceCtorEq, i32c, ti0, ti1, tiM, Int.natCast_nonneg, Int.reduceEq, Int.reduceLE, Int.reduceLT, Int.reduceNeg, tl_i, Int32.reduceToInt, Int64.reduceToInt, tiA, tlM6, Int.toNat_natCast, natc, nI_1, Int.zero_sub, implies_true, not_false_eq_true, k0, lr', i5, pwI, hmI, Int.lt_irrefl]
          refine ih (p + 1) I3 (by omega) l1 l2 (fun r hr m' hm' => ?_) (fun i h1 h2 => ?_)
          · by_cases e : r = p
            · subst e; exact l4 m' (by omega)
            · exact l3 r (by omega) m' hm'
          · exact l5 i (by omega) h2
        | succ n ihm =>
          intro m I3 hm l1 l2 l3 l4 l5
          have hmI : (nI m).toInt = m := ti_n (by omega)
          have zm : (m : Int) < ((2 ^ C : Nat) : Int) := by omega
          have lr' : I3 r0 = I r0 := l1 r0 m4 m5
          have cols : ∀ (n c : Nat) (I4 : Nat → Nat → Int32), c + n = C → (∀ a, a ≠ ro → a ≠ pa → I4 a = I a) → (∀ k, k < R * C → I4 ro k = I sm k) → (∀ i, i ≠ 8 * p + m → I4 pa i = I3 pa i) → I4 pa (8 * p + m) = sbS (I sm) C p m c → Wp (d + 1) 263 (41, [some (vR r0), some (vI (nI p)), some (vI (nI m)), some (vI (nI c))], [], hU g I4 J) (RV K X) := by
            intro n
            induction n with
            | zero =>
              intro c I4 hc x1 x2 x3 x4
              have hcc : c = C := by omega
              subst hcc
              have xr : I4 r0 = I r0 := x1 r0 m4 m5
              refine w263_41 ?_
              simp only [↓forall_eq, ↓inB_iff, gK_hU, gL_hU, gR_hU, gIh, gJh, pI_hU, pJ_hU, hU_hU, uI_app, uJ_app, and_true, true_and, and_false, false_and, and_self, true_implies, false_implies, not_true, not_false_iff, if_true, if_false, eq_self, Nat.reduceLeDiff, Nat.reduceEqDiff, reduceCtorEq, i32c, ti0, ti1, tiM, Int.natCast_nonneg, Int.reduceEq, Int.reduceLE, Int.reduceLT, Int.reduceNeg, tl_i, Int32.reduceToInt, Int64.reduceToInt, tiA, tlM6, Int.toNat_natCast, natc, nI_1, Int.zero_sub, implies_true, not_false_eq_true, k0, xr, i5, Int.lt_irrefl]
              refine ihm (m + 1) I4 (by omega) x1 x2 (fun r hr m' hm' => ?_) (fun m' hm' => ?_) (fun i h1 h2 => ?_)
              · rw [x3 _ (by omega)]; exact l3 r hr m' hm'
              · by_cases e : m' = m
                · subst e; exact x4
                · rw [x3 _ (by omega)]; exact l4 m' (by omega)
              · rw [x3 _ (by omega)]; exact l5 i (by omega) h2
            | succ n ihc =>
              intro c I4 hc x1 x2 x3 x4
              have hcI : (nI c).toInt = c := ti_n (by omega)
              have zc : (c : Int) < C := by omega
              have xr : I4 r0 = I r0 := x1 r0 m4 m5
              have xs : I4 sm = I sm := x1 sm n3 n4
              have v8 : (nI p <<< ((3 : Int32) &&& 31)) ||| nI m = nI (8 * p + m) := sh3 p m (by omega) (by omega)
              have v8I : (nI (8 * p + m)).toInt = ((8 * p + m : Nat) : Int) := ti_n (by omega)
              have z32 : ((8 * p + m : Nat) : Int) < 32 := by omega
              have y1 : nI p * nI C + nI c = nI (p * C + c) := by rw [nI_mul, nI_add]
              have lt : p * C + c < R * C := by
                have : (p + 1) * C ≤ R * C := Nat.mul_le_mul_right _ (by omega)
                rw [Nat.succ_mul] at this; omega
              have y2 : (nI (p * C + c)).toInt = ((p * C + c : Nat) : Int) := ti_n (by omega)
              have y3 : ((p * C + c : Nat) : Int) < ((R * C : Nat) : Int) := by omega
              have step : ∀ x : Int32, x = sbS (I sm) C p m (c + 1) → Wp (d + 1) 263 (41, [some (vR r0), some (vI (nI p)), some (vI (nI m)), some (vI (nI (c + 1)))], [], hU g (uI I4 pa (8 * p + m) x) J) (RV K X) := fun x hx => by
                refine ihc (c + 1) _ (by omega) (fun a h1 h2 => by rw [uI_ne _ _ _ h2]; exact x1 a h1 h2) (fun k hk => by rw [uI_ne _ _ _ n10]; exact x2 k hk) (fun i hi => by rw [uI_nj _ _ _ _ hi]; exact x3 i hi) (by rw [uI_same]; exact hx)
              refine w263_41 ?_
              simp only [↓forall_eq, ↓inB_iff, gK_hU, gL_hU, gR_hU, gIh, gJh, pI_hU, pJ_hU, hU_hU, uI_app, uJ_app, and_true, true_and, and_false, false_and, and_self, true_implies, false_implies, not_true, not_false_iff, if_true, if_false, eq_self, Nat.reduceLeDiff, Nat.reduceEqDiff, reduceCtorEq, i32c, ti0, ti1, tiM, Int.natCast_nonneg, Int.reduceEq, Int.reduceLE, Int.reduceLT, Int.reduceNeg, tl_i, Int32.reduceToInt, Int64.reduceToInt, tiA, tlM6, Int.toNat_natCast, natc, nI_1, Int.zero_sub, implies_true, not_false_eq_true, k0, xr, xs, i5, CI', hcI, zc, v8, v8I, z32, q11, kp, lp, p8, ↓hasBit_br (show c < 32 by omega), bI0, q7, ks, ls, y1, y2, y3, x4]
              refine ⟨fun z => step _ ?_, fun z => step _ ?_⟩
              · rw [sbS, if_neg (by rw [z]; decide)]
              · rw [sbS, if_pos (bnf z)]
          refine w263_29 ?_
          simp only [↓forall_eq, ↓inB_iff, gK_hU, gL_hU, gR_hU, gIh, gJh, pI_hU, pJ_hU, hU_hU, uI_app, uJ_app, and_true, true_and, and_false, false_and, and_self, true_implies, false_implies, not_true, not_false_iff, if_true, if_false, eq_self, Nat.reduceLeDiff, Nat.reduceEqDiff, reduceCtorEq, i32c, ti0, ti1, tiM, Int.natCast_nonneg, Int.reduceEq, Int.reduceLE, Int.reduceLT, Int.reduceNeg, tl_i, Int32.reduceToInt, Int64.reduceToInt, tiA, tlM6, Int.toNat_natCast, natc, nI_1, Int.zero_sub, implies_true, not_false_eq_true, k0, lr', i5, pwI, hmI, zm]
          exact cols C 0 I3 (by omega) l1 l2 (fun _ _ => rfl) (l5 _ (Nat.le_refl _) (by omega))
      refine w263_19 ?_
      simp only [↓forall_eq, ↓inB_iff, gK_hU, gL_hU, gR_hU, gIh, gJh, pI_hU, pJ_hU, hU_hU, uI_app, uJ_app, and_true, true_and, and_false, false_and, and_self, true_implies, false_implies, not_true, not_false_iff, if_true, if_false, eq_self, Nat.reduceLeDiff, Nat.reduceEqDiff, reduceCtorEq, i32c, ti0, ti1, tiM, Int.natCast_nonneg, Int.reduceEq, Int.reduceLE, Int.reduceLT, Int.reduceNeg, tl_i, Int32.reduceToInt, Int64.reduceToInt, tiA, tlM6, Int.toNat_natCast, natc, nI_1, Int.zero_sub, implies_true, not_false_eq_true, k0, jr, i4, RI, hpI, zp]
      exact masks (2 ^ C) 0 I2 (by omega) j1 j2 j3 (fun m' hm' => by omega) (fun i h1 h2 => j4 i (by omega) h2)
  refine m263 ?_
  simp only [gK_hU, gR_hU, gIh, gL_hU, k0, q7, q10, i6, ks, kr]
  refine ⟨trivial, 0, 0, R * C, ⟨s8, r8, n3, rfl, rfl, rfl, by decide, by decide, by omega, by rw [gL_hU, ls]; omega, by rw [gL_hU, lr]; omega⟩, trivial, trivial, fun h9 e9 => ?_⟩
  have e : gCopyI (hU g I J) sm 0 ro 0 (R * C) = hU g (fun q k => if q = ro ∧ 0 ≤ k ∧ k < 0 + R * C then I sm (0 + (k - 0)) else I q k) J := rfl
  rw [e9, e]
  refine rows R 0 _ (by omega) (fun a h1 h2 => ?_) (fun k hk => ?_) (fun r hr => by omega) (fun i _ hi => ?_)
  · funext k; exact if_neg (fun w => h1 w.1)
  · show (if ro = ro ∧ 0 ≤ k ∧ k < 0 + R * C then I sm (0 + (k - 0)) else I ro k) = _
    rw [if_pos ⟨rfl, by omega, by omega⟩, Nat.zero_add, Nat.sub_zero]
  · show (if pa = ro ∧ 0 ≤ i ∧ i < 0 + R * C then I sm (0 + (i - 0)) else I pa i) = 0
    rw [if_neg (fun w => n10 w.1.symm)]; exact h0 i hi
theorem span_br {K : Int32 → aH → Prop} (F : FormA h A o M E Cn nf) (hf : f < nf) (ha : akA M f a2) : CI (d + 1) 259 [vR (A (bF f)), vI a2] h K X ↔ K (nI (spN M f a2)) h := by
  obtain ⟨⟨tf, lf, ⟨c1, c2, c3⟩, c4⟩, fm, fb, -⟩ := F.2.2 f hf
  obtain ⟨e2, p2, l2, u2⟩ := sp_ok F hf ha
  obtain ⟨h1, h2, h3⟩ := ha
  have b := fb a2.toInt.toNat (by omega)
  have ci : (nI (cnM M f)).toInt = (cnM M f : Nat) := ti_n (by omega)
  have n0 : ¬ a2.toInt < 0 := by omega
  have z20 : a2.toInt < 20 := by omega
  have lo := (b.2.2.2 h3).1
  have key : M 57 (20 * f + a2.toInt.toNat) - M 56 (20 * f + a2.toInt.toNat) + 1 = nI (spN M f a2) := by
    unfold loM hiM at *
    have s1 : (M 57 (20 * f + a2.toInt.toNat) - M 56 (20 * f + a2.toInt.toNat)).toInt = (M 57 (20 * f + a2.toInt.toNat)).toInt - (M 56 (20 * f + a2.toInt.toNat)).toInt := ti_sub (by omega) (by omega)
    exact ti_inj (by rw [ti_add (by rw [s1, ti1]; omega) (by rw [s1, ti1]; omega), s1, ti1, ti_n (by omega)]; omega)
  refine CI_iff fun K X w => m259 ⟨eF_0 tf, kF_0 tf, m141 ?_⟩
  simp only [↓forall_eq, ↓inB_iff, gK_hU, gL_hU, gR_hU, gIh, gJh, pI_hU, pJ_hU, hU_hU, uI_app, uJ_app, and_true, true_and, and_false, false_and, and_self, true_implies, false_implies, not_true, not_false_iff, if_true, if_false, eq_self, Nat.reduceLeDiff, Nat.reduceEqDiff, reduceCtorEq, i32c, ti0, ti1, tiM, Int.natCast_nonneg, Int.reduceEq, Int.reduceLE, Int.reduceLT, Int.reduceNeg, tl_i, Int32.reduceToInt, Int64.reduceToInt, tiA, tlM6, Int.toNat_natCast, natc, nI_1, Int.zero_sub, implies_true, not_false_eq_true, n0, kF_0 tf, c1, ci, h2, rF_0_3 tf, rF_0_4 tf, kF_4 tf, lF_4 tf, kF_5 tf, lF_5 tf, h1, z20, b.1, b.2.1, key]
  exact w
/-- the four arrays of a table -/
theorem c_arr4 {K : aH → Prop} {r0 F n : Nat} (hr1 : r0 < gN g) (hr2 : 8 ≤ r0) (hk : gK g r0 = 11) (i6 : gI g r0 6 = nI n) (n9 : n ≤ 12)
    (kk : ∀ u, gN u = gN g + 4 → gT u = gT g + 4 * n → (∀ a, a < gN g → gK u a = gK g a ∧ gL u a = gL g a ∧ (∀ j, gI u a j = gI g a j) ∧ (∀ j, gJ u a j = gJ g a j) ∧ (a ≠ r0 → ∀ j, gR u a j = gR g a j)) → (∀ j, j < 4 → gK u (gN g + j) = 100 ∧ gL u (gN g + j) = n ∧ ∀ i, gI u (gN g + j) i = 0) → (gR u r0 7 = gN g ∧ gR u r0 8 = gN g + 1 ∧ gR u r0 9 = gN g + 2 ∧ gR u r0 10 = gN g + 3 ∧ gR u r0 0 = gR g r0 0 ∧ gR u r0 11 = gR g r0 11) → K u) : Wp (d + 1) 260 (100, [some (vR r0), some (vR F), some (vI a2), some (vI a3), some (vI a4)], [], g) (RV K X) := by
  generalize hN0 : gN g = N at *
  have n2 : r0 ≠ N := Nat.ne_of_lt hr1
  have n3 : r0 ≠ N + 1 := Nat.ne_of_lt (Nat.lt_succ_of_lt hr1)
  have n4 : r0 ≠ N + 1 + 1 := Nat.ne_of_lt (Nat.lt_succ_of_lt (Nat.lt_succ_of_lt hr1))
  have n5 : r0 ≠ N + 1 + 1 + 1 := Nat.ne_of_lt (Nat.lt_succ_of_lt (Nat.lt_succ_of_lt (Nat.lt_succ_of_lt hr1)))
  have n8 : n ≤ 1000000 := Nat.le_trans n9 (by decide)
  refine w260_100 ⟨hk, n, i6, n8, fun b1 u0 z1 v0 => ⟨hr2, ?_, fun u1 v1 => ⟨n, ?_, n8, fun b2 u2 z2 v2 => ⟨?_, fun u3 v3 => ⟨n, ?_, n8, fun b3 u4 z3 v4 => ⟨?_, fun u5 v5 => ⟨n, ?_, n8, fun b4 u6 z4 v6 => ⟨?_, fun u7 v7 => w260_140 ?_⟩⟩⟩⟩⟩⟩⟩⟩
  · subst v0; simp only [gN_pR, gT_pR, gK_pR, gL_pR, gR_pR, gI_pR, gJ_pR, gN_pI, gT_pI, gK_pI, gL_pI, gR_pI, gI_pI, gJ_pI, gN_gNew, gT_gNew, gK_gNew, gL_gNew, gR_gNew, gI_gNew, gJ_gNew, hN0, n2, if_false]; exact hk
  · subst v1 v0; simp only [gN_pR, gT_pR, gK_pR, gL_pR, gR_pR, gI_pR, gJ_pR, gN_pI, gT_pI, gK_pI, gL_pI, gR_pI, gI_pI, gJ_pI, gN_gNew, gT_gNew, gK_gNew, gL_gNew, gR_gNew, gI_gNew, gJ_gNew, hN0, n2, if_false]; exact i6
  · subst v2 v1 v0; simp only [gN_pR, gT_pR, gK_pR, gL_pR, gR_pR, gI_pR, gJ_pR, gN_pI, gT_pI, gK_pI, gL_pI, gR_pI, gI_pI, gJ_pI, gN_gNew, gT_gNew, gK_gNew, gL_gNew, gR_gNew, gI_gNew, gJ_gNew, hN0, n2, n3, if_false]; exact hk
  · subst v3 v2 v1 v0; simp only [gN_pR, gT_pR, gK_pR, gL_pR, gR_pR, gI_pR, gJ_pR, gN_pI, gT_pI, gK_pI, gL_pI, gR_pI, gI_pI, gJ_pI, gN_gNew, gT_gNew, gK_gNew, gL_gNew, gR_gNew, gI_gNew, gJ_gNew, hN0, n2, n3, if_false]; exact i6
  · subst v4 v3 v2 v1 v0; simp only [gN_pR, gT_pR, gK_pR, gL_pR, gR_pR, gI_pR, gJ_pR, gN_pI, gT_pI, gK_pI, gL_pI, gR_pI, gI_pI, gJ_pI, gN_gNew, gT_gNew, gK_gNew, gL_gNew, gR_gNew, gI_gNew, gJ_gNew, hN0, n2, n3, n4, if_false]; exact hk
  · subst v5 v4 v3 v2 v1 v0; simp only [gN_pR, gT_pR, gK_pR, gL_pR, gR_pR, gI_pR, gJ_pR, gN_pI, gT_pI, gK_pI, gL_pI, gR_pI, gI_pI, gJ_pI, gN_gNew, gT_gNew, gK_gNew, gL_gNew, gR_gNew, gI_gNew, gJ_gNew, hN0, n2, n3, n4, if_false]; exact i6
  · subst v6 v5 v4 v3 v2 v1 v0; simp only [gN_pR, gT_pR, gK_pR, gL_pR, gR_pR, gI_pR, gJ_pR, gN_pI, gT_pI, gK_pI, gL_pI, gR_pI, gI_pI, gJ_pI, gN_gNew, gT_gNew, gK_gNew, gL_gNew, gR_gNew, gI_gNew, gJ_gNew, hN0, n2, n3, n4, n5, if_false]; exact hk
  have b1e : b1 = N := by rw [z1]; exact hN0
  have b2e : b2 = N + 1 := by rw [z2]; subst v1 v0; simp only [gN_pR, gT_pR, gK_pR, gL_pR, gR_pR, gI_pR, gJ_pR, gN_pI, gT_pI, gK_pI, gL_pI, gR_pI, gI_pI, gJ_pI, gN_gNew, gT_gNew, gK_gNew, gL_gNew, gR_gNew, gI_gNew, gJ_gNew, hN0]
  have b3e : b3 = N + 1 + 1 := by rw [z3]; subst v3 v2 v1 v0; simp only [gN_pR, gT_pR, gK_pR, gL_pR, gR_pR, gI_pR, gJ_pR, gN_pI, gT_pI, gK_pI, gL_pI, gR_pI, gI_pI, gJ_pI, gN_gNew, gT_gNew, gK_gNew, gL_gNew, gR_gNew, gI_gNew, gJ_gNew, hN0]
  have b4e : b4 = N + 1 + 1 + 1 := by rw [z4]; subst v5 v4 v3 v2 v1 v0; simp only [gN_pR, gT_pR, gK_pR, gL_pR, gR_pR, gI_pR, gJ_pR, gN_pI, gT_pI, gK_pI, gL_pI, gR_pI, gI_pI, gJ_pI, gN_gNew, gT_gNew, gK_gNew, gL_gNew, gR_gNew, gI_gNew, gJ_gNew, hN0]
  subst b1e b2e b3e b4e
  refine kk u7 ?_ ?_ (fun a ha => ?_) (fun j hj => ?_) ?_
  · subst v7 v6 v5 v4 v3 v2 v1 v0; simp only [gN_pR, gT_pR, gK_pR, gL_pR, gR_pR, gI_pR, gJ_pR, gN_pI, gT_pI, gK_pI, gL_pI, gR_pI, gI_pI, gJ_pI, gN_gNew, gT_gNew, gK_gNew, gL_gNew, gR_gNew, gI_gNew, gJ_gNew, hN0]
  · clear n2 n3 n4 n5; subst v7 v6 v5 v4 v3 v2 v1 v0; simp only [gN_pR, gT_pR, gK_pR, gL_pR, gR_pR, gI_pR, gJ_pR, gN_pI, gT_pI, gK_pI, gL_pI, gR_pI, gI_pI, gJ_pI, gN_gNew, gT_gNew, gK_gNew, gL_gNew, gR_gNew, gI_gNew, gJ_gNew]; omega
  · have l1 : a ≠ b1 := Nat.ne_of_lt ha
    have l2 : a ≠ b1 + 1 := Nat.ne_of_lt (Nat.lt_succ_of_lt ha)
    have l3 : a ≠ b1 + 1 + 1 := Nat.ne_of_lt (Nat.lt_succ_of_lt (Nat.lt_succ_of_lt ha))
    have l4 : a ≠ b1 + 1 + 1 + 1 := Nat.ne_of_lt (Nat.lt_succ_of_lt (Nat.lt_succ_of_lt (Nat.lt_succ_of_lt ha)))
    subst v7 v6 v5 v4 v3 v2 v1 v0
    refine ⟨?_, ?_, fun j => ?_, fun j => ?_, fun hp j => ?_⟩
    · simp only [gN_pR, gT_pR, gK_pR, gL_pR, gR_pR, gI_pR, gJ_pR, gN_pI, gT_pI, gK_pI, gL_pI, gR_pI, gI_pI, gJ_pI, gN_gNew, gT_gNew, gK_gNew, gL_gNew, gR_gNew, gI_gNew, gJ_gNew, hN0, l1, l2, l3, l4, if_false]
    · simp only [gN_pR, gT_pR, gK_pR, gL_pR, gR_pR, gI_pR, gJ_pR, gN_pI, gT_pI, gK_pI, gL_pI, gR_pI, gI_pI, gJ_pI, gN_gNew, gT_gNew, gK_gNew, gL_gNew, gR_gNew, gI_gNew, gJ_gNew, hN0, l1, l2, l3, l4, if_false]
    · simp only [gN_pR, gT_pR, gK_pR, gL_pR, gR_pR, gI_pR, gJ_pR, gN_pI, gT_pI, gK_pI, gL_pI, gR_pI, gI_pI, gJ_pI, gN_gNew, gT_gNew, gK_gNew, gL_gNew, gR_gNew, gI_gNew, gJ_gNew, hN0, l1, l2, l3, l4, if_false]
    · simp only [gN_pR, gT_pR, gK_pR, gL_pR, gR_pR, gI_pR, gJ_pR, gN_pI, gT_pI, gK_pI, gL_pI, gR_pI, gI_pI, gJ_pI, gN_gNew, gT_gNew, gK_gNew, gL_gNew, gR_gNew, gI_gNew, gJ_gNew, hN0, l1, l2, l3, l4, if_false]
    · simp only [gN_pR, gT_pR, gK_pR, gL_pR, gR_pR, gI_pR, gJ_pR, gN_pI, gT_pI, gK_pI, gL_pI, gR_pI, gI_pI, gJ_pI, gN_gNew, gT_gNew, gK_gNew, gL_gNew, gR_gNew, gI_gNew, gJ_gNew, hN0, l1, l2, l3, l4, hp, false_and, if_false]
  · have : j = 0 ∨ j = 1 ∨ j = 2 ∨ j = 3 := by clear n2 n3 n4 n5; omega
    have c12 : b1 ≠ b1 + 1 := by clear n2 n3 n4 n5; omega
    have c13 : b1 ≠ b1 + 1 + 1 := by clear n2 n3 n4 n5 c12; omega
    have c14 : b1 ≠ b1 + 1 + 1 + 1 := by clear n2 n3 n4 n5 c12 c13; omega
    have c23 : b1 + 1 ≠ b1 + 1 + 1 := by clear n2 n3 n4 n5 c12 c13 c14; omega
    have c24 : b1 + 1 ≠ b1 + 1 + 1 + 1 := by clear n2 n3 n4 n5 c12 c13 c14 c23; omega
    have c34 : b1 + 1 + 1 ≠ b1 + 1 + 1 + 1 := by clear n2 n3 n4 n5 c12 c13 c14 c23 c24; omega
    subst v7 v6 v5 v4 v3 v2 v1 v0
    rcases this with e | e | e | e <;> subst e
    · simp only [gN_pR, gT_pR, gK_pR, gL_pR, gR_pR, gI_pR, gJ_pR, gN_pI, gT_pI, gK_pI, gL_pI, gR_pI, gI_pI, gJ_pI, gN_gNew, gT_gNew, gK_gNew, gL_gNew, gR_gNew, gI_gNew, gJ_gNew, hN0, Nat.add_zero, c12, c13, c14, if_true, if_false, implies_true, and_self]
    · simp only [gN_pR, gT_pR, gK_pR, gL_pR, gR_pR, gI_pR, gJ_pR, gN_pI, gT_pI, gK_pI, gL_pI, gR_pI, gI_pI, gJ_pI, gN_gNew, gT_gNew, gK_gNew, gL_gNew, gR_gNew, gI_gNew, gJ_gNew, hN0, c23, c24, if_true, if_false, implies_true, and_self]
    · have e2 : b1 + 2 = b1 + 1 + 1 := rfl
      simp only [gN_pR, gT_pR, gK_pR, gL_pR, gR_pR, gI_pR, gJ_pR, gN_pI, gT_pI, gK_pI, gL_pI, gR_pI, gI_pI, gJ_pI, gN_gNew, gT_gNew, gK_gNew, gL_gNew, gR_gNew, gI_gNew, gJ_gNew, hN0, e2, c34, if_true, if_false, implies_true, and_self]
    · have e2 : b1 + 3 = b1 + 1 + 1 + 1 := rfl
      simp only [gN_pR, gT_pR, gK_pR, gL_pR, gR_pR, gI_pR, gJ_pR, gN_pI, gT_pI, gK_pI, gL_pI, gR_pI, gI_pI, gJ_pI, gN_gNew, gT_gNew, gK_gNew, gL_gNew, gR_gNew, gI_gNew, gJ_gNew, hN0, e2, if_true, implies_true, and_self]
  · subst v7 v6 v5 v4 v3 v2 v1 v0
    simp only [gN_pR, gT_pR, gK_pR, gL_pR, gR_pR, gI_pR, gJ_pR, gN_pI, gT_pI, gK_pI, gL_pI, gR_pI, gI_pI, gJ_pI, gN_gNew, gT_gNew, gK_gNew, gL_gNew, gR_gNew, gI_gNew, gJ_gNew, hN0, n2, n3, n4, n5, true_and, Nat.reduceEqDiff, if_true, if_false, and_self]
theorem c_newTab {K : aH → Prop} {r0 F : Nat} (hN : 8 ≤ gN h) (hr : r0 < gN h ∧ 8 ≤ r0 ∧ gK h r0 = 11) (hF : F < gN h ∧ 8 ≤ F ∧ gK h F = 3 ∧ F ≠ r0) (R4 : 1 ≤ R ∧ R ≤ 4) (C3 : 1 ≤ C ∧ C ≤ 3) (sp : ∀ hh, keeps h hh (fun q => q = r0) → ∀ (K : Int32 → aH → Prop) (X : Nat → aH → Prop), (CI d 259 [vR F, vI a2] hh K X ↔ K (nI R) hh) ∧ (CI d 259 [vR F, vI a3] hh K X ↔ K (nI C) hh))
    (kk : ∀ h4, keeps h h4 (fun q => q = r0) → gN h4 = gN h + 5 → gT h4 ≤ gT h + 80 → tbO h4 (gI h4) r0 F (gN h + 1) (gN h + 2) (gN h + 3) (gN h + 4) (gN h) a2 a3 a4 R C → (∀ q, gN h ≤ q → q < gN h + 5 → ∀ i, gI h4 q i = 0) → (gI h4 r0 12 = 0 ∧ gI h4 r0 13 = 0) → K h4) : CV (d + 1) 260 [vR r0, vR F, vI a2, vI a3, vI a4] h K X := by
  obtain ⟨hr1, hr2, hr3⟩ := hr
  obtain ⟨hF1, hF2, hF3, hF4⟩ := hF
  have m12 : R * C ≤ 4 * 3 := Nat.mul_le_mul R4.2 C3.2
  have RI : (nI R).toInt = R := ti_n (by omega)
  have CI' : (nI C).toInt = C := ti_n (by omega)
  have mmR : (if (0 : Int32).toInt < (if (nI R).toInt < (4 : Int32).toInt then nI R else 4).toInt then (if (nI R).toInt < (4 : Int32).toInt then nI R else 4) else 0) = nI R := by
    have : R = 1 ∨ R = 2 ∨ R = 3 ∨ R = 4 := by omega
    rcases this with e | e | e | e <;> subst e <;> decide
  have mmC : (if (0 : Int32).toInt < (if (nI C).toInt < (3 : Int32).toInt then nI C else 3).toInt then (if (nI C).toInt < (3 : Int32).toInt then nI C else 3) else 0) = nI C := by
    have : C = 1 ∨ C = 2 ∨ C = 3 := by omega
    rcases this with e | e | e <;> subst e <;> decide
  generalize hN0 : gN h = N at *
  have n1 : r0 ≠ N := by omega
  have n2 : r0 ≠ N + 1 := by omega
  have n3 : r0 ≠ N + 1 + 1 := by omega
  have n4 : r0 ≠ N + 1 + 1 + 1 := by omega
  have n5 : r0 ≠ N + 1 + 1 + 1 + 1 := by omega
  have f1 : F ≠ N := by omega
  refine m260 ⟨hr2, fun a1 g0 x1 y0 => ⟨?_, fun g1 y1 g2 y2 g3 y3 g4 y4 => w260_27 ⟨hr2, ?_, fun g5 y5 g6 y6 g7 y7 g8 y8 => w260_47 ⟨hr2, ?_, fun g9 y9 => ⟨hF2, ?_, ?_⟩⟩⟩⟩⟩
  · subst y0; simp only [gN_pR, gT_pR, gK_pR, gL_pR, gR_pR, gI_pR, gJ_pR, gN_pI, gT_pI, gK_pI, gL_pI, gR_pI, gI_pI, gJ_pI, gN_gNew, gT_gNew, gK_gNew, gL_gNew, gR_gNew, gI_gNew, gJ_gNew, hN0, n1, if_false]; exact hr3
  · subst y4 y3 y2 y1 y0; simp only [gN_pR, gT_pR, gK_pR, gL_pR, gR_pR, gI_pR, gJ_pR, gN_pI, gT_pI, gK_pI, gL_pI, gR_pI, gI_pI, gJ_pI, gN_gNew, gT_gNew, gK_gNew, gL_gNew, gR_gNew, gI_gNew, gJ_gNew, hN0, n1, if_false]; exact hr3
  · subst y8 y7 y6 y5 y4 y3 y2 y1 y0; simp only [gN_pR, gT_pR, gK_pR, gL_pR, gR_pR, gI_pR, gJ_pR, gN_pI, gT_pI, gK_pI, gL_pI, gR_pI, gI_pI, gJ_pI, gN_gNew, gT_gNew, gK_gNew, gL_gNew, gR_gNew, gI_gNew, gJ_gNew, hN0, n1, if_false]; exact hr3
  · subst y9 y8 y7 y6 y5 y4 y3 y2 y1 y0; simp only [gN_pR, gT_pR, gK_pR, gL_pR, gR_pR, gI_pR, gJ_pR, gN_pI, gT_pI, gK_pI, gL_pI, gR_pI, gI_pI, gJ_pI, gN_gNew, gT_gNew, gK_gNew, gL_gNew, gR_gNew, gI_gNew, gJ_gNew, hN0, f1, if_false]; exact hF3
  have k9 : keeps h g9 (fun q => q = r0) := by
    subst y9 y8 y7 y6 y5 y4 y3 y2 y1 y0
    refine ⟨?_, ?_, fun a ha => ?_, fun a ha hp => ⟨?_, ?_, fun j => ?_, fun j => ?_, fun j => ?_⟩⟩
    · simp only [gN_pR, gT_pR, gK_pR, gL_pR, gR_pR, gI_pR, gJ_pR, gN_pI, gT_pI, gK_pI, gL_pI, gR_pI, gI_pI, gJ_pI, gN_gNew, gT_gNew, gK_gNew, gL_gNew, gR_gNew, gI_gNew, gJ_gNew, hN0]; omega
    · simp only [gN_pR, gT_pR, gK_pR, gL_pR, gR_pR, gI_pR, gJ_pR, gN_pI, gT_pI, gK_pI, gL_pI, gR_pI, gI_pI, gJ_pI, gN_gNew, gT_gNew, gK_gNew, gL_gNew, gR_gNew, gI_gNew, gJ_gNew, hN0]; omega
    · have l1 : a ≠ N := by omega
      simp only [gN_pR, gT_pR, gK_pR, gL_pR, gR_pR, gI_pR, gJ_pR, gN_pI, gT_pI, gK_pI, gL_pI, gR_pI, gI_pI, gJ_pI, gN_gNew, gT_gNew, gK_gNew, gL_gNew, gR_gNew, gI_gNew, gJ_gNew, hN0, l1, if_false, and_self]
    all_goals
      have l1 : a ≠ N := by omega
      simp only [gN_pR, gT_pR, gK_pR, gL_pR, gR_pR, gI_pR, gJ_pR, gN_pI, gT_pI, gK_pI, gL_pI, gR_pI, gI_pI, gJ_pI, gN_gNew, gT_gNew, gK_gNew, gL_gNew, gR_gNew, gI_gNew, gJ_gNew, hN0, l1, hp, if_false, false_and]
  rw [(sp g9 k9 _ _).1, min_br, max_br, mmR]
  refine ⟨?_, fun g10 y10 => ?_⟩
  · subst y9 y8 y7 y6 y5 y4 y3 y2 y1 y0; simp only [gN_pR, gT_pR, gK_pR, gL_pR, gR_pR, gI_pR, gJ_pR, gN_pI, gT_pI, gK_pI, gL_pI, gR_pI, gI_pI, gJ_pI, gN_gNew, gT_gNew, gK_gNew, gL_gNew, gR_gNew, gI_gNew, gJ_gNew, hN0, n1, if_false]; exact hr3
  have k10 : keeps h g10 (fun q => q = r0) := keeps_trans k9 (by rw [y10]; exact keeps_pI g9 r0 4 (nI R))
  rw [(sp g10 k10 _ _).2, min_br, max_br, mmC]
  refine ⟨?_, ?_, fun g11 y11 g12 y12 => ?_⟩
  · rw [(k10.2.2.1 F (by omega)).1]; exact hF3
  · rw [(k10.2.2.1 r0 (by omega)).1]; exact hr3
  have mul : nI R * nI C = nI (R * C) := nI_mul R C
  have i6 : gI g12 r0 6 = nI (R * C) := by
    rw [y12, gI_pI, if_pos ⟨rfl, rfl⟩, y11, gI_pI, gI_pI, if_neg (by simp), if_pos ⟨rfl, rfl⟩, y10, gI_pI, if_pos ⟨rfl, rfl⟩]; exact mul
  have N12 : gN g12 = N + 1 := by subst y12 y11 y10 y9 y8 y7 y6 y5 y4 y3 y2 y1 y0; simp only [gN_pR, gT_pR, gK_pR, gL_pR, gR_pR, gI_pR, gJ_pR, gN_pI, gT_pI, gK_pI, gL_pI, gR_pI, gI_pI, gJ_pI, gN_gNew, gT_gNew, gK_gNew, gL_gNew, gR_gNew, gI_gNew, gJ_gNew, hN0]
  have T12 : gT g12 = gT h + 32 := by subst y12 y11 y10 y9 y8 y7 y6 y5 y4 y3 y2 y1 y0; simp only [gN_pR, gT_pR, gK_pR, gL_pR, gR_pR, gI_pR, gJ_pR, gN_pI, gT_pI, gK_pI, gL_pI, gR_pI, gI_pI, gJ_pI, gN_gNew, gT_gNew, gK_gNew, gL_gNew, gR_gNew, gI_gNew, gJ_gNew, hN0]
  have k12 : keeps h g12 (fun q => q = r0) := keeps_trans k10 (by rw [y12, y11]; exact keeps_trans (keeps_pI g10 r0 5 (nI C)) (keeps_pI _ r0 6 _))
  have q1 : a1 = N := by rw [x1]; exact hN0
  have kN : gK g12 N = 100 ∧ gL g12 N = 32 ∧ ∀ i, gI g12 N i = 0 := by
    have nn : N ≠ r0 := by omega
    subst y12 y11 y10 y9 y8 y7 y6 y5 y4 y3 y2 y1 y0
    simp only [gN_pR, gT_pR, gK_pR, gL_pR, gR_pR, gI_pR, gJ_pR, gN_pI, gT_pI, gK_pI, gL_pI, gR_pI, gI_pI, gJ_pI, gN_gNew, gT_gNew, gK_gNew, gL_gNew, gR_gNew, gI_gNew, gJ_gNew, hN0, if_true, nn, false_and, if_false, implies_true, and_self]
  have r12 : gR g12 r0 11 = N ∧ gR g12 r0 0 = F := by
    subst q1
    subst y12 y11 y10 y9 y8 y7 y6 y5 y4 y3 y2 y1 y0
    simp only [gN_pR, gT_pR, gK_pR, gL_pR, gR_pR, gI_pR, gJ_pR, gN_pI, gT_pI, gK_pI, gL_pI, gR_pI, gI_pI, gJ_pI, gN_gNew, gT_gNew, gK_gNew, gL_gNew, gR_gNew, gI_gNew, gJ_gNew, hN0, true_and, Nat.reduceEqDiff, if_true, if_false, and_self]
  have i12 : (gI g12 r0 1 = a2 ∧ gI g12 r0 2 = a3 ∧ gI g12 r0 3 = a4 ∧ gI g12 r0 4 = nI R ∧ gI g12 r0 5 = nI C) ∧ gI g12 r0 12 = 0 ∧ gI g12 r0 13 = 0 := by
    subst y12 y11 y10 y9 y8 y7 y6 y5 y4 y3 y2 y1 y0
    simp only [gN_pR, gT_pR, gK_pR, gL_pR, gR_pR, gI_pR, gJ_pR, gN_pI, gT_pI, gK_pI, gL_pI, gR_pI, gI_pI, gJ_pI, gN_gNew, gT_gNew, gK_gNew, gL_gNew, gR_gNew, gI_gNew, gJ_gNew, hN0, true_and, Nat.reduceEqDiff, if_true, if_false, and_self]
  have K12 : gK g12 r0 = 11 := by rw [(k12.2.2.1 r0 (by omega)).1]; exact hr3
  refine c_arr4 (n := R * C) (by omega) hr2 K12 i6 (by omega) (fun u7 NN TT same7 nk rr => ?_)
  rw [N12] at NN same7 nk rr
  have s0 := same7 r0 (by omega)
  have sN := same7 N (by omega)
  have t1 := nk 0 (by omega)
  have t2 := nk 1 (by omega)
  have t3 := nk 2 (by omega)
  have t4 := nk 3 (by omega)
  refine kk u7 ⟨by omega, by omega, fun a ha => ?_, fun a ha hp => ?_⟩ NN (by omega) ⟨⟨by rw [s0.1]; exact K12, hr2⟩, ⟨by rw [rr.2.2.2.2.1]; exact r12.2, rr.1, rr.2.1, rr.2.2.1, rr.2.2.2.1, by rw [rr.2.2.2.2.2]; exact r12.1⟩, ⟨by rw [s0.2.2.1]; exact i12.1.1, by rw [s0.2.2.1]; exact i12.1.2.1, by rw [s0.2.2.1]; exact i12.1.2.2.1, by rw [s0.2.2.1]; exact i12.1.2.2.2.1, by rw [s0.2.2.1]; exact i12.1.2.2.2.2, by rw [s0.2.2.1]; exact i6⟩, ⟨t1.1, t2.1, t3.1, t4.1, by rw [sN.1]; exact kN.1⟩, ⟨t1.2.1, t2.2.1, t3.2.1, t4.2.1, by rw [sN.2.1]; exact kN.2.1⟩, by omega, by omega, by omega⟩ (fun q hq hq2 i => ?_) ⟨by rw [s0.2.2.1]; exact i12.2.1, by rw [s0.2.2.1]; exact i12.2.2⟩
  · have s := same7 a (by omega)
    have k := k12.2.2.1 a (by omega)
    exact ⟨s.1.trans k.1, s.2.1.trans k.2⟩
  · have s := same7 a (by omega)
    have k := k12.2.2.2 a (by omega) hp
    exact same_trans k ⟨s.1, s.2.1, s.2.2.1, s.2.2.2.1, s.2.2.2.2 hp⟩
  · by_cases e0 : q = N
    · rw [e0, sN.2.2.1]; exact kN.2.2 i
    · have := nk (q - (N + 1)) (by omega)
      rw [show N + 1 + (q - (N + 1)) = q by omega] at this
      exact this.2.2 i
end TBC
