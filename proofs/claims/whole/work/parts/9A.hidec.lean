/-! SECRECY: the class hides -/
section HDC
variable {d t R C N : Nat} {h : aH} {A o : Nat → Nat} {X : Nat → aH → Prop} {M I : Nat → Nat → Int32} {J : Nat → Nat → Int64} {v : Nat → Int} {P S T : Int32} {nd l1 l2 : Int32} {w nc mv : Nat → Int32}
/-- the cells that are secret by themselves -/
def pmB (w nc mv : Nat → Int32) (l1 l2 : Int32) (k : Nat) : Bool := (decide (0 < (nc k).toInt) && decide ((nc k).toInt < l1.toInt)) || decide ((l2.toInt64 * (w k).toInt64).toInt < (100 * (mv k).toInt64).toInt)
abbrev allN (N : Nat) : Int32 := (1 <<< (nI N &&& 31)) - 1
theorem gB_all {i : Nat} (hN : N ≤ 12) : gB (allN N) i = decide (i < N) := by
  by_cases hi : i < 32
  · exact (show ∀ (C : Fin 13) (i : Fin 32), gB ((1 <<< (nI C.val &&& 31)) - 1) i.val = decide (i.val < C.val) by decide +kernel) ⟨N, by omega⟩ ⟨i, hi⟩
  · rw [gB_32 (by omega), decide_eq_false (by omega)]
theorem cX_self : ∀ n, cX v P P n = 0 := by
  intro n
  induction n with
  | zero => rfl
  | succ n ih => rw [cX, ih, Bool.and_not_self]; rfl
/-- the sets to choose from: those with P in them -/
abbrev hidB (v : Nat → Int) (P : Int32) (nd : Int) (R C : Nat) (b : Int32 × Int) : Prop := best (fun T => goodS v P T nd R C (R * C)) (fun T => cX v P T (R * C)) (btw P (allN (R * C) &&& (P ^^^ (-1)))) (-1, 2147483647) b
def hidS (N : Nat) (b : Int32 × Int) : Int32 := if b.1.toInt = -1 then allN N else b.1
def hidV (b : Int32 × Int) : Int32 := if b.1.toInt = -1 then -1 else iZ b.2
theorem or_all {N : Nat} (hN : N ≤ 12) (hp : ∀ i, N ≤ i → gB P i = false) : P ||| (allN N &&& (P ^^^ (-1))) = allN N := gB_ext fun i hi => by
  rw [gB_or, gB_and, gB_not _ hi, gB_all hN]
  by_cases l : i < N
  · rw [decide_eq_true l]; cases gB P i <;> rfl
  · rw [decide_eq_false l, hp i (by omega)]; rfl
def hdF (h : aH) (a : Nat) (I : Nat → Nat → Int32) : Prop := (∀ b, b ≠ a → I b = gI h b) ∧ ∀ i, i < 12 → I a i = gI h a i
theorem c_hide {K : Int32 → aH → Prop} {a pa sm cn mx : Nat} {P0 : Int32} (hd : hdT h a pa sm R C w P0) (hc : gR h a 8 = cn ∧ gK h cn = 100 ∧ gL h cn = R * C ∧ ∀ k, k < R * C → gI h cn k = nc k) (hm : gR h a 9 = mx ∧ gK h mx = 100 ∧ gL h mx = R * C ∧ ∀ k, k < R * C → gI h mx k = mv k)
    (kk : ∀ I1 b1, hdF h a I1 → I1 a 12 = bits (pmB w nc mv l1 l2) (R * C) → I1 a 13 = hidS (R * C) b1 → hidB (fun k => (w k).toInt) (bits (pmB w nc mv l1 l2) (R * C)) nd.toInt R C b1 → K (hidV b1) (hU h I1 J)) : CI (d + 20) 283 [vR a, vI l1, vI l2, vI nd] (hU h (gI h) J) K X := by
  have hd0 := hd
  obtain ⟨⟨⟨k0, e0⟩, ⟨⟨R1, R4⟩, C1, C3⟩, ⟨i4, i5⟩, ⟨q11, kp, lp⟩, ps, hv⟩, ⟨q7, ks, ls, vs⟩, i6, i12⟩ := hd
  obtain ⟨q8, kc, lc, vc⟩ := hc
  obtain ⟨q9, km, lm, vm⟩ := hm
  have m12 : R * C ≤ 4 * 3 := Nat.mul_le_mul R4 C3
  have NI : (nI (R * C)).toInt = ((R * C : Nat) : Int) := ti_n (by omega)
  have nsm : sm ≠ a := fun e => by rw [e, k0] at ks; cases ks
  have ncn : cn ≠ a := fun e => by rw [e, k0] at kc; cases kc
  have nmx : mx ≠ a := fun e => by rw [e, k0] at km; cases km
  have npa : pa ≠ a := fun e => by rw [e, k0] at kp; cases kp
  generalize hP : bits (pmB w nc mv l1 l2) (R * C) = PM at *
  have pmx : ∀ i, R * C ≤ i → gB PM i = false := fun i hi => by rw [← hP, gB_bits _ (by omega), decide_eq_false (by omega), Bool.false_and]
  -- the end
  have fin : ∀ (I1 : Nat → Nat → Int32) (b1 : Int32 × Int), hdF h a I1 → I1 a 12 = PM → I1 a 14 = b1.1 → (I1 a 15).toInt = b1.2 → hidB (fun k => (w k).toInt) PM nd.toInt R C b1 → Wp (d + 20) 283 (146, [some (vR a), none, none, none, some (vI (allN (R * C))), none], [], hU h I1 J) (RI K X) := fun I1 b1 f1 f2 f3 f4 f5 => by
    have fr9 : ∀ x, hdF h a (uI I1 a 13 x) := fun x => ⟨fun b hb => by rw [uI_ne _ _ _ hb]; exact f1.1 b hb, fun i hi => by rw [uI_app, if_neg (by omega)]; exact f1.2 i hi⟩
    have f2' : ∀ x, (uI I1 a 13 x) a 12 = PM := fun x => by rw [uI_app, if_neg (by omega)]; exact f2
    have k9 := fun x (hx : x = hidS (R * C) b1) => kk (uI I1 a 13 x) b1 (fr9 x) (f2' x) (by rw [uI_same, hx]) f5
    have e15 : I1 a 15 = iZ b1.2 := ti_inj (by rw [f4, ti_z]; rw [← f4]; exact ti_lo _; rw [← f4]; exact ti_hi _)
    unfold hidS hidV at k9
    refine w283_146 ?_
    simp only [↓forall_eq, ↓inB_iff, gK_hU, gL_hU, gR_hU, gIh, gJh, pI_hU, pJ_hU, hU_hU, uI_app, uJ_app, and_true, true_and, and_false, false_and, and_self, true_implies, false_implies, not_true, not_false_iff, if_true, if_false, eq_self, Nat.reduceLeDiff, Nat.reduceEqDiff, reduceCtorEq, i32c, ti0, ti1, tiM, Int.natCast_nonneg, Int.reduceEq, Int.reduceLE, Int.reduceLT, Int.reduceNeg, tl_i, Int32.reduceToInt, Int64.reduceToInt, tiA, tlM6, Int.toNat_natCast, natc, nI_1, Int.zero_sub, implies_true, not_false_eq_true, k0, e0, f3, e15]
    refine ⟨fun z => ?_, fun z => ?_⟩
    · simp only [z, if_true] at k9
      simp only [z, if_true, if_false, not_true, false_implies, and_true, true_implies]
      exact k9 _ rfl
    · simp only [z, if_false] at k9
      simp only [z, if_true, if_false, not_true, false_implies, and_true, true_and, true_implies, not_false_iff]
      exact k9 _ rfl
  -- the search
  have srch : ∀ I0 : Nat → Nat → Int32, (∀ b, b ≠ a → I0 b = gI h b) → (∀ i, i ≠ 12 → I0 a i = gI h a i) → I0 a 12 = PM → Wp (d + 20) 283 (8, [some (vR a), some (vI l1), some (vI l2), some (vI nd), some (vI (nI (R * C))), none], [], hU h I0 J) (RI K X) := fun I0 f1 f2 f3 => by
    have hd1 : hdT (hU h (uI (uI I0 a 14 (-1)) a 15 2147483647) J) a pa sm R C w PM := by
      refine ⟨⟨⟨k0, e0⟩, ⟨⟨R1, R4⟩, C1, C3⟩, ⟨?_, ?_⟩, ⟨q11, kp, lp⟩, ?_, hv⟩, ⟨q7, ks, ls, ?_⟩, ?_, ?_⟩
      · rw [gIh, uI_app, if_neg (by omega), uI_app, if_neg (by omega), f2 4 (by decide)]; exact i4
      · rw [gIh, uI_app, if_neg (by omega), uI_app, if_neg (by omega), f2 5 (by decide)]; exact i5
      · rw [gIh, uI_ne _ _ _ npa, uI_ne _ _ _ npa, f1 pa npa]; exact ps
      · rw [gIh, uI_ne _ _ _ nsm, uI_ne _ _ _ nsm, f1 sm nsm]; exact vs
      · rw [gIh, uI_app, if_neg (by omega), uI_app, if_neg (by omega), f2 6 (by decide)]; exact i6
      · rw [gIh, uI_app, if_neg (by omega), uI_app, if_neg (by omega)]; exact f3
    generalize hI1 : uI (uI I0 a 14 (-1)) a 15 2147483647 = I1 at *
    have g1 : ∀ b, b ≠ a → I1 b = gI h b := fun b hb => by rw [← hI1, uI_ne _ _ _ hb, uI_ne _ _ _ hb]; exact f1 b hb
    have g2 : ∀ i, i < 12 → I1 a i = gI h a i := fun i hi => by rw [← hI1, uI_app, if_neg (by omega), uI_app, if_neg (by omega)]; exact f2 i (by omega)
    have g12 : I1 a 12 = PM := hd1.2.2.2
    have g14 : I1 a 14 = -1 := by rw [← hI1, uI_app, if_neg (by omega), uI_same]
    have g15 : (I1 a 15).toInt = 2147483647 := by rw [← hI1, uI_same]; rfl
    have GB := fun (K : Int32 → aH → Prop) X => good_br (d := d + 16) (T := allN (R * C)) (nd := nd) (K := K) (X := X) hd1
    have i6' : I0 a 6 = nI (R * C) := by rw [f2 6 (by decide)]; exact i6
    refine w283_8 ?_
    simp only [↓forall_eq, ↓inB_iff, gK_hU, gL_hU, gR_hU, gIh, gJh, pI_hU, pJ_hU, hU_hU, uI_app, uJ_app, and_true, true_and, and_false, false_and, and_self, true_implies, false_implies, not_true, not_false_iff, if_true, if_false, eq_self, Nat.reduceLeDiff, Nat.reduceEqDiff, reduceCtorEq, i32c, ti0, ti1, tiM, Int.natCast_nonneg, Int.reduceEq, Int.reduceLE, Int.reduceLT, Int.reduceNeg, tl_i, Int32.reduceToInt, Int64.reduceToInt, tiA, tlM6, Int.toNat_natCast, natc, nI_1, Int.zero_sub, implies_true, not_false_eq_true, k0, e0, i6', Int.lt_irrefl, hI1, ↓GB, bI0, g12]
    have orr := or_all (N := R * C) (P := PM) (by omega) pmx
    refine ⟨fun z => fin I1 (-1, 2147483647) ⟨g1, g2⟩ g12 g14 g15 (best_none fun T hT => ?_), fun z => ?_⟩
    · cases hh : goodS (fun k => (w k).toInt) PM T nd.toInt R C (R * C)
      · rfl
      · have := hT.2
        rw [orr] at this
        rw [good_mo hv R4 C3 this _ hh] at z; cases z
    · have cp := c_pick (d := d + 13 - R * C) (J := J) (X := X) (nd := nd) hd1 (R * C) (fun h4 => Wp (d + 20) 283 (146, [some (vR a), none, none, none, some (vI (allN (R * C))), none], [], h4) (RI K X)) PM (allN (R * C) &&& (PM ^^^ (-1))) 0 I1 (-1, 2147483647) (Nat.le_refl _) (fun i hi => by rw [gB_and, gB_all (by omega), decide_eq_false (by omega), Bool.false_and]) (fun i hi => by
        rw [gB_and] at hi
        by_cases l : i < 32
        · rw [gB_not _ l] at hi
          cases hh : gB PM i
          · rfl
          · rw [hh, Bool.not_true, Bool.and_false] at hi; cases hi
        · exact gB_32 (by omega)) (fun i hi => hi) (by rw [orr]; exact bnf z) (by rw [cX_self]; rfl) ⟨fun b hb => rfl, fun i _ _ => rfl⟩ g14 g15 (fun I2 b1 w1 w2 w3 w4 => fin I2 b1 ⟨fun b hb => (w1.1 b hb).trans (g1 b hb), fun i hi => (w1.2 i (by omega) (by omega)).trans (g2 i hi)⟩ ((w1.2 12 (by decide) (by decide)).trans g12) w2 w3 w4)
      rw [show d + 13 - R * C + R * C + 6 = d + 19 by omega] at cp
      exact cp
  refine m283 ?_
  have main : ∀ (n p : Nat) (I0 : Nat → Nat → Int32), p + n = R * C → (∀ b, b ≠ a → I0 b = gI h b) → (∀ i, i ≠ 12 → I0 a i = gI h a i) → I0 a 12 = bits (pmB w nc mv l1 l2) p → Wp (d + 20) 283 (8, [some (vR a), some (vI l1), some (vI l2), some (vI nd), some (vI (nI p)), none], [], hU h I0 J) (RI K X) := by
    intro n
    induction n with
    | zero =>
      intro p I0 hp f1 f2 f3
      have hpc : p = R * C := by omega
      subst hpc
      exact srch I0 f1 f2 (by rw [f3]; exact hP)
    | succ n ih =>
      intro p I0 hp f1 f2 f3
      have hpI : (nI p).toInt = p := ti_n (by omega)
      have zp : (p : Int) < ((R * C : Nat) : Int) := by omega
      have i6' : I0 a 6 = nI (R * C) := by rw [f2 6 (by decide)]; exact i6
      have vc' : I0 cn p = nc p := by rw [f1 cn ncn]; exact vc p (by omega)
      have vm' : I0 mx p = mv p := by rw [f1 mx nmx]; exact vm p (by omega)
      have vs' : I0 sm p = w p := by rw [f1 sm nsm]; exact vs p (by omega)
      have no : pmB w nc mv l1 l2 p = false → Wp (d + 20) 283 (8, [some (vR a), some (vI l1), some (vI l2), some (vI nd), some (vI (nI (p + 1))), none], [], hU h I0 J) (RI K X) := fun z => ih (p + 1) I0 (by omega) f1 f2 (by rw [f3, bits, if_neg (by rw [z]; decide)])
      have yes : pmB w nc mv l1 l2 p = true → Wp (d + 20) 283 (8, [some (vR a), some (vI l1), some (vI l2), some (vI nd), some (vI (nI (p + 1))), none], [], hU h (uI I0 a 12 (I0 a 12 ||| (1 <<< (nI p &&& 31)))) J) (RI K X) := fun z => ih (p + 1) _ (by omega) (fun b hb => by rw [uI_ne _ _ _ hb]; exact f1 b hb) (fun i hi => by rw [uI_app, if_neg (by omega)]; exact f2 i hi) (by rw [uI_same, f3, bits, if_pos z])
      refine w283_8 ?_
      simp only [↓forall_eq, ↓inB_iff, gK_hU, gL_hU, gR_hU, gIh, gJh, pI_hU, pJ_hU, hU_hU, uI_app, uJ_app, and_true, true_and, and_false, false_and, and_self, true_implies, false_implies, not_true, not_false_iff, if_true, if_false, eq_self, Nat.reduceLeDiff, Nat.reduceEqDiff, reduceCtorEq, i32c, ti0, ti1, tiM, Int.natCast_nonneg, Int.reduceEq, Int.reduceLE, Int.reduceLT, Int.reduceNeg, tl_i, Int32.reduceToInt, Int64.reduceToInt, tiA, tlM6, Int.toNat_natCast, natc, nI_1, Int.zero_sub, implies_true, not_false_eq_true, k0, e0, i6', NI, hpI, zp, q7, q8, q9, ks, ls, kc, lc, km, lm, vc', vm', vs']
      unfold pmB at no yes
      refine ⟨fun a1 => ⟨fun a2 => yes ?_, fun a2 => ⟨fun a3 => yes ?_, fun a3 => no ?_⟩⟩, fun a1 => ⟨fun a3 => yes ?_, fun a3 => no ?_⟩⟩
      · rw [decide_eq_true a1, decide_eq_true a2]; rfl
      · rw [decide_eq_true a3, Bool.or_true]
      · rw [decide_eq_false a2, decide_eq_false a3, Bool.and_false]; rfl
      · rw [decide_eq_true a3, Bool.or_true]
      · rw [decide_eq_false a1, decide_eq_false a3]; rfl
  simp only [↓forall_eq, ↓inB_iff, gK_hU, gL_hU, gR_hU, gIh, gJh, pI_hU, pJ_hU, hU_hU, uI_app, uJ_app, and_true, true_and, and_false, false_and, and_self, true_implies, false_implies, not_true, not_false_iff, if_true, if_false, eq_self, Nat.reduceLeDiff, Nat.reduceEqDiff, reduceCtorEq, i32c, ti0, ti1, tiM, Int.natCast_nonneg, Int.reduceEq, Int.reduceLE, Int.reduceLT, Int.reduceNeg, tl_i, Int32.reduceToInt, Int64.reduceToInt, tiA, tlM6, Int.toNat_natCast, natc, nI_1, Int.zero_sub, implies_true, not_false_eq_true, k0, e0]
  exact main (R * C) 0 _ (by omega) (fun b hb => by rw [uI_ne _ _ _ hb]) (fun i hi => by rw [uI_app, if_neg (by omega)]) (by rw [uI_same]; rfl)
end HDC
