/-! SAMPLES: keys, ranks, divisors; the class draws -/
section SDR
variable {d U n fr : Nat} {h : aH} {X : Nat → aH → Prop} {st : Nat → Int32} {sd x y : Int32}
def keyS (x y : Int32) : Int32 :=
  let v1 := (x ^^^ (y * (-1640531527))) * (-2048144789)
  let v3 := (v1 ^^^ (aUshr v1 13)) * (-1028477387)
  v3 ^^^ (aUshr v3 16)
theorem key_br {K : Int32 → aH → Prop} {a : Nat} : CI d 232 [vR a, vI x, vI y] h K X ↔ K (keyS x y) h := CI_iff fun K X w => m232 (fun v0 e0 v1 e1 v2 e2 v3 e3 => by subst e3 e2 e1 e0; exact w)
theorem keyM_br {K : Int32 → aH → Prop} : CI d 239 [vI x, vI y] h K X ↔ K (keyS x y) h := CI_iff fun K X w => m239 (fun v0 e0 v1 e1 v2 e2 v3 e3 => by subst e3 e2 e1 e0; exact w)
/-- j comes before i in their stratum -/
def bkS (st : Nat → Int32) (sd : Int32) (i j : Nat) : Bool := eqS st i j && (decide ((keyS sd (nI j)).toInt < (keyS sd (nI i)).toInt) || (decide ((keyS sd (nI j)).toInt = (keyS sd (nI i)).toInt) && decide (j < i)))
theorem rank_br {K : Int32 → aH → Prop} {r0 dr p : Nat} (u9 : U ≤ 100) (hr : gK h r0 = 9 ∧ 8 ≤ r0 ∧ gR h r0 2 = dr) (hd : gK h dr = 102 ∧ gL h dr = U) (hs : gK h 16 = 100 ∧ gL h 16 = 100) (hst : ∀ i, i < U → gI h 16 i = st i) (hp : p < U) : CI (d + 1) 233 [vR r0, vR 16, vI (nI p), vI sd] h K X ↔ K (nI (cntP (bkS st sd p) U)) h := by
  obtain ⟨rk, r8, rd⟩ := hr
  obtain ⟨dk, dl⟩ := hd
  obtain ⟨sk, sl⟩ := hs
  have hUI : (nI U).toInt = U := ti_n (by omega)
  have hpI : (nI p).toInt = p := ti_n (by omega)
  have z100 : (p : Int) < 100 := by omega
  have kb : 100 ≤ 102 ∧ 102 ≤ 106 := by decide
  refine CI_iff fun K X w => m233 ?_
  simp only [↓forall_eq, ↓inB_iff, gK_hU, gL_hU, gR_hU, gIh, gJh, pI_hU, pJ_hU, hU_hU, uI_app, uJ_app, and_true, true_and, and_false, false_and, and_self, true_implies, false_implies, not_true, not_false_iff, if_true, if_false, eq_self, Nat.reduceLeDiff, Nat.reduceEqDiff, reduceCtorEq, i32c, ti0, ti1, tiM, Int.natCast_nonneg, Int.reduceEq, Int.reduceLE, Int.reduceLT, Int.reduceNeg, tl_i, Int32.reduceToInt, Int64.reduceToInt, tiA, tlM6, Int.toNat_natCast, natc, nI_1, Int.zero_sub, implies_true, not_false_eq_true, rk, r8, ↓key_br]
  have main : ∀ (m q : Nat), q + m = U → Wp (d + 1) 233 (14, [some (vR r0), some (vR 16), some (vI (nI p)), some (vI sd), some (vI (nI (cntP (bkS st sd p) q))), some (vI (keyS sd (nI p))), some (vI (nI q)), none], [], h) (RI K X) := by
    intro m
    induction m with
    | zero =>
      intro q hq
      have hqc : q = U := by omega
      subst hqc
      refine w233_14 ?_
      simp only [↓forall_eq, ↓inB_iff, gK_hU, gL_hU, gR_hU, gIh, gJh, pI_hU, pJ_hU, hU_hU, uI_app, uJ_app, and_true, true_and, and_false, false_and, and_self, true_implies, false_implies, not_true, not_false_iff, if_true, if_false, eq_self, Nat.reduceLeDiff, Nat.reduceEqDiff, reduceCtorEq, i32c, ti0, ti1, tiM, Int.natCast_nonneg, Int.reduceEq, Int.reduceLE, Int.reduceLT, Int.reduceNeg, tl_i, Int32.reduceToInt, Int64.reduceToInt, tiA, tlM6, Int.toNat_natCast, natc, nI_1, Int.zero_sub, implies_true, not_false_eq_true, rk, rd, dk, dl, kb, Int.lt_irrefl]
      exact w
    | succ m ih =>
      intro q hq
      have nx := ih (q + 1) (by omega)
      rw [cntP] at nx
      have hqI : (nI q).toInt = q := ti_n (by omega)
      have zq : (q : Int) < U := by omega
      have zq1 : (q : Int) < 100 := by omega
      have sp : gI h 16 p = st p := hst p (by omega)
      have sq : gI h 16 q = st q := hst q (by omega)
      have yes : bkS st sd p q = true → Wp (d + 1) 233 (14, [some (vR r0), some (vR 16), some (vI (nI p)), some (vI sd), some (vI (nI (cntP (bkS st sd p) q + 1))), some (vI (keyS sd (nI p))), some (vI (nI (q + 1))), none], [], h) (RI K X) := fun z => by rw [if_pos z] at nx; exact nx
      have no : bkS st sd p q = false → Wp (d + 1) 233 (14, [some (vR r0), some (vR 16), some (vI (nI p)), some (vI sd), some (vI (nI (cntP (bkS st sd p) q))), some (vI (keyS sd (nI p))), some (vI (nI (q + 1))), none], [], h) (RI K X) := fun z => by rw [if_neg (by rw [z]; decide), Nat.add_zero] at nx; exact nx
      have no0 : bkS st sd p q = false → Wp (d + 1) 233 (14, [some (vR r0), some (vR 16), some (vI (nI p)), some (vI sd), some (vI (nI (cntP (bkS st sd p) q) + 0)), some (vI (keyS sd (nI p))), some (vI (nI (q + 1))), none], [], h) (RI K X) := fun z => by rw [Int32.add_zero]; exact no z
      refine w233_14 ?_
      simp only [↓forall_eq, ↓inB_iff, gK_hU, gL_hU, gR_hU, gIh, gJh, pI_hU, pJ_hU, hU_hU, uI_app, uJ_app, and_true, true_and, and_false, false_and, and_self, true_implies, false_implies, not_true, not_false_iff, if_true, if_false, eq_self, Nat.reduceLeDiff, Nat.reduceEqDiff, reduceCtorEq, i32c, ti0, ti1, tiM, Int.natCast_nonneg, Int.reduceEq, Int.reduceLE, Int.reduceLT, Int.reduceNeg, tl_i, Int32.reduceToInt, Int64.reduceToInt, tiA, tlM6, Int.toNat_natCast, natc, nI_1, Int.zero_sub, implies_true, not_false_eq_true, rk, r8, rd, dk, dl, kb, hUI, hqI, hpI, zq, zq1, z100, sk, sl, sp, sq, ↓key_br]
      refine ⟨fun e => ?_, fun e => no (by unfold bkS eqS; rw [decide_eq_false e]; rfl)⟩
      have hE : eqS st p q = true := decide_eq_true e
      refine ⟨fun c => yes ?_, fun c => ⟨fun c2 => ⟨fun c3 => yes ?_, fun c3 => no0 ?_⟩, fun c2 => no0 ?_⟩⟩
      · unfold bkS; rw [hE, decide_eq_true c]; rfl
      · unfold bkS; rw [hE, decide_eq_true c2, decide_eq_true (show q < p by omega)]; simp
      · unfold bkS; rw [hE, decide_eq_false c, decide_eq_false (show ¬ q < p by omega)]; simp
      · unfold bkS; rw [hE, decide_eq_false c, decide_eq_false c2]; simp
  exact main U 0 (by omega)
theorem gcd_br {K : Int32 → aH → Prop} {a0 a b : Nat} (a9 : a ≤ 20000) (b9 : b ≤ 100) : CI (d + 1) 234 [vR a0, vI (nI a), vI (nI b)] h K X ↔ K (nI (Nat.gcd a b)) h := by
  have haI : (nI a).toInt = a := ti_n (by omega)
  have hbI : (nI b).toInt = b := ti_n (by omega)
  refine CI_iff fun K X w => m234 ?_
  have main : ∀ (m k u v : Nat), k + m = 100 → u ≤ 20000 → v + k ≤ 100 → Nat.gcd u v = Nat.gcd a b → Wp (d + 1) 234 (16, [none, none, none, some (vI (nI u)), some (vI (nI v)), some (vI (nI k)), none], [], h) (RI K X) := by
    intro m
    induction m with
    | zero =>
      intro k u v hk hu hv e
      have hv0 : v = 0 := by omega
      subst hv0
      rw [Nat.gcd_zero_right] at e
      have t100 : (nI k).toInt = 100 := by rw [ti_n (by omega)]; omega
      refine w234_16 ⟨fun c => by rw [t100] at c; omega, fun _ => ?_⟩
      rw [e]; exact w
    | succ m ih =>
      intro k u v hk hu hv e
      have hkI : (nI k).toInt = k := ti_n (by omega)
      have hvI : (nI v).toInt = v := ti_n (by omega)
      have zk : (k : Int) < 100 := by omega
      refine w234_16 ?_
      simp only [↓forall_eq, ↓inB_iff, gK_hU, gL_hU, gR_hU, gIh, gJh, pI_hU, pJ_hU, hU_hU, uI_app, uJ_app, and_true, true_and, and_false, false_and, and_self, true_implies, false_implies, not_true, not_false_iff, if_true, if_false, eq_self, Nat.reduceLeDiff, Nat.reduceEqDiff, reduceCtorEq, i32c, ti0, ti1, tiM, Int.natCast_nonneg, Int.reduceEq, Int.reduceLE, Int.reduceLT, Int.reduceNeg, tl_i, Int32.reduceToInt, Int64.reduceToInt, tiA, tlM6, Int.toNat_natCast, natc, nI_1, Int.zero_sub, implies_true, not_false_eq_true, hkI, hvI, zk]
      refine ⟨fun c => ⟨fun e0 => by rw [e0] at hvI; have : (0 : Int32).toInt = 0 := rfl; omega, ?_⟩, fun c => ?_⟩
      · rw [nI_rem (by omega) (by omega)]
        have hm : u % v < v := Nat.mod_lt _ (by omega)
        refine ih (k + 1) v (u % v) (by omega) (by omega) (by omega) ?_
        rw [← e, Nat.gcd_comm v, ← Nat.gcd_rec, Nat.gcd_comm]
      · have hv0 : v = 0 := by omega
        subst hv0
        rw [Nat.gcd_zero_right] at e
        rw [e]; exact w
  rw [max_br, min_br, haI, hbI]
  by_cases c : (a : Int) < b
  · rw [if_pos c, if_neg (by omega)]
    exact main 100 0 b a (by omega) (by omega) (by omega) (Nat.gcd_comm _ _)
  · rw [if_neg c]
    by_cases c2 : (b : Int) < a
    · rw [if_pos c2]; exact main 100 0 a b (by omega) a9 (by omega) rfl
    · rw [if_neg c2]
      have e : a = b := by omega
      subst e
      exact main 100 0 a a (by omega) a9 (by omega) rfl
theorem c_newSam {K : aH → Prop} {r0 : Nat} (u9 : U ≤ 100) (hN : 8 ≤ gN h) (hr : r0 < gN h ∧ 8 ≤ r0 ∧ gK h r0 = 9)
    (kk : ∀ h4, keeps h h4 (fun q => q = r0) → gN h4 = gN h + 3 → gT h4 ≤ gT h + 300 → (∀ j, j < 3 → gK h4 (gN h + j) = (if j = 2 then 102 else 100) ∧ gL h4 (gN h + j) = U ∧ ∀ i, gI h4 (gN h + j) i = 0) → (gR h4 r0 0 = gN h ∧ gR h4 r0 1 = gN h + 1 ∧ gR h4 r0 2 = gN h + 2) → K h4) : CV (d + 1) 229 [vR r0, vI (nI U)] h K X := by
  obtain ⟨hr1, hr2, hr3⟩ := hr
  have hUI : (nI U).toInt = U := ti_n (by omega)
  have mx : (if (0 : Int32).toInt < (nI U).toInt then nI U else 0) = nI U := by
    rw [hUI]
    by_cases c : (0 : Int32).toInt < (U : Int)
    · rw [if_pos c]
    · rw [if_neg c]
      have t0 : (0 : Int32).toInt = 0 := rfl
      exact ti_inj (by rw [hUI, t0]; rw [t0] at c; omega)
  generalize hN0 : gN h = N at *
  have n1 : r0 ≠ N := by omega
  have n2 : r0 ≠ N + 1 := by omega
  have n3 : r0 ≠ N + 1 + 1 := by omega
  have m1 : N ≠ N + 1 := by omega
  have m2 : N ≠ N + 1 + 1 := by omega
  have m3 : N + 1 ≠ N := by omega
  have m4 : N + 1 ≠ N + 1 + 1 := by omega
  have m5 : N + 1 + 1 ≠ N := by omega
  have m6 : N + 1 + 1 ≠ N + 1 := by omega
  refine m229 ⟨hr2, ?_⟩
  rw [max_br, mx]
  refine ⟨U, rfl, by omega, fun a1 g1 x1 y1 => ⟨?_, fun g2 y2 => ?_⟩⟩
  · subst y1; simp only [gN_pR, gT_pR, gK_pR, gL_pR, gR_pR, gI_pR, gJ_pR, gN_gNew, gT_gNew, gK_gNew, gL_gNew, gR_gNew, gI_gNew, gJ_gNew, hN0, n1, if_false]; exact hr3
  rw [max_br, mx]
  refine ⟨U, rfl, by omega, fun a2 g3 x2 y3 => ⟨?_, fun g4 y4 => ?_⟩⟩
  · subst y3 y2 y1; simp only [gN_pR, gT_pR, gK_pR, gL_pR, gR_pR, gI_pR, gJ_pR, gN_gNew, gT_gNew, gK_gNew, gL_gNew, gR_gNew, gI_gNew, gJ_gNew, hN0, n1, n2, if_false]; exact hr3
  rw [max_br, mx]
  refine ⟨U, rfl, by omega, fun a3 g5 x3 y5 => ⟨?_, fun g6 y6 => ?_⟩⟩
  · subst y5 y4 y3 y2 y1; simp only [gN_pR, gT_pR, gK_pR, gL_pR, gR_pR, gI_pR, gJ_pR, gN_gNew, gT_gNew, gK_gNew, gL_gNew, gR_gNew, gI_gNew, gJ_gNew, hN0, n1, n2, n3, if_false]; exact hr3
  have q1 : a1 = N := by rw [x1]; exact hN0
  have q2 : a2 = N + 1 := by rw [x2]; subst y2 y1; simp only [gN_pR, gT_pR, gK_pR, gL_pR, gR_pR, gI_pR, gJ_pR, gN_gNew, gT_gNew, gK_gNew, gL_gNew, gR_gNew, gI_gNew, gJ_gNew, hN0]
  have q3 : a3 = N + 1 + 1 := by rw [x3]; subst y4 y3 y2 y1; simp only [gN_pR, gT_pR, gK_pR, gL_pR, gR_pR, gI_pR, gJ_pR, gN_gNew, gT_gNew, gK_gNew, gL_gNew, gR_gNew, gI_gNew, gJ_gNew, hN0]
  subst q1 q2 q3
  refine kk g6 ⟨?_, ?_, fun a ha => ?_, fun a ha hp => ?_⟩ ?_ ?_ (fun j hj => ?_) ⟨?_, ?_, ?_⟩
  · subst y6 y5 y4 y3 y2 y1; simp only [gN_pR, gT_pR, gK_pR, gL_pR, gR_pR, gI_pR, gJ_pR, gN_gNew, gT_gNew, gK_gNew, gL_gNew, gR_gNew, gI_gNew, gJ_gNew, hN0]; omega
  · subst y6 y5 y4 y3 y2 y1; simp only [gN_pR, gT_pR, gK_pR, gL_pR, gR_pR, gI_pR, gJ_pR, gN_gNew, gT_gNew, gK_gNew, gL_gNew, gR_gNew, gI_gNew, gJ_gNew, hN0]; omega
  · have l1 : a ≠ a1 := by omega
    have l2 : a ≠ a1 + 1 := by omega
    have l3 : a ≠ a1 + 1 + 1 := by omega
    subst y6 y5 y4 y3 y2 y1
    simp only [gN_pR, gT_pR, gK_pR, gL_pR, gR_pR, gI_pR, gJ_pR, gN_gNew, gT_gNew, gK_gNew, gL_gNew, gR_gNew, gI_gNew, gJ_gNew, hN0, l1, l2, l3, if_false, and_self]
  · have l1 : a ≠ a1 := by omega
    have l2 : a ≠ a1 + 1 := by omega
    have l3 : a ≠ a1 + 1 + 1 := by omega
    subst y6 y5 y4 y3 y2 y1
    refine ⟨?_, ?_, fun j => ?_, fun j => ?_, fun j => ?_⟩ <;> simp only [gN_pR, gT_pR, gK_pR, gL_pR, gR_pR, gI_pR, gJ_pR, gN_gNew, gT_gNew, gK_gNew, gL_gNew, gR_gNew, gI_gNew, gJ_gNew, hN0, l1, l2, l3, hp, false_and, if_false]
  · subst y6 y5 y4 y3 y2 y1; simp only [gN_pR, gT_pR, gK_pR, gL_pR, gR_pR, gI_pR, gJ_pR, gN_gNew, gT_gNew, gK_gNew, gL_gNew, gR_gNew, gI_gNew, gJ_gNew, hN0]
  · subst y6 y5 y4 y3 y2 y1; simp only [gN_pR, gT_pR, gK_pR, gL_pR, gR_pR, gI_pR, gJ_pR, gN_gNew, gT_gNew, gK_gNew, gL_gNew, gR_gNew, gI_gNew, gJ_gNew, hN0]; omega
  · have : j = 0 ∨ j = 1 ∨ j = 2 := by omega
    subst y6 y5 y4 y3 y2 y1
    rcases this with e | e | e <;> subst e
    · simp only [gN_pR, gT_pR, gK_pR, gL_pR, gR_pR, gI_pR, gJ_pR, gN_gNew, gT_gNew, gK_gNew, gL_gNew, gR_gNew, gI_gNew, gJ_gNew, hN0, Nat.add_zero, m1, m2, if_true, if_false, Nat.reduceEqDiff, implies_true, and_self]
    · simp only [gN_pR, gT_pR, gK_pR, gL_pR, gR_pR, gI_pR, gJ_pR, gN_gNew, gT_gNew, gK_gNew, gL_gNew, gR_gNew, gI_gNew, gJ_gNew, hN0, m3, m4, if_true, if_false, Nat.reduceEqDiff, implies_true, and_self]
    · have e2 : a1 + 2 = a1 + 1 + 1 := rfl
      simp only [gN_pR, gT_pR, gK_pR, gL_pR, gR_pR, gI_pR, gJ_pR, gN_gNew, gT_gNew, gK_gNew, gL_gNew, gR_gNew, gI_gNew, gJ_gNew, hN0, e2, m5, m6, if_true, if_false, implies_true, and_self]
  · subst y6 y5 y4 y3 y2 y1; simp only [gN_pR, gT_pR, gK_pR, gL_pR, gR_pR, gI_pR, gJ_pR, gN_gNew, gT_gNew, gK_gNew, gL_gNew, gR_gNew, gI_gNew, gJ_gNew, hN0, true_and, if_true, if_false, Nat.reduceEqDiff, n1, n2, n3]
  · subst y6 y5 y4 y3 y2 y1; simp only [gN_pR, gT_pR, gK_pR, gL_pR, gR_pR, gI_pR, gJ_pR, gN_gNew, gT_gNew, gK_gNew, gL_gNew, gR_gNew, gI_gNew, gJ_gNew, hN0, true_and, if_true, if_false, Nat.reduceEqDiff, n1, n2, n3]
  · subst y6 y5 y4 y3 y2 y1; simp only [gN_pR, gT_pR, gK_pR, gL_pR, gR_pR, gI_pR, gJ_pR, gN_gNew, gT_gNew, gK_gNew, gL_gNew, gR_gNew, gI_gNew, gJ_gNew, hN0, true_and, if_true, if_false, Nat.reduceEqDiff, n1, n2, n3]
end SDR
