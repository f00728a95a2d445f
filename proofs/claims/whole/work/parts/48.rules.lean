/-! RULES: what breaks them -/
section RUL
variable {d U nf ns nr k f s r ai : Nat} {it : Nat → Int32} {h h1 h2 g : aH} {A A1 o o1 : Nat → Nat} {X : Nat → aH → Prop} {M M2 : Nat → Nat → Int32} {I I1 I2 : Nat → Nat → Int32} {J J2 : Nat → Nat → Int64} {C : Nat → Prop} {E : Nat → Nat → List Tm} {Cn : Nat → Nat → List Cmp}
/-- a side of a rule -/
def rsd (it : Nat → Int32) (a : Int32) : Int := if a.toInt = -1 then 0 else (it a.toInt.toNat).toInt
/-- by how much a rule is broken; 0 or less: it is kept -/
def rxs (M : Nat → Nat → Int32) (f : Nat) (it : Nat → Int32) (r : Nat) : Int := if rsd it (M 82 (16 * f + r)) = -2000000 ∨ rsd it (M 83 (16 * f + r)) = -2000000 then 0 else rsd it (M 82 (16 * f + r)) - rsd it (M 83 (16 * f + r)) - (M 84 (16 * f + r)).toInt
def cBr (M : Nat → Nat → Int32) (f : Nat) (it : Nat → Int32) : Nat → Nat
  | 0 => 0
  | n + 1 => cBr M f it n + if 0 < rxs M f it n then 1 else 0
/-- items to look at -/
def itA (h : aH) (ai n : Nat) (it : Nat → Int32) : Prop := gK h ai = 100 ∧ gL h ai = 20 ∧ ∀ i, i < n → gI h ai i = it i
theorem bnd_le {n m : Nat} (b : bndI n it) (hm : m ≤ n) : bndI m it := fun i hi => b i (by omega)
theorem rl_rng {a : Int32} (ha : rlA M f a) (c20 : cnM M f ≤ 20) : a.toInt = -1 ∨ (0 ≤ a.toInt ∧ a.toInt < 20 ∧ a.toInt < cnM M f) := by
  rcases ha with e | e
  · rw [e]; exact Or.inl rfl
  · omega
theorem rsd_b {a : Int32} (ha : rlA M f a) (c20 : cnM M f ≤ 20) (bi : bndI (cnM M f) it) : rsd it a = -2000000 ∨ (-1000000 ≤ rsd it a ∧ rsd it a ≤ 1000000) := by
  unfold rsd
  split
  · exact Or.inr (by omega)
  · rename_i q
    rcases rl_rng ha c20 with e | e
    · exact absurd e q
    · exact bi _ (by omega)
theorem ruled_br {K : Int32 → aH → Prop} {a : Int32} {F : Nat} (v : itA h ai (cnM M f) it) (ha : rlA M f a) (c20 : cnM M f ≤ 20) : CI d 191 [vR F, vI a, vR ai] h K X ↔ K (iZ (rsd it a)) h := by
  refine CI_iff fun K X w => m191 ?_
  unfold rsd at w
  have t20 : (nI 20).toInt = 20 := rfl
  rcases rl_rng ha c20 with e | e
  · rw [if_pos e] at w
    simp only [e]
    exact ⟨fun _ => w, fun c => absurd trivial c⟩
  · have z1 : ¬ a.toInt = -1 := by omega
    have z2 : ¬ a.toInt < 0 := by omega
    rw [if_neg z1, iZ_toInt] at w
    simp only [↓forall_eq, ↓inB_iff, gK_hU, gL_hU, gR_hU, gIh, gJh, pI_hU, pJ_hU, hU_hU, uI_app, uJ_app, and_true, true_and, and_false, false_and, and_self, true_implies, false_implies, not_true, not_false_iff, if_true, if_false, eq_self, Nat.reduceLeDiff, Nat.reduceEqDiff, reduceCtorEq, i32c, ti0, ti1, tiM, Int.natCast_nonneg, Int.reduceEq, Int.reduceLE, Int.reduceLT, Int.reduceNeg, tl_i, Int32.reduceToInt, Int64.reduceToInt, tiA, tlM6, Int.toNat_natCast, natc, nI_1, Int.zero_sub, implies_true, not_false_eq_true, z1, z2, v.1, v.2.1, t20, e, v.2.2 _ (show a.toInt.toNat < cnM M f by omega)]
    exact w
theorem excess_br {K : Int32 → aH → Prop} (t : TF h A o f) (R : formR h A M f) (v : itA h ai (cnM M f) it) (bi : bndI (cnM M f) it) (c20 : cnM M f ≤ 20) (hr : r < nrM M f) : CI (d + 2) 192 [vR (A (bF f)), vI (nI r), vR ai] h K X ↔ K (iZ (rxs M f it r)) h := by
  obtain ⟨r1, r2, r3⟩ := R
  obtain ⟨⟨e0, e1, e2⟩, l1, l2, l3, l4, l5⟩ := r3 r hr
  have s1 := rsd_b (it := it) l1 c20 bi
  have s2 := rsd_b (it := it) l2 c20 bi
  have z1 := ti_z (z := rsd it (M 82 (16 * f + r))) (by omega) (by omega)
  have z2 := ti_z (z := rsd it (M 83 (16 * f + r))) (by omega) (by omega)
  have z3 : (iZ (rsd it (M 82 (16 * f + r))) - iZ (rsd it (M 83 (16 * f + r)))).toInt = rsd it (M 82 (16 * f + r)) - rsd it (M 83 (16 * f + r)) := by rw [ti_sub (by rw [z1, z2]; omega) (by rw [z1, z2]; omega), z1, z2]
  have A0 := fun d K X => @at_br d h X (gI h) (gJ h) (A (bF f + 10)) (A (bF f + 11)) 3 16 (nrM M f) r 0 0 K r2 hr rfl (by decide) rfl
  have A1' := fun d K X => @at_br d h X (gI h) (gJ h) (A (bF f + 10)) (A (bF f + 11)) 3 16 (nrM M f) r 1 1 K r2 hr rfl (by decide) rfl
  have A2 := fun d K X => @at_br d h X (gI h) (gJ h) (A (bF f + 10)) (A (bF f + 11)) 3 16 (nrM M f) r 2 2 K r2 hr rfl (by decide) rfl
  simp only [hU_eta, e0, e1, e2] at A0 A1' A2
  refine CI_iff fun K X w => m192 ?_
  simp only [↓forall_eq, ↓inB_iff, gK_hU, gL_hU, gR_hU, gIh, gJh, pI_hU, pJ_hU, hU_hU, uI_app, uJ_app, and_true, true_and, and_false, false_and, and_self, true_implies, false_implies, not_true, not_false_iff, if_true, if_false, eq_self, Nat.reduceLeDiff, Nat.reduceEqDiff, reduceCtorEq, i32c, ti0, ti1, tiM, Int.natCast_nonneg, Int.reduceEq, Int.reduceLE, Int.reduceLT, Int.reduceNeg, tl_i, Int32.reduceToInt, Int64.reduceToInt, tiA, tlM6, Int.toNat_natCast, natc, nI_1, Int.zero_sub, implies_true, not_false_eq_true, kF_0 t, eF_0 t, rF_0_9 t, eF_10 t, kF_10 t, ↓A0, ↓A1', ↓A2, ↓ruled_br v l1 c20, ↓ruled_br v l2 c20, z1, z2]
  unfold rxs at w
  refine ⟨fun c1 => ?_, fun c1 => ⟨fun c2 => ?_, fun c2 => ?_⟩⟩
  · rw [if_pos (Or.inl c1)] at w; exact w
  · rw [if_pos (Or.inr c2)] at w; exact w
  · rw [if_neg (by omega)] at w
    have : iZ (rsd it (M 82 (16 * f + r))) - iZ (rsd it (M 83 (16 * f + r))) - M 84 (16 * f + r) = iZ (rsd it (M 82 (16 * f + r)) - rsd it (M 83 (16 * f + r)) - (M 84 (16 * f + r)).toInt) := ti_inj (by rw [ti_sub (by rw [z3]; omega) (by rw [z3]; omega), z3, ti_z (by omega) (by omega)])
    rw [this]; exact w
theorem rxs_b (R : formR h A M f) (bi : bndI (cnM M f) it) (c20 : cnM M f ≤ 20) (hr : r < nrM M f) : -5000000 < rxs M f it r ∧ rxs M f it r < 5000000 := by
  obtain ⟨r1, r2, r3⟩ := R
  obtain ⟨⟨e0, e1, e2⟩, l1, l2, l3, l4, l5⟩ := r3 r hr
  have s1 := rsd_b (it := it) l1 c20 bi
  have s2 := rsd_b (it := it) l2 c20 bi
  unfold rxs
  split <;> omega
theorem cBr_le : ∀ n, cBr M f it n ≤ n := by
  intro n
  induction n with
  | zero => exact Nat.le_refl _
  | succ n ih => rw [cBr]; split <;> omega
theorem nr16 (R : formR h A M f) : nrM M f ≤ 16 := R.2.1.2.2.2.2.2.2.2
theorem countB_br {K : Int32 → aH → Prop} (t : TF h A o f) (R : formR h A M f) (v : itA h ai (cnM M f) it) (bi : bndI (cnM M f) it) (c20 : cnM M f ≤ 20) : CI (d + 3) 193 [vR (A (bF f)), vR ai] h K X ↔ K (nI (cBr M f it (nrM M f))) h := by
  refine CI_iff fun K X w => m193 ?_
  have n16 := nr16 R
  have nI1 : (nI (nrM M f)).toInt = (nrM M f : Nat) := ti_n (by omega)
  have SZ := fun d K X => @size_br d h X (gI h) (gJ h) (A (bF f + 10)) (A (bF f + 11)) 3 16 (nrM M f) K R.2.1 rfl
  simp only [hU_eta] at SZ
  have main : ∀ (n k : Nat), k + n = nrM M f → Wp (d + 3) 193 (4, [some (vR (A (bF f))), some (vR ai), some (vI (nI (cBr M f it k))), some (vI (nI k))], [], h) (RI K X) := by
    intro n
    induction n with
    | zero =>
      intro k hk
      have hkn : k = nrM M f := by omega
      subst hkn
      refine w193_4 ?_
      simp only [↓forall_eq, ↓inB_iff, gK_hU, gL_hU, gR_hU, gIh, gJh, pI_hU, pJ_hU, hU_hU, uI_app, uJ_app, and_true, true_and, and_false, false_and, and_self, true_implies, false_implies, not_true, not_false_iff, if_true, if_false, eq_self, Nat.reduceLeDiff, Nat.reduceEqDiff, reduceCtorEq, i32c, ti0, ti1, tiM, Int.natCast_nonneg, Int.reduceEq, Int.reduceLE, Int.reduceLT, Int.reduceNeg, tl_i, Int32.reduceToInt, Int64.reduceToInt, tiA, tlM6, Int.toNat_natCast, natc, nI_1, Int.zero_sub, implies_true, not_false_eq_true, kF_0 t, eF_0 t, rF_0_9 t, eF_10 t, kF_10 t, ↓SZ, Int.lt_irrefl]
      exact w
    | succ n ih =>
      intro k hk
      have hkI : (nI k).toInt = k := ti_n (by omega)
      have hlt : (k : Int) < (nrM M f : Nat) := by omega
      have xb := rxs_b (it := it) R bi c20 (show k < nrM M f by omega)
      have zx := ti_z (z := rxs M f it k) (by omega) (by omega)
      have nx := ih (k + 1) (by omega)
      rw [cBr] at nx
      refine w193_4 ?_
      simp only [↓forall_eq, ↓inB_iff, gK_hU, gL_hU, gR_hU, gIh, gJh, pI_hU, pJ_hU, hU_hU, uI_app, uJ_app, and_true, true_and, and_false, false_and, and_self, true_implies, false_implies, not_true, not_false_iff, if_true, if_false, eq_self, Nat.reduceLeDiff, Nat.reduceEqDiff, reduceCtorEq, i32c, ti0, ti1, tiM, Int.natCast_nonneg, Int.reduceEq, Int.reduceLE, Int.reduceLT, Int.reduceNeg, tl_i, Int32.reduceToInt, Int64.reduceToInt, tiA, tlM6, Int.toNat_natCast, natc, nI_1, Int.zero_sub, implies_true, not_false_eq_true, kF_0 t, eF_0 t, rF_0_9 t, eF_10 t, kF_10 t, ↓SZ, hkI, nI1, hlt, ↓excess_br t R v bi c20 (show k < nrM M f by omega), zx]
      have cl := cBr_le (M := M) (f := f) (it := it) k
      first
        | refine ⟨fun c => ?_, fun c => ?_⟩
          · rw [if_pos (by omega)] at nx
            first | exact nx | (rw [nI_1]; exact nx)
          · rw [if_neg (by omega)] at nx
            first | exact nx | (rw [show nI (cBr M f it k) + 0 = nI (cBr M f it k) from rfl]; exact nx) | simpa using nx
        | skip
  exact main (nrM M f) 0 (by omega)
/-- the place of a broken rule, w others ahead -/
def bAt (M : Nat → Nat → Int32) (f : Nat) (it : Nat → Int32) (w : Int) : Nat → Nat → Nat → Int
  | 0, _, _ => -1
  | n + 1, p, a => if 0 < rxs M f it p then (if (a : Int) = w then p else bAt M f it w n (p + 1) (a + 1)) else bAt M f it w n (p + 1) a
theorem brokenAt_br {K : Int32 → aH → Prop} {w9 : Int32} (t : TF h A o f) (R : formR h A M f) (v : itA h ai (cnM M f) it) (bi : bndI (cnM M f) it) (c20 : cnM M f ≤ 20) : CI (d + 3) 194 [vR (A (bF f)), vR ai, vI w9] h K X ↔ K (iZ (bAt M f it w9.toInt (nrM M f) 0 0)) h := by
  refine CI_iff fun K X w => m194 ?_
  have n16 := nr16 R
  have nI1 : (nI (nrM M f)).toInt = (nrM M f : Nat) := ti_n (by omega)
  have SZ := fun d K X => @size_br d h X (gI h) (gJ h) (A (bF f + 10)) (A (bF f + 11)) 3 16 (nrM M f) K R.2.1 rfl
  simp only [hU_eta] at SZ
  have main : ∀ (n k a : Nat), k + n = nrM M f → a ≤ k → K (iZ (bAt M f it w9.toInt n k a)) h → Wp (d + 3) 194 (5, [some (vR (A (bF f))), some (vR ai), some (vI w9), some (vI (nI a)), some (vI (nI k))], [], h) (RI K X) := by
    intro n
    induction n with
    | zero =>
      intro k a hk ha w
      have hkn : k = nrM M f := by omega
      subst hkn
      refine w194_5 ?_
      simp only [↓forall_eq, ↓inB_iff, gK_hU, gL_hU, gR_hU, gIh, gJh, pI_hU, pJ_hU, hU_hU, uI_app, uJ_app, and_true, true_and, and_false, false_and, and_self, true_implies, false_implies, not_true, not_false_iff, if_true, if_false, eq_self, Nat.reduceLeDiff, Nat.reduceEqDiff, reduceCtorEq, i32c, ti0, ti1, tiM, Int.natCast_nonneg, Int.reduceEq, Int.reduceLE, Int.reduceLT, Int.reduceNeg, tl_i, Int32.reduceToInt, Int64.reduceToInt, tiA, tlM6, Int.toNat_natCast, natc, nI_1, Int.zero_sub, implies_true, not_false_eq_true, kF_0 t, eF_0 t, rF_0_9 t, eF_10 t, kF_10 t, ↓SZ, Int.lt_irrefl]
      exact w
    | succ n ih =>
      intro k a hk ha w
      have hkI : (nI k).toInt = k := ti_n (by omega)
      have haI : (nI a).toInt = a := ti_n (by omega)
      have hlt : (k : Int) < (nrM M f : Nat) := by omega
      have xb := rxs_b (it := it) R bi c20 (show k < nrM M f by omega)
      have zx := ti_z (z := rxs M f it k) (by omega) (by omega)
      rw [bAt] at w
      refine w194_5 ?_
      simp only [↓forall_eq, ↓inB_iff, gK_hU, gL_hU, gR_hU, gIh, gJh, pI_hU, pJ_hU, hU_hU, uI_app, uJ_app, and_true, true_and, and_false, false_and, and_self, true_implies, false_implies, not_true, not_false_iff, if_true, if_false, eq_self, Nat.reduceLeDiff, Nat.reduceEqDiff, reduceCtorEq, i32c, ti0, ti1, tiM, Int.natCast_nonneg, Int.reduceEq, Int.reduceLE, Int.reduceLT, Int.reduceNeg, tl_i, Int32.reduceToInt, Int64.reduceToInt, tiA, tlM6, Int.toNat_natCast, natc, nI_1, Int.zero_sub, implies_true, not_false_eq_true, kF_0 t, eF_0 t, rF_0_9 t, eF_10 t, kF_10 t, ↓SZ, hkI, haI, nI1, hlt, ↓excess_br t R v bi c20 (show k < nrM M f by omega), zx]
      refine ⟨fun c => ⟨fun c2 => ?_, fun c2 => ?_⟩, fun c => ?_⟩
      · rw [if_pos c, if_pos c2] at w
        rw [show nI k = iZ (k : Int) from ti_inj (by rw [hkI, ti_z (by omega) (by omega)])]
        exact w
      · rw [if_pos c, if_neg c2] at w; exact ih _ _ (by omega) (by omega) w
      · rw [if_neg c] at w; exact ih _ _ (by omega) (by omega) w
  exact main (nrM M f) 0 0 (by omega) (Nat.le_refl _) w
/-- the model's breaks -/
theorem breaks_br {K : Int32 → aH → Prop} {q : Nat} (mf : MF g) (R : formR h A M f) (f6 : f < 6) (hq : q < 60) (c20 : cnM M f ≤ 20) (bi : bndI (cnM M f) (itM M q)) (hr : r < nrM M f) (e82 : I 82 = M 82) (e83 : I 83 = M 83) (e84 : I 84 = M 84) (e79 : I 79 = M 79) : CI d 197 [vR 44, vI (nI q), vI (nI (16 * f + r))] (hU g I J) K X ↔ K (bI (decide (0 < rxs M f (itM M q) r))) (hU g I J) := by
  have n16 := nr16 R
  obtain ⟨r1, r2, r3⟩ := R
  obtain ⟨⟨e0, e1, e2⟩, l1, l2, l3, l4, l5⟩ := r3 r hr
  have s1 := rsd_b (it := itM M q) l1 c20 bi
  have s2 := rsd_b (it := itM M q) l2 c20 bi
  have hxI : (nI (16 * f + r)).toInt = ((16 * f + r : Nat) : Int) := ti_n (by omega)
  have zx : ((16 * f + r : Nat) : Int) < 96 := by omega
  have side : ∀ a : Int32, rlA M f a → ¬ a.toInt = -1 → 0 ≤ (20 * nI q + a).toInt ∧ (20 * nI q + a).toInt < 1200 ∧ M 79 (20 * nI q + a).toInt.toNat = iZ (rsd (itM M q) a) := fun a ha hn => by
    rcases rl_rng ha c20 with e | e
    · exact absurd e hn
    · have hix : (20 : Int32) * nI q + a = nI (20 * q + a.toInt.toNat) := by rw [show (20 : Int32) = nI 20 from rfl, nI_mul, ← nI_add, ← ti_nat e.1]
      have hI : (nI (20 * q + a.toInt.toNat)).toInt = ((20 * q + a.toInt.toNat : Nat) : Int) := ti_n (by omega)
      rw [hix, hI]
      refine ⟨by omega, by omega, ?_⟩
      unfold rsd itM
      rw [if_neg hn, if_pos (by omega), iZ_toInt, Int.toNat_natCast]
  have fin : ∀ (x y : Int32) (K : Int32 → aH → Prop) (X : Nat → aH → Prop), x = iZ (rsd (itM M q) (M 82 (16 * f + r))) → y = iZ (rsd (itM M q) (M 83 (16 * f + r))) → K (bI (decide (0 < rxs M f (itM M q) r))) (hU g I J) → Wp d 197 (61, [some (vR 44), none, some (vI (nI (16 * f + r))), some (vI x), none], [vI y], hU g I J) (RI K X) := fun x y K X hx hy w => by
    have z1 := ti_z (z := rsd (itM M q) (M 82 (16 * f + r))) (by omega) (by omega)
    have z2 := ti_z (z := rsd (itM M q) (M 83 (16 * f + r))) (by omega) (by omega)
    subst hx
    subst hy
    have z3 : (iZ (rsd (itM M q) (M 82 (16 * f + r))) - iZ (rsd (itM M q) (M 83 (16 * f + r)))).toInt = rsd (itM M q) (M 82 (16 * f + r)) - rsd (itM M q) (M 83 (16 * f + r)) := by rw [ti_sub (by rw [z1, z2]; omega) (by rw [z1, z2]; omega), z1, z2]
    refine w197_61 ?_
    simp only [↓forall_eq, ↓inB_iff, gK_hU, gL_hU, gR_hU, gIh, gJh, pI_hU, pJ_hU, hU_hU, uI_app, uJ_app, and_true, true_and, and_false, false_and, and_self, true_implies, false_implies, not_true, not_false_iff, if_true, if_false, eq_self, Nat.reduceLeDiff, Nat.reduceEqDiff, reduceCtorEq, i32c, ti0, ti1, tiM, Int.natCast_nonneg, Int.reduceEq, Int.reduceLE, Int.reduceLT, Int.reduceNeg, tl_i, Int32.reduceToInt, Int64.reduceToInt, tiA, tlM6, Int.toNat_natCast, natc, nI_1, Int.zero_sub, implies_true, not_false_eq_true, mf.1, mr_55 mf, mk_79 mf, ml_79 mf, mr_58 mf, mk_82 mf, ml_82 mf, mr_59 mf, mk_83 mf, ml_83 mf, mr_60 mf, mk_84 mf, ml_84 mf, hxI, zx, e84, z3, z1, z2]
    unfold rxs at w
    refine ⟨fun c1 => ?_, fun c1 => ⟨fun c2 => ?_, fun c2 => ⟨fun c3 => ?_, fun c3 => ?_⟩⟩⟩
    · rw [if_pos (Or.inl c1)] at w; exact w
    · rw [if_pos (Or.inr c2)] at w; exact w
    · rw [if_neg (by omega), decide_eq_true (by omega)] at w; exact w
    · rw [if_neg (by omega), decide_eq_false (by omega)] at w; exact w
  have zero : ∀ a : Int32, a.toInt = -1 → (0 : Int32) = iZ (rsd (itM M q) a) := fun a ha => by unfold rsd; rw [if_pos ha]; rfl
  refine CI_iff fun K X w => m197 ?_
  simp only [↓forall_eq, ↓inB_iff, gK_hU, gL_hU, gR_hU, gIh, gJh, pI_hU, pJ_hU, hU_hU, uI_app, uJ_app, and_true, true_and, and_false, false_and, and_self, true_implies, false_implies, not_true, not_false_iff, if_true, if_false, eq_self, Nat.reduceLeDiff, Nat.reduceEqDiff, reduceCtorEq, i32c, ti0, ti1, tiM, Int.natCast_nonneg, Int.reduceEq, Int.reduceLE, Int.reduceLT, Int.reduceNeg, tl_i, Int32.reduceToInt, Int64.reduceToInt, tiA, tlM6, Int.toNat_natCast, natc, nI_1, Int.zero_sub, implies_true, not_false_eq_true, mf.1, mr_55 mf, mk_79 mf, ml_79 mf, mr_58 mf, mk_82 mf, ml_82 mf, mr_59 mf, mk_83 mf, ml_83 mf, mr_60 mf, mk_84 mf, ml_84 mf, hxI, zx, e82, e83, e79]
  refine ⟨fun c1 => ⟨fun c2 => fin _ _ K X (zero _ c1) (zero _ c2) w, fun c2 => ?_⟩, fun c1 => ?_⟩
  · obtain ⟨y1, y2, y3⟩ := side _ l2 c2
    refine ⟨y1, y2, fin _ _ K X (zero _ c1) y3 w⟩
  · obtain ⟨y1, y2, y3⟩ := side _ l1 c1
    refine ⟨y1, y2, fun c2 => fin _ _ K X y3 (zero _ c2) w, fun c2 => ?_⟩
    obtain ⟨x1, x2, x3⟩ := side _ l2 c2
    exact ⟨x1, x2, fin _ _ K X y3 x3 w⟩
theorem pr_broken {x w9 : Int32} (b : base h o) (F : FormA h A o (gI h) E Cn nf) (R : RecA h A o (gI h) nf ns nr) (hn : ns ≤ 60) : Pr 195 198 [vI x, vI w9] [3] h (fun h2 => left h h2 A A o o (fun _ => False) [] [] 1 6) := by
  have mf := b.2.1
  have h60 := R.2.1.2
  have hnr : (nI nr).toInt = nr := ti_n (by omega)
  have hnr1 : (nI nr - 1).toInt = (nr : Int) - 1 := by rw [ti_sub (by rw [hnr, ti1]; omega) (by rw [hnr, ti1]; omega), hnr, ti1]
  by_cases q : 0 ≤ x.toInt ∧ x.toInt < nr
  · by_cases qw : w9.toInt < -1
    · refine Pr_gc (A := A) (C := fun _ => False) 0 3 b (by decide) rfl (fun K X kk => m195 ⟨by decide, ck_8 b.1, ?_⟩) (fun g J K X mf e kk => m198 ?_) (fun h2 l => l)
      · rw [recordAt_br b R.1, bz_t q]
        exact ⟨fun _ => kk, fun c => absurd qw c⟩
      · have q' : 0 ≤ x.toInt ∧ x.toInt ≤ (nr : Int) - 1 := by omega
        simp only [↓forall_eq, ↓inB_iff, gK_hU, gL_hU, gR_hU, gIh, gJh, pI_hU, pJ_hU, hU_hU, uI_app, uJ_app, and_true, true_and, and_false, false_and, and_self, true_implies, false_implies, not_true, not_false_iff, if_true, if_false, eq_self, Nat.reduceLeDiff, Nat.reduceEqDiff, reduceCtorEq, i32c, ti0, ti1, tiM, Int.natCast_nonneg, Int.reduceEq, Int.reduceLE, Int.reduceLT, Int.reduceNeg, tl_i, Int32.reduceToInt, Int64.reduceToInt, tiA, tlM6, Int.toNat_natCast, natc, nI_1, Int.zero_sub, implies_true, not_false_eq_true, mf.1, mr_57 mf, mk_81 mf, ml_81 mf, ↓fail_br mf, ↓isIn_br, e 44 (by decide) (by decide), R.2.1.1, hnr1, q', qw]
        exact kk
    · generalize hrx : x.toInt.toNat = r at *
      have hx : x = nI r := by rw [← hrx]; exact ti_nat q.1
      have hr : r < nr := by omega
      obtain ⟨t, ⟨r2, r3, r4, r5⟩, ⟨r6, r7, r8⟩, r9, r10⟩ := R.2.2 r hr
      obtain ⟨⟨tf, lf, ⟨c1, c2, c3⟩, c4⟩, fm, fb, ak, fr9⟩ := F.2.2 _ r5
      have n6 := F.2.1.2
      generalize hf : fR (gI h) r = f at *
      have v : itA h (A (bR r + 1)) (cnM (gI h) f) (itM (gI h) r) := ⟨kR_1 t, lR_1 t, fun i hi => (r9 i (by omega)).1⟩
      have bi := bnd_le r10.1 c2
      have n16 := nr16 fr9
      have hfI : (nI f).toInt = f := ti_n (by omega)
      have z6 : (f : Int) < 6 := by omega
      have q' : 0 ≤ (nI r).toInt ∧ (nI r).toInt ≤ (nr : Int) - 1 := by rw [← hx]; omega
      have nI1 : (nI (nrM (gI h) f)).toInt = (nrM (gI h) f : Nat) := ti_n (by omega)
      refine Pr_ok (if w9.toInt = -1 then nI (cBr (gI h) f (itM (gI h) r) (nrM (gI h) f)) else iZ (bAt (gI h) f (itM (gI h) r) w9.toInt (nrM (gI h) f) 0 0)) (fun h1 => h1 = h) (fun K X kk => m195 ⟨by decide, ck_8 b.1, ?_⟩) (fun h1 J1 m j K X kk => m198 ?_)
      · rw [recordAt_br b R.1, bz_t q, hrx]
        simp only [↓forall_eq, ↓inB_iff, gK_hU, gL_hU, gR_hU, gIh, gJh, pI_hU, pJ_hU, hU_hU, uI_app, uJ_app, and_true, true_and, and_false, false_and, and_self, true_implies, false_implies, not_true, not_false_iff, if_true, if_false, eq_self, Nat.reduceLeDiff, Nat.reduceEqDiff, reduceCtorEq, i32c, ti0, ti1, tiM, Int.natCast_nonneg, Int.reduceEq, Int.reduceLE, Int.reduceLT, Int.reduceNeg, tl_i, Int32.reduceToInt, Int64.reduceToInt, tiA, tlM6, Int.toNat_natCast, natc, nI_1, Int.zero_sub, implies_true, not_false_eq_true, qw, kR_0 t, r6, eF_0 tf, kF_0 tf, rR_0_3 t, ↓countB_br tf fr9 v bi c2, ↓brokenAt_br tf fr9 v bi c2]
        have kk := kk h rfl
        exact ⟨fun c => by rw [if_pos c] at kk; exact kk, fun c => by rw [if_neg c] at kk; exact kk⟩
      · subst m
        subst hx
        have E82 : uI (gI h1) 44 0 0 82 = gI h1 82 := uI_ne _ _ _ (by decide)
        have E83 : uI (gI h1) 44 0 0 83 = gI h1 83 := uI_ne _ _ _ (by decide)
        have E84 : uI (gI h1) 44 0 0 84 = gI h1 84 := uI_ne _ _ _ (by decide)
        have E79 : uI (gI h1) 44 0 0 79 = gI h1 79 := uI_ne _ _ _ (by decide)
        have E78 : uI (gI h1) 44 0 0 78 = gI h1 78 := uI_ne _ _ _ (by decide)
        have E67 : uI (gI h1) 44 0 0 67 = gI h1 67 := uI_ne _ _ _ (by decide)
        simp only [↓forall_eq, ↓inB_iff, gK_hU, gL_hU, gR_hU, gIh, gJh, pI_hU, pJ_hU, hU_hU, uI_app, uJ_app, and_true, true_and, and_false, false_and, and_self, true_implies, false_implies, not_true, not_false_iff, if_true, if_false, eq_self, Nat.reduceLeDiff, Nat.reduceEqDiff, reduceCtorEq, i32c, ti0, ti1, tiM, Int.natCast_nonneg, Int.reduceEq, Int.reduceLE, Int.reduceLT, Int.reduceNeg, tl_i, Int32.reduceToInt, Int64.reduceToInt, tiA, tlM6, Int.toNat_natCast, natc, nI_1, Int.zero_sub, implies_true, not_false_eq_true, mf.1, mr_57 mf, mk_81 mf, ml_81 mf, ↓fail_br mf, ↓isIn_br, R.2.1.1, hnr1, q', qw, ↓formOf_br mf R hr hn E78 E67, hf]
        have kk := kk (hU h1 (uI (gI h1) 44 0 0) J1) (by rw [gIh, uI_same]) rfl (left_mk b b fr_refl (fun w => w) (by simp) (fun a a1 a2 => by funext j9; simp only [uI_app]; grind) (fun j9 a1 a2 => by simp only [uI_app]; grind) (fun a a1 _ => j a a1) (by omega) (by omega))
        have main : ∀ (n p a : Nat), p + n = nrM (gI h1) f → a ≤ p → a = cBr (gI h1) f (itM (gI h1) r) p → (¬ w9.toInt = -1 → bAt (gI h1) f (itM (gI h1) r) w9.toInt (nrM (gI h1) f) 0 0 = bAt (gI h1) f (itM (gI h1) r) w9.toInt n p a) → Wp 500 198 (44, [some (vR 44), some (vI (nI r)), some (vI w9), some (vI (nI f)), some (vI (nI a)), some (vI (nI p))], [], hU h1 (uI (gI h1) 44 0 0) J1) (RI K X) := by
          intro n
          induction n with
          | zero =>
            intro p a hp ha hb hw
            have hpn : p = nrM (gI h1) f := by omega
            subst hpn
            refine w198_44 ?_
            simp only [↓forall_eq, ↓inB_iff, gK_hU, gL_hU, gR_hU, gIh, gJh, pI_hU, pJ_hU, hU_hU, uI_app, uJ_app, and_true, true_and, and_false, false_and, and_self, true_implies, false_implies, not_true, not_false_iff, if_true, if_false, eq_self, Nat.reduceLeDiff, Nat.reduceEqDiff, reduceCtorEq, i32c, ti0, ti1, tiM, Int.natCast_nonneg, Int.reduceEq, Int.reduceLE, Int.reduceLT, Int.reduceNeg, tl_i, Int32.reduceToInt, Int64.reduceToInt, tiA, tlM6, Int.toNat_natCast, natc, nI_1, Int.zero_sub, implies_true, not_false_eq_true, mf.1, mr_57 mf, mk_81 mf, ml_81 mf, hfI, z6, fr9.1, Int.lt_irrefl]
            refine ⟨fun c => ?_, fun c => ?_⟩
            · rw [if_pos c, ← hb] at kk; exact kk
            · rw [if_neg c, hw c, bAt] at kk; exact kk
          | succ n ih =>
            intro p a hp ha hb hw
            have hpI : (nI p).toInt = p := ti_n (by omega)
            have haI : (nI a).toInt = a := ti_n (by omega)
            have hlt : (p : Int) < (nrM (gI h1) f : Nat) := by omega
            have hix : (16 : Int32) * nI f + nI p = nI (16 * f + p) := by rw [show (16 : Int32) = nI 16 from rfl, nI_mul, nI_add]
            refine w198_44 ?_
            simp only [↓forall_eq, ↓inB_iff, gK_hU, gL_hU, gR_hU, gIh, gJh, pI_hU, pJ_hU, hU_hU, uI_app, uJ_app, and_true, true_and, and_false, false_and, and_self, true_implies, false_implies, not_true, not_false_iff, if_true, if_false, eq_self, Nat.reduceLeDiff, Nat.reduceEqDiff, reduceCtorEq, i32c, ti0, ti1, tiM, Int.natCast_nonneg, Int.reduceEq, Int.reduceLE, Int.reduceLT, Int.reduceNeg, tl_i, Int32.reduceToInt, Int64.reduceToInt, tiA, tlM6, Int.toNat_natCast, natc, nI_1, Int.zero_sub, implies_true, not_false_eq_true, mf.1, mr_57 mf, mk_81 mf, ml_81 mf, hfI, z6, fr9.1, nI1, hpI, hlt, hix, ↓breaks_br mf fr9 (show f < 6 by omega) (show r < 60 by omega) c2 bi (show p < nrM (gI h1) f by omega) E82 E83 E84 E79, bI0]
            have e1 := fun c => hw c
            refine ⟨fun c => ?_, fun c => ⟨fun c3 => ?_, fun c3 => ?_⟩⟩
            · have c' : ¬ 0 < rxs (gI h1) f (itM (gI h1) r) p := of_decide_eq_false c
              refine ih _ _ (by omega) (by omega) (by rw [cBr, if_neg c']; exact hb) (fun z => ?_)
              rw [hw z, bAt, if_neg c']
            · have c' : 0 < rxs (gI h1) f (itM (gI h1) r) p := of_decide_eq_true (bnf c)
              rw [haI] at c3
              have z : ¬ w9.toInt = -1 := by omega
              rw [if_neg z, hw z, bAt, if_pos c', if_pos c3] at kk
              rw [show nI p = iZ (p : Int) from ti_inj (by rw [hpI, ti_z (by omega) (by omega)])]
              exact kk
            · have c' : 0 < rxs (gI h1) f (itM (gI h1) r) p := of_decide_eq_true (bnf c)
              rw [haI] at c3
              refine ih _ _ (by omega) (by omega) (by rw [cBr, if_pos c', hb]) (fun z => ?_)
              rw [hw z, bAt, if_pos c', if_neg c3]
        exact main (nrM (gI h1) f) 0 0 (by omega) (Nat.le_refl _) rfl (fun _ => rfl)
  · refine Pr_gc (A := A) (C := fun _ => False) 0 3 b (by decide) rfl (fun K X kk => m195 ⟨by decide, ck_8 b.1, ?_⟩) (fun g J K X mf e kk => m198 ?_) (fun h2 l => l)
    · rw [recordAt_br b R.1, bz_f q]
      exact kk
    · have q' : ¬ (0 ≤ x.toInt ∧ x.toInt ≤ (nr : Int) - 1) := by omega
      simp only [↓forall_eq, ↓inB_iff, gK_hU, gL_hU, gR_hU, gIh, gJh, pI_hU, pJ_hU, hU_hU, uI_app, uJ_app, and_true, true_and, and_false, false_and, and_self, true_implies, false_implies, not_true, not_false_iff, if_true, if_false, eq_self, Nat.reduceLeDiff, Nat.reduceEqDiff, reduceCtorEq, i32c, ti0, ti1, tiM, Int.natCast_nonneg, Int.reduceEq, Int.reduceLE, Int.reduceLT, Int.reduceNeg, tl_i, Int32.reduceToInt, Int64.reduceToInt, tiA, tlM6, Int.toNat_natCast, natc, nI_1, Int.zero_sub, implies_true, not_false_eq_true, mf.1, mr_57 mf, mk_81 mf, ml_81 mf, ↓fail_br mf, ↓isIn_br, e 44 (by decide) (by decide), R.2.1.1, hnr1, q']
      exact kk
end RUL
