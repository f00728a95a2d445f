/-! RELEASES: the model's side -/
section RLM
variable {d nt nk t R C : Nat} {h g : aH} {X : Nat → aH → Prop} {M I I0 : Nat → Nat → Int32} {J : Nat → Nat → Int64}
abbrev j149 (t i : Nat) (hh : aH) : aCf := (149, [some (vR 44), none, some (vI (nI t)), none, some (vI (nI i))], [], hh)
/-- twelve cells are copied -/
theorem m_149 {K : Int32 → aH → Prop} (mf : MF g) (ht : t < 12) (hk : nk < 12) (h82 : I0 44 82 = nI nk)
    (kk : ∀ I, (∀ a, a ≠ 44 → a ≠ 105 → I a = I0 a) → (∀ j, j ≠ 82 → I 44 j = I0 44 j) → I 44 82 = nI (nk + 1) → (∀ i, (i < 12 * nk ∨ 12 * nk + 12 ≤ i) → I 105 i = I0 105 i) → (∀ i, i < 12 → I 105 (12 * nk + i) = nwV I0 t 3 i) → K (nI nk) (hU g I J)) :
    ∀ (q i : Nat) (I : Nat → Nat → Int32), i + q = 12 → (∀ a, a ≠ 105 → I a = I0 a) → (∀ i, (i < 12 * nk ∨ 12 * nk + 12 ≤ i) → I 105 i = I0 105 i) → (∀ i', i' < i → I 105 (12 * nk + i') = nwV I0 t 3 i') → Wp (d + 1) 316 (j149 t i (hU g I J)) (RI K X) := by
  have nkI : (nI nk).toInt = nk := ti_n (by omega)
  intro q
  induction q with
  | zero =>
    intro i I hi f1 f2 f3
    have hic : i = 12 := by omega
    subst hic
    have e82 : I 44 82 = nI nk := by rw [f1 44 (by decide)]; exact h82
    have z : (nI 12).toInt = 12 := rfl
    refine w316_149 ?_
    simp only [↓forall_eq, ↓inB_iff, gK_hU, gL_hU, gR_hU, gIh, gJh, pI_hU, pJ_hU, hU_hU, uI_app, uJ_app, and_true, true_and, and_false, false_and, and_self, true_implies, false_implies, not_true, not_false_iff, if_true, if_false, eq_self, Nat.reduceLeDiff, Nat.reduceEqDiff, reduceCtorEq, i32c, ti0, ti1, tiM, Int.natCast_nonneg, Int.reduceEq, Int.reduceLE, Int.reduceLT, Int.reduceNeg, tl_i, Int32.reduceToInt, Int64.reduceToInt, tiA, tlM6, Int.toNat_natCast, natc, nI_1, Int.zero_sub, implies_true, not_false_eq_true, mf.1, mr_70 mf, mk_90 mf, ml_90 mf, mr_71 mf, mk_91 mf, ml_91 mf, mr_77 mf, mk_97 mf, ml_97 mf, mr_81 mf, mk_99 mf, ml_99 mf, mr_83 mf, mk_100 mf, ml_100 mf, mr_84 mf, mk_101 mf, ml_101 mf, mr_85 mf, mk_102 mf, ml_102 mf, mr_86 mf, mk_103 mf, ml_103 mf, mr_87 mf, mk_104 mf, ml_104 mf, mr_88 mf, mk_105 mf, ml_105 mf, z, e82, nI_pred]
    refine kk _ (fun a h1 h2 => by rw [uI_ne _ _ _ h1]; exact f1 a h2) (fun j hj => by rw [uI_app, if_neg (by omega), f1 44 (by decide)]) (by rw [uI_same]) (fun i hi => by rw [uI_app, if_neg (by omega)]; exact f2 i hi) (fun i hi => by rw [uI_app, if_neg (by omega)]; exact f3 i hi)
  | succ q ih =>
    intro i I hi f1 f2 f3
    have e82 : I 44 82 = nI nk := by rw [f1 44 (by decide)]; exact h82
    have hiI : (nI i).toInt = i := ti_n (by omega)
    have zi : (i : Int) < 12 := by omega
    have NW := fun (K : Int32 → aH → Prop) X => now_br (d := d) (t := t) (k := i) (w := 3) (M := I0) (I := I) (J := J) (K := K) (X := X) mf ht (by omega) (by decide) (fun a h1 h2 => f1 a (by omega))
    have x1 : (12 : Int32) * nI nk + nI i = nI (12 * nk + i) := by rw [show (12 : Int32) = nI 12 from rfl, nI_mul, nI_add]
    have x2 : (nI (12 * nk + i)).toInt = ((12 * nk + i : Nat) : Int) := ti_n (by omega)
    have x3 : ((12 * nk + i : Nat) : Int) < 144 := by omega
    have t3 : (3 : Int32).toInt = 3 := rfl
    rw [t3] at NW
    refine w316_149 ?_
    simp only [↓forall_eq, ↓inB_iff, gK_hU, gL_hU, gR_hU, gIh, gJh, pI_hU, pJ_hU, hU_hU, uI_app, uJ_app, and_true, true_and, and_false, false_and, and_self, true_implies, false_implies, not_true, not_false_iff, if_true, if_false, eq_self, Nat.reduceLeDiff, Nat.reduceEqDiff, reduceCtorEq, i32c, ti0, ti1, tiM, Int.natCast_nonneg, Int.reduceEq, Int.reduceLE, Int.reduceLT, Int.reduceNeg, tl_i, Int32.reduceToInt, Int64.reduceToInt, tiA, tlM6, Int.toNat_natCast, natc, nI_1, Int.zero_sub, implies_true, not_false_eq_true, mf.1, mr_70 mf, mk_90 mf, ml_90 mf, mr_71 mf, mk_91 mf, ml_91 mf, mr_77 mf, mk_97 mf, ml_97 mf, mr_81 mf, mk_99 mf, ml_99 mf, mr_83 mf, mk_100 mf, ml_100 mf, mr_84 mf, mk_101 mf, ml_101 mf, mr_85 mf, mk_102 mf, ml_102 mf, mr_86 mf, mk_103 mf, ml_103 mf, mr_87 mf, mk_104 mf, ml_104 mf, mr_88 mf, mk_105 mf, ml_105 mf, hiI, zi, ↓NW, e82, x1, x2, x3]
    refine ih (i + 1) _ (by omega) (fun a ha => by rw [uI_ne _ _ _ ha]; exact f1 a ha) (fun i' hi' => by rw [uI_app, if_neg (by omega)]; exact f2 i' hi') (fun i' hi' => ?_)
    rw [uI_app]
    by_cases e : i' = i
    · subst e; rw [if_pos ⟨rfl, rfl⟩]
    · rw [if_neg (by omega)]; exact f3 i' (by omega)
end RLM
