/-! TOLD -/
section TLD
variable {d U T nf ns nr nm nt np nk nl L : Nat} {h g : aH} {A o : Nat → Nat} {X : Nat → aH → Prop} {M I : Nat → Nat → Int32} {J : Nat → Nat → Int64} {E : Nat → Nat → List Tm} {Cn : Nat → Nat → List Cmp} {x : Int32} {K : Int32 → aH → Prop}
def tdV (M : Nat → Nat → Int32) (k : Int) : Int32 := if k = 0 then M 44 2 else if k = 1 then M 44 6 else if k = 2 then M 44 5 else if k = 3 then M 44 14 else if k = 4 then M 44 38 else if k = 5 then M 44 38 - M 44 53 else if k = 6 then M 44 53 else if k = 7 then M 44 64 else if k = 8 then M 44 69 else if k = 9 then M 44 80 else if k = 10 then M 44 82 else if k = 11 then M 44 89 else if k = 12 then M 44 13 else if k = 13 then M 44 1 else M 44 1 / 1440
theorem c_told (b : base h o) (Rg : RegA h A o (gI h) U T) (mm : MinA h (gI h)) (tp : TapeA h (gI h) L) (F : FormA h A o (gI h) E Cn nf) (S : SessA h A o (gI h) E Cn nf ns U) (R : RecA h A o (gI h) nf ns nr) (Sm : SamA h A o (gI h) U nm) (Tb : TabA h A o (gI h) nt) (P : PerA h A o (gI h) np) (Rl : RelA h A o (gI h) nt nk) (Lk : LookA h A o (gI h) nl)
    (ok : (0 ≤ x.toInt ∧ x.toInt ≤ 14) → K (tdV (gI h) x.toInt) h) (no : ¬ (0 ≤ x.toInt ∧ x.toInt ≤ 14) → X 1 (gNew h 200 6)) : CI 500 325 [vR 8, vI x] h K X := by
  have f := b.1
  have SZ : ∀ {a bb w lim n : Nat}, rowsOK h a bb w lim n → ∀ (K : Int32 → aH → Prop) X, CI 499 28 [vR a] h K X ↔ K (nI n) h := fun {a bb w lim n} r K X => by
    have := size_br (d := 499) (K := K) (X := X) (I := gI h) (J := gJ h) r rfl
    rw [hU_eta] at this; exact this
  have s10 := SZ Rg.2.1.1
  have s12 := SZ Rg.2.2.1.1
  have s40 := SZ P.2.1.1
  have s42 := SZ Lk.2.1.1
  have go : ∀ k : Int, x.toInt = k → (0 ≤ k ∧ k ≤ 14) → K (tdV (gI h) k) h := fun k e hk => by rw [← e] at hk ⊢; exact ok hk
  refine m325 ⟨fun e => ?_, fun e => ?_, fun e => ?_, fun e => ?_, fun e => ?_, fun e => ?_, fun e => ?_, fun e => ?_, fun e => ?_, fun e => ?_, fun e => ?_, fun e => ?_, fun e => ?_, fun e => ?_, fun e => ?_, fun e => no (by omega)⟩
  · have y := go 0 e (by decide)
    rw [show tdV (gI h) 0 = gI h 44 2 from rfl, Rg.1.1] at y
    simp only [ck_8 f, cr_8_0 f, ck_9 f, cr_9_0 f, ck_10 f, s10, true_and]
    exact ⟨by decide, y⟩
  · have y := go 1 e (by decide)
    rw [show tdV (gI h) 1 = gI h 44 6 from rfl, Rg.1.2] at y
    simp only [ck_8 f, cr_8_0 f, ck_9 f, cr_9_1 f, ck_12 f, s12, true_and]
    exact ⟨by decide, y⟩
  · have y := go 2 e (by decide)
    rw [show tdV (gI h) 2 = gI h 44 5 from rfl, ← Rg.2.2.2.1] at y
    simp only [ck_8 f, cr_8_0 f, ck_9 f, true_and]
    exact y
  · have y := go 3 e (by decide)
    rw [show tdV (gI h) 3 = gI h 44 14 from rfl, F.2.1.1] at y
    simp only [ck_8 f, cr_8_4 f, F.1.1.1, ↓lsize_br F.1, true_and]
    exact ⟨by decide, y⟩
  · have y := go 4 e (by decide)
    rw [show tdV (gI h) 4 = gI h 44 38 from rfl, S.2.1.1] at y
    simp only [ck_8 f, cr_8_5 f, S.1.1.1, ↓lsize_br S.1, true_and]
    exact ⟨by decide, y⟩
  · have y := go 5 e (by decide)
    rw [show tdV (gI h) 5 = gI h 44 38 - gI h 44 53 from rfl, S.2.1.1, R.2.1.1] at y
    simp only [ck_8 f, cr_8_5 f, S.1.1.1, ↓lsize_br S.1, cr_8_6 f, R.1.1.1, ↓lsize_br R.1, true_and]
    exact ⟨by decide, by decide, y⟩
  · have y := go 6 e (by decide)
    rw [show tdV (gI h) 6 = gI h 44 53 from rfl, R.2.1.1] at y
    simp only [ck_8 f, cr_8_6 f, R.1.1.1, ↓lsize_br R.1, true_and]
    exact ⟨by decide, y⟩
  · have y := go 7 e (by decide)
    rw [show tdV (gI h) 7 = gI h 44 64 from rfl, Sm.2.1.1] at y
    simp only [ck_8 f, cr_8_7 f, Sm.1.1.1, ↓lsize_br Sm.1, true_and]
    exact ⟨by decide, y⟩
  · have y := go 8 e (by decide)
    rw [show tdV (gI h) 8 = gI h 44 69 from rfl, Tb.2.1.1] at y
    simp only [ck_8 f, cr_8_8 f, Tb.1.1.1, ↓lsize_br Tb.1, true_and]
    exact ⟨by decide, y⟩
  · have y := go 9 e (by decide)
    rw [show tdV (gI h) 9 = gI h 44 80 from rfl, P.1.1] at y
    simp only [ck_8 f, cr_8_10 f, ck_40 f, s40, true_and]
    exact ⟨by decide, y⟩
  · have y := go 10 e (by decide)
    rw [show tdV (gI h) 10 = gI h 44 82 from rfl, Rl.2.1.1] at y
    simp only [ck_8 f, cr_8_9 f, Rl.1.1.1, ↓lsize_br Rl.1, true_and]
    exact ⟨by decide, y⟩
  · have y := go 11 e (by decide)
    rw [show tdV (gI h) 11 = gI h 44 89 from rfl, Lk.1.1] at y
    simp only [ck_8 f, cr_8_11 f, ck_42 f, s42, true_and]
    exact ⟨by decide, y⟩
  · have y := go 12 e (by decide)
    rw [show tdV (gI h) 12 = gI h 44 13 from rfl, tp.1.2.1] at y
    simp only [ck_8 f, cr_8_1 f, ck_17 f, true_and, tp.1.1]
    exact y
  · have y := go 13 e (by decide)
    rw [show tdV (gI h) 13 = gI h 44 1 from rfl, ← mm.1] at y
    exact ⟨ck_8 f, y⟩
  · have y := go 14 e (by decide)
    rw [show tdV (gI h) 14 = gI h 44 1 / 1440 from rfl, ← mm.1] at y
    refine ⟨by decide, ck_8 f, m35 ?_⟩
    simp only [↓forall_eq, ↓inB_iff, gK_hU, gL_hU, gR_hU, gIh, gJh, pI_hU, pJ_hU, hU_hU, uI_app, uJ_app, and_true, true_and, and_false, false_and, and_self, true_implies, false_implies, not_true, not_false_iff, if_true, if_false, eq_self, Nat.reduceLeDiff, Nat.reduceEqDiff, reduceCtorEq, i32c, ti0, ti1, tiM, Int.natCast_nonneg, Int.reduceEq, Int.reduceLE, Int.reduceLT, Int.reduceNeg, tl_i, Int32.reduceToInt, Int64.reduceToInt, tiA, tlM6, Int.toNat_natCast, natc, nI_1, Int.zero_sub, implies_true, not_false_eq_true, ck_8 f]
    exact y
theorem m_told (mf : MF g) (h38 : I 44 38 = nI ns) (h60 : ns ≤ 60) (h53 : I 44 53 = nI nr) (hcl : nr = clC I ns)
    (ok : (0 ≤ x.toInt ∧ x.toInt ≤ 14) → K (tdV I x.toInt) (hU g (uI I 44 0 0) J)) (no : ¬ (0 ≤ x.toInt ∧ x.toInt ≤ 14) → K 0 (hU g (uI (uI I 44 0 0) 44 0 (nI 1)) J)) : CI (d + 1) 327 [vR 44, vI x] (hU g I J) K X := by
  have nI60 : (nI ns).toInt = ns := ti_n (by omega)
  have go : ∀ k : Int, x.toInt = k → (0 ≤ k ∧ k ≤ 14) → K (tdV I k) (hU g (uI I 44 0 0) J) := fun k e hk => by rw [← e] at hk ⊢; exact ok hk
  have cle := clC_le (M := I) ns
  have sub5 : nI ns - nI nr = nI (ns - nr) := by
    have : nI ns = nI (ns - nr) + nI nr := by rw [nI_add, show ns - nr + nr = ns by omega]
    rw [this, Int32.add_sub_cancel]
  have loop : ∀ n j, j + n = ns → Wp (d + 1) 327 (9, [some (vR 44), some (vI x), some (vI (nI (j - clC I j))), some (vI (nI j))], [], hU g (uI I 44 0 0) J) (RI K X) := by
    intro n
    induction n with
    | zero =>
      intro j hj
      have hjc : j = ns := by omega
      subst hjc
      refine w327_9 ?_
      simp only [↓forall_eq, ↓inB_iff, gK_hU, gL_hU, gR_hU, gIh, gJh, pI_hU, pJ_hU, hU_hU, uI_app, uJ_app, and_true, true_and, and_false, false_and, and_self, true_implies, false_implies, not_true, not_false_iff, if_true, if_false, eq_self, Nat.reduceLeDiff, Nat.reduceEqDiff, reduceCtorEq, i32c, ti0, ti1, tiM, Int.natCast_nonneg, Int.reduceEq, Int.reduceLE, Int.reduceLT, Int.reduceNeg, tl_i, Int32.reduceToInt, Int64.reduceToInt, tiA, tlM6, Int.toNat_natCast, natc, nI_1, Int.zero_sub, implies_true, not_false_eq_true, mf.1, mr_42 mf, mk_70 mf, ml_70 mf, ↓fail_br mf, h38, nI60, Int.lt_irrefl, ↓today_br mf]
      refine ⟨fun e => go 0 e (by decide), fun e => go 1 e (by decide), fun e => go 2 e (by decide), fun e => go 3 e (by decide), fun e => ?_, fun e => ?_, fun e => go 6 e (by decide), fun e => go 7 e (by decide), fun e => go 8 e (by decide), fun e => go 9 e (by decide), fun e => go 10 e (by decide), fun e => go 11 e (by decide), fun e => go 12 e (by decide), fun e => go 13 e (by decide), fun e => go 14 e (by decide), fun e => no (by omega)⟩
      · have y := go 4 e (by decide)
        rw [show tdV I 4 = I 44 38 from rfl, h38] at y
        exact y
      · have y := go 5 e (by decide)
        rw [show tdV I 5 = I 44 38 - I 44 53 from rfl, h38, h53, sub5, hcl] at y
        exact y
    | succ n ih =>
      intro j hj
      have jI : (nI j).toInt = j := ti_n (by omega)
      have jl : (j : Int) < ns := by omega
      have j60 : (j : Int) < 60 := by omega
      have nx := ih (j + 1) (by omega)
      have cj := clC_le (M := I) j
      rw [clC] at nx
      refine w327_9 ?_
      simp only [↓forall_eq, ↓inB_iff, gK_hU, gL_hU, gR_hU, gIh, gJh, pI_hU, pJ_hU, hU_hU, uI_app, uJ_app, and_true, true_and, and_false, false_and, and_self, true_implies, false_implies, not_true, not_false_iff, if_true, if_false, eq_self, Nat.reduceLeDiff, Nat.reduceEqDiff, reduceCtorEq, i32c, ti0, ti1, tiM, Int.natCast_nonneg, Int.reduceEq, Int.reduceLE, Int.reduceLT, Int.reduceNeg, tl_i, Int32.reduceToInt, Int64.reduceToInt, tiA, tlM6, Int.toNat_natCast, natc, nI_1, Int.zero_sub, implies_true, not_false_eq_true, mf.1, mr_42 mf, mk_70 mf, ml_70 mf, h38, nI60, jI, jl, j60]
      refine ⟨fun z => ?_, fun z => ?_⟩
      · rw [if_pos z, show j + 1 - (clC I j + 0) = j - clC I j + 1 by omega] at nx; exact nx
      · rw [if_neg z, show j + 1 - (clC I j + 1) = j - clC I j + 0 by omega] at nx
        have e0 : nI (j - clC I j) + 0 = nI (j - clC I j + 0) := by rw [show (0 : Int32) = nI 0 from rfl, nI_add]
        rw [e0]; exact nx
  refine m327 ?_
  simp only [↓forall_eq, ↓inB_iff, gK_hU, gL_hU, gR_hU, gIh, gJh, pI_hU, pJ_hU, hU_hU, uI_app, uJ_app, and_true, true_and, and_false, false_and, and_self, true_implies, false_implies, not_true, not_false_iff, if_true, if_false, eq_self, Nat.reduceLeDiff, Nat.reduceEqDiff, reduceCtorEq, i32c, ti0, ti1, tiM, Int.natCast_nonneg, Int.reduceEq, Int.reduceLE, Int.reduceLT, Int.reduceNeg, tl_i, Int32.reduceToInt, Int64.reduceToInt, tiA, tlM6, Int.toNat_natCast, natc, nI_1, Int.zero_sub, implies_true, not_false_eq_true, mf.1, mr_42 mf, mk_70 mf, ml_70 mf]
  exact loop ns 0 (by omega)
theorem pr_told (b : base h o) (Rg : RegA h A o (gI h) U T) (mm : MinA h (gI h)) (tp : TapeA h (gI h) L) (F : FormA h A o (gI h) E Cn nf) (S : SessA h A o (gI h) E Cn nf ns U) (R : RecA h A o (gI h) nf ns nr) (Sm : SamA h A o (gI h) U nm) (Tb : TabA h A o (gI h) nt) (P : PerA h A o (gI h) np) (Rl : RelA h A o (gI h) nt nk) (Lk : LookA h A o (gI h) nl) (hcl : nr = clC (gI h) ns) : Pr 325 327 [vI x] [1] h (fun h2 => left h h2 A A o o (fun _ => False) [] [] 1 6) := by
  have mf := b.2.1
  by_cases q : 0 ≤ x.toInt ∧ x.toInt ≤ 14
  · refine Pr_ok (tdV (gI h) x.toInt) (fun h1 => h1 = h) (fun K X kk => c_told b Rg mm tp F S R Sm Tb P Rl Lk (fun _ => kk h rfl) (fun z => absurd q z)) (fun h1 J1 m j K X kk => ?_)
    subst m
    exact m_told mf S.2.1.1 S.2.1.2 R.2.1.1 hcl (fun _ => kk (hU h1 (uI (gI h1) 44 0 0) J1) (by rw [gIh, uI_same]) rfl (left_mk b b fr_refl (fun w => w) (by simp) (fun a a1 a2 => by funext j9; simp only [uI_app]; grind) (fun j9 a1 a2 => by simp only [uI_app]; grind) (fun a a1 _ => j a a1) (by omega) (by omega))) (fun z => absurd q z)
  · refine Pr_gc (A := A) (C := fun _ => False) 0 1 b (by decide) rfl (fun K X kk => c_told b Rg mm tp F S R Sm Tb P Rl Lk (fun z => absurd z q) (fun _ => kk)) (fun g J K X mf e kk => ?_) (fun h2 l => l)
    have e4 := e 44 (by decide) (by decide)
    refine m_told (ns := ns) (nr := nr) mf (by rw [e4]; exact S.2.1.1) S.2.1.2 (by rw [e4]; exact R.2.1.1) ?_ (fun z => absurd z q) (fun _ => kk)
    rw [hcl]
    have : ∀ n, clC (gI h) n = clC (gI g) n := by
      intro n
      induction n with
      | zero => rfl
      | succ n ih => rw [clC, clC, ih, e 70 (by decide) (by decide)]
    exact this ns
end TLD
