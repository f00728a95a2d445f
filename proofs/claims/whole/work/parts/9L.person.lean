/-! PERSONS -/
section PRS
variable {d np : Nat} {h h1 h2 : aH} {A A1 o o1 : Nat → Nat} {X : Nat → aH → Prop} {M M2 : Nat → Nat → Int32} {I : Nat → Nat → Int32} {J : Nat → Nat → Int64} {C9 : Nat → Prop} {x : Int32}
def PerA (h : aH) (A o : Nat → Nat) (M : Nat → Nat → Int32) (np : Nat) : Prop := (M 44 80 = nI np ∧ np ≤ 12) ∧ (rowsOK h 40 (A 11000041) 1 12 np ∧ o (A 11000041) = 11000041) ∧ ∀ k, k < np → gI h (A 11000041) k = M 99 k ∧ 0 ≤ (M 99 k).toInt ∧ (M 99 k).toInt ≤ 7
theorem PerA_left {as fs : List Nat} {n q : Nat} (b : base h o) (S : PerA h A o (gI h) np) (l : left h h2 A A1 o o1 C9 as fs n q) (hc : ¬ C9 11) (ha : 99 ∉ as) (hf : 80 ∉ fs) : PerA h2 A1 o1 (gI h2) np := by
  obtain ⟨l1, l2, ⟨l3, l4, l5⟩, -⟩ := l
  have hcc : ¬ (C9 11 ∨ 11 = 14 ∨ 11 = 15) := by rintro (q | q | q); exact hc q; omega; omega
  have hN := b.1.1
  obtain ⟨⟨f1, f2⟩, ⟨f3, f4⟩, f5⟩ := S
  have e1 := l2.2.2 11000041 hcc
  have n1 := f3.2.2.1.2.2.1
  have s1 := fr_same l2 (a := 40) (by omega) (by rw [ol_40 b.2.2]; exact hcc)
  have s2 := fr_same l2 (a := A 11000041) n1 (by rw [f4]; exact hcc)
  refine ⟨⟨by rw [l4 80 (by decide) hf]; exact f1, f2⟩, ⟨?_, by rw [e1, l2.2.1 _ n1]; exact f4⟩, fun k hk => ?_⟩
  · rw [e1]
    exact rows_keeps f3 l2.1 (by show ¬ _; rw [ol_40 b.2.2]; exact hcc)
  · rw [e1, s2.2.2.1 k, l3 99 (by decide) (by decide) ha]
    exact f5 k hk
theorem rows_new11 {w lim n b' : Nat} (b : base h o) (R : rowsOK h 40 (A 11000041) w lim n) (hlab : o (A 11000041) = 11000041) (hb' : (b' = A 11000041 ∧ gN h1 = gN h) ∨ (b' = gN h ∧ gN h1 = gN h + 1)) (k : keeps h h1 (fun q => q = 40 ∨ q = A 11000041)) :
    ∃ A1 o1 : Nat → Nat, A1 11000041 = b' ∧ o1 b' = 11000041 ∧ (∀ q, q < gN h → o1 q = o q) ∧ fr h h1 A A1 o o1 (fun c => c = 11) ∧ base h1 o1 := by
  have hN := b.1.1
  have ol := b.2.2
  have hal : A 11000041 ≠ 8 ∧ A 11000041 ≠ 9 ∧ A 11000041 ≠ 17 ∧ A 11000041 ≠ 19 ∧ A 11000041 ≠ 32 ∧ A 11000041 ≠ 44 := by
    refine ⟨fun e => ?_, fun e => ?_, fun e => ?_, fun e => ?_, fun e => ?_, fun e => ?_⟩ <;> rw [e] at hlab
    · rw [ol_8 ol] at hlab; omega
    · rw [ol_9 ol] at hlab; omega
    · rw [ol_17 ol] at hlab; omega
    · rw [ol_19 ol] at hlab; omega
    · rw [ol_32 ol] at hlab; omega
    · have := ol_m ol (a := 44) (by decide) (by decide); omega
  have oq : ∀ q, q < gN h → (if q = b' then 11000041 else o q) = o q := fun q hq => by
    split
    · rename_i e
      rcases hb' with ⟨e1, -⟩ | ⟨e1, -⟩
      · rw [e, e1, hlab]
      · omega
    · rfl
  have f : fr h h1 A (fun m => if m = 11000041 then b' else A m) o (fun q => if q = b' then 11000041 else o q) (fun c => c = 11) := by
    refine ⟨keeps_mono k (fun q hq w => ?_), oq, fun m hm => if_neg (fun e => hm (by rw [e]))⟩
    rcases w with e | e
    · show o q / 1000000 = 11
      rw [e, ol_40 ol]
    · show o q / 1000000 = 11
      rw [e, hlab]
  refine ⟨fun m => if m = 11000041 then b' else A m, fun q => if q = b' then 11000041 else o q, if_pos rfl, if_pos rfl, oq, f, ?_⟩
  exact base_of b f (fun q hq j => (k.2.2.2 q (by omega) (by omega)).2.2.2.2 j) ((k.2.2.2 19 (by omega) (by omega)).2.2.2.2 0)
theorem pr_person (b : base h o) (P : PerA h A o (gI h) np) : Pr 309 311 [vI x] [1, 4] h (fun h2 => ∃ A1 o1 np1, left h h2 A A1 o o1 (fun c => c = 11) [99] [80] 1 40 ∧ PerA h2 A1 o1 (gI h2) np1) := by
  have mf := b.2.1
  have hN := b.1.1
  obtain ⟨⟨f1, f2⟩, ⟨f3, f4⟩, f5⟩ := P
  have P0 : PerA h A o (gI h) np := ⟨⟨f1, f2⟩, ⟨f3, f4⟩, f5⟩
  have hn : (nI np).toInt = np := ti_n (by omega)
  have fin : ∀ h2, left h h2 A A o o (fun _ => False) [] [] 1 6 → ∃ A1 o1 np1, left h h2 A A1 o o1 (fun c => c = 11) [99] [80] 1 40 ∧ PerA h2 A1 o1 (gI h2) np1 := fun h2 l => ⟨A, o, np, left_mono l (fun _ w => w.elim) (by simp) (by simp) (by omega) (by omega), PerA_left b P0 l (fun w => w) (by simp) (by simp)⟩
  by_cases qx : 0 ≤ x.toInt ∧ x.toInt ≤ 7
  · have n0 : ¬ x.toInt < 0 := by omega
    have n7 : ¬ 7 < x.toInt := by omega
    by_cases qn : np < 12
    · refine Pr_ok (nI np) (fun h1 => ∃ A1 o1, base h1 o1 ∧ fr h h1 A A1 o o1 (fun c => c = 11) ∧ (rowsOK h1 40 (A1 11000041) 1 12 (np + 1) ∧ o1 (A1 11000041) = 11000041) ∧ (∀ k, k < np → gI h1 (A1 11000041) k = gI h 99 k) ∧ gI h1 (A1 11000041) np = x ∧ gN h1 ≤ gN h + 1 ∧ gT h1 ≤ gT h + 40) (fun K X k => m309 ?_) (fun h1 J1 m j K X k => m311 ?_)
      · simp only [↓forall_eq, ↓inB_iff, gK_hU, gL_hU, gR_hU, gIh, gJh, pI_hU, pJ_hU, hU_hU, uI_app, uJ_app, and_true, true_and, and_false, false_and, and_self, true_implies, false_implies, not_true, not_false_iff, if_true, if_false, eq_self, Nat.reduceLeDiff, Nat.reduceEqDiff, reduceCtorEq, i32c, ti0, ti1, tiM, Int.natCast_nonneg, Int.reduceEq, Int.reduceLE, Int.reduceLT, Int.reduceNeg, tl_i, Int32.reduceToInt, Int64.reduceToInt, tiA, tlM6, Int.toNat_natCast, natc, nI_1, Int.zero_sub, implies_true, not_false_eq_true, n0, n7, ck_8 b.1, cr_8_10 b.1, ck_40 b.1, ↓isFull_br f3, qn]
        refine c_addU f3 qn fun b' h1 R1 e1 e2 k1 t1 => ?_
        have g1 : CF h1 := CF_keeps b.1 k1 (by omega)
        have hb := rows_ne R1
        have hT1 : np < np + 1 := by omega
        simp only [↓forall_eq, ↓inB_iff, gK_hU, gL_hU, gR_hU, gIh, gJh, pI_hU, pJ_hU, hU_hU, uI_app, uJ_app, and_true, true_and, and_false, false_and, and_self, true_implies, false_implies, not_true, not_false_iff, if_true, if_false, eq_self, Nat.reduceLeDiff, Nat.reduceEqDiff, reduceCtorEq, i32c, ti0, ti1, tiM, Int.natCast_nonneg, Int.reduceEq, Int.reduceLE, Int.reduceLT, Int.reduceNeg, tl_i, Int32.reduceToInt, Int64.reduceToInt, tiA, tlM6, Int.toNat_natCast, natc, nI_1, Int.zero_sub, implies_true, not_false_eq_true, ck_8 g1, cr_8_10 g1, ck_40 g1, ↓put_br R1 hT1 (show (0 : Int32) = nI 0 from rfl) (show 0 < 1 by decide)]
        have k2 : keeps h (hU h1 (uI (gI h1) b' (np * 1 + 0) x) (gJ h1)) (fun q => q = 40 ∨ q = A 11000041) := ⟨k1.1, k1.2.1, fun a ha => k1.2.2.1 a ha, fun a ha hp => by
          have s := k1.2.2.2 a ha (fun e => hp (Or.inl e))
          have bN := f3.2.2.1.2.2.1
          have hab : a ≠ b' := by
            rcases e2 with ⟨q, -⟩ | ⟨q, -⟩
            · rw [q]; exact fun e => hp (Or.inr e)
            · omega
          exact ⟨s.1, s.2.1, fun j => by rw [gI_hU]; simp only [uI_ne, uJ_ne, ne_eq, Nat.reduceEqDiff, not_false_eq_true, hab]; exact s.2.2.1 j, s.2.2.2.1, s.2.2.2.2⟩⟩
        obtain ⟨A1, o1, a1, a2, a4, a5, a6⟩ := rows_new11 (h1 := hU h1 (uI (gI h1) b' (np * 1 + 0) x) (gJ h1)) b f3 f4 e2 k2
        refine k _ ⟨A1, o1, a6, a5, ⟨by rw [a1]; exact rows_hU R1 (by simp only [uI_ne, uJ_ne, ne_eq, Nat.reduceEqDiff, not_false_eq_true, hb]), by rw [a1]; exact a2⟩, fun i hi => ?_, ?_, ?_, ?_⟩
        · rw [a1, gIh, uI_app, if_neg (by omega), e1 i (by omega)]; exact (f5 i hi).1
        · rw [a1, gIh, uI_app, if_pos ⟨rfl, by omega⟩]
        · rw [gN_hU]; omega
        · rw [gT_hU]; omega
      · obtain ⟨A1, o1, b1, g1, ⟨r1, r2⟩, r3, r4, n1, t1⟩ := m
        have hh := (fr_m b g1 (by decide) (a := 44) (by decide) (by decide)).1
        have hh9 := (fr_m b g1 (by decide) (a := 99) (by decide) (by decide)).1
        have hu1 : gI h1 44 80 = nI np := by rw [hh]; exact f1
        have hne : ¬ ((np : Int) = 12) := by omega
        have hlt : (np : Int) < 12 := by omega
        have t7 : (7 : Int64).toInt = 7 := rfl
        simp only [↓forall_eq, ↓inB_iff, gK_hU, gL_hU, gR_hU, gIh, gJh, pI_hU, pJ_hU, hU_hU, uI_app, uJ_app, and_true, true_and, and_false, false_and, and_self, true_implies, false_implies, not_true, not_false_iff, if_true, if_false, eq_self, Nat.reduceLeDiff, Nat.reduceEqDiff, reduceCtorEq, i32c, ti0, ti1, tiM, Int.natCast_nonneg, Int.reduceEq, Int.reduceLE, Int.reduceLT, Int.reduceNeg, tl_i, Int32.reduceToInt, Int64.reduceToInt, tiA, tlM6, Int.toNat_natCast, natc, nI_1, Int.zero_sub, implies_true, not_false_eq_true, b1.2.1.1, mr_81 b1.2.1, mk_99 b1.2.1, ml_99 b1.2.1, ↓fail_br b1.2.1, ↓isIn_br, hu1, hn, hne, hlt, nI_pred, qx]
        have lo : ¬ (44 ≤ A1 11000041 ∧ A1 11000041 ≤ 107) := fun z => by
          have q := r2
          by_cases e : A1 11000041 = 107
          · rw [e, ol_107 b1.2.2] at q; omega
          · have w := ol_m b1.2.2 z.1 (by omega)
            rw [q] at w; omega
        refine k _ (by simp only [↓forall_eq, ↓inB_iff, gK_hU, gL_hU, gR_hU, gIh, gJh, pI_hU, pJ_hU, hU_hU, uI_app, uJ_app, and_true, true_and, and_false, false_and, and_self, true_implies, false_implies, not_true, not_false_iff, if_true, if_false, eq_self, Nat.reduceLeDiff, Nat.reduceEqDiff, reduceCtorEq, i32c, ti0, ti1, tiM, Int.natCast_nonneg, Int.reduceEq, Int.reduceLE, Int.reduceLT, Int.reduceNeg, tl_i, Int32.reduceToInt, Int64.reduceToInt, tiA, tlM6, Int.toNat_natCast, natc, nI_1, Int.zero_sub, implies_true, not_false_eq_true]) rfl ⟨A1, o1, np + 1, left_mk b b1 g1 (by decide) (by simp) (fun a a1 a2 => by funext j9; simp only [uI_app]; grind) (fun j9 a1 a2 => by simp only [uI_app]; grind) (fun a a1 _ => j a a1) n1 t1, ⟨by simp only [↓forall_eq, ↓inB_iff, gK_hU, gL_hU, gR_hU, gIh, gJh, pI_hU, pJ_hU, hU_hU, uI_app, uJ_app, and_true, true_and, and_false, false_and, and_self, true_implies, false_implies, not_true, not_false_iff, if_true, if_false, eq_self, Nat.reduceLeDiff, Nat.reduceEqDiff, reduceCtorEq, i32c, ti0, ti1, tiM, Int.natCast_nonneg, Int.reduceEq, Int.reduceLE, Int.reduceLT, Int.reduceNeg, tl_i, Int32.reduceToInt, Int64.reduceToInt, tiA, tlM6, Int.toNat_natCast, natc, nI_1, Int.zero_sub, implies_true, not_false_eq_true], by omega⟩, ⟨rows_hU r1 (by simp only [uI_ne, uJ_ne, ne_eq, Nat.reduceEqDiff, not_false_eq_true]), r2⟩, fun i hi => ?_⟩
        rw [gIh, uI_ne _ _ _ (by omega), uI_ne _ _ _ (by omega), uI_ne _ _ _ (by omega)]
        by_cases e : i = np
        · subst e
          rw [r4]
          simp only [↓forall_eq, ↓inB_iff, gK_hU, gL_hU, gR_hU, gIh, gJh, pI_hU, pJ_hU, hU_hU, uI_app, uJ_app, and_true, true_and, and_false, false_and, and_self, true_implies, false_implies, not_true, not_false_iff, if_true, if_false, eq_self, Nat.reduceLeDiff, Nat.reduceEqDiff, reduceCtorEq, i32c, ti0, ti1, tiM, Int.natCast_nonneg, Int.reduceEq, Int.reduceLE, Int.reduceLT, Int.reduceNeg, tl_i, Int32.reduceToInt, Int64.reduceToInt, tiA, tlM6, Int.toNat_natCast, natc, nI_1, Int.zero_sub, implies_true, not_false_eq_true]
          first | exact qx | exact ⟨rfl, qx⟩
        · rw [r3 i (by omega)]
          simp only [↓forall_eq, ↓inB_iff, gK_hU, gL_hU, gR_hU, gIh, gJh, pI_hU, pJ_hU, hU_hU, uI_app, uJ_app, and_true, true_and, and_false, false_and, and_self, true_implies, false_implies, not_true, not_false_iff, if_true, if_false, eq_self, Nat.reduceLeDiff, Nat.reduceEqDiff, reduceCtorEq, i32c, ti0, ti1, tiM, Int.natCast_nonneg, Int.reduceEq, Int.reduceLE, Int.reduceLT, Int.reduceNeg, tl_i, Int32.reduceToInt, Int64.reduceToInt, tiA, tlM6, Int.toNat_natCast, natc, nI_1, Int.zero_sub, implies_true, not_false_eq_true, e, hh9]
          exact (f5 i (by omega)).2
    · refine Pr_gc (A := A) (C := fun _ => False) 1 4 b (by decide) rfl (fun K X k => m309 ?_) (fun g J K X mf e k => m311 ?_) fin
      · simp only [↓forall_eq, ↓inB_iff, gK_hU, gL_hU, gR_hU, gIh, gJh, pI_hU, pJ_hU, hU_hU, uI_app, uJ_app, and_true, true_and, and_false, false_and, and_self, true_implies, false_implies, not_true, not_false_iff, if_true, if_false, eq_self, Nat.reduceLeDiff, Nat.reduceEqDiff, reduceCtorEq, i32c, ti0, ti1, tiM, Int.natCast_nonneg, Int.reduceEq, Int.reduceLE, Int.reduceLT, Int.reduceNeg, tl_i, Int32.reduceToInt, Int64.reduceToInt, tiA, tlM6, Int.toNat_natCast, natc, nI_1, Int.zero_sub, implies_true, not_false_eq_true, n0, n7, ck_8 b.1, cr_8_10 b.1, ck_40 b.1, ↓isFull_br f3, qn]
        exact k
      · have hne : (np : Int) = 12 := by omega
        have t7 : (7 : Int64).toInt = 7 := rfl
        simp only [↓forall_eq, ↓inB_iff, gK_hU, gL_hU, gR_hU, gIh, gJh, pI_hU, pJ_hU, hU_hU, uI_app, uJ_app, and_true, true_and, and_false, false_and, and_self, true_implies, false_implies, not_true, not_false_iff, if_true, if_false, eq_self, Nat.reduceLeDiff, Nat.reduceEqDiff, reduceCtorEq, i32c, ti0, ti1, tiM, Int.natCast_nonneg, Int.reduceEq, Int.reduceLE, Int.reduceLT, Int.reduceNeg, tl_i, Int32.reduceToInt, Int64.reduceToInt, tiA, tlM6, Int.toNat_natCast, natc, nI_1, Int.zero_sub, implies_true, not_false_eq_true, mf.1, mr_81 mf, mk_99 mf, ml_99 mf, ↓fail_br mf, ↓isIn_br, e 44 (by decide) (by decide), f1, hn, hne, qx]
        exact k
  · refine Pr_gc (A := A) (C := fun _ => False) 0 1 b (by decide) rfl (fun K X k => m309 ?_) (fun g J K X mf e k => m311 ?_) fin
    · refine ⟨fun _ => k, fun z1 => ⟨fun _ => k, fun z2 => absurd ⟨by omega, by omega⟩ qx⟩⟩
    · have t7 : (7 : Int64).toInt = 7 := rfl
      simp only [↓forall_eq, ↓inB_iff, gK_hU, gL_hU, gR_hU, gIh, gJh, pI_hU, pJ_hU, hU_hU, uI_app, uJ_app, and_true, true_and, and_false, false_and, and_self, true_implies, false_implies, not_true, not_false_iff, if_true, if_false, eq_self, Nat.reduceLeDiff, Nat.reduceEqDiff, reduceCtorEq, i32c, ti0, ti1, tiM, Int.natCast_nonneg, Int.reduceEq, Int.reduceLE, Int.reduceLT, Int.reduceNeg, tl_i, Int32.reduceToInt, Int64.reduceToInt, tiA, tlM6, Int.toNat_natCast, natc, nI_1, Int.zero_sub, implies_true, not_false_eq_true, mf.1, mr_81 mf, mk_99 mf, ml_99 mf, ↓fail_br mf, ↓isIn_br, qx]
      exact k
end PRS
