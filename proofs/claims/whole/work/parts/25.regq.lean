/-! THE REGISTER'S AREA: tick, tell, merge, value -/
section RGQ
variable {d U T : Nat} {h h1 h2 : aH} {A A1 o o1 : Nat → Nat} {X : Nat → aH → Prop} {M M1 M2 : Nat → Nat → Int32} {I : Nat → Nat → Int32} {J : Nat → Nat → Int64} {C : Nat → Prop}
theorem c_addU {K : Int32 → aH → Prop} {a b w lim n : Nat} (R : rowsOK h a b w lim n) (hn : n < lim)
    (k : ∀ (b' : Nat) (h1 : aH), rowsOK h1 a b' w lim (n + 1) → (∀ i, i < n * w → gI h1 b' i = gI h b i) → ((b' = b ∧ gN h1 = gN h) ∨ (b' = gN h ∧ gN h1 = gN h + 1)) → keeps h h1 (fun q => q = a) → gT h1 ≤ gT h + 2 * ((n + 1) * w) → K (nI n) (hU h1 (gI h1) (gJ h1))) : CI (d + 2) 21 [vR a] h K X := c_add R hn k
theorem put_br {a b w lim n k c : Nat} {y v : Int32} {K : aH → Prop} (R : rowsOK h a b w lim n) (hk : k < n) (hy : y = nI c) (hc : c < w) (e : I a = gI h a) : CV (d + 1) 23 [vR a, vI (nI k), vI y, vI v] (hU h I J) K X ↔ K (hU h (uI I b (k * w + c) v) J) := by
  have hn := R.2.2.2.2
  exact CV_iff fun K X w => c_put (h := hU h I J) c (rows_hU R e) (by rw [ti_n (by omega)]; omega) (by rw [ti_n (by omega)]; omega) hy hc (by rw [ti_n (by omega)]; exact w)
theorem rows_ne {a b w lim n : Nat} (R : rowsOK h a b w lim n) : a ≠ b := fun e => by have := R.2.2.1.2.2.2; rw [← e, R.1.2.2] at this; omega
theorem c_addTelling {K : Int32 → aH → Prop} {bt : Nat} {u fi da v t : Int32} (f : CF h) (R : rowsOK h 12 bt 5 1500 T) (hT : T < 1500)
    (k : ∀ b' h1, rowsOK h1 12 b' 5 1500 (T + 1) → (∀ i, i < T * 5 → gI h1 b' i = gI h bt i) → (gI h1 b' (T * 5 + 0) = u ∧ gI h1 b' (T * 5 + 1) = fi ∧ gI h1 b' (T * 5 + 2) = da ∧ gI h1 b' (T * 5 + 3) = v ∧ gI h1 b' (T * 5 + 4) = t) → ((b' = bt ∧ gN h1 = gN h) ∨ (b' = gN h ∧ gN h1 = gN h + 1)) → keeps h h1 (fun q => q = 12 ∨ q = bt) → gT h1 ≤ gT h + 2 * ((T + 1) * 5) → K (nI (T + 1)) h1) : CI (d + 3) 36 [vR 9, vI u, vI fi, vI da, vI v, vI t] h K X := by
  have hN := f.1
  have bN := R.2.2.1.2.2.1
  refine m36 ?_
  simp only [↓forall_eq, ↓inB_iff, gK_hU, gL_hU, gR_hU, gIh, gJh, pI_hU, pJ_hU, hU_hU, uI_app, uJ_app, and_true, true_and, and_false, false_and, and_self, true_implies, false_implies, not_true, not_false_iff, if_true, if_false, eq_self, Nat.reduceLeDiff, Nat.reduceEqDiff, reduceCtorEq, i32c, ti0, ti1, tiM, Int.natCast_nonneg, Int.reduceEq, Int.reduceLE, Int.reduceLT, Int.reduceNeg, tl_i, Int32.reduceToInt, Int64.reduceToInt, tiA, tlM6, Int.toNat_natCast, natc, nI_1, Int.zero_sub, implies_true, not_false_eq_true, ck_9 f, cr_9_1 f, ck_12 f]
  refine c_addU R hT fun b' h1 R1 e1 e2 k1 t1 => ?_
  have f1 : CF h1 := CF_keeps f k1 (by omega)
  have hb := rows_ne R1
  have hT1 : T < T + 1 := by omega
  simp only [↓forall_eq, ↓inB_iff, gK_hU, gL_hU, gR_hU, gIh, gJh, pI_hU, pJ_hU, hU_hU, uI_app, uJ_app, and_true, true_and, and_false, false_and, and_self, true_implies, false_implies, not_true, not_false_iff, if_true, if_false, eq_self, Nat.reduceLeDiff, Nat.reduceEqDiff, reduceCtorEq, i32c, ti0, ti1, tiM, Int.natCast_nonneg, Int.reduceEq, Int.reduceLE, Int.reduceLT, Int.reduceNeg, tl_i, Int32.reduceToInt, Int64.reduceToInt, tiA, tlM6, Int.toNat_natCast, natc, nI_1, Int.zero_sub, implies_true, not_false_eq_true, ck_9 f1, cr_9_1 f1, ck_12 f1, ↓put_br R1 hT1 (show (0 : Int32) = nI 0 from rfl) (show 0 < 5 by decide), ↓put_br R1 hT1 (show (1 : Int32) = nI 1 from rfl) (show 1 < 5 by decide), ↓put_br R1 hT1 (show (2 : Int32) = nI 2 from rfl) (show 2 < 5 by decide), ↓put_br R1 hT1 (show (3 : Int32) = nI 3 from rfl) (show 3 < 5 by decide), ↓put_br R1 hT1 (show (4 : Int32) = nI 4 from rfl) (show 4 < 5 by decide), ↓size_br R1, uI_ne, uJ_ne, ne_eq, Nat.reduceEqDiff, not_false_eq_true, hb]
  refine k b' _ (rows_hU R1 (by simp only [uI_ne, uJ_ne, ne_eq, Nat.reduceEqDiff, not_false_eq_true, hb])) (fun i hi => ?_) ⟨?_, ?_, ?_, ?_, ?_⟩ e2 ⟨k1.1, k1.2.1, fun a ha => k1.2.2.1 a ha, fun a ha hp => ?_⟩ t1
  · rw [gI_hU]; simp only [uI_app]; rw [← e1 i hi]; grind
  · rw [gI_hU]; simp only [uI_app]; grind
  · rw [gI_hU]; simp only [uI_app]; grind
  · rw [gI_hU]; simp only [uI_app]; grind
  · rw [gI_hU]; simp only [uI_app]; grind
  · rw [gI_hU]; simp only [uI_app]; grind
  · have s := k1.2.2.2 a ha (fun e => hp (Or.inl e))
    have hab : a ≠ b' := by
      rcases e2 with ⟨q, -⟩ | ⟨q, -⟩
      · rw [q]; exact fun e => hp (Or.inr e)
      · omega
    exact ⟨s.1, s.2.1, fun j => by rw [gI_hU]; simp only [uI_ne, uJ_ne, ne_eq, Nat.reduceEqDiff, not_false_eq_true, hab]; exact s.2.2.1 j, s.2.2.2.1, s.2.2.2.2⟩
def MinA (h : aH) (M : Nat → Nat → Int32) : Prop := gI h 8 12 = M 44 1 ∧ 0 ≤ (M 44 1).toInt ∧ (M 44 1).toInt ≤ 100000000
theorem MinA_left {as fs : List Nat} {n t : Nat} (b : base h o) (R : MinA h (gI h)) (l : left h h2 A A1 o o1 C as fs n t) (hc : ¬ C 13) (hf : 1 ∉ fs) : MinA h2 (gI h2) := by
  obtain ⟨l1, l2, ⟨l3, l4, l5⟩, -⟩ := l
  have hN := b.1.1
  have e := l4 1 (by decide) hf
  have e2 := (fr_same l2 (a := 8) (by omega) (by rw [ol_8 b.2.2]; rintro (q | q | q); exact hc q; omega; omega)).2.2.1 12
  unfold MinA
  rw [e, e2]; exact R
theorem pr_tick {x : Int32} (b : base h o) (R : RegA h A o (gI h) U T) (mm : MinA h (gI h)) :
    Pr 12 16 [vI x] [1] h (fun h2 => left h h2 A A o o (fun c => c = 13) [] [1] 1 6 ∧ RegA h2 A o (gI h2) U T ∧ MinA h2 (gI h2)) := by
  obtain ⟨hm, hm1, hm2⟩ := mm
  have s1 : ∀ {x : Int32}, 0 ≤ x.toInt → x.toInt ≤ 1000000 → (gI h 44 1 + x).toInt = (gI h 44 1).toInt + x.toInt := fun a c => ti_add (by omega) (by omega)
  have s2 : ∀ {x : Int32}, 0 ≤ x.toInt → x.toInt ≤ 1000000 → ((gI h 44 1).toInt64 + x.toInt64).toInt = (gI h 44 1).toInt + x.toInt := fun a c => by
    rw [tl_add (by rw [tl_i, tl_i]; omega) (by rw [tl_i, tl_i]; omega), tl_i, tl_i]
  by_cases q : 0 ≤ x.toInt ∧ x.toInt ≤ 1000000 ∧ (gI h 44 1).toInt + x.toInt ≤ 100000000
  · obtain ⟨q1, q2, q3⟩ := q
    have z1 : ¬ x.toInt < 0 := by omega
    have z2 : ¬ 1000000 < x.toInt := by omega
    have z3 : ¬ 100000000 < (gI h 44 1).toInt + x.toInt := by omega
    refine Pr_ok (gI h 44 1 + x) (fun h1 => h1 = pI h 8 12 (gI h 44 1 + x)) (fun K X k => m12 ?_) (fun h1 J1 m j K X k => m16 ?_)
    · simp only [ck_8 b.1, hm, s1 q1 q2, z1, z2, z3]
      simp only [false_implies, not_false_eq_true, true_implies, true_and, Nat.reduceLeDiff, forall_eq]
      rw [gI_pI, if_pos ⟨rfl, rfl⟩]
      exact k _ rfl
    · have b1 : base (pI h 8 12 (gI h 44 1 + x)) o := b
      subst m
      have e44 : gI (pI h 8 12 (gI h 44 1 + x)) 44 = gI h 44 := by funext j; rw [gI_pI, if_neg (by omega)]
      simp only [↓forall_eq, ↓inB_iff, gK_hU, gL_hU, gR_hU, gIh, gJh, pI_hU, pJ_hU, hU_hU, uI_app, uJ_app, and_true, true_and, and_false, false_and, and_self, true_implies, false_implies, not_true, not_false_iff, if_true, if_false, eq_self, Nat.reduceLeDiff, Nat.reduceEqDiff, reduceCtorEq, i32c, ti0, ti1, tiM, Int.natCast_nonneg, Int.reduceEq, Int.reduceLE, Int.reduceLT, Int.reduceNeg, tl_i, Int32.reduceToInt, Int64.reduceToInt, tiA, tlM6, Int.toNat_natCast, natc, nI_1, Int.zero_sub, implies_true, not_false_eq_true, b1.2.1.1, ↓fail_br b1.2.1, ↓isIn_br, e44, s2 q1 q2, q1, q2, z3]
      have hN := b.1.1
      have fI : fr h (pI h 8 12 (gI h 44 1 + x)) A A o o (fun c => c = 13) := ⟨keeps_mono (keeps_pI _ _ _ _) (fun a _ e => by show o a / 1000000 = 13; rw [e, ol_8 b.2.2]), fun _ _ => rfl, fun _ _ => rfl⟩
      have l1 := left_mk (n := 1) (t := 6) (as := []) (fs := [1]) (I' := uI (uI (gI (pI h 8 12 (gI h 44 1 + x))) 44 0 0) 44 1 (gI h 44 1 + x)) (J' := J1) (C := fun c => c = 13) (A := A) (A1 := A) b b1 fI (by decide) (by simp) (fun a a1 a2 => by funext j9; simp only [uI_app]; grind) (fun j9 a1 a2 => by simp only [uI_app]; grind) (fun a a1 _ => j a a1) (by rw [gN_pI]; omega) (by rw [gT_pI]; omega)
      refine k _ (by simp only [↓forall_eq, ↓inB_iff, gK_hU, gL_hU, gR_hU, gIh, gJh, pI_hU, pJ_hU, hU_hU, uI_app, uJ_app, and_true, true_and, and_false, false_and, and_self, true_implies, false_implies, not_true, not_false_iff, if_true, if_false, eq_self, Nat.reduceLeDiff, Nat.reduceEqDiff, reduceCtorEq, i32c, ti0, ti1, tiM, Int.natCast_nonneg, Int.reduceEq, Int.reduceLE, Int.reduceLT, Int.reduceNeg, tl_i, Int32.reduceToInt, Int64.reduceToInt, tiA, tlM6, Int.toNat_natCast, natc, nI_1, Int.zero_sub, implies_true, not_false_eq_true]) rfl ⟨l1, ?_, ?_, ?_, ?_⟩
      · obtain ⟨⟨r1, r2⟩, r3, r4, r5, ⟨r6, r7⟩, r8, r9, r10⟩ := R
        have e : ∀ a, a ≠ 8 → a ≠ 44 → gI (hU (pI h 8 12 (gI h 44 1 + x)) (uI (uI (gI (pI h 8 12 (gI h 44 1 + x))) 44 0 0) 44 1 (gI h 44 1 + x)) J1) a = gI h a := fun a h8 h44 => by
          funext j9
          show uI (uI (gI (pI h 8 12 (gI h 44 1 + x))) 44 0 0) 44 1 (gI h 44 1 + x) a j9 = gI h a j9
          rw [uI_ne _ _ _ h44, uI_ne _ _ _ h44, gI_pI, if_neg (fun w => h8 w.1)]
        have n1 : A 1000011 ≠ 8 := fun e => by rw [e, ol_8 b.2.2] at r6; omega
        have n2 : A 1000013 ≠ 8 := fun e => by rw [e, ol_8 b.2.2] at r7; omega
        have n3 : A 1000011 ≠ 44 := fun e => by rw [e] at r6; have := ol_m b.2.2 (a := 44) (by decide) (by decide); omega
        have n4 : A 1000013 ≠ 44 := fun e => by rw [e] at r7; have := ol_m b.2.2 (a := 44) (by decide) (by decide); omega
        unfold RegA
        rw [e 45 (by decide) (by decide), e 46 (by decide) (by decide), e 47 (by decide) (by decide), e 48 (by decide) (by decide), e 49 (by decide) (by decide), e 50 (by decide) (by decide), e 51 (by decide) (by decide), e 9 (by decide) (by decide)]
        have ee : ∀ j, j ≠ 0 → j ≠ 1 → gI (hU (pI h 8 12 (gI h 44 1 + x)) (uI (uI (gI (pI h 8 12 (gI h 44 1 + x))) 44 0 0) 44 1 (gI h 44 1 + x)) J1) 44 j = gI h 44 j := fun j h0 h1 => by
          show uI (uI (gI (pI h 8 12 (gI h 44 1 + x))) 44 0 0) 44 1 (gI h 44 1 + x) 44 j = gI h 44 j
          rw [uI_nj _ _ _ _ h1, uI_nj _ _ _ _ h0, e44]
        rw [ee 2 (by decide) (by decide), ee 5 (by decide) (by decide), ee 6 (by decide) (by decide)]
        refine ⟨⟨r1, r2⟩, ?_, ?_, r5, ⟨r6, r7⟩, r8, fun w hw h0 => ?_, r10⟩
        · exact units_hU (h := h) (J := J1) r3 (by exact e 10 (by decide) (by decide)) (by exact e _ n1 n3)
        · refine ⟨rows_hU (h := h) (J := J1) r4.1 (by exact e 12 (by decide) (by decide)), fun r hr => ?_⟩
          rw [e _ n2 n4]; exact r4.2 r hr
        · have := r9 w hw h0
          show _ ≤ ((uI (uI (gI (pI h 8 12 (gI h 44 1 + x))) 44 0 0) 44 1 (gI h 44 1 + x) 44 1) / 1440).toInt
          rw [uI_same]
          have t1 : ∀ y : Int32, 0 ≤ y.toInt → y.toInt ≤ 100000000 → (y / 1440).toInt = y.toInt / 1440 := fun y h1 h2 => by
            rw [Int32.toInt_div, show (1440 : Int32).toInt = 1440 from rfl, Int.tdiv_eq_ediv_of_nonneg h1]
            exact Jvm.Kit.bmod32 (by omega) (by omega)
          rw [t1 _ hm1 hm2] at this
          rw [t1 _ (by rw [s1 q1 q2]; omega) (by rw [s1 q1 q2]; omega), s1 q1 q2]
          omega
      · show uI (uI (gI (pI h 8 12 (gI h 44 1 + x))) 44 0 0) 44 1 (gI h 44 1 + x) 8 12 = uI (uI (gI (pI h 8 12 (gI h 44 1 + x))) 44 0 0) 44 1 (gI h 44 1 + x) 44 1
        rw [uI_same, uI_ne _ _ _ (by decide), uI_ne _ _ _ (by decide), gI_pI, if_pos ⟨rfl, rfl⟩]
      · rw [gI_hU, uI_same, s1 q1 q2]; omega
      · rw [gI_hU, uI_same, s1 q1 q2]; omega
  · have q' : ∀ h2, left h h2 A A o o (fun _ => False) [] [] 1 6 → left h h2 A A o o (fun c => c = 13) [] [1] 1 6 ∧ RegA h2 A o (gI h2) U T ∧ MinA h2 (gI h2) := fun h2 l =>
      ⟨left_mono l (fun _ w => w.elim) (by simp) (by simp) (by omega) (by omega), RegA_left b R l (fun w => w) (by simp) (by simp), MinA_left b ⟨hm, hm1, hm2⟩ l (fun w => w) (by simp)⟩
    refine Pr_gc (A := A) 0 1 b (by decide) rfl (C := fun _ => False) (fun K X k => m12 ?_) (fun g J K X mf e k => m16 ?_) q'
    · refine ⟨fun _ => k, fun c1 => ⟨fun _ => k, fun c2 => ⟨ck_8 b.1, fun _ => k, fun c3 => absurd ?_ q⟩⟩⟩
      rw [hm, s1 (by omega) (by omega)] at c3
      omega
    · simp only [↓forall_eq, ↓inB_iff, gK_hU, gL_hU, gR_hU, gIh, gJh, pI_hU, pJ_hU, hU_hU, uI_app, uJ_app, and_true, true_and, and_false, false_and, and_self, true_implies, false_implies, not_true, not_false_iff, if_true, if_false, eq_self, Nat.reduceLeDiff, Nat.reduceEqDiff, reduceCtorEq, i32c, ti0, ti1, tiM, Int.natCast_nonneg, Int.reduceEq, Int.reduceLE, Int.reduceLT, Int.reduceNeg, tl_i, Int32.reduceToInt, Int64.reduceToInt, tiA, tlM6, Int.toNat_natCast, natc, nI_1, Int.zero_sub, implies_true, not_false_eq_true, mf.1, ↓fail_br mf, ↓isIn_br, e 44 (by decide) (by decide)]
      refine ⟨fun c1 => ⟨fun _ => k, fun c2 => absurd ?_ q⟩, fun _ => k⟩
      rw [s2 (by omega) (by omega)] at c2
      omega
theorem pr_tell {u fi da v : Int32} (b : base h o) (R : RegA h A o (gI h) U T) (mm : MinA h (gI h)) :
    Pr 37 41 [vI u, vI fi, vI da, vI v] [3, 1, 2, 4] h (fun h2 => ∃ A1 o1 T1, left h h2 A A1 o o1 (fun c => c = 1) [47, 48, 49, 50, 51] [6] 1 (10 * (T + 1)) ∧ RegA h2 A1 o1 (gI h2) U T1 ∧ T1 ≤ T + 1) := by
  obtain ⟨u9, t9⟩ := RegA_le R
  have hm := mm.1
  have hu := R.1.1
  have hu2 : (nI U).toInt = U := ti_n (by omega)
  have ht := R.1.2
  have ht2 : (nI T).toInt = T := ti_n (by omega)
  have fin : ∀ h2, left h h2 A A o o (fun _ => False) [] [] 1 6 → ∃ A1 o1 T1, left h h2 A A1 o o1 (fun c => c = 1) [47, 48, 49, 50, 51] [6] 1 (10 * (T + 1)) ∧ RegA h2 A1 o1 (gI h2) U T1 ∧ T1 ≤ T + 1 := fun h2 l =>
    ⟨A, o, T, left_mono l (fun _ w => w.elim) (by simp) (by simp) (by omega) (by omega), RegA_left b R l (fun w => w) (by simp) (by simp), by omega⟩
  by_cases q1 : 0 ≤ u.toInt ∧ u.toInt < U
  · by_cases q2 : 0 ≤ fi.toInt ∧ fi.toInt ≤ 5
    · by_cases q3 : (0 ≤ da.toInt ∧ da.toInt ≤ 100000) ∧ -1000000 ≤ v.toInt ∧ v.toInt ≤ 1000000
      · have z1 : ¬ da.toInt < 0 := by omega
        have z2 : ¬ 100000 < da.toInt := by omega
        have z3 : ¬ v.toInt < -1000000 := by omega
        have z4 : ¬ 1000000 < v.toInt := by omega
        by_cases q4 : (gI h 45 u.toInt.toNat).toInt = -1
        · have hu100 : u.toInt < 100 := by omega
          by_cases q5 : T < 1500
          · refine Pr_ok (nI (T + 1)) (fun h1 => ∃ A1 o1, base h1 o1 ∧ fr h h1 A A1 o o1 (fun c => c = 1) ∧ RegA h1 A1 o1 (uI (uI (uI (uI (uI (uI (gI h) 47 T u) 48 T fi) 49 T da) 50 T v) 51 T (gI h 44 1 / 1440)) 44 6 (nI (T + 1))) U (T + 1) ∧ gN h1 ≤ gN h + 1 ∧ gT h1 ≤ gT h + 10 * (T + 1)) (fun K X k => m37 ?_) (fun h1 J1 m j K X k => m41 ?_)
            · simp only [↓forall_eq, ↓inB_iff, gK_hU, gL_hU, gR_hU, gIh, gJh, pI_hU, pJ_hU, hU_hU, uI_app, uJ_app, and_true, true_and, and_false, false_and, and_self, true_implies, false_implies, not_true, not_false_iff, if_true, if_false, eq_self, Nat.reduceLeDiff, Nat.reduceEqDiff, reduceCtorEq, i32c, ti0, ti1, tiM, Int.natCast_nonneg, Int.reduceEq, Int.reduceLE, Int.reduceLT, Int.reduceNeg, tl_i, Int32.reduceToInt, Int64.reduceToInt, tiA, tlM6, Int.toNat_natCast, natc, nI_1, Int.zero_sub, implies_true, not_false_eq_true, ck_8 b.1, cr_8_0 b.1, ck_9 b.1, cr_9_0 b.1, ck_10 b.1, cr_9_1 b.1, ck_12 b.1, ↓needUnit_br b R, ↓needField_br, ↓needUnm_br b R q1, ↓isFull_br R.2.2.1.1, ↓todayc_br b hm, q1, q2, z1, z2, z3, z4, q4, q5]
              refine c_addTelling b.1 R.2.2.1.1 q5 fun b' h1 R1 e1 e3 e2 k1 t1 => ?_
              obtain ⟨A1, o1, a1, a2, a3, a4, a5, a6⟩ := rows_new b (Or.inr rfl) rfl R.2.2.1.1 R.2.2.2.2.1.2 e2 k1
              obtain ⟨⟨r1, r2⟩, r3, r4, r5, ⟨r6, r7⟩, r8, r9, r10⟩ := R
              have n13 : A 1000011 ≠ 12 ∧ A 1000011 ≠ A 1000013 := ⟨fun e => by rw [e, ol_12 b.2.2] at r6; omega, fun e => by rw [e, r7] at r6; omega⟩
              have n12 : (10 : Nat) ≠ A 1000013 := fun e => by rw [← e, ol_10 b.2.2] at r7; omega
              have n9 : (9 : Nat) ≠ A 1000013 := fun e => by rw [← e, ol_9 b.2.2] at r7; omega
              have hN := b.1.1
              refine k h1 ⟨A1, o1, a6, a5, ⟨⟨by simp only [↓forall_eq, ↓inB_iff, gK_hU, gL_hU, gR_hU, gIh, gJh, pI_hU, pJ_hU, hU_hU, uI_app, uJ_app, and_true, true_and, and_false, false_and, and_self, true_implies, false_implies, not_true, not_false_iff, if_true, if_false, eq_self, Nat.reduceLeDiff, Nat.reduceEqDiff, reduceCtorEq, i32c, ti0, ti1, tiM, Int.natCast_nonneg, Int.reduceEq, Int.reduceLE, Int.reduceLT, Int.reduceNeg, tl_i, Int32.reduceToInt, Int64.reduceToInt, tiA, tlM6, Int.toNat_natCast, natc, nI_1, Int.zero_sub, implies_true, not_false_eq_true]; exact r1, by simp only [↓forall_eq, ↓inB_iff, gK_hU, gL_hU, gR_hU, gIh, gJh, pI_hU, pJ_hU, hU_hU, uI_app, uJ_app, and_true, true_and, and_false, false_and, and_self, true_implies, false_implies, not_true, not_false_iff, if_true, if_false, eq_self, Nat.reduceLeDiff, Nat.reduceEqDiff, reduceCtorEq, i32c, ti0, ti1, tiM, Int.natCast_nonneg, Int.reduceEq, Int.reduceLE, Int.reduceLT, Int.reduceNeg, tl_i, Int32.reduceToInt, Int64.reduceToInt, tiA, tlM6, Int.toNat_natCast, natc, nI_1, Int.zero_sub, implies_true, not_false_eq_true]⟩, ?_, ⟨by rw [a1]; exact R1, fun r hr => ?_⟩, ?_, ⟨?_, by rw [a1]; exact a2⟩, by simp only [uI_ne, uJ_ne, ne_eq, Nat.reduceEqDiff, not_false_eq_true]; exact r8, fun w hw h0 => ?_, fun r hr => ?_⟩, by omega, by omega⟩
              · simp only [uI_ne, uJ_ne, ne_eq, Nat.reduceEqDiff, not_false_eq_true]
                rw [a3 _ (by decide)]
                exact units_keeps r3 k1 (by omega) (by omega)
              · rw [a1]
                by_cases e : r = T
                · subst e
                  simp only [↓forall_eq, ↓inB_iff, gK_hU, gL_hU, gR_hU, gIh, gJh, pI_hU, pJ_hU, hU_hU, uI_app, uJ_app, and_true, true_and, and_false, false_and, and_self, true_implies, false_implies, not_true, not_false_iff, if_true, if_false, eq_self, Nat.reduceLeDiff, Nat.reduceEqDiff, reduceCtorEq, i32c, ti0, ti1, tiM, Int.natCast_nonneg, Int.reduceEq, Int.reduceLE, Int.reduceLT, Int.reduceNeg, tl_i, Int32.reduceToInt, Int64.reduceToInt, tiA, tlM6, Int.toNat_natCast, natc, nI_1, Int.zero_sub, implies_true, not_false_eq_true]
                  exact e3
                · rw [e1 _ (by omega), e1 _ (by omega), e1 _ (by omega), e1 _ (by omega), e1 _ (by omega)]
                  have := r4.2 r (by omega)
                  simp only [↓forall_eq, ↓inB_iff, gK_hU, gL_hU, gR_hU, gIh, gJh, pI_hU, pJ_hU, hU_hU, uI_app, uJ_app, and_true, true_and, and_false, false_and, and_self, true_implies, false_implies, not_true, not_false_iff, if_true, if_false, eq_self, Nat.reduceLeDiff, Nat.reduceEqDiff, reduceCtorEq, i32c, ti0, ti1, tiM, Int.natCast_nonneg, Int.reduceEq, Int.reduceLE, Int.reduceLT, Int.reduceNeg, tl_i, Int32.reduceToInt, Int64.reduceToInt, tiA, tlM6, Int.toNat_natCast, natc, nI_1, Int.zero_sub, implies_true, not_false_eq_true, e]
                  exact this
              · rw [(k1.2.2.2 9 (by omega) (by omega)).2.2.1]
                simp only [↓forall_eq, ↓inB_iff, gK_hU, gL_hU, gR_hU, gIh, gJh, pI_hU, pJ_hU, hU_hU, uI_app, uJ_app, and_true, true_and, and_false, false_and, and_self, true_implies, false_implies, not_true, not_false_iff, if_true, if_false, eq_self, Nat.reduceLeDiff, Nat.reduceEqDiff, reduceCtorEq, i32c, ti0, ti1, tiM, Int.natCast_nonneg, Int.reduceEq, Int.reduceLE, Int.reduceLT, Int.reduceNeg, tl_i, Int32.reduceToInt, Int64.reduceToInt, tiA, tlM6, Int.toNat_natCast, natc, nI_1, Int.zero_sub, implies_true, not_false_eq_true]
                exact r5
              · rw [a3 _ (by decide), a4 _ r3.1.2.2.1.2.2.1]; exact r6
              · simp only [↓forall_eq, ↓inB_iff, gK_hU, gL_hU, gR_hU, gIh, gJh, pI_hU, pJ_hU, hU_hU, uI_app, uJ_app, and_true, true_and, and_false, false_and, and_self, true_implies, false_implies, not_true, not_false_iff, if_true, if_false, eq_self, Nat.reduceLeDiff, Nat.reduceEqDiff, reduceCtorEq, i32c, ti0, ti1, tiM, Int.natCast_nonneg, Int.reduceEq, Int.reduceLE, Int.reduceLT, Int.reduceNeg, tl_i, Int32.reduceToInt, Int64.reduceToInt, tiA, tlM6, Int.toNat_natCast, natc, nI_1, Int.zero_sub, implies_true, not_false_eq_true] at h0 ⊢
                exact r9 w hw h0
              · by_cases e : r = T
                · subst e
                  simp only [↓forall_eq, ↓inB_iff, gK_hU, gL_hU, gR_hU, gIh, gJh, pI_hU, pJ_hU, hU_hU, uI_app, uJ_app, and_true, true_and, and_false, false_and, and_self, true_implies, false_implies, not_true, not_false_iff, if_true, if_false, eq_self, Nat.reduceLeDiff, Nat.reduceEqDiff, reduceCtorEq, i32c, ti0, ti1, tiM, Int.natCast_nonneg, Int.reduceEq, Int.reduceLE, Int.reduceLT, Int.reduceNeg, tl_i, Int32.reduceToInt, Int64.reduceToInt, tiA, tlM6, Int.toNat_natCast, natc, nI_1, Int.zero_sub, implies_true, not_false_eq_true]
                  omega
                · have := r10 r (by omega)
                  simp only [↓forall_eq, ↓inB_iff, gK_hU, gL_hU, gR_hU, gIh, gJh, pI_hU, pJ_hU, hU_hU, uI_app, uJ_app, and_true, true_and, and_false, false_and, and_self, true_implies, false_implies, not_true, not_false_iff, if_true, if_false, eq_self, Nat.reduceLeDiff, Nat.reduceEqDiff, reduceCtorEq, i32c, ti0, ti1, tiM, Int.natCast_nonneg, Int.reduceEq, Int.reduceLE, Int.reduceLT, Int.reduceNeg, tl_i, Int32.reduceToInt, Int64.reduceToInt, tiA, tlM6, Int.toNat_natCast, natc, nI_1, Int.zero_sub, implies_true, not_false_eq_true, e]
                  exact this
            · obtain ⟨A1, o1, b1, f1, R1, n1, t1⟩ := m
              have hh := (fr_m b f1 (by decide) (a := 44) (by decide) (by decide)).1
              have hh5 := (fr_m b f1 (by decide) (a := 45) (by decide) (by decide)).1
              have hne : ¬ ((T : Int) = 1500) := by omega
              have hlt : (T : Int) < 1500 := by omega
              simp only [↓forall_eq, ↓inB_iff, gK_hU, gL_hU, gR_hU, gIh, gJh, pI_hU, pJ_hU, hU_hU, uI_app, uJ_app, and_true, true_and, and_false, false_and, and_self, true_implies, false_implies, not_true, not_false_iff, if_true, if_false, eq_self, Nat.reduceLeDiff, Nat.reduceEqDiff, reduceCtorEq, i32c, ti0, ti1, tiM, Int.natCast_nonneg, Int.reduceEq, Int.reduceLE, Int.reduceLT, Int.reduceNeg, tl_i, Int32.reduceToInt, Int64.reduceToInt, tiA, tlM6, Int.toNat_natCast, natc, nI_1, Int.zero_sub, implies_true, not_false_eq_true, b1.2.1.1, mr_3 b1.2.1, mk_45 b1.2.1, ml_45 b1.2.1, mr_7 b1.2.1, mk_47 b1.2.1, ml_47 b1.2.1, mr_8 b1.2.1, mk_48 b1.2.1, ml_48 b1.2.1, mr_9 b1.2.1, mk_49 b1.2.1, ml_49 b1.2.1, mr_10 b1.2.1, mk_50 b1.2.1, ml_50 b1.2.1, mr_11 b1.2.1, mk_51 b1.2.1, ml_51 b1.2.1, ↓fail_br b1.2.1, ↓isIn_br, ↓isUnit_br b1.2.1, ↓today_br b1.2.1, hh, hh5, hu, hu2, ht, ht2, hne, hlt, q1, q2, q3, q4, hu100]
              have l1 := left_mk (n := 0) (t := 0) (as := [47, 48, 49, 50, 51]) (fs := [6]) (I' := uI (uI (uI (uI (uI (uI (uI (gI h1) 44 0 0) 47 T u) 48 T fi) 49 T da) 50 T v) 51 T (gI h 44 1 / 1440)) 44 6 (nI (T + 1))) (J' := J1) (C := fun _ => False) (A := A1) (A1 := A1) b1 b1 fr_refl (fun w => w) (by simp) (fun a a1 a2 => by funext j9; simp only [uI_app]; grind) (fun j9 a1 a2 => by simp only [uI_app]; grind) (fun a a1 _ => j a a1) (by omega) (by omega)
              refine k _ (by simp only [↓forall_eq, ↓inB_iff, gK_hU, gL_hU, gR_hU, gIh, gJh, pI_hU, pJ_hU, hU_hU, uI_app, uJ_app, and_true, true_and, and_false, false_and, and_self, true_implies, false_implies, not_true, not_false_iff, if_true, if_false, eq_self, Nat.reduceLeDiff, Nat.reduceEqDiff, reduceCtorEq, i32c, ti0, ti1, tiM, Int.natCast_nonneg, Int.reduceEq, Int.reduceLE, Int.reduceLT, Int.reduceNeg, tl_i, Int32.reduceToInt, Int64.reduceToInt, tiA, tlM6, Int.toNat_natCast, natc, nI_1, Int.zero_sub, implies_true, not_false_eq_true]) rfl ⟨A1, o1, T + 1, left_mk b b1 f1 (by decide) (by simp) (fun a a1 a2 => by funext j9; simp only [uI_app]; grind) (fun j9 a1 a2 => by simp only [uI_app]; grind) (fun a a1 _ => j a a1) n1 t1, RegA_fr b1 R1 l1.2.1 (by decide) (fun a h4 h5 => ?_) ?_, Nat.le_refl _⟩
              · have e := (fr_m b f1 (by decide) (a := a) (by omega) (by omega)).1
                funext j9
                simp only [↓forall_eq, ↓inB_iff, gK_hU, gL_hU, gR_hU, gIh, gJh, pI_hU, pJ_hU, hU_hU, uI_app, uJ_app, and_true, true_and, and_false, false_and, and_self, true_implies, false_implies, not_true, not_false_iff, if_true, if_false, eq_self, Nat.reduceLeDiff, Nat.reduceEqDiff, reduceCtorEq, i32c, ti0, ti1, tiM, Int.natCast_nonneg, Int.reduceEq, Int.reduceLE, Int.reduceLT, Int.reduceNeg, tl_i, Int32.reduceToInt, Int64.reduceToInt, tiA, tlM6, Int.toNat_natCast, natc, nI_1, Int.zero_sub, implies_true, not_false_eq_true, e]
                grind
              · simp only [↓forall_eq, ↓inB_iff, gK_hU, gL_hU, gR_hU, gIh, gJh, pI_hU, pJ_hU, hU_hU, uI_app, uJ_app, and_true, true_and, and_false, false_and, and_self, true_implies, false_implies, not_true, not_false_iff, if_true, if_false, eq_self, Nat.reduceLeDiff, Nat.reduceEqDiff, reduceCtorEq, i32c, ti0, ti1, tiM, Int.natCast_nonneg, Int.reduceEq, Int.reduceLE, Int.reduceLT, Int.reduceNeg, tl_i, Int32.reduceToInt, Int64.reduceToInt, tiA, tlM6, Int.toNat_natCast, natc, nI_1, Int.zero_sub, implies_true, not_false_eq_true, hh]
          · refine Pr_gc (A := A) (C := fun _ => False) 3 4 b (by decide) rfl (fun K X k => m37 ?_) (fun g J K X mf e k => m41 ?_) fin
            · simp only [↓forall_eq, ↓inB_iff, gK_hU, gL_hU, gR_hU, gIh, gJh, pI_hU, pJ_hU, hU_hU, uI_app, uJ_app, and_true, true_and, and_false, false_and, and_self, true_implies, false_implies, not_true, not_false_iff, if_true, if_false, eq_self, Nat.reduceLeDiff, Nat.reduceEqDiff, reduceCtorEq, i32c, ti0, ti1, tiM, Int.natCast_nonneg, Int.reduceEq, Int.reduceLE, Int.reduceLT, Int.reduceNeg, tl_i, Int32.reduceToInt, Int64.reduceToInt, tiA, tlM6, Int.toNat_natCast, natc, nI_1, Int.zero_sub, implies_true, not_false_eq_true, ck_8 b.1, cr_8_0 b.1, ck_9 b.1, cr_9_0 b.1, ck_10 b.1, cr_9_1 b.1, ck_12 b.1, ↓needUnit_br b R, ↓needField_br, ↓needUnm_br b R q1, ↓isFull_br R.2.2.1.1, q1, q2, z1, z2, z3, z4, q4, q5]
              exact k
            · have hne : ((T : Int) = 1500) := by omega
              simp only [↓forall_eq, ↓inB_iff, gK_hU, gL_hU, gR_hU, gIh, gJh, pI_hU, pJ_hU, hU_hU, uI_app, uJ_app, and_true, true_and, and_false, false_and, and_self, true_implies, false_implies, not_true, not_false_iff, if_true, if_false, eq_self, Nat.reduceLeDiff, Nat.reduceEqDiff, reduceCtorEq, i32c, ti0, ti1, tiM, Int.natCast_nonneg, Int.reduceEq, Int.reduceLE, Int.reduceLT, Int.reduceNeg, tl_i, Int32.reduceToInt, Int64.reduceToInt, tiA, tlM6, Int.toNat_natCast, natc, nI_1, Int.zero_sub, implies_true, not_false_eq_true, mf.1, mr_3 mf, mk_45 mf, ml_45 mf, mr_7 mf, mk_47 mf, ml_47 mf, mr_8 mf, mk_48 mf, ml_48 mf, mr_9 mf, mk_49 mf, ml_49 mf, mr_10 mf, mk_50 mf, ml_50 mf, mr_11 mf, mk_51 mf, ml_51 mf, ↓fail_br mf, ↓isIn_br, ↓isUnit_br mf, e 44 (by decide) (by decide), e 45 (by decide) (by decide), hu, hu2, ht, ht2, hne, q1, q2, q3, q4, hu100]
              exact k
        · refine Pr_gc (A := A) (C := fun _ => False) 2 2 b (by decide) rfl (fun K X k => m37 ?_) (fun g J K X mf e k => m41 ?_) fin
          · simp only [↓forall_eq, ↓inB_iff, gK_hU, gL_hU, gR_hU, gIh, gJh, pI_hU, pJ_hU, hU_hU, uI_app, uJ_app, and_true, true_and, and_false, false_and, and_self, true_implies, false_implies, not_true, not_false_iff, if_true, if_false, eq_self, Nat.reduceLeDiff, Nat.reduceEqDiff, reduceCtorEq, i32c, ti0, ti1, tiM, Int.natCast_nonneg, Int.reduceEq, Int.reduceLE, Int.reduceLT, Int.reduceNeg, tl_i, Int32.reduceToInt, Int64.reduceToInt, tiA, tlM6, Int.toNat_natCast, natc, nI_1, Int.zero_sub, implies_true, not_false_eq_true, ck_8 b.1, cr_8_0 b.1, ck_9 b.1, cr_9_0 b.1, ck_10 b.1, cr_9_1 b.1, ck_12 b.1, ↓needUnit_br b R, ↓needField_br, ↓needUnm_br b R q1, q1, q2, z1, z2, z3, z4, q4]
            exact k
          · have hu100 : u.toInt < 100 := by omega
            simp only [↓forall_eq, ↓inB_iff, gK_hU, gL_hU, gR_hU, gIh, gJh, pI_hU, pJ_hU, hU_hU, uI_app, uJ_app, and_true, true_and, and_false, false_and, and_self, true_implies, false_implies, not_true, not_false_iff, if_true, if_false, eq_self, Nat.reduceLeDiff, Nat.reduceEqDiff, reduceCtorEq, i32c, ti0, ti1, tiM, Int.natCast_nonneg, Int.reduceEq, Int.reduceLE, Int.reduceLT, Int.reduceNeg, tl_i, Int32.reduceToInt, Int64.reduceToInt, tiA, tlM6, Int.toNat_natCast, natc, nI_1, Int.zero_sub, implies_true, not_false_eq_true, mf.1, mr_3 mf, mk_45 mf, ml_45 mf, mr_7 mf, mk_47 mf, ml_47 mf, mr_8 mf, mk_48 mf, ml_48 mf, mr_9 mf, mk_49 mf, ml_49 mf, mr_10 mf, mk_50 mf, ml_50 mf, mr_11 mf, mk_51 mf, ml_51 mf, ↓fail_br mf, ↓isIn_br, ↓isUnit_br mf, e 44 (by decide) (by decide), e 45 (by decide) (by decide), hu, hu2, ht, ht2, q1, q2, q3, q4, hu100]
            exact k
      · refine Pr_gc (A := A) (C := fun _ => False) 1 1 b (by decide) rfl (fun K X k => m37 ?_) (fun g J K X mf e k => m41 ?_) fin
        · simp only [↓forall_eq, ↓inB_iff, gK_hU, gL_hU, gR_hU, gIh, gJh, pI_hU, pJ_hU, hU_hU, uI_app, uJ_app, and_true, true_and, and_false, false_and, and_self, true_implies, false_implies, not_true, not_false_iff, if_true, if_false, eq_self, Nat.reduceLeDiff, Nat.reduceEqDiff, reduceCtorEq, i32c, ti0, ti1, tiM, Int.natCast_nonneg, Int.reduceEq, Int.reduceLE, Int.reduceLT, Int.reduceNeg, tl_i, Int32.reduceToInt, Int64.reduceToInt, tiA, tlM6, Int.toNat_natCast, natc, nI_1, Int.zero_sub, implies_true, not_false_eq_true, ck_8 b.1, cr_8_0 b.1, ck_9 b.1, cr_9_0 b.1, ck_10 b.1, cr_9_1 b.1, ck_12 b.1, ↓needUnit_br b R, ↓needField_br, q1, q2]
          refine ⟨fun _ => k, fun c1 => ⟨fun _ => k, fun c2 => ⟨fun _ => k, fun c3 => ⟨fun _ => k, fun c4 => absurd ?_ q3⟩⟩⟩⟩
          omega
        · simp only [↓forall_eq, ↓inB_iff, gK_hU, gL_hU, gR_hU, gIh, gJh, pI_hU, pJ_hU, hU_hU, uI_app, uJ_app, and_true, true_and, and_false, false_and, and_self, true_implies, false_implies, not_true, not_false_iff, if_true, if_false, eq_self, Nat.reduceLeDiff, Nat.reduceEqDiff, reduceCtorEq, i32c, ti0, ti1, tiM, Int.natCast_nonneg, Int.reduceEq, Int.reduceLE, Int.reduceLT, Int.reduceNeg, tl_i, Int32.reduceToInt, Int64.reduceToInt, tiA, tlM6, Int.toNat_natCast, natc, nI_1, Int.zero_sub, implies_true, not_false_eq_true, mf.1, mr_3 mf, mk_45 mf, ml_45 mf, mr_7 mf, mk_47 mf, ml_47 mf, mr_8 mf, mk_48 mf, ml_48 mf, mr_9 mf, mk_49 mf, ml_49 mf, mr_10 mf, mk_50 mf, ml_50 mf, mr_11 mf, mk_51 mf, ml_51 mf, ↓fail_br mf, ↓isIn_br, ↓isUnit_br mf, e 44 (by decide) (by decide), e 45 (by decide) (by decide), hu, hu2, ht, ht2, q1, q2]
          exact ⟨fun c1 => ⟨fun c2 => absurd ⟨c1, c2⟩ q3, fun _ => k⟩, fun _ => k⟩
    · refine Pr_gc (A := A) (C := fun _ => False) 0 3 b (by decide) rfl (fun K X k => m37 ?_) (fun g J K X mf e k => m41 ?_) fin
      · simp only [↓forall_eq, ↓inB_iff, gK_hU, gL_hU, gR_hU, gIh, gJh, pI_hU, pJ_hU, hU_hU, uI_app, uJ_app, and_true, true_and, and_false, false_and, and_self, true_implies, false_implies, not_true, not_false_iff, if_true, if_false, eq_self, Nat.reduceLeDiff, Nat.reduceEqDiff, reduceCtorEq, i32c, ti0, ti1, tiM, Int.natCast_nonneg, Int.reduceEq, Int.reduceLE, Int.reduceLT, Int.reduceNeg, tl_i, Int32.reduceToInt, Int64.reduceToInt, tiA, tlM6, Int.toNat_natCast, natc, nI_1, Int.zero_sub, implies_true, not_false_eq_true, ck_8 b.1, cr_8_0 b.1, ck_9 b.1, cr_9_0 b.1, ck_10 b.1, cr_9_1 b.1, ck_12 b.1, ↓needUnit_br b R, ↓needField_br, q1, q2]
        exact k
      · simp only [↓forall_eq, ↓inB_iff, gK_hU, gL_hU, gR_hU, gIh, gJh, pI_hU, pJ_hU, hU_hU, uI_app, uJ_app, and_true, true_and, and_false, false_and, and_self, true_implies, false_implies, not_true, not_false_iff, if_true, if_false, eq_self, Nat.reduceLeDiff, Nat.reduceEqDiff, reduceCtorEq, i32c, ti0, ti1, tiM, Int.natCast_nonneg, Int.reduceEq, Int.reduceLE, Int.reduceLT, Int.reduceNeg, tl_i, Int32.reduceToInt, Int64.reduceToInt, tiA, tlM6, Int.toNat_natCast, natc, nI_1, Int.zero_sub, implies_true, not_false_eq_true, mf.1, mr_3 mf, mk_45 mf, ml_45 mf, mr_7 mf, mk_47 mf, ml_47 mf, mr_8 mf, mk_48 mf, ml_48 mf, mr_9 mf, mk_49 mf, ml_49 mf, mr_10 mf, mk_50 mf, ml_50 mf, mr_11 mf, mk_51 mf, ml_51 mf, ↓fail_br mf, ↓isIn_br, ↓isUnit_br mf, e 44 (by decide) (by decide), hu, hu2, q1, q2]
        exact k
  · refine Pr_gc (A := A) (C := fun _ => False) 0 3 b (by decide) rfl (fun K X k => m37 ?_) (fun g J K X mf e k => m41 ?_) fin
    · simp only [↓forall_eq, ↓inB_iff, gK_hU, gL_hU, gR_hU, gIh, gJh, pI_hU, pJ_hU, hU_hU, uI_app, uJ_app, and_true, true_and, and_false, false_and, and_self, true_implies, false_implies, not_true, not_false_iff, if_true, if_false, eq_self, Nat.reduceLeDiff, Nat.reduceEqDiff, reduceCtorEq, i32c, ti0, ti1, tiM, Int.natCast_nonneg, Int.reduceEq, Int.reduceLE, Int.reduceLT, Int.reduceNeg, tl_i, Int32.reduceToInt, Int64.reduceToInt, tiA, tlM6, Int.toNat_natCast, natc, nI_1, Int.zero_sub, implies_true, not_false_eq_true, ck_8 b.1, cr_8_0 b.1, ck_9 b.1, cr_9_0 b.1, ck_10 b.1, cr_9_1 b.1, ck_12 b.1, ↓needUnit_br b R, q1]
      exact k
    · simp only [↓forall_eq, ↓inB_iff, gK_hU, gL_hU, gR_hU, gIh, gJh, pI_hU, pJ_hU, hU_hU, uI_app, uJ_app, and_true, true_and, and_false, false_and, and_self, true_implies, false_implies, not_true, not_false_iff, if_true, if_false, eq_self, Nat.reduceLeDiff, Nat.reduceEqDiff, reduceCtorEq, i32c, ti0, ti1, tiM, Int.natCast_nonneg, Int.reduceEq, Int.reduceLE, Int.reduceLT, Int.reduceNeg, tl_i, Int32.reduceToInt, Int64.reduceToInt, tiA, tlM6, Int.toNat_natCast, natc, nI_1, Int.zero_sub, implies_true, not_false_eq_true, mf.1, mr_3 mf, mk_45 mf, ml_45 mf, mr_7 mf, mk_47 mf, ml_47 mf, mr_8 mf, mk_48 mf, ml_48 mf, mr_9 mf, mk_49 mf, ml_49 mf, mr_10 mf, mk_50 mf, ml_50 mf, mr_11 mf, mk_51 mf, ml_51 mf, ↓fail_br mf, ↓isIn_br, ↓isUnit_br mf, e 44 (by decide) (by decide), hu, hu2, q1]
      exact k
end RGQ
