/-! ROUNDING: the pair, at last -/
section PRR
variable {d nt t R C N m k p : Nat} {h g : aH} {A o : Nat → Nat} {X : Nat → aH → Prop} {M I I0 : Nat → Nat → Int32} {J : Nat → Nat → Int64} {rn wn : Nat → Nat} {T y z x l1 : Int32}
abbrev wnM (M : Nat → Nat → Int32) (t : Nat) : Nat → Nat := fun k => (M 92 (12 * t + k)).toInt.toNat
theorem pr_round (b : base h o) (Tb : TabA h A o (gI h) nt) : Pr 304 308 [vI x, vI l1] [3, 1] h (fun h2 => left h h2 A A o o (fun c => c = 9) [95, 96] [79] 1 6 ∧ TabA h2 A o (gI h2) nt) := by
  have mf := b.2.1
  have h69 := Tb.2.1.1
  have n12 := Tb.2.1.2
  have hn : (nI nt).toInt = nt := ti_n (by omega)
  have fin : ∀ h2, left h h2 A A o o (fun _ => False) [] [] 1 6 → (left h h2 A A o o (fun c => c = 9) [95, 96] [79] 1 6 ∧ TabA h2 A o (gI h2) nt) := fun h2 l => ⟨left_mono l (fun _ w => w.elim) (by simp) (by simp) (by omega) (by omega), TabA_left b Tb l (fun w => w) (by simp) (by simp)⟩
  by_cases q : 0 ≤ x.toInt ∧ x.toInt < nt
  · generalize htx : x.toInt.toNat = t at *
    have hx : x = nI t := by rw [← htx]; exact ti_nat q.1
    have ht : t < nt := by omega
    obtain ⟨T, R, C, S⟩ := Tb.2.2 t ht
    obtain ⟨⟨⟨R1, R4⟩, C1, C3⟩, ⟨m90, m91⟩, ⟨i4, i5, i6⟩, gl, tv, s6, ⟨i12, i13⟩, s8, s9⟩ := S
    have m12 : R * C ≤ 4 * 3 := Nat.mul_le_mul R4 C3
    have hxI : (nI t).toInt = t := ti_n (by omega)
    have zt : (t : Int) < 12 := by omega
    have q' : 0 ≤ (t : Int) ∧ (t : Int) < nt := by omega
    subst hx
    by_cases qa : 1 ≤ l1.toInt ∧ l1.toInt ≤ 1000
    · have n1 : ¬ l1.toInt < 1 := by omega
      have n2 : ¬ 1000 < l1.toInt := by omega
      generalize hm : l1.toInt.toNat = m at *
      have el : l1 = nI m := by rw [← hm]; exact ti_nat (by omega)
      have m1 : 1 ≤ m ∧ m ≤ 1000 := by omega
      subst el
      have vw : ∀ k, k < R * C → gI h 92 (12 * t + k) = nI (wnM (gI h) t k) ∧ wnM (gI h) t k ≤ 60000000 := fun k hk => by
        have q := (tv k hk).1.1
        exact ⟨ti_nat q.1, by show (gI h 92 (12 * t + k)).toInt.toNat ≤ 60000000; omega⟩
      obtain ⟨yy, hyy⟩ := fst_all (fun k => wnM (gI h) t k % m) m R C
      have L1' : gL h (A (bT t + 1)) = R * C := gl 0 (by omega)
      have L4' : gL h (A (bT t + 4)) = R * C := gl 3 (by omega)
      have rd : rdT h (A (bT t)) (A (bT t + 1)) R C (wnM (gI h) t) := ⟨⟨kT_0 T, eT_0 T⟩, ⟨⟨R1, R4⟩, C1, C3⟩, ⟨i4, i5, i6⟩, ⟨rT_0_7 T, kT_1 T, L1'⟩, fun k hk => ⟨by rw [(tv k hk).2.1]; exact (vw k hk).1, (vw k hk).2⟩⟩
      have ne41 : A (bT t + 4) ≠ A (bT t + 1) := by
        obtain ⟨kd, v⟩ := vT_j T (show 4 < 6 by decide)
        obtain ⟨kd2, v2⟩ := vT_j T (show 1 < 6 by decide)
        exact liv_ne v v2 (by omega)
      have CR9 := fun (K : Int32 → aH → Prop) (X : Nat → aH → Prop) => c_round (d := 479) (h := h) (J := gJ h) (K := K) (X := X) rd m1 ⟨rT_0_10 T, kT_4 T, L4', eT_4 T⟩ ne41
      rw [hU_eta] at CR9
      refine Pr_ok (nI (cntB yy (R * C))) (fun h1 => ∃ I1, h1 = hU h I1 (gJ h) ∧ fstT (fun k => wnM (gI h) t k % m) m R C yy ∧ (∀ b, b ≠ A (bT t + 4) → I1 b = gI h b) ∧ ∀ k, k < R * C → I1 (A (bT t + 4)) k = nI (rdV (wnM (gI h) t) m yy k)) (fun K X kk => m304 ⟨by decide, ck_8 b.1, ?_⟩) (fun h1 J1 m9 j K X kk => m308 ?_)
      · rw [tableAt_br b Tb.1, bz_t q, htx]
        simp only [↓forall_eq, ↓inB_iff, gK_hU, gL_hU, gR_hU, gIh, gJh, pI_hU, pJ_hU, hU_hU, uI_app, uJ_app, and_true, true_and, and_false, false_and, and_self, true_implies, false_implies, not_true, not_false_iff, if_true, if_false, eq_self, Nat.reduceLeDiff, Nat.reduceEqDiff, reduceCtorEq, i32c, ti0, ti1, tiM, Int.natCast_nonneg, Int.reduceEq, Int.reduceLE, Int.reduceLT, Int.reduceNeg, tl_i, Int32.reduceToInt, Int64.reduceToInt, tiA, tlM6, Int.toNat_natCast, natc, nI_1, Int.zero_sub, implies_true, not_false_eq_true, n1, n2, eT_0 T, kT_0 T]
        refine CR9 _ _ (fun I1 y z1 z2 z3 => ?_)
        have eb := hyy y z1
        subst eb
        exact kk _ ⟨I1, rfl, z1, z2, z3⟩
      · obtain ⟨I1, rfl, z1, z2, z3⟩ := m9
        have lo : ∀ j9, j9 < 6 → ¬ (44 ≤ A (bT t + j9) ∧ A (bT t + j9) ≤ 107) := fun j9 hj => by
          obtain ⟨kd, v⟩ := vT_j T hj
          exact lab_out b v (by unfold bT; omega)
        have lo4 := lo 4 (by decide)
        have e9 : ∀ a, 44 ≤ a → a ≤ 107 → I1 a = gI h a := fun a h1 h2 => z2 a (fun e => lo4 ⟨by omega, by omega⟩)
        have e9' : ∀ a, 45 ≤ a → a ≤ 107 → uI (uI I1 44 0 0) 44 79 (nI m) a = gI h a := fun a h1 h2 => by rw [uI_ne _ _ _ (by omega), uI_ne _ _ _ (by omega)]; exact e9 a (by omega) h2
        have mw : mwT (uI (uI I1 44 0 0) 44 79 (nI m)) t R C m (wnM (gI h) t) := ⟨⟨by omega, ⟨R1, R4⟩, ⟨C1, C3⟩, m1⟩, ⟨by rw [e9' 90 (by decide) (by decide)]; exact m90, by rw [e9' 91 (by decide) (by decide)]; exact m91, by rw [uI_same]⟩, by rw [e9' 92 (by decide) (by decide)]; exact vw⟩
        have e44 : I1 44 = gI h 44 := e9 44 (by decide) (by decide)
        have t1 : (1 : Int64).toInt = 1 := rfl
        have mI : (nI m).toInt = m := ti_n (by omega)
        have qm : 1 ≤ (m : Int) ∧ (m : Int) ≤ 1000 := by omega
        simp only [↓forall_eq, ↓inB_iff, gK_hU, gL_hU, gR_hU, gIh, gJh, pI_hU, pJ_hU, hU_hU, uI_app, uJ_app, and_true, true_and, and_false, false_and, and_self, true_implies, false_implies, not_true, not_false_iff, if_true, if_false, eq_self, Nat.reduceLeDiff, Nat.reduceEqDiff, reduceCtorEq, i32c, ti0, ti1, tiM, Int.natCast_nonneg, Int.reduceEq, Int.reduceLE, Int.reduceLT, Int.reduceNeg, tl_i, Int32.reduceToInt, Int64.reduceToInt, tiA, tlM6, Int.toNat_natCast, natc, nI_1, Int.zero_sub, implies_true, not_false_eq_true, mf.1, mr_70 mf, mk_90 mf, ml_90 mf, mr_71 mf, mk_91 mf, ml_91 mf, mr_72 mf, mk_92 mf, ml_92 mf, mr_75 mf, mk_95 mf, ml_95 mf, mr_76 mf, mk_96 mf, ml_96 mf, ↓fail_br mf, ↓isTable_br mf, ↓isIn_br, e44, h69, hn, hxI, q', zt, mI, qm]
        refine m_44 (d := 498) (I0 := uI (uI I1 44 0 0) 44 79 (nI m)) (R := R) (C := C) mf mw z1 (fun I3 y1 y2 y3 y4 y5 => ?_) (numY (R * C) yy) 0 _ (by omega) (fun _ _ => rfl) (fun _ _ => rfl)
        have y0 : I3 44 = uI (uI I1 44 0 0) 44 79 (nI m) 44 := y1 44 (by decide) (by decide)
        have oA : ∀ a, (∀ j, j < 6 → a ≠ A (bT t + j)) → ¬ (44 ≤ a ∧ a ≤ 107) → I3 a = gI h a := fun a h1 h2 => by
          rw [y1 a (by omega) (by omega), uI_ne _ _ _ (by omega), uI_ne _ _ _ (by omega)]
          exact z2 a (h1 4 (by omega))
        refine kk (hU h I3 J1) (by rw [gIh, y0, uI_app, if_neg (by decide), uI_same]) rfl ⟨?_, ?_⟩
        · have f := fr_tab (I := I1) b T (by omega) (fun a h1 => z2 a (h1 4 (by omega)))
          refine left_mk (h1 := hU h I1 (gJ h)) b b f (by decide) (by decide) (fun a a1 a2 => ?_) (fun j9 a1 a2 => ?_) (fun a a1 _ => j a a1) (by rw [gN_hU]; omega) (by rw [gT_hU]; omega)
          · rw [y1 a (fun e => a2 (by rw [e]; decide)) (fun e => a2 (by rw [e]; decide)), uI_ne _ _ _ a1, uI_ne _ _ _ a1]; rfl
          · rw [y0, uI_app, if_neg (fun q => a2 (by rw [q.2]; decide)), uI_app, if_neg (fun q => a1 q.2)]; rfl
        · have m3 : ∀ a, 45 ≤ a → a ≤ 107 → a ≠ 95 → a ≠ 96 → I3 a = gI h a := fun a h1 h2 h3 h4 => by rw [y1 a h3 h4]; exact e9' a h1 h2
          have vI : ∀ j, j < 6 → j ≠ 4 → I3 (A (bT t + j)) = gI h (A (bT t + j)) := fun j9 h1 h2 => by
            obtain ⟨kd, v⟩ := vT_j T h1
            have lo := lo j9 h1
            obtain ⟨kd0, v0⟩ := vT_j T (show 4 < 6 by decide)
            have ne : A (bT t + j9) ≠ A (bT t + 4) := liv_ne v v0 (by omega)
            rw [y1 _ (by omega) (by omega), uI_ne _ _ _ (by omega), uI_ne _ _ _ (by omega)]
            exact z2 _ ne
          have v4 : I3 (A (bT t + 4)) = I1 (A (bT t + 4)) := by rw [y1 _ (by omega) (by omega), uI_ne _ _ _ (by omega), uI_ne _ _ _ (by omega)]
          have v0 : I3 (A (bT t)) = gI h (A (bT t)) := vI 0 (by decide) (by decide)
          refine TabA_up b Tb ht oA (by rw [y0, uI_app, if_neg (by decide), uI_app, if_neg (by decide), e44]) (fun k hk hkt => ?_) ⟨R, C, ⟨⟨R1, R4⟩, C1, C3⟩, ⟨by rw [m3 90 (by decide) (by decide) (by decide) (by decide)]; exact m90, by rw [m3 91 (by decide) (by decide) (by decide) (by decide)]; exact m91⟩, ⟨by rw [gIh, v0]; exact i4, by rw [gIh, v0]; exact i5, by rw [gIh, v0]; exact i6⟩, gl, fun k hk => ?_, fun r hr m hm => ?_, ⟨by rw [gIh, v0, m3 98 (by decide) (by decide) (by decide) (by decide)]; exact i12, by rw [gIh, v0, m3 97 (by decide) (by decide) (by decide) (by decide)]; exact i13⟩, by rw [m3 97 (by decide) (by decide) (by decide) (by decide)]; exact s8, by rw [m3 98 (by decide) (by decide) (by decide) (by decide)]; exact s9⟩
          · unfold tbV
            rw [m3 90 (by decide) (by decide) (by decide) (by decide), m3 91 (by decide) (by decide) (by decide) (by decide), m3 92 (by decide) (by decide) (by decide) (by decide), m3 93 (by decide) (by decide) (by decide) (by decide), m3 94 (by decide) (by decide) (by decide) (by decide), m3 97 (by decide) (by decide) (by decide) (by decide), m3 98 (by decide) (by decide) (by decide) (by decide), y3 k hkt, e9' 96 (by decide) (by decide)]
            exact ⟨⟨rfl, rfl, rfl, rfl, rfl⟩, fun i hi => ⟨rfl, rfl, rfl, by rw [y2 (12 * k + i) (by omega), e9' 95 (by decide) (by decide)]⟩⟩
          · have := tv k hk
            unfold tabV at this ⊢
            have t1' : ¬ (1 : Int32).toInt = 0 := by decide
            rw [gIh, vI 1 (by decide) (by decide), vI 2 (by decide) (by decide), vI 3 (by decide) (by decide), v4, m3 92 (by decide) (by decide) (by decide) (by decide), m3 93 (by decide) (by decide) (by decide) (by decide), m3 94 (by decide) (by decide) (by decide) (by decide), y4, if_neg t1', y5 k hk, z3 k hk]
            exact ⟨this.1, this.2.1, this.2.2.1, this.2.2.2.1, rfl⟩
          · rw [gIh, vI 5 (by decide) (by decide), m3 92 (by decide) (by decide) (by decide) (by decide)]; exact s6 r hr m hm
    · refine Pr_gc (A := A) (C := fun _ => False) 1 1 b (by decide) rfl (fun K X kk => m304 ⟨by decide, ck_8 b.1, ?_⟩) (fun g J K X mf e kk => m308 ?_) fin
      · rw [tableAt_br b Tb.1, bz_t q, htx]
        refine ⟨fun _ => kk, fun z1 => ⟨fun _ => kk, fun z2 => ?_⟩⟩
        exact absurd ⟨by omega, by omega⟩ qa
      · have t1 : (1 : Int64).toInt = 1 := rfl
        simp only [↓forall_eq, ↓inB_iff, gK_hU, gL_hU, gR_hU, gIh, gJh, pI_hU, pJ_hU, hU_hU, uI_app, uJ_app, and_true, true_and, and_false, false_and, and_self, true_implies, false_implies, not_true, not_false_iff, if_true, if_false, eq_self, Nat.reduceLeDiff, Nat.reduceEqDiff, reduceCtorEq, i32c, ti0, ti1, tiM, Int.natCast_nonneg, Int.reduceEq, Int.reduceLE, Int.reduceLT, Int.reduceNeg, tl_i, Int32.reduceToInt, Int64.reduceToInt, tiA, tlM6, Int.toNat_natCast, natc, nI_1, Int.zero_sub, implies_true, not_false_eq_true, mf.1, mr_70 mf, mk_90 mf, ml_90 mf, mr_71 mf, mk_91 mf, ml_91 mf, mr_72 mf, mk_92 mf, ml_92 mf, mr_75 mf, mk_95 mf, ml_95 mf, mr_76 mf, mk_96 mf, ml_96 mf, ↓fail_br mf, ↓isTable_br mf, ↓isIn_br, e 44 (by decide) (by decide), h69, hn, hxI, q', qa]
        exact kk
  · refine Pr_gc (A := A) (C := fun _ => False) 0 3 b (by decide) rfl (fun K X kk => m304 ⟨by decide, ck_8 b.1, ?_⟩) (fun g J K X mf e kk => m308 ?_) fin
    · rw [tableAt_br b Tb.1, bz_f q]; exact kk
    · simp only [↓forall_eq, ↓inB_iff, gK_hU, gL_hU, gR_hU, gIh, gJh, pI_hU, pJ_hU, hU_hU, uI_app, uJ_app, and_true, true_and, and_false, false_and, and_self, true_implies, false_implies, not_true, not_false_iff, if_true, if_false, eq_self, Nat.reduceLeDiff, Nat.reduceEqDiff, reduceCtorEq, i32c, ti0, ti1, tiM, Int.natCast_nonneg, Int.reduceEq, Int.reduceLE, Int.reduceLT, Int.reduceNeg, tl_i, Int32.reduceToInt, Int64.reduceToInt, tiA, tlM6, Int.toNat_natCast, natc, nI_1, Int.zero_sub, implies_true, not_false_eq_true, mf.1, mr_70 mf, mk_90 mf, ml_90 mf, mr_71 mf, mk_91 mf, ml_91 mf, mr_72 mf, mk_92 mf, ml_92 mf, mr_75 mf, mk_95 mf, ml_95 mf, mr_76 mf, mk_96 mf, ml_96 mf, ↓fail_br mf, ↓isTable_br mf, e 44 (by decide) (by decide), h69, hn, q]
      exact kk
end PRR
