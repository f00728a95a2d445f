/-! SECRECY: the pair -/
section PHD
variable {d nt t R C : Nat} {h g : aH} {A o : Nat → Nat} {X : Nat → aH → Prop} {M : Nat → Nat → Int32} {I I2 : Nat → Nat → Int32} {J J2 : Nat → Nat → Int64} {x l1 l2 nd : Int32}
theorem hid_all (v : Nat → Int) (P : Int32) (nd : Int) (R C : Nat) : ∃ bb, ∀ b, hidB v P nd R C b → b = bb := by
  by_cases ex : ∃ b, hidB v P nd R C b
  · obtain ⟨bb, hb⟩ := ex
    exact ⟨bb, fun b q => best_same q hb (fun _ q => q) (fun _ q _ => Or.inl q)⟩
  · exact ⟨(0, 0), fun b q => absurd ⟨b, q⟩ ex⟩
/-- one table changes -/
theorem TabA_up (b : base h o) (S : TabA h A o (gI h) nt) (ht : t < nt) (hI : ∀ a, (∀ j, j < 6 → a ≠ A (bT t + j)) → ¬ (44 ≤ a ∧ a ≤ 107) → I2 a = gI h a) (m69 : I2 44 69 = gI h 44 69) (mo : ∀ k, k < nt → k ≠ t → tbV (gI h) I2 k) (new : ∃ R C, tabS (hU h I2 J2) A I2 t R C) : TabA (hU h I2 J2) A o (gI (hU h I2 J2)) nt := by
  obtain ⟨f1, f2, f3⟩ := S
  have n12 := f2.2
  have T0 := (f3 t ht).1
  have i38 : I2 38 = gI h 38 := hI 38 (fun j hj e => by
    obtain ⟨kd, v⟩ := vT_j T0 hj
    have := v.1
    rw [← e, ol_38 b.2.2] at this
    unfold bT at this; omega) (by decide)
  refine ⟨⟨f1.1, ⟨by rw [gIh, i38]; exact f1.2.1.1, f1.2.1.2⟩, f1.2.2⟩, ⟨by rw [gIh, m69]; exact f2.1, n12⟩, fun k hk => ?_⟩
  obtain ⟨T, R, C, S⟩ := f3 k hk
  by_cases e : k = t
  · subst e; exact ⟨T, new⟩
  · refine ⟨T, R, C, tabS_cg S (fun j hj => ⟨?_, rfl⟩) (mo k hk e)⟩
    obtain ⟨kd, v⟩ := vT_j T hj
    rw [gIh]
    refine hI _ (fun i hi z => ?_) (lab_out b v (by unfold bT; omega))
    obtain ⟨kd2, v2⟩ := vT_j T0 hi
    exact liv_ne v v2 (by unfold bT; omega) z
theorem fr_tab (b : base h o) (T : TT h A o t) (n12 : t < 12) (hI : ∀ a, (∀ j, j < 6 → a ≠ A (bT t + j)) → I a = gI h a) : fr h (hU h I (gJ h)) A A o o (fun c => c = 9) := by
  refine ⟨⟨Nat.le_refl _, Nat.le_refl _, fun a _ => ⟨rfl, rfl⟩, fun a _ hp => ⟨rfl, rfl, fun j9 => ?_, fun _ => rfl, fun _ => rfl⟩⟩, fun _ _ => rfl, fun _ _ => rfl⟩
  rw [gI_hU, hI a (fun j hj e => hp (by
    obtain ⟨kd, v⟩ := vT_j T hj
    show o a / 1000000 = 9
    rw [e, v.1]
    unfold bT
    omega))]
theorem bits_lt {f : Nat → Bool} {n : Nat} (hn : n ≤ 12) : msk (bits f n) < 2 ^ n := msk_lt fun i hi => by rw [gB_bits n (by omega), decide_eq_false (by omega), Bool.false_and]
theorem hidS_lt {v : Nat → Int} {P : Int32} {nd : Int} {b : Int32 × Int} (m12 : R * C ≤ 12) (hp : ∀ i, R * C ≤ i → gB P i = false) (hb : hidB v P nd R C b) : msk (hidS (R * C) b) < 2 ^ (R * C) := by
  have al : ∀ i, R * C ≤ i → gB (allN (R * C)) i = false := fun i hi => by rw [gB_all m12, decide_eq_false (by omega)]
  unfold hidS
  by_cases z : b.1.toInt = -1
  · rw [if_pos z]; exact msk_lt al
  · rw [if_neg z]
    rcases hb with ⟨e, -⟩ | ⟨e, -⟩
    · exact absurd (by rw [e]; rfl) z
    · have := e.2
      rw [or_all m12 hp] at this
      refine msk_lt fun i hi => ?_
      cases hh : gB b.1 i
      · rfl
      · have q := this i hh; rw [al i hi] at q; cases q
theorem pr_secrecy (b : base h o) (Tb : TabA h A o (gI h) nt) : Pr 284 288 [vI x, vI l1, vI l2, vI nd] [3, 1] h (fun h2 => left h h2 A A o o (fun c => c = 9) [97, 98] [] 1 6 ∧ TabA h2 A o (gI h2) nt) := by
  have mf := b.2.1
  have h69 := Tb.2.1.1
  have n12 := Tb.2.1.2
  have hn : (nI nt).toInt = nt := ti_n (by omega)
  have fin : ∀ h2, left h h2 A A o o (fun _ => False) [] [] 1 6 → (left h h2 A A o o (fun c => c = 9) [97, 98] [] 1 6 ∧ TabA h2 A o (gI h2) nt) := fun h2 l => ⟨left_mono l (fun _ w => w.elim) (by simp) (by simp) (by omega) (by omega), TabA_left b Tb l (fun w => w) (by simp) (by simp)⟩
  by_cases q : 0 ≤ x.toInt ∧ x.toInt < nt
  · generalize htx : x.toInt.toNat = t at *
    have hx : x = nI t := by rw [← htx]; exact ti_nat q.1
    have ht : t < nt := by omega
    obtain ⟨T, R, C, S⟩ := Tb.2.2 t ht
    have S0 := S
    have ct := ctT_of T S
    obtain ⟨⟨⟨R1, R4⟩, C1, C3⟩, ⟨m90, m91⟩, ⟨i4, i5, i6⟩, gl, tv, s6, ⟨i12, i13⟩, s8, s9⟩ := S
    have m12 : R * C ≤ 4 * 3 := Nat.mul_le_mul R4 C3
    have hxI : (nI t).toInt = t := ti_n (by omega)
    have zt : (t : Int) < 12 := by omega
    have q' : 0 ≤ (t : Int) ∧ (t : Int) < nt := by omega
    subst hx
    by_cases qa : (0 ≤ l1.toInt ∧ l1.toInt ≤ 100) ∧ (0 ≤ l2.toInt ∧ l2.toInt ≤ 100) ∧ (0 ≤ nd.toInt ∧ nd.toInt ≤ 1000000)
    · obtain ⟨qa1, qa2, qa3⟩ := qa
      have n1 : ¬ l1.toInt < 0 := by omega
      have n2 : ¬ 100 < l1.toInt := by omega
      have n3 : ¬ l2.toInt < 0 := by omega
      have n4 : ¬ 100 < l2.toInt := by omega
      have n5 : ¬ nd.toInt < 0 := by omega
      have n6 : ¬ 1000000 < nd.toInt := by omega
      obtain ⟨bb, hbb⟩ := hid_all (vvM (gI h) t) (bits (pmM (gI h) t l1 l2) (R * C)) nd.toInt R C
      have pmx : ∀ i, R * C ≤ i → gB (bits (pmM (gI h) t l1 l2) (R * C)) i = false := fun i hi => by rw [gB_bits _ (by omega), decide_eq_false (by omega), Bool.false_and]
      have L1' : gL h (A (bT t + 1)) = R * C := gl 0 (by omega)
      have L2' : gL h (A (bT t + 2)) = R * C := gl 1 (by omega)
      have L3' : gL h (A (bT t + 3)) = R * C := gl 2 (by omega)
      have hd : hdT h (A (bT t)) (A (bT t + 5)) (A (bT t + 1)) R C (w1M (gI h) 92 t) (gI h 98 t) := ⟨ct, ⟨rT_0_7 T, kT_1 T, L1', fun k hk => (tv k hk).2.1⟩, i6, i12⟩
      have CH := fun (K : Int32 → aH → Prop) (X : Nat → aH → Prop) => c_hide (d := 479) (h := h) (J := gJ h) (l1 := l1) (l2 := l2) (nd := nd) (K := K) (X := X) (nc := w1M (gI h) 93 t) (mv := w1M (gI h) 94 t) hd ⟨rT_0_8 T, kT_2 T, L2', fun k hk => (tv k hk).2.2.1⟩ ⟨rT_0_9 T, kT_3 T, L3', fun k hk => (tv k hk).2.2.2.1⟩
      rw [hU_eta] at CH
      refine Pr_ok (hidV bb) (fun h1 => ∃ I1, h1 = hU h I1 (gJ h) ∧ hdF h (A (bT t)) I1 ∧ I1 (A (bT t)) 12 = bits (pmM (gI h) t l1 l2) (R * C) ∧ I1 (A (bT t)) 13 = hidS (R * C) bb ∧ hidB (vvM (gI h) t) (bits (pmM (gI h) t l1 l2) (R * C)) nd.toInt R C bb) (fun K X kk => m284 ⟨by decide, ck_8 b.1, ?_⟩) (fun h1 J1 m j K X kk => m288 ?_)
      · rw [tableAt_br b Tb.1, bz_t q, htx]
        simp only [↓forall_eq, ↓inB_iff, gK_hU, gL_hU, gR_hU, gIh, gJh, pI_hU, pJ_hU, hU_hU, uI_app, uJ_app, and_true, true_and, and_false, false_and, and_self, true_implies, false_implies, not_true, not_false_iff, if_true, if_false, eq_self, Nat.reduceLeDiff, Nat.reduceEqDiff, reduceCtorEq, i32c, ti0, ti1, tiM, Int.natCast_nonneg, Int.reduceEq, Int.reduceLE, Int.reduceLT, Int.reduceNeg, tl_i, Int32.reduceToInt, Int64.reduceToInt, tiA, tlM6, Int.toNat_natCast, natc, nI_1, Int.zero_sub, implies_true, not_false_eq_true, n1, n2, n3, n4, n5, n6, eT_0 T, kT_0 T]
        refine CH _ _ (fun I1 b1 z1 z2 z3 z4 => ?_)
        have eb := hbb b1 z4
        subst eb
        exact kk _ ⟨I1, rfl, z1, z2, z3, z4⟩
      · obtain ⟨I1, rfl, z1, z2, z3, z4⟩ := m
        have lo0 : ¬ (44 ≤ A (bT t) ∧ A (bT t) ≤ 107) := by
          obtain ⟨kd, v⟩ := vT_j T (show 0 < 6 by decide)
          exact lab_out b v (by unfold bT; omega)
        have e9 : ∀ a, 44 ≤ a → a ≤ 107 → I1 a = gI h a := fun a h1 h2 => z1.1 a (fun e => lo0 ⟨by omega, by omega⟩)
        have e9' : ∀ a, 45 ≤ a → a ≤ 107 → uI I1 44 0 0 a = gI h a := fun a h1 h2 => by rw [uI_ne _ _ _ (by omega)]; exact e9 a (by omega) h2
        have mt : mdT (uI I1 44 0 0) t R C := ⟨by omega, ⟨R1, R4⟩, ⟨C1, C3⟩, by rw [e9' 90 (by decide) (by decide)]; exact m90, by rw [e9' 91 (by decide) (by decide)]; exact m91, by rw [e9' 92 (by decide) (by decide)]; exact fun k hk => (tv k hk).1.1⟩
        have pe : pmM (uI I1 44 0 0) t l1 l2 = pmM (gI h) t l1 l2 := by unfold pmM w1M; rw [e9' 92 (by decide) (by decide), e9' 93 (by decide) (by decide), e9' 94 (by decide) (by decide)]
        have ve : vvM (uI I1 44 0 0) t = vvM (gI h) t := by unfold vvM; rw [e9' 92 (by decide) (by decide)]
        have mul : nI R * nI C = nI (R * C) := nI_mul R C
        have e44 : I1 44 = gI h 44 := e9 44 (by decide) (by decide)
        have k90 : I1 90 t = nI R := by rw [e9 90 (by decide) (by decide)]; exact m90
        have k91 : I1 91 t = nI C := by rw [e9 91 (by decide) (by decide)]; exact m91
        simp only [↓forall_eq, ↓inB_iff, gK_hU, gL_hU, gR_hU, gIh, gJh, pI_hU, pJ_hU, hU_hU, uI_app, uJ_app, and_true, true_and, and_false, false_and, and_self, true_implies, false_implies, not_true, not_false_iff, if_true, if_false, eq_self, Nat.reduceLeDiff, Nat.reduceEqDiff, reduceCtorEq, i32c, ti0, ti1, tiM, Int.natCast_nonneg, Int.reduceEq, Int.reduceLE, Int.reduceLT, Int.reduceNeg, tl_i, Int32.reduceToInt, Int64.reduceToInt, tiA, tlM6, Int.toNat_natCast, natc, nI_1, Int.zero_sub, implies_true, not_false_eq_true, mf.1, mr_70 mf, mk_90 mf, ml_90 mf, mr_71 mf, mk_91 mf, ml_91 mf, mr_72 mf, mk_92 mf, ml_92 mf, mr_73 mf, mk_93 mf, ml_93 mf, mr_74 mf, mk_94 mf, ml_94 mf, mr_77 mf, mk_97 mf, ml_97 mf, mr_78 mf, mk_98 mf, ml_98 mf, ↓fail_br mf, ↓isTable_br mf, ↓isIn_br, e44, h69, hn, hxI, q', zt, k90, k91, mul, qa1, qa2, qa3]
        refine m_87 (d := 498) (I0 := uI I1 44 0 0) (R := R) (C := C) mf mt (fun I3 b3 y1 y2 y3 y4 => ?_) (R * C) 0 (uI (uI I1 44 0 0) 98 t 0) (by omega) ⟨fun a h1 h2 => by rw [uI_ne _ _ _ h2], fun i hi => ⟨by rw [uI_app, if_neg (by omega)], by rw [uI_app, if_neg (by omega)]⟩⟩ (by rw [uI_same]; rfl)
        rw [pe] at y2 y4
        rw [ve] at y4
        have eb := hbb b3 y4
        subst eb
        have y0 : I3 44 = uI I1 44 0 0 44 := y1.1 44 (by decide) (by decide)
        have oA : ∀ a, (∀ j, j < 6 → a ≠ A (bT t + j)) → ¬ (44 ≤ a ∧ a ≤ 107) → I3 a = gI h a := fun a h1 h2 => by
          rw [y1.1 a (by omega) (by omega), uI_ne _ _ _ (by omega)]
          exact z1.1 a (h1 0 (by omega))
        refine kk (hU h I3 J1) (by rw [gIh, y0, uI_same]) rfl ⟨?_, ?_⟩
        · have f := fr_tab (I := I1) b T (by omega) (fun a h1 => z1.1 a (h1 0 (by omega)))
          refine left_mk (h1 := hU h I1 (gJ h)) b b f (by decide) (by decide) (fun a a1 a2 => ?_) (fun j9 a1 a2 => ?_) (fun a a1 _ => j a a1) (by rw [gN_hU]; omega) (by rw [gT_hU]; omega)
          · rw [y1.1 a (fun e => a2 (by rw [e]; decide)) (fun e => a2 (by rw [e]; decide)), uI_ne _ _ _ a1]; rfl
          · rw [y0, uI_app, if_neg (fun q => a1 q.2)]; rfl
        · have m3 : ∀ a, 45 ≤ a → a ≤ 96 → I3 a = gI h a := fun a h1 h2 => by rw [y1.1 a (by omega) (by omega)]; exact e9' a h1 (by omega)
          have vI : ∀ j, j < 6 → 0 < j → I3 (A (bT t + j)) = gI h (A (bT t + j)) := fun j9 h1 h2 => by
            obtain ⟨kd, v⟩ := vT_j T h1
            have lo := lab_out b v (by unfold bT; omega)
            obtain ⟨kd0, v0⟩ := vT_j T (show 0 < 6 by decide)
            have ne : A (bT t + j9) ≠ A (bT t) := liv_ne v v0 (by omega)
            rw [y1.1 _ (by omega) (by omega), uI_ne _ _ _ (by omega)]
            exact z1.1 _ ne
          have v0 : I3 (A (bT t)) = I1 (A (bT t)) := by rw [y1.1 _ (by omega) (by omega), uI_ne _ _ _ (by omega)]
          refine TabA_up b Tb ht oA (by rw [y0, uI_app, if_neg (by decide), e44]) (fun k hk hkt => ?_) ⟨R, C, ⟨⟨R1, R4⟩, C1, C3⟩, ⟨by rw [m3 90 (by decide) (by decide)]; exact m90, by rw [m3 91 (by decide) (by decide)]; exact m91⟩, ⟨by rw [gIh, v0, z1.2 4 (by decide)]; exact i4, by rw [gIh, v0, z1.2 5 (by decide)]; exact i5, by rw [gIh, v0, z1.2 6 (by decide)]; exact i6⟩, gl, fun k hk => ?_, fun r hr m hm => ?_, ⟨by rw [gIh, v0, z2, y2], by rw [gIh, v0, z3, y3]⟩, by rw [y3]; exact hidS_lt (by omega) pmx z4, by rw [y2]; exact bits_lt (by omega)⟩
          · unfold tbV
            rw [m3 90 (by decide) (by decide), m3 91 (by decide) (by decide), m3 92 (by decide) (by decide), m3 93 (by decide) (by decide), m3 94 (by decide) (by decide), m3 95 (by decide) (by decide), m3 96 (by decide) (by decide), (y1.2 k hkt).1, (y1.2 k hkt).2, e9' 97 (by decide) (by decide), e9' 98 (by decide) (by decide)]
            exact ⟨⟨rfl, rfl, rfl, rfl, rfl⟩, fun _ _ => ⟨rfl, rfl, rfl, rfl⟩⟩
          · have := tv k hk
            unfold tabV at this ⊢
            rw [gIh, vI 1 (by decide) (by decide), vI 2 (by decide) (by decide), vI 3 (by decide) (by decide), vI 4 (by decide) (by decide), m3 92 (by decide) (by decide), m3 93 (by decide) (by decide), m3 94 (by decide) (by decide), m3 95 (by decide) (by decide), m3 96 (by decide) (by decide)]
            exact this
          · rw [gIh, vI 5 (by decide) (by decide), m3 92 (by decide) (by decide)]; exact s6 r hr m hm
    · refine Pr_gc (A := A) (C := fun _ => False) 1 1 b (by decide) rfl (fun K X kk => m284 ⟨by decide, ck_8 b.1, ?_⟩) (fun g J K X mf e kk => m288 ?_) fin
      · rw [tableAt_br b Tb.1, bz_t q, htx]
        refine ⟨fun _ => kk, fun z1 => ⟨fun _ => kk, fun z2 => ⟨fun _ => kk, fun z3 => ⟨fun _ => kk, fun z4 => ⟨fun _ => kk, fun z5 => ⟨fun _ => kk, fun z6 => ?_⟩⟩⟩⟩⟩⟩
        exact absurd ⟨⟨by omega, by omega⟩, ⟨by omega, by omega⟩, by omega, by omega⟩ qa
      · have t0 : (0 : Int64).toInt = 0 := rfl
        simp only [↓forall_eq, ↓inB_iff, gK_hU, gL_hU, gR_hU, gIh, gJh, pI_hU, pJ_hU, hU_hU, uI_app, uJ_app, and_true, true_and, and_false, false_and, and_self, true_implies, false_implies, not_true, not_false_iff, if_true, if_false, eq_self, Nat.reduceLeDiff, Nat.reduceEqDiff, reduceCtorEq, i32c, ti0, ti1, tiM, Int.natCast_nonneg, Int.reduceEq, Int.reduceLE, Int.reduceLT, Int.reduceNeg, tl_i, Int32.reduceToInt, Int64.reduceToInt, tiA, tlM6, Int.toNat_natCast, natc, nI_1, Int.zero_sub, implies_true, not_false_eq_true, mf.1, mr_70 mf, mk_90 mf, ml_90 mf, mr_71 mf, mk_91 mf, ml_91 mf, mr_72 mf, mk_92 mf, ml_92 mf, mr_73 mf, mk_93 mf, ml_93 mf, mr_74 mf, mk_94 mf, ml_94 mf, mr_77 mf, mk_97 mf, ml_97 mf, mr_78 mf, mk_98 mf, ml_98 mf, ↓fail_br mf, ↓isTable_br mf, ↓isIn_br, e 44 (by decide) (by decide), h69, hn, hxI, q']
        refine ⟨fun y1 => ⟨fun y2 => ⟨fun y3 => absurd ⟨y1, y2, y3⟩ qa, fun y3 => kk⟩, fun y2 => kk⟩, fun y1 => kk⟩
  · refine Pr_gc (A := A) (C := fun _ => False) 0 3 b (by decide) rfl (fun K X kk => m284 ⟨by decide, ck_8 b.1, ?_⟩) (fun g J K X mf e kk => m288 ?_) fin
    · rw [tableAt_br b Tb.1, bz_f q]; exact kk
    · simp only [↓forall_eq, ↓inB_iff, gK_hU, gL_hU, gR_hU, gIh, gJh, pI_hU, pJ_hU, hU_hU, uI_app, uJ_app, and_true, true_and, and_false, false_and, and_self, true_implies, false_implies, not_true, not_false_iff, if_true, if_false, eq_self, Nat.reduceLeDiff, Nat.reduceEqDiff, reduceCtorEq, i32c, ti0, ti1, tiM, Int.natCast_nonneg, Int.reduceEq, Int.reduceLE, Int.reduceLT, Int.reduceNeg, tl_i, Int32.reduceToInt, Int64.reduceToInt, tiA, tlM6, Int.toNat_natCast, natc, nI_1, Int.zero_sub, implies_true, not_false_eq_true, mf.1, mr_70 mf, mk_90 mf, ml_90 mf, mr_71 mf, mk_91 mf, ml_91 mf, mr_72 mf, mk_92 mf, ml_92 mf, mr_73 mf, mk_93 mf, ml_93 mf, mr_74 mf, mk_94 mf, ml_94 mf, mr_77 mf, mk_97 mf, ml_97 mf, mr_78 mf, mk_98 mf, ml_98 mf, ↓fail_br mf, ↓isTable_br mf, e 44 (by decide) (by decide), h69, hn, q]
      exact kk
end PHD
