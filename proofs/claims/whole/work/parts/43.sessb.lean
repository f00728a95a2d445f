/-! SESSIONS: one changes; back -/
section SSB
variable {d U nf ns k f : Nat} {h h1 h2 g : aH} {A A1 o o1 : Nat → Nat} {X : Nat → aH → Prop} {M M2 : Nat → Nat → Int32} {I I1 I2 : Nat → Nat → Int32} {J J2 : Nat → Nat → Int64} {C : Nat → Prop} {E : Nat → Nat → List Tm} {Cn : Nat → Nat → List Cmp}
theorem lab_out {l kd : Nat} (b : base h o) (v : liv h A o l kd) (hl : l / 1000000 < 14) : ¬ (44 ≤ A l ∧ A l ≤ 107) := by
  rintro ⟨q1, q2⟩
  have e := v.1
  by_cases c : A l = 107
  · rw [c, ol_107 b.2.2] at e; omega
  · have := ol_m b.2.2 (a := A l) q1 (by omega)
    rw [e] at this; omega
theorem S_ne2 {k' i j : Nat} (t : TS h A o k) (t' : TS h A o k') (hi : i < 5) (hj : j < 5) (hne : k' ≠ k) : A (bS k' + j) ≠ A (bS k + i) := by
  obtain ⟨k1, v1⟩ := vS_j t hi
  obtain ⟨k2, v2⟩ := vS_j t' hj
  exact liv_ne v2 v1 (by unfold bS; omega)
/-- one session changes -/
theorem SessA_set (b : base h o) (S : SessA h A o (gI h) E Cn nf ns U) (hk : k < ns) (s : sFr h A k I1) (hC : ∀ a, ¬ (44 ≤ a ∧ a ≤ 107) → I2 a = I1 a) (fv : ∀ f, f < nf → fV (gI h) I2 f) (sv : ∀ k', k' < 60 → k' ≠ k → sV (gI h) I2 k') (m38 : I2 44 38 = gI h 44 38)
    (own : I2 67 k = gI h 67 k ∧ I2 68 k = gI h 68 k ∧ ∀ j, j < 6 → I2 69 (6 * k + j) = gI h 69 (6 * k + j)) (new : sessI (hU h I2 J2) A I2 (E (fS (gI h) k)) (Cn (fS (gI h) k)) (fS (gI h) k) k) : SessA (hU h I2 J2) A o I2 E Cn nf ns U := by
  obtain ⟨f1, f2, f3, f4⟩ := S
  have hN := b.1.1
  obtain ⟨s1, ⟨s2, s3⟩, s4, ⟨s5, s6, s7⟩, ⟨s8, s9⟩, s10⟩ := f3 k hk
  have c35 : ∀ j, j < 5 → (35 : Nat) ≠ A (bS k + j) := fun j hj e => by
    obtain ⟨kd, v⟩ := vS_j s1 hj
    have := v.1
    rw [← e, ol_35 b.2.2] at this
    unfold bS at this
    omega
  have i35 : I2 35 = gI h 35 := by rw [hC 35 (by omega), s.1 35 (c35 0 (by omega)) (c35 2 (by omega)) (c35 3 (by omega)) (c35 4 (by omega))]
  have area : ∀ j, j < 5 → (bS k + j) / 1000000 = 6 := fun j hj => by unfold bS; omega
  refine ⟨?_, ⟨by rw [m38]; exact f2.1, f2.2⟩, fun k' hk' => ?_, sesZ_cg f4 (fun k' h1 h2 => sv k' h2 (by omega))⟩
  · obtain ⟨l1, ⟨l2, l3⟩, l4, l5⟩ := f1
    exact ⟨l1, ⟨by rw [gIh, i35]; exact l2, l3⟩, l4, l5⟩
  · by_cases e : k' = k
    · subst e
      have e1 : fS I2 k' = fS (gI h) k' := by unfold fS; rw [own.1]
      have o0 := lab_out b (vS_0 s1) (by have := area 0 (by omega); simp only [Nat.add_zero] at this; omega)
      have o1' := lab_out b (vS_1 s1) (by rw [area 1 (by omega)]; omega)
      have erg : rgM I2 k' = rgM (gI h) k' := by
        funext i
        unfold rgM
        by_cases hi : i < 6
        · rw [if_pos hi, if_pos hi, own.2.2 i hi]
        · rw [if_neg hi, if_neg hi]
      have n1 : ∀ i, (i = 0 ∨ i = 2 ∨ i = 3 ∨ i = 4) → A (bS k' + 1) ≠ A (bS k' + i) := fun i hi => S_ne s1 (by omega) (by omega) (by omega)
      refine ⟨s1, ⟨by rw [e1, own.1]; exact s2, by rw [e1]; exact s3⟩, by rw [e1]; exact s4, ⟨?_, by rw [own.2.1]; exact s6, by rw [own.2.1]; exact s7⟩, ⟨fun i hi => ?_, by rw [erg]; exact s9⟩, by rw [e1]; exact new⟩
      · rw [gIh, hC _ o0, s.2 1 (by omega), own.2.1]; exact s5
      · rw [gIh, hC _ o1', s.1 _ (n1 0 (by omega)) (n1 2 (by omega)) (n1 3 (by omega)) (n1 4 (by omega)), erg]; exact s8 i hi
    · have S' := f3 k' hk'
      refine sessOK_cg S' S'.1 (fun j hj => ?_) rfl (fun _ _ => rfl) (Nat.le_refl _) (Nat.le_refl _) fv (sv k' (by have := f2.2; omega) e)
      obtain ⟨kd, v⟩ := vS_j S'.1 hj
      have := f2.2
      rw [gIh, hC _ (lab_out b v (by unfold bS; omega)), s.1 _ (S_ne2 (i := 0) s1 S'.1 (by omega) hj e) (S_ne2 (i := 2) s1 S'.1 (by omega) hj e) (S_ne2 (i := 3) s1 S'.1 (by omega) hj e) (S_ne2 (i := 4) s1 S'.1 (by omega) hj e)]
theorem fr_sess (b : base h o) (S : TS h A o k) (hk : k ≤ 60) (s : sFr h A k I1) : fr h (hU h I1 (gJ h)) A A o o (fun c => c = 6) := by
  refine ⟨⟨Nat.le_refl _, Nat.le_refl _, fun a _ => ⟨rfl, rfl⟩, fun a _ hp => ⟨rfl, rfl, fun j9 => ?_, fun _ => rfl, fun _ => rfl⟩⟩, fun _ _ => rfl, fun _ _ => rfl⟩
  have ne : ∀ j, j < 5 → a ≠ A (bS k + j) := fun j hj e => hp (by
    obtain ⟨kd, v⟩ := vS_j S hj
    show o a / 1000000 = 6
    rw [e, v.1]; unfold bS; omega)
  rw [gI_hU, s.1 a (ne 0 (by omega)) (ne 2 (by omega)) (ne 3 (by omega)) (ne 4 (by omega))]
theorem gv_iff {i : Nat} (ok : gOK I k) (hi : i < 20) : (gvM I k i).toInt = -2000000 ↔ (I 71 (20 * k + i)).toInt = 0 := by
  unfold gvM
  rw [if_pos hi]
  constructor
  · intro w
    by_cases c : (I 71 (20 * k + i)).toInt = 0
    · exact c
    · rw [if_neg c] at w; exact absurd w (ok i hi c)
  · intro w; rw [if_pos w]; rfl
theorem pr_back {x : Int32} (b : base h o) (F : FormA h A o (gI h) E Cn nf) (S : SessA h A o (gI h) E Cn nf ns U) : Pr 162 164 [vI x] [3, 2] h (fun h2 => left h h2 A A o o (fun c => c = 6) [65, 66, 71, 73, 74, 75, 76] [36, 37, 50, 51, 52] 1 6 ∧ SessA h2 A o (gI h2) E Cn nf ns U) := by
  have hs := S.2.1.1
  have hs6 := S.2.1.2
  have hs2 : (nI ns).toInt = ns := ti_n (by omega)
  have fin : ∀ h2, left h h2 A A o o (fun _ => False) [] [] 1 6 → left h h2 A A o o (fun c => c = 6) [65, 66, 71, 73, 74, 75, 76] [36, 37, 50, 51, 52] 1 6 ∧ SessA h2 A o (gI h2) E Cn nf ns U := fun h2 l => ⟨left_mono l (fun _ w => w.elim) (by simp) (by simp) (by omega) (by omega), SessA_left b S l (fun w => w) (fun w => w) F.2.1.2 (Nat.le_refl _) (by simp) (by simp)⟩
  by_cases q : 0 ≤ x.toInt ∧ x.toInt < ns
  · generalize hk : x.toInt.toNat = k at *
    have hx : x = nI k := by rw [← hk]; exact ti_nat q.1
    have hk2 : k < ns := by omega
    have X0 := sX_of F S hk2
    have S0 := S.2.2.1 k hk2
    obtain ⟨s1, ⟨s2, s3⟩, s4, s5, ⟨s8, s9⟩, W, ⟨c1, c2⟩, g1, g2, n1, n2⟩ := S0
    have FO := F.2.2 _ s3
    have SET := fun I1 I2 J2 => @SessA_set U nf ns k h A o I1 I2 J2 E Cn b S hk2
    generalize hf : fS (gI h) k = f at *
    obtain ⟨⟨t, l, ⟨d1, d2, d3⟩, d4⟩, -⟩ := id X0
    have hcn : gI h 53 f = nI (cnM (gI h) f) := FO.2.1.1.1
    have f6 := FO.2.1.1.2.2
    have hcI : (nI (cnM (gI h) f)).toInt = (cnM (gI h) f : Nat) := ti_n (by omega)
    have hfI : (nI f).toInt = f := ti_n (by omega)
    have f6' : (f : Int) < 6 := by omega
    have hkI : (nI k).toInt = k := ti_n (by omega)
    have k60 : (k : Int) < 60 := by omega
    have k0 : (k : Int) < ns := by omega
    have bg := gv_bnd g1 FO.2.2.1
    have ok := gOK_of g1 FO.2.2.1
    subst hx
    rcases c2 with c2 | ⟨c2, c3⟩
    · have hcl0 : (gI h (A (bS k)) 12).toInt = 0 := by rw [c1, c2]; rfl
      have hcl1 : (gI h 70 k).toInt = 0 := by rw [c2]; rfl
      -- the model looks for the last one given
      have look : ∀ (J1 : Nat → Nat → Int64) (h1 : aH) (K : Int32 → aH → Prop) (X : Nat → aH → Prop), MF h1 → (∀ a, 44 ≤ a → a < 107 → gI h1 a = gI h a) → (lsG (gvM (gI h) k) (cnM (gI h) f) = -1 → K (-1) (hU h1 (uI (gI h1) 44 0 0) J1)) → (¬ lsG (gvM (gI h) k) (cnM (gI h) f) = -1 → Wp 500 164 (38, [some (vR 44), some (vI (nI k)), some (vI (iZ (lsG (gvM (gI h) k) (cnM (gI h) f)))), some (vI (nI (cnM (gI h) f)))], [], hU h1 (uI (gI h1) 44 0 0) J1) (RI K X)) → Wp 500 164 (38, [some (vR 44), some (vI (nI k)), some (vI (-1)), some (vI 0)], [], hU h1 (uI (gI h1) 44 0 0) J1) (RI K X) := by
        intro J1 h1 K X mf e ka kb
        have e67 := e 67 (by decide) (by decide)
        have e53 := e 53 (by decide) (by decide)
        have e71 := e 71 (by decide) (by decide)
        have main : ∀ (n m : Nat), m + n = cnM (gI h) f → Wp 500 164 (38, [some (vR 44), some (vI (nI k)), some (vI (iZ (lsG (gvM (gI h) k) m))), some (vI (nI m))], [], hU h1 (uI (gI h1) 44 0 0) J1) (RI K X) := by
          intro n
          induction n with
          | zero =>
            intro m hm
            have : m = cnM (gI h) f := by omega
            subst this
            by_cases c : lsG (gvM (gI h) k) (cnM (gI h) f) = -1
            · rw [c]
              refine w164_38 ?_
              simp only [↓forall_eq, ↓inB_iff, gK_hU, gL_hU, gR_hU, gIh, gJh, pI_hU, pJ_hU, hU_hU, uI_app, uJ_app, and_true, true_and, and_false, false_and, and_self, true_implies, false_implies, not_true, not_false_iff, if_true, if_false, eq_self, Nat.reduceLeDiff, Nat.reduceEqDiff, reduceCtorEq, i32c, ti0, ti1, tiM, Int.natCast_nonneg, Int.reduceEq, Int.reduceLE, Int.reduceLT, Int.reduceNeg, tl_i, Int32.reduceToInt, Int64.reduceToInt, tiA, tlM6, Int.toNat_natCast, natc, nI_1, Int.zero_sub, implies_true, not_false_eq_true, mf.1, mr_15 mf, mk_53 mf, ml_53 mf, mr_39 mf, mk_67 mf, ml_67 mf, mr_42 mf, mk_70 mf, ml_70 mf, mr_43 mf, mk_71 mf, ml_71 mf, mr_44 mf, mk_72 mf, ml_72 mf, mr_45 mf, mk_73 mf, ml_73 mf, mr_46 mf, mk_74 mf, ml_74 mf, mr_48 mf, mk_76 mf, ml_76 mf, hkI, k60, e67, e53, s2, hfI, f6', hcn, Int.lt_irrefl, ↓ti_z (show -2147483648 ≤ (-1 : Int) by decide) (show (-1 : Int) < 2147483648 by decide)]
              exact ka c
            · exact kb c
          | succ n ih =>
            intro m hm
            have hmI : (nI m).toInt = m := ti_n (by omega)
            have hlt : (m : Int) < (cnM (gI h) f : Nat) := by omega
            have hix : (20 : Int32) * nI k + nI m = nI (20 * k + m) := by rw [show (20 : Int32) = nI 20 from rfl, nI_mul, nI_add]
            have hxI : (nI (20 * k + m)).toInt = ((20 * k + m : Nat) : Int) := ti_n (by omega)
            have zx : ((20 * k + m : Nat) : Int) < 1200 := by omega
            have nx := ih (m + 1) (by omega)
            have gi := gv_iff (I := gI h) (i := m) ok (by omega)
            refine w164_38 ?_
            simp only [↓forall_eq, ↓inB_iff, gK_hU, gL_hU, gR_hU, gIh, gJh, pI_hU, pJ_hU, hU_hU, uI_app, uJ_app, and_true, true_and, and_false, false_and, and_self, true_implies, false_implies, not_true, not_false_iff, if_true, if_false, eq_self, Nat.reduceLeDiff, Nat.reduceEqDiff, reduceCtorEq, i32c, ti0, ti1, tiM, Int.natCast_nonneg, Int.reduceEq, Int.reduceLE, Int.reduceLT, Int.reduceNeg, tl_i, Int32.reduceToInt, Int64.reduceToInt, tiA, tlM6, Int.toNat_natCast, natc, nI_1, Int.zero_sub, implies_true, not_false_eq_true, mf.1, mr_15 mf, mk_53 mf, ml_53 mf, mr_39 mf, mk_67 mf, ml_67 mf, mr_42 mf, mk_70 mf, ml_70 mf, mr_43 mf, mk_71 mf, ml_71 mf, mr_44 mf, mk_72 mf, ml_72 mf, mr_45 mf, mk_73 mf, ml_73 mf, mr_46 mf, mk_74 mf, ml_74 mf, mr_48 mf, mk_76 mf, ml_76 mf, hkI, k60, e67, e53, e71, s2, hfI, f6', hcn, hcI, hmI, hlt, hix, hxI, zx]
            refine ⟨fun c => ?_, fun c => ?_⟩
            · rw [lsG, if_pos (gi.mpr c)] at nx; exact nx
            · rw [lsG, if_neg (fun w => c (gi.mp w))] at nx
              have : iZ (m : Int) = nI m := ti_inj (by rw [ti_z (by omega) (by omega), hmI])
              rw [this] at nx
              exact nx
        exact main (cnM (gI h) f) 0 (by omega)
      rcases lsG_rng (gv := gvM (gI h) k) (cnM (gI h) f) with hl | ⟨l1, l2, l3⟩
      · refine Pr_ok (-1) (fun h1 => h1 = h) (fun K X kk => m162 ?_) (fun h1 J1 m j K X kk => m164 ?_)
        · simp only [↓forall_eq, ↓inB_iff, gK_hU, gL_hU, gR_hU, gIh, gJh, pI_hU, pJ_hU, hU_hU, uI_app, uJ_app, and_true, true_and, and_false, false_and, and_self, true_implies, false_implies, not_true, not_false_iff, if_true, if_false, eq_self, Nat.reduceLeDiff, Nat.reduceEqDiff, reduceCtorEq, i32c, ti0, ti1, tiM, Int.natCast_nonneg, Int.reduceEq, Int.reduceLE, Int.reduceLT, Int.reduceNeg, tl_i, Int32.reduceToInt, Int64.reduceToInt, tiA, tlM6, Int.toNat_natCast, natc, nI_1, Int.zero_sub, implies_true, not_false_eq_true, ck_8 b.1, ↓sessionAt_br b S.1, hkI, k0, kS_0 s1, eS_0 s1, hcl0]
          exact c_back X0 W bg (fun _ => kk h rfl) (fun I hn => absurd hl hn)
        · subst m
          have mf := b.2.1
          simp only [↓forall_eq, ↓inB_iff, gK_hU, gL_hU, gR_hU, gIh, gJh, pI_hU, pJ_hU, hU_hU, uI_app, uJ_app, and_true, true_and, and_false, false_and, and_self, true_implies, false_implies, not_true, not_false_iff, if_true, if_false, eq_self, Nat.reduceLeDiff, Nat.reduceEqDiff, reduceCtorEq, i32c, ti0, ti1, tiM, Int.natCast_nonneg, Int.reduceEq, Int.reduceLE, Int.reduceLT, Int.reduceNeg, tl_i, Int32.reduceToInt, Int64.reduceToInt, tiA, tlM6, Int.toNat_natCast, natc, nI_1, Int.zero_sub, implies_true, not_false_eq_true, mf.1, mr_15 mf, mk_53 mf, ml_53 mf, mr_39 mf, mk_67 mf, ml_67 mf, mr_42 mf, mk_70 mf, ml_70 mf, mr_43 mf, mk_71 mf, ml_71 mf, mr_44 mf, mk_72 mf, ml_72 mf, mr_45 mf, mk_73 mf, ml_73 mf, mr_46 mf, mk_74 mf, ml_74 mf, mr_48 mf, mk_76 mf, ml_76 mf, ↓fail_br mf, ↓isSession_br mf, hs, hs2, hkI, k0, k60, hcl1]
          refine look J1 h1 K X mf (fun _ _ _ => rfl) (fun _ => ?_) (fun hn => absurd hl hn)
          have L := left_mk (n := 1) (t := 6) (as := []) (fs := []) (I' := uI (gI h1) 44 0 0) (J' := J1) (C := fun _ => False) (A := A) (A1 := A) b b fr_refl (fun w => w) (by simp) (fun a a1 a2 => by rw [uI_ne _ _ _ a1]) (fun j9 a1 a2 => by rw [uI_nj _ _ _ _ a1]) (fun a a1 _ => j a a1) (by omega) (by omega)
          exact kk _ (by rw [gIh, uI_same]) rfl (fin _ L)
      · have hn : ¬ lsG (gvM (gI h) k) (cnM (gI h) f) = -1 := by omega
        generalize hl : lsG (gvM (gI h) k) (cnM (gI h) f) = lz at *
        obtain ⟨l, rfl⟩ : ∃ l : Nat, lz = l := ⟨lz.toNat, by omega⟩
        simp only [Int.toNat_natCast] at l3
        have l20 : l < 20 := by omega
        have hgl : ¬ (gI h 71 (20 * k + l)).toInt = 0 := fun w => l3 ((gv_iff ok l20).mpr w)
        have hgl2 : gvM (gI h) k l = gI h 72 (20 * k + l) := by unfold gvM; rw [if_pos l20, if_neg hgl]
        refine Pr_ok (if enW (soM (gI h) f) (E f) (Cn f) (upG (gvM (gI h) k) l (-2000000)) (rgM (gI h) k) (cnM (gI h) f) < cnM (gI h) f then nI (enW (soM (gI h) f) (E f) (Cn f) (upG (gvM (gI h) k) l (-2000000)) (rgM (gI h) k) (cnM (gI h) f)) else -1)
          (fun h1 => ∃ I1, sFr h A k I1 ∧ sW (hU h I1 (gJ h)) A k (cnM (gI h) f) (soM (gI h) f) (E f) (Cn f) (rgM (gI h) k) (upG (gvM (gI h) k) l (-2000000)) (upG (avM (gI h) k) l (gvM (gI h) k l)) ∧ I1 (A (bS k)) 9 = 0 ∧ h1 = hU h I1 (gJ h)) (fun K X kk => m162 ?_) (fun h1 J1 m j K X kk => m164 ?_)
        · simp only [↓forall_eq, ↓inB_iff, gK_hU, gL_hU, gR_hU, gIh, gJh, pI_hU, pJ_hU, hU_hU, uI_app, uJ_app, and_true, true_and, and_false, false_and, and_self, true_implies, false_implies, not_true, not_false_iff, if_true, if_false, eq_self, Nat.reduceLeDiff, Nat.reduceEqDiff, reduceCtorEq, i32c, ti0, ti1, tiM, Int.natCast_nonneg, Int.reduceEq, Int.reduceLE, Int.reduceLT, Int.reduceNeg, tl_i, Int32.reduceToInt, Int64.reduceToInt, tiA, tlM6, Int.toNat_natCast, natc, nI_1, Int.zero_sub, implies_true, not_false_eq_true, ck_8 b.1, ↓sessionAt_br b S.1, hkI, k0, kS_0 s1, eS_0 s1, hcl0]
          refine c_back X0 W bg (fun e => absurd e (by rw [hl]; omega)) (fun I1 _ a1 a2 a3 => ?_)
          rw [hl] at a2 ⊢
          simp only [Int.toNat_natCast] at a2 ⊢
          exact kk _ ⟨I1, a1, a2, a3, rfl⟩
        · obtain ⟨I1, a1, a2, a3, rfl⟩ := m
          have mf : MF h := b.2.1
          have cM : ∀ a, 44 ≤ a → a ≤ 107 → I1 a = gI h a := fun a h4 h7 => by
            have ne : ∀ j, j < 5 → a ≠ A (bS k + j) := fun j hj e => by
              obtain ⟨kd, v⟩ := vS_j s1 hj
              exact lab_out b v (by unfold bS; omega) (by rw [← e]; omega)
            exact a1.1 a (ne 0 (by omega)) (ne 2 (by omega)) (ne 3 (by omega)) (ne 4 (by omega))
          have m44 := cM 44 (by omega) (by omega)
          have m70 := cM 70 (by omega) (by omega)
          simp only [↓forall_eq, ↓inB_iff, gK_hU, gL_hU, gR_hU, gIh, gJh, pI_hU, pJ_hU, hU_hU, uI_app, uJ_app, and_true, true_and, and_false, false_and, and_self, true_implies, false_implies, not_true, not_false_iff, if_true, if_false, eq_self, Nat.reduceLeDiff, Nat.reduceEqDiff, reduceCtorEq, i32c, ti0, ti1, tiM, Int.natCast_nonneg, Int.reduceEq, Int.reduceLE, Int.reduceLT, Int.reduceNeg, tl_i, Int32.reduceToInt, Int64.reduceToInt, tiA, tlM6, Int.toNat_natCast, natc, nI_1, Int.zero_sub, implies_true, not_false_eq_true, mf.1, mr_15 mf, mk_53 mf, ml_53 mf, mr_39 mf, mk_67 mf, ml_67 mf, mr_42 mf, mk_70 mf, ml_70 mf, mr_43 mf, mk_71 mf, ml_71 mf, mr_44 mf, mk_72 mf, ml_72 mf, mr_45 mf, mk_73 mf, ml_73 mf, mr_46 mf, mk_74 mf, ml_74 mf, mr_48 mf, mk_76 mf, ml_76 mf, ↓fail_br mf, ↓isSession_br mf, m44, m70, hs, hs2, hkI, k0, k60, hcl1]
          refine look J1 (hU h I1 (gJ h)) K X mf (fun a h4 h7 => cM a h4 (by omega)) (fun e => absurd e (by omega)) (fun _ => ?_)
          have hlI : iZ (l : Int) = nI l := ti_inj (by rw [ti_z (by omega) (by omega), ti_n (by omega)])
          have hlI2 : (nI l).toInt = l := ti_n (by omega)
          have hl1 : ¬ ((l : Int) = -1) := by omega
          have hix : (20 : Int32) * nI k + nI l = nI (20 * k + l) := by rw [show (20 : Int32) = nI 20 from rfl, nI_mul, nI_add]
          have hxI : (nI (20 * k + l)).toInt = ((20 * k + l : Nat) : Int) := ti_n (by omega)
          have zx : ((20 * k + l : Nat) : Int) < 1200 := by omega
          have m67 := cM 67 (by omega) (by omega)
          have m53 := cM 53 (by omega) (by omega)
          rw [hlI]
          refine w164_38 ?_
          simp only [↓forall_eq, ↓inB_iff, gK_hU, gL_hU, gR_hU, gIh, gJh, pI_hU, pJ_hU, hU_hU, uI_app, uJ_app, and_true, true_and, and_false, false_and, and_self, true_implies, false_implies, not_true, not_false_iff, if_true, if_false, eq_self, Nat.reduceLeDiff, Nat.reduceEqDiff, reduceCtorEq, i32c, ti0, ti1, tiM, Int.natCast_nonneg, Int.reduceEq, Int.reduceLE, Int.reduceLT, Int.reduceNeg, tl_i, Int32.reduceToInt, Int64.reduceToInt, tiA, tlM6, Int.toNat_natCast, natc, nI_1, Int.zero_sub, implies_true, not_false_eq_true, mf.1, mr_15 mf, mk_53 mf, ml_53 mf, mr_39 mf, mk_67 mf, ml_67 mf, mr_42 mf, mk_70 mf, ml_70 mf, mr_43 mf, mk_71 mf, ml_71 mf, mr_44 mf, mk_72 mf, ml_72 mf, mr_45 mf, mk_73 mf, ml_73 mf, mr_46 mf, mk_74 mf, ml_74 mf, mr_48 mf, mk_76 mf, ml_76 mf, hkI, k60, m67, m53, s2, hfI, f6', hcn, Int.lt_irrefl, hlI2, hl1]
          refine m_forget mf (by omega) fun I2 b1 b2 b3 => ?_
          simp only [↓forall_eq, ↓inB_iff, gK_hU, gL_hU, gR_hU, gIh, gJh, pI_hU, pJ_hU, hU_hU, uI_app, uJ_app, and_true, true_and, and_false, false_and, and_self, true_implies, false_implies, not_true, not_false_iff, if_true, if_false, eq_self, Nat.reduceLeDiff, Nat.reduceEqDiff, reduceCtorEq, i32c, ti0, ti1, tiM, Int.natCast_nonneg, Int.reduceEq, Int.reduceLE, Int.reduceLT, Int.reduceNeg, tl_i, Int32.reduceToInt, Int64.reduceToInt, tiA, tlM6, Int.toNat_natCast, natc, nI_1, Int.zero_sub, implies_true, not_false_eq_true, mf.1, mr_15 mf, mk_53 mf, ml_53 mf, mr_39 mf, mk_67 mf, ml_67 mf, mr_42 mf, mk_70 mf, ml_70 mf, mr_43 mf, mk_71 mf, ml_71 mf, mr_44 mf, mk_72 mf, ml_72 mf, mr_45 mf, mk_73 mf, ml_73 mf, mr_46 mf, mk_74 mf, ml_74 mf, mr_48 mf, mk_76 mf, ml_76 mf, hkI, k60, hlI2, hix, hxI, zx]
          -- what the model has now
          generalize hI3 : uI (uI (uI (uI I2 76 k (-1)) 71 (20 * k + l) (0 &&& 1)) 73 (20 * k + l) (1 &&& 1)) 74 (20 * k + l) (I2 72 (20 * k + l)) = I3
          have i3 : ∀ a, a ≠ 71 → a ≠ 73 → a ≠ 74 → a ≠ 76 → a ≠ 75 → a ≠ 44 → I3 a = I1 a := fun a h1 h2 h3 h4 h5 h6 => by rw [← hI3, uI_ne _ _ _ h3, uI_ne _ _ _ h2, uI_ne _ _ _ h1, uI_ne _ _ _ h4, b1 a h5, uI_ne _ _ _ h6]
          have i3M : ∀ a, 44 < a → a < 107 → a ≠ 71 → a ≠ 73 → a ≠ 74 → a ≠ 76 → a ≠ 75 → I3 a = gI h a := fun a h0 h9 h1 h2 h3 h4 h5 => by rw [i3 a h1 h2 h3 h4 h5 (by omega), cM a (by omega) (by omega)]
          have v44 : ∀ j, I3 44 j = uI I1 44 0 0 44 j := fun j => by rw [← hI3, uI_ne _ _ _ (by decide), uI_ne _ _ _ (by decide), uI_ne _ _ _ (by decide), uI_ne _ _ _ (by decide), b1 44 (by decide)]
          have p71 : ∀ i, I3 71 i = if i = 20 * k + l then 0 else gI h 71 i := fun i => by
            rw [← hI3, uI_ne _ _ _ (by decide), uI_ne _ _ _ (by decide), uI_app, uI_ne _ _ _ (by decide), b1 71 (by decide), uI_ne _ _ _ (by decide), cM 71 (by omega) (by omega)]
            simp only [true_and]; rfl
          have p72 : I3 72 = gI h 72 := i3M 72 (by decide) (by decide) (by decide) (by decide) (by decide) (by decide) (by decide)
          have p73 : ∀ i, I3 73 i = if i = 20 * k + l then 1 else gI h 73 i := fun i => by
            rw [← hI3, uI_ne _ _ _ (by decide), uI_app, uI_ne _ _ _ (by decide), uI_ne _ _ _ (by decide), b1 73 (by decide), uI_ne _ _ _ (by decide), cM 73 (by omega) (by omega)]
            simp only [true_and]; rfl
          have p74 : ∀ i, I3 74 i = if i = 20 * k + l then gI h 72 (20 * k + l) else gI h 74 i := fun i => by
            rw [← hI3, uI_app, uI_ne _ _ _ (by decide), uI_ne _ _ _ (by decide), uI_ne _ _ _ (by decide), b1 74 (by decide), uI_ne _ _ _ (by decide), cM 74 (by omega) (by omega), b1 72 (by decide), uI_ne _ _ _ (by decide), cM 72 (by omega) (by omega)]
            simp only [true_and]
          have p75 : ∀ i, (i < 20 * k ∨ 20 * k + 20 ≤ i) → I3 75 i = gI h 75 i := fun i hi => by
            rw [← hI3, uI_ne _ _ _ (by decide), uI_ne _ _ _ (by decide), uI_ne _ _ _ (by decide), uI_ne _ _ _ (by decide), b2 i hi, uI_ne _ _ _ (by decide), cM 75 (by omega) (by omega)]
          have p75k : ∀ i, i < 20 → I3 75 (20 * k + i) = 0 := fun i hi => by
            rw [← hI3, uI_ne _ _ _ (by decide), uI_ne _ _ _ (by decide), uI_ne _ _ _ (by decide), uI_ne _ _ _ (by decide), b3 i hi]
          have p76 : ∀ i, i ≠ k → I3 76 i = gI h 76 i := fun i hi => by
            rw [← hI3, uI_ne _ _ _ (by decide), uI_ne _ _ _ (by decide), uI_ne _ _ _ (by decide), uI_nj _ _ _ _ hi, b1 76 (by decide), uI_ne _ _ _ (by decide), cM 76 (by omega) (by omega)]
          have gv3 : gvM I3 k = upG (gvM (gI h) k) l (-2000000) := by
            funext i
            unfold gvM upG
            by_cases e : i = l
            · rw [if_pos e, e, if_pos l20, p71, if_pos rfl, if_pos (by decide)]
            · have e2 : ¬ 20 * k + i = 20 * k + l := by omega
              rw [if_neg e, p71, if_neg e2, p72]
          have av3 : avM I3 k = upG (avM (gI h) k) l (gvM (gI h) k l) := by
            funext i
            unfold upG
            by_cases e : i = l
            · rw [if_pos e, e, hgl2]
              unfold avM
              rw [if_pos l20, p73, if_pos rfl, if_neg (by decide), p74, if_pos rfl]
            · have e2 : ¬ 20 * k + i = 20 * k + l := by omega
              rw [if_neg e]
              unfold avM
              rw [p73, if_neg e2, p74, if_neg e2]
          have rg3 : rgM I3 k = rgM (gI h) k := by unfold rgM; rw [i3M 69 (by decide) (by decide) (by decide) (by decide) (by decide) (by decide) (by decide)]
          have fm3 : fmM I3 f (cnM (gI h) f) (soM (gI h) f) (E f) (Cn f) := fmM_cg (fun a q1 q2 => i3M a (by omega) (by omega) (by omega) (by omega) (by omega) (by omega) (by omega)) FO.2.1
          have ok3 : gOK I3 k := fun i hi => by
            rw [p71, p72]
            by_cases e2 : 20 * k + i = 20 * k + l
            · rw [if_pos e2]; exact fun w => absurd rfl w
            · rw [if_neg e2]; exact ok i hi
          refine m_quest mf (by rw [i3M 67 (by decide) (by decide) (by decide) (by decide) (by decide) (by decide) (by decide)]; exact s2) fm3 (by omega) ok3 fun I4 z1 z2 => ?_
          have hcl4 : (!decide ((I3 70 k).toInt = 0)) = false := by rw [i3M 70 (by decide) (by decide) (by decide) (by decide) (by decide) (by decide) (by decide), decide_eq_true hcl1]; rfl
          have hle := en_le (so := soM (gI h) f) (E := E f) (Cn := Cn f) (gv := upG (gvM (gI h) k) l (-2000000)) (rg := rgM (gI h) k) (cnt := cnM (gI h) f)
          have ans : quM (soM (gI h) f) (E f) (Cn f) (gvM I3 k) (rgM I3 k) (cnM (gI h) f) (!decide ((I3 70 k).toInt = 0)) = if enW (soM (gI h) f) (E f) (Cn f) (upG (gvM (gI h) k) l (-2000000)) (rgM (gI h) k) (cnM (gI h) f) < cnM (gI h) f then nI (enW (soM (gI h) f) (E f) (Cn f) (upG (gvM (gI h) k) l (-2000000)) (rgM (gI h) k) (cnM (gI h) f)) else -1 := by
            rw [gv3, rg3, hcl4]
            unfold quM
            by_cases c : enW (soM (gI h) f) (E f) (Cn f) (upG (gvM (gI h) k) l (-2000000)) (rgM (gI h) k) (cnM (gI h) f) < cnM (gI h) f
            · rw [if_pos c, if_neg (by rintro (z | z); cases z; omega)]
            · rw [if_neg c, if_pos (Or.inr (by omega))]
          rw [ans]
          have i4 : ∀ a, a ≠ 44 → a ≠ 65 → a ≠ 66 → I4 a = I3 a := z1.1
          have i4M : ∀ a, 44 < a → a < 107 → a ≠ 65 → a ≠ 66 → a ≠ 71 → a ≠ 73 → a ≠ 74 → a ≠ 76 → a ≠ 75 → I4 a = gI h a := fun a h0 h9 ha hb h1 h2 h3 h4 h5 => by rw [i4 a (by omega) ha hb, i3M a h0 h9 h1 h2 h3 h4 h5]
          have fj : ∀ j, j ≠ 36 → j ≠ 37 → j ≠ 50 → j ≠ 51 → j ≠ 52 → I4 44 j = uI I1 44 0 0 44 j := fun j h1 h2 h3 h4 h5 => by rw [z1.2 j h1 h2 h3 h4 h5, v44]
          have gv4 : gvM I4 k = upG (gvM (gI h) k) l (-2000000) := by rw [← gv3]; unfold gvM; rw [i4 71 (by decide) (by decide) (by decide), i4 72 (by decide) (by decide) (by decide)]
          have av4 : avM I4 k = upG (avM (gI h) k) l (gvM (gI h) k l) := by rw [← av3]; unfold avM; rw [i4 73 (by decide) (by decide) (by decide), i4 74 (by decide) (by decide) (by decide)]
          have rg4 : rgM I4 k = rgM (gI h) k := by rw [← rg3]; unfold rgM; rw [i4 69 (by decide) (by decide) (by decide)]
          have nt4 : ∀ i, ntM I4 k i = false := fun i => by
            unfold ntM
            by_cases hi : i < 20
            · rw [i4 75 (by decide) (by decide) (by decide), p75k i hi]; simp
            · rw [decide_eq_false hi]; rfl
          have nt4' : ntM I4 k = fun _ => false := funext nt4
          have fv4 : ∀ f, f < nf → fV (gI h) I4 f := fun f _ => fV_of fun a ha => i4M a (by omega) (by omega) (by omega) (by omega) (by omega) (by omega) (by omega) (by omega) (by omega)
          obtain ⟨e1, e2, e3⟩ := fv4 f s3
          refine kk _ (by rw [gIh, fj 0 (by decide) (by decide) (by decide) (by decide) (by decide), uI_same]) rfl ⟨left_mk (h1 := hU h I1 (gJ h)) b (show base h o from b) (fr_sess b s1 (by omega) a1) (by decide) (by simp) (fun a w1 w2 => ?_) (fun j9 w1 w2 => ?_) (fun a a1 _ => j a a1) (by rw [gN_hU]; omega) (by rw [gT_hU]; omega), SET I1 I4 J1 a1 (fun a ha => ?_) fv4 (fun k' hk' hne => ?_) ?_ ⟨?_, ?_, fun j hj => ?_⟩ ⟨?_, ⟨?_, Or.inl ?_⟩, fun i hi => ?_, fun i hi => ?_, ?_, Or.inl (fun i _ => nt4 i)⟩⟩
          · simp only [List.mem_cons, List.not_mem_nil, or_false, not_or] at w2
            rw [gIh, i4 a w1 w2.1 w2.2.1, i3 a w2.2.2.1 w2.2.2.2.1 w2.2.2.2.2.1 w2.2.2.2.2.2.2 w2.2.2.2.2.2.1 w1]
          · simp only [List.mem_cons, List.not_mem_nil, or_false, not_or] at w2
            rw [gIh, fj j9 w2.1 w2.2.1 w2.2.2.1 w2.2.2.2.1 w2.2.2.2.2, uI_nj _ _ _ _ w1]
          · rw [i4 a (by omega) (by omega) (by omega), i3 a (by omega) (by omega) (by omega) (by omega) (by omega) (by omega)]
          · refine ⟨⟨by rw [i4M 67 (by decide) (by decide) (by decide) (by decide) (by decide) (by decide) (by decide) (by decide) (by decide)], by rw [i4M 68 (by decide) (by decide) (by decide) (by decide) (by decide) (by decide) (by decide) (by decide) (by decide)], by rw [i4M 70 (by decide) (by decide) (by decide) (by decide) (by decide) (by decide) (by decide) (by decide) (by decide)], by rw [i4 76 (by decide) (by decide) (by decide), p76 k' hne], by rw [i4M 77 (by decide) (by decide) (by decide) (by decide) (by decide) (by decide) (by decide) (by decide) (by decide)]⟩, fun i hi => ?_, fun j hj => by rw [i4M 69 (by decide) (by decide) (by decide) (by decide) (by decide) (by decide) (by decide) (by decide) (by decide)]⟩
            have ne2 : ¬ 20 * k' + i = 20 * k + l := by omega
            rw [i4 71 (by decide) (by decide) (by decide), i4 72 (by decide) (by decide) (by decide), i4 73 (by decide) (by decide) (by decide), i4 74 (by decide) (by decide) (by decide), i4 75 (by decide) (by decide) (by decide), p71, p72, p73, p74, if_neg ne2, if_neg ne2, if_neg ne2, p75 _ (by omega)]
            exact ⟨rfl, rfl, rfl, rfl, rfl⟩
          · rw [fj 38 (by decide) (by decide) (by decide) (by decide) (by decide), uI_nj _ _ _ _ (by decide), m44]
          · rw [i4M 67 (by decide) (by decide) (by decide) (by decide) (by decide) (by decide) (by decide) (by decide) (by decide)]
          · rw [i4M 68 (by decide) (by decide) (by decide) (by decide) (by decide) (by decide) (by decide) (by decide) (by decide)]
          · rw [i4M 69 (by decide) (by decide) (by decide) (by decide) (by decide) (by decide) (by decide) (by decide) (by decide)]
          · rw [e1, e2, gv4, av4, rg4]
            have cl : ∀ j, j < 5 → I4 (A (bS k + j)) = I1 (A (bS k + j)) := fun j hj => by
              obtain ⟨kd, v⟩ := vS_j s1 hj
              have := lab_out b v (by unfold bS; omega)
              rw [i4 _ (by omega) (by omega) (by omega), i3 _ (by omega) (by omega) (by omega) (by omega) (by omega) (by omega)]
            obtain ⟨y1, y2, y3, y4⟩ := a2
            exact ⟨fun i hi => by rw [gIh, cl 3 (by omega)]; exact y1 i hi, fun i hi => by rw [gIh, cl 4 (by omega)]; exact y2 i hi, fun i hi => by rw [gIh, cl 2 (by omega)]; exact y3 i hi, by rw [gIh, show I4 (A (bS k)) = I1 (A (bS k)) from cl 0 (by omega)]; exact y4⟩
          · have o0 := lab_out b (vS_0 s1) (by unfold bS; omega)
            rw [gIh, i4 _ (by omega) (by omega) (by omega), i3 _ (by omega) (by omega) (by omega) (by omega) (by omega) (by omega), a1.2 12 (by omega), i4M 70 (by decide) (by decide) (by decide) (by decide) (by decide) (by decide) (by decide) (by decide) (by decide)]
            exact c1
          · rw [i4M 70 (by decide) (by decide) (by decide) (by decide) (by decide) (by decide) (by decide) (by decide) (by decide)]; exact c2
          · rw [i4 71 (by decide) (by decide) (by decide), i4 72 (by decide) (by decide) (by decide), p71, p72, e1, e2, (e3 i hi).1, (e3 i hi).2]
            by_cases c : 20 * k + i = 20 * k + l
            · rw [if_pos c]; exact fun w => absurd rfl w
            · rw [if_neg c]; exact g1 i hi
          · rw [i4 73 (by decide) (by decide) (by decide), i4 74 (by decide) (by decide) (by decide), p73, p74, e1, e2, (e3 i hi).1, (e3 i hi).2]
            by_cases c : 20 * k + i = 20 * k + l
            · rw [if_pos c, if_pos c]
              have : i = l := by omega
              subst this
              exact fun _ => g1 i hi hgl
            · rw [if_neg c, if_neg c]; exact g2 i hi
          · have o0 := lab_out b (vS_0 s1) (by unfold bS; omega)
            rw [gIh, i4 _ (by omega) (by omega) (by omega), i3 _ (by omega) (by omega) (by omega) (by omega) (by omega) (by omega), a3, nt4', bits_0]
    · have hcl0 : ¬ (gI h (A (bS k)) 12).toInt = 0 := by rw [c1, c2]; decide
      have hcl1 : ¬ (gI h 70 k).toInt = 0 := by rw [c2]; decide
      refine Pr_gc (A := A) (C := fun _ => False) 1 2 b (by decide) rfl (fun K X kk => m162 ?_) (fun g J K X mf e kk => m164 ?_) fin
      · simp only [↓forall_eq, ↓inB_iff, gK_hU, gL_hU, gR_hU, gIh, gJh, pI_hU, pJ_hU, hU_hU, uI_app, uJ_app, and_true, true_and, and_false, false_and, and_self, true_implies, false_implies, not_true, not_false_iff, if_true, if_false, eq_self, Nat.reduceLeDiff, Nat.reduceEqDiff, reduceCtorEq, i32c, ti0, ti1, tiM, Int.natCast_nonneg, Int.reduceEq, Int.reduceLE, Int.reduceLT, Int.reduceNeg, tl_i, Int32.reduceToInt, Int64.reduceToInt, tiA, tlM6, Int.toNat_natCast, natc, nI_1, Int.zero_sub, implies_true, not_false_eq_true, ck_8 b.1, ↓sessionAt_br b S.1, hkI, k0, kS_0 s1, hcl0]
        exact kk
      · have e44 := e 44 (by decide) (by decide)
        have e70 := e 70 (by decide) (by decide)
        simp only [↓forall_eq, ↓inB_iff, gK_hU, gL_hU, gR_hU, gIh, gJh, pI_hU, pJ_hU, hU_hU, uI_app, uJ_app, and_true, true_and, and_false, false_and, and_self, true_implies, false_implies, not_true, not_false_iff, if_true, if_false, eq_self, Nat.reduceLeDiff, Nat.reduceEqDiff, reduceCtorEq, i32c, ti0, ti1, tiM, Int.natCast_nonneg, Int.reduceEq, Int.reduceLE, Int.reduceLT, Int.reduceNeg, tl_i, Int32.reduceToInt, Int64.reduceToInt, tiA, tlM6, Int.toNat_natCast, natc, nI_1, Int.zero_sub, implies_true, not_false_eq_true, mf.1, mr_15 mf, mk_53 mf, ml_53 mf, mr_39 mf, mk_67 mf, ml_67 mf, mr_42 mf, mk_70 mf, ml_70 mf, mr_43 mf, mk_71 mf, ml_71 mf, mr_44 mf, mk_72 mf, ml_72 mf, mr_45 mf, mk_73 mf, ml_73 mf, mr_46 mf, mk_74 mf, ml_74 mf, mr_48 mf, mk_76 mf, ml_76 mf, ↓fail_br mf, ↓isSession_br mf, e44, e70, hs, hs2, hkI, k0, k60, hcl1]
        exact kk
  · refine Pr_gc (A := A) (C := fun _ => False) 0 3 b (by decide) rfl (fun K X k => m162 ?_) (fun g J K X mf e k => m164 ?_) fin
    · simp only [↓forall_eq, ↓inB_iff, gK_hU, gL_hU, gR_hU, gIh, gJh, pI_hU, pJ_hU, hU_hU, uI_app, uJ_app, and_true, true_and, and_false, false_and, and_self, true_implies, false_implies, not_true, not_false_iff, if_true, if_false, eq_self, Nat.reduceLeDiff, Nat.reduceEqDiff, reduceCtorEq, i32c, ti0, ti1, tiM, Int.natCast_nonneg, Int.reduceEq, Int.reduceLE, Int.reduceLT, Int.reduceNeg, tl_i, Int32.reduceToInt, Int64.reduceToInt, tiA, tlM6, Int.toNat_natCast, natc, nI_1, Int.zero_sub, implies_true, not_false_eq_true, ck_8 b.1, ↓sessionAt_br b S.1, q]
      exact k
    · simp only [↓forall_eq, ↓inB_iff, gK_hU, gL_hU, gR_hU, gIh, gJh, pI_hU, pJ_hU, hU_hU, uI_app, uJ_app, and_true, true_and, and_false, false_and, and_self, true_implies, false_implies, not_true, not_false_iff, if_true, if_false, eq_self, Nat.reduceLeDiff, Nat.reduceEqDiff, reduceCtorEq, i32c, ti0, ti1, tiM, Int.natCast_nonneg, Int.reduceEq, Int.reduceLE, Int.reduceLT, Int.reduceNeg, tl_i, Int32.reduceToInt, Int64.reduceToInt, tiA, tlM6, Int.toNat_natCast, natc, nI_1, Int.zero_sub, implies_true, not_false_eq_true, mf.1, mr_15 mf, mk_53 mf, ml_53 mf, mr_39 mf, mk_67 mf, ml_67 mf, mr_42 mf, mk_70 mf, ml_70 mf, mr_43 mf, mk_71 mf, ml_71 mf, mr_44 mf, mk_72 mf, ml_72 mf, mr_45 mf, mk_73 mf, ml_73 mf, mr_46 mf, mk_74 mf, ml_74 mf, mr_48 mf, mk_76 mf, ml_76 mf, ↓fail_br mf, ↓isSession_br mf, e 44 (by decide) (by decide), hs, hs2, q]
      exact k
end SSB
