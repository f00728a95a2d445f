/-! IMPUTE: the pair -/
section PIM
variable {d f r k n p nr nf ns U nu : Nat} {h g : aH} {A o : Nat → Nat} {X : Nat → aH → Prop} {M I0 I I1 I2 : Nat → Nat → Int32} {J J2 : Nat → Nat → Int64} {S mk : Int32} {dn it rg so : Nat → Int32} {E : Nat → Nat → List Tm} {Cn : Nat → Nat → List Cmp}
theorem ltI_ask {E : Nat → List Tm} {Cn : Nat → List Cmp} {i : Nat} (hi : (so i).toInt = 0) : ∀ p, ltI so E Cn rg it p i = it i := by
  intro p
  induction p with
  | zero => rfl
  | succ p ih =>
    rw [ltI]
    split
    · rename_i c
      unfold upG
      rw [if_neg (fun e => by rw [e, c] at hi; exact absurd hi (by decide))]
      exact ih
    · exact ih
theorem cnt_mono {x : Int32} {n : Nat} (hx : ∀ i, gB x i = true → i < n) : ∀ m, cntB x (n + m) = cntB x n := by
  intro m
  induction m with
  | zero => rfl
  | succ m ih =>
    rw [← Nat.add_assoc, cntB, ih, if_neg (fun q => by have := hx _ q; omega)]; rfl
theorem fr_gfr (b : base h o) (t : TR h A o r) (r60 : r ≤ 60) (s : gFr h A r I1) : fr h (hU h I1 (gJ h)) A A o o (fun c => c = 4 ∨ c = 7) := by
  refine ⟨⟨Nat.le_refl _, Nat.le_refl _, fun a _ => ⟨rfl, rfl⟩, fun a _ hp => ⟨rfl, rfl, fun j9 => ?_, fun _ => rfl, fun _ => rfl⟩⟩, fun _ _ => rfl, fun _ _ => rfl⟩
  have e1 : a ≠ 32 := fun e => hp (Or.inl (by rw [e, ol_32 b.2.2]))
  have e2 : a ≠ 33 := fun e => hp (Or.inl (by rw [e, ol_33 b.2.2]))
  have ne : ∀ j, j < 3 → a ≠ A (bR r + j) := fun j hj e => hp (Or.inr (by
    obtain ⟨kd, v⟩ := vR_j t hj
    rw [e, v.1]; unfold bR; omega))
  rw [gI_hU, s a e1 e2 (ne 1 (by omega)) (ne 2 (by omega))]
/-- whose numbers are put in -/
def dnD (M : Nat → Nat → Int32) (f : Nat) (S : Int32) (r nr : Nat) (w : Int32) : Int32 := if w.toInt = 1 then iZ (dnG (gvK M f S r) (dsK M f S r) nr).1 else -1
def dnV (M : Nat → Nat → Int32) (f : Nat) (S : Int32) (r nr : Nat) (w : Int32) : Nat → Int32 := if (dnD M f S r nr w).toInt = -1 then (ftG M f (gB S) 12 (tr0 M f (gB S) (itM M r))).getD (itM M r) else itM M (dnD M f S r nr w).toInt.toNat
theorem dnD_in {w : Int32} (h60 : nr ≤ 60) : (dnD M f S r nr w).toInt = -1 ∨ ∃ k, k < nr ∧ k ≠ r ∧ fR M k = f ∧ dnD M f S r nr w = nI k := by
  unfold dnD
  by_cases c : w.toInt = 1
  · rw [if_pos c]
    rcases dnG_in (gv := gvK M f S r) (ds := dsK M f S r) nr with e | ⟨k, k1, k2, k3⟩
    · rw [e]; exact Or.inl rfl
    · unfold gvK at k2
      simp only [Bool.and_eq_true, decide_eq_true_eq] at k2
      rw [k3]
      refine Or.inr ⟨k, k1, k2.1, k2.2.1, ?_⟩
      dsimp only
      exact ti_inj (by rw [ti_z (by omega) (by omega), ti_n (by omega)])
  · rw [if_neg c]; exact Or.inl rfl
theorem pr_impute {x w9 : Int32} (b : base h o) (F : FormA h A o (gI h) E Cn nf) (Sa : SessA h A o (gI h) E Cn nf ns U) (R : RecA h A o (gI h) nf ns nr) : Pr 221 227 [vI x, vI w9] [3, 1, 2] h (fun h2 => left h h2 A A o o (fun c => c = 4 ∨ c = 7) [65, 66, 79, 80, 85] [36, 37, 62, 63] 1 6 ∧ RecA h2 A o (gI h2) nf ns nr) := by
  have mf := b.2.1
  have hn := Sa.2.1.2
  have h60 := R.2.1.2
  have hnr : (nI nr).toInt = nr := ti_n (by omega)
  have hnr1 : (nI nr - 1).toInt = (nr : Int) - 1 := by rw [ti_sub (by rw [hnr, ti1]; omega) (by rw [hnr, ti1]; omega), hnr, ti1]
  have fin : ∀ h2, left h h2 A A o o (fun c => c = 4) [85] [62, 63] 1 6 → left h h2 A A o o (fun c => c = 4 ∨ c = 7) [65, 66, 79, 80, 85] [36, 37, 62, 63] 1 6 ∧ RecA h2 A o (gI h2) nf ns nr := fun h2 l => ⟨left_mono l (fun _ w => Or.inl w) (by simp) (by simp) (by omega) (by omega), RecA_left b F R l hn (by decide) (by simp) (by simp)⟩
  by_cases q : 0 ≤ x.toInt ∧ x.toInt < nr
  · generalize hrx : x.toInt.toNat = r at *
    have hx : x = nI r := by rw [← hrx]; exact ti_nat q.1
    have hr : r < nr := by omega
    have q' : 0 ≤ (nI r).toInt ∧ (nI r).toInt ≤ (nr : Int) - 1 := by rw [← hx]; omega
    by_cases qw : 0 ≤ w9.toInt ∧ w9.toInt ≤ 1
    · obtain ⟨ec, em, eu⟩ := ed_of b F R hr
      have FO := fun (g : aH) (mg : MF g) d I J K X (s : tFr (gI h) I) => @formOf_br d nf ns nr r h g A o X (gI h) I J K mg R hr hn (s 78 (by decide) (by decide)) (s 67 (by decide) (by decide))
      have R0 := R.2.2 r hr
      obtain ⟨t, ⟨r2, r3, r4, r5⟩, ⟨r6, r7, r8⟩, r9, r10⟩ := R0
      have fr9 := (F.2.2 _ r5).2.2.2.2
      have c20 := (cn_of F _ r5).2
      have rl : ∀ p, p < nrM (gI h) (fR (gI h) r) → rlA (gI h) (fR (gI h) r) (rA (gI h) (fR (gI h) r) p) ∧ rlA (gI h) (fR (gI h) r) (rBb (gI h) (fR (gI h) r) p) := fun p hp => ⟨(fr9.2.2 p hp).2.1, (fr9.2.2 p hp).2.2.1⟩
      have D := dcs_of (f := fR (gI h) r) b F R
      obtain ⟨bb, hbb⟩ := bst_all (gI h) (fR (gI h) r) (itM (gI h) r)
      -- the class up to its choice
      have CL := fun (K : Int32 → aH → Prop) X => @c_least 472 (fR (gI h) r) r (itM (gI h) r) h A o X (gI h) (gI h) (gJ h) K ec eu (fun _ _ _ => rfl)
      rw [hU_eta] at CL
      have w0 : ¬ w9.toInt < 0 := by omega
      have w1 : ¬ 1 < w9.toInt := by omega
      -- the model up to its choice
      have MD : ∀ (g : aH) (Ic : Nat → Nat → Int32) (J1 : Nat → Nat → Int64) (K : Int32 → aH → Prop) (X : Nat → aH → Prop), MF g → (∀ a, 44 ≤ a → a < 107 → Ic a = gI h a) → bst (gI h) (fR (gI h) r) (itM (gI h) r) (frU (gI h) (fR (gI h) r) (itM (gI h) r)) bb → (∀ I2, fFr (uI Ic 44 0 0) I2 → tFr (gI h) I2 → I2 44 63 = bb.1 → (bb.1.toInt = -1 → K 0 (hU g (uI I2 44 0 3) J1)) ∧ (¬ bb.1.toInt = -1 → Wp 500 227 (80, [some (vR 44), some (vI (nI r)), some (vI w9), some (vI (nI (fR (gI h) r))), some (vI bb.1), some (vI (-1)), some (vI 0), none], [], hU g I2 J1) (RI K X))) → CI 500 227 [vR 44, vI (nI r), vI w9] (hU g Ic J1) K X := by
        intro g Ic J1 K X mg e9 hb kk
        have ss : ∀ y, tFr (gI h) (uI Ic 44 0 y) := fun y c h1 h2 => by rw [uI_ne _ _ _ (by omega)]; exact e9 c (by omega) (by omega)
        have e53 : Ic 44 53 = nI nr := by rw [e9 44 (by decide) (by decide)]; exact R.2.1.1
        refine m227 ?_
        simp only [↓forall_eq, ↓inB_iff, gK_hU, gL_hU, gR_hU, gIh, gJh, pI_hU, pJ_hU, hU_hU, uI_app, uJ_app, and_true, true_and, and_false, false_and, and_self, true_implies, false_implies, not_true, not_false_iff, if_true, if_false, eq_self, Nat.reduceLeDiff, Nat.reduceEqDiff, reduceCtorEq, i32c, ti0, ti1, tiM, Int.natCast_nonneg, Int.reduceEq, Int.reduceLE, Int.reduceLT, Int.reduceNeg, tl_i, Int32.reduceToInt, Int64.reduceToInt, tiA, tlM6, Int.toNat_natCast, natc, nI_1, Int.zero_sub, implies_true, not_false_eq_true, mg.1, mr_15 mg, mk_53 mg, ml_53 mg, mr_55 mg, mk_79 mg, ml_79 mg, mr_56 mg, mk_80 mg, ml_80 mg, mr_61 mg, mk_85 mg, ml_85 mg, ↓fail_br mg, ↓isIn_br, e53, hnr1, q', qw]
        refine m_find (d := 497) (g := g) ⟨mg, em.2⟩ (ed_may eu rl) rl (ss 0) (fun d I K X s => FO g mg d I J1 K X s) (fun I2 w1 w2 w3 w4 => ?_)
        have eb : bb = w1 := bst_may eu hb w4 rl
        subst eb
        have s2 : tFr (gI h) I2 := fun c h1 h2 => by rw [w2.1 c (by omega) (by omega)]; exact ss 0 c h1 h2
        have i63 : I2 44 63 = bb.1 := by
          rcases w3 with ⟨y0, y1, y2⟩ | ⟨y0, y1, y2⟩
          · rw [y2, y0]
          · exact y2
        obtain ⟨k1, k2⟩ := kk I2 w2 s2 i63
        simp only [↓forall_eq, ↓inB_iff, gK_hU, gL_hU, gR_hU, gIh, gJh, pI_hU, pJ_hU, hU_hU, uI_app, uJ_app, and_true, true_and, and_false, false_and, and_self, true_implies, false_implies, not_true, not_false_iff, if_true, if_false, eq_self, Nat.reduceLeDiff, Nat.reduceEqDiff, reduceCtorEq, i32c, ti0, ti1, tiM, Int.natCast_nonneg, Int.reduceEq, Int.reduceLE, Int.reduceLT, Int.reduceNeg, tl_i, Int32.reduceToInt, Int64.reduceToInt, tiA, tlM6, Int.toNat_natCast, natc, nI_1, Int.zero_sub, implies_true, not_false_eq_true, mg.1, mr_15 mg, mk_53 mg, ml_53 mg, mr_55 mg, mk_79 mg, ml_79 mg, mr_56 mg, mk_80 mg, ml_80 mg, mr_61 mg, mk_85 mg, ml_85 mg, ↓fail_br mg, i63, ↓FO g mg _ _ _ _ _ s2]
        exact ⟨k1, k2⟩
      by_cases cb : bb.1.toInt = -1
      · refine Pr_no 2 (fun h1 => ∃ I1, h1 = gNew (hU h I1 (gJ h)) 200 6 ∧ eFr h I1 ∧ bst (gI h) (fR (gI h) r) (itM (gI h) r) (frU (gI h) (fR (gI h) r) (itM (gI h) r)) bb) 2 (by decide) rfl (fun K X kk => m221 ⟨by decide, ck_8 b.1, ?_⟩) (fun h1 J1 m j K X kk => ?_)
        · rw [recordAt_br b R.1, bz_t q, hrx]
          simp only [↓forall_eq, ↓inB_iff, gK_hU, gL_hU, gR_hU, gIh, gJh, pI_hU, pJ_hU, hU_hU, uI_app, uJ_app, and_true, true_and, and_false, false_and, and_self, true_implies, false_implies, not_true, not_false_iff, if_true, if_false, eq_self, Nat.reduceLeDiff, Nat.reduceEqDiff, reduceCtorEq, i32c, ti0, ti1, tiM, Int.natCast_nonneg, Int.reduceEq, Int.reduceLE, Int.reduceLT, Int.reduceNeg, tl_i, Int32.reduceToInt, Int64.reduceToInt, tiA, tlM6, Int.toNat_natCast, natc, nI_1, Int.zero_sub, implies_true, not_false_eq_true, cr_8_3 b.1, ck_32 b.1, ck_8 b.1, w0, w1]
          refine CL _ _ (fun I1 b1 z1 z2 z3 z4 => ?_)
          have eb := hbb b1 z4
          subst eb
          simp only [↓forall_eq, ↓inB_iff, gK_hU, gL_hU, gR_hU, gIh, gJh, pI_hU, pJ_hU, hU_hU, uI_app, uJ_app, and_true, true_and, and_false, false_and, and_self, true_implies, false_implies, not_true, not_false_iff, if_true, if_false, eq_self, Nat.reduceLeDiff, Nat.reduceEqDiff, reduceCtorEq, i32c, ti0, ti1, tiM, Int.natCast_nonneg, Int.reduceEq, Int.reduceLE, Int.reduceLT, Int.reduceNeg, tl_i, Int32.reduceToInt, Int64.reduceToInt, tiA, tlM6, Int.toNat_natCast, natc, nI_1, Int.zero_sub, implies_true, not_false_eq_true, cb]
          exact kk _ ⟨I1, rfl, z1, z4⟩
        · obtain ⟨I1, rfl, s1, hb⟩ := m
          subst hx
          have b1 : base (hU h I1 (gJ h)) o := b
          have e9 : ∀ a, 44 ≤ a → a < 107 → gI (gNew (hU h I1 (gJ h)) 200 6) a = gI h a := fun a h1 h2 => by
            rw [(fr_m (A := A) (A1 := A) (C := fun _ => False) b1 (fr_new 200 6) (fun w => w) h1 h2).1, gIh, s1 a (by omega) (by omega)]
          have b2 := base_new b1
          refine MD _ _ J1 K X b2.2.1 e9 hb (fun I2 v1 v2 v3 => ⟨fun _ => ?_, fun c => absurd cb c⟩)
          refine kk _ 0 (by rw [gIh, uI_same]; rfl) rfl (fin _ ?_)
          refine left_mk (h1 := gNew (hU h I1 (gJ h)) 200 6) b b2 (fr_trans (fr_ed b s1) (fr_new 200 6)) (by decide) (by decide) (fun a a1 a2 => ?_) (fun j9 a1 a2 => ?_) (fun a a1 _ => j a a1) (by rw [gN_gNew, gN_hU]; omega) (by rw [gT_gNew, gT_hU]; omega)
          · have h85 : a ≠ 85 := fun e => a2 (by rw [e]; decide)
            rw [uI_ne _ _ _ a1, v1.1 a a1 h85, uI_ne _ _ _ a1]
          · have h62 : j9 ≠ 62 := fun e => a2 (by rw [e]; decide)
            have h63 : j9 ≠ 63 := fun e => a2 (by rw [e]; decide)
            rw [uI_app, if_neg (fun q => a1 q.2), v1.2 j9 h62 h63, uI_app, if_neg (fun q => a1 q.2)]
      · have hS : bst (gI h) (fR (gI h) r) (itM (gI h) r) (frU (gI h) (fR (gI h) r) (itM (gI h) r)) bb → subB bb.1 (frU (gI h) (fR (gI h) r) (itM (gI h) r)) ∧ fitB (gI h) (fR (gI h) r) (itM (gI h) r) (gB bb.1) = true := fun z => by
          rcases bst_val eu z with y | ⟨-, y⟩
          · exact absurd (by rw [y]; rfl) cb
          · exact y
        have sub20 : subB bb.1 (frU (gI h) (fR (gI h) r) (itM (gI h) r)) → ∀ i, gB bb.1 i = true → i < cnM (gI h) (fR (gI h) r) := fun z i hi => (eu.2.2.1 i (z i hi)).1
        have cnt20 : subB bb.1 (frU (gI h) (fR (gI h) r) (itM (gI h) r)) → msk bb.1 < 2 ^ 20 ∧ cntB bb.1 20 = cntB bb.1 (cnM (gI h) (fR (gI h) r)) := fun z => by
          refine ⟨msk_lt fun i hi => ?_, ?_⟩
          · cases hh : gB bb.1 i
            · rfl
            · have := sub20 z i hh; omega
          · have := cnt_mono (sub20 z) (20 - cnM (gI h) (fR (gI h) r))
            rw [show cnM (gI h) (fR (gI h) r) + (20 - cnM (gI h) (fR (gI h) r)) = 20 by omega] at this
            exact this
        -- the numbers put in
        have dnB : subB bb.1 (frU (gI h) (fR (gI h) r) (itM (gI h) r)) → fitB (gI h) (fR (gI h) r) (itM (gI h) r) (gB bb.1) = true → ∀ i, i < cnM (gI h) (fR (gI h) r) → gB bb.1 i = true → (dnV (gI h) (fR (gI h) r) bb.1 r nr w9 i).toInt = -2000000 ∨ (loM (gI h) (fR (gI h) r) i ≤ (dnV (gI h) (fR (gI h) r) bb.1 r nr w9 i).toInt ∧ (dnV (gI h) (fR (gI h) r) bb.1 r nr w9 i).toInt ≤ hiM (gI h) (fR (gI h) r) i) := fun z zf i hi hg => by
          have ev := eu.1 bb.1 z
          have so0 := (ev.2.2.2.1 i hg).2
          unfold dnV
          rcases dnD_in (M := gI h) (f := fR (gI h) r) (S := bb.1) (r := r) (w := w9) h60 with e | ⟨k, k1, k2, k3, k4⟩
          · rw [if_pos e]
            obtain ⟨t1, ht⟩ := Option.isSome_iff_exists.mp zf
            rw [ht]
            have := (ft_in ev 12 _ _ (tIn_0 ev) ht).1 i
            exact Or.inr (this.1 hg)
          · have hk : (nI k).toInt = k := ti_n (by omega)
            rw [k4, if_neg (by rw [hk]; omega), hk, Int.toNat_natCast]
            have := (R.2.2 k k1).2.2.2.2.2 i
            rw [k3] at this
            exact this hi so0
        have loB : ∀ i, i < cnM (gI h) (fR (gI h) r) → (soM (gI h) (fR (gI h) r) i).toInt = 0 → -999999 ≤ loM (gI h) (fR (gI h) r) i ∧ hiM (gI h) (fR (gI h) r) i ≤ 999999 := fun i hi h0 => by
          have := ((F.2.2 _ r5).2.2.1 i hi).2.2.2 h0
          exact ⟨this.1.1, this.1.2.2⟩
        have dnC : subB bb.1 (frU (gI h) (fR (gI h) r) (itM (gI h) r)) → fitB (gI h) (fR (gI h) r) (itM (gI h) r) (gB bb.1) = true → ∀ i, i < cnM (gI h) (fR (gI h) r) → gB bb.1 i = true → (dnV (gI h) (fR (gI h) r) bb.1 r nr w9 i).toInt = -2000000 ∨ (-1000000 ≤ (dnV (gI h) (fR (gI h) r) bb.1 r nr w9 i).toInt ∧ (dnV (gI h) (fR (gI h) r) bb.1 r nr w9 i).toInt ≤ 1000000) := fun z zf i hi hg => by
          have l := loB i hi ((eu.1 bb.1 z).2.2.2.1 i hg).2
          rcases dnB z zf i hi hg with y | y
          · exact Or.inl y
          · exact Or.inr (by omega)
        refine Pr_ok (nI (cntB bb.1 (cnM (gI h) (fR (gI h) r)))) (fun h1 => ∃ I1, h1 = hU h I1 (gJ h) ∧ gFr h A r I1 ∧ (∀ i, i < 20 → I1 (A (bR r + 1)) i = nwI (gI h) E Cn r bb.1 (dnV (gI h) (fR (gI h) r) bb.1 r nr w9) i) ∧ (∀ i, i < 20 → I1 (A (bR r + 2)) i = nwK (gI h) r bb.1 (if (dnD (gI h) (fR (gI h) r) bb.1 r nr w9).toInt = -1 then 1 else 2) i) ∧ bst (gI h) (fR (gI h) r) (itM (gI h) r) (frU (gI h) (fR (gI h) r) (itM (gI h) r)) bb) (fun K X kk => m221 ⟨by decide, ck_8 b.1, ?_⟩) (fun h1 J1 m j K X kk => ?_)
        · rw [recordAt_br b R.1, bz_t q, hrx]
          simp only [↓forall_eq, ↓inB_iff, gK_hU, gL_hU, gR_hU, gIh, gJh, pI_hU, pJ_hU, hU_hU, uI_app, uJ_app, and_true, true_and, and_false, false_and, and_self, true_implies, false_implies, not_true, not_false_iff, if_true, if_false, eq_self, Nat.reduceLeDiff, Nat.reduceEqDiff, reduceCtorEq, i32c, ti0, ti1, tiM, Int.natCast_nonneg, Int.reduceEq, Int.reduceLE, Int.reduceLT, Int.reduceNeg, tl_i, Int32.reduceToInt, Int64.reduceToInt, tiA, tlM6, Int.toNat_natCast, natc, nI_1, Int.zero_sub, implies_true, not_false_eq_true, cr_8_3 b.1, ck_32 b.1, ck_8 b.1, w0, w1]
          refine CL _ _ (fun I1 b1 z1 z2 z3 z4 => ?_)
          have eb := hbb b1 z4
          subst eb
          obtain ⟨zs, zf⟩ := hS z4
          have rest : ∀ I2, eFr h I2 → Wp 500 221 (76, [some (vR 8), none, none, some (vR (A (bR r))), some (vI b1.1), none], [vI (dnD (gI h) (fR (gI h) r) b1.1 r nr w9)], hU h I2 (gJ h)) (RI K X) := fun I2 s2 => by
            have bc := fun d h (K : Int32 → aH → Prop) X => bitCount_br (d := d) (h := h) (K := K) (X := X) (cnt20 zs).1
            rw [(cnt20 zs).2] at bc
            refine w221_76 ?_
            refine ⟨fun c => ?_, fun c => ?_⟩
            · simp only [↓forall_eq, ↓inB_iff, gK_hU, gL_hU, gR_hU, gIh, gJh, pI_hU, pJ_hU, hU_hU, uI_app, uJ_app, and_true, true_and, and_false, false_and, and_self, true_implies, false_implies, not_true, not_false_iff, if_true, if_false, eq_self, Nat.reduceLeDiff, Nat.reduceEqDiff, reduceCtorEq, i32c, ti0, ti1, tiM, Int.natCast_nonneg, Int.reduceEq, Int.reduceLE, Int.reduceLT, Int.reduceNeg, tl_i, Int32.reduceToInt, Int64.reduceToInt, tiA, tlM6, Int.toNat_natCast, natc, nI_1, Int.zero_sub, implies_true, not_false_eq_true, cr_8_3 b.1, ck_32 b.1, ck_8 b.1]
              refine m219 ?_
              simp only [↓forall_eq, ↓inB_iff, gK_hU, gL_hU, gR_hU, gIh, gJh, pI_hU, pJ_hU, hU_hU, uI_app, uJ_app, and_true, true_and, and_false, false_and, and_self, true_implies, false_implies, not_true, not_false_iff, if_true, if_false, eq_self, Nat.reduceLeDiff, Nat.reduceEqDiff, reduceCtorEq, i32c, ti0, ti1, tiM, Int.natCast_nonneg, Int.reduceEq, Int.reduceLE, Int.reduceLT, Int.reduceNeg, tl_i, Int32.reduceToInt, Int64.reduceToInt, tiA, tlM6, Int.toNat_natCast, natc, nI_1, Int.zero_sub, implies_true, not_false_eq_true, ck_32 b.1, cr_32_0 b.1]
              refine c_fits (d := 494) ec (eu.1 _ zs) s2 (fun I3 v1 v2 v3 => ?_)
              simp only [↓forall_eq, ↓inB_iff, gK_hU, gL_hU, gR_hU, gIh, gJh, pI_hU, pJ_hU, hU_hU, uI_app, uJ_app, and_true, true_and, and_false, false_and, and_self, true_implies, false_implies, not_true, not_false_iff, if_true, if_false, eq_self, Nat.reduceLeDiff, Nat.reduceEqDiff, reduceCtorEq, i32c, ti0, ti1, tiM, Int.natCast_nonneg, Int.reduceEq, Int.reduceLE, Int.reduceLT, Int.reduceNeg, tl_i, Int32.reduceToInt, Int64.reduceToInt, tiA, tlM6, Int.toNat_natCast, natc, nI_1, Int.zero_sub, implies_true, not_false_eq_true, ck_32 b.1, cr_32_0 b.1, kR_0 t, eR_0 t]
              refine c_fillr (d := 495) (dn := dnV (gI h) (fR (gI h) r) b1.1 r nr w9) b F Sa R hr v1 (Or.inl rfl) (fun i hi hg => ⟨?_, dnC zs zf i hi hg⟩) (fun I4 y1 y2 y3 => ?_)
              · obtain ⟨t1, ht⟩ := Option.isSome_iff_exists.mp zf
                rw [v3 t1 ht i hi]
                unfold dnV
                rw [if_pos c, ht]; rfl
              · rw [bc]
                exact kk _ ⟨I4, rfl, y1, y2, by rw [if_pos c]; exact y3, z4⟩
            · obtain ⟨k, k1, k2, k3, k4⟩ := (dnD_in (M := gI h) (f := fR (gI h) r) (S := b1.1) (r := r) (w := w9) h60).resolve_left c
              have hkI : (nI k).toInt = k := ti_n (by omega)
              have L2 : listT (hU h I2 (gJ h)) A o 36 7 nr 5 := ⟨R.1.1, ⟨by rw [gIh, s2 36 (by decide) (by decide)]; exact R.1.2.1.1, R.1.2.1.2⟩, R.1.2.2⟩
              have b9 : base (hU h I2 (gJ h)) o := b
              have tk := (R.2.2 k k1).1
              have kq : 0 ≤ (nI k).toInt ∧ (nI k).toInt < nr := by rw [hkI]; omega
              rw [k4]
              refine ⟨by decide, ck_8 b.1, ?_⟩
              rw [recordAt_br b9 L2, bz_t kq, hkI, Int.toNat_natCast]
              simp only [↓forall_eq, ↓inB_iff, gK_hU, gL_hU, gR_hU, gIh, gJh, pI_hU, pJ_hU, hU_hU, uI_app, uJ_app, and_true, true_and, and_false, false_and, and_self, true_implies, false_implies, not_true, not_false_iff, if_true, if_false, eq_self, Nat.reduceLeDiff, Nat.reduceEqDiff, reduceCtorEq, i32c, ti0, ti1, tiM, Int.natCast_nonneg, Int.reduceEq, Int.reduceLE, Int.reduceLT, Int.reduceNeg, tl_i, Int32.reduceToInt, Int64.reduceToInt, tiA, tlM6, Int.toNat_natCast, natc, nI_1, Int.zero_sub, implies_true, not_false_eq_true, kR_0 tk, rR_0_3 tk, kR_0 t, eR_0 t]
              refine c_fillr (d := 495) (dn := dnV (gI h) (fR (gI h) r) b1.1 r nr w9) b F Sa R hr s2 (Or.inr ⟨k, k1, k2, rfl⟩) (fun i hi hg => ⟨?_, dnC zs zf i hi hg⟩) (fun I4 y1 y2 y3 => ?_)
              · have o9 := eR_out (j := 1) b.2.2 tk (by omega) (by omega)
                rw [s2 _ o9.1 o9.2, ((R.2.2 k k1).2.2.2.1 i (by omega)).1]
                unfold dnV
                rw [if_neg c, k4, hkI, Int.toNat_natCast]
              · rw [bc]
                exact kk _ ⟨I4, rfl, y1, y2, by rw [if_neg c]; exact y3, z4⟩
          simp only [↓forall_eq, ↓inB_iff, gK_hU, gL_hU, gR_hU, gIh, gJh, pI_hU, pJ_hU, hU_hU, uI_app, uJ_app, and_true, true_and, and_false, false_and, and_self, true_implies, false_implies, not_true, not_false_iff, if_true, if_false, eq_self, Nat.reduceLeDiff, Nat.reduceEqDiff, reduceCtorEq, i32c, ti0, ti1, tiM, Int.natCast_nonneg, Int.reduceEq, Int.reduceLE, Int.reduceLT, Int.reduceNeg, tl_i, Int32.reduceToInt, Int64.reduceToInt, tiA, tlM6, Int.toNat_natCast, natc, nI_1, Int.zero_sub, implies_true, not_false_eq_true, cb, cr_8_3 b.1, cr_8_6 b.1, ck_32 b.1, ck_8 b.1]
          refine ⟨fun c => ?_, fun c => ?_⟩
          · refine c_donor (d := 493) D hr rfl z1 (fun I2 v1 v2 => ?_)
            have := rest I2 v1
            unfold dnD at this
            rw [if_pos c] at this
            exact this
          · have := rest I1 z1
            unfold dnD at this
            rw [if_neg c] at this
            exact this
        · obtain ⟨Ic, rfl, s1, v1, v2, hb⟩ := m
          subst hx
          obtain ⟨zs, zf⟩ := hS hb
          have lo : ∀ j, j < 3 → ¬ (44 ≤ A (bR r + j) ∧ A (bR r + j) ≤ 107) := fun j hj => by
            obtain ⟨kd, v⟩ := vR_j t hj
            exact lab_out b v (by unfold bR; omega)
          have e9 : ∀ a, 44 ≤ a → a < 107 → Ic a = gI h a := fun a h1 h2 => s1 a (by omega) (by omega) (fun e => lo 1 (by omega) (by omega)) (fun e => lo 2 (by omega) (by omega))
          refine MD h Ic J1 K X mf e9 hb (fun I2 x1 x2 x3 => ⟨fun c => absurd c cb, fun _ => ?_⟩)
          have bmx : bndI 20 (mixN bb.1 (dnV (gI h) (fR (gI h) r) bb.1 r nr w9) (itM (gI h) r) (cnM (gI h) (fR (gI h) r))) := fun i hi => by
            unfold mixN
            split
            · rename_i c; exact dnC zs zf i c.1 c.2
            · exact r10.1 i hi
          have fill : ∀ I3, tFr (gI h) I3 → (∀ c, c ≠ 85 → I3 c = I2 c) → ((dnD (gI h) (fR (gI h) r) bb.1 r nr w9).toInt = -1 → ∀ i, i < cnM (gI h) (fR (gI h) r) → gB bb.1 i = true → I3 85 i = dnV (gI h) (fR (gI h) r) bb.1 r nr w9 i) → Wp 500 227 (164, [some (vR 44), some (vI (nI r)), none, some (vI (nI (fR (gI h) r))), some (vI bb.1), some (vI (dnD (gI h) (fR (gI h) r) bb.1 r nr w9)), some (vI 0), some (vI 0)], [], hU h I3 J1) (RI K X) := fun I3 y1 y2 y3 => by
            refine m_fill (d := 496) (dn := dnV (gI h) (fR (gI h) r) bb.1 r nr w9) mf F R hn hr y1 ?_ (fun I4 u1 u2 u3 => ?_)
            · rcases dnD_in (M := gI h) (f := fR (gI h) r) (S := bb.1) (r := r) (w := w9) h60 with e | ⟨k, k1, k2, k3, k4⟩
              · exact Or.inl ⟨e, y3 e⟩
              · have hkI : (nI k).toInt = k := ti_n (by omega)
                refine Or.inr ⟨k, k1, k2, k4, fun i hi hg => ?_⟩
                unfold dnV
                rw [k4, if_neg (by rw [hkI]; omega), hkI, Int.toNat_natCast]
            · have a0 : ∀ a, a ≠ 44 → a ≠ 65 → a ≠ 66 → a ≠ 79 → a ≠ 80 → a ≠ 85 → I4 a = Ic a := fun a h1 h2 h3 h4 h5 h6 => by
                rw [u1.1 a h1 h2 h3 h4 h5, y2 a h6, x1.1 a h1 h6, uI_ne _ _ _ h1]
              have a4 : ∀ j, j ≠ 36 → j ≠ 37 → j ≠ 62 → j ≠ 63 → I4 44 j = if j = 0 then 0 else Ic 44 j := fun j h1 h2 h3 h4 => by
                rw [u1.2.1 j h1 h2, y2 44 (by decide), x1.2 j h3 h4, uI_app]
                by_cases c : j = 0
                · rw [if_pos ⟨rfl, c⟩, if_pos c]
                · rw [if_neg (fun q => c q.2), if_neg c]
              refine kk (hU h I4 J1) (by rw [gIh, a4 0 (by decide) (by decide) (by decide) (by decide)]; rfl) rfl ⟨?_, ?_⟩
              · refine left_mk (h1 := hU h Ic (gJ h)) b (show base h o from b) (fr_gfr b t (by omega) s1) (by decide) (by decide) (fun a a1 a2 => ?_) (fun j9 a1 a2 => ?_) (fun a a1 _ => j a a1) (by rw [gN_hU]; omega) (by rw [gT_hU]; omega)
                · simp only [List.mem_cons, List.mem_nil_iff, or_false, not_or] at a2
                  exact a0 a a1 a2.1 a2.2.1 a2.2.2.1 a2.2.2.2.1 a2.2.2.2.2
                · simp only [List.mem_cons, List.mem_nil_iff, or_false, not_or] at a2
                  rw [a4 j9 a2.1 a2.2.1 a2.2.2.1 a2.2.2.2, if_neg a1]; rfl
              · refine RecA_set b F R hr s1 (fun a ha => a0 a (by omega) (by omega) (by omega) (by omega) (by omega) (by omega)) (fun a h1 h2 h3 => ?_) ?_ (fun j hj => ⟨?_, ?_⟩) (fun i hi => ⟨?_, ?_⟩) ⟨fun i hi => ?_, fun i hi h0 => ?_⟩
                · rw [a0 a (by omega) h2 h3 (by omega) (by omega) (by omega), e9 a (by omega) (by omega)]
                · rw [a4 53 (by decide) (by decide) (by decide) (by decide), if_neg (by decide), e9 44 (by decide) (by decide)]
                · rw [(u1.2.2 j hj).1, y1 79 (by decide) (by decide)]
                · rw [(u1.2.2 j hj).2, y1 80 (by decide) (by decide)]
                · rw [v1 i hi, u2 i hi]
                · rw [v2 i hi, u3 i hi]
                · dsimp only
                  rw [if_pos hi, u2 i hi]
                  exact ltI_b bmx _ i hi
                · dsimp only
                  rw [if_pos (by omega), u2 i (by omega)]
                  unfold nwI
                  rw [ltI_ask h0]
                  unfold mixN
                  split
                  · rename_i c; exact dnB zs zf i c.1 c.2
                  · exact r10.2 i hi h0
          have rest : ∀ I3, tFr (gI h) I3 → (∀ c, c ≠ 85 → I3 c = I2 c) → ((dnD (gI h) (fR (gI h) r) bb.1 r nr w9).toInt = -1 → CI 499 210 [vR 44, vI (nI r), vI bb.1] (hU h I3 J1) (fun y3 h3 => Wp 500 227 (164, [some (vR 44), some (vI (nI r)), none, some (vI (nI (fR (gI h) r))), some (vI bb.1), some (vI (dnD (gI h) (fR (gI h) r) bb.1 r nr w9)), some (vI 0), some (vI 0)], [], h3) (RI K X)) X) ∧ (¬ (dnD (gI h) (fR (gI h) r) bb.1 r nr w9).toInt = -1 → Wp 500 227 (164, [some (vR 44), some (vI (nI r)), none, some (vI (nI (fR (gI h) r))), some (vI bb.1), some (vI (dnD (gI h) (fR (gI h) r) bb.1 r nr w9)), some (vI 0), some (vI 0)], [], hU h I3 J1) (RI K X)) := fun I3 y1 y2 => by
            refine ⟨fun c => ?_, fun c => fill I3 y1 y2 (fun z => absurd z c)⟩
            refine m_fits (d := 498) em (eu.1 _ zs) y1 (fun K X => FO h mf 498 I3 J1 K X y1) (fun I4 u1 u2 u3 => ?_)
            refine fill I4 u1 (fun c hc => (u2 c hc).trans (y2 c hc)) (fun _ i hi hg => ?_)
            obtain ⟨t1, ht⟩ := Option.isSome_iff_exists.mp zf
            rw [u3 t1 ht i hi hg]
            unfold dnV
            rw [if_pos c, ht]; rfl
          have g53 : I2 44 53 = nI nr := by rw [x1.2 53 (by decide) (by decide), uI_app, if_neg (by decide), e9 44 (by decide) (by decide)]; exact R.2.1.1
          by_cases c : w9.toInt = 1
          · have RC : rcM h (gI h) J1 nr := ⟨mf, h60, fun d I K X k hk s => formOf_br mf R hk hn (s 78 (by decide) (by decide)) (s 67 (by decide) (by decide))⟩
            have DM : dcm h (gI h) (fR (gI h) r) nr := fun k hk => by
              obtain ⟨-, ek, -⟩ := ed_of b F R hk
              have k5 := (R.2.2 k hk).2.1.2.2.2
              have n6 := F.2.1.2
              refine ⟨by omega, fun e => ?_⟩
              rw [e] at ek
              exact ⟨ek, bnd_le (R.2.2 k hk).2.2.2.2.1 c20⟩
            have MDo := m_donor (d := 497) (S := bb.1) (w9 := w9) (K := K) (X := X) RC fr9 DM hr rfl x2 g53 c (fun I3 y1 y2 => ?_) nr 0 I2 (by omega) x2 (fun _ _ => rfl)
            · exact MDo
            · have rs := rest I3 y1 y2
              unfold dnD at rs
              rw [if_pos c] at rs
              have g53' : I3 44 53 = nI nr := by rw [y2 44 (by decide)]; exact g53
              refine w227_80 ?_
              simp only [↓forall_eq, ↓inB_iff, gK_hU, gL_hU, gR_hU, gIh, gJh, pI_hU, pJ_hU, hU_hU, uI_app, uJ_app, and_true, true_and, and_false, false_and, and_self, true_implies, false_implies, not_true, not_false_iff, if_true, if_false, eq_self, Nat.reduceLeDiff, Nat.reduceEqDiff, reduceCtorEq, i32c, ti0, ti1, tiM, Int.natCast_nonneg, Int.reduceEq, Int.reduceLE, Int.reduceLT, Int.reduceNeg, tl_i, Int32.reduceToInt, Int64.reduceToInt, tiA, tlM6, Int.toNat_natCast, natc, nI_1, Int.zero_sub, implies_true, not_false_eq_true, mf.1, mr_15 mf, mk_53 mf, ml_53 mf, mr_55 mf, mk_79 mf, ml_79 mf, mr_56 mf, mk_80 mf, ml_80 mf, mr_61 mf, mk_85 mf, ml_85 mf, g53', hnr, Int.lt_irrefl]
              exact rs
          · have rs := rest I2 x2 (fun _ _ => rfl)
            unfold dnD at rs
            rw [if_neg c] at rs
            have z0 : (0 : Int) < nr := by omega
            have t0 : (0 : Int32).toInt = 0 := rfl
            refine w227_80 ?_
            simp only [↓forall_eq, ↓inB_iff, gK_hU, gL_hU, gR_hU, gIh, gJh, pI_hU, pJ_hU, hU_hU, uI_app, uJ_app, and_true, true_and, and_false, false_and, and_self, true_implies, false_implies, not_true, not_false_iff, if_true, if_false, eq_self, Nat.reduceLeDiff, Nat.reduceEqDiff, reduceCtorEq, i32c, ti0, ti1, tiM, Int.natCast_nonneg, Int.reduceEq, Int.reduceLE, Int.reduceLT, Int.reduceNeg, tl_i, Int32.reduceToInt, Int64.reduceToInt, tiA, tlM6, Int.toNat_natCast, natc, nI_1, Int.zero_sub, implies_true, not_false_eq_true, mf.1, mr_15 mf, mk_53 mf, ml_53 mf, mr_55 mf, mk_79 mf, ml_79 mf, mr_56 mf, mk_80 mf, ml_80 mf, mr_61 mf, mk_85 mf, ml_85 mf, g53, hnr, t0, z0, c]
            exact rs.1 rfl
    · refine Pr_gc (A := A) (C := fun c => c = 4) 1 1 b (by decide) rfl (fun K X kk => m221 ⟨by decide, ck_8 b.1, ?_⟩) (fun g J K X mf e kk => m227 ?_) (fun h2 l => fin h2 (left_w l (by simp) (by simp)))
      · rw [recordAt_br b R.1, bz_t q, hrx]
        by_cases c0 : w9.toInt < 0
        · simp only [↓forall_eq, ↓inB_iff, gK_hU, gL_hU, gR_hU, gIh, gJh, pI_hU, pJ_hU, hU_hU, uI_app, uJ_app, and_true, true_and, and_false, false_and, and_self, true_implies, false_implies, not_true, not_false_iff, if_true, if_false, eq_self, Nat.reduceLeDiff, Nat.reduceEqDiff, reduceCtorEq, i32c, ti0, ti1, tiM, Int.natCast_nonneg, Int.reduceEq, Int.reduceLE, Int.reduceLT, Int.reduceNeg, tl_i, Int32.reduceToInt, Int64.reduceToInt, tiA, tlM6, Int.toNat_natCast, natc, nI_1, Int.zero_sub, implies_true, not_false_eq_true, c0]; exact kk
        · have c1 : 1 < w9.toInt := by omega
          simp only [↓forall_eq, ↓inB_iff, gK_hU, gL_hU, gR_hU, gIh, gJh, pI_hU, pJ_hU, hU_hU, uI_app, uJ_app, and_true, true_and, and_false, false_and, and_self, true_implies, false_implies, not_true, not_false_iff, if_true, if_false, eq_self, Nat.reduceLeDiff, Nat.reduceEqDiff, reduceCtorEq, i32c, ti0, ti1, tiM, Int.natCast_nonneg, Int.reduceEq, Int.reduceLE, Int.reduceLT, Int.reduceNeg, tl_i, Int32.reduceToInt, Int64.reduceToInt, tiA, tlM6, Int.toNat_natCast, natc, nI_1, Int.zero_sub, implies_true, not_false_eq_true, c0, c1]; exact kk
      · subst hx
        simp only [↓forall_eq, ↓inB_iff, gK_hU, gL_hU, gR_hU, gIh, gJh, pI_hU, pJ_hU, hU_hU, uI_app, uJ_app, and_true, true_and, and_false, false_and, and_self, true_implies, false_implies, not_true, not_false_iff, if_true, if_false, eq_self, Nat.reduceLeDiff, Nat.reduceEqDiff, reduceCtorEq, i32c, ti0, ti1, tiM, Int.natCast_nonneg, Int.reduceEq, Int.reduceLE, Int.reduceLT, Int.reduceNeg, tl_i, Int32.reduceToInt, Int64.reduceToInt, tiA, tlM6, Int.toNat_natCast, natc, nI_1, Int.zero_sub, implies_true, not_false_eq_true, mf.1, mr_15 mf, mk_53 mf, ml_53 mf, mr_55 mf, mk_79 mf, ml_79 mf, mr_56 mf, mk_80 mf, ml_80 mf, mr_61 mf, mk_85 mf, ml_85 mf, ↓fail_br mf, ↓isIn_br, e 44 (by decide) (by decide), R.2.1.1, hnr1, q', qw]
        exact kk
  · refine Pr_gc (A := A) (C := fun c => c = 4) 0 3 b (by decide) rfl (fun K X kk => m221 ⟨by decide, ck_8 b.1, ?_⟩) (fun g J K X mf e kk => m227 ?_) (fun h2 l => fin h2 (left_w l (by simp) (by simp)))
    · rw [recordAt_br b R.1, bz_f q]
      exact kk
    · have q' : ¬ (0 ≤ x.toInt ∧ x.toInt ≤ (nr : Int) - 1) := by omega
      simp only [↓forall_eq, ↓inB_iff, gK_hU, gL_hU, gR_hU, gIh, gJh, pI_hU, pJ_hU, hU_hU, uI_app, uJ_app, and_true, true_and, and_false, false_and, and_self, true_implies, false_implies, not_true, not_false_iff, if_true, if_false, eq_self, Nat.reduceLeDiff, Nat.reduceEqDiff, reduceCtorEq, i32c, ti0, ti1, tiM, Int.natCast_nonneg, Int.reduceEq, Int.reduceLE, Int.reduceLT, Int.reduceNeg, tl_i, Int32.reduceToInt, Int64.reduceToInt, tiA, tlM6, Int.toNat_natCast, natc, nI_1, Int.zero_sub, implies_true, not_false_eq_true, mf.1, mr_15 mf, mk_53 mf, ml_53 mf, mr_55 mf, mk_79 mf, ml_79 mf, mr_56 mf, mk_80 mf, ml_80 mf, mr_61 mf, mk_85 mf, ml_85 mf, ↓fail_br mf, ↓isIn_br, e 44 (by decide) (by decide), R.2.1.1, hnr1, q']
      exact kk
end PIM
