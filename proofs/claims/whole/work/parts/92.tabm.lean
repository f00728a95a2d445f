/-! TABLES: the checks of the class; the model's side -/
section TBM
variable {d U T nf ns nr nm nt f r : Nat} {h g : aH} {A o : Nat → Nat} {X : Nat → aH → Prop} {M : Nat → Nat → Int32} {I : Nat → Nat → Int32} {J : Nat → Nat → Int64} {E : Nat → Nat → List Tm} {Cn : Nat → Nat → List Cmp} {a2 a3 a4 a5 : Int32}
theorem c_table {K : Int32 → aH → Prop} (b : base h o) (F : FormA h A o (gI h) E Cn nf) (Sm : SamA h A o (gI h) U nm) (L : listT h A o 38 9 nt 11) (hf : f < nf)
    (w0 : ¬ tbP (gI h) f nm a2 a3 a4 a5 → X 3 (gNew h 200 6)) (w1 : tbP (gI h) f nm a2 a3 a4 a5 → ¬ tbG (gI h) f a2 a3 a4 → X 1 (gNew h 200 6)) (w2 : tbP (gI h) f nm a2 a3 a4 a5 → tbG (gI h) f a2 a3 a4 → ¬ nt < 12 → X 4 (gNew h 200 6))
    (w3 : tbP (gI h) f nm a2 a3 a4 a5 → tbG (gI h) f a2 a3 a4 → nt < 12 → CV 499 260 [vR (gN h), vR (A (bF f)), vI a2, vI a3, vI a4] (gNew h 11 16) (fun h4 => Wp 500 264 (175, [some (vR 8), none, none, none, none, some (vI a5), some (vR (A (bF f))), some (vR (gN h)), some (vI 0), none], [], h4) (RI K X)) (fun _ _ => False)) : CI 500 264 [vR 8, vI (nI f), vI a2, vI a3, vI a4, vI a5] h K X := by
  obtain ⟨⟨t, l, ⟨c1, c2, c3⟩, c4⟩, fm, fb, ak, rr, rr2, rr3⟩ := F.2.2 f hf
  have hN := b.1.1
  have n6 := F.2.1.2
  have hfI : (nI f).toInt = f := ti_n (by omega)
  have q : 0 ≤ (nI f).toInt ∧ (nI f).toInt < nf := by omega
  have hnt : (nI nt).toInt = nt := ti_n (by have := L.2.1.2.1; omega)
  have ci : (nI (cnM (gI h) f)).toInt = (cnM (gI h) f : Nat) := ti_n (by omega)
  have AS : ∀ (a : Int32) (K : Int32 → aH → Prop) (X : Nat → aH → Prop), 0 ≤ a.toInt ∧ a.toInt < cnM (gI h) f → (CI 499 182 [vR (A (bF f)), vI a] h K X ↔ (((soM (gI h) f a.toInt.toNat).toInt = 0 → K 1 h) ∧ (¬ (soM (gI h) f a.toInt.toNat).toInt = 0 → K 0 h))) := fun a K X hs2 => by
    have e : a = nI a.toInt.toNat := ti_nat hs2.1
    have := isAsk_br (d := 498) (K := K) (X := X) t c1 c2 (show a.toInt.toNat < cnM (gI h) f by omega)
    rw [← e, (c4 a.toInt.toNat (by omega)).1] at this
    exact this
  refine m264 ⟨by decide, ck_8 b.1, ?_⟩
  rw [formAt_br b F.1, bz_t q, hfI, Int.toNat_natCast]
  refine ⟨ck_8 b.1, ?_⟩
  rw [needSt_br (kF_0 t) c1 c2]
  refine ⟨fun p2 => ⟨ck_8 b.1, ?_⟩, fun p2 => w0 (fun z => p2 z.1)⟩
  rw [needSt_br (kF_0 t) c1 c2]
  refine ⟨fun p3 => ⟨ck_8 b.1, ?_⟩, fun p3 => w0 (fun z => p3 z.2.1)⟩
  rw [needN_br (kF_0 t) c1 c2]
  refine ⟨fun p4 => ?_, fun p4 => w0 (fun z => p4 z.2.2.1)⟩
  have s42 : (a5.toInt = -1 ∨ (0 ≤ a5.toInt ∧ a5.toInt < nm)) → Wp 500 264 (42, [some (vR 8), none, some (vI a2), some (vI a3), some (vI a4), some (vI a5), some (vR (A (bF f))), none, none, none], [], h) (RI K X) := fun p5 => by
    have PP : tbP (gI h) f nm a2 a3 a4 a5 := ⟨p2, p3, p4, p5⟩
    have s103 : (soM (gI h) f a2.toInt.toNat).toInt = 0 → (soM (gI h) f a3.toInt.toNat).toInt = 0 → ¬ a2.toInt = a3.toInt → (a4.toInt = -1 ∨ ¬ 1 < (soM (gI h) f a4.toInt.toNat).toInt) → Wp 500 264 (103, [some (vR 8), none, some (vI a2), some (vI a3), some (vI a4), some (vI a5), some (vR (A (bF f))), none, none, none], [], h) (RI K X) := fun g2 g3 g4 g5 => by
      have k2 : akA (gI h) f a2 := ⟨p2.1, p2.2, g2⟩
      have k3 : akA (gI h) f a3 := ⟨p3.1, p3.2, g3⟩
      have sp2 := sp_ok F hf k2
      have sp3 := sp_ok F hf k3
      have e2 : (nI (spN (gI h) f a2)).toInt = (spN (gI h) f a2 : Nat) := ti_n (by omega)
      have e3 : (nI (spN (gI h) f a3)).toInt = (spN (gI h) f a3 : Nat) := ti_n (by omega)
      refine w264_103 ⟨eF_0 t, kF_0 t, ?_⟩
      rw [span_br (d := 498) F hf k2, e2]
      refine ⟨fun z => w1 PP (fun y => by have := y.2.2.2.2.1; omega), fun z => ⟨kF_0 t, ?_⟩⟩
      rw [span_br (d := 498) F hf k3, e3]
      refine ⟨fun z2 => w1 PP (fun y => by have := y.2.2.2.2.2; omega), fun z2 => ?_⟩
      have GG : tbG (gI h) f a2 a3 a4 := ⟨g2, g3, g4, g5, by omega, by omega⟩
      simp only [↓forall_eq, ↓inB_iff, gK_hU, gL_hU, gR_hU, gIh, gJh, pI_hU, pJ_hU, hU_hU, uI_app, uJ_app, and_true, true_and, and_false, false_and, and_self, true_implies, false_implies, not_true, not_false_iff, if_true, if_false, eq_self, Nat.reduceLeDiff, Nat.reduceEqDiff, reduceCtorEq, i32c, ti0, ti1, tiM, Int.natCast_nonneg, Int.reduceEq, Int.reduceLE, Int.reduceLT, Int.reduceNeg, tl_i, Int32.reduceToInt, Int64.reduceToInt, tiA, tlM6, Int.toNat_natCast, natc, nI_1, Int.zero_sub, implies_true, not_false_eq_true, ck_8 b.1, cr_8_8 b.1, L.1.1, ↓lsize_br L, hnt]
      refine ⟨fun z3 => ?_, fun z3 => w2 PP GG (by omega)⟩
      rw [r_eq]
      exact ⟨by omega, w3 PP GG (by omega)⟩
    refine w264_42 ⟨eF_0 t, kF_0 t, ?_⟩
    rw [AS a2 _ _ p2]
    refine ⟨fun g2 => ⟨fun z => absurd z (by decide), fun _ => ⟨kF_0 t, ?_⟩⟩, fun g2 => ⟨fun _ => w1 PP (fun y => g2 y.1), fun z => absurd rfl z⟩⟩
    rw [AS a3 _ _ p3]
    refine ⟨fun g3 => ⟨fun z => absurd z (by decide), fun _ => ⟨fun z => w1 PP (fun y => y.2.2.1 z), fun g4 => ⟨fun z => s103 g2 g3 g4 (Or.inl z), fun z => ⟨kF_0 t, ?_⟩⟩⟩⟩, fun g3 => ⟨fun _ => w1 PP (fun y => g3 y.2.1), fun z => absurd rfl z⟩⟩
    have p4' := p4.resolve_left z
    have v4 := (c4 a4.toInt.toNat (by omega)).1
    have n0 : ¬ a4.toInt < 0 := by omega
    have z20 : a4.toInt < 20 := by omega
    refine m258 ⟨eF_0 t, kF_0 t, m141 ?_⟩
    simp only [↓forall_eq, ↓inB_iff, gK_hU, gL_hU, gR_hU, gIh, gJh, pI_hU, pJ_hU, hU_hU, uI_app, uJ_app, and_true, true_and, and_false, false_and, and_self, true_implies, false_implies, not_true, not_false_iff, if_true, if_false, eq_self, Nat.reduceLeDiff, Nat.reduceEqDiff, reduceCtorEq, i32c, ti0, ti1, tiM, Int.natCast_nonneg, Int.reduceEq, Int.reduceLE, Int.reduceLT, Int.reduceNeg, tl_i, Int32.reduceToInt, Int64.reduceToInt, tiA, tlM6, Int.toNat_natCast, natc, nI_1, Int.zero_sub, implies_true, not_false_eq_true, n0, kF_0 t, c1, ci, p4', rF_0_2 t, kF_3 t, lF_3 t, z20, v4]
    exact ⟨fun y => w1 PP (fun y2 => (y2.2.2.2.1.resolve_left z) y), fun y => s103 g2 g3 g4 (Or.inr y)⟩
  by_cases c5 : a5.toInt = -1
  · exact ⟨fun _ => s42 (Or.inl c5), fun z => absurd c5 z⟩
  · refine ⟨fun z => absurd z c5, fun _ => ⟨ck_8 b.1, ?_⟩⟩
    rw [sampleAt_br b Sm.1]
    exact ⟨fun p5 => s42 (Or.inr p5), fun p5 => w0 (fun z => p5 (z.2.2.2.resolve_left c5))⟩
/-- a new table: the model's cells -/
def mtF (I I4 : Nat → Nat → Int32) (nt R C : Nat) (ac : (Nat → Int32) × (Nat → Int32) × (Nat → Int32)) : Prop := (∀ a, a ≠ 44 → a ≠ 90 → a ≠ 91 → a ≠ 92 → a ≠ 93 → a ≠ 94 → a ≠ 96 → a ≠ 97 → a ≠ 98 → I4 a = I a) ∧ (∀ j, j ≠ 0 → j ≠ 69 → I4 44 j = I 44 j) ∧ (∀ j, j ≠ nt → I4 90 j = I 90 j ∧ I4 91 j = I 91 j ∧ I4 96 j = I 96 j ∧ I4 97 j = I 97 j ∧ I4 98 j = I 98 j) ∧ (I4 90 nt = nI R ∧ I4 91 nt = nI C ∧ I4 96 nt = 0 ∧ I4 97 nt = 0 ∧ I4 98 nt = 0) ∧ (∀ j, j < 12 * nt ∨ 12 * nt + 12 ≤ j → I4 92 j = I 92 j ∧ I4 93 j = I 93 j ∧ I4 94 j = I 94 j) ∧ ∀ k, k < 12 → I4 92 (12 * nt + k) = ac.1 k ∧ I4 93 (12 * nt + k) = ac.2.1 k ∧ I4 94 (12 * nt + k) = ac.2.2 k
abbrev c323 (hh : aH) (f nt p : Nat) (a2 a3 a4 a5 : Int32) : aCf := (323, [some (vR 44), some (vI (nI f)), some (vI a2), some (vI a3), some (vI a4), some (vI a5), some (vI (nI (20 * f))), some (vI (nI nt)), some (vI (nI p)), none, none, none, none, none], [], hh)
abbrev c449 (hh : aH) (f nt p : Nat) (a2 a3 a4 a5 l9 l10 l11 s0 : Int32) : aCf := (449, [some (vR 44), some (vI (nI f)), some (vI a2), some (vI a3), some (vI a4), some (vI a5), some (vI (nI (20 * f))), some (vI (nI nt)), some (vI (nI p)), some (vI l9), some (vI l10), some (vI l11), none, none], [vI s0], hh)
/-- the records, one by one -/
theorem m_recs {K : Int32 → aH → Prop} {I0 : Nat → Nat → Int32} (mf : MF g) (F : FormA h A o (gI h) E Cn nf) (Rg : RegA h A o (gI h) U T) (Rc : RecA h A o (gI h) nf ns nr) (hs6 : ns ≤ 60) (hu : ∀ k, k < ns → 0 ≤ (gI h 68 k).toInt ∧ (gI h 68 k).toInt < U) (n12 : nm ≤ 12) (t12 : nt < 12) (hf : f < nf) (P : tbP (gI h) f nm a2 a3 a4 a5) (G : tbG (gI h) f a2 a3 a4) (e0 : ∀ x, 45 ≤ x → x < 90 → I0 x = gI h x) (e4 : ∀ j, j ≠ 0 → I0 44 j = gI h 44 j)
    (kk : ∀ I4, mtF I0 I4 nt (spN (gI h) f a2) (spN (gI h) f a3) (tAc (gI h) f a2 a3 a4 a5 nr) → I4 44 69 = I0 44 69 → I4 44 0 = I0 44 0 → Wp 500 266 (c323 (hU g I4 J) f nt nr a2 a3 a4 a5) (RI K X)) :
    ∀ (n p : Nat) (I : Nat → Nat → Int32), p + n = nr → mtF I0 I nt (spN (gI h) f a2) (spN (gI h) f a3) (tAc (gI h) f a2 a3 a4 a5 p) → I 44 = I0 44 → Wp 500 266 (c323 (hU g I J) f nt p a2 a3 a4 a5) (RI K X) := by
  obtain ⟨P2, P3, P4, P5⟩ := P
  obtain ⟨G2, G3, G4, G5, G6, G7⟩ := G
  obtain ⟨u9, t9⟩ := RegA_le Rg
  have n6 := F.2.1.2
  have h60 := Rc.2.1.2
  have k2 : akA (gI h) f a2 := ⟨P2.1, P2.2, G2⟩
  have k3 : akA (gI h) f a3 := ⟨P3.1, P3.2, G3⟩
  have fm := (F.2.2 f hf).2.1
  have c20 := fm.1.2.1
  have fr9 := (F.2.2 f hf).2.2.2.2
  have hnr : (nI nr).toInt = nr := ti_n (by omega)
  have hfI : (nI f).toInt = f := ti_n (by omega)
  have m12 : spN (gI h) f a2 * spN (gI h) f a3 ≤ 4 * 3 := Nat.mul_le_mul G6 G7
  have htI : (nI nt).toInt = nt := ti_n (by omega)
  have zt : (nt : Int) < 12 := by omega
  intro n
  induction n with
  | zero =>
    intro p I hp mt q
    have hpn : p = nr := by omega
    subst hpn
    exact kk I mt (by rw [q]) (by rw [q])
  | succ n ih =>
    intro p I hp mt q
    have hpI : (nI p).toInt = p := ti_n (by omega)
    have zp : (p : Int) < nr := by omega
    have zp60 : (p : Int) < 60 := by omega
    have I9 : ∀ x, 45 ≤ x → x < 90 → I x = gI h x := fun x h1 h2 => by rw [mt.1 x (by omega) (by omega) (by omega) (by omega) (by omega) (by omega) (by omega) (by omega) (by omega)]; exact e0 x h1 h2
    have tfr : tFr (gI h) I := fun c h1 h2 => I9 c (by omega) (by omega)
    have i53 : I 44 53 = nI nr := by rw [q, e4 53 (by decide)]; exact Rc.2.1.1
    have FO := fun (K : Int32 → aH → Prop) X => @formOf_br 499 nf ns nr p h g A o X (gI h) I J K mf Rc (by omega) hs6 (I9 78 (by decide) (by decide)) (I9 67 (by decide) (by decide))
    obtain ⟨-, ⟨r2, r3, r4, r5⟩, ⟨-, -, -⟩, r9, r10⟩ := Rc.2.2 p (by omega)
    have un := hu _ r3
    have hfpI : (nI (fR (gI h) p)).toInt = (fR (gI h) p : Nat) := ti_n (by omega)
    have feq : ((nI (fR (gI h) p)).toInt = (nI f).toInt) ↔ fR (gI h) p = f := by rw [hfpI, hfI]; omega
    have RC : rcM g (gI h) J nr := ⟨mf, h60, fun d I K X k hk s => formOf_br mf Rc hk hs6 (s 78 (by decide) (by decide)) (s 67 (by decide) (by decide))⟩
    have ix : ∀ a : Int32, 0 ≤ a.toInt → a.toInt < 20 → (20 : Int32) * nI p + a = nI (20 * p + a.toInt.toNat) ∧ (nI (20 * p + a.toInt.toNat)).toInt = ((20 * p + a.toInt.toNat : Nat) : Int) ∧ ((20 * p + a.toInt.toNat : Nat) : Int) < 1200 ∧ I 79 (20 * p + a.toInt.toNat) = tIt (gI h) p a := fun a h1 h2 => by
      have e : a = nI a.toInt.toNat := ti_nat h1
      refine ⟨by rw [e, show (20 : Int32) = nI 20 from rfl, nI_mul, nI_add, ← e], ti_n (by omega), by omega, ?_⟩
      rw [I9 79 (by decide) (by decide)]; unfold tIt itM; rw [if_pos (by omega)]
    obtain ⟨x1, x2, x3, x4⟩ := ix a2 P2.1 (by omega)
    obtain ⟨y1, y2, y3, y4⟩ := ix a3 P3.1 (by omega)
    -- on, with or without the record
    have skip : tbK (gI h) f a2 a3 a4 a5 p = false → Wp 500 266 (c323 (hU g I J) f nt (p + 1) a2 a3 a4 a5) (RI K X) := fun c => by
      refine ih (p + 1) I (by omega) ?_ q
      rw [tAc, if_neg (by rw [c]; decide)]; exact mt
    have rest : ∀ fl : Bool, fl = (decide (fR (gI h) p = f) && (tSam (gI h) a5 p && decide (cBr (gI h) f (itM (gI h) p) (nrM (gI h) f) = 0))) → Wp 500 266 (c449 (hU g I J) f nt p a2 a3 a4 a5 (bI fl) (tIt (gI h) p a2) (tIt (gI h) p a3) (tS0 (gI h) a4 p)) (RI K X) := fun fl hfl => by
      have eqK : tbK (gI h) f a2 a3 a4 a5 p = (fl && (thr (tIt (gI h) p a2) && (thr (tIt (gI h) p a3) && decide (0 ≤ (tS0 (gI h) a4 p).toInt)))) := by
        rw [hfl]; unfold tbK tTk
        cases decide (fR (gI h) p = f) <;> cases tSam (gI h) a5 p <;> cases decide (cBr (gI h) f (itM (gI h) p) (nrM (gI h) f) = 0) <;> cases thr (tIt (gI h) p a2) <;> cases thr (tIt (gI h) p a3) <;> cases decide (0 ≤ (tS0 (gI h) a4 p).toInt) <;> rfl
      have nt' : ∀ x : Int32, x.toInt = -2000000 → thr x = false := fun x hx => by unfold thr; rw [decide_eq_true hx]; rfl
      have yt : ∀ x : Int32, ¬ x.toInt = -2000000 → thr x = true := fun x hx => by unfold thr; rw [decide_eq_false hx]; rfl
      have b56 : ∀ a : Int32, 0 ≤ a.toInt → a.toInt < 20 → nI (20 * f) + a = nI (20 * f + a.toInt.toNat) ∧ (nI (20 * f + a.toInt.toNat)).toInt = ((20 * f + a.toInt.toNat : Nat) : Int) ∧ ((20 * f + a.toInt.toNat : Nat) : Int) < 120 := fun a h1 h2 => by
        have e : a = nI a.toInt.toNat := ti_nat h1
        exact ⟨by rw [e, nI_add, ← e], ti_n (by omega), by omega⟩
      obtain ⟨u1, u2, u3⟩ := b56 a2 P2.1 (by omega)
      obtain ⟨v1, v2, v3⟩ := b56 a3 P3.1 (by omega)
      have i56 := I9 56 (by decide) (by decide)
      have i91 : I 91 nt = nI (spN (gI h) f a3) := mt.2.2.2.1.2.1
      refine w266_449 ?_
      simp only [↓forall_eq, ↓inB_iff, gK_hU, gL_hU, gR_hU, gIh, gJh, pI_hU, pJ_hU, hU_hU, uI_app, uJ_app, and_true, true_and, and_false, false_and, and_self, true_implies, false_implies, not_true, not_false_iff, if_true, if_false, eq_self, Nat.reduceLeDiff, Nat.reduceEqDiff, reduceCtorEq, i32c, ti0, ti1, tiM, Int.natCast_nonneg, Int.reduceEq, Int.reduceLE, Int.reduceLT, Int.reduceNeg, tl_i, Int32.reduceToInt, Int64.reduceToInt, tiA, tlM6, Int.toNat_natCast, natc, nI_1, Int.zero_sub, implies_true, not_false_eq_true, mf.1, mr_16 mf, mk_54 mf, ml_54 mf, mr_18 mf, mk_56 mf, ml_56 mf, mr_19 mf, mk_57 mf, ml_57 mf, mr_40 mf, mk_68 mf, ml_68 mf, mr_54 mf, mk_78 mf, ml_78 mf, mr_55 mf, mk_79 mf, ml_79 mf, mr_67 mf, mk_88 mf, ml_88 mf, mr_70 mf, mk_90 mf, ml_90 mf, mr_71 mf, mk_91 mf, ml_91 mf, mr_72 mf, mk_92 mf, ml_92 mf, mr_73 mf, mk_93 mf, ml_93 mf, mr_74 mf, mk_94 mf, ml_94 mf, mr_76 mf, mk_96 mf, ml_96 mf, mr_77 mf, mk_97 mf, ml_97 mf, mr_78 mf, mk_98 mf, ml_98 mf, bI0, u1, u2, u3, v1, v2, v3, i56, htI, zt, i91]
      refine ⟨fun c => skip ?_, fun c => ⟨fun c2 => skip ?_, fun c2 => ⟨fun c3 => skip ?_, fun c3 => ⟨fun c4 => skip ?_, fun c4 => ?_⟩⟩⟩⟩
      · rw [eqK, c]; rfl
      · rw [eqK, nt' _ c2, Bool.false_and, Bool.and_false]
      · rw [eqK, nt' _ c3, Bool.false_and, Bool.and_false, Bool.and_false]
      · rw [eqK, decide_eq_false (by omega), Bool.and_false, Bool.and_false, Bool.and_false]
      · have flT : fl = true := bnf c
        have ok : tbK (gI h) f a2 a3 a4 a5 p = true := by rw [eqK, flT, yt _ c2, yt _ c3, decide_eq_true (show 0 ≤ (tS0 (gI h) a4 p).toInt by omega)]; rfl
        have hfr : fR (gI h) p = f := by
          rw [flT] at hfl
          have h9 := hfl.symm
          simp only [Bool.and_eq_true, decide_eq_true_eq] at h9
          exact h9.1
        obtain ⟨kx, vx⟩ := ix_ok F Rc hf (by omega) hfr k2 k3 G7 G6 (yt _ c2) (yt _ c3)
        have reas : (12 : Int32) * nI nt + (tIt (gI h) p a2 - gI h 56 (20 * f + a2.toInt.toNat)) * nI (spN (gI h) f a3) + tIt (gI h) p a3 - gI h 56 (20 * f + a3.toInt.toNat) = nI (12 * nt + tIx (gI h) f a2 a3 p) := by
          rw [← nI_add, ← vx, show nI (12 * nt) = (12 : Int32) * nI nt from (nI_mul 12 nt).symm]
          simp only [Int32.sub_eq_add_neg, Int32.add_assoc]
        have zI : (nI (12 * nt + tIx (gI h) f a2 a3 p)).toInt = ((12 * nt + tIx (gI h) f a2 a3 p : Nat) : Int) := ti_n (by omega)
        have z144 : ((12 * nt + tIx (gI h) f a2 a3 p : Nat) : Int) < 144 := by omega
        obtain ⟨o1, o2, o3⟩ := mt.2.2.2.2.2 (tIx (gI h) f a2 a3 p) (by omega)
        have upd : ∀ y : Int32, y = (if ((tAc (gI h) f a2 a3 a4 a5 p).2.2 (tIx (gI h) f a2 a3 p)).toInt < (tS0 (gI h) a4 p).toInt then tS0 (gI h) a4 p else (tAc (gI h) f a2 a3 a4 a5 p).2.2 (tIx (gI h) f a2 a3 p)) → Wp 500 266 (c323 (hU g (uI (uI (uI I 92 (12 * nt + tIx (gI h) f a2 a3 p) ((tAc (gI h) f a2 a3 a4 a5 p).1 (tIx (gI h) f a2 a3 p) + tS0 (gI h) a4 p)) 93 (12 * nt + tIx (gI h) f a2 a3 p) ((tAc (gI h) f a2 a3 a4 a5 p).2.1 (tIx (gI h) f a2 a3 p) + 1)) 94 (12 * nt + tIx (gI h) f a2 a3 p) y) J) f nt (p + 1) a2 a3 a4 a5) (RI K X) := fun y hy => by
          obtain ⟨s1, s2, s3, s4, s5, s6⟩ := mt
          refine ih (p + 1) _ (by omega) ⟨fun a z1 z2 z3 z4 z5 z6 z7 z8 z9 => by rw [uI_ne _ _ _ z6, uI_ne _ _ _ z5, uI_ne _ _ _ z4]; exact s1 a z1 z2 z3 z4 z5 z6 z7 z8 z9, fun j z1 z2 => by rw [uI_ne _ _ _ (by decide), uI_ne _ _ _ (by decide), uI_ne _ _ _ (by decide)]; exact s2 j z1 z2, fun j hj => by simp only [uI_ne, ne_eq, Nat.reduceEqDiff, not_false_eq_true]; exact s3 j hj, by simp only [uI_ne, ne_eq, Nat.reduceEqDiff, not_false_eq_true]; exact s4, fun j hj => ?_, fun k hk => ?_⟩ (by rw [uI_ne _ _ _ (by decide), uI_ne _ _ _ (by decide), uI_ne _ _ _ (by decide)]; exact q)
          · have := s5 j hj
            rw [uI_app, uI_app, uI_app, uI_app, uI_app, uI_app, uI_app, uI_app, uI_app]
            have nj : ¬ j = 12 * nt + tIx (gI h) f a2 a3 p := by omega
            simp only [nj, and_false, if_false]; exact this
          · obtain ⟨w1, w2, w3⟩ := s6 k hk
            rw [tAc, if_pos ok]
            dsimp only
            unfold upG
            rw [hy]
            simp only [uI_app, Nat.reduceEqDiff, false_and, true_and, if_false]
            by_cases e : k = tIx (gI h) f a2 a3 p
            · subst e; simp only [if_true, and_self]
            · have e' : ¬ 12 * nt + k = 12 * nt + tIx (gI h) f a2 a3 p := by omega
              simp only [e, e', if_false]; exact ⟨w1, w2, w3⟩
        rw [reas]
        simp only [↓forall_eq, ↓inB_iff, gK_hU, gL_hU, gR_hU, gIh, gJh, pI_hU, pJ_hU, hU_hU, uI_app, uJ_app, and_true, true_and, and_false, false_and, and_self, true_implies, false_implies, not_true, not_false_iff, if_true, if_false, eq_self, Nat.reduceLeDiff, Nat.reduceEqDiff, reduceCtorEq, i32c, ti0, ti1, tiM, Int.natCast_nonneg, Int.reduceEq, Int.reduceLE, Int.reduceLT, Int.reduceNeg, tl_i, Int32.reduceToInt, Int64.reduceToInt, tiA, tlM6, Int.toNat_natCast, natc, nI_1, Int.zero_sub, implies_true, not_false_eq_true, mf.1, mr_16 mf, mk_54 mf, ml_54 mf, mr_18 mf, mk_56 mf, ml_56 mf, mr_19 mf, mk_57 mf, ml_57 mf, mr_40 mf, mk_68 mf, ml_68 mf, mr_54 mf, mk_78 mf, ml_78 mf, mr_55 mf, mk_79 mf, ml_79 mf, mr_67 mf, mk_88 mf, ml_88 mf, mr_70 mf, mk_90 mf, ml_90 mf, mr_71 mf, mk_91 mf, ml_91 mf, mr_72 mf, mk_92 mf, ml_92 mf, mr_73 mf, mk_93 mf, ml_93 mf, mr_74 mf, mk_94 mf, ml_94 mf, mr_76 mf, mk_96 mf, ml_96 mf, mr_77 mf, mk_97 mf, ml_97 mf, mr_78 mf, mk_98 mf, ml_98 mf, zI, z144, o1, o2, o3]
        exact ⟨fun c5 => upd _ (by rw [if_pos c5]), fun c5 => upd _ (by rw [if_neg c5])⟩
    have fin : ∀ fl : Bool, fl = (decide (fR (gI h) p = f) && (tSam (gI h) a5 p && decide (cBr (gI h) f (itM (gI h) p) (nrM (gI h) f) = 0))) → (a4.toInt = -1 → Wp 500 266 (c449 (hU g I J) f nt p a2 a3 a4 a5 (bI fl) (tIt (gI h) p a2) (tIt (gI h) p a3) 1) (RI K X)) ∧ (¬ a4.toInt = -1 → (0 ≤ ((20 : Int32) * nI p + a4).toInt ∧ ((20 : Int32) * nI p + a4).toInt < 1200 ∧ Wp 500 266 (c449 (hU g I J) f nt p a2 a3 a4 a5 (bI fl) (tIt (gI h) p a2) (tIt (gI h) p a3) (I 79 ((20 : Int32) * nI p + a4).toInt.toNat)) (RI K X))) := fun fl hfl => by
      have rs := rest fl hfl
      unfold tS0 at rs
      refine ⟨fun c => by rw [if_pos c] at rs; exact rs, fun c => ?_⟩
      rw [if_neg c] at rs
      have p4 := P4.resolve_left c
      obtain ⟨z1, z2, z3, z4⟩ := ix a4 p4.1 (by omega)
      rw [z1, z2]
      refine ⟨by omega, z3, ?_⟩
      rw [Int.toNat_natCast, z4]; exact rs
    refine w266_323 ?_
    simp only [↓forall_eq, ↓inB_iff, gK_hU, gL_hU, gR_hU, gIh, gJh, pI_hU, pJ_hU, hU_hU, uI_app, uJ_app, and_true, true_and, and_false, false_and, and_self, true_implies, false_implies, not_true, not_false_iff, if_true, if_false, eq_self, Nat.reduceLeDiff, Nat.reduceEqDiff, reduceCtorEq, i32c, ti0, ti1, tiM, Int.natCast_nonneg, Int.reduceEq, Int.reduceLE, Int.reduceLT, Int.reduceNeg, tl_i, Int32.reduceToInt, Int64.reduceToInt, tiA, tlM6, Int.toNat_natCast, natc, nI_1, Int.zero_sub, implies_true, not_false_eq_true, mf.1, mr_16 mf, mk_54 mf, ml_54 mf, mr_18 mf, mk_56 mf, ml_56 mf, mr_19 mf, mk_57 mf, ml_57 mf, mr_40 mf, mk_68 mf, ml_68 mf, mr_54 mf, mk_78 mf, ml_78 mf, mr_55 mf, mk_79 mf, ml_79 mf, mr_67 mf, mk_88 mf, ml_88 mf, mr_70 mf, mk_90 mf, ml_90 mf, mr_71 mf, mk_91 mf, ml_91 mf, mr_72 mf, mk_92 mf, ml_92 mf, mr_73 mf, mk_93 mf, ml_93 mf, mr_74 mf, mk_94 mf, ml_94 mf, mr_76 mf, mk_96 mf, ml_96 mf, mr_77 mf, mk_97 mf, ml_97 mf, mr_78 mf, mk_98 mf, ml_98 mf, i53, hnr, hpI, zp, ↓FO, feq]
    refine ⟨fun cf => ?_, fun cf => ?_⟩
    · have CB := fun (K : Int32 → aH → Prop) X => clean_br (d := 498) (I := I) (K := K) (X := X) RC fr9 (by omega) (show p < nr by omega) cf c20 (bnd_le (by rw [cf] at r10; exact r10.1) c20) tfr
      rw [CB]
      simp only [↓forall_eq, ↓inB_iff, gK_hU, gL_hU, gR_hU, gIh, gJh, pI_hU, pJ_hU, hU_hU, uI_app, uJ_app, and_true, true_and, and_false, false_and, and_self, true_implies, false_implies, not_true, not_false_iff, if_true, if_false, eq_self, Nat.reduceLeDiff, Nat.reduceEqDiff, reduceCtorEq, i32c, ti0, ti1, tiM, Int.natCast_nonneg, Int.reduceEq, Int.reduceLE, Int.reduceLT, Int.reduceNeg, tl_i, Int32.reduceToInt, Int64.reduceToInt, tiA, tlM6, Int.toNat_natCast, natc, nI_1, Int.zero_sub, implies_true, not_false_eq_true, mf.1, mr_16 mf, mk_54 mf, ml_54 mf, mr_18 mf, mk_56 mf, ml_56 mf, mr_19 mf, mk_57 mf, ml_57 mf, mr_40 mf, mk_68 mf, ml_68 mf, mr_54 mf, mk_78 mf, ml_78 mf, mr_55 mf, mk_79 mf, ml_79 mf, mr_67 mf, mk_88 mf, ml_88 mf, mr_70 mf, mk_90 mf, ml_90 mf, mr_71 mf, mk_91 mf, ml_91 mf, mr_72 mf, mk_92 mf, ml_92 mf, mr_73 mf, mk_93 mf, ml_93 mf, mr_74 mf, mk_94 mf, ml_94 mf, mr_76 mf, mk_96 mf, ml_96 mf, mr_77 mf, mk_97 mf, ml_97 mf, mr_78 mf, mk_98 mf, ml_98 mf, bI0, x1, x2, x3, x4, y1, y2, y3, y4]
      refine ⟨fun cc => ?_, fun cc => ⟨fun c5 => ?_, fun c5 => ?_⟩⟩
      · exact fin false (by rw [cc, Bool.and_false, Bool.and_false])
      · exact fin true (by unfold tSam; rw [decide_eq_true c5, bnf cc, decide_eq_true cf]; rfl)
      · have P5' := P5.resolve_left c5
        have i78 : I 78 p = nI (sR (gI h) p) := by rw [I9 78 (by decide) (by decide)]; exact r2
        have hsI : (nI (sR (gI h) p)).toInt = (sR (gI h) p : Nat) := ti_n (by omega)
        have zs : ((sR (gI h) p : Nat) : Int) < 60 := by omega
        have i68 : I 68 (sR (gI h) p) = gI h 68 (sR (gI h) p) := by rw [I9 68 (by decide) (by decide)]
        have i1 : I 44 1 = gI h 44 1 := by rw [q, e4 1 (by decide)]
        have LB := fun (K : Int32 → aH → Prop) X => lastm_br (d := 499) (g := g) (J := J) (I := I) (x := gI h 68 (sR (gI h) p)) (kn := gI h 44 1 / 1440) (M := gI h) (K := K) (X := X) mf Rg.1.1 u9 Rg.2.2.2.2.2.1 (by rw [q, e4 2 (by decide)]) (I9 45 (by decide) (by decide)) (I9 46 (by decide) (by decide)) un.1 un.2
        have ll := lastM_lt (M := gI h) (kn := (gI h 44 1 / 1440).toInt) Rg.2.2.2.2.2.1 (show (gI h 68 (sR (gI h) p)).toInt.toNat < U by omega)
        have e5 : a5 = nI a5.toInt.toNat := ti_nat P5'.1
        have j1 : (100 : Int32) * a5 + nI (lastM (gI h) (gI h 44 1 / 1440).toInt (gI h 68 (sR (gI h) p)).toInt.toNat) = nI (100 * a5.toInt.toNat + lastM (gI h) (gI h 44 1 / 1440).toInt (gI h 68 (sR (gI h) p)).toInt.toNat) := by rw [e5, show (100 : Int32) = nI 100 from rfl, nI_mul, nI_add, ← e5]
        have j2 : (nI (100 * a5.toInt.toNat + lastM (gI h) (gI h 44 1 / 1440).toInt (gI h 68 (sR (gI h) p)).toInt.toNat)).toInt = ((100 * a5.toInt.toNat + lastM (gI h) (gI h 44 1 / 1440).toInt (gI h 68 (sR (gI h) p)).toInt.toNat : Nat) : Int) := ti_n (by omega)
        have j3 : ((100 * a5.toInt.toNat + lastM (gI h) (gI h 44 1 / 1440).toInt (gI h 68 (sR (gI h) p)).toInt.toNat : Nat) : Int) < 1200 := by omega
        have i88 := I9 88 (by decide) (by decide)
        simp only [↓forall_eq, ↓inB_iff, gK_hU, gL_hU, gR_hU, gIh, gJh, pI_hU, pJ_hU, hU_hU, uI_app, uJ_app, and_true, true_and, and_false, false_and, and_self, true_implies, false_implies, not_true, not_false_iff, if_true, if_false, eq_self, Nat.reduceLeDiff, Nat.reduceEqDiff, reduceCtorEq, i32c, ti0, ti1, tiM, Int.natCast_nonneg, Int.reduceEq, Int.reduceLE, Int.reduceLT, Int.reduceNeg, tl_i, Int32.reduceToInt, Int64.reduceToInt, tiA, tlM6, Int.toNat_natCast, natc, nI_1, Int.zero_sub, implies_true, not_false_eq_true, mf.1, mr_16 mf, mk_54 mf, ml_54 mf, mr_18 mf, mk_56 mf, ml_56 mf, mr_19 mf, mk_57 mf, ml_57 mf, mr_40 mf, mk_68 mf, ml_68 mf, mr_54 mf, mk_78 mf, ml_78 mf, mr_55 mf, mk_79 mf, ml_79 mf, mr_67 mf, mk_88 mf, ml_88 mf, mr_70 mf, mk_90 mf, ml_90 mf, mr_71 mf, mk_91 mf, ml_91 mf, mr_72 mf, mk_92 mf, ml_92 mf, mr_73 mf, mk_93 mf, ml_93 mf, mr_74 mf, mk_94 mf, ml_94 mf, mr_76 mf, mk_96 mf, ml_96 mf, mr_77 mf, mk_97 mf, ml_97 mf, mr_78 mf, mk_98 mf, ml_98 mf, zp60, i78, hsI, zs, i68, ↓today_br mf, i1, ↓LB, j1, j2, j3, i88, x1, x2, x3, x4, y1, y2, y3, y4]
        have sv : tSam (gI h) a5 p = dB (gI h) a5.toInt.toNat (lastM (gI h) (gI h 44 1 / 1440).toInt (gI h 68 (sR (gI h) p)).toInt.toNat) := by unfold tSam; rw [decide_eq_false c5, Bool.false_or]
        refine ⟨fun c6 => fin false ?_, fun c6 => fin true ?_⟩
        · rw [sv]; unfold dB; rw [decide_eq_true c6]; simp
        · rw [sv, bnf cc, decide_eq_true cf]; unfold dB; rw [decide_eq_false c6]; rfl
    · simp only [↓forall_eq, ↓inB_iff, gK_hU, gL_hU, gR_hU, gIh, gJh, pI_hU, pJ_hU, hU_hU, uI_app, uJ_app, and_true, true_and, and_false, false_and, and_self, true_implies, false_implies, not_true, not_false_iff, if_true, if_false, eq_self, Nat.reduceLeDiff, Nat.reduceEqDiff, reduceCtorEq, i32c, ti0, ti1, tiM, Int.natCast_nonneg, Int.reduceEq, Int.reduceLE, Int.reduceLT, Int.reduceNeg, tl_i, Int32.reduceToInt, Int64.reduceToInt, tiA, tlM6, Int.toNat_natCast, natc, nI_1, Int.zero_sub, implies_true, not_false_eq_true, mf.1, mr_16 mf, mk_54 mf, ml_54 mf, mr_18 mf, mk_56 mf, ml_56 mf, mr_19 mf, mk_57 mf, ml_57 mf, mr_40 mf, mk_68 mf, ml_68 mf, mr_54 mf, mk_78 mf, ml_78 mf, mr_55 mf, mk_79 mf, ml_79 mf, mr_67 mf, mk_88 mf, ml_88 mf, mr_70 mf, mk_90 mf, ml_90 mf, mr_71 mf, mk_91 mf, ml_91 mf, mr_72 mf, mk_92 mf, ml_92 mf, mr_73 mf, mk_93 mf, ml_93 mf, mr_74 mf, mk_94 mf, ml_94 mf, mr_76 mf, mk_96 mf, ml_96 mf, mr_77 mf, mk_97 mf, ml_97 mf, mr_78 mf, mk_98 mf, ml_98 mf, x1, x2, x3, x4, y1, y2, y3, y4]
      exact fin false (by rw [decide_eq_false cf, Bool.false_and])
theorem m_table {K : Int32 → aH → Prop} (mf : MF g) (F : FormA h A o (gI h) E Cn nf) (Rg : RegA h A o (gI h) U T) (Rc : RecA h A o (gI h) nf ns nr) (hs6 : ns ≤ 60) (hu : ∀ k, k < ns → 0 ≤ (gI h 68 k).toInt ∧ (gI h 68 k).toInt < U) (h64 : gI h 44 64 = nI nm) (n12 : nm ≤ 12) (h69 : gI h 44 69 = nI nt) (t12 : nt ≤ 12) (hf : f < nf) (e9 : ∀ x, 44 ≤ x → x < 107 → I x = gI h x)
    (w0 : ¬ tbP (gI h) f nm a2 a3 a4 a5 → K 0 (hU g (uI (uI I 44 0 0) 44 0 1) J)) (w1 : tbP (gI h) f nm a2 a3 a4 a5 → ¬ tbG (gI h) f a2 a3 a4 → K 0 (hU g (uI (uI I 44 0 0) 44 0 2) J)) (w2 : tbP (gI h) f nm a2 a3 a4 a5 → tbG (gI h) f a2 a3 a4 → ¬ nt < 12 → K 0 (hU g (uI (uI I 44 0 0) 44 0 3) J))
    (w3 : tbP (gI h) f nm a2 a3 a4 a5 → tbG (gI h) f a2 a3 a4 → nt < 12 → ∀ I4, mtF (uI I 44 0 0) I4 nt (spN (gI h) f a2) (spN (gI h) f a3) (tAc (gI h) f a2 a3 a4 a5 nr) → I4 44 69 = nI (nt + 1) → I4 44 0 = 0 → K (nI nt) (hU g I4 J)) : CI 500 266 [vR 44, vI (nI f), vI a2, vI a3, vI a4, vI a5] (hU g I J) K X := by
  have n6 := F.2.1.2
  have hnf := F.2.1.1
  have hc := cn_of F
  have h60 := Rc.2.1.2
  obtain ⟨⟨t, l, ⟨c1, c2, c3⟩, c4⟩, fm, fb, -⟩ := F.2.2 f hf
  have hn : (nI nf).toInt = nf := ti_n (by omega)
  have hfI : (nI f).toInt = f := ti_n (by omega)
  have q : 0 ≤ (f : Int) ∧ (f : Int) < nf := by omega
  have hmI : (nI nm).toInt = nm := ti_n (by omega)
  have htI : (nI nt).toInt = nt := ti_n (by omega)
  have hnr : (nI nr).toInt = nr := ti_n (by omega)
  have e44 := e9 44 (by decide) (by decide)
  have u44 : ∀ j, j ≠ 0 → uI I 44 0 0 44 j = gI h 44 j := fun j hj => by rw [uI_nj _ _ _ _ hj, e44]
  have ST : ∀ (a : Int32) (K : Int32 → aH → Prop) (X : Nat → aH → Prop), (CI 499 125 [vR 44, vI (nI f), vI a] (hU g (uI I 44 0 0) J) K X ↔ ((0 ≤ a.toInt ∧ a.toInt < cnM (gI h) f → K 1 (hU g (uI I 44 0 0) J)) ∧ (¬ (0 ≤ a.toInt ∧ a.toInt < cnM (gI h) f) → K 0 (hU g (uI I 44 0 0) J)))) := fun a K X => by
    rw [isStOf_br (d := 497) (M := gI h) mf hnf n6 hc (u44 14 (by decide)) (by rw [uI_ne _ _ _ (by decide), e9 53 (by decide) (by decide)])]
    have : isSt (gI h) nf (nI f) a ↔ (0 ≤ a.toInt ∧ a.toInt < cnM (gI h) f) := by
      unfold isSt
      rw [hfI, Int.toNat_natCast]
      exact ⟨fun z => z.2, fun z => ⟨q, z⟩⟩
    rw [this]
  have ix : ∀ a : Int32, 0 ≤ a.toInt → a.toInt < 20 → (20 : Int32) * nI f + a = nI (20 * f + a.toInt.toNat) ∧ nI (20 * f) + a = nI (20 * f + a.toInt.toNat) ∧ (nI (20 * f + a.toInt.toNat)).toInt = ((20 * f + a.toInt.toNat : Nat) : Int) ∧ ((20 * f + a.toInt.toNat : Nat) : Int) < 120 ∧ gI h 54 (20 * f + a.toInt.toNat) = soM (gI h) f a.toInt.toNat := fun a h1 h2 => by
    have e : a = nI a.toInt.toNat := ti_nat h1
    refine ⟨by rw [e, show (20 : Int32) = nI 20 from rfl, nI_mul, nI_add, ← e], by rw [e, nI_add, ← e], ti_n (by omega), by omega, ?_⟩
    unfold soM; rw [if_pos (by omega)]
  have e54 := e9 54 (by decide) (by decide)
  have AK : ∀ (a : Int32) (K : Int32 → aH → Prop) (X : Nat → aH → Prop), 0 ≤ a.toInt ∧ a.toInt < cnM (gI h) f → (CI 499 186 [vR 44, vI (nI f), vI a] (hU g (uI I 44 0 0) J) K X ↔ (((soM (gI h) f a.toInt.toNat).toInt = 0 → K 1 (hU g (uI I 44 0 0) J)) ∧ (¬ (soM (gI h) f a.toInt.toNat).toInt = 0 → K 0 (hU g (uI I 44 0 0) J)))) := fun a K X hs2 => by
    obtain ⟨z1, z2, z3, z4, z5⟩ := ix a hs2.1 (by omega)
    have H : ∀ (K : Int32 → aH → Prop) (X : Nat → aH → Prop), (((soM (gI h) f a.toInt.toNat).toInt = 0 → K 1 (hU g (uI I 44 0 0) J)) ∧ (¬ (soM (gI h) f a.toInt.toNat).toInt = 0 → K 0 (hU g (uI I 44 0 0) J))) → CI 499 186 [vR 44, vI (nI f), vI a] (hU g (uI I 44 0 0) J) K X := fun K X w => by
      refine m186 ?_
      simp only [↓forall_eq, ↓inB_iff, gK_hU, gL_hU, gR_hU, gIh, gJh, pI_hU, pJ_hU, hU_hU, uI_app, uJ_app, and_true, true_and, and_false, false_and, and_self, true_implies, false_implies, not_true, not_false_iff, if_true, if_false, eq_self, Nat.reduceLeDiff, Nat.reduceEqDiff, reduceCtorEq, i32c, ti0, ti1, tiM, Int.natCast_nonneg, Int.reduceEq, Int.reduceLE, Int.reduceLT, Int.reduceNeg, tl_i, Int32.reduceToInt, Int64.reduceToInt, tiA, tlM6, Int.toNat_natCast, natc, nI_1, Int.zero_sub, implies_true, not_false_eq_true, mf.1, mr_16 mf, mk_54 mf, ml_54 mf, z1, z3, z4, e54, z5]
      exact w
    by_cases q : (soM (gI h) f a.toInt.toNat).toInt = 0
    · rw [bz_t q]; exact CI_iff fun K X w => H K X ((bz_t q).mpr w)
    · rw [bz_f q]; exact CI_iff fun K X w => H K X ((bz_f q).mpr w)
  have nt1 : ∀ {P : Prop}, (1 : Int32).toInt = 0 → P := fun z => absurd z (by decide)
  -- the table is made
  have make : tbP (gI h) f nm a2 a3 a4 a5 → tbG (gI h) f a2 a3 a4 → nt < 12 → Wp 500 266 (265, [some (vR 44), some (vI (nI f)), some (vI a2), some (vI a3), some (vI a4), some (vI a5), some (vI (nI (20 * f))), some (vI (nI nt)), some (vI 0), none, none, none, none, none], [], hU g (uI (uI (uI (uI (uI (uI I 44 0 0) 90 nt (nI (spN (gI h) f a2))) 91 nt (nI (spN (gI h) f a3))) 96 nt 0) 97 nt 0) 98 nt 0) J) (RI K X) := fun P G t9 => by
    have zero : ∀ (n p : Nat) (I2 : Nat → Nat → Int32), p + n = 12 → (∀ a, a ≠ 44 → a ≠ 90 → a ≠ 91 → a ≠ 92 → a ≠ 93 → a ≠ 94 → a ≠ 96 → a ≠ 97 → a ≠ 98 → I2 a = uI I 44 0 0 a) → I2 44 = uI I 44 0 0 44 → (∀ j, j ≠ nt → I2 90 j = uI I 44 0 0 90 j ∧ I2 91 j = uI I 44 0 0 91 j ∧ I2 96 j = uI I 44 0 0 96 j ∧ I2 97 j = uI I 44 0 0 97 j ∧ I2 98 j = uI I 44 0 0 98 j) → (I2 90 nt = nI (spN (gI h) f a2) ∧ I2 91 nt = nI (spN (gI h) f a3) ∧ I2 96 nt = 0 ∧ I2 97 nt = 0 ∧ I2 98 nt = 0) → (∀ j, j < 12 * nt ∨ 12 * nt + 12 ≤ j → I2 92 j = uI I 44 0 0 92 j ∧ I2 93 j = uI I 44 0 0 93 j ∧ I2 94 j = uI I 44 0 0 94 j) → (∀ k, k < p → I2 92 (12 * nt + k) = 0 ∧ I2 93 (12 * nt + k) = 0 ∧ I2 94 (12 * nt + k) = 0) → Wp 500 266 (265, [some (vR 44), some (vI (nI f)), some (vI a2), some (vI a3), some (vI a4), some (vI a5), some (vI (nI (20 * f))), some (vI (nI nt)), some (vI (nI p)), none, none, none, none, none], [], hU g I2 J) (RI K X) := by
      intro n
      induction n with
      | zero =>
        intro p I2 hp s1 s2 s3 s4 s5 s6
        have hpc : p = 12 := by omega
        subst hpc
        have t12' : (nI 12).toInt = 12 := rfl
        refine w266_265 ⟨fun c => by rw [t12'] at c; omega, fun _ => ?_⟩
        refine m_recs mf F Rg Rc hs6 hu n12 t9 hf P G (I0 := uI I 44 0 0) (fun x h1 h2 => by rw [uI_ne _ _ _ (by omega), e9 x (by omega) (by omega)]) (fun j hj => u44 j hj) (fun I4 m4 m69 m0 => ?_) nr 0 I2 (by omega) ⟨s1, fun j _ _ => by rw [s2], s3, s4, s5, fun k hk => s6 k hk⟩ s2
        have i53 : I4 44 53 = nI nr := by rw [m4.2.1 53 (by decide) (by decide), u44 53 (by decide)]; exact Rc.2.1.1
        have i69 : I4 44 69 = nI nt := by rw [m69, u44 69 (by decide)]; exact h69
        obtain ⟨z1, z2, z3, z4, z5, z6⟩ := m4
        refine w266_323 ?_
        simp only [↓forall_eq, ↓inB_iff, gK_hU, gL_hU, gR_hU, gIh, gJh, pI_hU, pJ_hU, hU_hU, uI_app, uJ_app, and_true, true_and, and_false, false_and, and_self, true_implies, false_implies, not_true, not_false_iff, if_true, if_false, eq_self, Nat.reduceLeDiff, Nat.reduceEqDiff, reduceCtorEq, i32c, ti0, ti1, tiM, Int.natCast_nonneg, Int.reduceEq, Int.reduceLE, Int.reduceLT, Int.reduceNeg, tl_i, Int32.reduceToInt, Int64.reduceToInt, tiA, tlM6, Int.toNat_natCast, natc, nI_1, Int.zero_sub, implies_true, not_false_eq_true, mf.1, mr_16 mf, mk_54 mf, ml_54 mf, mr_18 mf, mk_56 mf, ml_56 mf, mr_19 mf, mk_57 mf, ml_57 mf, mr_40 mf, mk_68 mf, ml_68 mf, mr_54 mf, mk_78 mf, ml_78 mf, mr_55 mf, mk_79 mf, ml_79 mf, mr_67 mf, mk_88 mf, ml_88 mf, mr_70 mf, mk_90 mf, ml_90 mf, mr_71 mf, mk_91 mf, ml_91 mf, mr_72 mf, mk_92 mf, ml_92 mf, mr_73 mf, mk_93 mf, ml_93 mf, mr_74 mf, mk_94 mf, ml_94 mf, mr_76 mf, mk_96 mf, ml_96 mf, mr_77 mf, mk_97 mf, ml_97 mf, mr_78 mf, mk_98 mf, ml_98 mf, i53, Int.lt_irrefl, i69]
        refine w3 P G t9 _ ⟨fun a q1 q2 q3 q4 q5 q6 q7 q8 q9 => by rw [uI_ne _ _ _ q1]; exact z1 a q1 q2 q3 q4 q5 q6 q7 q8 q9, fun j q1 q2 => by rw [uI_nj _ _ _ _ q2]; exact z2 j q1 q2, fun j hj => by simp only [uI_ne, ne_eq, Nat.reduceEqDiff, not_false_eq_true]; exact z3 j hj, by simp only [uI_ne, ne_eq, Nat.reduceEqDiff, not_false_eq_true]; exact z4, fun j hj => by simp only [uI_ne, ne_eq, Nat.reduceEqDiff, not_false_eq_true]; exact z5 j hj, fun k hk => by simp only [uI_ne, ne_eq, Nat.reduceEqDiff, not_false_eq_true]; exact z6 k hk⟩ (by rw [uI_same]) (by rw [uI_nj _ _ _ _ (by decide), m0, uI_same])
      | succ n ih =>
        intro p I2 hp s1 s2 s3 s4 s5 s6
        have hpI : (nI p).toInt = p := ti_n (by omega)
        have zp : (p : Int) < 12 := by omega
        have x1 : (12 : Int32) * nI nt + nI p = nI (12 * nt + p) := by rw [show (12 : Int32) = nI 12 from rfl, nI_mul, nI_add]
        have x2 : (nI (12 * nt + p)).toInt = ((12 * nt + p : Nat) : Int) := ti_n (by omega)
        have x3 : ((12 * nt + p : Nat) : Int) < 144 := by omega
        refine w266_265 ?_
        simp only [↓forall_eq, ↓inB_iff, gK_hU, gL_hU, gR_hU, gIh, gJh, pI_hU, pJ_hU, hU_hU, uI_app, uJ_app, and_true, true_and, and_false, false_and, and_self, true_implies, false_implies, not_true, not_false_iff, if_true, if_false, eq_self, Nat.reduceLeDiff, Nat.reduceEqDiff, reduceCtorEq, i32c, ti0, ti1, tiM, Int.natCast_nonneg, Int.reduceEq, Int.reduceLE, Int.reduceLT, Int.reduceNeg, tl_i, Int32.reduceToInt, Int64.reduceToInt, tiA, tlM6, Int.toNat_natCast, natc, nI_1, Int.zero_sub, implies_true, not_false_eq_true, mf.1, mr_16 mf, mk_54 mf, ml_54 mf, mr_18 mf, mk_56 mf, ml_56 mf, mr_19 mf, mk_57 mf, ml_57 mf, mr_40 mf, mk_68 mf, ml_68 mf, mr_54 mf, mk_78 mf, ml_78 mf, mr_55 mf, mk_79 mf, ml_79 mf, mr_67 mf, mk_88 mf, ml_88 mf, mr_70 mf, mk_90 mf, ml_90 mf, mr_71 mf, mk_91 mf, ml_91 mf, mr_72 mf, mk_92 mf, ml_92 mf, mr_73 mf, mk_93 mf, ml_93 mf, mr_74 mf, mk_94 mf, ml_94 mf, mr_76 mf, mk_96 mf, ml_96 mf, mr_77 mf, mk_97 mf, ml_97 mf, mr_78 mf, mk_98 mf, ml_98 mf, hpI, zp, x1, x2, x3]
        refine ih (p + 1) _ (by omega) (fun a q1 q2 q3 q4 q5 q6 q7 q8 q9 => by rw [uI_ne _ _ _ q6, uI_ne _ _ _ q5, uI_ne _ _ _ q4]; exact s1 a q1 q2 q3 q4 q5 q6 q7 q8 q9) (by rw [uI_ne _ _ _ (by decide), uI_ne _ _ _ (by decide), uI_ne _ _ _ (by decide)]; exact s2) (fun j hj => by simp only [uI_ne, ne_eq, Nat.reduceEqDiff, not_false_eq_true]; exact s3 j hj) (by simp only [uI_ne, ne_eq, Nat.reduceEqDiff, not_false_eq_true]; exact s4) (fun j hj => ?_) (fun k hk => ?_)
        · have nj : ¬ j = 12 * nt + p := by omega
          simp only [uI_app, nj, and_false, if_false]; exact s5 j hj
        · simp only [uI_app, Nat.reduceEqDiff, false_and, true_and, if_false]
          by_cases e : k = p
          · subst e; simp only [if_true, and_self]
          · have e' : ¬ 12 * nt + k = 12 * nt + p := by omega
            simp only [e', if_false]; exact s6 k (by omega)
    refine zero 12 0 _ (by omega) (fun a q1 q2 q3 q4 q5 q6 q7 q8 q9 => by rw [uI_ne _ _ _ q9, uI_ne _ _ _ q8, uI_ne _ _ _ q7, uI_ne _ _ _ q3, uI_ne _ _ _ q2]) (by simp only [uI_ne, ne_eq, Nat.reduceEqDiff, not_false_eq_true]) (fun j hj => ?_) ?_ (fun j hj => by simp only [uI_ne, ne_eq, Nat.reduceEqDiff, not_false_eq_true, and_self]) (fun k hk => by omega)
    · simp only [uI_app, Nat.reduceEqDiff, false_and, true_and, hj, if_false, and_self]
    · simp only [uI_app, Nat.reduceEqDiff, false_and, true_and, if_true, if_false, and_self]
  have s109 : tbP (gI h) f nm a2 a3 a4 a5 → (soM (gI h) f a2.toInt.toNat).toInt = 0 → (soM (gI h) f a3.toInt.toNat).toInt = 0 → ¬ a2.toInt = a3.toInt → (a4.toInt = -1 ∨ ¬ 1 < (soM (gI h) f a4.toInt.toNat).toInt) → Wp 500 266 (109, [some (vR 44), some (vI (nI f)), some (vI a2), some (vI a3), some (vI a4), some (vI a5), some (vI (nI (20 * f))), none, none, none, none, none, none, none], [], hU g (uI I 44 0 0) J) (RI K X) := fun PP g2 g3 g4 g5 => by
    have k2 : akA (gI h) f a2 := ⟨PP.1.1, PP.1.2, g2⟩
    have k3 : akA (gI h) f a3 := ⟨PP.2.1.1, PP.2.1.2, g3⟩
    have sp2 := sp_ok F hf k2
    have sp3 := sp_ok F hf k3
    obtain ⟨-, x1, x2, x3, -⟩ := ix a2 PP.1.1 (by have := PP.1.2; omega)
    obtain ⟨-, y1, y2, y3, -⟩ := ix a3 PP.2.1.1 (by have := PP.2.1.2; omega)
    have lo2 := ((fb a2.toInt.toNat (by have := PP.1.1; have := PP.1.2; omega)).2.2.2 g2).1
    have lo3 := ((fb a3.toInt.toNat (by have := PP.2.1.1; have := PP.2.1.2; omega)).2.2.2 g3).1
    have e56 := e9 56 (by decide) (by decide)
    have e57 := e9 57 (by decide) (by decide)
    unfold loM hiM at sp2 sp3
    have d2 : (gI h 57 (20 * f + a2.toInt.toNat) - gI h 56 (20 * f + a2.toInt.toNat)).toInt = (spN (gI h) f a2 : Int) - 1 := by rw [ti_sub (by omega) (by omega)]; omega
    have d3 : (gI h 57 (20 * f + a3.toInt.toNat) - gI h 56 (20 * f + a3.toInt.toNat)).toInt = (spN (gI h) f a3 : Int) - 1 := by rw [ti_sub (by omega) (by omega)]; omega
    have r2 : gI h 57 (20 * f + a2.toInt.toNat) - gI h 56 (20 * f + a2.toInt.toNat) + 1 = nI (spN (gI h) f a2) := ti_inj (by rw [ti_add (by rw [d2, ti1]; omega) (by rw [d2, ti1]; omega), d2, ti1, ti_n (by omega)]; omega)
    have r3 : gI h 57 (20 * f + a3.toInt.toNat) - gI h 56 (20 * f + a3.toInt.toNat) + 1 = nI (spN (gI h) f a3) := ti_inj (by rw [ti_add (by rw [d3, ti1]; omega) (by rw [d3, ti1]; omega), d3, ti1, ti_n (by omega)]; omega)
    have k69 : I 44 69 = nI nt := by rw [e44]; exact h69
    have z01 : (0 : Int32) &&& 1 = 0 := rfl
    refine w266_109 ?_
    simp only [↓forall_eq, ↓inB_iff, gK_hU, gL_hU, gR_hU, gIh, gJh, pI_hU, pJ_hU, hU_hU, uI_app, uJ_app, and_true, true_and, and_false, false_and, and_self, true_implies, false_implies, not_true, not_false_iff, if_true, if_false, eq_self, Nat.reduceLeDiff, Nat.reduceEqDiff, reduceCtorEq, i32c, ti0, ti1, tiM, Int.natCast_nonneg, Int.reduceEq, Int.reduceLE, Int.reduceLT, Int.reduceNeg, tl_i, Int32.reduceToInt, Int64.reduceToInt, tiA, tlM6, Int.toNat_natCast, natc, nI_1, Int.zero_sub, implies_true, not_false_eq_true, mf.1, mr_16 mf, mk_54 mf, ml_54 mf, mr_18 mf, mk_56 mf, ml_56 mf, mr_19 mf, mk_57 mf, ml_57 mf, mr_40 mf, mk_68 mf, ml_68 mf, mr_54 mf, mk_78 mf, ml_78 mf, mr_55 mf, mk_79 mf, ml_79 mf, mr_67 mf, mk_88 mf, ml_88 mf, mr_70 mf, mk_90 mf, ml_90 mf, mr_71 mf, mk_91 mf, ml_91 mf, mr_72 mf, mk_92 mf, ml_92 mf, mr_73 mf, mk_93 mf, ml_93 mf, mr_74 mf, mk_94 mf, ml_94 mf, mr_76 mf, mk_96 mf, ml_96 mf, mr_77 mf, mk_97 mf, ml_97 mf, mr_78 mf, mk_98 mf, ml_98 mf, ↓fail_br mf, x1, x2, x3, y1, y2, y3, e56, e57, d2, d3, r2, r3, k69, htI]
    refine ⟨fun z => w1 PP (fun y => by have := y.2.2.2.2.1; omega), fun z => ⟨fun z2 => w1 PP (fun y => by have := y.2.2.2.2.2; omega), fun z2 => ?_⟩⟩
    have GG : tbG (gI h) f a2 a3 a4 := ⟨g2, g3, g4, g5, by omega, by omega⟩
    refine ⟨fun z3 => w2 PP GG (by omega), fun z3 => ?_⟩
    have z12 : (nt : Int) < 12 := by omega
    simp only [↓forall_eq, ↓inB_iff, gK_hU, gL_hU, gR_hU, gIh, gJh, pI_hU, pJ_hU, hU_hU, uI_app, uJ_app, and_true, true_and, and_false, false_and, and_self, true_implies, false_implies, not_true, not_false_iff, if_true, if_false, eq_self, Nat.reduceLeDiff, Nat.reduceEqDiff, reduceCtorEq, i32c, ti0, ti1, tiM, Int.natCast_nonneg, Int.reduceEq, Int.reduceLE, Int.reduceLT, Int.reduceNeg, tl_i, Int32.reduceToInt, Int64.reduceToInt, tiA, tlM6, Int.toNat_natCast, natc, nI_1, Int.zero_sub, implies_true, not_false_eq_true, mf.1, mr_16 mf, mk_54 mf, ml_54 mf, mr_18 mf, mk_56 mf, ml_56 mf, mr_19 mf, mk_57 mf, ml_57 mf, mr_40 mf, mk_68 mf, ml_68 mf, mr_54 mf, mk_78 mf, ml_78 mf, mr_55 mf, mk_79 mf, ml_79 mf, mr_67 mf, mk_88 mf, ml_88 mf, mr_70 mf, mk_90 mf, ml_90 mf, mr_71 mf, mk_91 mf, ml_91 mf, mr_72 mf, mk_92 mf, ml_92 mf, mr_73 mf, mk_93 mf, ml_93 mf, mr_74 mf, mk_94 mf, ml_94 mf, mr_76 mf, mk_96 mf, ml_96 mf, mr_77 mf, mk_97 mf, ml_97 mf, mr_78 mf, mk_98 mf, ml_98 mf, htI, z12, z01, r2, r3]
    exact make PP GG (by omega)
  have s60 : tbP (gI h) f nm a2 a3 a4 a5 → Wp 500 266 (60, [some (vR 44), some (vI (nI f)), some (vI a2), some (vI a3), some (vI a4), some (vI a5), none, none, none, none, none, none, none, none], [], hU g (uI I 44 0 0) J) (RI K X) := fun PP => by
    have mul : (20 : Int32) * nI f = nI (20 * f) := nI_mul 20 f
    refine w266_60 (fun v0 e0 => ⟨by decide, mf.1, ?_⟩)
    rw [e0, mul, AK a2 _ _ PP.1]
    refine ⟨fun g2 => ⟨nt1, fun _ => ⟨mf.1, ?_⟩⟩, fun g2 => ⟨fun _ => ⟨mf.1, by rw [fail_br mf]; exact w1 PP (fun y => g2 y.1)⟩, fun z => absurd rfl z⟩⟩
    rw [AK a3 _ _ PP.2.1]
    refine ⟨fun g3 => ⟨nt1, fun _ => ⟨fun z => ⟨mf.1, by rw [fail_br mf]; exact w1 PP (fun y => y.2.2.1 z)⟩, fun g4 => ⟨fun z => s109 PP g2 g3 g4 (Or.inl z), fun z => ?_⟩⟩⟩, fun g3 => ⟨fun _ => ⟨mf.1, by rw [fail_br mf]; exact w1 PP (fun y => g3 y.2.1)⟩, fun z => absurd rfl z⟩⟩
    have p4' := PP.2.2.1.resolve_left z
    obtain ⟨-, x1, x2, x3, x5⟩ := ix a4 p4'.1 (by omega)
    simp only [↓forall_eq, ↓inB_iff, gK_hU, gL_hU, gR_hU, gIh, gJh, pI_hU, pJ_hU, hU_hU, uI_app, uJ_app, and_true, true_and, and_false, false_and, and_self, true_implies, false_implies, not_true, not_false_iff, if_true, if_false, eq_self, Nat.reduceLeDiff, Nat.reduceEqDiff, reduceCtorEq, i32c, ti0, ti1, tiM, Int.natCast_nonneg, Int.reduceEq, Int.reduceLE, Int.reduceLT, Int.reduceNeg, tl_i, Int32.reduceToInt, Int64.reduceToInt, tiA, tlM6, Int.toNat_natCast, natc, nI_1, Int.zero_sub, implies_true, not_false_eq_true, mf.1, mr_16 mf, mk_54 mf, ml_54 mf, mr_18 mf, mk_56 mf, ml_56 mf, mr_19 mf, mk_57 mf, ml_57 mf, mr_40 mf, mk_68 mf, ml_68 mf, mr_54 mf, mk_78 mf, ml_78 mf, mr_55 mf, mk_79 mf, ml_79 mf, mr_67 mf, mk_88 mf, ml_88 mf, mr_70 mf, mk_90 mf, ml_90 mf, mr_71 mf, mk_91 mf, ml_91 mf, mr_72 mf, mk_92 mf, ml_92 mf, mr_73 mf, mk_93 mf, ml_93 mf, mr_74 mf, mk_94 mf, ml_94 mf, mr_76 mf, mk_96 mf, ml_96 mf, mr_77 mf, mk_97 mf, ml_97 mf, mr_78 mf, mk_98 mf, ml_98 mf, ↓fail_br mf, x1, x2, x3, e54, x5]
    exact ⟨fun y => w1 PP (fun y2 => (y2.2.2.2.1.resolve_left z) y), fun y => s109 PP g2 g3 g4 (Or.inr y)⟩
  have s39 : (0 ≤ a2.toInt ∧ a2.toInt < cnM (gI h) f) → (0 ≤ a3.toInt ∧ a3.toInt < cnM (gI h) f) → stN (cnM (gI h) f) a4 → Wp 500 266 (39, [some (vR 44), some (vI (nI f)), some (vI a2), some (vI a3), some (vI a4), some (vI a5), none, none, none, none, none, none, none, none], [], hU g (uI I 44 0 0) J) (RI K X) := fun p2 p3 p4 => by
    refine w266_39 ?_
    by_cases c : a5.toInt = -1
    · exact ⟨fun _ => s60 ⟨p2, p3, p4, Or.inl c⟩, fun z => absurd c z⟩
    · refine ⟨fun z => absurd z c, fun _ => ⟨by decide, mf.1, ?_⟩⟩
      have k64 : uI I 44 0 0 44 64 = nI nm := by rw [u44 64 (by decide)]; exact h64
      rw [isSample_br mf (by rw [k64, hmI]; omega), k64, hmI]
      refine ⟨fun p5 => ⟨nt1, fun _ => s60 ⟨p2, p3, p4, Or.inr p5⟩⟩, fun p5 => ⟨fun _ => ⟨mf.1, ?_⟩, fun z => absurd rfl z⟩⟩
      rw [fail_br mf]
      exact w0 (fun z => p5 (z.2.2.2.resolve_left c))
  refine m266 ⟨by decide, mf.1, fun h0 e0 => ?_⟩
  have e0' : h0 = hU g (uI I 44 0 0) J := e0
  rw [e0', ST a2]
  refine ⟨fun p2 => ⟨nt1, fun _ => ⟨mf.1, ?_⟩⟩, fun p2 => ⟨fun _ => ⟨mf.1, by rw [fail_br mf]; exact w0 (fun y => p2 y.1)⟩, fun z => absurd rfl z⟩⟩
  rw [ST a3]
  refine ⟨fun p3 => ⟨nt1, fun _ => ⟨fun z => s39 p2 p3 (Or.inl z), fun z => ⟨mf.1, ?_⟩⟩⟩, fun p3 => ⟨fun _ => ⟨mf.1, by rw [fail_br mf]; exact w0 (fun y => p3 y.2.1)⟩, fun z => absurd rfl z⟩⟩
  rw [ST a4]
  refine ⟨fun p4 => ⟨nt1, fun _ => s39 p2 p3 (Or.inr p4)⟩, fun p4 => ⟨fun _ => ⟨mf.1, by rw [fail_br mf]; exact w0 (fun y => p4 (y.2.2.1.resolve_left z))⟩, fun z => absurd rfl z⟩⟩
end TBM
