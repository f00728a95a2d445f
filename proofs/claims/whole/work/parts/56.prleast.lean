/-! THE LEAST SET: the pair -/
section PLS
variable {d f s r n p nf ns nr : Nat} {it t t1 : Nat → Int32} {h g : aH} {A o : Nat → Nat} {X : Nat → aH → Prop} {M : Nat → Nat → Int32} {I I1 : Nat → Nat → Int32} {J : Nat → Nat → Int64} {S T U : Int32} {E : Nat → Nat → List Tm} {Cn : Nat → Nat → List Cmp}
theorem bst_uniq {b1 b2 : Int32 × Int} (h1 : bst M f it U b1) (h2 : bst M f it U b2) : b1 = b2 := best_same h1 h2 (fun _ q => q) (fun _ q _ => Or.inl q)
theorem cS_lt {i : Nat} (hs : subB S T) (hc : ∀ s, gB T s = true → 1 ≤ coM M f s) (h1 : gB T i = true) (h2 : gB S i = false) : ∀ n, i < n → cS M f S n < cS M f T n := by
  intro n
  induction n with
  | zero => intro h; omega
  | succ n ih =>
    intro hi
    have mo := cS_mono (M := M) (f := f) hs (fun s hs => by have := hc s hs; omega) n
    rw [cS, cS]
    by_cases c : i = n
    · subst c
      have := hc i h1
      rw [h1, h2, if_pos rfl, if_neg (by decide)]; omega
    · have := ih (by omega)
      cases h3 : gB S n
      · rw [if_neg (by decide)]
        cases h4 : gB T n
        · rw [if_neg (by decide)]; omega
        · rw [if_pos rfl]; have := hc n h4; omega
      · rw [if_pos rfl, if_pos (hs n h3)]; omega
/-- a record as the editor needs it -/
theorem ed_of (b : base h o) (F : FormA h A o (gI h) E Cn nf) (R : RecA h A o (gI h) nf ns nr) (hr : r < nr) : edC h A o (gI h) (fR (gI h) r) r (itM (gI h) r) ∧ edM h (gI h) (fR (gI h) r) r (itM (gI h) r) ∧ edU (gI h) (fR (gI h) r) (itM (gI h) r) (frU (gI h) (fR (gI h) r) (itM (gI h) r)) := by
  obtain ⟨t, ⟨r2, r3, r4, r5⟩, ⟨r6, r7, r8⟩, r9, r10⟩ := R.2.2 r hr
  obtain ⟨⟨tf, lf, ⟨c1, c2, c3⟩, c4⟩, fm, fb, ak, fr9⟩ := F.2.2 _ r5
  have n6 := F.2.1.2
  have h60 := R.2.1.2
  generalize hf : fR (gI h) r = f at *
  have cn0 := cn_of F f r5
  have n16 := nr16 fr9
  refine ⟨⟨⟨b.1, b.2.2⟩, tf, t, ⟨by omega, by omega⟩, ⟨c1, c2⟩, fr9, fun s hs => ⟨fb s hs, (c4 s hs).1⟩, r6, fun i hi => (r9 i hi).1⟩, ⟨b.2.1, ⟨by omega, by omega⟩, c2, n16, cn0.1, fr9.1, fun i hi => by unfold itM; rw [if_pos hi]⟩, ?_⟩
  have eb : ∀ S, subB S (frU (gI h) f (itM (gI h) r)) → ∀ i, gB S i = true → i < cnM (gI h) f ∧ (soM (gI h) f i).toInt = 0 ∧ ¬ (itM (gI h) r i).toInt = -2000000 := fun S hS i hi => by
    have := hS i hi
    rw [gB_bits _ (by omega)] at this
    unfold pfB at this
    simp only [Bool.and_eq_true, decide_eq_true_eq, Bool.not_eq_true', decide_eq_false_iff_not] at this
    exact this
  have ev : ∀ S, subB S (frU (gI h) f (itM (gI h) r)) → edV (gI h) f (gB S) (itM (gI h) r) := fun S hS => ⟨fun q hq => (fr9.2.2 q hq).2, c2, ak, fun s hs => ⟨(eb S hS s hs).1, (eb S hS s hs).2.1⟩, fun s hs h0 => ((fb s hs).2.2.2 h0).1, bnd_le r10.1 c2⟩
  refine ⟨ev, fun S T hST hT hF => ?_, fun s hs => ?_, c2⟩
  · obtain ⟨v, fe⟩ := (fit_iff (ev S (sub_tr hST hT))).mp hF
    exact (fit_iff (ev T hT)).mpr ⟨v, feas_more fe hST (fun s hs => by
      have q := eb T hT s hs
      exact (r10.2 s q.1 q.2.1).resolve_left q.2.2)⟩
  · have q := eb _ (fun i hi => hi) s hs
    exact ⟨q.1, ((fb s q.1).2.2.2 q.2.1).2⟩
/-- the class's choice is the model's -/
theorem bst_may {b1 b2 : Int32 × Int} (eu : edU M f it (frU M f it)) (h1 : bst M f it (frU M f it) b1) (h2 : bst M f it (mayU M f it) b2) (hr : ∀ r, r < nrM M f → rlA M f (rA M f r) ∧ rlA M f (rBb M f r)) : b1 = b2 := by
  obtain ⟨u1, u2, u3, u4⟩ := eu
  obtain ⟨mb1, mb2⟩ := may_bit (it := it) u4 hr (nrM M f) (Nat.le_refl _)
  have msub : subB (mayU M f it) (frU M f it) := fun i hi => by
    rw [gB_bits _ (by omega), (mb1 i hi).2, decide_eq_true (mb1 i hi).1]; rfl
  refine best_same h1 h2 (fun T hT => ⟨sub_0, ?_⟩) (fun T hT hF => ?_)
  · have := hT.2
    rw [or_0] at this ⊢
    exact sub_tr this msub
  · have hTU := hT.2
    rw [or_0] at hTU
    have sub2 : subB (T &&& mayU M f it) T := fun i hi => by
      rw [gB_and] at hi
      cases hh : gB T i
      · rw [hh, Bool.false_and] at hi; exact hi
      · rfl
    have subm : subB (T &&& mayU M f it) (mayU M f it) := fun i hi => by
      rw [gB_and] at hi
      cases hh : gB (mayU M f it) i
      · rw [hh, Bool.and_false] at hi; exact hi
      · rfl
    by_cases c : subB T (mayU M f it)
    · exact Or.inl ⟨sub_0, by rw [or_0]; exact c⟩
    · refine Or.inr ⟨T &&& mayU M f it, ⟨sub_0, by rw [or_0]; exact subm⟩, ?_, ?_⟩
      · obtain ⟨v, fe⟩ := (fit_iff (u1 T hTU)).mp hF
        have one : ∀ r, r < nrM M f → ∀ a, (a = rA M f r ∨ a = rBb M f r) → a.toInt = -1 ∨ gB T a.toInt.toNat = false ∨ gB (mayU M f it) a.toInt.toNat = true := fun r hr a ha => by
          rcases mb2 r hr a ha with q | q | q
          · exact Or.inl q
          · refine Or.inr (Or.inl ?_)
            cases hh : gB T a.toInt.toNat
            · rfl
            · have := hTU _ hh
              rw [gB_bits _ (by omega)] at this
              unfold pfB at this
              rw [decide_eq_true q] at this
              simp at this
          · exact Or.inr (Or.inr q)
        have := feas_less (R := gB (mayU M f it)) fe (fun r hr => ⟨one r hr _ (Or.inl rfl), one r hr _ (Or.inr rfl)⟩)
        have eq : (fun s => gB T s && gB (mayU M f it) s) = gB (T &&& mayU M f it) := funext fun s => (gB_and _ _ _).symm
        rw [eq] at this
        exact (fit_iff (u1 _ (sub_tr sub2 hTU))).mpr this
      · have : ∃ i, gB T i = true ∧ gB (mayU M f it) i = false := Classical.byContradiction fun q => c fun i hi => by
          cases hh : gB (mayU M f it) i
          · exact absurd ⟨i, hi, hh⟩ q
          · rfl
        obtain ⟨i, i1, i2⟩ := this
        exact cS_lt sub2 (fun s hs => (u3 s (hTU s hs)).2.1) i1 (by rw [gB_and, i2, Bool.and_false]) _ (u3 i (hTU i i1)).1
theorem ed_may (eu : edU M f it (frU M f it)) (hr : ∀ r, r < nrM M f → rlA M f (rA M f r) ∧ rlA M f (rBb M f r)) : edU M f it (mayU M f it) := by
  obtain ⟨u1, u2, u3, u4⟩ := eu
  obtain ⟨mb1, mb2⟩ := may_bit (it := it) u4 hr (nrM M f) (Nat.le_refl _)
  have msub : subB (mayU M f it) (frU M f it) := fun i hi => by
    rw [gB_bits _ (by omega), (mb1 i hi).2, decide_eq_true (mb1 i hi).1]; rfl
  exact ⟨fun S hS => u1 S (sub_tr hS msub), fun S T h1 h2 => u2 S T h1 (sub_tr h2 msub), fun s hs => u3 s (msub s hs), u4⟩
theorem bst_all (M : Nat → Nat → Int32) (f : Nat) (it : Nat → Int32) : ∃ bb, ∀ b, bst M f it (frU M f it) b → b = bb := by
  by_cases ex : ∃ b, bst M f it (frU M f it) b
  · obtain ⟨bb, hb⟩ := ex
    exact ⟨bb, fun b q => bst_uniq q hb⟩
  · exact ⟨(0, 0), fun b q => absurd ⟨b, q⟩ ex⟩
theorem bst_val (eu : edU M f it (frU M f it)) {b : Int32 × Int} (q : bst M f it (frU M f it) b) : (b = (-1, 2147483647)) ∨ (¬ b.1.toInt = -1 ∧ subB b.1 (frU M f it) ∧ fitB M f it (gB b.1) = true) := by
  rcases q with ⟨q, -⟩ | ⟨⟨-, q⟩, qf, -⟩
  · exact Or.inl q
  · rw [or_0] at q
    refine Or.inr ⟨fun e => ?_, q, qf⟩
    have e1 : b.1 = -1 := ti_inj (by rw [e]; rfl)
    have := q 25 (by rw [e1]; decide +kernel)
    have := (eu.2.2.1 25 this).1
    have := eu.2.2.2
    omega
theorem left_w {A1 o1 : Nat → Nat} {C : Nat → Prop} {h2 : aH} {as fs as2 fs2 : List Nat} {n t : Nat} (l : left h h2 A A1 o o1 C as fs n t) (ha : ∀ a ∈ as, a ∈ as2) (hf : ∀ a ∈ fs, a ∈ fs2) : left h h2 A A1 o o1 C as2 fs2 n t := by
  obtain ⟨l1, l2, ⟨l3, l4, l5⟩, l6⟩ := l
  exact ⟨l1, l2, ⟨fun a h1 h2 h3 => l3 a h1 h2 (fun q => h3 (ha a q)), fun j h1 h2 => l4 j h1 (fun q => h2 (hf j q)), fun a h1 h2 h3 => l5 a h1 h2 (fun q => h3 (ha a q))⟩, l6⟩
theorem fr_ed (b : base h o) (s : eFr h I) : fr h (hU h I (gJ h)) A A o o (fun c => c = 4) := by
  refine ⟨⟨Nat.le_refl _, Nat.le_refl _, fun a _ => ⟨rfl, rfl⟩, fun a _ hp => ⟨rfl, rfl, fun j9 => ?_, fun _ => rfl, fun _ => rfl⟩⟩, fun _ _ => rfl, fun _ _ => rfl⟩
  have e1 : a ≠ 32 := fun e => hp (by show o a / 1000000 = 4; rw [e, ol_32 b.2.2])
  have e2 : a ≠ 33 := fun e => hp (by show o a / 1000000 = 4; rw [e, ol_33 b.2.2])
  rw [gI_hU, s a e1 e2]
theorem pr_least {x w9 : Int32} (b : base h o) (F : FormA h A o (gI h) E Cn nf) (R : RecA h A o (gI h) nf ns nr) (hn : ns ≤ 60) : Pr 207 212 [vI x, vI w9] [3] h (fun h2 => left h h2 A A o o (fun c => c = 4) [85] [62, 63] 1 6) := by
  have mf := b.2.1
  have h60 := R.2.1.2
  have hnr : (nI nr).toInt = nr := ti_n (by omega)
  have hnr1 : (nI nr - 1).toInt = (nr : Int) - 1 := by rw [ti_sub (by rw [hnr, ti1]; omega) (by rw [hnr, ti1]; omega), hnr, ti1]
  by_cases q : 0 ≤ x.toInt ∧ x.toInt < nr
  · generalize hrx : x.toInt.toNat = r at *
    have hx : x = nI r := by rw [← hrx]; exact ti_nat q.1
    have hr : r < nr := by omega
    obtain ⟨ec, em, eu⟩ := ed_of b F R hr
    have q' : 0 ≤ (nI r).toInt ∧ (nI r).toInt ≤ (nr : Int) - 1 := by rw [← hx]; omega
    have FO := fun d I J K X (s : tFr (gI h) I) => @formOf_br d nf ns nr r h h A o X (gI h) I J K mf R hr hn (s 78 (by decide) (by decide)) (s 67 (by decide) (by decide))
    obtain ⟨t, ⟨r2, r3, r4, r5⟩, ⟨r6, r7, r8⟩, r9, r10⟩ := R.2.2 r hr
    have fr9 := (F.2.2 _ r5).2.2.2.2
    have rl : ∀ p, p < nrM (gI h) (fR (gI h) r) → rlA (gI h) (fR (gI h) r) (rA (gI h) (fR (gI h) r) p) ∧ rlA (gI h) (fR (gI h) r) (rBb (gI h) (fR (gI h) r) p) := fun p hp => ⟨(fr9.2.2 p hp).2.1, (fr9.2.2 p hp).2.2.1⟩
    generalize hf : fR (gI h) r = f at *
    generalize hit : itM (gI h) r = it at *
    obtain ⟨bb, hbb⟩ := bst_all (gI h) f it
    refine Pr_ok (if w9.toInt = 0 then (if bb.1.toInt = -1 then -1 else iZ bb.2) else bb.1) (fun h1 => ∃ I1, h1 = hU h I1 (gJ h) ∧ eFr h I1 ∧ bst (gI h) f it (frU (gI h) f it) bb) (fun K X kk => m207 ⟨ck_8 b.1, by decide, ?_⟩) (fun h1 J1 m j K X kk => m212 ?_)
    · rw [recordAt_br b R.1, bz_t q, hrx]
      simp only [↓forall_eq, ↓inB_iff, gK_hU, gL_hU, gR_hU, gIh, gJh, pI_hU, pJ_hU, hU_hU, uI_app, uJ_app, and_true, true_and, and_false, false_and, and_self, true_implies, false_implies, not_true, not_false_iff, if_true, if_false, eq_self, Nat.reduceLeDiff, Nat.reduceEqDiff, reduceCtorEq, i32c, ti0, ti1, tiM, Int.natCast_nonneg, Int.reduceEq, Int.reduceLE, Int.reduceLT, Int.reduceNeg, tl_i, Int32.reduceToInt, Int64.reduceToInt, tiA, tlM6, Int.toNat_natCast, natc, nI_1, Int.zero_sub, implies_true, not_false_eq_true, cr_8_3 b.1, ck_32 b.1, ck_8 b.1]
      have CL := @c_least 472 f r it h A o X (gI h) (gI h) (gJ h)
      rw [hU_eta] at CL
      refine CL ec eu (fun _ _ _ => rfl) (fun I1 b1 w1 w2 w3 w4 => ?_)
      have eb := hbb b1 w4
      subst eb
      have k1 := kk (hU h I1 (gJ h)) ⟨I1, rfl, w1, w4⟩
      have i2 : I1 32 2 = iZ b1.2 := by rw [← w3, iZ_toInt]
      simp only [↓forall_eq, ↓inB_iff, gK_hU, gL_hU, gR_hU, gIh, gJh, pI_hU, pJ_hU, hU_hU, uI_app, uJ_app, and_true, true_and, and_false, false_and, and_self, true_implies, false_implies, not_true, not_false_iff, if_true, if_false, eq_self, Nat.reduceLeDiff, Nat.reduceEqDiff, reduceCtorEq, i32c, ti0, ti1, tiM, Int.natCast_nonneg, Int.reduceEq, Int.reduceLE, Int.reduceLT, Int.reduceNeg, tl_i, Int32.reduceToInt, Int64.reduceToInt, tiA, tlM6, Int.toNat_natCast, natc, nI_1, Int.zero_sub, implies_true, not_false_eq_true, ck_8 b.1, cr_8_3 b.1, ck_32 b.1]
      refine ⟨fun c => ?_, fun c => ?_⟩
      · rw [if_pos c] at k1
        refine ⟨fun c2 => ?_, fun c2 => ?_⟩
        · rw [if_pos c2] at k1
          rw [show b1.1 = -1 from ti_inj (by rw [c2]; rfl)]; exact k1
        · rw [if_neg c2] at k1
          rw [i2]; exact k1
      · rw [if_neg c] at k1; exact k1
    · obtain ⟨I1, rfl, s1, w0⟩ := m
      subst hx
      have ss : ∀ y, tFr (gI h) (uI I1 44 0 y) := fun y c h1 h2 => by rw [uI_ne _ _ _ (by omega)]; exact s1 c (by omega) (by omega)
      have e53 : I1 44 53 = nI nr := by rw [s1 44 (by decide) (by decide)]; exact R.2.1.1
      simp only [↓forall_eq, ↓inB_iff, gK_hU, gL_hU, gR_hU, gIh, gJh, pI_hU, pJ_hU, hU_hU, uI_app, uJ_app, and_true, true_and, and_false, false_and, and_self, true_implies, false_implies, not_true, not_false_iff, if_true, if_false, eq_self, Nat.reduceLeDiff, Nat.reduceEqDiff, reduceCtorEq, i32c, ti0, ti1, tiM, Int.natCast_nonneg, Int.reduceEq, Int.reduceLE, Int.reduceLT, Int.reduceNeg, tl_i, Int32.reduceToInt, Int64.reduceToInt, tiA, tlM6, Int.toNat_natCast, natc, nI_1, Int.zero_sub, implies_true, not_false_eq_true, mf.1, ↓fail_br mf, ↓isIn_br, e53, hnr1, q']
      refine m_find (d := 497) em (ed_may eu rl) rl (ss 0) (fun d I K X s => FO d I J1 K X s) (fun I2 b2 w1 w2 w3 => ?_)
      have eb : bb = b2 := bst_may eu w0 w3 rl
      subst eb
      have l9 : left h (hU (hU h I1 (gJ h)) I2 J1) A A o o (fun c => c = 4) [85] [62, 63] 1 6 := left_mk (h1 := hU h I1 (gJ h)) b (show base h o from b) (fr_ed b s1) (by decide) (by decide) (fun a a1 a2 => ?_) (fun j9 a1 a2 => ?_) (fun a a1 _ => j a a1) (by rw [gN_hU]; omega) (by rw [gT_hU]; omega)
      · have k1 := fun y => kk (hU h I2 J1) y rfl l9
        have k2 := k1 (by rw [gIh, w1.2 0 (by decide) (by decide), uI_same])
        simp only [↓forall_eq, ↓inB_iff, gK_hU, gL_hU, gR_hU, gIh, gJh, pI_hU, pJ_hU, hU_hU, uI_app, uJ_app, and_true, true_and, and_false, false_and, and_self, true_implies, false_implies, not_true, not_false_iff, if_true, if_false, eq_self, Nat.reduceLeDiff, Nat.reduceEqDiff, reduceCtorEq, i32c, ti0, ti1, tiM, Int.natCast_nonneg, Int.reduceEq, Int.reduceLE, Int.reduceLT, Int.reduceNeg, tl_i, Int32.reduceToInt, Int64.reduceToInt, tiA, tlM6, Int.toNat_natCast, natc, nI_1, Int.zero_sub, implies_true, not_false_eq_true, mf.1]
        have v1 := bst_val eu w0
        refine ⟨fun c => ?_, fun c => ?_⟩
        · rw [if_pos c] at k2
          rcases v1 with v1 | ⟨v1, -⟩
          · rcases w2 with ⟨-, y1, y2⟩ | ⟨y0, -⟩
            · rw [if_pos (by rw [v1]; rfl)] at k2
              rw [y1]; exact k2
            · rw [v1] at y0; dsimp only at y0; omega
          · rcases w2 with ⟨y0, -⟩ | ⟨y0, y1, y2⟩
            · rw [y0] at v1; exact absurd rfl v1
            · rw [if_neg v1, ← y1, iZ_toInt] at k2; exact k2
        · rw [if_neg c] at k2
          rcases w2 with ⟨y0, y1, y2⟩ | ⟨y0, y1, y2⟩
          · rw [y0] at k2; rw [y2]; exact k2
          · rw [y2]; exact k2
      · have h85 : a ≠ 85 := fun e => a2 (by rw [e]; decide)
        rw [gIh, w1.1 a a1 h85, uI_ne _ _ _ a1]
      · have h62 : j9 ≠ 62 := fun e => a2 (by rw [e]; decide)
        have h63 : j9 ≠ 63 := fun e => a2 (by rw [e]; decide)
        rw [gIh, w1.2 j9 h62 h63, uI_app, if_neg (fun q => a1 q.2)]
  · refine Pr_gc (A := A) (C := fun c => c = 4) 0 3 b (by decide) rfl (fun K X kk => m207 ⟨ck_8 b.1, by decide, ?_⟩) (fun g J K X mf e kk => m212 ?_) (fun h2 l => left_w l (by simp) (by simp))
    · rw [recordAt_br b R.1, bz_f q]
      exact kk
    · have q' : ¬ (0 ≤ x.toInt ∧ x.toInt ≤ (nr : Int) - 1) := by omega
      simp only [↓forall_eq, ↓inB_iff, gK_hU, gL_hU, gR_hU, gIh, gJh, pI_hU, pJ_hU, hU_hU, uI_app, uJ_app, and_true, true_and, and_false, false_and, and_self, true_implies, false_implies, not_true, not_false_iff, if_true, if_false, eq_self, Nat.reduceLeDiff, Nat.reduceEqDiff, reduceCtorEq, i32c, ti0, ti1, tiM, Int.natCast_nonneg, Int.reduceEq, Int.reduceLE, Int.reduceLT, Int.reduceNeg, tl_i, Int32.reduceToInt, Int64.reduceToInt, tiA, tlM6, Int.toNat_natCast, natc, nI_1, Int.zero_sub, implies_true, not_false_eq_true, mf.1, ↓fail_br mf, ↓isIn_br, e 44 (by decide) (by decide), R.2.1.1, hnr1, q']
      exact kk
end PLS
