/-! RULES: the pair -/
section PRV
variable {d f n nf b' : Nat} {h g h1 h3 : aH} {A A1 o o1 : Nat → Nat} {X : Nat → aH → Prop} {M I : Nat → Nat → Int32} {J : Nat → Nat → Int64} {a c v : Int32} {E : Nat → Nat → List Tm} {Cn : Nat → Nat → List Cmp}
theorem c_addR {K : Int32 → aH → Prop} (t : TF h A o f) (R : rowsOK h (A (bF f + 10)) (A (bF f + 11)) 3 16 n) (hn : n < 16)
    (k : ∀ b' h1, rowsOK h1 (A (bF f + 10)) b' 3 16 (n + 1) → (∀ i, i < n * 3 → gI h1 b' i = gI h (A (bF f + 11)) i) → (gI h1 b' (n * 3 + 0) = a ∧ gI h1 b' (n * 3 + 1) = c ∧ gI h1 b' (n * 3 + 2) = v) → ((b' = A (bF f + 11) ∧ gN h1 = gN h) ∨ (b' = gN h ∧ gN h1 = gN h + 1)) → keeps h h1 (fun q => q = A (bF f + 10) ∨ q = A (bF f + 11)) → gT h1 ≤ gT h + 2 * ((n + 1) * 3) → K (nI n) h1) : CI (d + 3) 183 [vR (A (bF f)), vI a, vI c, vI v] h K X := by
  have bN := R.2.2.1.2.2.1
  have ne : A (bF f) ≠ A (bF f + 10) := liv_ne (vF_0 t) (vF_10 t) (by omega)
  refine m183 ?_
  simp only [↓forall_eq, ↓inB_iff, gK_hU, gL_hU, gR_hU, gIh, gJh, pI_hU, pJ_hU, hU_hU, uI_app, uJ_app, and_true, true_and, and_false, false_and, and_self, true_implies, false_implies, not_true, not_false_iff, if_true, if_false, eq_self, Nat.reduceLeDiff, Nat.reduceEqDiff, reduceCtorEq, i32c, ti0, ti1, tiM, Int.natCast_nonneg, Int.reduceEq, Int.reduceLE, Int.reduceLT, Int.reduceNeg, tl_i, Int32.reduceToInt, Int64.reduceToInt, tiA, tlM6, Int.toNat_natCast, natc, nI_1, Int.zero_sub, implies_true, not_false_eq_true, kF_0 t, rF_0_9 t, kF_10 t, eF_10 t]
  refine c_addU R hn fun b' h1 R1 e1 e2 k1 t1 => ?_
  have s0 := k1.2.2.2 _ (nF_0 t) ne
  have s3 : gK h1 (A (bF f)) = 3 := by rw [s0.1]; exact kF_0 t
  have s9 : gR h1 (A (bF f)) 9 = A (bF f + 10) := by rw [s0.2.2.2.2]; exact rF_0_9 t
  have s8 : gK h1 (A (bF f + 10)) = 8 := R1.1.2.2
  have hb := rows_ne R1
  have hT1 : n < n + 1 := by omega
  simp only [↓forall_eq, ↓inB_iff, gK_hU, gL_hU, gR_hU, gIh, gJh, pI_hU, pJ_hU, hU_hU, uI_app, uJ_app, and_true, true_and, and_false, false_and, and_self, true_implies, false_implies, not_true, not_false_iff, if_true, if_false, eq_self, Nat.reduceLeDiff, Nat.reduceEqDiff, reduceCtorEq, i32c, ti0, ti1, tiM, Int.natCast_nonneg, Int.reduceEq, Int.reduceLE, Int.reduceLT, Int.reduceNeg, tl_i, Int32.reduceToInt, Int64.reduceToInt, tiA, tlM6, Int.toNat_natCast, natc, nI_1, Int.zero_sub, implies_true, not_false_eq_true, s3, s9, s8, eF_10 t, ↓put_br R1 hT1 (show (0 : Int32) = nI 0 from rfl) (show 0 < 3 by decide), ↓put_br R1 hT1 (show (1 : Int32) = nI 1 from rfl) (show 1 < 3 by decide), ↓put_br R1 hT1 (show (2 : Int32) = nI 2 from rfl) (show 2 < 3 by decide), uI_ne, uJ_ne, ne_eq, Nat.reduceEqDiff, not_false_eq_true, hb]
  refine k b' _ (rows_hU R1 (by simp only [uI_ne, uJ_ne, ne_eq, Nat.reduceEqDiff, not_false_eq_true, hb])) (fun i hi => ?_) ⟨?_, ?_, ?_⟩ e2 ⟨k1.1, k1.2.1, fun a ha => k1.2.2.1 a ha, fun a ha hp => ?_⟩ t1
  · rw [gI_hU]; simp only [uI_app]; rw [← e1 i hi]; grind
  · rw [gI_hU]; simp only [uI_app]; grind
  · rw [gI_hU]; simp only [uI_app]; grind
  · rw [gI_hU]; simp only [uI_app]; grind
  · have s := k1.2.2.2 a ha (fun e => hp (Or.inl e))
    have hab : a ≠ b' := by
      rcases e2 with ⟨q, -⟩ | ⟨q, -⟩
      · rw [q]; exact fun e => hp (Or.inr e)
      · omega
    exact ⟨s.1, s.2.1, fun j => by rw [gI_hU]; simp only [uI_ne, uJ_ne, ne_eq, Nat.reduceEqDiff, not_false_eq_true, hab]; exact s.2.2.1 j, s.2.2.2.1, s.2.2.2.2⟩
/-- a form's rows behind a new one -/
theorem rows_new5 (b : base h o) (t : TF h A o f) (f60 : f ≤ 60) (hb' : (b' = A (bF f + 11) ∧ gN h1 = gN h) ∨ (b' = gN h ∧ gN h1 = gN h + 1)) (k : keeps h h1 (fun q => q = A (bF f + 10) ∨ q = A (bF f + 11))) :
    ∃ A1 o1 : Nat → Nat, A1 (bF f + 11) = b' ∧ o1 b' = bF f + 11 ∧ (∀ m, m ≠ bF f + 11 → A1 m = A m) ∧ (∀ q, q < gN h → o1 q = o q) ∧ fr h h1 A A1 o o1 (fun c => c = 5) ∧ base h1 o1 := by
  have v10 := vF_10 t
  have v11 := vF_11 t
  have z10 : (bF f + 10) / 1000000 = 5 := by unfold bF; omega
  have z11 : (bF f + 11) / 1000000 = 5 := by unfold bF; omega
  have oq : ∀ q, q < gN h → (if q = b' then bF f + 11 else o q) = o q := fun q hq => by
    split
    · rename_i e
      rcases hb' with ⟨e1, -⟩ | ⟨e1, -⟩
      · rw [e, e1, v11.1]
      · omega
    · rfl
  have fr1 : fr h h1 A (fun m => if m = bF f + 11 then b' else A m) o (fun q => if q = b' then bF f + 11 else o q) (fun c => c = 5) := by
    refine ⟨keeps_mono k (fun q hq w => ?_), oq, fun m hm => if_neg (fun e => hm (by rw [e]; exact z11))⟩
    rcases w with e | e
    · show o q / 1000000 = 5
      rw [e, v10.1]; exact z10
    · show o q / 1000000 = 5
      rw [e, v11.1]; exact z11
  exact ⟨fun m => if m = bF f + 11 then b' else A m, fun q => if q = b' then bF f + 11 else o q, if_pos rfl, if_pos rfl, fun m hm => if_neg hm, oq, fr1, base_fr b fr1 (by decide)⟩
theorem pr_rule {x : Int32} (b : base h o) (F : FormA h A o (gI h) E Cn nf) : Pr 184 187 [vI x, vI a, vI c, vI v] [3, 1, 4] h (fun h2 => ∃ A1 o1, left h h2 A A1 o o1 (fun c => c = 5) [81, 82, 83, 84] [] 1 100 ∧ FormA h2 A1 o1 (gI h2) E Cn nf ∧ (∀ f, A1 (bF f) = A (bF f)) ∧ ∀ f, nf ≤ f → gI h2 81 f = gI h 81 f) := by
  have hnf := F.2.1.1
  have n6 := F.2.1.2
  have hn : (nI nf).toInt = nf := ti_n (by omega)
  have fin : ∀ h2, left h h2 A A o o (fun _ => False) [] [] 1 6 → ∃ A1 o1, left h h2 A A1 o o1 (fun c => c = 5) [81, 82, 83, 84] [] 1 100 ∧ FormA h2 A1 o1 (gI h2) E Cn nf ∧ (∀ f, A1 (bF f) = A (bF f)) ∧ ∀ f, nf ≤ f → gI h2 81 f = gI h 81 f := fun h2 l => ⟨A, o, left_mono l (fun _ w => w.elim) (by simp) (by simp) (by omega) (by omega), FormA_left b F l (fun w => w) (by simp) (by simp), fun _ => rfl, fun _ _ => by rw [l.2.2.1.1 81 (by decide) (by decide) (by simp)]⟩
  by_cases q : 0 ≤ x.toInt ∧ x.toInt < nf
  · generalize hfx : x.toInt.toNat = f at *
    have hx : x = nI f := by rw [← hfx]; exact ti_nat q.1
    have hf : f < nf := by omega
    subst hx
    by_cases qs : stN (cnM (gI h) f) a ∧ stN (cnM (gI h) f) c
    · by_cases qg : gdR (gI h) f a c v
      · by_cases qn : nrM (gI h) f < 16
        · obtain ⟨⟨t, l, ⟨c1, c2, c3⟩, c4⟩, fm, fb, ak, rr, rr2, rr3⟩ := F.2.2 f hf
          refine Pr_ok (nI (nrM (gI h) f)) (fun h1 => ∃ b', rowsOK h1 (A (bF f + 10)) b' 3 16 (nrM (gI h) f + 1) ∧ (∀ i, i < nrM (gI h) f * 3 → gI h1 b' i = gI h (A (bF f + 11)) i) ∧ (gI h1 b' (nrM (gI h) f * 3 + 0) = a ∧ gI h1 b' (nrM (gI h) f * 3 + 1) = c ∧ gI h1 b' (nrM (gI h) f * 3 + 2) = v) ∧ ((b' = A (bF f + 11) ∧ gN h1 = gN h) ∨ (b' = gN h ∧ gN h1 = gN h + 1)) ∧ keeps h h1 (fun q => q = A (bF f + 10) ∨ q = A (bF f + 11)) ∧ gT h1 ≤ gT h + 2 * ((nrM (gI h) f + 1) * 3)) (fun K X kk => c_rule b F hf ⟨fun z => absurd qs z, fun _ => ⟨fun z => absurd qg z, fun _ => ⟨fun z => absurd qn z, fun _ => ?_⟩⟩⟩) (fun h1 J1 m j K X kk => ?_)
          · exact c_addR (d := 496) t rr2 qn fun b' h1 R1 e1 e2 e3 k1 t1 => kk h1 ⟨b', R1, e1, e2, e3, k1, t1⟩
          · obtain ⟨b', R1, e1, e2, e3, k1, t1⟩ := m
            obtain ⟨A1, o1, p1, p2, p3, p4, p5, p6⟩ := rows_new5 b t (by omega) e3 k1
            have e9 : ∀ x, 44 ≤ x → x < 107 → gI h1 x = gI h x := fun x h1 h2 => (fr_m b p5 (by decide) h1 h2).1
            have v10 := vF_10 t
            have v11 := vF_11 t
            have lo10 := lab_out b v10 (by unfold bF; omega)
            have lo11 := lab_out b v11 (by unfold bF; omega)
            have hN := b.1.1
            have lob : ¬ (44 ≤ b' ∧ b' ≤ 107) := by
              rcases e3 with ⟨z, -⟩ | ⟨z, -⟩
              · rw [z]; exact lo11
              · omega
            refine m_rule p6.2.1 F hf e9 ⟨fun z => absurd qs z, fun _ => ⟨fun z => absurd qg z, fun _ => ⟨fun z => absurd qn z, fun _ => ?_⟩⟩⟩
            generalize hI : uI (uI (uI (uI (uI (gI h1) 44 0 0) 82 (16 * f + nrM (gI h) f) a) 83 (16 * f + nrM (gI h) f) c) 84 (16 * f + nrM (gI h) f) v) 81 f (nI (nrM (gI h) f + 1)) = I3
            have i0 : ∀ x, x ≠ 44 → x ≠ 81 → x ≠ 82 → x ≠ 83 → x ≠ 84 → I3 x = gI h1 x := fun x q1 q2 q3 q4 q5 => by rw [← hI, uI_ne _ _ _ q2, uI_ne _ _ _ q5, uI_ne _ _ _ q4, uI_ne _ _ _ q3, uI_ne _ _ _ q1]
            have i4 : ∀ j, I3 44 j = if j = 0 then 0 else gI h1 44 j := fun j => by
              rw [← hI, uI_ne _ _ _ (by decide), uI_ne _ _ _ (by decide), uI_ne _ _ _ (by decide), uI_ne _ _ _ (by decide), uI_app]
              by_cases z : j = 0
              · rw [if_pos ⟨rfl, z⟩, if_pos z]
              · rw [if_neg (fun y => z y.2), if_neg z]
            have kp : keeps h (hU h1 I3 J1) (fun q => q = A (bF f + 10) ∨ q = A (bF f + 11) ∨ (44 ≤ q ∧ q ≤ 107)) := by
              refine ⟨k1.1, k1.2.1, k1.2.2.1, fun q hq hp => ?_⟩
              have s := k1.2.2.2 q hq (fun z => hp (by rcases z with z | z; exact Or.inl z; exact Or.inr (Or.inl z)))
              have hm : ¬ (44 ≤ q ∧ q ≤ 107) := fun z => hp (Or.inr (Or.inr z))
              refine ⟨s.1, s.2.1, fun j9 => ?_, fun j9 => ?_, s.2.2.2.2⟩
              · rw [gI_hU, i0 q (by omega) (by omega) (by omega) (by omega) (by omega)]; exact s.2.2.1 j9
              · rw [gJ_hU, j q (by omega)]; exact s.2.2.2.1 j9
            have nz : ∀ z, ¬ (44 ≤ z ∧ z ≤ 107) → I3 z = gI h1 z := fun z hz => i0 z (by omega) (by omega) (by omega) (by omega) (by omega)
            refine kk _ (by rw [gIh, i4]; rfl) rfl ⟨A1, o1, ?_, ?_, fun f' => p3 _ (by unfold bF; omega), fun f' hf' => by rw [gIh, ← hI, uI_app, if_neg (by omega), uI_ne _ _ _ (by decide), uI_ne _ _ _ (by decide), uI_ne _ _ _ (by decide), uI_ne _ _ _ (by decide), e9 81 (by decide) (by decide)]⟩
            · refine left_mk (h1 := h1) b p6 p5 (by decide) (by decide) (fun z z1 z2 => ?_) (fun j9 z1 z2 => ?_) (fun a a1 _ => j a a1) (by rcases e3 with ⟨-, z⟩ | ⟨-, z⟩ <;> omega) (by omega)
              · simp only [List.mem_cons, List.mem_nil_iff, or_false, not_or] at z2
                exact i0 z z1 z2.1 z2.2.1 z2.2.2.1 z2.2.2.2
              · rw [i4, if_neg z1]
            · have w81 : ∀ j, gI (hU h1 I3 J1) 81 j = if j = f then nI (nrM (gI h) f + 1) else gI h 81 j := fun j => by
                rw [gIh, ← hI, uI_app, uI_ne _ _ _ (by decide), uI_ne _ _ _ (by decide), uI_ne _ _ _ (by decide), uI_ne _ _ _ (by decide), e9 81 (by decide) (by decide)]
                by_cases z : j = f
                · rw [if_pos ⟨rfl, z⟩, if_pos z]
                · rw [if_neg (fun y => z y.2), if_neg z]
              have w82 : ∀ j, gI (hU h1 I3 J1) 82 j = if j = 16 * f + nrM (gI h) f then a else gI h 82 j := fun j => by
                rw [gIh, ← hI, uI_ne _ _ _ (by decide), uI_ne _ _ _ (by decide), uI_ne _ _ _ (by decide), uI_app, uI_ne _ _ _ (by decide), e9 82 (by decide) (by decide)]
                by_cases z : j = 16 * f + nrM (gI h) f
                · rw [if_pos ⟨rfl, z⟩, if_pos z]
                · rw [if_neg (fun y => z y.2), if_neg z]
              have w83 : ∀ j, gI (hU h1 I3 J1) 83 j = if j = 16 * f + nrM (gI h) f then c else gI h 83 j := fun j => by
                rw [gIh, ← hI, uI_ne _ _ _ (by decide), uI_ne _ _ _ (by decide), uI_app, uI_ne _ _ _ (by decide), uI_ne _ _ _ (by decide), e9 83 (by decide) (by decide)]
                by_cases z : j = 16 * f + nrM (gI h) f
                · rw [if_pos ⟨rfl, z⟩, if_pos z]
                · rw [if_neg (fun y => z y.2), if_neg z]
              have w84 : ∀ j, gI (hU h1 I3 J1) 84 j = if j = 16 * f + nrM (gI h) f then v else gI h 84 j := fun j => by
                rw [gIh, ← hI, uI_ne _ _ _ (by decide), uI_app, uI_ne _ _ _ (by decide), uI_ne _ _ _ (by decide), uI_ne _ _ _ (by decide), e9 84 (by decide) (by decide)]
                by_cases z : j = 16 * f + nrM (gI h) f
                · rw [if_pos ⟨rfl, z⟩, if_pos z]
                · rw [if_neg (fun y => z y.2), if_neg z]
              have rl : ∀ z, stN (cnM (gI h) f) z → akR (gI h) f z → rlA (gI h) f z := fun z h1 h2 => by
                by_cases e : z.toInt = -1
                · exact Or.inl (ti_inj (by rw [e]; rfl))
                · exact Or.inr ⟨(h1.resolve_left e).1, (h1.resolve_left e).2, h2.resolve_left e⟩
              refine FormA_row (x0 := a) (x1 := c) (x2 := v) b F hf kp p4 p3 p1 p2 (rows_hU R1 (nz _ lo10)) (fun i hi => by rw [gIh, nz _ lob]; exact e1 i hi) (by rw [gIh, nz _ lob]; exact e2) (fun x h1 h2 => by rw [gIh, i0 x (by omega) (by omega) (by omega) (by omega) (by omega)]; exact e9 x (by omega) (by omega)) (by rw [gIh, i4, if_neg (by decide), e9 44 (by decide) (by decide)]) w81 w82 w83 w84 ⟨rl a qs.1 qg.1, rl c qs.2 qg.2.1, fun e => qg.2.2.1 (by rw [e]), qg.2.2.2.1, qg.2.2.2.2⟩
        · exact Pr_gc (A := A) (C := fun _ => False) 2 4 b (by decide) rfl (fun K X kk => c_rule b F hf ⟨fun z => absurd qs z, fun _ => ⟨fun z => absurd qg z, fun _ => ⟨fun _ => kk, fun z => absurd z qn⟩⟩⟩) (fun g J K X mf e kk => m_rule mf F hf e ⟨fun z => absurd qs z, fun _ => ⟨fun z => absurd qg z, fun _ => ⟨fun _ => kk, fun z => absurd z qn⟩⟩⟩) fin
      · exact Pr_gc (A := A) (C := fun _ => False) 1 1 b (by decide) rfl (fun K X kk => c_rule b F hf ⟨fun z => absurd qs z, fun _ => ⟨fun _ => kk, fun z => absurd z qg⟩⟩) (fun g J K X mf e kk => m_rule mf F hf e ⟨fun z => absurd qs z, fun _ => ⟨fun _ => kk, fun z => absurd z qg⟩⟩) fin
    · exact Pr_gc (A := A) (C := fun _ => False) 0 3 b (by decide) rfl (fun K X kk => c_rule b F hf ⟨fun _ => kk, fun z => absurd z qs⟩) (fun g J K X mf e kk => m_rule mf F hf e ⟨fun _ => kk, fun z => absurd z qs⟩) fin
  · refine Pr_gc (A := A) (C := fun _ => False) 0 3 b (by decide) rfl (fun K X kk => m184 ⟨by decide, ck_8 b.1, ?_⟩) (fun g J K X mf e kk => m187 ?_) fin
    · rw [formAt_br b F.1, bz_f q]
      exact kk
    · simp only [↓forall_eq, ↓inB_iff, gK_hU, gL_hU, gR_hU, gIh, gJh, pI_hU, pJ_hU, hU_hU, uI_app, uJ_app, and_true, true_and, and_false, false_and, and_self, true_implies, false_implies, not_true, not_false_iff, if_true, if_false, eq_self, Nat.reduceLeDiff, Nat.reduceEqDiff, reduceCtorEq, i32c, ti0, ti1, tiM, Int.natCast_nonneg, Int.reduceEq, Int.reduceLE, Int.reduceLT, Int.reduceNeg, tl_i, Int32.reduceToInt, Int64.reduceToInt, tiA, tlM6, Int.toNat_natCast, natc, nI_1, Int.zero_sub, implies_true, not_false_eq_true, mf.1, mr_57 mf, mk_81 mf, ml_81 mf, mr_58 mf, mk_82 mf, ml_82 mf, mr_59 mf, mk_83 mf, ml_83 mf, mr_60 mf, mk_84 mf, ml_84 mf, ↓fail_br mf, ↓isForm_br mf, e 44 (by decide) (by decide), hnf, hn, q]
      exact kk
end PRV
