/-! SESSIONS: their area is kept; question, given -/
section SSP
variable {d U U2 nf nf2 ns k f : Nat} {h h1 h2 g : aH} {A A1 o o1 : Nat → Nat} {X : Nat → aH → Prop} {M M2 : Nat → Nat → Int32} {I : Nat → Nat → Int32} {J : Nat → Nat → Int64} {C : Nat → Prop} {E : Nat → Nat → List Tm} {Cn : Nat → Nat → List Cmp}
/-- the model has the same form, the same session -/
def fV (M M2 : Nat → Nat → Int32) (f : Nat) : Prop := cnM M2 f = cnM M f ∧ soM M2 f = soM M f ∧ ∀ i, i < 20 → M2 56 (20 * f + i) = M 56 (20 * f + i) ∧ M2 57 (20 * f + i) = M 57 (20 * f + i)
def sV (M M2 : Nat → Nat → Int32) (k : Nat) : Prop := (M2 67 k = M 67 k ∧ M2 68 k = M 68 k ∧ M2 70 k = M 70 k ∧ M2 76 k = M 76 k ∧ M2 77 k = M 77 k) ∧ (∀ i, i < 20 → M2 71 (20 * k + i) = M 71 (20 * k + i) ∧ M2 72 (20 * k + i) = M 72 (20 * k + i) ∧ M2 73 (20 * k + i) = M 73 (20 * k + i) ∧ M2 74 (20 * k + i) = M 74 (20 * k + i) ∧ M2 75 (20 * k + i) = M 75 (20 * k + i)) ∧ ∀ j, j < 6 → M2 69 (6 * k + j) = M 69 (6 * k + j)
theorem sV_fun (s : sV M M2 k) : fS M2 k = fS M k ∧ gvM M2 k = gvM M k ∧ avM M2 k = avM M k ∧ ntM M2 k = ntM M k ∧ rgM M2 k = rgM M k := by
  obtain ⟨s1, s2, s3⟩ := s
  refine ⟨by unfold fS; rw [s1.1], ?_, ?_, ?_, ?_⟩
  · funext i
    unfold gvM
    by_cases hi : i < 20
    · rw [if_pos hi, if_pos hi, (s2 i hi).1, (s2 i hi).2.1]
    · rw [if_neg hi, if_neg hi]
  · funext i
    unfold avM
    by_cases hi : i < 20
    · rw [if_pos hi, if_pos hi, (s2 i hi).2.2.1, (s2 i hi).2.2.2.1]
    · rw [if_neg hi, if_neg hi]
  · funext i
    unfold ntM
    by_cases hi : i < 20
    · rw [(s2 i hi).2.2.2.2]
    · rw [decide_eq_false hi, Bool.false_and, Bool.false_and]
  · funext i
    unfold rgM
    by_cases hi : i < 6
    · rw [if_pos hi, if_pos hi, s3 i hi]
    · rw [if_neg hi, if_neg hi]
theorem sessOK_cg (S : sessOK h A o M E Cn nf U k) (t2 : TS h2 A1 o1 k) (hI : ∀ j, j < 5 → gI h2 (A1 (bS k + j)) = gI h (A (bS k + j))) (hR : gR h2 (A1 (bS k)) 0 = gR h (A (bS k)) 0) (hF : ∀ f, f < nf → A1 (bF f) = A (bF f)) (hnf : nf ≤ nf2) (hU9 : U ≤ U2) (fv : ∀ f, f < nf → fV M M2 f) (sv : sV M M2 k) : sessOK h2 A1 o1 M2 E Cn nf2 U2 k := by
  obtain ⟨s1, ⟨s2, s3⟩, s4, ⟨s5, s6, s7⟩, ⟨s8, s9⟩, ⟨w1, w2, w3, w4⟩, ⟨c1, c2⟩, g1, g2, n1, n2⟩ := S
  obtain ⟨e1, e2, e3, e4, e5⟩ := sV_fun sv
  obtain ⟨f1, f2, f3⟩ := fv (fS M k) s3
  obtain ⟨⟨v1, v2, v3, v4, v5⟩, v6, v7⟩ := sv
  have i0 : gI h2 (A1 (bS k)) = gI h (A (bS k)) := hI 0 (by omega)
  refine ⟨t2, ⟨by rw [e1, v1]; exact s2, by rw [e1]; omega⟩, by rw [e1, hR, hF _ s3]; exact s4, ⟨by rw [i0, v2]; exact s5, by rw [v2]; exact s6, by rw [v2]; omega⟩, ⟨fun i hi => by rw [hI 1 (by omega), e5]; exact s8 i hi, by rw [e5]; exact s9⟩, ?_⟩
  unfold sessI sW
  rw [e1, e2, e3, e4, e5, f1, f2, i0, hI 2 (by omega), hI 3 (by omega), hI 4 (by omega), v3, v4, v5]
  refine ⟨⟨w1, w2, w3, w4⟩, ⟨c1, c2⟩, fun i hi => ?_, fun i hi => ?_, n1, n2⟩
  · rw [(v6 i hi).1, (v6 i hi).2.1, f1, f2, (f3 i hi).1, (f3 i hi).2]; exact g1 i hi
  · rw [(v6 i hi).2.2.1, (v6 i hi).2.2.2.1, f1, f2, (f3 i hi).1, (f3 i hi).2]; exact g2 i hi
theorem vS_j {j : Nat} (t : TS h A o k) (hj : j < 5) : ∃ kd, liv h A o (bS k + j) kd := by
  have : ∃ kd ∈ [10, 100], (j, kd) ∈ kS := (show ∀ j : Fin 5, ∃ kd ∈ [10, 100], (j.val, kd) ∈ kS by decide) ⟨j, hj⟩
  obtain ⟨kd, -, hm⟩ := this
  exact ⟨kd, t.1 _ hm⟩
theorem sesZ_cg (z : sesZ M ns) (sv : ∀ k, ns ≤ k → k < 60 → sV M M2 k) : sesZ M2 ns := fun k h1 h2 => by
  obtain ⟨⟨-, -, q3, -⟩, q, -⟩ := sv k h1 h2
  refine ⟨by rw [q3]; exact (z k h1 h2).1, fun i hi => ?_⟩
  obtain ⟨q4, -, q5, -, q6⟩ := q i hi
  rw [q4, q5, q6]
  exact (z k h1 h2).2 i hi
theorem SessA_fr (b : base h o) (S : SessA h A o M E Cn nf ns U) (fr1 : fr h h2 A A1 o o1 C) (hc : ¬ C 6) (hF : ∀ f, f < nf → A1 (bF f) = A (bF f)) (hnf : nf ≤ nf2) (hU9 : U ≤ U2) (fv : ∀ f, f < nf → fV M M2 f) (sv : ∀ k, k < 60 → sV M M2 k) (m3 : M2 44 38 = M 44 38) : SessA h2 A1 o1 M2 E Cn nf2 ns U2 := by
  have hN := b.1.1
  obtain ⟨f1, f2, f3, f4⟩ := S
  refine ⟨list_fr fr1 hc (by omega) (by omega) f1, by rw [m3]; exact f2, fun k hk => ?_, sesZ_cg f4 (fun k _ h6 => sv k h6)⟩
  have S := f3 k hk
  have ii : ∀ j, j < 5 → gI h2 (A1 (bS k + j)) = gI h (A (bS k + j)) ∧ gR h2 (A1 (bS k + j)) = gR h (A (bS k + j)) := fun j hj => by
    obtain ⟨kd, v⟩ := vS_j S.1 hj
    have := iS_fr fr1 hc (by omega) (by omega) v
    exact ⟨this.1, this.2.2.1⟩
  exact sessOK_cg S (TS_fr fr1 hc (by omega) S.1) (fun j hj => (ii j hj).1) (congrFun (ii 0 (by omega)).2 0) hF hnf hU9 fv (sv k (by have := f2.2; omega))
theorem fV_of (m : ∀ a, a = 53 ∨ a = 54 ∨ a = 56 ∨ a = 57 → M2 a = M a) : fV M M2 f := ⟨by unfold cnM; rw [m 53 (by omega)], by unfold soM; rw [m 54 (by omega)], fun i _ => by rw [m 56 (by omega), m 57 (by omega)]; exact ⟨rfl, rfl⟩⟩
theorem sV_of (m : ∀ a, 67 ≤ a → a ≤ 77 → M2 a = M a) : sV M M2 k := ⟨⟨by rw [m 67 (by omega) (by omega)], by rw [m 68 (by omega) (by omega)], by rw [m 70 (by omega) (by omega)], by rw [m 76 (by omega) (by omega)], by rw [m 77 (by omega) (by omega)]⟩, fun i _ => ⟨by rw [m 71 (by omega) (by omega)], by rw [m 72 (by omega) (by omega)], by rw [m 73 (by omega) (by omega)], by rw [m 74 (by omega) (by omega)], by rw [m 75 (by omega) (by omega)]⟩, fun j _ => by rw [m 69 (by omega) (by omega)]⟩
theorem SessA_left {as fs : List Nat} {n t : Nat} (b : base h o) (S : SessA h A o (gI h) E Cn nf ns U) (l : left h h2 A A1 o o1 C as fs n t) (hc : ¬ C 6) (hc5 : ¬ C 5) (hn6 : nf ≤ 6) (hU9 : U ≤ U2) (ha : ∀ a ∈ as, ¬ (67 ≤ a ∧ a ≤ 77) ∧ a ≠ 53 ∧ a ≠ 54 ∧ a ≠ 56 ∧ a ≠ 57) (hf : 38 ∉ fs) : SessA h2 A1 o1 (gI h2) E Cn nf ns U2 := by
  obtain ⟨l1, l2, ⟨l3, l4, l5⟩, -⟩ := l
  have hcc : ∀ c, c < 14 → ¬ C c → ¬ (C c ∨ c = 14 ∨ c = 15) := fun c h1 h2 => by rintro (q | q | q); exact h2 q; omega; omega
  refine SessA_fr b S l2 (hcc 6 (by omega) hc) (fun f hf => ?_) (Nat.le_refl _) hU9 (fun f hf => fV_of fun a q => l3 a (by omega) (by omega) (fun w => ?_)) (fun k hk => sV_of fun a h1 h2 => l3 a (by omega) (by omega) (fun q => (ha a q).1 ⟨h1, h2⟩)) (l4 38 (by decide) hf)
  · exact l2.2.2 _ (by unfold bF; rw [show (5001000 + 100 * f) / 1000000 = 5 by omega]; exact hcc 5 (by omega) hc5)
  · have := ha a w; omega
/-- what a session's call stands on -/
theorem sX_of (F : FormA h A o M E Cn nf) (S : SessA h A o M E Cn nf ns U) (hk : k < ns) : sX h A o k (fS M k) (cnM M (fS M k)) (soM M (fS M k)) (E (fS M k)) (Cn (fS M k)) (rgM M k) := by
  obtain ⟨s1, ⟨s2, s3⟩, s4, s5, ⟨s8, s9⟩, s10⟩ := S.2.2.1 k hk
  exact ⟨(F.2.2 _ s3).1, s1, by have := S.2.1.2; omega, s4, s8, s9⟩
theorem gOK_of (hg : gaOK M 71 72 k f) (fb : ∀ s, s < cnM M f → formB h A M f s) : gOK M k := fun i hi hne => by
  obtain ⟨a1, a2, a3, a4⟩ := hg i hi hne
  obtain ⟨-, -, -, b4⟩ := fb i a1
  have := (b4 a2).1
  omega
theorem gv_bnd (hg : gaOK M 71 72 k f) (fb : ∀ s, s < cnM M f → formB h A M f s) : bndI 20 (gvM M k) := fun i hi => by
  unfold gvM
  rw [if_pos hi]
  split
  · exact Or.inl rfl
  · rename_i hne
    obtain ⟨a1, a2, a3, a4⟩ := hg i hi hne
    obtain ⟨-, -, -, b4⟩ := fb i a1
    have := (b4 a2).1
    exact Or.inr (by omega)
theorem av_bnd (hg : gaOK M 73 74 k f) (fb : ∀ s, s < cnM M f → formB h A M f s) : bndI 20 (avM M k) := fun i hi => by
  unfold avM
  rw [if_pos hi]
  split
  · exact Or.inl rfl
  · rename_i hne
    obtain ⟨a1, a2, a3, a4⟩ := hg i hi hne
    obtain ⟨-, -, -, b4⟩ := fb i a1
    have := (b4 a2).1
    exact Or.inr (by omega)
theorem pr_question {x : Int32} (b : base h o) (F : FormA h A o (gI h) E Cn nf) (S : SessA h A o (gI h) E Cn nf ns U) : Pr 143 150 [vI x] [3] h (fun h2 => left h h2 A A o o (fun _ => False) [65, 66] [36, 37, 50, 51, 52] 1 6) := by
  have hs := S.2.1.1
  have hs6 := S.2.1.2
  have hs2 : (nI ns).toInt = ns := ti_n (by omega)
  by_cases q : 0 ≤ x.toInt ∧ x.toInt < ns
  · generalize hk : x.toInt.toNat = k at *
    have hx : x = nI k := by rw [← hk]; exact ti_nat q.1
    have hk2 : k < ns := by omega
    have X0 := sX_of F S hk2
    obtain ⟨s1, ⟨s2, s3⟩, s4, s5, ⟨s8, s9⟩, ⟨w1, w2, w3, w4⟩, ⟨c1, c2⟩, g1, g2, n1, n2⟩ := S.2.2.1 k hk2
    have FO := F.2.2 _ s3
    have hle := en_le (so := soM (gI h) (fS (gI h) k)) (E := E (fS (gI h) k)) (Cn := Cn (fS (gI h) k)) (gv := gvM (gI h) k) (rg := rgM (gI h) k) (cnt := cnM (gI h) (fS (gI h) k))
    refine Pr_ok (if enW (soM (gI h) (fS (gI h) k)) (E (fS (gI h) k)) (Cn (fS (gI h) k)) (gvM (gI h) k) (rgM (gI h) k) (cnM (gI h) (fS (gI h) k)) < cnM (gI h) (fS (gI h) k) then nI (enW (soM (gI h) (fS (gI h) k)) (E (fS (gI h) k)) (Cn (fS (gI h) k)) (gvM (gI h) k) (rgM (gI h) k) (cnM (gI h) (fS (gI h) k))) else -1) (fun h1 => h1 = h) (fun K X kk => m143 ?_) (fun h1 J1 m j K X kk => m150 ?_)
    · simp only [↓forall_eq, ↓inB_iff, gK_hU, gL_hU, gR_hU, gIh, gJh, pI_hU, pJ_hU, hU_hU, uI_app, uJ_app, and_true, true_and, and_false, false_and, and_self, true_implies, false_implies, not_true, not_false_iff, if_true, if_false, eq_self, Nat.reduceLeDiff, Nat.reduceEqDiff, reduceCtorEq, i32c, ti0, ti1, tiM, Int.natCast_nonneg, Int.reduceEq, Int.reduceLE, Int.reduceLT, Int.reduceNeg, tl_i, Int32.reduceToInt, Int64.reduceToInt, tiA, tlM6, Int.toNat_natCast, natc, nI_1, Int.zero_sub, implies_true, not_false_eq_true, ck_8 b.1, ↓sessionAt_br b S.1, q, hk, eS_0 s1, kS_0 s1, ↓asked_br X0 w4 hle]
      exact kk h rfl
    · subst m
      subst hx
      have mf := b.2.1
      have q' : 0 ≤ (nI k).toInt ∧ (nI k).toInt < ns := q
      simp only [↓forall_eq, ↓inB_iff, gK_hU, gL_hU, gR_hU, gIh, gJh, pI_hU, pJ_hU, hU_hU, uI_app, uJ_app, and_true, true_and, and_false, false_and, and_self, true_implies, false_implies, not_true, not_false_iff, if_true, if_false, eq_self, Nat.reduceLeDiff, Nat.reduceEqDiff, reduceCtorEq, i32c, ti0, ti1, tiM, Int.natCast_nonneg, Int.reduceEq, Int.reduceLE, Int.reduceLT, Int.reduceNeg, tl_i, Int32.reduceToInt, Int64.reduceToInt, tiA, tlM6, Int.toNat_natCast, natc, nI_1, Int.zero_sub, implies_true, not_false_eq_true, mf.1, ↓fail_br mf, ↓isSession_br mf, hs, hs2, q']
      have fm : fmM (uI (gI h1) 44 0 0) (fS (gI h1) k) (cnM (gI h1) (fS (gI h1) k)) (soM (gI h1) (fS (gI h1) k)) (E (fS (gI h1) k)) (Cn (fS (gI h1) k)) := fmM_cg (fun a q1 q2 => by rw [uI_ne _ _ _ (by omega)]) FO.2.1
      refine m_quest mf (by rw [uI_ne _ _ _ (by decide)]; exact s2) fm (by omega) (fun i hi => by rw [uI_ne _ _ _ (by decide), uI_ne _ _ _ (by decide)]; exact gOK_of g1 FO.2.2.1 i hi) fun I2 a1 a2 => ?_
      have e1 : gvM (uI (gI h1) 44 0 0) k = gvM (gI h1) k := by funext i; unfold gvM; rw [uI_ne _ _ _ (by decide), uI_ne _ _ _ (by decide)]
      have e2 : rgM (uI (gI h1) 44 0 0) k = rgM (gI h1) k := by funext i; unfold rgM; rw [uI_ne _ _ _ (by decide)]
      have e3 : quM (soM (gI h1) (fS (gI h1) k)) (E (fS (gI h1) k)) (Cn (fS (gI h1) k)) (gvM (uI (gI h1) 44 0 0) k) (rgM (uI (gI h1) 44 0 0) k) (cnM (gI h1) (fS (gI h1) k)) (!decide ((uI (gI h1) 44 0 0 70 k).toInt = 0)) = if enW (soM (gI h1) (fS (gI h1) k)) (E (fS (gI h1) k)) (Cn (fS (gI h1) k)) (gvM (gI h1) k) (rgM (gI h1) k) (cnM (gI h1) (fS (gI h1) k)) < cnM (gI h1) (fS (gI h1) k) then nI (enW (soM (gI h1) (fS (gI h1) k)) (E (fS (gI h1) k)) (Cn (fS (gI h1) k)) (gvM (gI h1) k) (rgM (gI h1) k) (cnM (gI h1) (fS (gI h1) k))) else -1 := by
        rw [e1, e2, uI_ne _ _ _ (by decide)]
        unfold quM
        by_cases c : enW (soM (gI h1) (fS (gI h1) k)) (E (fS (gI h1) k)) (Cn (fS (gI h1) k)) (gvM (gI h1) k) (rgM (gI h1) k) (cnM (gI h1) (fS (gI h1) k)) < cnM (gI h1) (fS (gI h1) k)
        · rw [if_pos c, if_neg]
          rintro (z | z)
          · rcases c2 with z2 | ⟨z2, z3⟩
            · rw [z2] at z; exact absurd z (by decide)
            · omega
          · omega
        · rw [if_neg c, if_pos (Or.inr (by omega))]
      rw [e3]
      exact kk _ (by rw [gIh, a1.2 0 (by decide) (by decide) (by decide) (by decide) (by decide), uI_same]) rfl (left_mk b b fr_refl (fun w => w) (by simp) (fun a z1 z2 => by
        simp only [List.mem_cons, List.not_mem_nil, or_false, not_or] at z2
        rw [a1.1 a z1 z2.1 z2.2, uI_ne _ _ _ z1]) (fun j9 z1 z2 => by
        simp only [List.mem_cons, List.not_mem_nil, or_false, not_or] at z2
        rw [a1.2 j9 z2.1 z2.2.1 z2.2.2.1 z2.2.2.2.1 z2.2.2.2.2, uI_nj _ _ _ _ z1]) (fun a a1 _ => j a a1) (by omega) (by omega))
  · refine Pr_gc (A := A) (C := fun _ => False) 0 3 b (by decide) rfl (fun K X k => m143 ?_) (fun g J K X mf e k => m150 ?_) (fun h2 l => left_mono l (fun _ w => w) (by simp) (by simp) (by omega) (by omega))
    · simp only [↓forall_eq, ↓inB_iff, gK_hU, gL_hU, gR_hU, gIh, gJh, pI_hU, pJ_hU, hU_hU, uI_app, uJ_app, and_true, true_and, and_false, false_and, and_self, true_implies, false_implies, not_true, not_false_iff, if_true, if_false, eq_self, Nat.reduceLeDiff, Nat.reduceEqDiff, reduceCtorEq, i32c, ti0, ti1, tiM, Int.natCast_nonneg, Int.reduceEq, Int.reduceLE, Int.reduceLT, Int.reduceNeg, tl_i, Int32.reduceToInt, Int64.reduceToInt, tiA, tlM6, Int.toNat_natCast, natc, nI_1, Int.zero_sub, implies_true, not_false_eq_true, ck_8 b.1, ↓sessionAt_br b S.1, q]
      exact k
    · simp only [↓forall_eq, ↓inB_iff, gK_hU, gL_hU, gR_hU, gIh, gJh, pI_hU, pJ_hU, hU_hU, uI_app, uJ_app, and_true, true_and, and_false, false_and, and_self, true_implies, false_implies, not_true, not_false_iff, if_true, if_false, eq_self, Nat.reduceLeDiff, Nat.reduceEqDiff, reduceCtorEq, i32c, ti0, ti1, tiM, Int.natCast_nonneg, Int.reduceEq, Int.reduceLE, Int.reduceLT, Int.reduceNeg, tl_i, Int32.reduceToInt, Int64.reduceToInt, tiA, tlM6, Int.toNat_natCast, natc, nI_1, Int.zero_sub, implies_true, not_false_eq_true, mf.1, ↓fail_br mf, ↓isSession_br mf, e 44 (by decide) (by decide), hs, hs2, q]
      exact k
end SSP
