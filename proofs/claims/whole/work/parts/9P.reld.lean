/-! RELEASES: the class makes one and lists it -/
section RLD
variable {d N nk : Nat} {h : aH} {A o : Nat → Nat} {X : Nat → aH → Prop} {pe mi : Int32}
def relN (h h5 : aH) (A A2 o o2 : Nat → Nat) (nk tb pu N : Nat) (pe mi : Int32) : Prop := listT h5 A2 o2 39 10 (nk + 1) 7 ∧ fr h h5 A A2 o o2 (fun c => c = 10) ∧ (∀ l, l ≠ 10000035 → (l < bL nk ∨ bL nk + 2 ≤ l) → A2 l = A l) ∧ keeps h h5 (fun q => q = 39 ∨ (0 < nk ∧ q = A 10000035)) ∧ TL h5 A2 o2 nk ∧ gR h5 (A2 (bL nk)) 0 = tb ∧ gL h5 (A2 (bL nk + 1)) = N ∧ (gI h5 (A2 (bL nk)) 2 = gI h tb 13 ∧ gI h5 (A2 (bL nk)) 3 = pe ∧ gI h5 (A2 (bL nk)) 4 = mi) ∧ (∀ i, i < N → gI h5 (A2 (bL nk + 1)) i = gI h pu i) ∧ gN h5 ≤ gN h + 3 ∧ gT h5 ≤ gT h + 200
theorem c_mkRel {K : Int32 → aH → Prop} {tb pu : Nat} (L : listT h A o 39 10 nk 7) (hn : nk < 12) (ol : o 39 = 10000034) (ht : gK h tb = 11 ∧ tb < gN h) (hp : 8 ≤ pu ∧ pu < gN h ∧ gK h pu = 100 ∧ gL h pu = N ∧ gR h tb 10 = pu) (h6 : gI h tb 6 = nI N) (hN : N ≤ 12)
    (kk : ∀ h5 A2 o2, relN h h5 A A2 o o2 nk tb pu N pe mi → K 1 h5) : CV 499 313 [vR (gN h), vR tb, vI pe, vI mi] (gNew h 7 5) (fun h5 => gK h5 39 = 13 ∧ CI 499 98 [vR 39, vR (gN h)] h5 K X) (fun _ _ => False) := by
  have N8 : 40 ≤ gN h := by have := L.1.2.2.2.2; omega
  have e1 : tb ≠ gN h := by omega
  have e2 : pu ≠ gN h := by omega
  have kn : keeps h (gNew h 7 5) (fun _ => False) := keeps_new _ _ _ _
  have st := kn.2.2.2 tb ht.2 (fun w => w)
  have sp := kn.2.2.2 pu hp.2.1 (fun w => w)
  have gn0 : gN (gNew h 7 5) = gN h + 1 := by simp only [gN_pR, gT_pR, gK_pR, gL_pR, gR_pR, gI_pR, gJ_pR, gN_gNew, gT_gNew, gK_gNew, gL_gNew, gR_gNew, gI_gNew, gJ_gNew]
  have gt0 : gT (gNew h 7 5) = gT h + 5 := by simp only [gN_pR, gT_pR, gK_pR, gL_pR, gR_pR, gI_pR, gJ_pR, gN_gNew, gT_gNew, gK_gNew, gL_gNew, gR_gNew, gI_gNew, gJ_gNew]
  refine c_newRel (d := 497) (N := N) (pu := pu) ⟨by omega, by omega, by simp only [gN_pR, gT_pR, gK_pR, gL_pR, gR_pR, gI_pR, gJ_pR, gN_gNew, gT_gNew, gK_gNew, gL_gNew, gR_gNew, gI_gNew, gJ_gNew, if_true]⟩ ⟨by rw [st.1]; exact ht.1, by omega⟩ ⟨hp.1, by omega, by rw [sp.1]; exact hp.2.2.1, by rw [sp.2.1]; exact hp.2.2.2.1, by rw [st.2.2.2.2]; exact hp.2.2.2.2⟩ (by rw [st.2.2.1]; exact h6) hN (fun h4 k4 g4 t4 a4 r4 i4 => ?_)
  rw [gn0] at g4 a4 r4
  have k04 : keeps h h4 (fun _ => False) := ⟨by omega, by omega, fun a ha => by
      have q := k4.2.2.1 a (by omega)
      have q0 := kn.2.2.1 a ha
      exact ⟨q.1.trans q0.1, q.2.trans q0.2⟩, fun a ha _ => by
      have q := k4.2.2.2 a (by omega) (by omega)
      have q0 := kn.2.2.2 a ha (fun w => w)
      exact ⟨q.1.trans q0.1, q.2.1.trans q0.2.1, fun j => (q.2.2.1 j).trans (q0.2.2.1 j), fun j => (q.2.2.2.1 j).trans (q0.2.2.2.1 j), fun j => (q.2.2.2.2 j).trans (q0.2.2.2.2 j)⟩⟩
  have K7 : gK h4 (gN h) = 7 := by
    have q := k4.2.2.1 (gN h) (by omega)
    rw [q.1]; simp only [gN_pR, gT_pR, gK_pR, gL_pR, gR_pR, gI_pR, gJ_pR, gN_gNew, gT_gNew, gK_gNew, gL_gNew, gR_gNew, gI_gNew, gJ_gNew, if_true]
  refine ⟨by rw [(k04.2.2.1 39 (by omega)).1]; exact L.1.1, ?_⟩
  refine c_born (d := 493) (h := h) (A := A) (o := o) (m := 2) (σ := fun j => j) (τ := fun j => j) (C := fun c => c = 10) (p := fun _ => False) L (by omega) (by decide) (by decide) k04 (by omega) (by decide) (fun j hj => ⟨hj, rfl⟩) rfl K7 (fun w => w) (fun _ w => w) (fun q _ w => w.elim) rfl (fun h5 A2 o2 l5 f5 lb st5 k5 i5 gn gt => ?_)
  have nA : 0 < nk → A 10000035 < gN h := fun z => (list_dat L z).2.1.2.2.1
  have b0 : A2 (bL nk) = gN h ∧ o2 (gN h) = bL nk := by have := lb 0 (by omega); exact this
  have b1 : A2 (bL nk + 1) = gN h + 1 ∧ o2 (gN h + 1) = bL nk + 1 := by have := lb 1 (by omega); exact this
  have s0 := k5.2.2.2 (gN h) (by omega) (fun w => by rcases w with w | w; omega; have := nA w.1; have w2 : gN h = A 10000035 := w.2; omega)
  have s1 := k5.2.2.2 (gN h + 1) (by omega) (fun w => by rcases w with w | w; omega; have := nA w.1; have w2 : gN h + 1 = A 10000035 := w.2; omega)
  refine kk h5 A2 o2 ⟨l5, f5, fun l z1 z2 => st5 l (by omega) z2, ?_, ⟨fun q hq => ?_, fun q hq => ?_, fun q hq => ?_⟩, ?_, ?_, ⟨?_, ?_, ?_⟩, fun i hi => ?_, by omega, by omega⟩
  · refine ⟨by have := k5.1; omega, by have := k5.2.1; omega, fun a ha => ?_, fun a ha hq => ?_⟩
    · have q := k5.2.2.1 a (by omega)
      have q0 := k04.2.2.1 a ha
      exact ⟨q.1.trans q0.1, q.2.trans q0.2⟩
    · have q := k5.2.2.2 a (by omega) hq
      have q0 := k04.2.2.2 a ha (fun w => w)
      exact ⟨q.1.trans q0.1, q.2.1.trans q0.2.1, fun j => (q.2.2.1 j).trans (q0.2.2.1 j), fun j => (q.2.2.2.1 j).trans (q0.2.2.2.1 j), fun j => (q.2.2.2.2 j).trans (q0.2.2.2.2 j)⟩
  · have hk : q = (0, 7) ∨ q = (1, 100) := (show ∀ q ∈ kL, q = (0, 7) ∨ q = (1, 100) by decide) q hq
    have gn5 := k5.1
    unfold liv
    rcases hk with e | e <;> rw [e] <;> dsimp only
    · rw [Nat.add_zero, b0.1, b0.2, s0.1]; exact ⟨rfl, by omega, by omega, K7⟩
    · rw [b1.1, b1.2, s1.1]; exact ⟨rfl, by omega, by omega, a4.1⟩
  · exact absurd hq (by unfold lL; simp)
  · have hk : q = (0, 1, 1) := (show ∀ q ∈ rL, q = (0, 1, 1) by decide) q hq
    rw [hk]; dsimp only
    rw [Nat.add_zero, b0.1, b1.1, s0.2.2.2.2]; exact r4.2
  · rw [b0.1, s0.2.2.2.2]; exact r4.1
  · rw [b1.1, s1.2.1]; exact a4.2.1
  · rw [b0.1, s0.2.2.1, i4.1]; exact st.2.2.1 13
  · rw [b0.1, s0.2.2.1]; exact i4.2.1
  · rw [b0.1, s0.2.2.1]; exact i4.2.2
  · rw [b1.1, s1.2.2.1, a4.2.2 i hi]; exact sp.2.2.1 i
theorem c_release {K : Int32 → aH → Prop} {np nt : Nat} {a1 a2 a3 : Int32} (b : base h o) (P : PerA h A o (gI h) np) (Tb : TabA h A o (gI h) nt) (L : listT h A o 39 10 nk 7) (mm : gI h 8 12 = gI h 44 1)
    (w1 : ¬ ((0 ≤ a1.toInt ∧ a1.toInt < np) ∧ (0 ≤ a2.toInt ∧ a2.toInt < nt)) → X 3 (gNew h 200 6))
    (w2 : ((0 ≤ a1.toInt ∧ a1.toInt < np) ∧ (0 ≤ a2.toInt ∧ a2.toInt < nt)) → (gI h 99 a1.toInt.toNat &&& 1).toInt = 0 → X 2 (gNew h 200 6))
    (w3 : ((0 ≤ a1.toInt ∧ a1.toInt < np) ∧ (0 ≤ a2.toInt ∧ a2.toInt < nt)) → ¬ (gI h 99 a1.toInt.toNat &&& 1).toInt = 0 → a3.toInt < (gI h 44 1).toInt → X 1 (gNew h 200 6))
    (w4 : ((0 ≤ a1.toInt ∧ a1.toInt < np) ∧ (0 ≤ a2.toInt ∧ a2.toInt < nt)) → ¬ (gI h 99 a1.toInt.toNat &&& 1).toInt = 0 → ¬ a3.toInt < (gI h 44 1).toInt → ¬ nk < 12 → X 4 (gNew h 200 6))
    (w5 : ((0 ≤ a1.toInt ∧ a1.toInt < np) ∧ (0 ≤ a2.toInt ∧ a2.toInt < nt)) → ¬ (gI h 99 a1.toInt.toNat &&& 1).toInt = 0 → ¬ a3.toInt < (gI h 44 1).toInt → nk < 12 → ∀ h5 A2 o2 R C, tabS h A (gI h) a2.toInt.toNat R C → relN h h5 A A2 o o2 nk (A (bT a2.toInt.toNat)) (A (bT a2.toInt.toNat + 4)) (R * C) a1 a3 → K (nI nk) h5) : CI 500 314 [vR 8, vI a1, vI a2, vI a3] h K X := by
  obtain ⟨⟨f1, f2⟩, ⟨f3, f4⟩, f5⟩ := P
  have hn : (nI np).toInt = np := ti_n (by omega)
  have SZ := fun (K : Int32 → aH → Prop) X => size_br (d := 498) (K := K) (X := X) (I := gI h) (J := gJ h) f3 rfl
  rw [hU_eta] at SZ
  refine m314 ⟨by decide, ck_8 b.1, m312 ?_⟩
  simp only [↓forall_eq, ↓inB_iff, gK_hU, gL_hU, gR_hU, gIh, gJh, pI_hU, pJ_hU, hU_hU, uI_app, uJ_app, and_true, true_and, and_false, false_and, and_self, true_implies, false_implies, not_true, not_false_iff, if_true, if_false, eq_self, Nat.reduceLeDiff, Nat.reduceEqDiff, reduceCtorEq, i32c, ti0, ti1, tiM, Int.natCast_nonneg, Int.reduceEq, Int.reduceLE, Int.reduceLT, Int.reduceNeg, tl_i, Int32.reduceToInt, Int64.reduceToInt, tiA, tlM6, Int.toNat_natCast, natc, nI_1, Int.zero_sub, implies_true, not_false_eq_true, ck_8 b.1, cr_8_10 b.1, ck_40 b.1, ↓SZ]
  refine c_needIndex (fun y1 y2 => ?_) (fun z => w1 (fun y => z ⟨y.1.1, by rw [hn]; exact y.1.2⟩))
  rw [hn] at y2
  refine ⟨ck_8 b.1, ?_⟩
  rw [tableAt_br b Tb.1]
  refine ⟨fun q2 => ?_, fun q2 => w1 (fun y => q2 y.2)⟩
  have cd : (0 ≤ a1.toInt ∧ a1.toInt < np) ∧ (0 ≤ a2.toInt ∧ a2.toInt < nt) := ⟨⟨y1, y2⟩, q2⟩
  generalize hp : a1.toInt.toNat = p at *
  have ha : a1 = nI p := by rw [← hp]; exact ti_nat y1
  have AT := fun (K : Int32 → aH → Prop) X => at_br (d := 498) (y := 0) (K := K) (X := X) (I := gI h) (J := gJ h) f3 (show p < np by omega) (show (0 : Int32) = nI 0 from rfl) (by decide) rfl
  have v := (f5 p (by omega)).1
  rw [hU_eta, ← ha] at AT
  obtain ⟨T, R, C, S⟩ := Tb.2.2 a2.toInt.toNat (by omega)
  have m12 : R * C ≤ 4 * 3 := Nat.mul_le_mul S.1.1.2 S.1.2.2
  simp only [↓forall_eq, ↓inB_iff, gK_hU, gL_hU, gR_hU, gIh, gJh, pI_hU, pJ_hU, hU_hU, uI_app, uJ_app, and_true, true_and, and_false, false_and, and_self, true_implies, false_implies, not_true, not_false_iff, if_true, if_false, eq_self, Nat.reduceLeDiff, Nat.reduceEqDiff, reduceCtorEq, i32c, ti0, ti1, tiM, Int.natCast_nonneg, Int.reduceEq, Int.reduceLE, Int.reduceLT, Int.reduceNeg, tl_i, Int32.reduceToInt, Int64.reduceToInt, tiA, tlM6, Int.toNat_natCast, natc, nI_1, Int.zero_sub, implies_true, not_false_eq_true, ck_8 b.1, cr_8_10 b.1, ck_40 b.1, ↓AT, Nat.mul_one, Nat.add_zero, v, mm, cr_8_9 b.1, L.1.1, ↓lsize_br L]
  refine ⟨fun z => w2 cd z, fun z => ⟨fun z2 => w3 cd z z2, fun z2 => ?_⟩⟩
  have nk60 := L.2.1.2.1
  have nkI : (nI nk).toInt = nk := ti_n (by omega)
  rw [nkI]
  refine ⟨fun z3 => ?_, fun z3 => w4 cd z z2 (by omega)⟩
  have hN := b.1.1
  intro r0 h4 x1 x2
  rw [x1, x2]
  refine ⟨by omega, ?_⟩
  refine c_mkRel L (by omega) (ol_39 b.2.2) ⟨kT_0 T, nT_0 T⟩ ⟨eT_4 T, nT_4 T, kT_4 T, S.2.2.2.1 3 (by omega), rT_0_10 T⟩ S.2.2.1.2.2 (by omega) (fun h5 A2 o2 rn => ?_)
  have g5 : CF h5 := CF_keeps b.1 rn.2.2.2.1 (by
    have nd : ∀ q, o q / 1000000 ≠ 10 → ¬ (0 < nk ∧ q = A 10000035) := fun q hq w => hq (by rw [w.2, (list_dat L w.1).2.1.1])
    have n8 := nd 8 (by rw [ol_8 b.2.2]; decide)
    have n9 := nd 9 (by rw [ol_9 b.2.2]; decide)
    have n17 := nd 17 (by rw [ol_17 b.2.2]; decide)
    have n19 := nd 19 (by rw [ol_19 b.2.2]; decide)
    have n32 := nd 32 (by rw [ol_32 b.2.2]; decide)
    omega)
  simp only [↓forall_eq, ↓inB_iff, gK_hU, gL_hU, gR_hU, gIh, gJh, pI_hU, pJ_hU, hU_hU, uI_app, uJ_app, and_true, true_and, and_false, false_and, and_self, true_implies, false_implies, not_true, not_false_iff, if_true, if_false, eq_self, Nat.reduceLeDiff, Nat.reduceEqDiff, reduceCtorEq, i32c, ti0, ti1, tiM, Int.natCast_nonneg, Int.reduceEq, Int.reduceLE, Int.reduceLT, Int.reduceNeg, tl_i, Int32.reduceToInt, Int64.reduceToInt, tiA, tlM6, Int.toNat_natCast, natc, nI_1, Int.zero_sub, implies_true, not_false_eq_true, ck_8 g5, cr_8_9 g5, rn.1.1.1, ↓lsize_br rn.1, nI_pred]
  exact w5 cd z z2 (by omega) h5 A2 o2 R C S rn
end RLD
