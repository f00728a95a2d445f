/-! OPEN: the class's side -/
section OPC
variable {d f n nf ns nr U T : Nat} {h g h1 h5 : aH} {u : Int32} {A A1 A2 o o1 o2 : Nat → Nat} {X : Nat → aH → Prop} {M I : Nat → Nat → Int32} {J : Nat → Nat → Int64} {E : Nat → Nat → List Tm} {Cn : Nat → Nat → List Cmp}
/-- a unit's numbers, of today as known today -/
def rgV (M : Nat → Nat → Int32) (T : Nat) (u : Int32) (i : Nat) : Int32 := if i < 6 then valM M i (M 44 1 / 1440).toInt (M 44 1 / 1440).toInt (lastM M (M 44 1 / 1440).toInt u.toInt.toNat) T else 0
def sesN (h h5 : aH) (A A2 o o2 : Nat → Nat) (M : Nat → Nat → Int32) (E : Nat → Nat → List Tm) (Cn : Nat → Nat → List Cmp) (T f ns : Nat) (u : Int32) : Prop := listT h5 A2 o2 35 6 (ns + 1) 10 ∧ fr h h5 A A2 o o2 (fun c => c = 1 ∨ c = 6) ∧ (∀ l, l ≠ 6000035 → (l < bS ns ∨ bS ns + 5 ≤ l) → A2 l = A l) ∧ keeps h h5 (fun q => q = 14 ∨ q = 15 ∨ q = 35 ∨ (0 < ns ∧ q = A 6000035)) ∧ TS h5 A2 o2 ns ∧ (gR h5 (A2 (bS ns)) 0 = A (bF f) ∧ gI h5 (A2 (bS ns)) 1 = u ∧ gI h5 (A2 (bS ns)) 9 = 0 ∧ gI h5 (A2 (bS ns)) 12 = 0) ∧ (∀ i, i < 6 → gI h5 (A2 (bS ns + 1)) i = rgV M T u i) ∧ sW h5 A2 ns (cnM M f) (soM M f) (E f) (Cn f) (rgV M T u) (fun _ => -2000000) (fun _ => -2000000) ∧ gN h5 ≤ gN h + 6 ∧ gT h5 ≤ gT h + 180
theorem rgV_b (R : RegA h A o M U T) : bndI 6 (rgV M T u) := fun i hi => by
  unfold rgV valM
  rw [if_pos hi]
  split
  · exact Or.inl rfl
  · rename_i c
    rcases best_rng (M := M) (fi := (i : Int)) (da := (M 44 1 / 1440).toInt) (kn := (M 44 1 / 1440).toInt) (w := lastM M (M 44 1 / 1440).toInt u.toInt.toNat) T with e | e
    · exact absurd e c
    · have := (R.2.2.2.2.2.2.2 _ (show (bestM M (i : Int) (M 44 1 / 1440).toInt (M 44 1 / 1440).toInt (lastM M (M 44 1 / 1440).toInt u.toInt.toNat) T).toNat < T by omega)).2
      exact Or.inr this
theorem sFr_keeps {k : Nat} {p : Nat → Prop} {g4 : aH} (kp : keeps h g4 p) (s : sFr g4 A1 k I) (hs : ∀ j, j < 5 → gN h ≤ A1 (bS k + j)) : keeps h (hU g4 I (gJ g4)) p := by
  refine ⟨kp.1, kp.2.1, kp.2.2.1, fun a ha hp => ?_⟩
  have z := kp.2.2.2 a ha hp
  have h0 : gN h ≤ A1 (bS k) := hs 0 (by omega)
  refine ⟨z.1, z.2.1, fun j => ?_, z.2.2.2.1, z.2.2.2.2⟩
  rw [gI_hU, s.1 a (by omega) (by have := hs 2 (by omega); omega) (by have := hs 3 (by omega); omega) (by have := hs 4 (by omega); omega)]
  exact z.2.2.1 j
theorem c_open {K : Int32 → aH → Prop} (b : base h o) (F : FormA h A o (gI h) E Cn nf) (Rg : RegA h A o (gI h) U T) (S : SessA h A o (gI h) E Cn nf ns U) (mm : gI h 8 12 = gI h 44 1) (hf : f < nf) (hu : 0 ≤ u.toInt ∧ u.toInt < U) (hu2 : (gI h 45 u.toInt.toNat).toInt = -1) (hns : ns < 60)
    (kk : ∀ h5 A2 o2, sesN h h5 A A2 o o2 (gI h) E Cn T f ns u → K (nI ns) h5) : CI 500 137 [vR 8, vI (nI f), vI u] h K X := by
  have hN := b.1.1
  have n6 := F.2.1.2
  have hfI : (nI f).toInt = f := ti_n (by omega)
  have q : 0 ≤ (f : Int) ∧ (f : Int) < nf := by omega
  have hsI : (nI ns).toInt = ns := ti_n (by omega)
  have z60 : (ns : Int) < 60 := by omega
  have L := S.1
  have cr5 := cr_8_5 b.1
  have k35 := L.1.1
  refine m137 ?_
  simp only [↓forall_eq, ↓inB_iff, gK_hU, gL_hU, gR_hU, gIh, gJh, pI_hU, pJ_hU, hU_hU, uI_app, uJ_app, and_true, true_and, and_false, false_and, and_self, true_implies, false_implies, not_true, not_false_iff, if_true, if_false, eq_self, Nat.reduceLeDiff, Nat.reduceEqDiff, reduceCtorEq, i32c, ti0, ti1, tiM, Int.natCast_nonneg, Int.reduceEq, Int.reduceLE, Int.reduceLT, Int.reduceNeg, tl_i, Int32.reduceToInt, Int64.reduceToInt, tiA, tlM6, Int.toNat_natCast, natc, nI_1, Int.zero_sub, implies_true, not_false_eq_true, ck_8 b.1, ↓formAt_br b F.1, hfI, q, ↓needUnit_br b Rg, hu, ↓needUnm_br b Rg hu, hu2, cr5, k35, ↓lsize_br L, hsI, z60]
  simp only [r_eq]
  -- the new object
  have kp0 : keeps h (gNew h 10 13) (fun _ => False) := keeps_new _ _ _ _
  have c0 : CF (gNew h 10 13) := CF_keeps b.1 kp0 (by simp)
  have i0 : ∀ a, a ≠ gN h → gI (gNew h 10 13) a = gI h a := fun a ha => by funext j; rw [gI_gNew, if_neg ha]
  have g8 : gR (gNew h 10 13) 8 0 = 9 := cr_8_0 c0
  have r3 := Rg.2.1
  have r4 := Rg.2.2.1
  have bN1 := r3.1.2.2.1.2.2.1
  have bN2 := r4.1.2.2.1.2.2.1
  rw [g8]
  refine ⟨ck_8 c0, m35 ⟨ck_8 c0, ?_⟩⟩
  have day : gI (gNew h 10 13) 8 12 = gI h 44 1 := by rw [i0 8 (by omega)]; exact mm
  rw [day]
  refine ⟨by decide, ck_9 c0, ?_⟩
  refine c_nums (d := 494) (M := gI h) c0 (units_keeps r3 kp0 (fun w => w) (fun w => w)) (tell_keeps r4 kp0 (fun w => w) (fun w => w)) Rg.2.2.2.2.2.1 (reg_ne b Rg) (fun r hr => (Rg.2.2.2.2.2.2.2 r hr).1) hu.1 hu.2 (by rw [gN_gNew]; omega) (fun I1 j1 j2 => ?_)
  rw [gN_gNew] at j1 j2 ⊢
  refine ⟨by omega, ?_⟩
  generalize hg1 : hU (gNew (gNew h 10 13) 100 6) I1 (gJ (gNew (gNew h 10 13) 100 6)) = g1
  have N1 : gN g1 = gN h + 2 := by rw [← hg1, gN_hU, gN_gNew, gN_gNew]
  have T1 : gT g1 = gT h + 19 := by rw [← hg1, gT_hU, gT_gNew, gT_gNew]
  have K0 : gK g1 (gN h) = 10 := by rw [← hg1, gK_hU, gK_gNew, gN_gNew, if_neg (by omega), gK_gNew, if_pos rfl]
  have K1 : gK g1 (gN h + 1) = 100 ∧ gL g1 (gN h + 1) = 6 := by rw [← hg1, gK_hU, gL_hU, gK_gNew, gL_gNew, gN_gNew, if_pos rfl, if_pos rfl]; exact ⟨rfl, rfl⟩
  have kp1 : keeps h g1 (fun q => q = 14 ∨ q = 15) := by
    rw [← hg1]
    have z := keeps_trans (keeps_new h 10 13 (fun q => q = 14 ∨ q = 15)) (keeps_new (gNew h 10 13) 100 6 (fun q => q = 14 ∨ q = 15))
    refine ⟨z.1, z.2.1, z.2.2.1, fun a ha hp => ?_⟩
    have y := z.2.2.2 a ha hp
    refine ⟨y.1, y.2.1, fun j => ?_, y.2.2.2.1, y.2.2.2.2⟩
    rw [gI_hU, j1 a (fun e => hp (Or.inl e)) (fun e => hp (Or.inr e)) (by omega), i0 a (by omega)]
  refine c_newSes (d := 497) (by omega) ⟨by omega, by omega, K0⟩ (fun g4 k4 N4 T4 ar rr ii => ?_)
  rw [N1] at N4 ar rr
  have v1 : ∀ i, i < 6 → gI g4 (gN h + 1) i = rgV (gI h) T u i := fun i hi => by
    rw [(k4.2.2.2 (gN h + 1) (by omega) (by omega)).2.2.1, ← hg1, gIh]
    unfold rgV
    rw [if_pos hi]
    exact j2 i hi
  have kp4 : keeps h g4 (fun q => q = 14 ∨ q = 15) := by
    refine ⟨by omega, Nat.le_trans kp1.2.1 k4.2.1, fun a ha => ?_, fun a ha hp => ?_⟩
    · have z := k4.2.2.1 a (by omega)
      have y := kp1.2.2.1 a ha
      exact ⟨z.1.trans y.1, z.2.trans y.2⟩
    · exact same_trans (kp1.2.2.2 a ha hp) (k4.2.2.2 a (by omega) (by omega))
  have kk4 : gK g4 (gN h) = 10 := by rw [(k4.2.2.1 (gN h) (by omega)).1]; exact K0
  have kk1 : gK g4 (gN h + 1) = 100 ∧ gL g4 (gN h + 1) = 6 := by have := k4.2.2.1 (gN h + 1) (by omega); rw [this.1, this.2]; exact K1
  have hC1 : ∀ q, q < gN h → (q = 14 ∨ q = 15) → (o q / 1000000 = 1 ∨ o q / 1000000 = 6) := fun q _ e => by
    rcases e with e | e
    · rw [e, ol_14 b.2.2]; exact Or.inl rfl
    · rw [e, ol_15 b.2.2]; exact Or.inl rfl
  obtain ⟨A1, o1, p1, p2, p3⟩ := lab_new (A := A) (o := o) (m := 5) (bs := bS ns) (σ := fun j => j) (τ := fun j => j) (C := fun c => c = 1 ∨ c = 6) (fun j hj => ⟨hj, rfl⟩) (by omega) kp4 hC1 (fun j hj => Or.inr (by unfold bS; omega))
  have e0 := p2 0 (by omega)
  rw [Nat.add_zero, Nat.add_zero] at e0
  have aj : ∀ j, j < 5 → A1 (bS ns + j) = gN h + j ∧ o1 (gN h + j) = bS ns + j := p2
  have kd : ∀ j, j < 5 → 0 < j → gK g4 (gN h + j) = 100 := fun j hj h0 => by
    have : j = 1 ∨ j = 2 ∨ j = 3 ∨ j = 4 := by omega
    rcases this with e | e | e | e <;> subst e
    · exact kk1.1
    · exact (ar 0 (by omega)).1
    · exact (ar 1 (by omega)).1
    · exact (ar 2 (by omega)).1
  have ts : ∀ (hh : aH) (AA oo : Nat → Nat), (∀ j, j < 5 → AA (bS ns + j) = gN h + j ∧ oo (gN h + j) = bS ns + j) → gN g4 ≤ gN hh → (∀ q, gN h ≤ q → q < gN h + 5 → gK hh q = gK g4 q ∧ gL hh q = gL g4 q ∧ ∀ j, gR hh q j = gR g4 q j) → TS hh AA oo ns := fun hh AA oo ha hn hq => by
    have a0 := ha 0 (by omega)
    rw [Nat.add_zero, Nat.add_zero] at a0
    refine ⟨fun q hq2 => ?_, fun q hq2 => ?_, fun q hq2 => ?_⟩
    · have hj : q.1 < 5 := (show ∀ q ∈ kS, q.1 < 5 by decide) q hq2
      have hk : (q.1 = 0 ∧ q.2 = 10) ∨ (0 < q.1 ∧ q.2 = 100) := (show ∀ q ∈ kS, (q.1 = 0 ∧ q.2 = 10) ∨ (0 < q.1 ∧ q.2 = 100) by decide) q hq2
      have z := ha q.1 hj
      unfold liv
      rw [z.1, z.2, (hq _ (by omega) (by omega)).1]
      refine ⟨rfl, by omega, by omega, ?_⟩
      rcases hk with ⟨e1, e2⟩ | ⟨e1, e2⟩
      · rw [e1, e2]; exact kk4
      · rw [e2]; exact kd q.1 hj e1
    · have hj : q = (1, 6) ∨ q = (2, 20) ∨ q = (3, 20) ∨ q = (4, 20) := (show ∀ q ∈ lS, q = (1, 6) ∨ q = (2, 20) ∨ q = (3, 20) ∨ q = (4, 20) by decide) q hq2
      rcases hj with e | e | e | e <;> rw [e] <;> dsimp only <;> rw [(ha _ (by omega)).1, (hq _ (by omega) (by omega)).2.1]
      · exact kk1.2
      · exact (ar 0 (by omega)).2.1
      · exact (ar 1 (by omega)).2.1
      · exact (ar 2 (by omega)).2.1
    · have hj : q = (0, 2, 1) ∨ q = (0, 3, 2) ∨ q = (0, 4, 3) ∨ q = (0, 5, 4) := (show ∀ q ∈ rS, q = (0, 2, 1) ∨ q = (0, 3, 2) ∨ q = (0, 4, 3) ∨ q = (0, 5, 4) by decide) q hq2
      rcases hj with e | e | e | e <;> rw [e] <;> dsimp only <;> rw [Nat.add_zero, a0.1, (ha _ (by omega)).1, (hq _ (by omega) (by omega)).2.2]
      · exact rr.2.1
      · exact rr.2.2.1
      · exact rr.2.2.2.1
      · exact rr.2.2.2.2
  have t4 : TS g4 A1 o1 ns := ts g4 A1 o1 aj (Nat.le_refl _) (fun q _ _ => ⟨rfl, rfl, fun _ => rfl⟩)
  have fm4 := (formOK_fr p1 (by decide) (fun a _ _ => rfl) (fun a _ _ => rfl) (F.2.2 f hf)).1
  have aF : A1 (bF f) = A (bF f) := p3 _ (by unfold bF bS; omega)
  have x4 : sX g4 A1 o1 ns f (cnM (gI h) f) (soM (gI h) f) (E f) (Cn f) (rgV (gI h) T u) := ⟨fm4, t4, by omega, by rw [e0.1, aF]; exact rr.1, fun i hi => by rw [(aj 1 (by omega)).1]; exact v1 i hi, rgV_b Rg⟩
  rw [kk4]
  refine ⟨rfl, ?_⟩
  have WK := fun (K : aH → Prop) X => c_walkS (d := 495) (K := K) (X := X) x4 (gv := fun _ => -2000000) (av := fun _ => -2000000) (fun i hi => by rw [(aj 3 (by omega)).1]; exact (ar 1 (by omega)).2.2 i hi) (fun i hi => by rw [(aj 4 (by omega)).1]; exact (ar 2 (by omega)).2.2 i hi) (fun i hi => Or.inl rfl)
  rw [e0.1] at WK
  refine WK _ _ (fun I5 s5 w5 _ i95 => ?_)
  have kp5 : keeps h (hU g4 I5 (gJ g4)) (fun q => q = 14 ∨ q = 15) := sFr_keeps kp4 s5 (fun j hj => by rw [(aj j hj).1]; omega)
  have c5 : CF g4 := CF_keeps b.1 kp4 (by omega)
  rw [gK_hU, gR_hU, cr_8_5 c5, gK_hU, (kp4.2.2.1 35 (by omega)).1]
  refine ⟨ck_8 c5, by decide, k35, ?_⟩
  have n35 : ∀ q, q = 14 ∨ q = 15 → q ≠ 35 := fun q e => by omega
  refine c_born (d := 493) (h := h) (A := A) (o := o) (m := 5) (σ := fun j => j) (τ := fun j => j) (C := fun c => c = 1 ∨ c = 6) (p := fun q => q = 14 ∨ q = 15) L hns (by decide) (by decide) kp5 (by rw [gN_hU]; omega) (by decide) (fun j hj => ⟨hj, rfl⟩) rfl (by rw [gK_hU]; exact kk4) (by decide) (fun h0 w => ?_) hC1 (Or.inr rfl) (fun h5 A2 o2 l5 f5 lb st k5 i5 gn gt => ?_)
  · have dt := (list_dat L h0).2.1.1
    rcases w with w | w
    · rw [w, ol_14 b.2.2] at dt; omega
    · rw [w, ol_15 b.2.2] at dt; omega
  have eb : 6 * 1000000 + 1000 + 100 * ns = bS ns := by unfold bS; omega
  rw [eb] at lb st
  rw [gN_hU] at gn i5
  rw [gT_hU] at gt
  have lb0 := lb 0 (by omega)
  rw [Nat.add_zero, Nat.add_zero] at lb0
  have kx : keeps h h5 (fun q => q = 14 ∨ q = 15 ∨ q = 35 ∨ (0 < ns ∧ q = A 6000035)) := by
    refine ⟨f5.1.1, f5.1.2.1, f5.1.2.2.1, fun q hq hp => ?_⟩
    refine same_trans (kp5.2.2.2 q hq (fun w => hp (by rcases w with w | w; exact Or.inl w; exact Or.inr (Or.inl w)))) (k5.2.2.2 q (by rw [gN_hU]; omega) ?_)
    rintro (w | w)
    · exact hp (Or.inr (Or.inr (Or.inl w)))
    · exact hp (Or.inr (Or.inr (Or.inr w)))
  have od : 0 < ns → o (A 6000035) = 6000035 := fun z => (list_dat L z).2.1.1
  have c6 : CF h5 := CF_keeps b.1 kx (by
    have nd : ∀ q, o q / 1000000 ≠ 6 → ¬ (0 < ns ∧ q = A 6000035) := fun q hq w => hq (by rw [w.2, od w.1])
    have n8 := nd 8 (by rw [ol_8 b.2.2]; decide)
    have n9 := nd 9 (by rw [ol_9 b.2.2]; decide)
    have n17 := nd 17 (by rw [ol_17 b.2.2]; decide)
    have n19 := nd 19 (by rw [ol_19 b.2.2]; decide)
    have n32 := nd 32 (by rw [ol_32 b.2.2]; decide)
    refine ⟨?_, ?_, ?_, ?_, ?_⟩ <;> rintro (w | w | w | w) <;> first | omega | contradiction)
  rw [cr_8_5 c6]
  refine ⟨ck_8 c6, by decide, l5.1.1, ?_⟩
  rw [lsize_br l5, nI_pred]
  have nw : ∀ q, gN h ≤ q → q < gN h + 5 → same (hU g4 I5 (gJ g4)) h5 q := fun q h1 h2 => k5.2.2.2 q (by rw [gN_hU]; omega) (by
    rintro (w | ⟨w0, w⟩)
    · have := L.1.2.2.2.2; omega
    · have := (list_dat L w0).2.1.2.2.1; omega)
  have N5 := k5.1
  rw [gN_hU] at N5
  have s0 := nw (gN h) (by omega) (by omega)
  have w5' := w5
  obtain ⟨u1, u2, u3, u4⟩ := w5'
  have lj : ∀ j, j < 5 → A2 (bS ns + j) = gN h + j ∧ o2 (gN h + j) = bS ns + j := lb
  refine kk h5 A2 o2 ⟨l5, f5, fun l h1 h2 => st l (by omega) h2, kx, ts h5 A2 o2 lj N5 (fun q h1 h2 => by
    have := nw q h1 h2
    exact ⟨this.1, this.2.1, this.2.2.2.2⟩), ⟨?_, ?_, ?_, ?_⟩, fun i hi => ?_, ⟨fun i hi => ?_, fun i hi => ?_, fun i hi => ?_, ?_⟩, by omega, by omega⟩
  · rw [lb0.1, s0.2.2.2.2]; exact rr.1
  · rw [lb0.1, s0.2.2.1, gIh]
    have := s5.2 1 (by omega)
    rw [e0.1] at this
    rw [this]; exact ii.1
  · rw [lb0.1, s0.2.2.1, gIh]
    have := i95 9 (by omega)
    rw [this]; exact ii.2.1
  · rw [lb0.1, s0.2.2.1, gIh]
    have := s5.2 12 (by omega)
    rw [e0.1] at this
    rw [this]; exact ii.2.2
  · have sn := nw (gN h + 1) (by omega) (by omega)
    rw [(lj 1 (by omega)).1, sn.2.2.1, gIh, s5.1 _ (by rw [e0.1]; omega) (by rw [(aj 2 (by omega)).1]; omega) (by rw [(aj 3 (by omega)).1]; omega) (by rw [(aj 4 (by omega)).1]; omega)]
    exact v1 i hi
  · have sn := nw (gN h + 3) (by omega) (by omega)
    rw [(lj 3 (by omega)).1, sn.2.2.1, ← (aj 3 (by omega)).1]; exact u1 i hi
  · have sn := nw (gN h + 4) (by omega) (by omega)
    rw [(lj 4 (by omega)).1, sn.2.2.1, ← (aj 4 (by omega)).1]; exact u2 i hi
  · have sn := nw (gN h + 2) (by omega) (by omega)
    rw [(lj 2 (by omega)).1, sn.2.2.1, ← (aj 2 (by omega)).1]; exact u3 i hi
  · rw [lb0.1, s0.2.2.1, ← e0.1]; exact u4
end OPC
