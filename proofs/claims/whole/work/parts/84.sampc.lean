/-! SAMPLES: the class's side -/
section SMC
variable {d U T nm : Nat} {h h5 : aH} {A A2 o o2 : Nat → Nat} {X : Nat → aH → Prop} {M : Nat → Nat → Int32} {I : Nat → Nat → Int32} {a1 a2 a3 a4 a5 a6 : Int32}
abbrev stD (M : Nat → Nat → Int32) (U T : Nat) (a1 a2 a3 a4 : Int32) : Nat → Int32 := stV M U T a1 a2 a3 a4 (M 44 1 / 1440)
abbrev frD (M : Nat → Nat → Int32) (U T : Nat) (a1 a2 a3 a4 : Int32) : Nat := cntP (fun i => thr (stD M U T a1 a2 a3 a4 i)) U
abbrev frX (h h5 : aH) (A A2 o o2 : Nat → Nat) : Prop := fr h h5 A A2 o o2 (fun c => c = 1 ∨ c = 8)
def samN (h h5 : aH) (A A2 o o2 : Nat → Nat) (st : Nat → Int32) (U nm n fr : Nat) (sd : Int32) : Prop := listT h5 A2 o2 37 8 (nm + 1) 9 ∧ frX h h5 A A2 o o2 ∧ (∀ l, l ≠ 8000035 → (l < bM nm ∨ bM nm + 4 ≤ l) → A2 l = A l) ∧ keeps h h5 (fun q => q = 14 ∨ q = 15 ∨ q = 16 ∨ q = 37 ∨ (0 < nm ∧ q = A 8000035)) ∧ TM h5 A2 o2 nm ∧ (∀ j, j < 3 → gL h5 (A2 (bM nm + 1 + j)) = U) ∧ (∀ i, i < U → gI h5 (A2 (bM nm + 1)) i = nI (blS st U n fr i) ∧ gI h5 (A2 (bM nm + 2)) i = nI (abS st U n fr i) ∧ gI h5 (A2 (bM nm + 3)) i = bI (drS st U n fr sd i)) ∧ gN h5 ≤ gN h + 7 ∧ gT h5 ≤ gT h + 610
theorem c_sample {K : Int32 → aH → Prop} (b : base h o) (Rg : RegA h A o (gI h) U T) (L : listT h A o 37 8 nm 9) (mm : gI h 8 12 = gI h 44 1) (h1 : 0 ≤ a1.toInt ∧ a1.toInt ≤ 5) (h4 : 0 ≤ a4.toInt ∧ a4.toInt ≤ 5)
    (w1 : ¬ (0 ≤ a5.toInt ∧ a5.toInt ≤ (frD (gI h) U T a1 a2 a3 a4 : Nat)) → ∀ I, (∀ a, a ≠ 14 → a ≠ 15 → a ≠ 16 → I a = gI h a) → X 1 (gNew (hU h I (gJ h)) 200 6))
    (w2 : (0 ≤ a5.toInt ∧ a5.toInt ≤ (frD (gI h) U T a1 a2 a3 a4 : Nat)) → ¬ nm < 12 → ∀ I, (∀ a, a ≠ 14 → a ≠ 15 → a ≠ 16 → I a = gI h a) → X 4 (gNew (hU h I (gJ h)) 200 6))
    (w3 : (0 ≤ a5.toInt ∧ a5.toInt ≤ (frD (gI h) U T a1 a2 a3 a4 : Nat)) → nm < 12 → ∀ h5 A2 o2, samN h h5 A A2 o o2 (stD (gI h) U T a1 a2 a3 a4) U nm a5.toInt.toNat (frD (gI h) U T a1 a2 a3 a4) a6 → K (nI nm) h5) : CI 500 236 [vR 8, vI a1, vI a2, vI a3, vI a4, vI a5, vI a6] h K X := by
  have hN := b.1.1
  have o3 := b.2.2
  obtain ⟨u9, t9⟩ := RegA_le Rg
  have r3 := Rg.2.1
  have r4 := Rg.2.2.1
  have bN1 := r3.1.2.2.1.2.2.1
  have bN2 := r4.1.2.2.1.2.2.1
  have r6 := Rg.2.2.2.2.1
  have n16 : A 1000011 ≠ 16 ∧ A 1000013 ≠ 16 := ⟨fun e => by have := r6.1; rw [e, ol_16 o3] at this; omega, fun e => by have := r6.2; rw [e, ol_16 o3] at this; omega⟩
  have hnI : (nI nm).toInt = nm := ti_n (by have := L.2.1.2.1; omega)
  have k37 := L.1.1
  have L37 := L.1.2.2.2.2
  have frle : frD (gI h) U T a1 a2 a3 a4 ≤ U := cntP_le U
  have frI : (nI (frD (gI h) U T a1 a2 a3 a4)).toInt = (frD (gI h) U T a1 a2 a3 a4 : Nat) := ti_n (by omega)
  refine m236 ?_
  simp only [↓forall_eq, ↓inB_iff, gK_hU, gL_hU, gR_hU, gIh, gJh, pI_hU, pJ_hU, hU_hU, uI_app, uJ_app, and_true, true_and, and_false, false_and, and_self, true_implies, false_implies, not_true, not_false_iff, if_true, if_false, eq_self, Nat.reduceLeDiff, Nat.reduceEqDiff, reduceCtorEq, i32c, ti0, ti1, tiM, Int.natCast_nonneg, Int.reduceEq, Int.reduceLE, Int.reduceLT, Int.reduceNeg, tl_i, Int32.reduceToInt, Int64.reduceToInt, tiA, tlM6, Int.toNat_natCast, natc, nI_1, Int.zero_sub, implies_true, not_false_eq_true, ck_8 b.1, ↓needField_br, h1, h4]
  refine m35 ?_
  rw [mm, cr_8_0 b.1]
  refine ⟨ck_8 b.1, by decide, ck_9 b.1, ?_⟩
  refine c_frame (d := 495) (M := gI h) b.1 r3 r4 Rg.2.2.2.2.2.1 (reg_ne b Rg) n16 (fun r hr => (Rg.2.2.2.2.2.2.2 r hr).1) (fun I i1 i2 => ?_)
  have i37 : I 37 = gI h 37 := i1 37 (by decide) (by decide) (by decide)
  have L2 : listT (hU h I (gJ h)) A o 37 8 nm 9 := ⟨L.1, ⟨by rw [gIh, i37]; exact L.2.1.1, L.2.1.2⟩, L.2.2⟩
  have eF : (nI (cntP (fun i => thr (stV (gI h) U T a1 a2 a3 a4 (gI h 44 1 / 1440) i)) U)).toInt = (frD (gI h) U T a1 a2 a3 a4 : Nat) := frI
  simp only [↓forall_eq, ↓inB_iff, gK_hU, gL_hU, gR_hU, gIh, gJh, pI_hU, pJ_hU, hU_hU, uI_app, uJ_app, and_true, true_and, and_false, false_and, and_self, true_implies, false_implies, not_true, not_false_iff, if_true, if_false, eq_self, Nat.reduceLeDiff, Nat.reduceEqDiff, reduceCtorEq, i32c, ti0, ti1, tiM, Int.natCast_nonneg, Int.reduceEq, Int.reduceLE, Int.reduceLT, Int.reduceNeg, tl_i, Int32.reduceToInt, Int64.reduceToInt, tiA, tlM6, Int.toNat_natCast, natc, nI_1, Int.zero_sub, implies_true, not_false_eq_true, eF, ck_8 b.1, cr_8_7 b.1, k37, ↓lsize_br L2, hnI]
  refine ⟨fun c => w1 (by omega) I i1, fun c => ⟨fun c2 => w1 (by omega) I i1, fun c2 => ⟨fun c3 => ?_, fun c3 => w2 (by omega) (by omega) I i1⟩⟩⟩
  have n9 : a5.toInt.toNat ≤ 100 := by omega
  have e5 : a5 = nI a5.toInt.toNat := ti_nat (by omega)
  simp only [r_eq]
  generalize hh : hU h I (gJ h) = g at *
  have bg : base g o := by rw [← hh]; exact b
  have gN0 : gN g = gN h := by rw [← hh]; rfl
  have gT0 : gT g = gT h := by rw [← hh]; rfl
  have kp0 : keeps g (gNew g 9 3) (fun _ => False) := keeps_new _ _ _ _
  have c0 : CF (gNew g 9 3) := CF_keeps bg.1 kp0 (by simp)
  have R0 : rowsOK (gNew g 9 3) 10 (A 1000011) 2 100 U := by
    rw [← hh]
    exact rows_keeps (rows_hU r3.1 (i1 10 (by decide) (by decide) (by decide))) (keeps_new _ _ _ (fun _ => False)) (fun w => w)
  have SZ := fun (K : Int32 → aH → Prop) X => size_br (d := 499) (h := gNew g 9 3) (I := gI (gNew g 9 3)) (J := gJ (gNew g 9 3)) (K := K) (X := X) R0 rfl
  rw [hU_eta] at SZ
  rw [cr_8_0 c0, cr_9_0 c0, SZ]
  refine ⟨ck_8 c0, ck_9 c0, by decide, ck_10 c0, by omega, ?_⟩
  have K0 : gK (gNew g 9 3) (gN g) = 9 := by rw [gK_gNew, if_pos rfl]
  have N1 : gN (gNew g 9 3) = gN g + 1 := gN_gNew _ _ _
  refine c_newSam (d := 498) u9 (by omega) ⟨by omega, by omega, K0⟩ (fun h7 k7 N7 T7 ar rr => ?_)
  rw [N1] at N7 ar rr
  rw [gT_gNew] at T7
  have kp7 : keeps g h7 (fun _ => False) := by
    refine ⟨by omega, Nat.le_trans (keeps_new g 9 3 (fun _ => False)).2.1 k7.2.1, fun a ha => ?_, fun a ha _ => same_trans (kp0.2.2.2 a ha (fun w => w)) (k7.2.2.2 a (by omega) (by omega))⟩
    have z := k7.2.2.1 a (by omega)
    have y := kp0.2.2.1 a ha
    exact ⟨z.1.trans y.1, z.2.trans y.2⟩
  have c7 : CF h7 := CF_keeps bg.1 kp7 (by simp)
  have K7 : gK h7 (gN g) = 9 := by rw [(k7.2.2.1 (gN g) (by omega)).1]; exact K0
  rw [cr_8_0 c7, cr_9_4 c7, e5]
  refine ⟨ck_8 c7, ck_9 c7, K7, ?_⟩
  have ar0 := ar 0 (by omega)
  have ar1 := ar 1 (by omega)
  have ar2 := ar 2 (by omega)
  rw [Nat.add_zero] at ar0
  have s16 : ∀ i, i < U → gI h7 16 i = stD (gI h) U T a1 a2 a3 a4 i := fun i hi => by
    rw [(kp7.2.2.2 16 (by omega) (fun w => w)).2.2.1, ← hh, gIh]
    exact i2 i (by omega)
  refine c_draw (d := 496) (st := stD (gI h) U T a1 a2 a3 a4) u9 n9 (Nat.le_trans frle u9) (by omega) ⟨by omega, by omega, K7, rr.1, rr.2.1, rr.2.2⟩ ⟨by omega, by omega, ar0.1, ar0.2.1⟩ ⟨by omega, by omega, ar1.1, ar1.2.1⟩ ⟨by omega, by omega, ar2.1, ar2.2.1⟩ (by omega) ⟨ck_16 c7, cl_16 c7, by omega⟩ s16 (fun i hi => ⟨ar0.2.2 i, ar1.2.2 i⟩) (fun h8 k8 v8 gn8 gt8 => ?_)
  have kp8 : keeps g h8 (fun _ => False) := by
    refine ⟨by have := k8.1; omega, Nat.le_trans kp7.2.1 k8.2.1, fun a ha => ?_, fun a ha _ => same_trans (kp7.2.2.2 a ha (fun w => w)) (k8.2.2.2 a (by omega) (by omega))⟩
    have z := k8.2.2.1 a (by omega)
    have y := kp7.2.2.1 a ha
    exact ⟨z.1.trans y.1, z.2.trans y.2⟩
  have c8 : CF h8 := CF_keeps bg.1 kp8 (by simp)
  rw [cr_8_7 c8, (kp8.2.2.1 37 (by omega)).1]
  refine ⟨ck_8 c8, by decide, by rw [← hh]; exact k37, ?_⟩
  have N8 := k8.1
  refine c_born (d := 493) (h := g) (A := A) (o := o) (m := 4) (σ := fun j => j) (τ := fun j => j) (C := fun c => c = 1 ∨ c = 8) (p := fun _ => False) L2 (by omega) (by decide) (by decide) kp8 (by omega) (by decide) (fun j hj => ⟨hj, rfl⟩) rfl (by rw [(k8.2.2.1 (gN g) (by omega)).1]; exact K7) (fun w => w) (fun _ w => w) (fun q _ w => w.elim) (Or.inr rfl) (fun h9 A2 o2 l9 f9 lb st9 k9 i9 gn gt => ?_)
  have eb : 8 * 1000000 + 1000 + 100 * nm = bM nm := by unfold bM; omega
  rw [eb] at lb st9
  have lb0 := lb 0 (by omega)
  rw [Nat.add_zero, Nat.add_zero] at lb0
  have od : 0 < nm → o (A 8000035) = 8000035 ∧ A 8000035 < gN h := fun z => ⟨(list_dat L z).2.1.1, (list_dat L z).2.1.2.2.1⟩
  have kx : keeps h h9 (fun q => q = 14 ∨ q = 15 ∨ q = 16 ∨ q = 37 ∨ (0 < nm ∧ q = A 8000035)) := by
    refine ⟨by have := f9.1.1; omega, by have := f9.1.2.1; omega, fun a ha => ?_, fun q hq hp => ?_⟩
    · have := f9.1.2.2.1 a (by omega)
      rw [this.1, this.2, ← hh]; exact ⟨rfl, rfl⟩
    · have e1 : same h g q := by
        rw [← hh]
        exact ⟨rfl, rfl, fun j => by rw [gI_hU, i1 q (fun e => hp (Or.inl e)) (fun e => hp (Or.inr (Or.inl e))) (fun e => hp (Or.inr (Or.inr (Or.inl e))))], fun _ => rfl, fun _ => rfl⟩
      refine same_trans e1 (same_trans (kp8.2.2.2 q (by omega) (fun w => w)) (k9.2.2.2 q (by omega) ?_))
      rintro (w | w)
      · exact hp (Or.inr (Or.inr (Or.inr (Or.inl w))))
      · exact hp (Or.inr (Or.inr (Or.inr (Or.inr w))))
  have c9 : CF h9 := CF_keeps b.1 kx (by
    have nd : ∀ q, o q / 1000000 ≠ 8 → ¬ (0 < nm ∧ q = A 8000035) := fun q hq w => hq (by rw [w.2, (od w.1).1])
    have n8 := nd 8 (by rw [ol_8 b.2.2]; decide)
    have n9 := nd 9 (by rw [ol_9 b.2.2]; decide)
    have n17 := nd 17 (by rw [ol_17 b.2.2]; decide)
    have n19 := nd 19 (by rw [ol_19 b.2.2]; decide)
    have n32 := nd 32 (by rw [ol_32 b.2.2]; decide)
    refine ⟨?_, ?_, ?_, ?_, ?_⟩ <;> rintro (w | w | w | w | w) <;> first | omega | contradiction)
  rw [cr_8_7 c9]
  refine ⟨ck_8 c9, by decide, l9.1.1, ?_⟩
  rw [lsize_br l9, nI_pred]
  have nw : ∀ q, gN g ≤ q → q < gN g + 4 → same h8 h9 q := fun q h1 h2 => k9.2.2.2 q (by omega) (by
    rintro (w | ⟨w0, w⟩)
    · omega
    · have w' : q = A 8000035 := w
      have := (od w0).2; omega)
  have N9 := k9.1
  have fr9 : fr h h9 A A2 o o2 (fun c => c = 1 ∨ c = 8) := by
    refine ⟨keeps_mono kx (fun q _ w => ?_), fun q hq => f9.2.1 q (by omega), f9.2.2⟩
    rcases w with w | w | w | w | w
    · rw [w, ol_14 b.2.2]; exact Or.inl rfl
    · rw [w, ol_15 b.2.2]; exact Or.inl rfl
    · rw [w, ol_16 b.2.2]; exact Or.inl rfl
    · rw [w, ol_37 b.2.2]; exact Or.inr rfl
    · rw [w.2, (od w.1).1]; exact Or.inr rfl
  have t1 : A2 (bM nm + 1) = gN g + 1 := (lb 1 (by omega)).1
  have t2 : A2 (bM nm + 2) = gN g + 2 := (lb 2 (by omega)).1
  have t3 : A2 (bM nm + 3) = gN g + 3 := (lb 3 (by omega)).1
  have kd8 : ∀ j, 0 < j → j < 4 → gK h8 (gN g + j) = (if j = 3 then 102 else 100) ∧ gL h8 (gN g + j) = U := fun j h0 hj => by
    have z := k8.2.2.1 (gN g + j) (by omega)
    rw [z.1, z.2]
    have y := ar (j - 1) (by omega)
    rw [show gN g + 1 + (j - 1) = gN g + j by omega] at y
    rw [y.1, y.2.1]
    refine ⟨?_, rfl⟩
    by_cases c : j = 3
    · rw [if_pos (by omega), if_pos c]
    · rw [if_neg (by omega), if_neg c]
  have r8 : ∀ j, gR h8 (gN g) j = gR h7 (gN g) j := (k8.2.2.2 (gN g) (by omega) (by omega)).2.2.2.2
  refine w3 (by omega) (by omega) h9 A2 o2 ⟨l9, fr9, fun l h1 h2 => st9 l (by omega) h2, kx, ⟨fun q hq => ?_, fun q hq => ?_, fun q hq => ?_⟩, fun j hj => ?_, fun i hi => ⟨?_, ?_, ?_⟩, by omega, by omega⟩
  · have hk : (q.1 = 0 ∧ q.2 = 9) ∨ (0 < q.1 ∧ q.1 < 4 ∧ q.2 = if q.1 = 3 then 102 else 100) := (show ∀ q ∈ kM, (q.1 = 0 ∧ q.2 = 9) ∨ (0 < q.1 ∧ q.1 < 4 ∧ q.2 = if q.1 = 3 then 102 else 100) by decide) q hq
    have hj : q.1 < 4 := by rcases hk with z | z <;> omega
    have z := lb q.1 hj
    have s := nw (gN g + q.1) (by omega) (by omega)
    unfold liv
    rw [z.1, z.2, s.1]
    refine ⟨rfl, by omega, by omega, ?_⟩
    rcases hk with ⟨e1, e2⟩ | ⟨e1, e2, e3⟩
    · rw [e1, e2, Nat.add_zero, (k8.2.2.1 (gN g) (by omega)).1]; exact K7
    · rw [e3]; exact (kd8 q.1 e1 e2).1
  · exact absurd hq (by unfold lM; simp)
  · have hj : q = (0, 0, 1) ∨ q = (0, 1, 2) ∨ q = (0, 2, 3) := (show ∀ q ∈ rM, q = (0, 0, 1) ∨ q = (0, 1, 2) ∨ q = (0, 2, 3) by decide) q hq
    have s := nw (gN g) (by omega) (by omega)
    rcases hj with e | e | e <;> rw [e] <;> dsimp only <;> rw [Nat.add_zero, lb0.1, s.2.2.2.2, r8]
    · rw [t1]; exact rr.1
    · rw [t2]; exact rr.2.1
    · rw [t3]; exact rr.2.2
  · have s := nw (gN g + (1 + j)) (by omega) (by omega)
    have z := lb (1 + j) (by omega)
    rw [Nat.add_assoc, z.1, s.2.1]
    exact (kd8 (1 + j) (by omega) (by omega)).2
  · have s := nw (gN g + 1) (by omega) (by omega)
    rw [t1, s.2.2.1]; exact (v8 i hi).1
  · have s := nw (gN g + 2) (by omega) (by omega)
    rw [t2, s.2.2.1]; exact (v8 i hi).2.1
  · have s := nw (gN g + 3) (by omega) (by omega)
    rw [t3, s.2.2.1]; exact (v8 i hi).2.2
end SMC
