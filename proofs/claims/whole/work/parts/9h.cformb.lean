/-! FORM: the whole of the class, the end -/
section CFN
variable {d L nf cnt w : Nat} {h : aH} {A A2 o o2 : Nat → Nat} {X : Nat → aH → Prop} {B : Nat → Int32} {K : Int32 → aH → Prop} {I' : Nat → Nat → Int32} {J' : Nat → Nat → Int64}
/-- a text that is no form -/
def frmO (h h2 : aH) (A o : Nat → Nat) (L : Nat) : Prop := base h2 o ∧ fr h h2 A A o o (fun c => c = 2 ∨ c = 3) ∧ gI h2 17 1 = 0 ∧ gN h2 ≤ gN h + 13 ∧ gT h2 ≤ gT h + 300 + 2 * L
/-- a text that is one -/
def frmN (h h2 : aH) (A A2 o o2 : Nat → Nat) (nf L : Nat) (st : Nat → StD) (cnt : Nat) : Prop := (base h2 o2 ∧ listT h2 A2 o2 34 5 (nf + 1) 3 ∧ fr h h2 A A2 o o2 (fun c => c = 2 ∨ c = 3 ∨ c = 5)) ∧ (∀ l, l ≠ 5000035 → (l < bF nf ∨ bF nf + 12 ≤ l) → A2 l = A l) ∧ keeps h h2 (fun q => q = 34 ∨ (0 < nf ∧ q = A 5000035) ∨ q = 17 ∨ q = 19) ∧ (TF h2 A2 o2 nf ∧ gL h2 (A2 (bF nf + 1)) = L ∧ gL h2 (A2 (bF nf + 2)) = L) ∧ (∃ w, clW (fun j => A2 (bF nf + j)) (gI h2) (gJ h2) st cnt w ∧ w ≤ L) ∧ (1 ≤ cnt ∧ cnt ≤ 20 ∧ stA st cnt ≤ 10) ∧ rowsOK h2 (A2 (bF nf + 10)) (A2 (bF nf + 11)) 3 16 0 ∧ gI h2 17 1 = 0 ∧ gN h2 ≤ gN h + 13 ∧ gT h2 ≤ gT h + 300 + 2 * L
theorem kp_r {g : aH} (hN : 108 ≤ gN h) (n : newF h g L) (fr1 : frS (fun j => gN h + sgF j) (gI g) I' (gJ g) J') : keeps h (hU (pR g 19 1 (gN h)) (uI I' 17 1 0) J') (fun q => q = 17 ∨ q = 19) := by
  have k := n.1
  refine ⟨by rw [gN_hU, gN_pR]; exact k.1, by rw [gT_hU, gT_pR]; exact k.2.1, fun a ha => ?_, fun a ha hp => ?_⟩
  · rw [gK_hU, gL_hU, gK_pR, gL_pR]; exact k.2.2.1 a ha
  · have s := k.2.2.2 a ha (fun z => z)
    have h17 : a ≠ 17 := fun z => hp (Or.inl z)
    have h19 : a ≠ 19 := fun z => hp (Or.inr z)
    have e := fr1.1 a h17 h19 (fun j hj => by show a ≠ gN h + sgF j; omega)
    refine ⟨by rw [gK_hU, gK_pR]; exact s.1, by rw [gL_hU, gL_pR]; exact s.2.1, fun j => ?_, fun j => ?_, fun j => ?_⟩
    · rw [gI_hU, uI_ne _ _ _ h17, e.1]; exact s.2.2.1 j
    · rw [gJ_hU, e.2]; exact s.2.2.2.1 j
    · rw [gR_hU, gR_pR, if_neg (fun z => h19 z.1)]; exact s.2.2.2.2 j
theorem clW_cg {F : Nat → Nat} {I I2 : Nat → Nat → Int32} {J J2 : Nat → Nat → Int64} {st : Nat → StD} (c : clW F I J st cnt w) (hI : ∀ j, j < 12 → I2 (F j) = I (F j)) (hJ : J2 (F 7) = J (F 7)) : clW F I2 J2 st cnt w := by
  unfold clW clS at c ⊢
  rw [hI 0 (by decide), hI 1 (by decide), hI 2 (by decide), hI 3 (by decide), hI 4 (by decide), hI 5 (by decide), hI 6 (by decide), hI 8 (by decide), hI 9 (by decide), hJ]
  exact c
theorem c_form (b : base h o) (L9 : listT h A o 34 5 nf 3) (h6 : nf ≤ 6) (tp : tpC (gI h) B L)
    (w1 : ¬ nf < 6 → X 4 (gNew h 200 6))
    (w2 : nf < 6 → ∀ q h2, fmF B L 20 0 st0 0 = (none, q) → q ≤ L → frmO h h2 A o L → K ((-1) - nI (lxS B L q)) h2)
    (w3 : nf < 6 → ∀ cnt st q h2 A2 o2, fmF B L 20 0 st0 0 = (some (cnt, st), q) → frmN h h2 A A2 o o2 nf L st cnt → K (nI nf) h2) : CI 500 99 [vR 8] h K X := by
  have f := b.1
  have hN := b.1.1
  have l12 := tp.2.1
  have nI6 : (nI nf).toInt = nf := ti_n (by omega)
  refine m99 ?_
  simp only [ck_8 f, cr_8_4 f, L9.1.1, ↓lsize_br L9, nI6, true_and]
  refine ⟨by decide, fun c6 => ?_, fun c6 => w1 (by omega)⟩
  intro r0 h1 x1 y1
  subst x1
  subst y1
  have kn : keeps h (gNew h 3 13) (fun _ => False) := keeps_new _ _ _ _
  have f1 : CF (gNew h 3 13) := CF_keeps f kn (by simp)
  have e17 : gI (gNew h 3 13) 17 1 = nI L := by rw [(kn.2.2.2 17 (by omega) (fun z => z)).2.2.1]; exact tp.1
  rw [cr_8_1 f1, e17]
  refine ⟨ck_8 f1, ck_17 f1, by omega, ?_⟩
  refine c_newForm (d := 497) (by omega) l12 (fun g n => ?_)
  have kg := n.1
  have fg : CF g := CF_keeps f kg (by simp)
  rw [cr_8_2 fg]
  refine ⟨ck_8 fg, by decide, ck_19 fg, ?_⟩
  have tg : tpC (gI g) B L := ⟨by rw [(kg.2.2.2 17 (by omega) (fun z => z)).2.2.1]; exact tp.1, l12, fun k hk => by rw [(kg.2.2.2 18 (by omega) (fun z => z)).2.2.1]; exact tp.2.2 k hk⟩
  refine c_reads (d := 492) f n tg (fun cnt w st q I' J' hx c hw h1 h2 h3 fr1 => ?_) (fun q I' J' hx fr1 hq => ?_)
  · -- a form
    have kr := kp_r hN n fr1
    have S := pS_new f n l12
    have fH := S.1.1
    have f3 : CF (hU (pR g 19 1 (gN h)) I' J') := fH
    have f4 : CF (hU (pR g 19 1 (gN h)) (uI I' 17 1 0) J') := fH
    have m1 : (-1 : Int32).toInt = -1 := rfl
    rw [cr_8_1 f3]
    refine ⟨ck_8 f3, by decide, ck_17 f3, fun h4 y4 => ?_⟩
    rw [pI_hU] at y4
    subst y4
    refine ⟨fun _ => ⟨by rw [cr_8_4 f4]; decide, by rw [cr_8_4 f4, (kr.2.2.1 34 (by omega)).1]; exact L9.1.1, ?_⟩, fun z => absurd rfl z⟩
    rw [cr_8_4 f4]
    have o34 := ol_34 b.2.2
    have o17 := ol_17 b.2.2
    have o19 := ol_19 b.2.2
    have nA : 0 < nf → A 5000035 < gN h ∧ o (A 5000035) = 5000035 := fun z => ⟨(list_dat L9 z).2.1.2.2.1, (list_dat L9 z).2.1.1⟩
    have gn := n.2.1.1
    have gt := n.2.1.2
    refine c_born (d := 493) (h := h) (A := A) (o := o) (m := 12) (σ := sgF) (τ := tvF9) (C := fun c => c = 2 ∨ c = 3 ∨ c = 5) (p := fun q => q = 17 ∨ q = 19) L9 (by omega) (by decide) (by decide) kr (by rw [gN_hU, gN_pR]; omega) (by decide) sgF_ok rfl (by rw [gK_hU, gK_pR]; exact n.2.2.1.1) (by omega) (fun z w => ?_) (fun q hq w => ?_) (Or.inr (Or.inr rfl)) (fun h5 A2 o2 l5 f5 lb st5 k5 i5 gn5 gt5 => ?_)
    · have y := nA z
      have w' : A 5000035 = 17 ∨ A 5000035 = 19 := w
      rcases w' with e | e <;> rw [e] at y <;> omega
    · rcases w with e | e <;> rw [e]
      · left; rw [o17]
      · right; left; rw [o19]
    · have gN1 : gN (hU (pR g 19 1 (gN h)) (uI I' 17 1 0) J') = gN h + 12 := by rw [gN_hU, gN_pR]; exact gn
      rw [gN1] at i5 gn5
      have gT1 : gT (hU (pR g 19 1 (gN h)) (uI I' 17 1 0) J') = gT g := by rw [gT_hU, gT_pR]
      rw [gT1] at gt5
      have n35 : ∀ q, o q ≠ 5000035 → ¬ (0 < nf ∧ q = A 5000035) := fun q hq w => hq (by rw [w.2]; exact (nA w.1).2)
      have k5s : ∀ q, q < gN h + 12 → q ≠ 34 → ¬ (0 < nf ∧ q = A 5000035) → same (hU (pR g 19 1 (gN h)) (uI I' 17 1 0) J') h5 q := fun q hq h1 h2 => k5.2.2.2 q (by omega) (fun w => by
        rcases w with w | w
        · exact h1 w
        · exact h2 ⟨w.1, w.2⟩)
      have kp : keeps h h5 (fun q => q = 34 ∨ (0 < nf ∧ q = A 5000035) ∨ q = 17 ∨ q = 19) := by
        refine ⟨by have := k5.1; omega, by have := k5.2.1; have := kr.2.1; omega, fun a ha => ?_, fun a ha hp => ?_⟩
        · have q1 := k5.2.2.1 a (by omega)
          have q2 := kr.2.2.1 a ha
          exact ⟨q1.1.trans q2.1, q1.2.trans q2.2⟩
        · exact same_trans (kr.2.2.2 a ha (fun w => hp (by rcases w with w | w; exact Or.inr (Or.inr (Or.inl w)); exact Or.inr (Or.inr (Or.inr w))))) (k5s a (by omega) (fun w => hp (Or.inl w)) (fun w => hp (Or.inr (Or.inl w))))
      have sF : ∀ j, j < 12 → A2 (bF nf + j) = gN h + sgF j ∧ o2 (gN h + sgF j) = bF nf + j := fun j hj => lb j hj
      have sg : ∀ j, j < 12 → sgF j < 12 := fun j hj => (sgF_ok j hj).1
      have new : ∀ x, x < 12 → same (hU (pR g 19 1 (gN h)) (uI I' 17 1 0) J') h5 (gN h + x) := fun x hx => k5s _ (by omega) (by omega) (fun w => by have := nA w.1; omega)
      have b5 : base h5 o2 := by
        refine base_of b f5 (fun a ha j => ?_) ?_
        · have a107 : a < gN h := by omega
          have s5 := k5s a (by omega) (by omega) (n35 a (by
            rcases ha with e | e | e | e | e <;> rw [e]
            · rw [ol_8 b.2.2]; decide
            · rw [ol_9 b.2.2]; decide
            · rw [ol_17 b.2.2]; decide
            · rw [ol_32 b.2.2]; decide
            · intro z; have y := ol_m b.2.2 (a := 44) (by decide) (by decide); rw [z] at y; omega))
          rw [s5.2.2.2.2 j, gR_hU, gR_pR, if_neg (by omega)]
          exact (kg.2.2.2 a a107 (fun z => z)).2.2.2.2 j
        · have s5 := k5s 19 (by omega) (by omega) (n35 19 (by rw [o19]; decide))
          rw [s5.2.2.2.2 0, gR_hU, gR_pR, if_neg (by decide)]
          exact (kg.2.2.2 19 (by omega) (fun z => z)).2.2.2.2 0
      have f5' := b5.1
      simp only [ck_8 f5', cr_8_4 f5', l5.1.1, ↓lsize_br l5, true_and]
      refine ⟨by decide, ?_⟩
      rw [show nI (nf + 1) - 1 = nI nf from nI_pred nf]
      have KF : ∀ q, q ∈ kF → gK h5 (gN h + sgF q.1) = q.2 := by
        intro q hq
        have hj : q.1 < 12 := (show ∀ q ∈ kF, q.1 < 12 by decide) q hq
        rw [(new (sgF q.1) (sg q.1 hj)).1, gK_hU, gK_pR]
        obtain ⟨-, -, ⟨k0, k1, k2, k3, k4, k5, k6, k7, k8, k9, k10, k11⟩, -⟩ := n
        have : q = (0, 3) ∨ q = (1, 100) ∨ q = (2, 100) ∨ q = (3, 100) ∨ q = (4, 100) ∨ q = (5, 100) ∨ q = (6, 100) ∨ q = (7, 101) ∨ q = (8, 100) ∨ q = (9, 100) ∨ q = (10, 8) ∨ q = (11, 100) := (show ∀ q ∈ kF, q = (0, 3) ∨ q = (1, 100) ∨ q = (2, 100) ∨ q = (3, 100) ∨ q = (4, 100) ∨ q = (5, 100) ∨ q = (6, 100) ∨ q = (7, 101) ∨ q = (8, 100) ∨ q = (9, 100) ∨ q = (10, 8) ∨ q = (11, 100) by decide) q hq
        rcases this with e | e | e | e | e | e | e | e | e | e | e | e <;> subst e <;> assumption
      have LF : ∀ q, q ∈ lF → gL h5 (gN h + sgF q.1) = q.2 := by
        intro q hq
        have hj : q.1 < 12 := (show ∀ q ∈ lF, q.1 < 12 by decide) q hq
        rw [(new (sgF q.1) (sg q.1 hj)).2.1, gL_hU, gL_pR]
        obtain ⟨-, -, -, ⟨l1, l2, l3, l4, l5, l6, l7, l9, l10, l11⟩, -⟩ := n
        have : q = (3, 20) ∨ q = (4, 20) ∨ q = (5, 20) ∨ q = (6, 20) ∨ q = (7, 20) ∨ q = (8, 21) ∨ q = (9, 20) := (show ∀ q ∈ lF, q = (3, 20) ∨ q = (4, 20) ∨ q = (5, 20) ∨ q = (6, 20) ∨ q = (7, 20) ∨ q = (8, 21) ∨ q = (9, 20) by decide) q hq
        rcases this with e | e | e | e | e | e | e <;> subst e <;> assumption
      have RF : ∀ q, q ∈ rF → gR h5 (gN h + sgF q.1) q.2.1 = gN h + sgF q.2.2 := by
        intro q hq
        have hj : q.1 < 12 := (show ∀ q ∈ rF, q.1 < 12 by decide) q hq
        rw [(new (sgF q.1) (sg q.1 hj)).2.2.2.2, gR_hU, gR_pR, if_neg (by omega)]
        obtain ⟨-, -, -, -, ⟨r0, r1, r2, r3, r4, r5, r6, r7, r8, r9, r82⟩, -⟩ := n
        have : q = (0, 0, 1) ∨ q = (0, 1, 2) ∨ q = (0, 2, 3) ∨ q = (0, 3, 4) ∨ q = (0, 4, 5) ∨ q = (0, 5, 6) ∨ q = (0, 6, 7) ∨ q = (0, 7, 8) ∨ q = (0, 8, 9) ∨ q = (0, 9, 10) ∨ q = (10, 2, 11) := (show ∀ q ∈ rF, q = (0, 0, 1) ∨ q = (0, 1, 2) ∨ q = (0, 2, 3) ∨ q = (0, 3, 4) ∨ q = (0, 4, 5) ∨ q = (0, 5, 6) ∨ q = (0, 6, 7) ∨ q = (0, 7, 8) ∨ q = (0, 8, 9) ∨ q = (0, 9, 10) ∨ q = (10, 2, 11) by decide) q hq
        rcases this with e | e | e | e | e | e | e | e | e | e | e <;> subst e <;> assumption
      have T5 : TF h5 A2 o2 nf := by
        refine ⟨fun q hq => ?_, fun q hq => ?_, fun q hq => ?_⟩
        · have hj : q.1 < 12 := (show ∀ q ∈ kF, q.1 < 12 by decide) q hq
          have e := sF q.1 hj
          have s := sg q.1 hj
          unfold liv
          rw [e.1, e.2]
          exact ⟨rfl, by omega, by have := k5.1; omega, KF q hq⟩
        · have hj : q.1 < 12 := (show ∀ q ∈ lF, q.1 < 12 by decide) q hq
          rw [(sF q.1 hj).1]; exact LF q hq
        · have hj : q.1 < 12 ∧ q.2.2 < 12 := (show ∀ q ∈ rF, q.1 < 12 ∧ q.2.2 < 12 by decide) q hq
          rw [(sF q.1 hj.1).1, (sF q.2.2 hj.2).1]; exact RF q hq
      have s17 := k5s 17 (by omega) (by omega) (n35 17 (by rw [o17]; decide))
      refine w3 (by omega) cnt st q h5 A2 o2 hx ⟨⟨b5, l5, f5⟩, fun l z1 z2 => st5 l z1 z2, kp, ⟨T5, ?_, ?_⟩, ⟨w, ?_, hw⟩, ⟨h1, h2, h3⟩, ?_, ?_, by omega, by omega⟩
      · rw [(sF 1 (by decide)).1, (new (sgF 1) (sg 1 (by decide))).2.1, gL_hU, gL_pR]; exact n.2.2.2.1.2.2.2.2.2.2.2.2.1
      · rw [(sF 2 (by decide)).1, (new (sgF 2) (sg 2 (by decide))).2.1, gL_hU, gL_pR]; exact n.2.2.2.1.2.2.2.2.2.2.2.2.2
      · have eI : ∀ j, j < 12 → gI h5 (gN h + sgF j) = I' (gN h + sgF j) := fun j hj => by
          have s := sg j hj
          rw [i5 _ (by omega) (by omega)]
          show uI I' 17 1 0 (gN h + sgF j) = _
          rw [uI_ne _ _ _ (by omega)]
        have eJ : gJ h5 (gN h + sgF 7) = J' (gN h + sgF 7) := funext (fun i => by rw [(new (sgF 7) (sg 7 (by decide))).2.2.2.1 i]; rfl)
        have cc : clW (fun j => gN h + sgF j) (gI h5) (gJ h5) st cnt w := clW_cg c (fun j hj => eI j hj) eJ
        unfold clW clS at cc ⊢
        simp only at cc ⊢
        rw [(sF 0 (by decide)).1, (sF 1 (by decide)).1, (sF 2 (by decide)).1, (sF 3 (by decide)).1, (sF 4 (by decide)).1, (sF 5 (by decide)).1, (sF 6 (by decide)).1, (sF 7 (by decide)).1, (sF 8 (by decide)).1, (sF 9 (by decide)).1]
        exact cc
      · obtain ⟨-, -, ⟨-, -, -, -, -, -, -, -, k8, k9, -⟩, ⟨-, -, -, -, -, -, -, l9, -⟩, ⟨-, -, -, -, -, -, -, -, -, -, r82⟩, ⟨-, -, -, j0, j1, j3⟩, -⟩ := n
        have inj : ∀ i j, i < 12 → j < 12 → i ≠ j → gN h + sgF i ≠ gN h + sgF j := fun i j hi hj hn z => hn (by rw [← (sgF_ok i hi).2, show sgF i = sgF j by omega, (sgF_ok j hj).2])
        have e8 := (fr1.1 (gN h + 8) (by omega) (by omega) (fun j hj => inj 10 j (by decide) (by omega) (by omega))).1
        have n8 := new 8 (by decide)
        have n9 := new 9 (by decide)
        have i8 : gI h5 (gN h + 8) = gI g (gN h + 8) := by
          rw [i5 _ (by omega) (by omega)]
          show uI I' 17 1 0 (gN h + 8) = _
          rw [uI_ne _ _ _ (by omega)]; exact e8
        rw [(sF 10 (by decide)).1, (sF 11 (by decide)).1]
        show rowsOK h5 (gN h + 8) (gN h + 9) 3 16 0
        have gk5 := k5.1
        refine ⟨⟨by omega, by omega, by rw [n8.1, gK_hU, gK_pR]; exact k8⟩, ⟨by rw [i8]; exact j0, by rw [i8]; exact j1, by rw [i8]; exact j3⟩, ⟨by rw [n8.2.2.2.2, gR_hU, gR_pR, if_neg (by omega)]; exact r82, by omega, by omega, by rw [n9.1, gK_hU, gK_pR]; exact k9⟩, ?_, by omega⟩
        rw [n9.2.1, gL_hU, gL_pR, l9]; omega
      · rw [s17.2.2.1 1, gI_hU, uI_same]
  · -- a fault
    have kr := kp_r hN n fr1
    have fH := (pS_new f n l12).1.1
    have f3 : CF (hU (pR g 19 1 (gN h)) I' J') := fH
    have hs := lxS_b (B := B) hq
    have sI : (nI (lxS B L q)).toInt = lxS B L q := ti_n (by omega)
    rw [cr_8_1 f3]
    refine ⟨ck_8 f3, by decide, ck_17 f3, fun h4 y4 => ?_⟩
    rw [pI_hU] at y4
    subst y4
    rw [sI]
    refine ⟨fun z => absurd z (by omega), fun _ => ?_⟩
    have fr2 : fr h (hU (pR g 19 1 (gN h)) (uI I' 17 1 0) J') A A o o (fun c => c = 2 ∨ c = 3) := by
      refine ⟨keeps_mono kr (fun a _ w => ?_), fun _ _ => rfl, fun _ _ => rfl⟩
      show o a / 1000000 = 2 ∨ o a / 1000000 = 3
      rcases w with e | e <;> rw [e]
      · left; rw [ol_17 b.2.2]
      · right; rw [ol_19 b.2.2]
    refine w2 (by omega) q _ hx hq ⟨base_of b fr2 (fun a ha j => ?_) ?_, fr2, by rw [gI_hU, uI_same], ?_, ?_⟩
    · rw [gR_hU, gR_pR, if_neg (by omega)]
      exact (kg.2.2.2 a (by omega) (fun z => z)).2.2.2.2 j
    · rw [gR_hU, gR_pR, if_neg (by decide)]
      exact (kg.2.2.2 19 (by omega) (fun z => z)).2.2.2.2 0
    · have := n.2.1.1
      rw [gN_hU, gN_pR]; omega
    · have := n.2.1.2
      rw [gT_hU, gT_pR]; omega
end CFN
