/-! SAMPLES: the class draws -/
section SDC
variable {d U n fr : Nat} {h : aH} {X : Nat → aH → Prop} {st : Nat → Int32} {sd : Int32}
def drS (st : Nat → Int32) (U n fr : Nat) (sd : Int32) (i : Nat) : Bool := decide (0 < alS st U n fr i) && decide (cntP (bkS st sd i) U < alS st U n fr i)
def gcS (st : Nat → Int32) (U n fr i : Nat) : Nat := Nat.gcd (alS st U n fr i) (nN st U i)
def blS (st : Nat → Int32) (U n fr i : Nat) : Nat := if 0 < gcS st U n fr i then alS st U n fr i / gcS st U n fr i else alS st U n fr i
def abS (st : Nat → Int32) (U n fr i : Nat) : Nat := if 0 < gcS st U n fr i then nN st U i / gcS st U n fr i else 1
theorem al_le {i : Nat} (u9 : U ≤ 100) (n9 : n ≤ 100) : alS st U n fr i ≤ 10001 := by
  have := (bs_le (st := st) (U := U) (n := n) (fr := fr) (i := i) u9 n9).2
  unfold alS
  split
  · omega
  · split
    · omega
    · split <;> omega
theorem c_draw {K : aH → Prop} {r0 be ab dr : Nat} (u9 : U ≤ 100) (n9 : n ≤ 100) (f9 : fr ≤ 100) (hN : 8 ≤ gN h) (hr : r0 < gN h ∧ 8 ≤ r0 ∧ gK h r0 = 9 ∧ gR h r0 0 = be ∧ gR h r0 1 = ab ∧ gR h r0 2 = dr) (hb : be < gN h ∧ 8 ≤ be ∧ gK h be = 100 ∧ gL h be = U) (ha : ab < gN h ∧ 8 ≤ ab ∧ gK h ab = 100 ∧ gL h ab = U) (hd : dr < gN h ∧ 8 ≤ dr ∧ gK h dr = 102 ∧ gL h dr = U) (ne : be ≠ ab ∧ be ≠ 16 ∧ ab ≠ 16 ∧ r0 ≠ be ∧ r0 ≠ ab ∧ r0 ≠ dr) (hs : gK h 16 = 100 ∧ gL h 16 = 100 ∧ 16 < gN h)
    (hst : ∀ i, i < U → gI h 16 i = st i) (h0 : ∀ i, i < U → gI h be i = 0 ∧ gI h ab i = 0)
    (kk : ∀ h2, keeps h h2 (fun q => q = be ∨ q = ab ∨ q = dr) → (∀ i, i < U → gI h2 be i = nI (blS st U n fr i) ∧ gI h2 ab i = nI (abS st U n fr i) ∧ gI h2 dr i = bI (drS st U n fr sd i)) → gN h2 ≤ gN h + 2 → gT h2 ≤ gT h + 200 → K h2) : CV (d + 3) 235 [vR r0, vR 16, vI (nI n), vI (nI fr), vI sd] h K X := by
  obtain ⟨rN, r8, rk, rb, ra, rd⟩ := hr
  obtain ⟨bN, b8, bk, bl⟩ := hb
  obtain ⟨aN, a8, ak, al⟩ := ha
  obtain ⟨dN, d8, dk, dl⟩ := hd
  obtain ⟨ne1, ne2, ne3, ne4, ne5, ne6⟩ := ne
  obtain ⟨sk, sl, sN⟩ := hs
  have ned1 : dr ≠ be := fun e => by rw [e, bk] at dk; omega
  have ned2 : dr ≠ ab := fun e => by rw [e, ak] at dk; omega
  have ned3 : dr ≠ 16 := fun e => by rw [e, sk] at dk; omega
  have hUI : (nI U).toInt = U := ti_n (by omega)
  have kb : 100 ≤ 102 ∧ 102 ≤ 106 := by decide
  refine m235 ⟨r8, rk, ?_⟩
  refine c_lead (d := d) u9 hN ⟨rN, rk, ra⟩ ⟨aN, a8, ak, al, ne3⟩ ⟨sk, sl, sN⟩ hst (fun i hi => (h0 i hi).2) (fun q0 h2 k2 v2 x2 y2 gn gt => ?_)
  have nq : ∀ q, q < gN h → gK h2 q = gK h q ∧ gL h2 q = gL h q := fun q hq => k2.2.2.1 q hq
  have s0 := k2.2.2.2 r0 rN ne5
  have rk2 : gK h2 r0 = 9 := by rw [s0.1]; exact rk
  have rb2 : gR h2 r0 0 = be := by rw [s0.2.2.2.2]; exact rb
  have ra2 : gR h2 r0 1 = ab := by rw [s0.2.2.2.2]; exact ra
  have rd2 : gR h2 r0 2 = dr := by rw [s0.2.2.2.2]; exact rd
  have bk2 : gK h2 be = 100 := by rw [(nq be bN).1]; exact bk
  have bl2 : gL h2 be = U := by rw [(nq be bN).2]; exact bl
  have ak2 : gK h2 ab = 100 := by rw [(nq ab aN).1]; exact ak
  have al2 : gL h2 ab = U := by rw [(nq ab aN).2]; exact al
  have dk2 : gK h2 dr = 102 := by rw [(nq dr dN).1]; exact dk
  have dl2 : gL h2 dr = U := by rw [(nq dr dN).2]; exact dl
  have sk2 : gK h2 16 = 100 := by rw [(nq 16 sN).1]; exact sk
  have sl2 : gL h2 16 = 100 := by rw [(nq 16 sN).2]; exact sl
  have st2 : ∀ i, i < U → gI h2 16 i = st i := fun i hi => by rw [(k2.2.2.2 16 sN (fun e => ne3 e.symm)).2.2.1]; exact hst i hi
  have b02 : ∀ i, i < U → gI h2 be i = 0 := fun i hi => by rw [(k2.2.2.2 be bN ne1).2.2.1]; exact (h0 i hi).1
  rw [rk2]
  refine ⟨rfl, ?_⟩
  refine c_allot u9 n9 f9 ⟨rk2, rb2, ra2⟩ ⟨b8, bk2, bl2⟩ ⟨ak2, al2⟩ ⟨sk2, sl2⟩ ⟨x2.2.2.2.1, x2.2.2.2.2⟩ ⟨ne1, ne2, by omega⟩ st2 v2 y2 b02 (fun I3 i3 w3 => ?_)
  have ale := fun i => al_le (st := st) (U := U) (n := n) (fr := fr) (i := i) u9 n9
  have aI : ∀ i, (nI (alS st U n fr i)).toInt = (alS st U n fr i : Nat) := fun i => ti_n (by have := ale i; omega)
  have z01 : (0 : Int32) &&& 1 = 0 := rfl
  have z11 : (1 : Int32) &&& 1 = 1 := rfl
  -- smaller numbers
  have red : ∀ (m p : Nat) (I : Nat → Nat → Int32), p + m = U → (∀ x, x ≠ be → x ≠ ab → x ≠ dr → I x = gI h2 x) → (∀ i, i < U → I dr i = bI (drS st U n fr sd i)) → (∀ i, i < U → I be i = if i < p then nI (blS st U n fr i) else nI (alS st U n fr i)) → (∀ i, i < U → I ab i = if i < p then nI (abS st U n fr i) else nI (nN st U i)) → Wp (d + 3) 235 (75, [some (vR r0), none, none, none, none, some (vI (nI p)), none], [], hU h2 I (gJ h2)) (RV K X) := by
    intro m
    induction m with
    | zero =>
      intro p I hp i1 i2 i4 i5
      have hpc : p = U := by omega
      subst hpc
      refine w235_75 ?_
      simp only [↓forall_eq, ↓inB_iff, gK_hU, gL_hU, gR_hU, gIh, gJh, pI_hU, pJ_hU, hU_hU, uI_app, uJ_app, and_true, true_and, and_false, false_and, and_self, true_implies, false_implies, not_true, not_false_iff, if_true, if_false, eq_self, Nat.reduceLeDiff, Nat.reduceEqDiff, reduceCtorEq, i32c, ti0, ti1, tiM, Int.natCast_nonneg, Int.reduceEq, Int.reduceLE, Int.reduceLT, Int.reduceNeg, tl_i, Int32.reduceToInt, Int64.reduceToInt, tiA, tlM6, Int.toNat_natCast, natc, nI_1, Int.zero_sub, implies_true, not_false_eq_true, rk2, rd2, dk2, dl2, kb, Int.lt_irrefl]
      refine kk (hU h2 I (gJ h2)) ⟨k2.1, k2.2.1, k2.2.2.1, fun q hq hp => ?_⟩ (fun i hi => ⟨?_, ?_, ?_⟩) gn gt
      · have z := k2.2.2.2 q hq (fun e => hp (Or.inr (Or.inl e)))
        refine ⟨z.1, z.2.1, fun j => ?_, z.2.2.2.1, z.2.2.2.2⟩
        rw [gI_hU, i1 q (fun e => hp (Or.inl e)) (fun e => hp (Or.inr (Or.inl e))) (fun e => hp (Or.inr (Or.inr e)))]; exact z.2.2.1 j
      · rw [gIh, i4 i hi, if_pos hi]
      · rw [gIh, i5 i hi, if_pos hi]
      · rw [gIh]; exact i2 i hi
    | succ m ih =>
      intro p I hp i1 i2 i4 i5
      have hpI : (nI p).toInt = p := ti_n (by omega)
      have zU : (p : Int) < U := by omega
      have bp : I be p = nI (alS st U n fr p) := by rw [i4 p (by omega), if_neg (by omega)]
      have ap : I ab p = nI (nN st U p) := by rw [i5 p (by omega), if_neg (by omega)]
      have nle : nN st U p ≤ 100 := Nat.le_trans nN_le u9
      have GC := fun (K : Int32 → aH → Prop) X => gcd_br (d := d + 1) (h := hU h2 I (gJ h2)) (a0 := r0) (K := K) (X := X) (show alS st U n fr p ≤ 20000 by have := ale p; omega) nle
      have gle : gcS st U n fr p ≤ 20000 := by
        unfold gcS
        by_cases z : nN st U p = 0
        · rw [z, Nat.gcd_zero_right]; have := ale p; omega
        · have := Nat.gcd_le_right (alS st U n fr p) (show 0 < nN st U p by omega); omega
      have gI' : (nI (Nat.gcd (alS st U n fr p) (nN st U p))).toInt = (gcS st U n fr p : Nat) := by unfold gcS at gle ⊢; exact ti_n (by omega)
      have step : ∀ I2 : Nat → Nat → Int32, (∀ x, x ≠ be → x ≠ ab → I2 x = I x) → (∀ i, i < U → i ≠ p → I2 be i = I be i ∧ I2 ab i = I ab i) → I2 be p = nI (blS st U n fr p) → I2 ab p = nI (abS st U n fr p) → Wp (d + 3) 235 (75, [some (vR r0), none, none, none, none, some (vI (nI (p + 1))), none], [], hU h2 I2 (gJ h2)) (RV K X) := fun I2 j1 j2 j3 j4 => by
        refine ih (p + 1) I2 (by omega) (fun x h1 h2 h3 => by rw [j1 x h1 h2]; exact i1 x h1 h2 h3) (fun i hi => by rw [j1 dr ned1 ned2]; exact i2 i hi) (fun i hi => ?_) (fun i hi => ?_)
        · by_cases e : i = p
          · rw [e, if_pos (by omega)]; exact j3
          · rw [(j2 i hi e).1, i4 i hi]
            by_cases l : i < p
            · rw [if_pos l, if_pos (by omega)]
            · rw [if_neg l, if_neg (by omega)]
        · by_cases e : i = p
          · rw [e, if_pos (by omega)]; exact j4
          · rw [(j2 i hi e).2, i5 i hi]
            by_cases l : i < p
            · rw [if_pos l, if_pos (by omega)]
            · rw [if_neg l, if_neg (by omega)]
      have ne1' : ab ≠ be := fun e => ne1 e.symm
      refine w235_75 ?_
      simp only [↓forall_eq, ↓inB_iff, gK_hU, gL_hU, gR_hU, gIh, gJh, pI_hU, pJ_hU, hU_hU, uI_app, uJ_app, and_true, true_and, and_false, false_and, and_self, true_implies, false_implies, not_true, not_false_iff, if_true, if_false, eq_self, Nat.reduceLeDiff, Nat.reduceEqDiff, reduceCtorEq, i32c, ti0, ti1, tiM, Int.natCast_nonneg, Int.reduceEq, Int.reduceLE, Int.reduceLT, Int.reduceNeg, tl_i, Int32.reduceToInt, Int64.reduceToInt, tiA, tlM6, Int.toNat_natCast, natc, nI_1, Int.zero_sub, implies_true, not_false_eq_true, rk2, rb2, ra2, rd2, dk2, dl2, bk2, bl2, ak2, al2, kb, hUI, hpI, zU, bp, ap, r8, b8, a8, ↓GC, gI']
      refine ⟨fun c => ?_, fun c => ?_⟩
      · have gne : ¬ nI (Nat.gcd (alS st U n fr p) (nN st U p)) = 0 := fun e => by rw [e] at gI'; have : (0 : Int32).toInt = 0 := rfl; omega
        have d1 : nI (alS st U n fr p) / nI (Nat.gcd (alS st U n fr p) (nN st U p)) = nI (blS st U n fr p) := by
          rw [nI_div (by have := ale p; omega) (by unfold gcS at gle; omega)]
          unfold blS; rw [if_pos (by omega)]; rfl
        have d2 : nI (nN st U p) / nI (Nat.gcd (alS st U n fr p) (nN st U p)) = nI (abS st U n fr p) := by
          rw [nI_div (by omega) (by unfold gcS at gle; omega)]
          unfold abS; rw [if_pos (by omega)]; rfl
        simp only [↓forall_eq, ↓inB_iff, gK_hU, gL_hU, gR_hU, gIh, gJh, pI_hU, pJ_hU, hU_hU, uI_app, uJ_app, and_true, true_and, and_false, false_and, and_self, true_implies, false_implies, not_true, not_false_iff, if_true, if_false, eq_self, Nat.reduceLeDiff, Nat.reduceEqDiff, reduceCtorEq, i32c, ti0, ti1, tiM, Int.natCast_nonneg, Int.reduceEq, Int.reduceLE, Int.reduceLT, Int.reduceNeg, tl_i, Int32.reduceToInt, Int64.reduceToInt, tiA, tlM6, Int.toNat_natCast, natc, nI_1, Int.zero_sub, implies_true, not_false_eq_true, ne1, ne1', ap, gne, d1, d2]
        refine step _ (fun x h1 h2 => by rw [uI_ne _ _ _ h2, uI_ne _ _ _ h1]) (fun i hi e => ⟨by rw [uI_ne _ _ _ ne1, uI_nj _ _ _ _ e], by rw [uI_nj _ _ _ _ e, uI_ne _ _ _ ne1']⟩) ?_ (by rw [uI_same])
        rw [uI_ne _ _ _ ne1, uI_same]
      · refine step _ (fun x h1 h2 => by rw [uI_ne _ _ _ h2]) (fun i hi e => ⟨by rw [uI_ne _ _ _ ne1], by rw [uI_nj _ _ _ _ e]⟩) ?_ ?_
        · rw [uI_ne _ _ _ ne1, bp]; unfold blS; rw [if_neg (by omega)]
        · rw [uI_same]; unfold abS; rw [if_neg (by omega)]; rfl
  have draw : ∀ (m p : Nat) (I : Nat → Nat → Int32), p + m = U → (∀ x, x ≠ be → x ≠ dr → I x = gI h2 x) → (∀ i, i < U → I be i = nI (alS st U n fr i)) → (∀ i, i < p → I dr i = bI (drS st U n fr sd i)) → Wp (d + 3) 235 (15, [some (vR r0), some (vR 16), none, none, some (vI sd), some (vI (nI p)), none], [], hU h2 I (gJ h2)) (RV K X) := by
    intro m
    induction m with
    | zero =>
      intro p I hp i1 i2 i3
      have hpc : p = U := by omega
      subst hpc
      refine w235_15 ?_
      simp only [↓forall_eq, ↓inB_iff, gK_hU, gL_hU, gR_hU, gIh, gJh, pI_hU, pJ_hU, hU_hU, uI_app, uJ_app, and_true, true_and, and_false, false_and, and_self, true_implies, false_implies, not_true, not_false_iff, if_true, if_false, eq_self, Nat.reduceLeDiff, Nat.reduceEqDiff, reduceCtorEq, i32c, ti0, ti1, tiM, Int.natCast_nonneg, Int.reduceEq, Int.reduceLE, Int.reduceLT, Int.reduceNeg, tl_i, Int32.reduceToInt, Int64.reduceToInt, tiA, tlM6, Int.toNat_natCast, natc, nI_1, Int.zero_sub, implies_true, not_false_eq_true, rk2, rd2, dk2, dl2, kb, Int.lt_irrefl]
      exact red p 0 I (by omega) (fun x h1 _ h3 => i1 x h1 h3) i3 (fun i hi => by rw [if_neg (by omega)]; exact i2 i hi) (fun i hi => by rw [if_neg (by omega), i1 ab (fun e => ne1 e.symm) (fun e => ned2 e.symm)]; exact v2 i hi)
    | succ m ih =>
      intro p I hp i1 i2 i3
      have hpI : (nI p).toInt = p := ti_n (by omega)
      have zU : (p : Int) < U := by omega
      have bp : I be p = nI (alS st U n fr p) := i2 p (by omega)
      have RK := fun (K : Int32 → aH → Prop) X => rank_br (d := d + 1) (st := st) (sd := sd) (U := U) (K := K) (X := X) (h := hU h2 I (gJ h2)) (r0 := r0) (dr := dr) (p := p) u9 ⟨rk2, r8, rd2⟩ ⟨dk2, dl2⟩ ⟨sk2, sl2⟩ (fun i hi => by rw [gIh, i1 16 (fun e => ne2 e.symm) (fun e => ned3 e.symm)]; exact st2 i hi) (by omega)
      have cle := cntP_le (P := bkS st sd p) U
      have cI : (nI (cntP (bkS st sd p) U)).toInt = (cntP (bkS st sd p) U : Nat) := ti_n (by omega)
      have step : ∀ v : Int32, v = bI (drS st U n fr sd p) → Wp (d + 3) 235 (15, [some (vR r0), some (vR 16), none, none, some (vI sd), some (vI (nI (p + 1))), none], [], hU h2 (uI I dr p v) (gJ h2)) (RV K X) := fun v hv => by
        refine ih (p + 1) _ (by omega) (fun x h1 h2 => by rw [uI_ne _ _ _ h2]; exact i1 x h1 h2) (fun i hi => by rw [uI_ne _ _ _ (fun e => ned1 e.symm)]; exact i2 i hi) (fun i hi => ?_)
        rw [uI_app]
        by_cases e : i = p
        · rw [if_pos ⟨rfl, e⟩, e]; exact hv
        · rw [if_neg (fun w => e w.2)]; exact i3 i (by omega)
      refine w235_15 ?_
      simp only [↓forall_eq, ↓inB_iff, gK_hU, gL_hU, gR_hU, gIh, gJh, pI_hU, pJ_hU, hU_hU, uI_app, uJ_app, and_true, true_and, and_false, false_and, and_self, true_implies, false_implies, not_true, not_false_iff, if_true, if_false, eq_self, Nat.reduceLeDiff, Nat.reduceEqDiff, reduceCtorEq, i32c, ti0, ti1, tiM, Int.natCast_nonneg, Int.reduceEq, Int.reduceLE, Int.reduceLT, Int.reduceNeg, tl_i, Int32.reduceToInt, Int64.reduceToInt, tiA, tlM6, Int.toNat_natCast, natc, nI_1, Int.zero_sub, implies_true, not_false_eq_true, rk2, rb2, rd2, dk2, dl2, bk2, bl2, kb, hUI, hpI, zU, bp, aI, r8, d8, ↓RK, cI, z01, z11]
      refine ⟨fun c => ⟨fun c2 => step _ ?_, fun c2 => step _ ?_⟩, fun c => step _ ?_⟩
      · unfold drS; rw [decide_eq_true (show 0 < alS st U n fr p by omega), decide_eq_true (show cntP (bkS st sd p) U < alS st U n fr p by omega)]; rfl
      · unfold drS; rw [decide_eq_false (show ¬ cntP (bkS st sd p) U < alS st U n fr p by omega), Bool.and_false]; rfl
      · unfold drS; rw [decide_eq_false (show ¬ 0 < alS st U n fr p by omega)]; rfl
  exact draw U 0 I3 (by omega) (fun x h1 _ => i3 x h1) w3 (fun i hi => by omega)
end SDC
