/-! DONORS: the class's way through the records -/
section DOC
variable {d f s r q n p nr nf ns : Nat} {it dn t t1 : Nat → Int32} {h g : aH} {A o : Nat → Nat} {X : Nat → aH → Prop} {M : Nat → Nat → Int32} {I I1 : Nat → Nat → Int32} {J : Nat → Nat → Int64} {S T U : Int32} {E : Nat → Nat → List Tm} {Cn : Nat → Nat → List Cmp}
/-- the records, as one looks for a donor -/
def dcs (h : aH) (A o : Nat → Nat) (M : Nat → Nat → Int32) (f nr : Nat) : Prop := listT h A o 36 7 nr 5 ∧ nr ≤ 60 ∧ ∀ k, k < nr → TR h A o k ∧ (fR M k < 60 ∧ TF h A o (fR M k) ∧ gR h (A (bR k)) 0 = A (bF (fR M k))) ∧ (fR M k = f → edC h A o M f k (itM M k) ∧ bndI (cnM M f) (itM M k))
theorem dcs_of (b : base h o) (F : FormA h A o (gI h) E Cn nf) (R : RecA h A o (gI h) nf ns nr) : dcs h A o (gI h) f nr := by
  have h60 := R.2.1.2
  have n6 := F.2.1.2
  refine ⟨R.1, h60, fun k hk => ?_⟩
  have ed := (ed_of b F R hk).1
  obtain ⟨t, ⟨r2, r3, r4, r5⟩, ⟨r6, r7, r8⟩, r9, r10⟩ := R.2.2 k hk
  have tf := (F.2.2 _ r5).1.1
  have c2 := (cn_of F _ r5).2
  refine ⟨t, ⟨by omega, tf, r6⟩, fun e => ?_⟩
  subst e
  exact ⟨ed, bnd_le r10.1 c2⟩
theorem R_ne0 {k l : Nat} (t : TR h A o k) (t2 : TR h A o l) : A (bR k) = A (bR l) ↔ k = l := by
  constructor
  · intro e
    have h1 := oR_0 t
    have h2 := oR_0 t2
    rw [e, h2] at h1
    unfold bR at h1
    omega
  · intro e; rw [e]
theorem F_ne0 {k l : Nat} (t : TF h A o k) (t2 : TF h A o l) : A (bF k) = A (bF l) ↔ k = l := by
  constructor
  · intro e
    have h1 := oF_0 t
    have h2 := oF_0 t2
    rw [e, h2] at h1
    unfold bF at h1
    omega
  · intro e; rw [e]
theorem c_donor {K : Int32 → aH → Prop} (D : dcs h A o M f nr) (hr : r < nr) (hf : fR M r = f) (s : eFr h I) (kk : ∀ I1, eFr h I1 → I1 32 = I 32 → K (iZ (dnG (gvK M f S r) (dsK M f S r) nr).1) (hU h I1 J)) : CI (d + 6) 217 [vR 32, vR 36, vR (A (bR r)), vI S] (hU h I J) K X := by
  obtain ⟨L, h60, D3⟩ := D
  obtain ⟨tr, ⟨g1, g2, g3⟩, g4⟩ := D3 r hr
  obtain ⟨er, br⟩ := g4 hf
  rw [hf] at g2 g3
  have CF0 := er.1.1
  have c20 := er.2.2.2.2.1.2
  have hnr : (nI nr).toInt = nr := ti_n (by omega)
  have main : ∀ (n p : Nat) (I2 : Nat → Nat → Int32), p + n = nr → eFr h I2 → I2 32 = I 32 → Wp (d + 6) 217 (10, [some (vR 32), some (vR 36), some (vR (A (bR r))), some (vI S), some (vI (iZ (dnG (gvK M f S r) (dsK M f S r) p).1)), some (vI (iZ (dnG (gvK M f S r) (dsK M f S r) p).2)), some (vI (nI p)), none, none], [], hU h I2 J) (RI K X) := by
    intro n
    induction n with
    | zero =>
      intro p I2 hp s2 q2
      have hpn : p = nr := by omega
      subst hpn
      have L2 : listT (hU h I2 J) A o 36 7 p 5 := ⟨L.1, ⟨by rw [gIh, s2 36 (by decide) (by decide)]; exact L.2.1.1, L.2.1.2⟩, L.2.2⟩
      refine w217_10 ?_
      simp only [↓forall_eq, ↓inB_iff, gK_hU, gL_hU, gR_hU, gIh, gJh, pI_hU, pJ_hU, hU_hU, uI_app, uJ_app, and_true, true_and, and_false, false_and, and_self, true_implies, false_implies, not_true, not_false_iff, if_true, if_false, eq_self, Nat.reduceLeDiff, Nat.reduceEqDiff, reduceCtorEq, i32c, ti0, ti1, tiM, Int.natCast_nonneg, Int.reduceEq, Int.reduceLE, Int.reduceLT, Int.reduceNeg, tl_i, Int32.reduceToInt, Int64.reduceToInt, tiA, tlM6, Int.toNat_natCast, natc, nI_1, Int.zero_sub, implies_true, not_false_eq_true, L.1.1, ↓lsize_br L2, Int.lt_irrefl]
      exact kk I2 s2 q2
    | succ n ih =>
      intro p I2 hp s2 q2
      have L2 : listT (hU h I2 J) A o 36 7 nr 5 := ⟨L.1, ⟨by rw [gIh, s2 36 (by decide) (by decide)]; exact L.2.1.1, L.2.1.2⟩, L.2.2⟩
      have hpI : (nI p).toInt = p := ti_n (by omega)
      have hlt : (p : Int) < nr := by omega
      obtain ⟨tp, ⟨p1, p2, p3⟩, p4⟩ := D3 p (by omega)
      have G := fun (d : Nat) (K : Nat → aH → Prop) (X : Nat → aH → Prop) => lget_br (d := d) (X := X) (K := K) (x := nI p) L2 (by rw [hpI]; omega)
      have eb : 7 * 1000000 + 1000 + 100 * (nI p).toInt.toNat = bR p := by rw [hpI]; unfold bR; omega
      simp only [eb] at G
      have nx := fun I3 (s3 : eFr h I3) (q3 : I3 32 = I2 32) => ih (p + 1) I3 (by omega) s3 (q3.trans q2)
      rw [dnG] at nx
      have no : gvK M f S r p = false → ∀ I3, eFr h I3 → I3 32 = I2 32 → Wp (d + 6) 217 (10, [some (vR 32), some (vR 36), some (vR (A (bR r))), some (vI S), some (vI (iZ (dnG (gvK M f S r) (dsK M f S r) p).1)), some (vI (iZ (dnG (gvK M f S r) (dsK M f S r) p).2)), some (vI (nI (p + 1))), none, none], [], hU h I3 J) (RI K X) := fun c I3 s3 q3 => by
        have := nx I3 s3 q3
        rw [if_neg (fun z => by rw [c] at z; exact absurd z.1 (by decide))] at this
        exact this
      have g3' : gR h (A (bR r)) 0 = A (bF f) := g3
      refine w217_10 ?_
      simp only [↓forall_eq, ↓inB_iff, gK_hU, gL_hU, gR_hU, gIh, gJh, pI_hU, pJ_hU, hU_hU, uI_app, uJ_app, and_true, true_and, and_false, false_and, and_self, true_implies, false_implies, not_true, not_false_iff, if_true, if_false, eq_self, Nat.reduceLeDiff, Nat.reduceEqDiff, reduceCtorEq, i32c, ti0, ti1, tiM, Int.natCast_nonneg, Int.reduceEq, Int.reduceLE, Int.reduceLT, Int.reduceNeg, tl_i, Int32.reduceToInt, Int64.reduceToInt, tiA, tlM6, Int.toNat_natCast, natc, nI_1, Int.zero_sub, implies_true, not_false_eq_true, L.1.1, ↓lsize_br L2, hpI, hnr, hlt, ↓G, kR_0 tp, kR_0 tr, eR_0 tp, eR_0 tr, p3, g3', eF_0 p2, eF_0 g2, R_ne0 tp tr, F_ne0 p2 g2, ck_32 CF0, or_true, true_or, and_true, true_and]
      refine ⟨fun c1 => ?_, fun c1 => ⟨fun c2 => ?_, fun c2 => ?_⟩⟩
      · refine no ?_ I2 s2 rfl
        unfold gvK; rw [decide_eq_false (fun z => z c1), Bool.false_and]
      · obtain ⟨ep, bp⟩ := p4 c2
        have gv : gvK M f S r p = giveB M f S (itM M p) (itM M r) := by unfold gvK; rw [decide_eq_true c1, decide_eq_true c2, Bool.true_and, Bool.true_and]
        refine c_give (d := d) er ep br bp s2 (fun I3 s3 q3 => ?_)
        have DB := fun K X => @dist_br (d + 2) f r p (itM M r) (itM M p) (hU h I3 J) A o X M S K (edC_hU er s3) (edC_hU ep s3) br bp
        have b1 := dst_b (M := M) (f := f) (S := S) br bp _ (Nat.le_refl _)
        have zd := ti_z (z := dstI M f S (itM M p) (itM M r) (cnM M f)) (by omega) (by omega)
        have zb : (iZ (dnG (gvK M f S r) (dsK M f S r) p).2).toInt = (dnG (gvK M f S r) (dsK M f S r) p).2 := by
          rcases dnG_in (gv := gvK M f S r) (ds := dsK M f S r) p with e9 | ⟨k, k1, k2, k3⟩
          · rw [e9]; exact ti_z (by decide) (by decide)
          · rw [k3]
            have kf : fR M k = f := by
              unfold gvK at k2
              simp only [Bool.and_eq_true, decide_eq_true_eq] at k2
              exact k2.2.1
            obtain ⟨ek, bk⟩ := (D3 k (by omega)).2.2 kf
            have b2 := dst_b (M := M) (f := f) (S := S) br bk _ (Nat.le_refl _)
            exact ti_z (z := dstI M f S (itM M k) (itM M r) (cnM M f)) (by omega) (by omega)
        simp only [↓forall_eq, ↓inB_iff, gK_hU, gL_hU, gR_hU, gIh, gJh, pI_hU, pJ_hU, hU_hU, uI_app, uJ_app, and_true, true_and, and_false, false_and, and_self, true_implies, false_implies, not_true, not_false_iff, if_true, if_false, eq_self, Nat.reduceLeDiff, Nat.reduceEqDiff, reduceCtorEq, i32c, ti0, ti1, tiM, Int.natCast_nonneg, Int.reduceEq, Int.reduceLE, Int.reduceLT, Int.reduceNeg, tl_i, Int32.reduceToInt, Int64.reduceToInt, tiA, tlM6, Int.toNat_natCast, natc, nI_1, Int.zero_sub, implies_true, not_false_eq_true, bI0, ck_32 CF0, ↓DB, zd, zb]
        refine ⟨fun c3 => no (by rw [gv]; exact c3) I3 s3 q3, fun c3 => ⟨fun c4 => ?_, fun c4 => ?_⟩⟩
        · have := nx I3 s3 q3
          rw [if_pos ⟨by rw [gv]; exact bnf c3, c4⟩] at this
          rw [show nI p = iZ (p : Int) from ti_inj (by rw [hpI, ti_z (by omega) (by omega)])]
          exact this
        · have := nx I3 s3 q3
          rw [if_neg (fun z => c4 z.2)] at this
          exact this
      · refine no ?_ I2 s2 rfl
        unfold gvK; rw [decide_eq_false c2, Bool.false_and, Bool.and_false]
  exact m217 (main nr 0 I (by omega) s rfl)
end DOC
