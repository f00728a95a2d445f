/-! IMPUTE: the model's donor -/
section IPD
variable {d f r k n p nr : Nat} {h g : aH} {A o : Nat → Nat} {X : Nat → aH → Prop} {M I0 I I1 : Nat → Nat → Int32} {J : Nat → Nat → Int64} {S : Int32}
/-- the records as the model looks for a donor -/
def dcm (g : aH) (M : Nat → Nat → Int32) (f nr : Nat) : Prop := ∀ k, k < nr → fR M k < 6 ∧ (fR M k = f → edM g M f k (itM M k) ∧ bndI (cnM M f) (itM M k))
theorem m_donor {K : Int32 → aH → Prop} (rc : rcM g M J nr) (R : formR h A M f) (D : dcm g M f nr) (hr : r < nr) (hfr : fR M r = f) (s0 : tFr M I0) (e53 : I0 44 53 = nI nr) {w9 : Int32} (h1 : w9.toInt = 1)
    (kk : ∀ I1, tFr M I1 → (∀ c, c ≠ 85 → I1 c = I0 c) → Wp (d + 3) 227 (80, [some (vR 44), some (vI (nI r)), some (vI w9), some (vI (nI f)), some (vI S), some (vI (iZ (dnG (gvK M f S r) (dsK M f S r) nr).1)), some (vI (nI nr)), none], [], hU g I1 J) (RI K X)) :
    ∀ (n p : Nat) (I : Nat → Nat → Int32), p + n = nr → tFr M I → (∀ c, c ≠ 85 → I c = I0 c) → Wp (d + 3) 227 (80, [some (vR 44), some (vI (nI r)), some (vI w9), some (vI (nI f)), some (vI S), some (vI (iZ (dnG (gvK M f S r) (dsK M f S r) p).1)), some (vI (nI p)), none], [], hU g I J) (RI K X) := by
  have rc0 := rc
  obtain ⟨mf, h60, fo⟩ := rc
  obtain ⟨er, br⟩ := (D r hr).2 hfr
  have c20 := er.2.2.1
  have hnr : (nI nr).toInt = nr := ti_n (by omega)
  intro n
  induction n with
  | zero =>
    intro p I hp s q
    have hpn : p = nr := by omega
    subst hpn
    exact kk I s q
  | succ n ih =>
    intro p I hp s q
    have hpI : (nI p).toInt = p := ti_n (by omega)
    have hlt : (p : Int) < nr := by omega
    have hpz : nI p = iZ (p : Int) := ti_inj (by rw [hpI, ti_z (by omega) (by omega)])
    have g53 : I 44 53 = nI nr := by rw [q 44 (by decide)]; exact e53
    have nx := fun I3 (s3 : tFr M I3) (q3 : ∀ c, c ≠ 85 → I3 c = I c) => ih (p + 1) I3 (by omega) s3 (fun c hc => (q3 c hc).trans (q c hc))
    rw [dnG] at nx
    refine w227_80 ?_
    simp only [↓forall_eq, ↓inB_iff, gK_hU, gL_hU, gR_hU, gIh, gJh, pI_hU, pJ_hU, hU_hU, uI_app, uJ_app, and_true, true_and, and_false, false_and, and_self, true_implies, false_implies, not_true, not_false_iff, if_true, if_false, eq_self, Nat.reduceLeDiff, Nat.reduceEqDiff, reduceCtorEq, i32c, ti0, ti1, tiM, Int.natCast_nonneg, Int.reduceEq, Int.reduceLE, Int.reduceLT, Int.reduceNeg, tl_i, Int32.reduceToInt, Int64.reduceToInt, tiA, tlM6, Int.toNat_natCast, natc, nI_1, Int.zero_sub, implies_true, not_false_eq_true, mf.1, mr_15 mf, mk_53 mf, ml_53 mf, mr_55 mf, mk_79 mf, ml_79 mf, mr_56 mf, mk_80 mf, ml_80 mf, mr_61 mf, mk_85 mf, ml_85 mf, g53, hnr, hpI, hlt, h1]
    refine m_give (d := d) rc0 R er (fun z => ((D p (by omega)).2 z).1) hr (by omega) hfr (D p (by omega)).1 br (fun z => ((D p (by omega)).2 z).2) s (fun I2 s2 q2 => ?_)
    simp only [↓forall_eq, ↓inB_iff, gK_hU, gL_hU, gR_hU, gIh, gJh, pI_hU, pJ_hU, hU_hU, uI_app, uJ_app, and_true, true_and, and_false, false_and, and_self, true_implies, false_implies, not_true, not_false_iff, if_true, if_false, eq_self, Nat.reduceLeDiff, Nat.reduceEqDiff, reduceCtorEq, i32c, ti0, ti1, tiM, Int.natCast_nonneg, Int.reduceEq, Int.reduceLE, Int.reduceLT, Int.reduceNeg, tl_i, Int32.reduceToInt, Int64.reduceToInt, tiA, tlM6, Int.toNat_natCast, natc, nI_1, Int.zero_sub, implies_true, not_false_eq_true, mf.1, mr_15 mf, mk_53 mf, ml_53 mf, mr_55 mf, mk_79 mf, ml_79 mf, mr_56 mf, mk_80 mf, ml_80 mf, mr_61 mf, mk_85 mf, ml_85 mf, bI0]
    refine ⟨fun c => ?_, fun c => ?_⟩
    · have := nx I2 s2 q2
      rw [if_neg (fun z => by rw [c] at z; exact absurd z.1 (by decide))] at this
      exact this
    · have gp := bnf c
      have fp : fR M p = f := by
        have := gp
        unfold gvK at this
        simp only [Bool.and_eq_true, decide_eq_true_eq] at this
        exact this.2.1
      obtain ⟨ep, bp⟩ := (D p (by omega)).2 fp
      have b1 := dst_b (M := M) (f := f) (S := S) br bp _ (Nat.le_refl _)
      rcases dnG_in (gv := gvK M f S r) (ds := dsK M f S r) p with e9 | ⟨k, k1, k2, k3⟩
      · have t1 : (iZ (dnG (gvK M f S r) (dsK M f S r) p).1).toInt = -1 := by rw [e9]; rfl
        refine ⟨fun _ => ?_, fun c2 => absurd t1 c2⟩
        have := nx I2 s2 q2
        rw [if_pos ⟨gp, by rw [e9]; show dstI M f S (itM M p) (itM M r) (cnM M f) < 2147483647; omega⟩] at this
        rw [hpz]; exact this
      · have fk : fR M k = f := by
          have := k2
          unfold gvK at this
          simp only [Bool.and_eq_true, decide_eq_true_eq] at this
          exact this.2.1
        obtain ⟨ek, bk⟩ := (D k (by omega)).2 fk
        have hkz : iZ (k : Int) = nI k := ti_inj (by rw [ti_z (by omega) (by omega), ti_n (by omega)])
        have t1 : ¬ (iZ (dnG (gvK M f S r) (dsK M f S r) p).1).toInt = -1 := by rw [k3, ti_z (by dsimp only; omega) (by dsimp only; omega)]; dsimp only; omega
        refine ⟨fun c2 => absurd c2 t1, fun _ => ?_⟩
        refine m_dist (d := d + 1) rc0 er ep hr hfr br bp s2 (fun y1 hy1 => ?_)
        have l5 : (dnG (gvK M f S r) (dsK M f S r) p).1 = (k : Int) := by rw [k3]
        have l6 : (dnG (gvK M f S r) (dsK M f S r) p).2 = dstI M f S (itM M k) (itM M r) (cnM M f) := by rw [k3]
        rw [l5, hkz]
        simp only [↓forall_eq, ↓inB_iff, gK_hU, gL_hU, gR_hU, gIh, gJh, pI_hU, pJ_hU, hU_hU, uI_app, uJ_app, and_true, true_and, and_false, false_and, and_self, true_implies, false_implies, not_true, not_false_iff, if_true, if_false, eq_self, Nat.reduceLeDiff, Nat.reduceEqDiff, reduceCtorEq, i32c, ti0, ti1, tiM, Int.natCast_nonneg, Int.reduceEq, Int.reduceLE, Int.reduceLT, Int.reduceNeg, tl_i, Int32.reduceToInt, Int64.reduceToInt, tiA, tlM6, Int.toNat_natCast, natc, nI_1, Int.zero_sub, implies_true, not_false_eq_true, mf.1, mr_15 mf, mk_53 mf, ml_53 mf, mr_55 mf, mk_79 mf, ml_79 mf, mr_56 mf, mk_80 mf, ml_80 mf, mr_61 mf, mk_85 mf, ml_85 mf]
        refine m_dist (d := d + 1) rc0 er ek hr hfr br bk s2 (fun y2 hy2 => ?_)
        have nx2 := nx I2 s2 q2
        rw [hy1, hy2]
        refine ⟨fun c3 => ?_, fun c3 => ?_⟩
        · rw [if_pos ⟨gp, by rw [l6]; exact c3⟩] at nx2
          rw [hpz]; exact nx2
        · rw [if_neg (fun z => c3 (by have := z.2; rw [l6] at this; exact this)), l5, hkz] at nx2
          exact nx2
end IPD
