/-! A RECORD CHANGED: the class's side -/
section CHG
variable {d f r n p cnt nu ri : Nat} {it dn rg so : Nat → Int32} {h : aH} {A o : Nat → Nat} {X : Nat → aH → Prop} {I I1 : Nat → Nat → Int32} {J : Nat → Nat → Int64} {S mk : Int32} {E : Nat → List Tm} {Cn : Nat → List Cmp}
def mixN (S : Int32) (dn it : Nat → Int32) (p i : Nat) : Int32 := if i < p ∧ gB S i = true then dn i else it i
/-- the lets, in their order -/
def ltI (so : Nat → Int32) (E : Nat → List Tm) (Cn : Nat → List Cmp) (rg it : Nat → Int32) : Nat → Nat → Int32
  | 0 => it
  | p + 1 => if (so p).toInt = 1 then upG (ltI so E Cn rg it p) p (wtF (ltI so E Cn rg it p) rg (E p) (Cn p)) else ltI so E Cn rg it p
theorem ltI_b (b : bndI 20 it) : ∀ p, bndI 20 (ltI so E Cn rg it p) := by
  intro p
  induction p with
  | zero => exact b
  | succ p ih =>
    rw [ltI]
    split
    · intro i hi
      unfold upG
      split
      · exact wtF_b _ _ _ _
      · exact ih i hi
    · exact ih
/-- only a record's own numbers and marks change -/
def rFr (h : aH) (A : Nat → Nat) (r : Nat) (I : Nat → Nat → Int32) : Prop := ∀ c, c ≠ A (bR r + 1) → c ≠ A (bR r + 2) → I c = gI h c
theorem F_ne_R {j i : Nat} (t : TF h A o f) (u : TR h A o r) (hf : f ≤ 60) (hr : r ≤ 60) (hj : j < 12) (hi : i < 3) : A (bF f + j) ≠ A (bR r + i) := by
  obtain ⟨kd, v⟩ := vF_j t hj
  obtain ⟨kd2, v2⟩ := vR_j u hi
  intro e
  have h1 := v.1
  rw [e, v2.1] at h1
  unfold bF bR at h1
  omega
theorem R_ne12 (u : TR h A o r) : A (bR r + 2) ≠ A (bR r + 1) ∧ A (bR r) ≠ A (bR r + 1) ∧ A (bR r) ≠ A (bR r + 2) := by
  obtain ⟨k1, v1⟩ := vR_j u (j := 1) (by omega)
  obtain ⟨k2, v2⟩ := vR_j u (j := 2) (by omega)
  obtain ⟨k0, v0⟩ := vR_j u (j := 0) (by omega)
  refine ⟨fun e => ?_, fun e => ?_, fun e => ?_⟩
  · have := v2.1; rw [e, v1.1] at this; omega
  · have := v0.1; rw [Nat.add_zero, e, v1.1] at this; omega
  · have := v0.1; rw [Nat.add_zero, e, v2.1] at this; omega
theorem c_change {K : aH → Prop} (fm : fmC h A o f cnt so E Cn) (tr : TR h A o r) (r60 : r ≤ 60) (hf : gR h (A (bR r)) 0 = A (bF f)) (hri : gR h (A (bR r)) 2 = ri) (rk : gK h ri = 100 ∧ gL h ri = 6 ∧ ri ≠ A (bR r + 1) ∧ ri ≠ A (bR r + 2)) (hrg : ∀ i, i < 6 → gI h ri i = rg i) (b2 : bndI 6 rg) (hit : ∀ i, i < 20 → gI h (A (bR r + 1)) i = it i) (bi : bndI 20 it) (nk : gK h nu = 100 ∧ gL h nu = 20 ∧ nu ≠ A (bR r + 1) ∧ nu ≠ A (bR r + 2)) (hdn : ∀ i, i < cnt → gB S i = true → gI h nu i = dn i ∧ ((dn i).toInt = -2000000 ∨ (-1000000 ≤ (dn i).toInt ∧ (dn i).toInt ≤ 1000000)))
    (kk : ∀ I1, rFr h A r I1 → (∀ i, i < 20 → I1 (A (bR r + 1)) i = ltI so E Cn rg (mixN S dn it cnt) cnt i) → (∀ i, i < 20 → I1 (A (bR r + 2)) i = if i < cnt ∧ gB S i = true then mk else gI h (A (bR r + 2)) i) → K (hU h I1 (gJ h))) : CV (d + 4) 218 [vR (A (bR r)), vI S, vR nu, vI mk] h K X := by
  obtain ⟨ne21, ne01, ne02⟩ := R_ne12 tr
  have tf := fm.1
  have f60 := fm.2.2.1.2.2
  have c20 := fm.2.2.1.2.1
  have hcI : (nI cnt).toInt = cnt := ti_n (by omega)
  have fmU : ∀ I, rFr h A r I → fmC (hU h I (gJ h)) A o f cnt so E Cn := fun I s => fmC_hU (fun j hj => s _ (F_ne_R tf tr f60 r60 hj (by omega)) (F_ne_R tf tr f60 r60 hj (by omega))) fm
  have lets : ∀ (n p : Nat) (I : Nat → Nat → Int32), p + n = cnt → rFr h A r I → (∀ i, i < 20 → I (A (bR r + 1)) i = ltI so E Cn rg (mixN S dn it cnt) p i) → (∀ i, i < 20 → I (A (bR r + 2)) i = if i < cnt ∧ gB S i = true then mk else gI h (A (bR r + 2)) i) → Wp (d + 4) 218 (59, [some (vR (A (bR r))), none, none, none, some (vI (nI p))], [], hU h I (gJ h)) (RV K X) := by
    intro n
    induction n with
    | zero =>
      intro p I hp s v1 v2
      have c1 : I (A (bF f)) 11 = nI cnt := (fmU I s).2.2.1.1
      have hpc : p = cnt := by omega
      subst hpc
      refine w218_59 ?_
      simp only [↓forall_eq, ↓inB_iff, gK_hU, gL_hU, gR_hU, gIh, gJh, pI_hU, pJ_hU, hU_hU, uI_app, uJ_app, and_true, true_and, and_false, false_and, and_self, true_implies, false_implies, not_true, not_false_iff, if_true, if_false, eq_self, Nat.reduceLeDiff, Nat.reduceEqDiff, reduceCtorEq, i32c, ti0, ti1, tiM, Int.natCast_nonneg, Int.reduceEq, Int.reduceLE, Int.reduceLT, Int.reduceNeg, tl_i, Int32.reduceToInt, Int64.reduceToInt, tiA, tlM6, Int.toNat_natCast, natc, nI_1, Int.zero_sub, implies_true, not_false_eq_true, kR_0 tr, hf, kF_0 tf, c1, Int.lt_irrefl]
      exact kk I s v1 v2
    | succ n ih =>
      intro p I hp s v1 v2
      have fI := fmU I s
      have c1 : I (A (bF f)) 11 = nI cnt := fI.2.2.1.1
      obtain ⟨y1, y2, -⟩ := fI.2.2.2 p (by omega)
      have y1' : I (A (bF f + 3)) p = so p := y1
      have hpI : (nI p).toInt = p := ti_n (by omega)
      have hlt : (p : Int) < cnt := by omega
      have z20 : (p : Int) < 20 := by omega
      have bm : bndI 20 (mixN S dn it cnt) := fun i hi => by
        unfold mixN
        split
        · rename_i c; exact (hdn i c.1 c.2).2
        · exact bi i hi
      have vT : itT (hU h I (gJ h)) (A (bR r + 1)) ri (ltI so E Cn rg (mixN S dn it cnt) p) rg := ⟨⟨kR_1 tr, lR_1 tr, rk.1, rk.2.1⟩, v1, fun i hi => by rw [gIh, s ri rk.2.2.1 rk.2.2.2]; exact hrg i hi⟩
      have WB := fun (K : Int32 → aH → Prop) X => worth_br (d := d) (X := X) (K := K) (t := fI.1) fI.2.1 vT (ltI_b bm p) b2 (show p < 20 by omega) y2
      refine w218_59 ?_
      simp only [↓forall_eq, ↓inB_iff, gK_hU, gL_hU, gR_hU, gIh, gJh, pI_hU, pJ_hU, hU_hU, uI_app, uJ_app, and_true, true_and, and_false, false_and, and_self, true_implies, false_implies, not_true, not_false_iff, if_true, if_false, eq_self, Nat.reduceLeDiff, Nat.reduceEqDiff, reduceCtorEq, i32c, ti0, ti1, tiM, Int.natCast_nonneg, Int.reduceEq, Int.reduceLE, Int.reduceLT, Int.reduceNeg, tl_i, Int32.reduceToInt, Int64.reduceToInt, tiA, tlM6, Int.toNat_natCast, natc, nI_1, Int.zero_sub, implies_true, not_false_eq_true, kR_0 tr, hf, kF_0 tf, eF_0 tf, c1, hpI, hcI, hlt, rF_0_2 tf, kF_3 tf, lF_3 tf, z20, y1', rR_0_3 tr, hri, ↓WB, kR_1 tr, lR_1 tr, eR_1 tr]
      refine ⟨fun c => ?_, fun c => ?_⟩
      · refine ih (p + 1) _ (by omega) (fun a h1 h2 => by rw [uI_ne _ _ _ h1]; exact s a h1 h2) (fun i hi => ?_) (fun i hi => by rw [uI_ne _ _ _ ne21]; exact v2 i hi)
        rw [ltI, if_pos c, uI_app]
        unfold upG
        by_cases c9 : i = p
        · rw [if_pos ⟨rfl, c9⟩, if_pos c9]
        · rw [if_neg (fun q => c9 q.2), if_neg c9]; exact v1 i hi
      · refine ih (p + 1) I (by omega) s (fun i hi => ?_) v2
        rw [ltI, if_neg c]; exact v1 i hi
  have main : ∀ (n p : Nat) (I : Nat → Nat → Int32), p + n = cnt → rFr h A r I → (∀ i, i < 20 → I (A (bR r + 1)) i = mixN S dn it p i) → (∀ i, i < 20 → I (A (bR r + 2)) i = if i < p ∧ gB S i = true then mk else gI h (A (bR r + 2)) i) → Wp (d + 4) 218 (3, [some (vR (A (bR r))), some (vI S), some (vR nu), some (vI mk), some (vI (nI p))], [], hU h I (gJ h)) (RV K X) := by
    intro n
    induction n with
    | zero =>
      intro p I hp s v1 v2
      have c1 : I (A (bF f)) 11 = nI cnt := (fmU I s).2.2.1.1
      have hpc : p = cnt := by omega
      subst hpc
      refine w218_3 ?_
      simp only [↓forall_eq, ↓inB_iff, gK_hU, gL_hU, gR_hU, gIh, gJh, pI_hU, pJ_hU, hU_hU, uI_app, uJ_app, and_true, true_and, and_false, false_and, and_self, true_implies, false_implies, not_true, not_false_iff, if_true, if_false, eq_self, Nat.reduceLeDiff, Nat.reduceEqDiff, reduceCtorEq, i32c, ti0, ti1, tiM, Int.natCast_nonneg, Int.reduceEq, Int.reduceLE, Int.reduceLT, Int.reduceNeg, tl_i, Int32.reduceToInt, Int64.reduceToInt, tiA, tlM6, Int.toNat_natCast, natc, nI_1, Int.zero_sub, implies_true, not_false_eq_true, kR_0 tr, hf, kF_0 tf, c1, Int.lt_irrefl]
      exact lets p 0 I (by omega) s v1 v2
    | succ n ih =>
      intro p I hp s v1 v2
      have c1 : I (A (bF f)) 11 = nI cnt := (fmU I s).2.2.1.1
      have hpI : (nI p).toInt = p := ti_n (by omega)
      have hlt : (p : Int) < cnt := by omega
      have z20 : (p : Int) < 20 := by omega
      have t20 : (nI 20).toInt = 20 := rfl
      have k1 : 100 ≤ 100 ∧ 100 ≤ 106 := by omega
      have In : I nu = gI h nu := s nu nk.2.2.1 nk.2.2.2
      refine w218_3 ?_
      simp only [↓forall_eq, ↓inB_iff, gK_hU, gL_hU, gR_hU, gIh, gJh, pI_hU, pJ_hU, hU_hU, uI_app, uJ_app, and_true, true_and, and_false, false_and, and_self, true_implies, false_implies, not_true, not_false_iff, if_true, if_false, eq_self, Nat.reduceLeDiff, Nat.reduceEqDiff, reduceCtorEq, i32c, ti0, ti1, tiM, Int.natCast_nonneg, Int.reduceEq, Int.reduceLE, Int.reduceLT, Int.reduceNeg, tl_i, Int32.reduceToInt, Int64.reduceToInt, tiA, tlM6, Int.toNat_natCast, natc, nI_1, Int.zero_sub, implies_true, not_false_eq_true, kR_0 tr, hf, kF_0 tf, c1, hpI, hcI, hlt, ↓hasBit_br (show p < 32 by omega), bI0, nk.1, nk.2.1, k1, t20, z20, rR_0_3 tr, rR_0_4 tr, kR_1 tr, lR_1 tr, eR_1 tr, kR_2 tr, lR_2 tr, eR_2 tr, In]
      have step : gB S p = false → ∀ i, (if i < p + 1 ∧ gB S i = true then dn i else it i) = mixN S dn it p i := fun c i => by
        unfold mixN
        by_cases c9 : i = p
        · subst c9; rw [if_neg (fun q => by rw [c] at q; exact absurd q.2 (by decide)), if_neg (fun q => absurd q.1 (by omega))]
        · by_cases c8 : i < p
          · by_cases c7 : gB S i = true
            · rw [if_pos ⟨by omega, c7⟩, if_pos ⟨c8, c7⟩]
            · rw [if_neg (fun q => c7 q.2), if_neg (fun q => c7 q.2)]
          · rw [if_neg (fun q => by have := q.1; omega), if_neg (fun q => c8 q.1)]
      refine ⟨fun c => ?_, fun c => ?_⟩
      · refine ih (p + 1) I (by omega) s (fun i hi => ?_) (fun i hi => ?_)
        · rw [v1 i hi]; exact (step c i).symm
        · rw [v2 i hi]
          by_cases c9 : i = p
          · subst c9; rw [if_neg (fun q => absurd q.1 (by omega)), if_neg (fun q => by rw [c] at q; exact absurd q.2 (by decide))]
          · by_cases c7 : gB S i = true
            · by_cases c8 : i < p
              · rw [if_pos ⟨c8, c7⟩, if_pos ⟨by omega, c7⟩]
              · rw [if_neg (fun q => c8 q.1), if_neg (fun q => by have := q.1; omega)]
            · rw [if_neg (fun q => c7 q.2), if_neg (fun q => c7 q.2)]
      · have hS := bnf c
        refine ih (p + 1) _ (by omega) (fun a h1 h2 => by rw [uI_ne _ _ _ h2, uI_ne _ _ _ h1]; exact s a h1 h2) (fun i hi => ?_) (fun i hi => ?_)
        · rw [uI_ne _ _ _ (fun z => ne21 z.symm), uI_app]
          unfold mixN
          by_cases c9 : i = p
          · subst c9; rw [if_pos ⟨rfl, rfl⟩, if_pos ⟨by omega, hS⟩]; exact (hdn i (by omega) hS).1
          · rw [if_neg (fun q => c9 q.2), v1 i hi]
            unfold mixN
            by_cases c7 : gB S i = true
            · by_cases c8 : i < p
              · rw [if_pos ⟨c8, c7⟩, if_pos ⟨by omega, c7⟩]
              · rw [if_neg (fun q => c8 q.1), if_neg (fun q => by have := q.1; omega)]
            · rw [if_neg (fun q => c7 q.2), if_neg (fun q => c7 q.2)]
        · rw [uI_app]
          by_cases c9 : i = p
          · subst c9; rw [if_pos ⟨rfl, rfl⟩, if_pos ⟨by omega, hS⟩]
          · rw [if_neg (fun q => c9 q.2), uI_ne _ _ _ ne21, v2 i hi]
            by_cases c7 : gB S i = true
            · by_cases c8 : i < p
              · rw [if_pos ⟨c8, c7⟩, if_pos ⟨by omega, c7⟩]
              · rw [if_neg (fun q => c8 q.1), if_neg (fun q => by have := q.1; omega)]
            · rw [if_neg (fun q => c7 q.2), if_neg (fun q => c7 q.2)]
  refine m218 ?_
  have := main cnt 0 (gI h) (by omega) (fun _ _ _ => rfl) (fun i hi => by rw [hit i hi]; unfold mixN; rw [if_neg (fun q => absurd q.1 (by omega))]) (fun i hi => by rw [if_neg (fun q => absurd q.1 (by omega))])
  rw [hU_eta] at this
  exact this
end CHG
