/-! IMPUTE: the model's change of a record -/
section IPM
variable {d f r k n p cnt sr nr : Nat} {it dn rg so : Nat → Int32} {g : aH} {X : Nat → aH → Prop} {M I0 I I1 : Nat → Nat → Int32} {J : Nat → Nat → Int64} {S : Int32} {E : Nat → List Tm} {Cn : Nat → List Cmp}
/-- the numbers put in -/
def iFr (r : Nat) (I0 I : Nat → Nat → Int32) : Prop := (∀ a, a ≠ 79 → a ≠ 80 → I a = I0 a) ∧ ∀ j, j < 20 * r ∨ 20 * r + 20 ≤ j → I 79 j = I0 79 j ∧ I 80 j = I0 80 j
theorem m_put {K : Int32 → aH → Prop} {dI : Int32} (mf : MF g) (r60 : r < 60) (f6 : f < 6) (c20 : cnt ≤ 20) (e53 : I0 53 f = nI cnt) (hit : ∀ i, i < 20 → I0 79 (20 * r + i) = it i)
    (hd : (dI.toInt = -1 ∧ ∀ i, i < cnt → gB S i = true → I0 85 i = dn i) ∨ ∃ k, k < 60 ∧ k ≠ r ∧ dI = nI k ∧ ∀ i, i < cnt → gB S i = true → I0 79 (20 * k + i) = dn i)
    (kk : ∀ I1, iFr r I0 I1 → (∀ i, i < 20 → I1 79 (20 * r + i) = mixN S dn it cnt i) → (∀ i, i < 20 → I1 80 (20 * r + i) = if i < cnt ∧ gB S i = true then (if dI.toInt = -1 then 1 else 2) else I0 80 (20 * r + i)) → CV d 226 [vR 44, vI (nI r)] (hU g I1 J) (fun h6 => K (nI (cntB S cnt)) h6) X) :
    Wp (d + 1) 227 (164, [some (vR 44), some (vI (nI r)), none, some (vI (nI f)), some (vI S), some (vI dI), some (vI 0), some (vI 0)], [], hU g I0 J) (RI K X) := by
  have hfI : (nI f).toInt = f := ti_n (by omega)
  have z6 : (f : Int) < 6 := by omega
  have hcI : (nI cnt).toInt = cnt := ti_n (by omega)
  have main : ∀ (n p : Nat) (I : Nat → Nat → Int32), p + n = cnt → iFr r I0 I → (∀ i, i < 20 → I 79 (20 * r + i) = mixN S dn it p i) → (∀ i, i < 20 → I 80 (20 * r + i) = if i < p ∧ gB S i = true then (if dI.toInt = -1 then 1 else 2) else I0 80 (20 * r + i)) → Wp (d + 1) 227 (164, [some (vR 44), some (vI (nI r)), none, some (vI (nI f)), some (vI S), some (vI dI), some (vI (nI (cntB S p))), some (vI (nI p))], [], hU g I J) (RI K X) := by
    intro n
    induction n with
    | zero =>
      intro p I hp s v1 v2
      have hpc : p = cnt := by omega
      subst hpc
      refine w227_164 ?_
      simp only [↓forall_eq, ↓inB_iff, gK_hU, gL_hU, gR_hU, gIh, gJh, pI_hU, pJ_hU, hU_hU, uI_app, uJ_app, and_true, true_and, and_false, false_and, and_self, true_implies, false_implies, not_true, not_false_iff, if_true, if_false, eq_self, Nat.reduceLeDiff, Nat.reduceEqDiff, reduceCtorEq, i32c, ti0, ti1, tiM, Int.natCast_nonneg, Int.reduceEq, Int.reduceLE, Int.reduceLT, Int.reduceNeg, tl_i, Int32.reduceToInt, Int64.reduceToInt, tiA, tlM6, Int.toNat_natCast, natc, nI_1, Int.zero_sub, implies_true, not_false_eq_true, mf.1, mr_15 mf, mk_53 mf, ml_53 mf, mr_55 mf, mk_79 mf, ml_79 mf, mr_56 mf, mk_80 mf, ml_80 mf, mr_61 mf, mk_85 mf, ml_85 mf, hfI, z6, s.1 53 (by decide) (by decide), e53, Int.lt_irrefl]
      exact kk I s v1 v2
    | succ n ih =>
      intro p I hp s v1 v2
      have hpI : (nI p).toInt = p := ti_n (by omega)
      have hlt : (p : Int) < cnt := by omega
      have z20 : (p : Int) < 20 := by omega
      have y1 : (20 : Int32) * nI r + nI p = nI (20 * r + p) := by rw [show (20 : Int32) = nI 20 from rfl, nI_mul, nI_add]
      have y2 : (nI (20 * r + p)).toInt = ((20 * r + p : Nat) : Int) := ti_n (by omega)
      have y3 : ((20 * r + p : Nat) : Int) < 1200 := by omega
      have skip : ∀ i, ¬ (i = p ∧ gB S i = true) → ((i < p ∧ gB S i = true) ↔ (i < p + 1 ∧ gB S i = true)) := fun i hi => by
        constructor
        · rintro ⟨a, b⟩; exact ⟨by omega, b⟩
        · rintro ⟨a, b⟩; exact ⟨by have h9 : ¬ i = p := fun z => hi ⟨z, b⟩; omega, b⟩
      refine w227_164 ?_
      simp only [↓forall_eq, ↓inB_iff, gK_hU, gL_hU, gR_hU, gIh, gJh, pI_hU, pJ_hU, hU_hU, uI_app, uJ_app, and_true, true_and, and_false, false_and, and_self, true_implies, false_implies, not_true, not_false_iff, if_true, if_false, eq_self, Nat.reduceLeDiff, Nat.reduceEqDiff, reduceCtorEq, i32c, ti0, ti1, tiM, Int.natCast_nonneg, Int.reduceEq, Int.reduceLE, Int.reduceLT, Int.reduceNeg, tl_i, Int32.reduceToInt, Int64.reduceToInt, tiA, tlM6, Int.toNat_natCast, natc, nI_1, Int.zero_sub, implies_true, not_false_eq_true, mf.1, mr_15 mf, mk_53 mf, ml_53 mf, mr_55 mf, mk_79 mf, ml_79 mf, mr_56 mf, mk_80 mf, ml_80 mf, mr_61 mf, mk_85 mf, ml_85 mf, hfI, z6, s.1 53 (by decide) (by decide), e53, hcI, hpI, hlt, sh_bit (show p < 32 by omega), bI1, y1, y2, y3, z20, s.1 85 (by decide) (by decide)]
      refine ⟨fun c => ?_, fun c => ?_⟩
      · have put : ∀ m9 : Int32, m9 = (if dI.toInt = -1 then 1 else 2) → Wp (d + 1) 227 (164, [some (vR 44), some (vI (nI r)), none, some (vI (nI f)), some (vI S), some (vI dI), some (vI (nI (cntB S p + 1))), some (vI (nI (p + 1)))], [], hU g (uI (uI I 79 (20 * r + p) (dn p)) 80 (20 * r + p) m9) J) (RI K X) := fun m9 hm => by
          have nx := ih (p + 1) (uI (uI I 79 (20 * r + p) (dn p)) 80 (20 * r + p) m9) (by omega) ⟨fun a h1 h2 => by rw [uI_ne _ _ _ h2, uI_ne _ _ _ h1]; exact s.1 a h1 h2, fun j hj => ⟨by rw [uI_ne _ _ _ (by decide), uI_app, if_neg (fun q => by have := q.2; omega)]; exact (s.2 j hj).1, by rw [uI_app, if_neg (fun q => by have := q.2; omega), uI_ne _ _ _ (by decide)]; exact (s.2 j hj).2⟩⟩ (fun i hi => ?_) (fun i hi => ?_)
          · rw [cntB, if_pos c] at nx; exact nx
          · rw [uI_ne _ _ _ (by decide), uI_app]
            by_cases c9 : i = p
            · subst c9; rw [if_pos ⟨rfl, rfl⟩]; unfold mixN; rw [if_pos ⟨by omega, c⟩]
            · rw [if_neg (fun q => by have := q.2; omega), v1 i hi]
              unfold mixN
              simp only [skip i (fun z => c9 z.1)]
          · rw [uI_app]
            by_cases c9 : i = p
            · subst c9; rw [if_pos ⟨rfl, rfl⟩, if_pos ⟨by omega, c⟩]; exact hm
            · rw [if_neg (fun q => by have := q.2; omega), uI_ne _ _ _ (by decide), v2 i hi]
              simp only [skip i (fun z => c9 z.1)]
        rcases hd with ⟨d1, d2⟩ | ⟨k, k1, k2, k3, k4⟩
        · have := put 1 (by rw [if_pos d1])
          refine ⟨fun _ => ?_, fun c5 => absurd d1 c5⟩
          rw [d2 p (by omega) c]
          exact ⟨fun _ => this, fun c5 => absurd d1 c5⟩
        · have hkI : (nI k).toInt = k := ti_n (by omega)
          have kn : ¬ dI.toInt = -1 := by rw [k3, hkI]; omega
          have x1 : (20 : Int32) * nI k + nI p = nI (20 * k + p) := by rw [show (20 : Int32) = nI 20 from rfl, nI_mul, nI_add]
          have x2 : (nI (20 * k + p)).toInt = ((20 * k + p : Nat) : Int) := ti_n (by omega)
          have x3 : ((20 * k + p : Nat) : Int) < 1200 := by omega
          have := put 2 (by rw [if_neg kn])
          refine ⟨fun c5 => absurd c5 kn, fun _ => ?_⟩
          have kd : I 79 (20 * k + p) = dn p := by rw [(s.2 (20 * k + p) (by omega)).1]; exact k4 p (by omega) c
          subst k3
          simp only [↓forall_eq, ↓inB_iff, gK_hU, gL_hU, gR_hU, gIh, gJh, pI_hU, pJ_hU, hU_hU, uI_app, uJ_app, and_true, true_and, and_false, false_and, and_self, true_implies, false_implies, not_true, not_false_iff, if_true, if_false, eq_self, Nat.reduceLeDiff, Nat.reduceEqDiff, reduceCtorEq, i32c, ti0, ti1, tiM, Int.natCast_nonneg, Int.reduceEq, Int.reduceLE, Int.reduceLT, Int.reduceNeg, tl_i, Int32.reduceToInt, Int64.reduceToInt, tiA, tlM6, Int.toNat_natCast, natc, nI_1, Int.zero_sub, implies_true, not_false_eq_true, mf.1, mr_15 mf, mk_53 mf, ml_53 mf, mr_55 mf, mk_79 mf, ml_79 mf, mr_56 mf, mk_80 mf, ml_80 mf, mr_61 mf, mk_85 mf, ml_85 mf, x1, x2, x3, kd, kn]
          exact this
      · have nx := ih (p + 1) I (by omega) s (fun i hi => ?_) (fun i hi => ?_)
        · rw [cntB, if_neg c] at nx; exact nx
        · rw [v1 i hi]; unfold mixN; simp only [skip i (fun z => by rw [z.1] at z; exact c z.2)]
        · rw [v2 i hi]; simp only [skip i (fun z => by rw [z.1] at z; exact c z.2)]
  exact main cnt 0 I0 (by omega) ⟨fun _ _ _ => rfl, fun _ _ => ⟨rfl, rfl⟩⟩ (fun i hi => by rw [hit i hi]; unfold mixN; rw [if_neg (fun q => absurd q.1 (by omega))]) (fun i hi => by rw [if_neg (fun q => absurd q.1 (by omega))])
end IPM
