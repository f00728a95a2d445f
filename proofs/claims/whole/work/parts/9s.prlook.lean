/-! LOOKS: the model's side, the pair -/
section PLK
variable {d nl nk nt np k R C : Nat} {h h1 h2 g : aH} {A A1 o o1 : Nat → Nat} {X : Nat → aH → Prop} {M I : Nat → Nat → Int32} {J : Nat → Nat → Int64} {a1 a2 a3 a4 rt mn v : Int32} {K : Int32 → aH → Prop}
abbrev lkU (I : Nat → Nat → Int32) (nl : Nat) (a1 a2 a3 a4 v mn : Int32) : Nat → Nat → Int32 := uI (uI (uI (uI (uI (uI (uI I 106 (6 * nl) a1) 106 (6 * nl + 1) a2) 106 (6 * nl + 2) a3) 106 (6 * nl + 3) a4) 106 (6 * nl + 4) v) 106 (6 * nl + 5) mn) 44 89 (nI (nl + 1))
/-- the row of a look is written -/
def lkF (I : Nat → Nat → Int32) (nl k R C pp : Nat) (a1 a2 : Int32) : Prop := I 44 89 = nI nl ∧ nl < 500 ∧ k < 12 ∧ a2 = nI k ∧ a1 = nI pp ∧ pp < 12 ∧ I 102 k = nI R ∧ I 103 k = nI C ∧ (1 ≤ R ∧ R ≤ 4) ∧ 1 ≤ C ∧ C ≤ 3
theorem m_255 {S fl : Int32} {pp : Nat} (mf : MF g) (H : lkF I nl k R C pp a1 a2) (pub : ∀ x, x = v → K x (hU g (lkU I nl a1 a2 a3 a4 x (I 44 1)) J)) (h13 : (I 99 pp).toInt = 0 → v = -13) (h14 : ¬ (I 99 pp).toInt = 0 → ¬ fl.toInt = 0 → (I 99 pp &&& 4).toInt = 0 → v = -14) (hS : ¬ (I 99 pp).toInt = 0 → (fl.toInt = 0 ∨ ¬ (I 99 pp &&& 4).toInt = 0) → v = S) : Wp (d + 1) 321 (255, [some (vR 44), some (vI a1), some (vI a2), some (vI a3), some (vI a4), none, some (vI S), some (vI fl), none, none], [], hU g I J) (RI K X) := by
  obtain ⟨e89, l5, k12, ek, ep, p12, m102, m103, RR, CC⟩ := H
  have pI' : (nI pp).toInt = pp := ti_n (by omega)
  have p12' : (pp : Int) < 12 := by omega
  have x0 : (6 : Int32) * nI nl = nI (6 * nl) := by rw [show (6 : Int32) = nI 6 from rfl, nI_mul]
  have xj : ∀ j, j ≤ 5 → nI (6 * nl) + nI j = nI (6 * nl + j) ∧ (nI (6 * nl + j)).toInt = ((6 * nl + j : Nat) : Int) ∧ ((6 * nl + j : Nat) : Int) < 3000 := fun j hj => ⟨by rw [nI_add], ti_n (by omega), by omega⟩
  have y0 : (nI (6 * nl)).toInt = ((6 * nl : Nat) : Int) ∧ ((6 * nl : Nat) : Int) < 3000 := ⟨ti_n (by omega), by omega⟩
  have y1 : nI (6 * nl) + 1 = nI (6 * nl + 1) := (xj 1 (by omega)).1
  have y2 : nI (6 * nl) + 2 = nI (6 * nl + 2) := (xj 2 (by omega)).1
  have y3 : nI (6 * nl) + 3 = nI (6 * nl + 3) := (xj 3 (by omega)).1
  have y4 : nI (6 * nl) + 4 = nI (6 * nl + 4) := (xj 4 (by omega)).1
  have y5 : nI (6 * nl) + 5 = nI (6 * nl + 5) := (xj 5 (by omega)).1
  have z1 := (xj 1 (by omega)).2
  have z2 := (xj 2 (by omega)).2
  have z3 := (xj 3 (by omega)).2
  have z4 := (xj 4 (by omega)).2
  have z5 := (xj 5 (by omega)).2
  subst ep
  refine w321_255 ?_
  simp only [↓forall_eq, ↓inB_iff, gK_hU, gL_hU, gR_hU, gIh, gJh, pI_hU, pJ_hU, hU_hU, uI_app, uJ_app, and_true, true_and, and_false, false_and, and_self, true_implies, false_implies, not_true, not_false_iff, if_true, if_false, eq_self, Nat.reduceLeDiff, Nat.reduceEqDiff, reduceCtorEq, i32c, ti0, ti1, tiM, Int.natCast_nonneg, Int.reduceEq, Int.reduceLE, Int.reduceLT, Int.reduceNeg, tl_i, Int32.reduceToInt, Int64.reduceToInt, tiA, tlM6, Int.toNat_natCast, natc, nI_1, Int.zero_sub, implies_true, not_false_eq_true, mf.1, mr_81 mf, mk_99 mf, ml_99 mf, mr_83 mf, mk_100 mf, ml_100 mf, mr_84 mf, mk_101 mf, ml_101 mf, mr_85 mf, mk_102 mf, ml_102 mf, mr_86 mf, mk_103 mf, ml_103 mf, mr_87 mf, mk_104 mf, ml_104 mf, mr_88 mf, mk_105 mf, ml_105 mf, mr_90 mf, mk_106 mf, ml_106 mf, pI', p12', e89, x0, y0, y1, y2, y3, y4, y5, z1, z2, z3, z4, z5]
  refine ⟨fun c => pub _ (h13 c).symm, fun c => ⟨fun f0 => pub _ (hS c (Or.inl f0)).symm, fun f0 => ⟨fun c4 => pub _ (h14 c f0 c4).symm, fun c4 => pub _ (hS c (Or.inr c4)).symm⟩⟩⟩
theorem m_106 {S : Int32} {pp : Nat} (mf : MF g) (H : lkF I nl k R C pp a1 a2) (hv : lokV I k R C (I 44 1) (I 99 pp) a1 a3 a4 v) (h3 : 0 ≤ a3.toInt ∧ a3.toInt ≤ R) (h4 : 0 ≤ a4.toInt ∧ a4.toInt ≤ C) (hS : S = smC (fun i => I 105 (12 * k + i)) (inC R C a3.toInt a4.toInt) (R * C)) (pub : ∀ x, x = v → K x (hU g (lkU I nl a1 a2 a3 a4 x (I 44 1)) J)) : Wp (d + 1) 321 (106, [some (vR 44), some (vI a1), some (vI a2), some (vI a3), some (vI a4), some (vI (nI C)), some (vI S), some (vI (nI (R * C))), none, none], [], hU g I J) (RI K X) := by
  have H0 := H
  obtain ⟨e89, l5, k12, ek, ep, p12, m102, m103, RR, CC⟩ := H
  have m12 : R * C ≤ 4 * 3 := Nat.mul_le_mul RR.2 CC.2
  have RN : (nI R).toInt = R := ti_n (by omega)
  have CN : (nI C).toInt = C := ti_n (by omega)
  have mul : nI R * nI C = nI (R * C) := nI_mul R C
  have kI : (nI k).toInt = k := ti_n (by omega)
  have kl : (k : Int) < 12 := by omega
  have x0 : (6 : Int32) * nI nl = nI (6 * nl) := by rw [show (6 : Int32) = nI 6 from rfl, nI_mul]
  have xj : ∀ j, j ≤ 5 → nI (6 * nl) + nI j = nI (6 * nl + j) ∧ (nI (6 * nl + j)).toInt = ((6 * nl + j : Nat) : Int) ∧ ((6 * nl + j : Nat) : Int) < 3000 := fun j hj => ⟨by rw [nI_add], ti_n (by omega), by omega⟩
  have y0 : (nI (6 * nl)).toInt = ((6 * nl : Nat) : Int) ∧ ((6 * nl : Nat) : Int) < 3000 := ⟨ti_n (by omega), by omega⟩
  have y1 : nI (6 * nl) + 1 = nI (6 * nl + 1) := (xj 1 (by omega)).1
  have y2 : nI (6 * nl) + 2 = nI (6 * nl + 2) := (xj 2 (by omega)).1
  have y3 : nI (6 * nl) + 3 = nI (6 * nl + 3) := (xj 3 (by omega)).1
  have y4 : nI (6 * nl) + 4 = nI (6 * nl + 4) := (xj 4 (by omega)).1
  have y5 : nI (6 * nl) + 5 = nI (6 * nl + 5) := (xj 5 (by omega)).1
  have z1 := (xj 1 (by omega)).2
  have z2 := (xj 2 (by omega)).2
  have z3 := (xj 3 (by omega)).2
  have z4 := (xj 4 (by omega)).2
  have z5 := (xj 5 (by omega)).2
  -- behind the question whether the cell is hidden
  have go : ∀ fl : Int32, (¬ fl.toInt = 0 ↔ hidC I k R C a3 a4) → ¬ ((I 44 1).toInt < (I 101 k).toInt ∧ ¬ a1.toInt = (I 100 k).toInt) → Wp (d + 1) 321 (255, [some (vR 44), some (vI a1), some (vI a2), some (vI a3), some (vI a4), none, some (vI S), some (vI fl), none, none], [], hU g I J) (RI K X) := by
    intro fl hf hp
    obtain ⟨v3, v4⟩ := hv.2 hp
    refine m_255 mf H0 pub v3 (fun c1 c2 c3 => (v4 c1).1 ⟨hf.1 c2, c3⟩) (fun c1 c2 => ?_)
    rw [hS]
    exact (v4 c1).2 (fun z => by
      rcases c2 with y | y
      · exact hf.2 z.1 y
      · exact y z.2)
  have v12 := hv.1
  subst ek
  have nh : ¬ isC R C a3 a4 → (¬ (0 : Int32).toInt = 0 ↔ hidC I k R C a3 a4) := fun z => ⟨fun y => absurd rfl y, fun y => absurd y.1 z⟩
  refine w321_106 ?_
  simp only [↓forall_eq, ↓inB_iff, gK_hU, gL_hU, gR_hU, gIh, gJh, pI_hU, pJ_hU, hU_hU, uI_app, uJ_app, and_true, true_and, and_false, false_and, and_self, true_implies, false_implies, not_true, not_false_iff, if_true, if_false, eq_self, Nat.reduceLeDiff, Nat.reduceEqDiff, reduceCtorEq, i32c, ti0, ti1, tiM, Int.natCast_nonneg, Int.reduceEq, Int.reduceLE, Int.reduceLT, Int.reduceNeg, tl_i, Int32.reduceToInt, Int64.reduceToInt, tiA, tlM6, Int.toNat_natCast, natc, nI_1, Int.zero_sub, implies_true, not_false_eq_true, mf.1, mr_81 mf, mk_99 mf, ml_99 mf, mr_83 mf, mk_100 mf, ml_100 mf, mr_84 mf, mk_101 mf, ml_101 mf, mr_85 mf, mk_102 mf, ml_102 mf, mr_86 mf, mk_103 mf, ml_103 mf, mr_87 mf, mk_104 mf, ml_104 mf, mr_88 mf, mk_105 mf, ml_105 mf, mr_90 mf, mk_106 mf, ml_106 mf, kI, kl, m102, mul, Int.lt_irrefl, RN, CN, e89, x0, y0, y1, y2, y3, y4, y5, z1, z2, z3, z4, z5]
  refine ⟨fun c3 => ⟨fun c4 => ?_, fun c4 => ?_⟩, fun c3 => ?_⟩
  · have ic : isC R C a3 a4 := ⟨⟨h3.1, c3⟩, h4.1, c4⟩
    generalize hr0 : a3.toInt.toNat = r0 at *
    generalize hc0 : a4.toInt.toNat = c0 at *
    have er : a3 = nI r0 := by rw [← hr0]; exact ti_nat h3.1
    have ec : a4 = nI c0 := by rw [← hc0]; exact ti_nat h4.1
    have r0l : r0 < R := by omega
    have c0l : c0 < C := by omega
    have klt : r0 * C + c0 < R * C := by
      have : (r0 + 1) * C ≤ R * C := Nat.mul_le_mul_right _ r0l
      rw [Nat.succ_mul] at this; omega
    have k32 : r0 * C + c0 < 32 := by omega
    have kx : a3 * nI C + a4 = nI (r0 * C + c0) := by rw [er, ec, nI_mul, nI_add]
    rw [kx, sh_bit k32]
    have hb : hidC I k R C a3 a4 ↔ gB (I 104 k) (r0 * C + c0) = true := by unfold hidC; rw [hr0, hc0]; exact ⟨fun z => z.2, fun z => ⟨ic, z⟩⟩
    refine ⟨fun b1 => ?_, fun b1 => ?_⟩
    · have hb1 : hidC I k R C a3 a4 := hb.2 (by
        cases hg : gB (I 104 k) (r0 * C + c0) with
        | true => rfl
        | false => rw [hg] at b1; exact absurd b1 (by decide))
      refine ⟨fun m1 => ⟨fun e => go 1 ⟨fun _ => hb1, fun _ => by decide⟩ (fun z => z.2 e.symm), fun e => pub _ (v12 m1 (fun z => e z.symm)).symm⟩, fun m1 => go 1 ⟨fun _ => hb1, fun _ => by decide⟩ (fun z => m1 z.1)⟩
    · have hb1 : ¬ hidC I k R C a3 a4 := fun z => by
        rw [hb.1 z] at b1; exact b1 rfl
      refine ⟨fun m1 => ⟨fun e => go 0 ⟨fun y => absurd rfl y, fun y => absurd y hb1⟩ (fun z => z.2 e.symm), fun e => pub _ (v12 m1 (fun z => e z.symm)).symm⟩, fun m1 => go 0 ⟨fun y => absurd rfl y, fun y => absurd y hb1⟩ (fun z => m1 z.1)⟩
  · have nc := nh (fun z => c4 z.2.2)
    exact ⟨fun m1 => ⟨fun e => go 0 nc (fun z => z.2 e.symm), fun e => pub _ (v12 m1 (fun z => e z.symm)).symm⟩, fun m1 => go 0 nc (fun z => m1 z.1)⟩
  · have nc := nh (fun z => c3 z.1.2)
    exact ⟨fun m1 => ⟨fun e => go 0 nc (fun z => z.2 e.symm), fun e => pub _ (v12 m1 (fun z => e z.symm)).symm⟩, fun m1 => go 0 nc (fun z => m1 z.1)⟩
theorem m_lsum {pp : Nat} (mf : MF g) (H : lkF I nl k R C pp a1 a2) (hv : lokV I k R C (I 44 1) (I 99 pp) a1 a3 a4 v) (h3 : 0 ≤ a3.toInt ∧ a3.toInt ≤ R) (h4 : 0 ≤ a4.toInt ∧ a4.toInt ≤ C) (pub : ∀ x, x = v → K x (hU g (lkU I nl a1 a2 a3 a4 x (I 44 1)) J)) : ∀ (n p : Nat), p + n = R * C → Wp (d + 1) 321 (106, [some (vR 44), some (vI a1), some (vI a2), some (vI a3), some (vI a4), some (vI (nI C)), some (vI (smC (fun i => I 105 (12 * k + i)) (inC R C a3.toInt a4.toInt) p)), some (vI (nI p)), none, none], [], hU g I J) (RI K X) := by
  have H0 := H
  obtain ⟨e89, l5, k12, ek, ep, p12, m102, m103, RR, CC⟩ := H
  have m12 : R * C ≤ 4 * 3 := Nat.mul_le_mul RR.2 CC.2
  have RN : (nI R).toInt = R := ti_n (by omega)
  have CN : (nI C).toInt = C := ti_n (by omega)
  have mul : nI R * nI C = nI (R * C) := nI_mul R C
  have mI : (nI (R * C)).toInt = ((R * C : Nat) : Int) := ti_n (by omega)
  have kI : (nI k).toInt = k := ti_n (by omega)
  have kl : (k : Int) < 12 := by omega
  have cne : ¬ nI C = 0 := fun e => by rw [e] at CN; have : (0 : Int32).toInt = 0 := rfl; omega
  intro n
  induction n with
  | zero =>
    intro p hp
    have hpc : p = R * C := by omega
    subst hpc
    exact m_106 mf H0 hv h3 h4 rfl pub
  | succ n ih =>
    intro p hp
    have pI' : (nI p).toInt = p := ti_n (by omega)
    have pl : (p : Int) < ((R * C : Nat) : Int) := by omega
    have dv : nI p / nI C = nI (p / C) := nI_div (by omega) (by omega)
    have md : aIrem (nI p) (nI C) = nI (p % C) := nI_rem (by omega) (by omega)
    have d1 : p / C ≤ p := Nat.div_le_self _ _
    have d2 : p % C ≤ p := Nat.mod_le _ _
    have dI : (nI (p / C)).toInt = ((p / C : Nat) : Int) := ti_n (by omega)
    have rI : (nI (p % C)).toInt = ((p % C : Nat) : Int) := ti_n (by omega)
    have x1 : (12 : Int32) * nI k + nI p = nI (12 * k + p) := by rw [show (12 : Int32) = nI 12 from rfl, nI_mul, nI_add]
    have x2 : (nI (12 * k + p)).toInt = ((12 * k + p : Nat) : Int) := ti_n (by omega)
    have x3 : ((12 * k + p : Nat) : Int) < 144 := by omega
    have nx := ih (p + 1) (by omega)
    rw [smC] at nx
    have yes : inC R C a3.toInt a4.toInt p = true → Wp (d + 1) 321 (106, [some (vR 44), some (vI a1), some (vI a2), some (vI a3), some (vI a4), some (vI (nI C)), some (vI (smC (fun i => I 105 (12 * k + i)) (inC R C a3.toInt a4.toInt) p + I 105 (12 * k + p))), some (vI (nI (p + 1))), none, none], [], hU g I J) (RI K X) := fun z => by rw [if_pos z] at nx; exact nx
    have nay : ¬ inC R C a3.toInt a4.toInt p = true → Wp (d + 1) 321 (106, [some (vR 44), some (vI a1), some (vI a2), some (vI a3), some (vI a4), some (vI (nI C)), some (vI (smC (fun i => I 105 (12 * k + i)) (inC R C a3.toInt a4.toInt) p + 0)), some (vI (nI (p + 1))), none, none], [], hU g I J) (RI K X) := fun z => by rw [if_neg z] at nx; exact nx
    have ii : inC R C a3.toInt a4.toInt p = true ↔ (a3.toInt = R ∨ ((p / C : Nat) : Int) = a3.toInt) ∧ (a4.toInt = C ∨ ((p % C : Nat) : Int) = a4.toInt) := by
      unfold inC
      simp only [Bool.and_eq_true, Bool.or_eq_true, decide_eq_true_eq]
    subst ek
    refine w321_106 ?_
    simp only [↓forall_eq, ↓inB_iff, gK_hU, gL_hU, gR_hU, gIh, gJh, pI_hU, pJ_hU, hU_hU, uI_app, uJ_app, and_true, true_and, and_false, false_and, and_self, true_implies, false_implies, not_true, not_false_iff, if_true, if_false, eq_self, Nat.reduceLeDiff, Nat.reduceEqDiff, reduceCtorEq, i32c, ti0, ti1, tiM, Int.natCast_nonneg, Int.reduceEq, Int.reduceLE, Int.reduceLT, Int.reduceNeg, tl_i, Int32.reduceToInt, Int64.reduceToInt, tiA, tlM6, Int.toNat_natCast, natc, nI_1, Int.zero_sub, implies_true, not_false_eq_true, mf.1, mr_81 mf, mk_99 mf, ml_99 mf, mr_83 mf, mk_100 mf, ml_100 mf, mr_84 mf, mk_101 mf, ml_101 mf, mr_85 mf, mk_102 mf, ml_102 mf, mr_86 mf, mk_103 mf, ml_103 mf, mr_87 mf, mk_104 mf, ml_104 mf, mr_88 mf, mk_105 mf, ml_105 mf, mr_90 mf, mk_106 mf, ml_106 mf, kI, kl, m102, mul, mI, pI', pl, RN, CN, cne, dv, md, dI, rI, x1, x2, x3]
    refine ⟨fun c3 => ⟨fun c4 => yes (ii.2 ⟨Or.inl c3, Or.inl c4⟩), fun c4 => ⟨fun c5 => yes (ii.2 ⟨Or.inl c3, Or.inr c5⟩), fun c5 => nay (fun z => by have := (ii.1 z).2; omega)⟩⟩, fun c3 => ⟨fun c6 => ⟨fun c4 => yes (ii.2 ⟨Or.inr c6, Or.inl c4⟩), fun c4 => ⟨fun c5 => yes (ii.2 ⟨Or.inr c6, Or.inr c5⟩), fun c5 => nay (fun z => by have := (ii.1 z).2; omega)⟩⟩, fun c6 => nay (fun z => by have := (ii.1 z).1; omega)⟩⟩
end PLK
