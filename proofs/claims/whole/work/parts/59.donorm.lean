/-! DONORS: the model's side -/
section DOM
variable {d f s r k q n p nr nf ns : Nat} {it dn t t1 : Nat → Int32} {h g : aH} {A o : Nat → Nat} {X : Nat → aH → Prop} {M : Nat → Nat → Int32} {I I1 : Nat → Nat → Int32} {J : Nat → Nat → Int64} {S T U : Int32} {E : Nat → Nat → List Tm} {Cn : Nat → Nat → List Cmp}
/-- the model's record k, of form f -/
def rcM (g : aH) (M : Nat → Nat → Int32) (J : Nat → Nat → Int64) (nr : Nat) : Prop := MF g ∧ nr ≤ 60 ∧ ∀ d I (K : Int32 → aH → Prop) X k, k < nr → tFr M I → (CI d 175 [vR 44, vI (nI k)] (hU g I J) K X ↔ K (nI (fR M k)) (hU g I J))
theorem cBr_mono {it : Nat → Int32} : ∀ n p, p ≤ n → cBr M f it n = 0 → cBr M f it p = 0 := by
  intro n
  induction n with
  | zero => intro p hp h; rw [show p = 0 by omega]; exact h
  | succ n ih =>
    intro p hp h
    by_cases c : p = n + 1
    · rw [c]; exact h
    · rw [cBr] at h; exact ih p (by omega) (by omega)
theorem clean_br {K : Int32 → aH → Prop} (rc : rcM g M J nr) (R : formR h A M f) (f6 : f < 6) (hk : k < nr) (hf : fR M k = f) (c20 : cnM M f ≤ 20) (bi : bndI (cnM M f) (itM M k)) (s : tFr M I) : CI (d + 1) 223 [vR 44, vI (nI k)] (hU g I J) K X ↔ K (bI (decide (cBr M f (itM M k) (nrM M f) = 0))) (hU g I J) := by
  obtain ⟨mf, h60, fo⟩ := rc
  have FO := fun (K : Int32 → aH → Prop) X => fo d I K X k hk s
  rw [hf] at FO
  have hfI : (nI f).toInt = f := ti_n (by omega)
  have z6 : (f : Int) < 6 := by omega
  have n16 := nr16 R
  have nI1 : (nI (nrM M f)).toInt = (nrM M f : Nat) := ti_n (by omega)
  refine CI_iff fun K X w => m223 ?_
  simp only [↓forall_eq, ↓inB_iff, gK_hU, gL_hU, gR_hU, gIh, gJh, pI_hU, pJ_hU, hU_hU, uI_app, uJ_app, and_true, true_and, and_false, false_and, and_self, true_implies, false_implies, not_true, not_false_iff, if_true, if_false, eq_self, Nat.reduceLeDiff, Nat.reduceEqDiff, reduceCtorEq, i32c, ti0, ti1, tiM, Int.natCast_nonneg, Int.reduceEq, Int.reduceLE, Int.reduceLT, Int.reduceNeg, tl_i, Int32.reduceToInt, Int64.reduceToInt, tiA, tlM6, Int.toNat_natCast, natc, nI_1, Int.zero_sub, implies_true, not_false_eq_true, mf.1, mr_57 mf, mk_81 mf, ml_81 mf, ↓FO]
  have main : ∀ (n p : Nat), p + n = nrM M f → cBr M f (itM M k) p = 0 → Wp (d + 1) 223 (8, [some (vR 44), some (vI (nI k)), some (vI (nI f)), some (vI (nI p))], [], hU g I J) (RI K X) := by
    intro n
    induction n with
    | zero =>
      intro p hp hc
      have hpn : p = nrM M f := by omega
      subst hpn
      refine w223_8 ?_
      simp only [↓forall_eq, ↓inB_iff, gK_hU, gL_hU, gR_hU, gIh, gJh, pI_hU, pJ_hU, hU_hU, uI_app, uJ_app, and_true, true_and, and_false, false_and, and_self, true_implies, false_implies, not_true, not_false_iff, if_true, if_false, eq_self, Nat.reduceLeDiff, Nat.reduceEqDiff, reduceCtorEq, i32c, ti0, ti1, tiM, Int.natCast_nonneg, Int.reduceEq, Int.reduceLE, Int.reduceLT, Int.reduceNeg, tl_i, Int32.reduceToInt, Int64.reduceToInt, tiA, tlM6, Int.toNat_natCast, natc, nI_1, Int.zero_sub, implies_true, not_false_eq_true, mf.1, mr_57 mf, mk_81 mf, ml_81 mf, hfI, z6, s 81 (by decide) (by decide), R.1, Int.lt_irrefl]
      rw [decide_eq_true hc] at w; exact w
    | succ n ih =>
      intro p hp hc
      have hpI : (nI p).toInt = p := ti_n (by omega)
      have hlt : (p : Int) < (nrM M f : Nat) := by omega
      have hix : (16 : Int32) * nI f + nI p = nI (16 * f + p) := by rw [show (16 : Int32) = nI 16 from rfl, nI_mul, nI_add]
      have BR := fun (K : Int32 → aH → Prop) X => breaks_br (d := d) (X := X) (J := J) (K := K) mf R f6 (show k < 60 by omega) c20 bi (show p < nrM M f by omega) (s 82 (by decide) (by decide)) (s 83 (by decide) (by decide)) (s 84 (by decide) (by decide)) (s 79 (by decide) (by decide))
      refine w223_8 ?_
      simp only [↓forall_eq, ↓inB_iff, gK_hU, gL_hU, gR_hU, gIh, gJh, pI_hU, pJ_hU, hU_hU, uI_app, uJ_app, and_true, true_and, and_false, false_and, and_self, true_implies, false_implies, not_true, not_false_iff, if_true, if_false, eq_self, Nat.reduceLeDiff, Nat.reduceEqDiff, reduceCtorEq, i32c, ti0, ti1, tiM, Int.natCast_nonneg, Int.reduceEq, Int.reduceLE, Int.reduceLT, Int.reduceNeg, tl_i, Int32.reduceToInt, Int64.reduceToInt, tiA, tlM6, Int.toNat_natCast, natc, nI_1, Int.zero_sub, implies_true, not_false_eq_true, mf.1, mr_57 mf, mk_81 mf, ml_81 mf, hfI, z6, s 81 (by decide) (by decide), R.1, nI1, hpI, hlt, hix, ↓BR, bI0]
      refine ⟨fun c => ?_, fun c => ?_⟩
      · have c' : ¬ 0 < rxs M f (itM M k) p := of_decide_eq_false c
        exact ih (p + 1) (by omega) (by rw [cBr, if_neg c', hc])
      · have c' : 0 < rxs M f (itM M k) p := of_decide_eq_true (bnf c)
        have : ¬ cBr M f (itM M k) (nrM M f) = 0 := fun z => by
          have := cBr_mono _ (p + 1) (by omega) z
          rw [cBr, if_pos c'] at this; omega
        rw [decide_eq_false this] at w; exact w
  exact main (nrM M f) 0 (by omega) rfl
theorem m_dist {K : Int64 → aH → Prop} (rc : rcM g M J nr) (e : edM g M f r it) (e2 : edM g M f k dn) (hr : r < nr) (hfr : fR M r = f) (bi : bndI (cnM M f) it) (bd : bndI (cnM M f) dn) (s : tFr M I) (kk : ∀ y : Int64, y.toInt = dstI M f S dn it (cnM M f) → K y (hU g I J)) : CL (d + 1) 225 [vR 44, vI (nI r), vI (nI k), vI S] (hU g I J) K X := by
  obtain ⟨mf, h60, fo⟩ := rc
  have FO := fun (K : Int32 → aH → Prop) X => fo d I K X r hr s
  rw [hfr] at FO
  obtain ⟨-, ⟨f6, r60⟩, c20, n16, e53, e81, e79⟩ := e
  obtain ⟨-, ⟨-, k60⟩, -, -, -, -, x79⟩ := e2
  have hfI : (nI f).toInt = f := ti_n (by omega)
  have z6 : (f : Int) < 6 := by omega
  have hcI : (nI (cnM M f)).toInt = (cnM M f : Nat) := ti_n (by omega)
  refine m225 ?_
  simp only [↓forall_eq, ↓inB_iff, gK_hU, gL_hU, gR_hU, gIh, gJh, pI_hU, pJ_hU, hU_hU, uI_app, uJ_app, and_true, true_and, and_false, false_and, and_self, true_implies, false_implies, not_true, not_false_iff, if_true, if_false, eq_self, Nat.reduceLeDiff, Nat.reduceEqDiff, reduceCtorEq, i32c, ti0, ti1, tiM, Int.natCast_nonneg, Int.reduceEq, Int.reduceLE, Int.reduceLT, Int.reduceNeg, tl_i, Int32.reduceToInt, Int64.reduceToInt, tiA, tlM6, Int.toNat_natCast, natc, nI_1, Int.zero_sub, implies_true, not_false_eq_true, mf.1, mr_15 mf, mk_53 mf, ml_53 mf, mr_55 mf, mk_79 mf, ml_79 mf, ↓FO]
  have main : ∀ (n p : Nat) (y : Int64), p + n = cnM M f → y.toInt = dstI M f S dn it p → Wp (d + 1) 225 (13, [some (vR 44), some (vI (nI r)), some (vI (nI k)), some (vI S), some (vI (nI f)), some (vL y), none, some (vI (nI p)), none, none, none], [], hU g I J) (RL K X) := by
    intro n
    induction n with
    | zero =>
      intro p y hp hy
      have hpn : p = cnM M f := by omega
      subst hpn
      refine w225_13 ?_
      simp only [↓forall_eq, ↓inB_iff, gK_hU, gL_hU, gR_hU, gIh, gJh, pI_hU, pJ_hU, hU_hU, uI_app, uJ_app, and_true, true_and, and_false, false_and, and_self, true_implies, false_implies, not_true, not_false_iff, if_true, if_false, eq_self, Nat.reduceLeDiff, Nat.reduceEqDiff, reduceCtorEq, i32c, ti0, ti1, tiM, Int.natCast_nonneg, Int.reduceEq, Int.reduceLE, Int.reduceLT, Int.reduceNeg, tl_i, Int32.reduceToInt, Int64.reduceToInt, tiA, tlM6, Int.toNat_natCast, natc, nI_1, Int.zero_sub, implies_true, not_false_eq_true, mf.1, mr_15 mf, mk_53 mf, ml_53 mf, mr_55 mf, mk_79 mf, ml_79 mf, hfI, z6, s 53 (by decide) (by decide), e53, Int.lt_irrefl]
      exact kk y hy
    | succ n ih =>
      intro p y hp hy
      have hpI : (nI p).toInt = p := ti_n (by omega)
      have hlt : (p : Int) < (cnM M f : Nat) := by omega
      have x1 : (20 : Int32) * nI r + nI p = nI (20 * r + p) := by rw [show (20 : Int32) = nI 20 from rfl, nI_mul, nI_add]
      have x2 : (nI (20 * r + p)).toInt = ((20 * r + p : Nat) : Int) := ti_n (by omega)
      have x3 : ((20 * r + p : Nat) : Int) < 1200 := by omega
      have y1 : (20 : Int32) * nI k + nI p = nI (20 * k + p) := by rw [show (20 : Int32) = nI 20 from rfl, nI_mul, nI_add]
      have y2 : (nI (20 * k + p)).toInt = ((20 * k + p : Nat) : Int) := ti_n (by omega)
      have y3 : ((20 * k + p : Nat) : Int) < 1200 := by omega
      have z1 : (20 : Int32) * nI f + nI p = nI (20 * f + p) := by rw [show (20 : Int32) = nI 20 from rfl, nI_mul, nI_add]
      have z2 : (nI (20 * f + p)).toInt = ((20 * f + p : Nat) : Int) := ti_n (by omega)
      have z3 : ((20 * f + p : Nat) : Int) < 120 := by omega
      have so : M 54 (20 * f + p) = soM M f p := by unfold soM; rw [if_pos (by omega)]
      have nx := fun y h9 => ih (p + 1) y (by omega) h9
      rw [dstI] at nx
      have b1 := dst_b (M := M) (f := f) (S := S) bi bd p (by omega)
      have b2 := dst1_b (M := M) (f := f) (S := S) bi bd (show p < cnM M f by omega)
      have y0 : (y + 0).toInt = dstI M f S dn it p := by rw [tl_add (by rw [tl0]; omega) (by rw [tl0]; omega), tl0, hy]; omega
      have n0 : dst1 M f S dn it p = 0 → Wp (d + 1) 225 (13, [some (vR 44), some (vI (nI r)), some (vI (nI k)), some (vI S), some (vI (nI f)), some (vL (y + 0)), none, some (vI (nI (p + 1))), none, none, none], [], hU g I J) (RL K X) := fun c => nx _ (by rw [c, y0]; omega)
      unfold dst1 at n0
      refine w225_13 ?_
      simp only [↓forall_eq, ↓inB_iff, gK_hU, gL_hU, gR_hU, gIh, gJh, pI_hU, pJ_hU, hU_hU, uI_app, uJ_app, and_true, true_and, and_false, false_and, and_self, true_implies, false_implies, not_true, not_false_iff, if_true, if_false, eq_self, Nat.reduceLeDiff, Nat.reduceEqDiff, reduceCtorEq, i32c, ti0, ti1, tiM, Int.natCast_nonneg, Int.reduceEq, Int.reduceLE, Int.reduceLT, Int.reduceNeg, tl_i, Int32.reduceToInt, Int64.reduceToInt, tiA, tlM6, Int.toNat_natCast, natc, nI_1, Int.zero_sub, implies_true, not_false_eq_true, mf.1, mr_15 mf, mk_53 mf, ml_53 mf, mr_55 mf, mk_79 mf, ml_79 mf, hfI, z6, s 53 (by decide) (by decide), e53, hcI, hpI, hlt, x1, x2, x3, y1, y2, y3, s 79 (by decide) (by decide), e79 p (by omega), x79 p (by omega)]
      refine m186 ?_
      simp only [↓forall_eq, ↓inB_iff, gK_hU, gL_hU, gR_hU, gIh, gJh, pI_hU, pJ_hU, hU_hU, uI_app, uJ_app, and_true, true_and, and_false, false_and, and_self, true_implies, false_implies, not_true, not_false_iff, if_true, if_false, eq_self, Nat.reduceLeDiff, Nat.reduceEqDiff, reduceCtorEq, i32c, ti0, ti1, tiM, Int.natCast_nonneg, Int.reduceEq, Int.reduceLE, Int.reduceLT, Int.reduceNeg, tl_i, Int32.reduceToInt, Int64.reduceToInt, tiA, tlM6, Int.toNat_natCast, natc, nI_1, Int.zero_sub, implies_true, not_false_eq_true, mf.1, mr_16 mf, mk_54 mf, ml_54 mf, z1, z2, z3, s 54 (by decide) (by decide), so, sh_bit (show p < 32 by omega), bI0]
      have t11 : ¬ (1 : Int32).toInt = 0 := by decide
      have last : gB S p = false → (soM M f p).toInt = 0 → ¬ (it p).toInt = -2000000 → ¬ (dn p).toInt = -2000000 → ((it p).toInt < (dn p).toInt → Wp (d + 1) 225 (13, [some (vR 44), some (vI (nI r)), some (vI (nI k)), some (vI S), some (vI (nI f)), some (vL (y + (dn p - it p).toInt64)), none, some (vI (nI (p + 1))), none, none, none], [], hU g I J) (RL K X)) ∧ (¬ (it p).toInt < (dn p).toInt → Wp (d + 1) 225 (13, [some (vR 44), some (vI (nI r)), some (vI (nI k)), some (vI S), some (vI (nI f)), some (vL (y + (it p - dn p).toInt64)), none, some (vI (nI (p + 1))), none, none, none], [], hU g I J) (RL K X)) := fun c2 c1 c4 c3 => by
        have i1 := (bi p (by omega)).resolve_left c4
        have i2 := (bd p (by omega)).resolve_left c3
        have zs : (dn p - it p).toInt = (dn p).toInt - (it p).toInt := ti_sub (by omega) (by omega)
        have zt : (it p - dn p).toInt = (it p).toInt - (dn p).toInt := ti_sub (by omega) (by omega)
        have e9 : dst1 M f S dn it p = absZ ((dn p).toInt - (it p).toInt) := by unfold dst1; rw [if_pos c1, if_pos c2, if_neg c3, if_neg c4]
        rw [e9] at nx
        unfold absZ at nx
        refine ⟨fun c5 => nx _ ?_, fun c5 => nx _ ?_⟩
        · rw [tl_add (by rw [tl_i, zs]; omega) (by rw [tl_i, zs]; omega), tl_i, zs, hy, if_neg (by omega)]
        · rw [tl_add (by rw [tl_i, zt]; omega) (by rw [tl_i, zt]; omega), tl_i, zt, hy]
          by_cases c6 : (dn p).toInt - (it p).toInt < 0
          · rw [if_pos c6]; omega
          · rw [if_neg c6]; omega
      first
        | refine ⟨fun c1 => ⟨fun c => absurd c t11, fun _ => ⟨fun c2 => ⟨fun c4 => ?_, fun c4 => ⟨fun c3 => ?_, fun c3 => last c2 c1 c4 c3⟩⟩, fun c2 => ?_⟩⟩, fun c1 => ⟨fun _ => ?_, fun c => absurd rfl c⟩⟩
        | refine ⟨fun c1 => ⟨fun c2 => ⟨fun c4 => ?_, fun c4 => ⟨fun c3 => ?_, fun c3 => last c2 c1 c4 c3⟩⟩, fun c2 => ?_⟩, fun c1 => ?_⟩
      · rw [if_pos c1, if_pos c2] at n0
        refine n0 ?_
        split
        · rfl
        · rfl
      · rw [if_pos c1, if_pos c2, if_pos c3] at n0; exact n0 rfl
      · rw [if_pos c1, if_neg (fun z => c2 z)] at n0; exact n0 rfl
      · rw [if_neg c1] at n0; exact n0 rfl
  exact main (cnM M f) 0 0 (by omega) tl0
theorem bI_and {b : Bool} : bI b &&& 1 = bI b := by cases b <;> rfl
theorem m_give {K : Int32 → aH → Prop} (rc : rcM g M J nr) (R : formR h A M f) (e : edM g M f r (itM M r)) (e2 : fR M k = f → edM g M f k (itM M k)) (hr : r < nr) (hk : k < nr) (hfr : fR M r = f) (fk6 : fR M k < 6) (bi : bndI (cnM M f) (itM M r)) (bd : fR M k = f → bndI (cnM M f) (itM M k)) (s : tFr M I) (kk : ∀ I1, tFr M I1 → (∀ c, c ≠ 85 → I1 c = I c) → K (bI (gvK M f S r k)) (hU g I1 J)) : CI (d + 2) 224 [vR 44, vI (nI r), vI (nI k), vI S] (hU g I J) K X := by
  have rc0 := rc
  have e0 := e
  obtain ⟨mf, h60, fo⟩ := rc
  have FO := fun (K : Int32 → aH → Prop) X => fo (d + 1) I K X r hr s
  have FK := fun (K : Int32 → aH → Prop) X => fo (d + 1) I K X k hk s
  rw [hfr] at FO
  obtain ⟨-, ⟨f6, r60⟩, c20, n16, e53, e81, e79⟩ := e
  have hfI : (nI f).toInt = f := ti_n (by omega)
  have z6 : (f : Int) < 6 := by omega
  have hcI : (nI (cnM M f)).toInt = (cnM M f : Nat) := ti_n (by omega)
  have nI1 : (nI (nrM M f)).toInt = (nrM M f : Nat) := ti_n (by omega)
  have hrI : (nI r).toInt = r := ti_n (by omega)
  have hkI : (nI k).toInt = k := ti_n (by omega)
  have hfk : (nI (fR M k)).toInt = (fR M k : Nat) := ti_n (by omega)
  -- with the rules, when all is there
  have rules : ∀ (n p : Nat) (I2 : Nat → Nat → Int32) (dn : Nat → Int32) (b : Bool), p + n = nrM M f → tFr M I2 → (∀ c, c ≠ 85 → I2 c = I c) → bndI (cnM M f) dn → tAg S (itM M r) (mixI S dn (itM M r)) I2 (cnM M f) → b = decide (cBr M f (mixI S dn (itM M r)) p = 0) → gvK M f S r k = decide (cBr M f (mixI S dn (itM M r)) (nrM M f) = 0) → Wp (d + 2) 224 (146, [some (vR 44), some (vI (nI r)), none, some (vI S), some (vI (nI f)), some (vI (bI b)), some (vI (nI p)), none, none, none], [], hU g I2 J) (RI K X) := by
    intro n
    induction n with
    | zero =>
      intro p I2 dn b hp s2 q2 bd2 ag hb hg
      have hpn : p = nrM M f := by omega
      subst hpn
      refine w224_146 ?_
      simp only [↓forall_eq, ↓inB_iff, gK_hU, gL_hU, gR_hU, gIh, gJh, pI_hU, pJ_hU, hU_hU, uI_app, uJ_app, and_true, true_and, and_false, false_and, and_self, true_implies, false_implies, not_true, not_false_iff, if_true, if_false, eq_self, Nat.reduceLeDiff, Nat.reduceEqDiff, reduceCtorEq, i32c, ti0, ti1, tiM, Int.natCast_nonneg, Int.reduceEq, Int.reduceLE, Int.reduceLT, Int.reduceNeg, tl_i, Int32.reduceToInt, Int64.reduceToInt, tiA, tlM6, Int.toNat_natCast, natc, nI_1, Int.zero_sub, implies_true, not_false_eq_true, mf.1, mr_15 mf, mk_53 mf, ml_53 mf, mr_55 mf, mk_79 mf, ml_79 mf, mr_57 mf, mk_81 mf, ml_81 mf, mr_58 mf, mk_82 mf, ml_82 mf, mr_59 mf, mk_83 mf, ml_83 mf, mr_60 mf, mk_84 mf, ml_84 mf, mr_61 mf, mk_85 mf, ml_85 mf, hfI, z6, s2 81 (by decide) (by decide), e81, Int.lt_irrefl, bI_and]
      have := kk I2 s2 q2
      rw [hg, ← hb] at this
      exact this
    | succ n ih =>
      intro p I2 dn b hp s2 q2 bd2 ag hb hg
      have hpI : (nI p).toInt = p := ti_n (by omega)
      have hlt : (p : Int) < (nrM M f : Nat) := by omega
      have hix : (16 : Int32) * nI f + nI p = nI (16 * f + p) := by rw [show (16 : Int32) = nI 16 from rfl, nI_mul, nI_add]
      have hxI : (nI (16 * f + p)).toInt = ((16 * f + p : Nat) : Int) := ti_n (by omega)
      have zx : ((16 * f + p : Nat) : Int) < 96 := by omega
      obtain ⟨-, l1, l2, l3, l4, l5⟩ := R.2.2 p (by omega)
      have bm : bndI (cnM M f) (mixI S dn (itM M r)) := fun i hi => by unfold mixI; split; exact bd2 i hi; exact bi i hi
      have s1 := rsd_b (it := mixI S dn (itM M r)) (a := M 82 (16 * f + p)) l1 c20 bm
      have s3 := rsd_b (it := mixI S dn (itM M r)) (a := M 83 (16 * f + p)) l2 c20 bm
      have z1 := ti_z (z := rsd (mixI S dn (itM M r)) (M 82 (16 * f + p))) (by omega) (by omega)
      have z2 := ti_z (z := rsd (mixI S dn (itM M r)) (M 83 (16 * f + p))) (by omega) (by omega)
      have z3 : (iZ (rsd (mixI S dn (itM M r)) (M 82 (16 * f + p))) - iZ (rsd (mixI S dn (itM M r)) (M 83 (16 * f + p)))).toInt = rsd (mixI S dn (itM M r)) (M 82 (16 * f + p)) - rsd (mixI S dn (itM M r)) (M 83 (16 * f + p)) := by rw [ti_sub (by rw [z1, z2]; omega) (by rw [z1, z2]; omega), z1, z2]
      have nx := fun b9 h9 => ih (p + 1) I2 dn b9 (by omega) s2 q2 bd2 ag h9 hg
      have nok : ¬ 0 < rxs M f (mixI S dn (itM M r)) p → ∀ b9, b9 = b → Wp (d + 2) 224 (146, [some (vR 44), some (vI (nI r)), none, some (vI S), some (vI (nI f)), some (vI (bI b9)), some (vI (nI (p + 1))), none, none, none], [], hU g I2 J) (RI K X) := fun c b9 h9 => by
        refine nx b9 ?_
        rw [h9, hb, cBr, if_neg c, Nat.add_zero]
      have nno : 0 < rxs M f (mixI S dn (itM M r)) p ∨ b = false → Wp (d + 2) 224 (146, [some (vR 44), some (vI (nI r)), none, some (vI S), some (vI (nI f)), some (vI 0), some (vI (nI (p + 1))), none, none, none], [], hU g I2 J) (RI K X) := fun c => by
        refine nx false ?_
        symm
        refine decide_eq_false fun z => ?_
        have z0 := cBr_mono _ p (by omega) z
        rcases c with c | c
        · rw [cBr, if_pos c] at z; omega
        · rw [c] at hb; exact absurd z0 (of_decide_eq_false hb.symm)
      refine w224_146 ?_
      simp only [↓forall_eq, ↓inB_iff, gK_hU, gL_hU, gR_hU, gIh, gJh, pI_hU, pJ_hU, hU_hU, uI_app, uJ_app, and_true, true_and, and_false, false_and, and_self, true_implies, false_implies, not_true, not_false_iff, if_true, if_false, eq_self, Nat.reduceLeDiff, Nat.reduceEqDiff, reduceCtorEq, i32c, ti0, ti1, tiM, Int.natCast_nonneg, Int.reduceEq, Int.reduceLE, Int.reduceLT, Int.reduceNeg, tl_i, Int32.reduceToInt, Int64.reduceToInt, tiA, tlM6, Int.toNat_natCast, natc, nI_1, Int.zero_sub, implies_true, not_false_eq_true, mf.1, mr_15 mf, mk_53 mf, ml_53 mf, mr_55 mf, mk_79 mf, ml_79 mf, mr_57 mf, mk_81 mf, ml_81 mf, mr_58 mf, mk_82 mf, ml_82 mf, mr_59 mf, mk_83 mf, ml_83 mf, mr_60 mf, mk_84 mf, ml_84 mf, mr_61 mf, mk_85 mf, ml_85 mf, hfI, z6, s2 81 (by decide) (by decide), e81, nI1, hpI, hlt, hix, hxI, zx, s2 82 (by decide) (by decide), s2 83 (by decide) (by decide), s2 84 (by decide) (by decide), ↓side_br e0 s2 ag l1, ↓side_br e0 s2 ag l2, z1, z2, z3, bI0]
      refine ⟨fun c0 => nno (Or.inr c0), fun c0 => ?_⟩
      have hbt : true = b := (bnf c0).symm
      refine ⟨fun c1 => nok ?_ true hbt, fun c1 => ⟨fun c2 => nok ?_ true hbt, fun c2 => ⟨fun c3 => nno (Or.inl ?_), fun c3 => nok ?_ true hbt⟩⟩⟩
      · unfold rxs; rw [if_pos (Or.inl c1)]; omega
      · unfold rxs; rw [if_pos (Or.inr c2)]; omega
      · unfold rxs; rw [if_neg (by omega)]; omega
      · unfold rxs; rw [if_neg (by omega)]; omega
  have tried : ∀ (n p : Nat) (I2 : Nat → Nat → Int32), p + n = cnM M f → tFr M I2 → (∀ c, c ≠ 85 → I2 c = I c) → fR M k = f → (∀ i, i < p → I2 85 i = itM M k i) → gvK M f S r k = decide (cBr M f (mixI S (itM M k) (itM M r)) (nrM M f) = 0) → Wp (d + 2) 224 (106, [some (vR 44), some (vI (nI r)), some (vI (nI k)), some (vI S), some (vI (nI f)), some (vI 1), some (vI (nI p)), none, none, none], [], hU g I2 J) (RI K X) := by
    intro n
    induction n with
    | zero =>
      intro p I2 hp s2 q2 hfk v hg
      have hpn : p = cnM M f := by omega
      subst hpn
      refine w224_106 ?_
      simp only [↓forall_eq, ↓inB_iff, gK_hU, gL_hU, gR_hU, gIh, gJh, pI_hU, pJ_hU, hU_hU, uI_app, uJ_app, and_true, true_and, and_false, false_and, and_self, true_implies, false_implies, not_true, not_false_iff, if_true, if_false, eq_self, Nat.reduceLeDiff, Nat.reduceEqDiff, reduceCtorEq, i32c, ti0, ti1, tiM, Int.natCast_nonneg, Int.reduceEq, Int.reduceLE, Int.reduceLT, Int.reduceNeg, tl_i, Int32.reduceToInt, Int64.reduceToInt, tiA, tlM6, Int.toNat_natCast, natc, nI_1, Int.zero_sub, implies_true, not_false_eq_true, mf.1, mr_15 mf, mk_53 mf, ml_53 mf, mr_55 mf, mk_79 mf, ml_79 mf, mr_57 mf, mk_81 mf, ml_81 mf, mr_58 mf, mk_82 mf, ml_82 mf, mr_59 mf, mk_83 mf, ml_83 mf, mr_60 mf, mk_84 mf, ml_84 mf, mr_61 mf, mk_85 mf, ml_85 mf, hfI, z6, s2 53 (by decide) (by decide), e53, Int.lt_irrefl]
      refine rules (nrM M f) 0 I2 (itM M k) true (by omega) s2 q2 (bd hfk) (fun i hi => ⟨fun c => ?_, fun c => ?_⟩) rfl hg
      · rw [v i hi]; unfold mixI; rw [if_pos c]
      · unfold mixI; rw [if_neg (by rw [c]; decide)]
    | succ n ih =>
      intro p I2 hp s2 q2 hfk v hg
      have hpI : (nI p).toInt = p := ti_n (by omega)
      have hlt : (p : Int) < (cnM M f : Nat) := by omega
      have z20 : (p : Int) < 20 := by omega
      have y1 : (20 : Int32) * nI k + nI p = nI (20 * k + p) := by rw [show (20 : Int32) = nI 20 from rfl, nI_mul, nI_add]
      have y2 : (nI (20 * k + p)).toInt = ((20 * k + p : Nat) : Int) := ti_n (by omega)
      have y3 : ((20 * k + p : Nat) : Int) < 1200 := by omega
      have y4 := (e2 hfk).2.2.2.2.2.2 p (by omega)
      refine w224_106 ?_
      simp only [↓forall_eq, ↓inB_iff, gK_hU, gL_hU, gR_hU, gIh, gJh, pI_hU, pJ_hU, hU_hU, uI_app, uJ_app, and_true, true_and, and_false, false_and, and_self, true_implies, false_implies, not_true, not_false_iff, if_true, if_false, eq_self, Nat.reduceLeDiff, Nat.reduceEqDiff, reduceCtorEq, i32c, ti0, ti1, tiM, Int.natCast_nonneg, Int.reduceEq, Int.reduceLE, Int.reduceLT, Int.reduceNeg, tl_i, Int32.reduceToInt, Int64.reduceToInt, tiA, tlM6, Int.toNat_natCast, natc, nI_1, Int.zero_sub, implies_true, not_false_eq_true, mf.1, mr_15 mf, mk_53 mf, ml_53 mf, mr_55 mf, mk_79 mf, ml_79 mf, mr_57 mf, mk_81 mf, ml_81 mf, mr_58 mf, mk_82 mf, ml_82 mf, mr_59 mf, mk_83 mf, ml_83 mf, mr_60 mf, mk_84 mf, ml_84 mf, mr_61 mf, mk_85 mf, ml_85 mf, hfI, z6, s2 53 (by decide) (by decide), e53, hcI, hpI, hlt, y1, y2, y3, s2 79 (by decide) (by decide), y4, z20]
      refine ih (p + 1) _ (by omega) (tFr_u s2) (fun c hc => (uI_ne _ _ _ hc).trans (q2 c hc)) hfk (fun i hi => ?_) hg
      rw [uI_app]
      by_cases c : i = p
      · rw [if_pos ⟨rfl, c⟩, c]
      · rw [if_neg (fun q => c q.2)]; exact v i (by omega)
  have pres : ∀ (n p : Nat) (b : Bool), p + n = cnM M f → (b = true → k ≠ r ∧ fR M k = f ∧ cBr M f (itM M k) (nrM M f) = 0 ∧ allP S (itM M k) p = true) → (b = false → gvK M f S r k = false) → Wp (d + 2) 224 (40, [some (vR 44), some (vI (nI r)), some (vI (nI k)), some (vI S), some (vI (nI f)), some (vI (bI b)), some (vI (nI p)), none, none, none], [], hU g I J) (RI K X) := by
    intro n
    induction n with
    | zero =>
      intro p b hp h1 h2
      have hpn : p = cnM M f := by omega
      subst hpn
      refine w224_40 ?_
      simp only [↓forall_eq, ↓inB_iff, gK_hU, gL_hU, gR_hU, gIh, gJh, pI_hU, pJ_hU, hU_hU, uI_app, uJ_app, and_true, true_and, and_false, false_and, and_self, true_implies, false_implies, not_true, not_false_iff, if_true, if_false, eq_self, Nat.reduceLeDiff, Nat.reduceEqDiff, reduceCtorEq, i32c, ti0, ti1, tiM, Int.natCast_nonneg, Int.reduceEq, Int.reduceLE, Int.reduceLT, Int.reduceNeg, tl_i, Int32.reduceToInt, Int64.reduceToInt, tiA, tlM6, Int.toNat_natCast, natc, nI_1, Int.zero_sub, implies_true, not_false_eq_true, mf.1, mr_15 mf, mk_53 mf, ml_53 mf, mr_55 mf, mk_79 mf, ml_79 mf, mr_57 mf, mk_81 mf, ml_81 mf, mr_58 mf, mk_82 mf, ml_82 mf, mr_59 mf, mk_83 mf, ml_83 mf, mr_60 mf, mk_84 mf, ml_84 mf, mr_61 mf, mk_85 mf, ml_85 mf, hfI, z6, s 53 (by decide) (by decide), e53, Int.lt_irrefl, bI0]
      refine ⟨fun c => ?_, fun c => ?_⟩
      · have := kk I s (fun _ _ => rfl)
        rw [h2 c] at this; exact this
      · have hb := bnf c
        obtain ⟨a1, a2, a3, a4⟩ := h1 hb
        rw [hb]
        refine tried (cnM M f) 0 I (by omega) s (fun _ _ => rfl) a2 (fun i hi => by omega) ?_
        unfold gvK giveB
        rw [decide_eq_true a1, decide_eq_true a2, a4, decide_eq_true a3]
        simp
    | succ n ih =>
      intro p b hp h1 h2
      have hpI : (nI p).toInt = p := ti_n (by omega)
      have hlt : (p : Int) < (cnM M f : Nat) := by omega
      have y1 : (20 : Int32) * nI k + nI p = nI (20 * k + p) := by rw [show (20 : Int32) = nI 20 from rfl, nI_mul, nI_add]
      have y2 : (nI (20 * k + p)).toInt = ((20 * k + p : Nat) : Int) := ti_n (by omega)
      have y3 : ((20 * k + p : Nat) : Int) < 1200 := by omega
      have y4 : M 79 (20 * k + p) = itM M k p := by unfold itM; rw [if_pos (by omega)]
      refine w224_40 ?_
      simp only [↓forall_eq, ↓inB_iff, gK_hU, gL_hU, gR_hU, gIh, gJh, pI_hU, pJ_hU, hU_hU, uI_app, uJ_app, and_true, true_and, and_false, false_and, and_self, true_implies, false_implies, not_true, not_false_iff, if_true, if_false, eq_self, Nat.reduceLeDiff, Nat.reduceEqDiff, reduceCtorEq, i32c, ti0, ti1, tiM, Int.natCast_nonneg, Int.reduceEq, Int.reduceLE, Int.reduceLT, Int.reduceNeg, tl_i, Int32.reduceToInt, Int64.reduceToInt, tiA, tlM6, Int.toNat_natCast, natc, nI_1, Int.zero_sub, implies_true, not_false_eq_true, mf.1, mr_15 mf, mk_53 mf, ml_53 mf, mr_55 mf, mk_79 mf, ml_79 mf, mr_57 mf, mk_81 mf, ml_81 mf, mr_58 mf, mk_82 mf, ml_82 mf, mr_59 mf, mk_83 mf, ml_83 mf, mr_60 mf, mk_84 mf, ml_84 mf, mr_61 mf, mk_85 mf, ml_85 mf, hfI, z6, s 53 (by decide) (by decide), e53, hcI, hpI, hlt, y1, y2, y3, s 79 (by decide) (by decide), y4, sh_bit (show p < 32 by omega), bI0]
      refine ⟨fun c => ih (p + 1) false (by omega) (fun z => by cases z) (fun _ => h2 c), fun c => ?_⟩
      have hb := bnf c
      obtain ⟨a1, a2, a3, a4⟩ := h1 hb
      refine ⟨fun c2 => ih (p + 1) true (by omega) (fun _ => ⟨a1, a2, a3, by rw [allP, a4, c2]; rfl⟩) (fun z => by cases z), fun c2 => ⟨fun c3 => ih (p + 1) false (by omega) (fun z => by cases z) (fun _ => ?_), fun c3 => ih (p + 1) true (by omega) (fun _ => ⟨a1, a2, a3, by rw [allP, a4, decide_eq_false c3]; simp⟩) (fun z => by cases z)⟩⟩
      have : allP S (itM M k) (cnM M f) = false := allP_f _ (p + 1) (by omega) (by rw [allP, a4, bnf c2, decide_eq_true c3]; rfl)
      unfold gvK giveB
      rw [this]; simp
  have hkr : (nI k).toInt = (nI r).toInt ↔ k = r := by rw [hkI, hrI]; omega
  refine m224 ?_
  simp only [↓forall_eq, ↓inB_iff, gK_hU, gL_hU, gR_hU, gIh, gJh, pI_hU, pJ_hU, hU_hU, uI_app, uJ_app, and_true, true_and, and_false, false_and, and_self, true_implies, false_implies, not_true, not_false_iff, if_true, if_false, eq_self, Nat.reduceLeDiff, Nat.reduceEqDiff, reduceCtorEq, i32c, ti0, ti1, tiM, Int.natCast_nonneg, Int.reduceEq, Int.reduceLE, Int.reduceLT, Int.reduceNeg, tl_i, Int32.reduceToInt, Int64.reduceToInt, tiA, tlM6, Int.toNat_natCast, natc, nI_1, Int.zero_sub, implies_true, not_false_eq_true, mf.1, mr_15 mf, mk_53 mf, ml_53 mf, mr_55 mf, mk_79 mf, ml_79 mf, mr_57 mf, mk_81 mf, ml_81 mf, mr_58 mf, mk_82 mf, ml_82 mf, mr_59 mf, mk_83 mf, ml_83 mf, mr_60 mf, mk_84 mf, ml_84 mf, mr_61 mf, mk_85 mf, ml_85 mf, ↓FO, ↓FK, hkr, hfk, hfI]
  refine ⟨fun c => pres (cnM M f) 0 false (by omega) (fun z => by cases z) (fun _ => ?_), fun c => ⟨fun c2 => ?_, fun c2 => pres (cnM M f) 0 false (by omega) (fun z => by cases z) (fun _ => ?_)⟩⟩
  · unfold gvK; rw [decide_eq_false (fun z => z c), Bool.false_and]
  · have c2' : fR M k = f := by omega
    have CLN := fun (K : Int32 → aH → Prop) X => clean_br (d := d) (X := X) (K := K) rc0 R f6 hk c2' c20 (bd c2') s
    simp only [↓CLN, bI0]
    refine ⟨fun c3 => pres (cnM M f) 0 false (by omega) (fun z => by cases z) (fun _ => ?_), fun c3 => pres (cnM M f) 0 true (by omega) (fun _ => ⟨c, c2', of_decide_eq_true (bnf c3), rfl⟩) (fun z => by cases z)⟩
    unfold gvK giveB
    rw [c3]; simp
  · unfold gvK; rw [decide_eq_false (show ¬ fR M k = f by omega), Bool.false_and, Bool.and_false]
end DOM
