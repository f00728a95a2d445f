/-! TABLES: secret, interval -/
section ITV
variable {d nt t R C : Nat} {h g : aH} {A o : Nat → Nat} {X : Nat → aH → Prop} {M : Nat → Nat → Int32} {I : Nat → Nat → Int32} {J : Nat → Nat → Int64} {x r c u : Int32}
abbrev isC (R C : Nat) (r c : Int32) : Prop := (0 ≤ r.toInt ∧ r.toInt < R) ∧ (0 ≤ c.toInt ∧ c.toInt < C)
theorem isCell_br {K : Int32 → aH → Prop} (mf : MF g) (h69 : I 44 69 = nI nt) (n12 : nt ≤ 12) (ht : t < nt) (R4 : 1 ≤ R ∧ R ≤ 4) (C3 : 1 ≤ C ∧ C ≤ 3) (m90 : I 90 t = nI R) (m91 : I 91 t = nI C) : CI (d + 2) 293 [vR 44, vI (nI t), vI r, vI c] (hU g I J) K X ↔ ((isC R C r c → K 1 (hU g I J)) ∧ (¬ isC R C r c → K 0 (hU g I J))) := by
  have hn : (nI nt).toInt = nt := ti_n (by omega)
  have hxI : (nI t).toInt = t := ti_n (by omega)
  have q' : 0 ≤ (t : Int) ∧ (t : Int) < nt := by omega
  have zt : (t : Int) < 12 := by omega
  have R1I : (nI R - 1).toInt = (R : Int) - 1 := by rw [ti_sub (by rw [ti_n (by omega)]; simp only [ti1]; omega) (by rw [ti_n (by omega)]; simp only [ti1]; omega), ti_n (by omega)]; rfl
  have C1I : (nI C - 1).toInt = (C : Int) - 1 := by rw [ti_sub (by rw [ti_n (by omega)]; simp only [ti1]; omega) (by rw [ti_n (by omega)]; simp only [ti1]; omega), ti_n (by omega)]; rfl
  have main : ∀ (K : Int32 → aH → Prop) (X : Nat → aH → Prop), (isC R C r c → K 1 (hU g I J)) → (¬ isC R C r c → K 0 (hU g I J)) → CI (d + 2) 293 [vR 44, vI (nI t), vI r, vI c] (hU g I J) K X := fun K X w1 w0 => m293 (by
    simp only [↓forall_eq, ↓inB_iff, gK_hU, gL_hU, gR_hU, gIh, gJh, pI_hU, pJ_hU, hU_hU, uI_app, uJ_app, and_true, true_and, and_false, false_and, and_self, true_implies, false_implies, not_true, not_false_iff, if_true, if_false, eq_self, Nat.reduceLeDiff, Nat.reduceEqDiff, reduceCtorEq, i32c, ti0, ti1, tiM, Int.natCast_nonneg, Int.reduceEq, Int.reduceLE, Int.reduceLT, Int.reduceNeg, tl_i, Int32.reduceToInt, Int64.reduceToInt, tiA, tlM6, Int.toNat_natCast, natc, nI_1, Int.zero_sub, implies_true, not_false_eq_true, mf.1, mr_70 mf, mk_90 mf, ml_90 mf, mr_71 mf, mk_91 mf, ml_91 mf, ↓isTable_br mf, ↓isIn_br, h69, hn, hxI, q', zt, m90, m91, R1I, C1I]
    refine ⟨fun a => ⟨fun b => w1 ⟨by omega, by omega⟩, fun b => w0 (fun z => b ⟨z.2.1, by omega⟩)⟩, fun a => w0 (fun z => a ⟨z.1.1, by omega⟩)⟩)
  by_cases z : isC R C r c
  · have e : CI (d + 2) 293 [vR 44, vI (nI t), vI r, vI c] (hU g I J) K X ↔ K 1 (hU g I J) := CI_iff fun K X w => main K X (fun _ => w) (fun y => absurd z y)
    rw [e]; exact ⟨fun w => ⟨fun _ => w, fun y => absurd z y⟩, fun w => w.1 z⟩
  · have e : CI (d + 2) 293 [vR 44, vI (nI t), vI r, vI c] (hU g I J) K X ↔ K 0 (hU g I J) := CI_iff fun K X w => main K X (fun y => absurd y z) (fun _ => w)
    rw [e]; exact ⟨fun w => ⟨fun y => absurd y z, fun _ => w⟩, fun w => w.2 z⟩
theorem isCell_no {K : Int32 → aH → Prop} (mf : MF g) (h69 : I 44 69 = nI nt) (n12 : nt ≤ 12) (q : ¬ (0 ≤ x.toInt ∧ x.toInt < nt)) : CI (d + 2) 293 [vR 44, vI x, vI r, vI c] (hU g I J) K X ↔ K 0 (hU g I J) := by
  have hn : (nI nt).toInt = nt := ti_n (by omega)
  refine CI_iff fun K X w => m293 ?_
  simp only [↓forall_eq, ↓inB_iff, gK_hU, gL_hU, gR_hU, gIh, gJh, pI_hU, pJ_hU, hU_hU, uI_app, uJ_app, and_true, true_and, and_false, false_and, and_self, true_implies, false_implies, not_true, not_false_iff, if_true, if_false, eq_self, Nat.reduceLeDiff, Nat.reduceEqDiff, reduceCtorEq, i32c, ti0, ti1, tiM, Int.natCast_nonneg, Int.reduceEq, Int.reduceLE, Int.reduceLT, Int.reduceNeg, tl_i, Int32.reduceToInt, Int64.reduceToInt, tiA, tlM6, Int.toNat_natCast, natc, nI_1, Int.zero_sub, implies_true, not_false_eq_true, mf.1, mr_70 mf, mk_90 mf, ml_90 mf, mr_71 mf, mk_91 mf, ml_91 mf, ↓isTable_br mf, h69, hn, q]
  exact w
theorem c_needCell {K : aH → Prop} {a : Nat} (k0 : gK h a = 11) (i4 : gI h a 4 = nI R) (i5 : gI h a 5 = nI C) (R4 : R ≤ 4) (C3 : C ≤ 3) (k1 : isC R C r c → K h) (k2 : ¬ isC R C r c → X 3 (gNew h 200 6)) : CV 499 289 [vR 8, vR a, vI r, vI c] h K X := by
  have RN : (nI R).toInt = R := ti_n (by omega)
  have CN : (nI C).toInt = C := ti_n (by omega)
  refine m289 ⟨k0, ?_⟩
  rw [i4]
  refine c_needIndex (fun z1 z2 => ⟨k0, by rw [i5]; exact c_needIndex (fun z3 z4 => k1 ⟨⟨z1, by rw [RN] at z2; omega⟩, z3, by rw [CN] at z4; omega⟩) (fun z => k2 (fun y => z ⟨y.2.1, by rw [CN]; omega⟩))⟩) (fun z => k2 (fun y => z ⟨y.1.1, by rw [RN]; omega⟩))
theorem ctT_of (T : TT h A o t) (S : tabS h A M t R C) : ctT h (A (bT t)) (A (bT t + 5)) R C (fun k => M 92 (12 * t + k)) :=
  ⟨⟨kT_0 T, eT_0 T⟩, S.1, ⟨S.2.2.1.1, S.2.2.1.2.1⟩, ⟨rT_0_11 T, kT_5 T, lT_5 T⟩, S.2.2.2.2.2.1, fun k hk => (S.2.2.2.2.1 k hk).1.1⟩
def gsV (M : Nat → Nat → Int32) (t R C r0 c0 : Nat) (u : Int32) : Int32 := if gB (M 97 t) (r0 * C + c0) = true then (if u.toInt = 0 then M 92 (12 * t + (r0 * C + c0)) - iZ (rmB (fun k => (M 92 (12 * t + k)).toInt) (oth (M 97 t) (r0 * C + c0)) R C r0 c0 (2 ^ R)) else M 92 (12 * t + (r0 * C + c0)) + iZ (rmA (fun k => (M 92 (12 * t + k)).toInt) (oth (M 97 t) (r0 * C + c0)) R C r0 c0 (2 ^ R))) else M 92 (12 * t + (r0 * C + c0))
theorem pr_interval (b : base h o) (Tb : TabA h A o (gI h) nt) : Pr 297 299 [vI x, vI r, vI c, vI u] [3] h (fun h2 => left h h2 A A o o (fun _ => False) [] [] 1 6) := by
  have mf := b.2.1
  have h69 := Tb.2.1.1
  have n12 := Tb.2.1.2
  have hn : (nI nt).toInt = nt := ti_n (by omega)
  by_cases q : 0 ≤ x.toInt ∧ x.toInt < nt
  · generalize htx : x.toInt.toNat = t at *
    have hx : x = nI t := by rw [← htx]; exact ti_nat q.1
    have ht : t < nt := by omega
    obtain ⟨T, R, C, S⟩ := Tb.2.2 t ht
    have ct := ctT_of T S
    obtain ⟨⟨⟨R1, R4⟩, C1, C3⟩, ⟨m90, m91⟩, ⟨i4, i5, i6⟩, gl, tv, -, ⟨i12, i13⟩, -⟩ := S
    have m12 : R * C ≤ 4 * 3 := Nat.mul_le_mul R4 C3
    have hxI : (nI t).toInt = t := ti_n (by omega)
    have zt : (t : Int) < 12 := by omega
    subst hx
    by_cases qi : isC R C r c
    · generalize hr0 : r.toInt.toNat = r0 at *
      generalize hc0 : c.toInt.toNat = c0 at *
      have er : r = nI r0 := by rw [← hr0]; exact ti_nat qi.1.1
      have ec : c = nI c0 := by rw [← hc0]; exact ti_nat qi.2.1
      have r0l : r0 < R := by have := qi.1; omega
      have c0l : c0 < C := by have := qi.2; omega
      have klt : r0 * C + c0 < R * C := by
        have : (r0 + 1) * C ≤ R * C := Nat.mul_le_mul_right _ r0l
        rw [Nat.succ_mul] at this; omega
      have kx : nI r0 * nI C + nI c0 = nI (r0 * C + c0) := by rw [nI_mul, nI_add]
      have kI : (nI (r0 * C + c0)).toInt = ((r0 * C + c0 : Nat) : Int) := ti_n (by omega)
      have klz : ((r0 * C + c0 : Nat) : Int) < ((R * C : Nat) : Int) := by omega
      subst er ec
      have L1' : gL h (A (bT t + 1)) = R * C := gl 0 (by omega)
      have vk := (tv _ klt).2.1
      have AB := fun (K : Int32 → aH → Prop) X => above_br (d := 496) (S := gI h 97 t) (K := K) (X := X) ct r0l c0l
      have BE := fun (K : Int32 → aH → Prop) X => below_br (d := 496) (S := gI h 97 t) (K := K) (X := X) ct ⟨rT_0_7 T, kT_1 T, L1', fun k hk => (tv k hk).2.1⟩ r0l c0l
      have HB := fun (K : Int32 → aH → Prop) X => hasBit_br (d := 498) (h := h) (x := gI h 97 t) (K := K) (X := X) (show r0 * C + c0 < 32 by omega)
      refine Pr_ok (gsV (gI h) t R C r0 c0 u) (fun h1 => h1 = h) (fun K X kk => m297 ⟨by decide, ck_8 b.1, ?_⟩) (fun h1 J1 m j K X kk => m299 ?_)
      · rw [tableAt_br b Tb.1, bz_t q, htx]
        refine ⟨ck_8 b.1, c_needCell (kT_0 T) i4 i5 R4 C3 (fun _ => ?_) (fun z => absurd qi z)⟩
        have fin := kk h rfl
        unfold gsV at fin
        refine ⟨fun e => ⟨eT_0 T, kT_0 T, m296 ?_⟩, fun e => ⟨eT_0 T, kT_0 T, m295 ?_⟩⟩
        · rw [if_pos e] at fin
          simp only [↓forall_eq, ↓inB_iff, gK_hU, gL_hU, gR_hU, gIh, gJh, pI_hU, pJ_hU, hU_hU, uI_app, uJ_app, and_true, true_and, and_false, false_and, and_self, true_implies, false_implies, not_true, not_false_iff, if_true, if_false, eq_self, Nat.reduceLeDiff, Nat.reduceEqDiff, reduceCtorEq, i32c, ti0, ti1, tiM, Int.natCast_nonneg, Int.reduceEq, Int.reduceLE, Int.reduceLT, Int.reduceNeg, tl_i, Int32.reduceToInt, Int64.reduceToInt, tiA, tlM6, Int.toNat_natCast, natc, nI_1, Int.zero_sub, implies_true, not_false_eq_true, i5, kx, kI, klz, rT_0_7 T, kT_1 T, L1', kT_0 T, eT_0 T, i13, ↓HB, bI0, vk, ↓BE, Int32.sub_zero]
          refine ⟨fun z => ?_, fun z => ?_⟩
          · rw [if_neg (by rw [z]; decide)] at fin; exact fin
          · rw [if_pos (bnf z)] at fin; exact fin
        · rw [if_neg e] at fin
          simp only [↓forall_eq, ↓inB_iff, gK_hU, gL_hU, gR_hU, gIh, gJh, pI_hU, pJ_hU, hU_hU, uI_app, uJ_app, and_true, true_and, and_false, false_and, and_self, true_implies, false_implies, not_true, not_false_iff, if_true, if_false, eq_self, Nat.reduceLeDiff, Nat.reduceEqDiff, reduceCtorEq, i32c, ti0, ti1, tiM, Int.natCast_nonneg, Int.reduceEq, Int.reduceLE, Int.reduceLT, Int.reduceNeg, tl_i, Int32.reduceToInt, Int64.reduceToInt, tiA, tlM6, Int.toNat_natCast, natc, nI_1, Int.zero_sub, implies_true, not_false_eq_true, i5, kx, kI, klz, rT_0_7 T, kT_1 T, L1', kT_0 T, eT_0 T, i13, ↓HB, bI0, vk, ↓AB, Int32.add_zero]
          refine ⟨fun z => ?_, fun z => ?_⟩
          · rw [if_neg (by rw [z]; decide)] at fin; exact fin
          · rw [if_pos (bnf z)] at fin; exact fin
      · subst m
        have fin := kk (hU h1 (uI (gI h1) 44 0 0) J1) (by rw [gIh, uI_same]) rfl (left_mk b b fr_refl (fun w => w) (by simp) (fun a a1 a2 => by funext j9; simp only [uI_app]; grind) (fun j9 a1 a2 => by simp only [uI_app]; grind) (fun a a1 _ => j a a1) (by omega) (by omega))
        have k69 : (uI (gI h1) 44 0 0) 44 69 = nI nt := by rw [uI_app, if_neg (by decide)]; exact h69
        have k90 : (uI (gI h1) 44 0 0) 90 t = nI R := by rw [uI_app, if_neg (by omega)]; exact m90
        have k91 : (uI (gI h1) 44 0 0) 91 t = nI C := by rw [uI_app, if_neg (by omega)]; exact m91
        have k92 : (uI (gI h1) 44 0 0) 92 = gI h1 92 := by funext i; rw [uI_app, if_neg (by omega)]
        have k97 : (uI (gI h1) 44 0 0) 97 = gI h1 97 := by funext i; rw [uI_app, if_neg (by omega)]
        have IC := fun (K : Int32 → aH → Prop) X => isCell_br (d := 497) (J := J1) (r := nI r0) (c := nI c0) (K := K) (X := X) mf k69 n12 ht ⟨R1, R4⟩ ⟨C1, C3⟩ k90 k91
        have MB := fun (u : Int32) (K : Int32 → aH → Prop) X => most_br (d := 499) (S := gI h1 97 t) (u := u) (J := J1) (K := K) (X := X) mf (show t < 12 by omega) ⟨R1, R4⟩ ⟨C1, C3⟩ k90 k91 (fun k hk => by rw [k92]; exact (tv k hk).1.1) r0l c0l
        rw [k92] at MB
        generalize hI2 : uI (gI h1) 44 0 0 = I2 at *
        unfold gsV at fin
        have x1 : (12 : Int32) * nI t + nI (r0 * C + c0) = nI (12 * t + (r0 * C + c0)) := by rw [show (12 : Int32) = nI 12 from rfl, nI_mul, nI_add]
        have x2 : (nI (12 * t + (r0 * C + c0))).toInt = ((12 * t + (r0 * C + c0) : Nat) : Int) := ti_n (by omega)
        have x3 : ((12 * t + (r0 * C + c0) : Nat) : Int) < 144 := by omega
        simp only [↓forall_eq, ↓inB_iff, gK_hU, gL_hU, gR_hU, gIh, gJh, pI_hU, pJ_hU, hU_hU, uI_app, uJ_app, and_true, true_and, and_false, false_and, and_self, true_implies, false_implies, not_true, not_false_iff, if_true, if_false, eq_self, Nat.reduceLeDiff, Nat.reduceEqDiff, reduceCtorEq, i32c, ti0, ti1, tiM, Int.natCast_nonneg, Int.reduceEq, Int.reduceLE, Int.reduceLT, Int.reduceNeg, tl_i, Int32.reduceToInt, Int64.reduceToInt, tiA, tlM6, Int.toNat_natCast, natc, nI_1, Int.zero_sub, implies_true, not_false_eq_true, mf.1, mr_71 mf, mk_91 mf, ml_91 mf, mr_72 mf, mk_92 mf, ml_92 mf, mr_77 mf, mk_97 mf, ml_97 mf, hI2, ↓fail_br mf, ↓IC, qi, hxI, zt, k91, k92, k97, kx, x1, x2, x3, sh_bit (show r0 * C + c0 < 32 by omega), bI0, ↓MB]
        refine ⟨fun _ => ⟨fun z => ?_, fun z => ⟨fun e => ?_, fun e => ?_⟩⟩, fun z => absurd qi z⟩
        · rw [if_neg (by rw [z]; decide)] at fin; exact fin
        · rw [if_pos (bnf z), if_pos e] at fin; exact fin
        · rw [if_pos (bnf z), if_neg e] at fin; exact fin
    · refine Pr_gc (A := A) (C := fun _ => False) 0 3 b (by decide) rfl (fun K X kk => m297 ⟨by decide, ck_8 b.1, ?_⟩) (fun g J K X mf e kk => m299 ?_) (fun h2 l => l)
      · rw [tableAt_br b Tb.1, bz_t q, htx]
        exact ⟨ck_8 b.1, c_needCell (kT_0 T) i4 i5 R4 C3 (fun z => absurd z qi) (fun _ => kk)⟩
      · have IC := fun (K : Int32 → aH → Prop) X => isCell_br (d := 497) (g := g) (I := uI (gI g) 44 0 0) (J := J) (r := r) (c := c) (K := K) (X := X) mf (nt := nt) (by rw [uI_app, if_neg (by decide), e 44 (by decide) (by decide)]; exact h69) n12 ht ⟨R1, R4⟩ ⟨C1, C3⟩ (by rw [uI_app, if_neg (by omega), e 90 (by decide) (by decide)]; exact m90) (by rw [uI_app, if_neg (by omega), e 91 (by decide) (by decide)]; exact m91)
        simp only [↓forall_eq, ↓inB_iff, gK_hU, gL_hU, gR_hU, gIh, gJh, pI_hU, pJ_hU, hU_hU, uI_app, uJ_app, and_true, true_and, and_false, false_and, and_self, true_implies, false_implies, not_true, not_false_iff, if_true, if_false, eq_self, Nat.reduceLeDiff, Nat.reduceEqDiff, reduceCtorEq, i32c, ti0, ti1, tiM, Int.natCast_nonneg, Int.reduceEq, Int.reduceLE, Int.reduceLT, Int.reduceNeg, tl_i, Int32.reduceToInt, Int64.reduceToInt, tiA, tlM6, Int.toNat_natCast, natc, nI_1, Int.zero_sub, implies_true, not_false_eq_true, mf.1, mr_71 mf, mk_91 mf, ml_91 mf, mr_72 mf, mk_92 mf, ml_92 mf, mr_77 mf, mk_97 mf, ml_97 mf, ↓fail_br mf, ↓IC, qi]
        exact kk
  · refine Pr_gc (A := A) (C := fun _ => False) 0 3 b (by decide) rfl (fun K X kk => m297 ⟨by decide, ck_8 b.1, ?_⟩) (fun g J K X mf e kk => m299 ?_) (fun h2 l => l)
    · rw [tableAt_br b Tb.1, bz_f q]; exact kk
    · have IC := fun (K : Int32 → aH → Prop) X => isCell_no (d := 497) (g := g) (I := uI (gI g) 44 0 0) (J := J) (r := r) (c := c) (K := K) (X := X) mf (nt := nt) (by rw [uI_app, if_neg (by decide), e 44 (by decide) (by decide)]; exact h69) n12 q
      simp only [↓forall_eq, ↓inB_iff, gK_hU, gL_hU, gR_hU, gIh, gJh, pI_hU, pJ_hU, hU_hU, uI_app, uJ_app, and_true, true_and, and_false, false_and, and_self, true_implies, false_implies, not_true, not_false_iff, if_true, if_false, eq_self, Nat.reduceLeDiff, Nat.reduceEqDiff, reduceCtorEq, i32c, ti0, ti1, tiM, Int.natCast_nonneg, Int.reduceEq, Int.reduceLE, Int.reduceLT, Int.reduceNeg, tl_i, Int32.reduceToInt, Int64.reduceToInt, tiA, tlM6, Int.toNat_natCast, natc, nI_1, Int.zero_sub, implies_true, not_false_eq_true, mf.1, mr_71 mf, mk_91 mf, ml_91 mf, mr_72 mf, mk_92 mf, ml_92 mf, mr_77 mf, mk_97 mf, ml_97 mf, ↓fail_br mf, ↓IC]
      exact kk
/-- why a cell is kept secret -/
def whyV (M : Nat → Nat → Int32) (t k : Nat) : Int32 := if gB (M 97 t) k = true then (if gB (M 98 t) k = true then 1 else 2) else 0
theorem and_one {x : Int32} {k : Nat} (hk : k < 32) : (x &&& (1 <<< (nI k &&& 31))).toInt = 0 ↔ gB x k = false := by
  have e : x &&& (1 <<< (nI k &&& 31)) = 0 ↔ gB x k = false := by
    constructor
    · intro z
      have : gB (x &&& (1 <<< (nI k &&& 31))) k = false := by rw [z, gB_0]
      rw [gB_and, gB_sh hk, decide_eq_true rfl, Bool.and_true] at this; exact this
    · intro z
      refine gB_ext fun i hi => ?_
      rw [gB_and, gB_sh hk, gB_0]
      by_cases e : i = k
      · rw [e, z, Bool.false_and]
      · rw [decide_eq_false e, Bool.and_false]
  rw [← e]
  exact ⟨fun z => ti_inj z, fun z => by rw [z]; rfl⟩
theorem pr_secret (b : base h o) (Tb : TabA h A o (gI h) nt) : Pr 291 294 [vI x, vI r, vI c] [3] h (fun h2 => left h h2 A A o o (fun _ => False) [] [] 1 6) := by
  have mf := b.2.1
  have h69 := Tb.2.1.1
  have n12 := Tb.2.1.2
  have hn : (nI nt).toInt = nt := ti_n (by omega)
  by_cases q : 0 ≤ x.toInt ∧ x.toInt < nt
  · generalize htx : x.toInt.toNat = t at *
    have hx : x = nI t := by rw [← htx]; exact ti_nat q.1
    have ht : t < nt := by omega
    obtain ⟨T, R, C, S⟩ := Tb.2.2 t ht
    obtain ⟨⟨⟨R1, R4⟩, C1, C3⟩, ⟨m90, m91⟩, ⟨i4, i5, i6⟩, gl, tv, -, ⟨i12, i13⟩, -⟩ := S
    have m12 : R * C ≤ 4 * 3 := Nat.mul_le_mul R4 C3
    have hxI : (nI t).toInt = t := ti_n (by omega)
    have zt : (t : Int) < 12 := by omega
    subst hx
    by_cases qi : isC R C r c
    · generalize hr0 : r.toInt.toNat = r0 at *
      generalize hc0 : c.toInt.toNat = c0 at *
      have er : r = nI r0 := by rw [← hr0]; exact ti_nat qi.1.1
      have ec : c = nI c0 := by rw [← hc0]; exact ti_nat qi.2.1
      have r0l : r0 < R := by have := qi.1; omega
      have c0l : c0 < C := by have := qi.2; omega
      have klt : r0 * C + c0 < R * C := by
        have : (r0 + 1) * C ≤ R * C := Nat.mul_le_mul_right _ r0l
        rw [Nat.succ_mul] at this; omega
      have k32 : r0 * C + c0 < 32 := by omega
      have kx : nI r0 * nI C + nI c0 = nI (r0 * C + c0) := by rw [nI_mul, nI_add]
      subst er ec
      refine Pr_ok (whyV (gI h) t (r0 * C + c0)) (fun h1 => h1 = h) (fun K X kk => m291 ⟨by decide, ck_8 b.1, ?_⟩) (fun h1 J1 m j K X kk => m294 ?_)
      · rw [tableAt_br b Tb.1, bz_t q, htx]
        refine ⟨ck_8 b.1, c_needCell (kT_0 T) i4 i5 R4 C3 (fun _ => ?_) (fun z => absurd qi z)⟩
        have fin := kk h rfl
        unfold whyV at fin
        refine ⟨eT_0 T, kT_0 T, m290 ⟨kT_0 T, ?_⟩⟩
        simp only [↓forall_eq, ↓inB_iff, gK_hU, gL_hU, gR_hU, gIh, gJh, pI_hU, pJ_hU, hU_hU, uI_app, uJ_app, and_true, true_and, and_false, false_and, and_self, true_implies, false_implies, not_true, not_false_iff, if_true, if_false, eq_self, Nat.reduceLeDiff, Nat.reduceEqDiff, reduceCtorEq, i32c, ti0, ti1, tiM, Int.natCast_nonneg, Int.reduceEq, Int.reduceLE, Int.reduceLT, Int.reduceNeg, tl_i, Int32.reduceToInt, Int64.reduceToInt, tiA, tlM6, Int.toNat_natCast, natc, nI_1, Int.zero_sub, implies_true, not_false_eq_true, i5, kx, kT_0 T, i13, i12, and_one k32]
        refine ⟨fun z => ?_, fun z => ⟨fun y => ?_, fun y => ?_⟩⟩
        · rw [if_neg (by rw [z]; decide)] at fin; exact fin
        · rw [if_pos (bnf z), if_neg (by rw [y]; decide)] at fin; exact fin
        · rw [if_pos (bnf z), if_pos (bnf y)] at fin; exact fin
      · subst m
        have fin := kk (hU h1 (uI (gI h1) 44 0 0) J1) (by rw [gIh, uI_same]) rfl (left_mk b b fr_refl (fun w => w) (by simp) (fun a a1 a2 => by funext j9; simp only [uI_app]; grind) (fun j9 a1 a2 => by simp only [uI_app]; grind) (fun a a1 _ => j a a1) (by omega) (by omega))
        have k69 : (uI (gI h1) 44 0 0) 44 69 = nI nt := by rw [uI_app, if_neg (by decide)]; exact h69
        have k90 : (uI (gI h1) 44 0 0) 90 t = nI R := by rw [uI_app, if_neg (by omega)]; exact m90
        have k91 : (uI (gI h1) 44 0 0) 91 t = nI C := by rw [uI_app, if_neg (by omega)]; exact m91
        have k97 : (uI (gI h1) 44 0 0) 97 = gI h1 97 := by funext i; rw [uI_app, if_neg (by omega)]
        have k98 : (uI (gI h1) 44 0 0) 98 = gI h1 98 := by funext i; rw [uI_app, if_neg (by omega)]
        have IC := fun (K : Int32 → aH → Prop) X => isCell_br (d := 497) (J := J1) (r := nI r0) (c := nI c0) (K := K) (X := X) mf k69 n12 ht ⟨R1, R4⟩ ⟨C1, C3⟩ k90 k91
        generalize hI2 : uI (gI h1) 44 0 0 = I2 at *
        unfold whyV at fin
        simp only [↓forall_eq, ↓inB_iff, gK_hU, gL_hU, gR_hU, gIh, gJh, pI_hU, pJ_hU, hU_hU, uI_app, uJ_app, and_true, true_and, and_false, false_and, and_self, true_implies, false_implies, not_true, not_false_iff, if_true, if_false, eq_self, Nat.reduceLeDiff, Nat.reduceEqDiff, reduceCtorEq, i32c, ti0, ti1, tiM, Int.natCast_nonneg, Int.reduceEq, Int.reduceLE, Int.reduceLT, Int.reduceNeg, tl_i, Int32.reduceToInt, Int64.reduceToInt, tiA, tlM6, Int.toNat_natCast, natc, nI_1, Int.zero_sub, implies_true, not_false_eq_true, mf.1, mr_71 mf, mk_91 mf, ml_91 mf, mr_77 mf, mk_97 mf, ml_97 mf, mr_78 mf, mk_98 mf, ml_98 mf, hI2, ↓fail_br mf, ↓IC, hxI, zt, k91, k97, k98, kx, sh_bit k32, bI0, bI1]
        refine ⟨fun _ => ⟨fun z => ?_, fun z => ⟨fun e => ?_, fun e => ?_⟩⟩, fun z => absurd qi z⟩
        · rw [if_neg (by rw [z]; decide)] at fin; exact fin
        · rw [if_pos (bnf z), if_pos e] at fin; exact fin
        · rw [if_pos (bnf z), if_neg e] at fin; exact fin
    · refine Pr_gc (A := A) (C := fun _ => False) 0 3 b (by decide) rfl (fun K X kk => m291 ⟨by decide, ck_8 b.1, ?_⟩) (fun g J K X mf e kk => m294 ?_) (fun h2 l => l)
      · rw [tableAt_br b Tb.1, bz_t q, htx]
        exact ⟨ck_8 b.1, c_needCell (kT_0 T) i4 i5 R4 C3 (fun z => absurd z qi) (fun _ => kk)⟩
      · have IC := fun (K : Int32 → aH → Prop) X => isCell_br (d := 497) (g := g) (I := uI (gI g) 44 0 0) (J := J) (r := r) (c := c) (K := K) (X := X) mf (nt := nt) (by rw [uI_app, if_neg (by decide), e 44 (by decide) (by decide)]; exact h69) n12 ht ⟨R1, R4⟩ ⟨C1, C3⟩ (by rw [uI_app, if_neg (by omega), e 90 (by decide) (by decide)]; exact m90) (by rw [uI_app, if_neg (by omega), e 91 (by decide) (by decide)]; exact m91)
        simp only [↓forall_eq, ↓inB_iff, gK_hU, gL_hU, gR_hU, gIh, gJh, pI_hU, pJ_hU, hU_hU, uI_app, uJ_app, and_true, true_and, and_false, false_and, and_self, true_implies, false_implies, not_true, not_false_iff, if_true, if_false, eq_self, Nat.reduceLeDiff, Nat.reduceEqDiff, reduceCtorEq, i32c, ti0, ti1, tiM, Int.natCast_nonneg, Int.reduceEq, Int.reduceLE, Int.reduceLT, Int.reduceNeg, tl_i, Int32.reduceToInt, Int64.reduceToInt, tiA, tlM6, Int.toNat_natCast, natc, nI_1, Int.zero_sub, implies_true, not_false_eq_true, mf.1, mr_71 mf, mk_91 mf, ml_91 mf, mr_77 mf, mk_97 mf, ml_97 mf, mr_78 mf, mk_98 mf, ml_98 mf, ↓fail_br mf, ↓IC, qi]
        exact kk
  · refine Pr_gc (A := A) (C := fun _ => False) 0 3 b (by decide) rfl (fun K X kk => m291 ⟨by decide, ck_8 b.1, ?_⟩) (fun g J K X mf e kk => m294 ?_) (fun h2 l => l)
    · rw [tableAt_br b Tb.1, bz_f q]; exact kk
    · have IC := fun (K : Int32 → aH → Prop) X => isCell_no (d := 497) (g := g) (I := uI (gI g) 44 0 0) (J := J) (r := r) (c := c) (K := K) (X := X) mf (nt := nt) (by rw [uI_app, if_neg (by decide), e 44 (by decide) (by decide)]; exact h69) n12 q
      simp only [↓forall_eq, ↓inB_iff, gK_hU, gL_hU, gR_hU, gIh, gJh, pI_hU, pJ_hU, hU_hU, uI_app, uJ_app, and_true, true_and, and_false, false_and, and_self, true_implies, false_implies, not_true, not_false_iff, if_true, if_false, eq_self, Nat.reduceLeDiff, Nat.reduceEqDiff, reduceCtorEq, i32c, ti0, ti1, tiM, Int.natCast_nonneg, Int.reduceEq, Int.reduceLE, Int.reduceLT, Int.reduceNeg, tl_i, Int32.reduceToInt, Int64.reduceToInt, tiA, tlM6, Int.toNat_natCast, natc, nI_1, Int.zero_sub, implies_true, not_false_eq_true, mf.1, mr_71 mf, mk_91 mf, ml_91 mf, mr_77 mf, mk_97 mf, ml_97 mf, mr_78 mf, mk_98 mf, ml_98 mf, ↓fail_br mf, ↓IC]
      exact kk
end ITV
