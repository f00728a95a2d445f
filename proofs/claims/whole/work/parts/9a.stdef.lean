/-! READING A TEXT: statements; the class's small steps -/
section STD
abbrev StD : Type := Nat × (Int64 × Int32 × Int32 × List Tm) × List Cmp
section
variable (B : Nat → Int32) (L : Nat) (nam : Nat → Int64) (cnt ak : Nat)
def srN (p : Nat) : Nat := if lxK B L p = 0 ∧ lxW B L p = 6386539 then 0 else if lxK B L p = 0 ∧ lxW B L p = 7103860 then 1 else if lxK B L p = 0 ∧ lxW B L p = 1836413812 then 2 else if lxK B L p = 0 ∧ lxW B L p = 2002874990 then 3 else 4
def kpt (x : Int64) : Prop := x.toInt = 6386539 ∨ x.toInt = 7103860 ∨ x.toInt = 1836413812 ∨ x.toInt = 2002874990 ∨ x.toInt = 26982 ∨ x.toInt = 6385252 ∨ x.toInt = 28530 ∨ x.toInt = 7497063
/-- a name can stand here -/
def nmK (p : Nat) : Prop := lxK B L p = 0 ∧ ¬ kpt (lxW B L p) ∧ nmF nam cnt (lxW B L p) = -1
def bdF (p : Nat) : Option Int32 × Nat := if lxK B L p = 4 then (if lxK B L (lxE B L p) = 1 then (some (-lxN B L (lxE B L p)), lxE B L (lxE B L p)) else (none, lxE B L p)) else if lxK B L p = 1 then (some (lxN B L p), lxE B L p) else (none, p)
def bsF (p : Nat) : Option (Int32 × Int32) × Nat := match bdF B L p with
  | (none, q) => (none, q)
  | (some lo, q) => match bdF B L q with
    | (none, q2) => (none, q2)
    | (some hi, q2) => if hi.toInt < lo.toInt then (none, q) else (some (lo, hi), q2)
/-- the head: name, bounds, sum -/
noncomputable def hdN (s p : Nat) : Option (Int64 × Int32 × Int32 × List Tm) × Nat :=
  if 2 ≤ s then (some (0, 0, 0, []), p)
  else @ite _ (nmK B L nam cnt p) (Classical.propDecidable _) (if s = 0 then (match bsF B L (lxE B L p) with
      | (none, q) => (none, q)
      | (some b, q) => (some (lxW B L p, b.1, b.2, []), q))
    else (match exF B L nam cnt 1200 false (lxE B L p) with
      | (none, q) => (none, q)
      | (some ts, q) => (some (lxW B L p, 0, 0, ts), q)))
  (none, p)
def cnF (s q : Nat) : Option (List Cmp) × Nat := if 2 ≤ s then cdF B L nam cnt 1200 q else if lxK B L q = 0 ∧ lxW B L q = 26982 then cdF B L nam cnt 1200 (lxE B L q) else (some [], q)
noncomputable def stF (p : Nat) : Option StD × Nat :=
  if srN B L p = 4 ∨ (srN B L p = 0 ∧ 10 ≤ ak) then (none, p)
  else match hdN B L nam cnt (srN B L p) (lxE B L p) with
    | (none, q) => (none, q)
    | (some hd, q) => match cnF B L nam cnt (srN B L p) q with
      | (none, q2) => (none, q2)
      | (some cs, q2) => if lxK B L q2 = 5 then (some (srN B L p, hd, cs), lxE B L q2) else (none, q2)
end
variable {d L p q w cnt e : Nat} {h : aH} {X : Nat → aH → Prop} {B : Nat → Int32} {I I' : Nat → Nat → Int32} {J J' : Nat → Nat → Int64} {nam : Nat → Int64} {F : Nat → Nat}
/-- the cells of the form that is read -/
def pS (h : aH) (F : Nat → Nat) (L : Nat) : Prop := pE h (F 0) (F 1) (F 2) (F 7) L ∧ (gR h (F 0) 2 = F 3 ∧ gR h (F 0) 3 = F 4 ∧ gR h (F 0) 4 = F 5 ∧ gR h (F 0) 5 = F 6 ∧ gR h (F 0) 7 = F 8 ∧ gR h (F 0) 8 = F 9) ∧ ((gK h (F 3) = 100 ∧ gL h (F 3) = 20) ∧ (gK h (F 4) = 100 ∧ gL h (F 4) = 20) ∧ (gK h (F 5) = 100 ∧ gL h (F 5) = 20) ∧ (gK h (F 6) = 100 ∧ gL h (F 6) = 20) ∧ (gK h (F 8) = 100 ∧ gL h (F 8) = 21) ∧ (gK h (F 9) = 100 ∧ gL h (F 9) = 20)) ∧ (∀ j, j < 12 → 108 ≤ F j) ∧ ∀ i j, i < 12 → j < 12 → F i = F j → i = j
theorem pS_ne (S : pS h F L) {i j : Nat} (hi : i < 12) (hj : j < 12) (hn : i ≠ j) : F i ≠ F j := fun z => hn (S.2.2.2.2 i j hi hj z)
theorem srt_br {K : Int32 → aH → Prop} (f : CF h) (a : atC I J B L p) : CI (d + 1) 74 [vR 19] (hU h I J) K X ↔ K (if srN B L p = 4 then -1 else nI (srN B L p)) (hU h I J) := by
  refine CI_iff fun K X w => m74 ?_
  unfold srN at w
  simp only [↓forall_eq, ↓inB_iff, gK_hU, gL_hU, gR_hU, gIh, gJh, pI_hU, pJ_hU, hU_hU, uI_app, uJ_app, and_true, true_and, and_false, false_and, and_self, true_implies, false_implies, not_true, not_false_iff, if_true, if_false, eq_self, Nat.reduceLeDiff, Nat.reduceEqDiff, reduceCtorEq, i32c, ti0, ti1, tiM, Int.natCast_nonneg, Int.reduceEq, Int.reduceLE, Int.reduceLT, Int.reduceNeg, tl_i, Int32.reduceToInt, Int64.reduceToInt, tiA, tlM6, Int.toNat_natCast, natc, nI_1, Int.zero_sub, implies_true, not_false_eq_true, ck_17 f, ck_19 f, cr_19_0 f, ↓isAt_br f a]
  refine ⟨fun c1 => ?_, fun c1 => ⟨fun c2 => ?_, fun c2 => ⟨fun c3 => ?_, fun c3 => ⟨fun c4 => ?_, fun c4 => ?_⟩⟩⟩⟩
  · rw [if_pos c1, if_neg (by omega)] at w; exact w
  · rw [if_neg c1, if_pos c2, if_neg (by omega)] at w; exact w
  · rw [if_neg c1, if_neg c2, if_pos c3, if_neg (by omega)] at w; exact w
  · rw [if_neg c1, if_neg c2, if_neg c3, if_pos c4, if_neg (by omega)] at w; exact w
  · rw [if_neg c1, if_neg c2, if_neg c3, if_neg c4, if_pos rfl] at w; exact w
theorem kept_br {K : Int32 → aH → Prop} {x : Int64} : CI d 77 [vR 19, vL x] h K X ↔ ((kpt x → K 1 h) ∧ (¬ kpt x → K 0 h)) := by
  by_cases c : kpt x
  · rw [bz_t c]
    refine CI_iff fun K X w => m77 ?_
    unfold kpt at c
    exact ⟨fun _ => w, fun c1 => ⟨fun _ => w, fun c2 => ⟨fun _ => w, fun c3 => ⟨fun _ => w, fun c4 => ⟨fun _ => w, fun c5 => ⟨fun _ => w, fun c6 => ⟨fun _ => w, fun c7 => ⟨fun _ => w, fun c8 => by exfalso; rcases c with z | z | z | z | z | z | z | z; exact c1 z; exact c2 z; exact c3 z; exact c4 z; exact c5 z; exact c6 z; exact c7 z; exact c8 z⟩⟩⟩⟩⟩⟩⟩⟩
  · rw [bz_f c]
    refine CI_iff fun K X w => m77 ?_
    unfold kpt at c
    exact ⟨fun z => absurd (Or.inl z) c, fun _ => ⟨fun z => absurd (Or.inr (Or.inl z)) c, fun _ => ⟨fun z => absurd (Or.inr (Or.inr (Or.inl z))) c, fun _ => ⟨fun z => absurd (Or.inr (Or.inr (Or.inr (Or.inl z)))) c, fun _ => ⟨fun z => absurd (Or.inr (Or.inr (Or.inr (Or.inr (Or.inl z))))) c, fun _ => ⟨fun z => absurd (Or.inr (Or.inr (Or.inr (Or.inr (Or.inr (Or.inl z)))))) c, fun _ => ⟨fun z => absurd (Or.inr (Or.inr (Or.inr (Or.inr (Or.inr (Or.inr (Or.inl z))))))) c, fun _ => ⟨fun z => absurd (Or.inr (Or.inr (Or.inr (Or.inr (Or.inr (Or.inr (Or.inr z))))))) c, fun _ => w⟩⟩⟩⟩⟩⟩⟩⟩
theorem c_begin {K : aH → Prop} {x : Int32} (S : pS h F L) (hc : I (F 0) 11 = nI cnt) (h20 : cnt < 20) (kk : K (hU h (uI I (F 3) cnt x) J)) : CV d 76 [vR (F 0), vI x] (hU h I J) K X := by
  have cI : (nI cnt).toInt = cnt := ti_n (by omega)
  have c20 : (cnt : Int) < 20 := by omega
  have e3 : 8 ≤ F 3 := by have := S.2.2.2.1 3 (by omega); omega
  refine m76 ?_
  simp only [↓forall_eq, ↓inB_iff, gK_hU, gL_hU, gR_hU, gIh, gJh, pI_hU, pJ_hU, hU_hU, uI_app, uJ_app, and_true, true_and, and_false, false_and, and_self, true_implies, false_implies, not_true, not_false_iff, if_true, if_false, eq_self, Nat.reduceLeDiff, Nat.reduceEqDiff, reduceCtorEq, i32c, ti0, ti1, tiM, Int.natCast_nonneg, Int.reduceEq, Int.reduceLE, Int.reduceLT, Int.reduceNeg, tl_i, Int32.reduceToInt, Int64.reduceToInt, tiA, tlM6, Int.toNat_natCast, natc, nI_1, Int.zero_sub, implies_true, not_false_eq_true, S.1.2.1.1, hc, cI, c20, S.2.1.1, S.2.2.1.1, e3]
  exact kk
theorem c_split {K : aH → Prop} (S : pS h F L) (hc : I (F 0) 11 = nI cnt) (h20 : cnt < 20) (kk : K (hU h (uI I (F 9) cnt (I (F 0) 10)) J)) : CV d 86 [vR (F 0)] (hU h I J) K X := by
  have cI : (nI cnt).toInt = cnt := ti_n (by omega)
  have c20 : (cnt : Int) < 20 := by omega
  have e3 : 8 ≤ F 9 := by have := S.2.2.2.1 9 (by omega); omega
  refine m86 ?_
  simp only [↓forall_eq, ↓inB_iff, gK_hU, gL_hU, gR_hU, gIh, gJh, pI_hU, pJ_hU, hU_hU, uI_app, uJ_app, and_true, true_and, and_false, false_and, and_self, true_implies, false_implies, not_true, not_false_iff, if_true, if_false, eq_self, Nat.reduceLeDiff, Nat.reduceEqDiff, reduceCtorEq, i32c, ti0, ti1, tiM, Int.natCast_nonneg, Int.reduceEq, Int.reduceLE, Int.reduceLT, Int.reduceNeg, tl_i, Int32.reduceToInt, Int64.reduceToInt, tiA, tlM6, Int.toNat_natCast, natc, nI_1, Int.zero_sub, implies_true, not_false_eq_true, S.1.2.1.1, hc, cI, c20, S.2.1.2.2.2.2.2, S.2.2.1.2.2.2.2.2, e3]
  exact kk
theorem c_bind {K : aH → Prop} {x y : Int32} (S : pS h F L) (hc : I (F 0) 11 = nI cnt) (h20 : cnt < 20) (kk : K (hU h (uI (uI (uI (uI I (F 4) cnt x) (F 5) cnt y) (F 6) cnt 1) (F 0) 12 (I (F 0) 12 + 1)) J)) : CV d 81 [vR (F 0), vI x, vI y] (hU h I J) K X := by
  have cI : (nI cnt).toInt = cnt := ti_n (by omega)
  have c20 : (cnt : Int) < 20 := by omega
  have e0 : 8 ≤ F 0 := by have := S.2.2.2.1 0 (by omega); omega
  have e4 : 8 ≤ F 4 := by have := S.2.2.2.1 4 (by omega); omega
  have e5 : 8 ≤ F 5 := by have := S.2.2.2.1 5 (by omega); omega
  have e6 : 8 ≤ F 6 := by have := S.2.2.2.1 6 (by omega); omega
  have n4 := pS_ne S (i := 0) (j := 4) (by decide) (by decide) (by decide)
  have n5 := pS_ne S (i := 0) (j := 5) (by decide) (by decide) (by decide)
  have n6 := pS_ne S (i := 0) (j := 6) (by decide) (by decide) (by decide)
  refine m81 ?_
  simp only [↓forall_eq, ↓inB_iff, gK_hU, gL_hU, gR_hU, gIh, gJh, pI_hU, pJ_hU, hU_hU, uI_app, uJ_app, and_true, true_and, and_false, false_and, and_self, true_implies, false_implies, not_true, not_false_iff, if_true, if_false, eq_self, Nat.reduceLeDiff, Nat.reduceEqDiff, reduceCtorEq, i32c, ti0, ti1, tiM, Int.natCast_nonneg, Int.reduceEq, Int.reduceLE, Int.reduceLT, Int.reduceNeg, tl_i, Int32.reduceToInt, Int64.reduceToInt, tiA, tlM6, Int.toNat_natCast, natc, nI_1, Int.zero_sub, implies_true, not_false_eq_true, S.1.2.1.1, hc, cI, c20, S.2.1.2.1, S.2.1.2.2.1, S.2.1.2.2.2.1, S.2.2.1.2.1, S.2.2.1.2.2.1, S.2.2.1.2.2.2.1, e0, e4, e5, e6, n4, n5, n6]
  exact kk
theorem c_finish {K : aH → Prop} {x : Int64} (S : pS h F L) (hc : I (F 0) 11 = nI cnt) (h20 : cnt < 20) (kk : K (hU h (uI (uI I (F 0) 11 (nI (cnt + 1))) (F 8) (cnt + 1) (I (F 0) 10)) (uJ J (F 7) cnt x))) : CV d 88 [vR (F 0), vL x] (hU h I J) K X := by
  have cI : (nI cnt).toInt = cnt := ti_n (by omega)
  have c1 : (nI (cnt + 1)).toInt = ((cnt + 1 : Nat) : Int) := ti_n (by omega)
  have c20 : (cnt : Int) < 20 := by omega
  have c21 : ((cnt + 1 : Nat) : Int) < 21 := by omega
  have e0 : 8 ≤ F 0 := by have := S.2.2.2.1 0 (by omega); omega
  have e7 : 8 ≤ F 7 := by have := S.2.2.2.1 7 (by omega); omega
  have e8 : 8 ≤ F 8 := by have := S.2.2.2.1 8 (by omega); omega
  refine m88 ?_
  simp only [↓forall_eq, ↓inB_iff, gK_hU, gL_hU, gR_hU, gIh, gJh, pI_hU, pJ_hU, hU_hU, uI_app, uJ_app, and_true, true_and, and_false, false_and, and_self, true_implies, false_implies, not_true, not_false_iff, if_true, if_false, eq_self, Nat.reduceLeDiff, Nat.reduceEqDiff, reduceCtorEq, i32c, ti0, ti1, tiM, Int.natCast_nonneg, Int.reduceEq, Int.reduceLE, Int.reduceLT, Int.reduceNeg, tl_i, Int32.reduceToInt, Int64.reduceToInt, tiA, tlM6, Int.toNat_natCast, natc, nI_1, Int.zero_sub, implies_true, not_false_eq_true, S.1.2.1.1, hc, cI, c1, c20, c21, S.1.2.1.2.2.2.2, S.2.1.2.2.2.2.1, S.1.2.2.2.2.1, S.2.2.1.2.2.2.2.1, e0, e7, e8]
  exact kk
/-- reading a bound changes the tape and the reader -/
def fB9 (I I' : Nat → Nat → Int32) (J J' : Nat → Nat → Int64) : Prop := (∀ a, a ≠ 17 → a ≠ 19 → I' a = I a) ∧ I' 17 1 = I 17 1 ∧ ∀ a, a ≠ 17 → J' a = J a
theorem fB_T (t : fT I I' J J') : fB9 I I' J J' := ⟨fun a h1 _ => t.1 a h1, t.2.1, t.2.2⟩
theorem fB_tr {I2 : Nat → Nat → Int32} {J2 : Nat → Nat → Int64} (t : fB9 I I' J J') (u : fB9 I' I2 J' J2) : fB9 I I2 J J2 := ⟨fun a h1 h2 => (u.1 a h1 h2).trans (t.1 a h1 h2), u.2.1.trans t.2.1, fun a ha => (u.2.2 a ha).trans (t.2.2 a ha)⟩
theorem fB_9 {j : Nat} {x : Int32} : fB9 I (uI I 19 j x) J J := ⟨fun a _ h2 => by rw [uI_ne _ _ _ h2], by rw [uI_ne _ _ _ (by decide)], fun _ _ => rfl⟩
theorem tpC_fB (t : tpC I B L) (u : fB9 I I' J J') : tpC I' B L := ⟨by rw [u.2.1]; exact t.1, t.2.1, fun k hk => by rw [u.1 18 (by decide) (by decide)]; exact t.2.2 k hk⟩
theorem atC_9 {j : Nat} {x : Int32} (a : atC I J B L p) : atC (uI I 19 j x) J B L p := by
  unfold atC at a ⊢
  rw [uI_ne _ _ _ (by decide)]; exact a
theorem c_bound {K : Int32 → aH → Prop} (f : CF h) (t : tpC I B L) (a : atC I J B L p) (hp : p ≤ L)
    (ok : ∀ v q I' J', bdF B L p = (some v, q) → fB9 I I' J J' → I' 19 3 = v → atC I' J' B L q → q ≤ L → lxS B L p + 1 ≤ lxS B L q → (-999999 ≤ v.toInt ∧ v.toInt ≤ 999999) → K 1 (hU h I' J'))
    (no : ∀ q I' J', bdF B L p = (none, q) → fB9 I I' J J' → I' 19 4 = nI (lxS B L q) → K 0 (hU h I' J')) : CI (d + 2) 80 [vR 19] (hU h I J) K X := by
  have kl := lxK_le (B := B) (L := L) (p := p)
  have kI : (nI (lxK B L p)).toInt = lxK B L p := ti_n (by omega)
  have kI2 : (nI (lxK B L (lxE B L p))).toInt = lxK B L (lxE B L p) := ti_n (by have := lxK_le (B := B) (L := L) (p := lxE B L p); omega)
  have fl : ∀ (p1 : Nat) (I1 : Nat → Nat → Int32) (J1 : Nat → Nat → Int64), bdF B L p = (none, p1) → fB9 I I1 J J1 → atC I1 J1 B L p1 → CI (d + 1) 75 [vR 19, vI (I1 17 4)] (hU h I1 J1) (fun y h0 => y &&& 1 = y ∧ K y h0) X := by
    intro p1 I1 J1 hb u1 a1
    refine m75 ?_
    simp only [↓forall_eq, ↓inB_iff, gK_hU, gL_hU, gR_hU, gIh, gJh, pI_hU, pJ_hU, hU_hU, uI_app, uJ_app, and_true, true_and, and_false, false_and, and_self, true_implies, false_implies, not_true, not_false_iff, if_true, if_false, eq_self, Nat.reduceLeDiff, Nat.reduceEqDiff, reduceCtorEq, i32c, ti0, ti1, tiM, Int.natCast_nonneg, Int.reduceEq, Int.reduceLE, Int.reduceLT, Int.reduceNeg, tl_i, Int32.reduceToInt, Int64.reduceToInt, tiA, tlM6, Int.toNat_natCast, natc, nI_1, Int.zero_sub, implies_true, not_false_eq_true, ck_17 f, ck_19 f, cr_19_0 f]
    exact ⟨by decide, no p1 _ J1 hb (fB_tr u1 fB_9) (by rw [uI_same]; exact a1.1.2.2)⟩
  by_cases c4 : lxK B L p = 4
  · have z4 : ((lxK B L p : Nat) : Int) = 4 := by omega
    have go := lxK_go (B := B) hp (by omega)
    refine m80 ?_
    simp only [↓forall_eq, ↓inB_iff, gK_hU, gL_hU, gR_hU, gIh, gJh, pI_hU, pJ_hU, hU_hU, uI_app, uJ_app, and_true, true_and, and_false, false_and, and_self, true_implies, false_implies, not_true, not_false_iff, if_true, if_false, eq_self, Nat.reduceLeDiff, Nat.reduceEqDiff, reduceCtorEq, i32c, ti0, ti1, tiM, Int.natCast_nonneg, Int.reduceEq, Int.reduceLE, Int.reduceLT, Int.reduceNeg, tl_i, Int32.reduceToInt, Int64.reduceToInt, tiA, tlM6, Int.toNat_natCast, natc, nI_1, Int.zero_sub, implies_true, not_false_eq_true, ck_17 f, ck_19 f, cr_19_0 f, a.1.2.1, kI, z4]
    refine c_adv f t go.2.2.2 a.1.1 (fun I2 J2 u2 a2 => ?_)
    simp only [↓forall_eq, ↓inB_iff, gK_hU, gL_hU, gR_hU, gIh, gJh, pI_hU, pJ_hU, hU_hU, uI_app, uJ_app, and_true, true_and, and_false, false_and, and_self, true_implies, false_implies, not_true, not_false_iff, if_true, if_false, eq_self, Nat.reduceLeDiff, Nat.reduceEqDiff, reduceCtorEq, i32c, ti0, ti1, tiM, Int.natCast_nonneg, Int.reduceEq, Int.reduceLE, Int.reduceLT, Int.reduceNeg, tl_i, Int32.reduceToInt, Int64.reduceToInt, tiA, tlM6, Int.toNat_natCast, natc, nI_1, Int.zero_sub, implies_true, not_false_eq_true, ck_17 f, ck_19 f, cr_19_0 f, a2.1.2.1, kI2]
    refine ⟨fun z => ?_, fun z => ?_⟩
    · have c2 : lxK B L (lxE B L p) = 1 := by omega
      have nb := lxN_b go.2.2.2 c2
      have go2 := lxK_go (B := B) go.2.2.2 (by omega)
      have hn : I2 17 5 = lxN B L (lxE B L p) := a2.2.1 (Or.inl c2)
      rw [hn]
      have t2 := tpC_fT t u2
      refine c_adv f (tpC_fB t2 (fB_9 (J := J2))) go2.2.2.2 (by rw [uI_ne _ _ _ (by decide)]; exact a2.1.1) (fun I3 J3 u3 a3 => ?_)
      refine ok (-lxN B L (lxE B L p)) _ I3 J3 ?_ (fB_tr (fB_T u2) (fB_tr fB_9 (fB_T u3))) ?_ a3 go2.2.2.2 (by omega) ?_
      · unfold bdF; rw [if_pos c4, if_pos c2]
      · rw [u3.1 19 (by decide), uI_same, Int32.neg_mul, Int32.one_mul]
      · rw [ti_neg (by omega)]; omega
    · refine fl (lxE B L p) I2 J2 ?_ (fB_T u2) a2
      unfold bdF; rw [if_pos c4, if_neg (by omega)]
  · have z4 : ¬ ((lxK B L p : Nat) : Int) = 4 := by omega
    refine m80 ?_
    simp only [↓forall_eq, ↓inB_iff, gK_hU, gL_hU, gR_hU, gIh, gJh, pI_hU, pJ_hU, hU_hU, uI_app, uJ_app, and_true, true_and, and_false, false_and, and_self, true_implies, false_implies, not_true, not_false_iff, if_true, if_false, eq_self, Nat.reduceLeDiff, Nat.reduceEqDiff, reduceCtorEq, i32c, ti0, ti1, tiM, Int.natCast_nonneg, Int.reduceEq, Int.reduceLE, Int.reduceLT, Int.reduceNeg, tl_i, Int32.reduceToInt, Int64.reduceToInt, tiA, tlM6, Int.toNat_natCast, natc, nI_1, Int.zero_sub, implies_true, not_false_eq_true, ck_17 f, ck_19 f, cr_19_0 f, a.1.2.1, kI, z4]
    refine ⟨fun z => ?_, fun z => ?_⟩
    · have c2 : lxK B L p = 1 := by omega
      have nb := lxN_b hp c2
      have go2 := lxK_go (B := B) hp (by omega)
      have hn : I 17 5 = lxN B L p := a.2.1 (Or.inl c2)
      rw [hn]
      refine c_adv f (tpC_fB t (fB_9 (J := J))) go2.2.2.2 (by rw [uI_ne _ _ _ (by decide)]; exact a.1.1) (fun I3 J3 u3 a3 => ?_)
      refine ok (lxN B L p) _ I3 J3 ?_ (fB_tr fB_9 (fB_T u3)) ?_ a3 go2.2.2.2 (by omega) (by omega)
      · unfold bdF; rw [if_neg c4, if_pos c2]
      · rw [u3.1 19 (by decide), uI_same, Int32.one_mul]
    · refine fl p I J ?_ ⟨fun _ _ _ => rfl, rfl, fun _ _ => rfl⟩ a
      unfold bdF; rw [if_neg c4, if_neg (by omega)]
end STD
