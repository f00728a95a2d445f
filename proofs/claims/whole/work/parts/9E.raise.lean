/-! ROUNDING: the class's search -/
section RSE
variable {d t R C N m : Nat} {h : aH} {A o : Nat → Nat} {X : Nat → aH → Prop} {M I : Nat → Nat → Int32} {J : Nat → Nat → Int64} {rn wn : Nat → Nat} {S T F : Int32} {a sm : Nat}
/-- what a line of a table gains when T is raised -/
def lnG (rn : Nat → Nat) (m : Nat) (T : Int32) (R C r c : Nat) : Nat → Int
  | 0 => 0
  | k + 1 => lnG rn m T R C r c k + if inC R C (r : Int) (c : Int) k = true then (if gB T k = true then (m : Int) else 0) - (rn k : Int) else 0
def lnF (m : Nat) (T : Int32) (R C r c : Nat) : Nat → Int
  | 0 => 0
  | k + 1 => lnF m T R C r c k + if inC R C (r : Int) (c : Int) k = true then (if gB T k = true then (m : Int) else 0) else 0
theorem lnG_b (m1 : m ≤ 1000) (hr : ∀ k, rn k < 1000) {r c : Nat} : ∀ n : Nat, -(1000 * (n : Int)) ≤ lnG rn m T R C r c n ∧ lnG rn m T R C r c n ≤ 1000 * n := by
  intro n
  induction n with
  | zero => exact ⟨Int.le_refl _, Int.le_refl _⟩
  | succ n ih =>
    have := hr n
    rw [lnG]
    split
    · split <;> omega
    · omega
theorem lnF_b (m1 : m ≤ 1000) {r c : Nat} : ∀ n, 0 ≤ lnF m T R C r c n ∧ lnF m T R C r c n ≤ 1000 * n := by
  intro n
  induction n with
  | zero => exact ⟨Int.le_refl _, Int.le_refl _⟩
  | succ n ih =>
    rw [lnF]
    split
    · split <;> omega
    · omega
def fitL (rn : Nat → Nat) (m : Nat) (F T : Int32) (R C r c : Nat) : Bool := decide (lnG rn m T R C r c (R * C) < m) && decide (-(m : Int) < lnG rn m T R C r c (R * C) + lnF m F R C r c (R * C))
/-- a table as rounding needs it -/
def rdT (h : aH) (a sm R C : Nat) (wn : Nat → Nat) : Prop := (gK h a = 11 ∧ 8 ≤ a) ∧ ((1 ≤ R ∧ R ≤ 4) ∧ 1 ≤ C ∧ C ≤ 3) ∧ (gI h a 4 = nI R ∧ gI h a 5 = nI C ∧ gI h a 6 = nI (R * C)) ∧ (gR h a 7 = sm ∧ gK h sm = 100 ∧ gL h sm = R * C) ∧ ∀ k, k < R * C → gI h sm k = nI (wn k) ∧ wn k ≤ 60000000
theorem c_fitL {K : Int32 → aH → Prop} {r c : Nat} (rd : rdT h a sm R C wn) (m1 : 1 ≤ m ∧ m ≤ 1000) (hr4 : r ≤ 4) (hc3 : c ≤ 3) : CI (d + 1) 300 [vR a, vI F, vI S, vI (nI m), vI (nI r), vI (nI c)] h K X ↔ K (bI (fitL (fun k => wn k % m) m F S R C r c)) h := by
  obtain ⟨⟨k0, e0⟩, ⟨⟨R1, R4⟩, C1, C3⟩, ⟨i4, i5, i6⟩, ⟨q7, ks, ls⟩, vs⟩ := rd
  have m12 : R * C ≤ 4 * 3 := Nat.mul_le_mul R4 C3
  have NI : (nI (R * C)).toInt = ((R * C : Nat) : Int) := ti_n (by omega)
  have mI : (nI m).toInt = m := ti_n (by omega)
  have rI : (nI r).toInt = r := ti_n (by omega)
  have cI : (nI c).toInt = c := ti_n (by omega)
  have mne : ¬ nI m = 0 := fun e => by rw [e] at mI; have : (0 : Int32).toInt = 0 := rfl; omega
  have hr : ∀ k, wn k % m < 1000 := fun k => by have := Nat.mod_lt (wn k) (show 0 < m by omega); omega
  refine CI_iff fun K X w9 => m300 ?_
  have main : ∀ (n p : Nat) (x y : Int32), p + n = R * C → x.toInt = lnG (fun k => wn k % m) m S R C r c p → y.toInt = lnF m F R C r c p → Wp (d + 1) 300 (9, [some (vR a), some (vI F), some (vI S), some (vI (nI m)), some (vI (nI r)), some (vI (nI c)), some (vI x), some (vI y), some (vI (nI p))], [], h) (RI K X) := by
    intro n
    induction n with
    | zero =>
      intro p x y hp hx hy
      have hpc : p = R * C := by omega
      subst hpc
      have b1 := lnG_b (T := S) (R := R) (C := C) (r := r) (c := c) m1.2 hr (R * C)
      have b2 := lnF_b (m := m) (T := F) (R := R) (C := C) (r := r) (c := c) m1.2 (R * C)
      have xy : (x + y).toInt = x.toInt + y.toInt := ti_add (by omega) (by omega)
      have ng : (-nI m).toInt = -(m : Int) := by rw [Int32.toInt_neg, mI]; exact Jvm.Kit.bmod32 (by omega) (by omega)
      refine w300_9 ?_
      simp only [↓forall_eq, ↓inB_iff, gK_hU, gL_hU, gR_hU, gIh, gJh, pI_hU, pJ_hU, hU_hU, uI_app, uJ_app, and_true, true_and, and_false, false_and, and_self, true_implies, false_implies, not_true, not_false_iff, if_true, if_false, eq_self, Nat.reduceLeDiff, Nat.reduceEqDiff, reduceCtorEq, i32c, ti0, ti1, tiM, Int.natCast_nonneg, Int.reduceEq, Int.reduceLE, Int.reduceLT, Int.reduceNeg, tl_i, Int32.reduceToInt, Int64.reduceToInt, tiA, tlM6, Int.toNat_natCast, natc, nI_1, Int.zero_sub, implies_true, not_false_eq_true, k0, i6, Int.lt_irrefl, xy, ng, hx, hy, mI]
      unfold fitL at w9
      refine ⟨fun z1 => ⟨fun z2 => ?_, fun z2 => ?_⟩, fun z1 => ?_⟩
      · rw [decide_eq_true z1, decide_eq_true z2] at w9; exact w9
      · rw [decide_eq_false z2, Bool.and_false] at w9; exact w9
      · rw [decide_eq_false z1, Bool.false_and] at w9; exact w9
    | succ n ih =>
      intro p x y hp hx hy
      have b1 := lnG_b (T := S) (R := R) (C := C) (r := r) (c := c) m1.2 hr p
      have b2 := lnF_b (m := m) (T := F) (R := R) (C := C) (r := r) (c := c) m1.2 p
      have rb := hr p
      have hpI : (nI p).toInt = p := ti_n (by omega)
      have zp : (p : Int) < ((R * C : Nat) : Int) := by omega
      have IB := fun (K : Int32 → aH → Prop) X => isIn9_br (d := d) (k := p) (r := nI r) (c := nI c) (K := K) (X := X) k0 ⟨C1, C3⟩ R4 i4 i5 (by omega)
      rw [rI, cI] at IB
      have vp := vs p (by omega)
      have md : aIrem (nI (wn p)) (nI m) = nI (wn p % m) := nI_rem (by omega) (by omega)
      have rmI : (nI (wn p % m)).toInt = ((wn p % m : Nat) : Int) := ti_n (by omega)
      have s0 : (0 - nI (wn p % m)).toInt = 0 - ((wn p % m : Nat) : Int) := by rw [ti_sub (by rw [rmI, ti0]; omega) (by rw [rmI, ti0]; omega), rmI, ti0]
      have s1 : (nI m - nI (wn p % m)).toInt = (m : Int) - ((wn p % m : Nat) : Int) := by rw [ti_sub (by rw [rmI, mI]; omega) (by rw [rmI, mI]; omega), rmI, mI]
      have a0 : (x + (0 - nI (wn p % m))).toInt = x.toInt + (0 - ((wn p % m : Nat) : Int)) := by rw [ti_add (by rw [s0]; omega) (by rw [s0]; omega), s0]
      have a1 : (x + (nI m - nI (wn p % m))).toInt = x.toInt + ((m : Int) - ((wn p % m : Nat) : Int)) := by rw [ti_add (by rw [s1]; omega) (by rw [s1]; omega), s1]
      have f1 : (y + nI m).toInt = y.toInt + m := by rw [ti_add (by rw [mI]; omega) (by rw [mI]; omega), mI]
      have nx := fun x y => ih (p + 1) x y (by omega)
      rw [lnG, lnF, ← hx, ← hy] at nx
      refine w300_9 ?_
      simp only [↓forall_eq, ↓inB_iff, gK_hU, gL_hU, gR_hU, gIh, gJh, pI_hU, pJ_hU, hU_hU, uI_app, uJ_app, and_true, true_and, and_false, false_and, and_self, true_implies, false_implies, not_true, not_false_iff, if_true, if_false, eq_self, Nat.reduceLeDiff, Nat.reduceEqDiff, reduceCtorEq, i32c, ti0, ti1, tiM, Int.natCast_nonneg, Int.reduceEq, Int.reduceLE, Int.reduceLT, Int.reduceNeg, tl_i, Int32.reduceToInt, Int64.reduceToInt, tiA, tlM6, Int.toNat_natCast, natc, nI_1, Int.zero_sub, implies_true, not_false_eq_true, k0, e0, i6, NI, hpI, zp, ↓IB, bI0, ↓hasBit_br (show p < 32 by omega), q7, ks, ls, vp.1, mne, md, Int32.add_zero]
      refine ⟨fun z => nx _ _ ?_ ?_, fun z => ⟨fun z1 => ⟨fun z2 => nx _ _ ?_ ?_, fun z2 => nx _ _ ?_ ?_⟩, fun z1 => ⟨fun z2 => nx _ _ ?_ ?_, fun z2 => nx _ _ ?_ ?_⟩⟩⟩
      · rw [if_neg (by rw [z]; decide), Int.add_zero]
      · rw [if_neg (by rw [z]; decide), Int.add_zero]
      · rw [if_pos (bnf z), if_neg (by rw [z1]; decide)]; exact a0
      · rw [if_pos (bnf z), if_neg (by rw [z2]; decide), Int.add_zero]
      · rw [if_pos (bnf z), if_neg (by rw [z1]; decide)]; exact a0
      · rw [if_pos (bnf z), if_pos (bnf z2)]; exact f1
      · rw [if_pos (bnf z), if_pos (bnf z1)]; exact a1
      · rw [if_pos (bnf z), if_neg (by rw [z2]; decide), Int.add_zero]
      · rw [if_pos (bnf z), if_pos (bnf z1)]; exact a1
      · rw [if_pos (bnf z), if_pos (bnf z2)]; exact f1
  exact main (R * C) 0 0 0 (by omega) rfl rfl
/-- the three lines of a cell -/
def fit3 (rn : Nat → Nat) (m : Nat) (F T : Int32) (R C k : Nat) : Bool := fitL rn m F T R C (k / C) C && (fitL rn m F T R C R (k % C) && fitL rn m F T R C R C)
theorem c_fit3 {K : Int32 → aH → Prop} {k : Nat} (rd : rdT h a sm R C wn) (m1 : 1 ≤ m ∧ m ≤ 1000) (hk : k < R * C) : CI (d + 2) 301 [vR a, vI F, vI S, vI (nI m), vI (nI k)] h K X ↔ K (bI (fit3 (fun k => wn k % m) m F S R C k)) h := by
  have rd0 := rd
  obtain ⟨⟨k0, e0⟩, ⟨⟨R1, R4⟩, C1, C3⟩, ⟨i4, i5, i6⟩, -, -⟩ := rd
  have m12 : R * C ≤ 4 * 3 := Nat.mul_le_mul R4 C3
  have CN : (nI C).toInt = C := ti_n (by omega)
  have cz : (0 : Int) < C := by omega
  have cne : ¬ nI C = 0 := fun e => by rw [e] at CN; have : (0 : Int32).toInt = 0 := rfl; omega
  have dv : nI k / nI C = nI (k / C) := nI_div (by omega) (by omega)
  have md : aIrem (nI k) (nI C) = nI (k % C) := nI_rem (by omega) (by omega)
  have hd : k / C < R := Nat.div_lt_of_lt_mul (by rw [Nat.mul_comm]; exact hk)
  have hm : k % C < C := Nat.mod_lt _ (by omega)
  have F1 := fun (K : Int32 → aH → Prop) X => c_fitL (d := d) (F := F) (S := S) (r := k / C) (c := C) (K := K) (X := X) rd0 m1 (by omega) (by omega)
  have F2 := fun (K : Int32 → aH → Prop) X => c_fitL (d := d) (F := F) (S := S) (r := R) (c := k % C) (K := K) (X := X) rd0 m1 (by omega) (by omega)
  have F3 := fun (K : Int32 → aH → Prop) X => c_fitL (d := d) (F := F) (S := S) (r := R) (c := C) (K := K) (X := X) rd0 m1 (by omega) (by omega)
  refine CI_iff fun K X w9 => m301 ?_
  simp only [↓forall_eq, ↓inB_iff, gK_hU, gL_hU, gR_hU, gIh, gJh, pI_hU, pJ_hU, hU_hU, uI_app, uJ_app, and_true, true_and, and_false, false_and, and_self, true_implies, false_implies, not_true, not_false_iff, if_true, if_false, eq_self, Nat.reduceLeDiff, Nat.reduceEqDiff, reduceCtorEq, i32c, ti0, ti1, tiM, Int.natCast_nonneg, Int.reduceEq, Int.reduceLE, Int.reduceLT, Int.reduceNeg, tl_i, Int32.reduceToInt, Int64.reduceToInt, tiA, tlM6, Int.toNat_natCast, natc, nI_1, Int.zero_sub, implies_true, not_false_eq_true, k0, e0, i4, i5, CN, cz, cne, dv, md, ↓F1, ↓F2, ↓F3, bI0]
  unfold fit3 at w9
  refine ⟨fun z => ?_, fun z => ⟨fun z2 => ?_, fun z2 => ⟨fun z3 => ?_, fun z3 => ?_⟩⟩⟩
  · rw [z, Bool.false_and] at w9; exact w9
  · rw [z2, Bool.false_and, Bool.and_false] at w9; exact w9
  · rw [z3, Bool.and_false, Bool.and_false] at w9; exact w9
  · rw [bnf z, bnf z2, bnf z3] at w9; exact w9
end RSE
