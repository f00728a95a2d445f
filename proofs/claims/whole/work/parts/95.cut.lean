/-! CUTS: mathematics, and the class's side -/
section CUT
variable {d t R C : Nat} {h : aH} {A o : Nat → Nat} {X : Nat → aH → Prop} {M : Nat → Nat → Int32} {v : Nat → Int} {O : Nat → Bool}
/-- columns in which some rows have cells -/
def anyR (O P : Nat → Bool) (C c : Nat) : Nat → Bool
  | 0 => false
  | r + 1 => anyR O P C c r || (P r && O (r * C + c))
def rowS (v : Nat → Int) (O Q : Nat → Bool) (C r : Nat) : Nat → Int
  | 0 => 0
  | c + 1 => rowS v O Q C r c + if (O (r * C + c) && Q c) = true then v (r * C + c) else 0
/-- what is cut: cells of rows outside P, in columns of Q -/
def cutR (v : Nat → Int) (O P Q : Nat → Bool) (C : Nat) : Nat → Int
  | 0 => 0
  | r + 1 => cutR v O P Q C r + if P r = true then 0 else rowS v O Q C r C
abbrev tB (a : Nat) : Nat → Bool := fun i => a.testBit i
abbrev qA (O : Nat → Bool) (R C c0 a : Nat) : Nat → Bool := fun c => anyR O (tB a) C c R || decide (c = c0)
abbrev qB (O : Nat → Bool) (R C a : Nat) : Nat → Bool := fun c => anyR O (tB a) C c R
def rmA (v : Nat → Int) (O : Nat → Bool) (R C r0 c0 : Nat) : Nat → Int
  | 0 => 2147483647
  | a + 1 => if a.testBit r0 = true then rmA v O R C r0 c0 a else if cutR v O (tB a) (qA O R C c0 a) C R < rmA v O R C r0 c0 a then cutR v O (tB a) (qA O R C c0 a) C R else rmA v O R C r0 c0 a
def rmB (v : Nat → Int) (O : Nat → Bool) (R C r0 c0 : Nat) : Nat → Int
  | 0 => v (r0 * C + c0)
  | a + 1 => if (a.testBit r0 && !anyR O (tB a) C c0 R) = true then (if cutR v O (tB a) (qB O R C a) C R < rmB v O R C r0 c0 a then cutR v O (tB a) (qB O R C a) C R else rmB v O R C r0 c0 a) else rmB v O R C r0 c0 a
theorem row_b (hv : ∀ k, k < R * C → 0 ≤ v k ∧ v k ≤ 60000000) {Q : Nat → Bool} {r : Nat} (hr : r < R) : ∀ c, c ≤ C → 0 ≤ rowS v O Q C r c ∧ rowS v O Q C r c ≤ 60000000 * c := by
  intro c
  induction c with
  | zero => intro _; exact ⟨Int.le_refl _, Int.le_refl _⟩
  | succ c ih =>
    intro hc
    have i := ih (by omega)
    have : (r + 1) * C ≤ R * C := Nat.mul_le_mul_right _ hr
    rw [Nat.succ_mul] at this
    have b := hv (r * C + c) (by omega)
    rw [rowS]
    split <;> omega
theorem cut_b (hv : ∀ k, k < R * C → 0 ≤ v k ∧ v k ≤ 60000000) (C3 : C ≤ 3) {P Q : Nat → Bool} : ∀ r, r ≤ R → 0 ≤ cutR v O P Q C r ∧ cutR v O P Q C r ≤ 180000000 * r := by
  intro r
  induction r with
  | zero => intro _; exact ⟨Int.le_refl _, Int.le_refl _⟩
  | succ r ih =>
    intro hr
    have i := ih (by omega)
    have b := row_b (O := O) (Q := Q) hv (show r < R by omega) C (Nat.le_refl _)
    rw [cutR]
    split <;> omega
theorem gB_n {a i : Nat} (ha : a < 2147483648) : gB (nI a) i = a.testBit i := by rw [msk_bit, msk_n ha]
theorem gB_sr {x : Int32} {k i : Nat} (hk : k < 32) (hi : i + k < 32) : gB (x >>> (nI k &&& 31)) i = gB x (i + k) := by
  have e : (nI k &&& 31).toBitVec.toNat = k := (show ∀ s : Fin 32, (nI s.val &&& 31).toBitVec.toNat = s.val by decide +kernel) ⟨k, hk⟩
  unfold gB
  rw [Int32.toBitVec_shiftRight]
  have m : ((nI k &&& 31).toBitVec.smod 32).toNat = k := (show ∀ s : Fin 32, ((nI s.val &&& 31).toBitVec.smod 32).toNat = s.val by decide +kernel) ⟨k, hk⟩
  rw [BitVec.sshiftRight_eq', m, BitVec.getLsbD_sshiftRight]
  simp only [show ¬ 32 ≤ i by omega, decide_false, Bool.not_false, Bool.true_and, show k + i < 32 by omega, if_true]
  rw [Nat.add_comm]
theorem gB_m1 (C : Nat) (hC : C ≤ 3) {i : Nat} (hi : i < 32) : gB ((1 <<< (nI C &&& 31)) - 1) i = decide (i < C) := (show ∀ (C : Fin 4) (i : Fin 32), gB ((1 <<< (nI C.val &&& 31)) - 1) i.val = decide (i.val < C.val) by decide +kernel) ⟨C, by omega⟩ ⟨i, hi⟩
/-- a table as the cuts need it -/
def ctT (h : aH) (a pa R C : Nat) (v : Nat → Int32) : Prop := (gK h a = 11 ∧ 8 ≤ a) ∧ ((1 ≤ R ∧ R ≤ 4) ∧ 1 ≤ C ∧ C ≤ 3) ∧ (gI h a 4 = nI R ∧ gI h a 5 = nI C) ∧ (gR h a 11 = pa ∧ gK h pa = 100 ∧ gL h pa = 32) ∧ (∀ r, r < R → ∀ m, m < 2 ^ C → gI h pa (8 * r + m) = sbS v C r m C) ∧ ∀ k, k < R * C → 0 ≤ (v k).toInt ∧ (v k).toInt ≤ 60000000
theorem cols_br {K : Int32 → aH → Prop} {a pa : Nat} {w : Nat → Int32} {S P : Int32} (c : ctT h a pa R C w) : CI (d + 1) 277 [vR a, vI S, vI P] h K X ↔ K (bits (fun c => anyR (gB S) (gB P) C c R) C) h := by
  obtain ⟨⟨k0, e0⟩, ⟨⟨R1, R4⟩, C1, C3⟩, ⟨i4, i5⟩, -, -, -⟩ := c
  have RN : (nI R).toInt = R := ti_n (by omega)
  have m12 : R * C ≤ 4 * 3 := Nat.mul_le_mul R4 C3
  refine CI_iff fun K X w => m277 ?_
  have main : ∀ (n p : Nat) (Y : Int32), p + n = R → (∀ c, c < C → gB Y c = anyR (gB S) (gB P) C c p) → Wp (d + 1) 277 (5, [some (vR a), some (vI S), some (vI P), some (vI Y), some (vI (nI p))], [], h) (RI K X) := by
    intro n
    induction n with
    | zero =>
      intro p Y hp hY
      have hpc : p = R := by omega
      subst hpc
      refine w277_5 ?_
      simp only [↓forall_eq, ↓inB_iff, gK_hU, gL_hU, gR_hU, gIh, gJh, pI_hU, pJ_hU, hU_hU, uI_app, uJ_app, and_true, true_and, and_false, false_and, and_self, true_implies, false_implies, not_true, not_false_iff, if_true, if_false, eq_self, Nat.reduceLeDiff, Nat.reduceEqDiff, reduceCtorEq, i32c, ti0, ti1, tiM, Int.natCast_nonneg, Int.reduceEq, Int.reduceLE, Int.reduceLT, Int.reduceNeg, tl_i, Int32.reduceToInt, Int64.reduceToInt, tiA, tlM6, Int.toNat_natCast, natc, nI_1, Int.zero_sub, implies_true, not_false_eq_true, k0, i4, i5, Int.lt_irrefl]
      have e : Y &&& ((1 <<< (nI C &&& 31)) - 1) = bits (fun c => anyR (gB S) (gB P) C c p) C := by
        refine gB_ext fun i hi => ?_
        rw [gB_and, gB_m1 C C3 hi, gB_bits C (by omega)]
        by_cases l : i < C
        · rw [decide_eq_true l, hY i l, Bool.and_true, Bool.true_and]
        · rw [decide_eq_false l, Bool.and_false, Bool.false_and]
      rw [e]; exact w
    | succ n ih =>
      intro p Y hp hY
      have hpI : (nI p).toInt = p := ti_n (by omega)
      have zp : (p : Int) < R := by omega
      have pc : (p + 1) * C ≤ R * C := Nat.mul_le_mul_right _ (by omega)
      rw [Nat.succ_mul] at pc
      have mul : nI p * nI C = nI (p * C) := nI_mul p C
      refine w277_5 ?_
      simp only [↓forall_eq, ↓inB_iff, gK_hU, gL_hU, gR_hU, gIh, gJh, pI_hU, pJ_hU, hU_hU, uI_app, uJ_app, and_true, true_and, and_false, false_and, and_self, true_implies, false_implies, not_true, not_false_iff, if_true, if_false, eq_self, Nat.reduceLeDiff, Nat.reduceEqDiff, reduceCtorEq, i32c, ti0, ti1, tiM, Int.natCast_nonneg, Int.reduceEq, Int.reduceLE, Int.reduceLT, Int.reduceNeg, tl_i, Int32.reduceToInt, Int64.reduceToInt, tiA, tlM6, Int.toNat_natCast, natc, nI_1, Int.zero_sub, implies_true, not_false_eq_true, k0, i4, i5, RN, hpI, zp, ↓hasBit_br (show p < 32 by omega), bI0, mul]
      refine ⟨fun z => ih (p + 1) _ (by omega) (fun c hc => ?_), fun z => ih (p + 1) _ (by omega) (fun c hc => ?_)⟩
      · rw [gB_or, gB_0, Bool.or_false, hY c hc, anyR, z, Bool.false_and, Bool.or_false]
      · rw [gB_or, hY c hc, anyR, bnf z, Bool.true_and, gB_sr (by omega) (by omega), Nat.add_comm c]
  exact main R 0 0 (by omega) (fun c _ => by rw [gB_0]; rfl)
theorem sb_row {w : Nat → Int32} {r m : Nat} {Q : Nat → Bool} (hv : ∀ k, k < R * C → 0 ≤ (w k).toInt ∧ (w k).toInt ≤ 60000000) (C3 : C ≤ 3) (hr : r < R) (hm : m < 8) (hq : ∀ c, c < C → m.testBit c = (O (r * C + c) && Q c)) : ∀ c, c ≤ C → (sbS w C r m c).toInt = rowS (fun k => (w k).toInt) O Q C r c := by
  intro c
  induction c with
  | zero => intro _; rfl
  | succ c ih =>
    intro hc
    have i := ih (by omega)
    have b := row_b (O := O) (Q := Q) (v := fun k => (w k).toInt) hv hr c (by omega)
    have : (r + 1) * C ≤ R * C := Nat.mul_le_mul_right _ hr
    rw [Nat.succ_mul] at this
    have bk := hv (r * C + c) (by omega)
    rw [sbS, rowS, gB_n (by omega), hq c (by omega)]
    by_cases z : (O (r * C + c) && Q c) = true
    · rw [if_pos z, if_pos z, ti_add (by rw [i]; omega) (by rw [i]; omega), i]
    · rw [if_neg z, if_neg z, Int32.add_zero, i, Int.add_zero]
theorem cut_br {K : Int32 → aH → Prop} {a pa : Nat} {w : Nat → Int32} {S P Q : Int32} (c : ctT h a pa R C w) (hQ : ∀ i, C ≤ i → gB Q i = false) : CI (d + 1) 278 [vR a, vI S, vI P, vI Q] h K X ↔ K (iZ (cutR (fun k => (w k).toInt) (gB S) (gB P) (gB Q) C R)) h := by
  obtain ⟨⟨k0, e0⟩, ⟨⟨R1, R4⟩, C1, C3⟩, ⟨i4, i5⟩, ⟨q11, kp, lp⟩, ps, hv⟩ := c
  have RN : (nI R).toInt = R := ti_n (by omega)
  have m12 : R * C ≤ 4 * 3 := Nat.mul_le_mul R4 C3
  refine CI_iff fun K X w9 => m278 ?_
  have main : ∀ (n p : Nat), p + n = R → Wp (d + 1) 278 (6, [some (vR a), some (vI S), some (vI P), some (vI Q), some (vI (iZ (cutR (fun k => (w k).toInt) (gB S) (gB P) (gB Q) C p))), some (vI (nI p))], [], h) (RI K X) := by
    intro n
    induction n with
    | zero =>
      intro p hp
      have hpc : p = R := by omega
      subst hpc
      refine w278_6 ?_
      simp only [↓forall_eq, ↓inB_iff, gK_hU, gL_hU, gR_hU, gIh, gJh, pI_hU, pJ_hU, hU_hU, uI_app, uJ_app, and_true, true_and, and_false, false_and, and_self, true_implies, false_implies, not_true, not_false_iff, if_true, if_false, eq_self, Nat.reduceLeDiff, Nat.reduceEqDiff, reduceCtorEq, i32c, ti0, ti1, tiM, Int.natCast_nonneg, Int.reduceEq, Int.reduceLE, Int.reduceLT, Int.reduceNeg, tl_i, Int32.reduceToInt, Int64.reduceToInt, tiA, tlM6, Int.toNat_natCast, natc, nI_1, Int.zero_sub, implies_true, not_false_eq_true, k0, i4, Int.lt_irrefl]
      exact w9
    | succ n ih =>
      intro p hp
      have nx := ih (p + 1) (by omega)
      rw [cutR] at nx
      have hpI : (nI p).toInt = p := ti_n (by omega)
      have zp : (p : Int) < R := by omega
      have pc : (p + 1) * C ≤ R * C := Nat.mul_le_mul_right _ (by omega)
      rw [Nat.succ_mul] at pc
      have mul : nI p * nI C = nI (p * C) := nI_mul p C
      -- the row's cells as a number
      generalize hm : (S >>> (nI (p * C) &&& 31)) &&& Q = Y
      have bY : ∀ i, i < 32 → gB Y i = ((S >>> (nI (p * C) &&& 31)).toBitVec.getLsbD i && gB Q i) := fun i _ => by rw [← hm, gB_and]; rfl
      have hY : ∀ i, C ≤ i → gB Y i = false := fun i hi => by rw [← hm, gB_and, hQ i hi, Bool.and_false]
      have mlt : msk Y < 2 ^ C := msk_lt hY
      have p8 : 2 ^ C ≤ 8 := by
        have : C = 1 ∨ C = 2 ∨ C = 3 := by omega
        rcases this with e | e | e <;> subst e <;> decide
      have eY : Y = nI (msk Y) := msk_nI (by omega)
      have ix : (nI p <<< ((3 : Int32) &&& 31)) ||| Y = nI (8 * p + msk Y) := by rw [eY, sh3 p (msk Y) (by omega) (by omega), ← eY]
      have ixI : (nI (8 * p + msk Y)).toInt = ((8 * p + msk Y : Nat) : Int) := ti_n (by omega)
      have z32 : ((8 * p + msk Y : Nat) : Int) < 32 := by omega
      have vr := ps p (by omega) (msk Y) mlt
      have row := sb_row (O := gB S) (Q := gB Q) hv C3 (show p < R by omega) (show msk Y < 8 by omega) (fun c hc => by rw [← msk_bit, ← hm, gB_and, gB_sr (by omega) (by omega), Nat.add_comm]) C (Nat.le_refl _)
      have b1 := cut_b (O := gB S) (P := gB P) (Q := gB Q) (v := fun k => (w k).toInt) hv C3 p (by omega)
      have b2 := row_b (O := gB S) (Q := gB Q) (v := fun k => (w k).toInt) hv (show p < R by omega) C (Nat.le_refl _)
      have z1 := ti_z (z := cutR (fun k => (w k).toInt) (gB S) (gB P) (gB Q) C p) (by omega) (by omega)
      have key : iZ (cutR (fun k => (w k).toInt) (gB S) (gB P) (gB Q) C p) + sbS w C p (msk Y) C = iZ (cutR (fun k => (w k).toInt) (gB S) (gB P) (gB Q) C p + rowS (fun k => (w k).toInt) (gB S) (gB Q) C p C) := ti_inj (by rw [ti_add (by rw [z1, row]; omega) (by rw [z1, row]; omega), z1, row, ti_z (by omega) (by omega)])
      refine w278_6 ?_
      simp only [↓forall_eq, ↓inB_iff, gK_hU, gL_hU, gR_hU, gIh, gJh, pI_hU, pJ_hU, hU_hU, uI_app, uJ_app, and_true, true_and, and_false, false_and, and_self, true_implies, false_implies, not_true, not_false_iff, if_true, if_false, eq_self, Nat.reduceLeDiff, Nat.reduceEqDiff, reduceCtorEq, i32c, ti0, ti1, tiM, Int.natCast_nonneg, Int.reduceEq, Int.reduceLE, Int.reduceLT, Int.reduceNeg, tl_i, Int32.reduceToInt, Int64.reduceToInt, tiA, tlM6, Int.toNat_natCast, natc, nI_1, Int.zero_sub, implies_true, not_false_eq_true, k0, i4, i5, RN, hpI, zp, ↓hasBit_br (show p < 32 by omega), bI0, mul, hm, ix, ixI, z32, q11, kp, lp, vr, key]
      refine ⟨fun z => ?_, fun z => ?_⟩
      · rw [if_neg (by rw [z]; decide)] at nx; exact nx
      · rw [if_pos (bnf z), Int.add_zero] at nx; exact nx
  exact main R 0 (by omega)
theorem anyR_cg {O P P' : Nat → Bool} {c : Nat} : ∀ r, (∀ i, i < r → P i = P' i) → anyR O P C c r = anyR O P' C c r := by
  intro r
  induction r with
  | zero => intro _; rfl
  | succ r ih => intro h; rw [anyR, anyR, ih (fun i hi => h i (by omega)), h r (by omega)]
theorem rowS_cg {Q Q' : Nat → Bool} {r : Nat} : ∀ c, (∀ i, i < c → Q i = Q' i) → rowS v O Q C r c = rowS v O Q' C r c := by
  intro c
  induction c with
  | zero => intro _; rfl
  | succ c ih => intro h; rw [rowS, rowS, ih (fun i hi => h i (by omega)), h c (by omega)]
theorem cutR_cg {P P' Q Q' : Nat → Bool} (hQ : ∀ i, i < C → Q i = Q' i) : ∀ r, (∀ i, i < r → P i = P' i) → cutR v O P Q C r = cutR v O P' Q' C r := by
  intro r
  induction r with
  | zero => intro _; rfl
  | succ r ih => intro h; rw [cutR, cutR, ih (fun i hi => h i (by omega)), h r (by omega), rowS_cg C hQ]
theorem rmA_b (hv : ∀ k, k < R * C → 0 ≤ v k ∧ v k ≤ 60000000) (R4 : R ≤ 4) (C3 : C ≤ 3) {r0 c0 : Nat} : ∀ a, 0 ≤ rmA v O R C r0 c0 a ∧ rmA v O R C r0 c0 a ≤ 2147483647 := by
  intro a
  induction a with
  | zero => exact ⟨by show (0 : Int) ≤ 2147483647; omega, Int.le_refl _⟩
  | succ a ih =>
    have b := cut_b (O := O) (P := tB a) (Q := qA O R C c0 a) hv C3 R (Nat.le_refl _)
    rw [rmA]
    split
    · exact ih
    · split <;> omega
theorem rmB_b (hv : ∀ k, k < R * C → 0 ≤ v k ∧ v k ≤ 60000000) (C3 : C ≤ 3) {r0 c0 : Nat} (h0 : r0 * C + c0 < R * C) : ∀ a, 0 ≤ rmB v O R C r0 c0 a ∧ rmB v O R C r0 c0 a ≤ v (r0 * C + c0) := by
  intro a
  have b0 := hv _ h0
  induction a with
  | zero => exact ⟨b0.1, Int.le_refl _⟩
  | succ a ih =>
    have b := cut_b (O := O) (P := tB a) (Q := qB O R C a) hv C3 R (Nat.le_refl _)
    rw [rmB]
    split
    · split <;> omega
    · exact ih
/-- the set without one cell -/
def oth (S : Int32) (k : Nat) : Nat → Bool := fun i => gB S i && !decide (i = k)
theorem oth_bit {S : Int32} {k : Nat} (hk : k < 32) {i : Nat} (hi : i < 32) : gB (S &&& ((1 <<< (nI k &&& 31)) ^^^ (-1))) i = oth S k i := by
  unfold oth
  rw [gB_and, gB_not _ hi, gB_sh hk]
theorem anyR_o {O O' P : Nat → Bool} {c : Nat} (hO : ∀ k, k < R * C → O k = O' k) (hc : c < C) : ∀ r, r ≤ R → anyR O P C c r = anyR O' P C c r := by
  intro r
  induction r with
  | zero => intro _; rfl
  | succ r ih =>
    intro hr
    have : (r + 1) * C ≤ R * C := Nat.mul_le_mul_right _ hr
    rw [Nat.succ_mul] at this
    rw [anyR, anyR, ih (by omega), hO (r * C + c) (by omega)]
theorem rowS_o {O O' Q : Nat → Bool} {r : Nat} (hO : ∀ k, k < R * C → O k = O' k) (hr : r < R) : ∀ c, c ≤ C → rowS v O Q C r c = rowS v O' Q C r c := by
  intro c
  induction c with
  | zero => intro _; rfl
  | succ c ih =>
    intro hc
    have : (r + 1) * C ≤ R * C := Nat.mul_le_mul_right _ hr
    rw [Nat.succ_mul] at this
    rw [rowS, rowS, ih (by omega), hO (r * C + c) (by omega)]
theorem cutR_o {O O' P Q : Nat → Bool} (hO : ∀ k, k < R * C → O k = O' k) : ∀ r, r ≤ R → cutR v O P Q C r = cutR v O' P Q C r := by
  intro r
  induction r with
  | zero => intro _; rfl
  | succ r ih => intro hr; rw [cutR, cutR, ih (by omega), rowS_o hO (by omega) C (Nat.le_refl _)]
theorem above_br {K : Int32 → aH → Prop} {a pa r0 c0 : Nat} {w : Nat → Int32} {S : Int32} (ct : ctT h a pa R C w) (hr0 : r0 < R) (hc0 : c0 < C) : CI (d + 2) 279 [vR a, vI S, vI (nI (r0 * C + c0))] h K X ↔ K (iZ (rmA (fun k => (w k).toInt) (oth S (r0 * C + c0)) R C r0 c0 (2 ^ R))) h := by
  have ct0 := ct
  obtain ⟨⟨k0, e0⟩, ⟨⟨R1, R4⟩, C1, C3⟩, ⟨i4, i5⟩, -, -, hv⟩ := ct
  have RN : (nI R).toInt = R := ti_n (by omega)
  have CN : (nI C).toInt = C := ti_n (by omega)
  have m12 : R * C ≤ 4 * 3 := Nat.mul_le_mul R4 C3
  have klt : r0 * C + c0 < R * C := by
    have : (r0 + 1) * C ≤ R * C := Nat.mul_le_mul_right _ hr0
    rw [Nat.succ_mul] at this; omega
  have cz : (0 : Int) < C := by omega
  have cne : ¬ nI C = 0 := fun e => by rw [e] at CN; have : (0 : Int32).toInt = 0 := rfl; omega
  have dq : (r0 * C + c0) / C = r0 := by rw [Nat.add_comm, Nat.add_mul_div_right _ _ (by omega), Nat.div_eq_of_lt hc0, Nat.zero_add]
  have mq : (r0 * C + c0) % C = c0 := by rw [Nat.add_comm, Nat.add_mul_mod_self_right, Nat.mod_eq_of_lt hc0]
  have dv : nI (r0 * C + c0) / nI C = nI r0 := by rw [nI_div (by omega) (by omega), dq]
  have md : aIrem (nI (r0 * C + c0)) (nI C) = nI c0 := by rw [nI_rem (by omega) (by omega), mq]
  have pw : 2 ^ R ≤ 16 := by
    have : R = 1 ∨ R = 2 ∨ R = 3 ∨ R = 4 := by omega
    rcases this with e | e | e | e <;> subst e <;> decide
  have pI : ((1 : Int32) <<< (nI R &&& 31)).toInt = ((2 ^ R : Nat) : Int) := sh1 R (by omega)
  have hO : ∀ k, k < R * C → gB (S &&& ((1 <<< (nI (r0 * C + c0) &&& 31)) ^^^ (-1))) k = oth S (r0 * C + c0) k := fun k hk => oth_bit (by omega) (by omega)
  refine CI_iff fun K X w9 => m279 ?_
  simp only [↓forall_eq, ↓inB_iff, gK_hU, gL_hU, gR_hU, gIh, gJh, pI_hU, pJ_hU, hU_hU, uI_app, uJ_app, and_true, true_and, and_false, false_and, and_self, true_implies, false_implies, not_true, not_false_iff, if_true, if_false, eq_self, Nat.reduceLeDiff, Nat.reduceEqDiff, reduceCtorEq, i32c, ti0, ti1, tiM, Int.natCast_nonneg, Int.reduceEq, Int.reduceLE, Int.reduceLT, Int.reduceNeg, tl_i, Int32.reduceToInt, Int64.reduceToInt, tiA, tlM6, Int.toNat_natCast, natc, nI_1, Int.zero_sub, implies_true, not_false_eq_true, k0, i5, CN, cz]
  generalize hX : S &&& ((1 <<< (nI (r0 * C + c0) &&& 31)) ^^^ (-1)) = OX at *
  have main : ∀ (n p : Nat), p + n = 2 ^ R → Wp (d + 2) 279 (24, [some (vR a), none, some (vI (nI (r0 * C + c0))), some (vI OX), some (vI (iZ (rmA (fun k => (w k).toInt) (oth S (r0 * C + c0)) R C r0 c0 p))), some (vI (nI p)), none], [], h) (RI K X) := by
    intro n
    induction n with
    | zero =>
      intro p hp
      have hpc : p = 2 ^ R := by omega
      have hpI : (nI p).toInt = ((2 ^ R : Nat) : Int) := by rw [ti_n (by omega), hpc]
      refine w279_24 ?_
      simp only [↓forall_eq, ↓inB_iff, gK_hU, gL_hU, gR_hU, gIh, gJh, pI_hU, pJ_hU, hU_hU, uI_app, uJ_app, and_true, true_and, and_false, false_and, and_self, true_implies, false_implies, not_true, not_false_iff, if_true, if_false, eq_self, Nat.reduceLeDiff, Nat.reduceEqDiff, reduceCtorEq, i32c, ti0, ti1, tiM, Int.natCast_nonneg, Int.reduceEq, Int.reduceLE, Int.reduceLT, Int.reduceNeg, tl_i, Int32.reduceToInt, Int64.reduceToInt, tiA, tlM6, Int.toNat_natCast, natc, nI_1, Int.zero_sub, implies_true, not_false_eq_true, k0, i4, pI, hpI, Int.lt_irrefl]
      rw [← hpc] at w9; exact w9
    | succ n ih =>
      intro p hp
      have nx := ih (p + 1) (by omega)
      rw [rmA] at nx
      have hpI : (nI p).toInt = p := ti_n (by omega)
      have zp : (p : Int) < ((2 ^ R : Nat) : Int) := by omega
      have gp : ∀ i, gB (nI p) i = p.testBit i := fun i => gB_n (by omega)
      have CO := fun (K : Int32 → aH → Prop) X => cols_br (d := d) (S := OX) (P := nI p) (K := K) (X := X) ct0
      have tou : ∀ i, C ≤ i → gB (bits (fun c => anyR (gB OX) (gB (nI p)) C c R) C ||| (1 <<< (nI c0 &&& 31))) i = false := fun i hi => by
        rw [gB_or, gB_bits C (by omega), gB_sh (by omega), decide_eq_false (by omega), decide_eq_false (by omega)]; rfl
      have CT := fun (K : Int32 → aH → Prop) X => cut_br (d := d) (S := OX) (P := nI p) (K := K) (X := X) ct0 tou
      have eqc : cutR (fun k => (w k).toInt) (gB OX) (gB (nI p)) (gB (bits (fun c => anyR (gB OX) (gB (nI p)) C c R) C ||| (1 <<< (nI c0 &&& 31)))) C R = cutR (fun k => (w k).toInt) (oth S (r0 * C + c0)) (tB p) (qA (oth S (r0 * C + c0)) R C c0 p) C R := by
        rw [cutR_o (O' := oth S (r0 * C + c0)) hO R (Nat.le_refl _)]
        refine cutR_cg (fun c hc => ?_) R (fun i _ => gp i)
        rw [gB_or, gB_bits C (by omega), gB_sh (by omega), decide_eq_true hc, Bool.true_and, anyR_o (O' := oth S (r0 * C + c0)) hO hc R (Nat.le_refl _), anyR_cg R (fun i _ => gp i)]
      rw [eqc] at CT
      have cb := cut_b (O := oth S (r0 * C + c0)) (P := tB p) (Q := qA (oth S (r0 * C + c0)) R C c0 p) (v := fun k => (w k).toInt) hv C3 R (Nat.le_refl _)
      have rb := rmA_b (O := oth S (r0 * C + c0)) (v := fun k => (w k).toInt) (r0 := r0) (c0 := c0) hv R4 C3 p
      have z1 := ti_z (z := cutR (fun k => (w k).toInt) (oth S (r0 * C + c0)) (tB p) (qA (oth S (r0 * C + c0)) R C c0 p) C R) (by omega) (by omega)
      have z2 := ti_z (z := rmA (fun k => (w k).toInt) (oth S (r0 * C + c0)) R C r0 c0 p) (by omega) (by omega)
      refine w279_24 ?_
      simp only [↓forall_eq, ↓inB_iff, gK_hU, gL_hU, gR_hU, gIh, gJh, pI_hU, pJ_hU, hU_hU, uI_app, uJ_app, and_true, true_and, and_false, false_and, and_self, true_implies, false_implies, not_true, not_false_iff, if_true, if_false, eq_self, Nat.reduceLeDiff, Nat.reduceEqDiff, reduceCtorEq, i32c, ti0, ti1, tiM, Int.natCast_nonneg, Int.reduceEq, Int.reduceLE, Int.reduceLT, Int.reduceNeg, tl_i, Int32.reduceToInt, Int64.reduceToInt, tiA, tlM6, Int.toNat_natCast, natc, nI_1, Int.zero_sub, implies_true, not_false_eq_true, k0, e0, i4, i5, pI, hpI, zp, cne, dv, md, ↓hasBit_br (show r0 < 32 by omega), gp, bI0, ↓CO, ↓CT, ↓min_br, z1, z2]
      refine ⟨fun z => ?_, fun z => ?_⟩
      · rw [if_neg (by rw [z]; decide)] at nx
        by_cases l : cutR (fun k => (w k).toInt) (oth S (r0 * C + c0)) (tB p) (qA (oth S (r0 * C + c0)) R C c0 p) C R < rmA (fun k => (w k).toInt) (oth S (r0 * C + c0)) R C r0 c0 p
        · rw [if_pos l] at nx ⊢; exact nx
        · rw [if_neg l] at nx ⊢; exact nx
      · rw [if_pos (bnf z)] at nx; exact nx
  exact main (2 ^ R) 0 (by omega)
theorem below_br {K : Int32 → aH → Prop} {a pa sm r0 c0 : Nat} {w : Nat → Int32} {S : Int32} (ct : ctT h a pa R C w) (hs : gR h a 7 = sm ∧ gK h sm = 100 ∧ gL h sm = R * C ∧ ∀ k, k < R * C → gI h sm k = w k) (hr0 : r0 < R) (hc0 : c0 < C) : CI (d + 2) 280 [vR a, vI S, vI (nI (r0 * C + c0))] h K X ↔ K (iZ (rmB (fun k => (w k).toInt) (oth S (r0 * C + c0)) R C r0 c0 (2 ^ R))) h := by
  have ct0 := ct
  obtain ⟨⟨k0, e0⟩, ⟨⟨R1, R4⟩, C1, C3⟩, ⟨i4, i5⟩, -, -, hv⟩ := ct
  obtain ⟨q7, ks, ls, vs⟩ := hs
  have RN : (nI R).toInt = R := ti_n (by omega)
  have CN : (nI C).toInt = C := ti_n (by omega)
  have m12 : R * C ≤ 4 * 3 := Nat.mul_le_mul R4 C3
  have klt : r0 * C + c0 < R * C := by
    have : (r0 + 1) * C ≤ R * C := Nat.mul_le_mul_right _ hr0
    rw [Nat.succ_mul] at this; omega
  have cz : (0 : Int) < C := by omega
  have cne : ¬ nI C = 0 := fun e => by rw [e] at CN; have : (0 : Int32).toInt = 0 := rfl; omega
  have dq : (r0 * C + c0) / C = r0 := by rw [Nat.add_comm, Nat.add_mul_div_right _ _ (by omega), Nat.div_eq_of_lt hc0, Nat.zero_add]
  have mq : (r0 * C + c0) % C = c0 := by rw [Nat.add_comm, Nat.add_mul_mod_self_right, Nat.mod_eq_of_lt hc0]
  have dv : nI (r0 * C + c0) / nI C = nI r0 := by rw [nI_div (by omega) (by omega), dq]
  have md : aIrem (nI (r0 * C + c0)) (nI C) = nI c0 := by rw [nI_rem (by omega) (by omega), mq]
  have pw : 2 ^ R ≤ 16 := by
    have : R = 1 ∨ R = 2 ∨ R = 3 ∨ R = 4 := by omega
    rcases this with e | e | e | e <;> subst e <;> decide
  have pI : ((1 : Int32) <<< (nI R &&& 31)).toInt = ((2 ^ R : Nat) : Int) := sh1 R (by omega)
  have hO : ∀ k, k < R * C → gB (S &&& ((1 <<< (nI (r0 * C + c0) &&& 31)) ^^^ (-1))) k = oth S (r0 * C + c0) k := fun k hk => oth_bit (by omega) (by omega)
  have kI : (nI (r0 * C + c0)).toInt = ((r0 * C + c0 : Nat) : Int) := ti_n (by omega)
  have zk : ((r0 * C + c0 : Nat) : Int) < ((R * C : Nat) : Int) := by omega
  refine CI_iff fun K X w9 => m280 ?_
  simp only [↓forall_eq, ↓inB_iff, gK_hU, gL_hU, gR_hU, gIh, gJh, pI_hU, pJ_hU, hU_hU, uI_app, uJ_app, and_true, true_and, and_false, false_and, and_self, true_implies, false_implies, not_true, not_false_iff, if_true, if_false, eq_self, Nat.reduceLeDiff, Nat.reduceEqDiff, reduceCtorEq, i32c, ti0, ti1, tiM, Int.natCast_nonneg, Int.reduceEq, Int.reduceLE, Int.reduceLT, Int.reduceNeg, tl_i, Int32.reduceToInt, Int64.reduceToInt, tiA, tlM6, Int.toNat_natCast, natc, nI_1, Int.zero_sub, implies_true, not_false_eq_true, k0, i5, CN, cz, q7, ks, ls, kI, zk, vs _ klt]
  generalize hX : S &&& ((1 <<< (nI (r0 * C + c0) &&& 31)) ^^^ (-1)) = OX at *
  have main : ∀ (n p : Nat), p + n = 2 ^ R → Wp (d + 2) 280 (28, [some (vR a), none, some (vI (nI (r0 * C + c0))), some (vI OX), some (vI (iZ (rmB (fun k => (w k).toInt) (oth S (r0 * C + c0)) R C r0 c0 p))), some (vI (nI p)), none], [], h) (RI K X) := by
    intro n
    induction n with
    | zero =>
      intro p hp
      have hpc : p = 2 ^ R := by omega
      have hpI : (nI p).toInt = ((2 ^ R : Nat) : Int) := by rw [ti_n (by omega), hpc]
      refine w280_28 ?_
      simp only [↓forall_eq, ↓inB_iff, gK_hU, gL_hU, gR_hU, gIh, gJh, pI_hU, pJ_hU, hU_hU, uI_app, uJ_app, and_true, true_and, and_false, false_and, and_self, true_implies, false_implies, not_true, not_false_iff, if_true, if_false, eq_self, Nat.reduceLeDiff, Nat.reduceEqDiff, reduceCtorEq, i32c, ti0, ti1, tiM, Int.natCast_nonneg, Int.reduceEq, Int.reduceLE, Int.reduceLT, Int.reduceNeg, tl_i, Int32.reduceToInt, Int64.reduceToInt, tiA, tlM6, Int.toNat_natCast, natc, nI_1, Int.zero_sub, implies_true, not_false_eq_true, k0, i4, pI, hpI, Int.lt_irrefl]
      rw [← hpc] at w9; exact w9
    | succ n ih =>
      intro p hp
      have nx := ih (p + 1) (by omega)
      rw [rmB] at nx
      have hpI : (nI p).toInt = p := ti_n (by omega)
      have zp : (p : Int) < ((2 ^ R : Nat) : Int) := by omega
      have gp : ∀ i, gB (nI p) i = p.testBit i := fun i => gB_n (by omega)
      have CO := fun (K : Int32 → aH → Prop) X => cols_br (d := d) (S := OX) (P := nI p) (K := K) (X := X) ct0
      have tou : ∀ i, C ≤ i → gB (bits (fun c => anyR (gB OX) (gB (nI p)) C c R) C) i = false := fun i hi => by
        rw [gB_bits C (by omega), decide_eq_false (by omega)]; rfl
      have CT := fun (K : Int32 → aH → Prop) X => cut_br (d := d) (S := OX) (P := nI p) (K := K) (X := X) ct0 tou
      have eqa : ∀ c, c < C → gB (bits (fun c => anyR (gB OX) (gB (nI p)) C c R) C) c = anyR (oth S (r0 * C + c0)) (tB p) C c R := fun c hc => by
        rw [gB_bits C (by omega), decide_eq_true hc, Bool.true_and, anyR_o (O' := oth S (r0 * C + c0)) hO hc R (Nat.le_refl _), anyR_cg R (fun i _ => gp i)]
      have eqc : cutR (fun k => (w k).toInt) (gB OX) (gB (nI p)) (gB (bits (fun c => anyR (gB OX) (gB (nI p)) C c R) C)) C R = cutR (fun k => (w k).toInt) (oth S (r0 * C + c0)) (tB p) (qB (oth S (r0 * C + c0)) R C p) C R := by
        rw [cutR_o (O' := oth S (r0 * C + c0)) hO R (Nat.le_refl _)]
        exact cutR_cg (fun c hc => eqa c hc) R (fun i _ => gp i)
      rw [eqc] at CT
      have e0c := eqa c0 hc0
      have cb := cut_b (O := oth S (r0 * C + c0)) (P := tB p) (Q := qB (oth S (r0 * C + c0)) R C p) (v := fun k => (w k).toInt) hv C3 R (Nat.le_refl _)
      have rb := rmB_b (O := oth S (r0 * C + c0)) (v := fun k => (w k).toInt) hv C3 klt p
      have vb := hv _ klt
      have z1 := ti_z (z := cutR (fun k => (w k).toInt) (oth S (r0 * C + c0)) (tB p) (qB (oth S (r0 * C + c0)) R C p) C R) (by omega) (by omega)
      have z2 := ti_z (z := rmB (fun k => (w k).toInt) (oth S (r0 * C + c0)) R C r0 c0 p) (by omega) (by omega)
      refine w280_28 ?_
      simp only [↓forall_eq, ↓inB_iff, gK_hU, gL_hU, gR_hU, gIh, gJh, pI_hU, pJ_hU, hU_hU, uI_app, uJ_app, and_true, true_and, and_false, false_and, and_self, true_implies, false_implies, not_true, not_false_iff, if_true, if_false, eq_self, Nat.reduceLeDiff, Nat.reduceEqDiff, reduceCtorEq, i32c, ti0, ti1, tiM, Int.natCast_nonneg, Int.reduceEq, Int.reduceLE, Int.reduceLT, Int.reduceNeg, tl_i, Int32.reduceToInt, Int64.reduceToInt, tiA, tlM6, Int.toNat_natCast, natc, nI_1, Int.zero_sub, implies_true, not_false_eq_true, k0, e0, i4, i5, pI, hpI, zp, cne, dv, md, ↓CO, ↓hasBit_br (show r0 < 32 by omega), gp, bI0, ↓hasBit_br (show c0 < 32 by omega), e0c, ↓CT, ↓min_br, z1, z2]
      refine ⟨fun z => ?_, fun z => ⟨fun z3 => ?_, fun z3 => ?_⟩⟩
      · rw [if_neg (by rw [z]; simp)] at nx; exact nx
      · rw [if_pos (by rw [bnf z, z3]; rfl)] at nx
        by_cases l : cutR (fun k => (w k).toInt) (oth S (r0 * C + c0)) (tB p) (qB (oth S (r0 * C + c0)) R C p) C R < rmB (fun k => (w k).toInt) (oth S (r0 * C + c0)) R C r0 c0 p
        · rw [if_pos l] at nx ⊢; exact nx
        · rw [if_neg l] at nx ⊢; exact nx
      · rw [if_neg (by rw [bnf z3]; simp)] at nx; exact nx
  have := main (2 ^ R) 0 (by omega)
  rw [rmB, iZ_toInt] at this
  exact this
end CUT
