/-! EXPRESSIONS AND CONDITIONS: what they are worth; the class's side -/
section SYN
/-- a term: is it taken away, its sort (0 number, 1 item, 2 reg), its number -/
abbrev Tm : Type := Bool × Nat × Int32
/-- a comparison: left, relation as bits, right, is 'and' behind it -/
abbrev Cmp : Type := List Tm × Int32 × List Tm × Bool
def tV (it rg : Nat → Int32) (t : Tm) : Int32 := if t.2.1 = 0 then t.2.2 else if t.2.1 = 1 then it t.2.2.toInt.toNat else rg t.2.2.toInt.toNat
def tS (it rg : Nat → Int32) (t : Tm) : Int := if t.1 = true then -(tV it rg t).toInt else (tV it rg t).toInt
def tA (it rg : Nat → Int32) (t : Tm) : Bool := decide ((tV it rg t).toInt = -2000000)
def eS (it rg : Nat → Int32) : List Tm → Int
  | [] => 0
  | t :: ts => tS it rg t + eS it rg ts
def eA (it rg : Nat → Int32) : List Tm → Bool
  | [] => false
  | t :: ts => tA it rg t || eA it rg ts
def eV (it rg : Nat → Int32) (ts : List Tm) : Int32 := if eA it rg ts = true ∨ ¬ (-1000000 ≤ eS it rg ts ∧ eS it rg ts ≤ 1000000) then -2000000 else iZ (eS it rg ts)
def tOK (t : Tm) : Prop := t.2.1 ≤ 2 ∧ (t.2.1 = 0 → -999999 ≤ t.2.2.toInt ∧ t.2.2.toInt ≤ 999999) ∧ (t.2.1 = 1 → 0 ≤ t.2.2.toInt ∧ t.2.2.toInt < 20) ∧ (t.2.1 = 2 → 0 ≤ t.2.2.toInt ∧ t.2.2.toInt < 6)
def bndI (n : Nat) (f : Nat → Int32) : Prop := ∀ i, i < n → (f i).toInt = -2000000 ∨ (-1000000 ≤ (f i).toInt ∧ (f i).toInt ≤ 1000000)
/-- the class's step and amount -/
def cSt (t : Tm) : Int32 := if t.2.1 = 0 then 0 else nI (t.2.1 + if t.1 = true then 2 else 0)
def cAm (t : Tm) : Int32 := if t.2.1 = 0 then (if t.1 = true then -t.2.2 else t.2.2) else t.2.2
def encC (S Am : Nat → Int32) : Nat → List Tm → Prop
  | _, [] => True
  | i, t :: ts => (S i = cSt t ∧ Am i = cAm t ∧ tOK t) ∧ encC S Am (i + 1) ts
/-- what the class adds up for a term -/
def tI (it rg : Nat → Int32) (t : Tm) : Int := if tA it rg t = true then 1099511627776 else tS it rg t
def sI (it rg : Nat → Int32) : List Tm → Int
  | [] => 0
  | t :: ts => tI it rg t + sI it rg ts
variable {it rg : Nat → Int32}
theorem tV_b {t : Tm} (h1 : tOK t) (b1 : bndI 20 it) (b2 : bndI 6 rg) : (tV it rg t).toInt = -2000000 ∨ (-1000000 ≤ (tV it rg t).toInt ∧ (tV it rg t).toInt ≤ 1000000) := by
  obtain ⟨n, s, v⟩ := t
  obtain ⟨a1, a2, a3, a4⟩ := h1
  simp only at a1 a2 a3 a4
  unfold tV
  simp only
  split
  · rename_i e; have := a2 e; omega
  · split
    · rename_i e; have := a3 e; exact b1 _ (by omega)
    · have := a4 (by omega); exact b2 _ (by omega)
theorem tS_b {t : Tm} (h1 : tOK t) (b1 : bndI 20 it) (b2 : bndI 6 rg) (hA : ¬ tA it rg t = true) : -1000000 ≤ tS it rg t ∧ tS it rg t ≤ 1000000 := by
  have := tV_b h1 b1 b2
  unfold tA at hA
  simp only [decide_eq_true_eq] at hA
  unfold tS
  split <;> omega
/-- the class's sum says all -/
theorem sI_b {S Am : Nat → Int32} (b1 : bndI 20 it) (b2 : bndI 6 rg) : ∀ (ts : List Tm) (i : Nat), encC S Am i ts → (eA it rg ts = true → 1099511627776 - 1000000 * (ts.length : Int) ≤ sI it rg ts) ∧ (¬ eA it rg ts = true → sI it rg ts = eS it rg ts) ∧ -(1000000 * (ts.length : Int)) ≤ sI it rg ts ∧ sI it rg ts ≤ 1099511627776 * (ts.length : Int) := by
  intro ts
  induction ts with
  | nil => intro i _; exact ⟨fun q => absurd q (by simp [eA]), fun _ => rfl, by simp [sI], by simp [sI]⟩
  | cons t ts ih =>
    intro i he
    obtain ⟨⟨-, -, h3⟩, h4⟩ := he
    obtain ⟨i1, i2, i3, i4⟩ := ih _ h4
    simp only [List.length_cons, eA, sI, eS, Bool.or_eq_true, tI]
    by_cases q : tA it rg t = true
    · rw [if_pos q]
      refine ⟨fun _ => by omega, fun w => absurd (Or.inl q) w, by omega, by omega⟩
    · have := tS_b h3 b1 b2 q
      rw [if_neg q]
      refine ⟨fun w => ?_, fun w => ?_, by omega, by omega⟩
      · have := i1 (w.resolve_left q); omega
      · rw [i2 (fun e => w (Or.inr e))]
theorem eV_of {S Am : Nat → Int32} (b1 : bndI 20 it) (b2 : bndI 6 rg) {ts : List Tm} {i : Nat} (he : encC S Am i ts) (hl : ts.length ≤ 1200) : eV it rg ts = if sI it rg ts < -1000000 ∨ 1000000 < sI it rg ts then -2000000 else iZ (sI it rg ts) := by
  obtain ⟨i1, i2, i3, i4⟩ := sI_b b1 b2 ts i he
  unfold eV
  by_cases q : eA it rg ts = true
  · have := i1 q
    rw [if_pos (Or.inl q), if_pos (by omega)]
  · rw [i2 q]
    by_cases w : -1000000 ≤ eS it rg ts ∧ eS it rg ts ≤ 1000000
    · rw [if_neg (by rintro (e | e); exact q e; exact e w), if_neg (by omega)]
    · rw [if_pos (Or.inr w), if_pos (by omega)]
/-- the cells that are looked at -/
def evC (h : aH) (F sA aA n ai ri : Nat) (it rg : Nat → Int32) : Prop := (8 ≤ F ∧ gK h F = 3 ∧ gR h F 0 = sA ∧ gR h F 1 = aA) ∧ (gK h sA = 100 ∧ gK h aA = 100 ∧ gL h sA = n ∧ gL h aA = n ∧ n ≤ 1200) ∧ (gK h ai = 100 ∧ gL h ai = 20 ∧ gK h ri = 100 ∧ gL h ri = 6) ∧ (∀ i, i < 20 → gI h ai i = it i) ∧ ∀ i, i < 6 → gI h ri i = rg i
variable {d F sA aA n ai ri : Nat} {h : aH} {X : Nat → aH → Prop}
theorem c_term {K : Int64 → aH → Prop} {k : Nat} {t : Tm} (v : evC h F sA aA n ai ri it rg) (b1 : bndI 20 it) (b2 : bndI 6 rg) (hk : k < n) (h1 : gI h sA k = cSt t) (h2 : gI h aA k = cAm t) (h3 : tOK t) (kk : ∀ y : Int64, y.toInt = tI it rg t → K y h) : CL d 131 [vR F, vI (nI k), vR ai, vR ri] h K X := by
  obtain ⟨⟨v1, v2, v3, v4⟩, ⟨v5, v6, v7, v8, v9⟩, ⟨v10, v11, v12, v13⟩, v14, v15⟩ := v
  have hkI : (nI k).toInt = k := ti_n (by omega)
  have hkn : (k : Int) < n := by omega
  have hb := tV_b h3 b1 b2
  obtain ⟨neg, s, x⟩ := t
  obtain ⟨o1, o2, o3, o4⟩ := h3
  simp only at o1 o2 o3 o4
  refine m131 ?_
  simp only [↓forall_eq, ↓inB_iff, gK_hU, gL_hU, gR_hU, gIh, gJh, pI_hU, pJ_hU, hU_hU, uI_app, uJ_app, and_true, true_and, and_false, false_and, and_self, true_implies, false_implies, not_true, not_false_iff, if_true, if_false, eq_self, Nat.reduceLeDiff, Nat.reduceEqDiff, reduceCtorEq, i32c, ti0, ti1, tiM, Int.natCast_nonneg, Int.reduceEq, Int.reduceLE, Int.reduceLT, Int.reduceNeg, tl_i, Int32.reduceToInt, Int64.reduceToInt, tiA, tlM6, Int.toNat_natCast, natc, nI_1, Int.zero_sub, implies_true, not_false_eq_true, v2, v3, v4, v5, v6, v7, v8, hkI, hkn, h1, h2]
  unfold cSt cAm
  simp only
  have t0 : (0 : Int32).toInt = 0 := rfl
  have fin : ∀ (ar m : Nat) (f : Nat → Int32), gK h ar = 100 → gL h ar = m → m ≤ 20 → (∀ i, i < m → gI h ar i = f i) → s ≠ 0 → (0 ≤ x.toInt ∧ x.toInt < m) → tV it rg (neg, s, x) = f x.toInt.toNat → (gI h sA k).toInt = ((s + if neg = true then 2 else 0 : Nat) : Int) → (s = 1 ∨ s = 2) → Wp d 131 (46, [some (vR F), some (vI (nI k)), none, none, some (vI x), none], [vR ar], h) (RL K X) := fun ar m f f1 f2 f3 f4 f5 f6 f7 f8 f9 => by
    refine w131_46 ?_
    have z : ¬ x.toInt < 0 := by omega
    have mI : (nI m).toInt = m := ti_n (by omega)
    simp only [↓forall_eq, ↓inB_iff, gK_hU, gL_hU, gR_hU, gIh, gJh, pI_hU, pJ_hU, hU_hU, uI_app, uJ_app, and_true, true_and, and_false, false_and, and_self, true_implies, false_implies, not_true, not_false_iff, if_true, if_false, eq_self, Nat.reduceLeDiff, Nat.reduceEqDiff, reduceCtorEq, i32c, ti0, ti1, tiM, Int.natCast_nonneg, Int.reduceEq, Int.reduceLE, Int.reduceLT, Int.reduceNeg, tl_i, Int32.reduceToInt, Int64.reduceToInt, tiA, tlM6, Int.toNat_natCast, natc, nI_1, Int.zero_sub, implies_true, not_false_eq_true, v2, v3, v5, v7, hkI, hkn, f1, f2, z, f6, mI, f4 _ (show x.toInt.toNat < m by omega), f8]
    unfold tI tA tS at kk
    simp only [f7, decide_eq_true_eq] at kk hb
    refine ⟨fun c => ?_, fun c => ⟨fun c2 => ?_, fun c2 => ⟨fun c3 => ?_, fun c3 => ?_⟩⟩⟩
    · rw [if_pos c] at kk; exact kk _ rfl
    · rw [if_neg c] at kk
      refine kk _ ?_
      cases neg
      · simp only [Bool.false_eq_true, if_false] at c2; omega
      · rw [if_pos rfl, tl_i, ti_neg (by omega)]
    · rw [if_neg c] at kk
      refine kk _ ?_
      cases neg
      · simp only [Bool.false_eq_true, if_false] at c3; omega
      · rw [if_pos rfl, tl_i, ti_neg (by omega)]
    · rw [if_neg c] at kk
      refine kk _ ?_
      cases neg
      · rw [if_neg (by decide), tl_i]
      · simp only [if_true] at c2 c3; omega
  by_cases s0 : s = 0
  · subst s0
    rw [if_pos rfl, if_pos rfl]
    refine ⟨fun _ => kk _ ?_, fun c => absurd rfl c⟩
    have := o2 rfl
    unfold tI tA tS tV
    cases neg
    · simp only [if_true, decide_eq_true_eq, Bool.false_eq_true, if_false, tl_i]; rw [if_neg (by omega)]
    · simp only [if_true, decide_eq_true_eq, tl_i]; rw [if_neg (by omega), ti_neg (by omega)]
  · rw [if_neg s0, if_neg s0]
    have hcs : gI h sA k = nI (s + if neg = true then 2 else 0) := by rw [h1]; unfold cSt; simp only [s0, if_false]
    have hsI : (nI (s + if neg = true then 2 else 0)).toInt = ((s + if neg = true then 2 else 0 : Nat) : Int) := ti_n (by split <;> omega)
    have hsI2 : (gI h sA k).toInt = ((s + if neg = true then 2 else 0 : Nat) : Int) := by rw [hcs, hsI]
    rw [hsI]
    have hn2 : (if neg = true then 2 else 0 : Nat) = 2 ∨ (if neg = true then 2 else 0 : Nat) = 0 := by cases neg <;> simp
    by_cases s1 : s = 1
    · have hv : tV it rg (neg, s, x) = it x.toInt.toNat := by unfold tV; simp only; rw [if_neg s0, if_pos s1]
      have hx := o3 s1
      refine ⟨fun c => by omega, fun _ => ⟨fun _ => fin ai 20 it v10 v11 (by omega) v14 s0 hx hv hsI2 (Or.inl s1), fun c => ⟨fun _ => fin ai 20 it v10 v11 (by omega) v14 s0 hx hv hsI2 (Or.inl s1), fun c2 => by omega⟩⟩⟩
    · have hv : tV it rg (neg, s, x) = rg x.toInt.toNat := by unfold tV; simp only; rw [if_neg s0, if_neg s1]
      have hx := o4 (by omega)
      refine ⟨fun c => by omega, fun _ => ⟨fun _ => by omega, fun c => ⟨fun _ => by omega, fun c2 => fin ri 6 rg v12 v13 (by omega) v15 s0 hx hv hsI2 (Or.inr (by omega))⟩⟩⟩
theorem closed_br {K : Int32 → aH → Prop} {y : Int64} : CI d 129 [vR F, vL y] h K X ↔ K (if y.toInt < -1000000 ∨ 1000000 < y.toInt then -2000000 else iZ y.toInt) h := by
  refine CI_iff fun K X w => m129 ?_
  by_cases q1 : y.toInt < -1000000
  · rw [if_pos (Or.inl q1)] at w; exact ⟨fun _ => w, fun c => absurd q1 c⟩
  · by_cases q2 : 1000000 < y.toInt
    · rw [if_pos (Or.inr q2)] at w; exact ⟨fun _ => w, fun _ => ⟨fun _ => w, fun c => absurd q2 c⟩⟩
    · rw [if_neg (by omega)] at w
      have e : y.toInt32 = iZ y.toInt := by
        apply ti_inj
        rw [Int64.toInt_toInt32, ti_z (by omega) (by omega)]
        exact Jvm.Kit.bmod32 (by omega) (by omega)
      exact ⟨fun c => absurd c q1, fun _ => ⟨fun c => absurd c q2, fun _ => by rw [e]; exact w⟩⟩
/-- a sum is added up behind another -/
theorem c_worthw {K : Int32 → aH → Prop} {s : Nat} {spA : Nat} {m : Nat} (v : evC h F sA aA n ai ri it rg) (b1 : bndI 20 it) (b2 : bndI 6 rg) (s1 : gR h F 8 = spA ∧ gK h spA = 100 ∧ gL h spA = 20 ∧ s < 20 ∧ gI h spA s = nI m) (hm : m ≤ n) :
    ∀ (ts : List Tm) (k : Nat) (y : Int64), k + ts.length = m → encC (gI h sA) (gI h aA) k ts → -1500000000 ≤ y.toInt → y.toInt ≤ 1099511627776 * 1200 - 1099511627776 * (ts.length : Int) → -(1000000 * (1200 - (ts.length : Int))) ≤ y.toInt → (∀ z : Int, z = y.toInt + sI it rg ts → K (if z < -1000000 ∨ 1000000 < z then -2000000 else iZ z) h) → Wp (d + 1) 134 (24, [some (vR F), some (vI (nI s)), some (vR ai), some (vR ri), some (vL y), none, some (vI (nI k))], [], h) (RI K X) := by
  have v' := v
  obtain ⟨⟨v1, v2, v3, v4⟩, ⟨v5, v6, v7, v8, v9⟩, ⟨v10, v11, v12, v13⟩, v14, v15⟩ := v'
  obtain ⟨s1, s2, s3, s4, s5⟩ := s1
  have hsI : (nI s).toInt = s := ti_n (by omega)
  have hs20 : (s : Int) < 20 := by omega
  have hmI : (nI m).toInt = m := ti_n (by omega)
  intro ts
  induction ts with
  | nil =>
    intro k y hk he y1 y2 y3 kk
    have hkm : k = m := by simpa using hk
    subst hkm
    refine w134_24 ?_
    simp only [↓forall_eq, ↓inB_iff, gK_hU, gL_hU, gR_hU, gIh, gJh, pI_hU, pJ_hU, hU_hU, uI_app, uJ_app, and_true, true_and, and_false, false_and, and_self, true_implies, false_implies, not_true, not_false_iff, if_true, if_false, eq_self, Nat.reduceLeDiff, Nat.reduceEqDiff, reduceCtorEq, i32c, ti0, ti1, tiM, Int.natCast_nonneg, Int.reduceEq, Int.reduceLE, Int.reduceLT, Int.reduceNeg, tl_i, Int32.reduceToInt, Int64.reduceToInt, tiA, tlM6, Int.toNat_natCast, natc, nI_1, Int.zero_sub, implies_true, not_false_eq_true, v1, v2, s1, s2, s3, hsI, hs20, s5, hmI, Int.lt_irrefl, ↓closed_br]
    exact kk _ (by simp [sI])
  | cons t ts ih =>
    intro k y hk he y1 y2 y3 kk
    obtain ⟨⟨e1, e2, e3⟩, e4⟩ := he
    simp only [List.length_cons] at hk y2 y3
    have hkI : (nI k).toInt = k := ti_n (by omega)
    have hkm : (k : Int) < m := by omega
    have hti : -1000000 ≤ tI it rg t ∧ tI it rg t ≤ 1099511627776 := by
      unfold tI
      split
      · omega
      · rename_i q; have := tS_b e3 b1 b2 q; omega
    refine w134_24 ?_
    simp only [↓forall_eq, ↓inB_iff, gK_hU, gL_hU, gR_hU, gIh, gJh, pI_hU, pJ_hU, hU_hU, uI_app, uJ_app, and_true, true_and, and_false, false_and, and_self, true_implies, false_implies, not_true, not_false_iff, if_true, if_false, eq_self, Nat.reduceLeDiff, Nat.reduceEqDiff, reduceCtorEq, i32c, ti0, ti1, tiM, Int.natCast_nonneg, Int.reduceEq, Int.reduceLE, Int.reduceLT, Int.reduceNeg, tl_i, Int32.reduceToInt, Int64.reduceToInt, tiA, tlM6, Int.toNat_natCast, natc, nI_1, Int.zero_sub, implies_true, not_false_eq_true, v1, v2, s1, s2, s3, hsI, hs20, s5, hmI, hkI, hkm]
    refine c_term v b1 b2 (by omega) e1 e2 e3 fun z hz => ?_
    have hyz : (y + z).toInt = y.toInt + tI it rg t := by rw [tl_add (by omega) (by omega), hz]
    refine ih (k + 1) (y + z) (by omega) e4 (by omega) (by omega) (by omega) (fun w hw => kk w ?_)
    rw [hw, hyz]; simp only [sI]; omega
end SYN
