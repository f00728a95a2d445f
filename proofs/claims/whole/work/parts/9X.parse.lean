/-! READING A TEXT: what it says; the class's terms and sums -/
section PAR
section
variable (B : Nat → Int32) (L : Nat) (nam : Nat → Int64) (cnt : Nat)
def fdN (x : Int64) : Nat → Nat → Int32
  | 0, _ => -1
  | n + 1, s => if nam s = x then nI s else fdN x n (s + 1)
/-- the item of a name, or -1 -/
def nmF (x : Int64) : Int32 := fdN nam x cnt 0
/-- a term: its sort and its number, and where it ends; or where the fault is -/
def trF (p : Nat) : Option (Nat × Int32) × Nat :=
  if lxK B L p = 1 then (some (0, lxN B L p), lxE B L p)
  else if lxK B L p = 4 then (if lxK B L (lxE B L p) = 1 then (some (0, -lxN B L (lxE B L p)), lxE B L (lxE B L p)) else (none, lxE B L p))
  else if lxK B L p = 0 ∧ lxW B L p = 7497063 then (if lxK B L (lxE B L p) = 1 ∧ (lxN B L (lxE B L p)).toInt < 6 then (some (2, lxN B L (lxE B L p)), lxE B L (lxE B L p)) else (none, lxE B L p))
  else if lxK B L p = 0 ∧ nmF nam cnt (lxW B L p) ≠ -1 then (some (1, nmF nam cnt (lxW B L p)), lxE B L p)
  else (none, p)
def exF : Nat → Bool → Nat → Option (List Tm) × Nat
  | 0, _, p => (none, p)
  | n + 1, sg, p => match trF B L nam cnt p with
    | (none, q) => (none, q)
    | (some t, q) => if lxK B L q = 3 ∨ lxK B L q = 4 then (match exF n (decide (lxK B L q = 4)) (lxE B L q) with
        | (none, q2) => (none, q2)
        | (some ts, q2) => (some ((sg, t.1, t.2) :: ts), q2)) else (some [(sg, t.1, t.2)], q)
end
variable {d L p q w cnt e : Nat} {h : aH} {X : Nat → aH → Prop} {B : Nat → Int32} {I I' : Nat → Nat → Int32} {J J' : Nat → Nat → Int64} {nam : Nat → Int64} {F0 F1 F2 F7 : Nat}
theorem fdN_b {x : Int64} : ∀ n s, s + n ≤ 20 → fdN nam x n s = -1 ∨ ∃ k, s ≤ k ∧ k < s + n ∧ fdN nam x n s = nI k := by
  intro n
  induction n with
  | zero => intro s _; exact Or.inl rfl
  | succ n ih =>
    intro s hs
    rw [fdN]
    split
    · exact Or.inr ⟨s, by omega, by omega, rfl⟩
    · rcases ih (s + 1) (by omega) with e | ⟨k, k1, k2, k3⟩
      · exact Or.inl e
      · exact Or.inr ⟨k, by omega, by omega, k3⟩
theorem nmF_b {x : Int64} (hc : cnt ≤ 20) (hn : nmF nam cnt x ≠ -1) : 0 ≤ (nmF nam cnt x).toInt ∧ (nmF nam cnt x).toInt < 20 := by
  rcases fdN_b (nam := nam) (x := x) cnt 0 (by omega) with e | ⟨k, k1, k2, k3⟩
  · exact absurd e hn
  · unfold nmF; rw [k3, ti_n (by omega)]; omega
/-- the form that is read into -/
def pE (h : aH) (F0 F1 F2 F7 L : Nat) : Prop := CF h ∧ (gK h F0 = 3 ∧ gR h 19 1 = F0 ∧ gR h F0 0 = F1 ∧ gR h F0 1 = F2 ∧ gR h F0 6 = F7) ∧ (gK h F1 = 100 ∧ gL h F1 = L) ∧ (gK h F2 = 100 ∧ gL h F2 = L) ∧ (gK h F7 = 101 ∧ gL h F7 = 20) ∧ (F0 ≠ F1 ∧ F0 ≠ F2 ∧ F1 ≠ F2) ∧ (108 ≤ F0 ∧ 108 ≤ F1 ∧ 108 ≤ F2 ∧ 108 ≤ F7) ∧ L ≤ 1200
/-- what reading a sum changes -/
def fE (F0 F1 F2 w : Nat) (I I' : Nat → Nat → Int32) (J J' : Nat → Nat → Int64) : Prop := (∀ a, a ≠ 17 → a ≠ 19 → a ≠ F0 → a ≠ F1 → a ≠ F2 → I' a = I a) ∧ I' 17 1 = I 17 1 ∧ (∀ j, j ≠ 4 → I' 19 j = I 19 j) ∧ (∀ j, j ≠ 10 → I' F0 j = I F0 j) ∧ (∀ i, i < w → I' F1 i = I F1 i ∧ I' F2 i = I F2 i) ∧ ∀ a, a ≠ 17 → J' a = J a
theorem fE_T (hE : pE h F0 F1 F2 F7 L) (t : fT I I' J J') : fE F0 F1 F2 w I I' J J' := by
  obtain ⟨-, -, -, -, -, -, ⟨g0, g1, g2, g3⟩, -⟩ := hE
  exact ⟨fun a h1 _ _ _ _ => t.1 a h1, t.2.1, fun j _ => by rw [t.1 19 (by decide)], fun j _ => by rw [t.1 F0 (by omega)], fun i _ => ⟨by rw [t.1 F1 (by omega)], by rw [t.1 F2 (by omega)]⟩, t.2.2⟩
theorem fE_tr {I2 : Nat → Nat → Int32} {J2 : Nat → Nat → Int64} {w2 : Nat} (t : fE F0 F1 F2 w I I' J J') (u : fE F0 F1 F2 w2 I' I2 J' J2) (hw : w ≤ w2) : fE F0 F1 F2 w I I2 J J2 :=
  ⟨fun a h1 h2 h3 h4 h5 => (u.1 a h1 h2 h3 h4 h5).trans (t.1 a h1 h2 h3 h4 h5), u.2.1.trans t.2.1, fun j hj => (u.2.2.1 j hj).trans (t.2.2.1 j hj), fun j hj => (u.2.2.2.1 j hj).trans (t.2.2.2.1 j hj), fun i hi => ⟨(u.2.2.2.2.1 i (by omega)).1.trans (t.2.2.2.2.1 i hi).1, (u.2.2.2.2.1 i (by omega)).2.trans (t.2.2.2.2.1 i hi).2⟩, fun a ha => (u.2.2.2.2.2 a ha).trans (t.2.2.2.2.2 a ha)⟩
theorem tpC_fE (hE : pE h F0 F1 F2 F7 L) (t : tpC I B L) (u : fE F0 F1 F2 w I I' J J') : tpC I' B L := by
  obtain ⟨-, -, -, -, -, -, ⟨g0, g1, g2, g3⟩, -⟩ := hE
  exact ⟨by rw [u.2.1]; exact t.1, t.2.1, fun k hk => by rw [u.1 18 (by decide) (by decide) (by omega) (by omega) (by omega)]; exact t.2.2 k hk⟩
/-- the names so far -/
def nmC (I : Nat → Nat → Int32) (J : Nat → Nat → Int64) (F0 F7 cnt : Nat) (nam : Nat → Int64) : Prop := (I F0 11 = nI cnt ∧ cnt ≤ 20) ∧ ∀ s, s < cnt → J F7 s = nam s
theorem nmC_fE (hE : pE h F0 F1 F2 F7 L) (t : nmC I J F0 F7 cnt nam) (u : fE F0 F1 F2 w I I' J J') : nmC I' J' F0 F7 cnt nam := by
  obtain ⟨-, -, -, -, -, -, ⟨g0, g1, g2, g3⟩, -⟩ := hE
  exact ⟨⟨by rw [u.2.2.2.1 11 (by decide)]; exact t.1.1, t.1.2⟩, fun s hs => by rw [u.2.2.2.2.2 F7 (by omega)]; exact t.2 s hs⟩
theorem named_br {K : Int32 → aH → Prop} {x : Int64} (hE : pE h F0 F1 F2 F7 L) (t : nmC I J F0 F7 cnt nam) : CI d 78 [vR F0, vL x] (hU h I J) K X ↔ K (nmF nam cnt x) (hU h I J) := by
  obtain ⟨f, ⟨k0, -, -, -, r6⟩, -, -, ⟨k7, l7⟩, -⟩ := hE
  obtain ⟨⟨t1, t2⟩, t3⟩ := t
  refine CI_iff fun K X w => ?_
  have cI : (nI cnt).toInt = cnt := ti_n (by omega)
  have loop : ∀ n s, s + n = cnt → K (fdN nam x n s) (hU h I J) → Wp d 78 (2, [some (vR F0), some (vL x), none, some (vI (nI s))], [], hU h I J) (RI K X) := by
    intro n
    induction n with
    | zero =>
      intro s hs k
      have hsc : s = cnt := by omega
      subst hsc
      refine w78_2 ?_
      simp only [↓forall_eq, ↓inB_iff, gK_hU, gL_hU, gR_hU, gIh, gJh, pI_hU, pJ_hU, hU_hU, uI_app, uJ_app, and_true, true_and, and_false, false_and, and_self, true_implies, false_implies, not_true, not_false_iff, if_true, if_false, eq_self, Nat.reduceLeDiff, Nat.reduceEqDiff, reduceCtorEq, i32c, ti0, ti1, tiM, Int.natCast_nonneg, Int.reduceEq, Int.reduceLE, Int.reduceLT, Int.reduceNeg, tl_i, Int32.reduceToInt, Int64.reduceToInt, tiA, tlM6, Int.toNat_natCast, natc, nI_1, Int.zero_sub, implies_true, not_false_eq_true, k0, t1, cI, Int.lt_irrefl]
      exact k
    | succ n ih =>
      intro s hs k
      have sI : (nI s).toInt = s := ti_n (by omega)
      have sl : (s : Int) < cnt := by omega
      have s20 : (s : Int) < 20 := by omega
      have e := t3 s (by omega)
      refine w78_2 ?_
      simp only [↓forall_eq, ↓inB_iff, gK_hU, gL_hU, gR_hU, gIh, gJh, pI_hU, pJ_hU, hU_hU, uI_app, uJ_app, and_true, true_and, and_false, false_and, and_self, true_implies, false_implies, not_true, not_false_iff, if_true, if_false, eq_self, Nat.reduceLeDiff, Nat.reduceEqDiff, reduceCtorEq, i32c, ti0, ti1, tiM, Int.natCast_nonneg, Int.reduceEq, Int.reduceLE, Int.reduceLT, Int.reduceNeg, tl_i, Int32.reduceToInt, Int64.reduceToInt, tiA, tlM6, Int.toNat_natCast, natc, nI_1, Int.zero_sub, implies_true, not_false_eq_true, k0, t1, cI, sI, sl, s20, r6, k7, l7, e]
      rw [fdN] at k
      refine ⟨fun z => ?_, fun z => ?_⟩
      · rw [if_pos (Int64.toInt_inj.1 z)] at k; exact k
      · rw [if_neg (fun y => z (by rw [y]))] at k
        exact ih (s + 1) (by omega) k
  exact m78 (loop cnt 0 (by omega) w)
theorem c_write {K : aH → Prop} {x y : Int32} (hE : pE h F0 F1 F2 F7 L) (hw : I F0 10 = nI w) (hl : w < L) (kk : ∀ I', fE F0 F1 F2 w I I' J J → I' F0 10 = nI (w + 1) → I' F1 w = x → I' F2 w = y → (∀ a, a ≠ F0 → a ≠ F1 → a ≠ F2 → I' a = I a) → K (hU h I' J)) : CV d 83 [vR F0, vI x, vI y] (hU h I J) K X := by
  obtain ⟨f, ⟨k0, -, r0, r1, -⟩, ⟨k1, l1⟩, ⟨k2, l2⟩, -, ⟨n01, n02, n12⟩, ⟨g0, g1, g2, g3⟩, l12⟩ := hE
  have wI : (nI w).toInt = w := ti_n (by omega)
  have LI : (nI L).toInt = L := ti_n (by omega)
  have wl : (w : Int) < L := by omega
  have e0 : 8 ≤ F0 := by omega
  have e1 : 8 ≤ F1 := by omega
  have e2 : 8 ≤ F2 := by omega
  refine m83 ?_
  simp only [↓forall_eq, ↓inB_iff, gK_hU, gL_hU, gR_hU, gIh, gJh, pI_hU, pJ_hU, hU_hU, uI_app, uJ_app, and_true, true_and, and_false, false_and, and_self, true_implies, false_implies, not_true, not_false_iff, if_true, if_false, eq_self, Nat.reduceLeDiff, Nat.reduceEqDiff, reduceCtorEq, i32c, ti0, ti1, tiM, Int.natCast_nonneg, Int.reduceEq, Int.reduceLE, Int.reduceLT, Int.reduceNeg, tl_i, Int32.reduceToInt, Int64.reduceToInt, tiA, tlM6, Int.toNat_natCast, natc, nI_1, Int.zero_sub, implies_true, not_false_eq_true, k0, r0, r1, k1, k2, l1, l2, hw, wI, LI, wl, e0, e1, e2, n01, n02, n12]
  refine kk _ ⟨fun a h1 h2 h3 h4 h5 => by rw [uI_ne _ _ _ h3, uI_ne _ _ _ h5, uI_ne _ _ _ h4], ?_, fun j hj => ?_, fun j hj => ?_, fun i hi => ⟨?_, ?_⟩, fun _ _ => rfl⟩ (by simp only [↓forall_eq, ↓inB_iff, gK_hU, gL_hU, gR_hU, gIh, gJh, pI_hU, pJ_hU, hU_hU, uI_app, uJ_app, and_true, true_and, and_false, false_and, and_self, true_implies, false_implies, not_true, not_false_iff, if_true, if_false, eq_self, Nat.reduceLeDiff, Nat.reduceEqDiff, reduceCtorEq, i32c, ti0, ti1, tiM, Int.natCast_nonneg, Int.reduceEq, Int.reduceLE, Int.reduceLT, Int.reduceNeg, tl_i, Int32.reduceToInt, Int64.reduceToInt, tiA, tlM6, Int.toNat_natCast, natc, nI_1, Int.zero_sub, implies_true, not_false_eq_true]) ?_ ?_ (fun a h3 h4 h5 => by rw [uI_ne _ _ _ h3, uI_ne _ _ _ h5, uI_ne _ _ _ h4])
  · rw [uI_ne _ _ _ (by omega), uI_ne _ _ _ (by omega), uI_ne _ _ _ (by omega)]
  · rw [uI_ne _ _ _ (by omega), uI_ne _ _ _ (by omega), uI_ne _ _ _ (by omega)]
  · rw [uI_nj _ _ _ _ hj, uI_ne _ _ _ n02, uI_ne _ _ _ n01]
  · rw [uI_ne _ _ _ n01.symm, uI_ne _ _ _ n12, uI_nj _ _ _ _ (by omega)]
  · rw [uI_ne _ _ _ n02.symm, uI_nj _ _ _ _ (by omega), uI_ne _ _ _ n12.symm]
  · rw [uI_ne _ _ _ n01.symm, uI_ne _ _ _ n12, uI_same]
  · rw [uI_ne _ _ _ n02.symm, uI_same]
theorem atC_w (hE : pE h F0 F1 F2 F7 L) (t : atC I J B L p) (u : ∀ a, a ≠ F0 → a ≠ F1 → a ≠ F2 → I' a = I a) : atC I' J B L p := by
  obtain ⟨-, -, -, -, -, -, ⟨g0, g1, g2, g3⟩, -⟩ := hE
  unfold atC at t ⊢
  rw [u 17 (by omega) (by omega) (by omega)]
  exact t
/-- a fault -/
theorem c_fail {K : Int32 → aH → Prop} {x : Int32} (hE : pE h F0 F1 F2 F7 L) (kk : ∀ I', fE F0 F1 F2 w I I' J J → I' 19 4 = x → K 0 (hU h I' J)) : CI d 75 [vR 19, vI x] (hU h I J) (fun y h0 => y &&& 1 = y ∧ K y h0) X := by
  obtain ⟨f, -, -, -, -, -, ⟨g0, g1, g2, g3⟩, -⟩ := hE
  refine m75 ?_
  simp only [↓forall_eq, ↓inB_iff, gK_hU, gL_hU, gR_hU, gIh, gJh, pI_hU, pJ_hU, hU_hU, uI_app, uJ_app, and_true, true_and, and_false, false_and, and_self, true_implies, false_implies, not_true, not_false_iff, if_true, if_false, eq_self, Nat.reduceLeDiff, Nat.reduceEqDiff, reduceCtorEq, i32c, ti0, ti1, tiM, Int.natCast_nonneg, Int.reduceEq, Int.reduceLE, Int.reduceLT, Int.reduceNeg, tl_i, Int32.reduceToInt, Int64.reduceToInt, tiA, tlM6, Int.toNat_natCast, natc, nI_1, Int.zero_sub, implies_true, not_false_eq_true, ck_19 f]
  refine ⟨by decide, kk _ ⟨fun a h1 h2 _ _ _ => by rw [uI_ne _ _ _ h2], by rw [uI_ne _ _ _ (by decide)], fun j hj => by rw [uI_nj _ _ _ _ hj], fun j _ => by rw [uI_ne _ _ _ (by omega)], fun i _ => ⟨by rw [uI_ne _ _ _ (by omega)], by rw [uI_ne _ _ _ (by omega)]⟩, fun _ _ => rfl⟩ (by simp only [↓forall_eq, ↓inB_iff, gK_hU, gL_hU, gR_hU, gIh, gJh, pI_hU, pJ_hU, hU_hU, uI_app, uJ_app, and_true, true_and, and_false, false_and, and_self, true_implies, false_implies, not_true, not_false_iff, if_true, if_false, eq_self, Nat.reduceLeDiff, Nat.reduceEqDiff, reduceCtorEq, i32c, ti0, ti1, tiM, Int.natCast_nonneg, Int.reduceEq, Int.reduceLE, Int.reduceLT, Int.reduceNeg, tl_i, Int32.reduceToInt, Int64.reduceToInt, tiA, tlM6, Int.toNat_natCast, natc, nI_1, Int.zero_sub, implies_true, not_false_eq_true])⟩
def sgI (sg : Bool) : Int32 := if sg = true then -1 else 1
end PAR
