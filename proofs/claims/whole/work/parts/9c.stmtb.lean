/-! READING A TEXT: the class reads a statement, the stages -/
section STB
variable {d L p q q1 w w0 cnt ak s : Nat} {h : aH} {X : Nat → aH → Prop} {B : Nat → Int32} {I0 I I' : Nat → Nat → Int32} {J0 J J' : Nat → Nat → Int64} {nam : Nat → Int64} {F : Nat → Nat} {f3 f4 f5 f6 f9 : Nat → Int32} {K : Int32 → aH → Prop} {hd : Int64 × Int32 × Int32 × List Tm}
/-- what comes behind a statement -/
def kOK (h : aH) (K : Int32 → aH → Prop) (F : Nat → Nat) (B : Nat → Int32) (L : Nat) (I0 : Nat → Nat → Int32) (J0 : Nat → Nat → Int64) (r : Option StD × Nat) (w0 cnt ak : Nat) : Prop := ∀ s hd cs q I' J', r = (some (s, hd, cs), q) → stR F I0 I' J0 J' w0 cnt ak s hd cs → hdK s hd → (2 ≤ s → cs ≠ []) → atC I' J' B L q → q ≤ L → w0 + hd.2.2.2.length + lenC cs ≤ lxS B L q → K 1 (hU h I' J')
def kNO (h : aH) (K : Int32 → aH → Prop) (F : Nat → Nat) (B : Nat → Int32) (L : Nat) (I0 : Nat → Nat → Int32) (J0 : Nat → Nat → Int64) (r : Option StD × Nat) : Prop := ∀ q I' J', r = (none, q) → frS F I0 I' J0 J' → I' 19 4 = nI (lxS B L q) → K 0 (hU h I' J')
/-- the state behind the head -/
def sH (F : Nat → Nat) (I0 I : Nat → Nat → Int32) (J0 J : Nat → Nat → Int64) (w0 cnt ak s : Nat) (hd : Int64 × Int32 × Int32 × List Tm) (f9 : Nat → Int32) (w : Nat) : Prop := sC F I0 I J0 J w0 (up1 (I0 (F 3)) cnt (nI s)) (if s = 0 then up1 (I0 (F 4)) cnt hd.2.1 else I0 (F 4)) (if s = 0 then up1 (I0 (F 5)) cnt hd.2.2.1 else I0 (F 5)) (if s = 0 then up1 (I0 (F 6)) cnt 1 else I0 (F 6)) f9 (ak + if s = 0 then 1 else 0) w cnt
def afF (B : Nat → Int32) (L s : Nat) (hd : Int64 × Int32 × Int32 × List Tm) (r : Option (List Cmp) × Nat) : Option StD × Nat := match r with
  | (none, q2) => (none, q2)
  | (some cs, q2) => if lxK B L q2 = 5 then (some (s, hd, cs), lxE B L q2) else (none, q2)
theorem nmC_sC (S : pS h F L) (c : sC F I0 I J0 J w0 f3 f4 f5 f6 f9 ak w cnt) (h20 : cnt < 20) (n0 : ∀ k, k < cnt → J0 (F 7) k = nam k) : nmC I J (F 0) (F 7) cnt nam := ⟨⟨c.2.2.2.1.2.1, by omega⟩, fun k hk => by rw [c.2.2.1.2.2.2 7 (by decide)]; exact n0 k hk⟩
theorem c_s136 {r : Option StD × Nat} {cond : Bool} (S : pS h F L) (t : tpC I B L) (a : atC I J B L q1) (hq : q1 ≤ L) (h20 : cnt < 20) (n0 : ∀ k, k < cnt → J0 (F 7) k = nam k) (c : sH F I0 I J0 J w0 cnt ak s hd (up1 (I0 (F 9)) cnt (nI (w0 + hd.2.2.2.length))) (w0 + hd.2.2.2.length)) (hk : hdK s hd) (hn : s ≤ 1 → J 19 2 = hd.1) (en : encC (I (F 1)) (I (F 2)) w0 hd.2.2.2) (hle : w0 + hd.2.2.2.length + 1 ≤ lxS B L q1) (hst : r = afF B L s hd (if cond = true then cdF B L nam cnt 1200 q1 else (some [], q1))) (hne : 2 ≤ s → cond = true) (ok : kOK h K F B L I0 J0 r w0 cnt ak) (no : kNO h K F B L I0 J0 r) : Wp (d + 5) 89 (136, [some (vR 19), some (vI (nI s)), some (vI (if cond = true then 1 else 0))], [], hU h I J) (RI K X) := by
  have f := S.1.1
  cases cond with
  | false =>
    have hst2 : r = if lxK B L q1 = 5 then (some (s, hd, []), lxE B L q1) else (none, q1) := hst
    refine w89_136 ?_
    simp only [↓forall_eq, ↓inB_iff, gK_hU, gL_hU, gR_hU, gIh, gJh, pI_hU, pJ_hU, hU_hU, uI_app, uJ_app, and_true, true_and, and_false, false_and, and_self, true_implies, false_implies, not_true, not_false_iff, if_true, if_false, eq_self, Nat.reduceLeDiff, Nat.reduceEqDiff, reduceCtorEq, i32c, ti0, ti1, tiM, Int.natCast_nonneg, Int.reduceEq, Int.reduceLE, Int.reduceLT, Int.reduceNeg, tl_i, Int32.reduceToInt, Int64.reduceToInt, tiA, tlM6, Int.toNat_natCast, natc, nI_1, Int.zero_sub, implies_true, not_false_eq_true, Bool.false_eq_true]
    have s2 : ¬ 2 ≤ s := fun z => by have := hne z; cases this
    refine c_s149 (cs := []) S t a hq (by unfold sH at c; exact c) h20 hk hn en True.intro (fun c5 I' J' sr a' => ?_) (fun c5 I' J' fr' x4 => ?_)
    · have go := lxK_go (B := B) hq (by omega)
      refine ok s hd [] (lxE B L q1) I' J' (by rw [hst2, if_pos c5]) sr hk (fun z => absurd z s2) a' go.2.2.2 ?_
      show w0 + hd.2.2.2.length + 0 ≤ _
      omega
    · exact no q1 I' J' (by rw [hst2, if_neg c5]) fr' x4
  | true =>
    have hst2 : r = afF B L s hd (cdF B L nam cnt 1200 q1) := hst
    have nc := nmC_sC S c h20 n0
    refine w89_136 ?_
    simp only [↓forall_eq, ↓inB_iff, gK_hU, gL_hU, gR_hU, gIh, gJh, pI_hU, pJ_hU, hU_hU, uI_app, uJ_app, and_true, true_and, and_false, false_and, and_self, true_implies, false_implies, not_true, not_false_iff, if_true, if_false, eq_self, Nat.reduceLeDiff, Nat.reduceEqDiff, reduceCtorEq, i32c, ti0, ti1, tiM, Int.natCast_nonneg, Int.reduceEq, Int.reduceLE, Int.reduceLT, Int.reduceNeg, tl_i, Int32.reduceToInt, Int64.reduceToInt, tiA, tlM6, Int.toNat_natCast, natc, nI_1, Int.zero_sub, implies_true, not_false_eq_true, ck_19 f]
    refine m87 (c_rcond S.1 1200 0 (w0 + hd.2.2.2.length) q1 I J rfl t a nc hq c.2.2.2.1.1 hle (fun cs q2 I2 J2 hx u2 a2 hq2 w2 le2 en2 ne2 => ?_) (fun q2 I2 J2 hx u2 x4 => ?_))
    · have c2 := sC_fE S c u2 (by omega) w2
      rw [hx] at hst2
      have hst3 : r = if lxK B L q2 = 5 then (some (s, hd, cs), lxE B L q2) else (none, q2) := hst2
      have en1 : encC (I2 (F 1)) (I2 (F 2)) w0 hd.2.2.2 := encC_cg _ _ en (fun j h1 h2 => u2.2.2.2.2.1 j (by omega))
      simp only [↓forall_eq, ↓inB_iff, gK_hU, gL_hU, gR_hU, gIh, gJh, pI_hU, pJ_hU, hU_hU, uI_app, uJ_app, and_true, true_and, and_false, false_and, and_self, true_implies, false_implies, not_true, not_false_iff, if_true, if_false, eq_self, Nat.reduceLeDiff, Nat.reduceEqDiff, reduceCtorEq, i32c, ti0, ti1, tiM, Int.natCast_nonneg, Int.reduceEq, Int.reduceLE, Int.reduceLT, Int.reduceNeg, tl_i, Int32.reduceToInt, Int64.reduceToInt, tiA, tlM6, Int.toNat_natCast, natc, nI_1, Int.zero_sub, implies_true, not_false_eq_true]
      refine c_s149 (cs := cs) S (tpC_fE S.1 t u2) a2 hq2 c2 h20 hk (fun z => by rw [u2.2.2.2.2.2 19 (by decide)]; exact hn z) en1 en2 (fun c5 I' J' sr a' => ?_) (fun c5 I' J' fr' x4 => ?_)
      · have go := lxK_go (B := B) hq2 (by omega)
        exact ok s hd cs (lxE B L q2) I' J' (by rw [hst3, if_pos c5]) sr hk (fun _ => ne2) a' go.2.2.2 (by omega)
      · exact no q2 I' J' (by rw [hst3, if_neg c5]) fr' x4
    · have c2 : frS F I0 I2 J0 J2 := by
        have g := S.2.2.2.1
        refine ⟨fun b h1 h2 h3 => ?_, by rw [u2.2.1]; exact c.1.2⟩
        rw [u2.1 b h1 h2 (h3 0 (by decide)) (h3 1 (by decide)) (h3 2 (by decide)), u2.2.2.2.2.2 b h1]
        exact c.1.1 b h1 h2 h3
      refine ⟨fun _ => no q2 I2 J2 (by rw [hst2, hx]; rfl) c2 x4, fun z => absurd rfl z⟩
theorem c_s109 {r : Option StD × Nat} {s0 : Int32} (S : pS h F L) (t : tpC I B L) (a : atC I J B L q1) (hq : q1 ≤ L) (h20 : cnt < 20) (n0 : ∀ k, k < cnt → J0 (F 7) k = nam k) (c : sH F I0 I J0 J w0 cnt ak s hd (up1 (I0 (F 9)) cnt (nI (w0 + hd.2.2.2.length))) (w0 + hd.2.2.2.length)) (hk : hdK s hd) (hn : s ≤ 1 → J 19 2 = hd.1) (en : encC (I (F 1)) (I (F 2)) w0 hd.2.2.2) (hle : w0 + hd.2.2.2.length + 1 ≤ lxS B L q1) (hst : r = afF B L s hd (cnF B L nam cnt s q1)) (hs0 : s0 = if 2 ≤ s then 1 else 0) (ok : kOK h K F B L I0 J0 r w0 cnt ak) (no : kNO h K F B L I0 J0 r) : Wp (d + 5) 89 (109, [some (vR 19), some (vI (nI s)), none], [vI s0], hU h I J) (RI K X) := by
  have f := S.1.1
  unfold cnF at hst
  by_cases c2 : 2 ≤ s
  · rw [if_pos c2] at hst hs0
    subst hs0
    refine w89_109 ?_
    simp only [↓forall_eq, ↓inB_iff, gK_hU, gL_hU, gR_hU, gIh, gJh, pI_hU, pJ_hU, hU_hU, uI_app, uJ_app, and_true, true_and, and_false, false_and, and_self, true_implies, false_implies, not_true, not_false_iff, if_true, if_false, eq_self, Nat.reduceLeDiff, Nat.reduceEqDiff, reduceCtorEq, i32c, ti0, ti1, tiM, Int.natCast_nonneg, Int.reduceEq, Int.reduceLE, Int.reduceLT, Int.reduceNeg, tl_i, Int32.reduceToInt, Int64.reduceToInt, tiA, tlM6, Int.toNat_natCast, natc, nI_1, Int.zero_sub, implies_true, not_false_eq_true]
    exact c_s136 (cond := true) S t a hq h20 n0 c hk hn en hle hst (fun _ => rfl) ok no
  · rw [if_neg c2] at hst hs0
    subst hs0
    refine w89_109 ?_
    simp only [↓forall_eq, ↓inB_iff, gK_hU, gL_hU, gR_hU, gIh, gJh, pI_hU, pJ_hU, hU_hU, uI_app, uJ_app, and_true, true_and, and_false, false_and, and_self, true_implies, false_implies, not_true, not_false_iff, if_true, if_false, eq_self, Nat.reduceLeDiff, Nat.reduceEqDiff, reduceCtorEq, i32c, ti0, ti1, tiM, Int.natCast_nonneg, Int.reduceEq, Int.reduceLE, Int.reduceLT, Int.reduceNeg, tl_i, Int32.reduceToInt, Int64.reduceToInt, tiA, tlM6, Int.toNat_natCast, natc, nI_1, Int.zero_sub, implies_true, not_false_eq_true, ck_17 f, ck_19 f, cr_19_0 f, ↓isAt_br f a]
    refine ⟨fun ci => ?_, fun ci => ?_⟩
    · rw [if_pos ci] at hst
      have go := lxK_go (B := B) hq (fun z => by rw [ci.1] at z; cases z)
      refine c_adv f t go.2.2.2 a.1.1 (fun I2 J2 u2 a2 => ?_)
      have g := S.2.2.2.1
      refine c_s136 (cond := true) S (tpC_fT t u2) a2 go.2.2.2 h20 n0 (sC_fB S c (fB_T u2)) hk (fun z => by rw [u2.2.2 19 (by decide)]; exact hn z) ?_ ?_ hst (fun _ => rfl) ok no
      · rw [u2.1 (F 1) (by have := g 1 (by decide); omega), u2.1 (F 2) (by have := g 2 (by decide); omega)]; exact en
      · have x1 := go.2.1
        have x2 := go.2.2.1
        clear hst
        omega
    · rw [if_neg ci] at hst
      exact c_s136 (cond := false) S t a hq h20 n0 c hk hn en hle hst (fun z => absurd z c2) ok no
theorem c_s78b {r : Option StD × Nat} (S : pS h F L) (t : tpC I B L) (a : atC I J B L q1) (hq : q1 ≤ L) (h20 : cnt < 20) (n0 : ∀ k, k < cnt → J0 (F 7) k = nam k) (c : sH F I0 I J0 J w0 cnt ak s hd (I0 (F 9)) (w0 + hd.2.2.2.length)) (hk : hdK s hd) (hn : s ≤ 1 → J 19 2 = hd.1) (en : encC (I (F 1)) (I (F 2)) w0 hd.2.2.2) (hle : w0 + hd.2.2.2.length + 1 ≤ lxS B L q1) (hst : r = afF B L s hd (cnF B L nam cnt s q1)) (ok : kOK h K F B L I0 J0 r w0 cnt ak) (no : kNO h K F B L I0 J0 r) : CV (d + 4) 86 [vR (F 0)] (hU h I J) (fun h1 => ((nI s).toInt < 2 → Wp (d + 5) 89 (109, [some (vR 19), some (vI (nI s)), none], [vI 0], h1) (RI K X)) ∧ (¬ (nI s).toInt < 2 → Wp (d + 5) 89 (109, [some (vR 19), some (vI (nI s)), none], [vI 1], h1) (RI K X))) X := by
  have sI : (nI s).toInt = s := ti_n (by have := hk.1; omega)
  refine c_split S c.2.2.2.1.2.1 h20 ?_
  have g := S.2.2.2.1
  have c9 := sC_9 (i := cnt) (x := I (F 0) 10) S c
  have x10 := c.2.2.2.1.1
  rw [x10] at c9
  rw [x10]
  have ne : ∀ i j, i < 12 → j < 12 → i ≠ j → F i ≠ F j := fun i j hi hj hn => pS_ne S hi hj hn
  have t9 : tpC (uI I (F 9) cnt (nI (w0 + hd.2.2.2.length))) B L := ⟨by rw [uI_ne _ _ _ (by have := g 9 (by decide); omega)]; exact t.1, t.2.1, fun k hk => by rw [uI_ne _ _ _ (by have := g 9 (by decide); omega)]; exact t.2.2 k hk⟩
  have a9 : atC (uI I (F 9) cnt (nI (w0 + hd.2.2.2.length))) J B L q1 := by
    unfold atC at a ⊢
    rw [uI_ne _ _ _ (by have := g 9 (by decide); omega)]; exact a
  have en9 : encC (uI I (F 9) cnt (nI (w0 + hd.2.2.2.length)) (F 1)) (uI I (F 9) cnt (nI (w0 + hd.2.2.2.length)) (F 2)) w0 hd.2.2.2 := by rw [uI_ne _ _ _ (ne 1 9 (by decide) (by decide) (by decide)), uI_ne _ _ _ (ne 2 9 (by decide) (by decide) (by decide))]; exact en
  refine ⟨fun z => ?_, fun z => ?_⟩
  · exact c_s109 S t9 a9 hq h20 n0 c9 hk hn en9 hle hst (by rw [if_neg (by omega)]) ok no
  · exact c_s109 S t9 a9 hq h20 n0 c9 hk hn en9 hle hst (by rw [if_pos (by omega)]) ok no
/-- two bounds -/
theorem c_bounds (S : pS h F L) (t : tpC I B L) (a : atC I J B L p) (hp : p ≤ L) (hc : I (F 0) 11 = nI cnt) (h20 : cnt < 20)
    (ok : ∀ lo hi q I1 J1, bsF B L p = (some (lo, hi), q) → fB9 I I1 J J1 → atC I1 J1 B L q → q ≤ L → lxS B L p ≤ lxS B L q → (-999999 ≤ lo.toInt ∧ lo.toInt ≤ hi.toInt ∧ hi.toInt ≤ 999999) → K 1 (hU h (uI (uI (uI (uI I1 (F 4) cnt lo) (F 5) cnt hi) (F 6) cnt 1) (F 0) 12 (I1 (F 0) 12 + 1)) J1))
    (no : ∀ q I' J', bsF B L p = (none, q) → fB9 I I' J J' → I' 19 4 = nI (lxS B L q) → K 0 (hU h I' J')) : CI (d + 3) 82 [vR 19] (hU h I J) K X := by
  have f := S.1.1
  have r1 := S.1.2.1.2.1
  have k0 := S.1.2.1.1
  have g0 := S.2.2.2.1 0 (by decide)
  have e0 : 8 ≤ F 0 := by omega
  refine m82 ?_
  simp only [↓forall_eq, ↓inB_iff, gK_hU, gL_hU, gR_hU, gIh, gJh, pI_hU, pJ_hU, hU_hU, uI_app, uJ_app, and_true, true_and, and_false, false_and, and_self, true_implies, false_implies, not_true, not_false_iff, if_true, if_false, eq_self, Nat.reduceLeDiff, Nat.reduceEqDiff, reduceCtorEq, i32c, ti0, ti1, tiM, Int.natCast_nonneg, Int.reduceEq, Int.reduceLE, Int.reduceLT, Int.reduceNeg, tl_i, Int32.reduceToInt, Int64.reduceToInt, tiA, tlM6, Int.toNat_natCast, natc, nI_1, Int.zero_sub, implies_true, not_false_eq_true, ck_17 f, ck_19 f, cr_19_0 f]
  refine c_bound f t a hp (fun lo q I1 J1 hb u1 x3 a1 hq le1 nb1 => ?_) (fun q I1 J1 hb u1 x4 => ⟨fun _ => no q I1 J1 (by unfold bsF; rw [hb]) u1 x4, fun z => absurd rfl z⟩)
  simp only [↓forall_eq, ↓inB_iff, gK_hU, gL_hU, gR_hU, gIh, gJh, pI_hU, pJ_hU, hU_hU, uI_app, uJ_app, and_true, true_and, and_false, false_and, and_self, true_implies, false_implies, not_true, not_false_iff, if_true, if_false, eq_self, Nat.reduceLeDiff, Nat.reduceEqDiff, reduceCtorEq, i32c, ti0, ti1, tiM, Int.natCast_nonneg, Int.reduceEq, Int.reduceLE, Int.reduceLT, Int.reduceNeg, tl_i, Int32.reduceToInt, Int64.reduceToInt, tiA, tlM6, Int.toNat_natCast, natc, nI_1, Int.zero_sub, implies_true, not_false_eq_true, ck_17 f, ck_19 f, cr_19_0 f]
  refine c_bound f (tpC_fB t u1) a1 hq (fun hi q2 I2 J2 hb2 u2 y3 a2 hq2 le2 nb2 => ?_) (fun q2 I2 J2 hb2 u2 x4 => ⟨fun _ => no q2 I2 J2 (by unfold bsF; rw [hb]; dsimp only; rw [hb2]) (fB_tr u1 u2) x4, fun z => absurd rfl z⟩)
  simp only [↓forall_eq, ↓inB_iff, gK_hU, gL_hU, gR_hU, gIh, gJh, pI_hU, pJ_hU, hU_hU, uI_app, uJ_app, and_true, true_and, and_false, false_and, and_self, true_implies, false_implies, not_true, not_false_iff, if_true, if_false, eq_self, Nat.reduceLeDiff, Nat.reduceEqDiff, reduceCtorEq, i32c, ti0, ti1, tiM, Int.natCast_nonneg, Int.reduceEq, Int.reduceLE, Int.reduceLT, Int.reduceNeg, tl_i, Int32.reduceToInt, Int64.reduceToInt, tiA, tlM6, Int.toNat_natCast, natc, nI_1, Int.zero_sub, implies_true, not_false_eq_true, ck_17 f, ck_19 f, cr_19_0 f, x3, y3, r1, k0, e0]
  refine ⟨fun z => m75 ?_, fun z => ?_⟩
  · simp only [↓forall_eq, ↓inB_iff, gK_hU, gL_hU, gR_hU, gIh, gJh, pI_hU, pJ_hU, hU_hU, uI_app, uJ_app, and_true, true_and, and_false, false_and, and_self, true_implies, false_implies, not_true, not_false_iff, if_true, if_false, eq_self, Nat.reduceLeDiff, Nat.reduceEqDiff, reduceCtorEq, i32c, ti0, ti1, tiM, Int.natCast_nonneg, Int.reduceEq, Int.reduceLE, Int.reduceLT, Int.reduceNeg, tl_i, Int32.reduceToInt, Int64.reduceToInt, tiA, tlM6, Int.toNat_natCast, natc, nI_1, Int.zero_sub, implies_true, not_false_eq_true, ck_17 f, ck_19 f, cr_19_0 f]
    refine ⟨by decide, no q _ J2 ?_ (fB_tr (fB_tr u1 u2) fB_9) (by rw [uI_same]; exact a1.1.2.2)⟩
    unfold bsF; rw [hb]; dsimp only; rw [hb2]; dsimp only; rw [if_pos z]
  · have u := fB_tr u1 u2
    refine c_bind S (by rw [u.1 (F 0) (by omega) (by omega)]; exact hc) h20 (ok lo hi q2 I2 J2 ?_ u a2 hq2 (by omega) (by omega))
    unfold bsF; rw [hb]; dsimp only; rw [hb2]; dsimp only; rw [if_neg z]
end STB
