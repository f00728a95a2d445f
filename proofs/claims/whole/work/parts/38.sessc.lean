/-! SESSIONS: the class's side -/
section SSC
variable {so : Nat → Int32} {E : Nat → List Tm} {Cn : Nat → List Cmp} {gv av rg : Nat → Int32} {nt : Nat → Bool} {d f k cnt : Nat} {h : aH} {A o : Nat → Nat} {X : Nat → aH → Prop} {I : Nat → Nat → Int32} {J : Nat → Nat → Int64}
/-- what a session stands on -/
def sX (h : aH) (A o : Nat → Nat) (k f cnt : Nat) (so : Nat → Int32) (E : Nat → List Tm) (Cn : Nat → List Cmp) (rg : Nat → Int32) : Prop := fmC h A o f cnt so E Cn ∧ TS h A o k ∧ k ≤ 60 ∧ gR h (A (bS k)) 0 = A (bF f) ∧ (∀ i, i < 6 → gI h (A (bS k + 1)) i = rg i) ∧ bndI 6 rg
/-- only a session's own cells change -/
def sFr (h : aH) (A : Nat → Nat) (k : Nat) (I : Nat → Nat → Int32) : Prop := (∀ a, a ≠ A (bS k) → a ≠ A (bS k + 2) → a ≠ A (bS k + 3) → a ≠ A (bS k + 4) → I a = gI h a) ∧ ∀ j, (j < 6 ∨ 11 < j) → I (A (bS k)) j = gI h (A (bS k)) j
theorem sFr_refl : sFr h A k (gI h) := ⟨fun _ _ _ _ _ => rfl, fun _ _ => rfl⟩
theorem sFr_trans {I2 : Nat → Nat → Int32} (a : sFr h A k I) (b : sFr (hU h I J) A k I2) : sFr h A k I2 := ⟨fun q q1 q2 q3 q4 => (b.1 q q1 q2 q3 q4).trans (a.1 q q1 q2 q3 q4), fun j hj => (b.2 j hj).trans (a.2 j hj)⟩
theorem sX_hU (x : sX h A o k f cnt so E Cn rg) (s : sFr h A k I) : sX (hU h I J) A o k f cnt so E Cn rg := by
  obtain ⟨x1, x2, x3, x4, x5, x6⟩ := x
  have hf := x1.2.2.1.2.2
  have n1 : ∀ i, (i = 0 ∨ i = 2 ∨ i = 3 ∨ i = 4) → A (bS k + 1) ≠ A (bS k + i) := fun i hi => S_ne x2 (by omega) (by omega) (by omega)
  have nF : ∀ j, j < 12 → ∀ i, i < 5 → A (bF f + j) ≠ A (bS k + i) := fun j hj i hi => F_ne_S x1.1 x2 hf x3 hj hi
  refine ⟨fmC_hU (fun j hj => s.1 _ (nF j hj 0 (by omega)) (nF j hj 2 (by omega)) (nF j hj 3 (by omega)) (nF j hj 4 (by omega))) x1, x2, x3, x4, fun i hi => ?_, x6⟩
  rw [gIh, s.1 _ (n1 0 (by omega)) (n1 2 (by omega)) (n1 3 (by omega)) (n1 4 (by omega))]
  exact x5 i hi
abbrev enW (so : Nat → Int32) (E : Nat → List Tm) (Cn : Nat → List Cmp) (gv rg : Nat → Int32) (cnt : Nat) : Nat := wE so E Cn gv rg cnt 0
theorem en_le : enW so E Cn gv rg cnt ≤ cnt := by have := wE_le (so := so) (E := E) (Cn := Cn) (gv := gv) (rg := rg) cnt 0; unfold enW; omega
/-- a session walked: given and aside, items and where it stands -/
def sW (h : aH) (A : Nat → Nat) (k cnt : Nat) (so : Nat → Int32) (E : Nat → List Tm) (Cn : Nat → List Cmp) (rg gv av : Nat → Int32) : Prop := (∀ i, i < 20 → gI h (A (bS k + 3)) i = gv i) ∧ (∀ i, i < 20 → gI h (A (bS k + 4)) i = av i) ∧ (∀ i, i < 20 → gI h (A (bS k + 2)) i = wI so E Cn gv rg (enW so E Cn gv rg cnt) i) ∧ gI h (A (bS k)) 6 = nI (enW so E Cn gv rg cnt)
theorem asked_br {K : Int32 → aH → Prop} {e : Nat} (x : sX h A o k f cnt so E Cn rg) (he : gI h (A (bS k)) 6 = nI e) (h20 : e ≤ cnt) : CI (d + 1) 142 [vR (A (bS k))] h K X ↔ K (if e < cnt then nI e else -1) h := by
  obtain ⟨⟨t, l, ⟨c1, c2, c3⟩, c4⟩, u, -, hf, -⟩ := x
  have heI : (nI e).toInt = e := ti_n (by omega)
  have hcI : (nI cnt).toInt = cnt := ti_n (by omega)
  refine CI_iff fun K X w => m142 ⟨kS_0 u, by rw [hf]; exact eF_0 t, by rw [hf]; exact kF_0 t, m141 ?_⟩
  rw [hf, he, c1, heI, hcI]
  refine ⟨fun c => by omega, fun _ => ⟨kF_0 t, fun c => ⟨fun c0 => absurd c0 (by decide), fun _ => ⟨kS_0 u, ?_⟩⟩, fun c => ⟨fun _ => ?_, fun c0 => absurd rfl c0⟩⟩⟩
  · rw [if_pos (by omega)] at w; exact w
  · rw [if_neg (by omega)] at w; exact w
theorem brk_bits (w : Int) : ∀ n, bB so E Cn gv rg w n = bits (brk so E Cn gv rg w) n := by
  intro n
  induction n with
  | zero => rfl
  | succ n ih => rw [bB, bits, ih]
theorem fsB_first {P : Nat → Bool} : ∀ n, (fsB P n = -1 → ∀ i, i < n → P i = false) ∧ (¬ fsB P n = -1 → P (fsB P n).toNat = true ∧ ∀ i, i < (fsB P n).toNat → P i = false) := by
  intro n
  induction n with
  | zero => exact ⟨fun _ i hi => by omega, fun q => absurd rfl q⟩
  | succ n ih =>
    rw [fsB]
    by_cases q : fsB P n = -1 ∧ P n = true
    · rw [if_pos q]
      refine ⟨fun e => by omega, fun _ => ⟨q.2, fun i hi => ih.1 q.1 i (by omega)⟩⟩
    · rw [if_neg q]
      refine ⟨fun e i hi => ?_, fun e => ih.2 e⟩
      by_cases c : i = n
      · subst c
        cases hp : P i
        · rfl
        · exact absurd ⟨e, hp⟩ q
      · exact ih.1 e i (by omega)
theorem behind_br {K : Int32 → aH → Prop} {x : Int32} {a : Nat} : CI d 151 [vR a, vI x] h K X ↔ K ((-2) <<< (x &&& 31)) h := CI_iff fun K X w => m151 w
/-- by which statement an answer is refused -/
theorem refusal_br {K : Int32 → aH → Prop} {q e : Nat} (u : TS h A o k) (hq : q < 20) (he : e ≤ 20) (h7 : gI h (A (bS k)) 7 = bB so E Cn gv rg 2 e) (h8 : gI h (A (bS k)) 8 = bB so E Cn gv rg 3 e) (h9 : gI h (A (bS k)) 9 = bits nt 20)
    (k1 : ¬ fsB (bkM so E Cn gv rg 2 q (fun _ => false)) e = -1 → K (100 + nI (fsB (bkM so E Cn gv rg 2 q (fun _ => false)) e).toNat) h)
    (k2 : fsB (bkM so E Cn gv rg 2 q (fun _ => false)) e = -1 → ¬ fsB (bkM so E Cn gv rg 3 q nt) e = -1 → K (200 + nI (fsB (bkM so E Cn gv rg 3 q nt) e).toNat) (pI h (A (bS k)) 9 (bits nt 20 ||| (1 <<< (nI (fsB (bkM so E Cn gv rg 3 q nt) e).toNat &&& 31)))))
    (k3 : fsB (bkM so E Cn gv rg 2 q (fun _ => false)) e = -1 → fsB (bkM so E Cn gv rg 3 q nt) e = -1 → K 0 h) : CI (d + 1) 153 [vR (A (bS k)), vI (nI q)] h K X := by
  have g7 : ∀ i, i < 32 → gB (gI h (A (bS k)) 7 &&& ((-2) <<< (nI q &&& 31))) i = (decide (i < e) && bkM so E Cn gv rg 2 q (fun _ => false) i) := fun i hi => by
    rw [gB_and, h7, brk_bits, gB_bits e (by omega), gB_b (by omega) hi]
    unfold bkM
    have : decide ((q : Int) < i) = decide (q < i) := by simp
    rw [this]
    cases brk so E Cn gv rg 2 i <;> simp
  have g8 : ∀ i, i < 32 → gB ((gI h (A (bS k)) 8 &&& ((-2) <<< (nI q &&& 31))) &&& (gI h (A (bS k)) 9 ^^^ (-1))) i = (decide (i < e) && bkM so E Cn gv rg 3 q nt i) := fun i hi => by
    rw [gB_and, gB_and, gB_not _ hi, h8, h9, brk_bits, gB_bits e (by omega), gB_bits 20 (by omega), gB_b (by omega) hi]
    unfold bkM
    have : decide ((q : Int) < i) = decide (q < i) := by simp
    rw [this]
    by_cases c : i < e
    · have c2 : i < 20 := by omega
      simp [c, c2, Bool.and_assoc]
    · simp [c]
  obtain ⟨f1, f2⟩ := fsB_first (P := bkM so E Cn gv rg 2 q (fun _ => false)) e
  obtain ⟨f3, f4⟩ := fsB_first (P := bkM so E Cn gv rg 3 q nt) e
  have r1 := fsB_rng (bkM so E Cn gv rg 2 q (fun _ => false)) e
  have r2 := fsB_rng (bkM so E Cn gv rg 3 q nt) e
  have z1 : (gI h (A (bS k)) 7 &&& ((-2) <<< (nI q &&& 31))).toInt = 0 ↔ fsB (bkM so E Cn gv rg 2 q (fun _ => false)) e = -1 := by
    rw [gB_zero]
    constructor
    · intro w
      by_cases c : fsB (bkM so E Cn gv rg 2 q (fun _ => false)) e = -1
      · exact c
      · have := w (fsB (bkM so E Cn gv rg 2 q (fun _ => false)) e).toNat (by omega)
        rw [g7 _ (by omega), (f2 c).1, decide_eq_true (by omega)] at this
        cases this
    · intro w i hi
      rw [g7 i hi]
      by_cases c : i < e
      · rw [f1 w i c]; simp
      · simp [c]
  have z2 : ((gI h (A (bS k)) 8 &&& ((-2) <<< (nI q &&& 31))) &&& (gI h (A (bS k)) 9 ^^^ (-1))).toInt = 0 ↔ fsB (bkM so E Cn gv rg 3 q nt) e = -1 := by
    rw [gB_zero]
    constructor
    · intro w
      by_cases c : fsB (bkM so E Cn gv rg 3 q nt) e = -1
      · exact c
      · have := w (fsB (bkM so E Cn gv rg 3 q nt) e).toNat (by omega)
        rw [g8 _ (by omega), (f4 c).1, decide_eq_true (by omega)] at this
        cases this
    · intro w i hi
      rw [g8 i hi]
      by_cases c : i < e
      · rw [f3 w i c]; simp
      · simp [c]
  refine m153 ?_
  simp only [↓forall_eq, ↓inB_iff, gK_hU, gL_hU, gR_hU, gIh, gJh, pI_hU, pJ_hU, hU_hU, uI_app, uJ_app, and_true, true_and, and_false, false_and, and_self, true_implies, false_implies, not_true, not_false_iff, if_true, if_false, eq_self, Nat.reduceLeDiff, Nat.reduceEqDiff, reduceCtorEq, i32c, ti0, ti1, tiM, Int.natCast_nonneg, Int.reduceEq, Int.reduceLE, Int.reduceLT, Int.reduceNeg, tl_i, Int32.reduceToInt, Int64.reduceToInt, tiA, tlM6, Int.toNat_natCast, natc, nI_1, Int.zero_sub, implies_true, not_false_eq_true, kS_0 u, eS_0 u, ↓behind_br, z1, z2]
  refine ⟨fun c1 => ⟨fun c2 => k3 c1 c2, fun c2 => ?_⟩, fun c1 => ?_⟩
  · obtain ⟨p1, p2⟩ := f4 c2
    rw [ntz_br (t := (fsB (bkM so E Cn gv rg 3 q nt) e).toNat) (by omega) (by rw [g8 _ (by omega), p1, decide_eq_true (by omega)]; rfl) (fun i hi => by rw [g8 _ (by omega), p2 i hi]; simp)]
    simp only [↓forall_eq, ↓inB_iff, gK_hU, gL_hU, gR_hU, gIh, gJh, pI_hU, pJ_hU, hU_hU, uI_app, uJ_app, and_true, true_and, and_false, false_and, and_self, true_implies, false_implies, not_true, not_false_iff, if_true, if_false, eq_self, Nat.reduceLeDiff, Nat.reduceEqDiff, reduceCtorEq, i32c, ti0, ti1, tiM, Int.natCast_nonneg, Int.reduceEq, Int.reduceLE, Int.reduceLT, Int.reduceNeg, tl_i, Int32.reduceToInt, Int64.reduceToInt, tiA, tlM6, Int.toNat_natCast, natc, nI_1, Int.zero_sub, implies_true, not_false_eq_true, kS_0 u, h9]
    exact k2 c1 c2
  · obtain ⟨p1, p2⟩ := f2 c1
    rw [ntz_br (t := (fsB (bkM so E Cn gv rg 2 q (fun _ => false)) e).toNat) (by omega) (by rw [g7 _ (by omega), p1, decide_eq_true (by omega)]; rfl) (fun i hi => by rw [g7 _ (by omega), p2 i hi]; simp)]
    exact k1 c1
/-- a walk, by what it leaves -/
theorem c_walkS {K : aH → Prop} (x : sX h A o k f cnt so E Cn rg) (hg : ∀ i, i < 20 → gI h (A (bS k + 3)) i = gv i) (ha : ∀ i, i < 20 → gI h (A (bS k + 4)) i = av i) (b1 : bndI 20 gv)
    (kk : ∀ I : Nat → Nat → Int32, sFr h A k I → sW (hU h I (gJ h)) A k cnt so E Cn rg gv av → (I (A (bS k)) 7 = bB so E Cn gv rg 2 (enW so E Cn gv rg cnt) ∧ I (A (bS k)) 8 = bB so E Cn gv rg 3 (enW so E Cn gv rg cnt)) → (∀ j, j = 9 ∨ j = 10 ∨ j = 11 → I (A (bS k)) j = gI h (A (bS k)) j) → K (hU h I (gJ h))) : CV (d + 4) 136 [vR (A (bS k))] h K X := by
  obtain ⟨x1, x2, x3, x4, x5, x6⟩ := x
  have n3 : A (bS k + 3) ≠ A (bS k) := S_ne x2 (i := 3) (j := 0) (by omega) (by omega) (by omega)
  have n4 : A (bS k + 4) ≠ A (bS k) := S_ne x2 (i := 4) (j := 0) (by omega) (by omega) (by omega)
  have n32 := S_ne x2 (i := 3) (j := 2) (by omega) (by omega) (by omega)
  have n42 := S_ne x2 (i := 4) (j := 2) (by omega) (by omega) (by omega)
  refine c_walk x1 x2 x3 x4 hg x5 b1 x6 fun I w1 w2 w3 => kk I ⟨fun a a1 a2 _ _ => w1.1 a a1 a2, fun j hj => w1.2 j (by omega) (by omega) (by omega)⟩ ⟨fun i hi => ?_, fun i hi => ?_, w3, w2.1⟩ w2.2 (fun j hj => w1.2 j (by omega) (by omega) (by omega))
  · rw [gIh, w1.1 _ n3 n32]; exact hg i hi
  · rw [gIh, w1.1 _ n4 n42]; exact ha i hi
def upG (g : Nat → Int32) (q : Nat) (v : Int32) : Nat → Int32 := fun i => if i = q then v else g i
theorem bnd_upG {q : Nat} {v : Int32} (b : bndI 20 gv) (hv : v.toInt = -2000000 ∨ (-1000000 ≤ v.toInt ∧ v.toInt ≤ 1000000)) : bndI 20 (upG gv q v) := fun i hi => by
  unfold upG
  split
  · exact hv
  · exact b i hi
/-- is anything broken behind q -/
def anyB (so : Nat → Int32) (E : Nat → List Tm) (Cn : Nat → List Cmp) (gv rg : Nat → Int32) (cnt q : Nat) : Bool := !(decide (fsB (bkM so E Cn gv rg 2 q (fun _ => false)) (enW so E Cn gv rg cnt) = -1) && decide (fsB (bkM so E Cn gv rg 3 q (fun _ => false)) (enW so E Cn gv rg cnt) = -1))
theorem any_bits {q e : Nat} (hq : q < 20) (he : e ≤ 20) : ((bB so E Cn gv rg 2 e ||| bB so E Cn gv rg 3 e) &&& ((-2) <<< (nI q &&& 31))).toInt = 0 ↔ (fsB (bkM so E Cn gv rg 2 q (fun _ => false)) e = -1 ∧ fsB (bkM so E Cn gv rg 3 q (fun _ => false)) e = -1) := by
  have g7 : ∀ i, i < 32 → gB ((bB so E Cn gv rg 2 e ||| bB so E Cn gv rg 3 e) &&& ((-2) <<< (nI q &&& 31))) i = (decide (i < e) && (bkM so E Cn gv rg 2 q (fun _ => false) i || bkM so E Cn gv rg 3 q (fun _ => false) i)) := fun i hi => by
    rw [gB_and, gB_or, brk_bits, brk_bits, gB_bits e (by omega), gB_bits e (by omega), gB_b (by omega) hi]
    unfold bkM
    have : decide ((q : Int) < i) = decide (q < i) := by simp
    rw [this]
    cases brk so E Cn gv rg 2 i <;> cases brk so E Cn gv rg 3 i <;> cases decide (i < e) <;> simp
  obtain ⟨f1, f2⟩ := fsB_first (P := bkM so E Cn gv rg 2 q (fun _ => false)) e
  obtain ⟨f3, f4⟩ := fsB_first (P := bkM so E Cn gv rg 3 q (fun _ => false)) e
  have r1 := fsB_rng (bkM so E Cn gv rg 2 q (fun _ => false)) e
  have r2 := fsB_rng (bkM so E Cn gv rg 3 q (fun _ => false)) e
  rw [gB_zero]
  constructor
  · intro w
    constructor
    · by_cases c : fsB (bkM so E Cn gv rg 2 q (fun _ => false)) e = -1
      · exact c
      · have := w (fsB (bkM so E Cn gv rg 2 q (fun _ => false)) e).toNat (by omega)
        rw [g7 _ (by omega), (f2 c).1, decide_eq_true (by omega)] at this
        cases this
    · by_cases c : fsB (bkM so E Cn gv rg 3 q (fun _ => false)) e = -1
      · exact c
      · have := w (fsB (bkM so E Cn gv rg 3 q (fun _ => false)) e).toNat (by omega)
        rw [g7 _ (by omega), (f4 c).1, decide_eq_true (by omega), Bool.or_true] at this
        cases this
  · rintro ⟨w1, w2⟩ i hi
    rw [g7 i hi]
    by_cases c : i < e
    · rw [f1 w1 i c, f3 w2 i c]; simp
    · simp [c]
theorem any_iff {q : Nat} : anyB so E Cn gv rg cnt q = false ↔ (fsB (bkM so E Cn gv rg 2 q (fun _ => false)) (enW so E Cn gv rg cnt) = -1 ∧ fsB (bkM so E Cn gv rg 3 q (fun _ => false)) (enW so E Cn gv rg cnt) = -1) := by
  unfold anyB
  rw [Bool.not_eq_false', Bool.and_eq_true, decide_eq_true_eq, decide_eq_true_eq]
theorem wE_stp : ∀ n s, wE so E Cn gv rg n s < s + n → stp so E Cn gv rg (wE so E Cn gv rg n s) = true := by
  intro n
  induction n with
  | zero => intro s hs; rw [wE] at hs; omega
  | succ n ih =>
    intro s hs
    rw [wE] at hs ⊢
    split
    · assumption
    · rename_i q
      rw [if_neg q] at hs
      exact ih _ (by omega)
theorem en_abs (hq : enW so E Cn gv rg cnt < cnt) : gv (enW so E Cn gv rg cnt) = -2000000 ∧ (so (enW so E Cn gv rg cnt)).toInt = 0 := by
  have := wE_stp (so := so) (E := E) (Cn := Cn) (gv := gv) (rg := rg) cnt 0 (by unfold enW at hq; omega)
  unfold stp at this
  simp only [Bool.and_eq_true, decide_eq_true_eq] at this
  exact ⟨ti_inj this.2.2, this.1⟩
theorem upG_back {q : Nat} {v : Int32} (e : gv q = -2000000) : upG (upG gv q v) q (-2000000) = gv := by
  funext i
  unfold upG
  split
  · rename_i c; rw [c, e]
  · rfl
/-- what was aside is taken up again -/
def tu (so : Nat → Int32) (E : Nat → List Tm) (Cn : Nat → List Cmp) (rg : Nat → Int32) (cnt : Nat) : Nat → (Nat → Int32) → (Nat → Int32) → (Nat → Int32) × (Nat → Int32)
  | 0, gv, av => (gv, av)
  | n + 1, gv, av => if enW so E Cn gv rg cnt < cnt ∧ ¬ (av (enW so E Cn gv rg cnt)).toInt = -2000000 then
      (if anyB so E Cn (upG gv (enW so E Cn gv rg cnt) (av (enW so E Cn gv rg cnt))) rg cnt (enW so E Cn gv rg cnt) = true then (gv, av)
       else tu so E Cn rg cnt n (upG gv (enW so E Cn gv rg cnt) (av (enW so E Cn gv rg cnt))) (upG av (enW so E Cn gv rg cnt) (-2000000)))
    else (gv, av)
def keep9 (h : aH) (A : Nat → Nat) (k : Nat) (I : Nat → Nat → Int32) : Prop := ∀ j, j = 9 ∨ j = 10 ∨ j = 11 → I (A (bS k)) j = gI h (A (bS k)) j
theorem sFr_3 {q : Nat} {v : Int32} (n3 : A (bS k) ≠ A (bS k + 3)) : sFr h A k (uI (gI h) (A (bS k + 3)) q v) := ⟨fun a _ _ a3 _ => by rw [uI_ne _ _ _ a3], fun j _ => by rw [uI_ne _ _ _ n3]⟩
theorem sFr_4 {q : Nat} {v : Int32} (n4 : A (bS k) ≠ A (bS k + 4)) : sFr h A k (uI (gI h) (A (bS k + 4)) q v) := ⟨fun a _ _ _ a4 => by rw [uI_ne _ _ _ a4], fun j _ => by rw [uI_ne _ _ _ n4]⟩
theorem uI_row {a q : Nat} {v : Int32} {g : Nat → Int32} (hI : ∀ i, i < 20 → I a i = g i) : ∀ i, i < 20 → uI I a q v a i = upG g q v i := fun i hi => by
  rw [uI_app]
  unfold upG
  by_cases e : i = q
  · rw [if_pos ⟨rfl, e⟩, if_pos e]
  · rw [if_neg (fun w => e w.2), if_neg e]; exact hI i hi
theorem c_asidesw {K : aH → Prop} : ∀ (n step : Nat) (h : aH) (gv av : Nat → Int32), step + n = cnt → sX h A o k f cnt so E Cn rg → sW h A k cnt so E Cn rg gv av → bndI 20 gv → bndI 20 av →
    (∀ I : Nat → Nat → Int32, sFr h A k I → sW (hU h I (gJ h)) A k cnt so E Cn rg (tu so E Cn rg cnt n gv av).1 (tu so E Cn rg cnt n gv av).2 → keep9 h A k I → K (hU h I (gJ h))) →
    Wp (d + 5) 154 (2, [some (vR (A (bS k))), some (vI (nI step)), none], [], h) (RV K X) := by
  intro n
  induction n with
  | zero =>
    intro step h gv av hs x w b1 b2 kk
    obtain ⟨⟨t, l, ⟨c1, c2, c3⟩, c4⟩, u, -, hf, -⟩ := x
    have hsc : step = cnt := by omega
    subst hsc
    refine w154_2 ⟨kS_0 u, by rw [hf]; exact kF_0 t, ?_⟩
    rw [hf, c1]
    refine ⟨fun c => absurd c (Int.lt_irrefl _), fun _ => ?_⟩
    exact kk (gI h) sFr_refl w (fun _ _ => rfl)
  | succ n ih =>
    intro step h gv av hs x w b1 b2 kk
    have x' := x
    obtain ⟨⟨t, l, ⟨c1, c2, c3⟩, c4⟩, u, hk, hf, -⟩ := x'
    obtain ⟨w1, w2, w3, w4⟩ := w
    have hsI : (nI step).toInt = step := ti_n (by omega)
    have hcI : (nI cnt).toInt = cnt := ti_n (by omega)
    have q1 : (step : Int) < cnt := by omega
    have hle := en_le (so := so) (E := E) (Cn := Cn) (gv := gv) (rg := rg) (cnt := cnt)
    have n3 : A (bS k) ≠ A (bS k + 3) := S_ne u (i := 0) (j := 3) (by omega) (by omega) (by omega)
    have n4 : A (bS k) ≠ A (bS k + 4) := S_ne u (i := 0) (j := 4) (by omega) (by omega) (by omega)
    have n43 := S_ne u (i := 4) (j := 3) (by omega) (by omega) (by omega)
    have n34 := S_ne u (i := 3) (j := 4) (by omega) (by omega) (by omega)
    have n24 := S_ne u (i := 2) (j := 4) (by omega) (by omega) (by omega)
    rw [tu] at kk
    generalize hq : enW so E Cn gv rg cnt = q at *
    refine w154_2 ?_
    simp only [↓forall_eq, ↓inB_iff, gK_hU, gL_hU, gR_hU, gIh, gJh, pI_hU, pJ_hU, hU_hU, uI_app, uJ_app, and_true, true_and, and_false, false_and, and_self, true_implies, false_implies, not_true, not_false_iff, if_true, if_false, eq_self, Nat.reduceLeDiff, Nat.reduceEqDiff, reduceCtorEq, i32c, ti0, ti1, tiM, Int.natCast_nonneg, Int.reduceEq, Int.reduceLE, Int.reduceLT, Int.reduceNeg, tl_i, Int32.reduceToInt, Int64.reduceToInt, tiA, tlM6, Int.toNat_natCast, natc, nI_1, Int.zero_sub, implies_true, not_false_eq_true, kS_0 u, eS_0 u, hf, kF_0 t, c1, hsI, hcI, q1, ↓asked_br x w4 hle]
    by_cases c : q < cnt
    · have hqI : (nI q).toInt = q := ti_n (by omega)
      have z1 : ¬ ((q : Int) = -1) := by omega
      have z2 : (q : Int) < 20 := by omega
      simp only [↓forall_eq, ↓inB_iff, gK_hU, gL_hU, gR_hU, gIh, gJh, pI_hU, pJ_hU, hU_hU, uI_app, uJ_app, and_true, true_and, and_false, false_and, and_self, true_implies, false_implies, not_true, not_false_iff, if_true, if_false, eq_self, Nat.reduceLeDiff, Nat.reduceEqDiff, reduceCtorEq, i32c, ti0, ti1, tiM, Int.natCast_nonneg, Int.reduceEq, Int.reduceLE, Int.reduceLT, Int.reduceNeg, tl_i, Int32.reduceToInt, Int64.reduceToInt, tiA, tlM6, Int.toNat_natCast, natc, nI_1, Int.zero_sub, implies_true, not_false_eq_true, kS_0 u, rS_0_5 u, rS_0_4 u, kS_4 u, lS_4 u, kS_3 u, lS_3 u, eS_3 u, eS_4 u, hqI, c, z1, z2, w2 q (by omega)]
      refine ⟨fun ca => ?_, fun ca => ?_⟩
      · rw [if_neg (fun z => z.2 ca)] at kk
        exact kk (gI h) sFr_refl ⟨w1, w2, by rw [hq]; exact w3, by rw [hq]; exact w4⟩ (fun _ _ => rfl)
      · rw [if_pos ⟨c, ca⟩] at kk
        have ea := en_abs (so := so) (E := E) (Cn := Cn) (gv := gv) (rg := rg) (cnt := cnt) (by rw [hq]; exact c)
        rw [hq] at ea
        have bv := b2 q (by omega)
        have F1 : sFr h A k (uI (gI h) (A (bS k + 3)) q (av q)) := sFr_3 n3
        have x1 : sX (hU h (uI (gI h) (A (bS k + 3)) q (av q)) (gJ h)) A o k f cnt so E Cn rg := sX_hU x F1
        have b3 : bndI 20 (upG gv q (av q)) := bnd_upG b1 bv
        rw [pI_eq]
        refine c_walkS x1 (gv := upG gv q (av q)) (av := av) (uI_row w1) (fun i hi => by rw [gIh, uI_ne _ _ _ n43]; exact w2 i hi) b3 fun I2 s2 t2 p2 k2 => ?_
        have F2 : sFr h A k I2 := sFr_trans F1 s2
        have hle2 := en_le (so := so) (E := E) (Cn := Cn) (gv := upG gv q (av q)) (rg := rg) (cnt := cnt)
        simp only [↓forall_eq, ↓inB_iff, gK_hU, gL_hU, gR_hU, gIh, gJh, pI_hU, pJ_hU, hU_hU, uI_app, uJ_app, and_true, true_and, and_false, false_and, and_self, true_implies, false_implies, not_true, not_false_iff, if_true, if_false, eq_self, Nat.reduceLeDiff, Nat.reduceEqDiff, reduceCtorEq, i32c, ti0, ti1, tiM, Int.natCast_nonneg, Int.reduceEq, Int.reduceLE, Int.reduceLT, Int.reduceNeg, tl_i, Int32.reduceToInt, Int64.reduceToInt, tiA, tlM6, Int.toNat_natCast, natc, nI_1, Int.zero_sub, implies_true, not_false_eq_true, kS_0 u, ↓behind_br, p2.1, p2.2, any_bits (show q < 20 by omega) (show enW so E Cn (upG gv q (av q)) rg cnt ≤ 20 by omega), rS_0_4 u, rS_0_5 u, kS_3 u, lS_3 u, kS_4 u, lS_4 u, eS_3 u, eS_4 u, hqI, z2]
        rw [← any_iff]
        refine ⟨fun cb => ?_, fun cb => ?_⟩
        · rw [if_neg (by rw [cb]; decide)] at kk
          have F3 : sFr (hU h I2 (gJ h)) A k (uI I2 (A (bS k + 4)) q (-2000000)) := sFr_4 (h := hU h I2 (gJ h)) n4
          have F4 : sFr h A k (uI I2 (A (bS k + 4)) q (-2000000)) := sFr_trans (J := gJ h) F2 F3
          obtain ⟨t1, t2, t3, t4⟩ := t2
          refine ih (step + 1) (hU h (uI I2 (A (bS k + 4)) q (-2000000)) (gJ h)) (upG gv q (av q)) (upG av q (-2000000)) (by omega) (sX_hU x F4) ⟨fun i hi => ?_, uI_row t2, fun i hi => ?_, ?_⟩ b3 (bnd_upG b2 (Or.inl rfl)) (fun I5 s5 t5 k5 => kk I5 (sFr_trans (J := gJ h) F4 s5) t5 (fun j hj => ?_))
          · rw [gIh, uI_ne _ _ _ n34]; exact t1 i hi
          · rw [gIh, uI_ne _ _ _ n24]; exact t3 i hi
          · rw [gIh, uI_ne _ _ _ n4]; exact t4
          · rw [k5 j hj, gIh, uI_ne _ _ _ n4, k2 j hj, gIh, uI_ne _ _ _ n3]
        · rw [if_pos (bnf cb)] at kk
          have F3 : sFr (hU h I2 (gJ h)) A k (uI I2 (A (bS k + 3)) q (-2000000)) := sFr_3 (h := hU h I2 (gJ h)) n3
          have F4 : sFr h A k (uI I2 (A (bS k + 3)) q (-2000000)) := sFr_trans (J := gJ h) F2 F3
          obtain ⟨t1, t2, t3, t4⟩ := t2
          refine c_walkS (sX_hU (J := gJ h) x F4) (gv := gv) (av := av) (fun i hi => ?_) (fun i hi => by rw [gIh, uI_ne _ _ _ n43]; exact t2 i hi) b1 fun I5 s5 t5 p5 k5 => ?_
          · have := uI_row (I := I2) (q := q) (v := -2000000) t1 i hi
            rw [upG_back ea.1] at this
            exact this
          · refine kk I5 (sFr_trans (J := gJ h) F4 s5) t5 (fun j hj => ?_)
            rw [k5 j hj, gIh, uI_ne _ _ _ n3, k2 j hj, gIh, uI_ne _ _ _ n3]
    · simp only [↓forall_eq, ↓inB_iff, gK_hU, gL_hU, gR_hU, gIh, gJh, pI_hU, pJ_hU, hU_hU, uI_app, uJ_app, and_true, true_and, and_false, false_and, and_self, true_implies, false_implies, not_true, not_false_iff, if_true, if_false, eq_self, Nat.reduceLeDiff, Nat.reduceEqDiff, reduceCtorEq, i32c, ti0, ti1, tiM, Int.natCast_nonneg, Int.reduceEq, Int.reduceLE, Int.reduceLT, Int.reduceNeg, tl_i, Int32.reduceToInt, Int64.reduceToInt, tiA, tlM6, Int.toNat_natCast, natc, nI_1, Int.zero_sub, implies_true, not_false_eq_true, c]
      rw [if_neg (fun z => c z.1)] at kk
      exact kk (gI h) sFr_refl ⟨w1, w2, by rw [hq]; exact w3, by rw [hq]; exact w4⟩ (fun _ _ => rfl)
theorem c_asides {K : aH → Prop} (x : sX h A o k f cnt so E Cn rg) (w : sW h A k cnt so E Cn rg gv av) (b1 : bndI 20 gv) (b2 : bndI 20 av)
    (kk : ∀ I : Nat → Nat → Int32, sFr h A k I → sW (hU h I (gJ h)) A k cnt so E Cn rg (tu so E Cn rg cnt cnt gv av).1 (tu so E Cn rg cnt cnt gv av).2 → keep9 h A k I → K (hU h I (gJ h))) : CV (d + 5) 154 [vR (A (bS k))] h K X :=
  m154 (c_asidesw cnt 0 h gv av (by omega) x w b1 b2 kk)
theorem bits_0 : ∀ n, bits (fun _ => false) n = 0 := by
  intro n
  induction n with
  | zero => rfl
  | succ n ih => rw [bits, if_neg (by decide), ih]
def addN (nt : Nat → Bool) (q : Nat) : Nat → Bool := fun i => nt i || decide (i = q)
theorem bits_add {q : Nat} (hq : q < 20) : bits nt 20 ||| (1 <<< (nI q &&& 31)) = bits (addN nt q) 20 := by
  apply gB_ext
  intro i hi
  rw [gB_or, gB_bits 20 (by omega), gB_bits 20 (by omega), gB_sh (by omega)]
  unfold addN
  by_cases c : i = q
  · subst c; simp [hq]
  · simp [c]
/-- the notes that count when q is answered with v -/
def nt0 (nt : Nat → Bool) (a : Bool) : Nat → Bool := fun i => nt i && a
/-- an answer is taken, or refused -/
theorem c_take {K : Int32 → aH → Prop} {v : Int32} {q : Nat} (x : sX h A o k f cnt so E Cn rg) (w : sW h A k cnt so E Cn rg gv av) (b1 : bndI 20 gv) (b2 : bndI 20 av) (hq : enW so E Cn gv rg cnt = q) (hc : q < cnt) (bv : -1000000 ≤ v.toInt ∧ v.toInt ≤ 1000000) (h9 : gI h (A (bS k)) 9 = bits nt 20)
    (k1 : ∀ I nt1, nt1 = nt0 nt (decide ((q : Int) = (gI h (A (bS k)) 10).toInt ∧ v.toInt = (gI h (A (bS k)) 11).toInt)) → sFr h A k I → sW (hU h I (gJ h)) A k cnt so E Cn rg gv av → (I (A (bS k)) 9 = bits nt1 20 ∧ I (A (bS k)) 10 = nI q ∧ I (A (bS k)) 11 = v) → ¬ fsB (bkM so E Cn (upG gv q v) rg 2 q (fun _ => false)) (enW so E Cn (upG gv q v) rg cnt) = -1 → K (100 + nI (fsB (bkM so E Cn (upG gv q v) rg 2 q (fun _ => false)) (enW so E Cn (upG gv q v) rg cnt)).toNat) (hU h I (gJ h)))
    (k2 : ∀ I nt1, nt1 = nt0 nt (decide ((q : Int) = (gI h (A (bS k)) 10).toInt ∧ v.toInt = (gI h (A (bS k)) 11).toInt)) → sFr h A k I → sW (hU h I (gJ h)) A k cnt so E Cn rg gv av → (I (A (bS k)) 9 = bits (addN nt1 (fsB (bkM so E Cn (upG gv q v) rg 3 q nt1) (enW so E Cn (upG gv q v) rg cnt)).toNat) 20 ∧ I (A (bS k)) 10 = nI q ∧ I (A (bS k)) 11 = v) → fsB (bkM so E Cn (upG gv q v) rg 2 q (fun _ => false)) (enW so E Cn (upG gv q v) rg cnt) = -1 → ¬ fsB (bkM so E Cn (upG gv q v) rg 3 q nt1) (enW so E Cn (upG gv q v) rg cnt) = -1 → K (200 + nI (fsB (bkM so E Cn (upG gv q v) rg 3 q nt1) (enW so E Cn (upG gv q v) rg cnt)).toNat) (hU h I (gJ h)))
    (k3 : ∀ I nt1, nt1 = nt0 nt (decide ((q : Int) = (gI h (A (bS k)) 10).toInt ∧ v.toInt = (gI h (A (bS k)) 11).toInt)) → sFr h A k I → sW (hU h I (gJ h)) A k cnt so E Cn rg (tu so E Cn rg cnt cnt (upG gv q v) (upG av q (-2000000))).1 (tu so E Cn rg cnt cnt (upG gv q v) (upG av q (-2000000))).2 → I (A (bS k)) 9 = 0 → fsB (bkM so E Cn (upG gv q v) rg 2 q (fun _ => false)) (enW so E Cn (upG gv q v) rg cnt) = -1 → fsB (bkM so E Cn (upG gv q v) rg 3 q nt1) (enW so E Cn (upG gv q v) rg cnt) = -1 → K 0 (hU h I (gJ h))) : CI (d + 6) 155 [vR (A (bS k)), vI v] h K X := by
  have x' := x
  obtain ⟨⟨t, l, ⟨c1, c2, c3⟩, c4⟩, u, hk, hf, -⟩ := x'
  obtain ⟨w1, w2, w3, w4⟩ := w
  rw [hq] at w4
  have hqI : (nI q).toInt = q := ti_n (by omega)
  have z1 : ¬ ((q : Int) = -1) := by omega
  have z2 : (q : Int) < 20 := by omega
  have n3 : A (bS k) ≠ A (bS k + 3) := S_ne u (i := 0) (j := 3) (by omega) (by omega) (by omega)
  have n3' : A (bS k + 3) ≠ A (bS k) := n3.symm
  have n4 : A (bS k) ≠ A (bS k + 4) := S_ne u (i := 0) (j := 4) (by omega) (by omega) (by omega)
  have n4' : A (bS k + 4) ≠ A (bS k) := n4.symm
  have n43 := S_ne u (i := 4) (j := 3) (by omega) (by omega) (by omega)
  have n34 := S_ne u (i := 3) (j := 4) (by omega) (by omega) (by omega)
  have n24 := S_ne u (i := 2) (j := 4) (by omega) (by omega) (by omega)
  have n2' : A (bS k + 2) ≠ A (bS k) := S_ne u (i := 2) (j := 0) (by omega) (by omega) (by omega)
  have ea := en_abs (so := so) (E := E) (Cn := Cn) (gv := gv) (rg := rg) (cnt := cnt) (by rw [hq]; exact hc)
  rw [hq] at ea
  have b3 : bndI 20 (upG gv q v) := bnd_upG b1 (Or.inr bv)
  generalize hn1 : nt0 nt (decide ((q : Int) = (gI h (A (bS k)) 10).toInt ∧ v.toInt = (gI h (A (bS k)) 11).toInt)) = nt1 at k1 k2 k3
  -- behind the notes
  have main : ∀ I1 : Nat → Nat → Int32, (∀ a, a ≠ A (bS k) → I1 a = gI h a) → (∀ j, j ≠ 9 → I1 (A (bS k)) j = gI h (A (bS k)) j) → I1 (A (bS k)) 9 = bits nt1 20 → Wp (d + 6) 155 (33, [some (vR (A (bS k))), some (vI v), some (vI (nI q)), none], [], hU h I1 (gJ h)) (RI K X) := fun I1 i1 i2 i3 => by
    refine w155_33 ?_
    simp only [↓forall_eq, ↓inB_iff, gK_hU, gL_hU, gR_hU, gIh, gJh, pI_hU, pJ_hU, hU_hU, uI_app, uJ_app, and_true, true_and, and_false, false_and, and_self, true_implies, false_implies, not_true, not_false_iff, if_true, if_false, eq_self, Nat.reduceLeDiff, Nat.reduceEqDiff, reduceCtorEq, i32c, ti0, ti1, tiM, Int.natCast_nonneg, Int.reduceEq, Int.reduceLE, Int.reduceLT, Int.reduceNeg, tl_i, Int32.reduceToInt, Int64.reduceToInt, tiA, tlM6, Int.toNat_natCast, natc, nI_1, Int.zero_sub, implies_true, not_false_eq_true, kS_0 u, eS_0 u, rS_0_4 u, kS_3 u, lS_3 u, eS_3 u, hqI, z2]
    have F1 : sFr h A k (uI (uI (uI I1 (A (bS k)) 10 (nI q)) (A (bS k)) 11 v) (A (bS k + 3)) q v) := ⟨fun a a1 _ a3 _ => by rw [uI_ne _ _ _ a3, uI_ne _ _ _ a1, uI_ne _ _ _ a1, i1 a a1], fun j hj => by rw [uI_ne _ _ _ n3, uI_nj _ _ _ _ (by omega), uI_nj _ _ _ _ (by omega), i2 j (by omega)]⟩
    refine c_walkS (sX_hU (J := gJ h) x F1) (gv := upG gv q v) (av := av) (uI_row (I := uI (uI I1 (A (bS k)) 10 (nI q)) (A (bS k)) 11 v) (fun i hi => by rw [uI_ne _ _ _ n3', uI_ne _ _ _ n3', i1 _ n3']; exact w1 i hi)) (fun i hi => by rw [gIh, uI_ne _ _ _ n43, uI_ne _ _ _ n4', uI_ne _ _ _ n4', i1 _ n4']; exact w2 i hi) b3 fun I2 s2 t2 p2 m2 => ?_
    have F2 : sFr h A k I2 := sFr_trans (J := gJ h) F1 s2
    have hle2 := en_le (so := so) (E := E) (Cn := Cn) (gv := upG gv q v) (rg := rg) (cnt := cnt)
    have v9 : I2 (A (bS k)) 9 = bits nt1 20 := by rw [m2 9 (by omega), gIh, uI_ne _ _ _ n3, uI_nj _ _ _ _ (by decide), uI_nj _ _ _ _ (by decide)]; exact i3
    have v10 : I2 (A (bS k)) 10 = nI q := by rw [m2 10 (by omega), gIh, uI_ne _ _ _ n3, uI_nj _ _ _ _ (by decide), uI_same]
    have v11 : I2 (A (bS k)) 11 = v := by rw [m2 11 (by omega), gIh, uI_ne _ _ _ n3, uI_same]
    obtain ⟨t1, t2, t3, t4⟩ := t2
    simp only [↓forall_eq, ↓inB_iff, gK_hU, gL_hU, gR_hU, gIh, gJh, pI_hU, pJ_hU, hU_hU, uI_app, uJ_app, and_true, true_and, and_false, false_and, and_self, true_implies, false_implies, not_true, not_false_iff, if_true, if_false, eq_self, Nat.reduceLeDiff, Nat.reduceEqDiff, reduceCtorEq, i32c, ti0, ti1, tiM, Int.natCast_nonneg, Int.reduceEq, Int.reduceLE, Int.reduceLT, Int.reduceNeg, tl_i, Int32.reduceToInt, Int64.reduceToInt, tiA, tlM6, Int.toNat_natCast, natc, nI_1, Int.zero_sub, implies_true, not_false_eq_true, kS_0 u, eS_0 u]
    -- refused: as it was
    have undo : ∀ (I3 : Nat → Nat → Int32) (y : Int32), (∀ a, a ≠ A (bS k) → I3 a = I2 a) → (∀ j, j ≠ 9 → I3 (A (bS k)) j = I2 (A (bS k)) j) → (∀ I5, sFr h A k I5 → sW (hU h I5 (gJ h)) A k cnt so E Cn rg gv av → (I5 (A (bS k)) 9 = I3 (A (bS k)) 9 ∧ I5 (A (bS k)) 10 = nI q ∧ I5 (A (bS k)) 11 = v) → K y (hU h I5 (gJ h))) → CV (d + 5) 136 [vR (A (bS k))] (hU h (uI I3 (A (bS k + 3)) q (-2000000)) (gJ h)) (fun h9 => K y h9) X := fun I3 y g1 g2 kk => by
      have F3 : sFr h A k (uI I3 (A (bS k + 3)) q (-2000000)) := ⟨fun a a1 a2 a3 a4 => by rw [uI_ne _ _ _ a3, g1 a a1, F2.1 a a1 a2 a3 a4], fun j hj => by rw [uI_ne _ _ _ n3, g2 j (by omega), F2.2 j hj]⟩
      refine c_walkS (sX_hU (J := gJ h) x F3) (gv := gv) (av := av) (fun i hi => ?_) (fun i hi => by rw [gIh, uI_ne _ _ _ n43, g1 _ n4']; exact t2 i hi) b1 fun I5 s5 t5 p5 m5 => ?_
      · have := uI_row (I := I3) (a := A (bS k + 3)) (q := q) (v := -2000000) (g := upG gv q v) (fun i hi => by rw [g1 _ n3']; exact t1 i hi) i hi
        rw [upG_back ea.1] at this
        exact this
      · refine kk I5 (sFr_trans (J := gJ h) F3 s5) t5 ⟨?_, ?_, ?_⟩
        · rw [m5 9 (by omega), gIh, uI_ne _ _ _ n3]
        · rw [m5 10 (by omega), gIh, uI_ne _ _ _ n3, g2 10 (by decide)]; exact v10
        · rw [m5 11 (by omega), gIh, uI_ne _ _ _ n3, g2 11 (by decide)]; exact v11
    have rng2 := fsB_rng (bkM so E Cn (upG gv q v) rg 2 q (fun _ => false)) (enW so E Cn (upG gv q v) rg cnt)
    have rng3 := fsB_rng (bkM so E Cn (upG gv q v) rg 3 q nt1) (enW so E Cn (upG gv q v) rg cnt)
    refine refusal_br (h := hU h I2 (gJ h)) u (by omega) (by omega) p2.1 p2.2 v9 (fun r1 => ?_) (fun r1 r2 => ?_) (fun r1 r2 => ?_)
    · generalize hm : (fsB (bkM so E Cn (upG gv q v) rg 2 q (fun _ => false)) (enW so E Cn (upG gv q v) rg cnt)).toNat = m at k1 ⊢
      have hy : ¬ ((100 : Int32) + nI m).toInt = 0 := by rw [show (100 : Int32) = nI 100 from rfl, nI_add, ti_n (by omega)]; omega
      simp only [↓forall_eq, ↓inB_iff, gK_hU, gL_hU, gR_hU, gIh, gJh, pI_hU, pJ_hU, hU_hU, uI_app, uJ_app, and_true, true_and, and_false, false_and, and_self, true_implies, false_implies, not_true, not_false_iff, if_true, if_false, eq_self, Nat.reduceLeDiff, Nat.reduceEqDiff, reduceCtorEq, i32c, ti0, ti1, tiM, Int.natCast_nonneg, Int.reduceEq, Int.reduceLE, Int.reduceLT, Int.reduceNeg, tl_i, Int32.reduceToInt, Int64.reduceToInt, tiA, tlM6, Int.toNat_natCast, natc, nI_1, Int.zero_sub, implies_true, not_false_eq_true, kS_0 u, rS_0_4 u, kS_3 u, lS_3 u, eS_3 u, hqI, z2, hy]
      exact undo I2 _ (fun _ _ => rfl) (fun _ _ => rfl) (fun I5 a1 a2 a3 => k1 I5 nt1 rfl a1 a2 (by rw [a3.1]; exact ⟨v9, a3.2⟩) r1)
    · generalize hm : (fsB (bkM so E Cn (upG gv q v) rg 3 q nt1) (enW so E Cn (upG gv q v) rg cnt)).toNat = m
      have hy : ¬ ((200 : Int32) + nI m).toInt = 0 := by rw [show (200 : Int32) = nI 200 from rfl, nI_add, ti_n (by omega)]; omega
      rw [bits_add (by omega)]
      simp only [↓forall_eq, ↓inB_iff, gK_hU, gL_hU, gR_hU, gIh, gJh, pI_hU, pJ_hU, hU_hU, uI_app, uJ_app, and_true, true_and, and_false, false_and, and_self, true_implies, false_implies, not_true, not_false_iff, if_true, if_false, eq_self, Nat.reduceLeDiff, Nat.reduceEqDiff, reduceCtorEq, i32c, ti0, ti1, tiM, Int.natCast_nonneg, Int.reduceEq, Int.reduceLE, Int.reduceLT, Int.reduceNeg, tl_i, Int32.reduceToInt, Int64.reduceToInt, tiA, tlM6, Int.toNat_natCast, natc, nI_1, Int.zero_sub, implies_true, not_false_eq_true, kS_0 u, rS_0_4 u, kS_3 u, lS_3 u, eS_3 u, hqI, z2, hy]
      refine undo (uI I2 (A (bS k)) 9 (bits (addN nt1 m) 20)) _ (fun a ha => by rw [uI_ne _ _ _ ha]) (fun j hj => by rw [uI_nj _ _ _ _ hj]) (fun I5 a1 a2 a3 => ?_)
      have := k2 I5 nt1 rfl a1 a2 (by rw [a3.1, uI_same, hm]; exact ⟨rfl, a3.2⟩) r1 r2
      rw [hm] at this
      exact this
    · simp only [↓forall_eq, ↓inB_iff, gK_hU, gL_hU, gR_hU, gIh, gJh, pI_hU, pJ_hU, hU_hU, uI_app, uJ_app, and_true, true_and, and_false, false_and, and_self, true_implies, false_implies, not_true, not_false_iff, if_true, if_false, eq_self, Nat.reduceLeDiff, Nat.reduceEqDiff, reduceCtorEq, i32c, ti0, ti1, tiM, Int.natCast_nonneg, Int.reduceEq, Int.reduceLE, Int.reduceLT, Int.reduceNeg, tl_i, Int32.reduceToInt, Int64.reduceToInt, tiA, tlM6, Int.toNat_natCast, natc, nI_1, Int.zero_sub, implies_true, not_false_eq_true, kS_0 u, rS_0_5 u, kS_4 u, lS_4 u, eS_4 u, hqI, z2]
      have F3 : sFr h A k (uI (uI I2 (A (bS k)) 9 0) (A (bS k + 4)) q (-2000000)) := ⟨fun a a1 a2 a3 a4 => by rw [uI_ne _ _ _ a4, uI_ne _ _ _ a1, F2.1 a a1 a2 a3 a4], fun j hj => by rw [uI_ne _ _ _ n4, uI_nj _ _ _ _ (by omega), F2.2 j hj]⟩
      refine c_asides (sX_hU (J := gJ h) x F3) (gv := upG gv q v) (av := upG av q (-2000000)) ⟨fun i hi => ?_, uI_row (I := uI I2 (A (bS k)) 9 0) (fun i hi => by rw [uI_ne _ _ _ n4']; exact t2 i hi), fun i hi => ?_, ?_⟩ b3 (bnd_upG b2 (Or.inl rfl)) fun I5 s5 t5 m5 => k3 I5 nt1 rfl (sFr_trans (J := gJ h) F3 s5) t5 ?_ r1 r2
      · rw [gIh, uI_ne _ _ _ n34, uI_ne _ _ _ n3']; exact t1 i hi
      · rw [gIh, uI_ne _ _ _ n24, uI_ne _ _ _ n2']; exact t3 i hi
      · rw [gIh, uI_ne _ _ _ n4, uI_nj _ _ _ _ (by decide)]; exact t4
      · rw [m5 9 (by omega), gIh, uI_ne _ _ _ n4, uI_same]
  refine m155 ?_
  simp only [↓forall_eq, ↓inB_iff, gK_hU, gL_hU, gR_hU, gIh, gJh, pI_hU, pJ_hU, hU_hU, uI_app, uJ_app, and_true, true_and, and_false, false_and, and_self, true_implies, false_implies, not_true, not_false_iff, if_true, if_false, eq_self, Nat.reduceLeDiff, Nat.reduceEqDiff, reduceCtorEq, i32c, ti0, ti1, tiM, Int.natCast_nonneg, Int.reduceEq, Int.reduceLE, Int.reduceLT, Int.reduceNeg, tl_i, Int32.reduceToInt, Int64.reduceToInt, tiA, tlM6, Int.toNat_natCast, natc, nI_1, Int.zero_sub, implies_true, not_false_eq_true, kS_0 u, eS_0 u, ↓asked_br x w4 (Nat.le_of_lt hc), hc, hqI, z1]
  have nz : ∀ c : ¬ ((q : Int) = (gI h (A (bS k)) 10).toInt ∧ v.toInt = (gI h (A (bS k)) 11).toInt), bits nt1 20 = 0 := fun c => by
    rw [← hn1, decide_eq_false c]
    have : nt0 nt false = fun _ => false := by funext i; unfold nt0; simp
    rw [this]; exact bits_0 20
  refine ⟨fun c5 => ⟨fun c6 => ?_, fun c6 => ?_⟩, fun c5 => ?_⟩
  · refine main (gI h) (fun _ _ => rfl) (fun _ _ => rfl) ?_
    rw [← hn1, decide_eq_true ⟨c5, c6⟩]
    have : nt0 nt true = nt := by funext i; unfold nt0; simp
    rw [this]; exact h9
  · rw [pI_eq]
    exact main _ (fun a ha => by rw [uI_ne _ _ _ ha]) (fun j hj => by rw [uI_nj _ _ _ _ hj]) (by rw [uI_same, nz (fun z => c6 z.2)])
  · rw [pI_eq]
    exact main _ (fun a ha => by rw [uI_ne _ _ _ ha]) (fun j hj => by rw [uI_nj _ _ _ _ hj]) (by rw [uI_same, nz (fun z => c5 z.1)])
end SSC
