/-! THE REGISTER'S AREA: numbers as they were known; the class's methods -/
section RGA
variable {d U T bu bt : Nat} {h h1 : aH} {A A1 o o1 : Nat → Nat} {X : Nat → aH → Prop} {M M1 : Nat → Nat → Int32} {into iday : Nat → Int32} {I : Nat → Nat → Int32} {J : Nat → Nat → Int64}
/-- who is last -/
def lastM (M : Nat → Nat → Int32) (kn : Int) (x : Nat) : Nat := lastF (M 45) (M 46) kn 99 x
def cntM (M : Nat → Nat → Int32) (fi da kn : Int) (w k : Nat) : Bool := decide ((M 48 k).toInt = fi) && (decide ((M 49 k).toInt ≤ da) && (decide ((M 51 k).toInt ≤ kn) && decide (lastM M kn (M 47 k).toInt.toNat = w)))
/-- the best telling among the first n: its number, or -1 -/
def bestM (M : Nat → Nat → Int32) (fi da kn : Int) (w : Nat) : Nat → Int
  | 0 => -1
  | n + 1 => if cntM M fi da kn w n = true ∧ (bestM M fi da kn w n = -1 ∨ (M 49 (bestM M fi da kn w n).toNat).toInt ≤ (M 49 n).toInt) then n else bestM M fi da kn w n
def newM (M : Nat → Nat → Int32) (fi da kn : Int) (w n : Nat) : Int32 := if bestM M fi da kn w n = -1 then -1 else M 49 (bestM M fi da kn w n).toNat
def valM (M : Nat → Nat → Int32) (fi da kn : Int) (w n : Nat) : Int32 := if bestM M fi da kn w n = -1 then -2000000 else M 50 (bestM M fi da kn w n).toNat
theorem cnt_iff {fi da kn : Int} {w k : Nat} : cntM M fi da kn w k = true ↔ ((M 48 k).toInt = fi ∧ (M 49 k).toInt ≤ da ∧ (M 51 k).toInt ≤ kn ∧ lastM M kn (M 47 k).toInt.toNat = w) := by
  simp only [cntM, Bool.and_eq_true, decide_eq_true_eq]
theorem best_rng {fi da kn : Int} {w : Nat} : ∀ n, bestM M fi da kn w n = -1 ∨ (0 ≤ bestM M fi da kn w n ∧ bestM M fi da kn w n < n) := by
  intro n
  induction n with
  | zero => exact Or.inl rfl
  | succ n ih =>
    rw [bestM]
    split
    · exact Or.inr ⟨by omega, by omega⟩
    · rcases ih with e | e
      · exact Or.inl e
      · exact Or.inr ⟨e.1, by omega⟩
theorem best_no {fi da kn : Int} {w n : Nat} (hc : ¬ (cntM M fi da kn w n = true ∧ (bestM M fi da kn w n = -1 ∨ (M 49 (bestM M fi da kn w n).toNat).toInt ≤ (M 49 n).toInt))) : newM M fi da kn w (n + 1) = newM M fi da kn w n ∧ valM M fi da kn w (n + 1) = valM M fi da kn w n := by
  have e : bestM M fi da kn w (n + 1) = bestM M fi da kn w n := by rw [bestM, if_neg hc]
  unfold newM valM
  rw [e]
  exact ⟨rfl, rfl⟩
theorem best_yes {fi da kn : Int} {w n : Nat} (hc : cntM M fi da kn w n = true ∧ (bestM M fi da kn w n = -1 ∨ (M 49 (bestM M fi da kn w n).toNat).toInt ≤ (M 49 n).toInt)) : newM M fi da kn w (n + 1) = M 49 n ∧ valM M fi da kn w (n + 1) = M 50 n := by
  have e : bestM M fi da kn w (n + 1) = n := by rw [bestM, if_pos hc]
  unfold newM valM
  rw [e, if_neg (by omega), if_neg (by omega)]
  exact ⟨rfl, rfl⟩
theorem best_cmp {fi da kn : Int} {w n : Nat} (h0 : 0 ≤ (M 49 n).toInt) : (bestM M fi da kn w n = -1 ∨ (M 49 (bestM M fi da kn w n).toNat).toInt ≤ (M 49 n).toInt) ↔ (newM M fi da kn w n).toInt ≤ (M 49 n).toInt := by
  unfold newM
  split
  · rename_i e
    rw [tiM]
    constructor
    · intro _; omega
    · intro _; exact Or.inl e
  · rename_i e
    constructor
    · rintro (q | q)
      · exact absurd q e
      · exact q
    · exact Or.inr
theorem rows_hU {a b w lim n : Nat} (R : rowsOK h a b w lim n) (e : I a = gI h a) : rowsOK (hU h I J) a b w lim n :=
  ⟨R.1, by show I a 0 = _ ∧ I a 1 = _ ∧ I a 3 = _; rw [e]; exact R.2.1, R.2.2⟩
theorem units_hU (R : unitsC h bu U into iday) (e1 : I 10 = gI h 10) (e2 : I bu = gI h bu) : unitsC (hU h I J) bu U into iday := ⟨rows_hU R.1 e1, fun r hr => by show I bu _ = _ ∧ (_ → I bu _ = _); rw [e2]; exact R.2 r hr⟩
theorem size_br {a b w lim n : Nat} {K : Int32 → aH → Prop} (R : rowsOK h a b w lim n) (e : I a = gI h a) : CI d 28 [vR a] (hU h I J) K X ↔ K (nI n) (hU h I J) := CI_iff fun K X w => c_size (rows_hU R e) w
theorem at_br {a b w lim n k c : Nat} {y : Int32} {K : Int32 → aH → Prop} (R : rowsOK h a b w lim n) (hk : k < n) (hy : y = nI c) (hc : c < w) (e : I a = gI h a) : CI (d + 1) 32 [vR a, vI (nI k), vI y] (hU h I J) K X ↔ K (I b (k * w + c)) (hU h I J) := by
  have hn := R.2.2.2.2
  exact CI_iff fun K X w => c_at (h := hU h I J) c (rows_hU R e) (by rw [ti_n (by omega)]; omega) (by rw [ti_n (by omega)]; omega) hy hc (by rw [ti_n (by omega)]; exact w)
theorem lastc_br {K : Int32 → aH → Prop} {x kn : Int32} (f : CF h) (R : unitsC h bu U (M 45) (M 46)) (fo : forest (M 45) U) (h0 : 0 ≤ x.toInt) (h1 : x.toInt < U) (e1 : I 10 = gI h 10) (e2 : I bu = gI h bu) : CI (d + 2) 42 [vR 9, vI x, vI kn] (hU h I J) K X ↔ K (nI (lastM M kn.toInt x.toInt.toNat)) (hU h I J) :=
  CI_iff fun K X w => c_last (h := hU h I J) f (units_hU R e1 e2) fo h0 h1 w
theorem lastM_lt {x : Nat} {kn : Int} (fo : forest (M 45) U) (hx : x < U) : lastM M kn x < U := last_lt fo 99 x hx
/-- one way through the tellings -/
theorem c_findw {fi da kn : Int32} {K : aH → Prop} (f : CF h) (R : unitsC h bu U (M 45) (M 46)) (R2 : tellC h bt T (M 47) (M 48) (M 49) (M 50) (M 51)) (fo : forest (M 45) U) (hb : bu ≠ 14 ∧ bu ≠ 15 ∧ bt ≠ 14 ∧ bt ≠ 15)
    (hd : ∀ r, r < T → (0 ≤ (M 47 r).toInt ∧ (M 47 r).toInt < U) ∧ 0 ≤ (M 49 r).toInt)
    (kk : ∀ I : Nat → Nat → Int32, (∀ a, a ≠ 14 → a ≠ 15 → I a = gI h a) → (∀ w, w < 100 → I 15 w = valM M fi.toInt da.toInt kn.toInt w T) → K (hU h I (gJ h))) :
    ∀ (m k : Nat) (I : Nat → Nat → Int32), k + m = T → (∀ a, a ≠ 14 → a ≠ 15 → I a = gI h a) → (∀ w, w < 100 → I 14 w = newM M fi.toInt da.toInt kn.toInt w k ∧ I 15 w = valM M fi.toInt da.toInt kn.toInt w k) →
      Wp (d + 3) 49 (20, [some (vR 9), some (vI fi), some (vI da), some (vI kn), some (vI (nI k)), none, none], [], hU h I (gJ h)) (RV K X) := by
  have hU9 : U ≤ 100 := R.1.2.2.2.2.2.2.2
  have hT9 : T ≤ 1500 := R2.1.2.2.2.2.2.2.2
  intro m
  induction m with
  | zero =>
    intro k I hk hI hv
    have hkT : (nI k).toInt = (nI T).toInt := by rw [show k = T by omega]
    refine w49_20 ?_
    simp only [↓forall_eq, ↓inB_iff, gK_hU, gL_hU, gR_hU, gIh, gJh, pI_hU, pJ_hU, hU_hU, uI_app, uJ_app, and_true, true_and, and_false, false_and, and_self, true_implies, false_implies, not_true, not_false_iff, if_true, if_false, eq_self, Nat.reduceLeDiff, Nat.reduceEqDiff, reduceCtorEq, i32c, ti0, ti1, tiM, Int.natCast_nonneg, Int.reduceEq, Int.reduceLE, Int.reduceLT, Int.reduceNeg, tl_i, Int32.reduceToInt, Int64.reduceToInt, tiA, tlM6, Int.toNat_natCast, natc, nI_1, Int.zero_sub, implies_true, not_false_eq_true, ck_9 f, cr_9_1 f, ck_12 f, ↓size_br R2.1, hI 12 (by decide) (by decide), hkT, Int.lt_irrefl]
    exact kk I hI (fun w hw => by rw [show T = k by omega]; exact (hv w hw).2)
  | succ m ih =>
    intro k I hk hI hv
    have hkT : (nI k).toInt = k := ti_n (by omega)
    have hTT : (nI T).toInt = T := ti_n (by omega)
    have hlt : (k : Int) < T := by omega
    obtain ⟨⟨d1, d2⟩, d3⟩ := hd k (by omega)
    obtain ⟨v0, v1, v2, v3, v4⟩ := R2.2 k (by omega)
    have e12 := hI 12 (by decide) (by decide)
    have e10 := hI 10 (by decide) (by decide)
    have ebt := hI bt hb.2.2.1 hb.2.2.2
    have ebu := hI bu hb.1 hb.2.1
    have hl := lastM_lt (M := M) (kn := kn.toInt) fo (show (M 47 k).toInt.toNat < U by omega)
    have hlI : (nI (lastM M kn.toInt (M 47 k).toInt.toNat)).toInt = (lastM M kn.toInt (M 47 k).toInt.toNat : Nat) := ti_n (by omega)
    have hl0 : ¬ ((lastM M kn.toInt (M 47 k).toInt.toNat : Nat) : Int) < 0 := by omega
    have hl1 : ((lastM M kn.toInt (M 47 k).toInt.toNat : Nat) : Int) < 100 := by omega
    have h14 : ∀ (j : Nat) (x : Int32), uI I 14 j x 12 = gI h 12 := fun j x => by rw [uI_ne _ _ _ (by decide), e12]
    have b14 : ∀ (j : Nat) (x : Int32), uI I 14 j x bt = gI h bt := fun j x => by rw [uI_ne _ _ _ hb.2.2.1, ebt]
    have b14' : ∀ (j : Nat) (x : Int32) (i : Nat), uI I 14 j x bt i = gI h bt i := fun j x i => by rw [b14]
    have next : ∀ I' : Nat → Nat → Int32, (∀ a, a ≠ 14 → a ≠ 15 → I' a = gI h a) → (∀ w, w < 100 → I' 14 w = newM M fi.toInt da.toInt kn.toInt w (k + 1) ∧ I' 15 w = valM M fi.toInt da.toInt kn.toInt w (k + 1)) → Wp (d + 3) 49 (20, [some (vR 9), some (vI fi), some (vI da), some (vI kn), some (vI (nI (k + 1))), none, none], [], hU h I' (gJ h)) (RV K X) := fun I' a b => ih (k + 1) I' (by omega) a b
    have skip : (∀ w, ¬ (cntM M fi.toInt da.toInt kn.toInt w k = true ∧ (bestM M fi.toInt da.toInt kn.toInt w k = -1 ∨ (M 49 (bestM M fi.toInt da.toInt kn.toInt w k).toNat).toInt ≤ (M 49 k).toInt))) → Wp (d + 3) 49 (20, [some (vR 9), some (vI fi), some (vI da), some (vI kn), some (vI (nI (k + 1))), none, none], [], hU h I (gJ h)) (RV K X) := fun q =>
      next I hI (fun w hw => by have e := best_no (q w); rw [e.1, e.2]; exact hv w hw)
    refine w49_20 ?_
    simp only [↓forall_eq, ↓inB_iff, gK_hU, gL_hU, gR_hU, gIh, gJh, pI_hU, pJ_hU, hU_hU, uI_app, uJ_app, and_true, true_and, and_false, false_and, and_self, true_implies, false_implies, not_true, not_false_iff, if_true, if_false, eq_self, Nat.reduceLeDiff, Nat.reduceEqDiff, reduceCtorEq, i32c, ti0, ti1, tiM, Int.natCast_nonneg, Int.reduceEq, Int.reduceLE, Int.reduceLT, Int.reduceNeg, tl_i, Int32.reduceToInt, Int64.reduceToInt, tiA, tlM6, Int.toNat_natCast, natc, nI_1, Int.zero_sub, implies_true, not_false_eq_true, ck_9 f, cr_9_1 f, cr_9_2 f, cr_9_3 f, ck_12 f, ck_14 f, cl_14 f, ck_15 f, cl_15 f, ↓size_br R2.1, ↓at_br R2.1 (show k < T by omega) (show (0 : Int32) = nI 0 from rfl) (show 0 < 5 by decide), ↓at_br R2.1 (show k < T by omega) (show (1 : Int32) = nI 1 from rfl) (show 1 < 5 by decide), ↓at_br R2.1 (show k < T by omega) (show (2 : Int32) = nI 2 from rfl) (show 2 < 5 by decide), ↓at_br R2.1 (show k < T by omega) (show (3 : Int32) = nI 3 from rfl) (show 3 < 5 by decide), ↓at_br R2.1 (show k < T by omega) (show (4 : Int32) = nI 4 from rfl) (show 4 < 5 by decide), ↓lastc_br f R fo d1 d2, e12, e10, ebt, ebu, h14, b14, b14', v0, v1, v2, v3, v4, hkT, hTT, hlt, hlI, hl0, hl1, hb.2.2.1]
    have hl2 : lastM M kn.toInt (M 47 k).toInt.toNat < 100 := by omega
    refine ⟨fun c1 => ⟨fun c2 => ?_, fun c2 => ⟨fun c3 => ?_, fun c3 => ⟨fun c4 => ?_, fun c4 => ?_⟩⟩⟩, fun c1 => ?_⟩
    · exact skip fun w q => by rw [cnt_iff] at q; omega
    · exact skip fun w q => by rw [cnt_iff] at q; omega
    · refine skip fun w q => ?_
      obtain ⟨q1, q2⟩ := q
      rw [best_cmp d3] at q2
      rw [cnt_iff] at q1
      rw [(hv _ hl2).1, q1.2.2.2] at c4
      omega
    · refine next _ (fun a a1 a2 => by rw [uI_ne _ _ _ a2, uI_ne _ _ _ a1, hI a a1 a2]) (fun w hw => ?_)
      rw [(hv _ hl2).1] at c4
      by_cases e : w = lastM M kn.toInt (M 47 k).toInt.toNat
      · have y := best_yes (M := M) (fi := fi.toInt) (da := da.toInt) (kn := kn.toInt) (w := w) (n := k) ⟨cnt_iff.mpr ⟨c1, by omega, by omega, e.symm⟩, by rw [best_cmp d3, e]; omega⟩
        rw [y.1, y.2]
        simp only [uI_app, e, and_self, if_true, Nat.reduceEqDiff, false_and, if_false]
      · have y := best_no (M := M) (fi := fi.toInt) (da := da.toInt) (kn := kn.toInt) (w := w) (n := k) (fun q => by rw [cnt_iff] at q; exact e q.1.2.2.2.symm)
        rw [y.1, y.2]
        simp only [uI_app, e, and_false, if_false]
        exact hv w hw
    · exact skip fun w q => by rw [cnt_iff] at q; omega
theorem best_0 {fi da kn : Int} {w : Nat} : newM M fi da kn w 0 = -1 ∧ valM M fi da kn w 0 = -2000000 := ⟨rfl, rfl⟩
theorem fill_br {a n : Nat} {v : Int32} {K : aH → Prop} (a8 : 8 ≤ a) (ka : gK h a = 100) (la : gL h a = n) (hn : n < 2147483648) (k : ∀ I' : Nat → Nat → Int32, (∀ i, i < n → I' a i = v) → (∀ b, b ≠ a → I' b = I b) → K (hU h I' J)) : CV d 48 [vR a, vI v] (hU h I J) K X := by
  have main : ∀ (m i : Nat) (I' : Nat → Nat → Int32), i + m = n → (∀ j, j < i → I' a j = v) → (∀ b, b ≠ a → I' b = I b) → Wp d 48 (5, [some (vR a), some (vI v), some (vI (nI i)), some (vI (nI n))], [], hU h I' J) (RV K X) := by
    intro m
    induction m with
    | zero =>
      intro i I' hi h1 h2
      refine w48_5 ⟨fun c => absurd c ?_, fun _ => k I' (fun j hj => h1 j (by omega)) h2⟩
      rw [ti_n (by omega), ti_n (by omega)]; omega
    | succ m ih =>
      intro i I' hi h1 h2
      have e1 : (nI i).toInt = i := ti_n (by omega)
      have e2 : (nI n).toInt = n := ti_n (by omega)
      refine w48_5 ?_
      simp only [↓forall_eq, ↓inB_iff, gK_hU, gL_hU, gR_hU, gIh, gJh, pI_hU, pJ_hU, hU_hU, uI_app, uJ_app, and_true, true_and, and_false, false_and, and_self, true_implies, false_implies, not_true, not_false_iff, if_true, if_false, eq_self, Nat.reduceLeDiff, Nat.reduceEqDiff, reduceCtorEq, i32c, ti0, ti1, tiM, Int.natCast_nonneg, Int.reduceEq, Int.reduceLE, Int.reduceLT, Int.reduceNeg, tl_i, Int32.reduceToInt, Int64.reduceToInt, tiA, tlM6, Int.toNat_natCast, natc, nI_1, Int.zero_sub, implies_true, not_false_eq_true, ka, la, e1, e2, a8]
      refine ⟨fun c => ⟨by omega, ih (i + 1) _ (by omega) (fun j hj => ?_) (fun b hb => by rw [uI_ne _ _ _ hb, h2 b hb])⟩, fun c => absurd (by omega) c⟩
      rw [uI_app]
      by_cases q : j = i
      · rw [if_pos ⟨rfl, q⟩]
      · rw [if_neg (fun w => q w.2)]; exact h1 j (by omega)
  refine m48 ?_
  simp only [↓forall_eq, ↓inB_iff, gK_hU, gL_hU, gR_hU, gIh, gJh, pI_hU, pJ_hU, hU_hU, uI_app, uJ_app, and_true, true_and, and_false, false_and, and_self, true_implies, false_implies, not_true, not_false_iff, if_true, if_false, eq_self, Nat.reduceLeDiff, Nat.reduceEqDiff, reduceCtorEq, i32c, ti0, ti1, tiM, Int.natCast_nonneg, Int.reduceEq, Int.reduceLE, Int.reduceLT, Int.reduceNeg, tl_i, Int32.reduceToInt, Int64.reduceToInt, tiA, tlM6, Int.toNat_natCast, natc, nI_1, Int.zero_sub, implies_true, not_false_eq_true, ka, la]
  exact main n 0 I (by omega) (fun j hj => by omega) (fun _ _ => rfl)
/-- the numbers of all units that are last of some -/
theorem c_find {fi da kn : Int32} {K : aH → Prop} (f : CF h) (R : unitsC h bu U (M 45) (M 46)) (R2 : tellC h bt T (M 47) (M 48) (M 49) (M 50) (M 51)) (fo : forest (M 45) U) (hb : bu ≠ 14 ∧ bu ≠ 15 ∧ bt ≠ 14 ∧ bt ≠ 15)
    (hd : ∀ r, r < T → (0 ≤ (M 47 r).toInt ∧ (M 47 r).toInt < U) ∧ 0 ≤ (M 49 r).toInt)
    (kk : ∀ I : Nat → Nat → Int32, (∀ a, a ≠ 14 → a ≠ 15 → I a = gI h a) → (∀ w, w < 100 → I 15 w = valM M fi.toInt da.toInt kn.toInt w T) → K (hU h I (gJ h))) : CV (d + 3) 49 [vR 9, vI fi, vI da, vI kn] h K X := by
  refine m49 ?_
  simp only [ck_9 f, cr_9_2 f, cr_9_3 f, true_and]
  refine fill_br (h := h) (I := gI h) (J := gJ h) (by decide) (ck_14 f) (cl_14 f) (by decide) fun I1 a1 a2 => ?_
  simp only [↓forall_eq, ↓inB_iff, gK_hU, gL_hU, gR_hU, gIh, gJh, pI_hU, pJ_hU, hU_hU, uI_app, uJ_app, and_true, true_and, and_false, false_and, and_self, true_implies, false_implies, not_true, not_false_iff, if_true, if_false, eq_self, Nat.reduceLeDiff, Nat.reduceEqDiff, reduceCtorEq, i32c, ti0, ti1, tiM, Int.natCast_nonneg, Int.reduceEq, Int.reduceLE, Int.reduceLT, Int.reduceNeg, tl_i, Int32.reduceToInt, Int64.reduceToInt, tiA, tlM6, Int.toNat_natCast, natc, nI_1, Int.zero_sub, implies_true, not_false_eq_true, ck_9 f, cr_9_2 f, cr_9_3 f]
  refine fill_br (h := h) (I := I1) (J := gJ h) (by decide) (ck_15 f) (cl_15 f) (by decide) fun I2 b1 b2 => ?_
  exact c_findw f R R2 fo hb hd kk T 0 I2 (by omega) (fun a q1 q2 => by rw [b2 a q2, a2 a q1]) (fun w hw => ⟨by rw [b2 14 (by decide), a1 w hw]; rfl, by rw [b1 w hw]; rfl⟩)
theorem c_numberOf {u fi da kn : Int32} {K : Int32 → aH → Prop} (f : CF h) (R : unitsC h bu U (M 45) (M 46)) (R2 : tellC h bt T (M 47) (M 48) (M 49) (M 50) (M 51)) (fo : forest (M 45) U) (hb : bu ≠ 14 ∧ bu ≠ 15 ∧ bt ≠ 14 ∧ bt ≠ 15)
    (hd : ∀ r, r < T → (0 ≤ (M 47 r).toInt ∧ (M 47 r).toInt < U) ∧ 0 ≤ (M 49 r).toInt) (h0 : 0 ≤ u.toInt) (h1 : u.toInt < U)
    (kk : ∀ I : Nat → Nat → Int32, (∀ a, a ≠ 14 → a ≠ 15 → I a = gI h a) → K (valM M fi.toInt da.toInt kn.toInt (lastM M kn.toInt u.toInt.toNat) T) (hU h I (gJ h))) : CI (d + 4) 50 [vR 9, vI u, vI fi, vI da, vI kn] h K X := by
  have hU9 : U ≤ 100 := R.1.2.2.2.2.2.2.2
  have hl := lastM_lt (M := M) (kn := kn.toInt) fo (show u.toInt.toNat < U by omega)
  have hlI : (nI (lastM M kn.toInt u.toInt.toNat)).toInt = (lastM M kn.toInt u.toInt.toNat : Nat) := ti_n (by omega)
  refine m50 ⟨by decide, ck_9 f, c_find f R R2 fo hb hd fun I a1 a2 => ?_⟩
  simp only [↓forall_eq, ↓inB_iff, gK_hU, gL_hU, gR_hU, gIh, gJh, pI_hU, pJ_hU, hU_hU, uI_app, uJ_app, and_true, true_and, and_false, false_and, and_self, true_implies, false_implies, not_true, not_false_iff, if_true, if_false, eq_self, Nat.reduceLeDiff, Nat.reduceEqDiff, reduceCtorEq, i32c, ti0, ti1, tiM, Int.natCast_nonneg, Int.reduceEq, Int.reduceLE, Int.reduceLT, Int.reduceNeg, tl_i, Int32.reduceToInt, Int64.reduceToInt, tiA, tlM6, Int.toNat_natCast, natc, nI_1, Int.zero_sub, implies_true, not_false_eq_true, ck_9 f, cr_9_3 f, ck_15 f, cl_15 f, ↓lastc_br f R fo h0 h1 (a1 10 (by decide) (by decide)) (a1 bu hb.1 hb.2.1), hlI]
  refine ⟨fun c => absurd c (by omega), fun c => ⟨fun c2 => ?_, fun c2 => absurd (by omega) c2⟩⟩
  rw [a2 _ (by omega)]
  exact ⟨by omega, kk I a1⟩
end RGA
