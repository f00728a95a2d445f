/-! SAMPLES: the strata, the frame of the class -/
section SMP
variable {d U T bu bt : Nat} {h : aH} {A o : Nat → Nat} {X : Nat → aH → Prop} {M : Nat → Nat → Int32} {I : Nat → Nat → Int32} {J : Nat → Nat → Int64} {a1 a2 a3 a4 da : Int32}
def cntP (P : Nat → Bool) : Nat → Nat
  | 0 => 0
  | n + 1 => cntP P n + if P n = true then 1 else 0
def smP (P : Nat → Bool) (f : Nat → Int) : Nat → Int
  | 0 => 0
  | n + 1 => smP P f n + if P n = true then f n else 0
theorem cntP_le {P : Nat → Bool} : ∀ n, cntP P n ≤ n := by
  intro n
  induction n with
  | zero => exact Nat.le_refl _
  | succ n ih => rw [cntP]; split <;> omega
theorem cntP_cg {P Q : Nat → Bool} : ∀ n, (∀ i, i < n → P i = Q i) → cntP P n = cntP Q n := by
  intro n
  induction n with
  | zero => intro _; rfl
  | succ n ih => intro h; rw [cntP, cntP, ih (fun i hi => h i (by omega)), h n (by omega)]
theorem smP_cg {P Q : Nat → Bool} {f g : Nat → Int} : ∀ n, (∀ i, i < n → P i = Q i ∧ (P i = true → f i = g i)) → smP P f n = smP Q g n := by
  intro n
  induction n with
  | zero => intro _; rfl
  | succ n ih =>
    intro h
    rw [smP, smP, ih (fun i hi => h i (by omega)), (h n (by omega)).1]
    by_cases c : Q n = true
    · rw [if_pos c, if_pos c, (h n (by omega)).2 (by rw [(h n (by omega)).1]; exact c)]
    · rw [if_neg c, if_neg c]
theorem cntP_more {P : Nat → Bool} {n : Nat} (h : ∀ i, n ≤ i → P i = false) : ∀ m, cntP P (n + m) = cntP P n := by
  intro m
  induction m with
  | zero => rfl
  | succ m ih => rw [← Nat.add_assoc, cntP, ih, h _ (by omega), if_neg (by decide)]; rfl
/-- a number that is there -/
def thr (x : Int32) : Bool := !decide (x.toInt = -2000000)
/-- a unit's stratum -/
def stV (M : Nat → Nat → Int32) (U T : Nat) (a1 a2 a3 a4 da : Int32) (i : Nat) : Int32 := if i < U ∧ (M 45 i).toInt = -1 ∧ ¬ (valM M a1.toInt da.toInt da.toInt i T).toInt = -2000000 ∧ a2.toInt ≤ (valM M a1.toInt da.toInt da.toInt i T).toInt ∧ (valM M a1.toInt da.toInt da.toInt i T).toInt ≤ a3.toInt then valM M a4.toInt da.toInt da.toInt i T else -2000000
theorem merged_br {K : Int32 → aH → Prop} {k : Nat} (f : CF h) (R : unitsC h bu U (M 45) (M 46)) (fo : forest (M 45) U) (hk : k < U) (e1 : I 10 = gI h 10) (e2 : I bu = gI h bu) : CI (d + 2) 33 [vR 9, vI (nI k)] (hU h I J) K X ↔ (((M 45 k).toInt = -1 → K 0 (hU h I J)) ∧ (¬ (M 45 k).toInt = -1 → K 1 (hU h I J))) := by
  have u9 : U ≤ 100 := R.1.2.2.2.2.2.2.2
  have AT := fun (K : Int32 → aH → Prop) X => at_br (d := d) (J := J) (K := K) (X := X) R.1 hk (show (0 : Int32) = nI 0 from rfl) (show 0 < 2 by decide) e1
  have v : I bu (k * 2 + 0) = M 45 k := by rw [e2]; exact (R.2 k hk).1
  have H : ∀ (K : Int32 → aH → Prop) (X : Nat → aH → Prop), (((M 45 k).toInt = -1 → K 0 (hU h I J)) ∧ (¬ (M 45 k).toInt = -1 → K 1 (hU h I J))) → CI (d + 2) 33 [vR 9, vI (nI k)] (hU h I J) K X := fun K X w => by
    refine m33 ?_
    simp only [↓forall_eq, ↓inB_iff, gK_hU, gL_hU, gR_hU, gIh, gJh, pI_hU, pJ_hU, hU_hU, uI_app, uJ_app, and_true, true_and, and_false, false_and, and_self, true_implies, false_implies, not_true, not_false_iff, if_true, if_false, eq_self, Nat.reduceLeDiff, Nat.reduceEqDiff, reduceCtorEq, i32c, ti0, ti1, tiM, Int.natCast_nonneg, Int.reduceEq, Int.reduceLE, Int.reduceLT, Int.reduceNeg, tl_i, Int32.reduceToInt, Int64.reduceToInt, tiA, tlM6, Int.toNat_natCast, natc, nI_1, Int.zero_sub, implies_true, not_false_eq_true, ck_9 f, cr_9_0 f, ck_10 f, ↓AT, v]
    exact w
  by_cases q : (M 45 k).toInt = -1
  · rw [bz_t q]; exact CI_iff fun K X w => H K X ((bz_t q).mpr w)
  · rw [bz_f q]; exact CI_iff fun K X w => H K X ((bz_f q).mpr w)
theorem c_frame {K : Int32 → aH → Prop} (f : CF h) (R : unitsC h bu U (M 45) (M 46)) (R2 : tellC h bt T (M 47) (M 48) (M 49) (M 50) (M 51)) (fo : forest (M 45) U) (hb : bu ≠ 14 ∧ bu ≠ 15 ∧ bt ≠ 14 ∧ bt ≠ 15) (hb2 : bu ≠ 16 ∧ bt ≠ 16)
    (hd : ∀ r, r < T → (0 ≤ (M 47 r).toInt ∧ (M 47 r).toInt < U) ∧ 0 ≤ (M 49 r).toInt)
    (kk : ∀ I : Nat → Nat → Int32, (∀ a, a ≠ 14 → a ≠ 15 → a ≠ 16 → I a = gI h a) → (∀ i, i < 100 → I 16 i = stV M U T a1 a2 a3 a4 da i) → K (nI (cntP (fun i => thr (stV M U T a1 a2 a3 a4 da i)) U)) (hU h I (gJ h))) : CI (d + 4) 228 [vR 9, vI a1, vI a2, vI a3, vI a4, vI da] h K X := by
  have u9 : U ≤ 100 := R.1.2.2.2.2.2.2.2
  have hUI : (nI U).toInt = U := ti_n (by omega)
  have Ro : ∀ I : Nat → Nat → Int32, (∀ a, a ≠ 14 → a ≠ 15 → a ≠ 16 → I a = gI h a) → unitsC (hU h I (gJ h)) bu U (M 45) (M 46) ∧ tellC (hU h I (gJ h)) bt T (M 47) (M 48) (M 49) (M 50) (M 51) := fun I i1 => ⟨units_hU R (i1 10 (by decide) (by decide) (by decide)) (i1 bu hb.1 hb.2.1 hb2.1), rows_hU R2.1 (i1 12 (by decide) (by decide) (by decide)), fun r hr => by rw [gIh, i1 bt hb.2.2.1 hb.2.2.2 hb2.2]; exact R2.2 r hr⟩
  -- the numbers are put in, and counted
  have last : ∀ (n p : Nat) (I : Nat → Nat → Int32), p + n = 100 → (∀ a, a ≠ 14 → a ≠ 15 → a ≠ 16 → I a = gI h a) → (∀ w, w < 100 → I 15 w = valM M a4.toInt da.toInt da.toInt w T) → (∀ i, i < p → I 16 i = stV M U T a1 a2 a3 a4 da i) → (∀ i, p ≤ i → i < 100 → I 16 i = if i < U ∧ (M 45 i).toInt = -1 ∧ ¬ (valM M a1.toInt da.toInt da.toInt i T).toInt = -2000000 ∧ a2.toInt ≤ (valM M a1.toInt da.toInt da.toInt i T).toInt ∧ (valM M a1.toInt da.toInt da.toInt i T).toInt ≤ a3.toInt then 0 else -2000000) → Wp (d + 4) 228 (113, [some (vR 9), none, none, none, none, none, some (vI (nI (cntP (fun i => thr (stV M U T a1 a2 a3 a4 da i)) p))), some (vI (nI p))], [], hU h I (gJ h)) (RI K X) := by
    intro n
    induction n with
    | zero =>
      intro p I hp i1 i2 i3 i4
      have hpc : p = 100 := by omega
      subst hpc
      have t100 : (nI 100).toInt = 100 := rfl
      refine w228_113 ⟨fun c => by rw [t100] at c; omega, fun _ => ?_⟩
      have := kk I i1 i3
      have e := cntP_more (P := fun i => thr (stV M U T a1 a2 a3 a4 da i)) (n := U) (fun i hi => by unfold thr stV; rw [if_neg (fun z => by have := z.1; omega)]; rfl) (100 - U)
      rw [show U + (100 - U) = 100 by omega] at e
      rw [e]; exact this
    | succ n ih =>
      intro p I hp i1 i2 i3 i4
      have hpI : (nI p).toInt = p := ti_n (by omega)
      have z : (p : Int) < 100 := by omega
      have v4 := i4 p (Nat.le_refl _) (by omega)
      have nx := fun I' q1 q2 q3 q4 => ih (p + 1) I' (by omega) q1 q2 q3 q4
      refine w228_113 ?_
      simp only [↓forall_eq, ↓inB_iff, gK_hU, gL_hU, gR_hU, gIh, gJh, pI_hU, pJ_hU, hU_hU, uI_app, uJ_app, and_true, true_and, and_false, false_and, and_self, true_implies, false_implies, not_true, not_false_iff, if_true, if_false, eq_self, Nat.reduceLeDiff, Nat.reduceEqDiff, reduceCtorEq, i32c, ti0, ti1, tiM, Int.natCast_nonneg, Int.reduceEq, Int.reduceLE, Int.reduceLT, Int.reduceNeg, tl_i, Int32.reduceToInt, Int64.reduceToInt, tiA, tlM6, Int.toNat_natCast, natc, nI_1, Int.zero_sub, implies_true, not_false_eq_true, hpI, z, ck_9 f, cr_9_3 f, cr_9_4 f, ck_15 f, cl_15 f, ck_16 f, cl_16 f, i2 p (by omega)]
      by_cases c : p < U ∧ (M 45 p).toInt = -1 ∧ ¬ (valM M a1.toInt da.toInt da.toInt p T).toInt = -2000000 ∧ a2.toInt ≤ (valM M a1.toInt da.toInt da.toInt p T).toInt ∧ (valM M a1.toInt da.toInt da.toInt p T).toInt ≤ a3.toInt
      · rw [if_pos c] at v4
        have sv : stV M U T a1 a2 a3 a4 da p = valM M a4.toInt da.toInt da.toInt p T := if_pos c
        have st : ∀ i, i < p + 1 → uI I 16 p (valM M a4.toInt da.toInt da.toInt p T) 16 i = stV M U T a1 a2 a3 a4 da i := fun i hi => by
          rw [uI_app]
          by_cases e : i = p
          · rw [if_pos ⟨rfl, e⟩, e, sv]
          · rw [if_neg (fun w => e w.2)]; exact i3 i (by omega)
        have nx2 := nx (uI I 16 p (valM M a4.toInt da.toInt da.toInt p T)) (fun a q1 q2 q3 => by rw [uI_ne _ _ _ q3]; exact i1 a q1 q2 q3) (fun w hw => by rw [uI_ne _ _ _ (by decide)]; exact i2 w hw) st (fun i h1 h2 => by rw [uI_nj _ _ _ _ (by omega)]; exact i4 i (by omega) h2)
        rw [cntP] at nx2
        rw [v4]
        refine ⟨fun e => absurd e (by decide), fun _ => ⟨fun e => ?_, fun e => ?_⟩⟩
        · rw [if_neg (by unfold thr; rw [sv, decide_eq_true e]; decide), Nat.add_zero] at nx2
          first | exact nx2 | (rw [show ∀ x : Int32, x + 0 = x from Int32.add_zero]; exact nx2)
        · rw [if_pos (by unfold thr; rw [sv, decide_eq_false e]; rfl)] at nx2
          exact nx2
      · rw [if_neg c] at v4
        rw [v4]
        have sv : stV M U T a1 a2 a3 a4 da p = -2000000 := if_neg c
        have nx2 := nx I i1 i2 (fun i hi => by
          by_cases e : i = p
          · rw [e, v4, sv]
          · exact i3 i (by omega)) (fun i h1 h2 => i4 i (by omega) h2)
        rw [cntP, if_neg (by unfold thr; rw [sv]; decide), Nat.add_zero] at nx2
        exact ⟨fun _ => nx2, fun e => absurd rfl e⟩
  -- who is in the frame
  have first : ∀ (n p : Nat) (I : Nat → Nat → Int32), p + n = U → (∀ a, a ≠ 14 → a ≠ 15 → a ≠ 16 → I a = gI h a) → (∀ w, w < 100 → I 15 w = valM M a1.toInt da.toInt da.toInt w T) → (∀ i, i < 100 → I 16 i = if i < p ∧ (M 45 i).toInt = -1 ∧ ¬ (valM M a1.toInt da.toInt da.toInt i T).toInt = -2000000 ∧ a2.toInt ≤ (valM M a1.toInt da.toInt da.toInt i T).toInt ∧ (valM M a1.toInt da.toInt da.toInt i T).toInt ≤ a3.toInt then 0 else -2000000) → Wp (d + 4) 228 (21, [some (vR 9), none, some (vI a2), some (vI a3), some (vI a4), some (vI da), some (vI (nI p)), none], [], hU h I (gJ h)) (RI K X) := by
    intro n
    induction n with
    | zero =>
      intro p I hp i1 i2 i3
      have hpc : p = U := by omega
      subst hpc
      have SZ := fun (K : Int32 → aH → Prop) X => size_br (d := d + 3) (J := gJ h) (K := K) (X := X) R.1 (i1 10 (by decide) (by decide) (by decide))
      refine w228_21 ?_
      simp only [↓forall_eq, ↓inB_iff, gK_hU, gL_hU, gR_hU, gIh, gJh, pI_hU, pJ_hU, hU_hU, uI_app, uJ_app, and_true, true_and, and_false, false_and, and_self, true_implies, false_implies, not_true, not_false_iff, if_true, if_false, eq_self, Nat.reduceLeDiff, Nat.reduceEqDiff, reduceCtorEq, i32c, ti0, ti1, tiM, Int.natCast_nonneg, Int.reduceEq, Int.reduceLE, Int.reduceLT, Int.reduceNeg, tl_i, Int32.reduceToInt, Int64.reduceToInt, tiA, tlM6, Int.toNat_natCast, natc, nI_1, Int.zero_sub, implies_true, not_false_eq_true, ck_9 f, cr_9_0 f, ck_10 f, ↓SZ, Int.lt_irrefl]
      obtain ⟨q1, q2⟩ := Ro I i1
      refine c_find (d := d) (h := hU h I (gJ h)) f q1 q2 fo hb hd (fun I2 j1 j2 => ?_)
      refine last 100 0 I2 (by omega) (fun a z1 z2 z3 => by rw [j1 a z1 z2, gIh]; exact i1 a z1 z2 z3) j2 (fun i hi => by omega) (fun i _ hi => ?_)
      rw [j1 16 (by decide) (by decide), gIh]; exact i3 i hi
    | succ n ih =>
      intro p I hp i1 i2 i3
      have hpI : (nI p).toInt = p := ti_n (by omega)
      have z : (p : Int) < 100 := by omega
      have zU : (p : Int) < U := by omega
      have SZ := fun (K : Int32 → aH → Prop) X => size_br (d := d + 3) (J := gJ h) (K := K) (X := X) R.1 (i1 10 (by decide) (by decide) (by decide))
      have MG := fun (K : Int32 → aH → Prop) X => merged_br (d := d + 1) (k := p) (J := gJ h) (K := K) (X := X) f R fo (by omega) (i1 10 (by decide) (by decide) (by decide)) (i1 bu hb.1 hb.2.1 hb2.1)
      have skip : ¬ ((M 45 p).toInt = -1 ∧ ¬ (valM M a1.toInt da.toInt da.toInt p T).toInt = -2000000 ∧ a2.toInt ≤ (valM M a1.toInt da.toInt da.toInt p T).toInt ∧ (valM M a1.toInt da.toInt da.toInt p T).toInt ≤ a3.toInt) → Wp (d + 4) 228 (21, [some (vR 9), none, some (vI a2), some (vI a3), some (vI a4), some (vI da), some (vI (nI (p + 1))), none], [], hU h I (gJ h)) (RI K X) := fun c => by
        refine ih (p + 1) I (by omega) i1 i2 (fun i hi => ?_)
        rw [i3 i hi]
        by_cases e : i = p
        · subst e
          rw [if_neg (fun w => absurd w.1 (by omega)), if_neg (fun w => c w.2)]
        · by_cases l : i < p
          · have e1 : (i < p) = True := eq_true l
            have e2 : (i < p + 1) = True := eq_true (by omega)
            simp only [e1, e2, true_and, false_and]
          · have e1 : (i < p) = False := eq_false l
            have e2 : (i < p + 1) = False := eq_false (by omega)
            simp only [e1, e2, true_and, false_and]
      refine w228_21 ?_
      simp only [↓forall_eq, ↓inB_iff, gK_hU, gL_hU, gR_hU, gIh, gJh, pI_hU, pJ_hU, hU_hU, uI_app, uJ_app, and_true, true_and, and_false, false_and, and_self, true_implies, false_implies, not_true, not_false_iff, if_true, if_false, eq_self, Nat.reduceLeDiff, Nat.reduceEqDiff, reduceCtorEq, i32c, ti0, ti1, tiM, Int.natCast_nonneg, Int.reduceEq, Int.reduceLE, Int.reduceLT, Int.reduceNeg, tl_i, Int32.reduceToInt, Int64.reduceToInt, tiA, tlM6, Int.toNat_natCast, natc, nI_1, Int.zero_sub, implies_true, not_false_eq_true, ck_9 f, cr_9_0 f, ck_10 f, ↓SZ, hUI, hpI, z, zU, ↓MG, cr_9_3 f, cr_9_4 f, ck_15 f, cl_15 f, ck_16 f, cl_16 f, i2 p (by omega)]
      refine ⟨fun c1 => ⟨fun c2 => skip (fun w => w.2.1 c2), fun c2 => ⟨fun c3 => skip (fun w => by have := w.2.2.1; omega), fun c3 => ⟨fun c4 => skip (fun w => by have := w.2.2.2; omega), fun c4 => ?_⟩⟩⟩, fun c1 => skip (fun w => c1 w.1)⟩
      refine ih (p + 1) _ (by omega) (fun a q1 q2 q3 => by rw [uI_ne _ _ _ q3]; exact i1 a q1 q2 q3) (fun w hw => by rw [uI_ne _ _ _ (by decide)]; exact i2 w hw) (fun i hi => ?_)
      rw [uI_app]
      by_cases e : i = p
      · subst e
        rw [if_pos ⟨rfl, rfl⟩, if_pos ⟨by omega, c1, c2, by omega, by omega⟩]
      · rw [if_neg (fun w => e w.2), i3 i hi]
        by_cases l : i < p
        · have e1 : (i < p) = True := eq_true l
          have e2 : (i < p + 1) = True := eq_true (by omega)
          simp only [e1, e2, true_and, false_and]
        · have e1 : (i < p) = False := eq_false l
          have e2 : (i < p + 1) = False := eq_false (by omega)
          simp only [e1, e2, true_and, false_and]
  refine m228 ?_
  rw [cr_9_4 f]
  refine ⟨ck_9 f, ?_⟩
  have FL := fun (K : aH → Prop) X => fill_br (d := d + 3) (h := h) (I := gI h) (J := gJ h) (X := X) (K := K) (a := 16) (n := 100) (v := -2000000) (by decide) (ck_16 f) (cl_16 f) (by decide)
  rw [hU_eta] at FL
  refine FL _ _ (fun I1 i11 i12 => ?_)
  refine ⟨by decide, ck_9 f, ?_⟩
  have j1 : ∀ a, a ≠ 14 → a ≠ 15 → a ≠ 16 → I1 a = gI h a := fun a _ _ h3 => i12 a h3
  obtain ⟨q1, q2⟩ := Ro I1 j1
  refine c_find (d := d) (h := hU h I1 (gJ h)) f q1 q2 fo hb hd (fun I2 k1 k2 => ?_)
  refine first U 0 I2 (by omega) (fun a z1 z2 z3 => by rw [k1 a z1 z2, gIh]; exact j1 a z1 z2 z3) k2 (fun i hi => ?_)
  rw [k1 16 (by decide) (by decide), gIh, i11 i hi, if_neg (fun w => absurd w.1 (by omega))]
end SMP
