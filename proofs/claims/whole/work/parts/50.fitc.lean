/-! WHAT FITS: the class's side -/
section FTC
variable {d f s r n p : Nat} {it t t1 : Nat → Int32} {h : aH} {A o : Nat → Nat} {X : Nat → aH → Prop} {M : Nat → Nat → Int32} {I I1 : Nat → Nat → Int32} {J : Nat → Nat → Int64} {S : Int32}
/-- what the editor stands on -/
def edC (h : aH) (A o : Nat → Nat) (M : Nat → Nat → Int32) (f r : Nat) (it : Nat → Int32) : Prop := (CF h ∧ OL o) ∧ TF h A o f ∧ TR h A o r ∧ (f ≤ 60 ∧ r ≤ 60) ∧ (gI h (A (bF f)) 11 = nI (cnM M f) ∧ cnM M f ≤ 20) ∧ formR h A M f ∧ (∀ s, s < cnM M f → formB h A M f s ∧ gI h (A (bF f + 3)) s = soM M f s) ∧ gR h (A (bR r)) 0 = A (bF f) ∧ ∀ i, i < 20 → gI h (A (bR r + 1)) i = it i
/-- only the editor changes -/
def eFr (h : aH) (I : Nat → Nat → Int32) : Prop := ∀ c, c ≠ 32 → c ≠ 33 → I c = gI h c
theorem eF_out {j : Nat} (b3 : OL o) (t : TF h A o f) (hf : f ≤ 60) (hj : j < 12) : A (bF f + j) ≠ 32 ∧ A (bF f + j) ≠ 33 := by
  obtain ⟨kd, v⟩ := vF_j t hj
  have h1 := v.1
  unfold bF at h1 ⊢
  constructor
  · intro e; rw [e, ol_32 b3] at h1; omega
  · intro e; rw [e, ol_33 b3] at h1; omega
theorem eR_out {j : Nat} (b3 : OL o) (t : TR h A o r) (hf : r ≤ 60) (hj : j < 3) : A (bR r + j) ≠ 32 ∧ A (bR r + j) ≠ 33 := by
  obtain ⟨kd, v⟩ := vR_j t hj
  have h1 := v.1
  unfold bR at h1 ⊢
  constructor
  · intro e; rw [e, ol_32 b3] at h1; omega
  · intro e; rw [e, ol_33 b3] at h1; omega
theorem edC_hU (e : edC h A o M f r it) (s : eFr h I) : edC (hU h I J) A o M f r it := by
  obtain ⟨⟨e1, e2⟩, e3, e4, ⟨e5, e6⟩, ⟨e7, e8⟩, ⟨e9, e10, e11⟩, e12, e13, e14⟩ := e
  have ff : ∀ j, j < 12 → I (A (bF f + j)) = gI h (A (bF f + j)) := fun j hj => s _ (eF_out e2 e3 e5 hj).1 (eF_out e2 e3 e5 hj).2
  have rr : I (A (bR r + 1)) = gI h (A (bR r + 1)) := s _ (eR_out e2 e4 e6 (by omega)).1 (eR_out e2 e4 e6 (by omega)).2
  have f0 : I (A (bF f)) = gI h (A (bF f)) := ff 0 (by omega)
  refine ⟨⟨e1, e2⟩, e3, e4, ⟨e5, e6⟩, ⟨?_, e8⟩, ⟨e9, rows_hU e10 (ff 10 (by omega)), ?_⟩, ?_, e13, ?_⟩
  · rw [gIh, f0]; exact e7
  · rw [gIh, ff 11 (by omega)]; exact e11
  · unfold formB; rw [gIh, ff 3 (by omega), ff 4 (by omega), ff 5 (by omega), ff 6 (by omega)]; exact e12
  · rw [gIh, rr]; exact e14
theorem eFr_u {i : Nat} {x : Int32} (s : eFr h I) : eFr h (uI I 33 i x) := fun c h1 h2 => by rw [uI_ne _ _ _ h2]; exact s c h1 h2
theorem c_lower {K : Int32 → aH → Prop} (e : edC h A o M f r it) (ev : edV M f (gB S) it) : ∀ (n p : Nat) (t : Nat → Int32) (b : Bool) (I : Nat → Nat → Int32), p + n = nrM M f → eFr h I → tIn M f (gB S) it t → (∀ i, i < cnM M f → I 33 i = t i) →
    (∀ I1, eFr h I1 → I1 32 = I 32 → match psG M f (gB S) n p t b with | none => K 2 (hU h I1 J) | some (t1, b1) => (∀ i, i < cnM M f → I1 33 i = t1 i) → K (bI b1) (hU h I1 J)) → Wp (d + 3) 200 (5, [some (vR 32), some (vR (A (bF f))), some (vI S), some (vI (bI b)), some (vI (nI p)), none, none], [], hU h I J) (RI K X) := by
  intro n
  induction n with
  | zero =>
    intro p t b I hp s i v kk
    obtain ⟨⟨e1, e2⟩, e3, e4, ⟨e5, e6⟩, ⟨e7, e8⟩, R, e12, e13, e14⟩ := edC_hU (J := J) e s
    have hpn : p = nrM M f := by omega
    subst hpn
    have SZ := fun d K X => @size_br d (hU h I J) X I J (A (bF f + 10)) (A (bF f + 11)) 3 16 (nrM M f) K R.2.1 rfl
    simp only [hU_hU] at SZ
    refine w200_5 ?_
    simp only [↓forall_eq, ↓inB_iff, gK_hU, gL_hU, gR_hU, gIh, gJh, pI_hU, pJ_hU, hU_hU, uI_app, uJ_app, and_true, true_and, and_false, false_and, and_self, true_implies, false_implies, not_true, not_false_iff, if_true, if_false, eq_self, Nat.reduceLeDiff, Nat.reduceEqDiff, reduceCtorEq, i32c, ti0, ti1, tiM, Int.natCast_nonneg, Int.reduceEq, Int.reduceLE, Int.reduceLT, Int.reduceNeg, tl_i, Int32.reduceToInt, Int64.reduceToInt, tiA, tlM6, Int.toNat_natCast, natc, nI_1, Int.zero_sub, implies_true, not_false_eq_true, kF_0 e3, rF_0_9 e3, kF_10 e3, eF_10 e3, ↓SZ, Int.lt_irrefl]
    have := kk I s rfl
    rw [psG] at this
    exact this v
  | succ n ih =>
    intro p t b I hp s i v kk
    have eh := edC_hU (J := J) e s
    obtain ⟨⟨e1, e2⟩, e3, e4, ⟨e5, e6⟩, ⟨e7, e8⟩, R, e12, e13, e14⟩ := eh
    have n16 := nr16 R
    have hpI : (nI p).toInt = p := ti_n (by omega)
    have nI1 : (nI (nrM M f)).toInt = (nrM M f : Nat) := ti_n (by omega)
    have hlt : (p : Int) < (nrM M f : Nat) := by omega
    have hr : p < nrM M f := by omega
    have SZ := fun d K X => @size_br d (hU h I J) X I J (A (bF f + 10)) (A (bF f + 11)) 3 16 (nrM M f) K R.2.1 rfl
    have A0 := fun d K X => @at_br d (hU h I J) X I J (A (bF f + 10)) (A (bF f + 11)) 3 16 (nrM M f) p 0 0 K R.2.1 hr rfl (by decide) rfl
    have y0 : I (A (bF f + 11)) (p * 3 + 0) = M 82 (16 * f + p) := (R.2.2 p hr).1.1
    simp only [hU_hU, y0] at SZ A0
    have vv : itA (hU h I J) 33 (cnM M f) t := ⟨ck_33 e1, cl_33 e1, v⟩
    have bi := tIn_b ev i
    have xb := rxs_b (it := t) R bi e8 hr
    have zx := ti_z (z := rxs M f t p) (by omega) (by omega)
    rw [psG] at kk
    refine w200_5 ?_
    simp only [↓forall_eq, ↓inB_iff, gK_hU, gL_hU, gR_hU, gIh, gJh, pI_hU, pJ_hU, hU_hU, uI_app, uJ_app, and_true, true_and, and_false, false_and, and_self, true_implies, false_implies, not_true, not_false_iff, if_true, if_false, eq_self, Nat.reduceLeDiff, Nat.reduceEqDiff, reduceCtorEq, i32c, ti0, ti1, tiM, Int.natCast_nonneg, Int.reduceEq, Int.reduceLE, Int.reduceLT, Int.reduceNeg, tl_i, Int32.reduceToInt, Int64.reduceToInt, tiA, tlM6, Int.toNat_natCast, natc, nI_1, Int.zero_sub, implies_true, not_false_eq_true, kF_0 e3, eF_0 e3, rF_0_9 e3, kF_10 e3, eF_10 e3, ↓SZ, ck_32 e1, cr_32_0 e1, ↓excess_br e3 R vv bi e8 hr, ↓A0, hpI, nI1, hlt, zx]
    refine ⟨fun hx => ?_, fun hx => ?_⟩
    · rw [if_pos hx] at kk
      rcases rl_rng (R.2.2 p hr).2.1 e8 with ea | ea
      · rw [if_pos (Or.inl ea)] at kk
        rw [hasBit_no (by omega)]
        exact ⟨fun _ => kk I s rfl, fun c => absurd rfl c⟩
      · generalize ha : (M 82 (16 * f + p)).toInt.toNat = a at *
        have haa : M 82 (16 * f + p) = nI a := by rw [← ha]; exact ti_nat ea.1
        have haI : (nI a).toInt = a := ti_n (by omega)
        have ha1 : (rA M f p).toInt.toNat = a := ha
        have z20 : (a : Int) < 20 := by omega
        have b12 := (e12 a (by omega)).1
        rw [haa, hasBit_br (by omega)]
        simp only [↓forall_eq, ↓inB_iff, gK_hU, gL_hU, gR_hU, gIh, gJh, pI_hU, pJ_hU, hU_hU, uI_app, uJ_app, and_true, true_and, and_false, false_and, and_self, true_implies, false_implies, not_true, not_false_iff, if_true, if_false, eq_self, Nat.reduceLeDiff, Nat.reduceEqDiff, reduceCtorEq, i32c, ti0, ti1, tiM, Int.natCast_nonneg, Int.reduceEq, Int.reduceLE, Int.reduceLT, Int.reduceNeg, tl_i, Int32.reduceToInt, Int64.reduceToInt, tiA, tlM6, Int.toNat_natCast, natc, nI_1, Int.zero_sub, implies_true, not_false_eq_true, bI0, ck_32 e1, cr_32_0 e1, ck_33 e1, cl_33 e1, kF_0 e3, rF_0_3 e3, kF_4 e3, lF_4 e3, haI, z20, v a (by omega)]
        refine ⟨fun c => ?_, fun c => ?_⟩
        · rw [if_pos (Or.inr (Or.inl c))] at kk
          exact kk I s rfl
        · have hS : gB S a = true := bnf c
          have b1 := (i a).1 hS
          have b2 := ev.2.2.2.2.1 _ (ev.2.2.2.1 _ hS).1 (ev.2.2.2.1 _ hS).2
          have hz : (t a - iZ (rxs M f t p)).toInt = (t a).toInt - rxs M f t p := by rw [ti_sub (by rw [zx]; omega) (by rw [zx]; omega), zx]
          have hlo : (I (A (bF f + 4)) a).toInt = loM M f a := congrArg Int32.toInt b12.1
          rw [hz, hlo]
          refine ⟨fun c2 => ?_, fun c2 => ?_⟩
          · rw [if_pos (Or.inr (Or.inr c2))] at kk
            exact kk I s rfl
          · have hb : ¬ ((rA M f p).toInt = -1 ∨ gB S (rA M f p).toInt.toNat = false ∨ (t (rA M f p).toInt.toNat).toInt - rxs M f t p < loM M f (rA M f p).toInt.toNat) := by
              rw [ha1]
              rintro (q | q | q)
              · have : (M 82 (16 * f + p)).toInt = -1 := q
                omega
              · rw [hS] at q; cases q
              · exact c2 q
            have hb' := hb
            rw [ha1] at hb'
            rw [if_neg hb'] at kk
            obtain ⟨l1, -⟩ := low_in ev i hr hx hb
            have key : t a - iZ (rxs M f t p) = iZ ((t a).toInt - rxs M f t p) := ti_inj (by rw [hz, ti_z (by omega) (by omega)])
            refine ih (p + 1) (lowR M f t p) true _ (by omega) (eFr_u s) l1 (fun i9 h9 => ?_) (fun I1 s1 q1 => kk I1 s1 q1)
            unfold lowR upG
            rw [ha1, uI_app, key]
            by_cases c9 : i9 = a
            · rw [if_pos ⟨rfl, c9⟩, if_pos c9]
            · rw [if_neg (fun q => c9 q.2), if_neg c9]; exact v i9 h9
    · rw [if_neg hx] at kk
      exact ih (p + 1) t b I (by omega) s i v kk
theorem c_passes {K : Int32 → aH → Prop} (e : edC h A o M f r it) (ev : edV M f (gB S) it) : ∀ (n q : Nat) (t : Nat → Int32) (I : Nat → Nat → Int32), q + n = 12 → eFr h I → tIn M f (gB S) it t → (∀ i, i < cnM M f → I 33 i = t i) →
    (∀ I1, eFr h I1 → I1 32 = I 32 → match ftG M f (gB S) n t with | none => K 0 (hU h I1 J) | some t1 => (∀ i, i < cnM M f → I1 33 i = t1 i) → K 1 (hU h I1 J)) → Wp (d + 4) 201 (53, [some (vR 32), some (vR (A (bR r))), some (vI S), some (vI (nI q)), none], [], hU h I J) (RI K X) := by
  intro n
  induction n with
  | zero =>
    intro q t I hq s i v kk
    have hq12 : q = 12 := by omega
    subst hq12
    refine w201_53 ?_
    have t12 : (nI 12).toInt = 12 := rfl
    simp only [↓forall_eq, ↓inB_iff, gK_hU, gL_hU, gR_hU, gIh, gJh, pI_hU, pJ_hU, hU_hU, uI_app, uJ_app, and_true, true_and, and_false, false_and, and_self, true_implies, false_implies, not_true, not_false_iff, if_true, if_false, eq_self, Nat.reduceLeDiff, Nat.reduceEqDiff, reduceCtorEq, i32c, ti0, ti1, tiM, Int.natCast_nonneg, Int.reduceEq, Int.reduceLE, Int.reduceLT, Int.reduceNeg, tl_i, Int32.reduceToInt, Int64.reduceToInt, tiA, tlM6, Int.toNat_natCast, natc, nI_1, Int.zero_sub, implies_true, not_false_eq_true, t12, Int.lt_irrefl]
    have := kk I s rfl
    rw [ftG] at this
    exact this
  | succ n ih =>
    intro q t I hq s i v kk
    have eh := edC_hU (J := J) e s
    obtain ⟨⟨e1, e2⟩, e3, e4, ⟨e5, e6⟩, ⟨e7, e8⟩, R, e12, e13, e14⟩ := eh
    have hqI : (nI q).toInt = q := ti_n (by omega)
    have z12 : (q : Int) < 12 := by omega
    rw [ftG] at kk
    refine w201_53 ?_
    have e13' : gR h (A (bR r)) 0 = A (bF f) := e13
    simp only [↓forall_eq, ↓inB_iff, gK_hU, gL_hU, gR_hU, gIh, gJh, pI_hU, pJ_hU, hU_hU, uI_app, uJ_app, and_true, true_and, and_false, false_and, and_self, true_implies, false_implies, not_true, not_false_iff, if_true, if_false, eq_self, Nat.reduceLeDiff, Nat.reduceEqDiff, reduceCtorEq, i32c, ti0, ti1, tiM, Int.natCast_nonneg, Int.reduceEq, Int.reduceLE, Int.reduceLT, Int.reduceNeg, tl_i, Int32.reduceToInt, Int64.reduceToInt, tiA, tlM6, Int.toNat_natCast, natc, nI_1, Int.zero_sub, implies_true, not_false_eq_true, hqI, z12, kR_0 e4, ck_32 e1, e13']
    refine m200 (c_lower e ev (nrM M f) 0 t false I (by omega) s i v (fun I1 s1 q1 => ?_))
    have inn := fun t1 b1 hp => ps_in ev (nrM M f) 0 t false t1 b1 (by omega) i hp
    cases hp : psG M f (gB S) (nrM M f) 0 t false with
    | none =>
      rw [hp] at kk
      dsimp only at kk ⊢
      have t2 : (2 : Int32).toInt = 2 := rfl
      rw [t2]
      exact ⟨fun c => absurd c (by decide), fun _ => ⟨fun c => absurd c (by decide), fun _ => kk I1 s1 q1⟩⟩
    | some tb =>
      obtain ⟨t1, b1⟩ := tb
      rw [hp] at kk
      dsimp only at kk ⊢
      intro v1
      cases b1
      · rw [if_neg (by decide)] at kk
        refine ⟨fun c => absurd c (by decide), fun _ => ⟨fun _ => ?_, fun c => absurd rfl c⟩⟩
        exact kk I1 s1 q1 v1
      · rw [if_pos rfl] at kk
        refine ⟨fun _ => ?_, fun c => absurd rfl c⟩
        exact ih (q + 1) t1 I1 (by omega) s1 (inn t1 true hp).1 v1 (fun I2 s2 q2 => kk I2 s2 (q2.trans q1))
theorem c_fits {K : Int32 → aH → Prop} (e : edC h A o M f r it) (ev : edV M f (gB S) it) (s : eFr h I) (kk : ∀ I1, eFr h I1 → I1 32 = I 32 → (∀ t1, ftG M f (gB S) 12 (tr0 M f (gB S) it) = some t1 → ∀ i, i < cnM M f → I1 33 i = t1 i) → K (bI (fitB M f it (gB S))) (hU h I1 J)) : CI (d + 4) 201 [vR 32, vR (A (bR r)), vI S] (hU h I J) K X := by
  have main : ∀ (n p : Nat) (I2 : Nat → Nat → Int32), p + n = cnM M f → eFr h I2 → I2 32 = I 32 → (∀ i, i < p → I2 33 i = tr0 M f (gB S) it i) → Wp (d + 4) 201 (2, [some (vR 32), some (vR (A (bR r))), some (vI S), some (vI (nI p)), none], [], hU h I2 J) (RI K X) := by
    intro n
    induction n with
    | zero =>
      intro p I2 hp s2 q2 v2
      have eh := edC_hU (J := J) e s2
      obtain ⟨⟨e1, e2⟩, e3, e4, ⟨e5, e6⟩, ⟨e7, e8⟩, R, e12, e13, e14⟩ := eh
      have hpc : p = cnM M f := by omega
      subst hpc
      have e13' : gR h (A (bR r)) 0 = A (bF f) := e13
      have e7' : I2 (A (bF f)) 11 = nI (cnM M f) := e7
      refine w201_2 ?_
      simp only [↓forall_eq, ↓inB_iff, gK_hU, gL_hU, gR_hU, gIh, gJh, pI_hU, pJ_hU, hU_hU, uI_app, uJ_app, and_true, true_and, and_false, false_and, and_self, true_implies, false_implies, not_true, not_false_iff, if_true, if_false, eq_self, Nat.reduceLeDiff, Nat.reduceEqDiff, reduceCtorEq, i32c, ti0, ti1, tiM, Int.natCast_nonneg, Int.reduceEq, Int.reduceLE, Int.reduceLT, Int.reduceNeg, tl_i, Int32.reduceToInt, Int64.reduceToInt, tiA, tlM6, Int.toNat_natCast, natc, nI_1, Int.zero_sub, implies_true, not_false_eq_true, kR_0 e4, kF_0 e3, e13', e7', Int.lt_irrefl]
      refine c_passes e ev 12 0 _ I2 (by omega) s2 (tIn_0 ev) v2 (fun I1 s1 q1 => ?_)
      have kk1 := kk I1 s1 (q1.trans q2)
      unfold fitB at kk1
      cases hp : ftG M f (gB S) 12 (tr0 M f (gB S) it) with
      | none => rw [hp] at kk1; exact kk1 (fun t1 q => by cases q)
      | some t1 => rw [hp] at kk1; exact fun v => kk1 (fun t1 q => by cases q; exact v)
    | succ n ih =>
      intro p I2 hp s2 q2 v2
      have eh := edC_hU (J := J) e s2
      obtain ⟨⟨e1, e2⟩, e3, e4, ⟨e5, e6⟩, ⟨e7, e8⟩, R, e12, e13, e14⟩ := eh
      have hpI : (nI p).toInt = p := ti_n (by omega)
      have hcI : (nI (cnM M f)).toInt = (cnM M f : Nat) := ti_n (by omega)
      have hlt : (p : Int) < (cnM M f : Nat) := by omega
      have z20 : (p : Int) < 20 := by omega
      have e13' : gR h (A (bR r)) 0 = A (bF f) := e13
      have e7' : I2 (A (bF f)) 11 = nI (cnM M f) := e7
      have e14' : I2 (A (bR r + 1)) p = it p := e14 p (by omega)
      have b5 : I2 (A (bF f + 5)) p = M 57 (20 * f + p) := (e12 p (by omega)).1.2.1
      have nx : ∀ x, x = tr0 M f (gB S) it p → ∀ i, i < p + 1 → uI I2 33 p x 33 i = tr0 M f (gB S) it i := fun x hx i hi => by
        rw [uI_app]
        by_cases c : i = p
        · rw [if_pos ⟨rfl, c⟩, hx, c]
        · rw [if_neg (fun q => c q.2)]; exact v2 i (by omega)
      refine w201_2 ?_
      simp only [↓forall_eq, ↓inB_iff, gK_hU, gL_hU, gR_hU, gIh, gJh, pI_hU, pJ_hU, hU_hU, uI_app, uJ_app, and_true, true_and, and_false, false_and, and_self, true_implies, false_implies, not_true, not_false_iff, if_true, if_false, eq_self, Nat.reduceLeDiff, Nat.reduceEqDiff, reduceCtorEq, i32c, ti0, ti1, tiM, Int.natCast_nonneg, Int.reduceEq, Int.reduceLE, Int.reduceLT, Int.reduceNeg, tl_i, Int32.reduceToInt, Int64.reduceToInt, tiA, tlM6, Int.toNat_natCast, natc, nI_1, Int.zero_sub, implies_true, not_false_eq_true, kR_0 e4, kF_0 e3, e13', e7', hpI, hcI, hlt, ck_32 e1, cr_32_0 e1, ck_33 e1, cl_33 e1, ↓hasBit_br (show p < 32 by omega), bI0, rR_0_3 e4, kR_1 e4, lR_1 e4, z20, e14', rF_0_4 e3, kF_5 e3, lF_5 e3, b5]
      refine ⟨fun c => ?_, fun c => ?_⟩
      · refine ih (p + 1) _ (by omega) (eFr_u s2) (by rw [uI_ne _ _ _ (by decide)]; exact q2) (nx _ ?_)
        unfold tr0; rw [if_neg (by rw [c]; decide)]
      · refine ih (p + 1) _ (by omega) (eFr_u s2) (by rw [uI_ne _ _ _ (by decide)]; exact q2) (nx _ ?_)
        unfold tr0; rw [if_pos (bnf c)]
  exact m201 (main (cnM M f) 0 I (by omega) s rfl (fun i hi => by omega))
end FTC
