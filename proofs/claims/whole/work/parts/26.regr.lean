/-! THE REGISTER'S AREA: merge, value -/
section RGR
variable {d U T : Nat} {h h1 h2 : aH} {A A1 o o1 : Nat → Nat} {X : Nat → aH → Prop} {M M1 M2 : Nat → Nat → Int32} {I : Nat → Nat → Int32} {J : Nat → Nat → Int64} {C : Nat → Prop}
/-- a root's new way up changes no chain that doesn't reach it -/
theorem last_away {into iday into' iday' : Nat → Int32} {kn : Int} {u : Nat} (hr : (into u).toInt < 0) (e1 : ∀ w, w ≠ u → into' w = into w ∧ iday' w = iday w) : ∀ k x, lastF into iday kn k x ≠ u → lastF into' iday' kn k x = lastF into iday kn k x := by
  intro k
  induction k with
  | zero => intro x _; rfl
  | succ k ih =>
    intro x hx
    by_cases e : x = u
    · subst e
      rw [last_stop (Or.inl hr)] at hx
      exact absurd rfl hx
    · obtain ⟨a1, a2⟩ := e1 x e
      by_cases s : stopF into iday kn x
      · have s' : stopF into' iday' kn x := by unfold stopF; rw [a1, a2]; exact s
        rw [last_stop s, last_stop s']
      · have s' : ¬ stopF into' iday' kn x := by unfold stopF; rw [a1, a2]; exact s
        rw [last_go s] at hx ⊢
        rw [last_go s', a1]
        exact ih _ hx
theorem lastm_br {g : aH} {K : Int32 → aH → Prop} {x kn : Int32} (f : MF g) (hu : M 44 2 = nI U) (u9 : U ≤ 100) (fo : forest (M 45) U) (e44 : I 44 2 = M 44 2) (e45 : I 45 = M 45) (e46 : I 46 = M 46) (h0 : 0 ≤ x.toInt) (h1 : x.toInt < U) : CI d 46 [vR 44, vI x, vI kn] (hU g I J) K X ↔ K (nI (lastM M kn.toInt x.toInt.toNat)) (hU g I J) := by
  have := last_br (d := d) (X := X) (J := J) (I := I) (K := K) (x := x) (known := kn) f (by rw [e44]; exact hu) u9 (by rw [e45]; exact fo) h0 h1
  rw [e45, e46] at this
  exact this
theorem addMerge_br {K : aH → Prop} {x v t : Int32} {bu : Nat} (f : CF h) (R : rowsOK h 10 bu 2 100 U) (h0 : 0 ≤ x.toInt ∧ x.toInt < U) : CV (d + 2) 43 [vR 9, vI x, vI v, vI t] h K X ↔ K (hU h (uI (uI (uI (gI h) bu (x.toInt.toNat * 2 + 0) v) bu (x.toInt.toNat * 2 + 1) t) 9 5 (gI h 9 5 + 1)) (gJ h)) :=
  CV_iff fun K X w => c_addMerge f R h0.1 h0.2 w
theorem pr_merge {u v : Int32} (b : base h o) (R : RegA h A o (gI h) U T) (mm : MinA h (gI h)) :
    Pr 44 47 [vI u, vI v] [3, 2] h (fun h2 => left h h2 A A o o (fun c => c = 1) [45, 46] [5] 1 6 ∧ RegA h2 A o (gI h2) U T) := by
  obtain ⟨u9, t9⟩ := RegA_le R
  have hm := mm.1
  have hu := R.1.1
  have hu2 : (nI U).toInt = U := ti_n (by omega)
  have fin : ∀ h2, left h h2 A A o o (fun _ => False) [] [] 1 6 → left h h2 A A o o (fun c => c = 1) [45, 46] [5] 1 6 ∧ RegA h2 A o (gI h2) U T := fun h2 l =>
    ⟨left_mono l (fun _ w => w.elim) (by simp) (by simp) (by omega) (by omega), RegA_left b R l (fun w => w) (by simp) (by simp)⟩
  by_cases q1 : 0 ≤ u.toInt ∧ u.toInt < U
  · by_cases q2 : 0 ≤ v.toInt ∧ v.toInt < U
    · have hu100 : u.toInt < 100 := by omega
      have fo := R.2.2.2.2.2.1
      have hlv := lastM_lt (M := gI h) (kn := (gI h 44 1 / 1440).toInt) fo (show v.toInt.toNat < U by omega)
      have hlvI : (nI (lastM (gI h) (gI h 44 1 / 1440).toInt v.toInt.toNat)).toInt = (lastM (gI h) (gI h 44 1 / 1440).toInt v.toInt.toNat : Nat) := ti_n (by omega)
      by_cases q3 : (gI h 45 u.toInt.toNat).toInt = -1
      · have hlu : lastM (gI h) (gI h 44 1 / 1440).toInt u.toInt.toNat = u.toInt.toNat := last_stop (Or.inl (by omega))
        have huI : (nI u.toInt.toNat).toInt = u.toInt := by rw [ti_n (by omega)]; omega
        by_cases q4 : lastM (gI h) (gI h 44 1 / 1440).toInt v.toInt.toNat = u.toInt.toNat
        · refine Pr_gc (A := A) (C := fun _ => False) 1 2 b (by decide) rfl (fun K X k => m44 ?_) (fun g J K X mf e k => m47 ?_) fin
          · simp only [↓forall_eq, ↓inB_iff, gK_hU, gL_hU, gR_hU, gIh, gJh, pI_hU, pJ_hU, hU_hU, uI_app, uJ_app, and_true, true_and, and_false, false_and, and_self, true_implies, false_implies, not_true, not_false_iff, if_true, if_false, eq_self, Nat.reduceLeDiff, Nat.reduceEqDiff, reduceCtorEq, i32c, ti0, ti1, tiM, Int.natCast_nonneg, Int.reduceEq, Int.reduceLE, Int.reduceLT, Int.reduceNeg, tl_i, Int32.reduceToInt, Int64.reduceToInt, tiA, tlM6, Int.toNat_natCast, natc, nI_1, Int.zero_sub, implies_true, not_false_eq_true, ck_8 b.1, cr_8_0 b.1, ck_9 b.1, cr_9_0 b.1, ck_10 b.1, cr_9_1 b.1, ck_12 b.1, ↓needUnit_br b R, ↓needUnm_br b R q1, ↓todayc_br b hm, ↓lastk_br b R q2, q1, q2, q3, q4, huI]
            exact k
          · have e44 := e 44 (by decide) (by decide)
            have e45 := e 45 (by decide) (by decide)
            have e46 := e 46 (by decide) (by decide)
            simp only [↓forall_eq, ↓inB_iff, gK_hU, gL_hU, gR_hU, gIh, gJh, pI_hU, pJ_hU, hU_hU, uI_app, uJ_app, and_true, true_and, and_false, false_and, and_self, true_implies, false_implies, not_true, not_false_iff, if_true, if_false, eq_self, Nat.reduceLeDiff, Nat.reduceEqDiff, reduceCtorEq, i32c, ti0, ti1, tiM, Int.natCast_nonneg, Int.reduceEq, Int.reduceLE, Int.reduceLT, Int.reduceNeg, tl_i, Int32.reduceToInt, Int64.reduceToInt, tiA, tlM6, Int.toNat_natCast, natc, nI_1, Int.zero_sub, implies_true, not_false_eq_true, mf.1, mr_3 mf, mk_45 mf, ml_45 mf, mr_4 mf, mk_46 mf, ml_46 mf, ↓fail_br mf, ↓isUnit_br mf, ↓today_br mf, e44, e45, e46, hu, hu2, q1, q2, q3, ↓lastm_br (M := gI h) mf hu u9 fo, uI_ne, uJ_ne, ne_eq, Nat.reduceEqDiff, not_false_eq_true, hlu, q4, hu100]
            exact k
        · have hvI : nI v.toInt.toNat = v := (ti_nat q2.1).symm
          have fo1 : forest (uI (uI (gI h) 45 u.toInt.toNat v) 46 u.toInt.toNat (gI h 44 1 / 1440) 45) U := by
            have := forest_merge (u := u.toInt.toNat) (v := v.toInt.toNat) fo u9 (by omega) (by omega) (by omega) (fun w hw hi => R.2.2.2.2.2.2.1 w hw hi) q4
            rw [hvI] at this
            have e : uI (uI (gI h) 45 u.toInt.toNat v) 46 u.toInt.toNat (gI h 44 1 / 1440) 45 = fun w => if w = u.toInt.toNat then v else gI h 45 w := by funext w; simp only [↓forall_eq, ↓inB_iff, gK_hU, gL_hU, gR_hU, gIh, gJh, pI_hU, pJ_hU, hU_hU, uI_app, uJ_app, and_true, true_and, and_false, false_and, and_self, true_implies, false_implies, not_true, not_false_iff, if_true, if_false, eq_self, Nat.reduceLeDiff, Nat.reduceEqDiff, reduceCtorEq, i32c, ti0, ti1, tiM, Int.natCast_nonneg, Int.reduceEq, Int.reduceLE, Int.reduceLT, Int.reduceNeg, tl_i, Int32.reduceToInt, Int64.reduceToInt, tiA, tlM6, Int.toNat_natCast, natc, nI_1, Int.zero_sub, implies_true, not_false_eq_true]
            rw [e]; exact this
          have hl1 : lastM (uI (uI (gI h) 45 u.toInt.toNat v) 46 u.toInt.toNat (gI h 44 1 / 1440)) (gI h 44 1 / 1440).toInt u.toInt.toNat = lastM (gI h) (gI h 44 1 / 1440).toInt v.toInt.toNat := by
            unfold lastM
            rw [← last_up fo1 u9 (by omega)]
            · simp only [↓forall_eq, ↓inB_iff, gK_hU, gL_hU, gR_hU, gIh, gJh, pI_hU, pJ_hU, hU_hU, uI_app, uJ_app, and_true, true_and, and_false, false_and, and_self, true_implies, false_implies, not_true, not_false_iff, if_true, if_false, eq_self, Nat.reduceLeDiff, Nat.reduceEqDiff, reduceCtorEq, i32c, ti0, ti1, tiM, Int.natCast_nonneg, Int.reduceEq, Int.reduceLE, Int.reduceLT, Int.reduceNeg, tl_i, Int32.reduceToInt, Int64.reduceToInt, tiA, tlM6, Int.toNat_natCast, natc, nI_1, Int.zero_sub, implies_true, not_false_eq_true]
              refine last_away (u := u.toInt.toNat) (by omega) (fun w hw => ?_) 99 _ q4
              simp only [↓forall_eq, ↓inB_iff, gK_hU, gL_hU, gR_hU, gIh, gJh, pI_hU, pJ_hU, hU_hU, uI_app, uJ_app, and_true, true_and, and_false, false_and, and_self, true_implies, false_implies, not_true, not_false_iff, if_true, if_false, eq_self, Nat.reduceLeDiff, Nat.reduceEqDiff, reduceCtorEq, i32c, ti0, ti1, tiM, Int.natCast_nonneg, Int.reduceEq, Int.reduceLE, Int.reduceLT, Int.reduceNeg, tl_i, Int32.reduceToInt, Int64.reduceToInt, tiA, tlM6, Int.toNat_natCast, natc, nI_1, Int.zero_sub, implies_true, not_false_eq_true, hw]
            · unfold stopF
              simp only [↓forall_eq, ↓inB_iff, gK_hU, gL_hU, gR_hU, gIh, gJh, pI_hU, pJ_hU, hU_hU, uI_app, uJ_app, and_true, true_and, and_false, false_and, and_self, true_implies, false_implies, not_true, not_false_iff, if_true, if_false, eq_self, Nat.reduceLeDiff, Nat.reduceEqDiff, reduceCtorEq, i32c, ti0, ti1, tiM, Int.natCast_nonneg, Int.reduceEq, Int.reduceLE, Int.reduceLT, Int.reduceNeg, tl_i, Int32.reduceToInt, Int64.reduceToInt, tiA, tlM6, Int.toNat_natCast, natc, nI_1, Int.zero_sub, implies_true, not_false_eq_true]
              omega
          refine Pr_ok (nI (lastM (gI h) (gI h 44 1 / 1440).toInt v.toInt.toNat)) (fun h1 => h1 = hU h (uI (uI (uI (gI h) (A 1000011) (u.toInt.toNat * 2 + 0) v) (A 1000011) (u.toInt.toNat * 2 + 1) (gI h 44 1 / 1440)) 9 5 (gI h 9 5 + 1)) (gJ h)) (fun K X k => m44 ?_) (fun h1 J1 m j K X k => m47 ?_)
          · have q5 : ¬ ((lastM (gI h) (gI h 44 1 / 1440).toInt v.toInt.toNat : Nat) : Int) = u.toInt := by omega
            simp only [↓forall_eq, ↓inB_iff, gK_hU, gL_hU, gR_hU, gIh, gJh, pI_hU, pJ_hU, hU_hU, uI_app, uJ_app, and_true, true_and, and_false, false_and, and_self, true_implies, false_implies, not_true, not_false_iff, if_true, if_false, eq_self, Nat.reduceLeDiff, Nat.reduceEqDiff, reduceCtorEq, i32c, ti0, ti1, tiM, Int.natCast_nonneg, Int.reduceEq, Int.reduceLE, Int.reduceLT, Int.reduceNeg, tl_i, Int32.reduceToInt, Int64.reduceToInt, tiA, tlM6, Int.toNat_natCast, natc, nI_1, Int.zero_sub, implies_true, not_false_eq_true, ck_8 b.1, cr_8_0 b.1, ck_9 b.1, cr_9_0 b.1, ck_10 b.1, cr_9_1 b.1, ck_12 b.1, ↓needUnit_br b R, ↓needUnm_br b R q1, ↓todayc_br b hm, ↓lastk_br b R q2, ↓addMerge_br b.1 R.2.1.1 q1, q1, q2, q3, q5, hlvI]
            exact k _ rfl
          · have hN := b.1.1
            obtain ⟨⟨r1, r2⟩, r3, r4, r5, ⟨r6, r7⟩, r8, r9, r10⟩ := R
            have n1 : ∀ a, 44 ≤ a → a < 107 → a ≠ A 1000011 := fun a h1 h2 e => by rw [← e] at r6; have := ol_m b.2.2 h1 h2; omega
            have n2 : A 1000013 ≠ A 1000011 := fun e => by rw [e, r6] at r7; omega
            have n3 : A 1000011 ≠ 9 := fun e => by rw [e, ol_9 b.2.2] at r6; omega
            have n4 : A 1000013 ≠ 9 := fun e => by rw [e, ol_9 b.2.2] at r7; omega
            have n5 : (10 : Nat) ≠ A 1000011 := rows_ne r3.1
            have n6 : (12 : Nat) ≠ A 1000011 := fun e => by rw [← e, ol_12 b.2.2] at r6; omega
            have n7 : A 1000013 ≠ 44 := fun e => by rw [e] at r7; have := ol_m b.2.2 (a := 44) (by decide) (by decide); omega
            have n8 : A 1000013 ≠ 45 := fun e => by rw [e] at r7; have := ol_m b.2.2 (a := 45) (by decide) (by decide); omega
            have n9 : A 1000013 ≠ 46 := fun e => by rw [e] at r7; have := ol_m b.2.2 (a := 46) (by decide) (by decide); omega
            have m4 := n1 44 (by decide) (by decide)
            have m5 := n1 45 (by decide) (by decide)
            have m6 := n1 46 (by decide) (by decide)
            have q5 : ¬ (u.toInt.toNat : Int) = (lastM (gI h) (gI h 44 1 / 1440).toInt v.toInt.toNat : Nat) := by omega
            have hutn : ((u.toInt.toNat : Nat) : Int) = u.toInt := by omega
            subst m
            have mf : MF h := b.2.1
            simp only [↓forall_eq, ↓inB_iff, gK_hU, gL_hU, gR_hU, gIh, gJh, pI_hU, pJ_hU, hU_hU, uI_app, uJ_app, and_true, true_and, and_false, false_and, and_self, true_implies, false_implies, not_true, not_false_iff, if_true, if_false, eq_self, Nat.reduceLeDiff, Nat.reduceEqDiff, reduceCtorEq, i32c, ti0, ti1, tiM, Int.natCast_nonneg, Int.reduceEq, Int.reduceLE, Int.reduceLT, Int.reduceNeg, tl_i, Int32.reduceToInt, Int64.reduceToInt, tiA, tlM6, Int.toNat_natCast, natc, nI_1, Int.zero_sub, implies_true, not_false_eq_true, mf.1, mr_3 mf, mk_45 mf, ml_45 mf, mr_4 mf, mk_46 mf, ml_46 mf, ↓fail_br mf, ↓isUnit_br mf, ↓today_br mf, hu, hu2, q1, q2, q3, ↓lastm_br (M := gI h) mf hu u9 fo, ↓lastm_br (M := uI (uI (gI h) 45 u.toInt.toNat v) 46 u.toInt.toNat (gI h 44 1 / 1440)) mf (U := U) (by simp only [↓forall_eq, ↓inB_iff, gK_hU, gL_hU, gR_hU, gIh, gJh, pI_hU, pJ_hU, hU_hU, uI_app, uJ_app, and_true, true_and, and_false, false_and, and_self, true_implies, false_implies, not_true, not_false_iff, if_true, if_false, eq_self, Nat.reduceLeDiff, Nat.reduceEqDiff, reduceCtorEq, i32c, ti0, ti1, tiM, Int.natCast_nonneg, Int.reduceEq, Int.reduceLE, Int.reduceLT, Int.reduceNeg, tl_i, Int32.reduceToInt, Int64.reduceToInt, tiA, tlM6, Int.toNat_natCast, natc, nI_1, Int.zero_sub, implies_true, not_false_eq_true]; exact hu) u9 fo1, uI_ne, uJ_ne, ne_eq, Nat.reduceEqDiff, not_false_eq_true, m4, m5, m6, hlu, huI, hlvI, hu100, hl1]
            have q6 : ¬ u.toInt = (lastM (gI h) (gI h 44 1 / 1440).toInt v.toInt.toNat : Nat) := by omega
            rw [bz_f q6, lastm_br (M := uI (uI (gI h) 45 u.toInt.toNat v) 46 u.toInt.toNat (gI h 44 1 / 1440)) mf (U := U) (by simp only [↓forall_eq, ↓inB_iff, gK_hU, gL_hU, gR_hU, gIh, gJh, pI_hU, pJ_hU, hU_hU, uI_app, uJ_app, and_true, true_and, and_false, false_and, and_self, true_implies, false_implies, not_true, not_false_iff, if_true, if_false, eq_self, Nat.reduceLeDiff, Nat.reduceEqDiff, reduceCtorEq, i32c, ti0, ti1, tiM, Int.natCast_nonneg, Int.reduceEq, Int.reduceLE, Int.reduceLT, Int.reduceNeg, tl_i, Int32.reduceToInt, Int64.reduceToInt, tiA, tlM6, Int.toNat_natCast, natc, nI_1, Int.zero_sub, implies_true, not_false_eq_true]; exact hu) u9 fo1 (by simp only [↓forall_eq, ↓inB_iff, gK_hU, gL_hU, gR_hU, gIh, gJh, pI_hU, pJ_hU, hU_hU, uI_app, uJ_app, and_true, true_and, and_false, false_and, and_self, true_implies, false_implies, not_true, not_false_iff, if_true, if_false, eq_self, Nat.reduceLeDiff, Nat.reduceEqDiff, reduceCtorEq, i32c, ti0, ti1, tiM, Int.natCast_nonneg, Int.reduceEq, Int.reduceLE, Int.reduceLT, Int.reduceNeg, tl_i, Int32.reduceToInt, Int64.reduceToInt, tiA, tlM6, Int.toNat_natCast, natc, nI_1, Int.zero_sub, implies_true, not_false_eq_true, m4]) (by funext j9; simp only [↓forall_eq, ↓inB_iff, gK_hU, gL_hU, gR_hU, gIh, gJh, pI_hU, pJ_hU, hU_hU, uI_app, uJ_app, and_true, true_and, and_false, false_and, and_self, true_implies, false_implies, not_true, not_false_iff, if_true, if_false, eq_self, Nat.reduceLeDiff, Nat.reduceEqDiff, reduceCtorEq, i32c, ti0, ti1, tiM, Int.natCast_nonneg, Int.reduceEq, Int.reduceLE, Int.reduceLT, Int.reduceNeg, tl_i, Int32.reduceToInt, Int64.reduceToInt, tiA, tlM6, Int.toNat_natCast, natc, nI_1, Int.zero_sub, implies_true, not_false_eq_true, m5]) (by funext j9; simp only [↓forall_eq, ↓inB_iff, gK_hU, gL_hU, gR_hU, gIh, gJh, pI_hU, pJ_hU, hU_hU, uI_app, uJ_app, and_true, true_and, and_false, false_and, and_self, true_implies, false_implies, not_true, not_false_iff, if_true, if_false, eq_self, Nat.reduceLeDiff, Nat.reduceEqDiff, reduceCtorEq, i32c, ti0, ti1, tiM, Int.natCast_nonneg, Int.reduceEq, Int.reduceLE, Int.reduceLT, Int.reduceNeg, tl_i, Int32.reduceToInt, Int64.reduceToInt, tiA, tlM6, Int.toNat_natCast, natc, nI_1, Int.zero_sub, implies_true, not_false_eq_true, m6]) q1.1 q1.2, hl1]
            have fI : fr h (hU h (uI (uI (uI (gI h) (A 1000011) (u.toInt.toNat * 2 + 0) v) (A 1000011) (u.toInt.toNat * 2 + 1) (gI h 44 1 / 1440)) 9 5 (gI h 9 5 + 1)) (gJ h)) A A o o (fun c => c = 1) := by
              refine ⟨⟨Nat.le_refl _, Nat.le_refl _, fun a _ => ⟨rfl, rfl⟩, fun a _ hp => ⟨rfl, rfl, fun j9 => ?_, fun _ => rfl, fun _ => rfl⟩⟩, fun _ _ => rfl, fun _ _ => rfl⟩
              have e1 : a ≠ A 1000011 := fun e => hp (by show o a / 1000000 = 1; rw [e, r6])
              have e2 : a ≠ 9 := fun e => hp (by show o a / 1000000 = 1; rw [e, ol_9 b.2.2])
              rw [gI_hU, uI_ne _ _ _ e2, uI_ne _ _ _ e1, uI_ne _ _ _ e1]
            have m7 : (9 : Nat) ≠ A 1000011 := n3.symm
            refine k _ (by simp only [↓forall_eq, ↓inB_iff, gK_hU, gL_hU, gR_hU, gIh, gJh, pI_hU, pJ_hU, hU_hU, uI_app, uJ_app, and_true, true_and, and_false, false_and, and_self, true_implies, false_implies, not_true, not_false_iff, if_true, if_false, eq_self, Nat.reduceLeDiff, Nat.reduceEqDiff, reduceCtorEq, i32c, ti0, ti1, tiM, Int.natCast_nonneg, Int.reduceEq, Int.reduceLE, Int.reduceLT, Int.reduceNeg, tl_i, Int32.reduceToInt, Int64.reduceToInt, tiA, tlM6, Int.toNat_natCast, natc, nI_1, Int.zero_sub, implies_true, not_false_eq_true]) rfl ⟨left_mk (h1 := hU h (uI (uI (uI (gI h) (A 1000011) (u.toInt.toNat * 2 + 0) v) (A 1000011) (u.toInt.toNat * 2 + 1) (gI h 44 1 / 1440)) 9 5 (gI h 9 5 + 1)) (gJ h)) b (show base h o from b) fI (by decide) (by simp) (fun a a1 a2 => by rw [gIh]; funext j9; simp only [uI_app]; grind) (fun j9 a1 a2 => by rw [gIh]; simp only [uI_app]; grind) (fun a a1 _ => j a a1) (by rw [gN_hU]; omega) (by rw [gT_hU]; omega), ⟨?_, ?_⟩, ⟨rows_hU r3.1 ?_, fun r hr => ?_⟩, ⟨rows_hU r4.1 ?_, fun r hr => ?_⟩, ?_, ⟨r6, r7⟩, ?_, fun w hw h0 => ?_, fun r hr => ?_⟩
            · simp only [↓forall_eq, ↓inB_iff, gK_hU, gL_hU, gR_hU, gIh, gJh, pI_hU, pJ_hU, hU_hU, uI_app, uJ_app, and_true, true_and, and_false, false_and, and_self, true_implies, false_implies, not_true, not_false_iff, if_true, if_false, eq_self, Nat.reduceLeDiff, Nat.reduceEqDiff, reduceCtorEq, i32c, ti0, ti1, tiM, Int.natCast_nonneg, Int.reduceEq, Int.reduceLE, Int.reduceLT, Int.reduceNeg, tl_i, Int32.reduceToInt, Int64.reduceToInt, tiA, tlM6, Int.toNat_natCast, natc, nI_1, Int.zero_sub, implies_true, not_false_eq_true, m4]; exact r1
            · simp only [↓forall_eq, ↓inB_iff, gK_hU, gL_hU, gR_hU, gIh, gJh, pI_hU, pJ_hU, hU_hU, uI_app, uJ_app, and_true, true_and, and_false, false_and, and_self, true_implies, false_implies, not_true, not_false_iff, if_true, if_false, eq_self, Nat.reduceLeDiff, Nat.reduceEqDiff, reduceCtorEq, i32c, ti0, ti1, tiM, Int.natCast_nonneg, Int.reduceEq, Int.reduceLE, Int.reduceLT, Int.reduceNeg, tl_i, Int32.reduceToInt, Int64.reduceToInt, tiA, tlM6, Int.toNat_natCast, natc, nI_1, Int.zero_sub, implies_true, not_false_eq_true, m4]; exact r2
            · simp only [uI_ne, uJ_ne, ne_eq, Nat.reduceEqDiff, not_false_eq_true, n5]
            · have := r3.2 r hr
              simp only [↓forall_eq, ↓inB_iff, gK_hU, gL_hU, gR_hU, gIh, gJh, pI_hU, pJ_hU, hU_hU, uI_app, uJ_app, and_true, true_and, and_false, false_and, and_self, true_implies, false_implies, not_true, not_false_iff, if_true, if_false, eq_self, Nat.reduceLeDiff, Nat.reduceEqDiff, reduceCtorEq, i32c, ti0, ti1, tiM, Int.natCast_nonneg, Int.reduceEq, Int.reduceLE, Int.reduceLT, Int.reduceNeg, tl_i, Int32.reduceToInt, Int64.reduceToInt, tiA, tlM6, Int.toNat_natCast, natc, nI_1, Int.zero_sub, implies_true, not_false_eq_true, m5, m6, n3, m4.symm, m5.symm, m6.symm]
              by_cases e : r = u.toInt.toNat
              · subst e
                simp only [↓forall_eq, ↓inB_iff, gK_hU, gL_hU, gR_hU, gIh, gJh, pI_hU, pJ_hU, hU_hU, uI_app, uJ_app, and_true, true_and, and_false, false_and, and_self, true_implies, false_implies, not_true, not_false_iff, if_true, if_false, eq_self, Nat.reduceLeDiff, Nat.reduceEqDiff, reduceCtorEq, i32c, ti0, ti1, tiM, Int.natCast_nonneg, Int.reduceEq, Int.reduceLE, Int.reduceLT, Int.reduceNeg, tl_i, Int32.reduceToInt, Int64.reduceToInt, tiA, tlM6, Int.toNat_natCast, natc, nI_1, Int.zero_sub, implies_true, not_false_eq_true, Nat.add_right_cancel_iff]
                grind
              · have e3 : ¬ r * 2 + 0 = u.toInt.toNat * 2 + 0 := by omega
                have e4 : ¬ r * 2 + 0 = u.toInt.toNat * 2 + 1 := by omega
                have e5 : ¬ r * 2 + 1 = u.toInt.toNat * 2 + 0 := by omega
                have e6 : ¬ r * 2 + 1 = u.toInt.toNat * 2 + 1 := by omega
                have e7 : ¬ r * 2 = u.toInt.toNat * 2 := by omega
                simp only [↓forall_eq, ↓inB_iff, gK_hU, gL_hU, gR_hU, gIh, gJh, pI_hU, pJ_hU, hU_hU, uI_app, uJ_app, and_true, true_and, and_false, false_and, and_self, true_implies, false_implies, not_true, not_false_iff, if_true, if_false, eq_self, Nat.reduceLeDiff, Nat.reduceEqDiff, reduceCtorEq, i32c, ti0, ti1, tiM, Int.natCast_nonneg, Int.reduceEq, Int.reduceLE, Int.reduceLT, Int.reduceNeg, tl_i, Int32.reduceToInt, Int64.reduceToInt, tiA, tlM6, Int.toNat_natCast, natc, nI_1, Int.zero_sub, implies_true, not_false_eq_true, e, e3, e4, e5, e6, e7]
                exact this
            · simp only [uI_ne, uJ_ne, ne_eq, Nat.reduceEqDiff, not_false_eq_true, n6]
            · have := r4.2 r hr
              have k7 := n1 47 (by decide) (by decide)
              have k8 := n1 48 (by decide) (by decide)
              have k9 := n1 49 (by decide) (by decide)
              have k10 := n1 50 (by decide) (by decide)
              have k11 := n1 51 (by decide) (by decide)
              simp only [↓forall_eq, ↓inB_iff, gK_hU, gL_hU, gR_hU, gIh, gJh, pI_hU, pJ_hU, hU_hU, uI_app, uJ_app, and_true, true_and, and_false, false_and, and_self, true_implies, false_implies, not_true, not_false_iff, if_true, if_false, eq_self, Nat.reduceLeDiff, Nat.reduceEqDiff, reduceCtorEq, i32c, ti0, ti1, tiM, Int.natCast_nonneg, Int.reduceEq, Int.reduceLE, Int.reduceLT, Int.reduceNeg, tl_i, Int32.reduceToInt, Int64.reduceToInt, tiA, tlM6, Int.toNat_natCast, natc, nI_1, Int.zero_sub, implies_true, not_false_eq_true, n2, n4, n7, n8, n9, k7, k8, k9, k10, k11]
              exact this
            · simp only [↓forall_eq, ↓inB_iff, gK_hU, gL_hU, gR_hU, gIh, gJh, pI_hU, pJ_hU, hU_hU, uI_app, uJ_app, and_true, true_and, and_false, false_and, and_self, true_implies, false_implies, not_true, not_false_iff, if_true, if_false, eq_self, Nat.reduceLeDiff, Nat.reduceEqDiff, reduceCtorEq, i32c, ti0, ti1, tiM, Int.natCast_nonneg, Int.reduceEq, Int.reduceLE, Int.reduceLT, Int.reduceNeg, tl_i, Int32.reduceToInt, Int64.reduceToInt, tiA, tlM6, Int.toNat_natCast, natc, nI_1, Int.zero_sub, implies_true, not_false_eq_true, m4, m7]; rw [r5]
            · have e : gI (hU h (uI (uI (uI (uI (uI (uI (uI (gI h) (A 1000011) (u.toInt.toNat * 2 + 0) v) (A 1000011) (u.toInt.toNat * 2 + 1) (gI h 44 1 / 1440)) 9 5 (gI h 9 5 + 1)) 44 0 0) 45 u.toInt.toNat v) 46 u.toInt.toNat (gI h 44 1 / 1440)) 44 5 (gI h 44 5 + 1)) J1) 45 = uI (uI (gI h) 45 u.toInt.toNat v) 46 u.toInt.toNat (gI h 44 1 / 1440) 45 := by funext j9; simp only [↓forall_eq, ↓inB_iff, gK_hU, gL_hU, gR_hU, gIh, gJh, pI_hU, pJ_hU, hU_hU, uI_app, uJ_app, and_true, true_and, and_false, false_and, and_self, true_implies, false_implies, not_true, not_false_iff, if_true, if_false, eq_self, Nat.reduceLeDiff, Nat.reduceEqDiff, reduceCtorEq, i32c, ti0, ti1, tiM, Int.natCast_nonneg, Int.reduceEq, Int.reduceLE, Int.reduceLT, Int.reduceNeg, tl_i, Int32.reduceToInt, Int64.reduceToInt, tiA, tlM6, Int.toNat_natCast, natc, nI_1, Int.zero_sub, implies_true, not_false_eq_true, m5]
              rw [e]; exact fo1
            · simp only [↓forall_eq, ↓inB_iff, gK_hU, gL_hU, gR_hU, gIh, gJh, pI_hU, pJ_hU, hU_hU, uI_app, uJ_app, and_true, true_and, and_false, false_and, and_self, true_implies, false_implies, not_true, not_false_iff, if_true, if_false, eq_self, Nat.reduceLeDiff, Nat.reduceEqDiff, reduceCtorEq, i32c, ti0, ti1, tiM, Int.natCast_nonneg, Int.reduceEq, Int.reduceLE, Int.reduceLT, Int.reduceNeg, tl_i, Int32.reduceToInt, Int64.reduceToInt, tiA, tlM6, Int.toNat_natCast, natc, nI_1, Int.zero_sub, implies_true, not_false_eq_true, m4, m5, m6] at h0 ⊢
              by_cases e : w = u.toInt.toNat
              · rw [if_pos e]; exact Int.le_refl _
              · rw [if_neg e] at h0 ⊢; exact r9 w hw h0
            · have := r10 r hr
              have k7 := n1 47 (by decide) (by decide)
              have k9 := n1 49 (by decide) (by decide)
              have k10 := n1 50 (by decide) (by decide)
              simp only [↓forall_eq, ↓inB_iff, gK_hU, gL_hU, gR_hU, gIh, gJh, pI_hU, pJ_hU, hU_hU, uI_app, uJ_app, and_true, true_and, and_false, false_and, and_self, true_implies, false_implies, not_true, not_false_iff, if_true, if_false, eq_self, Nat.reduceLeDiff, Nat.reduceEqDiff, reduceCtorEq, i32c, ti0, ti1, tiM, Int.natCast_nonneg, Int.reduceEq, Int.reduceLE, Int.reduceLT, Int.reduceNeg, tl_i, Int32.reduceToInt, Int64.reduceToInt, tiA, tlM6, Int.toNat_natCast, natc, nI_1, Int.zero_sub, implies_true, not_false_eq_true, k7, k9, k10]
              exact this
      · refine Pr_gc (A := A) (C := fun _ => False) 1 2 b (by decide) rfl (fun K X k => m44 ?_) (fun g J K X mf e k => m47 ?_) fin
        · simp only [↓forall_eq, ↓inB_iff, gK_hU, gL_hU, gR_hU, gIh, gJh, pI_hU, pJ_hU, hU_hU, uI_app, uJ_app, and_true, true_and, and_false, false_and, and_self, true_implies, false_implies, not_true, not_false_iff, if_true, if_false, eq_self, Nat.reduceLeDiff, Nat.reduceEqDiff, reduceCtorEq, i32c, ti0, ti1, tiM, Int.natCast_nonneg, Int.reduceEq, Int.reduceLE, Int.reduceLT, Int.reduceNeg, tl_i, Int32.reduceToInt, Int64.reduceToInt, tiA, tlM6, Int.toNat_natCast, natc, nI_1, Int.zero_sub, implies_true, not_false_eq_true, ck_8 b.1, cr_8_0 b.1, ck_9 b.1, cr_9_0 b.1, ck_10 b.1, cr_9_1 b.1, ck_12 b.1, ↓needUnit_br b R, ↓needUnm_br b R q1, q1, q2, q3]
          exact k
        · simp only [↓forall_eq, ↓inB_iff, gK_hU, gL_hU, gR_hU, gIh, gJh, pI_hU, pJ_hU, hU_hU, uI_app, uJ_app, and_true, true_and, and_false, false_and, and_self, true_implies, false_implies, not_true, not_false_iff, if_true, if_false, eq_self, Nat.reduceLeDiff, Nat.reduceEqDiff, reduceCtorEq, i32c, ti0, ti1, tiM, Int.natCast_nonneg, Int.reduceEq, Int.reduceLE, Int.reduceLT, Int.reduceNeg, tl_i, Int32.reduceToInt, Int64.reduceToInt, tiA, tlM6, Int.toNat_natCast, natc, nI_1, Int.zero_sub, implies_true, not_false_eq_true, mf.1, mr_3 mf, mk_45 mf, ml_45 mf, mr_4 mf, mk_46 mf, ml_46 mf, ↓fail_br mf, ↓isUnit_br mf, e 44 (by decide) (by decide), e 45 (by decide) (by decide), hu, hu2, q1, q2, q3, hu100]
          exact k
    · refine Pr_gc (A := A) (C := fun _ => False) 0 3 b (by decide) rfl (fun K X k => m44 ?_) (fun g J K X mf e k => m47 ?_) fin
      · simp only [↓forall_eq, ↓inB_iff, gK_hU, gL_hU, gR_hU, gIh, gJh, pI_hU, pJ_hU, hU_hU, uI_app, uJ_app, and_true, true_and, and_false, false_and, and_self, true_implies, false_implies, not_true, not_false_iff, if_true, if_false, eq_self, Nat.reduceLeDiff, Nat.reduceEqDiff, reduceCtorEq, i32c, ti0, ti1, tiM, Int.natCast_nonneg, Int.reduceEq, Int.reduceLE, Int.reduceLT, Int.reduceNeg, tl_i, Int32.reduceToInt, Int64.reduceToInt, tiA, tlM6, Int.toNat_natCast, natc, nI_1, Int.zero_sub, implies_true, not_false_eq_true, ck_8 b.1, cr_8_0 b.1, ck_9 b.1, cr_9_0 b.1, ck_10 b.1, cr_9_1 b.1, ck_12 b.1, ↓needUnit_br b R, q1, q2]
        exact k
      · simp only [↓forall_eq, ↓inB_iff, gK_hU, gL_hU, gR_hU, gIh, gJh, pI_hU, pJ_hU, hU_hU, uI_app, uJ_app, and_true, true_and, and_false, false_and, and_self, true_implies, false_implies, not_true, not_false_iff, if_true, if_false, eq_self, Nat.reduceLeDiff, Nat.reduceEqDiff, reduceCtorEq, i32c, ti0, ti1, tiM, Int.natCast_nonneg, Int.reduceEq, Int.reduceLE, Int.reduceLT, Int.reduceNeg, tl_i, Int32.reduceToInt, Int64.reduceToInt, tiA, tlM6, Int.toNat_natCast, natc, nI_1, Int.zero_sub, implies_true, not_false_eq_true, mf.1, mr_3 mf, mk_45 mf, ml_45 mf, mr_4 mf, mk_46 mf, ml_46 mf, ↓fail_br mf, ↓isUnit_br mf, e 44 (by decide) (by decide), hu, hu2, q1, q2]
        exact k
  · refine Pr_gc (A := A) (C := fun _ => False) 0 3 b (by decide) rfl (fun K X k => m44 ?_) (fun g J K X mf e k => m47 ?_) fin
    · simp only [↓forall_eq, ↓inB_iff, gK_hU, gL_hU, gR_hU, gIh, gJh, pI_hU, pJ_hU, hU_hU, uI_app, uJ_app, and_true, true_and, and_false, false_and, and_self, true_implies, false_implies, not_true, not_false_iff, if_true, if_false, eq_self, Nat.reduceLeDiff, Nat.reduceEqDiff, reduceCtorEq, i32c, ti0, ti1, tiM, Int.natCast_nonneg, Int.reduceEq, Int.reduceLE, Int.reduceLT, Int.reduceNeg, tl_i, Int32.reduceToInt, Int64.reduceToInt, tiA, tlM6, Int.toNat_natCast, natc, nI_1, Int.zero_sub, implies_true, not_false_eq_true, ck_8 b.1, cr_8_0 b.1, ck_9 b.1, cr_9_0 b.1, ck_10 b.1, cr_9_1 b.1, ck_12 b.1, ↓needUnit_br b R, q1]
      exact k
    · simp only [↓forall_eq, ↓inB_iff, gK_hU, gL_hU, gR_hU, gIh, gJh, pI_hU, pJ_hU, hU_hU, uI_app, uJ_app, and_true, true_and, and_false, false_and, and_self, true_implies, false_implies, not_true, not_false_iff, if_true, if_false, eq_self, Nat.reduceLeDiff, Nat.reduceEqDiff, reduceCtorEq, i32c, ti0, ti1, tiM, Int.natCast_nonneg, Int.reduceEq, Int.reduceLE, Int.reduceLT, Int.reduceNeg, tl_i, Int32.reduceToInt, Int64.reduceToInt, tiA, tlM6, Int.toNat_natCast, natc, nI_1, Int.zero_sub, implies_true, not_false_eq_true, mf.1, mr_3 mf, mk_45 mf, ml_45 mf, mr_4 mf, mk_46 mf, ml_46 mf, ↓fail_br mf, ↓isUnit_br mf, e 44 (by decide) (by decide), hu, hu2, q1]
      exact k
/-- the model's valueOf -/
theorem valueOf_br {g : aH} {K : Int32 → aH → Prop} {u fi da kn : Int32} (f : MF g) (hu : M 44 2 = nI U) (ht : M 44 6 = nI T) (u9 : U ≤ 100) (t9 : T ≤ 1500) (fo : forest (M 45) U) (hd : ∀ r, r < T → (0 ≤ (M 47 r).toInt ∧ (M 47 r).toInt < U) ∧ 0 ≤ (M 49 r).toInt) (e44 : I 44 2 = M 44 2 ∧ I 44 6 = M 44 6) (e45 : I 45 = M 45) (e46 : I 46 = M 46) (e47 : I 47 = M 47) (e48 : I 48 = M 48) (e49 : I 49 = M 49) (e50 : I 50 = M 50) (e51 : I 51 = M 51) (h0 : 0 ≤ u.toInt) (h1 : u.toInt < U) :
    CI (d + 1) 53 [vR 44, vI u, vI fi, vI da, vI kn] (hU g I J) K X ↔ K (valM M fi.toInt da.toInt kn.toInt (lastM M kn.toInt u.toInt.toNat) T) (hU g I J) := by
  refine CI_iff fun K X w => m53 ?_
  have ht2 : (nI T).toInt = T := ti_n (by omega)
  have main : ∀ (m k : Nat), k + m = T → Wp (d + 1) 53 (6, [some (vR 44), some (vI u), some (vI fi), some (vI da), some (vI kn), some (vI (iZ (bestM M fi.toInt da.toInt kn.toInt (lastM M kn.toInt u.toInt.toNat) k))), some (vI (nI k)), none], [], hU g I J) (RI K X) := by
    intro m
    induction m with
    | zero =>
      intro k hk
      have hkT : k = T := by omega
      subst hkT
      have hb := best_rng (M := M) (fi := fi.toInt) (da := da.toInt) (kn := kn.toInt) (w := lastM M kn.toInt u.toInt.toNat) k
      have hz := ti_z (z := bestM M fi.toInt da.toInt kn.toInt (lastM M kn.toInt u.toInt.toNat) k) (by omega) (by omega)
      refine w53_6 ?_
      simp only [↓forall_eq, ↓inB_iff, gK_hU, gL_hU, gR_hU, gIh, gJh, pI_hU, pJ_hU, hU_hU, uI_app, uJ_app, and_true, true_and, and_false, false_and, and_self, true_implies, false_implies, not_true, not_false_iff, if_true, if_false, eq_self, Nat.reduceLeDiff, Nat.reduceEqDiff, reduceCtorEq, i32c, ti0, ti1, tiM, Int.natCast_nonneg, Int.reduceEq, Int.reduceLE, Int.reduceLT, Int.reduceNeg, tl_i, Int32.reduceToInt, Int64.reduceToInt, tiA, tlM6, Int.toNat_natCast, natc, nI_1, Int.zero_sub, implies_true, not_false_eq_true, f.1, mr_7 f, mk_47 f, ml_47 f, mr_8 f, mk_48 f, ml_48 f, mr_9 f, mk_49 f, ml_49 f, mr_10 f, mk_50 f, ml_50 f, mr_11 f, mk_51 f, ml_51 f, e44, ht, ht2, hz, e50, Int.lt_irrefl]
      refine ⟨fun c => ?_, fun c => ⟨by omega, by omega, ?_⟩⟩
      · have : valM M fi.toInt da.toInt kn.toInt (lastM M kn.toInt u.toInt.toNat) k = -2000000 := by unfold valM; rw [if_pos c]
        rw [← this]; exact w
      · have : valM M fi.toInt da.toInt kn.toInt (lastM M kn.toInt u.toInt.toNat) k = M 50 (bestM M fi.toInt da.toInt kn.toInt (lastM M kn.toInt u.toInt.toNat) k).toNat := by unfold valM; rw [if_neg c]
        rw [← this]; exact w
    | succ m ih =>
      intro k hk
      have hkI : (nI k).toInt = k := ti_n (by omega)
      have hlt : (k : Int) < T := by omega
      have hlt2 : (k : Int) < 1500 := by omega
      obtain ⟨⟨d1, d2⟩, d3⟩ := hd k (by omega)
      have hb := best_rng (M := M) (fi := fi.toInt) (da := da.toInt) (kn := kn.toInt) (w := lastM M kn.toInt u.toInt.toNat) k
      have hz := ti_z (z := bestM M fi.toInt da.toInt kn.toInt (lastM M kn.toInt u.toInt.toNat) k) (by omega) (by omega)
      have hl1 := lastM_lt (M := M) (kn := kn.toInt) fo (show (M 47 k).toInt.toNat < U by omega)
      have hl2 := lastM_lt (M := M) (kn := kn.toInt) fo (show u.toInt.toNat < U by omega)
      have i1 : (nI (lastM M kn.toInt (M 47 k).toInt.toNat)).toInt = (lastM M kn.toInt (M 47 k).toInt.toNat : Nat) := ti_n (by omega)
      have i2 : (nI (lastM M kn.toInt u.toInt.toNat)).toInt = (lastM M kn.toInt u.toInt.toNat : Nat) := ti_n (by omega)
      have hih := ih (k + 1) (by omega)
      have no : ¬ cntM M fi.toInt da.toInt kn.toInt (lastM M kn.toInt u.toInt.toNat) k = true → Wp (d + 1) 53 (77, [some (vR 44), some (vI u), some (vI fi), some (vI da), some (vI kn), some (vI (iZ (bestM M fi.toInt da.toInt kn.toInt (lastM M kn.toInt u.toInt.toNat) k))), some (vI (nI k)), none], [vI 0], hU g I J) (RI K X) := fun c => by
        refine w53_77 ?_
        simp only [↓forall_eq, ↓inB_iff, gK_hU, gL_hU, gR_hU, gIh, gJh, pI_hU, pJ_hU, hU_hU, uI_app, uJ_app, and_true, true_and, and_false, false_and, and_self, true_implies, false_implies, not_true, not_false_iff, if_true, if_false, eq_self, Nat.reduceLeDiff, Nat.reduceEqDiff, reduceCtorEq, i32c, ti0, ti1, tiM, Int.natCast_nonneg, Int.reduceEq, Int.reduceLE, Int.reduceLT, Int.reduceNeg, tl_i, Int32.reduceToInt, Int64.reduceToInt, tiA, tlM6, Int.toNat_natCast, natc, nI_1, Int.zero_sub, implies_true, not_false_eq_true, f.1, mr_7 f, mk_47 f, ml_47 f, mr_8 f, mk_48 f, ml_48 f, mr_9 f, mk_49 f, ml_49 f, mr_10 f, mk_50 f, ml_50 f, mr_11 f, mk_51 f, ml_51 f]
        rw [bestM, if_neg (fun q => c q.1)] at hih
        exact hih
      have yes : cntM M fi.toInt da.toInt kn.toInt (lastM M kn.toInt u.toInt.toNat) k = true → Wp (d + 1) 53 (77, [some (vR 44), some (vI u), some (vI fi), some (vI da), some (vI kn), some (vI (iZ (bestM M fi.toInt da.toInt kn.toInt (lastM M kn.toInt u.toInt.toNat) k))), some (vI (nI k)), none], [vI 1], hU g I J) (RI K X) := fun c => by
        refine w53_77 ?_
        simp only [↓forall_eq, ↓inB_iff, gK_hU, gL_hU, gR_hU, gIh, gJh, pI_hU, pJ_hU, hU_hU, uI_app, uJ_app, and_true, true_and, and_false, false_and, and_self, true_implies, false_implies, not_true, not_false_iff, if_true, if_false, eq_self, Nat.reduceLeDiff, Nat.reduceEqDiff, reduceCtorEq, i32c, ti0, ti1, tiM, Int.natCast_nonneg, Int.reduceEq, Int.reduceLE, Int.reduceLT, Int.reduceNeg, tl_i, Int32.reduceToInt, Int64.reduceToInt, tiA, tlM6, Int.toNat_natCast, natc, nI_1, Int.zero_sub, implies_true, not_false_eq_true, f.1, mr_7 f, mk_47 f, ml_47 f, mr_8 f, mk_48 f, ml_48 f, mr_9 f, mk_49 f, ml_49 f, mr_10 f, mk_50 f, ml_50 f, mr_11 f, mk_51 f, ml_51 f, hz, hkI, e49, hlt2]
        have hkz : iZ (k : Int) = nI k := ti_inj (by rw [ti_z (by omega) (by omega), hkI])
        refine ⟨fun c1 => ?_, fun c1 => ⟨by omega, by omega, fun c2 => ?_, fun c2 => ?_⟩⟩
        · rw [bestM, if_pos ⟨c, Or.inl c1⟩, hkz] at hih
          exact hih
        · rw [bestM, if_neg (fun q => by rcases q.2 with q2 | q2 <;> omega)] at hih
          exact hih
        · rw [bestM, if_pos ⟨c, Or.inr (by omega)⟩, hkz] at hih
          exact hih
      rw [cnt_iff] at no yes
      refine w53_6 ?_
      simp only [↓forall_eq, ↓inB_iff, gK_hU, gL_hU, gR_hU, gIh, gJh, pI_hU, pJ_hU, hU_hU, uI_app, uJ_app, and_true, true_and, and_false, false_and, and_self, true_implies, false_implies, not_true, not_false_iff, if_true, if_false, eq_self, Nat.reduceLeDiff, Nat.reduceEqDiff, reduceCtorEq, i32c, ti0, ti1, tiM, Int.natCast_nonneg, Int.reduceEq, Int.reduceLE, Int.reduceLT, Int.reduceNeg, tl_i, Int32.reduceToInt, Int64.reduceToInt, tiA, tlM6, Int.toNat_natCast, natc, nI_1, Int.zero_sub, implies_true, not_false_eq_true, f.1, mr_7 f, mk_47 f, ml_47 f, mr_8 f, mk_48 f, ml_48 f, mr_9 f, mk_49 f, ml_49 f, mr_10 f, mk_50 f, ml_50 f, mr_11 f, mk_51 f, ml_51 f, e44, ht, ht2, hkI, hlt, hlt2, e47, e48, e49, e51, ↓lastm_br (M := M) f hu u9 fo, e45, e46, d1, d2, h0, h1, i1, i2]
      refine ⟨fun c1 => ⟨fun c2 => no (by omega), fun c2 => ⟨fun c3 => no (by omega), fun c3 => ⟨fun c4 => yes (by omega), fun c4 => no (by omega)⟩⟩⟩, fun c1 => no (by omega)⟩
  exact main T 0 (by omega)
theorem pr_value {u fi da kn : Int32} (b : base h o) (R : RegA h A o (gI h) U T) : Pr 51 54 [vI u, vI fi, vI da, vI kn] [3, 1] h (fun h2 => left h h2 A A o o (fun c => c = 1) [] [] 1 6 ∧ RegA h2 A o (gI h2) U T) := by
  obtain ⟨u9, t9⟩ := RegA_le R
  have hu := R.1.1
  have hu2 : (nI U).toInt = U := ti_n (by omega)
  have ht := R.1.2
  have fo := R.2.2.2.2.2.1
  have hd : ∀ r, r < T → (0 ≤ (gI h 47 r).toInt ∧ (gI h 47 r).toInt < U) ∧ 0 ≤ (gI h 49 r).toInt := fun r hr => (R.2.2.2.2.2.2.2 r hr).1
  have fin : ∀ h2, left h h2 A A o o (fun _ => False) [] [] 1 6 → left h h2 A A o o (fun c => c = 1) [] [] 1 6 ∧ RegA h2 A o (gI h2) U T := fun h2 l =>
    ⟨left_mono l (fun _ w => w.elim) (by simp) (by simp) (by omega) (by omega), RegA_left b R l (fun w => w) (by simp) (by simp)⟩
  by_cases q1 : 0 ≤ u.toInt ∧ u.toInt < U
  · by_cases q2 : 0 ≤ fi.toInt ∧ fi.toInt ≤ 5
    · by_cases q3 : 0 ≤ da.toInt ∧ 0 ≤ kn.toInt
      · have z1 : ¬ da.toInt < 0 := by omega
        have z2 : ¬ kn.toInt < 0 := by omega
        refine Pr_ok (valM (gI h) fi.toInt da.toInt kn.toInt (lastM (gI h) kn.toInt u.toInt.toNat) T) (fun h1 => ∃ I1, (∀ a, a ≠ 14 → a ≠ 15 → I1 a = gI h a) ∧ h1 = hU h I1 (gJ h)) (fun K X k => m51 ?_) (fun h1 J1 m j K X k => m54 ?_)
        · simp only [↓forall_eq, ↓inB_iff, gK_hU, gL_hU, gR_hU, gIh, gJh, pI_hU, pJ_hU, hU_hU, uI_app, uJ_app, and_true, true_and, and_false, false_and, and_self, true_implies, false_implies, not_true, not_false_iff, if_true, if_false, eq_self, Nat.reduceLeDiff, Nat.reduceEqDiff, reduceCtorEq, i32c, ti0, ti1, tiM, Int.natCast_nonneg, Int.reduceEq, Int.reduceLE, Int.reduceLT, Int.reduceNeg, tl_i, Int32.reduceToInt, Int64.reduceToInt, tiA, tlM6, Int.toNat_natCast, natc, nI_1, Int.zero_sub, implies_true, not_false_eq_true, ck_8 b.1, cr_8_0 b.1, ck_9 b.1, cr_9_0 b.1, ck_10 b.1, cr_9_1 b.1, ck_12 b.1, ↓needUnit_br b R, ↓needField_br, q1, q2, z1, z2]
          exact c_numberOf b.1 R.2.1 R.2.2.1 fo (reg_ne b R) hd q1.1 q1.2 fun I1 hI => k _ ⟨I1, hI, rfl⟩
        · obtain ⟨I1, hI, rfl⟩ := m
          have mf : MF h := b.2.1
          have hI' : ∀ a, 44 ≤ a → I1 a = gI h a := fun a ha => hI a (by omega) (by omega)
          simp only [↓forall_eq, ↓inB_iff, gK_hU, gL_hU, gR_hU, gIh, gJh, pI_hU, pJ_hU, hU_hU, uI_app, uJ_app, and_true, true_and, and_false, false_and, and_self, true_implies, false_implies, not_true, not_false_iff, if_true, if_false, eq_self, Nat.reduceLeDiff, Nat.reduceEqDiff, reduceCtorEq, i32c, ti0, ti1, tiM, Int.natCast_nonneg, Int.reduceEq, Int.reduceLE, Int.reduceLT, Int.reduceNeg, tl_i, Int32.reduceToInt, Int64.reduceToInt, tiA, tlM6, Int.toNat_natCast, natc, nI_1, Int.zero_sub, implies_true, not_false_eq_true, mf.1, ↓fail_br mf, ↓isUnit_br mf, ↓isIn_br, hI' 44 (by decide), hu, hu2, q1, q2, z1, z2, ↓valueOf_br (M := gI h) mf hu ht u9 t9 fo hd, uI_ne, uJ_ne, ne_eq, Nat.reduceEqDiff, not_false_eq_true, hI' 45 (by decide), hI' 46 (by decide), hI' 47 (by decide), hI' 48 (by decide), hI' 49 (by decide), hI' 50 (by decide), hI' 51 (by decide)]
          have hN := b.1.1
          have ne := reg_ne b R
          have fI : fr h (hU h I1 (gJ h)) A A o o (fun c => c = 1) := by
            refine ⟨⟨Nat.le_refl _, Nat.le_refl _, fun a _ => ⟨rfl, rfl⟩, fun a _ hp => ⟨rfl, rfl, fun j9 => ?_, fun _ => rfl, fun _ => rfl⟩⟩, fun _ _ => rfl, fun _ _ => rfl⟩
            have e1 : a ≠ 14 := fun e => hp (by show o a / 1000000 = 1; rw [e, ol_14 b.2.2])
            have e2 : a ≠ 15 := fun e => hp (by show o a / 1000000 = 1; rw [e, ol_15 b.2.2])
            rw [gI_hU, hI a e1 e2]
          refine k _ (by simp only [↓forall_eq, ↓inB_iff, gK_hU, gL_hU, gR_hU, gIh, gJh, pI_hU, pJ_hU, hU_hU, uI_app, uJ_app, and_true, true_and, and_false, false_and, and_self, true_implies, false_implies, not_true, not_false_iff, if_true, if_false, eq_self, Nat.reduceLeDiff, Nat.reduceEqDiff, reduceCtorEq, i32c, ti0, ti1, tiM, Int.natCast_nonneg, Int.reduceEq, Int.reduceLE, Int.reduceLT, Int.reduceNeg, tl_i, Int32.reduceToInt, Int64.reduceToInt, tiA, tlM6, Int.toNat_natCast, natc, nI_1, Int.zero_sub, implies_true, not_false_eq_true]) rfl ⟨left_mk (h1 := hU h I1 (gJ h)) b (show base h o from b) fI (by decide) (by simp) (fun a a1 a2 => by rw [gIh]; funext j9; simp only [uI_app]; grind) (fun j9 a1 a2 => by rw [gIh]; simp only [uI_app]; grind) (fun a a1 _ => j a a1) (by rw [gN_hU]; omega) (by rw [gT_hU]; omega), ?_⟩
          obtain ⟨⟨r1, r2⟩, r3, r4, r5, ⟨r6, r7⟩, r8, r9, r10⟩ := R
          have z11 : A 1000011 ≠ 44 := fun e => by rw [e] at r6; have := ol_m b.2.2 (a := 44) (by decide) (by decide); omega
          have z13 : A 1000013 ≠ 44 := fun e => by rw [e] at r7; have := ol_m b.2.2 (a := 44) (by decide) (by decide); omega
          have E : ∀ a, a ≠ 14 → a ≠ 15 → a ≠ 44 → gI (hU h (uI I1 44 0 0) J1) a = gI h a := fun a a1 a2 a3 => by rw [gIh, uI_ne _ _ _ a3, hI a a1 a2]
          have E4 : ∀ i, i ≠ 0 → gI (hU h (uI I1 44 0 0) J1) 44 i = gI h 44 i := fun i hi => by rw [gIh, uI_nj _ _ _ _ hi, hI' 44 (by decide)]
          unfold RegA
          rw [E 45 (by decide) (by decide) (by decide), E 46 (by decide) (by decide) (by decide), E 47 (by decide) (by decide) (by decide), E 48 (by decide) (by decide) (by decide), E 49 (by decide) (by decide) (by decide), E 50 (by decide) (by decide) (by decide), E 51 (by decide) (by decide) (by decide), E 9 (by decide) (by decide) (by decide), E4 1 (by decide), E4 2 (by decide), E4 5 (by decide), E4 6 (by decide)]
          refine ⟨⟨r1, r2⟩, units_hU r3 (E 10 (by decide) (by decide) (by decide)) (E _ ne.1 ne.2.1 z11), ⟨rows_hU r4.1 (E 12 (by decide) (by decide) (by decide)), fun r hr => ?_⟩, r5, ⟨r6, r7⟩, r8, r9, r10⟩
          rw [E _ ne.2.2.1 ne.2.2.2 z13]; exact r4.2 r hr
      · refine Pr_gc (A := A) (C := fun _ => False) 1 1 b (by decide) rfl (fun K X k => m51 ?_) (fun g J K X mf e k => m54 ?_) fin
        · simp only [↓forall_eq, ↓inB_iff, gK_hU, gL_hU, gR_hU, gIh, gJh, pI_hU, pJ_hU, hU_hU, uI_app, uJ_app, and_true, true_and, and_false, false_and, and_self, true_implies, false_implies, not_true, not_false_iff, if_true, if_false, eq_self, Nat.reduceLeDiff, Nat.reduceEqDiff, reduceCtorEq, i32c, ti0, ti1, tiM, Int.natCast_nonneg, Int.reduceEq, Int.reduceLE, Int.reduceLT, Int.reduceNeg, tl_i, Int32.reduceToInt, Int64.reduceToInt, tiA, tlM6, Int.toNat_natCast, natc, nI_1, Int.zero_sub, implies_true, not_false_eq_true, ck_8 b.1, cr_8_0 b.1, ck_9 b.1, cr_9_0 b.1, ck_10 b.1, cr_9_1 b.1, ck_12 b.1, ↓needUnit_br b R, ↓needField_br, q1, q2]
          exact ⟨fun _ => k, fun c1 => ⟨fun _ => k, fun c2 => absurd ⟨by omega, by omega⟩ q3⟩⟩
        · simp only [↓forall_eq, ↓inB_iff, gK_hU, gL_hU, gR_hU, gIh, gJh, pI_hU, pJ_hU, hU_hU, uI_app, uJ_app, and_true, true_and, and_false, false_and, and_self, true_implies, false_implies, not_true, not_false_iff, if_true, if_false, eq_self, Nat.reduceLeDiff, Nat.reduceEqDiff, reduceCtorEq, i32c, ti0, ti1, tiM, Int.natCast_nonneg, Int.reduceEq, Int.reduceLE, Int.reduceLT, Int.reduceNeg, tl_i, Int32.reduceToInt, Int64.reduceToInt, tiA, tlM6, Int.toNat_natCast, natc, nI_1, Int.zero_sub, implies_true, not_false_eq_true, mf.1, ↓fail_br mf, ↓isUnit_br mf, ↓isIn_br, e 44 (by decide) (by decide), hu, hu2, q1, q2]
          exact ⟨fun _ => k, fun c1 => ⟨fun _ => k, fun c2 => absurd ⟨by omega, by omega⟩ q3⟩⟩
    · refine Pr_gc (A := A) (C := fun _ => False) 0 3 b (by decide) rfl (fun K X k => m51 ?_) (fun g J K X mf e k => m54 ?_) fin
      · simp only [↓forall_eq, ↓inB_iff, gK_hU, gL_hU, gR_hU, gIh, gJh, pI_hU, pJ_hU, hU_hU, uI_app, uJ_app, and_true, true_and, and_false, false_and, and_self, true_implies, false_implies, not_true, not_false_iff, if_true, if_false, eq_self, Nat.reduceLeDiff, Nat.reduceEqDiff, reduceCtorEq, i32c, ti0, ti1, tiM, Int.natCast_nonneg, Int.reduceEq, Int.reduceLE, Int.reduceLT, Int.reduceNeg, tl_i, Int32.reduceToInt, Int64.reduceToInt, tiA, tlM6, Int.toNat_natCast, natc, nI_1, Int.zero_sub, implies_true, not_false_eq_true, ck_8 b.1, cr_8_0 b.1, ck_9 b.1, cr_9_0 b.1, ck_10 b.1, cr_9_1 b.1, ck_12 b.1, ↓needUnit_br b R, ↓needField_br, q1, q2]
        exact k
      · simp only [↓forall_eq, ↓inB_iff, gK_hU, gL_hU, gR_hU, gIh, gJh, pI_hU, pJ_hU, hU_hU, uI_app, uJ_app, and_true, true_and, and_false, false_and, and_self, true_implies, false_implies, not_true, not_false_iff, if_true, if_false, eq_self, Nat.reduceLeDiff, Nat.reduceEqDiff, reduceCtorEq, i32c, ti0, ti1, tiM, Int.natCast_nonneg, Int.reduceEq, Int.reduceLE, Int.reduceLT, Int.reduceNeg, tl_i, Int32.reduceToInt, Int64.reduceToInt, tiA, tlM6, Int.toNat_natCast, natc, nI_1, Int.zero_sub, implies_true, not_false_eq_true, mf.1, ↓fail_br mf, ↓isUnit_br mf, ↓isIn_br, e 44 (by decide) (by decide), hu, hu2, q1, q2]
        exact k
  · refine Pr_gc (A := A) (C := fun _ => False) 0 3 b (by decide) rfl (fun K X k => m51 ?_) (fun g J K X mf e k => m54 ?_) fin
    · simp only [↓forall_eq, ↓inB_iff, gK_hU, gL_hU, gR_hU, gIh, gJh, pI_hU, pJ_hU, hU_hU, uI_app, uJ_app, and_true, true_and, and_false, false_and, and_self, true_implies, false_implies, not_true, not_false_iff, if_true, if_false, eq_self, Nat.reduceLeDiff, Nat.reduceEqDiff, reduceCtorEq, i32c, ti0, ti1, tiM, Int.natCast_nonneg, Int.reduceEq, Int.reduceLE, Int.reduceLT, Int.reduceNeg, tl_i, Int32.reduceToInt, Int64.reduceToInt, tiA, tlM6, Int.toNat_natCast, natc, nI_1, Int.zero_sub, implies_true, not_false_eq_true, ck_8 b.1, cr_8_0 b.1, ck_9 b.1, cr_9_0 b.1, ck_10 b.1, cr_9_1 b.1, ck_12 b.1, ↓needUnit_br b R, q1]
      exact k
    · simp only [↓forall_eq, ↓inB_iff, gK_hU, gL_hU, gR_hU, gIh, gJh, pI_hU, pJ_hU, hU_hU, uI_app, uJ_app, and_true, true_and, and_false, false_and, and_self, true_implies, false_implies, not_true, not_false_iff, if_true, if_false, eq_self, Nat.reduceLeDiff, Nat.reduceEqDiff, reduceCtorEq, i32c, ti0, ti1, tiM, Int.natCast_nonneg, Int.reduceEq, Int.reduceLE, Int.reduceLT, Int.reduceNeg, tl_i, Int32.reduceToInt, Int64.reduceToInt, tiA, tlM6, Int.toNat_natCast, natc, nI_1, Int.zero_sub, implies_true, not_false_eq_true, mf.1, ↓fail_br mf, ↓isUnit_br mf, e 44 (by decide) (by decide), hu, hu2, q1]
      exact k
end RGR
