/-! THE LEAST SET: both sides -/
section LST
variable {d f s r n p nf ns nr : Nat} {it t t1 : Nat → Int32} {h g : aH} {A o : Nat → Nat} {X : Nat → aH → Prop} {M : Nat → Nat → Int32} {I I1 : Nat → Nat → Int32} {J : Nat → Nat → Int64} {S T U : Int32} {E : Nat → Nat → List Tm} {Cn : Nat → Nat → List Cmp}
/-- what may be changed -/
def pfB (M : Nat → Nat → Int32) (f : Nat) (it : Nat → Int32) (s : Nat) : Bool := decide ((soM M f s).toInt = 0) && !decide ((it s).toInt = -2000000)
abbrev frU (M : Nat → Nat → Int32) (f : Nat) (it : Nat → Int32) : Int32 := bits (pfB M f it) (cnM M f)
abbrev bst (M : Nat → Nat → Int32) (f : Nat) (it : Nat → Int32) (U : Int32) (b : Int32 × Int) : Prop := best (fun T => fitB M f it (gB T)) (fun T => cS M f T (cnM M f)) (btw 0 U) (-1, 2147483647) b
theorem sub_0 : subB 0 S := fun i hi => by rw [gB_0] at hi; cases hi
theorem or_0 : 0 ||| S = S := gB_ext fun i _ => by rw [gB_or, gB_0, Bool.false_or]
theorem c_least {K : Int32 → aH → Prop} (e : edC h A o M f r it) (eu : edU M f it (frU M f it)) (s : eFr h I) (kk : ∀ I1 b1, eFr h I1 → I1 32 1 = b1.1 → (I1 32 2).toInt = b1.2 → bst M f it (frU M f it) b1 → K b1.1 (hU h I1 J)) : CI (d + 27) 206 [vR 32, vR (A (bR r))] (hU h I J) K X := by
  have e0 := e
  obtain ⟨⟨e1, e2⟩, e3, e4, ⟨e5, e6⟩, ⟨e7, e8⟩, R, e12, e13, e14⟩ := edC_hU (J := J) e s
  have e13' : gR h (A (bR r)) 0 = A (bF f) := e13
  have e7' : I (A (bF f)) 11 = nI (cnM M f) := e7
  have hcI : (nI (cnM M f)).toInt = (cnM M f : Nat) := ti_n (by omega)
  have main : ∀ (n p : Nat), p + n = cnM M f → Wp (d + 27) 206 (4, [some (vR 32), some (vR (A (bR r))), some (vI (bits (pfB M f it) p)), some (vI (nI p))], [], hU h I J) (RI K X) := by
    intro n
    induction n with
    | zero =>
      intro p hp
      have hpc : p = cnM M f := by omega
      subst hpc
      have s9 : ∀ x y : Int32, eFr h (uI (uI I 32 1 x) 32 2 y) := fun x y c h1 h2 => by rw [uI_ne _ _ _ h1, uI_ne _ _ _ h1]; exact s c h1 h2
      refine w206_4 ?_
      simp only [↓forall_eq, ↓inB_iff, gK_hU, gL_hU, gR_hU, gIh, gJh, pI_hU, pJ_hU, hU_hU, uI_app, uJ_app, and_true, true_and, and_false, false_and, and_self, true_implies, false_implies, not_true, not_false_iff, if_true, if_false, eq_self, Nat.reduceLeDiff, Nat.reduceEqDiff, reduceCtorEq, i32c, ti0, ti1, tiM, Int.natCast_nonneg, Int.reduceEq, Int.reduceLE, Int.reduceLT, Int.reduceNeg, tl_i, Int32.reduceToInt, Int64.reduceToInt, tiA, tlM6, Int.toNat_natCast, natc, nI_1, Int.zero_sub, implies_true, not_false_eq_true, kR_0 e4, kF_0 e3, e13', e7', Int.lt_irrefl, ck_32 e1]
      refine c_fits (d := d + 22) e0 (eu.1 _ (fun i hi => hi)) (s9 _ _) (fun I1 q1 q2 _ => ?_)
      obtain ⟨⟨x1, x2⟩, -⟩ := edC_hU (J := J) e0 q1
      have i1 : I1 32 1 = -1 := by rw [q2, uI_app, if_neg (by decide), uI_same]
      have i2 : (I1 32 2).toInt = 2147483647 := by rw [q2, uI_same]; rfl
      simp only [↓forall_eq, ↓inB_iff, gK_hU, gL_hU, gR_hU, gIh, gJh, pI_hU, pJ_hU, hU_hU, uI_app, uJ_app, and_true, true_and, and_false, false_and, and_self, true_implies, false_implies, not_true, not_false_iff, if_true, if_false, eq_self, Nat.reduceLeDiff, Nat.reduceEqDiff, reduceCtorEq, i32c, ti0, ti1, tiM, Int.natCast_nonneg, Int.reduceEq, Int.reduceLE, Int.reduceLT, Int.reduceNeg, tl_i, Int32.reduceToInt, Int64.reduceToInt, tiA, tlM6, Int.toNat_natCast, natc, nI_1, Int.zero_sub, implies_true, not_false_eq_true, bI0, ck_32 x1]
      refine ⟨fun c => ?_, fun c => ?_⟩
      · rw [i1]
        refine kk I1 (-1, 2147483647) q1 i1 i2 (best_none fun T hT => ?_)
        have hT2 := hT.2
        rw [or_0] at hT2
        cases hb : fitB M f it (gB T)
        · rfl
        · rw [eu.2.1 T _ hT2 (fun i hi => hi) hb] at c; cases c
      · refine c_choose e0 eu 20 _ 0 _ 0 I1 (-1, 2147483647) (by omega) (fun i hi => ?_) sub_0 (fun i hi => hi) (fun i j hi => by rw [gB_0] at hi; cases hi) (by rw [or_0]; exact bnf c) ?_ q1 i1 i2 (fun I2 b1 w1 w2 w3 w4 => ?_)
        · rw [gB_bits _ (by omega), decide_eq_false (by omega), Bool.false_and]
        · have : ∀ n, cS M f 0 n = 0 := fun n => by
            induction n with
            | zero => rfl
            | succ n ih => rw [cS, ih, gB_0, if_neg (by decide)]; rfl
          rw [this]; rfl
        · obtain ⟨⟨x1, x2⟩, -⟩ := edC_hU (J := J) e0 w1
          simp only [↓forall_eq, ↓inB_iff, gK_hU, gL_hU, gR_hU, gIh, gJh, pI_hU, pJ_hU, hU_hU, uI_app, uJ_app, and_true, true_and, and_false, false_and, and_self, true_implies, false_implies, not_true, not_false_iff, if_true, if_false, eq_self, Nat.reduceLeDiff, Nat.reduceEqDiff, reduceCtorEq, i32c, ti0, ti1, tiM, Int.natCast_nonneg, Int.reduceEq, Int.reduceLE, Int.reduceLT, Int.reduceNeg, tl_i, Int32.reduceToInt, Int64.reduceToInt, tiA, tlM6, Int.toNat_natCast, natc, nI_1, Int.zero_sub, implies_true, not_false_eq_true, ck_32 x1]
          rw [w2]; exact kk I2 b1 w1 w2 w3 w4
    | succ n ih =>
      intro p hp
      have hpI : (nI p).toInt = p := ti_n (by omega)
      have hlt : (p : Int) < (cnM M f : Nat) := by omega
      have z20 : (p : Int) < 20 := by omega
      have y1 : I (A (bF f + 3)) p = soM M f p := (e12 p (by omega)).2
      have y2 : I (A (bR r + 1)) p = it p := e14 p (by omega)
      have nx := ih (p + 1) (by omega)
      rw [bits] at nx
      unfold pfB at nx
      have ak := fun K X => @isAsk_br (d + 25) f p (hU h I J) A o X K e3 (cnM M f) e7 e8 (by omega)
      refine w206_4 ?_
      simp only [↓forall_eq, ↓inB_iff, gK_hU, gL_hU, gR_hU, gIh, gJh, pI_hU, pJ_hU, hU_hU, uI_app, uJ_app, and_true, true_and, and_false, false_and, and_self, true_implies, false_implies, not_true, not_false_iff, if_true, if_false, eq_self, Nat.reduceLeDiff, Nat.reduceEqDiff, reduceCtorEq, i32c, ti0, ti1, tiM, Int.natCast_nonneg, Int.reduceEq, Int.reduceLE, Int.reduceLT, Int.reduceNeg, tl_i, Int32.reduceToInt, Int64.reduceToInt, tiA, tlM6, Int.toNat_natCast, natc, nI_1, Int.zero_sub, implies_true, not_false_eq_true, kR_0 e4, kF_0 e3, eF_0 e3, e13', e7', hpI, hcI, hlt, ↓ak, y1, rR_0_3 e4, kR_1 e4, lR_1 e4, z20, y2]
      refine ⟨fun c => ⟨fun c2 => ?_, fun c2 => ?_⟩, fun c => ?_⟩
      · rw [if_neg (by rw [decide_eq_true c, decide_eq_true c2]; decide)] at nx; exact nx
      · rw [if_pos (by rw [decide_eq_true c, decide_eq_false c2]; decide)] at nx; exact nx
      · rw [if_neg (by rw [decide_eq_false c]; simp)] at nx; exact nx
  exact m206 (main (cnM M f) 0 (by omega))
/-- a side as a bit -/
def mbS (it : Nat → Int32) (a : Int32) : Int32 := if a.toInt = -1 ∨ (it a.toInt.toNat).toInt = -2000000 then 0 else 1 <<< (a &&& 31)
def mayI (M : Nat → Nat → Int32) (f : Nat) (it : Nat → Int32) : Nat → Int32
  | 0 => 0
  | p + 1 => (mayI M f it p ||| mbS it (rA M f p)) ||| mbS it (rBb M f p)
abbrev mayU (M : Nat → Nat → Int32) (f : Nat) (it : Nat → Int32) : Int32 := mayI M f it (nrM M f)
theorem mb_side {a : Int32} (ha : rlA M f a) (c20 : cnM M f ≤ 20) : (a.toInt = -1 ∧ mbS it a = 0) ∨ ∃ k, k < 20 ∧ k < cnM M f ∧ (soM M f k).toInt = 0 ∧ a = nI k ∧ (((it k).toInt = -2000000 ∧ mbS it a = 0) ∨ (¬ (it k).toInt = -2000000 ∧ mbS it a = 1 <<< (nI k &&& 31))) := by
  rcases rl_rng ha c20 with e | e
  · exact Or.inl ⟨e, if_pos (Or.inl e)⟩
  · have h0 : (soM M f a.toInt.toNat).toInt = 0 := by
      rcases ha with q | q
      · rw [q] at e; exact absurd e.1 (by decide)
      · exact q.2.2
    refine Or.inr ⟨a.toInt.toNat, by omega, by omega, h0, ti_nat e.1, ?_⟩
    by_cases c : (it a.toInt.toNat).toInt = -2000000
    · exact Or.inl ⟨c, if_pos (Or.inr c)⟩
    · refine Or.inr ⟨c, ?_⟩
      unfold mbS
      rw [if_neg (by rintro (q | q); omega; exact c q)]
      rw [← ti_nat e.1]
/-- what the model may change: what rules name and what is there -/
theorem may_bit (c20 : cnM M f ≤ 20) (hr : ∀ r, r < nrM M f → rlA M f (rA M f r) ∧ rlA M f (rBb M f r)) : ∀ n, n ≤ nrM M f → (∀ i, gB (mayI M f it n) i = true → i < cnM M f ∧ pfB M f it i = true) ∧ ∀ r, r < n → ∀ a, (a = rA M f r ∨ a = rBb M f r) → a.toInt = -1 ∨ (it a.toInt.toNat).toInt = -2000000 ∨ gB (mayI M f it n) a.toInt.toNat = true := by
  intro n
  induction n with
  | zero => intro _; exact ⟨fun i hi => (by rw [mayI, gB_0] at hi; cases hi), fun r hr => by omega⟩
  | succ n ih =>
    intro hn
    obtain ⟨i1, i2⟩ := ih (by omega)
    obtain ⟨ra, rb⟩ := hr n (by omega)
    have one : ∀ a, rlA M f a → ∀ i, gB (mbS it a) i = true → i < cnM M f ∧ pfB M f it i = true := fun a ha i hi => by
      rcases mb_side (it := it) ha c20 with ⟨-, q⟩ | ⟨k, k1, k2, k3, k4, ⟨-, q⟩ | ⟨k5, q⟩⟩
      · rw [q, gB_0] at hi; cases hi
      · rw [q, gB_0] at hi; cases hi
      · rw [q, gB_sh (by omega)] at hi
        have := of_decide_eq_true hi
        subst this
        refine ⟨k2, ?_⟩
        unfold pfB
        rw [decide_eq_true k3, decide_eq_false k5]; rfl
    have two : ∀ a, rlA M f a → a.toInt = -1 ∨ (it a.toInt.toNat).toInt = -2000000 ∨ gB (mbS it a) a.toInt.toNat = true := fun a ha => by
      rcases mb_side (it := it) ha c20 with ⟨q, -⟩ | ⟨k, k1, k2, k3, k4, ⟨k5, q⟩ | ⟨k5, q⟩⟩
      · exact Or.inl q
      · have : a.toInt.toNat = k := by rw [k4, ti_n (by omega)]; omega
        rw [this]; exact Or.inr (Or.inl k5)
      · have : a.toInt.toNat = k := by rw [k4, ti_n (by omega)]; omega
        rw [this, q, gB_sh (by omega)]; exact Or.inr (Or.inr (decide_eq_true rfl))
    refine ⟨fun i hi => ?_, fun r hr a ha => ?_⟩
    · rw [mayI, gB_or, gB_or] at hi
      cases h1 : gB (mayI M f it n) i
      · cases h2 : gB (mbS it (rA M f n)) i
        · rw [h1, h2, Bool.false_or, Bool.false_or] at hi
          exact one _ rb i hi
        · exact one _ ra i h2
      · exact i1 i h1
    · by_cases c : r = n
      · subst c
        rw [mayI, gB_or, gB_or]
        rcases ha with ha | ha
        · rw [ha]
          rcases two _ ra with q | q | q
          · exact Or.inl q
          · exact Or.inr (Or.inl q)
          · rw [q]; exact Or.inr (Or.inr (by simp))
        · rw [ha]
          rcases two _ rb with q | q | q
          · exact Or.inl q
          · exact Or.inr (Or.inl q)
          · rw [q]; exact Or.inr (Or.inr (by simp))
      · rcases i2 r (by omega) a ha with q | q | q
        · exact Or.inl q
        · exact Or.inr (Or.inl q)
        · rw [mayI, gB_or, gB_or, q]; exact Or.inr (Or.inr (by simp))
/-- what the model found so far -/
def mrel (I : Nat → Nat → Int32) (b : Int32 × Int) : Prop := (b = (-1, 2147483647) ∧ I 44 62 = -1 ∧ I 44 63 = -1) ∨ ((0 ≤ b.2 ∧ b.2 ≤ 2000) ∧ (I 44 62).toInt = b.2 ∧ I 44 63 = b.1)
/-- only the model's own search changes -/
def fFr (I0 I : Nat → Nat → Int32) : Prop := (∀ c, c ≠ 44 → c ≠ 85 → I c = I0 c) ∧ ∀ j, j ≠ 62 → j ≠ 63 → I 44 j = I0 44 j
theorem m_find {K : aH → Prop} {I0 : Nat → Nat → Int32} (e : edM g M f r it) (U1 : edU M f it (mayU M f it)) (hr : ∀ r, r < nrM M f → rlA M f (rA M f r) ∧ rlA M f (rBb M f r)) (s0 : tFr M I0) (hf : ∀ d I K X, tFr M I → (CI d 175 [vR 44, vI (nI r)] (hU g I J) K X ↔ K (nI f) (hU g I J))) (kk : ∀ I1 b1, fFr I0 I1 → mrel I1 b1 → bst M f it (mayU M f it) b1 → K (hU g I1 J)) : CV (d + 2) 211 [vR 44, vI (nI r)] (hU g I0 J) K X := by
  have e0 := e
  obtain ⟨mf, ⟨f6, r60⟩, c20, n16, e53, e81, e79⟩ := e
  have hfI : (nI f).toInt = f := ti_n (by omega)
  have zf : (f : Int) < 6 := by omega
  have hcI : (nI (cnM M f)).toInt = (cnM M f : Nat) := ti_n (by omega)
  have nI1 : (nI (nrM M f)).toInt = (nrM M f : Nat) := ti_n (by omega)
  generalize hU9 : mayU M f it = U at *
  obtain ⟨u1, u2, u3, u4⟩ := U1
  have fT : ∀ I, fFr I0 I → tFr M I := fun I fi c h1 h2 => by rw [fi.1 c (by omega) (by omega)]; exact s0 c h1 h2
  -- through the sets, in their order
  have sets : ∀ (n : Nat) (T : Int32) (I : Nat → Nat → Int32) (b : Int32 × Int), subB T U → msk U - msk T ≤ n → fFr I0 I → mrel I b → best (fun T => fitB M f it (gB T)) (fun T => cS M f T (cnM M f)) (fun S => btw 0 U S ∧ msk S < msk T) (-1, 2147483647) b → Wp (d + 2) 211 (140, [some (vR 44), some (vI (nI r)), some (vI (nI f)), some (vI U), some (vI T), some (vI 1), none, none], [], hU g I J) (RV K X) := by
    intro n
    induction n with
    | zero => ?_
    | succ n ih => ?_
    all_goals
      intro T I b hT hn fi mr hb
      have cb := cS_b (M := M) (f := f) (S := T) (fun s hs => by have := u3 s (hT s hs); omega)
      have mT : msk T < 2 ^ 20 := msk_lt fun i hi => by
        cases hh : gB T i
        · rfl
        · have := u3 i (hT i hh); omega
      have mU : msk U < 2 ^ 20 := msk_lt fun i hi => by
        cases hh : gB U i
        · rfl
        · have := u3 i hh; omega
      have tTU : T.toInt = U.toInt ↔ msk T = msk U := by
        rw [msk_ti (x := T) (by omega), msk_ti (x := U) (by omega)]; omega
      have hall : ∀ S, btw 0 U S ↔ (btw 0 U S ∧ msk S < msk T) ∨ (btw 0 U S ∧ msk T ≤ msk S) := fun S => by
        constructor
        · intro q
          by_cases c : msk S < msk T
          · exact Or.inl ⟨q, c⟩
          · exact Or.inr ⟨q, by omega⟩
        · rintro (q | q) <;> exact q.1
      have bT : btw 0 U T := ⟨sub_0, by rw [or_0]; exact hT⟩
      -- behind T
      have fin : ∀ (I2 : Nat → Nat → Int32) (b2 : Int32 × Int), fFr I0 I2 → mrel I2 b2 → best (fun T => fitB M f it (gB T)) (fun T => cS M f T (cnM M f)) (fun S => btw 0 U S ∧ msk S ≤ msk T) (-1, 2147483647) b2 → (T.toInt = U.toInt → Wp (d + 2) 211 (140, [some (vR 44), some (vI (nI r)), some (vI (nI f)), some (vI U), some (vI ((T - U) &&& U)), some (vI 0), none, none], [], hU g I2 J) (RV K X)) ∧ (¬ T.toInt = U.toInt → Wp (d + 2) 211 (140, [some (vR 44), some (vI (nI r)), some (vI (nI f)), some (vI U), some (vI ((T - U) &&& U)), some (vI 1), none, none], [], hU g I2 J) (RV K X)) := fun I2 b2 fi2 mr2 hb2 => by
        refine ⟨fun c => ?_, fun c => ?_⟩
        · refine w211_140 ⟨fun _ => ?_, fun c => absurd rfl c⟩
          refine kk I2 b2 fi2 mr2 (best_cg (fun S => ⟨fun q => ⟨q, ?_⟩, fun q => q.1⟩) hb2)
          have := q.2
          rw [or_0] at this
          rw [tTU.mp c]; exact sub_le this
        · have lt : msk T < msk U := by have := sub_le hT; have := fun q => c (tTU.mpr q); omega
          obtain ⟨n1, n2, n3⟩ := nx_I hT lt
          first
            | exact absurd lt (by omega)
            | exact ih _ I2 b2 n1 (by omega) fi2 mr2 (best_cg (fun S => ⟨fun q => ⟨q.1, Nat.le_of_not_lt fun w => by have h9 := q.1.2; rw [or_0] at h9; have := n3 S h9 w; have := q.2; omega⟩, fun q => ⟨q.1, by have := q.2; omega⟩⟩) hb2)
      have sum : ∀ (m p : Nat), p + m = cnM M f → Wp (d + 2) 211 (151, [some (vR 44), some (vI (nI r)), some (vI (nI f)), some (vI U), some (vI T), none, some (vI (iZ (cS M f T p))), some (vI (nI p))], [], hU g I J) (RV K X) := by
        have s := fT I fi
        intro m
        induction m with
        | zero =>
          intro p hp
          have hpc : p = cnM M f := by omega
          subst hpc
          have cz := ti_z (z := cS M f T (cnM M f)) (by have := cb (cnM M f); omega) (by have := cb (cnM M f); omega)
          have nope : ¬ cS M f T (cnM M f) < b.2 → best (fun T => fitB M f it (gB T)) (fun T => cS M f T (cnM M f)) (fun S => btw 0 U S ∧ msk S ≤ msk T) (-1, 2147483647) b := fun c => by
            refine best_two (P2 := fun S => S = T) hb (Or.inl ⟨rfl, fun S hS _ => by rw [hS]; dsimp only; omega⟩) (fun T1 T2 h1 h2 => by rw [h2]; exact h1.2) (fun S => ⟨fun q => ?_, ?_⟩)
            · by_cases c : msk S < msk T
              · exact Or.inl ⟨q.1, c⟩
              · exact Or.inr (msk_inj (by have := q.2; omega))
            · rintro (q | q)
              · exact ⟨q.1, Nat.le_of_lt q.2⟩
              · rw [q]; exact ⟨bT, Nat.le_refl _⟩
          have go : cS M f T (cnM M f) < b.2 → Wp (d + 2) 211 (210, [some (vR 44), some (vI (nI r)), some (vI (nI f)), some (vI U), some (vI T), none, some (vI (iZ (cS M f T (cnM M f)))), none], [], hU g I J) (RV K X) := fun c => by
            refine w211_210 ?_
            simp only [↓forall_eq, ↓inB_iff, gK_hU, gL_hU, gR_hU, gIh, gJh, pI_hU, pJ_hU, hU_hU, uI_app, uJ_app, and_true, true_and, and_false, false_and, and_self, true_implies, false_implies, not_true, not_false_iff, if_true, if_false, eq_self, Nat.reduceLeDiff, Nat.reduceEqDiff, reduceCtorEq, i32c, ti0, ti1, tiM, Int.natCast_nonneg, Int.reduceEq, Int.reduceLE, Int.reduceLT, Int.reduceNeg, tl_i, Int32.reduceToInt, Int64.reduceToInt, tiA, tlM6, Int.toNat_natCast, natc, nI_1, Int.zero_sub, implies_true, not_false_eq_true, mf.1, mr_15 mf, mk_53 mf, ml_53 mf, mr_20 mf, mk_58 mf, ml_58 mf, mr_55 mf, mk_79 mf, ml_79 mf, mr_57 mf, mk_81 mf, ml_81 mf, mr_58 mf, mk_82 mf, ml_82 mf, mr_59 mf, mk_83 mf, ml_83 mf]
            refine m_fits e0 (u1 T hT) s (fun K X => hf d I K X s) (fun I2 s2 q2 _ => ?_)
            have fi2 : fFr I0 I2 := ⟨fun c h1 h2 => by rw [q2 c h2]; exact fi.1 c h1 h2, fun j h1 h2 => by rw [q2 44 (by decide)]; exact fi.2 j h1 h2⟩
            have mr2 : mrel I2 b := by unfold mrel; rw [q2 44 (by decide)]; exact mr
            simp only [↓forall_eq, ↓inB_iff, gK_hU, gL_hU, gR_hU, gIh, gJh, pI_hU, pJ_hU, hU_hU, uI_app, uJ_app, and_true, true_and, and_false, false_and, and_self, true_implies, false_implies, not_true, not_false_iff, if_true, if_false, eq_self, Nat.reduceLeDiff, Nat.reduceEqDiff, reduceCtorEq, i32c, ti0, ti1, tiM, Int.natCast_nonneg, Int.reduceEq, Int.reduceLE, Int.reduceLT, Int.reduceNeg, tl_i, Int32.reduceToInt, Int64.reduceToInt, tiA, tlM6, Int.toNat_natCast, natc, nI_1, Int.zero_sub, implies_true, not_false_eq_true, mf.1, mr_15 mf, mk_53 mf, ml_53 mf, mr_20 mf, mk_58 mf, ml_58 mf, mr_55 mf, mk_79 mf, ml_79 mf, mr_57 mf, mk_81 mf, ml_81 mf, mr_58 mf, mk_82 mf, ml_82 mf, mr_59 mf, mk_83 mf, ml_83 mf, bI0]
            refine ⟨fun cf => ?_, fun cf => ?_⟩
            · refine fin I2 b fi2 mr2 (best_two (P2 := fun S => S = T) hb (best_none fun S hS => by rw [hS]; exact cf) (fun T1 T2 h1 h2 => by rw [h2]; exact h1.2) (fun S => ⟨fun q => ?_, ?_⟩))
              · by_cases c : msk S < msk T
                · exact Or.inl ⟨q.1, c⟩
                · exact Or.inr (msk_inj (by have := q.2; omega))
              · rintro (q | q)
                · exact ⟨q.1, Nat.le_of_lt q.2⟩
                · rw [q]; exact ⟨bT, Nat.le_refl _⟩
            · refine fin _ (T, cS M f T (cnM M f)) ⟨fun c h1 h2 => by rw [uI_ne _ _ _ h1, uI_ne _ _ _ h1]; exact fi2.1 c h1 h2, fun j h1 h2 => ?_⟩ (Or.inr ⟨by have := cb (cnM M f); dsimp only; omega, ?_, ?_⟩) (best_two (P2 := fun S => S = T) hb (Or.inr ⟨rfl, bnf cf, rfl, c, fun S hS _ => by rw [hS]; exact ⟨Int.le_refl _, fun _ => Nat.le_refl _⟩⟩) (fun T1 T2 h1 h2 => by rw [h2]; exact h1.2) (fun S => ⟨fun q => ?_, ?_⟩))
              · rw [uI_app, if_neg (fun q => h2 q.2), uI_app, if_neg (fun q => h1 q.2)]; exact fi2.2 j h1 h2
              · rw [uI_app, if_neg (by decide), uI_same]; exact cz
              · rw [uI_same]
              · by_cases c : msk S < msk T
                · exact Or.inl ⟨q.1, c⟩
                · exact Or.inr (msk_inj (by have := q.2; omega))
              · rintro (q | q)
                · exact ⟨q.1, Nat.le_of_lt q.2⟩
                · rw [q]; exact ⟨bT, Nat.le_refl _⟩
          refine w211_151 ?_
          simp only [↓forall_eq, ↓inB_iff, gK_hU, gL_hU, gR_hU, gIh, gJh, pI_hU, pJ_hU, hU_hU, uI_app, uJ_app, and_true, true_and, and_false, false_and, and_self, true_implies, false_implies, not_true, not_false_iff, if_true, if_false, eq_self, Nat.reduceLeDiff, Nat.reduceEqDiff, reduceCtorEq, i32c, ti0, ti1, tiM, Int.natCast_nonneg, Int.reduceEq, Int.reduceLE, Int.reduceLT, Int.reduceNeg, tl_i, Int32.reduceToInt, Int64.reduceToInt, tiA, tlM6, Int.toNat_natCast, natc, nI_1, Int.zero_sub, implies_true, not_false_eq_true, mf.1, mr_15 mf, mk_53 mf, ml_53 mf, mr_20 mf, mk_58 mf, ml_58 mf, mr_55 mf, mk_79 mf, ml_79 mf, mr_57 mf, mk_81 mf, ml_81 mf, mr_58 mf, mk_82 mf, ml_82 mf, mr_59 mf, mk_83 mf, ml_83 mf, hfI, zf, s 53 (by decide) (by decide), e53, Int.lt_irrefl, cz]
          have cbn := cb (cnM M f)
          rcases mr with ⟨q1, q2, q3⟩ | ⟨q1, q2, q3⟩
          · refine ⟨fun _ => go (by rw [q1]; dsimp only; omega), fun c => absurd (by rw [q2]; rfl) c⟩
          · refine ⟨fun c => (by omega), fun _ => ⟨fun c => go (by omega), fun c => fin I b fi (Or.inr ⟨q1, q2, q3⟩) (nope (by omega))⟩⟩
        | succ m ihm =>
          intro p hp
          have hpI : (nI p).toInt = p := ti_n (by omega)
          have hlt : (p : Int) < (cnM M f : Nat) := by omega
          have hix2 : (20 : Int32) * nI f + nI p = nI (20 * f + p) := by rw [show (20 : Int32) = nI 20 from rfl, nI_mul, nI_add]
          have hxI2 : (nI (20 * f + p)).toInt = ((20 * f + p : Nat) : Int) := ti_n (by omega)
          have zx2 : ((20 * f + p : Nat) : Int) < 120 := by omega
          have nx := ihm (p + 1) (by omega)
          have cz := ti_z (z := cS M f T p) (by have := cb p; omega) (by have := cb p; omega)
          have key : iZ (cS M f T p) + bI (gB T p) * M 58 (20 * f + p) = iZ (cS M f T (p + 1)) := by
            have cz2 := ti_z (z := cS M f T (p + 1)) (by have := cb (p + 1); omega) (by have := cb (p + 1); omega)
            refine ti_inj ?_
            rw [cz2, cS]
            cases hg : gB T p
            · rw [show bI false = 0 from rfl, Int32.zero_mul, Int32.add_zero, cz, if_neg (by decide)]; omega
            · have u := u3 p (hT p hg)
              have u' : 1 ≤ (M 58 (20 * f + p)).toInt ∧ (M 58 (20 * f + p)).toInt ≤ 100 := u.2
              have := cb p
              rw [show bI true = 1 from rfl, Int32.one_mul, ti_add (by rw [cz]; omega) (by rw [cz]; omega), cz, if_pos rfl]
          refine w211_151 ?_
          simp only [↓forall_eq, ↓inB_iff, gK_hU, gL_hU, gR_hU, gIh, gJh, pI_hU, pJ_hU, hU_hU, uI_app, uJ_app, and_true, true_and, and_false, false_and, and_self, true_implies, false_implies, not_true, not_false_iff, if_true, if_false, eq_self, Nat.reduceLeDiff, Nat.reduceEqDiff, reduceCtorEq, i32c, ti0, ti1, tiM, Int.natCast_nonneg, Int.reduceEq, Int.reduceLE, Int.reduceLT, Int.reduceNeg, tl_i, Int32.reduceToInt, Int64.reduceToInt, tiA, tlM6, Int.toNat_natCast, natc, nI_1, Int.zero_sub, implies_true, not_false_eq_true, mf.1, mr_15 mf, mk_53 mf, ml_53 mf, mr_20 mf, mk_58 mf, ml_58 mf, mr_55 mf, mk_79 mf, ml_79 mf, mr_57 mf, mk_81 mf, ml_81 mf, mr_58 mf, mk_82 mf, ml_82 mf, mr_59 mf, mk_83 mf, ml_83 mf, hfI, zf, s 53 (by decide) (by decide), e53, s 58 (by decide) (by decide), hpI, hcI, hlt, hix2, hxI2, zx2, sh_bit (show p < 32 by omega), key]
          exact nx
      exact w211_140 ⟨fun c => absurd c (by decide), fun _ => sum (cnM M f) 0 (by omega)⟩
  have may : ∀ (n p : Nat) (I : Nat → Nat → Int32), p + n = nrM M f → fFr I0 I → I 44 62 = -1 → I 44 63 = -1 → Wp (d + 2) 211 (21, [some (vR 44), some (vI (nI r)), some (vI (nI f)), some (vI (mayI M f it p)), some (vI (nI p)), none, none, none], [], hU g I J) (RV K X) := by
    intro n
    induction n with
    | zero =>
      intro p I hp fi q1 q2
      have s := fT I fi
      have hpn : p = nrM M f := by omega
      subst hpn
      refine w211_21 ?_
      simp only [↓forall_eq, ↓inB_iff, gK_hU, gL_hU, gR_hU, gIh, gJh, pI_hU, pJ_hU, hU_hU, uI_app, uJ_app, and_true, true_and, and_false, false_and, and_self, true_implies, false_implies, not_true, not_false_iff, if_true, if_false, eq_self, Nat.reduceLeDiff, Nat.reduceEqDiff, reduceCtorEq, i32c, ti0, ti1, tiM, Int.natCast_nonneg, Int.reduceEq, Int.reduceLE, Int.reduceLT, Int.reduceNeg, tl_i, Int32.reduceToInt, Int64.reduceToInt, tiA, tlM6, Int.toNat_natCast, natc, nI_1, Int.zero_sub, implies_true, not_false_eq_true, mf.1, mr_15 mf, mk_53 mf, ml_53 mf, mr_20 mf, mk_58 mf, ml_58 mf, mr_55 mf, mk_79 mf, ml_79 mf, mr_57 mf, mk_81 mf, ml_81 mf, mr_58 mf, mk_82 mf, ml_82 mf, mr_59 mf, mk_83 mf, ml_83 mf, hfI, zf, s 81 (by decide) (by decide), e81, Int.lt_irrefl]
      have hU9' : mayI M f it (nrM M f) = U := hU9
      rw [hU9']
      refine sets (msk U) 0 I (-1, 2147483647) sub_0 (by omega) fi (Or.inl ⟨rfl, q1, q2⟩) (best_none fun S hS => ?_)
      have z : msk 0 = 0 := rfl
      have := hS.2
      omega
    | succ n ih =>
      intro p I hp fi q1 q2
      have s := fT I fi
      have hpI : (nI p).toInt = p := ti_n (by omega)
      have hlt : (p : Int) < (nrM M f : Nat) := by omega
      have hix : (16 : Int32) * nI f + nI p = nI (16 * f + p) := by rw [show (16 : Int32) = nI 16 from rfl, nI_mul, nI_add]
      have hxI : (nI (16 * f + p)).toInt = ((16 * f + p : Nat) : Int) := ti_n (by omega)
      have zx : ((16 * f + p : Nat) : Int) < 96 := by omega
      obtain ⟨ra, rb⟩ := hr p (by omega)
      have nx := ih (p + 1) I (by omega) fi q1 q2
      rw [mayI] at nx
      have sd : ∀ k, k < 20 → (20 : Int32) * nI r + nI k = nI (20 * r + k) ∧ (nI (20 * r + k)).toInt = ((20 * r + k : Nat) : Int) ∧ ((20 * r + k : Nat) : Int) < 1200 ∧ ¬ (nI k).toInt = -1 ∧ M 79 (20 * r + k) = it k := fun k hk => ⟨by rw [show (20 : Int32) = nI 20 from rfl, nI_mul, nI_add], ti_n (by omega), by omega, by rw [ti_n (by omega)]; omega, e79 k hk⟩
      have or0 : ∀ x : Int32, x ||| 0 = x := fun x => gB_ext fun i _ => by rw [gB_or, gB_0, Bool.or_false]
      refine w211_21 ?_
      rcases mb_side (it := it) ra c20 with ⟨a1, a2⟩ | ⟨k, k1, k2, k3, k4, ⟨k5, a2⟩ | ⟨k5, a2⟩⟩ <;> rcases mb_side (it := it) rb c20 with ⟨b1, b2⟩ | ⟨l, l1, l2, l3, l4, ⟨l5, b2⟩ | ⟨l5, b2⟩⟩ <;> rw [a2, b2] at nx
      · simp only [↓forall_eq, ↓inB_iff, gK_hU, gL_hU, gR_hU, gIh, gJh, pI_hU, pJ_hU, hU_hU, uI_app, uJ_app, and_true, true_and, and_false, false_and, and_self, true_implies, false_implies, not_true, not_false_iff, if_true, if_false, eq_self, Nat.reduceLeDiff, Nat.reduceEqDiff, reduceCtorEq, i32c, ti0, ti1, tiM, Int.natCast_nonneg, Int.reduceEq, Int.reduceLE, Int.reduceLT, Int.reduceNeg, tl_i, Int32.reduceToInt, Int64.reduceToInt, tiA, tlM6, Int.toNat_natCast, natc, nI_1, Int.zero_sub, implies_true, not_false_eq_true, mf.1, mr_15 mf, mk_53 mf, ml_53 mf, mr_20 mf, mk_58 mf, ml_58 mf, mr_55 mf, mk_79 mf, ml_79 mf, mr_57 mf, mk_81 mf, ml_81 mf, mr_58 mf, mk_82 mf, ml_82 mf, mr_59 mf, mk_83 mf, ml_83 mf, hfI, zf, s 81 (by decide) (by decide), s 82 (by decide) (by decide), s 83 (by decide) (by decide), s 79 (by decide) (by decide), e81, nI1, hpI, hlt, hix, hxI, zx, a1, b1, or0] <;> rw [or0, or0] at nx <;> exact nx
      · obtain ⟨x1, x2, x3, x4, x5⟩ := sd l l1
        simp only [↓forall_eq, ↓inB_iff, gK_hU, gL_hU, gR_hU, gIh, gJh, pI_hU, pJ_hU, hU_hU, uI_app, uJ_app, and_true, true_and, and_false, false_and, and_self, true_implies, false_implies, not_true, not_false_iff, if_true, if_false, eq_self, Nat.reduceLeDiff, Nat.reduceEqDiff, reduceCtorEq, i32c, ti0, ti1, tiM, Int.natCast_nonneg, Int.reduceEq, Int.reduceLE, Int.reduceLT, Int.reduceNeg, tl_i, Int32.reduceToInt, Int64.reduceToInt, tiA, tlM6, Int.toNat_natCast, natc, nI_1, Int.zero_sub, implies_true, not_false_eq_true, mf.1, mr_15 mf, mk_53 mf, ml_53 mf, mr_20 mf, mk_58 mf, ml_58 mf, mr_55 mf, mk_79 mf, ml_79 mf, mr_57 mf, mk_81 mf, ml_81 mf, mr_58 mf, mk_82 mf, ml_82 mf, mr_59 mf, mk_83 mf, ml_83 mf, hfI, zf, s 81 (by decide) (by decide), s 82 (by decide) (by decide), s 83 (by decide) (by decide), s 79 (by decide) (by decide), e81, nI1, hpI, hlt, hix, hxI, zx, a1, l4, x1, x2, x3, x4, x5, l5, or0] <;> rw [or0, or0] at nx <;> exact nx
      · obtain ⟨x1, x2, x3, x4, x5⟩ := sd l l1
        simp only [↓forall_eq, ↓inB_iff, gK_hU, gL_hU, gR_hU, gIh, gJh, pI_hU, pJ_hU, hU_hU, uI_app, uJ_app, and_true, true_and, and_false, false_and, and_self, true_implies, false_implies, not_true, not_false_iff, if_true, if_false, eq_self, Nat.reduceLeDiff, Nat.reduceEqDiff, reduceCtorEq, i32c, ti0, ti1, tiM, Int.natCast_nonneg, Int.reduceEq, Int.reduceLE, Int.reduceLT, Int.reduceNeg, tl_i, Int32.reduceToInt, Int64.reduceToInt, tiA, tlM6, Int.toNat_natCast, natc, nI_1, Int.zero_sub, implies_true, not_false_eq_true, mf.1, mr_15 mf, mk_53 mf, ml_53 mf, mr_20 mf, mk_58 mf, ml_58 mf, mr_55 mf, mk_79 mf, ml_79 mf, mr_57 mf, mk_81 mf, ml_81 mf, mr_58 mf, mk_82 mf, ml_82 mf, mr_59 mf, mk_83 mf, ml_83 mf, hfI, zf, s 81 (by decide) (by decide), s 82 (by decide) (by decide), s 83 (by decide) (by decide), s 79 (by decide) (by decide), e81, nI1, hpI, hlt, hix, hxI, zx, a1, l4, x1, x2, x3, x4, x5, l5, or0] <;> rw [or0] at nx <;> exact nx
      · obtain ⟨y1, y2, y3, y4, y5⟩ := sd k k1
        simp only [↓forall_eq, ↓inB_iff, gK_hU, gL_hU, gR_hU, gIh, gJh, pI_hU, pJ_hU, hU_hU, uI_app, uJ_app, and_true, true_and, and_false, false_and, and_self, true_implies, false_implies, not_true, not_false_iff, if_true, if_false, eq_self, Nat.reduceLeDiff, Nat.reduceEqDiff, reduceCtorEq, i32c, ti0, ti1, tiM, Int.natCast_nonneg, Int.reduceEq, Int.reduceLE, Int.reduceLT, Int.reduceNeg, tl_i, Int32.reduceToInt, Int64.reduceToInt, tiA, tlM6, Int.toNat_natCast, natc, nI_1, Int.zero_sub, implies_true, not_false_eq_true, mf.1, mr_15 mf, mk_53 mf, ml_53 mf, mr_20 mf, mk_58 mf, ml_58 mf, mr_55 mf, mk_79 mf, ml_79 mf, mr_57 mf, mk_81 mf, ml_81 mf, mr_58 mf, mk_82 mf, ml_82 mf, mr_59 mf, mk_83 mf, ml_83 mf, hfI, zf, s 81 (by decide) (by decide), s 82 (by decide) (by decide), s 83 (by decide) (by decide), s 79 (by decide) (by decide), e81, nI1, hpI, hlt, hix, hxI, zx, k4, y1, y2, y3, y4, y5, k5, b1, or0] <;> rw [or0, or0] at nx <;> exact nx
      · obtain ⟨x1, x2, x3, x4, x5⟩ := sd l l1
        obtain ⟨y1, y2, y3, y4, y5⟩ := sd k k1
        simp only [↓forall_eq, ↓inB_iff, gK_hU, gL_hU, gR_hU, gIh, gJh, pI_hU, pJ_hU, hU_hU, uI_app, uJ_app, and_true, true_and, and_false, false_and, and_self, true_implies, false_implies, not_true, not_false_iff, if_true, if_false, eq_self, Nat.reduceLeDiff, Nat.reduceEqDiff, reduceCtorEq, i32c, ti0, ti1, tiM, Int.natCast_nonneg, Int.reduceEq, Int.reduceLE, Int.reduceLT, Int.reduceNeg, tl_i, Int32.reduceToInt, Int64.reduceToInt, tiA, tlM6, Int.toNat_natCast, natc, nI_1, Int.zero_sub, implies_true, not_false_eq_true, mf.1, mr_15 mf, mk_53 mf, ml_53 mf, mr_20 mf, mk_58 mf, ml_58 mf, mr_55 mf, mk_79 mf, ml_79 mf, mr_57 mf, mk_81 mf, ml_81 mf, mr_58 mf, mk_82 mf, ml_82 mf, mr_59 mf, mk_83 mf, ml_83 mf, hfI, zf, s 81 (by decide) (by decide), s 82 (by decide) (by decide), s 83 (by decide) (by decide), s 79 (by decide) (by decide), e81, nI1, hpI, hlt, hix, hxI, zx, k4, y1, y2, y3, y4, y5, k5, l4, x1, x2, x3, x4, x5, l5, or0] <;> rw [or0, or0] at nx <;> exact nx
      · obtain ⟨x1, x2, x3, x4, x5⟩ := sd l l1
        obtain ⟨y1, y2, y3, y4, y5⟩ := sd k k1
        simp only [↓forall_eq, ↓inB_iff, gK_hU, gL_hU, gR_hU, gIh, gJh, pI_hU, pJ_hU, hU_hU, uI_app, uJ_app, and_true, true_and, and_false, false_and, and_self, true_implies, false_implies, not_true, not_false_iff, if_true, if_false, eq_self, Nat.reduceLeDiff, Nat.reduceEqDiff, reduceCtorEq, i32c, ti0, ti1, tiM, Int.natCast_nonneg, Int.reduceEq, Int.reduceLE, Int.reduceLT, Int.reduceNeg, tl_i, Int32.reduceToInt, Int64.reduceToInt, tiA, tlM6, Int.toNat_natCast, natc, nI_1, Int.zero_sub, implies_true, not_false_eq_true, mf.1, mr_15 mf, mk_53 mf, ml_53 mf, mr_20 mf, mk_58 mf, ml_58 mf, mr_55 mf, mk_79 mf, ml_79 mf, mr_57 mf, mk_81 mf, ml_81 mf, mr_58 mf, mk_82 mf, ml_82 mf, mr_59 mf, mk_83 mf, ml_83 mf, hfI, zf, s 81 (by decide) (by decide), s 82 (by decide) (by decide), s 83 (by decide) (by decide), s 79 (by decide) (by decide), e81, nI1, hpI, hlt, hix, hxI, zx, k4, y1, y2, y3, y4, y5, k5, l4, x1, x2, x3, x4, x5, l5, or0] <;> rw [or0] at nx <;> exact nx
      · obtain ⟨y1, y2, y3, y4, y5⟩ := sd k k1
        simp only [↓forall_eq, ↓inB_iff, gK_hU, gL_hU, gR_hU, gIh, gJh, pI_hU, pJ_hU, hU_hU, uI_app, uJ_app, and_true, true_and, and_false, false_and, and_self, true_implies, false_implies, not_true, not_false_iff, if_true, if_false, eq_self, Nat.reduceLeDiff, Nat.reduceEqDiff, reduceCtorEq, i32c, ti0, ti1, tiM, Int.natCast_nonneg, Int.reduceEq, Int.reduceLE, Int.reduceLT, Int.reduceNeg, tl_i, Int32.reduceToInt, Int64.reduceToInt, tiA, tlM6, Int.toNat_natCast, natc, nI_1, Int.zero_sub, implies_true, not_false_eq_true, mf.1, mr_15 mf, mk_53 mf, ml_53 mf, mr_20 mf, mk_58 mf, ml_58 mf, mr_55 mf, mk_79 mf, ml_79 mf, mr_57 mf, mk_81 mf, ml_81 mf, mr_58 mf, mk_82 mf, ml_82 mf, mr_59 mf, mk_83 mf, ml_83 mf, hfI, zf, s 81 (by decide) (by decide), s 82 (by decide) (by decide), s 83 (by decide) (by decide), s 79 (by decide) (by decide), e81, nI1, hpI, hlt, hix, hxI, zx, k4, y1, y2, y3, y4, y5, k5, b1, or0] <;> rw [or0] at nx <;> exact nx
      · obtain ⟨x1, x2, x3, x4, x5⟩ := sd l l1
        obtain ⟨y1, y2, y3, y4, y5⟩ := sd k k1
        simp only [↓forall_eq, ↓inB_iff, gK_hU, gL_hU, gR_hU, gIh, gJh, pI_hU, pJ_hU, hU_hU, uI_app, uJ_app, and_true, true_and, and_false, false_and, and_self, true_implies, false_implies, not_true, not_false_iff, if_true, if_false, eq_self, Nat.reduceLeDiff, Nat.reduceEqDiff, reduceCtorEq, i32c, ti0, ti1, tiM, Int.natCast_nonneg, Int.reduceEq, Int.reduceLE, Int.reduceLT, Int.reduceNeg, tl_i, Int32.reduceToInt, Int64.reduceToInt, tiA, tlM6, Int.toNat_natCast, natc, nI_1, Int.zero_sub, implies_true, not_false_eq_true, mf.1, mr_15 mf, mk_53 mf, ml_53 mf, mr_20 mf, mk_58 mf, ml_58 mf, mr_55 mf, mk_79 mf, ml_79 mf, mr_57 mf, mk_81 mf, ml_81 mf, mr_58 mf, mk_82 mf, ml_82 mf, mr_59 mf, mk_83 mf, ml_83 mf, hfI, zf, s 81 (by decide) (by decide), s 82 (by decide) (by decide), s 83 (by decide) (by decide), s 79 (by decide) (by decide), e81, nI1, hpI, hlt, hix, hxI, zx, k4, y1, y2, y3, y4, y5, k5, l4, x1, x2, x3, x4, x5, l5, or0] <;> rw [or0] at nx <;> exact nx
      · obtain ⟨x1, x2, x3, x4, x5⟩ := sd l l1
        obtain ⟨y1, y2, y3, y4, y5⟩ := sd k k1
        simp only [↓forall_eq, ↓inB_iff, gK_hU, gL_hU, gR_hU, gIh, gJh, pI_hU, pJ_hU, hU_hU, uI_app, uJ_app, and_true, true_and, and_false, false_and, and_self, true_implies, false_implies, not_true, not_false_iff, if_true, if_false, eq_self, Nat.reduceLeDiff, Nat.reduceEqDiff, reduceCtorEq, i32c, ti0, ti1, tiM, Int.natCast_nonneg, Int.reduceEq, Int.reduceLE, Int.reduceLT, Int.reduceNeg, tl_i, Int32.reduceToInt, Int64.reduceToInt, tiA, tlM6, Int.toNat_natCast, natc, nI_1, Int.zero_sub, implies_true, not_false_eq_true, mf.1, mr_15 mf, mk_53 mf, ml_53 mf, mr_20 mf, mk_58 mf, ml_58 mf, mr_55 mf, mk_79 mf, ml_79 mf, mr_57 mf, mk_81 mf, ml_81 mf, mr_58 mf, mk_82 mf, ml_82 mf, mr_59 mf, mk_83 mf, ml_83 mf, hfI, zf, s 81 (by decide) (by decide), s 82 (by decide) (by decide), s 83 (by decide) (by decide), s 79 (by decide) (by decide), e81, nI1, hpI, hlt, hix, hxI, zx, k4, y1, y2, y3, y4, y5, k5, l4, x1, x2, x3, x4, x5, l5, or0] <;> exact nx
  refine m211 ?_
  have hf0 := fun K X => hf (d + 1) I0 K X s0
  simp only [↓forall_eq, ↓inB_iff, gK_hU, gL_hU, gR_hU, gIh, gJh, pI_hU, pJ_hU, hU_hU, uI_app, uJ_app, and_true, true_and, and_false, false_and, and_self, true_implies, false_implies, not_true, not_false_iff, if_true, if_false, eq_self, Nat.reduceLeDiff, Nat.reduceEqDiff, reduceCtorEq, i32c, ti0, ti1, tiM, Int.natCast_nonneg, Int.reduceEq, Int.reduceLE, Int.reduceLT, Int.reduceNeg, tl_i, Int32.reduceToInt, Int64.reduceToInt, tiA, tlM6, Int.toNat_natCast, natc, nI_1, Int.zero_sub, implies_true, not_false_eq_true, mf.1, mr_15 mf, mk_53 mf, ml_53 mf, mr_20 mf, mk_58 mf, ml_58 mf, mr_55 mf, mk_79 mf, ml_79 mf, mr_57 mf, mk_81 mf, ml_81 mf, mr_58 mf, mk_82 mf, ml_82 mf, mr_59 mf, mk_83 mf, ml_83 mf, ↓hf0]
  refine may (nrM M f) 0 _ (by omega) ⟨fun c h1 _ => by rw [uI_ne _ _ _ h1, uI_ne _ _ _ h1], fun j h1 h2 => by rw [uI_app, if_neg (fun q => h2 q.2), uI_app, if_neg (fun q => h1 q.2)]⟩ (by rw [uI_app, if_neg (by decide), uI_same]) (uI_same _ _ _ _)
end LST
