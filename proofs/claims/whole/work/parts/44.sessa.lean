/-! SESSIONS: answer -/
section SSA
variable {d U nf ns k f : Nat} {h h1 h2 g : aH} {A A1 o o1 : Nat → Nat} {X : Nat → aH → Prop} {M M2 : Nat → Nat → Int32} {I I1 I2 : Nat → Nat → Int32} {J J2 : Nat → Nat → Int64} {C : Nat → Prop} {E : Nat → Nat → List Tm} {Cn : Nat → Nat → List Cmp}
/-- both fail; the model has used its own cells -/
theorem Pr_gcs {nc nm : Nat} {args : List aV} {exs as fs : List Nat} {Post : aH → Prop} (c x : Nat) (b : base h o) (h0 : c + 1 ≤ exs.length) (hx : exs.getD c 0 = x) (has : ∀ a ∈ as, 44 < a ∧ a < 107)
    (hc : ∀ (K : Int32 → aH → Prop) (X : Nat → aH → Prop), X x (gNew h 200 6) → CI 500 nc (vR 8 :: args) h K X)
    (hm : ∀ (g : aH) (J : Nat → Nat → Int64) (K : Int32 → aH → Prop) (X : Nat → aH → Prop), MF g → (∀ a, 44 ≤ a → a < 107 → gI g a = gI h a) → (∀ (I' : Nat → Nat → Int32) (b : Int32), (∀ a, a ≠ 44 → a ∉ as → I' a = gI g a) → (∀ j, j ≠ 0 → j ∉ fs → I' 44 j = gI g 44 j) → I' 44 0 = nI (c + 1) → K b (hU g I' J)) → CI 500 nm (vR 44 :: args) (hU g (gI g) J) K X)
    (hp : ∀ h2, left h h2 A A o o C as fs 1 6 → Post h2) : Pr nc nm args exs h Post := by
  have b1 := base_new b
  refine Pr_no c (fun h1 => h1 = gNew h 200 6) x h0 hx (fun K X k => hc K X (k _ rfl)) (fun h1 J1 m j K X k => ?_)
  subst m
  refine hm _ J1 K X b1.2.1 (fun a h44 h107 => (fr_m (A := A) (A1 := A) (C := fun _ => False) b (fr_new 200 6) (fun w => w) h44 h107).1) (fun I' b' i1 i2 i3 => k _ _ i3 rfl (hp _ ?_))
  have l1 := left_mk (n := 1) (t := 6) (as := as) (fs := fs) (I' := I') (J' := J1) (C := fun _ => False) (A := A) (A1 := A) b b1 gc_new (fun w => w) has i1 i2 (fun a a1 _ => j a a1) (by rw [gN_gNew]; omega) (by rw [gT_gNew]; omega)
  exact ⟨l1.1, fr_mono l1.2.1 (fun a q => q.elim (fun w => w.elim) Or.inr), l1.2.2⟩
theorem tu_inv {so : Nat → Int32} {E : Nat → List Tm} {Cn : Nat → List Cmp} {rg : Nat → Int32} {cnt : Nat} (P : Nat → Int32 → Prop) : ∀ (n : Nat) (gv av : Nat → Int32), (∀ i, P i (gv i)) → (∀ i, P i (av i)) → (∀ i, P i (-2000000)) → (∀ i, P i ((tu so E Cn rg cnt n gv av).1 i)) ∧ ∀ i, P i ((tu so E Cn rg cnt n gv av).2 i) := by
  intro n
  induction n with
  | zero => intro gv av a1 a2 a3; exact ⟨a1, a2⟩
  | succ n ih =>
    intro gv av a1 a2 a3
    rw [tu]
    split
    · split
      · exact ⟨a1, a2⟩
      · refine ih _ _ (fun i => ?_) (fun i => ?_) a3
        · unfold upG; split
          · rename_i e; rw [e]; exact a2 _
          · exact a1 i
        · unfold upG; split
          · exact a3 i
          · exact a2 i
    · exact ⟨a1, a2⟩
theorem iZ_nat {z : Int} (h0 : 0 ≤ z) (h1 : z < 2147483648) : iZ z = nI z.toNat := ti_inj (by rw [ti_z (by omega) h1, ti_n (by omega)]; omega)
theorem pr_answer {x v : Int32} (b : base h o) (F : FormA h A o (gI h) E Cn nf) (S : SessA h A o (gI h) E Cn nf ns U) : Pr 156 160 [vI x, vI v] [3, 2, 1] h (fun h2 => left h h2 A A o o (fun c => c = 6) [65, 66, 71, 72, 73, 75, 76, 77] [36, 37, 50, 51, 52] 1 6 ∧ SessA h2 A o (gI h2) E Cn nf ns U) := by
  have hs := S.2.1.1
  have hs6 := S.2.1.2
  have hs2 : (nI ns).toInt = ns := ti_n (by omega)
  have fin : ∀ h2, left h h2 A A o o (fun _ => False) [65, 66] [36, 37, 50, 51, 52] 1 6 → left h h2 A A o o (fun c => c = 6) [65, 66, 71, 72, 73, 75, 76, 77] [36, 37, 50, 51, 52] 1 6 ∧ SessA h2 A o (gI h2) E Cn nf ns U := fun h2 l => ⟨left_mono l (fun _ w => w.elim) (by simp) (by simp) (by omega) (by omega), SessA_left b S l (fun w => w) (fun w => w) F.2.1.2 (Nat.le_refl _) (by simp) (by simp)⟩
  by_cases q0 : 0 ≤ x.toInt ∧ x.toInt < ns
  · generalize hk : x.toInt.toNat = k at *
    have hx : x = nI k := by rw [← hk]; exact ti_nat q0.1
    have hk2 : k < ns := by omega
    have X0 := sX_of F S hk2
    have S0 := S.2.2.1 k hk2
    obtain ⟨s1, ⟨s2, s3⟩, s4, s5, ⟨s8, s9⟩, W, ⟨c1, c2⟩, g1, g2, n1, n2⟩ := S0
    have FO := F.2.2 _ s3
    have SET := fun I1 I2 J2 => @SessA_set U nf ns k h A o I1 I2 J2 E Cn b S hk2
    generalize hf : fS (gI h) k = f at *
    obtain ⟨⟨t, l, ⟨d1, d2, d3⟩, d4⟩, -⟩ := id X0
    have f6 := FO.2.1.1.2.2
    have hkI : (nI k).toInt = k := ti_n (by omega)
    have k60 : (k : Int) < 60 := by omega
    have k0 : (k : Int) < ns := by omega
    have hfI : (nI f).toInt = f := ti_n (by omega)
    have bg := gv_bnd g1 FO.2.2.1
    have ba := av_bnd g2 FO.2.2.1
    have ok := gOK_of g1 FO.2.2.1
    have hle := en_le (so := soM (gI h) f) (E := E f) (Cn := Cn f) (gv := gvM (gI h) k) (rg := rgM (gI h) k) (cnt := cnM (gI h) f)
    subst hx
    -- the model's question
    have quest : ∀ (g : aH) (J : Nat → Nat → Int64) (K : Int32 → aH → Prop) (X : Nat → aH → Prop), MF g → (∀ a, 44 ≤ a → a < 107 → gI g a = gI h a) → (∀ I2 : Nat → Nat → Int32, wmI (uI (gI g) 44 0 0) I2 → K (if enW (soM (gI h) f) (E f) (Cn f) (gvM (gI h) k) (rgM (gI h) k) (cnM (gI h) f) < cnM (gI h) f then nI (enW (soM (gI h) f) (E f) (Cn f) (gvM (gI h) k) (rgM (gI h) k) (cnM (gI h) f)) else -1) (hU g I2 J)) → CI 499 149 [vR 44, vI (nI k)] (hU g (uI (gI g) 44 0 0) J) K X := by
      intro g J K X mf e kk
      have ee : ∀ a, 44 < a → a < 107 → uI (gI g) 44 0 0 a = gI h a := fun a h1 h2 => by rw [uI_ne _ _ _ (by omega), e a (by omega) h2]
      have fm : fmM (uI (gI g) 44 0 0) f (cnM (gI h) f) (soM (gI h) f) (E f) (Cn f) := fmM_cg (fun a q1 q2 => ee a (by omega) (by omega)) FO.2.1
      refine m_quest mf (by rw [ee 67 (by decide) (by decide)]; exact s2) fm (by omega) (fun i hi => by rw [ee 71 (by decide) (by decide), ee 72 (by decide) (by decide)]; exact ok i hi) fun I2 a1 _ => ?_
      have e1 : gvM (uI (gI g) 44 0 0) k = gvM (gI h) k := by funext i; unfold gvM; rw [ee 71 (by decide) (by decide), ee 72 (by decide) (by decide)]
      have e2 : rgM (uI (gI g) 44 0 0) k = rgM (gI h) k := by funext i; unfold rgM; rw [ee 69 (by decide) (by decide)]
      have e3 : quM (soM (gI h) f) (E f) (Cn f) (gvM (uI (gI g) 44 0 0) k) (rgM (uI (gI g) 44 0 0) k) (cnM (gI h) f) (!decide ((uI (gI g) 44 0 0 70 k).toInt = 0)) = if enW (soM (gI h) f) (E f) (Cn f) (gvM (gI h) k) (rgM (gI h) k) (cnM (gI h) f) < cnM (gI h) f then nI (enW (soM (gI h) f) (E f) (Cn f) (gvM (gI h) k) (rgM (gI h) k) (cnM (gI h) f)) else -1 := by
        rw [e1, e2, ee 70 (by decide) (by decide)]
        unfold quM
        by_cases c : enW (soM (gI h) f) (E f) (Cn f) (gvM (gI h) k) (rgM (gI h) k) (cnM (gI h) f) < cnM (gI h) f
        · rw [if_pos c, if_neg]
          rintro (z | z)
          · rcases c2 with z2 | ⟨z2, z3⟩
            · rw [z2] at z; exact absurd z (by decide)
            · omega
          · omega
        · rw [if_neg c, if_pos (Or.inr (by omega))]
      rw [e3]
      exact kk I2 a1
    have FORM : ∀ (h2 : aH), True := fun _ => trivial
    generalize hq : enW (soM (gI h) f) (E f) (Cn f) (gvM (gI h) k) (rgM (gI h) k) (cnM (gI h) f) = q at *
    have W4 : gI h (A (bS k)) 6 = nI q := by rw [← hq]; exact W.2.2.2
    by_cases qc : q < cnM (gI h) f
    · have hqI : (nI q).toInt = q := ti_n (by omega)
      have z1 : ¬ ((q : Int) = -1) := by omega
      have z20 : (q : Int) < 20 := by omega
      have hix : (20 : Int32) * nI f + nI q = nI (20 * f + q) := by rw [show (20 : Int32) = nI 20 from rfl, nI_mul, nI_add]
      have hxI : (nI (20 * f + q)).toInt = ((20 * f + q : Nat) : Int) := ti_n (by omega)
      have zx : ((20 * f + q : Nat) : Int) < 120 := by omega
      obtain ⟨fb1, fb2, fb3, fb4⟩ := FO.2.2.1 q qc
      have hab := en_abs (so := soM (gI h) f) (E := E f) (Cn := Cn f) (gv := gvM (gI h) k) (rg := rgM (gI h) k) (cnt := cnM (gI h) f) (by rw [hq]; exact qc)
      rw [hq] at hab
      obtain ⟨fb5, -⟩ := fb4 hab.2
      by_cases qv : (gI h 56 (20 * f + q)).toInt ≤ v.toInt ∧ v.toInt ≤ (gI h 57 (20 * f + q)).toInt
      · have z3 : ¬ v.toInt < (gI h 56 (20 * f + q)).toInt := by omega
        have z4 : ¬ (gI h 57 (20 * f + q)).toInt < v.toInt := by omega
        have q20 : q < 20 := by omega
        have hixk : (20 : Int32) * nI k + nI q = nI (20 * k + q) := by rw [show (20 : Int32) = nI 20 from rfl, nI_mul, nI_add]
        have hxIk : (nI (20 * k + q)).toInt = ((20 * k + q : Nat) : Int) := ti_n (by omega)
        have zxk : ((20 * k + q : Nat) : Int) < 1200 := by omega
        have hcl : gI h 70 k = 0 := by
          rcases c2 with z | ⟨_, z⟩
          · exact z
          · omega
        have h71q : (gI h 71 (20 * k + q)).toInt = 0 := (gv_iff ok q20).mp (by rw [hab.1]; exact tiA)
        have hv9 : ¬ v.toInt = -2000000 := by omega
        -- the notes that count
        generalize hn1 : nt0 (ntM (gI h) k) (decide ((q : Int) = (gI h (A (bS k)) 10).toInt ∧ v.toInt = (gI h (A (bS k)) 11).toInt)) = nt1
        have hn2 : nt1 = nt0 (ntM (gI h) k) (decide ((gI h 76 k).toInt = q ∧ (gI h 77 k).toInt = v.toInt)) := by
          rw [← hn1]
          rcases n2 with z | ⟨z, z'⟩
          · funext i
            unfold nt0
            by_cases hi : i < 20
            · rw [z i hi, Bool.false_and, Bool.false_and]
            · have : ntM (gI h) k i = false := by unfold ntM; rw [decide_eq_false hi]; rfl
              rw [this, Bool.false_and, Bool.false_and]
          · rw [z, z']
            congr 1
            apply decide_eq_decide.mpr
            constructor
            · rintro ⟨y1, y2⟩; exact ⟨y1.symm, y2.symm⟩
            · rintro ⟨y1, y2⟩; exact ⟨y1.symm, y2.symm⟩
        have cM : ∀ I1, sFr h A k I1 → ∀ a, 44 ≤ a → a ≤ 107 → I1 a = gI h a := fun I1 a1 a h4 h7 => by
          have ne : ∀ j, j < 5 → a ≠ A (bS k + j) := fun j hj e => by
            obtain ⟨kd, w⟩ := vS_j s1 hj
            exact lab_out b w (by unfold bS; omega) (by rw [← e]; omega)
          exact a1.1 a (ne 0 (by omega)) (ne 2 (by omega)) (ne 3 (by omega)) (ne 4 (by omega))
        -- the model's call up to its walk's end: all that it then has
        have head : ∀ (I1 : Nat → Nat → Int32) (J1 : Nat → Nat → Int64) (K : Int32 → aH → Prop) (X : Nat → aH → Prop), sFr h A k I1 →
            (∀ I5 : Nat → Nat → Int32, (∀ a, a ≠ 44 → a ≠ 65 → a ≠ 66 → a ≠ 71 → a ≠ 72 → a ≠ 75 → a ≠ 76 → a ≠ 77 → I5 a = I1 a) → (∀ j, j ≠ 0 → j ≠ 36 → j ≠ 37 → j ≠ 50 → j ≠ 51 → j ≠ 52 → I5 44 j = gI h 44 j) → I5 44 0 = 0 → (∀ i, I5 71 i = if i = 20 * k + q then 1 else gI h 71 i) → (∀ i, I5 72 i = if i = 20 * k + q then v else gI h 72 i) → ((∀ i, (i < 20 * k ∨ 20 * k + 20 ≤ i) → I5 75 i = gI h 75 i) ∧ ntM I5 k = nt1) → (∀ i, I5 76 i = if i = k then nI q else gI h 76 i) → (∀ i, I5 77 i = if i = k then v else gI h 77 i) →
              I5 44 51 = iZ (fsB (bkM (soM (gI h) f) (E f) (Cn f) (upG (gvM (gI h) k) q v) (rgM (gI h) k) 2 q (fun _ => false)) (enW (soM (gI h) f) (E f) (Cn f) (upG (gvM (gI h) k) q v) (rgM (gI h) k) (cnM (gI h) f))) → I5 44 52 = iZ (fsB (bkM (soM (gI h) f) (E f) (Cn f) (upG (gvM (gI h) k) q v) (rgM (gI h) k) 3 q nt1) (enW (soM (gI h) f) (E f) (Cn f) (upG (gvM (gI h) k) q v) (rgM (gI h) k) (cnM (gI h) f))) →
              ((I5 44 51).toInt = -1 → ((I5 44 52).toInt = -1 → ∀ I6 : Nat → Nat → Int32, (∀ a, a ≠ 75 → I6 a = I5 a) → (∀ i, (i < 20 * k ∨ 20 * k + 20 ≤ i) → I6 75 i = I5 75 i) → (∀ i, i < 20 → I6 75 (20 * k + i) = 0) → CV 499 159 [vR 44, vI (nI k)] (hU h (uI (uI I6 76 k (-1)) 73 (20 * k + q) (0 &&& 1)) J1) (fun h8 => K 0 h8) X) ∧ (¬ (I5 44 52).toInt = -1 → ((I5 44 52).toInt = -1 ∨ 0 ≤ (I5 44 52).toInt) → K (200 + I5 44 52) (hU h (uI (uI I5 71 (20 * k + q) 0) 75 (20 * k + (I5 44 52).toInt.toNat) 1) J1))) ∧ (¬ (I5 44 51).toInt = -1 → K (100 + I5 44 51) (hU h (uI I5 71 (20 * k + q) 0) J1))) →
            CI 500 160 [vR 44, vI (nI k), vI v] (hU h I1 J1) K X := by
          intro I1 J1 K X a1 cont
          have mf : MF h := b.2.1
          have m44 := cM I1 a1 44 (by omega) (by omega)
          refine m160 ?_
          simp only [↓forall_eq, ↓inB_iff, gK_hU, gL_hU, gR_hU, gIh, gJh, pI_hU, pJ_hU, hU_hU, uI_app, uJ_app, and_true, true_and, and_false, false_and, and_self, true_implies, false_implies, not_true, not_false_iff, if_true, if_false, eq_self, Nat.reduceLeDiff, Nat.reduceEqDiff, reduceCtorEq, i32c, ti0, ti1, tiM, Int.natCast_nonneg, Int.reduceEq, Int.reduceLE, Int.reduceLT, Int.reduceNeg, tl_i, Int32.reduceToInt, Int64.reduceToInt, tiA, tlM6, Int.toNat_natCast, natc, nI_1, Int.zero_sub, implies_true, not_false_eq_true, mf.1, mr_18 mf, mk_56 mf, ml_56 mf, mr_19 mf, mk_57 mf, ml_57 mf, mr_39 mf, mk_67 mf, ml_67 mf, mr_43 mf, mk_71 mf, ml_71 mf, mr_44 mf, mk_72 mf, ml_72 mf, mr_45 mf, mk_73 mf, ml_73 mf, mr_47 mf, mk_75 mf, ml_75 mf, mr_48 mf, mk_76 mf, ml_76 mf, mr_49 mf, mk_77 mf, ml_77 mf, ↓fail_br mf, ↓isSession_br mf, m44, hs, hs2, hkI, k0]
          refine quest (hU h I1 (gJ h)) J1 _ X mf (fun a h4 h7 => cM I1 a1 a h4 (by omega)) fun I2 w1 => ?_
          rw [if_pos qc]
          have ee : ∀ a, a ≠ 44 → a ≠ 65 → a ≠ 66 → I2 a = I1 a := fun a h1 h2 h3 => by rw [w1.1 a h1 h2 h3, gIh, uI_ne _ _ _ h1]
          have eM : ∀ a, 44 < a → a ≤ 107 → a ≠ 65 → a ≠ 66 → I2 a = gI h a := fun a h1 h2 h3 h4 => by rw [ee a (by omega) h3 h4, cM I1 a1 a (by omega) h2]
          have e67 := eM 67 (by decide) (by decide) (by decide) (by decide)
          have e56 := eM 56 (by decide) (by decide) (by decide) (by decide)
          have e57 := eM 57 (by decide) (by decide) (by decide) (by decide)
          have e76 := eM 76 (by decide) (by decide) (by decide) (by decide)
          have e77 := eM 77 (by decide) (by decide) (by decide) (by decide)
          simp only [↓forall_eq, ↓inB_iff, gK_hU, gL_hU, gR_hU, gIh, gJh, pI_hU, pJ_hU, hU_hU, uI_app, uJ_app, and_true, true_and, and_false, false_and, and_self, true_implies, false_implies, not_true, not_false_iff, if_true, if_false, eq_self, Nat.reduceLeDiff, Nat.reduceEqDiff, reduceCtorEq, i32c, ti0, ti1, tiM, Int.natCast_nonneg, Int.reduceEq, Int.reduceLE, Int.reduceLT, Int.reduceNeg, tl_i, Int32.reduceToInt, Int64.reduceToInt, tiA, tlM6, Int.toNat_natCast, natc, nI_1, Int.zero_sub, implies_true, not_false_eq_true, mf.1, mr_18 mf, mk_56 mf, ml_56 mf, mr_19 mf, mk_57 mf, ml_57 mf, mr_39 mf, mk_67 mf, ml_67 mf, mr_43 mf, mk_71 mf, ml_71 mf, mr_44 mf, mk_72 mf, ml_72 mf, mr_45 mf, mk_73 mf, ml_73 mf, mr_47 mf, mk_75 mf, ml_75 mf, mr_48 mf, mk_76 mf, ml_76 mf, mr_49 mf, mk_77 mf, ml_77 mf, ↓fail_br mf, ↓isIn_br, hkI, k60, e67, s2, hqI, z1, hix, hxI, zx, e56, e57, qv, e76, e77]
          -- the notes are right: on to the walk
          have go : ∀ I3 : Nat → Nat → Int32, (∀ a, a ≠ 75 → I3 a = I2 a) → (∀ i, (i < 20 * k ∨ 20 * k + 20 ≤ i) → I3 75 i = gI h 75 i) → ntM I3 k = nt1 → Wp 500 160 (109, [some (vR 44), some (vI (nI k)), some (vI v), some (vI (nI q)), none], [], hU h I3 J1) (RI K X) := fun I3 y1 y2 y3 => by
            refine w160_109 ?_
            simp only [↓forall_eq, ↓inB_iff, gK_hU, gL_hU, gR_hU, gIh, gJh, pI_hU, pJ_hU, hU_hU, uI_app, uJ_app, and_true, true_and, and_false, false_and, and_self, true_implies, false_implies, not_true, not_false_iff, if_true, if_false, eq_self, Nat.reduceLeDiff, Nat.reduceEqDiff, reduceCtorEq, i32c, ti0, ti1, tiM, Int.natCast_nonneg, Int.reduceEq, Int.reduceLE, Int.reduceLT, Int.reduceNeg, tl_i, Int32.reduceToInt, Int64.reduceToInt, tiA, tlM6, Int.toNat_natCast, natc, nI_1, Int.zero_sub, implies_true, not_false_eq_true, mf.1, mr_18 mf, mk_56 mf, ml_56 mf, mr_19 mf, mk_57 mf, ml_57 mf, mr_39 mf, mk_67 mf, ml_67 mf, mr_43 mf, mk_71 mf, ml_71 mf, mr_44 mf, mk_72 mf, ml_72 mf, mr_45 mf, mk_73 mf, ml_73 mf, mr_47 mf, mk_75 mf, ml_75 mf, mr_48 mf, mk_76 mf, ml_76 mf, mr_49 mf, mk_77 mf, ml_77 mf, hkI, k60, hixk, hxIk, zxk]
            generalize hI4 : uI (uI (uI (uI I3 76 k (nI q)) 77 k v) 71 (20 * k + q) (1 &&& 1)) 72 (20 * k + q) v = I4
            have i4 : ∀ a, a ≠ 71 → a ≠ 72 → a ≠ 76 → a ≠ 77 → I4 a = I3 a := fun a h1 h2 h3 h4 => by rw [← hI4, uI_ne _ _ _ h2, uI_ne _ _ _ h1, uI_ne _ _ _ h4, uI_ne _ _ _ h3]
            have i4M : ∀ a, 44 < a → a ≤ 107 → a ≠ 65 → a ≠ 66 → a ≠ 71 → a ≠ 72 → a ≠ 75 → a ≠ 76 → a ≠ 77 → I4 a = gI h a := fun a h1 h2 h3 h4 h5 h6 h7 h8 h9 => by rw [i4 a h5 h6 h8 h9, y1 a h7, eM a h1 h2 h3 h4]
            have p71 : ∀ i, I4 71 i = if i = 20 * k + q then 1 else gI h 71 i := fun i => by
              rw [← hI4, uI_ne _ _ _ (by decide), uI_app, uI_ne _ _ _ (by decide), uI_ne _ _ _ (by decide), y1 71 (by decide), eM 71 (by decide) (by decide) (by decide) (by decide)]
              simp only [true_and]; rfl
            have p72 : ∀ i, I4 72 i = if i = 20 * k + q then v else gI h 72 i := fun i => by
              rw [← hI4, uI_app, uI_ne _ _ _ (by decide), uI_ne _ _ _ (by decide), uI_ne _ _ _ (by decide), y1 72 (by decide), eM 72 (by decide) (by decide) (by decide) (by decide)]
              simp only [true_and]
            have p75 : I4 75 = I3 75 := i4 75 (by decide) (by decide) (by decide) (by decide)
            have p76 : ∀ i, I4 76 i = if i = k then nI q else gI h 76 i := fun i => by
              rw [← hI4, uI_ne _ _ _ (by decide), uI_ne _ _ _ (by decide), uI_ne _ _ _ (by decide), uI_app, y1 76 (by decide), e76]
              simp only [true_and]
            have p77 : ∀ i, I4 77 i = if i = k then v else gI h 77 i := fun i => by
              rw [← hI4, uI_ne _ _ _ (by decide), uI_ne _ _ _ (by decide), uI_app, uI_ne _ _ _ (by decide), y1 77 (by decide), e77]
              simp only [true_and]
            have gv4 : gvM I4 k = upG (gvM (gI h) k) q v := by
              funext i
              unfold gvM upG
              by_cases e : i = q
              · rw [if_pos e, e, if_pos q20, p71, if_pos rfl, if_neg (by decide), p72, if_pos rfl]
              · have e2 : ¬ 20 * k + i = 20 * k + q := by omega
                rw [if_neg e, p71, if_neg e2, p72, if_neg e2]
            have rg4 : rgM I4 k = rgM (gI h) k := by unfold rgM; rw [i4M 69 (by decide) (by decide) (by decide) (by decide) (by decide) (by decide) (by decide) (by decide) (by decide)]
            have nt4 : ntM I4 k = nt1 := by rw [← y3]; unfold ntM; rw [p75]
            have fm4 : fmM I4 f (cnM (gI h) f) (soM (gI h) f) (E f) (Cn f) := fmM_cg (fun a q1 q2 => i4M a (by omega) (by omega) (by omega) (by omega) (by omega) (by omega) (by omega) (by omega) (by omega)) FO.2.1
            have ok4 : gOK I4 k := fun i hi => by
              rw [p71, p72]
              by_cases e2 : 20 * k + i = 20 * k + q
              · rw [if_pos e2, if_pos e2]; exact fun _ => hv9
              · rw [if_neg e2, if_neg e2]; exact ok i hi
            refine m_walk mf (by rw [i4M 67 (by decide) (by decide) (by decide) (by decide) (by decide) (by decide) (by decide) (by decide) (by decide)]; exact s2) fm4 (by omega) ok4 fun I5 x1 x2 x3 => ?_
            rw [gv4, rg4, nt4, hqI] at x3
            have i5 : ∀ a, a ≠ 44 → a ≠ 65 → a ≠ 66 → I5 a = I4 a := x1.1
            have j71 := i5 71 (by decide) (by decide) (by decide)
            have C5 := cont I5 (fun a h1 h2 h3 h4 h5 h6 h7 h8 => by rw [i5 a h1 h2 h3, i4 a h4 h5 h7 h8, y1 a h6, ee a h1 h2 h3]) (fun j h0 h1 h2 h3 h4 h5 => by rw [x1.2 j h1 h2 h3 h4 h5, i4 44 (by decide) (by decide) (by decide) (by decide), y1 44 (by decide), w1.2 j h1 h2 h3 h4 h5, gIh, uI_nj _ _ _ _ h0, m44]) (by rw [x1.2 0 (by decide) (by decide) (by decide) (by decide) (by decide), i4 44 (by decide) (by decide) (by decide) (by decide), y1 44 (by decide), w1.2 0 (by decide) (by decide) (by decide) (by decide) (by decide), gIh, uI_same]) (fun i => by rw [j71, p71]) (fun i => by rw [i5 72 (by decide) (by decide) (by decide), p72]) ⟨fun i hi => by rw [i5 75 (by decide) (by decide) (by decide), p75]; exact y2 i hi, by rw [← nt4]; unfold ntM; rw [i5 75 (by decide) (by decide) (by decide)]⟩ (fun i => by rw [i5 76 (by decide) (by decide) (by decide), p76]) (fun i => by rw [i5 77 (by decide) (by decide) (by decide), p77]) x3.2.1 x3.2.2
            obtain ⟨C6, C7⟩ := C5
            have r3 := fsB_rng (bkM (soM (gI h) f) (E f) (Cn f) (upG (gvM (gI h) k) q v) (rgM (gI h) k) 3 q nt1) (enW (soM (gI h) f) (E f) (Cn f) (upG (gvM (gI h) k) q v) (rgM (gI h) k) (cnM (gI h) f))
            have hle5 := en_le (so := soM (gI h) f) (E := E f) (Cn := Cn f) (gv := upG (gvM (gI h) k) q v) (rg := rgM (gI h) k) (cnt := cnM (gI h) f)
            have r4 : (I5 44 52).toInt = -1 ∨ (0 ≤ (I5 44 52).toInt ∧ (I5 44 52).toInt < 20) := by rw [x3.2.2, ti_z (by omega) (by omega)]; omega
            simp only [gK_hU, mf.1, true_and, gIh]
            refine ⟨fun y51 => ⟨fun y52 => m_forget mf (by omega) fun I6 f1 f2 f3 => ?_, fun y52 => ?_⟩, fun y51 => ?_⟩
            · have C8 := (C6 y51).1 y52 I6 f1 f2 f3
              simp only [↓forall_eq, ↓inB_iff, gK_hU, gL_hU, gR_hU, gIh, gJh, pI_hU, pJ_hU, hU_hU, uI_app, uJ_app, and_true, true_and, and_false, false_and, and_self, true_implies, false_implies, not_true, not_false_iff, if_true, if_false, eq_self, Nat.reduceLeDiff, Nat.reduceEqDiff, reduceCtorEq, i32c, ti0, ti1, tiM, Int.natCast_nonneg, Int.reduceEq, Int.reduceLE, Int.reduceLT, Int.reduceNeg, tl_i, Int32.reduceToInt, Int64.reduceToInt, tiA, tlM6, Int.toNat_natCast, natc, nI_1, Int.zero_sub, implies_true, not_false_eq_true, mf.1, mr_18 mf, mk_56 mf, ml_56 mf, mr_19 mf, mk_57 mf, ml_57 mf, mr_39 mf, mk_67 mf, ml_67 mf, mr_43 mf, mk_71 mf, ml_71 mf, mr_44 mf, mk_72 mf, ml_72 mf, mr_45 mf, mk_73 mf, ml_73 mf, mr_47 mf, mk_75 mf, ml_75 mf, mr_48 mf, mk_76 mf, ml_76 mf, mr_49 mf, mk_77 mf, ml_77 mf, hkI, k60, hixk, hxIk, zxk]
              exact C8
            · have C8 := (C6 y51).2 y52 (by omega)
              have hw0 : 0 ≤ (I5 44 52).toInt := by omega
              have hiw : (20 : Int32) * nI k + I5 44 52 = nI (20 * k + (I5 44 52).toInt.toNat) := by rw [show (20 : Int32) = nI 20 from rfl, nI_mul, ← nI_add, ← ti_nat hw0]
              have hiwI : (nI (20 * k + (I5 44 52).toInt.toNat)).toInt = ((20 * k + (I5 44 52).toInt.toNat : Nat) : Int) := ti_n (by omega)
              have ziw : ((20 * k + (I5 44 52).toInt.toNat : Nat) : Int) < 1200 := by omega
              simp only [↓forall_eq, ↓inB_iff, gK_hU, gL_hU, gR_hU, gIh, gJh, pI_hU, pJ_hU, hU_hU, uI_app, uJ_app, and_true, true_and, and_false, false_and, and_self, true_implies, false_implies, not_true, not_false_iff, if_true, if_false, eq_self, Nat.reduceLeDiff, Nat.reduceEqDiff, reduceCtorEq, i32c, ti0, ti1, tiM, Int.natCast_nonneg, Int.reduceEq, Int.reduceLE, Int.reduceLT, Int.reduceNeg, tl_i, Int32.reduceToInt, Int64.reduceToInt, tiA, tlM6, Int.toNat_natCast, natc, nI_1, Int.zero_sub, implies_true, not_false_eq_true, mf.1, mr_18 mf, mk_56 mf, ml_56 mf, mr_19 mf, mk_57 mf, ml_57 mf, mr_39 mf, mk_67 mf, ml_67 mf, mr_43 mf, mk_71 mf, ml_71 mf, mr_44 mf, mk_72 mf, ml_72 mf, mr_45 mf, mk_73 mf, ml_73 mf, mr_47 mf, mk_75 mf, ml_75 mf, mr_48 mf, mk_76 mf, ml_76 mf, mr_49 mf, mk_77 mf, ml_77 mf, hixk, hxIk, zxk, hiw, hiwI, ziw]
              exact C8
            · have C8 := C7 y51
              simp only [↓forall_eq, ↓inB_iff, gK_hU, gL_hU, gR_hU, gIh, gJh, pI_hU, pJ_hU, hU_hU, uI_app, uJ_app, and_true, true_and, and_false, false_and, and_self, true_implies, false_implies, not_true, not_false_iff, if_true, if_false, eq_self, Nat.reduceLeDiff, Nat.reduceEqDiff, reduceCtorEq, i32c, ti0, ti1, tiM, Int.natCast_nonneg, Int.reduceEq, Int.reduceLE, Int.reduceLT, Int.reduceNeg, tl_i, Int32.reduceToInt, Int64.reduceToInt, tiA, tlM6, Int.toNat_natCast, natc, nI_1, Int.zero_sub, implies_true, not_false_eq_true, mf.1, mr_18 mf, mk_56 mf, ml_56 mf, mr_19 mf, mk_57 mf, ml_57 mf, mr_39 mf, mk_67 mf, ml_67 mf, mr_43 mf, mk_71 mf, ml_71 mf, mr_44 mf, mk_72 mf, ml_72 mf, mr_45 mf, mk_73 mf, ml_73 mf, mr_47 mf, mk_75 mf, ml_75 mf, mr_48 mf, mk_76 mf, ml_76 mf, mr_49 mf, mk_77 mf, ml_77 mf, hixk, hxIk, zxk]
              exact C8
          refine ⟨fun c5 => ⟨fun c6 => ?_, fun c6 => ?_⟩, fun c5 => ?_⟩
          · refine go I2 (fun _ _ => rfl) (fun i _ => by rw [eM 75 (by decide) (by decide) (by decide) (by decide)]) ?_
            rw [hn2, decide_eq_true ⟨c5, c6⟩]
            funext i
            unfold nt0 ntM
            rw [eM 75 (by decide) (by decide) (by decide) (by decide), Bool.and_true]
          · refine m_forget mf (by omega) fun I3 y1 y2 y3 => go I3 y1 (fun i hi => by rw [y2 i hi, eM 75 (by decide) (by decide) (by decide) (by decide)]) ?_
            rw [hn2, decide_eq_false (fun z => c6 z.2)]
            funext i
            unfold nt0 ntM
            by_cases hi : i < 20
            · rw [y3 i hi, Bool.and_false]; simp
            · rw [decide_eq_false hi, Bool.false_and, Bool.and_false]
          · refine m_forget mf (by omega) fun I3 y1 y2 y3 => go I3 y1 (fun i hi => by rw [y2 i hi, eM 75 (by decide) (by decide) (by decide) (by decide)]) ?_
            rw [hn2, decide_eq_false (fun z => c5 z.1)]
            funext i
            unfold nt0 ntM
            by_cases hi : i < 20
            · rw [y3 i hi, Bool.and_false]; simp
            · rw [decide_eq_false hi, Bool.false_and, Bool.and_false]
        have r2 := fsB_rng (bkM (soM (gI h) f) (E f) (Cn f) (upG (gvM (gI h) k) q v) (rgM (gI h) k) 2 q (fun _ => false)) (enW (soM (gI h) f) (E f) (Cn f) (upG (gvM (gI h) k) q v) (rgM (gI h) k) (cnM (gI h) f))
        have r3 := fsB_rng (bkM (soM (gI h) f) (E f) (Cn f) (upG (gvM (gI h) k) q v) (rgM (gI h) k) 3 q nt1) (enW (soM (gI h) f) (E f) (Cn f) (upG (gvM (gI h) k) q v) (rgM (gI h) k) (cnM (gI h) f))
        have hle5 := en_le (so := soM (gI h) f) (E := E f) (Cn := Cn f) (gv := upG (gvM (gI h) k) q v) (rg := rgM (gI h) k) (cnt := cnM (gI h) f)
        have CT := fun K X => @c_take (soM (gI h) f) (E f) (Cn f) (gvM (gI h) k) (avM (gI h) k) (rgM (gI h) k) (ntM (gI h) k) 493 f k (cnM (gI h) f) h A o X K v q X0 W bg ba hq qc (by omega) n1
        rw [hn1] at CT
        generalize hm2 : fsB (bkM (soM (gI h) f) (E f) (Cn f) (upG (gvM (gI h) k) q v) (rgM (gI h) k) 2 q (fun _ => false)) (enW (soM (gI h) f) (E f) (Cn f) (upG (gvM (gI h) k) q v) (rgM (gI h) k) (cnM (gI h) f)) = m2 at *
        generalize hm3 : fsB (bkM (soM (gI h) f) (E f) (Cn f) (upG (gvM (gI h) k) q v) (rgM (gI h) k) 3 q nt1) (enW (soM (gI h) f) (E f) (Cn f) (upG (gvM (gI h) k) q v) (rgM (gI h) k) (cnM (gI h) f)) = m3 at *
        have clsS : ∀ (K : Int32 → aH → Prop) (X : Nat → aH → Prop), CI 499 155 [vR (A (bS k)), vI v] h (fun y1 h2 => K y1 h2) X → CI 500 156 [vR 8, vI (nI k), vI v] h K X := fun K X kk => by
          refine m156 ?_
          simp only [↓forall_eq, ↓inB_iff, gK_hU, gL_hU, gR_hU, gIh, gJh, pI_hU, pJ_hU, hU_hU, uI_app, uJ_app, and_true, true_and, and_false, false_and, and_self, true_implies, false_implies, not_true, not_false_iff, if_true, if_false, eq_self, Nat.reduceLeDiff, Nat.reduceEqDiff, reduceCtorEq, i32c, ti0, ti1, tiM, Int.natCast_nonneg, Int.reduceEq, Int.reduceLE, Int.reduceLT, Int.reduceNeg, tl_i, Int32.reduceToInt, Int64.reduceToInt, tiA, tlM6, Int.toNat_natCast, natc, nI_1, Int.zero_sub, implies_true, not_false_eq_true, ck_8 b.1, ↓sessionAt_br b S.1, hkI, k0, kS_0 s1, eS_0 s1, ↓asked_br X0 W4 hle, qc, hqI, z1, s4, kF_0 t, rF_0_3 t, rF_0_4 t, kF_4 t, kF_5 t, lF_4 t, lF_5 t, z20, fb1, fb2, z3, z4]
          exact kk
        -- what is left of both, whatever it was
        have after : ∀ (I1 I6 : Nat → Nat → Int32) (J1 : Nat → Nat → Int64) (ntX : Nat → Bool) (gvX avX : Nat → Int32), sFr h A k I1 → sW (hU h I1 (gJ h)) A k (cnM (gI h) f) (soM (gI h) f) (E f) (Cn f) (rgM (gI h) k) gvX avX → I1 (A (bS k)) 9 = bits ntX 20 → ((∀ i, i < 20 → ntX i = false) ∨ (I1 (A (bS k)) 10 = I6 76 k ∧ I1 (A (bS k)) 11 = I6 77 k)) →
            (∀ a, a ≠ 44 → a ≠ 65 → a ≠ 66 → a ≠ 71 → a ≠ 72 → a ≠ 73 → a ≠ 75 → a ≠ 76 → a ≠ 77 → I6 a = I1 a) → (∀ j, j ≠ 0 → j ≠ 36 → j ≠ 37 → j ≠ 50 → j ≠ 51 → j ≠ 52 → I6 44 j = gI h 44 j) → (∀ a, (a = 71 ∨ a = 72 ∨ a = 73 ∨ a = 75) → ∀ i, (i < 20 * k ∨ 20 * k + 20 ≤ i) → I6 a i = gI h a i) → (∀ i, i ≠ k → I6 76 i = gI h 76 i ∧ I6 77 i = gI h 77 i) → gvM I6 k = gvX → avM I6 k = avX → ntM I6 k = ntX → gaOK I6 71 72 k f → gaOK I6 73 74 k f → (∀ a, a ≠ 107 → J1 a = gJ h a) →
            left h (hU h I6 J1) A A o o (fun c => c = 6) [65, 66, 71, 72, 73, 75, 76, 77] [36, 37, 50, 51, 52] 1 6 ∧ SessA (hU h I6 J1) A o (gI (hU h I6 J1)) E Cn nf ns U := by
          intro I1 I6 J1 ntX gvX avX a1 a2 a3 a4 i6 ij i7 i76 gv6 av6 nt6 ga1 ga2 jj
          have i6M : ∀ a, 44 < a → a ≤ 107 → a ≠ 65 → a ≠ 66 → a ≠ 71 → a ≠ 72 → a ≠ 73 → a ≠ 75 → a ≠ 76 → a ≠ 77 → I6 a = gI h a := fun a h0 h9 h1 h2 h3 h4 h5 h6 h7 h8 => by rw [i6 a (by omega) h1 h2 h3 h4 h5 h6 h7 h8, cM I1 a1 a (by omega) h9]
          have fv6 : ∀ f, f < nf → fV (gI h) I6 f := fun f _ => fV_of fun a ha => i6M a (by omega) (by omega) (by omega) (by omega) (by omega) (by omega) (by omega) (by omega) (by omega) (by omega)
          obtain ⟨e1, e2, e3⟩ := fv6 f s3
          have rg6 : rgM I6 k = rgM (gI h) k := by unfold rgM; rw [i6M 69 (by decide) (by decide) (by decide) (by decide) (by decide) (by decide) (by decide) (by decide) (by decide) (by decide)]
          have cl : ∀ j, j < 5 → I6 (A (bS k + j)) = I1 (A (bS k + j)) := fun j hj => by
            obtain ⟨kd, w⟩ := vS_j s1 hj
            have := lab_out b w (by unfold bS; omega)
            exact i6 _ (by omega) (by omega) (by omega) (by omega) (by omega) (by omega) (by omega) (by omega) (by omega)
          have cl0 : I6 (A (bS k)) = I1 (A (bS k)) := cl 0 (by omega)
          have i70 := i6M 70 (by decide) (by decide) (by decide) (by decide) (by decide) (by decide) (by decide) (by decide) (by decide) (by decide)
          refine ⟨left_mk (h1 := hU h I1 (gJ h)) b (show base h o from b) (fr_sess b s1 (by omega) a1) (by decide) (by simp) (fun a w1 w2 => ?_) (fun j9 w1 w2 => ?_) (fun a w1 _ => jj a w1) (by rw [gN_hU]; omega) (by rw [gT_hU]; omega), SET I1 I6 J1 a1 (fun a ha => i6 a (by omega) (by omega) (by omega) (by omega) (by omega) (by omega) (by omega) (by omega) (by omega)) fv6 (fun k' hk' hne => ?_) (ij 38 (by decide) (by decide) (by decide) (by decide) (by decide) (by decide)) ⟨by rw [i6M 67 (by decide) (by decide) (by decide) (by decide) (by decide) (by decide) (by decide) (by decide) (by decide) (by decide)], by rw [i6M 68 (by decide) (by decide) (by decide) (by decide) (by decide) (by decide) (by decide) (by decide) (by decide) (by decide)], fun j hj => by rw [i6M 69 (by decide) (by decide) (by decide) (by decide) (by decide) (by decide) (by decide) (by decide) (by decide) (by decide)]⟩ ⟨?_, ⟨by rw [gIh, cl0, a1.2 12 (by omega), i70]; exact c1, Or.inl (by rw [i70]; exact hcl)⟩, ga1, ga2, by rw [gIh, cl0, nt6]; exact a3, ?_⟩⟩
          · simp only [List.mem_cons, List.not_mem_nil, or_false, not_or] at w2
            rw [gIh]
            exact i6 a w1 w2.1 w2.2.1 w2.2.2.1 w2.2.2.2.1 w2.2.2.2.2.1 w2.2.2.2.2.2.1 w2.2.2.2.2.2.2.1 w2.2.2.2.2.2.2.2
          · simp only [List.mem_cons, List.not_mem_nil, or_false, not_or] at w2
            rw [gIh, cM I1 a1 44 (by omega) (by omega)]
            exact ij j9 w1 w2.1 w2.2.1 w2.2.2.1 w2.2.2.2.1 w2.2.2.2.2
          · have z := i76 k' hne
            refine ⟨⟨by rw [i6M 67 (by decide) (by decide) (by decide) (by decide) (by decide) (by decide) (by decide) (by decide) (by decide) (by decide)], by rw [i6M 68 (by decide) (by decide) (by decide) (by decide) (by decide) (by decide) (by decide) (by decide) (by decide) (by decide)], by rw [i70], z.1, z.2⟩, fun i hi => ⟨i7 71 (by omega) _ (by omega), i7 72 (by omega) _ (by omega), i7 73 (by omega) _ (by omega), by rw [i6M 74 (by decide) (by decide) (by decide) (by decide) (by decide) (by decide) (by decide) (by decide) (by decide) (by decide)], i7 75 (by omega) _ (by omega)⟩, fun j hj => by rw [i6M 69 (by decide) (by decide) (by decide) (by decide) (by decide) (by decide) (by decide) (by decide) (by decide) (by decide)]⟩
          · rw [e1, e2, gv6, av6, rg6]
            obtain ⟨y1, y2, y3, y4⟩ := a2
            exact ⟨fun i hi => by rw [gIh, cl 3 (by omega)]; exact y1 i hi, fun i hi => by rw [gIh, cl 4 (by omega)]; exact y2 i hi, fun i hi => by rw [gIh, cl 2 (by omega)]; exact y3 i hi, by rw [gIh, cl0]; exact y4⟩
          · rw [nt6, gIh, cl0]; exact a4
        have gaF : ∀ I6 : Nat → Nat → Int32, (∀ a, a = 53 ∨ a = 54 ∨ a = 56 ∨ a = 57 → I6 a = gI h a) → cnM I6 f = cnM (gI h) f ∧ soM I6 f = soM (gI h) f := fun I6 e => ⟨by unfold cnM; rw [e 53 (by omega)], by unfold soM; rw [e 54 (by omega)]⟩
        by_cases c2m : m2 = -1
        · by_cases c3m : m3 = -1
          · -- taken
            refine Pr_ok 0 (fun h1 => ∃ I1, sFr h A k I1 ∧ sW (hU h I1 (gJ h)) A k (cnM (gI h) f) (soM (gI h) f) (E f) (Cn f) (rgM (gI h) k) (tu (soM (gI h) f) (E f) (Cn f) (rgM (gI h) k) (cnM (gI h) f) (cnM (gI h) f) (upG (gvM (gI h) k) q v) (upG (avM (gI h) k) q (-2000000))).1 (tu (soM (gI h) f) (E f) (Cn f) (rgM (gI h) k) (cnM (gI h) f) (cnM (gI h) f) (upG (gvM (gI h) k) q v) (upG (avM (gI h) k) q (-2000000))).2 ∧ I1 (A (bS k)) 9 = 0 ∧ h1 = hU h I1 (gJ h)) (fun K X kk => clsS K X (CT _ X (fun I n hn _ _ _ e => absurd c2m e) (fun I n hn _ _ _ _ e => absurd c3m (by rw [← hm3]; subst hn; exact e)) (fun I n hn y1 y2 y3 _ _ => kk _ ⟨I, y1, y2, y3, rfl⟩))) (fun h1 J1 m j K X kk => ?_)
            obtain ⟨I1, a1, a2, a3, rfl⟩ := m
            have mf : MF h := b.2.1
            refine head I1 J1 K X a1 (fun I5 p1 p2 p0 p71 p72 p75 p76 p77 p51 p52 => ⟨fun _ => ⟨fun _ I6 f1 f2 f3 => ?_, fun z _ => absurd (by rw [p52, c3m]; rfl) z⟩, fun z => absurd (by rw [p51, c2m]; rfl) z⟩)
            generalize hI7 : uI (uI I6 76 k (-1)) 73 (20 * k + q) (0 &&& 1) = I7
            have i7 : ∀ a, a ≠ 73 → a ≠ 75 → a ≠ 76 → I7 a = I5 a := fun a h1 h2 h3 => by rw [← hI7, uI_ne _ _ _ h1, uI_ne _ _ _ h3, f1 a h2]
            have i7M : ∀ a, 44 < a → a ≤ 107 → a ≠ 65 → a ≠ 66 → a ≠ 71 → a ≠ 72 → a ≠ 73 → a ≠ 75 → a ≠ 76 → a ≠ 77 → I7 a = gI h a := fun a h0 h9 h1 h2 h3 h4 h5 h6 h7 h8 => by rw [i7 a h5 h6 h7, p1 a (by omega) h1 h2 h3 h4 h6 h7 h8, cM I1 a1 a (by omega) h9]
            have q73 : ∀ i, I7 73 i = if i = 20 * k + q then 0 else gI h 73 i := fun i => by
              rw [← hI7, uI_app, uI_ne _ _ _ (by decide), f1 73 (by decide), p1 73 (by decide) (by decide) (by decide) (by decide) (by decide) (by decide) (by decide) (by decide), cM I1 a1 73 (by omega) (by omega)]
              simp only [true_and]; rfl
            have q75 : ∀ i, i < 20 → I7 75 (20 * k + i) = 0 := fun i hi => by rw [← hI7, uI_ne _ _ _ (by decide), uI_ne _ _ _ (by decide), f3 i hi]
            have q75o : ∀ i, (i < 20 * k ∨ 20 * k + 20 ≤ i) → I7 75 i = gI h 75 i := fun i hi => by rw [← hI7, uI_ne _ _ _ (by decide), uI_ne _ _ _ (by decide), f2 i hi, p75.1 i hi]
            have q76 : ∀ i, i ≠ k → I7 76 i = gI h 76 i := fun i hi => by rw [← hI7, uI_ne _ _ _ (by decide), uI_nj _ _ _ _ hi, f1 76 (by decide), p76, if_neg hi]
            have q77 : ∀ i, i ≠ k → I7 77 i = gI h 77 i := fun i hi => by rw [i7 77 (by decide) (by decide) (by decide), p77, if_neg hi]
            have q71 : ∀ i, I7 71 i = if i = 20 * k + q then 1 else gI h 71 i := fun i => by rw [i7 71 (by decide) (by decide) (by decide), p71]
            have q72 : ∀ i, I7 72 i = if i = 20 * k + q then v else gI h 72 i := fun i => by rw [i7 72 (by decide) (by decide) (by decide), p72]
            have q74 := i7M 74 (by decide) (by decide) (by decide) (by decide) (by decide) (by decide) (by decide) (by decide) (by decide) (by decide)
            have gv7 : gvM I7 k = upG (gvM (gI h) k) q v := by
              funext i
              unfold gvM upG
              by_cases e : i = q
              · rw [if_pos e, e, if_pos q20, q71, if_pos rfl, if_neg (by decide), q72, if_pos rfl]
              · have e2 : ¬ 20 * k + i = 20 * k + q := by omega
                rw [if_neg e, q71, if_neg e2, q72, if_neg e2]
            have av7 : avM I7 k = upG (avM (gI h) k) q (-2000000) := by
              funext i
              unfold avM upG
              by_cases e : i = q
              · rw [if_pos e, e, if_pos q20, q73, if_pos rfl, if_pos (by decide)]
              · have e2 : ¬ 20 * k + i = 20 * k + q := by omega
                rw [if_neg e, q73, if_neg e2, q74]
            have rg7 : rgM I7 k = rgM (gI h) k := by unfold rgM; rw [i7M 69 (by decide) (by decide) (by decide) (by decide) (by decide) (by decide) (by decide) (by decide) (by decide) (by decide)]
            have fm7 : fmM I7 f (cnM (gI h) f) (soM (gI h) f) (E f) (Cn f) := fmM_cg (fun a q1 q2 => i7M a (by omega) (by omega) (by omega) (by omega) (by omega) (by omega) (by omega) (by omega) (by omega) (by omega)) FO.2.1
            have ok7 : gOK I7 k := fun i hi => by
              rw [q71, q72]
              by_cases e2 : 20 * k + i = 20 * k + q
              · rw [if_pos e2, if_pos e2]; exact fun _ => hv9
              · rw [if_neg e2, if_neg e2]; exact ok i hi
            have q67 := i7M 67 (by decide) (by decide) (by decide) (by decide) (by decide) (by decide) (by decide) (by decide) (by decide) (by decide)
            have q70 := i7M 70 (by decide) (by decide) (by decide) (by decide) (by decide) (by decide) (by decide) (by decide) (by decide) (by decide)
            refine m159 ⟨by decide, mf.1, m_quest mf (by rw [q67]; exact s2) fm7 (by omega) ok7 fun I8 z1 z2 => ?_⟩
            have i8 : ∀ a, a ≠ 44 → a ≠ 65 → a ≠ 66 → I8 a = I7 a := z1.1
            have gv8 : gvM I8 k = upG (gvM (gI h) k) q v := by rw [← gv7]; unfold gvM; rw [i8 71 (by decide) (by decide) (by decide), i8 72 (by decide) (by decide) (by decide)]
            have av8 : avM I8 k = upG (avM (gI h) k) q (-2000000) := by rw [← av7]; unfold avM; rw [i8 73 (by decide) (by decide) (by decide), i8 74 (by decide) (by decide) (by decide)]
            have rg8 : rgM I8 k = rgM (gI h) k := by rw [← rg7]; unfold rgM; rw [i8 69 (by decide) (by decide) (by decide)]
            have hcl7 : (!decide ((I7 70 k).toInt = 0)) = false := by rw [q70, hcl]; rfl
            rw [hcl7, gv7, rg7, ← rg8]
            have MU := @m_up (soM (gI h) f) (E f) (Cn f) 494 f k (cnM (gI h) f) h X I8 J1 (fun h8 => K 0 h8) mf (by rw [i8 67 (by decide) (by decide) (by decide), q67]; exact s2) (fmM_cg (fun a y1 y2 => i8 a (by omega) (by omega) (by omega)) fm7) (by omega) (by rw [i8 70 (by decide) (by decide) (by decide), q70, hcl]; rfl) (fun i hi => by rw [i8 75 (by decide) (by decide) (by decide), q75 i hi]; rfl) (fun i hi => by
              rw [i8 73 (by decide) (by decide) (by decide), i8 74 (by decide) (by decide) (by decide), q73, q74]
              by_cases e2 : 20 * k + i = 20 * k + q
              · rw [if_pos e2]; exact fun z => absurd rfl z
              · rw [if_neg e2]
                intro z
                have y := g2 i hi z
                have := (FO.2.2.1 i y.1).2.2.2 y.2.1
                omega) (cnM (gI h) f) I8 (upG (gvM (gI h) k) q v) (upG (avM (gI h) k) q (-2000000)) tuF_refl gv8 av8 (fun i hi => by rw [i8 71 (by decide) (by decide) (by decide), i8 72 (by decide) (by decide) (by decide)]; exact ok7 i hi) (fun _ _ z => z) (acn_le _)
            refine MU fun I9 u1 u2 u3 u4 u5 => ?_
            rw [rg8] at u2 u3
            have P9 := tu_inv (so := soM (gI h) f) (E := E f) (Cn := Cn f) (rg := rgM (gI h) k) (cnt := cnM (gI h) f) (fun i x => x = -2000000 ∨ (i < cnM (gI h) f ∧ (soM (gI h) f i).toInt = 0 ∧ (gI h 56 (20 * f + i)).toInt ≤ x.toInt ∧ x.toInt ≤ (gI h 57 (20 * f + i)).toInt)) (cnM (gI h) f) (upG (gvM (gI h) k) q v) (upG (avM (gI h) k) q (-2000000)) (fun i => by
              unfold upG
              by_cases e : i = q
              · rw [if_pos e, e]; exact Or.inr ⟨qc, hab.2, qv.1, qv.2⟩
              · rw [if_neg e]
                unfold gvM
                by_cases hi : i < 20
                · rw [if_pos hi]
                  by_cases z : (gI h 71 (20 * k + i)).toInt = 0
                  · rw [if_pos z]; exact Or.inl rfl
                  · rw [if_neg z]; exact Or.inr (g1 i hi z)
                · rw [if_neg hi]; exact Or.inl rfl) (fun i => by
              unfold upG
              by_cases e : i = q
              · rw [if_pos e]; exact Or.inl rfl
              · rw [if_neg e]
                unfold avM
                by_cases hi : i < 20
                · rw [if_pos hi]
                  by_cases z : (gI h 73 (20 * k + i)).toInt = 0
                  · rw [if_pos z]; exact Or.inl rfl
                  · rw [if_neg z]; exact Or.inr (g2 i hi z)
                · rw [if_neg hi]; exact Or.inl rfl) (fun i => Or.inl rfl)
            have i9 : ∀ a, a ≠ 44 → a ≠ 65 → a ≠ 66 → a ≠ 71 → a ≠ 72 → a ≠ 73 → I9 a = I7 a := fun a h1 h2 h3 h4 h5 h6 => by rw [u1.1 a h1 h2 h3 h4 h5 h6, i8 a h1 h2 h3]
            have i9F : ∀ a, a = 53 ∨ a = 54 ∨ a = 56 ∨ a = 57 → I9 a = gI h a := fun a ha => by rw [i9 a (by omega) (by omega) (by omega) (by omega) (by omega) (by omega), i7M a (by omega) (by omega) (by omega) (by omega) (by omega) (by omega) (by omega) (by omega) (by omega) (by omega)]
            obtain ⟨ec, es⟩ := gaF I9 i9F
            have j74 := i9 74 (by decide) (by decide) (by decide) (by decide) (by decide) (by decide)
            have R := after I1 I9 J1 (fun _ => false) _ _ a1 a2 (by rw [a3, bits_0]) (Or.inl (fun _ _ => rfl)) (fun a h1 h2 h3 h4 h5 h6 h7 h8 h9 => by rw [i9 a h1 h2 h3 h4 h5 h6, i7 a h6 h7 h8, p1 a h1 h2 h3 h4 h5 h7 h8 h9]) (fun j h0 h1 h2 h3 h4 h5 => by rw [u1.2.1 j h1 h2 h3 h4 h5, z1.2 j h1 h2 h3 h4 h5, i7 44 (by decide) (by decide) (by decide), p2 j h0 h1 h2 h3 h4 h5]) (fun a ha i hi => by
              rcases ha with e | e | e | e
              · rw [e, u1.2.2 71 (by omega) i hi, i8 71 (by decide) (by decide) (by decide), q71, if_neg (by omega)]
              · rw [e, u1.2.2 72 (by omega) i hi, i8 72 (by decide) (by decide) (by decide), q72, if_neg (by omega)]
              · rw [e, u1.2.2 73 (by omega) i hi, i8 73 (by decide) (by decide) (by decide), q73, if_neg (by omega)]
              · rw [e, i9 75 (by decide) (by decide) (by decide) (by decide) (by decide) (by decide), q75o i hi]) (fun i hi => by rw [i9 76 (by decide) (by decide) (by decide) (by decide) (by decide) (by decide), i9 77 (by decide) (by decide) (by decide) (by decide) (by decide) (by decide)]; exact ⟨q76 i hi, q77 i hi⟩) u2 u3 (by
              funext i
              unfold ntM
              by_cases hi : i < 20
              · rw [i9 75 (by decide) (by decide) (by decide) (by decide) (by decide) (by decide), q75 i hi]; simp
              · rw [decide_eq_false hi, Bool.false_and]) (fun i hi z => by
              have y := P9.1 i
              rw [← u2] at y
              unfold gvM at y
              rw [if_pos hi, if_neg z] at y
              rw [ec, es, i9F 56 (by omega), i9F 57 (by omega)]
              rcases y with y | y
              · exact absurd (by rw [y]; exact tiA) (u4 i hi z)
              · exact y) (fun i hi z => by
              have y := u5 i hi z
              rw [i8 73 (by decide) (by decide) (by decide), q73] at y
              rw [ec, es, i9F 56 (by omega), i9F 57 (by omega), j74, q74]
              by_cases e2 : 20 * k + i = 20 * k + q
              · rw [if_pos e2] at y; exact absurd rfl y
              · rw [if_neg e2] at y; exact g2 i hi y) j
            exact kk _ (by rw [gIh, u1.2.1 0 (by decide) (by decide) (by decide) (by decide) (by decide), z1.2 0 (by decide) (by decide) (by decide) (by decide) (by decide), i7 44 (by decide) (by decide) (by decide)]; exact p0) rfl R
          · -- a warning
            have m3r : 0 ≤ m3 ∧ m3 < 20 := by omega
            refine Pr_ok (200 + nI m3.toNat) (fun h1 => ∃ I1, sFr h A k I1 ∧ sW (hU h I1 (gJ h)) A k (cnM (gI h) f) (soM (gI h) f) (E f) (Cn f) (rgM (gI h) k) (gvM (gI h) k) (avM (gI h) k) ∧ (I1 (A (bS k)) 9 = bits (addN nt1 m3.toNat) 20 ∧ I1 (A (bS k)) 10 = nI q ∧ I1 (A (bS k)) 11 = v) ∧ h1 = hU h I1 (gJ h)) (fun K X kk => clsS K X (CT _ X (fun I n hn _ _ _ e => absurd c2m e) (fun I n hn y1 y2 y3 _ _ => by subst hn; rw [hm3] at y3 ⊢; exact kk _ ⟨I, y1, y2, y3, rfl⟩) (fun I n hn _ _ _ _ e => absurd (by rw [← hm3]; subst hn; exact e) c3m))) (fun h1 J1 m j K X kk => ?_)
            obtain ⟨I1, a1, a2, ⟨a3, a4, a5⟩, rfl⟩ := m
            refine head I1 J1 K X a1 (fun I5 p1 p2 p0 p71 p72 p75 p76 p77 p51 p52 => ⟨fun _ => ⟨fun z => absurd z (by rw [p52, ti_z (by omega) (by omega)]; omega), fun _ _ => ?_⟩, fun z => absurd (by rw [p51, c2m]; rfl) z⟩)
            have e52 : I5 44 52 = nI m3.toNat := by rw [p52, iZ_nat m3r.1 (by omega)]
            have e52n : (I5 44 52).toInt.toNat = m3.toNat := by rw [e52, ti_n (by omega)]; omega
            rw [e52n, e52]
            generalize hI6 : uI (uI I5 71 (20 * k + q) 0) 75 (20 * k + m3.toNat) 1 = I6
            have i6 : ∀ a, a ≠ 71 → a ≠ 75 → I6 a = I5 a := fun a h1 h2 => by rw [← hI6, uI_ne _ _ _ h2, uI_ne _ _ _ h1]
            have q71 : ∀ i, I6 71 i = if i = 20 * k + q then 0 else gI h 71 i := fun i => by
              rw [← hI6, uI_ne _ _ _ (by decide), uI_app]
              by_cases e2 : i = 20 * k + q
              · rw [if_pos ⟨rfl, e2⟩, if_pos e2]
              · rw [if_neg (fun w => e2 w.2), if_neg e2, p71, if_neg e2]
            have q72 : ∀ i, I6 72 i = if i = 20 * k + q then v else gI h 72 i := fun i => by rw [i6 72 (by decide) (by decide), p72]
            have q73 : I6 73 = gI h 73 := by rw [i6 73 (by decide) (by decide), p1 73 (by decide) (by decide) (by decide) (by decide) (by decide) (by decide) (by decide) (by decide), cM I1 a1 73 (by omega) (by omega)]
            have q74 : I6 74 = gI h 74 := by rw [i6 74 (by decide) (by decide), p1 74 (by decide) (by decide) (by decide) (by decide) (by decide) (by decide) (by decide) (by decide), cM I1 a1 74 (by omega) (by omega)]
            have i6F : ∀ a, a = 53 ∨ a = 54 ∨ a = 56 ∨ a = 57 → I6 a = gI h a := fun a ha => by rw [i6 a (by omega) (by omega), p1 a (by omega) (by omega) (by omega) (by omega) (by omega) (by omega) (by omega) (by omega), cM I1 a1 a (by omega) (by omega)]
            obtain ⟨ec, es⟩ := gaF I6 i6F
            have R := after I1 I6 J1 (addN nt1 m3.toNat) _ _ a1 a2 a3 (Or.inr (by rw [a4, a5, i6 76 (by decide) (by decide), i6 77 (by decide) (by decide), p76, p77, if_pos rfl, if_pos rfl]; exact ⟨rfl, rfl⟩)) (fun a h1 h2 h3 h4 h5 h6 h7 h8 h9 => by rw [i6 a h4 h7, p1 a h1 h2 h3 h4 h5 h7 h8 h9]) (fun j h0 h1 h2 h3 h4 h5 => by rw [i6 44 (by decide) (by decide), p2 j h0 h1 h2 h3 h4 h5]) (fun a ha i hi => by
              rcases ha with e | e | e | e
              · rw [e, q71, if_neg (by omega)]
              · rw [e, q72, if_neg (by omega)]
              · rw [e, q73]
              · rw [e, ← hI6, uI_nj _ _ _ _ (by omega), uI_ne _ _ _ (by decide), p75.1 i hi]) (fun i hi => by rw [i6 76 (by decide) (by decide), i6 77 (by decide) (by decide), p76, p77, if_neg hi, if_neg hi]; exact ⟨rfl, rfl⟩) (by
              funext i
              unfold gvM
              by_cases e : i = q
              · rw [e, if_pos q20, if_pos q20, q71, if_pos rfl, if_pos (by decide), if_pos h71q]
              · have e2 : ¬ 20 * k + i = 20 * k + q := by omega
                rw [q71, if_neg e2, q72, if_neg e2]) (by unfold avM; rw [q73, q74]) (by
              funext i
              unfold addN
              rw [← p75.2]
              unfold ntM
              by_cases hi : i < 20
              · rw [← hI6, uI_app, uI_ne _ _ _ (by decide)]
                by_cases e : i = m3.toNat
                · rw [if_pos ⟨rfl, by omega⟩, decide_eq_true e, decide_eq_true hi]; simp
                · rw [if_neg (fun w => e (by omega)), decide_eq_false e, Bool.or_false]
              · rw [decide_eq_false hi, Bool.false_and, Bool.false_and, decide_eq_false (by omega)]; simp) (fun i hi => by
              rw [q71, q72, ec, es, i6F 56 (by omega), i6F 57 (by omega)]
              by_cases e2 : 20 * k + i = 20 * k + q
              · rw [if_pos e2]; exact fun z => absurd rfl z
              · rw [if_neg e2, if_neg e2]; exact g1 i hi) (fun i hi => by rw [q73, q74, ec, es, i6F 56 (by omega), i6F 57 (by omega)]; exact g2 i hi) j
            exact kk _ (by rw [gIh, i6 44 (by decide) (by decide)]; exact p0) rfl R
        · -- a must
          have m2r : 0 ≤ m2 ∧ m2 < 20 := by omega
          refine Pr_ok (100 + nI m2.toNat) (fun h1 => ∃ I1, sFr h A k I1 ∧ sW (hU h I1 (gJ h)) A k (cnM (gI h) f) (soM (gI h) f) (E f) (Cn f) (rgM (gI h) k) (gvM (gI h) k) (avM (gI h) k) ∧ (I1 (A (bS k)) 9 = bits nt1 20 ∧ I1 (A (bS k)) 10 = nI q ∧ I1 (A (bS k)) 11 = v) ∧ h1 = hU h I1 (gJ h)) (fun K X kk => clsS K X (CT _ X (fun I n hn y1 y2 y3 _ => by subst hn; exact kk _ ⟨I, y1, y2, y3, rfl⟩) (fun I n hn _ _ _ e _ => absurd e c2m) (fun I n hn _ _ _ e _ => absurd e c2m))) (fun h1 J1 m j K X kk => ?_)
          obtain ⟨I1, a1, a2, ⟨a3, a4, a5⟩, rfl⟩ := m
          refine head I1 J1 K X a1 (fun I5 p1 p2 p0 p71 p72 p75 p76 p77 p51 p52 => ⟨fun z => absurd z (by rw [p51, ti_z (by omega) (by omega)]; omega), fun _ => ?_⟩)
          have e51 : I5 44 51 = nI m2.toNat := by rw [p51, iZ_nat m2r.1 (by omega)]
          rw [e51]
          generalize hI6 : uI I5 71 (20 * k + q) 0 = I6
          have i6 : ∀ a, a ≠ 71 → I6 a = I5 a := fun a h1 => by rw [← hI6, uI_ne _ _ _ h1]
          have q71 : ∀ i, I6 71 i = if i = 20 * k + q then 0 else gI h 71 i := fun i => by
            rw [← hI6, uI_app]
            by_cases e2 : i = 20 * k + q
            · rw [if_pos ⟨rfl, e2⟩, if_pos e2]
            · rw [if_neg (fun w => e2 w.2), if_neg e2, p71, if_neg e2]
          have q72 : ∀ i, I6 72 i = if i = 20 * k + q then v else gI h 72 i := fun i => by rw [i6 72 (by decide), p72]
          have q73 : I6 73 = gI h 73 := by rw [i6 73 (by decide), p1 73 (by decide) (by decide) (by decide) (by decide) (by decide) (by decide) (by decide) (by decide), cM I1 a1 73 (by omega) (by omega)]
          have q74 : I6 74 = gI h 74 := by rw [i6 74 (by decide), p1 74 (by decide) (by decide) (by decide) (by decide) (by decide) (by decide) (by decide) (by decide), cM I1 a1 74 (by omega) (by omega)]
          have i6F : ∀ a, a = 53 ∨ a = 54 ∨ a = 56 ∨ a = 57 → I6 a = gI h a := fun a ha => by rw [i6 a (by omega), p1 a (by omega) (by omega) (by omega) (by omega) (by omega) (by omega) (by omega) (by omega), cM I1 a1 a (by omega) (by omega)]
          obtain ⟨ec, es⟩ := gaF I6 i6F
          have R := after I1 I6 J1 nt1 _ _ a1 a2 a3 (Or.inr (by rw [a4, a5, i6 76 (by decide), i6 77 (by decide), p76, p77, if_pos rfl, if_pos rfl]; exact ⟨rfl, rfl⟩)) (fun a h1 h2 h3 h4 h5 h6 h7 h8 h9 => by rw [i6 a h4, p1 a h1 h2 h3 h4 h5 h7 h8 h9]) (fun j h0 h1 h2 h3 h4 h5 => by rw [i6 44 (by decide), p2 j h0 h1 h2 h3 h4 h5]) (fun a ha i hi => by
            rcases ha with e | e | e | e
            · rw [e, q71, if_neg (by omega)]
            · rw [e, q72, if_neg (by omega)]
            · rw [e, q73]
            · rw [e, i6 75 (by decide), p75.1 i hi]) (fun i hi => by rw [i6 76 (by decide), i6 77 (by decide), p76, p77, if_neg hi, if_neg hi]; exact ⟨rfl, rfl⟩) (by
            funext i
            unfold gvM
            by_cases e : i = q
            · rw [e, if_pos q20, if_pos q20, q71, if_pos rfl, if_pos (by decide), if_pos h71q]
            · have e2 : ¬ 20 * k + i = 20 * k + q := by omega
              rw [q71, if_neg e2, q72, if_neg e2]) (by unfold avM; rw [q73, q74]) (by
            rw [← p75.2]
            unfold ntM
            rw [i6 75 (by decide)]) (fun i hi => by
            rw [q71, q72, ec, es, i6F 56 (by omega), i6F 57 (by omega)]
            by_cases e2 : 20 * k + i = 20 * k + q
            · rw [if_pos e2]; exact fun z => absurd rfl z
            · rw [if_neg e2, if_neg e2]; exact g1 i hi) (fun i hi => by rw [q73, q74, ec, es, i6F 56 (by omega), i6F 57 (by omega)]; exact g2 i hi) j
          exact kk _ (by rw [gIh, i6 44 (by decide)]; exact p0) rfl R
      · refine Pr_gcs (A := A) (C := fun _ => False) (as := [65, 66]) (fs := [36, 37, 50, 51, 52]) 2 1 b (by decide) rfl (by simp) (fun K X kk => m156 ?_) (fun g J K X mf e kk => m160 ?_) fin
        · simp only [↓forall_eq, ↓inB_iff, gK_hU, gL_hU, gR_hU, gIh, gJh, pI_hU, pJ_hU, hU_hU, uI_app, uJ_app, and_true, true_and, and_false, false_and, and_self, true_implies, false_implies, not_true, not_false_iff, if_true, if_false, eq_self, Nat.reduceLeDiff, Nat.reduceEqDiff, reduceCtorEq, i32c, ti0, ti1, tiM, Int.natCast_nonneg, Int.reduceEq, Int.reduceLE, Int.reduceLT, Int.reduceNeg, tl_i, Int32.reduceToInt, Int64.reduceToInt, tiA, tlM6, Int.toNat_natCast, natc, nI_1, Int.zero_sub, implies_true, not_false_eq_true, ck_8 b.1, ↓sessionAt_br b S.1, hkI, k0, kS_0 s1, eS_0 s1, ↓asked_br X0 W4 hle, qc, hqI, z1, s4, kF_0 t, rF_0_3 t, rF_0_4 t, kF_4 t, kF_5 t, lF_4 t, lF_5 t, z20, fb1, fb2]
          exact ⟨fun _ => kk, fun c3 => ⟨fun _ => kk, fun c4 => absurd ⟨by omega, by omega⟩ qv⟩⟩
        · have e44 := e 44 (by decide) (by decide)
          simp only [↓forall_eq, ↓inB_iff, gK_hU, gL_hU, gR_hU, gIh, gJh, pI_hU, pJ_hU, hU_hU, uI_app, uJ_app, and_true, true_and, and_false, false_and, and_self, true_implies, false_implies, not_true, not_false_iff, if_true, if_false, eq_self, Nat.reduceLeDiff, Nat.reduceEqDiff, reduceCtorEq, i32c, ti0, ti1, tiM, Int.natCast_nonneg, Int.reduceEq, Int.reduceLE, Int.reduceLT, Int.reduceNeg, tl_i, Int32.reduceToInt, Int64.reduceToInt, tiA, tlM6, Int.toNat_natCast, natc, nI_1, Int.zero_sub, implies_true, not_false_eq_true, mf.1, mr_18 mf, mk_56 mf, ml_56 mf, mr_19 mf, mk_57 mf, ml_57 mf, mr_39 mf, mk_67 mf, ml_67 mf, mr_43 mf, mk_71 mf, ml_71 mf, mr_44 mf, mk_72 mf, ml_72 mf, mr_45 mf, mk_73 mf, ml_73 mf, mr_47 mf, mk_75 mf, ml_75 mf, mr_48 mf, mk_76 mf, ml_76 mf, mr_49 mf, mk_77 mf, ml_77 mf, ↓fail_br mf, ↓isSession_br mf, e44, hs, hs2, hkI, k0]
          refine quest g J _ X mf e fun I2 a1 => ?_
          have ee : ∀ a, 44 < a → a < 107 → a ≠ 65 → a ≠ 66 → I2 a = gI h a := fun a h1 h2 h3 h4 => by rw [a1.1 a (by omega) h3 h4, uI_ne _ _ _ (by omega), e a (by omega) h2]
          have e67 := ee 67 (by decide) (by decide) (by decide) (by decide)
          have e56 := ee 56 (by decide) (by decide) (by decide) (by decide)
          have e57 := ee 57 (by decide) (by decide) (by decide) (by decide)
          rw [if_pos qc]
          simp only [↓forall_eq, ↓inB_iff, gK_hU, gL_hU, gR_hU, gIh, gJh, pI_hU, pJ_hU, hU_hU, uI_app, uJ_app, and_true, true_and, and_false, false_and, and_self, true_implies, false_implies, not_true, not_false_iff, if_true, if_false, eq_self, Nat.reduceLeDiff, Nat.reduceEqDiff, reduceCtorEq, i32c, ti0, ti1, tiM, Int.natCast_nonneg, Int.reduceEq, Int.reduceLE, Int.reduceLT, Int.reduceNeg, tl_i, Int32.reduceToInt, Int64.reduceToInt, tiA, tlM6, Int.toNat_natCast, natc, nI_1, Int.zero_sub, implies_true, not_false_eq_true, mf.1, mr_18 mf, mk_56 mf, ml_56 mf, mr_19 mf, mk_57 mf, ml_57 mf, mr_39 mf, mk_67 mf, ml_67 mf, mr_43 mf, mk_71 mf, ml_71 mf, mr_44 mf, mk_72 mf, ml_72 mf, mr_45 mf, mk_73 mf, ml_73 mf, mr_47 mf, mk_75 mf, ml_75 mf, mr_48 mf, mk_76 mf, ml_76 mf, mr_49 mf, mk_77 mf, ml_77 mf, ↓fail_br mf, ↓isIn_br, hkI, k60, e67, s2, hqI, z1, hix, hxI, zx, e56, e57, qv]
          refine kk _ 0 (fun a w1 w2 => ?_) (fun j9 w1 w2 => ?_) (uI_same _ _ _ _)
          · simp only [List.mem_cons, List.not_mem_nil, or_false, not_or] at w2
            rw [uI_ne _ _ _ w1, a1.1 a w1 w2.1 w2.2, uI_ne _ _ _ w1]
          · simp only [List.mem_cons, List.not_mem_nil, or_false, not_or] at w2
            rw [uI_nj _ _ _ _ w1, a1.2 j9 w2.1 w2.2.1 w2.2.2.1 w2.2.2.2.1 w2.2.2.2.2, uI_nj _ _ _ _ w1]
    · refine Pr_gcs (A := A) (C := fun _ => False) (as := [65, 66]) (fs := [36, 37, 50, 51, 52]) 1 2 b (by decide) rfl (by simp) (fun K X kk => m156 ?_) (fun g J K X mf e kk => m160 ?_) fin
      · simp only [↓forall_eq, ↓inB_iff, gK_hU, gL_hU, gR_hU, gIh, gJh, pI_hU, pJ_hU, hU_hU, uI_app, uJ_app, and_true, true_and, and_false, false_and, and_self, true_implies, false_implies, not_true, not_false_iff, if_true, if_false, eq_self, Nat.reduceLeDiff, Nat.reduceEqDiff, reduceCtorEq, i32c, ti0, ti1, tiM, Int.natCast_nonneg, Int.reduceEq, Int.reduceLE, Int.reduceLT, Int.reduceNeg, tl_i, Int32.reduceToInt, Int64.reduceToInt, tiA, tlM6, Int.toNat_natCast, natc, nI_1, Int.zero_sub, implies_true, not_false_eq_true, ck_8 b.1, ↓sessionAt_br b S.1, hkI, k0, kS_0 s1, eS_0 s1, ↓asked_br X0 W4 hle, qc]
        exact kk
      · have e44 := e 44 (by decide) (by decide)
        simp only [↓forall_eq, ↓inB_iff, gK_hU, gL_hU, gR_hU, gIh, gJh, pI_hU, pJ_hU, hU_hU, uI_app, uJ_app, and_true, true_and, and_false, false_and, and_self, true_implies, false_implies, not_true, not_false_iff, if_true, if_false, eq_self, Nat.reduceLeDiff, Nat.reduceEqDiff, reduceCtorEq, i32c, ti0, ti1, tiM, Int.natCast_nonneg, Int.reduceEq, Int.reduceLE, Int.reduceLT, Int.reduceNeg, tl_i, Int32.reduceToInt, Int64.reduceToInt, tiA, tlM6, Int.toNat_natCast, natc, nI_1, Int.zero_sub, implies_true, not_false_eq_true, mf.1, mr_18 mf, mk_56 mf, ml_56 mf, mr_19 mf, mk_57 mf, ml_57 mf, mr_39 mf, mk_67 mf, ml_67 mf, mr_43 mf, mk_71 mf, ml_71 mf, mr_44 mf, mk_72 mf, ml_72 mf, mr_45 mf, mk_73 mf, ml_73 mf, mr_47 mf, mk_75 mf, ml_75 mf, mr_48 mf, mk_76 mf, ml_76 mf, mr_49 mf, mk_77 mf, ml_77 mf, ↓fail_br mf, ↓isSession_br mf, e44, hs, hs2, hkI, k0]
        refine quest g J _ X mf e fun I2 a1 => ?_
        rw [if_neg qc]
        simp only [↓forall_eq, ↓inB_iff, gK_hU, gL_hU, gR_hU, gIh, gJh, pI_hU, pJ_hU, hU_hU, uI_app, uJ_app, and_true, true_and, and_false, false_and, and_self, true_implies, false_implies, not_true, not_false_iff, if_true, if_false, eq_self, Nat.reduceLeDiff, Nat.reduceEqDiff, reduceCtorEq, i32c, ti0, ti1, tiM, Int.natCast_nonneg, Int.reduceEq, Int.reduceLE, Int.reduceLT, Int.reduceNeg, tl_i, Int32.reduceToInt, Int64.reduceToInt, tiA, tlM6, Int.toNat_natCast, natc, nI_1, Int.zero_sub, implies_true, not_false_eq_true, mf.1, mr_18 mf, mk_56 mf, ml_56 mf, mr_19 mf, mk_57 mf, ml_57 mf, mr_39 mf, mk_67 mf, ml_67 mf, mr_43 mf, mk_71 mf, ml_71 mf, mr_44 mf, mk_72 mf, ml_72 mf, mr_45 mf, mk_73 mf, ml_73 mf, mr_47 mf, mk_75 mf, ml_75 mf, mr_48 mf, mk_76 mf, ml_76 mf, mr_49 mf, mk_77 mf, ml_77 mf, ↓fail_br mf]
        refine kk _ 0 (fun a w1 w2 => ?_) (fun j9 w1 w2 => ?_) (uI_same _ _ _ _)
        · simp only [List.mem_cons, List.not_mem_nil, or_false, not_or] at w2
          rw [uI_ne _ _ _ w1, a1.1 a w1 w2.1 w2.2, uI_ne _ _ _ w1]
        · simp only [List.mem_cons, List.not_mem_nil, or_false, not_or] at w2
          rw [uI_nj _ _ _ _ w1, a1.2 j9 w2.1 w2.2.1 w2.2.2.1 w2.2.2.2.1 w2.2.2.2.2, uI_nj _ _ _ _ w1]
  · refine Pr_gc (A := A) (C := fun _ => False) 0 3 b (by decide) rfl (fun K X k => m156 ?_) (fun g J K X mf e k => m160 ?_) (fun h2 l => fin h2 (left_mono l (fun _ w => w) (by simp) (by simp) (by omega) (by omega)))
    · simp only [↓forall_eq, ↓inB_iff, gK_hU, gL_hU, gR_hU, gIh, gJh, pI_hU, pJ_hU, hU_hU, uI_app, uJ_app, and_true, true_and, and_false, false_and, and_self, true_implies, false_implies, not_true, not_false_iff, if_true, if_false, eq_self, Nat.reduceLeDiff, Nat.reduceEqDiff, reduceCtorEq, i32c, ti0, ti1, tiM, Int.natCast_nonneg, Int.reduceEq, Int.reduceLE, Int.reduceLT, Int.reduceNeg, tl_i, Int32.reduceToInt, Int64.reduceToInt, tiA, tlM6, Int.toNat_natCast, natc, nI_1, Int.zero_sub, implies_true, not_false_eq_true, ck_8 b.1, ↓sessionAt_br b S.1, q0]
      exact k
    · simp only [↓forall_eq, ↓inB_iff, gK_hU, gL_hU, gR_hU, gIh, gJh, pI_hU, pJ_hU, hU_hU, uI_app, uJ_app, and_true, true_and, and_false, false_and, and_self, true_implies, false_implies, not_true, not_false_iff, if_true, if_false, eq_self, Nat.reduceLeDiff, Nat.reduceEqDiff, reduceCtorEq, i32c, ti0, ti1, tiM, Int.natCast_nonneg, Int.reduceEq, Int.reduceLE, Int.reduceLT, Int.reduceNeg, tl_i, Int32.reduceToInt, Int64.reduceToInt, tiA, tlM6, Int.toNat_natCast, natc, nI_1, Int.zero_sub, implies_true, not_false_eq_true, mf.1, mr_18 mf, mk_56 mf, ml_56 mf, mr_19 mf, mk_57 mf, ml_57 mf, mr_39 mf, mk_67 mf, ml_67 mf, mr_43 mf, mk_71 mf, ml_71 mf, mr_44 mf, mk_72 mf, ml_72 mf, mr_45 mf, mk_73 mf, ml_73 mf, mr_47 mf, mk_75 mf, ml_75 mf, mr_48 mf, mk_76 mf, ml_76 mf, mr_49 mf, mk_77 mf, ml_77 mf, ↓fail_br mf, ↓isSession_br mf, e 44 (by decide) (by decide), hs, hs2, q0]
      exact k
end SSA
