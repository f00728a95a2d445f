/-! RULES: the pair -/
section PRU
variable {d f n nf b' : Nat} {h g h1 h3 : aH} {A A1 o o1 : Nat → Nat} {X : Nat → aH → Prop} {M I : Nat → Nat → Int32} {J : Nat → Nat → Int64} {a c v : Int32} {E : Nat → Nat → List Tm} {Cn : Nat → Nat → List Cmp}
def stN (n : Nat) (a : Int32) : Prop := a.toInt = -1 ∨ (0 ≤ a.toInt ∧ a.toInt < n)
def akR (M : Nat → Nat → Int32) (f : Nat) (a : Int32) : Prop := a.toInt = -1 ∨ (soM M f a.toInt.toNat).toInt = 0
def gdR (M : Nat → Nat → Int32) (f : Nat) (a c v : Int32) : Prop := akR M f a ∧ akR M f c ∧ ¬ a.toInt = c.toInt ∧ -2000000 ≤ v.toInt ∧ v.toInt ≤ 2000000
theorem needN_br {K : aH → Prop} {F cnt : Nat} (hF : gK h F = 3) (hc : gI h F 11 = nI cnt) (h20 : cnt ≤ 20) : CV (d + 1) 181 [vR 8, vR F, vI a] h K X ↔ ((stN cnt a → K h) ∧ (¬ stN cnt a → X 3 (gNew h 200 6))) := by
  have hn : (nI cnt).toInt = cnt := ti_n (by omega)
  have H : ∀ (K : aH → Prop) (X : Nat → aH → Prop), ((stN cnt a → K h) ∧ (¬ stN cnt a → X 3 (gNew h 200 6))) → CV (d + 1) 181 [vR 8, vR F, vI a] h K X := fun K X w => by
    refine m181 ⟨fun c => w.1 (Or.inl c), fun c => ⟨hF, ?_⟩⟩
    rw [hc]
    exact c_needIndex (fun q1 q2 => w.1 (Or.inr (by omega))) (fun q => w.2 (by rintro (z | z); exact c z; exact q (by omega)))
  by_cases q : stN cnt a
  · rw [bz_t q]; exact CV_iff fun K X w => H K X ((bz_t q).mpr w)
  · rw [bz_f q]; exact CVx_iff fun K X w => H K X ((bz_f q).mpr w)
theorem c_rule {K : Int32 → aH → Prop} (b : base h o) (F : FormA h A o (gI h) E Cn nf) (hf : f < nf)
    (w : (¬ (stN (cnM (gI h) f) a ∧ stN (cnM (gI h) f) c) → X 3 (gNew h 200 6)) ∧ (stN (cnM (gI h) f) a ∧ stN (cnM (gI h) f) c → (¬ gdR (gI h) f a c v → X 1 (gNew h 200 6)) ∧ (gdR (gI h) f a c v → (¬ nrM (gI h) f < 16 → X 4 (gNew h 200 6)) ∧ (nrM (gI h) f < 16 → CI 499 183 [vR (A (bF f)), vI a, vI c, vI v] h K X)))) : CI 500 184 [vR 8, vI (nI f), vI a, vI c, vI v] h K X := by
  obtain ⟨⟨t, l, ⟨c1, c2, c3⟩, c4⟩, fm, fb, ak, rr, rr2, rr3⟩ := F.2.2 f hf
  have n6 := F.2.1.2
  have hfI : (nI f).toInt = f := ti_n (by omega)
  have q : 0 ≤ (nI f).toInt ∧ (nI f).toInt < nf := by omega
  have NS := fun a (K : aH → Prop) X => needN_br (d := 498) (a := a) (K := K) (X := X) (kF_0 t) c1 c2
  have AS : ∀ (a : Int32) (K : Int32 → aH → Prop) (X : Nat → aH → Prop), stN (cnM (gI h) f) a → ¬ a.toInt = -1 → (CI 499 182 [vR (A (bF f)), vI a] h K X ↔ ((akR (gI h) f a → K 1 h) ∧ (¬ akR (gI h) f a → K 0 h))) := fun a K X hs hn => by
    have hs2 := hs.resolve_left hn
    have e : a = nI a.toInt.toNat := ti_nat hs2.1
    have := isAsk_br (d := 498) (K := K) (X := X) t c1 c2 (show a.toInt.toNat < cnM (gI h) f by omega)
    rw [← e, (c4 a.toInt.toNat (by omega)).1] at this
    rw [this]
    have : akR (gI h) f a ↔ (soM (gI h) f a.toInt.toNat).toInt = 0 := ⟨fun z => z.resolve_left hn, Or.inr⟩
    rw [this]
  refine m184 ⟨by decide, ck_8 b.1, ?_⟩
  rw [formAt_br b F.1, bz_t q, hfI, Int.toNat_natCast]
  simp only [↓forall_eq, ↓inB_iff, gK_hU, gL_hU, gR_hU, gIh, gJh, pI_hU, pJ_hU, hU_hU, uI_app, uJ_app, and_true, true_and, and_false, false_and, and_self, true_implies, false_implies, not_true, not_false_iff, if_true, if_false, eq_self, Nat.reduceLeDiff, Nat.reduceEqDiff, reduceCtorEq, i32c, ti0, ti1, tiM, Int.natCast_nonneg, Int.reduceEq, Int.reduceLE, Int.reduceLT, Int.reduceNeg, tl_i, Int32.reduceToInt, Int64.reduceToInt, tiA, tlM6, Int.toNat_natCast, natc, nI_1, Int.zero_sub, implies_true, not_false_eq_true, ck_8 b.1, ↓NS, kF_0 t, eF_0 t]
  refine ⟨fun sa => ⟨fun sc => ?_, fun sc => w.1 (fun z => sc z.2)⟩, fun sa => w.1 (fun z => sa z.1)⟩
  obtain ⟨w1, w2⟩ := w.2 ⟨sa, sc⟩
  have s60 : akR (gI h) f a → akR (gI h) f c → Wp 500 184 (60, [none, none, some (vI a), some (vI c), some (vI v), some (vR (A (bF f)))], [], h) (RI K X) := fun za zc => by
    refine w184_60 ?_
    simp only [↓forall_eq, ↓inB_iff, gK_hU, gL_hU, gR_hU, gIh, gJh, pI_hU, pJ_hU, hU_hU, uI_app, uJ_app, and_true, true_and, and_false, false_and, and_self, true_implies, false_implies, not_true, not_false_iff, if_true, if_false, eq_self, Nat.reduceLeDiff, Nat.reduceEqDiff, reduceCtorEq, i32c, ti0, ti1, tiM, Int.natCast_nonneg, Int.reduceEq, Int.reduceLE, Int.reduceLT, Int.reduceNeg, tl_i, Int32.reduceToInt, Int64.reduceToInt, tiA, tlM6, Int.toNat_natCast, natc, nI_1, Int.zero_sub, implies_true, not_false_eq_true, kF_0 t, eF_0 t, rF_0_9 t, kF_10 t, eF_10 t, ↓isFull_br rr2]
    refine ⟨fun e => w1 (fun z => z.2.2.1 e), fun e => ⟨fun e1 => w1 (fun z => by have := z.2.2.2; omega), fun e1 => ⟨fun e2 => w1 (fun z => by have := z.2.2.2; omega), fun e2 => ?_⟩⟩⟩
    have w3 := w2 ⟨za, zc, e, by omega, by omega⟩
    exact ⟨fun z => w3.2 z, fun z => w3.1 z⟩
  have s35 : akR (gI h) f a → Wp 500 184 (35, [none, none, some (vI a), some (vI c), some (vI v), some (vR (A (bF f)))], [], h) (RI K X) := fun za => by
    refine w184_35 ?_
    by_cases e : c.toInt = -1
    · exact ⟨fun _ => s60 za (Or.inl e), fun n => absurd e n⟩
    · refine ⟨fun n => absurd n e, fun _ => ⟨eF_0 t, kF_0 t, ?_⟩⟩
      rw [AS c _ _ sc e]
      exact ⟨fun z => ⟨fun e2 => absurd e2 (by decide), fun _ => s60 za z⟩, fun z => ⟨fun _ => w1 (fun y => z y.2.1), fun e2 => absurd rfl e2⟩⟩
  by_cases e : a.toInt = -1
  · exact ⟨fun _ => s35 (Or.inl e), fun n => absurd e n⟩
  · refine ⟨fun n => absurd n e, fun _ => ?_⟩
    rw [AS a _ _ sa e]
    exact ⟨fun z => ⟨fun e2 => absurd e2 (by decide), fun _ => s35 z⟩, fun z => ⟨fun _ => w1 (fun y => z y.1), fun e2 => absurd rfl e2⟩⟩
theorem m_rule {K : Int32 → aH → Prop} (mf : MF g) (F : FormA h A o (gI h) E Cn nf) (hf : f < nf) (e9 : ∀ x, 44 ≤ x → x < 107 → I x = gI h x)
    (w : (¬ (stN (cnM (gI h) f) a ∧ stN (cnM (gI h) f) c) → K 0 (hU g (uI (uI I 44 0 0) 44 0 1) J)) ∧ (stN (cnM (gI h) f) a ∧ stN (cnM (gI h) f) c → (¬ gdR (gI h) f a c v → K 0 (hU g (uI (uI I 44 0 0) 44 0 2) J)) ∧ (gdR (gI h) f a c v → (¬ nrM (gI h) f < 16 → K 0 (hU g (uI (uI I 44 0 0) 44 0 3) J)) ∧ (nrM (gI h) f < 16 → K (nI (nrM (gI h) f)) (hU g (uI (uI (uI (uI (uI I 44 0 0) 82 (16 * f + nrM (gI h) f) a) 83 (16 * f + nrM (gI h) f) c) 84 (16 * f + nrM (gI h) f) v) 81 f (nI (nrM (gI h) f + 1))) J))))) : CI 500 187 [vR 44, vI (nI f), vI a, vI c, vI v] (hU g I J) K X := by
  obtain ⟨⟨t, l, ⟨c1, c2, c3⟩, c4⟩, fm, fb, ak, rr, rr2, rr3⟩ := F.2.2 f hf
  have n6 := F.2.1.2
  have hnf := F.2.1.1
  have hc := cn_of F
  have n16 : nrM (gI h) f ≤ 16 := rr2.2.2.2.2.2.2.2
  have hn : (nI nf).toInt = nf := ti_n (by omega)
  have hfI : (nI f).toInt = f := ti_n (by omega)
  have z6 : (f : Int) < 6 := by omega
  have q : 0 ≤ (f : Int) ∧ (f : Int) < nf := by omega
  have e44 : I 44 14 = nI nf := by rw [e9 44 (by decide) (by decide)]; exact hnf
  have ST : ∀ (a : Int32) (K : Int32 → aH → Prop) (X : Nat → aH → Prop), ¬ a.toInt = -1 → (CI 499 125 [vR 44, vI (nI f), vI a] (hU g (uI I 44 0 0) J) K X ↔ ((stN (cnM (gI h) f) a → K 1 (hU g (uI I 44 0 0) J)) ∧ (¬ stN (cnM (gI h) f) a → K 0 (hU g (uI I 44 0 0) J)))) := fun a K X hn => by
    rw [isStOf_br (d := 497) (M := gI h) mf hnf n6 hc (by rw [uI_app, if_neg (by decide), e9 44 (by decide) (by decide)]) (by rw [uI_ne _ _ _ (by decide), e9 53 (by decide) (by decide)])]
    have : isSt (gI h) nf (nI f) a ↔ stN (cnM (gI h) f) a := by
      unfold isSt stN
      rw [hfI, Int.toNat_natCast]
      constructor
      · exact fun z => Or.inr z.2
      · exact fun z => ⟨q, z.resolve_left hn⟩
    rw [this]
  have AK : ∀ (a : Int32) (K : Int32 → aH → Prop) (X : Nat → aH → Prop), stN (cnM (gI h) f) a → ¬ a.toInt = -1 → (CI 499 186 [vR 44, vI (nI f), vI a] (hU g (uI I 44 0 0) J) K X ↔ ((akR (gI h) f a → K 1 (hU g (uI I 44 0 0) J)) ∧ (¬ akR (gI h) f a → K 0 (hU g (uI I 44 0 0) J)))) := fun a K X hs hn => by
    have hs2 := hs.resolve_left hn
    have e : a = nI a.toInt.toNat := ti_nat hs2.1
    have z1 : (20 : Int32) * nI f + a = nI (20 * f + a.toInt.toNat) := by rw [e, show (20 : Int32) = nI 20 from rfl, nI_mul, nI_add, ← e]
    have z2 : (nI (20 * f + a.toInt.toNat)).toInt = ((20 * f + a.toInt.toNat : Nat) : Int) := ti_n (by omega)
    have z3 : ((20 * f + a.toInt.toNat : Nat) : Int) < 120 := by omega
    have so : gI h 54 (20 * f + a.toInt.toNat) = soM (gI h) f a.toInt.toNat := by unfold soM; rw [if_pos (by omega)]
    have H : ∀ (K : Int32 → aH → Prop) (X : Nat → aH → Prop), ((akR (gI h) f a → K 1 (hU g (uI I 44 0 0) J)) ∧ (¬ akR (gI h) f a → K 0 (hU g (uI I 44 0 0) J))) → CI 499 186 [vR 44, vI (nI f), vI a] (hU g (uI I 44 0 0) J) K X := fun K X w => by
      refine m186 ?_
      have e54 := e9 54 (by decide) (by decide)
      simp only [↓forall_eq, ↓inB_iff, gK_hU, gL_hU, gR_hU, gIh, gJh, pI_hU, pJ_hU, hU_hU, uI_app, uJ_app, and_true, true_and, and_false, false_and, and_self, true_implies, false_implies, not_true, not_false_iff, if_true, if_false, eq_self, Nat.reduceLeDiff, Nat.reduceEqDiff, reduceCtorEq, i32c, ti0, ti1, tiM, Int.natCast_nonneg, Int.reduceEq, Int.reduceLE, Int.reduceLT, Int.reduceNeg, tl_i, Int32.reduceToInt, Int64.reduceToInt, tiA, tlM6, Int.toNat_natCast, natc, nI_1, Int.zero_sub, implies_true, not_false_eq_true, mf.1, mr_16 mf, mk_54 mf, ml_54 mf, z1, z2, z3, e54, so]
      exact ⟨fun z => w.1 (Or.inr z), fun z => w.2 (fun y => z (y.resolve_left hn))⟩
    by_cases q : akR (gI h) f a
    · rw [bz_t q]; exact CI_iff fun K X w => H K X ((bz_t q).mpr w)
    · rw [bz_f q]; exact CI_iff fun K X w => H K X ((bz_f q).mpr w)
  have nt1 : ∀ {P : Prop}, (1 : Int32).toInt = 0 → P := fun z => absurd z (by decide)
  have s75 : stN (cnM (gI h) f) a ∧ stN (cnM (gI h) f) c → akR (gI h) f a → akR (gI h) f c → Wp 500 187 (75, [some (vR 44), some (vI (nI f)), some (vI a), some (vI c), some (vI v), none], [], hU g (uI I 44 0 0) J) (RI K X) := fun ss za zc => by
    obtain ⟨w1, w2⟩ := w.2 ss
    have e81 : I 81 f = nI (nrM (gI h) f) := by rw [e9 81 (by decide) (by decide)]; exact rr
    have hr16 : (nI (nrM (gI h) f)).toInt = (nrM (gI h) f : Nat) := ti_n (by omega)
    have m1 : (-2000000 : Int64).toInt = -2000000 := rfl
    have m2 : (2000000 : Int64).toInt = 2000000 := rfl
    refine w187_75 ?_
    simp only [↓forall_eq, ↓inB_iff, gK_hU, gL_hU, gR_hU, gIh, gJh, pI_hU, pJ_hU, hU_hU, uI_app, uJ_app, and_true, true_and, and_false, false_and, and_self, true_implies, false_implies, not_true, not_false_iff, if_true, if_false, eq_self, Nat.reduceLeDiff, Nat.reduceEqDiff, reduceCtorEq, i32c, ti0, ti1, tiM, Int.natCast_nonneg, Int.reduceEq, Int.reduceLE, Int.reduceLT, Int.reduceNeg, tl_i, Int32.reduceToInt, Int64.reduceToInt, tiA, tlM6, Int.toNat_natCast, natc, nI_1, Int.zero_sub, implies_true, not_false_eq_true, mf.1, mr_57 mf, mk_81 mf, ml_81 mf, mr_58 mf, mk_82 mf, ml_82 mf, mr_59 mf, mk_83 mf, ml_83 mf, mr_60 mf, mk_84 mf, ml_84 mf, ↓fail_br mf, ↓isIn_br, hfI, z6, e81, hr16]
    refine ⟨fun e => w1 (fun z => z.2.2.1 e), fun e => ⟨fun z => ?_, fun z => w1 (fun y => z ⟨y.2.2.2.1, y.2.2.2.2⟩)⟩⟩
    obtain ⟨w3, w4⟩ := w2 ⟨za, zc, e, z.1, z.2⟩
    refine ⟨fun y => w3 (by omega), fun y => ?_⟩
    have hlt : nrM (gI h) f < 16 := by omega
    have y1 : (16 : Int32) * nI f + nI (nrM (gI h) f) = nI (16 * f + nrM (gI h) f) := by rw [show (16 : Int32) = nI 16 from rfl, nI_mul, nI_add]
    have y2 : (nI (16 * f + nrM (gI h) f)).toInt = ((16 * f + nrM (gI h) f : Nat) : Int) := ti_n (by omega)
    have y3 : ((16 * f + nrM (gI h) f : Nat) : Int) < 96 := by omega
    simp only [↓forall_eq, ↓inB_iff, gK_hU, gL_hU, gR_hU, gIh, gJh, pI_hU, pJ_hU, hU_hU, uI_app, uJ_app, and_true, true_and, and_false, false_and, and_self, true_implies, false_implies, not_true, not_false_iff, if_true, if_false, eq_self, Nat.reduceLeDiff, Nat.reduceEqDiff, reduceCtorEq, i32c, ti0, ti1, tiM, Int.natCast_nonneg, Int.reduceEq, Int.reduceLE, Int.reduceLT, Int.reduceNeg, tl_i, Int32.reduceToInt, Int64.reduceToInt, tiA, tlM6, Int.toNat_natCast, natc, nI_1, Int.zero_sub, implies_true, not_false_eq_true, mf.1, mr_57 mf, mk_81 mf, ml_81 mf, mr_58 mf, mk_82 mf, ml_82 mf, mr_59 mf, mk_83 mf, ml_83 mf, mr_60 mf, mk_84 mf, ml_84 mf, hfI, z6, e81, y1, y2, y3, nI_pred]
    exact w4 hlt
  have s61 : stN (cnM (gI h) f) a ∧ stN (cnM (gI h) f) c → akR (gI h) f a → Wp 500 187 (61, [some (vR 44), some (vI (nI f)), some (vI a), some (vI c), some (vI v), none], [], hU g (uI I 44 0 0) J) (RI K X) := fun ss za => by
    refine w187_61 ?_
    by_cases e : c.toInt = -1
    · exact ⟨fun _ => s75 ss za (Or.inl e), fun n => absurd e n⟩
    · refine ⟨fun n => absurd n e, fun _ => ⟨by decide, mf.1, ?_⟩⟩
      rw [AK c _ _ ss.2 e]
      refine ⟨fun z => ⟨nt1, fun _ => s75 ss za z⟩, fun z => ⟨fun _ => ⟨mf.1, ?_⟩, fun e2 => absurd rfl e2⟩⟩
      rw [fail_br mf]
      exact (w.2 ss).1 (fun y => z y.2.1)
  have s47 : stN (cnM (gI h) f) a ∧ stN (cnM (gI h) f) c → Wp 500 187 (47, [some (vR 44), some (vI (nI f)), some (vI a), some (vI c), some (vI v), none], [], hU g (uI I 44 0 0) J) (RI K X) := fun ss => by
    refine w187_47 ?_
    by_cases e : a.toInt = -1
    · exact ⟨fun _ => s61 ss (Or.inl e), fun n => absurd e n⟩
    · refine ⟨fun n => absurd n e, fun _ => ⟨by decide, mf.1, ?_⟩⟩
      rw [AK a _ _ ss.1 e]
      refine ⟨fun z => ⟨nt1, fun _ => s61 ss z⟩, fun z => ⟨fun _ => ⟨mf.1, ?_⟩, fun e2 => absurd rfl e2⟩⟩
      rw [fail_br mf]
      exact (w.2 ss).1 (fun y => z y.1)
  have s27 : stN (cnM (gI h) f) a → Wp 500 187 (27, [some (vR 44), some (vI (nI f)), some (vI a), some (vI c), some (vI v), none], [], hU g (uI I 44 0 0) J) (RI K X) := fun sa => by
    refine w187_27 ?_
    by_cases e : c.toInt = -1
    · exact ⟨fun _ => s47 ⟨sa, Or.inl e⟩, fun n => absurd e n⟩
    · refine ⟨fun n => absurd n e, fun _ => ⟨by decide, mf.1, ?_⟩⟩
      rw [ST c _ _ e]
      refine ⟨fun z => ⟨nt1, fun _ => s47 ⟨sa, z⟩⟩, fun z => ⟨fun _ => ⟨mf.1, ?_⟩, fun e2 => absurd rfl e2⟩⟩
      rw [fail_br mf]
      exact w.1 (fun y => z y.2)
  refine m187 ?_
  simp only [↓forall_eq, ↓inB_iff, gK_hU, gL_hU, gR_hU, gIh, gJh, pI_hU, pJ_hU, hU_hU, uI_app, uJ_app, and_true, true_and, and_false, false_and, and_self, true_implies, false_implies, not_true, not_false_iff, if_true, if_false, eq_self, Nat.reduceLeDiff, Nat.reduceEqDiff, reduceCtorEq, i32c, ti0, ti1, tiM, Int.natCast_nonneg, Int.reduceEq, Int.reduceLE, Int.reduceLT, Int.reduceNeg, tl_i, Int32.reduceToInt, Int64.reduceToInt, tiA, tlM6, Int.toNat_natCast, natc, nI_1, Int.zero_sub, implies_true, not_false_eq_true, mf.1, mr_57 mf, mk_81 mf, ml_81 mf, mr_58 mf, mk_82 mf, ml_82 mf, mr_59 mf, mk_83 mf, ml_83 mf, mr_60 mf, mk_84 mf, ml_84 mf, ↓fail_br mf, ↓isForm_br mf, e44, hn, hfI, q]
  by_cases e : a.toInt = -1
  · exact ⟨fun _ => s27 (Or.inl e), fun n => absurd e n⟩
  · refine ⟨fun n => absurd n e, fun _ => ?_⟩
    rw [ST a _ _ e]
    refine ⟨fun z => ⟨nt1, fun _ => s27 z⟩, fun z => ⟨fun _ => ?_, fun e2 => absurd rfl e2⟩⟩
    first
      | exact w.1 (fun y => z y.1)
      | (refine ⟨mf.1, ?_⟩; rw [fail_br mf]; exact w.1 (fun y => z y.1))
end PRU
