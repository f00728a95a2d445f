/-! SAMPLES: drawn, chance, overlap -/
section SM3
variable {d U T nm s : Nat} {h g : aH} {A o : Nat → Nat} {X : Nat → aH → Prop} {M I : Nat → Nat → Int32} {J : Nat → Nat → Int64} {x y z : Int32}
/-- is a unit drawn -/
def dB (M : Nat → Nat → Int32) (s i : Nat) : Bool := !decide ((M 88 (100 * s + i)).toInt = 0)
def ndG (P : Nat → Bool) (k : Int) : Nat → Nat → Nat → Int32
  | 0, _, _ => -1
  | n + 1, p, c => if P p = true then (if (c : Int) = k then nI p else ndG P k n (p + 1) (c + 1)) else ndG P k n (p + 1) c
theorem ndG_0 {P : Nat → Bool} {k : Int} : ∀ n p c, (∀ i, p ≤ i → i < p + n → P i = false) → ndG P k n p c = -1 := by
  intro n
  induction n with
  | zero => intro p c _; rfl
  | succ n ih =>
    intro p c hP
    rw [ndG, if_neg (by rw [hP p (Nat.le_refl _) (by omega)]; decide)]
    exact ih (p + 1) c (fun i h1 h2 => hP i (by omega) (by omega))
theorem ndG_more {P : Nat → Bool} {k : Int} {m : Nat} : ∀ n p c, (∀ i, p + n ≤ i → i < p + n + m → P i = false) → ndG P k (n + m) p c = ndG P k n p c := by
  intro n
  induction n with
  | zero => intro p c hP; rw [Nat.zero_add, ndG_0 m p c (fun i h1 h2 => hP i (by omega) (by omega))]; rfl
  | succ n ih =>
    intro p c hP
    rw [show n + 1 + m = (n + m) + 1 by omega, ndG, ndG, ih (p + 1) (c + 1) (fun i h1 h2 => hP i (by omega) (by omega)), ih (p + 1) c (fun i h1 h2 => hP i (by omega) (by omega))]
theorem unitAt_br {K : Int32 → aH → Prop} {L : Nat} (t : TM h A o s) (l9 : L ≤ 100) (hl : gL h (A (bM s + 3)) = L) (hv : ∀ i, i < L → gI h (A (bM s + 3)) i = M 88 (100 * s + i)) : CI d 243 [vR (A (bM s)), vI x] h K X ↔ K (ndG (dB M s) x.toInt L 0 0) h := by
  have hLI : (nI L).toInt = L := ti_n (by omega)
  have kb : 100 ≤ 102 ∧ 102 ≤ 106 := by decide
  refine CI_iff fun K X w => m243 ?_
  have main : ∀ (n p c : Nat), p + n = L → c ≤ p → ndG (dB M s) x.toInt n p c = ndG (dB M s) x.toInt L 0 0 → Wp d 243 (4, [some (vR (A (bM s))), some (vI x), some (vI (nI c)), some (vI (nI p))], [], h) (RI K X) := by
    intro n
    induction n with
    | zero =>
      intro p c hp hc e
      have hpc : p = L := by omega
      subst hpc
      refine w243_4 ?_
      simp only [↓forall_eq, ↓inB_iff, gK_hU, gL_hU, gR_hU, gIh, gJh, pI_hU, pJ_hU, hU_hU, uI_app, uJ_app, and_true, true_and, and_false, false_and, and_self, true_implies, false_implies, not_true, not_false_iff, if_true, if_false, eq_self, Nat.reduceLeDiff, Nat.reduceEqDiff, reduceCtorEq, i32c, ti0, ti1, tiM, Int.natCast_nonneg, Int.reduceEq, Int.reduceLE, Int.reduceLT, Int.reduceNeg, tl_i, Int32.reduceToInt, Int64.reduceToInt, tiA, tlM6, Int.toNat_natCast, natc, nI_1, Int.zero_sub, implies_true, not_false_eq_true, kM_0 t, rM_0_2 t, kM_3 t, hl, kb, Int.lt_irrefl]
      rw [← e] at w; exact w
    | succ n ih =>
      intro p c hp hc e
      have hpI : (nI p).toInt = p := ti_n (by omega)
      have hcI : (nI c).toInt = c := ti_n (by omega)
      have zp : (p : Int) < L := by omega
      have vp := hv p (by omega)
      rw [ndG] at e
      refine w243_4 ?_
      simp only [↓forall_eq, ↓inB_iff, gK_hU, gL_hU, gR_hU, gIh, gJh, pI_hU, pJ_hU, hU_hU, uI_app, uJ_app, and_true, true_and, and_false, false_and, and_self, true_implies, false_implies, not_true, not_false_iff, if_true, if_false, eq_self, Nat.reduceLeDiff, Nat.reduceEqDiff, reduceCtorEq, i32c, ti0, ti1, tiM, Int.natCast_nonneg, Int.reduceEq, Int.reduceLE, Int.reduceLT, Int.reduceNeg, tl_i, Int32.reduceToInt, Int64.reduceToInt, tiA, tlM6, Int.toNat_natCast, natc, nI_1, Int.zero_sub, implies_true, not_false_eq_true, kM_0 t, rM_0_2 t, kM_3 t, hl, kb, hLI, hpI, hcI, zp, vp]
      refine ⟨fun c1 => ?_, fun c1 => ?_⟩
      · rw [if_neg (by unfold dB; rw [decide_eq_true c1]; decide)] at e
        exact ih (p + 1) c (by omega) (by omega) e
      · rw [if_pos (by unfold dB; rw [decide_eq_false c1]; rfl)] at e
        refine ⟨fun c2 => ?_, fun c2 => ?_⟩
        · rw [if_pos c2] at e; rw [e]; exact w
        · rw [if_neg c2] at e; exact ih (p + 1) (c + 1) (by omega) (by omega) e
  exact main L 0 0 (by omega) (Nat.le_refl _) rfl
theorem sam_d {L i : Nat} (S : samOK h A o M U s) : ∃ L, L ≤ U ∧ (∀ j, j < 3 → gL h (A (bM s + 1 + j)) = L) ∧ (∀ i, i < L → gI h (A (bM s + 3)) i = M 88 (100 * s + i)) ∧ ∀ i, L ≤ i → i < 100 → dB M s i = false := by
  obtain ⟨-, L, l1, l2, l3, l4⟩ := S
  refine ⟨L, l1, l2, fun i hi => ?_, fun i h1 h2 => ?_⟩
  · obtain ⟨a, N, b, q1, ⟨q2, q3, q4⟩, q5, q6, q7⟩ := l3 i hi
    rw [q7, q4]
  · unfold dB; rw [(l4 i h1 h2).2.2]; rfl
theorem pr_drawn (b : base h o) (S : SamA h A o (gI h) U nm) (u9 : U ≤ 100) : Pr 244 247 [vI x, vI y] [3] h (fun h2 => left h h2 A A o o (fun _ => False) [] [] 1 6) := by
  have mf := b.2.1
  have h64 := S.2.1.1
  have n12 := S.2.1.2
  have hn : (nI nm).toInt = nm := ti_n (by omega)
  by_cases q : 0 ≤ x.toInt ∧ x.toInt < nm
  · by_cases qy : y.toInt < 0
    · refine Pr_gc (A := A) (C := fun _ => False) 0 3 b (by decide) rfl (fun K X kk => m244 ⟨by decide, ck_8 b.1, ?_⟩) (fun g J K X mf e kk => m247 ?_) (fun h2 l => l)
      · rw [sampleAt_br b S.1, bz_t q]
        simp only [↓forall_eq, ↓inB_iff, gK_hU, gL_hU, gR_hU, gIh, gJh, pI_hU, pJ_hU, hU_hU, uI_app, uJ_app, and_true, true_and, and_false, false_and, and_self, true_implies, false_implies, not_true, not_false_iff, if_true, if_false, eq_self, Nat.reduceLeDiff, Nat.reduceEqDiff, reduceCtorEq, i32c, ti0, ti1, tiM, Int.natCast_nonneg, Int.reduceEq, Int.reduceLE, Int.reduceLT, Int.reduceNeg, tl_i, Int32.reduceToInt, Int64.reduceToInt, tiA, tlM6, Int.toNat_natCast, natc, nI_1, Int.zero_sub, implies_true, not_false_eq_true, qy]; exact kk
      · simp only [↓forall_eq, ↓inB_iff, gK_hU, gL_hU, gR_hU, gIh, gJh, pI_hU, pJ_hU, hU_hU, uI_app, uJ_app, and_true, true_and, and_false, false_and, and_self, true_implies, false_implies, not_true, not_false_iff, if_true, if_false, eq_self, Nat.reduceLeDiff, Nat.reduceEqDiff, reduceCtorEq, i32c, ti0, ti1, tiM, Int.natCast_nonneg, Int.reduceEq, Int.reduceLE, Int.reduceLT, Int.reduceNeg, tl_i, Int32.reduceToInt, Int64.reduceToInt, tiA, tlM6, Int.toNat_natCast, natc, nI_1, Int.zero_sub, implies_true, not_false_eq_true, mf.1, mr_67 mf, mk_88 mf, ml_88 mf, ↓fail_br mf, ↓isSample_br mf, e 44 (by decide) (by decide), h64, hn, q, qy]
        exact kk
    · generalize hsx : x.toInt.toNat = s at *
      have hx : x = nI s := by rw [← hsx]; exact ti_nat q.1
      have hs : s < nm := by omega
      have S0 := S.2.2.1 s hs
      have t := S0.1
      obtain ⟨L, l1, l2, l3, l4⟩ := sam_d (L := 0) (i := 0) S0
      refine Pr_ok (ndG (dB (gI h) s) y.toInt 100 0 0) (fun h1 => h1 = h) (fun K X kk => m244 ⟨by decide, ck_8 b.1, ?_⟩) (fun h1 J1 m j K X kk => m247 ?_)
      · rw [sampleAt_br b S.1, bz_t q, hsx]
        have UB := fun (K : Int32 → aH → Prop) X => unitAt_br (d := 499) (x := y) (K := K) (X := X) (M := gI h) t (by omega) (l2 2 (by omega)) l3
        simp only [↓forall_eq, ↓inB_iff, gK_hU, gL_hU, gR_hU, gIh, gJh, pI_hU, pJ_hU, hU_hU, uI_app, uJ_app, and_true, true_and, and_false, false_and, and_self, true_implies, false_implies, not_true, not_false_iff, if_true, if_false, eq_self, Nat.reduceLeDiff, Nat.reduceEqDiff, reduceCtorEq, i32c, ti0, ti1, tiM, Int.natCast_nonneg, Int.reduceEq, Int.reduceLE, Int.reduceLT, Int.reduceNeg, tl_i, Int32.reduceToInt, Int64.reduceToInt, tiA, tlM6, Int.toNat_natCast, natc, nI_1, Int.zero_sub, implies_true, not_false_eq_true, qy, eM_0 t, kM_0 t, ↓UB]
        have := ndG_more (P := dB (gI h) s) (k := y.toInt) (m := 100 - L) L 0 0 (fun i h1 h2 => l4 i (by omega) (by omega))
        rw [show L + (100 - L) = 100 by omega] at this
        rw [← this]; exact kk h rfl
      · subst m hx
        have hsI : (nI s).toInt = s := ti_n (by omega)
        have q' : 0 ≤ (s : Int) ∧ (s : Int) < nm := by omega
        have e44 : uI (gI h1) 44 0 0 44 64 = nI nm := by rw [uI_nj _ _ _ _ (by decide)]; exact h64
        have fin := kk (hU h1 (uI (gI h1) 44 0 0) J1) (by rw [gIh, uI_same]) rfl (left_mk b b fr_refl (fun w => w) (by simp) (fun a a1 a2 => by funext j9; simp only [uI_app]; grind) (fun j9 a1 a2 => by simp only [uI_app]; grind) (fun a a1 _ => j a a1) (by omega) (by omega))
        have main : ∀ (n p c : Nat), p + n = 100 → c ≤ p → ndG (dB (gI h1) s) y.toInt n p c = ndG (dB (gI h1) s) y.toInt 100 0 0 → Wp 500 247 (28, [some (vR 44), some (vI (nI s)), some (vI y), some (vI (nI c)), some (vI (nI p))], [], hU h1 (uI (gI h1) 44 0 0) J1) (RI K X) := by
          intro n
          induction n with
          | zero =>
            intro p c hp hc e
            have hpc : p = 100 := by omega
            subst hpc
            have t100 : (nI 100).toInt = 100 := rfl
            refine w247_28 ⟨fun c => by rw [t100] at c; omega, fun _ => ?_⟩
            rw [← e] at fin; exact fin
          | succ n ih =>
            intro p c hp hc e
            have hpI : (nI p).toInt = p := ti_n (by omega)
            have hcI : (nI c).toInt = c := ti_n (by omega)
            have zp : (p : Int) < 100 := by omega
            have x1 : (100 : Int32) * nI s + nI p = nI (100 * s + p) := by rw [show (100 : Int32) = nI 100 from rfl, nI_mul, nI_add]
            have x2 : (nI (100 * s + p)).toInt = ((100 * s + p : Nat) : Int) := ti_n (by omega)
            have x3 : ((100 * s + p : Nat) : Int) < 1200 := by omega
            rw [ndG] at e
            refine w247_28 ?_
            simp only [↓forall_eq, ↓inB_iff, gK_hU, gL_hU, gR_hU, gIh, gJh, pI_hU, pJ_hU, hU_hU, uI_app, uJ_app, and_true, true_and, and_false, false_and, and_self, true_implies, false_implies, not_true, not_false_iff, if_true, if_false, eq_self, Nat.reduceLeDiff, Nat.reduceEqDiff, reduceCtorEq, i32c, ti0, ti1, tiM, Int.natCast_nonneg, Int.reduceEq, Int.reduceLE, Int.reduceLT, Int.reduceNeg, tl_i, Int32.reduceToInt, Int64.reduceToInt, tiA, tlM6, Int.toNat_natCast, natc, nI_1, Int.zero_sub, implies_true, not_false_eq_true, mf.1, mr_67 mf, mk_88 mf, ml_88 mf, hpI, hcI, zp, x1, x2, x3]
            refine ⟨fun c1 => ?_, fun c1 => ?_⟩
            · rw [if_neg (by unfold dB; rw [decide_eq_true c1]; decide)] at e
              exact ih (p + 1) c (by omega) (by omega) e
            · rw [if_pos (by unfold dB; rw [decide_eq_false c1]; rfl)] at e
              refine ⟨fun c2 => ?_, fun c2 => ?_⟩
              · rw [if_pos c2] at e; rw [e]; exact fin
              · rw [if_neg c2] at e; exact ih (p + 1) (c + 1) (by omega) (by omega) e
        simp only [↓forall_eq, ↓inB_iff, gK_hU, gL_hU, gR_hU, gIh, gJh, pI_hU, pJ_hU, hU_hU, uI_app, uJ_app, and_true, true_and, and_false, false_and, and_self, true_implies, false_implies, not_true, not_false_iff, if_true, if_false, eq_self, Nat.reduceLeDiff, Nat.reduceEqDiff, reduceCtorEq, i32c, ti0, ti1, tiM, Int.natCast_nonneg, Int.reduceEq, Int.reduceLE, Int.reduceLT, Int.reduceNeg, tl_i, Int32.reduceToInt, Int64.reduceToInt, tiA, tlM6, Int.toNat_natCast, natc, nI_1, Int.zero_sub, implies_true, not_false_eq_true, mf.1, mr_67 mf, mk_88 mf, ml_88 mf, ↓fail_br mf, ↓isSample_br mf, h64, hn, hsI, q', qy]
        exact main 100 0 0 (by omega) (Nat.le_refl _) rfl
  · refine Pr_gc (A := A) (C := fun _ => False) 0 3 b (by decide) rfl (fun K X kk => m244 ⟨by decide, ck_8 b.1, ?_⟩) (fun g J K X mf e kk => m247 ?_) (fun h2 l => l)
    · rw [sampleAt_br b S.1, bz_f q]; exact kk
    · simp only [↓forall_eq, ↓inB_iff, gK_hU, gL_hU, gR_hU, gIh, gJh, pI_hU, pJ_hU, hU_hU, uI_app, uJ_app, and_true, true_and, and_false, false_and, and_self, true_implies, false_implies, not_true, not_false_iff, if_true, if_false, eq_self, Nat.reduceLeDiff, Nat.reduceEqDiff, reduceCtorEq, i32c, ti0, ti1, tiM, Int.natCast_nonneg, Int.reduceEq, Int.reduceLE, Int.reduceLT, Int.reduceNeg, tl_i, Int32.reduceToInt, Int64.reduceToInt, tiA, tlM6, Int.toNat_natCast, natc, nI_1, Int.zero_sub, implies_true, not_false_eq_true, mf.1, mr_67 mf, mk_88 mf, ml_88 mf, ↓fail_br mf, ↓isSample_br mf, e 44 (by decide) (by decide), h64, hn, q]
      exact kk
theorem divM_br {K : Int32 → aH → Prop} {a N : Nat} (a9 : a ≤ 20000) (n9 : N ≤ 20000) : CI d 252 [vI (nI a), vI (nI N)] h K X ↔ K (nI (Nat.gcd a N)) h := by
  refine CI_iff fun K X w => m252 ?_
  have main : ∀ (m u v : Nat), v ≤ m → u ≤ 20000 → v ≤ 20000 → Nat.gcd u v = Nat.gcd a N → Wp d 252 (4, [none, none, some (vI (nI u)), some (vI (nI v)), none], [], h) (RI K X) := by
    intro m
    induction m with
    | zero =>
      intro u v hm hu hv e
      have hv0 : v = 0 := by omega
      subst hv0
      rw [Nat.gcd_zero_right] at e
      refine w252_4 ⟨fun c => absurd c (by decide), fun _ => ?_⟩
      rw [e]; exact w
    | succ m ih =>
      intro u v hm hu hv e
      have hvI : (nI v).toInt = v := ti_n (by omega)
      refine w252_4 ?_
      simp only [↓forall_eq, ↓inB_iff, gK_hU, gL_hU, gR_hU, gIh, gJh, pI_hU, pJ_hU, hU_hU, uI_app, uJ_app, and_true, true_and, and_false, false_and, and_self, true_implies, false_implies, not_true, not_false_iff, if_true, if_false, eq_self, Nat.reduceLeDiff, Nat.reduceEqDiff, reduceCtorEq, i32c, ti0, ti1, tiM, Int.natCast_nonneg, Int.reduceEq, Int.reduceLE, Int.reduceLT, Int.reduceNeg, tl_i, Int32.reduceToInt, Int64.reduceToInt, tiA, tlM6, Int.toNat_natCast, natc, nI_1, Int.zero_sub, implies_true, not_false_eq_true, hvI]
      refine ⟨fun c => ⟨fun e0 => by rw [e0] at hvI; have : (0 : Int32).toInt = 0 := rfl; omega, ?_⟩, fun c => ?_⟩
      · rw [nI_rem (by omega) (by omega)]
        have hlt : u % v < v := Nat.mod_lt _ (by omega)
        refine ih v (u % v) (by omega) (by omega) (by omega) ?_
        rw [← e, Nat.gcd_comm v, ← Nat.gcd_rec, Nat.gcd_comm]
      · have hv0 : v = 0 := by omega
        subst hv0
        rw [Nat.gcd_zero_right] at e
        rw [e]; exact w
  exact main N a N (Nat.le_refl _) a9 n9 rfl
theorem pr_chance (b : base h o) (Rg : RegA h A o (gI h) U T) (S : SamA h A o (gI h) U nm) : Pr 250 253 [vI x, vI y, vI z] [3] h (fun h2 => left h h2 A A o o (fun _ => False) [] [] 1 6) := by
  have mf := b.2.1
  obtain ⟨u9, t9⟩ := RegA_le Rg
  have hu' := Rg.1.1
  have hUI : (nI U).toInt = U := ti_n (by omega)
  have h64 := S.2.1.1
  have n12 := S.2.1.2
  have hn : (nI nm).toInt = nm := ti_n (by omega)
  by_cases q : 0 ≤ x.toInt ∧ x.toInt < nm
  · by_cases qy : 0 ≤ y.toInt ∧ y.toInt < U
    · generalize hsx : x.toInt.toNat = s at *
      have hx : x = nI s := by rw [← hsx]; exact ti_nat q.1
      have hs : s < nm := by omega
      have S0 := S.2.2.1 s hs
      have t := S0.1
      obtain ⟨-, L, l1, l2, l3, l4⟩ := S0
      have hLI : (nI L).toInt = L := ti_n (by omega)
      have kb : 100 ≤ 100 ∧ 100 ≤ 106 := by decide
      have ny : ¬ y.toInt < 0 := by omega
      have hl1 : gL h (A (bM s + 1)) = L := l2 0 (by omega)
      have hl2 : gL h (A (bM s + 2)) = L := l2 1 (by omega)
      have ey : y = nI y.toInt.toNat := ti_nat qy.1
      have x1 : (100 : Int32) * nI s + y = nI (100 * s + y.toInt.toNat) := by rw [ey, show (100 : Int32) = nI 100 from rfl, nI_mul, nI_add, ← ey]
      have x2 : (nI (100 * s + y.toInt.toNat)).toInt = ((100 * s + y.toInt.toNat : Nat) : Int) := ti_n (by omega)
      have x3 : ((100 * s + y.toInt.toNat : Nat) : Int) < 1200 := by omega
      have hsI : (nI s).toInt = s := ti_n (by omega)
      have q' : 0 ≤ (s : Int) ∧ (s : Int) < nm := by omega
      have k0 := kM_0 t
      have e0 := eM_0 t
      -- both sides, by the number
      have both : ∃ v : Int32, (∀ (K : Int32 → aH → Prop) (X : Nat → aH → Prop), K v h → (z.toInt = 0 → CI 499 249 [vR (A (bM s)), vI y] h K X) ∧ (¬ z.toInt = 0 → CI 499 248 [vR (A (bM s)), vI y] h K X)) ∧ ∀ (g : aH) (mg : MF g) (I : Nat → Nat → Int32) (J : Nat → Nat → Int64) (K : Int32 → aH → Prop) (X : Nat → aH → Prop), (∀ a, 45 ≤ a → a < 107 → I a = gI h a) → I 44 64 = nI nm → I 44 2 = nI U → K v (hU g (uI I 44 0 0) J) → CI 500 253 [vR 44, vI (nI s), vI y, vI z] (hU g I J) K X := by
        by_cases cL : y.toInt.toNat < L
        · obtain ⟨a, N, bb, ⟨p1, p2, p3⟩, ⟨p4, p5, p6⟩, p7, p8, p9⟩ := l3 y.toInt.toNat cL
          have yl : y.toInt < L := by omega
          refine ⟨if z.toInt = 0 then nI (if 0 < Nat.gcd a N then a / Nat.gcd a N else a) else nI (if 0 < Nat.gcd a N then N / Nat.gcd a N else 1), fun K X kv => ⟨fun c => m249 ?_, fun c => m248 ?_⟩, fun g mg I J K X i1 i64 i2 kv => m253 ?_⟩
          · rw [if_pos c] at kv
            simp only [↓forall_eq, ↓inB_iff, gK_hU, gL_hU, gR_hU, gIh, gJh, pI_hU, pJ_hU, hU_hU, uI_app, uJ_app, and_true, true_and, and_false, false_and, and_self, true_implies, false_implies, not_true, not_false_iff, if_true, if_false, eq_self, Nat.reduceLeDiff, Nat.reduceEqDiff, reduceCtorEq, i32c, ti0, ti1, tiM, Int.natCast_nonneg, Int.reduceEq, Int.reduceLE, Int.reduceLT, Int.reduceNeg, tl_i, Int32.reduceToInt, Int64.reduceToInt, tiA, tlM6, Int.toNat_natCast, natc, nI_1, Int.zero_sub, implies_true, not_false_eq_true, ny, k0, rM_0_0 t, kM_1 t, hl1, kb, hLI, yl, qy, p7]
            exact kv
          · rw [if_neg c] at kv
            simp only [↓forall_eq, ↓inB_iff, gK_hU, gL_hU, gR_hU, gIh, gJh, pI_hU, pJ_hU, hU_hU, uI_app, uJ_app, and_true, true_and, and_false, false_and, and_self, true_implies, false_implies, not_true, not_false_iff, if_true, if_false, eq_self, Nat.reduceLeDiff, Nat.reduceEqDiff, reduceCtorEq, i32c, ti0, ti1, tiM, Int.natCast_nonneg, Int.reduceEq, Int.reduceLE, Int.reduceLT, Int.reduceNeg, tl_i, Int32.reduceToInt, Int64.reduceToInt, tiA, tlM6, Int.toNat_natCast, natc, nI_1, Int.zero_sub, implies_true, not_false_eq_true, ny, k0, rM_0_1 t, kM_2 t, hl2, kb, hLI, yl, qy, p8]
            exact kv
          · have i86 := i1 86 (by decide) (by decide)
            have i87 := i1 87 (by decide) (by decide)
            have NI : (nI N).toInt = N := ti_n (by omega)
            have DV := fun (K : Int32 → aH → Prop) X => divM_br (d := 499) (h := hU g (uI I 44 0 0) J) (a := a) (N := N) (K := K) (X := X) (by omega) (by omega)
            simp only [↓forall_eq, ↓inB_iff, gK_hU, gL_hU, gR_hU, gIh, gJh, pI_hU, pJ_hU, hU_hU, uI_app, uJ_app, and_true, true_and, and_false, false_and, and_self, true_implies, false_implies, not_true, not_false_iff, if_true, if_false, eq_self, Nat.reduceLeDiff, Nat.reduceEqDiff, reduceCtorEq, i32c, ti0, ti1, tiM, Int.natCast_nonneg, Int.reduceEq, Int.reduceLE, Int.reduceLT, Int.reduceNeg, tl_i, Int32.reduceToInt, Int64.reduceToInt, tiA, tlM6, Int.toNat_natCast, natc, nI_1, Int.zero_sub, implies_true, not_false_eq_true, mg.1, mr_65 mg, mk_86 mg, ml_86 mg, mr_66 mg, mk_87 mg, ml_87 mg, ↓fail_br mg, ↓isSample_br mg, ↓isUnit_br mg, i64, i2, hn, hUI, hsI, q', qy, x1, x2, x3, i86, i87, p4, p5, NI, ↓DV]
            refine ⟨fun c => ?_, fun c => ?_⟩
            · have N0 : N = 0 := by omega
              have a0 := p3 N0
              subst N0 a0
              exact ⟨fun cz => by rw [if_pos cz] at kv; exact kv, fun cz => by rw [if_neg cz] at kv; exact kv⟩
            · have gp : 0 < Nat.gcd a N := Nat.gcd_pos_of_pos_right a (by omega)
              have gle : Nat.gcd a N ≤ N := Nat.gcd_le_right a (by omega)
              have gI' : (nI (Nat.gcd a N)).toInt = (Nat.gcd a N : Nat) := ti_n (by omega)
              have gne : ¬ nI (Nat.gcd a N) = 0 := fun e => by rw [e] at gI'; have : (0 : Int32).toInt = 0 := rfl; omega
              refine ⟨fun cz => ⟨gne, ?_⟩, fun cz => ⟨gne, ?_⟩⟩
              · rw [if_pos cz, if_pos gp] at kv
                rw [nI_div (by omega) (by omega)]; exact kv
              · rw [if_neg cz, if_pos gp] at kv
                rw [nI_div (by omega) (by omega)]; exact kv
        · obtain ⟨p4, p5, p6⟩ := l4 y.toInt.toNat (by omega) (by omega)
          have yl : ¬ y.toInt < L := by omega
          refine ⟨if z.toInt = 0 then 0 else 1, fun K X kv => ⟨fun c => m249 ?_, fun c => m248 ?_⟩, fun g mg I J K X i1 i64 i2 kv => m253 ?_⟩
          · rw [if_pos c] at kv
            simp only [↓forall_eq, ↓inB_iff, gK_hU, gL_hU, gR_hU, gIh, gJh, pI_hU, pJ_hU, hU_hU, uI_app, uJ_app, and_true, true_and, and_false, false_and, and_self, true_implies, false_implies, not_true, not_false_iff, if_true, if_false, eq_self, Nat.reduceLeDiff, Nat.reduceEqDiff, reduceCtorEq, i32c, ti0, ti1, tiM, Int.natCast_nonneg, Int.reduceEq, Int.reduceLE, Int.reduceLT, Int.reduceNeg, tl_i, Int32.reduceToInt, Int64.reduceToInt, tiA, tlM6, Int.toNat_natCast, natc, nI_1, Int.zero_sub, implies_true, not_false_eq_true, ny, k0, rM_0_0 t, kM_1 t, hl1, kb, hLI, yl]
            exact kv
          · rw [if_neg c] at kv
            simp only [↓forall_eq, ↓inB_iff, gK_hU, gL_hU, gR_hU, gIh, gJh, pI_hU, pJ_hU, hU_hU, uI_app, uJ_app, and_true, true_and, and_false, false_and, and_self, true_implies, false_implies, not_true, not_false_iff, if_true, if_false, eq_self, Nat.reduceLeDiff, Nat.reduceEqDiff, reduceCtorEq, i32c, ti0, ti1, tiM, Int.natCast_nonneg, Int.reduceEq, Int.reduceLE, Int.reduceLT, Int.reduceNeg, tl_i, Int32.reduceToInt, Int64.reduceToInt, tiA, tlM6, Int.toNat_natCast, natc, nI_1, Int.zero_sub, implies_true, not_false_eq_true, ny, k0, rM_0_1 t, kM_2 t, hl2, kb, hLI, yl]
            exact kv
          · have i86 := i1 86 (by decide) (by decide)
            have i87 := i1 87 (by decide) (by decide)
            simp only [↓forall_eq, ↓inB_iff, gK_hU, gL_hU, gR_hU, gIh, gJh, pI_hU, pJ_hU, hU_hU, uI_app, uJ_app, and_true, true_and, and_false, false_and, and_self, true_implies, false_implies, not_true, not_false_iff, if_true, if_false, eq_self, Nat.reduceLeDiff, Nat.reduceEqDiff, reduceCtorEq, i32c, ti0, ti1, tiM, Int.natCast_nonneg, Int.reduceEq, Int.reduceLE, Int.reduceLT, Int.reduceNeg, tl_i, Int32.reduceToInt, Int64.reduceToInt, tiA, tlM6, Int.toNat_natCast, natc, nI_1, Int.zero_sub, implies_true, not_false_eq_true, mg.1, mr_65 mg, mk_86 mg, ml_86 mg, mr_66 mg, mk_87 mg, ml_87 mg, ↓fail_br mg, ↓isSample_br mg, ↓isUnit_br mg, i64, i2, hn, hUI, hsI, q', qy, x1, x2, x3, i86, i87, p4, p5]
            exact ⟨fun cz => by rw [if_pos cz] at kv; exact kv, fun cz => by rw [if_neg cz] at kv; exact kv⟩
      obtain ⟨v, bc, bm⟩ := both
      refine Pr_ok v (fun h1 => h1 = h) (fun K X kk => m250 ⟨by decide, ck_8 b.1, ?_⟩) (fun h1 J1 m j K X kk => ?_)
      · rw [sampleAt_br b S.1, bz_t q, hsx]
        simp only [↓forall_eq, ↓inB_iff, gK_hU, gL_hU, gR_hU, gIh, gJh, pI_hU, pJ_hU, hU_hU, uI_app, uJ_app, and_true, true_and, and_false, false_and, and_self, true_implies, false_implies, not_true, not_false_iff, if_true, if_false, eq_self, Nat.reduceLeDiff, Nat.reduceEqDiff, reduceCtorEq, i32c, ti0, ti1, tiM, Int.natCast_nonneg, Int.reduceEq, Int.reduceLE, Int.reduceLT, Int.reduceNeg, tl_i, Int32.reduceToInt, Int64.reduceToInt, tiA, tlM6, Int.toNat_natCast, natc, nI_1, Int.zero_sub, implies_true, not_false_eq_true, ck_8 b.1, ↓needUnit_br b Rg, qy, e0, k0]
        exact bc _ _ (kk h rfl)
      · subst m hx
        exact bm h1 mf (gI h1) J1 K X (fun _ _ _ => rfl) h64 hu' (kk (hU h1 (uI (gI h1) 44 0 0) J1) (by rw [gIh, uI_same]) rfl (left_mk b b fr_refl (fun w => w) (by simp) (fun a a1 a2 => by funext j9; simp only [uI_app]; grind) (fun j9 a1 a2 => by simp only [uI_app]; grind) (fun a a1 _ => j a a1) (by omega) (by omega)))
    · refine Pr_gc (A := A) (C := fun _ => False) 0 3 b (by decide) rfl (fun K X kk => m250 ⟨by decide, ck_8 b.1, ?_⟩) (fun g J K X mf e kk => m253 ?_) (fun h2 l => l)
      · rw [sampleAt_br b S.1, bz_t q]
        simp only [↓forall_eq, ↓inB_iff, gK_hU, gL_hU, gR_hU, gIh, gJh, pI_hU, pJ_hU, hU_hU, uI_app, uJ_app, and_true, true_and, and_false, false_and, and_self, true_implies, false_implies, not_true, not_false_iff, if_true, if_false, eq_self, Nat.reduceLeDiff, Nat.reduceEqDiff, reduceCtorEq, i32c, ti0, ti1, tiM, Int.natCast_nonneg, Int.reduceEq, Int.reduceLE, Int.reduceLT, Int.reduceNeg, tl_i, Int32.reduceToInt, Int64.reduceToInt, tiA, tlM6, Int.toNat_natCast, natc, nI_1, Int.zero_sub, implies_true, not_false_eq_true, ck_8 b.1, ↓needUnit_br b Rg, qy]
        exact kk
      · simp only [↓forall_eq, ↓inB_iff, gK_hU, gL_hU, gR_hU, gIh, gJh, pI_hU, pJ_hU, hU_hU, uI_app, uJ_app, and_true, true_and, and_false, false_and, and_self, true_implies, false_implies, not_true, not_false_iff, if_true, if_false, eq_self, Nat.reduceLeDiff, Nat.reduceEqDiff, reduceCtorEq, i32c, ti0, ti1, tiM, Int.natCast_nonneg, Int.reduceEq, Int.reduceLE, Int.reduceLT, Int.reduceNeg, tl_i, Int32.reduceToInt, Int64.reduceToInt, tiA, tlM6, Int.toNat_natCast, natc, nI_1, Int.zero_sub, implies_true, not_false_eq_true, mf.1, mr_65 mf, mk_86 mf, ml_86 mf, mr_66 mf, mk_87 mf, ml_87 mf, ↓fail_br mf, ↓isSample_br mf, ↓isUnit_br mf, e 44 (by decide) (by decide), h64, hu', hn, hUI, q, qy]
        exact kk
  · refine Pr_gc (A := A) (C := fun _ => False) 0 3 b (by decide) rfl (fun K X kk => m250 ⟨by decide, ck_8 b.1, ?_⟩) (fun g J K X mf e kk => m253 ?_) (fun h2 l => l)
    · rw [sampleAt_br b S.1, bz_f q]; exact kk
    · simp only [↓forall_eq, ↓inB_iff, gK_hU, gL_hU, gR_hU, gIh, gJh, pI_hU, pJ_hU, hU_hU, uI_app, uJ_app, and_true, true_and, and_false, false_and, and_self, true_implies, false_implies, not_true, not_false_iff, if_true, if_false, eq_self, Nat.reduceLeDiff, Nat.reduceEqDiff, reduceCtorEq, i32c, ti0, ti1, tiM, Int.natCast_nonneg, Int.reduceEq, Int.reduceLE, Int.reduceLT, Int.reduceNeg, tl_i, Int32.reduceToInt, Int64.reduceToInt, tiA, tlM6, Int.toNat_natCast, natc, nI_1, Int.zero_sub, implies_true, not_false_eq_true, mf.1, mr_65 mf, mk_86 mf, ml_86 mf, mr_66 mf, mk_87 mf, ml_87 mf, ↓fail_br mf, ↓isSample_br mf, e 44 (by decide) (by decide), h64, hn, q]
      exact kk
theorem drew_br {K : Int32 → aH → Prop} {i : Nat} (S : samOK h A o M U s) (u9 : U ≤ 100) (hi : i < 100) : CI d 254 [vR (A (bM s)), vI (nI i)] h K X ↔ K (bI (dB M s i)) h := by
  have t := S.1
  obtain ⟨L, l1, l2, l3, l4⟩ := sam_d (L := 0) (i := 0) S
  have hLI : (nI L).toInt = L := ti_n (by omega)
  have hiI : (nI i).toInt = i := ti_n (by omega)
  have ni : ¬ (i : Int) < 0 := by omega
  have kb : 100 ≤ 102 ∧ 102 ≤ 106 := by decide
  have hl3 : gL h (A (bM s + 3)) = L := l2 2 (by omega)
  refine CI_iff fun K X w => m254 ?_
  by_cases c : i < L
  · have zl : (i : Int) < L := by omega
    simp only [↓forall_eq, ↓inB_iff, gK_hU, gL_hU, gR_hU, gIh, gJh, pI_hU, pJ_hU, hU_hU, uI_app, uJ_app, and_true, true_and, and_false, false_and, and_self, true_implies, false_implies, not_true, not_false_iff, if_true, if_false, eq_self, Nat.reduceLeDiff, Nat.reduceEqDiff, reduceCtorEq, i32c, ti0, ti1, tiM, Int.natCast_nonneg, Int.reduceEq, Int.reduceLE, Int.reduceLT, Int.reduceNeg, tl_i, Int32.reduceToInt, Int64.reduceToInt, tiA, tlM6, Int.toNat_natCast, natc, nI_1, Int.zero_sub, implies_true, not_false_eq_true, hiI, ni, kM_0 t, rM_0_2 t, kM_3 t, hl3, kb, hLI, zl, l3 i c]
    refine ⟨fun c1 => ?_, fun c1 => ?_⟩
    · unfold dB at w; rw [decide_eq_true c1] at w; exact w
    · unfold dB at w; rw [decide_eq_false c1] at w; exact w
  · have zl : ¬ (i : Int) < L := by omega
    simp only [↓forall_eq, ↓inB_iff, gK_hU, gL_hU, gR_hU, gIh, gJh, pI_hU, pJ_hU, hU_hU, uI_app, uJ_app, and_true, true_and, and_false, false_and, and_self, true_implies, false_implies, not_true, not_false_iff, if_true, if_false, eq_self, Nat.reduceLeDiff, Nat.reduceEqDiff, reduceCtorEq, i32c, ti0, ti1, tiM, Int.natCast_nonneg, Int.reduceEq, Int.reduceLE, Int.reduceLT, Int.reduceNeg, tl_i, Int32.reduceToInt, Int64.reduceToInt, tiA, tlM6, Int.toNat_natCast, natc, nI_1, Int.zero_sub, implies_true, not_false_eq_true, hiI, ni, kM_0 t, rM_0_2 t, kM_3 t, hl3, kb, hLI, zl]
    rw [l4 i (by omega) hi] at w; exact w
theorem pr_overlap (b : base h o) (Rg : RegA h A o (gI h) U T) (S : SamA h A o (gI h) U nm) : Pr 255 257 [vI x, vI y] [3] h (fun h2 => left h h2 A A o o (fun _ => False) [] [] 1 6) := by
  have mf := b.2.1
  obtain ⟨u9, t9⟩ := RegA_le Rg
  have hUI : (nI U).toInt = U := ti_n (by omega)
  have h64 := S.2.1.1
  have n12 := S.2.1.2
  have hn : (nI nm).toInt = nm := ti_n (by omega)
  by_cases q : 0 ≤ x.toInt ∧ x.toInt < nm
  · by_cases qy : 0 ≤ y.toInt ∧ y.toInt < nm
    · generalize hsx : x.toInt.toNat = s at *
      generalize hsy : y.toInt.toNat = s2 at *
      have hx : x = nI s := by rw [← hsx]; exact ti_nat q.1
      have hy : y = nI s2 := by rw [← hsy]; exact ti_nat qy.1
      have S1 := S.2.2.1 s (by omega)
      have S2 := S.2.2.1 s2 (by omega)
      have bey : ∀ i, U ≤ i → i < 100 → dB (gI h) s i = false := fun i h1 h2 => by
        obtain ⟨L, l1, -, -, l4⟩ := sam_d (L := 0) (i := 0) S1
        exact l4 i (by omega) h2
      have a0 : ∀ x : Int32, x + 0 = x := Int32.add_zero
      have eq1 : cntP (fun i => dB (gI h) s i && dB (gI h) s2 i) 100 = cntP (fun i => dB (gI h) s i && dB (gI h) s2 i) U := by
        have : ∀ m, U + m ≤ 100 → cntP (fun i => dB (gI h) s i && dB (gI h) s2 i) (U + m) = cntP (fun i => dB (gI h) s i && dB (gI h) s2 i) U := by
          intro m
          induction m with
          | zero => intro _; rfl
          | succ m ih =>
            intro hm
            rw [← Nat.add_assoc, cntP, ih (by omega), bey _ (by omega) (by omega), Bool.false_and, if_neg (by decide)]; rfl
        have h9 := this (100 - U) (by omega)
        rw [show U + (100 - U) = 100 by omega] at h9
        exact h9
      refine Pr_ok (nI (cntP (fun i => dB (gI h) s i && dB (gI h) s2 i) 100)) (fun h1 => h1 = h) (fun K X kk => m255 ⟨by decide, ck_8 b.1, ?_⟩) (fun h1 J1 m j K X kk => m257 ?_)
      · rw [sampleAt_br b S.1, bz_t q, hsx]
        refine ⟨ck_8 b.1, ?_⟩
        rw [sampleAt_br b S.1, bz_t qy, hsy]
        have SZ := fun (K : Int32 → aH → Prop) X => size_br (d := 499) (h := h) (I := gI h) (J := gJ h) (K := K) (X := X) Rg.2.1.1 rfl
        rw [hU_eta] at SZ
        have fin := kk h rfl
        rw [eq1] at fin
        have main : ∀ (m p : Nat), p + m = U → Wp 500 255 (19, [some (vR 8), none, none, some (vR (A (bM s))), some (vR (A (bM s2))), some (vI (nI (cntP (fun i => dB (gI h) s i && dB (gI h) s2 i) p))), some (vI (nI p))], [], h) (RI K X) := by
          intro m
          induction m with
          | zero =>
            intro p hp
            have hpc : p = U := by omega
            subst hpc
            refine w255_19 ?_
            simp only [↓forall_eq, ↓inB_iff, gK_hU, gL_hU, gR_hU, gIh, gJh, pI_hU, pJ_hU, hU_hU, uI_app, uJ_app, and_true, true_and, and_false, false_and, and_self, true_implies, false_implies, not_true, not_false_iff, if_true, if_false, eq_self, Nat.reduceLeDiff, Nat.reduceEqDiff, reduceCtorEq, i32c, ti0, ti1, tiM, Int.natCast_nonneg, Int.reduceEq, Int.reduceLE, Int.reduceLT, Int.reduceNeg, tl_i, Int32.reduceToInt, Int64.reduceToInt, tiA, tlM6, Int.toNat_natCast, natc, nI_1, Int.zero_sub, implies_true, not_false_eq_true, ck_8 b.1, cr_8_0 b.1, ck_9 b.1, cr_9_0 b.1, ck_10 b.1, ↓SZ, Int.lt_irrefl]
            exact fin
          | succ m ih =>
            intro p hp
            have nx := ih (p + 1) (by omega)
            rw [cntP] at nx
            have hpI : (nI p).toInt = p := ti_n (by omega)
            have zp : (p : Int) < U := by omega
            have D1 := fun (K : Int32 → aH → Prop) X => drew_br (d := 499) (K := K) (X := X) (i := p) S1 u9 (by omega)
            have D2 := fun (K : Int32 → aH → Prop) X => drew_br (d := 499) (K := K) (X := X) (i := p) S2 u9 (by omega)
            refine w255_19 ?_
            simp only [↓forall_eq, ↓inB_iff, gK_hU, gL_hU, gR_hU, gIh, gJh, pI_hU, pJ_hU, hU_hU, uI_app, uJ_app, and_true, true_and, and_false, false_and, and_self, true_implies, false_implies, not_true, not_false_iff, if_true, if_false, eq_self, Nat.reduceLeDiff, Nat.reduceEqDiff, reduceCtorEq, i32c, ti0, ti1, tiM, Int.natCast_nonneg, Int.reduceEq, Int.reduceLE, Int.reduceLT, Int.reduceNeg, tl_i, Int32.reduceToInt, Int64.reduceToInt, tiA, tlM6, Int.toNat_natCast, natc, nI_1, Int.zero_sub, implies_true, not_false_eq_true, ck_8 b.1, cr_8_0 b.1, ck_9 b.1, cr_9_0 b.1, ck_10 b.1, ↓SZ, hUI, hpI, zp, eM_0 S1.1, kM_0 S1.1, eM_0 S2.1, kM_0 S2.1, ↓D1, ↓D2, bI0]
            refine ⟨fun c => ?_, fun c => ⟨fun c2 => ?_, fun c2 => ?_⟩⟩
            · rw [if_neg (by rw [c, Bool.false_and]; decide), Nat.add_zero] at nx; exact nx
            · rw [if_neg (by rw [c2, Bool.and_false]; decide), Nat.add_zero] at nx; exact nx
            · rw [if_pos (by rw [bnf c, bnf c2]; rfl)] at nx; exact nx
        exact main U 0 (by omega)
      · subst m hx hy
        have hsI : (nI s).toInt = s := ti_n (by omega)
        have hsI2 : (nI s2).toInt = s2 := ti_n (by omega)
        have q' : 0 ≤ (s : Int) ∧ (s : Int) < nm := by omega
        have q2' : 0 ≤ (s2 : Int) ∧ (s2 : Int) < nm := by omega
        have fin := kk (hU h1 (uI (gI h1) 44 0 0) J1) (by rw [gIh, uI_same]) rfl (left_mk b b fr_refl (fun w => w) (by simp) (fun a a1 a2 => by funext j9; simp only [uI_app]; grind) (fun j9 a1 a2 => by simp only [uI_app]; grind) (fun a a1 _ => j a a1) (by omega) (by omega))
        have main : ∀ (m p : Nat), p + m = 100 → Wp 500 257 (32, [some (vR 44), some (vI (nI s)), some (vI (nI s2)), some (vI (nI (cntP (fun i => dB (gI h1) s i && dB (gI h1) s2 i) p))), some (vI (nI p))], [], hU h1 (uI (gI h1) 44 0 0) J1) (RI K X) := by
          intro m
          induction m with
          | zero =>
            intro p hp
            have hpc : p = 100 := by omega
            subst hpc
            have t100 : (nI 100).toInt = 100 := rfl
            refine w257_32 ⟨fun c => by rw [t100] at c; omega, fun _ => fin⟩
          | succ m ih =>
            intro p hp
            have nx := ih (p + 1) (by omega)
            rw [cntP] at nx
            have hpI : (nI p).toInt = p := ti_n (by omega)
            have zp : (p : Int) < 100 := by omega
            have x1 : (100 : Int32) * nI s + nI p = nI (100 * s + p) := by rw [show (100 : Int32) = nI 100 from rfl, nI_mul, nI_add]
            have x2 : (nI (100 * s + p)).toInt = ((100 * s + p : Nat) : Int) := ti_n (by omega)
            have x3 : ((100 * s + p : Nat) : Int) < 1200 := by omega
            have y1 : (100 : Int32) * nI s2 + nI p = nI (100 * s2 + p) := by rw [show (100 : Int32) = nI 100 from rfl, nI_mul, nI_add]
            have y2 : (nI (100 * s2 + p)).toInt = ((100 * s2 + p : Nat) : Int) := ti_n (by omega)
            have y3 : ((100 * s2 + p : Nat) : Int) < 1200 := by omega
            refine w257_32 ?_
            simp only [↓forall_eq, ↓inB_iff, gK_hU, gL_hU, gR_hU, gIh, gJh, pI_hU, pJ_hU, hU_hU, uI_app, uJ_app, and_true, true_and, and_false, false_and, and_self, true_implies, false_implies, not_true, not_false_iff, if_true, if_false, eq_self, Nat.reduceLeDiff, Nat.reduceEqDiff, reduceCtorEq, i32c, ti0, ti1, tiM, Int.natCast_nonneg, Int.reduceEq, Int.reduceLE, Int.reduceLT, Int.reduceNeg, tl_i, Int32.reduceToInt, Int64.reduceToInt, tiA, tlM6, Int.toNat_natCast, natc, nI_1, Int.zero_sub, implies_true, not_false_eq_true, mf.1, mr_67 mf, mk_88 mf, ml_88 mf, hpI, zp, x1, x2, x3, y1, y2, y3, a0]
            refine ⟨fun c => ?_, fun c => ⟨fun c2 => ?_, fun c2 => ?_⟩⟩
            · rw [if_neg (by unfold dB; rw [decide_eq_true c]; simp), Nat.add_zero] at nx; exact nx
            · rw [if_neg (by unfold dB; rw [decide_eq_true c2]; simp), Nat.add_zero] at nx; exact nx
            · rw [if_pos (by unfold dB; rw [decide_eq_false c, decide_eq_false c2]; rfl)] at nx; exact nx
        simp only [↓forall_eq, ↓inB_iff, gK_hU, gL_hU, gR_hU, gIh, gJh, pI_hU, pJ_hU, hU_hU, uI_app, uJ_app, and_true, true_and, and_false, false_and, and_self, true_implies, false_implies, not_true, not_false_iff, if_true, if_false, eq_self, Nat.reduceLeDiff, Nat.reduceEqDiff, reduceCtorEq, i32c, ti0, ti1, tiM, Int.natCast_nonneg, Int.reduceEq, Int.reduceLE, Int.reduceLT, Int.reduceNeg, tl_i, Int32.reduceToInt, Int64.reduceToInt, tiA, tlM6, Int.toNat_natCast, natc, nI_1, Int.zero_sub, implies_true, not_false_eq_true, mf.1, mr_67 mf, mk_88 mf, ml_88 mf, ↓fail_br mf, ↓isSample_br mf, h64, hn, hsI, hsI2, q', q2']
        exact main 100 0 (by omega)
    · refine Pr_gc (A := A) (C := fun _ => False) 0 3 b (by decide) rfl (fun K X kk => m255 ⟨by decide, ck_8 b.1, ?_⟩) (fun g J K X mf e kk => m257 ?_) (fun h2 l => l)
      · rw [sampleAt_br b S.1, bz_t q]
        refine ⟨ck_8 b.1, ?_⟩
        rw [sampleAt_br b S.1, bz_f qy]; exact kk
      · simp only [↓forall_eq, ↓inB_iff, gK_hU, gL_hU, gR_hU, gIh, gJh, pI_hU, pJ_hU, hU_hU, uI_app, uJ_app, and_true, true_and, and_false, false_and, and_self, true_implies, false_implies, not_true, not_false_iff, if_true, if_false, eq_self, Nat.reduceLeDiff, Nat.reduceEqDiff, reduceCtorEq, i32c, ti0, ti1, tiM, Int.natCast_nonneg, Int.reduceEq, Int.reduceLE, Int.reduceLT, Int.reduceNeg, tl_i, Int32.reduceToInt, Int64.reduceToInt, tiA, tlM6, Int.toNat_natCast, natc, nI_1, Int.zero_sub, implies_true, not_false_eq_true, mf.1, mr_67 mf, mk_88 mf, ml_88 mf, ↓fail_br mf, ↓isSample_br mf, e 44 (by decide) (by decide), h64, hn, q, qy]
        exact kk
  · refine Pr_gc (A := A) (C := fun _ => False) 0 3 b (by decide) rfl (fun K X kk => m255 ⟨by decide, ck_8 b.1, ?_⟩) (fun g J K X mf e kk => m257 ?_) (fun h2 l => l)
    · rw [sampleAt_br b S.1, bz_f q]; exact kk
    · simp only [↓forall_eq, ↓inB_iff, gK_hU, gL_hU, gR_hU, gIh, gJh, pI_hU, pJ_hU, hU_hU, uI_app, uJ_app, and_true, true_and, and_false, false_and, and_self, true_implies, false_implies, not_true, not_false_iff, if_true, if_false, eq_self, Nat.reduceLeDiff, Nat.reduceEqDiff, reduceCtorEq, i32c, ti0, ti1, tiM, Int.natCast_nonneg, Int.reduceEq, Int.reduceLE, Int.reduceLT, Int.reduceNeg, tl_i, Int32.reduceToInt, Int64.reduceToInt, tiA, tlM6, Int.toNat_natCast, natc, nI_1, Int.zero_sub, implies_true, not_false_eq_true, mf.1, mr_67 mf, mk_88 mf, ml_88 mf, ↓fail_br mf, ↓isSample_br mf, e 44 (by decide) (by decide), h64, hn, q]
      exact kk
end SM3
