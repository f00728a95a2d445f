/-! WHAT FITS: the model's side -/
section FTM
variable {d f s r n p : Nat} {it t t1 : Nat → Int32} {h g : aH} {A o : Nat → Nat} {X : Nat → aH → Prop} {M : Nat → Nat → Int32} {I I1 : Nat → Nat → Int32} {J : Nat → Nat → Int64} {S : Int32}
theorem sh_bit {x : Int32} {k : Nat} (hk : k < 32) : (x >>> (nI k &&& 31)) &&& 1 = bI (gB x k) := by
  have z : ∀ s : Fin 32, ((nI s.val &&& 31).toBitVec.smod 32).toNat = s.val := by decide +kernel
  have a2 : (x >>> (nI k &&& 31)).toBitVec = x.toBitVec.sshiftRight k := by
    rw [Int32.toBitVec_shiftRight, BitVec.sshiftRight_eq', z ⟨k, hk⟩]
  have b1 : ∀ i : Fin 32, gB 1 i.val = decide (i.val = 0) := by decide +kernel
  have b2 : ∀ (b : Bool) (i : Fin 32), gB (bI b) i.val = (decide (i.val = 0) && b) := by decide +kernel
  refine gB_ext fun i hi => ?_
  rw [gB_and, b1 ⟨i, hi⟩, b2 _ ⟨i, hi⟩]
  by_cases e : i = 0
  · subst e
    unfold gB
    rw [a2, BitVec.getLsbD_sshiftRight]
    simp [hk]
  · simp [e]
/-- what the model looks at -/
def edM (g : aH) (M : Nat → Nat → Int32) (f r : Nat) (it : Nat → Int32) : Prop := MF g ∧ (f < 6 ∧ r < 60) ∧ cnM M f ≤ 20 ∧ nrM M f ≤ 16 ∧ M 53 f = nI (cnM M f) ∧ M 81 f = nI (nrM M f) ∧ ∀ i, i < 20 → M 79 (20 * r + i) = it i
/-- only what was tried changes -/
def tFr (M : Nat → Nat → Int32) (I : Nat → Nat → Int32) : Prop := ∀ c, 53 ≤ c → c < 85 → I c = M c
theorem tFr_u {i : Nat} {x : Int32} (s : tFr M I) : tFr M (uI I 85 i x) := fun c h1 h2 => by rw [uI_ne _ _ _ (by omega)]; exact s c h1 h2
/-- what stands behind a side -/
def tAg (S : Int32) (it t : Nat → Int32) (I : Nat → Nat → Int32) (n : Nat) : Prop := ∀ i, i < n → (gB S i = true → I 85 i = t i) ∧ (gB S i = false → t i = it i)
theorem side_br {K : Int32 → aH → Prop} {a : Int32} (e : edM g M f r it) (s : tFr M I) (ag : tAg S it t I (cnM M f)) (ha : rlA M f a) : CI d 209 [vR 44, vI (nI r), vI a, vI S] (hU g I J) K X ↔ K (iZ (rsd t a)) (hU g I J) := by
  obtain ⟨mf, ⟨f6, r60⟩, c20, n16, e53, e81, e79⟩ := e
  refine CI_iff fun K X w => m209 ?_
  unfold rsd at w
  rcases rl_rng ha c20 with ea | ea
  · rw [if_pos ea] at w
    simp only [ea]
    exact ⟨fun _ => w, fun c => absurd trivial c⟩
  · have z1 : ¬ a.toInt = -1 := by omega
    rw [if_neg z1, iZ_toInt] at w
    generalize hk : a.toInt.toNat = k at *
    have haa : a = nI k := by rw [← hk]; exact ti_nat ea.1
    have hkI : (nI k).toInt = k := ti_n (by omega)
    have zk : (k : Int) < 20 := by omega
    have hix : (20 : Int32) * nI r + nI k = nI (20 * r + k) := by rw [show (20 : Int32) = nI 20 from rfl, nI_mul, nI_add]
    have hxI : (nI (20 * r + k)).toInt = ((20 * r + k : Nat) : Int) := ti_n (by omega)
    have zx : ((20 * r + k : Nat) : Int) < 1200 := by omega
    subst haa
    have z1' : ¬ (k : Int) = -1 := by omega
    simp only [↓forall_eq, ↓inB_iff, gK_hU, gL_hU, gR_hU, gIh, gJh, pI_hU, pJ_hU, hU_hU, uI_app, uJ_app, and_true, true_and, and_false, false_and, and_self, true_implies, false_implies, not_true, not_false_iff, if_true, if_false, eq_self, Nat.reduceLeDiff, Nat.reduceEqDiff, reduceCtorEq, i32c, ti0, ti1, tiM, Int.natCast_nonneg, Int.reduceEq, Int.reduceLE, Int.reduceLT, Int.reduceNeg, tl_i, Int32.reduceToInt, Int64.reduceToInt, tiA, tlM6, Int.toNat_natCast, natc, nI_1, Int.zero_sub, implies_true, not_false_eq_true, mf.1, mr_55 mf, mk_79 mf, ml_79 mf, mr_61 mf, mk_85 mf, ml_85 mf, hkI, z1', sh_bit (show k < 32 by omega), bI1, zk, hix, hxI, zx, s 79 (by decide) (by decide), e79 k (by omega)]
    obtain ⟨a1, a2⟩ := ag k (by omega)
    refine ⟨fun c => ?_, fun c => ?_⟩
    · rw [a1 c]; exact w
    · rw [← a2 (by cases hb : gB S k; rfl; exact absurd hb c)]; exact w
theorem tIn_ag (i : tIn M f (gB S) it t) (v : ∀ i, i < n → gB S i = true → I 85 i = t i) : tAg S it t I n := fun k hk => ⟨fun q => v k hk q, fun q => (i k).2 q⟩
/-- from a rule on to what follows the passes -/
theorem m_pass {K : Int32 → aH → Prop} (e : edM g M f r it) (ev : edV M f (gB S) it) : ∀ (m : Nat) (n p q : Nat) (t : Nat → Int32) (b : Bool) (I : Nat → Nat → Int32), q + m = 12 → p + n = nrM M f → tFr M I → tIn M f (gB S) it t → (∀ i, i < cnM M f → gB S i = true → I 85 i = t i) →
    (∀ I1, tFr M I1 → (∀ c, c ≠ 85 → I1 c = I c) → match psG M f (gB S) n p t b with | none => K 0 (hU g I1 J) | some (t1, b1) => match (if b1 = true then ftG M f (gB S) m t1 else some t1) with | none => K 0 (hU g I1 J) | some t2 => (∀ i, i < cnM M f → gB S i = true → I1 85 i = t2 i) → K 1 (hU g I1 J)) → Wp (d + 1) 210 (74, [some (vR 44), some (vI (nI r)), some (vI S), some (vI (nI f)), some (vI (bI b)), some (vI (nI q)), some (vI (nI p)), none, none, none, none], [], hU g I J) (RI K X) := by
  have e0 := e
  obtain ⟨mf, ⟨f6, r60⟩, c20, n16, e53, e81, e79⟩ := e
  have hfI : (nI f).toInt = f := ti_n (by omega)
  have zf : (f : Int) < 6 := by omega
  have nI1 : (nI (nrM M f)).toInt = (nrM M f : Nat) := ti_n (by omega)
  intro m
  induction m with
  | zero =>
    intro n
    induction n with
    | zero =>
      intro p q t b I hq hp s i v kk
      have hpn : p = nrM M f := by omega
      subst hpn
      have hq : q = 12 := by omega
      subst hq
      have kk := kk I s (fun _ _ => rfl)
      rw [psG] at kk
      dsimp only at kk
      refine w210_74 ?_
      simp only [↓forall_eq, ↓inB_iff, gK_hU, gL_hU, gR_hU, gIh, gJh, pI_hU, pJ_hU, hU_hU, uI_app, uJ_app, and_true, true_and, and_false, false_and, and_self, true_implies, false_implies, not_true, not_false_iff, if_true, if_false, eq_self, Nat.reduceLeDiff, Nat.reduceEqDiff, reduceCtorEq, i32c, ti0, ti1, tiM, Int.natCast_nonneg, Int.reduceEq, Int.reduceLE, Int.reduceLT, Int.reduceNeg, tl_i, Int32.reduceToInt, Int64.reduceToInt, tiA, tlM6, Int.toNat_natCast, natc, nI_1, Int.zero_sub, implies_true, not_false_eq_true, mf.1, mr_15 mf, mk_53 mf, ml_53 mf, mr_18 mf, mk_56 mf, ml_56 mf, mr_19 mf, mk_57 mf, ml_57 mf, mr_57 mf, mk_81 mf, ml_81 mf, mr_58 mf, mk_82 mf, ml_82 mf, mr_59 mf, mk_83 mf, ml_83 mf, mr_60 mf, mk_84 mf, ml_84 mf, mr_61 mf, mk_85 mf, ml_85 mf, hfI, zf, s 81 (by decide) (by decide), e81, Int.lt_irrefl]
      refine w210_51 ?_
      simp only [↓forall_eq, ↓inB_iff, gK_hU, gL_hU, gR_hU, gIh, gJh, pI_hU, pJ_hU, hU_hU, uI_app, uJ_app, and_true, true_and, and_false, false_and, and_self, true_implies, false_implies, not_true, not_false_iff, if_true, if_false, eq_self, Nat.reduceLeDiff, Nat.reduceEqDiff, reduceCtorEq, i32c, ti0, ti1, tiM, Int.natCast_nonneg, Int.reduceEq, Int.reduceLE, Int.reduceLT, Int.reduceNeg, tl_i, Int32.reduceToInt, Int64.reduceToInt, tiA, tlM6, Int.toNat_natCast, natc, nI_1, Int.zero_sub, implies_true, not_false_eq_true, mf.1, mr_15 mf, mk_53 mf, ml_53 mf, mr_18 mf, mk_56 mf, ml_56 mf, mr_19 mf, mk_57 mf, ml_57 mf, mr_57 mf, mk_81 mf, ml_81 mf, mr_58 mf, mk_82 mf, ml_82 mf, mr_59 mf, mk_83 mf, ml_83 mf, mr_60 mf, mk_84 mf, ml_84 mf, mr_61 mf, mk_85 mf, ml_85 mf, bI0]
      cases b
      · rw [if_neg (by decide)] at kk
        exact ⟨fun _ => kk v, fun c => absurd rfl c⟩
      · rw [if_pos rfl, ftG] at kk
        exact ⟨fun c => (by cases c), fun _ => ⟨fun _ => kk, fun c => absurd (by decide) c⟩⟩
    | succ n ih =>
      intro p q t b I hq hp s i v kk
      have hpI : (nI p).toInt = p := ti_n (by omega)
      have hlt : (p : Int) < (nrM M f : Nat) := by omega
      have hr : p < nrM M f := by omega
      have hix : (16 : Int32) * nI f + nI p = nI (16 * f + p) := by rw [show (16 : Int32) = nI 16 from rfl, nI_mul, nI_add]
      have hxI : (nI (16 * f + p)).toInt = ((16 * f + p : Nat) : Int) := ti_n (by omega)
      have zx : ((16 * f + p : Nat) : Int) < 96 := by omega
      obtain ⟨l1, l2, l3, l4, l5⟩ := ev.1 p hr
      have ag := tIn_ag i v
      have bi := tIn_b ev i
      have s1 := rsd_b (it := t) (a := M 82 (16 * f + p)) l1 c20 bi
      have s2 := rsd_b (it := t) (a := M 83 (16 * f + p)) l2 c20 bi
      have z1 := ti_z (z := rsd t (M 82 (16 * f + p))) (by omega) (by omega)
      have z2 := ti_z (z := rsd t (M 83 (16 * f + p))) (by omega) (by omega)
      have z3 : (iZ (rsd t (M 82 (16 * f + p))) - iZ (rsd t (M 83 (16 * f + p)))).toInt = rsd t (M 82 (16 * f + p)) - rsd t (M 83 (16 * f + p)) := by rw [ti_sub (by rw [z1, z2]; omega) (by rw [z1, z2]; omega), z1, z2]
      refine w210_74 ?_
      simp only [↓forall_eq, ↓inB_iff, gK_hU, gL_hU, gR_hU, gIh, gJh, pI_hU, pJ_hU, hU_hU, uI_app, uJ_app, and_true, true_and, and_false, false_and, and_self, true_implies, false_implies, not_true, not_false_iff, if_true, if_false, eq_self, Nat.reduceLeDiff, Nat.reduceEqDiff, reduceCtorEq, i32c, ti0, ti1, tiM, Int.natCast_nonneg, Int.reduceEq, Int.reduceLE, Int.reduceLT, Int.reduceNeg, tl_i, Int32.reduceToInt, Int64.reduceToInt, tiA, tlM6, Int.toNat_natCast, natc, nI_1, Int.zero_sub, implies_true, not_false_eq_true, mf.1, mr_15 mf, mk_53 mf, ml_53 mf, mr_18 mf, mk_56 mf, ml_56 mf, mr_19 mf, mk_57 mf, ml_57 mf, mr_57 mf, mk_81 mf, ml_81 mf, mr_58 mf, mk_82 mf, ml_82 mf, mr_59 mf, mk_83 mf, ml_83 mf, mr_60 mf, mk_84 mf, ml_84 mf, mr_61 mf, mk_85 mf, ml_85 mf, hfI, zf, s 81 (by decide) (by decide), e81, hpI, nI1, hlt, hix, hxI, zx, s 82 (by decide) (by decide), s 83 (by decide) (by decide), s 84 (by decide) (by decide), ↓side_br e0 s ag l1, ↓side_br e0 s ag l2, z1, z2, z3]
      rw [psG] at kk
      have kn : ¬ 0 < rxs M f t p → Wp (d + 1) 210 (74, [some (vR 44), some (vI (nI r)), some (vI S), some (vI (nI f)), some (vI (bI b)), some (vI (nI q)), some (vI (nI (p + 1))), none, none, none, none], [], hU g I J) (RI K X) := fun hx => by
        rw [if_neg hx] at kk
        exact ih (p + 1) q t b I hq (by omega) s i v kk
      refine ⟨fun c1 => kn ?_, fun c1 => ⟨fun c2 => kn ?_, fun c2 => ⟨fun c3 => ?_, fun c3 => kn ?_⟩⟩⟩
      · unfold rxs; rw [if_pos (Or.inl c1)]; omega
      · unfold rxs; rw [if_pos (Or.inr c2)]; omega
      · have hrx : rxs M f t p = rsd t (M 82 (16 * f + p)) - rsd t (M 83 (16 * f + p)) - (M 84 (16 * f + p)).toInt := by unfold rxs; rw [if_neg (by omega)]
        have hx : 0 < rxs M f t p := by rw [hrx]; omega
        rw [if_pos hx] at kk
        refine ⟨fun ca => ?_, fun ca => ?_⟩
        · rw [if_pos (Or.inl ca)] at kk; exact kk I s (fun _ _ => rfl)
        · have ea := (rl_rng l1 c20).resolve_left ca
          generalize ha : (rA M f p).toInt.toNat = a at *
          have haa : M 82 (16 * f + p) = nI a := by rw [← ha]; exact ti_nat ea.1
          have haI : (nI a).toInt = a := ti_n (by have := ea.2.1; have h9 := congrArg Int32.toInt haa; omega)
          have a20 : a < 20 := by have := congrArg Int32.toInt haa; omega
          have acn : a < cnM M f := by have := congrArg Int32.toInt haa; omega
          have za : (a : Int) < 20 := by omega
          have hix2 : (20 : Int32) * nI f + nI a = nI (20 * f + a) := by rw [show (20 : Int32) = nI 20 from rfl, nI_mul, nI_add]
          have hxI2 : (nI (20 * f + a)).toInt = ((20 * f + a : Nat) : Int) := ti_n (by omega)
          have zx2 : ((20 * f + a : Nat) : Int) < 120 := by omega
          have hsa : rsd t (M 82 (16 * f + p)) = (t a).toInt := by unfold rsd; rw [if_neg ca]; exact congrArg (fun k => (t k).toInt) ha
          simp only [↓forall_eq, ↓inB_iff, gK_hU, gL_hU, gR_hU, gIh, gJh, pI_hU, pJ_hU, hU_hU, uI_app, uJ_app, and_true, true_and, and_false, false_and, and_self, true_implies, false_implies, not_true, not_false_iff, if_true, if_false, eq_self, Nat.reduceLeDiff, Nat.reduceEqDiff, reduceCtorEq, i32c, ti0, ti1, tiM, Int.natCast_nonneg, Int.reduceEq, Int.reduceLE, Int.reduceLT, Int.reduceNeg, tl_i, Int32.reduceToInt, Int64.reduceToInt, tiA, tlM6, Int.toNat_natCast, natc, nI_1, Int.zero_sub, implies_true, not_false_eq_true, mf.1, mr_15 mf, mk_53 mf, ml_53 mf, mr_18 mf, mk_56 mf, ml_56 mf, mr_19 mf, mk_57 mf, ml_57 mf, mr_57 mf, mk_81 mf, ml_81 mf, mr_58 mf, mk_82 mf, ml_82 mf, mr_59 mf, mk_83 mf, ml_83 mf, mr_60 mf, mk_84 mf, ml_84 mf, mr_61 mf, mk_85 mf, ml_85 mf, haa, sh_bit (show a < 32 by omega), bI0, haI, za, hix2, hxI2, zx2, uI_same, uI_ne, ne_eq, Nat.reduceEqDiff, not_false_eq_true, s 56 (by decide) (by decide)]
          refine ⟨fun cb => ?_, fun cb => ?_⟩
          · rw [if_pos (Or.inr (Or.inl cb))] at kk; exact kk I s (fun _ _ => rfl)
          · have hS : gB S a = true := bnf cb
            have hz : (iZ (rsd t (M 83 (16 * f + p))) + M 84 (16 * f + p)).toInt = (t a).toInt - rxs M f t p := by
              rw [ti_add (by rw [z2]; omega) (by rw [z2]; omega), z2, hrx, hsa]; omega
            rw [hz]
            refine ⟨fun c9 => ?_, fun c9 => ?_⟩
            · rw [if_pos (Or.inr (Or.inr c9))] at kk
              exact kk _ (tFr_u s) (fun c h9 => uI_ne _ _ _ h9)
            · have hb' : ¬ ((rA M f p).toInt = -1 ∨ gB S a = false ∨ (t a).toInt - rxs M f t p < loM M f a) := by
                rintro (q | q | q)
                · exact ca q
                · rw [hS] at q; cases q
                · exact c9 q
              have hb : ¬ ((rA M f p).toInt = -1 ∨ gB S (rA M f p).toInt.toNat = false ∨ (t (rA M f p).toInt.toNat).toInt - rxs M f t p < loM M f (rA M f p).toInt.toNat) := by
                rw [ha]; exact hb'
              rw [if_neg hb'] at kk
              obtain ⟨w1, -⟩ := low_in ev i hr hx hb
              refine ih (p + 1) q (lowR M f t p) true _ hq (by omega) (tFr_u s) w1 (fun i9 h9 q9 => ?_) (fun I1 s1 q1 => kk I1 s1 (fun c hc => (q1 c hc).trans (uI_ne _ _ _ hc)))
              have key : iZ (rsd t (M 83 (16 * f + p))) + M 84 (16 * f + p) = iZ ((t a).toInt - rxs M f t p) := ti_inj (by rw [hz, ti_z (by omega) (by omega)])
              unfold lowR upG
              rw [ha, uI_app, key]
              by_cases c8 : i9 = a
              · rw [if_pos ⟨rfl, c8⟩, if_pos c8]
              · rw [if_neg (fun q => c8 q.2), if_neg c8]; exact v i9 h9 q9
      · unfold rxs
        rw [if_neg (by omega)]; omega
  | succ m ihm =>
    intro n
    induction n with
    | zero =>
      intro p q t b I hq hp s i v kk
      have hpn : p = nrM M f := by omega
      subst hpn
      rw [psG] at kk
      dsimp only at kk
      have hq1 : (nI (q + 1)).toInt = ((q + 1 : Nat) : Int) := ti_n (by omega)
      have zq : ¬ (12 : Int) < ((q + 1 : Nat) : Int) := by omega
      refine w210_74 ?_
      simp only [↓forall_eq, ↓inB_iff, gK_hU, gL_hU, gR_hU, gIh, gJh, pI_hU, pJ_hU, hU_hU, uI_app, uJ_app, and_true, true_and, and_false, false_and, and_self, true_implies, false_implies, not_true, not_false_iff, if_true, if_false, eq_self, Nat.reduceLeDiff, Nat.reduceEqDiff, reduceCtorEq, i32c, ti0, ti1, tiM, Int.natCast_nonneg, Int.reduceEq, Int.reduceLE, Int.reduceLT, Int.reduceNeg, tl_i, Int32.reduceToInt, Int64.reduceToInt, tiA, tlM6, Int.toNat_natCast, natc, nI_1, Int.zero_sub, implies_true, not_false_eq_true, mf.1, mr_15 mf, mk_53 mf, ml_53 mf, mr_18 mf, mk_56 mf, ml_56 mf, mr_19 mf, mk_57 mf, ml_57 mf, mr_57 mf, mk_81 mf, ml_81 mf, mr_58 mf, mk_82 mf, ml_82 mf, mr_59 mf, mk_83 mf, ml_83 mf, mr_60 mf, mk_84 mf, ml_84 mf, mr_61 mf, mk_85 mf, ml_85 mf, hfI, zf, s 81 (by decide) (by decide), e81, Int.lt_irrefl]
      refine w210_51 ?_
      simp only [↓forall_eq, ↓inB_iff, gK_hU, gL_hU, gR_hU, gIh, gJh, pI_hU, pJ_hU, hU_hU, uI_app, uJ_app, and_true, true_and, and_false, false_and, and_self, true_implies, false_implies, not_true, not_false_iff, if_true, if_false, eq_self, Nat.reduceLeDiff, Nat.reduceEqDiff, reduceCtorEq, i32c, ti0, ti1, tiM, Int.natCast_nonneg, Int.reduceEq, Int.reduceLE, Int.reduceLT, Int.reduceNeg, tl_i, Int32.reduceToInt, Int64.reduceToInt, tiA, tlM6, Int.toNat_natCast, natc, nI_1, Int.zero_sub, implies_true, not_false_eq_true, mf.1, mr_15 mf, mk_53 mf, ml_53 mf, mr_18 mf, mk_56 mf, ml_56 mf, mr_19 mf, mk_57 mf, ml_57 mf, mr_57 mf, mk_81 mf, ml_81 mf, mr_58 mf, mk_82 mf, ml_82 mf, mr_59 mf, mk_83 mf, ml_83 mf, mr_60 mf, mk_84 mf, ml_84 mf, mr_61 mf, mk_85 mf, ml_85 mf, bI0, hq1, zq]
      cases b
      · rw [if_neg (by decide)] at kk
        exact ⟨fun _ => kk I s (fun _ _ => rfl) v, fun c => absurd rfl c⟩
      · rw [if_pos rfl, ftG] at kk
        refine ⟨fun c => (by cases c), fun _ => ?_⟩
        refine ihm (nrM M f) 0 (q + 1) t false I (by omega) (by omega) s i v (fun I1 s1 q1 => ?_)
        have k1 := kk I1 s1 q1
        cases hp : psG M f (gB S) (nrM M f) 0 t false with
        | none => rw [hp] at k1; exact k1
        | some tb => rw [hp] at k1; exact k1
    | succ n ih =>
      intro p q t b I hq hp s i v kk
      have hpI : (nI p).toInt = p := ti_n (by omega)
      have hlt : (p : Int) < (nrM M f : Nat) := by omega
      have hr : p < nrM M f := by omega
      have hix : (16 : Int32) * nI f + nI p = nI (16 * f + p) := by rw [show (16 : Int32) = nI 16 from rfl, nI_mul, nI_add]
      have hxI : (nI (16 * f + p)).toInt = ((16 * f + p : Nat) : Int) := ti_n (by omega)
      have zx : ((16 * f + p : Nat) : Int) < 96 := by omega
      obtain ⟨l1, l2, l3, l4, l5⟩ := ev.1 p hr
      have ag := tIn_ag i v
      have bi := tIn_b ev i
      have s1 := rsd_b (it := t) (a := M 82 (16 * f + p)) l1 c20 bi
      have s2 := rsd_b (it := t) (a := M 83 (16 * f + p)) l2 c20 bi
      have z1 := ti_z (z := rsd t (M 82 (16 * f + p))) (by omega) (by omega)
      have z2 := ti_z (z := rsd t (M 83 (16 * f + p))) (by omega) (by omega)
      have z3 : (iZ (rsd t (M 82 (16 * f + p))) - iZ (rsd t (M 83 (16 * f + p)))).toInt = rsd t (M 82 (16 * f + p)) - rsd t (M 83 (16 * f + p)) := by rw [ti_sub (by rw [z1, z2]; omega) (by rw [z1, z2]; omega), z1, z2]
      refine w210_74 ?_
      simp only [↓forall_eq, ↓inB_iff, gK_hU, gL_hU, gR_hU, gIh, gJh, pI_hU, pJ_hU, hU_hU, uI_app, uJ_app, and_true, true_and, and_false, false_and, and_self, true_implies, false_implies, not_true, not_false_iff, if_true, if_false, eq_self, Nat.reduceLeDiff, Nat.reduceEqDiff, reduceCtorEq, i32c, ti0, ti1, tiM, Int.natCast_nonneg, Int.reduceEq, Int.reduceLE, Int.reduceLT, Int.reduceNeg, tl_i, Int32.reduceToInt, Int64.reduceToInt, tiA, tlM6, Int.toNat_natCast, natc, nI_1, Int.zero_sub, implies_true, not_false_eq_true, mf.1, mr_15 mf, mk_53 mf, ml_53 mf, mr_18 mf, mk_56 mf, ml_56 mf, mr_19 mf, mk_57 mf, ml_57 mf, mr_57 mf, mk_81 mf, ml_81 mf, mr_58 mf, mk_82 mf, ml_82 mf, mr_59 mf, mk_83 mf, ml_83 mf, mr_60 mf, mk_84 mf, ml_84 mf, mr_61 mf, mk_85 mf, ml_85 mf, hfI, zf, s 81 (by decide) (by decide), e81, hpI, nI1, hlt, hix, hxI, zx, s 82 (by decide) (by decide), s 83 (by decide) (by decide), s 84 (by decide) (by decide), ↓side_br e0 s ag l1, ↓side_br e0 s ag l2, z1, z2, z3]
      rw [psG] at kk
      have kn : ¬ 0 < rxs M f t p → Wp (d + 1) 210 (74, [some (vR 44), some (vI (nI r)), some (vI S), some (vI (nI f)), some (vI (bI b)), some (vI (nI q)), some (vI (nI (p + 1))), none, none, none, none], [], hU g I J) (RI K X) := fun hx => by
        rw [if_neg hx] at kk
        exact ih (p + 1) q t b I hq (by omega) s i v kk
      refine ⟨fun c1 => kn ?_, fun c1 => ⟨fun c2 => kn ?_, fun c2 => ⟨fun c3 => ?_, fun c3 => kn ?_⟩⟩⟩
      · unfold rxs; rw [if_pos (Or.inl c1)]; omega
      · unfold rxs; rw [if_pos (Or.inr c2)]; omega
      · have hrx : rxs M f t p = rsd t (M 82 (16 * f + p)) - rsd t (M 83 (16 * f + p)) - (M 84 (16 * f + p)).toInt := by unfold rxs; rw [if_neg (by omega)]
        have hx : 0 < rxs M f t p := by rw [hrx]; omega
        rw [if_pos hx] at kk
        refine ⟨fun ca => ?_, fun ca => ?_⟩
        · rw [if_pos (Or.inl ca)] at kk; exact kk I s (fun _ _ => rfl)
        · have ea := (rl_rng l1 c20).resolve_left ca
          generalize ha : (rA M f p).toInt.toNat = a at *
          have haa : M 82 (16 * f + p) = nI a := by rw [← ha]; exact ti_nat ea.1
          have haI : (nI a).toInt = a := ti_n (by have := ea.2.1; have h9 := congrArg Int32.toInt haa; omega)
          have a20 : a < 20 := by have := congrArg Int32.toInt haa; omega
          have acn : a < cnM M f := by have := congrArg Int32.toInt haa; omega
          have za : (a : Int) < 20 := by omega
          have hix2 : (20 : Int32) * nI f + nI a = nI (20 * f + a) := by rw [show (20 : Int32) = nI 20 from rfl, nI_mul, nI_add]
          have hxI2 : (nI (20 * f + a)).toInt = ((20 * f + a : Nat) : Int) := ti_n (by omega)
          have zx2 : ((20 * f + a : Nat) : Int) < 120 := by omega
          have hsa : rsd t (M 82 (16 * f + p)) = (t a).toInt := by unfold rsd; rw [if_neg ca]; exact congrArg (fun k => (t k).toInt) ha
          simp only [↓forall_eq, ↓inB_iff, gK_hU, gL_hU, gR_hU, gIh, gJh, pI_hU, pJ_hU, hU_hU, uI_app, uJ_app, and_true, true_and, and_false, false_and, and_self, true_implies, false_implies, not_true, not_false_iff, if_true, if_false, eq_self, Nat.reduceLeDiff, Nat.reduceEqDiff, reduceCtorEq, i32c, ti0, ti1, tiM, Int.natCast_nonneg, Int.reduceEq, Int.reduceLE, Int.reduceLT, Int.reduceNeg, tl_i, Int32.reduceToInt, Int64.reduceToInt, tiA, tlM6, Int.toNat_natCast, natc, nI_1, Int.zero_sub, implies_true, not_false_eq_true, mf.1, mr_15 mf, mk_53 mf, ml_53 mf, mr_18 mf, mk_56 mf, ml_56 mf, mr_19 mf, mk_57 mf, ml_57 mf, mr_57 mf, mk_81 mf, ml_81 mf, mr_58 mf, mk_82 mf, ml_82 mf, mr_59 mf, mk_83 mf, ml_83 mf, mr_60 mf, mk_84 mf, ml_84 mf, mr_61 mf, mk_85 mf, ml_85 mf, haa, sh_bit (show a < 32 by omega), bI0, haI, za, hix2, hxI2, zx2, uI_same, uI_ne, ne_eq, Nat.reduceEqDiff, not_false_eq_true, s 56 (by decide) (by decide)]
          refine ⟨fun cb => ?_, fun cb => ?_⟩
          · rw [if_pos (Or.inr (Or.inl cb))] at kk; exact kk I s (fun _ _ => rfl)
          · have hS : gB S a = true := bnf cb
            have hz : (iZ (rsd t (M 83 (16 * f + p))) + M 84 (16 * f + p)).toInt = (t a).toInt - rxs M f t p := by
              rw [ti_add (by rw [z2]; omega) (by rw [z2]; omega), z2, hrx, hsa]; omega
            rw [hz]
            refine ⟨fun c9 => ?_, fun c9 => ?_⟩
            · rw [if_pos (Or.inr (Or.inr c9))] at kk
              exact kk _ (tFr_u s) (fun c h9 => uI_ne _ _ _ h9)
            · have hb' : ¬ ((rA M f p).toInt = -1 ∨ gB S a = false ∨ (t a).toInt - rxs M f t p < loM M f a) := by
                rintro (q | q | q)
                · exact ca q
                · rw [hS] at q; cases q
                · exact c9 q
              have hb : ¬ ((rA M f p).toInt = -1 ∨ gB S (rA M f p).toInt.toNat = false ∨ (t (rA M f p).toInt.toNat).toInt - rxs M f t p < loM M f (rA M f p).toInt.toNat) := by
                rw [ha]; exact hb'
              rw [if_neg hb'] at kk
              obtain ⟨w1, -⟩ := low_in ev i hr hx hb
              refine ih (p + 1) q (lowR M f t p) true _ hq (by omega) (tFr_u s) w1 (fun i9 h9 q9 => ?_) (fun I1 s1 q1 => kk I1 s1 (fun c hc => (q1 c hc).trans (uI_ne _ _ _ hc)))
              have key : iZ (rsd t (M 83 (16 * f + p))) + M 84 (16 * f + p) = iZ ((t a).toInt - rxs M f t p) := ti_inj (by rw [hz, ti_z (by omega) (by omega)])
              unfold lowR upG
              rw [ha, uI_app, key]
              by_cases c8 : i9 = a
              · rw [if_pos ⟨rfl, c8⟩, if_pos c8]
              · rw [if_neg (fun q => c8 q.2), if_neg c8]; exact v i9 h9 q9
      · unfold rxs
        rw [if_neg (by omega)]; omega
theorem m_fits {K : Int32 → aH → Prop} (e : edM g M f r it) (ev : edV M f (gB S) it) (s : tFr M I) (hf : ∀ K X, CI d 175 [vR 44, vI (nI r)] (hU g I J) K X ↔ K (nI f) (hU g I J)) (kk : ∀ I1, tFr M I1 → (∀ c, c ≠ 85 → I1 c = I c) → (∀ t1, ftG M f (gB S) 12 (tr0 M f (gB S) it) = some t1 → ∀ i, i < cnM M f → gB S i = true → I1 85 i = t1 i) → K (bI (fitB M f it (gB S))) (hU g I1 J)) : CI (d + 1) 210 [vR 44, vI (nI r), vI S] (hU g I J) K X := by
  have e0 := e
  obtain ⟨mf, ⟨f6, r60⟩, c20, n16, e53, e81, e79⟩ := e
  have hfI : (nI f).toInt = f := ti_n (by omega)
  have zf : (f : Int) < 6 := by omega
  have hcI : (nI (cnM M f)).toInt = (cnM M f : Nat) := ti_n (by omega)
  have main : ∀ (n p : Nat) (I2 : Nat → Nat → Int32), p + n = cnM M f → tFr M I2 → (∀ c, c ≠ 85 → I2 c = I c) → (∀ i, i < p → I2 85 i = M 57 (20 * f + i)) → Wp (d + 1) 210 (9, [some (vR 44), some (vI (nI r)), some (vI S), some (vI (nI f)), some (vI (nI p)), none, none, none, none, none, none], [], hU g I2 J) (RI K X) := by
    intro n
    induction n with
    | zero =>
      intro p I2 hp s2 q2 v2
      have hpc : p = cnM M f := by omega
      subst hpc
      refine w210_9 ?_
      simp only [↓forall_eq, ↓inB_iff, gK_hU, gL_hU, gR_hU, gIh, gJh, pI_hU, pJ_hU, hU_hU, uI_app, uJ_app, and_true, true_and, and_false, false_and, and_self, true_implies, false_implies, not_true, not_false_iff, if_true, if_false, eq_self, Nat.reduceLeDiff, Nat.reduceEqDiff, reduceCtorEq, i32c, ti0, ti1, tiM, Int.natCast_nonneg, Int.reduceEq, Int.reduceLE, Int.reduceLT, Int.reduceNeg, tl_i, Int32.reduceToInt, Int64.reduceToInt, tiA, tlM6, Int.toNat_natCast, natc, nI_1, Int.zero_sub, implies_true, not_false_eq_true, mf.1, mr_15 mf, mk_53 mf, ml_53 mf, mr_18 mf, mk_56 mf, ml_56 mf, mr_19 mf, mk_57 mf, ml_57 mf, mr_57 mf, mk_81 mf, ml_81 mf, mr_58 mf, mk_82 mf, ml_82 mf, mr_59 mf, mk_83 mf, ml_83 mf, mr_60 mf, mk_84 mf, ml_84 mf, mr_61 mf, mk_85 mf, ml_85 mf, hfI, zf, s2 53 (by decide) (by decide), e53, Int.lt_irrefl]
      refine w210_51 ?_
      have t1 : ¬ (1 : Int) = 0 := by decide
      have t2 : ¬ (12 : Int) < 1 := by decide
      simp only [↓forall_eq, ↓inB_iff, gK_hU, gL_hU, gR_hU, gIh, gJh, pI_hU, pJ_hU, hU_hU, uI_app, uJ_app, and_true, true_and, and_false, false_and, and_self, true_implies, false_implies, not_true, not_false_iff, if_true, if_false, eq_self, Nat.reduceLeDiff, Nat.reduceEqDiff, reduceCtorEq, i32c, ti0, ti1, tiM, Int.natCast_nonneg, Int.reduceEq, Int.reduceLE, Int.reduceLT, Int.reduceNeg, tl_i, Int32.reduceToInt, Int64.reduceToInt, tiA, tlM6, Int.toNat_natCast, natc, nI_1, Int.zero_sub, implies_true, not_false_eq_true, mf.1, mr_15 mf, mk_53 mf, ml_53 mf, mr_18 mf, mk_56 mf, ml_56 mf, mr_19 mf, mk_57 mf, ml_57 mf, mr_57 mf, mk_81 mf, ml_81 mf, mr_58 mf, mk_82 mf, ml_82 mf, mr_59 mf, mk_83 mf, ml_83 mf, mr_60 mf, mk_84 mf, ml_84 mf, mr_61 mf, mk_85 mf, ml_85 mf, t1, t2, ti1, ti0]
      refine ⟨fun c => absurd c (by decide), fun _ => ?_⟩
      refine m_pass e0 ev 11 (nrM M f) 0 1 (tr0 M f (gB S) it) false I2 (by omega) (by omega) s2 (tIn_0 ev) (fun i hi hS => by rw [v2 i hi]; unfold tr0; rw [if_pos hS]) (fun I1 s1 q1 => ?_)
      have k1 := kk I1 s1 (fun c hc => (q1 c hc).trans (q2 c hc))
      unfold fitB at k1
      rw [ftG] at k1
      cases hp : psG M f (gB S) (nrM M f) 0 (tr0 M f (gB S) it) false with
      | none => rw [hp] at k1; exact k1 (fun t1 q => by cases q)
      | some tb =>
        obtain ⟨t3, b3⟩ := tb
        rw [hp] at k1
        dsimp only at k1 ⊢
        cases hq : (if b3 = true then ftG M f (gB S) 11 t3 else some t3) with
        | none => rw [hq] at k1; exact k1 (fun t1 q => by cases q)
        | some t4 => rw [hq] at k1; exact fun v => k1 (fun t1 q => by cases q; exact v)
    | succ n ih =>
      intro p I2 hp s2 q2 v2
      have hpI : (nI p).toInt = p := ti_n (by omega)
      have hlt : (p : Int) < (cnM M f : Nat) := by omega
      have z20 : (p : Int) < 20 := by omega
      have hix2 : (20 : Int32) * nI f + nI p = nI (20 * f + p) := by rw [show (20 : Int32) = nI 20 from rfl, nI_mul, nI_add]
      have hxI2 : (nI (20 * f + p)).toInt = ((20 * f + p : Nat) : Int) := ti_n (by omega)
      have zx2 : ((20 * f + p : Nat) : Int) < 120 := by omega
      refine w210_9 ?_
      simp only [↓forall_eq, ↓inB_iff, gK_hU, gL_hU, gR_hU, gIh, gJh, pI_hU, pJ_hU, hU_hU, uI_app, uJ_app, and_true, true_and, and_false, false_and, and_self, true_implies, false_implies, not_true, not_false_iff, if_true, if_false, eq_self, Nat.reduceLeDiff, Nat.reduceEqDiff, reduceCtorEq, i32c, ti0, ti1, tiM, Int.natCast_nonneg, Int.reduceEq, Int.reduceLE, Int.reduceLT, Int.reduceNeg, tl_i, Int32.reduceToInt, Int64.reduceToInt, tiA, tlM6, Int.toNat_natCast, natc, nI_1, Int.zero_sub, implies_true, not_false_eq_true, mf.1, mr_15 mf, mk_53 mf, ml_53 mf, mr_18 mf, mk_56 mf, ml_56 mf, mr_19 mf, mk_57 mf, ml_57 mf, mr_57 mf, mk_81 mf, ml_81 mf, mr_58 mf, mk_82 mf, ml_82 mf, mr_59 mf, mk_83 mf, ml_83 mf, mr_60 mf, mk_84 mf, ml_84 mf, mr_61 mf, mk_85 mf, ml_85 mf, hfI, zf, s2 53 (by decide) (by decide), s2 57 (by decide) (by decide), e53, hpI, hcI, hlt, hix2, hxI2, zx2, z20]
      refine ih (p + 1) _ (by omega) (tFr_u s2) (fun c hc => (uI_ne _ _ _ hc).trans (q2 c hc)) (fun i hi => ?_)
      rw [uI_app]
      by_cases c : i = p
      · rw [if_pos ⟨rfl, c⟩, c]
      · rw [if_neg (fun q => c q.2)]; exact v2 i (by omega)
  refine m210 ?_
  simp only [↓forall_eq, ↓inB_iff, gK_hU, gL_hU, gR_hU, gIh, gJh, pI_hU, pJ_hU, hU_hU, uI_app, uJ_app, and_true, true_and, and_false, false_and, and_self, true_implies, false_implies, not_true, not_false_iff, if_true, if_false, eq_self, Nat.reduceLeDiff, Nat.reduceEqDiff, reduceCtorEq, i32c, ti0, ti1, tiM, Int.natCast_nonneg, Int.reduceEq, Int.reduceLE, Int.reduceLT, Int.reduceNeg, tl_i, Int32.reduceToInt, Int64.reduceToInt, tiA, tlM6, Int.toNat_natCast, natc, nI_1, Int.zero_sub, implies_true, not_false_eq_true, mf.1, mr_15 mf, mk_53 mf, ml_53 mf, mr_18 mf, mk_56 mf, ml_56 mf, mr_19 mf, mk_57 mf, ml_57 mf, mr_57 mf, mk_81 mf, ml_81 mf, mr_58 mf, mk_82 mf, ml_82 mf, mr_59 mf, mk_83 mf, ml_83 mf, mr_60 mf, mk_84 mf, ml_84 mf, mr_61 mf, mk_85 mf, ml_85 mf, ↓hf]
  exact main (cnM M f) 0 I (by omega) s (fun _ _ => rfl) (fun i hi => by omega)
end FTM
