/-! FORM: the whole of the class -/
section CFM
variable {d L nf : Nat} {h : aH} {A o : Nat → Nat} {X : Nat → aH → Prop} {B : Nat → Int32} {K : Int32 → aH → Prop}
def sgF (j : Nat) : Nat := if j = 0 then 0 else if j ≤ 2 then j + 9 else j - 2
def tvF9 (k : Nat) : Nat := if k = 0 then 0 else if k ≤ 9 then k + 2 else k - 9
theorem sgF_ok : ∀ j, j < 12 → sgF j < 12 ∧ tvF9 (sgF j) = j := by
  intro j hj
  unfold sgF
  by_cases c0 : j = 0
  · rw [if_pos c0]; unfold tvF9; rw [if_pos rfl]; omega
  · rw [if_neg c0]
    by_cases c2 : j ≤ 2
    · rw [if_pos c2]; unfold tvF9; rw [if_neg (by omega), if_neg (by omega)]; omega
    · rw [if_neg c2]; unfold tvF9; rw [if_neg (by omega), if_pos (by omega)]; omega
def st0 : Nat → StD := fun _ => (0, (0, 0, 0, []), [])
/-- the heap that is read in: the reader knows the form -/
theorem pS_new {g : aH} (f : CF h) (n : newF h g L) (l12 : L ≤ 1200) : pS (pR g 19 1 (gN h)) (fun j => gN h + sgF j) L := by
  have hN := f.1
  obtain ⟨k, ⟨gn, gt⟩, ⟨k0, k1, k2, k3, k4, k5, k6, k7, k8, k9, k10, k11⟩, ⟨l1, l2, l3, l4, l5, l6, l7, l9, l10, l11⟩, ⟨r0, r1, r2, r3, r4, r5, r6, r7, r8, r9, r82⟩, -, -⟩ := n
  have cg : CF g := CF_keeps f k (by simp)
  have cH : CF (pR g 19 1 (gN h)) := by
    refine CF_of cg (by rw [gN_pR]; omega) (fun a _ => by rw [gK_pR, gL_pR]; exact ⟨rfl, rfl⟩) (fun q hq => ?_)
    have hq2 : ¬ (q.1 = 19 ∧ q.2.1 = 1) := (show ∀ q ∈ cR, ¬ (q.1 = 19 ∧ q.2.1 = 1) by decide) q hq
    rw [gR_pR, if_neg hq2]
  have ne : ∀ x j, gR (pR g 19 1 (gN h)) (gN h + x) j = gR g (gN h + x) j := fun x j => by rw [gR_pR, if_neg (by omega)]
  have n0 : ∀ j, gR (pR g 19 1 (gN h)) (gN h) j = gR g (gN h) j := fun j => by rw [gR_pR, if_neg (by omega)]
  have s0 : sgF 0 = 0 := rfl
  have s1 : sgF 1 = 10 := rfl
  have s2 : sgF 2 = 11 := rfl
  have s3 : sgF 3 = 1 := rfl
  have s4 : sgF 4 = 2 := rfl
  have s5 : sgF 5 = 3 := rfl
  have s6 : sgF 6 = 4 := rfl
  have s7 : sgF 7 = 5 := rfl
  have s8 : sgF 8 = 6 := rfl
  have s9 : sgF 9 = 7 := rfl
  unfold pS pE
  simp only [s0, s1, s2, s3, s4, s5, s6, s7, s8, s9, Nat.add_zero, gK_pR, gL_pR, n0]
  refine ⟨⟨cH, ⟨k0, by rw [gR_pR, if_pos ⟨rfl, rfl⟩], r0, r1, r6⟩, ⟨k10, l10⟩, ⟨k11, l11⟩, ⟨k5, l5⟩, by omega, by omega, l12⟩, ⟨r2, r3, r4, r5, r7, r8⟩, ⟨⟨k1, l1⟩, ⟨k2, l2⟩, ⟨k3, l3⟩, ⟨k4, l4⟩, ⟨k6, l6⟩, ⟨k7, l7⟩⟩, fun j _ => by omega, fun i j hi hj e => ?_⟩
  have e2 : sgF i = sgF j := by omega
  rw [← (sgF_ok i hi).2, e2, (sgF_ok j hj).2]
/-- reading a text into a form just made -/
theorem c_reads {g : aH} (f : CF h) (n : newF h g L) (tp : tpC (gI g) B L)
    (ok : ∀ cnt w st q I' J', fmF B L 20 0 st0 0 = (some (cnt, st), q) → clW (fun j => gN h + sgF j) I' J' st cnt w → w ≤ L → 1 ≤ cnt → cnt ≤ 20 → stA st cnt ≤ 10 → frS (fun j => gN h + sgF j) (gI g) I' (gJ g) J' → K (-1) (hU (pR g 19 1 (gN h)) I' J'))
    (no : ∀ q I' J', fmF B L 20 0 st0 0 = (none, q) → frS (fun j => gN h + sgF j) (gI g) I' (gJ g) J' → q ≤ L → K (nI (lxS B L q)) (hU (pR g 19 1 (gN h)) I' J')) : CI (d + 7) 90 [vR 19, vR (gN h)] g K X := by
  have l12 := tp.2.1
  have S := pS_new f n l12
  have hN := f.1
  have f1 := S.1.1
  obtain ⟨k, -, -, -, -, ⟨i10, i11, i12, -, -, -⟩, iz⟩ := n
  have cg : CF g := CF_keeps f k (by simp)
  refine m90 ⟨by decide, ck_19 cg, fun h0 e0 => ?_⟩
  subst e0
  refine ⟨by rw [cr_19_0 f1]; decide, by rw [cr_19_0 f1]; exact ck_17 f1, ?_⟩
  rw [cr_19_0 f1]
  have eta : pR g 19 1 (gN h) = hU (pR g 19 1 (gN h)) (gI g) (gJ g) := by
    conv => lhs; rw [← hU_eta (h := pR g 19 1 (gN h))]
    rw [show gI (pR g 19 1 (gN h)) = gI g from rfl, show gJ (pR g 19 1 (gN h)) = gJ g from rfl]
  rw [eta]
  refine m72 ?_
  simp only [↓forall_eq, ↓inB_iff, gK_hU, gL_hU, gR_hU, gIh, gJh, pI_hU, pJ_hU, hU_hU, uI_app, uJ_app, and_true, true_and, and_false, false_and, and_self, true_implies, false_implies, not_true, not_false_iff, if_true, if_false, eq_self, Nat.reduceLeDiff, Nat.reduceEqDiff, reduceCtorEq, i32c, ti0, ti1, tiM, Int.natCast_nonneg, Int.reduceEq, Int.reduceLE, Int.reduceLT, Int.reduceNeg, tl_i, Int32.reduceToInt, Int64.reduceToInt, tiA, tlM6, Int.toNat_natCast, natc, nI_1, Int.zero_sub, implies_true, not_false_eq_true, ck_17 f1]
  have u0 : fT (gI g) (uI (gI g) 17 2 0) (gJ g) (gJ g) := fT_i fT_refl (by decide)
  refine c_adv (B := B) (L := L) (p := 0) f1 (tpC_fT tp u0) (by omega) (by simp only [↓forall_eq, ↓inB_iff, gK_hU, gL_hU, gR_hU, gIh, gJh, pI_hU, pJ_hU, hU_hU, uI_app, uJ_app, and_true, true_and, and_false, false_and, and_self, true_implies, false_implies, not_true, not_false_iff, if_true, if_false, eq_self, Nat.reduceLeDiff, Nat.reduceEqDiff, reduceCtorEq, i32c, ti0, ti1, tiM, Int.natCast_nonneg, Int.reduceEq, Int.reduceLE, Int.reduceLT, Int.reduceNeg, tl_i, Int32.reduceToInt, Int64.reduceToInt, tiA, tlM6, Int.toNat_natCast, natc, nI_1, Int.zero_sub, implies_true, not_false_eq_true]; rfl) (fun I1 J1 u1 a1 => ?_)
  have u := fT_tr u0 u1
  have ex : ∀ x, I1 (gN h + x) = gI g (gN h + x) := fun x => u.1 _ (by omega)
  have e0 : I1 (gN h) = gI g (gN h) := u.1 _ (by omega)
  have fr1 : frS (fun j => gN h + sgF j) (gI g) I1 (gJ g) J1 := ⟨fun a h1 _ _ => ⟨u.1 a h1, u.2.2 a h1⟩, u.2.1⟩
  refine c_read S 20 0 0 0 st0 I1 J1 rfl (tpC_fT tp u) a1 (by omega) ?_ (by omega) (by show 0 ≤ 10; omega) (fun cnt w st q I' J' hx c hw h1 h2 h3 fr2 => ok cnt w st q I' J' hx c hw h1 h2 h3 (frS_tr fr1 fr2)) (fun q I' J' hx fr2 hq => no q I' J' hx (frS_tr fr1 fr2) hq)
  refine ⟨⟨?_, ?_, ?_⟩, fun s hs => by omega, ?_, fun s _ _ => ⟨?_, ?_, ?_⟩⟩
  · show I1 (gN h + 0) 10 = 0
    rw [ex, Nat.add_zero]; exact i10
  · show I1 (gN h + 0) 11 = 0
    rw [ex, Nat.add_zero]; exact i11
  · show I1 (gN h + 0) 12 = 0
    rw [ex, Nat.add_zero]; exact i12
  · show I1 (gN h + 6) 0 = 0
    rw [ex]; exact (iz 0).2.2.2
  · show I1 (gN h + 2) s = 0
    rw [ex]; exact (iz s).1
  · show I1 (gN h + 3) s = 0
    rw [ex]; exact (iz s).2.1
  · show I1 (gN h + 4) s = 0
    rw [ex]; exact (iz s).2.2.1
end CFM
