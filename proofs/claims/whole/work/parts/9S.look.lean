/-! LOOKS: what one sees; the class's side -/
section LOK
variable {d nl nk nt np k R C : Nat} {h h1 h2 g : aH} {A A1 o o1 : Nat → Nat} {X : Nat → aH → Prop} {M M2 : Nat → Nat → Int32} {I : Nat → Nat → Int32} {J : Nat → Nat → Int64} {C9 : Nat → Prop} {a1 a2 a3 a4 rt mn : Int32}
/-- is it a hidden cell of the release -/
def hidC (M : Nat → Nat → Int32) (k R C : Nat) (r c : Int32) : Prop := isC R C r c ∧ gB (M 104 k) (r.toInt.toNat * C + c.toInt.toNat) = true
def lokV (M : Nat → Nat → Int32) (k R C : Nat) (mn rt a1 a3 a4 : Int32) : Int32 → Prop := fun v =>
  (mn.toInt < (M 101 k).toInt → ¬ a1.toInt = (M 100 k).toInt → v = -12) ∧ (¬ (mn.toInt < (M 101 k).toInt ∧ ¬ a1.toInt = (M 100 k).toInt) → (rt.toInt = 0 → v = -13) ∧ (¬ rt.toInt = 0 → ((hidC M k R C a3 a4 ∧ (rt &&& 4).toInt = 0) → v = -14) ∧ (¬ (hidC M k R C a3 a4 ∧ (rt &&& 4).toInt = 0) → v = smC (fun i => M 105 (12 * k + i)) (inC R C a3.toInt a4.toInt) (R * C))))
theorem lok_ex (M : Nat → Nat → Int32) (k R C : Nat) (mn rt a1 a3 a4 : Int32) : ∃ v, lokV M k R C mn rt a1 a3 a4 v := by
  unfold lokV
  by_cases c1 : mn.toInt < (M 101 k).toInt ∧ ¬ a1.toInt = (M 100 k).toInt
  · exact ⟨-12, fun _ _ => rfl, fun z => absurd c1 z⟩
  · by_cases c2 : rt.toInt = 0
    · exact ⟨-13, fun z1 z2 => absurd ⟨z1, z2⟩ c1, fun _ => ⟨fun _ => rfl, fun z => absurd c2 z⟩⟩
    · by_cases c3 : hidC M k R C a3 a4 ∧ (rt &&& 4).toInt = 0
      · exact ⟨-14, fun z1 z2 => absurd ⟨z1, z2⟩ c1, fun _ => ⟨fun z => absurd z c2, fun _ => ⟨fun _ => rfl, fun z => absurd c3 z⟩⟩⟩
      · exact ⟨_, fun z1 z2 => absurd ⟨z1, z2⟩ c1, fun _ => ⟨fun z => absurd z c2, fun _ => ⟨fun z => absurd z c3, fun _ => rfl⟩⟩⟩
theorem c_see {K : Int32 → aH → Prop} {v : Int32} {t : Nat} (T : TL h A o k) (S : relS h A M k R C) (hr : gR h (A (bL k)) 0 = A (bT t)) (TT0 : TT h A o t) (TS : gI h (A (bT t)) 4 = nI R ∧ gI h (A (bT t)) 5 = nI C ∧ gI h (A (bT t)) 6 = nI (R * C)) (p3 : 0 ≤ a3.toInt ∧ a3.toInt ≤ R) (p4 : 0 ≤ a4.toInt ∧ a4.toInt ≤ C) (hv : lokV M k R C mn rt a1 a3 a4 v) (kk : K v h) : CI (d + 2) 318 [vR (A (bL k)), vI a1, vI rt, vI mn, vI a3, vI a4] h K X := by
  obtain ⟨⟨⟨R1, R4⟩, C1, C3⟩, ⟨m2, m3'⟩, gl, ⟨i2, i3, i4⟩, cv⟩ := S
  obtain ⟨j4, j5, j6⟩ := TS
  have RN : (nI R).toInt = R := ti_n (by omega)
  have CN : (nI C).toInt = C := ti_n (by omega)
  have m12 : R * C ≤ 4 * 3 := Nat.mul_le_mul R4 C3
  have SM := fun (K : Int32 → aH → Prop) X => sumOf_br (d := d) (r := a3) (c := a4) (K := K) (X := X) (v := fun i => M 105 (12 * k + i)) ⟨kT_0 TT0, eT_0 TT0⟩ ⟨C1, C3⟩ R4 j4 j5 j6 ⟨kL_1 T, gl⟩ cv
  obtain ⟨v1, v2⟩ := hv
  have tail : ¬ (mn.toInt < (M 101 k).toInt ∧ ¬ a1.toInt = (M 100 k).toInt) → Wp (d + 2) 318 (19, [some (vR (A (bL k))), none, some (vI rt), none, some (vI a3), some (vI a4), none], [], h) (RI K X) := fun c1 => by
    obtain ⟨v3, v4⟩ := v2 c1
    have pub : ¬ (rt.toInt = 0) → ¬ (hidC M k R C a3 a4 ∧ (rt &&& 4).toInt = 0) → CI (d + 1) 270 [vR (A (bT t)), vR (A (bL k + 1)), vI a3, vI a4] h (fun y h2 => K y h2) X := fun y1 y2 => by
      rw [SM, ← (v4 y1).2 y2]; exact kk
    have no : ¬ (rt.toInt = 0) → ¬ isC R C a3 a4 → Wp (d + 2) 318 (55, [some (vR (A (bL k))), none, some (vI rt), none, some (vI a3), some (vI a4), none], [vI 0], h) (RI K X) := fun y1 y2 => by
      refine w318_55 ⟨fun _ => ⟨kL_0 T, ?_, ?_, ?_⟩, fun z => absurd rfl z⟩
      · rw [hr]; exact eT_0 TT0
      · rw [hr]; exact kT_0 TT0
      · rw [hr, rL_0_1 T]; exact pub y1 (fun z => y2 z.1.1)
    refine w318_19 ⟨fun e => by rw [v3 e] at kk; exact kk, fun e => ⟨kL_0 T, by rw [hr]; exact kT_0 TT0, ?_⟩⟩
    rw [hr, j4, j5, RN, CN]
    refine ⟨fun z1 => ⟨fun z2 => ?_, fun z2 => no e (fun z => z2 z.2.2)⟩, fun z1 => no e (fun z => z1 z.1.2)⟩
    have ic : isC R C a3 a4 := ⟨⟨p3.1, z1⟩, p4.1, z2⟩
    generalize hr0 : a3.toInt.toNat = r0 at *
    generalize hc0 : a4.toInt.toNat = c0 at *
    have er : a3 = nI r0 := by rw [← hr0]; exact ti_nat p3.1
    have ec : a4 = nI c0 := by rw [← hc0]; exact ti_nat p4.1
    have r0l : r0 < R := by omega
    have c0l : c0 < C := by omega
    have klt : r0 * C + c0 < R * C := by
      have : (r0 + 1) * C ≤ R * C := Nat.mul_le_mul_right _ r0l
      rw [Nat.succ_mul] at this; omega
    have k32 : r0 * C + c0 < 32 := by omega
    have kx : a3 * nI C + a4 = nI (r0 * C + c0) := by rw [er, ec, nI_mul, nI_add]
    refine w318_55 ⟨fun z => absurd z (by decide), fun _ => ⟨kL_0 T, by rw [hr]; exact eT_0 TT0, by rw [hr]; exact kT_0 TT0, ?_⟩⟩
    rw [hr]
    refine m290 ⟨kT_0 TT0, ?_⟩
    rw [j5, kx, i2, and_one k32]
    have hb : hidC M k R C a3 a4 ↔ gB (M 104 k) (r0 * C + c0) = true := by unfold hidC; rw [hr0, hc0]; exact ⟨fun z => z.2, fun z => ⟨ic, z⟩⟩
    refine ⟨fun z => ⟨kL_0 T, by rw [hr]; exact eT_0 TT0, by rw [hr]; exact kT_0 TT0, ?_⟩, fun z => ⟨fun y => ?_, fun y => ⟨kL_0 T, by rw [hr]; exact eT_0 TT0, by rw [hr]; exact kT_0 TT0, ?_⟩⟩⟩
    · rw [hr, rL_0_1 T]; exact pub e (fun w => by have := hb.1 w.1; rw [z] at this; cases this)
    · rw [(v4 e).1 ⟨hb.2 (bnf z), y⟩] at kk; exact kk
    · rw [hr, rL_0_1 T]; exact pub e (fun w => y w.2)
  refine m318 ⟨kL_0 T, ?_⟩
  rw [i4, i3]
  refine ⟨fun c1 => ⟨fun c2 => tail (fun z => z.2 c2), fun c2 => ?_⟩, fun c1 => tail (fun z => c1 z.1)⟩
  rw [v1 c1 c2] at kk; exact kk
theorem rows_new12 {w lim n b' : Nat} (b : base h o) (R : rowsOK h 42 (A 12000043) w lim n) (hlab : o (A 12000043) = 12000043) (hb' : (b' = A 12000043 ∧ gN h1 = gN h) ∨ (b' = gN h ∧ gN h1 = gN h + 1)) (k : keeps h h1 (fun q => q = 42 ∨ q = A 12000043)) :
    ∃ A1 o1 : Nat → Nat, A1 12000043 = b' ∧ o1 b' = 12000043 ∧ (∀ q, q < gN h → o1 q = o q) ∧ fr h h1 A A1 o o1 (fun c => c = 12) ∧ base h1 o1 := by
  have hN := b.1.1
  have ol := b.2.2
  have hal : A 12000043 ≠ 8 ∧ A 12000043 ≠ 9 ∧ A 12000043 ≠ 17 ∧ A 12000043 ≠ 19 ∧ A 12000043 ≠ 32 ∧ A 12000043 ≠ 44 := by
    refine ⟨fun e => ?_, fun e => ?_, fun e => ?_, fun e => ?_, fun e => ?_, fun e => ?_⟩ <;> rw [e] at hlab
    · rw [ol_8 ol] at hlab; omega
    · rw [ol_9 ol] at hlab; omega
    · rw [ol_17 ol] at hlab; omega
    · rw [ol_19 ol] at hlab; omega
    · rw [ol_32 ol] at hlab; omega
    · have := ol_m ol (a := 44) (by decide) (by decide); omega
  have oq : ∀ q, q < gN h → (if q = b' then 12000043 else o q) = o q := fun q hq => by
    split
    · rename_i e
      rcases hb' with ⟨e1, -⟩ | ⟨e1, -⟩
      · rw [e, e1, hlab]
      · omega
    · rfl
  have f : fr h h1 A (fun m => if m = 12000043 then b' else A m) o (fun q => if q = b' then 12000043 else o q) (fun c => c = 12) := by
    refine ⟨keeps_mono k (fun q hq w => ?_), oq, fun m hm => if_neg (fun e => hm (by rw [e]))⟩
    rcases w with e | e
    · show o q / 1000000 = 12
      rw [e, ol_42 ol]
    · show o q / 1000000 = 12
      rw [e, hlab]
  refine ⟨fun m => if m = 12000043 then b' else A m, fun q => if q = b' then 12000043 else o q, if_pos rfl, if_pos rfl, oq, f, ?_⟩
  exact base_of b f (fun q hq j => (k.2.2.2 q (by omega) (by omega)).2.2.2.2 j) ((k.2.2.2 19 (by omega) (by omega)).2.2.2.2 0)
def rowV (a1 a2 a3 a4 v mn : Int32) (j : Nat) : Int32 := if j = 0 then a1 else if j = 1 then a2 else if j = 2 then a3 else if j = 3 then a4 else if j = 4 then v else mn
def lokN (h h1 : aH) (A A1 o o1 : Nat → Nat) (nl : Nat) (a1 a2 a3 a4 v mn : Int32) : Prop := base h1 o1 ∧ fr h h1 A A1 o o1 (fun c => c = 12) ∧ (rowsOK h1 42 (A1 12000043) 6 500 (nl + 1) ∧ o1 (A1 12000043) = 12000043) ∧ (∀ i, i < 6 * nl → gI h1 (A1 12000043) i = gI h (A 12000043) i) ∧ (∀ j, j < 6 → gI h1 (A1 12000043) (6 * nl + j) = rowV a1 a2 a3 a4 v mn j) ∧ gN h1 ≤ gN h + 1 ∧ gT h1 ≤ gT h + 12 * (nl + 1)
theorem c_look {K : Int32 → aH → Prop} (b : base h o) (P : PerA h A o (gI h) np) (Tb : TabA h A o (gI h) nt) (S : RelA h A o (gI h) nt nk) (L : LookA h A o (gI h) nl) (mm : gI h 8 12 = gI h 44 1)
    (w1 : ¬ ((0 ≤ a1.toInt ∧ a1.toInt < np) ∧ (0 ≤ a2.toInt ∧ a2.toInt < nk)) → X 3 (gNew h 200 6))
    (w2 : ((0 ≤ a1.toInt ∧ a1.toInt < np) ∧ (0 ≤ a2.toInt ∧ a2.toInt < nk)) → ∀ R C, relS h A (gI h) a2.toInt.toNat R C → ¬ ((0 ≤ a3.toInt ∧ a3.toInt ≤ R) ∧ (0 ≤ a4.toInt ∧ a4.toInt ≤ C)) → X 3 (gNew h 200 6))
    (w3 : ((0 ≤ a1.toInt ∧ a1.toInt < np) ∧ (0 ≤ a2.toInt ∧ a2.toInt < nk)) → ∀ R C, relS h A (gI h) a2.toInt.toNat R C → (0 ≤ a3.toInt ∧ a3.toInt ≤ R) ∧ (0 ≤ a4.toInt ∧ a4.toInt ≤ C) → ¬ nl < 500 → X 4 (gNew h 200 6))
    (w4 : ((0 ≤ a1.toInt ∧ a1.toInt < np) ∧ (0 ≤ a2.toInt ∧ a2.toInt < nk)) → ∀ R C, relS h A (gI h) a2.toInt.toNat R C → (0 ≤ a3.toInt ∧ a3.toInt ≤ R) ∧ (0 ≤ a4.toInt ∧ a4.toInt ≤ C) → nl < 500 → ∀ v, lokV (gI h) a2.toInt.toNat R C (gI h 44 1) (gI h 99 a1.toInt.toNat) a1 a3 a4 v → ∀ h1 A1 o1, lokN h h1 A A1 o o1 nl a1 a2 a3 a4 v (gI h 44 1) → K v h1) : CI 500 319 [vR 8, vI a1, vI a2, vI a3, vI a4] h K X := by
  obtain ⟨⟨f1, f2⟩, ⟨f3, f4⟩, f5⟩ := P
  obtain ⟨⟨g1, g2⟩, ⟨g3, g4⟩, g5⟩ := L
  have hn : (nI np).toInt = np := ti_n (by omega)
  have SZ := fun (K : Int32 → aH → Prop) X => size_br (d := 498) (K := K) (X := X) (I := gI h) (J := gJ h) f3 rfl
  rw [hU_eta] at SZ
  refine m319 ⟨by decide, ck_8 b.1, m312 ?_⟩
  simp only [↓forall_eq, ↓inB_iff, gK_hU, gL_hU, gR_hU, gIh, gJh, pI_hU, pJ_hU, hU_hU, uI_app, uJ_app, and_true, true_and, and_false, false_and, and_self, true_implies, false_implies, not_true, not_false_iff, if_true, if_false, eq_self, Nat.reduceLeDiff, Nat.reduceEqDiff, reduceCtorEq, i32c, ti0, ti1, tiM, Int.natCast_nonneg, Int.reduceEq, Int.reduceLE, Int.reduceLT, Int.reduceNeg, tl_i, Int32.reduceToInt, Int64.reduceToInt, tiA, tlM6, Int.toNat_natCast, natc, nI_1, Int.zero_sub, implies_true, not_false_eq_true, ck_8 b.1, cr_8_10 b.1, ck_40 b.1, ↓SZ]
  refine c_needIndex (fun y1 y2 => ?_) (fun z => w1 (fun y => z ⟨y.1.1, by rw [hn]; exact y.1.2⟩))
  rw [hn] at y2
  refine ⟨ck_8 b.1, ?_⟩
  rw [releaseAt_br b S.1]
  refine ⟨fun q2 => ?_, fun q2 => w1 (fun y => q2 y.2)⟩
  have cd : (0 ≤ a1.toInt ∧ a1.toInt < np) ∧ (0 ≤ a2.toInt ∧ a2.toInt < nk) := ⟨⟨y1, y2⟩, q2⟩
  obtain ⟨T, t, R, C, ht, hr, ⟨e90, e91⟩, RS⟩ := S.2.2 a2.toInt.toNat (by omega)
  obtain ⟨TT0, R', C', TS⟩ := Tb.2.2 t ht
  have hRS := RS.1
  have eR : R' = R := by
    have : nI R' = nI R := by rw [← TS.2.1.1, e90]
    have := congrArg Int32.toInt this
    rw [ti_n (by have := TS.1; omega), ti_n (by omega)] at this; omega
  have eC : C' = C := by
    have : nI C' = nI C := by rw [← TS.2.1.2, e91]
    have := congrArg Int32.toInt this
    rw [ti_n (by have := TS.1; omega), ti_n (by omega)] at this; omega
  subst eR eC
  have i456 := TS.2.2.1
  have R1I : (nI R' + 1).toInt = (R' : Int) + 1 := by rw [nI_1, ti_n (by omega)]; omega
  have C1I : (nI C' + 1).toInt = (C' : Int) + 1 := by rw [nI_1, ti_n (by omega)]; omega
  refine ⟨kL_0 T, ck_8 b.1, m268 ?_⟩
  rw [hr, i456.1]
  refine ⟨kT_0 TT0, c_needIndex (fun z1 z2 => ⟨kT_0 TT0, ?_⟩) (fun z => w2 cd _ _ RS (fun y => z ⟨y.1.1, by rw [R1I]; omega⟩))⟩
  rw [i456.2.1]
  refine c_needIndex (fun z3 z4 => ?_) (fun z => w2 cd _ _ RS (fun y => z ⟨y.2.1, by rw [C1I]; omega⟩))
  rw [R1I] at z2
  rw [C1I] at z4
  have in34 : (0 ≤ a3.toInt ∧ a3.toInt ≤ R') ∧ (0 ≤ a4.toInt ∧ a4.toInt ≤ C') := ⟨⟨z1, by omega⟩, z3, by omega⟩
  obtain ⟨v, hv⟩ := lok_ex (gI h) a2.toInt.toNat R' C' (gI h 44 1) (gI h 99 a1.toInt.toNat) a1 a3 a4
  generalize hp : a1.toInt.toNat = p at *
  have ha : a1 = nI p := by rw [← hp]; exact ti_nat y1
  have AT := fun (K : Int32 → aH → Prop) X => at_br (d := 498) (y := 0) (K := K) (X := X) (I := gI h) (J := gJ h) f3 (show p < np by omega) (show (0 : Int32) = nI 0 from rfl) (by decide) rfl
  have vp := (f5 p (by omega)).1
  rw [hU_eta, ← ha] at AT
  by_cases qn : nl < 500
  · simp only [↓forall_eq, ↓inB_iff, gK_hU, gL_hU, gR_hU, gIh, gJh, pI_hU, pJ_hU, hU_hU, uI_app, uJ_app, and_true, true_and, and_false, false_and, and_self, true_implies, false_implies, not_true, not_false_iff, if_true, if_false, eq_self, Nat.reduceLeDiff, Nat.reduceEqDiff, reduceCtorEq, i32c, ti0, ti1, tiM, Int.natCast_nonneg, Int.reduceEq, Int.reduceLE, Int.reduceLT, Int.reduceNeg, tl_i, Int32.reduceToInt, Int64.reduceToInt, tiA, tlM6, Int.toNat_natCast, natc, nI_1, Int.zero_sub, implies_true, not_false_eq_true, ck_8 b.1, cr_8_11 b.1, ck_42 b.1, ↓isFull_br g3, qn, cr_8_10 b.1, ck_40 b.1, ↓AT, Nat.mul_one, Nat.add_zero, vp, mm]
    refine ⟨eL_0 T, kL_0 T, c_see (t := t) T RS hr TT0 i456 in34.1 in34.2 hv ?_⟩
    simp only [↓forall_eq, ↓inB_iff, gK_hU, gL_hU, gR_hU, gIh, gJh, pI_hU, pJ_hU, hU_hU, uI_app, uJ_app, and_true, true_and, and_false, false_and, and_self, true_implies, false_implies, not_true, not_false_iff, if_true, if_false, eq_self, Nat.reduceLeDiff, Nat.reduceEqDiff, reduceCtorEq, i32c, ti0, ti1, tiM, Int.natCast_nonneg, Int.reduceEq, Int.reduceLE, Int.reduceLT, Int.reduceNeg, tl_i, Int32.reduceToInt, Int64.reduceToInt, tiA, tlM6, Int.toNat_natCast, natc, nI_1, Int.zero_sub, implies_true, not_false_eq_true, ck_8 b.1, cr_8_11 b.1, ck_42 b.1]
    refine c_addU g3 qn fun b' h1 R1 e1 e2 k1 t1 => ?_
    have g1 : CF h1 := CF_keeps b.1 k1 (by omega)
    have hb := rows_ne R1
    have hT1 : nl < nl + 1 := by omega
    have bN := g3.2.2.1.2.2.1
    have hN := b.1.1
    have b8 : (8 : Nat) ≠ b' := by
      rcases e2 with ⟨q, -⟩ | ⟨q, -⟩
      · rw [q]; intro e; have := g4; rw [← e, ol_8 b.2.2] at this; omega
      · omega
    have m8 : gI h1 8 12 = gI h 44 1 := by rw [(k1.2.2.2 8 (by omega) (by omega)).2.2.1, mm]
    have i8 : ∀ I, uI I b' = uI I b' := fun _ => rfl
    simp only [↓forall_eq, ↓inB_iff, gK_hU, gL_hU, gR_hU, gIh, gJh, pI_hU, pJ_hU, hU_hU, uI_app, uJ_app, and_true, true_and, and_false, false_and, and_self, true_implies, false_implies, not_true, not_false_iff, if_true, if_false, eq_self, Nat.reduceLeDiff, Nat.reduceEqDiff, reduceCtorEq, i32c, ti0, ti1, tiM, Int.natCast_nonneg, Int.reduceEq, Int.reduceLE, Int.reduceLT, Int.reduceNeg, tl_i, Int32.reduceToInt, Int64.reduceToInt, tiA, tlM6, Int.toNat_natCast, natc, nI_1, Int.zero_sub, implies_true, not_false_eq_true, ck_8 g1, cr_8_11 g1, ck_42 g1, ↓put_br R1 hT1 (show (0 : Int32) = nI 0 from rfl) (show 0 < 6 by decide), ↓put_br R1 hT1 (show (1 : Int32) = nI 1 from rfl) (show 1 < 6 by decide), ↓put_br R1 hT1 (show (2 : Int32) = nI 2 from rfl) (show 2 < 6 by decide), ↓put_br R1 hT1 (show (3 : Int32) = nI 3 from rfl) (show 3 < 6 by decide), ↓put_br R1 hT1 (show (4 : Int32) = nI 4 from rfl) (show 4 < 6 by decide), ↓put_br R1 hT1 (show (5 : Int32) = nI 5 from rfl) (show 5 < 6 by decide), uI_ne, uJ_ne, ne_eq, Nat.reduceEqDiff, not_false_eq_true, hb, b8, m8]
    have k2 : keeps h (hU h1 (uI (uI (uI (uI (uI (uI (gI h1) b' (nl * 6 + 0) a1) b' (nl * 6 + 1) a2) b' (nl * 6 + 2) a3) b' (nl * 6 + 3) a4) b' (nl * 6 + 4) v) b' (nl * 6 + 5) (gI h 44 1)) (gJ h1)) (fun q => q = 42 ∨ q = A 12000043) := ⟨k1.1, k1.2.1, fun a ha => k1.2.2.1 a ha, fun a ha hp => by
      have s := k1.2.2.2 a ha (fun e => hp (Or.inl e))
      have hab : a ≠ b' := by
        rcases e2 with ⟨q, -⟩ | ⟨q, -⟩
        · rw [q]; exact fun e => hp (Or.inr e)
        · omega
      exact ⟨s.1, s.2.1, fun j => by rw [gI_hU]; simp only [uI_ne, uJ_ne, ne_eq, Nat.reduceEqDiff, not_false_eq_true, hab]; exact s.2.2.1 j, s.2.2.2.1, s.2.2.2.2⟩⟩
    obtain ⟨A1, o1, x1, x2, x4, x5, x6⟩ := rows_new12 (h1 := hU h1 (uI (uI (uI (uI (uI (uI (gI h1) b' (nl * 6 + 0) a1) b' (nl * 6 + 1) a2) b' (nl * 6 + 2) a3) b' (nl * 6 + 3) a4) b' (nl * 6 + 4) v) b' (nl * 6 + 5) (gI h 44 1)) (gJ h1)) b g3 g4 e2 k2
    refine w4 cd _ _ RS in34 qn v hv _ A1 o1 ⟨x6, x5, ⟨by rw [x1]; exact rows_hU R1 (by simp only [uI_ne, uJ_ne, ne_eq, Nat.reduceEqDiff, not_false_eq_true, hb]), by rw [x1]; exact x2⟩, fun i hi => ?_, fun j hj => ?_, ?_, ?_⟩
    · rw [x1, gIh, uI_app, if_neg (by omega), uI_app, if_neg (by omega), uI_app, if_neg (by omega), uI_app, if_neg (by omega), uI_app, if_neg (by omega), uI_app, if_neg (by omega)]
      exact e1 i (by omega)
    · rw [x1, gIh]
      unfold rowV
      have : j = 0 ∨ j = 1 ∨ j = 2 ∨ j = 3 ∨ j = 4 ∨ j = 5 := by omega
      rw [show 6 * nl = nl * 6 by omega]
      rcases this with e | e | e | e | e | e <;> subst e <;> simp only [↓forall_eq, ↓inB_iff, gK_hU, gL_hU, gR_hU, gIh, gJh, pI_hU, pJ_hU, hU_hU, uI_app, uJ_app, and_true, true_and, and_false, false_and, and_self, true_implies, false_implies, not_true, not_false_iff, if_true, if_false, eq_self, Nat.reduceLeDiff, Nat.reduceEqDiff, reduceCtorEq, i32c, ti0, ti1, tiM, Int.natCast_nonneg, Int.reduceEq, Int.reduceLE, Int.reduceLT, Int.reduceNeg, tl_i, Int32.reduceToInt, Int64.reduceToInt, tiA, tlM6, Int.toNat_natCast, natc, nI_1, Int.zero_sub, implies_true, not_false_eq_true, Nat.add_left_cancel_iff]
    · rw [gN_hU]; omega
    · rw [gT_hU]; omega
  · simp only [↓forall_eq, ↓inB_iff, gK_hU, gL_hU, gR_hU, gIh, gJh, pI_hU, pJ_hU, hU_hU, uI_app, uJ_app, and_true, true_and, and_false, false_and, and_self, true_implies, false_implies, not_true, not_false_iff, if_true, if_false, eq_self, Nat.reduceLeDiff, Nat.reduceEqDiff, reduceCtorEq, i32c, ti0, ti1, tiM, Int.natCast_nonneg, Int.reduceEq, Int.reduceLE, Int.reduceLT, Int.reduceNeg, tl_i, Int32.reduceToInt, Int64.reduceToInt, tiA, tlM6, Int.toNat_natCast, natc, nI_1, Int.zero_sub, implies_true, not_false_eq_true, ck_8 b.1, cr_8_11 b.1, ck_42 b.1, ↓isFull_br g3, qn]
    exact w3 cd _ _ RS in34 qn
end LOK
