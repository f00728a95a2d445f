/-! TABLES: the class's side -/
section TBK
variable {d U T nf ns nr nm nt f r R C : Nat} {h g h5 : aH} {A A2 o o2 : Nat → Nat} {X : Nat → aH → Prop} {M : Nat → Nat → Int32} {I : Nat → Nat → Int32} {J : Nat → Nat → Int64} {E : Nat → Nat → List Tm} {Cn : Nat → Nat → List Cmp} {a2 a3 a4 a5 : Int32}
theorem ofSam_br {K : Int32 → aH → Prop} (b : base h o) (Rg : RegA h A o M U T) (Rc : RecA h A o M nf ns nr) (Sm : SamA h A o M U nm) (mm : gI h 8 12 = M 44 1) (hu : ∀ k, k < ns → 0 ≤ (M 68 k).toInt ∧ (M 68 k).toInt < U) (hr : r < nr) (ha : a5.toInt = -1 ∨ (0 ≤ a5.toInt ∧ a5.toInt < nm)) : CI (d + 4) 261 [vR 8, vR (A (bR r)), vI a5] h K X ↔ K (bI (tSam M a5 r)) h := by
  obtain ⟨u9, t9⟩ := RegA_le Rg
  obtain ⟨t, ⟨r2, r3, r4, r5⟩, ⟨r6, r7, r8⟩, r9, r10⟩ := Rc.2.2 r hr
  have un := hu _ r3
  refine CI_iff fun K X w => m261 ?_
  by_cases c : a5.toInt = -1
  · refine ⟨fun _ => ?_, fun z => absurd c z⟩
    unfold tSam at w; rw [decide_eq_true c] at w; exact w
  · refine ⟨fun z => absurd z c, fun _ => ⟨by decide, ck_8 b.1, ?_⟩⟩
    have q := ha.resolve_left c
    rw [sampleAt_br b Sm.1, bz_t q]
    have S0 := Sm.2.2.1 a5.toInt.toNat (by omega)
    have LB := fun (K : Int32 → aH → Prop) X => lastk_br (d := d + 1) (x := M 68 (sR M r)) (kn := M 44 1 / 1440) (K := K) (X := X) b Rg un
    have TD := fun (K : Int32 → aH → Prop) X => todayc_br (d := d + 3) (M := M) (K := K) (X := X) b mm
    have ll := lastM_lt (M := M) (kn := (M 44 1 / 1440).toInt) Rg.2.2.2.2.2.1 (show (M 68 (sR M r)).toInt.toNat < U by omega)
    have DB := fun (K : Int32 → aH → Prop) X => drew_br (d := d + 3) (K := K) (X := X) (i := lastM M (M 44 1 / 1440).toInt (M 68 (sR M r)).toInt.toNat) S0 u9 (by omega)
    unfold tSam at w
    rw [decide_eq_false c, Bool.false_or] at w
    simp only [↓forall_eq, ↓inB_iff, gK_hU, gL_hU, gR_hU, gIh, gJh, pI_hU, pJ_hU, hU_hU, uI_app, uJ_app, and_true, true_and, and_false, false_and, and_self, true_implies, false_implies, not_true, not_false_iff, if_true, if_false, eq_self, Nat.reduceLeDiff, Nat.reduceEqDiff, reduceCtorEq, i32c, ti0, ti1, tiM, Int.natCast_nonneg, Int.reduceEq, Int.reduceLE, Int.reduceLT, Int.reduceNeg, tl_i, Int32.reduceToInt, Int64.reduceToInt, tiA, tlM6, Int.toNat_natCast, natc, nI_1, Int.zero_sub, implies_true, not_false_eq_true, ck_8 b.1, kR_0 t, ↓TD, cr_8_0 b.1, ck_9 b.1, r7, ↓LB, eM_0 S0.1, kM_0 S0.1, ↓DB, bI0]
    refine ⟨fun z => ?_, fun z => ?_⟩
    · rw [z] at w; exact w
    · rw [bnf z] at w; exact w
theorem sbS_cg {v v' : Nat → Int32} {m : Nat} (hv : ∀ k, k < R * C → v k = v' k) (hr : r < R) : ∀ c, c ≤ C → sbS v C r m c = sbS v' C r m c := by
  intro c
  induction c with
  | zero => intro _; rfl
  | succ c ih =>
    intro hc
    have : (r + 1) * C ≤ R * C := Nat.mul_le_mul_right _ hr
    rw [Nat.succ_mul] at this
    rw [sbS, sbS, ih (by omega), hv (r * C + c) (by omega)]
/-- a table that may be made -/
def tbG (M : Nat → Nat → Int32) (f : Nat) (a2 a3 a4 : Int32) : Prop := (soM M f a2.toInt.toNat).toInt = 0 ∧ (soM M f a3.toInt.toNat).toInt = 0 ∧ ¬ a2.toInt = a3.toInt ∧ (a4.toInt = -1 ∨ ¬ 1 < (soM M f a4.toInt.toNat).toInt) ∧ spN M f a2 ≤ 4 ∧ spN M f a3 ≤ 3
def tbP (M : Nat → Nat → Int32) (f nm : Nat) (a2 a3 a4 a5 : Int32) : Prop := (0 ≤ a2.toInt ∧ a2.toInt < cnM M f) ∧ (0 ≤ a3.toInt ∧ a3.toInt < cnM M f) ∧ stN (cnM M f) a4 ∧ (a5.toInt = -1 ∨ (0 ≤ a5.toInt ∧ a5.toInt < nm))
def tabN (h h5 : aH) (A A2 o o2 : Nat → Nat) (M : Nat → Nat → Int32) (f nr nt : Nat) (a2 a3 a4 a5 : Int32) : Prop := listT h5 A2 o2 38 9 (nt + 1) 11 ∧ fr h h5 A A2 o o2 (fun c => c = 9) ∧ (∀ l, l ≠ 9000035 → (l < bT nt ∨ bT nt + 6 ≤ l) → A2 l = A l) ∧ keeps h h5 (fun q => q = 38 ∨ (0 < nt ∧ q = A 9000035)) ∧ TT h5 A2 o2 nt ∧ (∀ j, j < 4 → gL h5 (A2 (bT nt + 1 + j)) = spN M f a2 * spN M f a3) ∧ (gI h5 (A2 (bT nt)) 4 = nI (spN M f a2) ∧ gI h5 (A2 (bT nt)) 5 = nI (spN M f a3) ∧ gI h5 (A2 (bT nt)) 6 = nI (spN M f a2 * spN M f a3) ∧ gI h5 (A2 (bT nt)) 12 = 0 ∧ gI h5 (A2 (bT nt)) 13 = 0) ∧ (∀ k, k < spN M f a2 * spN M f a3 → gI h5 (A2 (bT nt + 1)) k = (tAc M f a2 a3 a4 a5 nr).1 k ∧ gI h5 (A2 (bT nt + 2)) k = (tAc M f a2 a3 a4 a5 nr).2.1 k ∧ gI h5 (A2 (bT nt + 3)) k = (tAc M f a2 a3 a4 a5 nr).2.2 k ∧ gI h5 (A2 (bT nt + 4)) k = (tAc M f a2 a3 a4 a5 nr).1 k) ∧ (∀ r, r < spN M f a2 → ∀ m, m < 2 ^ spN M f a3 → gI h5 (A2 (bT nt + 5)) (8 * r + m) = sbS (tAc M f a2 a3 a4 a5 nr).1 (spN M f a3) r m (spN M f a3)) ∧ gN h5 ≤ gN h + 7 ∧ gT h5 ≤ gT h + 200
theorem tbO_cg {I2 : Nat → Nat → Int32} {r0 F sm ct gr ro pa : Nat} (tb : tbO g I r0 F sm ct gr ro pa a2 a3 a4 R C) (e : I2 r0 = I r0) : tbO g I2 r0 F sm ct gr ro pa a2 a3 a4 R C := by
  obtain ⟨x1, x2, x3, x4⟩ := tb
  exact ⟨x1, x2, by rw [e]; exact x3, x4⟩
theorem c_tabEnd {K : Int32 → aH → Prop} (b : base h o) (L : listT h A o 38 9 nt 11) (hn : nt < 12) (kgh : keeps h g (fun _ => False)) (Ng : gN g = gN h + 1 + 5) (Tg : gT g ≤ gT h + 16 + 80) (tbI : tbO g I (gN h) (A (bF f)) (gN h + 1 + 1) (gN h + 1 + 2) (gN h + 1 + 3) (gN h + 1 + 4) (gN h + 1) a2 a3 a4 (spN (gI h) f a2) (spN (gI h) f a3)) (j1 : ∀ a, a < gN h → I a = gI h a) (j2 : I (gN h) = gI g (gN h)) (j4 : ∀ i, i < 32 → I (gN h + 1) i = 0) (G6 : spN (gI h) f a2 ≤ 4) (G7 : spN (gI h) f a3 ≤ 3) (z12 : gI g (gN h) 12 = 0 ∧ gI g (gN h) 13 = 0) (j3 : ∀ k, k < spN (gI h) f a2 * spN (gI h) f a3 → I (gN h + 2) k = (tAc (gI h) f a2 a3 a4 a5 nr).1 k ∧ I (gN h + 3) k = (tAc (gI h) f a2 a3 a4 a5 nr).2.1 k ∧ I (gN h + 4) k = (tAc (gI h) f a2 a3 a4 a5 nr).2.2 k)
    (kk : ∀ h5 A2 o2, tabN h h5 A A2 o o2 (gI h) f nr nt a2 a3 a4 a5 → K (nI nt) h5) : CV 499 263 [vR (gN h)] (hU g I (gJ g)) (fun h4 => gK h4 8 = 1 ∧ 8 ≤ gR h4 8 8 ∧ gK h4 (gR h4 8 8) = 13 ∧ CI 499 98 [vR (gR h4 8 8), vR (gN h)] h4 (fun y2 h5 => gK h5 8 = 1 ∧ 8 ≤ gR h5 8 8 ∧ gK h5 (gR h5 8 8) = 13 ∧ CI 499 65 [vR (gR h5 8 8)] h5 (fun y3 h6 => K (y3 - 1) h6) X) X) X := by
  have hN := b.1.1
  have frK : ∀ hh : aH, keeps h hh (fun _ => False) → fr h hh A A o o (fun _ => False) := fun hh k => ⟨k, fun _ _ => rfl, fun _ _ => rfl⟩
  have keepU : ∀ I : Nat → Nat → Int32, (∀ a, a < gN h → I a = gI h a) → keeps h (hU g I (gJ g)) (fun _ => False) := fun I i9 => by
    refine ⟨kgh.1, kgh.2.1, kgh.2.2.1, fun a ha _ => ?_⟩
    have z := kgh.2.2.2 a ha (fun w => w)
    exact ⟨z.1, z.2.1, fun j => by rw [gI_hU, i9 a ha], z.2.2.2.1, z.2.2.2.2⟩
  have tb0 := tbI
  obtain ⟨⟨k0, e0⟩, ⟨q0, q7, q8, q9, q10, q11⟩, ⟨i1, i2, i3, i4, i5, i6⟩, ⟨ks, kc, kgr, kr, kpa⟩, ⟨ls, lc, lg, lr, lp⟩, ⟨s8, c8, g8, r8, p8⟩, -, -⟩ := tbI
  rw [j2] at i1 i2 i3 i4 i5 i6
  refine c_settle (d := 498) tb0 G6 G7 j4 (fun I2 x1 x2 x3 => ?_)
  have j12 : ∀ a, a < gN h → I2 a = gI h a := fun a ha => by rw [x1 a (by omega) (by omega)]; exact j1 a ha
  have k2U := keepU I2 j12
  have FR2 := frK _ k2U
  have b2 : base (hU g I2 (gJ g)) o := base_fr b FR2 (by simp)
  have c2' := b2.1
  rw [cr_8_8 c2', (k2U.2.2.1 38 (by omega)).1]
  refine ⟨ck_8 c2', by decide, L.1.1, ?_⟩
  refine c_born (d := 493) (h := h) (A := A) (o := o) (m := 6) (σ := fun j => if j = 0 then 0 else if j = 5 then 1 else j + 1) (τ := fun j => if j = 0 then 0 else if j = 1 then 5 else j - 1) (C := fun c => c = 9) (p := fun _ => False) L (by omega) (by decide) (by decide) k2U (by rw [gN_hU]; omega) (by decide) (by decide) rfl k0 (fun w => w) (fun _ w => w) (fun q _ w => w.elim) rfl (fun h9 A2 o2 l9 f9 lb st9 k9 i9 gn gt => ?_)
  have eb : 9 * 1000000 + 1000 + 100 * nt = bT nt := by unfold bT; omega
  rw [eb] at lb st9
  rw [gN_hU] at gn i9
  rw [gT_hU] at gt
  have od : 0 < nt → o (A 9000035) = 9000035 ∧ A 9000035 < gN h := fun z => ⟨(list_dat L z).2.1.1, (list_dat L z).2.1.2.2.1⟩
  have L38 := L.1.2.2.2.2
  have kx : keeps h h9 (fun q => q = 38 ∨ (0 < nt ∧ q = A 9000035)) := by
    refine ⟨f9.1.1, f9.1.2.1, f9.1.2.2.1, fun q hq hp => same_trans (k2U.2.2.2 q hq (fun w => w)) (k9.2.2.2 q (by rw [gN_hU]; omega) hp)⟩
  have b9 : base h9 o2 := base_fr b f9 (by decide)
  rw [cr_8_8 b9.1]
  refine ⟨ck_8 b9.1, by decide, l9.1.1, ?_⟩
  rw [lsize_br l9, nI_pred]
  have N9 := k9.1
  rw [gN_hU] at N9
  have nw : ∀ q, gN h ≤ q → q < gN h + 6 → same (hU g I2 (gJ g)) h9 q := fun q h1 h2 => k9.2.2.2 q (by rw [gN_hU]; omega) (by
    rintro (w | ⟨w0, w⟩)
    · omega
    · have w' : q = A 9000035 := w
      have := (od w0).2; omega)
  have t0 := lb 0 (by omega)
  have t1 := lb 1 (by omega)
  have t2 := lb 2 (by omega)
  have t3 := lb 3 (by omega)
  have t4 := lb 4 (by omega)
  have t5 := lb 5 (by omega)
  rw [if_pos rfl, Nat.add_zero, Nat.add_zero] at t0
  rw [if_neg (by decide), if_neg (by decide)] at t1 t2 t3 t4
  rw [if_neg (by decide), if_pos rfl] at t5
  have n0 := nw (gN h) (by omega) (by omega)
  have na := nw (gN h + 1) (by omega) (by omega)
  have nb := nw (gN h + 2) (by omega) (by omega)
  have nc := nw (gN h + 3) (by omega) (by omega)
  have nd := nw (gN h + 4) (by omega) (by omega)
  have ne := nw (gN h + 5) (by omega) (by omega)
  have r0I : I2 (gN h) = gI g (gN h) := by rw [x1 _ (by omega) (by omega)]; exact j2
  have smI : I2 (gN h + 2) = I (gN h + 2) := x1 _ (by omega) (by omega)
  have ctI : I2 (gN h + 3) = I (gN h + 3) := x1 _ (by omega) (by omega)
  have grI : I2 (gN h + 4) = I (gN h + 4) := x1 _ (by omega) (by omega)
  refine kk h9 A2 o2 ⟨l9, f9, fun l h1 h2 => st9 l (by omega) h2, kx, ⟨fun q hq => ?_, fun q hq => ?_, fun q hq => ?_⟩, fun j hj => ?_, ⟨?_, ?_, ?_, ?_, ?_⟩, fun k hk => ⟨?_, ?_, ?_, ?_⟩, fun r hr m hm => ?_, by omega, by omega⟩
  · have hk : q = (0, 11) ∨ q = (1, 100) ∨ q = (2, 100) ∨ q = (3, 100) ∨ q = (4, 100) ∨ q = (5, 100) := (show ∀ q ∈ kT, q = (0, 11) ∨ q = (1, 100) ∨ q = (2, 100) ∨ q = (3, 100) ∨ q = (4, 100) ∨ q = (5, 100) by decide) q hq
    rcases hk with e | e | e | e | e | e <;> rw [e] <;> unfold liv <;> dsimp only
    · rw [Nat.add_zero, t0.1, t0.2, n0.1]; exact ⟨rfl, by omega, by omega, k0⟩
    · rw [t1.1, t1.2, nb.1]; exact ⟨rfl, by omega, by omega, ks⟩
    · rw [t2.1, t2.2, nc.1]; exact ⟨rfl, by omega, by omega, kc⟩
    · rw [t3.1, t3.2, nd.1]; exact ⟨rfl, by omega, by omega, kgr⟩
    · rw [t4.1, t4.2, ne.1]; exact ⟨rfl, by omega, by omega, kr⟩
    · rw [t5.1, t5.2, na.1]; exact ⟨rfl, by omega, by omega, kpa⟩
  · have hk : q = (5, 32) := (show ∀ q ∈ lT, q = (5, 32) by decide) q hq
    rw [hk]; dsimp only; rw [t5.1, na.2.1]; exact lp
  · have hk : q = (0, 7, 1) ∨ q = (0, 8, 2) ∨ q = (0, 9, 3) ∨ q = (0, 10, 4) ∨ q = (0, 11, 5) := (show ∀ q ∈ rT, q = (0, 7, 1) ∨ q = (0, 8, 2) ∨ q = (0, 9, 3) ∨ q = (0, 10, 4) ∨ q = (0, 11, 5) by decide) q hq
    rcases hk with e | e | e | e | e <;> rw [e] <;> dsimp only <;> rw [Nat.add_zero, t0.1, n0.2.2.2.2]
    · rw [t1.1]; exact q7
    · rw [t2.1]; exact q8
    · rw [t3.1]; exact q9
    · rw [t4.1]; exact q10
    · rw [t5.1]; exact q11
  · have hk : j = 0 ∨ j = 1 ∨ j = 2 ∨ j = 3 := by omega
    rcases hk with e | e | e | e <;> subst e
    · rw [Nat.add_zero, t1.1, nb.2.1]; exact ls
    · rw [show bT nt + 1 + 1 = bT nt + 2 from rfl, t2.1, nc.2.1]; exact lc
    · rw [show bT nt + 1 + 2 = bT nt + 3 from rfl, t3.1, nd.2.1]; exact lg
    · rw [show bT nt + 1 + 3 = bT nt + 4 from rfl, t4.1, ne.2.1]; exact lr
  · rw [t0.1, n0.2.2.1, gIh, r0I]; exact i4
  · rw [t0.1, n0.2.2.1, gIh, r0I]; exact i5
  · rw [t0.1, n0.2.2.1, gIh, r0I]; exact i6
  · rw [t0.1, n0.2.2.1, gIh, r0I]; exact z12.1
  · rw [t0.1, n0.2.2.1, gIh, r0I]; exact z12.2
  · rw [t1.1, nb.2.2.1, gIh, smI]; exact (j3 k hk).1
  · rw [t2.1, nc.2.2.1, gIh, ctI]; exact (j3 k hk).2.1
  · rw [t3.1, nd.2.2.1, gIh, grI]; exact (j3 k hk).2.2
  · rw [t4.1, ne.2.2.1, gIh]
    have := x2 k hk
    rw [show gN h + 1 + 4 = gN h + 5 from rfl] at this
    rw [this]; exact (j3 k hk).1
  · rw [t5.1, na.2.2.1, gIh, x3 r hr m hm]
    exact sbS_cg (fun k hk => (j3 k hk).1) hr _ (Nat.le_refl _)
/-- the making of it -/
theorem c_mkTab {K : Int32 → aH → Prop} (b : base h o) (F : FormA h A o (gI h) E Cn nf) (Rg : RegA h A o (gI h) U T) (Rc : RecA h A o (gI h) nf ns nr) (Sm : SamA h A o (gI h) U nm) (mm : gI h 8 12 = gI h 44 1) (hu : ∀ k, k < ns → 0 ≤ (gI h 68 k).toInt ∧ (gI h 68 k).toInt < U) (L : listT h A o 38 9 nt 11) (hn : nt < 12) (hf : f < nf) (P : tbP (gI h) f nm a2 a3 a4 a5) (G : tbG (gI h) f a2 a3 a4)
    (kk : ∀ h5 A2 o2, tabN h h5 A A2 o o2 (gI h) f nr nt a2 a3 a4 a5 → K (nI nt) h5) : CV 499 260 [vR (gN h), vR (A (bF f)), vI a2, vI a3, vI a4] (gNew h 11 16) (fun h4 => Wp 500 264 (175, [some (vR 8), none, none, none, none, some (vI a5), some (vR (A (bF f))), some (vR (gN h)), some (vI 0), none], [], h4) (RI K X)) (fun _ _ => False) := by
  obtain ⟨P2, P3, P4, P5⟩ := P
  obtain ⟨G2, G3, G4, G5, G6, G7⟩ := G
  obtain ⟨u9, t9⟩ := RegA_le Rg
  have hN := b.1.1
  have n6 := F.2.1.2
  have h60 := Rc.2.1.2
  have k2 : akA (gI h) f a2 := ⟨P2.1, P2.2, G2⟩
  have k3 : akA (gI h) f a3 := ⟨P3.1, P3.2, G3⟩
  have sp2 := sp_ok F hf k2
  have sp3 := sp_ok F hf k3
  obtain ⟨⟨tf, lf, ⟨c1, c2, c3⟩, c4⟩, -⟩ := F.2.2 f hf
  have kp0 : keeps h (gNew h 11 16) (fun _ => False) := keeps_new _ _ _ _
  have K0 : gK (gNew h 11 16) (gN h) = 11 := by rw [gK_gNew, if_pos rfl]
  have N0 : gN (gNew h 11 16) = gN h + 1 := gN_gNew _ _ _
  have T0 : gT (gNew h 11 16) = gT h + 16 := gT_gNew _ _ _
  have frK : ∀ hh : aH, keeps h hh (fun _ => False) → fr h hh A A o o (fun _ => False) := fun hh k => ⟨k, fun _ _ => rfl, fun _ _ => rfl⟩
  have FF : ∀ hh : aH, keeps h hh (fun _ => False) → FormA hh A o (gI h) E Cn nf := fun hh k => FormA_fr b F (frK hh k) (fun w => w) (fun _ _ _ => rfl) (fun _ _ _ => rfl) rfl
  have nF := nF_0 tf
  refine c_newTab (d := 498) (R := spN (gI h) f a2) (C := spN (gI h) f a3) (by omega) ⟨by omega, by omega, K0⟩ ⟨by omega, eF_0 tf, by rw [gK_gNew, if_neg (by omega)]; exact kF_0 tf, by omega⟩ ⟨sp2.2.1, G6⟩ ⟨sp3.2.1, G7⟩ (fun hh kh K X => ?_) (fun g kg Ng Tg tb z0 z12 => ?_)
  · have k9 : keeps h hh (fun _ => False) := by
      refine ⟨by have := kh.1; omega, Nat.le_trans kp0.2.1 kh.2.1, fun a ha => ?_, fun a ha _ => same_trans (kp0.2.2.2 a ha (fun w => w)) (kh.2.2.2 a (by omega) (by omega))⟩
      have y := kh.2.2.1 a (by omega)
      have z := kp0.2.2.1 a ha
      exact ⟨y.1.trans z.1, y.2.trans z.2⟩
    exact ⟨span_br (d := 497) (FF hh k9) hf k2, span_br (d := 497) (FF hh k9) hf k3⟩
  rw [N0] at Ng tb z0
  rw [T0] at Tg
  have kgh : keeps h g (fun _ => False) := by
    refine ⟨by omega, Nat.le_trans kp0.2.1 kg.2.1, fun a ha => ?_, fun a ha _ => same_trans (kp0.2.2.2 a ha (fun w => w)) (kg.2.2.2 a (by omega) (by omega))⟩
    have y := kg.2.2.1 a (by omega)
    have z := kp0.2.2.1 a ha
    exact ⟨y.1.trans z.1, y.2.trans z.2⟩
  have tb0 := tb
  obtain ⟨⟨k0, e0⟩, ⟨q0, q7, q8, q9, q10, q11⟩, ⟨i1, i2, i3, i4, i5, i6⟩, ⟨ks, kc, kgr, kr, kpa⟩, ⟨ls, lc, lg, lr, lp⟩, ⟨s8, c8, g8, r8, p8⟩, -, -⟩ := tb
  have m12 : spN (gI h) f a2 * spN (gI h) f a3 ≤ 4 * 3 := Nat.mul_le_mul G6 G7
  have keepU : ∀ I : Nat → Nat → Int32, (∀ a, a < gN h → I a = gI h a) → keeps h (hU g I (gJ g)) (fun _ => False) := fun I i9 => by
    refine ⟨kgh.1, kgh.2.1, kgh.2.2.1, fun a ha _ => ?_⟩
    have z := kgh.2.2.2 a ha (fun w => w)
    exact ⟨z.1, z.2.1, fun j => by rw [gI_hU, i9 a ha], z.2.2.2.1, z.2.2.2.2⟩
  have hnr : (nI nr).toInt = nr := ti_n (by omega)
  -- the records, one by one
  have loop : ∀ (n p : Nat) (I : Nat → Nat → Int32), p + n = nr → (∀ a, a < gN h → I a = gI h a) → I (gN h) = gI g (gN h) → (∀ k, k < spN (gI h) f a2 * spN (gI h) f a3 → I (gN h + 2) k = (tAc (gI h) f a2 a3 a4 a5 p).1 k ∧ I (gN h + 3) k = (tAc (gI h) f a2 a3 a4 a5 p).2.1 k ∧ I (gN h + 4) k = (tAc (gI h) f a2 a3 a4 a5 p).2.2 k) → (∀ i, i < 32 → I (gN h + 1) i = 0) → Wp 500 264 (175, [some (vR 8), none, none, none, none, some (vI a5), some (vR (A (bF f))), some (vR (gN h)), some (vI (nI p)), none], [], hU g I (gJ g)) (RI K X) := by
    intro n
    induction n with
    | zero =>
      intro p I hp j1 j2 j3 j4
      have hpn : p = nr := by omega
      subst hpn
      have kU := keepU I j1
      have FR := frK _ kU
      have bU : base (hU g I (gJ g)) o := base_fr b FR (by simp)
      have RcU : RecA (hU g I (gJ g)) A o (gI h) nf ns p := RecA_fr b Rc FR (fun w => w) (fun _ _ => rfl) (fun _ _ => rfl) (Nat.le_refl _) (Nat.le_refl _) (fun f hf => ⟨⟨rfl, rfl, fun _ _ => ⟨rfl, rfl⟩⟩, (cn_of F f hf).2⟩) (fun _ _ => ⟨rfl, rfl⟩) ⟨rfl, rfl, rfl⟩ rfl
      have tbI : tbO g I (gN h) (A (bF f)) (gN h + 1 + 1) (gN h + 1 + 2) (gN h + 1 + 3) (gN h + 1 + 4) (gN h + 1) a2 a3 a4 (spN (gI h) f a2) (spN (gI h) f a3) := tbO_cg tb0 j2
      refine w264_175 ?_
      have k0' : gK (hU g I (gJ g)) (gN h) = 11 := k0
      have cU := bU.1
      rw [cr_8_6 cU, lsize_br RcU.1]
      refine ⟨ck_8 cU, by decide, RcU.1.1.1, fun c => by omega, fun _ => ⟨by omega, k0', ?_⟩⟩
      exact c_tabEnd b L hn kgh Ng Tg tbI j1 j2 j4 G6 G7 z12 j3 kk
    | succ n ih =>
      intro p I hp j1 j2 j3 j4
      have hpI : (nI p).toInt = p := ti_n (by omega)
      have zp : (p : Int) < nr := by omega
      have kU := keepU I j1
      have FR := frK _ kU
      have bU : base (hU g I (gJ g)) o := base_fr b FR (by simp)
      have cU := bU.1
      have FU := FF _ kU
      have RcU : RecA (hU g I (gJ g)) A o (gI h) nf ns nr := RecA_fr b Rc FR (fun w => w) (fun _ _ => rfl) (fun _ _ => rfl) (Nat.le_refl _) (Nat.le_refl _) (fun f hf => ⟨⟨rfl, rfl, fun _ _ => ⟨rfl, rfl⟩⟩, (cn_of F f hf).2⟩) (fun _ _ => ⟨rfl, rfl⟩) ⟨rfl, rfl, rfl⟩ rfl
      have RgU : RegA (hU g I (gJ g)) A o (gI h) U T := RegA_fr b Rg FR (fun w => w) (fun _ _ _ => rfl) ⟨rfl, rfl, rfl, rfl⟩
      have SmU : SamA (hU g I (gJ g)) A o (gI h) U nm := ⟨list_fr FR (fun w => w) (by omega) (by omega) Sm.1, Sm.2.1, fun s hs => samOK_cg (Sm.2.2.1 s hs) (TM_fr FR (fun w => w) (by have := Sm.2.1.2; omega) (Sm.2.2.1 s hs).1) (fun j hj => by
        obtain ⟨kd, v⟩ := vM_j (Sm.2.2.1 s hs).1 hj
        have := iM_fr FR (fun w => w) (by have := Sm.2.1.2; omega) (by omega) v
        exact ⟨this.1, this.2.2.2⟩) (Nat.le_refl _) (fun _ _ => ⟨rfl, rfl, rfl⟩) u9, Sm.2.2.2⟩
      have mmU : gI (hU g I (gJ g)) 8 12 = gI h 44 1 := by rw [gIh, j1 8 (by omega)]; exact mm
      have tbI : tbO g I (gN h) (A (bF f)) (gN h + 1 + 1) (gN h + 1 + 2) (gN h + 1 + 3) (gN h + 1 + 4) (gN h + 1) a2 a3 a4 (spN (gI h) f a2) (spN (gI h) f a3) := tbO_cg tb0 j2
      obtain ⟨t, ⟨r2, r3, r4, r5⟩, ⟨r6, r7, r8'⟩, -⟩ := RcU.2.2 p (by omega)
      have tfp := (FU.2.2 _ r5).1.1
      have tfU := (FU.2.2 _ hf).1.1
      have G := fun (d : Nat) (K : Nat → aH → Prop) (X : Nat → aH → Prop) => lget_br (d := d) (X := X) (K := K) (x := nI p) RcU.1 (by rw [hpI]; omega)
      have eb : 7 * 1000000 + 1000 + 100 * (nI p).toInt.toNat = bR p := by rw [hpI]; unfold bR; omega
      simp only [eb] at G
      have OS := fun (K : Int32 → aH → Prop) X => ofSam_br (d := 495) (a5 := a5) (r := p) (K := K) (X := X) bU RgU RcU SmU mmU hu (by omega) P5
      have skip : tbK (gI h) f a2 a3 a4 a5 p = false → Wp 500 264 (175, [some (vR 8), none, none, none, none, some (vI a5), some (vR (A (bF f))), some (vR (gN h)), some (vI (nI (p + 1))), none], [], hU g I (gJ g)) (RI K X) := fun c => by
        refine ih (p + 1) I (by omega) j1 j2 ?_ j4
        rw [tAc, if_neg (by rw [c]; decide)]; exact j3
      have SZ := fun (d : Nat) (K : Int32 → aH → Prop) X => lsize_br (d := d) (K := K) (X := X) RcU.1
      have kR0 : gK g (A (bR p)) = 5 := kR_0 t
      have r6' : gR g (A (bR p)) 0 = A (bF (fR (gI h) p)) := r6
      have eFp := eF_0 tfp
      have eFf := eF_0 tfU
      have c36 : gK g 36 = 13 := RcU.1.1.1
      have g8' : gK g 8 = 1 := ck_8 cU
      have g86 : gR g 8 6 = 36 := cr_8_6 cU
      refine w264_175 ?_
      simp only [↓forall_eq, ↓inB_iff, gK_hU, gL_hU, gR_hU, gIh, gJh, pI_hU, pJ_hU, hU_hU, uI_app, uJ_app, and_true, true_and, and_false, false_and, and_self, true_implies, false_implies, not_true, not_false_iff, if_true, if_false, eq_self, Nat.reduceLeDiff, Nat.reduceEqDiff, reduceCtorEq, i32c, ti0, ti1, tiM, Int.natCast_nonneg, Int.reduceEq, Int.reduceLE, Int.reduceLT, Int.reduceNeg, tl_i, Int32.reduceToInt, Int64.reduceToInt, tiA, tlM6, Int.toNat_natCast, natc, nI_1, Int.zero_sub, implies_true, not_false_eq_true, g8', g86, c36, ↓SZ, hpI, hnr, zp, ↓G, kR0, r6', eFp, eFf, F_ne0 tfp tfU, or_true, true_or, and_true, true_and, ↓OS, bI0, k0]
      refine ⟨fun c => ⟨fun c2 => ?_, fun c2 => ?_⟩, fun c => ?_⟩
      · refine skip ?_
        unfold tbK; rw [c2, Bool.false_and, Bool.and_false]
      · refine ⟨by omega, ?_⟩
        refine c_count (d := 494) FU RcU hf (by omega) c tbI k2 k3 P4 G7 G6 (fun z => ?_) (fun z => ?_)
        · refine skip ?_
          unfold tbK; rw [z, Bool.and_false, Bool.and_false]
        · have ok : tbK (gI h) f a2 a3 a4 a5 p = true := by unfold tbK; rw [z, bnf c2, decide_eq_true c]; rfl
          have t23 : thr (tIt (gI h) p a2) = true ∧ thr (tIt (gI h) p a3) = true := by
            have z' := z
            unfold tTk at z'
            simp only [Bool.and_eq_true] at z'
            exact ⟨z'.1, z'.2.1⟩
          obtain ⟨kx, -⟩ := ix_ok FU RcU hf (by omega) c k2 k3 G7 G6 t23.1 t23.2
          obtain ⟨w1, w2, w3⟩ := j3 _ kx
          refine ih (p + 1) _ (by omega) (fun a ha => ?_) ?_ (fun k hk => ?_) (fun i hi => ?_)
          · rw [uI_ne _ _ _ (by omega), uI_ne _ _ _ (by omega), uI_ne _ _ _ (by omega)]; exact j1 a ha
          · rw [uI_ne _ _ _ (by omega), uI_ne _ _ _ (by omega), uI_ne _ _ _ (by omega)]; exact j2
          · obtain ⟨v1, v2, v3⟩ := j3 k hk
            rw [tAc, if_pos ok]
            dsimp only
            unfold upG
            have e1 : gN h + 1 + 1 = gN h + 2 := rfl
            have e2 : gN h + 1 + 2 = gN h + 3 := rfl
            have e3 : gN h + 1 + 3 = gN h + 4 := rfl
            rw [e1, e2, e3]
            refine ⟨?_, ?_, ?_⟩
            · rw [uI_ne _ _ _ (by omega), uI_ne _ _ _ (by omega), uI_app, w1]
              by_cases e : k = tIx (gI h) f a2 a3 p
              · rw [if_pos ⟨rfl, e⟩, if_pos e]
              · rw [if_neg (fun y => e y.2), if_neg e]; exact v1
            · rw [uI_ne _ _ _ (by omega), uI_app, w2, uI_ne _ _ _ (by omega)]
              by_cases e : k = tIx (gI h) f a2 a3 p
              · rw [if_pos ⟨rfl, e⟩, if_pos e]
              · rw [if_neg (fun y => e y.2), if_neg e]; exact v2
            · rw [uI_app, w3, uI_ne _ _ _ (by omega), uI_ne _ _ _ (by omega)]
              by_cases e : k = tIx (gI h) f a2 a3 p
              · rw [if_pos ⟨rfl, e⟩, if_pos e]
              · rw [if_neg (fun y => e y.2), if_neg e]; exact v3
          · rw [uI_ne _ _ _ (by omega), uI_ne _ _ _ (by omega), uI_ne _ _ _ (by omega)]; exact j4 i hi
      · refine skip ?_
        unfold tbK; rw [decide_eq_false c, Bool.false_and]
  have := loop nr 0 (gI g) (by omega) (fun a ha => funext (kgh.2.2.2 a ha (fun w => w)).2.2.1) rfl (fun k hk => ⟨z0 (gN h + 2) (by omega) (by omega) k, z0 (gN h + 3) (by omega) (by omega) k, z0 (gN h + 4) (by omega) (by omega) k⟩) (fun i hi => z0 (gN h + 1) (by omega) (by omega) i)
  rw [hU_eta] at this
  exact this
end TBK
