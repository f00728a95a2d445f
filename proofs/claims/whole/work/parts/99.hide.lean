/-! SECRECY: mathematics, and the class's search -/
section HID
variable {d t R C N : Nat} {h : aH} {A o : Nat → Nat} {X : Nat → aH → Prop} {M I : Nat → Nat → Int32} {J : Nat → Nat → Int64} {v : Nat → Int} {O O' : Nat → Bool} {P S T : Int32} {nd : Int32}
theorem anyR_mo {Q : Nat → Bool} {c : Nat} (hO : ∀ k, O k = true → O' k = true) (r : Nat) (w : anyR O Q C c r = true) : anyR O' Q C c r = true := by
  obtain ⟨i, h1, h2, h3⟩ := (anyR_iff r).mp w
  exact (anyR_iff r).mpr ⟨i, h1, h2, hO _ h3⟩
theorem rowS_mo {Q Q' : Nat → Bool} {r : Nat} (hv : ∀ k, k < R * C → 0 ≤ v k ∧ v k ≤ 60000000) (hO : ∀ k, O k = true → O' k = true) (hr : r < R) (hq : ∀ c, c < C → Q c = true → Q' c = true) : ∀ c, c ≤ C → rowS v O Q C r c ≤ rowS v O' Q' C r c := by
  intro c
  induction c with
  | zero => intro _; exact Int.le_refl _
  | succ c ih =>
    intro hc
    have i := ih (by omega)
    have : (r + 1) * C ≤ R * C := Nat.mul_le_mul_right _ hr
    rw [Nat.succ_mul] at this
    have b := hv (r * C + c) (by omega)
    rw [rowS, rowS]
    by_cases z : (O (r * C + c) && Q c) = true
    · rw [if_pos z]
      rw [Bool.and_eq_true] at z
      rw [if_pos (by rw [hO _ z.1, hq c (by omega) z.2]; rfl)]; omega
    · rw [if_neg z]
      split <;> omega
theorem cutR_mo {Q0 Q Q' : Nat → Bool} (hv : ∀ k, k < R * C → 0 ≤ v k ∧ v k ≤ 60000000) (hO : ∀ k, O k = true → O' k = true) (hq : ∀ c, c < C → Q c = true → Q' c = true) : ∀ r, r ≤ R → cutR v O Q0 Q C r ≤ cutR v O' Q0 Q' C r := by
  intro r
  induction r with
  | zero => intro _; exact Int.le_refl _
  | succ r ih =>
    intro hr
    have i := ih (by omega)
    have b := rowS_mo hv hO (show r < R by omega) hq C (Nat.le_refl _)
    rw [cutR, cutR]
    split <;> omega
theorem rmA_mo {r0 c0 : Nat} (hv : ∀ k, k < R * C → 0 ≤ v k ∧ v k ≤ 60000000) (R4 : R ≤ 4) (C3 : C ≤ 3) (hO : ∀ k, O k = true → O' k = true) : rmA v O R C r0 c0 (2 ^ R) ≤ rmA v O' R C r0 c0 (2 ^ R) := by
  obtain ⟨-, a2⟩ := rmA_spec (v := v) (O := O) (R := R) (C := C) (r0 := r0) (c0 := c0) (2 ^ R)
  obtain ⟨b1, -⟩ := rmA_spec (v := v) (O := O') (R := R) (C := C) (r0 := r0) (c0 := c0) (2 ^ R)
  rcases b1 with e | ⟨a, h1, h2, h3⟩
  · rw [e]; exact (rmA_b hv R4 C3 (2 ^ R)).2
  · have l1 := a2 a h1 h2
    have l2 := cutR_mo (Q0 := tB a) (Q := qA O R C c0 a) (Q' := qA O' R C c0 a) hv hO (fun c _ w => by
      rcases Bool.or_eq_true _ _ ▸ w with w | w
      · show (anyR O' (tB a) C c R || decide (c = c0)) = true
        rw [anyR_mo hO R w]; rfl
      · show (anyR O' (tB a) C c R || decide (c = c0)) = true
        rw [w, Bool.or_true]) R (Nat.le_refl _)
    omega
theorem rmB_mo {r0 c0 : Nat} (hv : ∀ k, k < R * C → 0 ≤ v k ∧ v k ≤ 60000000) (hO : ∀ k, O k = true → O' k = true) : rmB v O R C r0 c0 (2 ^ R) ≤ rmB v O' R C r0 c0 (2 ^ R) := by
  obtain ⟨-, a0, a2⟩ := rmB_spec (v := v) (O := O) (R := R) (C := C) (r0 := r0) (c0 := c0) (2 ^ R)
  obtain ⟨b1, -, -⟩ := rmB_spec (v := v) (O := O') (R := R) (C := C) (r0 := r0) (c0 := c0) (2 ^ R)
  rcases b1 with e | ⟨a, h1, h2, h3⟩
  · rw [e]; exact a0
  · rw [Bool.and_eq_true] at h2
    have l1 := a2 a h1 (by
      rw [h2.1, Bool.true_and]
      cases hh : anyR O (tB a) C c0 R
      · rfl
      · have h22 := h2.2
        rw [anyR_mo hO R hh] at h22; exact h22)
    have l2 := cutR_mo (Q0 := tB a) (Q := qB O R C a) (Q' := qB O' R C a) hv hO (fun c _ w => anyR_mo hO R w) R (Nat.le_refl _)
    omega
/-- no cell of P can be worked out too closely -/
def roomy (v : Nat → Int) (T : Int32) (nd : Int) (R C k : Nat) : Bool := decide (nd ≤ rmA v (oth T k) R C (k / C) (k % C) (2 ^ R)) && decide ((if v k < nd then v k else nd) ≤ rmB v (oth T k) R C (k / C) (k % C) (2 ^ R))
def goodS (v : Nat → Int) (P T : Int32) (nd : Int) (R C : Nat) : Nat → Bool
  | 0 => true
  | k + 1 => goodS v P T nd R C k && (!gB P k || roomy v T nd R C k)
theorem roomy_mo {nd : Int} {k : Nat} (hv : ∀ k, k < R * C → 0 ≤ v k ∧ v k ≤ 60000000) (R4 : R ≤ 4) (C3 : C ≤ 3) (hs : subB S T) (w : roomy v S nd R C k = true) : roomy v T nd R C k = true := by
  unfold roomy at w ⊢
  have hO : ∀ i, oth S k i = true → oth T k i = true := fun i hi => by
    unfold oth at hi ⊢
    rw [Bool.and_eq_true] at hi
    rw [hs i hi.1, hi.2]; rfl
  have m1 := rmA_mo (r0 := k / C) (c0 := k % C) hv R4 C3 hO
  have m2 := rmB_mo (r0 := k / C) (c0 := k % C) hv hO
  rw [Bool.and_eq_true, decide_eq_true_iff, decide_eq_true_iff] at w ⊢
  omega
theorem good_mo {nd : Int} (hv : ∀ k, k < R * C → 0 ≤ v k ∧ v k ≤ 60000000) (R4 : R ≤ 4) (C3 : C ≤ 3) (hs : subB S T) : ∀ n, goodS v P S nd R C n = true → goodS v P T nd R C n = true := by
  intro n
  induction n with
  | zero => intro _; rfl
  | succ n ih =>
    intro w
    rw [goodS, Bool.and_eq_true] at w ⊢
    refine ⟨ih w.1, ?_⟩
    rcases Bool.or_eq_true _ _ ▸ w.2 with z | z
    · rw [z]; rfl
    · rw [roomy_mo hv R4 C3 hs z, Bool.or_true]
theorem good_f {nd : Int} {p : Nat} (w : goodS v P T nd R C p = false) : ∀ n, p ≤ n → goodS v P T nd R C n = false := by
  intro n
  induction n with
  | zero => intro hn; have : p = 0 := by omega
            rw [← this]; exact w
  | succ n ih =>
    intro hn
    by_cases e : p = n + 1
    · rw [← e]; exact w
    · rw [goodS, ih (by omega), Bool.false_and]
/-- what the further cells cost -/
def cX (v : Nat → Int) (P T : Int32) : Nat → Int
  | 0 => 0
  | k + 1 => cX v P T k + if (gB T k && !gB P k) = true then v k + 1 else 0
theorem cX_or {t : Nat} (ht : t < 32) (h0 : gB S t = false) (hp : gB P t = false) : ∀ n, cX v P (S ||| hb t) n = cX v P S n + if t < n then v t + 1 else 0 := by
  intro n
  induction n with
  | zero => rfl
  | succ n ih =>
    rw [cX, cX, ih, gB_or, gB_sh ht]
    by_cases e : n = t
    · subst e
      have q1 : ¬ n < n := by omega
      have q2 : n < n + 1 := by omega
      rw [h0, hp, decide_eq_true rfl, if_neg q1, if_pos q2]
      simp
    · rw [decide_eq_false e, Bool.or_false]
      by_cases c : t < n
      · have q2 : t < n + 1 := by omega
        rw [if_pos c, if_pos q2]; omega
      · have q2 : ¬ t < n + 1 := by omega
        rw [if_neg c, if_neg q2]; omega
theorem cX_mo (hv : ∀ k, k < N → 0 ≤ v k ∧ v k ≤ 60000000) (hs : subB S T) : ∀ n, n ≤ N → cX v P S n ≤ cX v P T n := by
  intro n
  induction n with
  | zero => intro _; exact Int.le_refl _
  | succ n ih =>
    intro hn
    have i := ih (by omega)
    have b := hv n (by omega)
    rw [cX, cX]
    by_cases z : (gB S n && !gB P n) = true
    · rw [if_pos z]
      rw [Bool.and_eq_true] at z
      rw [if_pos (by rw [hs _ z.1, z.2]; rfl)]; omega
    · rw [if_neg z]
      split <;> omega
theorem cX_b (hv : ∀ k, k < N → 0 ≤ v k ∧ v k ≤ 60000000) : ∀ n, n ≤ N → 0 ≤ cX v P T n ∧ cX v P T n ≤ 60000001 * n := by
  intro n
  induction n with
  | zero => intro _; exact ⟨Int.le_refl _, Int.le_refl _⟩
  | succ n ih =>
    intro hn
    have i := ih (by omega)
    have b := hv n (by omega)
    rw [cX]
    split <;> omega
/-- a table as hiding needs it -/
def hdT (h : aH) (a pa sm R C : Nat) (w : Nat → Int32) (P : Int32) : Prop := ctT h a pa R C w ∧ (gR h a 7 = sm ∧ gK h sm = 100 ∧ gL h sm = R * C ∧ ∀ k, k < R * C → gI h sm k = w k) ∧ gI h a 6 = nI (R * C) ∧ gI h a 12 = P
theorem good_br {K : Int32 → aH → Prop} {a pa sm : Nat} {w : Nat → Int32} (hd : hdT h a pa sm R C w P) : CI (d + 3) 281 [vR a, vI T, vI nd] h K X ↔ K (bI (goodS (fun k => (w k).toInt) P T nd.toInt R C (R * C))) h := by
  obtain ⟨ct, hs, i6, i12⟩ := hd
  have ct0 := ct
  have hs0 := hs
  obtain ⟨⟨k0, e0⟩, ⟨⟨R1, R4⟩, C1, C3⟩, ⟨i4, i5⟩, -, -, hv⟩ := ct
  obtain ⟨q7, ks, ls, vs⟩ := hs
  have m12 : R * C ≤ 4 * 3 := Nat.mul_le_mul R4 C3
  have NI : (nI (R * C)).toInt = ((R * C : Nat) : Int) := ti_n (by omega)
  refine CI_iff fun K X w9 => m281 ?_
  have main : ∀ (n p : Nat), p + n = R * C → goodS (fun k => (w k).toInt) P T nd.toInt R C p = true → Wp (d + 3) 281 (2, [some (vR a), some (vI T), some (vI nd), some (vI (nI p))], [], h) (RI K X) := by
    intro n
    induction n with
    | zero =>
      intro p hp hg
      have hpc : p = R * C := by omega
      subst hpc
      refine w281_2 ?_
      simp only [↓forall_eq, ↓inB_iff, gK_hU, gL_hU, gR_hU, gIh, gJh, pI_hU, pJ_hU, hU_hU, uI_app, uJ_app, and_true, true_and, and_false, false_and, and_self, true_implies, false_implies, not_true, not_false_iff, if_true, if_false, eq_self, Nat.reduceLeDiff, Nat.reduceEqDiff, reduceCtorEq, i32c, ti0, ti1, tiM, Int.natCast_nonneg, Int.reduceEq, Int.reduceLE, Int.reduceLT, Int.reduceNeg, tl_i, Int32.reduceToInt, Int64.reduceToInt, tiA, tlM6, Int.toNat_natCast, natc, nI_1, Int.zero_sub, implies_true, not_false_eq_true, k0, i6, Int.lt_irrefl]
      rw [hg] at w9; exact w9
    | succ n ih =>
      intro p hp hg
      have nx := ih (p + 1) (by omega)
      rw [goodS, hg, Bool.true_and] at nx
      have no : (!gB P p || roomy (fun k => (w k).toInt) T nd.toInt R C p) = false → K 0 h := fun z => by
        rw [good_f (p := p + 1) (by rw [goodS, z, Bool.and_false]) (R * C) (by omega)] at w9; exact w9
      have hpI : (nI p).toInt = p := ti_n (by omega)
      have zp : (p : Int) < ((R * C : Nat) : Int) := by omega
      have hm : p % C < C := Nat.mod_lt _ (by omega)
      have hdv : p / C < R := Nat.div_lt_of_lt_mul (by rw [Nat.mul_comm]; omega)
      have ep : p / C * C + p % C = p := by rw [Nat.mul_comm]; exact Nat.div_add_mod p C
      have AB := fun (K : Int32 → aH → Prop) X => above_br (d := d) (S := T) (K := K) (X := X) ct0 hdv hm
      have BE := fun (K : Int32 → aH → Prop) X => below_br (d := d) (S := T) (K := K) (X := X) ct0 hs0 hdv hm
      rw [ep] at AB BE
      have rb := rmA_b (O := oth T p) (v := fun k => (w k).toInt) (r0 := p / C) (c0 := p % C) hv R4 C3 (2 ^ R)
      have sb := rmB_b (O := oth T p) (v := fun k => (w k).toInt) (r0 := p / C) (c0 := p % C) hv C3 (by rw [ep]; omega) (2 ^ R)
      rw [ep] at sb
      have bp := hv p (by omega)
      have z1 := ti_z (z := rmA (fun k => (w k).toInt) (oth T p) R C (p / C) (p % C) (2 ^ R)) (by omega) (by omega)
      have z2 := ti_z (z := rmB (fun k => (w k).toInt) (oth T p) R C (p / C) (p % C) (2 ^ R)) (by omega) (by omega)
      refine w281_2 ?_
      simp only [↓forall_eq, ↓inB_iff, gK_hU, gL_hU, gR_hU, gIh, gJh, pI_hU, pJ_hU, hU_hU, uI_app, uJ_app, and_true, true_and, and_false, false_and, and_self, true_implies, false_implies, not_true, not_false_iff, if_true, if_false, eq_self, Nat.reduceLeDiff, Nat.reduceEqDiff, reduceCtorEq, i32c, ti0, ti1, tiM, Int.natCast_nonneg, Int.reduceEq, Int.reduceLE, Int.reduceLT, Int.reduceNeg, tl_i, Int32.reduceToInt, Int64.reduceToInt, tiA, tlM6, Int.toNat_natCast, natc, nI_1, Int.zero_sub, implies_true, not_false_eq_true, k0, e0, i6, NI, hpI, zp, i12, ↓hasBit_br (show p < 32 by omega), bI0, ↓AB, ↓BE, q7, ks, ls, vs p (by omega), ↓min_br, z1, z2]
      unfold roomy at nx no
      refine ⟨fun z => nx (by rw [z]; rfl), fun z => ?_⟩
      have z' := bnf z
      rw [z', Bool.not_true, Bool.false_or] at nx no
      have mn : (if (w p).toInt < nd.toInt then w p else nd).toInt = if (w p).toInt < nd.toInt then (w p).toInt else nd.toInt := by split <;> rfl
      simp only [mn]
      refine ⟨fun a1 => no (by rw [decide_eq_false (by omega), Bool.false_and]), fun a1 => ⟨fun a2 => no (by rw [decide_eq_false (p := (if (w p).toInt < nd.toInt then (w p).toInt else nd.toInt) ≤ _) (by omega), Bool.and_false]), fun a2 => nx (by rw [decide_eq_true (show nd.toInt ≤ _ by omega), decide_eq_true (p := (if (w p).toInt < nd.toInt then (w p).toInt else nd.toInt) ≤ _) (by omega)]; rfl)⟩⟩
  exact main (R * C) 0 (by omega) rfl
/-- only the best so far changes -/
def tbF (h : aH) (a : Nat) (I : Nat → Nat → Int32) : Prop := (∀ b, b ≠ a → I b = gI h b) ∧ ∀ i, i ≠ 14 → i ≠ 15 → I a i = gI h a i
theorem hdT_hU {a pa sm : Nat} {w : Nat → Int32} (hd : hdT h a pa sm R C w P) (f : tbF h a I) : hdT (hU h I J) a pa sm R C w P := by
  obtain ⟨⟨⟨k0, e0⟩, b2, ⟨i4, i5⟩, ⟨q11, kp, lp⟩, ps, hv⟩, ⟨q7, ks, ls, vs⟩, i6, i12⟩ := hd
  have npa : pa ≠ a := fun e => by rw [e, k0] at kp; cases kp
  have nsm : sm ≠ a := fun e => by rw [e, k0] at ks; cases ks
  refine ⟨⟨⟨k0, e0⟩, b2, ⟨?_, ?_⟩, ⟨q11, kp, lp⟩, ?_, hv⟩, ⟨q7, ks, ls, ?_⟩, ?_, ?_⟩
  · rw [gIh, f.2 4 (by decide) (by decide)]; exact i4
  · rw [gIh, f.2 5 (by decide) (by decide)]; exact i5
  · rw [gIh, f.1 pa npa]; exact ps
  · rw [gIh, f.1 sm nsm]; exact vs
  · rw [gIh, f.2 6 (by decide) (by decide)]; exact i6
  · rw [gIh, f.2 12 (by decide) (by decide)]; exact i12
theorem c_pick {a pa sm : Nat} {w : Nat → Int32} (hd : hdT h a pa sm R C w P) : ∀ (n : Nat) (K : aH → Prop) (set op cost : Int32) (I : Nat → Nat → Int32) (b0 : Int32 × Int), n ≤ R * C → (∀ i, n ≤ i → gB op i = false) → (∀ i, gB op i = true → gB set i = false) → subB P set → goodS (fun k => (w k).toInt) P (set ||| op) nd.toInt R C (R * C) = true → cost.toInt = cX (fun k => (w k).toInt) P set (R * C) → tbF h a I → I a 14 = b0.1 → (I a 15).toInt = b0.2 →
    (∀ I1 b1, tbF h a I1 → I1 a 14 = b1.1 → (I1 a 15).toInt = b1.2 → best (fun T => goodS (fun k => (w k).toInt) P T nd.toInt R C (R * C)) (fun T => cX (fun k => (w k).toInt) P T (R * C)) (btw set op) b0 b1 → K (hU h I1 J)) → CV (d + n + 6) 282 [vR a, vI set, vI op, vI cost, vI nd] (hU h I J) K X := by
  have R4 : R ≤ 4 := hd.1.2.1.1.2
  have C3 : C ≤ 3 := hd.1.2.1.2.2
  have m12 : R * C ≤ 4 * 3 := Nat.mul_le_mul R4 C3
  have hv : ∀ k, k < R * C → 0 ≤ (w k).toInt ∧ (w k).toInt ≤ 60000000 := hd.1.2.2.2.2.2
  have NI : (nI (R * C)).toInt = ((R * C : Nat) : Int) := ti_n (by omega)
  have e0 : 8 ≤ a := hd.1.1.2
  have k0 : gK h a = 11 := hd.1.1.1
  intro n
  induction n with
  | zero =>
    intro K set op cost I b0 hn hop s3 s1 hF hcost s i1 i2 kk
    have op0 : op.toInt = 0 := gB_zero.mpr fun i _ => hop i (by omega)
    have opz : op = 0 := ti_inj (by rw [op0]; rfl)
    subst opz
    have e9 : set ||| 0 = set := gB_ext fun i _ => by rw [gB_or, gB_0, Bool.or_false]
    rw [e9] at hF
    refine m282 ?_
    simp only [↓forall_eq, ↓inB_iff, gK_hU, gL_hU, gR_hU, gIh, gJh, pI_hU, pJ_hU, hU_hU, uI_app, uJ_app, and_true, true_and, and_false, false_and, and_self, true_implies, false_implies, not_true, not_false_iff, if_true, if_false, eq_self, Nat.reduceLeDiff, Nat.reduceEqDiff, reduceCtorEq, i32c, ti0, ti1, tiM, Int.natCast_nonneg, Int.reduceEq, Int.reduceLE, Int.reduceLT, Int.reduceNeg, tl_i, Int32.reduceToInt, Int64.reduceToInt, tiA, tlM6, Int.toNat_natCast, natc, nI_1, Int.zero_sub, implies_true, not_false_eq_true, k0, e0, op0]
    refine ⟨fun c => kk _ (set, cost.toInt) ⟨fun b h1 => ?_, fun i h1 h2 => ?_⟩ ?_ ?_ ?_, fun c => kk I b0 s i1 i2 (Or.inl ⟨rfl, fun T hT hTF => ?_⟩)⟩
    · rw [uI_ne _ _ _ h1, uI_ne _ _ _ h1]; exact s.1 b h1
    · rw [uI_app, if_neg (by omega), uI_app, if_neg (by omega)]; exact s.2 i h1 h2
    · rw [uI_app, if_neg (by omega), uI_same]
    · rw [uI_same]
    · refine Or.inr ⟨⟨fun i hi => hi, or_l⟩, hF, hcost, by rw [← i2]; exact c, fun T hT hTF => ?_⟩
      have := cX_mo (v := fun k => (w k).toInt) (P := P) hv hT.1 (R * C) (Nat.le_refl _)
      exact ⟨by dsimp only; omega, fun _ => sub_le hT.1⟩
    · have := cX_mo (v := fun k => (w k).toInt) (P := P) hv hT.1 (R * C) (Nat.le_refl _)
      rw [i2] at c
      dsimp only
      omega
  | succ n ih =>
    intro K set op cost I b0 hn hop s3 s1 hF hcost s i1 i2 kk
    by_cases op0 : op.toInt = 0
    · have opz : op = 0 := ti_inj (by rw [op0]; rfl)
      subst opz
      have e9 : set ||| 0 = set := gB_ext fun i _ => by rw [gB_or, gB_0, Bool.or_false]
      rw [e9] at hF
      refine m282 ?_
      simp only [↓forall_eq, ↓inB_iff, gK_hU, gL_hU, gR_hU, gIh, gJh, pI_hU, pJ_hU, hU_hU, uI_app, uJ_app, and_true, true_and, and_false, false_and, and_self, true_implies, false_implies, not_true, not_false_iff, if_true, if_false, eq_self, Nat.reduceLeDiff, Nat.reduceEqDiff, reduceCtorEq, i32c, ti0, ti1, tiM, Int.natCast_nonneg, Int.reduceEq, Int.reduceLE, Int.reduceLT, Int.reduceNeg, tl_i, Int32.reduceToInt, Int64.reduceToInt, tiA, tlM6, Int.toNat_natCast, natc, nI_1, Int.zero_sub, implies_true, not_false_eq_true, k0, e0, op0]
      refine ⟨fun c => kk _ (set, cost.toInt) ⟨fun b h1 => ?_, fun i h1 h2 => ?_⟩ ?_ ?_ ?_, fun c => kk I b0 s i1 i2 (Or.inl ⟨rfl, fun T hT hTF => ?_⟩)⟩
      · rw [uI_ne _ _ _ h1, uI_ne _ _ _ h1]; exact s.1 b h1
      · rw [uI_app, if_neg (by omega), uI_app, if_neg (by omega)]; exact s.2 i h1 h2
      · rw [uI_app, if_neg (by omega), uI_same]
      · rw [uI_same]
      · refine Or.inr ⟨⟨fun i hi => hi, or_l⟩, hF, hcost, by rw [← i2]; exact c, fun T hT hTF => ?_⟩
        have := cX_mo (v := fun k => (w k).toInt) (P := P) hv hT.1 (R * C) (Nat.le_refl _)
        exact ⟨by dsimp only; omega, fun _ => sub_le hT.1⟩
      · have := cX_mo (v := fun k => (w k).toInt) (P := P) hv hT.1 (R * C) (Nat.le_refl _)
        rw [i2] at c
        dsimp only
        omega
    · obtain ⟨t, t1, t2, t3⟩ := top_bit (n + 1) (by omega) hop op0
      have ts : gB set t = false := s3 t t2
      have tP : gB P t = false := by
        cases hh : gB P t
        · rfl
        · rw [s1 t hh] at ts; cases ts
      generalize hrest : op &&& (hb t ^^^ (-1)) = rest at *
      have rb : ∀ i, gB rest i = (gB op i && !decide (i = t)) := fun i => by
        rw [← hrest, gB_and]
        by_cases hi : i < 32
        · rw [gB_not _ hi, gB_sh (by omega)]
        · rw [gB_32 (x := op) (by omega), Bool.false_and, Bool.false_and]
      have rsub : subB rest op := fun i hi => by
        rw [rb] at hi
        cases hh : gB op i
        · rw [hh, Bool.false_and] at hi; exact hi
        · rfl
      have rt : gB rest t = false := by rw [rb, decide_eq_true rfl, Bool.not_true, Bool.and_false]
      have rhi : ∀ i, t ≤ i → gB rest i = false := fun i hi => by
        by_cases c : i = t
        · rw [c]; exact rt
        · rw [rb, t3 i (by omega), Bool.false_and]
      have hall : (set ||| hb t) ||| rest = set ||| op := gB_ext fun i _ => by
        rw [gB_or, gB_or, gB_or, rb, gB_sh (by omega)]
        by_cases c : i = t
        · subst c; rw [t2, decide_eq_true rfl]; simp
        · rw [decide_eq_false c]; simp
      have bt := hv t (by omega)
      have ve : (w t + 1).toInt = (w t).toInt + 1 := by rw [ti_add (by rw [ti1]; omega) (by rw [ti1]; omega), ti1]
      have cadd : (cost + (w t + 1)).toInt = cX (fun k => (w k).toInt) P (set ||| hb t) (R * C) := by
        have b1 := cX_b (v := fun k => (w k).toInt) (P := P) (T := set) hv (R * C) (Nat.le_refl _)
        rw [ti_add (by rw [hcost, ve]; omega) (by rw [hcost, ve]; omega), hcost, cX_or (by omega) ts tP, if_pos (show t < R * C by omega), ve]
      have split : ∀ T, btw set op T ↔ btw set rest T ∨ btw (set ||| hb t) rest T := fun T => by
        constructor
        · rintro ⟨w1, w2⟩
          cases hT : gB T t
          · refine Or.inl ⟨w1, fun i hi => ?_⟩
            have := w2 i hi
            rw [gB_or] at this ⊢
            rw [rb]
            by_cases c : i = t
            · rw [c, hT] at hi; cases hi
            · rw [decide_eq_false c, Bool.not_false, Bool.and_true]; exact this
          · refine Or.inr ⟨sub_or w1 (fun i hi => ?_), by rw [hall]; exact w2⟩
            rw [gB_sh (by omega)] at hi
            rw [of_decide_eq_true hi]; exact hT
        · rintro (⟨w1, w2⟩ | ⟨w1, w2⟩)
          · exact ⟨w1, sub_tr w2 (sub_or or_l (fun i hi => by rw [gB_or, rsub i hi, Bool.or_true]))⟩
          · rw [hall] at w2
            exact ⟨sub_tr or_l w1, w2⟩
      have ord : ∀ T1 T2, btw set rest T1 → btw (set ||| hb t) rest T2 → msk T1 < msk T2 := fun T1 T2 ⟨w1, w2⟩ ⟨w3, w4⟩ => by
        have g1 : ∀ i, t ≤ i → gB T1 i = gB set i := fun i hi => by
          cases hs : gB set i
          · cases hT : gB T1 i
            · rfl
            · have := w2 i hT; rw [gB_or, hs, rhi i hi] at this; exact this.symm
          · exact w1 i hs
        have g2 : ∀ i, t < i → gB T2 i = gB set i := fun i hi => by
          cases hs : gB set i
          · cases hT : gB T2 i
            · rfl
            · have := w4 i hT; rw [gB_or, gB_or, hs, rhi i (by omega), gB_sh (by omega), decide_eq_false (by omega)] at this; exact this.symm
          · exact w3 i (or_l i hs)
        refine msk_lt_bit (t := t) (by rw [g1 t (Nat.le_refl _)]; exact ts) (w3 t (by rw [gB_or, gB_sh (by omega), decide_eq_true rfl, Bool.or_true])) (fun i hi => by rw [g1 i (by omega), g2 i hi])
      have nt : ∀ (d : Nat) (h : aH) (K : Int32 → aH → Prop) (X : Nat → aH → Prop), CI d 152 [vI (hb t)] h K X ↔ K (nI t) h := fun d h K X => ntz_br (by omega) (by rw [gB_sh (by omega), decide_eq_true rfl]) (fun i hi => by rw [gB_sh (by omega), decide_eq_false (by omega)])
      have second : ∀ (I2 : Nat → Nat → Int32) (b1 : Int32 × Int), tbF h a I2 → I2 a 14 = b1.1 → (I2 a 15).toInt = b1.2 → best (fun T => goodS (fun k => (w k).toInt) P T nd.toInt R C (R * C)) (fun T => cX (fun k => (w k).toInt) P T (R * C)) (btw set rest) b0 b1 → CV (d + n + 6) 282 [vR a, vI (set ||| hb t), vI rest, vI (cost + (w t + 1)), vI nd] (hU h I2 J) K X := fun I2 b1 q1 q2 q3 q4 =>
        ih K _ _ _ I2 b1 (by omega) (fun i hi => rhi i (by omega)) (fun i hi => by
          have jt : i < t := Nat.lt_of_not_le fun q => by rw [rhi i q] at hi; cases hi
          rw [gB_or, gB_sh (by omega), decide_eq_false (by omega), s3 i (rsub i hi)]; rfl) (sub_tr s1 or_l) (by rw [hall]; exact hF) cadd q1 q2 q3 (fun I3 b2 w1 w2 w3 w4 => kk I3 b2 w1 w2 w3 (best_two q4 w4 ord split))
      have tail : ∀ (I2 : Nat → Nat → Int32) (b1 : Int32 × Int), tbF h a I2 → I2 a 14 = b1.1 → (I2 a 15).toInt = b1.2 → best (fun T => goodS (fun k => (w k).toInt) P T nd.toInt R C (R * C)) (fun T => cX (fun k => (w k).toInt) P T (R * C)) (btw set rest) b0 b1 → Wp (d + n + 7) 282 (61, [some (vR a), some (vI set), none, some (vI cost), some (vI nd), some (vI (hb t)), some (vI rest), none], [], hU h I2 J) (RV K X) := fun I2 b1 q1 q2 q3 q4 => by
        obtain ⟨⟨⟨x0, -⟩, -⟩, ⟨x7, xk, xl, xv⟩, x6, -⟩ := hdT_hU (J := J) hd q1
        have x6' : I2 a 6 = nI (R * C) := x6
        have xv' : I2 sm t = w t := xv t (by omega)
        have x7' : gR h a 7 = sm := x7
        have xk' : gK h sm = 100 := xk
        have xl' : gL h sm = R * C := xl
        have zt : (t : Int) < ((R * C : Nat) : Int) := by omega
        have hxI : (nI t).toInt = t := ti_n (by omega)
        refine w282_61 ?_
        rw [nt]
        simp only [↓forall_eq, ↓inB_iff, gK_hU, gL_hU, gR_hU, gIh, gJh, pI_hU, pJ_hU, hU_hU, uI_app, uJ_app, and_true, true_and, and_false, false_and, and_self, true_implies, false_implies, not_true, not_false_iff, if_true, if_false, eq_self, Nat.reduceLeDiff, Nat.reduceEqDiff, reduceCtorEq, i32c, ti0, ti1, tiM, Int.natCast_nonneg, Int.reduceEq, Int.reduceLE, Int.reduceLT, Int.reduceNeg, tl_i, Int32.reduceToInt, Int64.reduceToInt, tiA, tlM6, Int.toNat_natCast, natc, nI_1, Int.zero_sub, implies_true, not_false_eq_true, k0, e0, x6', NI, hxI, zt, x7', xk', xl', xv']
        exact second I2 b1 q1 q2 q3 q4
      have rest0 : op &&& ((1 <<< (nI t &&& 31)) ^^^ (-1)) = rest := hrest
      rw [show d + (n + 1) + 6 = d + n + 7 by omega]
      have GB := fun (K : Int32 → aH → Prop) X => good_br (d := d + n + 3) (T := set ||| rest) (nd := nd) (K := K) (X := X) (hdT_hU (J := J) hd s)
      refine m282 ?_
      simp only [↓forall_eq, ↓inB_iff, gK_hU, gL_hU, gR_hU, gIh, gJh, pI_hU, pJ_hU, hU_hU, uI_app, uJ_app, and_true, true_and, and_false, false_and, and_self, true_implies, false_implies, not_true, not_false_iff, if_true, if_false, eq_self, Nat.reduceLeDiff, Nat.reduceEqDiff, reduceCtorEq, i32c, ti0, ti1, tiM, Int.natCast_nonneg, Int.reduceEq, Int.reduceLE, Int.reduceLT, Int.reduceNeg, tl_i, Int32.reduceToInt, Int64.reduceToInt, tiA, tlM6, Int.toNat_natCast, natc, nI_1, Int.zero_sub, implies_true, not_false_eq_true, k0, e0, op0, ↓highest_br (show t < 31 by omega) t2 t3, rest0, ↓GB, bI0]
      refine ⟨fun c => ⟨fun cf => tail I b0 s i1 i2 (best_none fun T hT => ?_), fun cf => ?_⟩, fun c => kk I b0 s i1 i2 (Or.inl ⟨rfl, fun T hT hTF => ?_⟩)⟩
      · cases hT2 : goodS (fun k => (w k).toInt) P T nd.toInt R C (R * C)
        · rfl
        · rw [good_mo hv R4 C3 hT.2 _ hT2] at cf; cases cf
      · exact ih _ set rest cost I b0 (by omega) (fun i hi => rhi i (by omega)) (fun i hi => s3 i (rsub i hi)) s1 (bnf cf) hcost s i1 i2 tail
      · have := cX_mo (v := fun k => (w k).toInt) (P := P) hv hT.1 (R * C) (Nat.le_refl _)
        rw [i2] at c
        dsimp only
        omega
end HID
