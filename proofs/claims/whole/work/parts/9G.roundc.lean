/-! ROUNDING: there is a way, and the class takes the first -/
section RDC
variable {d t R C N m k : Nat} {h : aH} {A o : Nat → Nat} {X : Nat → aH → Prop} {M I : Nat → Nat → Int32} {J : Nat → Nat → Int64} {rn wn : Nat → Nat} {S T F Fr y : Int32} {a sm pu : Nat}
/-- the cells that can be raised -/
abbrev frC (rn : Nat → Nat) (N : Nat) : Int32 := bits (fun k => !decide (rn k = 0)) N
theorem lnG_sN {r c : Nat} : ∀ n, lnG rn m T R C r c n = sN (fun k => if inC R C (r : Int) (c : Int) k = true then (if gB T k = true then (m : Int) else 0) - (rn k : Int) else 0) n := by
  intro n
  induction n with
  | zero => rfl
  | succ n ih => rw [lnG, sN, ih]
theorem line_sum {G : Nat → Nat → Int} {r c : Nat} (hC : 0 < C) (h3 : (r = R ∧ c = C) ∨ (r = R ∧ c < C) ∨ (r < R ∧ c = C)) : sN (fun k => if inC R C (r : Int) (c : Int) k = true then G (k / C) (k % C) else 0) (R * C) = if r = R then (if c = C then sN (fun i => sN (G i) C) R else sN (fun i => G i c) R) else sN (G r) C := by
  have e : ∀ k, (if inC R C (r : Int) (c : Int) k = true then G (k / C) (k % C) else 0) = (fun i j => if (r = R ∨ i = r) ∧ (c = C ∨ j = c) then G i j else 0) (k / C) (k % C) := fun k => by
    dsimp only
    by_cases z : (r = R ∨ k / C = r) ∧ (c = C ∨ k % C = c)
    · rw [if_pos z, if_pos]
      unfold inC
      rw [Bool.and_eq_true, Bool.or_eq_true, Bool.or_eq_true, decide_eq_true_iff, decide_eq_true_iff, decide_eq_true_iff, decide_eq_true_iff]
      omega
    · rw [if_neg z, if_neg]
      intro y
      unfold inC at y
      rw [Bool.and_eq_true, Bool.or_eq_true, Bool.or_eq_true, decide_eq_true_iff, decide_eq_true_iff, decide_eq_true_iff, decide_eq_true_iff] at y
      exact z (by omega)
  rw [sN_cg (R * C) (fun k _ => e k), sN_flat (fun i j => if (r = R ∨ i = r) ∧ (c = C ∨ j = c) then G i j else 0) hC R]
  rcases h3 with ⟨e1, e2⟩ | ⟨e1, e2⟩ | ⟨e1, e2⟩
  · rw [if_pos e1, if_pos e2]
    refine sN_cg R fun i _ => sN_cg C fun j _ => ?_
    rw [if_pos ⟨Or.inl e1, Or.inl e2⟩]
  · rw [if_pos e1, if_neg (by omega)]
    refine sN_cg R fun i _ => ?_
    have := sN_one (c := c) (G i) C
    rw [if_pos e2] at this
    rw [← this]
    refine sN_cg C fun j _ => ?_
    by_cases z : j = c
    · rw [if_pos ⟨Or.inl e1, Or.inr z⟩, if_pos z]
    · rw [if_neg (fun y => y.2.elim (fun q => by omega) (fun q => z q)), if_neg z]
  · rw [if_neg (by omega)]
    have := sN_one (c := r) (fun i => sN (G i) C) R
    rw [if_pos e1] at this
    rw [← this]
    refine sN_cg R fun i _ => ?_
    by_cases z : i = r
    · rw [if_pos z]
      refine sN_cg C fun j _ => ?_
      rw [if_pos ⟨Or.inr z, Or.inl e2⟩]
    · rw [if_neg z]
      refine (sN_cg C (g := fun _ => 0) fun j _ => ?_).trans (sN_0 C)
      rw [if_neg (fun y => y.1.elim (fun q => by omega) (fun q => z q))]
theorem line_cell {r c : Nat} (R1 : 1 ≤ R) (C1 : 1 ≤ C) (h1 : r ≤ R) (h2 : c ≤ C) (h3 : r = R ∨ c = C) : ∃ i, i < R * C ∧ inC R C (r : Int) (c : Int) i = true := by
  have pos : 1 * C ≤ R * C := Nat.mul_le_mul_right _ R1
  by_cases e1 : r = R
  · by_cases e2 : c = C
    · refine ⟨0, by omega, ?_⟩
      unfold inC
      rw [decide_eq_true (show (r : Int) = R by omega), decide_eq_true (show (c : Int) = C by omega)]; rfl
    · refine ⟨c, by omega, ?_⟩
      unfold inC
      rw [decide_eq_true (show (r : Int) = R by omega), Nat.mod_eq_of_lt (show c < C by omega), decide_eq_true (show (c : Int) = c from rfl), Bool.or_true]; rfl
  · have e2 : c = C := by omega
    have : (r + 1) * C ≤ R * C := Nat.mul_le_mul_right _ (by omega)
    rw [Nat.succ_mul] at this
    refine ⟨r * C, by omega, ?_⟩
    unfold inC
    rw [Nat.mul_div_cancel _ (by omega), decide_eq_true (show (r : Int) = r from rfl), decide_eq_true (show (c : Int) = C by omega), Bool.or_true]; rfl
theorem way_some (m1 : 1 ≤ m) (hR : R * C ≤ 12) (C3 : 1 ≤ C ∧ C ≤ 3) (hr : ∀ k, rn k < m) : ∃ T, wayT rn m (frC rn (R * C)) T R C := by
  obtain ⟨y, y1, y2, y3, y4⟩ := ctl_ex (a := fun i j => (rn (i * C + j) : Int)) (m := (m : Int)) (R := R) (C := C) (by omega) C3.2 (fun i _ j _ => by have := hr (i * C + j); omega)
  have gT : ∀ k, gB (bits (fun k => decide (y (k / C) (k % C) = m)) (R * C)) k = (decide (k < R * C) && decide (y (k / C) (k % C) = m)) := fun k => gB_bits _ (by omega) k
  have dm : ∀ k, k < R * C → k / C < R ∧ k % C < C ∧ k / C * C + k % C = k := fun k hk => ⟨Nat.div_lt_of_lt_mul (by rw [Nat.mul_comm]; exact hk), Nat.mod_lt _ (by omega), by rw [Nat.mul_comm]; exact Nat.div_add_mod k C⟩
  refine ⟨bits (fun k => decide (y (k / C) (k % C) = m)) (R * C), fun i hi => ?_, fun r c h1 h2 h3 => ?_⟩
  · rw [gT, Bool.and_eq_true, decide_eq_true_iff, decide_eq_true_iff] at hi
    obtain ⟨d1, d2, d3⟩ := dm i hi.1
    rw [gB_bits _ (by omega), decide_eq_true hi.1, Bool.true_and]
    have q := (y1 _ d1 _ d2).2
    rw [d3] at q
    have : ¬ rn i = 0 := fun e => by
      have := q (by rw [e]; rfl)
      omega
    rw [decide_eq_false this]; rfl
  · have e : lnG rn m (bits (fun k => decide (y (k / C) (k % C) = m)) (R * C)) R C r c (R * C) = sN (fun k => if inC R C (r : Int) (c : Int) k = true then (fun i j => y i j - (rn (i * C + j) : Int)) (k / C) (k % C) else 0) (R * C) := by
      rw [lnG_sN]
      refine sN_cg (R * C) fun k hk => ?_
      obtain ⟨d1, d2, d3⟩ := dm k hk
      have : (if gB (bits (fun k => decide (y (k / C) (k % C) = m)) (R * C)) k = true then (m : Int) else 0) = y (k / C) (k % C) := by
        rw [gT, decide_eq_true hk, Bool.true_and]
        rcases (y1 _ d1 _ d2).1 with z | z
        · rw [decide_eq_false (by omega), if_neg (by decide), z]
        · rw [decide_eq_true z, if_pos rfl, z]
      rw [this]
      dsimp only
      rw [d3]
    unfold okL
    have LS := line_sum (R := R) (C := C) (G := fun i j => y i j - (rn (i * C + j) : Int)) (r := r) (c := c) (by omega) (by omega)
    rw [e, LS]
    by_cases e1 : r = R
    · rw [if_pos e1]
      by_cases e2 : c = C
      · rw [if_pos e2]
        have : sN (fun i => sN (fun j => y i j - (rn (i * C + j) : Int)) C) R = sN (fun i => sN (y i) C - sN (fun j => (rn (i * C + j) : Int)) C) R := sN_cg R fun i _ => sN_sub _ _ C
        rw [this, sN_sub]; exact y4
      · rw [if_neg e2, sN_sub]; exact y3 c (by omega)
    · rw [if_neg e1, sN_sub]; exact y2 r (by omega)
/-- the first way -/
def fstT (rn : Nat → Nat) (m : Nat) (R C : Nat) (y : Int32) : Prop := wayT rn m (frC rn (R * C)) y R C ∧ ∀ T, wayT rn m (frC rn (R * C)) T R C → lexT y T
abbrev rdV (wn : Nat → Nat) (m : Nat) (y : Int32) (k : Nat) : Nat := wn k - wn k % m + if gB y k = true then m else 0
theorem fst_msk (hR : R * C ≤ 12) (f : wayT rn m (frC rn (R * C)) y R C) : msk y < 2 ^ (R * C) ∧ ∀ i, gB y i = true → i < R * C ∧ ¬ rn i = 0 := by
  have h1 : ∀ i, gB y i = true → i < R * C ∧ ¬ rn i = 0 := fun i hi => by
    have := f.1 i hi
    rw [gB_bits _ (by omega), Bool.and_eq_true, decide_eq_true_iff] at this
    refine ⟨this.1, fun e => ?_⟩
    have := this.2
    rw [decide_eq_true e] at this; cases this
  refine ⟨msk_lt fun i hi => ?_, h1⟩
  cases hh : gB y i
  · rfl
  · have := (h1 i hh).1; omega
theorem c_round {K : Int32 → aH → Prop} (rd : rdT h a sm R C wn) (m1 : 1 ≤ m ∧ m ≤ 1000) (pb : gR h a 10 = pu ∧ gK h pu = 100 ∧ gL h pu = R * C ∧ 8 ≤ pu) (ne : pu ≠ sm)
    (kk : ∀ I1 y, fstT (fun k => wn k % m) m R C y → (∀ b, b ≠ pu → I1 b = gI h b) → (∀ k, k < R * C → I1 pu k = nI (rdV wn m y k)) → K (nI (cntB y (R * C))) (hU h I1 J)) : CI (d + 20) 303 [vR a, vI (nI m)] (hU h (gI h) J) K X := by
  have rd0 := rd
  obtain ⟨⟨k0, e0⟩, ⟨⟨R1, R4⟩, C1, C3⟩, ⟨i4, i5, i6⟩, ⟨q7, ks, ls⟩, vs⟩ := rd
  obtain ⟨q10, kp, lp, ep⟩ := pb
  have m12 : R * C ≤ 4 * 3 := Nat.mul_le_mul R4 C3
  have NI : (nI (R * C)).toInt = ((R * C : Nat) : Int) := ti_n (by omega)
  have mI : (nI m).toInt = m := ti_n (by omega)
  have mne : ¬ nI m = 0 := fun e => by rw [e] at mI; have : (0 : Int32).toInt = 0 := rfl; omega
  have nap : a ≠ pu := fun e => by rw [e, kp] at k0; cases k0
  have hr : ∀ k, wn k % m < m := fun k => Nat.mod_lt _ (by omega)
  have md : ∀ p, p < R * C → aIrem (nI (wn p)) (nI m) = nI (wn p % m) := fun p hp => nI_rem (by have := (vs p hp).2; omega) (by omega)
  have ws := way_some (rn := fun k => wn k % m) m1.1 (by omega) ⟨C1, C3⟩ hr
  -- writing
  have wr : ∀ y, fstT (fun k => wn k % m) m R C y → ∀ (n p : Nat) (I1 : Nat → Nat → Int32), p + n = R * C → (∀ b, b ≠ pu → I1 b = gI h b) → (∀ k, k < p → I1 pu k = nI (rdV wn m y k)) → Wp (d + 20) 303 (62, [some (vR a), some (vI (nI m)), none, some (vI y), some (vI (nI p))], [], hU h I1 J) (RI K X) := by
    intro y hy n
    have fm := fst_msk (by omega) hy.1
    induction n with
    | zero =>
      intro p I1 hp f1 f2
      have hpc : p = R * C := by omega
      subst hpc
      have j6 : I1 a 6 = nI (R * C) := by rw [f1 a nap]; exact i6
      have p20 : 2 ^ (R * C) ≤ 2 ^ 20 := Nat.pow_le_pow_right (by decide) (by omega)
      have cm := cnt_mono (x := y) (fun i hi => (fm.2 i hi).1) (20 - R * C)
      rw [show R * C + (20 - R * C) = 20 by omega] at cm
      refine w303_62 ?_
      simp only [↓forall_eq, ↓inB_iff, gK_hU, gL_hU, gR_hU, gIh, gJh, pI_hU, pJ_hU, hU_hU, uI_app, uJ_app, and_true, true_and, and_false, false_and, and_self, true_implies, false_implies, not_true, not_false_iff, if_true, if_false, eq_self, Nat.reduceLeDiff, Nat.reduceEqDiff, reduceCtorEq, i32c, ti0, ti1, tiM, Int.natCast_nonneg, Int.reduceEq, Int.reduceLE, Int.reduceLT, Int.reduceNeg, tl_i, Int32.reduceToInt, Int64.reduceToInt, tiA, tlM6, Int.toNat_natCast, natc, nI_1, Int.zero_sub, implies_true, not_false_eq_true, k0, j6, Int.lt_irrefl, ↓bitCount_br (show msk y < 2 ^ 20 by omega), cm]
      exact kk I1 y hy f1 f2
    | succ n ih =>
      intro p I1 hp f1 f2
      have hpI : (nI p).toInt = p := ti_n (by omega)
      have zp : (p : Int) < ((R * C : Nat) : Int) := by omega
      have j6 : I1 a 6 = nI (R * C) := by rw [f1 a nap]; exact i6
      have vp := vs p (by omega)
      have js : I1 sm p = nI (wn p) := by rw [f1 sm (Ne.symm ne)]; exact vp.1
      have ml := Nat.mod_le (wn p) m
      have wI : (nI (wn p)).toInt = wn p := ti_n (by omega)
      have rI : (nI (wn p % m)).toInt = ((wn p % m : Nat) : Int) := ti_n (by omega)
      have sb : nI (wn p) - nI (wn p % m) = nI (wn p - wn p % m) := ti_inj (by rw [ti_sub (by omega) (by omega), wI, rI, ti_n (by omega)]; omega)
      have nx : ∀ x, x = nI (rdV wn m y p) → Wp (d + 20) 303 (62, [some (vR a), some (vI (nI m)), none, some (vI y), some (vI (nI (p + 1)))], [], hU h (uI I1 pu p x) J) (RI K X) := fun x hx => ih (p + 1) _ (by omega) (fun b hb => by rw [uI_ne _ _ _ hb]; exact f1 b hb) (fun k hk => by
        rw [uI_app]
        by_cases e : k = p
        · subst e; rw [if_pos ⟨rfl, rfl⟩, hx]
        · rw [if_neg (fun q => e q.2)]; exact f2 k (by omega))
      refine w303_62 ?_
      simp only [↓forall_eq, ↓inB_iff, gK_hU, gL_hU, gR_hU, gIh, gJh, pI_hU, pJ_hU, hU_hU, uI_app, uJ_app, and_true, true_and, and_false, false_and, and_self, true_implies, false_implies, not_true, not_false_iff, if_true, if_false, eq_self, Nat.reduceLeDiff, Nat.reduceEqDiff, reduceCtorEq, i32c, ti0, ti1, tiM, Int.natCast_nonneg, Int.reduceEq, Int.reduceLE, Int.reduceLT, Int.reduceNeg, tl_i, Int32.reduceToInt, Int64.reduceToInt, tiA, tlM6, Int.toNat_natCast, natc, nI_1, Int.zero_sub, implies_true, not_false_eq_true, k0, j6, NI, hpI, zp, q7, q10, ks, ls, kp, lp, ep, js, mne, md p (by omega), ↓hasBit_br (show p < 32 by omega), bI0, sb, Int32.add_zero]
      refine ⟨fun z => nx _ (by rw [rdV, if_neg (by rw [z]; decide), Nat.add_zero]), fun z => nx _ (by rw [rdV, if_pos (bnf z), nI_add])⟩
  refine m303 ?_
  have main : ∀ (n p : Nat), p + n = R * C → Wp (d + 20) 303 (11, [some (vR a), some (vI (nI m)), some (vI (frC (fun k => wn k % m) p)), some (vI (nI p)), none], [], hU h (gI h) J) (RI K X) := by
    intro n
    induction n with
    | zero =>
      intro p hp
      have hpc : p = R * C := by omega
      subst hpc
      refine w303_11 ?_
      simp only [↓forall_eq, ↓inB_iff, gK_hU, gL_hU, gR_hU, gIh, gJh, pI_hU, pJ_hU, hU_hU, uI_app, uJ_app, and_true, true_and, and_false, false_and, and_self, true_implies, false_implies, not_true, not_false_iff, if_true, if_false, eq_self, Nat.reduceLeDiff, Nat.reduceEqDiff, reduceCtorEq, i32c, ti0, ti1, tiM, Int.natCast_nonneg, Int.reduceEq, Int.reduceLE, Int.reduceLT, Int.reduceNeg, tl_i, Int32.reduceToInt, Int64.reduceToInt, tiA, tlM6, Int.toNat_natCast, natc, nI_1, Int.zero_sub, implies_true, not_false_eq_true, k0, e0, i6, Int.lt_irrefl]
      have hFr : ∀ i, R * C ≤ i → gB (frC (fun k => wn k % m) (R * C)) i = false := fun i hi => by rw [gB_bits _ (by omega), decide_eq_false (by omega), Bool.false_and]
      have rd1 : rdT (hU h (gI h) J) a sm R C wn := rd0
      have cr := c_raise (d := d + 15 - R * C) (X := X) (h := hU h (gI h) J) rd1 m1 hFr (R * C) 0 0 (fun y0 h0 => CI (d + 19) 0 [vI 0, vI y0] h0 (fun y1 h1 => Wp (d + 20) 303 (62, [some (vR a), some (vI (nI m)), none, some (vI y1), some (vI 0)], [], h1) (RI K X)) X) (by omega) sub_0 (fun i _ => gB_0 i) (fun r c h1 h2 h3 h4 => by
        obtain ⟨i, q1, q2⟩ := line_cell (R := R) (C := C) (r := r) (c := c) R1 C1 h1 h2 h3
        exact absurd (h4 i q1 q2) (by omega)) (fun y hy => ?_)
      · rw [show d + 15 - R * C + R * C + 4 = d + 19 by omega] at cr
        exact cr
      · rcases hy with ⟨y1, y2⟩ | ⟨y1, y2, y3⟩
        · obtain ⟨T, hT⟩ := ws
          exact absurd (fun i hi => by omega) (y2 T hT)
        · have fm := fst_msk (by omega) y1
          have p12 : 2 ^ (R * C) ≤ 2 ^ 12 := Nat.pow_le_pow_right (by decide) (by omega)
          have yI : y.toInt = (msk y : Int) := msk_ti (by omega)
          rw [max_br]
          have ey : (if (0 : Int32).toInt < y.toInt then y else 0) = y := by
            by_cases z : (0 : Int32).toInt < y.toInt
            · rw [if_pos z]
            · rw [if_neg z]
              have z0 : (0 : Int32).toInt = 0 := rfl
              exact ti_inj (by omega)
          rw [ey]
          exact wr y ⟨y1, fun T hT => y3 T hT (fun i hi => by omega)⟩ (R * C) 0 (gI h) (by omega) (fun _ _ => rfl) (fun k hk => by omega)
    | succ n ih =>
      intro p hp
      have nx := ih (p + 1) (by omega)
      have hpI : (nI p).toInt = p := ti_n (by omega)
      have zp : (p : Int) < ((R * C : Nat) : Int) := by omega
      have vp := vs p (by omega)
      have rI : (nI (wn p % m)).toInt = ((wn p % m : Nat) : Int) := ti_n (by have := hr p; omega)
      have or0 : ∀ x : Int32, x ||| 0 = x := fun x => gB_ext fun i _ => by rw [gB_or, gB_0, Bool.or_false]
      rw [frC, bits] at nx
      refine w303_11 ?_
      simp only [↓forall_eq, ↓inB_iff, gK_hU, gL_hU, gR_hU, gIh, gJh, pI_hU, pJ_hU, hU_hU, uI_app, uJ_app, and_true, true_and, and_false, false_and, and_self, true_implies, false_implies, not_true, not_false_iff, if_true, if_false, eq_self, Nat.reduceLeDiff, Nat.reduceEqDiff, reduceCtorEq, i32c, ti0, ti1, tiM, Int.natCast_nonneg, Int.reduceEq, Int.reduceLE, Int.reduceLT, Int.reduceNeg, tl_i, Int32.reduceToInt, Int64.reduceToInt, tiA, tlM6, Int.toNat_natCast, natc, nI_1, Int.zero_sub, implies_true, not_false_eq_true, k0, i6, NI, hpI, zp, q7, ks, ls, vp.1, mne, md p (by omega), rI, or0]
      refine ⟨fun z => ?_, fun z => ?_⟩
      · rw [if_neg (by rw [decide_eq_true (show wn p % m = 0 by omega)]; decide)] at nx; exact nx
      · rw [if_pos (by rw [decide_eq_false (show ¬ wn p % m = 0 by omega)]; rfl)] at nx; exact nx
  have n1 : ¬ (m : Int) < 1 := by omega
  simp only [↓forall_eq, ↓inB_iff, gK_hU, gL_hU, gR_hU, gIh, gJh, pI_hU, pJ_hU, hU_hU, uI_app, uJ_app, and_true, true_and, and_false, false_and, and_self, true_implies, false_implies, not_true, not_false_iff, if_true, if_false, eq_self, Nat.reduceLeDiff, Nat.reduceEqDiff, reduceCtorEq, i32c, ti0, ti1, tiM, Int.natCast_nonneg, Int.reduceEq, Int.reduceLE, Int.reduceLT, Int.reduceNeg, tl_i, Int32.reduceToInt, Int64.reduceToInt, tiA, tlM6, Int.toNat_natCast, natc, nI_1, Int.zero_sub, implies_true, not_false_eq_true, mI, n1]
  exact main (R * C) 0 (by omega)
end RDC
