/-! LISTS -/
section LST
variable {d a c n kd : Nat} {h h1 h2 : aH} {A A1 o o1 : Nat → Nat} {X : Nat → aH → Prop} {I : Nat → Nat → Int32} {J : Nat → Nat → Int64} {C : Nat → Prop}
/-- the list at a, of the area c, with n elements of the kind kd -/
def listT (h : aH) (A o : Nat → Nat) (a c n kd : Nat) : Prop := (gK h a = 13 ∧ 34 ≤ a ∧ a ≤ 39 ∧ o a = c * 1000000 + 34 ∧ a < gN h) ∧ (gI h a 1 = nI n ∧ n ≤ 60 ∧ gK h 2 = 106 ∧ gL h 2 = 0) ∧
  ((n = 0 ∧ gR h a 0 = 2) ∨ (gR h a 0 = A (c * 1000000 + 35) ∧ liv h A o (c * 1000000 + 35) 104 ∧ n ≤ gL h (A (c * 1000000 + 35)) ∧ 0 < n ∧ gL h (A (c * 1000000 + 35)) ≤ 100)) ∧
  ∀ k, k < n → gR h (gR h a 0) k = A (c * 1000000 + 1000 + 100 * k) ∧ liv h A o (c * 1000000 + 1000 + 100 * k) kd
theorem lsize_br {K : Int32 → aH → Prop} (L : listT h A o a c n kd) : CI d 65 [vR a] h K X ↔ K (nI n) h := CI_iff fun K X w => m65 ⟨L.1.1, by rw [L.2.1.1]; exact w⟩
theorem list_dat (L : listT h A o a c n kd) (hn : 0 < n) : gR h a 0 = A (c * 1000000 + 35) ∧ liv h A o (c * 1000000 + 35) 104 ∧ n ≤ gL h (A (c * 1000000 + 35)) ∧ 0 < n ∧ gL h (A (c * 1000000 + 35)) ≤ 100 := by
  rcases L.2.2.1 with ⟨e, -⟩ | e
  · omega
  · exact e
theorem lget_br {K : Nat → aH → Prop} {x : Int32} (L : listT h A o a c n kd) (h0 : 0 ≤ x.toInt ∧ x.toInt < n) : CR (d + 2) 119 [vR a, vI x] h K X ↔ K (A (c * 1000000 + 1000 + 100 * x.toInt.toNat)) h := by
  refine CR_iff fun K X w => m119 ?_
  obtain ⟨d1, d2, d3, d4, d5⟩ := list_dat L (by omega)
  have hn : (nI n).toInt = n := ti_n (by have := L.2.1.2.1; omega)
  have e := (L.2.2.2 x.toInt.toNat (by omega)).1
  rw [d1] at e
  refine ⟨L.1.1, m117 (m116 ⟨fun q => by omega, fun _ => ⟨fun _ => ?_, fun q => q (by rw [L.2.1.1, hn]; exact h0.2)⟩⟩)⟩
  refine ⟨by have := L.1.2.1; omega, L.1.1, m118 ⟨L.1.1, ?_⟩⟩
  rw [inB_iff, d1]
  exact ⟨d2.2.2.2, h0.1, by omega, by rw [e]; exact w⟩
theorem list_fr (f : fr h h1 A A1 o o1 C) (hc : ¬ C c) (hN : 8 ≤ gN h) (hs : c * 1000000 + 34 + 100000 ≤ c * 1000000 + 1000000) (L : listT h A o a c n kd) : listT h1 A1 o1 a c n kd := by
  obtain ⟨⟨l1, l2, l3, l4, l5⟩, ⟨l6, l7, l8, l9⟩, l10, l11⟩ := L
  have sa := fr_same f l5 (by rw [l4, show (c * 1000000 + 34) / 1000000 = c by omega]; exact hc)
  have eA : ∀ j, j < 100000 → A1 (c * 1000000 + j) = A (c * 1000000 + j) := fun j hj => f.2.2 _ (by rw [show (c * 1000000 + j) / 1000000 = c by omega]; exact hc)
  have e2 := f.1.2.2.1 2 (by omega)
  refine ⟨⟨by rw [sa.1]; exact l1, l2, l3, by rw [f.2.1 a l5]; exact l4, by have := f.1.1; omega⟩, ⟨by rw [sa.2.2.1]; exact l6, l7, by rw [e2.1]; exact l8, by rw [e2.2]; exact l9⟩, ?_, fun k hk => ?_⟩
  · rcases l10 with ⟨e, q⟩ | ⟨e, q1, q2, q3, q4⟩
    · exact Or.inl ⟨e, by rw [sa.2.2.2.2]; exact q⟩
    · refine Or.inr ?_
      rw [eA 35 (by omega), sa.2.2.2.2, (f.1.2.2.1 _ q1.2.2.1).2]
      exact ⟨e, liv_fr f (by rw [show (c * 1000000 + 35) / 1000000 = c by omega]; exact hc) q1, q2, q3, q4⟩
  · obtain ⟨k1, k2⟩ := l11 k hk
    rcases l10 with ⟨e, q⟩ | ⟨e, q1, q2, q3, q4⟩
    · omega
    · have sd := fr_same f q1.2.2.1 (by rw [q1.1, show (c * 1000000 + 35) / 1000000 = c by omega]; exact hc)
      rw [sa.2.2.2.2, e, sd.2.2.2.2]
      rw [e] at k1
      have hk' := l7
      rw [show c * 1000000 + 1000 + 100 * k = c * 1000000 + (1000 + 100 * k) by omega] at k1 k2 ⊢
      rw [eA _ (by omega)]
      exact ⟨k1, liv_fr f (by rw [show (c * 1000000 + (1000 + 100 * k)) / 1000000 = c by omega]; exact hc) k2⟩
theorem shr1 : ∀ n : Fin 128, nI n.val >>> (1 &&& 31) = nI (n.val / 2) := by decide
theorem max_br {x y : Int32} {K : Int32 → aH → Prop} : CI d 0 [vI x, vI y] h K X ↔ K (if x.toInt < y.toInt then y else x) h := by
  refine CI_iff fun K X w => m0 ?_
  by_cases q : x.toInt < y.toInt
  · rw [bz_t q]; rw [if_pos q] at w; exact w
  · rw [bz_f q]; rw [if_neg q] at w; exact w
theorem min_br {x y : Int32} {K : Int32 → aH → Prop} : CI d 19 [vI x, vI y] h K X ↔ K (if y.toInt < x.toInt then y else x) h := by
  refine CI_iff fun K X w => m19 ?_
  by_cases q : y.toInt < x.toInt
  · rw [bz_t q]; rw [if_pos q] at w; exact w
  · rw [bz_f q]; rw [if_neg q] at w; exact w
/-- what a new element leaves -/
def added (h h1 : aH) (A A1 o o1 : Nat → Nat) (a c n : Nat) : Prop := keeps h h1 (fun q => q = a ∨ (0 < n ∧ q = A (c * 1000000 + 35))) ∧ (∀ q, q < gN h → o1 q = o q) ∧ (∀ l, l ≠ c * 1000000 + 35 → A1 l = A l) ∧ (∀ q, q < gN h → q ≠ a → gI h1 q = gI h q) ∧ gN h1 ≤ gN h + 1 ∧ gT h1 ≤ gT h + 100
theorem list_done {r : Nat} (L : listT h A o a c n kd) (hn : n < 60) (vx : liv h A o (c * 1000000 + 1000 + 100 * n) kd)
    (hr : (0 < n ∧ r = A (c * 1000000 + 35) ∧ gN h1 = gN h) ∨ (r = gN h ∧ gN h1 = gN h + 1)) (hT : gT h ≤ gT h1 ∧ gT h1 ≤ gT h + 100) (hk : ∀ q, q < gN h → gK h1 q = gK h q ∧ gL h1 q = gL h q)
    (hs : ∀ q, q < gN h → q ≠ a → (0 < n → q ≠ A (c * 1000000 + 35)) → same h h1 q) (hI : ∀ q, q < gN h → q ≠ a → gI h1 q = gI h q) (ha : gR h1 a 0 = r ∧ gI h1 a 1 = nI (n + 1)) (hl : gK h1 r = 104 ∧ n < gL h1 r ∧ gL h1 r ≤ 100) (he : (∀ k, k < n → gR h1 r k = gR h (gR h a 0) k) ∧ gR h1 r n = A (c * 1000000 + 1000 + 100 * n)) :
    ∃ A1 o1, listT h1 A1 o1 a c (n + 1) kd ∧ added h h1 A A1 o o1 a c n := by
  obtain ⟨⟨l1, l2, l3, l4, l5⟩, ⟨l6, l7, l8, l9⟩, l10, l11⟩ := L
  have hN1 : gN h ≤ gN h1 := by rcases hr with e | e <;> omega
  have oo : ∀ q, q < gN h → (if q = r then c * 1000000 + 35 else o q) = o q := fun q hq => by
    split
    · rename_i e
      rcases hr with ⟨e1, e2, -⟩ | ⟨e1, -⟩
      · rcases l10 with ⟨w, -⟩ | ⟨-, w, -⟩
        · omega
        · rw [e, e2]; exact w.1.symm
      · omega
    · rfl
  have lv : ∀ l k9, l ≠ c * 1000000 + 35 → liv h A o l k9 → liv h1 (fun l => if l = c * 1000000 + 35 then r else A l) (fun q => if q = r then c * 1000000 + 35 else o q) l k9 := fun l k9 hl v => by
    unfold liv
    dsimp only
    rw [if_neg hl, oo _ v.2.2.1, (hk _ v.2.2.1).1]
    exact ⟨v.1, v.2.1, by have := v.2.2.1; omega, v.2.2.2⟩
  refine ⟨fun l => if l = c * 1000000 + 35 then r else A l, fun q => if q = r then c * 1000000 + 35 else o q, ⟨⟨by rw [(hk a l5).1]; exact l1, l2, l3, by dsimp only; rw [oo a l5]; exact l4, by omega⟩, ⟨ha.2, by omega, by rw [(hk 2 (by omega)).1]; exact l8, by rw [(hk 2 (by omega)).2]; exact l9⟩, Or.inr ?_, fun k hk9 => ?_⟩, ⟨by omega, hT.1, hk, fun q hq hp => hs q hq (fun e => hp (Or.inl e)) (fun e w => hp (Or.inr ⟨e, w⟩))⟩, oo, fun l hl => if_neg hl, hI, by rcases hr with e | e <;> omega, hT.2⟩
  · dsimp only
    rw [if_pos rfl]
    refine ⟨ha.1, ?_, by omega, by omega, hl.2.2⟩
    unfold liv
    dsimp only
    rw [if_pos rfl, if_pos rfl]
    refine ⟨rfl, ?_, ?_, hl.1⟩
    · rcases hr with ⟨e1, e2, -⟩ | ⟨e1, -⟩
      · rcases l10 with ⟨w, -⟩ | ⟨-, w, -⟩
        · omega
        · rw [e2]; exact w.2.1
      · omega
    · rcases hr with ⟨e1, e2, e3⟩ | ⟨e1, e2⟩
      · rcases l10 with ⟨w, -⟩ | ⟨-, w, -⟩
        · omega
        · have := w.2.2.1; omega
      · omega
  · dsimp only
    rw [if_neg (by omega), ha.1]
    by_cases e : k = n
    · subst e
      exact ⟨he.2, lv _ _ (by omega) vx⟩
    · rw [he.1 k (by omega)]
      exact ⟨(l11 k (by omega)).1, lv _ _ (by omega) (l11 k (by omega)).2⟩
theorem aObj_of {r k9 : Nat} (h1 : 0 < k9 ∧ k9 < 15 ∧ k9 ≠ 13) (h2 : gK h r = k9) : aObj h r = true := by
  unfold aObj
  rw [h2]
  simp [h1.1, h1.2.1, h1.2.2]
theorem c_ladd {K : Int32 → aH → Prop} (L : listT h A o a c n kd) (hn : n < 60) (hc : c < 20) (vx : liv h A o (c * 1000000 + 1000 + 100 * n) kd) (hk : 0 < kd ∧ kd < 15 ∧ kd ≠ 13)
    (k : ∀ h1 A1 o1, listT h1 A1 o1 a c (n + 1) kd → added h h1 A A1 o o1 a c n → K 1 h1) : CI (d + 6) 98 [vR a, vR (A (c * 1000000 + 1000 + 100 * n))] h K X := by
  have L0 := L
  obtain ⟨⟨l1, l2, l3, l4, l5⟩, ⟨l6, l7, l8, l9⟩, l10, l11⟩ := L
  have xa : A (c * 1000000 + 1000 + 100 * n) ≠ a := fun e => by have := vx.1; rw [e, l4] at this; omega
  have hnI : (nI n).toInt = n := ti_n (by omega)
  have hx4 := vx.2.2.2
  have hxN := vx.2.2.1
  refine m98 ⟨l1, by omega, fun h0 e0 => ?_⟩
  have K0 : ∀ q, gK h0 q = gK h q := fun q => by rw [e0, gK_pI]
  have L9 : ∀ q, gL h0 q = gL h q := fun q => by rw [e0, gL_pI]
  have R0 : ∀ q j, gR h0 q j = gR h q j := fun q j => by rw [e0, gR_pI]
  have N0 : gN h0 = gN h := by rw [e0, gN_pI]
  have T0 : gT h0 = gT h := by rw [e0, gT_pI]
  have I0 : ∀ q j, (q = a → j ≠ 2) → gI h0 q j = gI h q j := fun q j hq => by rw [e0, gI_pI, if_neg (fun w => hq w.1 w.2)]
  have J0 : ∀ q j, gJ h0 q j = gJ h q j := fun q j => by rw [e0, gJ_pI]
  rw [R0, I0 a 1 (fun _ => by decide), l6]
  refine m97 ?_
  rw [K0, L9]
  rcases l10 with ⟨w1, w2⟩ | ⟨w1, w2, w3, w4, w5⟩
  · -- the first element
    subst w1
    rw [w2, l8, l9]
    refine ⟨by decide, fun _ => ⟨by omega, by rw [K0]; exact l1, m96 ⟨by rw [K0]; exact l1, by omega, ?_⟩⟩, fun q => absurd rfl q⟩
    rw [I0 a 1 (fun _ => by decide), l6]
    refine m95 ⟨by rw [K0]; exact l1, by rw [R0, w2, K0, l8]; decide, fun v0 ev => ?_⟩
    rw [R0, w2, L9, l9] at ev
    subst ev
    refine ⟨fun q => absurd q (by decide), fun _ => ⟨by rw [R0, w2]; exact Or.inl rfl, fun _ => ?_, fun q => absurd (by rw [R0, w2]) q⟩⟩
    rw [max_br, if_neg (by decide)]
    refine ⟨10, rfl, by decide, fun r0 h4 er e4 => ⟨by omega, by rw [e4, gK_gNew, if_neg (by omega), K0]; exact l1, fun h5 e5 => ⟨by omega, 0, ⟨vx.2.1, ?_⟩, ?_, fun h6 e6 => ⟨?_, fun h7 e7 => ?_⟩⟩⟩⟩
    · rw [e5, gK_pR, e4, gK_gNew, if_neg (by omega), K0, hx4]; exact ⟨hk.1, hk.2.1, hk.2.2⟩
    · refine ⟨by rw [e5, gK_pR, e4, gK_gNew, if_pos er], rfl, by rw [e5, gL_pR, e4, gL_gNew, if_pos er]; decide, by decide⟩
    · rw [e6, gK_pR, e5, gK_pR, e4, gK_gNew, if_neg (by omega), K0]; exact l1
    · have har : a ≠ r0 := by omega
      obtain ⟨A1, o1, d1, d2⟩ := list_done (h1 := h7) (r := r0) L0 hn vx (Or.inr ⟨by omega, by rw [e7, gN_pI, e6, gN_pR, e5, gN_pR, e4, gN_gNew]; omega⟩) (by rw [e7, gT_pI, e6, gT_pR, e5, gT_pR, e4, gT_gNew]; omega) (fun q hq => by rw [e7, gK_pI, gL_pI, e6, gK_pR, gL_pR, e5, gK_pR, gL_pR, e4, gK_gNew, gL_gNew, if_neg (by omega), if_neg (by omega), K0, L9]; exact ⟨rfl, rfl⟩)
        (fun q hq hqa _ => ⟨by rw [e7, gK_pI, e6, gK_pR, e5, gK_pR, e4, gK_gNew, if_neg (by omega), K0], by rw [e7, gL_pI, e6, gL_pR, e5, gL_pR, e4, gL_gNew, if_neg (by omega), L9], fun j => by rw [e7, gI_pI, if_neg (fun w => hqa w.1), e6, gI_pR, e5, gI_pR, e4, gI_gNew, if_neg (by omega), I0 q j (fun w => absurd w hqa)], fun j => by rw [e7, gJ_pI, e6, gJ_pR, e5, gJ_pR, e4, gJ_gNew, if_neg (by omega), J0], fun j => by rw [e7, gR_pI, e6, gR_pR, if_neg (by omega), e5, gR_pR, if_neg (by omega), e4, gR_gNew, if_neg (by omega), R0]⟩)
        (fun q hq hqa => by funext j; rw [e7, gI_pI, if_neg (fun w => hqa w.1), e6, gI_pR, e5, gI_pR, e4, gI_gNew, if_neg (by omega), I0 q j (fun w => absurd w hqa)])
        ⟨by rw [e7, gR_pI, e6, gR_pR, if_neg (by omega), e5, gR_pR, if_pos ⟨rfl, rfl⟩], by rw [e7, gI_pI, if_pos ⟨rfl, rfl⟩]; rfl⟩ ⟨by rw [e7, gK_pI, e6, gK_pR, e5, gK_pR, e4, gK_gNew, if_pos er], by rw [e7, gL_pI, e6, gL_pR, e5, gL_pR, e4, gL_gNew, if_pos er]; decide⟩ ⟨fun k hk => by omega, by rw [e7, gR_pI, e6, gR_pR, if_pos ⟨rfl, rfl⟩]⟩
      exact k h7 A1 o1 d1 d2
  · have w24 := w2.2.2.2
    have w23 := w2.2.2.1
    have w28 := w2.2.1
    have da : A (c * 1000000 + 35) ≠ a := fun e => by have := w2.1; rw [e, l4] at this; omega
    rw [w1, w24]
    refine ⟨by decide, fun c1 => ⟨by omega, by rw [K0]; exact l1, m96 ⟨by rw [K0]; exact l1, by omega, ?_⟩⟩, fun c1 => ?_⟩
    · -- a longer row
      have hln : gL h (A (c * 1000000 + 35)) = n := by rw [hnI, ti_n (by omega)] at c1; omega
      rw [I0 a 1 (fun _ => by decide), l6]
      refine m95 ⟨by rw [K0]; exact l1, by rw [R0, w1, K0, w24]; decide, fun v0 ev => ?_⟩
      rw [R0, w1, L9, hln] at ev
      subst ev
      refine ⟨fun _ => m92 ?_, fun q => absurd (by rw [hnI]; omega) q⟩
      have hsh := shr1 ⟨n, by omega⟩
      dsimp only at hsh
      rw [hsh, show nI n + 1 - nI n = 1 by rw [nI_1]; apply ti_inj; rw [ti_sub (by rw [ti_n (by omega), hnI]; omega) (by rw [ti_n (by omega), hnI]; omega), ti_n (by omega), hnI]; rw [ti1]; omega, max_br]
      have hmax : (if (1 : Int32).toInt < (nI (n / 2)).toInt then nI (n / 2) else 1) = nI (if 1 < n / 2 then n / 2 else 1) := by
        rw [ti_n (by omega), ti1]
        by_cases q : 1 < n / 2
        · rw [if_pos (by omega), if_pos q]
        · rw [if_neg (by omega), if_neg q]; rfl
      rw [hmax]
      generalize hmm : (if 1 < n / 2 then n / 2 else 1) = mm
      have hm1 : 0 < mm ∧ mm ≤ 30 := by rw [← hmm]; split <;> omega
      refine fun v1 ev1 => ?_
      rw [nI_add] at ev1
      subst ev1
      refine ⟨fun _ => ⟨fun q => absurd q (by rw [ti_n (by omega)]; omega), fun _ => ⟨by rw [K0]; exact l1, ?_⟩⟩, fun q => absurd (by rw [ti_n (by omega)]; omega) q⟩
      rw [R0, w1]
      refine m94 ⟨w28, by rw [K0]; exact w24, m93 ⟨Or.inl rfl, fun _ => ⟨n + mm, rfl, by omega, fun r0 h3 er e3 => ?_⟩, fun q => absurd rfl q⟩⟩
      have hr0 : r0 = gN h := by rw [er, N0]
      have nr : ∀ q, q < gN h → ¬ q = gN h0 := fun q hq => by rw [N0]; omega
      have K3 : ∀ q, q < gN h → gK h3 q = gK h q := fun q hq => by rw [e3, gK_gNew, if_neg (nr q hq), K0]
      have L3 : ∀ q, q < gN h → gL h3 q = gL h q := fun q hq => by rw [e3, gL_gNew, if_neg (nr q hq), L9]
      have R3 : ∀ q j, q < gN h → gR h3 q j = gR h q j := fun q j hq => by rw [e3, gR_gNew, if_neg (nr q hq), R0]
      refine ⟨by rw [K3 _ w23, w24]; exact ⟨by omega, by omega⟩, ?_⟩
      rw [min_br, L3 _ w23, hln]
      have hge : ¬ (nI (n + mm)).toInt < (nI n).toInt := by rw [ti_n (by omega), hnI]; omega
      rw [if_neg hge]
      refine ⟨0, 0, n, ⟨w28, by omega, fun e => nr _ w23 (by rw [e, er]), rfl, rfl, rfl, by omega, by omega, by omega, by rw [L3 _ w23, hln]; omega, by rw [e3, gL_gNew, if_pos er]; omega⟩, by rw [K3 _ w23]; exact w24, by rw [e3, gK_gNew, if_pos er], fun q hq => ?_, fun h4 e4 => ⟨by omega, by rw [e4, gK_cpR, K3 a l5]; exact l1, fun h5 e5 => ⟨by omega, n, ⟨vx.2.1, ?_⟩, ?_, fun h6 e6 => ⟨?_, fun h7 e7 => ?_⟩⟩⟩⟩
      · have e := l11 q hq
        rw [w1] at e
        rw [Nat.zero_add, R3 _ _ w23, e.1]
        exact aObj_of hk (by rw [K3 _ e.2.2.2.1]; exact e.2.2.2.2)
      · rw [e5, gK_pR, e4, gK_cpR, K3 _ hxN, hx4]; exact ⟨hk.1, hk.2.1, hk.2.2⟩
      · exact ⟨by rw [e5, gK_pR, e4, gK_cpR, e3, gK_gNew, if_pos er], rfl, by rw [e5, gL_pR, e4, gL_cpR, e3, gL_gNew, if_pos er]; omega, by omega⟩
      · rw [e6, gK_pR, e5, gK_pR, e4, gK_cpR, K3 _ l5]; exact l1
      · have har : a ≠ r0 := by omega
        obtain ⟨A1, o1, d1, d2⟩ := list_done (h1 := h7) (r := r0) L0 hn vx (Or.inr ⟨by omega, by rw [e7, gN_pI, e6, gN_pR, e5, gN_pR, e4, gN_cpR, e3, gN_gNew]; omega⟩) (by rw [e7, gT_pI, e6, gT_pR, e5, gT_pR, e4, gT_cpR, e3, gT_gNew]; omega) (fun q hq => by rw [e7, gK_pI, gL_pI, e6, gK_pR, gL_pR, e5, gK_pR, gL_pR, e4, gK_cpR, gL_cpR, e3, gK_gNew, gL_gNew, if_neg (by omega), if_neg (by omega), K0, L9]; exact ⟨rfl, rfl⟩)
          (fun q hq hqa _ => ⟨by rw [e7, gK_pI, e6, gK_pR, e5, gK_pR, e4, gK_cpR, e3, gK_gNew, if_neg (by omega), K0], by rw [e7, gL_pI, e6, gL_pR, e5, gL_pR, e4, gL_cpR, e3, gL_gNew, if_neg (by omega), L9], fun j => by rw [e7, gI_pI, if_neg (fun w => hqa w.1), e6, gI_pR, e5, gI_pR, e4, gI_cpR, e3, gI_gNew, if_neg (by omega), I0 q j (fun w => absurd w hqa)], fun j => by rw [e7, gJ_pI, e6, gJ_pR, e5, gJ_pR, e4, gJ_cpR, e3, gJ_gNew, if_neg (by omega), J0], fun j => by rw [e7, gR_pI, e6, gR_pR, if_neg (by omega), e5, gR_pR, if_neg (by omega), e4, gR_cpR, if_neg (by omega), e3, gR_gNew, if_neg (by omega), R0]⟩)
          (fun q hq hqa => by funext j; rw [e7, gI_pI, if_neg (fun w => hqa w.1), e6, gI_pR, e5, gI_pR, e4, gI_cpR, e3, gI_gNew, if_neg (by omega), I0 q j (fun w => absurd w hqa)])
          ⟨by rw [e7, gR_pI, e6, gR_pR, if_neg (by omega), e5, gR_pR, if_pos ⟨rfl, rfl⟩], by rw [e7, gI_pI, if_pos ⟨rfl, rfl⟩, nI_1]⟩ ⟨by rw [e7, gK_pI, e6, gK_pR, e5, gK_pR, e4, gK_cpR, e3, gK_gNew, if_pos er], by rw [e7, gL_pI, e6, gL_pR, e5, gL_pR, e4, gL_cpR, e3, gL_gNew, if_pos er]; omega⟩ ⟨fun k hk => by rw [e7, gR_pI, e6, gR_pR, if_neg (fun w => by omega), e5, gR_pR, if_neg (fun w => by omega), e4, gR_cpR, if_pos ⟨rfl, Nat.zero_le _, by omega⟩, R3 _ _ w23, w1, Nat.zero_add, Nat.sub_zero], by rw [e7, gR_pI, e6, gR_pR, if_pos ⟨rfl, rfl⟩]⟩
        exact k h7 A1 o1 d1 d2
    · -- in its place
      have hln : n < gL h (A (c * 1000000 + 35)) := by rw [hnI, ti_n (by omega)] at c1; omega
      refine ⟨w28, n, ⟨vx.2.1, by rw [K0, hx4]; exact ⟨hk.1, hk.2.1, hk.2.2⟩⟩, ⟨by rw [K0]; exact w24, rfl, by rw [L9]; exact hln, by omega⟩, fun h3 e3 => ⟨by omega, by rw [e3, gK_pR, K0]; exact l1, fun h4 e4 => ?_⟩⟩
      have hn0 := w4
      · obtain ⟨A1, o1, d1, d2⟩ := list_done (h1 := h4) (r := A (c * 1000000 + 35)) L0 hn vx (Or.inl ⟨hn0, rfl, by rw [e4, gN_pI, e3, gN_pR, N0]⟩) (by rw [e4, gT_pI, e3, gT_pR, T0]; omega) (fun q hq => by rw [e4, gK_pI, gL_pI, e3, gK_pR, gL_pR, K0, L9]; exact ⟨rfl, rfl⟩)
          (fun q hq hqa hqd => ⟨by rw [e4, gK_pI, e3, gK_pR, K0], by rw [e4, gL_pI, e3, gL_pR, L9], fun j => by rw [e4, gI_pI, if_neg (fun w => hqa w.1), e3, gI_pR, I0 q j (fun w => absurd w hqa)], fun j => by rw [e4, gJ_pI, e3, gJ_pR, J0], fun j => by rw [e4, gR_pI, e3, gR_pR, if_neg (fun w => hqd hn0 w.1), R0]⟩)
          (fun q hq hqa => by funext j; rw [e4, gI_pI, if_neg (fun w => hqa w.1), e3, gI_pR, I0 q j (fun w => absurd w hqa)])
          ⟨by rw [e4, gR_pI, e3, gR_pR, if_neg (fun w => da w.1.symm), R0]; exact w1, by rw [e4, gI_pI, if_pos ⟨rfl, rfl⟩, nI_1]⟩ ⟨by rw [e4, gK_pI, e3, gK_pR, K0]; exact w24, by rw [e4, gL_pI, e3, gL_pR, L9]; exact ⟨hln, w5⟩⟩ ⟨fun k hk => by rw [e4, gR_pI, e3, gR_pR, if_neg (fun w => by omega), R0, w1], by rw [e4, gR_pI, e3, gR_pR, if_pos ⟨rfl, rfl⟩]⟩
        exact k h4 A1 o1 d1 d2
end LST
