/-! TABLES: their area, the pair -/
section PTB
variable {d U T nf ns nr nm nt f t : Nat} {h h2 g : aH} {A A1 o o1 : Nat → Nat} {X : Nat → aH → Prop} {M M2 : Nat → Nat → Int32} {I : Nat → Nat → Int32} {J : Nat → Nat → Int64} {C9 : Nat → Prop} {p : Nat → Prop} {E : Nat → Nat → List Tm} {Cn : Nat → Nat → List Cmp} {x a2 a3 a4 a5 : Int32}
def tabV (h : aH) (A : Nat → Nat) (M : Nat → Nat → Int32) (t k : Nat) : Prop := ((0 ≤ (M 92 (12 * t + k)).toInt ∧ (M 92 (12 * t + k)).toInt ≤ 60000000) ∧ (0 ≤ (M 93 (12 * t + k)).toInt ∧ (M 93 (12 * t + k)).toInt ≤ 60) ∧ (0 ≤ (M 94 (12 * t + k)).toInt ∧ (M 94 (12 * t + k)).toInt ≤ 1000000)) ∧ gI h (A (bT t + 1)) k = M 92 (12 * t + k) ∧ gI h (A (bT t + 2)) k = M 93 (12 * t + k) ∧ gI h (A (bT t + 3)) k = M 94 (12 * t + k) ∧ gI h (A (bT t + 4)) k = if (M 96 t).toInt = 0 then M 92 (12 * t + k) else M 95 (12 * t + k)
def tabS (h : aH) (A : Nat → Nat) (M : Nat → Nat → Int32) (t R C : Nat) : Prop := ((1 ≤ R ∧ R ≤ 4) ∧ 1 ≤ C ∧ C ≤ 3) ∧ (M 90 t = nI R ∧ M 91 t = nI C) ∧ (gI h (A (bT t)) 4 = nI R ∧ gI h (A (bT t)) 5 = nI C ∧ gI h (A (bT t)) 6 = nI (R * C)) ∧ (∀ j, j < 4 → gL h (A (bT t + 1 + j)) = R * C) ∧ (∀ k, k < R * C → tabV h A M t k) ∧ (∀ r, r < R → ∀ m, m < 2 ^ C → gI h (A (bT t + 5)) (8 * r + m) = sbS (fun k => M 92 (12 * t + k)) C r m C) ∧ (gI h (A (bT t)) 12 = M 98 t ∧ gI h (A (bT t)) 13 = M 97 t) ∧ msk (M 97 t) < 2 ^ (R * C) ∧ msk (M 98 t) < 2 ^ (R * C)
def tabOK (h : aH) (A o : Nat → Nat) (M : Nat → Nat → Int32) (t : Nat) : Prop := TT h A o t ∧ ∃ R C, tabS h A M t R C
def TabA (h : aH) (A o : Nat → Nat) (M : Nat → Nat → Int32) (nt : Nat) : Prop := listT h A o 38 9 nt 11 ∧ (M 44 69 = nI nt ∧ nt ≤ 12) ∧ ∀ t, t < nt → tabOK h A o M t
theorem vT_j {j : Nat} (q : TT h A o t) (hj : j < 6) : ∃ kd, liv h A o (bT t + j) kd := by
  have : ∃ kd ∈ [11, 100], (j, kd) ∈ kT := (show ∀ j : Fin 6, ∃ kd ∈ [11, 100], (j.val, kd) ∈ kT by decide) ⟨j, hj⟩
  obtain ⟨kd, -, hm⟩ := this
  exact ⟨kd, q.1 _ hm⟩
theorem oL_T {k : Nat} (hk : k ≤ 60) : objL (bT k) 9 kT lT rT := ⟨fun q hq => by
    have : q.1 < 20 := (show ∀ q ∈ kT, q.1 < 20 by decide) q hq
    unfold bT; omega, fun q hq => (show ∀ q ∈ lT, ∃ k ∈ [11, 100], (q.1, k) ∈ kT by decide) q hq |>.imp fun _ w => w.2, fun q hq => ⟨(show ∀ q ∈ rT, ∃ k ∈ [11, 100], (q.1, k) ∈ kT by decide) q hq |>.imp fun _ w => w.2, (show ∀ q ∈ rT, ∃ k ∈ [11, 100], (q.2.2, k) ∈ kT by decide) q hq |>.imp fun _ w => w.2⟩⟩
/-- what a table has in the model -/
def tbV (M M2 : Nat → Nat → Int32) (t : Nat) : Prop := (M2 90 t = M 90 t ∧ M2 91 t = M 91 t ∧ M2 96 t = M 96 t ∧ M2 97 t = M 97 t ∧ M2 98 t = M 98 t) ∧ ∀ k, k < 12 → M2 92 (12 * t + k) = M 92 (12 * t + k) ∧ M2 93 (12 * t + k) = M 93 (12 * t + k) ∧ M2 94 (12 * t + k) = M 94 (12 * t + k) ∧ M2 95 (12 * t + k) = M 95 (12 * t + k)
theorem tabS_cg {R C : Nat} (S : tabS h A M t R C) (hI : ∀ j, j < 6 → gI h2 (A1 (bT t + j)) = gI h (A (bT t + j)) ∧ gL h2 (A1 (bT t + j)) = gL h (A (bT t + j))) (m : tbV M M2 t) : tabS h2 A1 M2 t R C := by
  obtain ⟨s1, s2, s3, s4, s5, s6, s7, s8, s9⟩ := S
  obtain ⟨⟨e1, e2, e3, e4, e5⟩, e6⟩ := m
  have m12 : R * C ≤ 4 * 3 := Nat.mul_le_mul s1.1.2 s1.2.2
  have i0 : gI h2 (A1 (bT t)) = gI h (A (bT t)) := (hI 0 (by omega)).1
  refine ⟨s1, by rw [e1, e2]; exact s2, by rw [i0]; exact s3, fun j hj => ?_, fun k hk => ?_, fun r hr q hq => ?_, by rw [i0, e4, e5]; exact s7, by rw [e4]; exact s8, by rw [e5]; exact s9⟩
  · rw [Nat.add_assoc, (hI (1 + j) (by omega)).2, ← Nat.add_assoc]; exact s4 j hj
  · obtain ⟨q1, q2, q3, q4⟩ := e6 k (by omega)
    unfold tabV
    rw [q1, q2, q3, q4, e3, (hI 1 (by omega)).1, (hI 2 (by omega)).1, (hI 3 (by omega)).1, (hI 4 (by omega)).1]
    exact s5 k hk
  · rw [(hI 5 (by omega)).1, s6 r hr q hq]
    exact sbS_cg (R := R) (fun k hk => (e6 k (by omega)).1.symm) hr _ (Nat.le_refl _)
theorem TabA_left {as fs : List Nat} {n q : Nat} (b : base h o) (S : TabA h A o (gI h) nt) (l : left h h2 A A1 o o1 C9 as fs n q) (hc : ¬ C9 9) (ha : ∀ a ∈ as, ¬ (90 ≤ a ∧ a ≤ 98)) (hf : 69 ∉ fs) : TabA h2 A1 o1 (gI h2) nt := by
  obtain ⟨l1, l2, ⟨l3, l4, l5⟩, -⟩ := l
  have hcc : ¬ (C9 9 ∨ 9 = 14 ∨ 9 = 15) := by rintro (q | q | q); exact hc q; omega; omega
  have hN := b.1.1
  obtain ⟨f1, f2, f3⟩ := S
  have m : ∀ a, 90 ≤ a → a ≤ 98 → gI h2 a = gI h a := fun a h1 h2 => l3 a (by omega) (by omega) (fun w => ha a w ⟨h1, h2⟩)
  refine ⟨list_fr l2 hcc (by omega) (by omega) f1, by rw [l4 69 (by decide) hf]; exact f2, fun t ht => ?_⟩
  obtain ⟨T, R, C, S⟩ := f3 t ht
  refine ⟨TT_fr l2 hcc (by omega) T, R, C, tabS_cg S (fun j hj => ?_) ?_⟩
  · obtain ⟨kd, v⟩ := vT_j T hj
    have := iT_fr l2 hcc (by omega) (by omega) v
    exact ⟨this.1, this.2.2.2⟩
  · rw [tbV, m 90 (by decide) (by decide), m 91 (by decide) (by decide), m 92 (by decide) (by decide), m 93 (by decide) (by decide), m 94 (by decide) (by decide), m 95 (by decide) (by decide), m 96 (by decide) (by decide), m 97 (by decide) (by decide), m 98 (by decide) (by decide)]
    exact ⟨⟨rfl, rfl, rfl, rfl, rfl⟩, fun _ _ => ⟨rfl, rfl, rfl, rfl⟩⟩
theorem TabA_new (b : base h o) (S : TabA h A o (gI h) nt) (hns : nt < 12) (L : listT h2 A1 o1 38 9 (nt + 1) 11) (kp : keeps h h2 p) (hp : ∀ q, q < gN h → p q → q = 38 ∨ (0 < nt ∧ q = A 9000035) ∨ o q / 1000000 ≠ 9) (hA : ∀ l, l ≠ 9000035 → (l < bT nt ∨ bT nt + 6 ≤ l) → A1 l = A l) (ho : ∀ q, q < gN h → o1 q = o q) (m69 : gI h2 44 69 = nI (nt + 1)) (ot : ∀ t, t < nt → tbV (gI h) (gI h2) t)
    (new : tabOK h2 A1 o1 (gI h2) nt) : TabA h2 A1 o1 (gI h2) (nt + 1) := by
  obtain ⟨f1, f2, f3⟩ := S
  have kn := kp.1
  refine ⟨L, ⟨m69, by omega⟩, fun k hk => ?_⟩
  by_cases e : k = nt
  · rw [e]; exact new
  · obtain ⟨T, R, C, S⟩ := f3 k (by omega)
    have A6 : ∀ j, j < 6 → A1 (bT k + j) = A (bT k + j) := fun j hj => hA _ (by unfold bT; omega) (by unfold bT; omega)
    have sm : ∀ j, j < 6 → same h h2 (A (bT k + j)) := fun j hj => by
      obtain ⟨kd, v⟩ := vT_j T hj
      refine kp.2.2.2 _ v.2.2.1 (fun w => ?_)
      rcases hp _ v.2.2.1 w with e | ⟨e0, e⟩ | e
      · have := v.1
        rw [e, ol_38 b.2.2] at this
        unfold bT at this; omega
      · have dt := list_dat f1 e0
        exact liv_ne v dt.2.1 (by unfold bT; omega) e
      · exact e (by rw [v.1]; unfold bT; omega)
    have T2 : TT h2 A1 o1 k := obj_kp (oL_T (by omega)) T kn (fun q hq => by
      have hj : q.1 < 6 := (show ∀ q ∈ kT, q.1 < 6 by decide) q hq
      exact ⟨A6 _ hj, sm _ hj, ho _ (T.1 q hq).2.2.1⟩)
    refine ⟨T2, R, C, tabS_cg S (fun j hj => ?_) (ot k (by omega))⟩
    rw [A6 j hj]; exact ⟨funext (sm j hj).2.2.1, (sm j hj).2.1⟩
/-- the sums keep within bounds -/
theorem tAc_b (Rc : RecA h A o M nf ns nr) (h4 : a4.toInt = -1 ∨ (0 ≤ a4.toInt ∧ a4.toInt < 20)) : ∀ p, p ≤ nr → ∀ k, (0 ≤ ((tAc M f a2 a3 a4 a5 p).1 k).toInt ∧ ((tAc M f a2 a3 a4 a5 p).1 k).toInt ≤ 1000000 * p) ∧ (0 ≤ ((tAc M f a2 a3 a4 a5 p).2.1 k).toInt ∧ ((tAc M f a2 a3 a4 a5 p).2.1 k).toInt ≤ p) ∧ (0 ≤ ((tAc M f a2 a3 a4 a5 p).2.2 k).toInt ∧ ((tAc M f a2 a3 a4 a5 p).2.2 k).toInt ≤ 1000000) := by
  have h60 := Rc.2.1.2
  intro p
  induction p with
  | zero => intro _ k; exact ⟨⟨Int.le_refl _, Int.le_refl _⟩, ⟨Int.le_refl _, Int.le_refl _⟩, ⟨Int.le_refl _, by show (0 : Int) ≤ 1000000; omega⟩⟩
  | succ p ih =>
    intro hp k
    have i := ih (by omega)
    by_cases ok : tbK M f a2 a3 a4 a5 p = true
    · have s0 : 0 ≤ (tS0 M a4 p).toInt := by
        have z := ok
        unfold tbK tTk at z
        simp only [Bool.and_eq_true, decide_eq_true_eq] at z
        exact z.2.2.2.2.1
      have s1 : (tS0 M a4 p).toInt ≤ 1000000 := by
        unfold tS0 at s0 ⊢
        by_cases c : a4.toInt = -1
        · rw [if_pos c]; show (1 : Int) ≤ 1000000; omega
        · rw [if_neg c] at s0 ⊢
          have h4' := h4.resolve_left c
          rcases (Rc.2.2 p (by omega)).2.2.2.2.1 a4.toInt.toNat (by omega) with e | e
          · rw [e] at s0; omega
          · exact e.2
      rw [tAc, if_pos ok]
      dsimp only
      unfold upG
      obtain ⟨i1, i2, i3⟩ := i (tIx M f a2 a3 p)
      obtain ⟨j1, j2, j3⟩ := i k
      refine ⟨?_, ?_, ?_⟩
      · split
        · rw [ti_add (by omega) (by omega)]; omega
        · omega
      · split
        · rw [ti_add (by rw [ti1]; omega) (by rw [ti1]; omega), ti1]; omega
        · omega
      · split
        · split <;> omega
        · omega
    · rw [tAc, if_neg ok]
      have := i k
      omega
theorem pr_table (b : base h o) (F : FormA h A o (gI h) E Cn nf) (Rg : RegA h A o (gI h) U T) (mm : MinA h (gI h)) (S : SessA h A o (gI h) E Cn nf ns U) (Rc : RecA h A o (gI h) nf ns nr) (Sm : SamA h A o (gI h) U nm) (Tb : TabA h A o (gI h) nt) : Pr 264 266 [vI x, vI a2, vI a3, vI a4, vI a5] [3, 1, 4] h (fun h2 => ∃ A1 o1 nt1, left h h2 A A1 o o1 (fun c => c = 9) [90, 91, 92, 93, 94, 96, 97, 98] [69] 7 200 ∧ TabA h2 A1 o1 (gI h2) nt1 ∧ nt ≤ nt1 ∧ ∀ t, t < nt → A1 (bT t) = A (bT t) ∧ gI h2 90 t = gI h 90 t ∧ gI h2 91 t = gI h 91 t) := by
  have hnf := F.2.1.1
  have n6 := F.2.1.2
  have hn : (nI nf).toInt = nf := ti_n (by omega)
  have hs6 := S.2.1.2
  have h60 := Rc.2.1.2
  have hc := cn_of F
  have hN := b.1.1
  have hu : ∀ k, k < ns → 0 ≤ (gI h 68 k).toInt ∧ (gI h 68 k).toInt < U := fun k hk => (S.2.2.1 k hk).2.2.2.1.2
  have fin : ∀ h2, left h h2 A A o o (fun _ => False) [] [] 1 6 → ∃ A1 o1 nt1, left h h2 A A1 o o1 (fun c => c = 9) [90, 91, 92, 93, 94, 96, 97, 98] [69] 7 200 ∧ TabA h2 A1 o1 (gI h2) nt1 ∧ nt ≤ nt1 ∧ ∀ t, t < nt → A1 (bT t) = A (bT t) ∧ gI h2 90 t = gI h 90 t ∧ gI h2 91 t = gI h 91 t := fun h2 l => ⟨A, o, nt, left_mono l (fun _ w => w.elim) (by simp) (by simp) (by omega) (by omega), TabA_left b Tb l (fun w => w) (by simp) (by simp), Nat.le_refl _, fun _ _ => ⟨rfl, by rw [l.2.2.1.1 90 (by decide) (by decide) (by simp)], by rw [l.2.2.1.1 91 (by decide) (by decide) (by simp)]⟩⟩
  by_cases q : 0 ≤ x.toInt ∧ x.toInt < nf
  · generalize hfx : x.toInt.toNat = f at *
    have hx : x = nI f := by rw [← hfx]; exact ti_nat q.1
    have hf : f < nf := by omega
    subst hx
    by_cases qp : tbP (gI h) f nm a2 a3 a4 a5
    · by_cases qg : tbG (gI h) f a2 a3 a4
      · by_cases qn : nt < 12
        · have k2 : akA (gI h) f a2 := ⟨qp.1.1, qp.1.2, qg.1⟩
          have k3 : akA (gI h) f a3 := ⟨qp.2.1.1, qp.2.1.2, qg.2.1⟩
          have sp2 := sp_ok F hf k2
          have sp3 := sp_ok F hf k3
          have c2 := (hc f hf).2
          have G6 := qg.2.2.2.2.1
          have G7 := qg.2.2.2.2.2
          refine Pr_ok (nI nt) (fun h1 => ∃ A2 o2, tabN h h1 A A2 o o2 (gI h) f nr nt a2 a3 a4 a5) (fun K X kk => c_table b F Sm Tb.1 hf (fun z => absurd qp z) (fun _ z => absurd qg z) (fun _ _ z => absurd qn z) (fun _ _ _ => c_mkTab b F Rg Rc Sm mm.1 hu Tb.1 qn hf qp qg (fun h5 A2 o2 z => kk h5 ⟨A2, o2, z⟩))) (fun h1 J1 m j K X kk => ?_)
          obtain ⟨A2, o2, l5, f5, st, k5, t5, gl, ⟨i4, i5, i6, i12, i13⟩, v5, ps, gn, gt⟩ := m
          have b1 : base h1 o2 := base_fr b f5 (by decide)
          have e9 : ∀ x, 44 ≤ x → x < 107 → gI h1 x = gI h x := fun x z1 z2 => (fr_m b f5 (by decide) z1 z2).1
          refine m_table b1.2.1 F Rg Rc hs6 hu Sm.2.1.1 Sm.2.1.2 Tb.2.1.1 Tb.2.1.2 hf e9 (fun z => absurd qp z) (fun _ z => absurd qg z) (fun _ _ z => absurd qn z) (fun _ _ _ I4 mt m69 m0 => ?_)
          obtain ⟨s1, s2, s3, s4, s5, s6⟩ := mt
          have out : ∀ a, ¬ (44 ≤ a ∧ a ≤ 107) → I4 a = gI h1 a := fun a ha => by rw [s1 a (by omega) (by omega) (by omega) (by omega) (by omega) (by omega) (by omega) (by omega) (by omega), uI_ne _ _ _ (by omega)]
          have u0 : ∀ a, 44 < a → a < 107 → uI (gI h1) 44 0 0 a = gI h a := fun a z1 z2 => by rw [uI_ne _ _ _ (by omega), e9 a (by omega) z2]
          have ls : left h (hU h1 I4 J1) A A2 o o2 (fun c => c = 9) [90, 91, 92, 93, 94, 96, 97, 98] [69] 7 200 := left_mk (h1 := h1) b b1 f5 (by decide) (by decide) (fun a z1 z2 => by
            simp only [List.mem_cons, List.mem_nil_iff, or_false, not_or] at z2
            obtain ⟨y1, y2, y3, y4, y5, y6, y7, y8⟩ := z2
            rw [s1 a z1 y1 y2 y3 y4 y5 y6 y7 y8, uI_ne _ _ _ z1]) (fun j9 z1 z2 => by
            simp only [List.mem_cons, List.mem_nil_iff, or_false] at z2
            rw [s2 j9 z1 z2, uI_nj _ _ _ _ z1]) (fun a a1 _ => j a a1) gn gt
          have od : 0 < nt → o (A 9000035) = 9000035 := fun z => (list_dat Tb.1 z).2.1.1
          have kp : keeps h (hU h1 I4 J1) (fun q => q = 38 ∨ (0 < nt ∧ q = A 9000035) ∨ (44 ≤ q ∧ q ≤ 107)) := by
            refine ⟨k5.1, k5.2.1, k5.2.2.1, fun q hq hp => ?_⟩
            have sq := k5.2.2.2 q hq (fun z => hp (by rcases z with z | z; exact Or.inl z; exact Or.inr (Or.inl z)))
            have hm : ¬ (44 ≤ q ∧ q ≤ 107) := fun z => hp (Or.inr (Or.inr z))
            refine ⟨sq.1, sq.2.1, fun j9 => ?_, fun j9 => ?_, sq.2.2.2.2⟩
            · rw [gI_hU, out q hm]; exact sq.2.2.1 j9
            · rw [gJ_hU, j q (by omega)]; exact sq.2.2.2.1 j9
          refine kk (hU h1 I4 J1) m0 rfl ⟨A2, o2, nt + 1, ls, ?_, by omega, fun t9 ht9 => ⟨st _ (by unfold bT; omega) (by unfold bT; omega), by rw [gIh, (s3 t9 (by omega)).1, u0 90 (by decide) (by decide)], by rw [gIh, (s3 t9 (by omega)).2.1, u0 91 (by decide) (by decide)]⟩⟩
          have hlist : listT (hU h1 I4 J1) A2 o2 38 9 (nt + 1) 11 := ⟨l5.1, ⟨by rw [gIh, out 38 (by decide)]; exact l5.2.1.1, l5.2.1.2⟩, l5.2.2⟩
          have loT : ∀ j9, j9 < 6 → ¬ (44 ≤ A2 (bT nt + j9) ∧ A2 (bT nt + j9) ≤ 107) := fun j9 hj => by
            obtain ⟨kd, v⟩ := vT_j t5 hj
            exact lab_out b1 v (by unfold bT; omega)
          have o0 : I4 (A2 (bT nt)) = gI h1 (A2 (bT nt)) := out _ (loT 0 (by omega))
          have m12 : spN (gI h) f a2 * spN (gI h) f a3 ≤ 4 * 3 := Nat.mul_le_mul G6 G7
          refine TabA_new b Tb qn hlist kp (fun q hq w => ?_) st f5.2.1 m69 (fun k hk => ?_) ⟨t5, spN (gI h) f a2, spN (gI h) f a3, ⟨⟨sp2.2.1, G6⟩, sp3.2.1, G7⟩, ⟨s4.1, s4.2.1⟩, ⟨by rw [gIh, o0]; exact i4, by rw [gIh, o0]; exact i5, by rw [gIh, o0]; exact i6⟩, gl, fun k hk => ?_, fun r hr m hm => ?_, ⟨by rw [gIh, o0, i12, s4.2.2.2.2], by rw [gIh, o0, i13, s4.2.2.2.1]⟩, by rw [gIh, s4.2.2.2.1]; exact Nat.pow_pos (by decide), by rw [gIh, s4.2.2.2.2]; exact Nat.pow_pos (by decide)⟩
          · rcases w with w | w | w
            · exact Or.inl w
            · exact Or.inr (Or.inl w)
            · refine Or.inr (Or.inr ?_)
              by_cases z : q = 107
              · rw [z, ol_107 b.2.2]; decide
              · rw [ol_m b.2.2 w.1 (by omega)]; decide
          · obtain ⟨y1, y2, y3, y4, y5⟩ := s3 k (by omega)
            refine ⟨⟨by rw [gIh, y1, u0 90 (by decide) (by decide)], by rw [gIh, y2, u0 91 (by decide) (by decide)], by rw [gIh, y3, u0 96 (by decide) (by decide)], by rw [gIh, y4, u0 97 (by decide) (by decide)], by rw [gIh, y5, u0 98 (by decide) (by decide)]⟩, fun i hi => ?_⟩
            obtain ⟨z1, z2, z3⟩ := s5 (12 * k + i) (by omega)
            refine ⟨by rw [gIh, z1, u0 92 (by decide) (by decide)], by rw [gIh, z2, u0 93 (by decide) (by decide)], by rw [gIh, z3, u0 94 (by decide) (by decide)], ?_⟩
            rw [gIh, s1 95 (by decide) (by decide) (by decide) (by decide) (by decide) (by decide) (by decide) (by decide) (by decide), u0 95 (by decide) (by decide)]
          · obtain ⟨z1, z2, z3⟩ := s6 k (by omega)
            obtain ⟨x1, x2, x3, x4⟩ := v5 k hk
            have p4 := qp.2.2.1
            have bd := tAc_b (f := f) (a2 := a2) (a3 := a3) (a4 := a4) (a5 := a5) Rc (by rcases p4 with e | e; exact Or.inl e; exact Or.inr (by omega)) nr (Nat.le_refl _) k
            unfold tabV
            rw [gIh, z1, z2, z3, s4.2.2.1, if_pos (show (0 : Int32).toInt = 0 from rfl), out _ (loT 1 (by omega)), out _ (loT 2 (by omega)), out _ (loT 3 (by omega)), out _ (loT 4 (by omega))]
            exact ⟨by omega, x1, x2, x3, x4⟩
          · rw [gIh, out _ (loT 5 (by omega)), ps r hr m hm]
            exact sbS_cg (R := spN (gI h) f a2) (fun k hk => (s6 k (by omega)).1.symm) hr _ (Nat.le_refl _)
        · exact Pr_gc (A := A) (C := fun _ => False) 2 4 b (by decide) rfl (fun K X kk => c_table b F Sm Tb.1 hf (fun z => absurd qp z) (fun _ z => absurd qg z) (fun _ _ _ => kk) (fun _ _ z => absurd z qn)) (fun g J K X mf e kk => m_table mf F Rg Rc hs6 hu Sm.2.1.1 Sm.2.1.2 Tb.2.1.1 Tb.2.1.2 hf e (fun z => absurd qp z) (fun _ z => absurd qg z) (fun _ _ _ => kk) (fun _ _ z => absurd z qn)) fin
      · exact Pr_gc (A := A) (C := fun _ => False) 1 1 b (by decide) rfl (fun K X kk => c_table b F Sm Tb.1 hf (fun z => absurd qp z) (fun _ _ => kk) (fun _ z => absurd z qg) (fun _ z => absurd z qg)) (fun g J K X mf e kk => m_table mf F Rg Rc hs6 hu Sm.2.1.1 Sm.2.1.2 Tb.2.1.1 Tb.2.1.2 hf e (fun z => absurd qp z) (fun _ _ => kk) (fun _ z => absurd z qg) (fun _ z => absurd z qg)) fin
    · exact Pr_gc (A := A) (C := fun _ => False) 0 3 b (by decide) rfl (fun K X kk => c_table b F Sm Tb.1 hf (fun _ => kk) (fun z => absurd z qp) (fun z => absurd z qp) (fun z => absurd z qp)) (fun g J K X mf e kk => m_table mf F Rg Rc hs6 hu Sm.2.1.1 Sm.2.1.2 Tb.2.1.1 Tb.2.1.2 hf e (fun _ => kk) (fun z => absurd z qp) (fun z => absurd z qp) (fun z => absurd z qp)) fin
  · refine Pr_gc (A := A) (C := fun _ => False) 0 3 b (by decide) rfl (fun K X kk => m264 ⟨by decide, ck_8 b.1, ?_⟩) (fun g J K X mf e kk => m266 ?_) fin
    · rw [formAt_br b F.1, bz_f q]; exact kk
    · have ns9 : ¬ isSt (gI h) nf x a2 := fun z => q z.1
      have ST := fun (K : Int32 → aH → Prop) X => isStOf_br (d := 497) (M := gI h) (x := x) (s := a2) (I := uI (gI g) 44 0 0) (J := J) (K := K) (X := X) mf hnf n6 hc (by rw [uI_nj _ _ _ _ (by decide), e 44 (by decide) (by decide)]) (by rw [uI_ne _ _ _ (by decide), e 53 (by decide) (by decide)])
      simp only [↓forall_eq, ↓inB_iff, gK_hU, gL_hU, gR_hU, gIh, gJh, pI_hU, pJ_hU, hU_hU, uI_app, uJ_app, and_true, true_and, and_false, false_and, and_self, true_implies, false_implies, not_true, not_false_iff, if_true, if_false, eq_self, Nat.reduceLeDiff, Nat.reduceEqDiff, reduceCtorEq, i32c, ti0, ti1, tiM, Int.natCast_nonneg, Int.reduceEq, Int.reduceLE, Int.reduceLT, Int.reduceNeg, tl_i, Int32.reduceToInt, Int64.reduceToInt, tiA, tlM6, Int.toNat_natCast, natc, nI_1, Int.zero_sub, implies_true, not_false_eq_true, mf.1, mr_16 mf, mk_54 mf, ml_54 mf, mr_18 mf, mk_56 mf, ml_56 mf, mr_19 mf, mk_57 mf, ml_57 mf, mr_40 mf, mk_68 mf, ml_68 mf, mr_54 mf, mk_78 mf, ml_78 mf, mr_55 mf, mk_79 mf, ml_79 mf, mr_67 mf, mk_88 mf, ml_88 mf, mr_70 mf, mk_90 mf, ml_90 mf, mr_71 mf, mk_91 mf, ml_91 mf, mr_72 mf, mk_92 mf, ml_92 mf, mr_73 mf, mk_93 mf, ml_93 mf, mr_74 mf, mk_94 mf, ml_94 mf, mr_76 mf, mk_96 mf, ml_96 mf, mr_77 mf, mk_97 mf, ml_97 mf, mr_78 mf, mk_98 mf, ml_98 mf, ↓fail_br mf, ↓ST, ns9]
      exact kk
end PTB
