/-! A SESSION'S WALK: what it comes to; the class's side -/
section WLK
section
variable (so : Nat → Int32) (E : Nat → List Tm) (Cn : Nat → List Cmp) (gv rg : Nat → Int32)
def wS (s : Nat) (it : Nat → Int32) : Int32 := if (so s).toInt = 1 then wtF it rg (E s) (Cn s) else if (so s).toInt = 0 ∧ apF it rg (Cn s) = true then gv s else -2000000
/-- the items behind s statements -/
def wI : Nat → Nat → Int32
  | 0 => fun _ => -2000000
  | s + 1 => fun i => if i = s then wS so E Cn gv rg s (wI s) else wI s i
/-- the walk stops here -/
def stp (s : Nat) : Bool := decide ((so s).toInt = 0) && (apF (wI so E Cn gv rg s) rg (Cn s) && decide ((gv s).toInt = -2000000))
def wE : Nat → Nat → Nat
  | 0, s => s
  | n + 1, s => if stp so E Cn gv rg s = true then s else wE n (s + 1)
def brk (w : Int) (s : Nat) : Bool := decide ((so s).toInt = w) && brF (wI so E Cn gv rg s) rg (Cn s)
/-- what is broken, as bits -/
def bB (w : Int) : Nat → Int32
  | 0 => 0
  | s + 1 => if brk so E Cn gv rg w s = true then bB w s ||| (1 <<< (nI s &&& 31)) else bB w s
end
variable {so : Nat → Int32} {E : Nat → List Tm} {Cn : Nat → List Cmp} {gv rg : Nat → Int32} {d f k cnt : Nat} {h : aH} {A o : Nat → Nat} {X : Nat → aH → Prop}
theorem eV_b (it rg : Nat → Int32) (ts : List Tm) : (eV it rg ts).toInt = -2000000 ∨ (-1000000 ≤ (eV it rg ts).toInt ∧ (eV it rg ts).toInt ≤ 1000000) := by
  unfold eV
  split
  · exact Or.inl rfl
  · rename_i q
    have q2 : -1000000 ≤ eS it rg ts ∧ eS it rg ts ≤ 1000000 := Decidable.not_not.mp (fun w => q (Or.inr w))
    rw [ti_z (by omega) (by omega)]
    exact Or.inr q2
theorem wtF_b (it rg : Nat → Int32) (ts : List Tm) (cs : List Cmp) : (wtF it rg ts cs).toInt = -2000000 ∨ (-1000000 ≤ (wtF it rg ts cs).toInt ∧ (wtF it rg ts cs).toInt ≤ 1000000) := by
  unfold wtF
  split
  · exact eV_b _ _ _
  · exact Or.inl rfl
theorem wS_b {it : Nat → Int32} {s : Nat} (hs : s < 20) (b : bndI 20 gv) : (wS so E Cn gv rg s it).toInt = -2000000 ∨ (-1000000 ≤ (wS so E Cn gv rg s it).toInt ∧ (wS so E Cn gv rg s it).toInt ≤ 1000000) := by
  unfold wS
  split
  · exact wtF_b _ _ _ _
  · split
    · exact b s hs
    · exact Or.inl rfl
theorem wI_b (b : bndI 20 gv) : ∀ s, s ≤ 20 → bndI 20 (wI so E Cn gv rg s) := by
  intro s
  induction s with
  | zero => intro _ i _; exact Or.inl rfl
  | succ s ih =>
    intro hs i hi
    show (if i = s then wS so E Cn gv rg s (wI so E Cn gv rg s) else wI so E Cn gv rg s i).toInt = -2000000 ∨ _
    rw [wI]
    by_cases e : i = s
    · simp only [e, if_true]; exact wS_b (by omega) b
    · simp only [e, if_false]; exact ih (by omega) i hi
theorem wI_hi : ∀ s i, s ≤ i → wI so E Cn gv rg s i = -2000000 := by
  intro s
  induction s with
  | zero => intro i _; rfl
  | succ s ih =>
    intro i hi
    show (if i = s then _ else wI so E Cn gv rg s i) = _
    rw [if_neg (by omega)]; exact ih i (by omega)
theorem wE_le : ∀ n s, s ≤ wE so E Cn gv rg n s ∧ wE so E Cn gv rg n s ≤ s + n := by
  intro n
  induction n with
  | zero => intro s; exact ⟨Nat.le_refl _, Nat.le_refl _⟩
  | succ n ih =>
    intro s
    rw [wE]
    split
    · omega
    · have := ih (s + 1); omega
/-- a form's cells that a walk looks at -/
def fmC (h : aH) (A o : Nat → Nat) (f cnt : Nat) (so : Nat → Int32) (E : Nat → List Tm) (Cn : Nat → List Cmp) : Prop := TF h A o f ∧ lenT h A f ∧ (gI h (A (bF f)) 11 = nI cnt ∧ cnt ≤ 20 ∧ f ≤ 60) ∧ ∀ s, s < cnt → gI h (A (bF f + 3)) s = so s ∧ stC h A f s (E s) (Cn s) ∧ 0 ≤ (so s).toInt ∧ (so s).toInt ≤ 3
theorem stC_hU {I : Nat → Nat → Int32} {J : Nat → Nat → Int64} {s : Nat} {e : List Tm} {cs : List Cmp} (hI : ∀ j, j < 12 → I (A (bF f + j)) = gI h (A (bF f + j))) (c : stC h A f s e cs) : stC (hU h I J) A f s e cs := by
  unfold stC
  simp only [gIh, gL_hU]
  rw [hI 8 (by omega), hI 9 (by omega), hI 1 (by omega), hI 2 (by omega)]
  exact c
theorem fmC_hU {I : Nat → Nat → Int32} {J : Nat → Nat → Int64} (hI : ∀ j, j < 12 → I (A (bF f + j)) = gI h (A (bF f + j))) (c : fmC h A o f cnt so E Cn) : fmC (hU h I J) A o f cnt so E Cn := by
  obtain ⟨c1, c2, c3, c4⟩ := c
  have h0 := hI 0 (by omega)
  refine ⟨c1, c2, ⟨?_, c3.2⟩, fun s hs => ?_⟩
  · show I (A (bF f)) 11 = _
    rw [show I (A (bF f)) = gI h (A (bF f)) from h0]; exact c3.1
  · obtain ⟨q1, q2, q3⟩ := c4 s hs
    refine ⟨?_, stC_hU hI q2, q3⟩
    show I (A (bF f + 3)) s = _
    rw [hI 3 (by omega)]; exact q1
theorem F_ne_S {j i : Nat} (t : TF h A o f) (u : TS h A o k) (hf : f ≤ 60) (hk : k ≤ 60) (hj : j < 12) (hi : i < 5) : A (bF f + j) ≠ A (bS k + i) := by
  intro e
  have kj : ∀ j, j < 12 → ∃ kd, liv h A o (bF f + j) kd := fun j hj => by
    have : ∃ kd ∈ [3, 100, 101, 8], (j, kd) ∈ kF := (show ∀ j : Fin 12, ∃ kd ∈ [3, 100, 101, 8], (j.val, kd) ∈ kF by decide) ⟨j, hj⟩
    obtain ⟨kd, -, hm⟩ := this
    exact ⟨kd, t.1 _ hm⟩
  have ki : ∀ j, j < 5 → ∃ kd, liv h A o (bS k + j) kd := fun j hj => by
    have : ∃ kd ∈ [10, 100], (j, kd) ∈ kS := (show ∀ j : Fin 5, ∃ kd ∈ [10, 100], (j.val, kd) ∈ kS by decide) ⟨j, hj⟩
    obtain ⟨kd, -, hm⟩ := this
    exact ⟨kd, u.1 _ hm⟩
  obtain ⟨k1, v1⟩ := kj j hj
  obtain ⟨k2, v2⟩ := ki i hi
  have := v1.1
  rw [e, v2.1] at this
  unfold bF bS at this
  omega
theorem S_ne {i j : Nat} (u : TS h A o k) (hi : i < 5) (hj : j < 5) (hne : i ≠ j) : A (bS k + i) ≠ A (bS k + j) := by
  have ki : ∀ j, j < 5 → ∃ kd, liv h A o (bS k + j) kd := fun j hj => by
    have : ∃ kd ∈ [10, 100], (j, kd) ∈ kS := (show ∀ j : Fin 5, ∃ kd ∈ [10, 100], (j.val, kd) ∈ kS by decide) ⟨j, hj⟩
    obtain ⟨kd, -, hm⟩ := this
    exact ⟨kd, u.1 _ hm⟩
  obtain ⟨k1, v1⟩ := ki i hi
  obtain ⟨k2, v2⟩ := ki j hj
  exact liv_ne v1 v2 (by omega)
/-- the walk's own cells -/
def wkI (h : aH) (A : Nat → Nat) (k : Nat) (I : Nat → Nat → Int32) : Prop := (∀ a, a ≠ A (bS k) → a ≠ A (bS k + 2) → I a = gI h a) ∧ ∀ j, j ≠ 6 → j ≠ 7 → j ≠ 8 → I (A (bS k)) j = gI h (A (bS k)) j
theorem c_walkw {K : aH → Prop} (fm : fmC h A o f cnt so E Cn) (u : TS h A o k) (hk : k ≤ 60) (hf : gR h (A (bS k)) 0 = A (bF f)) (hg : ∀ i, i < 20 → gI h (A (bS k + 3)) i = gv i) (hr : ∀ i, i < 6 → gI h (A (bS k + 1)) i = rg i) (b1 : bndI 20 gv) (b2 : bndI 6 rg)
    (kk : ∀ I : Nat → Nat → Int32, wkI h A k I → (I (A (bS k)) 6 = nI (wE so E Cn gv rg cnt 0) ∧ I (A (bS k)) 7 = bB so E Cn gv rg 2 (wE so E Cn gv rg cnt 0) ∧ I (A (bS k)) 8 = bB so E Cn gv rg 3 (wE so E Cn gv rg cnt 0)) → (∀ i, i < 20 → I (A (bS k + 2)) i = wI so E Cn gv rg (wE so E Cn gv rg cnt 0) i) → K (hU h I (gJ h))) :
    ∀ (n s : Nat) (I : Nat → Nat → Int32), s + n = cnt → wE so E Cn gv rg cnt 0 = wE so E Cn gv rg n s → wkI h A k I → (I (A (bS k)) 7 = bB so E Cn gv rg 2 s ∧ I (A (bS k)) 8 = bB so E Cn gv rg 3 s) → (∀ i, i < 20 → I (A (bS k + 2)) i = wI so E Cn gv rg s i) →
      Wp (d + 4) 136 (21, [some (vR (A (bS k))), some (vI (nI s)), none], [], hU h I (gJ h)) (RV K X) := by
  have fm' := fm
  obtain ⟨t, l, ⟨c1, c2, c3⟩, c4⟩ := fm
  have hcI : (nI cnt).toInt = cnt := ti_n (by omega)
  have n02 : A (bS k + 2) ≠ A (bS k) := S_ne u (i := 2) (j := 0) (by omega) (by omega) (by omega)
  have n32 := S_ne u (i := 3) (j := 2) (by omega) (by omega) (by omega)
  have n30 : A (bS k + 3) ≠ A (bS k) := S_ne u (i := 3) (j := 0) (by omega) (by omega) (by omega)
  have n12 := S_ne u (i := 1) (j := 2) (by omega) (by omega) (by omega)
  have n10 : A (bS k + 1) ≠ A (bS k) := S_ne u (i := 1) (j := 0) (by omega) (by omega) (by omega)
  have nF : ∀ j, j < 12 → A (bF f + j) ≠ A (bS k) ∧ A (bF f + j) ≠ A (bS k + 2) := fun j hj => ⟨F_ne_S (i := 0) t u c3 hk hj (by omega), F_ne_S (i := 2) t u c3 hk hj (by omega)⟩
  intro n
  induction n with
  | zero =>
    intro s I hs hE hw hb hi
    have hsc : s = cnt := by omega
    subst hsc
    rw [wE] at hE
    have f0 := hw.1 _ (nF 0 (by omega)).1 (nF 0 (by omega)).2
    refine w136_21 ?_
    have g1 : I (A (bF f)) 11 = nI s := by rw [show I (A (bF f)) = gI h (A (bF f)) from f0]; exact c1
    simp only [↓forall_eq, ↓inB_iff, gK_hU, gL_hU, gR_hU, gIh, gJh, pI_hU, pJ_hU, hU_hU, uI_app, uJ_app, and_true, true_and, and_false, false_and, and_self, true_implies, false_implies, not_true, not_false_iff, if_true, if_false, eq_self, Nat.reduceLeDiff, Nat.reduceEqDiff, reduceCtorEq, i32c, ti0, ti1, tiM, Int.natCast_nonneg, Int.reduceEq, Int.reduceLE, Int.reduceLT, Int.reduceNeg, tl_i, Int32.reduceToInt, Int64.reduceToInt, tiA, tlM6, Int.toNat_natCast, natc, nI_1, Int.zero_sub, implies_true, not_false_eq_true, kS_0 u, hf, kF_0 t, g1, Int.lt_irrefl, eS_0 u]
    refine kk _ ⟨fun a a1 a2 => by rw [uI_ne _ _ _ a1, hw.1 a a1 a2], fun j j6 j7 j8 => by rw [uI_nj _ _ _ _ j6, hw.2 j j6 j7 j8]⟩ ⟨by rw [uI_same, hE], ?_, ?_⟩ (fun i h20 => ?_)
    · rw [uI_nj _ _ _ _ (by decide), hE]; exact hb.1
    · rw [uI_nj _ _ _ _ (by decide), hE]; exact hb.2
    · rw [uI_ne _ _ _ n02, hE]; exact hi i h20
  | succ n ih =>
    intro s I hs hE hw hb hi
    have f0 := hw.1 _ (nF 0 (by omega)).1 (nF 0 (by omega)).2
    have f3 := hw.1 _ (nF 3 (by omega)).1 (nF 3 (by omega)).2
    have g1 : I (A (bF f)) 11 = nI cnt := by rw [show I (A (bF f)) = gI h (A (bF f)) from f0]; exact c1
    obtain ⟨s1, s2, s3, s4⟩ := c4 s (by omega)
    have g3 : I (A (bF f + 3)) s = so s := by rw [f3]; exact s1
    have hsI : (nI s).toInt = s := ti_n (by omega)
    have q1 : (s : Int) < cnt := by omega
    have q2 : (s : Int) < 20 := by omega
    have stc : stC (hU h I (gJ h)) A f s (E s) (Cn s) := stC_hU (fun j hj => hw.1 _ (nF j hj).1 (nF j hj).2) s2
    have bw := wI_b (so := so) (E := E) (Cn := Cn) (rg := rg) b1 s (by omega)
    have iv : itT (hU h I (gJ h)) (A (bS k + 2)) (A (bS k + 1)) (wI so E Cn gv rg s) rg := ⟨⟨kS_2 u, lS_2 u, kS_1 u, lS_1 u⟩, hi, fun i h6 => by rw [gIh, hw.1 _ n10 n12]; exact hr i h6⟩
    have g4 : I (A (bS k + 3)) s = gv s := by rw [hw.1 _ n30 n32]; exact hg s (by omega)
    have t' : TF (hU h I (gJ h)) A o f := t
    have l' : lenT (hU h I (gJ h)) A f := l
    -- on with the next statement
    have next : ∀ (I2 : Nat → Nat → Int32), stp so E Cn gv rg s = false → wkI h A k I2 → (I2 (A (bS k)) 7 = bB so E Cn gv rg 2 (s + 1) ∧ I2 (A (bS k)) 8 = bB so E Cn gv rg 3 (s + 1)) → (∀ i, i < 20 → I2 (A (bS k + 2)) i = wI so E Cn gv rg (s + 1) i) → Wp (d + 4) 136 (21, [some (vR (A (bS k))), some (vI (nI (s + 1))), none], [], hU h I2 (gJ h)) (RV K X) := fun I2 hst a1 a2 a3 =>
      ih (s + 1) I2 (by omega) (by rw [hE, wE, if_neg (by rw [hst]; decide)]) a1 a2 a3
    have item : ∀ (v : Int32), v = wS so E Cn gv rg s (wI so E Cn gv rg s) → ∀ i, i < 20 → uI I (A (bS k + 2)) s v (A (bS k + 2)) i = wI so E Cn gv rg (s + 1) i := fun v hv i h20 => by
      rw [uI_app]
      show _ = if i = s then wS so E Cn gv rg s (wI so E Cn gv rg s) else wI so E Cn gv rg s i
      by_cases e : i = s
      · rw [if_pos ⟨rfl, e⟩, if_pos e, hv]
      · rw [if_neg (fun w => e w.2), if_neg e]; exact hi i h20
    have same' : (wS so E Cn gv rg s (wI so E Cn gv rg s) = -2000000) → ∀ i, i < 20 → I (A (bS k + 2)) i = wI so E Cn gv rg (s + 1) i := fun hv i h20 => by
      show _ = if i = s then wS so E Cn gv rg s (wI so E Cn gv rg s) else wI so E Cn gv rg s i
      by_cases e : i = s
      · rw [if_pos e, hv, e, hi s (by omega), wI_hi s s (Nat.le_refl _)]
      · rw [if_neg e]; exact hi i h20
    have wk2 : ∀ (v : Int32), wkI h A k (uI I (A (bS k + 2)) s v) := fun v => ⟨fun a a1 a2 => by rw [uI_ne _ _ _ a2, hw.1 a a1 a2], fun j j6 j7 j8 => by rw [uI_ne _ _ _ n02.symm, hw.2 j j6 j7 j8]⟩
    have nb : ∀ w : Int, w ≠ (so s).toInt → bB so E Cn gv rg w (s + 1) = bB so E Cn gv rg w s := fun w hw9 => by
      rw [bB, if_neg]
      unfold brk
      simp only [Bool.and_eq_true, decide_eq_true_eq]
      rintro ⟨e, -⟩
      exact hw9 e.symm
    refine w136_21 ?_
    simp only [↓forall_eq, ↓inB_iff, gK_hU, gL_hU, gR_hU, gIh, gJh, pI_hU, pJ_hU, hU_hU, uI_app, uJ_app, and_true, true_and, and_false, false_and, and_self, true_implies, false_implies, not_true, not_false_iff, if_true, if_false, eq_self, Nat.reduceLeDiff, Nat.reduceEqDiff, reduceCtorEq, i32c, ti0, ti1, tiM, Int.natCast_nonneg, Int.reduceEq, Int.reduceLE, Int.reduceLT, Int.reduceNeg, tl_i, Int32.reduceToInt, Int64.reduceToInt, tiA, tlM6, Int.toNat_natCast, natc, nI_1, Int.zero_sub, implies_true, not_false_eq_true, kS_0 u, hf, kF_0 t, eF_0 t, rF_0_2 t, kF_3 t, lF_3 t, g1, hcI, hsI, q1, q2, g3, rS_0_3 u, rS_0_2 u, rS_0_4 u, kS_2 u, lS_2 u, eS_2 u, kS_3 u, lS_3 u, eS_0 u, ↓worth_br t' l' iv bw b2 (show s < 20 by omega) stc, ↓applies_br t' l' iv bw b2 (show s < 20 by omega) stc, bI0]
    have n32' : ¬ (A (bS k + 3) = A (bS k + 2)) := n32
    refine ⟨fun e1 => ?_, fun e1 => ⟨fun e0 => ⟨fun ea => ?_, fun ea => ?_⟩, fun e0 => ?_⟩⟩
    · -- a let
      refine next _ ?_ (wk2 _) ⟨?_, ?_⟩ (item _ ?_)
      · unfold stp; rw [decide_eq_false (by omega)]; rfl
      · rw [uI_ne _ _ _ n02.symm, nb 2 (by omega)]; exact hb.1
      · rw [uI_ne _ _ _ n02.symm, nb 3 (by omega)]; exact hb.2
      · unfold wS; rw [if_pos e1]
    · -- an ask that isn't asked
      refine w136_124 ?_
      rw [e0]
      refine ⟨fun w => absurd w (by decide), fun _ => w136_163 ?_⟩
      rw [e0]
      refine ⟨fun w => absurd w (by decide), fun _ v2 ev => ?_⟩
      rw [ev, nI_1]
      refine next _ ?_ hw ⟨?_, ?_⟩ (same' ?_)
      · unfold stp; rw [ea]; simp
      · rw [nb 2 (by omega)]; exact hb.1
      · rw [nb 3 (by omega)]; exact hb.2
      · unfold wS; rw [if_neg e1, if_neg (fun w => by rw [ea] at w; exact absurd w.2 (by decide))]
    · -- an ask
      have ea' : apF (wI so E Cn gv rg s) rg (Cn s) = true := bnf ea
      have hwS : wS so E Cn gv rg s (wI so E Cn gv rg s) = gv s := by unfold wS; rw [if_neg e1, if_pos ⟨e0, ea'⟩]
      simp only [uI_app, n32', false_and, if_false, g4]
      refine ⟨fun eg => ?_, fun eg => ?_⟩
      · have hst : stp so E Cn gv rg s = true := by unfold stp; rw [decide_eq_true e0, ea', decide_eq_true eg]; rfl
        rw [wE, if_pos hst] at hE
        refine kk _ ⟨fun a a1 a2 => by rw [uI_ne _ _ _ a1, (wk2 _).1 a a1 a2], fun j j6 j7 j8 => by rw [uI_nj _ _ _ _ j6, (wk2 _).2 j j6 j7 j8]⟩ ⟨by rw [uI_same, hE], ?_, ?_⟩ (fun i h20 => ?_)
        · rw [uI_nj _ _ _ _ (by decide), uI_ne _ _ _ n02.symm, hE]; exact hb.1
        · rw [uI_nj _ _ _ _ (by decide), uI_ne _ _ _ n02.symm, hE]; exact hb.2
        · rw [uI_ne _ _ _ n02, hE, uI_app]
          by_cases e : i = s
          · rw [if_pos ⟨rfl, e⟩, e, wI_hi s s (Nat.le_refl _)]
            exact ti_inj eg
          · rw [if_neg (fun w => e w.2)]; exact hi i h20
      · refine next _ ?_ (wk2 _) ⟨?_, ?_⟩ (item _ hwS.symm)
        · unfold stp; rw [decide_eq_false eg]; simp
        · rw [uI_ne _ _ _ n02.symm, nb 2 (by omega)]; exact hb.1
        · rw [uI_ne _ _ _ n02.symm, nb 3 (by omega)]; exact hb.2
    · -- a must or a warn
      have hst : stp so E Cn gv rg s = false := by unfold stp; rw [decide_eq_false e0]; rfl
      have hwS : wS so E Cn gv rg s (wI so E Cn gv rg s) = -2000000 := by unfold wS; rw [if_neg e1, if_neg (fun w => e0 w.1)]
      have wk7 : ∀ v, wkI h A k (uI I (A (bS k)) 7 v) := fun v => ⟨fun a a1 a2 => by rw [uI_ne _ _ _ a1, hw.1 a a1 a2], fun j j6 j7 j8 => by rw [uI_nj _ _ _ _ j7, hw.2 j j6 j7 j8]⟩
      have wk8 : ∀ v, wkI h A k (uI I (A (bS k)) 8 v) := fun v => ⟨fun a a1 a2 => by rw [uI_ne _ _ _ a1, hw.1 a a1 a2], fun j j6 j7 j8 => by rw [uI_nj _ _ _ _ j8, hw.2 j j6 j7 j8]⟩
      refine w136_124 ?_
      simp only [↓forall_eq, ↓inB_iff, gK_hU, gL_hU, gR_hU, gIh, gJh, pI_hU, pJ_hU, hU_hU, uI_app, uJ_app, and_true, true_and, and_false, false_and, and_self, true_implies, false_implies, not_true, not_false_iff, if_true, if_false, eq_self, Nat.reduceLeDiff, Nat.reduceEqDiff, reduceCtorEq, i32c, ti0, ti1, tiM, Int.natCast_nonneg, Int.reduceEq, Int.reduceLE, Int.reduceLT, Int.reduceNeg, tl_i, Int32.reduceToInt, Int64.reduceToInt, tiA, tlM6, Int.toNat_natCast, natc, nI_1, Int.zero_sub, implies_true, not_false_eq_true, kS_0 u, hf, kF_0 t, eF_0 t, rS_0_3 u, rS_0_2 u, eS_0 u, ↓isBroken_br t' l' iv bw b2 (show s < 20 by omega) stc, bI0]
      refine ⟨fun e2 => ⟨fun eb => ?_, fun eb => ?_⟩, fun e2 => ?_⟩
      · refine w136_163 ⟨fun w => by omega, fun _ v2 ev => ?_⟩
        rw [ev, nI_1]
        refine next _ hst hw ⟨?_, ?_⟩ (same' hwS)
        · rw [bB, if_neg (by unfold brk; rw [eb]; simp)]; exact hb.1
        · rw [nb 3 (by omega)]; exact hb.2
      · have eb' := bnf eb
        refine next _ hst (wk7 _) ⟨?_, ?_⟩ (fun i h20 => by rw [uI_ne _ _ _ n02]; exact same' hwS i h20)
        · rw [uI_same, bB, if_pos (by unfold brk; rw [eb', decide_eq_true e2]; rfl), hb.1]
        · rw [uI_nj _ _ _ _ (by decide), nb 3 (by omega)]; exact hb.2
      · refine w136_163 ?_
        simp only [↓forall_eq, ↓inB_iff, gK_hU, gL_hU, gR_hU, gIh, gJh, pI_hU, pJ_hU, hU_hU, uI_app, uJ_app, and_true, true_and, and_false, false_and, and_self, true_implies, false_implies, not_true, not_false_iff, if_true, if_false, eq_self, Nat.reduceLeDiff, Nat.reduceEqDiff, reduceCtorEq, i32c, ti0, ti1, tiM, Int.natCast_nonneg, Int.reduceEq, Int.reduceLE, Int.reduceLT, Int.reduceNeg, tl_i, Int32.reduceToInt, Int64.reduceToInt, tiA, tlM6, Int.toNat_natCast, natc, nI_1, Int.zero_sub, implies_true, not_false_eq_true, kS_0 u, hf, kF_0 t, eF_0 t, rS_0_3 u, rS_0_2 u, eS_0 u, ↓isBroken_br t' l' iv bw b2 (show s < 20 by omega) stc, bI0]
        refine ⟨fun e3 => ⟨fun eb => ?_, fun eb => ?_⟩, fun e3 => by omega⟩
        · refine next _ hst hw ⟨?_, ?_⟩ (same' hwS)
          · rw [nb 2 (by omega)]; exact hb.1
          · rw [bB, if_neg (by unfold brk; rw [eb]; simp)]; exact hb.2
        · have eb' := bnf eb
          refine next _ hst (wk8 _) ⟨?_, ?_⟩ (fun i h20 => by rw [uI_ne _ _ _ n02]; exact same' hwS i h20)
          · rw [uI_nj _ _ _ _ (by decide), nb 2 (by omega)]; exact hb.1
          · rw [uI_same, bB, if_pos (by unfold brk; rw [eb', decide_eq_true e3]; rfl), hb.2]
theorem c_walk {K : aH → Prop} (fm : fmC h A o f cnt so E Cn) (u : TS h A o k) (hk : k ≤ 60) (hf : gR h (A (bS k)) 0 = A (bF f)) (hg : ∀ i, i < 20 → gI h (A (bS k + 3)) i = gv i) (hr : ∀ i, i < 6 → gI h (A (bS k + 1)) i = rg i) (b1 : bndI 20 gv) (b2 : bndI 6 rg)
    (kk : ∀ I : Nat → Nat → Int32, wkI h A k I → (I (A (bS k)) 6 = nI (wE so E Cn gv rg cnt 0) ∧ I (A (bS k)) 7 = bB so E Cn gv rg 2 (wE so E Cn gv rg cnt 0) ∧ I (A (bS k)) 8 = bB so E Cn gv rg 3 (wE so E Cn gv rg cnt 0)) → (∀ i, i < 20 → I (A (bS k + 2)) i = wI so E Cn gv rg (wE so E Cn gv rg cnt 0) i) → K (hU h I (gJ h))) : CV (d + 4) 136 [vR (A (bS k))] h K X := by
  have n02 : A (bS k + 2) ≠ A (bS k) := S_ne u (i := 2) (j := 0) (by omega) (by omega) (by omega)
  refine m136 ⟨kS_0 u, ?_⟩
  rw [rS_0_3 u]
  refine fill_br (h := h) (I := gI h) (J := gJ h) (eS_2 u) (kS_2 u) (lS_2 u) (by decide) fun I1 a1 a2 => ?_
  simp only [↓forall_eq, ↓inB_iff, gK_hU, gL_hU, gR_hU, gIh, gJh, pI_hU, pJ_hU, hU_hU, uI_app, uJ_app, and_true, true_and, and_false, false_and, and_self, true_implies, false_implies, not_true, not_false_iff, if_true, if_false, eq_self, Nat.reduceLeDiff, Nat.reduceEqDiff, reduceCtorEq, i32c, ti0, ti1, tiM, Int.natCast_nonneg, Int.reduceEq, Int.reduceLE, Int.reduceLT, Int.reduceNeg, tl_i, Int32.reduceToInt, Int64.reduceToInt, tiA, tlM6, Int.toNat_natCast, natc, nI_1, Int.zero_sub, implies_true, not_false_eq_true, kS_0 u, eS_0 u]
  refine c_walkw fm u hk hf hg hr b1 b2 kk cnt 0 _ (by omega) rfl ⟨fun a q1 q2 => by rw [uI_ne _ _ _ q1, uI_ne _ _ _ q1, a2 a q2], fun j j6 j7 j8 => by rw [uI_nj _ _ _ _ j8, uI_nj _ _ _ _ j7, a2 _ n02.symm]⟩ ⟨?_, uI_same _ _ _ _⟩ (fun i h20 => ?_)
  · rw [uI_nj _ _ _ _ (by decide), uI_same]; rfl
  · rw [uI_ne _ _ _ n02, uI_ne _ _ _ n02, a1 i h20]; rfl
end WLK
