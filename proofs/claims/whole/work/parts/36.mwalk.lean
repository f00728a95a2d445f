/-! A SESSION'S WALK: the model's side -/
section MWK
variable {d : Nat} {g : aH} {X : Nat → aH → Prop} {I I0 : Nat → Nat → Int32} {J : Nat → Nat → Int64}
def agr (it it' rg rg' : Nat → Int32) : Prop := (∀ i, i < 20 → it i = it' i) ∧ ∀ i, i < 6 → rg i = rg' i
def okT (ts : List Tm) : Prop := ∀ t ∈ ts, tOK t
def okC (cs : List Cmp) : Prop := ∀ c ∈ cs, okT c.1 ∧ okT c.2.2.1
variable {it it' rg rg' : Nat → Int32}
theorem tV_cg {t : Tm} (a : agr it it' rg rg') (h : tOK t) : tV it rg t = tV it' rg' t := by
  obtain ⟨n, s, v⟩ := t
  obtain ⟨o1, o2, o3, o4⟩ := h
  simp only at o1 o2 o3 o4
  unfold tV
  simp only
  split
  · rfl
  · split
    · rename_i e; have := o3 e; exact a.1 _ (by omega)
    · have := o4 (by omega); exact a.2 _ (by omega)
theorem eAS_cg (a : agr it it' rg rg') : ∀ ts, okT ts → eA it rg ts = eA it' rg' ts ∧ eS it rg ts = eS it' rg' ts := by
  intro ts
  induction ts with
  | nil => intro _; exact ⟨rfl, rfl⟩
  | cons t ts ih =>
    intro h
    have e := tV_cg a (h t (by simp))
    have i := ih (fun x hx => h x (by simp [hx]))
    simp only [eA, eS, tA, tS, e, i.1, i.2, and_self]
theorem eV_cg {ts : List Tm} (a : agr it it' rg rg') (h : okT ts) : eV it rg ts = eV it' rg' ts := by
  have := eAS_cg a ts h
  unfold eV
  rw [this.1, this.2]
theorem jf_cg (a : agr it it' rg rg') : ∀ (cs : List Cmp) (x y z : Bool), okC cs → jf it rg cs x y z = jf it' rg' cs x y z := by
  intro cs
  induction cs with
  | nil => intro x y z _; rfl
  | cons c cs ih =>
    intro x y z h
    have hc := h c (by simp)
    have e1 : cO it rg c = cO it' rg' c := by unfold cO; rw [eV_cg a hc.1, eV_cg a hc.2]
    have e2 : cT it rg c = cT it' rg' c := by unfold cT; rw [e1]
    have e3 : cN it rg c = cN it' rg' c := by unfold cN; rw [e1]
    have h2 : okC cs := fun q hq => h q (by simp [hq])
    rw [jf, jf, e2, e3]
    split
    · exact ih _ _ _ h2
    · exact ih _ _ _ h2
theorem ok_encR {Th Wh : Nat → Int32} : ∀ (ts : List Tm) (p : Nat), encR Th Wh p ts → okT ts := by
  intro ts
  induction ts with
  | nil => intro p _ t ht; cases ht
  | cons t ts ih =>
    intro p he x hx
    rcases List.mem_cons.mp hx with e | e
    · rw [e]; exact he.1.2.2.2
    · exact ih _ he.2 x e
theorem ok_encE {Th Wh : Nat → Int32} {ts : List Tm} {p : Nat} (he : encE Th Wh p ts) : okT ts := by
  cases ts with
  | nil => exact he.elim
  | cons t ts =>
    intro x hx
    rcases List.mem_cons.mp hx with e | e
    · rw [e]; exact he.1.2.2.2
    · exact ok_encR _ _ he.2 x e
theorem ok_encMM {Th Wh : Nat → Int32} : ∀ (cs : List Cmp) (p : Nat), encMM Th Wh p cs → okC cs := by
  intro cs
  induction cs with
  | nil => intro p _ t ht; cases ht
  | cons t ts ih =>
    intro p he x hx
    rcases List.mem_cons.mp hx with e | e
    · rw [e]; exact ⟨ok_encE he.1.1, ok_encE he.2.1.1⟩
    · exact ih _ he.2.2 x e
/-- a statement in the model: at the place i -/
def stM (I : Nat → Nat → Int32) (i : Nat) (so : Int32) (E : List Tm) (Cn : List Cmp) : Prop := (so.toInt = 1 → ∃ p, I 59 i = nI p ∧ I 60 i = nI (p + mL E) ∧ p + mL E ≤ 7200 ∧ encE (I 63) (I 64) p E) ∧ (Cn = [] → (I 61 i).toInt = -1) ∧ (Cn ≠ [] → ∃ p to, I 61 i = nI p ∧ I 62 i = nI to ∧ to ≤ 7200 ∧ p + mLC Cn = to + 1 ∧ encMM (I 63) (I 64) p Cn) ∧ (2 ≤ so.toInt → Cn ≠ [])
def fmM (I : Nat → Nat → Int32) (f cnt : Nat) (so : Nat → Int32) (E : Nat → List Tm) (Cn : Nat → List Cmp) : Prop := (I 53 f = nI cnt ∧ cnt ≤ 20 ∧ f < 6) ∧ ∀ s, s < cnt → I 54 (20 * f + s) = so s ∧ stM I (20 * f + s) (so s) (E s) (Cn s) ∧ 0 ≤ (so s).toInt ∧ (so s).toInt ≤ 3
/-- the first place with P among n, or -1 -/
def fsB (P : Nat → Bool) : Nat → Int
  | 0 => -1
  | s + 1 => if fsB P s = -1 ∧ P s = true then s else fsB P s
theorem fsB_rng (P : Nat → Bool) : ∀ n, fsB P n = -1 ∨ (0 ≤ fsB P n ∧ fsB P n < n) := by
  intro n
  induction n with
  | zero => exact Or.inl rfl
  | succ n ih =>
    rw [fsB]
    split
    · exact Or.inr ⟨by omega, by omega⟩
    · rcases ih with e | e
      · exact Or.inl e
      · exact Or.inr ⟨e.1, by omega⟩
def wmI (I0 I : Nat → Nat → Int32) : Prop := (∀ a, a ≠ 44 → a ≠ 65 → a ≠ 66 → I a = I0 a) ∧ ∀ j, j ≠ 36 → j ≠ 37 → j ≠ 50 → j ≠ 51 → j ≠ 52 → I 44 j = I0 44 j
variable {so : Nat → Int32} {E : Nat → List Tm} {Cn : Nat → List Cmp} {gv : Nat → Int32} {f k cnt : Nat} {beh : Int32}
/-- what is broken behind a question, unless it was noted -/
def bkM (so : Nat → Int32) (E : Nat → List Tm) (Cn : Nat → List Cmp) (gv rg : Nat → Int32) (w beh : Int) (nt : Nat → Bool) (s : Nat) : Bool := brk so E Cn gv rg w s && (decide (beh < s) && !nt s)
theorem m_walkw {K : aH → Prop} {nt : Nat → Bool} (mf : MF g) (fm : fmM I0 f cnt so E Cn) (hk : k < 60) (hg : ∀ i, i < 20 → ((I0 71 (20 * k + i)).toInt = 0 → gv i = -2000000) ∧ (¬ (I0 71 (20 * k + i)).toInt = 0 → gv i = I0 72 (20 * k + i) ∧ ¬ (gv i).toInt = -2000000)) (hn : ∀ i, i < 20 → nt i = !decide ((I0 75 (20 * k + i)).toInt = 0))
    (kk : ∀ I : Nat → Nat → Int32, wmI I0 I → (∀ i, i < 20 → I 65 i = wI so E Cn gv rg (wE so E Cn gv rg cnt 0) i) → (I 44 50 = nI (wE so E Cn gv rg cnt 0) ∧ I 44 51 = iZ (fsB (bkM so E Cn gv rg 2 beh.toInt (fun _ => false)) (wE so E Cn gv rg cnt 0)) ∧ I 44 52 = iZ (fsB (bkM so E Cn gv rg 3 beh.toInt nt) (wE so E Cn gv rg cnt 0))) → K (hU g I J)) :
    ∀ (n s : Nat) (I : Nat → Nat → Int32), s + n = cnt → wE so E Cn gv rg cnt 0 = wE so E Cn gv rg n s → wmI I0 I → (∀ i, i < 20 → I 65 i = wI so E Cn gv rg s i) → (∀ i, i < 6 → I 66 i = rg i) → (I 44 50 = nI s ∧ I 44 51 = iZ (fsB (bkM so E Cn gv rg 2 beh.toInt (fun _ => false)) s) ∧ I 44 52 = iZ (fsB (bkM so E Cn gv rg 3 beh.toInt nt) s)) →
      Wp (d + 3) 148 (82, [some (vR 44), some (vI (nI k)), some (vI beh), some (vI (nI f)), none, none, none], [], hU g I J) (RV K X) := by
  obtain ⟨⟨c1, c2, c3⟩, c4⟩ := fm
  have hcI : (nI cnt).toInt = cnt := ti_n (by omega)
  have hfI : (nI f).toInt = f := ti_n (by omega)
  have f6 : (f : Int) < 6 := by omega
  have nt20 : ∀ x : Nat, (20 : Int32) * nI x = nI (20 * x) := fun x => by rw [show (20 : Int32) = nI 20 from rfl, nI_mul]
  intro n
  induction n with
  | zero =>
    intro s I hs hE hw hi hr hb
    have hsc : s = cnt := by omega
    subst hsc
    rw [wE] at hE
    have i53 := hw.1 53 (by decide) (by decide) (by decide)
    refine w148_82 ?_
    simp only [↓forall_eq, ↓inB_iff, gK_hU, gL_hU, gR_hU, gIh, gJh, pI_hU, pJ_hU, hU_hU, uI_app, uJ_app, and_true, true_and, and_false, false_and, and_self, true_implies, false_implies, not_true, not_false_iff, if_true, if_false, eq_self, Nat.reduceLeDiff, Nat.reduceEqDiff, reduceCtorEq, i32c, ti0, ti1, tiM, Int.natCast_nonneg, Int.reduceEq, Int.reduceLE, Int.reduceLT, Int.reduceNeg, tl_i, Int32.reduceToInt, Int64.reduceToInt, tiA, tlM6, Int.toNat_natCast, natc, nI_1, Int.zero_sub, implies_true, not_false_eq_true, mf.1, mr_15 mf, mk_53 mf, ml_53 mf, mr_16 mf, mk_54 mf, ml_54 mf, mr_21 mf, mk_59 mf, ml_59 mf, mr_22 mf, mk_60 mf, ml_60 mf, mr_23 mf, mk_61 mf, ml_61 mf, mr_24 mf, mk_62 mf, ml_62 mf, mr_34 mf, mk_65 mf, ml_65 mf, mr_35 mf, mk_66 mf, ml_66 mf, mr_39 mf, mk_67 mf, ml_67 mf, mr_41 mf, mk_69 mf, ml_69 mf, mr_43 mf, mk_71 mf, ml_71 mf, mr_44 mf, mk_72 mf, ml_72 mf, mr_47 mf, mk_75 mf, ml_75 mf, hfI, f6, i53, c1, hb.1, Int.lt_irrefl]
    exact kk I hw (fun i h20 => by rw [hE]; exact hi i h20) (by rw [hE]; exact hb)
  | succ n ih =>
    intro s I hs hE hw hi hr hb
    obtain ⟨hb0, hb1, hb2⟩ := hb
    have iA := fun a (h1 : a ≠ 44) (h2 : a ≠ 65) (h3 : a ≠ 66) => hw.1 a h1 h2 h3
    have i53 := iA 53 (by decide) (by decide) (by decide)
    have i54 := iA 54 (by decide) (by decide) (by decide)
    have i59 := iA 59 (by decide) (by decide) (by decide)
    have i60 := iA 60 (by decide) (by decide) (by decide)
    have i61 := iA 61 (by decide) (by decide) (by decide)
    have i62 := iA 62 (by decide) (by decide) (by decide)
    have i63 := iA 63 (by decide) (by decide) (by decide)
    have i64 := iA 64 (by decide) (by decide) (by decide)
    have i71 := iA 71 (by decide) (by decide) (by decide)
    have i72 := iA 72 (by decide) (by decide) (by decide)
    have i75 := iA 75 (by decide) (by decide) (by decide)
    obtain ⟨s1, ⟨s2, s3, s4, s5⟩, s6, s7⟩ := c4 s (by omega)
    have hsI : (nI s).toInt = s := ti_n (by omega)
    have q1 : (s : Int) < cnt := by omega
    have q2 : (s : Int) < 20 := by omega
    have ixI : (nI (20 * f + s)).toInt = ((20 * f + s : Nat) : Int) := ti_n (by omega)
    have ix1 : ((20 * f + s : Nat) : Int) < 120 := by omega
    have kxI : (nI (20 * k + s)).toInt = ((20 * k + s : Nat) : Int) := ti_n (by omega)
    have kx1 : ((20 * k + s : Nat) : Int) < 1200 := by omega
    obtain ⟨hg1, hg2⟩ := hg s (by omega)
    have hns := hn s (by omega)
    have ag : agr (I 65) (wI so E Cn gv rg s) (I 66) rg := ⟨hi, hr⟩
    have nb : ∀ (w : Int) (nt : Nat → Bool), w ≠ (so s).toInt → fsB (bkM so E Cn gv rg w beh.toInt nt) (s + 1) = fsB (bkM so E Cn gv rg w beh.toInt nt) s := fun w nt hw9 => by
      rw [fsB, if_neg]
      unfold bkM brk
      simp only [Bool.and_eq_true, decide_eq_true_eq]
      rintro ⟨-, ⟨e, -⟩, -⟩
      exact hw9 e.symm
    -- on with the next statement
    have next : ∀ (I2 : Nat → Nat → Int32), stp so E Cn gv rg s = false → wmI I0 I2 → (∀ i, i < 20 → I2 65 i = wI so E Cn gv rg (s + 1) i) → (∀ i, i < 6 → I2 66 i = rg i) → (I2 44 50 = nI (s + 1) ∧ I2 44 51 = iZ (fsB (bkM so E Cn gv rg 2 beh.toInt (fun _ => false)) (s + 1)) ∧ I2 44 52 = iZ (fsB (bkM so E Cn gv rg 3 beh.toInt nt) (s + 1))) → Wp (d + 3) 148 (82, [some (vR 44), some (vI (nI k)), some (vI beh), some (vI (nI f)), none, none, none], [], hU g I2 J) (RV K X) := fun I2 hst a1 a2 a3 a4 =>
      ih (s + 1) I2 (by omega) (by rw [hE, wE, if_neg (by rw [hst]; decide)]) a1 a2 a3 a4
    have step : ∀ (ap : Bool) (I1 : Nat → Nat → Int32), ap = apF (wI so E Cn gv rg s) rg (Cn s) → holI I I1 → (2 ≤ (so s).toInt → I1 44 37 = bI (jf (wI so E Cn gv rg s) rg (Cn s) false false true).2) → Wp (d + 3) 148 (143, [some (vR 44), some (vI (nI k)), some (vI beh), some (vI (nI f)), some (vI (nI (20 * f + s))), none, none], [vI (bI ap)], hU g I1 J) (RV K X) := by
      intro ap I1 hap hh hmis
      have jA := fun a (h1 : a ≠ 44) (h2 : a ≠ 65) (h3 : a ≠ 66) => (hh.1 a h1).trans (iA a h1 h2 h3)
      have j54 := jA 54 (by decide) (by decide) (by decide)
      have j59 := jA 59 (by decide) (by decide) (by decide)
      have j60 := jA 60 (by decide) (by decide) (by decide)
      have j63 := jA 63 (by decide) (by decide) (by decide)
      have j64 := jA 64 (by decide) (by decide) (by decide)
      have j71 := jA 71 (by decide) (by decide) (by decide)
      have j72 := jA 72 (by decide) (by decide) (by decide)
      have j75 := jA 75 (by decide) (by decide) (by decide)
      have j65 := hh.1 65 (by decide)
      have j66 := hh.1 66 (by decide)
      have j50 : I1 44 50 = nI s := by rw [hh.2 50 (by decide) (by decide)]; exact hb0
      have j51 := (hh.2 51 (by decide) (by decide)).trans hb1
      have j52 := (hh.2 52 (by decide) (by decide)).trans hb2
      have hw1 : wmI I0 I1 := ⟨fun a h1 h2 h3 => (hh.1 a h1).trans (hw.1 a h1 h2 h3), fun j h1 h2 h3 h4 h5 => (hh.2 j h1 h2).trans (hw.2 j h1 h2 h3 h4 h5)⟩
      have hw2 : ∀ (I2 : Nat → Nat → Int32) (v x : Int32), wmI I0 I2 → wmI I0 (uI (uI I2 65 s v) 44 50 x) := fun I2 v x q => ⟨fun a h1 h2 h3 => by rw [uI_ne _ _ _ h1, uI_ne _ _ _ h2, q.1 a h1 h2 h3], fun j h1 h2 h3 h4 h5 => by rw [uI_nj _ _ _ _ h3, uI_ne _ _ _ (by decide), q.2 j h1 h2 h3 h4 h5]⟩
      have item : ∀ (I2 : Nat → Nat → Int32) (v x : Int32), I2 65 = I 65 → v = wS so E Cn gv rg s (wI so E Cn gv rg s) → ∀ i, i < 20 → uI (uI I2 65 s v) 44 50 x 65 i = wI so E Cn gv rg (s + 1) i := fun I2 v x q hv i h20 => by
        rw [uI_ne _ _ _ (by decide), uI_app]
        show _ = if i = s then wS so E Cn gv rg s (wI so E Cn gv rg s) else wI so E Cn gv rg s i
        by_cases e : i = s
        · rw [if_pos ⟨rfl, e⟩, if_pos e, hv]
        · rw [if_neg (fun w => e w.2), if_neg e, q]; exact hi i h20
      have same' : ∀ (I2 : Nat → Nat → Int32), I2 65 = I 65 → wS so E Cn gv rg s (wI so E Cn gv rg s) = -2000000 → ∀ i, i < 20 → I2 65 i = wI so E Cn gv rg (s + 1) i := fun I2 q hv i h20 => by
        show _ = if i = s then wS so E Cn gv rg s (wI so E Cn gv rg s) else wI so E Cn gv rg s i
        by_cases e : i = s
        · rw [if_pos e, hv, e, q, hi s (by omega), wI_hi s s (Nat.le_refl _)]
        · rw [if_neg e, q]; exact hi i h20
      refine w148_143 ?_
      simp +contextual only [↓forall_eq, ↓inB_iff, gK_hU, gL_hU, gR_hU, gIh, gJh, pI_hU, pJ_hU, hU_hU, uI_app, uJ_app, and_true, true_and, and_false, false_and, and_self, true_implies, false_implies, not_true, not_false_iff, if_true, if_false, eq_self, Nat.reduceLeDiff, Nat.reduceEqDiff, reduceCtorEq, i32c, ti0, ti1, tiM, Int.natCast_nonneg, Int.reduceEq, Int.reduceLE, Int.reduceLT, Int.reduceNeg, tl_i, Int32.reduceToInt, Int64.reduceToInt, tiA, tlM6, Int.toNat_natCast, natc, nI_1, Int.zero_sub, implies_true, not_false_eq_true, mf.1, mr_15 mf, mk_53 mf, ml_53 mf, mr_16 mf, mk_54 mf, ml_54 mf, mr_21 mf, mk_59 mf, ml_59 mf, mr_22 mf, mk_60 mf, ml_60 mf, mr_23 mf, mk_61 mf, ml_61 mf, mr_24 mf, mk_62 mf, ml_62 mf, mr_34 mf, mk_65 mf, ml_65 mf, mr_35 mf, mk_66 mf, ml_66 mf, mr_39 mf, mk_67 mf, ml_67 mf, mr_41 mf, mk_69 mf, ml_69 mf, mr_43 mf, mk_71 mf, ml_71 mf, mr_44 mf, mk_72 mf, ml_72 mf, mr_47 mf, mk_75 mf, ml_75 mf, ixI, ix1, j54, s1, j50, hsI, q2, nt20, nI_add, kxI, kx1, j71, j72, j75, j59, j60, bI0]
      refine ⟨fun e0 => ⟨fun ea => ?_, fun ea => ⟨fun eg => ?_, fun eg => ?_⟩⟩, fun e0 => ⟨fun e1 => ⟨fun ea => ?_, fun ea => ?_⟩, fun e1 => ?_⟩⟩
      · -- an ask that isn't asked
        have hwS : wS so E Cn gv rg s (wI so E Cn gv rg s) = -2000000 := by unfold wS; rw [if_neg (by omega), if_neg (fun w => by rw [← hap, ea] at w; exact absurd w.2 (by decide))]
        refine next _ (by unfold stp; rw [← hap, ea]; simp) (hw2 _ _ _ hw1) (item _ _ _ j65 hwS.symm) (fun i h6 => by rw [uI_ne _ _ _ (by decide), uI_ne _ _ _ (by decide), j66]; exact hr i h6) ⟨uI_same _ _ _ _, ?_, ?_⟩
        · rw [uI_nj _ _ _ _ (by decide), uI_ne _ _ _ (by decide), nb 2 _ (by omega)]; exact j51
        · rw [uI_nj _ _ _ _ (by decide), uI_ne _ _ _ (by decide), nb 3 _ (by omega)]; exact j52
      · -- the question
        have hst : stp so E Cn gv rg s = true := by unfold stp; rw [← hap, bnf ea, decide_eq_true e0, hg1 eg]; rfl
        rw [wE, if_pos hst] at hE
        exact kk I1 hw1 (fun i h20 => by rw [hE, j65]; exact hi i h20) (by rw [hE]; exact ⟨j50, j51, j52⟩)
      · -- an answered ask
        obtain ⟨g1, g2⟩ := hg2 eg
        have hwS : wS so E Cn gv rg s (wI so E Cn gv rg s) = gv s := by unfold wS; rw [if_neg (by omega), if_pos ⟨e0, by rw [← hap]; exact bnf ea⟩]
        refine next _ (by unfold stp; rw [decide_eq_false g2]; simp) (hw2 _ _ _ hw1) (item _ _ _ j65 (by rw [hwS, g1])) (fun i h6 => by rw [uI_ne _ _ _ (by decide), uI_ne _ _ _ (by decide), j66]; exact hr i h6) ⟨uI_same _ _ _ _, ?_, ?_⟩
        · rw [uI_nj _ _ _ _ (by decide), uI_ne _ _ _ (by decide), nb 2 _ (by omega)]; exact j51
        · rw [uI_nj _ _ _ _ (by decide), uI_ne _ _ _ (by decide), nb 3 _ (by omega)]; exact j52
      · -- a let that doesn't apply
        have hwS : wS so E Cn gv rg s (wI so E Cn gv rg s) = -2000000 := by unfold wS wtF; rw [if_pos e1, if_neg (by rw [← hap, ea]; decide)]
        refine next _ (by unfold stp; rw [decide_eq_false e0]; rfl) (hw2 _ _ _ hw1) (item _ _ _ j65 hwS.symm) (fun i h6 => by rw [uI_ne _ _ _ (by decide), uI_ne _ _ _ (by decide), j66]; exact hr i h6) ⟨uI_same _ _ _ _, ?_, ?_⟩
        · rw [uI_nj _ _ _ _ (by decide), uI_ne _ _ _ (by decide), nb 2 _ (by omega)]; exact j51
        · rw [uI_nj _ _ _ _ (by decide), uI_ne _ _ _ (by decide), nb 3 _ (by omega)]; exact j52
      · -- a let
        obtain ⟨p, p1, p2, p3, p4⟩ := s2 e1
        rw [p1, p2]
        refine m_sum (I := I1) (d := d + 1) (E := E s) mf p3 (Nat.le_refl _) (fun w => absurd w (Nat.lt_irrefl _)) (by rw [j63, j64]; exact p4) fun I2 z2 z3 => ?_
        have hev : eV (I1 65) (I1 66) (E s) = wS so E Cn gv rg s (wI so E Cn gv rg s) := by
          unfold wS wtF
          rw [if_pos e1, if_pos (by rw [← hap]; exact bnf ea), j65, j66]
          exact eV_cg ag (ok_encE p4)
        have hw3 : wmI I0 I2 := ⟨fun a h1 h2 h3 => (z2.1 a h1).trans (hw1.1 a h1 h2 h3), fun j h1 h2 h3 h4 h5 => (z2.2 j h1).trans (hw1.2 j h1 h2 h3 h4 h5)⟩
        have z50 : I2 44 50 = nI s := (z2.2 50 (by decide)).trans j50
        simp only [↓forall_eq, ↓inB_iff, gK_hU, gL_hU, gR_hU, gIh, gJh, pI_hU, pJ_hU, hU_hU, uI_app, uJ_app, and_true, true_and, and_false, false_and, and_self, true_implies, false_implies, not_true, not_false_iff, if_true, if_false, eq_self, Nat.reduceLeDiff, Nat.reduceEqDiff, reduceCtorEq, i32c, ti0, ti1, tiM, Int.natCast_nonneg, Int.reduceEq, Int.reduceLE, Int.reduceLT, Int.reduceNeg, tl_i, Int32.reduceToInt, Int64.reduceToInt, tiA, tlM6, Int.toNat_natCast, natc, nI_1, Int.zero_sub, implies_true, not_false_eq_true, mf.1, mr_15 mf, mk_53 mf, ml_53 mf, mr_16 mf, mk_54 mf, ml_54 mf, mr_21 mf, mk_59 mf, ml_59 mf, mr_22 mf, mk_60 mf, ml_60 mf, mr_23 mf, mk_61 mf, ml_61 mf, mr_24 mf, mk_62 mf, ml_62 mf, mr_34 mf, mk_65 mf, ml_65 mf, mr_35 mf, mk_66 mf, ml_66 mf, mr_39 mf, mk_67 mf, ml_67 mf, mr_41 mf, mk_69 mf, ml_69 mf, mr_43 mf, mk_71 mf, ml_71 mf, mr_44 mf, mk_72 mf, ml_72 mf, mr_47 mf, mk_75 mf, ml_75 mf, hsI, q2, z50]
        refine next _ (by unfold stp; rw [decide_eq_false e0]; rfl) (hw2 _ _ _ hw3) (item _ _ _ ((z2.1 65 (by decide)).trans j65) hev) (fun i h6 => by rw [uI_ne _ _ _ (by decide), uI_ne _ _ _ (by decide), z2.1 66 (by decide), j66]; exact hr i h6) ⟨uI_same _ _ _ _, ?_, ?_⟩
        · rw [uI_nj _ _ _ _ (by decide), uI_ne _ _ _ (by decide), nb 2 _ (by omega), z2.2 51 (by decide)]; exact j51
        · rw [uI_nj _ _ _ _ (by decide), uI_ne _ _ _ (by decide), nb 3 _ (by omega), z2.2 52 (by decide)]; exact j52
      · -- a must or a warn
        have hst : stp so E Cn gv rg s = false := by unfold stp; rw [decide_eq_false e0]; rfl
        have hwS : wS so E Cn gv rg s (wI so E Cn gv rg s) = -2000000 := by unfold wS; rw [if_neg e1, if_neg (fun w => e0 w.1)]
        have hcn := s5 (by omega)
        have hap2 : ap = (jf (wI so E Cn gv rg s) rg (Cn s) false false true).1 := by
          rw [hap]; unfold apF
          cases hq : Cn s with
          | nil => exact absurd hq hcn
          | cons c cs => rfl
        have hmis' := hmis (by omega)
        have hbr : brF (wI so E Cn gv rg s) rg (Cn s) = (!ap && !(jf (wI so E Cn gv rg s) rg (Cn s) false false true).2) := by unfold brF; rw [← hap2]
        have w50 : ∀ (I2 : Nat → Nat → Int32) (x : Int32), wmI I0 I2 → wmI I0 (uI I2 44 50 x) := fun I2 x q => ⟨fun a h1 h2 h3 => by rw [uI_ne _ _ _ h1, q.1 a h1 h2 h3], fun j h1 h2 h3 h4 h5 => by rw [uI_nj _ _ _ _ h3, q.2 j h1 h2 h3 h4 h5]⟩
        have w51 : ∀ (I2 : Nat → Nat → Int32) (x : Int32), wmI I0 I2 → wmI I0 (uI I2 44 51 x) := fun I2 x q => ⟨fun a h1 h2 h3 => by rw [uI_ne _ _ _ h1, q.1 a h1 h2 h3], fun j h1 h2 h3 h4 h5 => by rw [uI_nj _ _ _ _ h4, q.2 j h1 h2 h3 h4 h5]⟩
        have w52 : ∀ (I2 : Nat → Nat → Int32) (x : Int32), wmI I0 I2 → wmI I0 (uI I2 44 52 x) := fun I2 x q => ⟨fun a h1 h2 h3 => by rw [uI_ne _ _ _ h1, q.1 a h1 h2 h3], fun j h1 h2 h3 h4 h5 => by rw [uI_nj _ _ _ _ h5, q.2 j h1 h2 h3 h4 h5]⟩
        -- nothing is broken here
        have calm : (∀ w nt, bkM so E Cn gv rg w beh.toInt nt s = false) → Wp (d + 3) 148 (82, [some (vR 44), some (vI (nI k)), some (vI beh), some (vI (nI f)), none, none, none], [], hU g (uI I1 44 50 (nI (s + 1))) J) (RV K X) := fun hc => by
          have fz : ∀ w nt, fsB (bkM so E Cn gv rg w beh.toInt nt) (s + 1) = fsB (bkM so E Cn gv rg w beh.toInt nt) s := fun w nt => by rw [fsB, if_neg (fun q => by rw [hc] at q; exact absurd q.2 (by decide))]
          refine next _ hst (w50 _ _ hw1) (same' _ (by rw [uI_ne _ _ _ (by decide)]; exact j65) hwS) (fun i h6 => by rw [uI_ne _ _ _ (by decide), j66]; exact hr i h6) ⟨uI_same _ _ _ _, ?_, ?_⟩
          · rw [uI_nj _ _ _ _ (by decide), fz]; exact j51
          · rw [uI_nj _ _ _ _ (by decide), fz]; exact j52
        -- the end of a broken one
        have tail : ∀ (x : Int32) (l6 : Bool), x = iZ (fsB (bkM so E Cn gv rg 2 beh.toInt (fun _ => false)) (s + 1)) → ((so s).toInt = 3 → l6 = !nt s) → brF (wI so E Cn gv rg s) rg (Cn s) = true → beh.toInt < s → Wp (d + 3) 148 (351, [some (vR 44), some (vI (nI k)), some (vI beh), some (vI (nI f)), some (vI (nI (20 * f + s))), none, some (vI (bI l6))], [vI x, vR 44], hU g I1 J) (RV K X) := fun x l6 hx hl6 hbk hlt => by
          have r52 := fsB_rng (bkM so E Cn gv rg 3 beh.toInt nt) s
          have t52 := ti_z (z := fsB (bkM so E Cn gv rg 3 beh.toInt nt) s) (by omega) (by omega)
          have hzs : iZ (s : Int) = nI s := ti_inj (by rw [ti_z (by omega) (by omega), hsI])
          have fin : ∀ (y : Int32), y = iZ (fsB (bkM so E Cn gv rg 3 beh.toInt nt) (s + 1)) → Wp (d + 3) 148 (82, [some (vR 44), some (vI (nI k)), some (vI beh), some (vI (nI f)), none, none, none], [], hU g (uI (uI (uI I1 44 51 x) 44 52 y) 44 50 (nI (s + 1))) J) (RV K X) := fun y hy =>
            next _ hst (w50 _ _ (w52 _ _ (w51 _ _ hw1))) (same' _ (by rw [uI_ne _ _ _ (by decide), uI_ne _ _ _ (by decide), uI_ne _ _ _ (by decide)]; exact j65) hwS) (fun i h6 => by rw [uI_ne _ _ _ (by decide), uI_ne _ _ _ (by decide), uI_ne _ _ _ (by decide), j66]; exact hr i h6) ⟨uI_same _ _ _ _, by rw [uI_nj _ _ _ _ (by decide), uI_nj _ _ _ _ (by decide), uI_same, hx], by rw [uI_nj _ _ _ _ (by decide), uI_same, hy]⟩
          refine w148_351 ?_
          simp only [↓forall_eq, ↓inB_iff, gK_hU, gL_hU, gR_hU, gIh, gJh, pI_hU, pJ_hU, hU_hU, uI_app, uJ_app, and_true, true_and, and_false, false_and, and_self, true_implies, false_implies, not_true, not_false_iff, if_true, if_false, eq_self, Nat.reduceLeDiff, Nat.reduceEqDiff, reduceCtorEq, i32c, ti0, ti1, tiM, Int.natCast_nonneg, Int.reduceEq, Int.reduceLE, Int.reduceLT, Int.reduceNeg, tl_i, Int32.reduceToInt, Int64.reduceToInt, tiA, tlM6, Int.toNat_natCast, natc, nI_1, Int.zero_sub, implies_true, not_false_eq_true, mf.1, mr_15 mf, mk_53 mf, ml_53 mf, mr_16 mf, mk_54 mf, ml_54 mf, mr_21 mf, mk_59 mf, ml_59 mf, mr_22 mf, mk_60 mf, ml_60 mf, mr_23 mf, mk_61 mf, ml_61 mf, mr_24 mf, mk_62 mf, ml_62 mf, mr_34 mf, mk_65 mf, ml_65 mf, mr_35 mf, mk_66 mf, ml_66 mf, mr_39 mf, mk_67 mf, ml_67 mf, mr_41 mf, mk_69 mf, ml_69 mf, mr_43 mf, mk_71 mf, ml_71 mf, mr_44 mf, mk_72 mf, ml_72 mf, mr_47 mf, mk_75 mf, ml_75 mf, ixI, ix1, j54, s1, j50, j52, t52, bI0]
          refine ⟨fun e3 => ⟨fun en => ⟨fun e6 => ?_, fun e6 => ?_⟩, fun en => ?_⟩, fun e3 => ?_⟩
          · refine fin _ ?_
            rw [fsB, if_neg]
            unfold bkM
            rw [hl6 e3] at e6
            rw [e6]; simp
          · refine fin _ ?_
            have e6' := bnf e6
            rw [hl6 e3] at e6'
            rw [fsB, if_pos, hzs]
            refine ⟨en, ?_⟩
            unfold bkM brk
            rw [hbk, decide_eq_true e3, decide_eq_true hlt, e6']; rfl
          · refine fin _ ?_
            rw [fsB, if_neg (fun q => en q.1)]
          · refine fin _ ?_
            rw [nb 3 _ (fun q => e3 q.symm)]
        have hzs : iZ (s : Int) = nI s := ti_inj (by rw [ti_z (by omega) (by omega), hsI])
        have r51 := fsB_rng (bkM so E Cn gv rg 2 beh.toInt (fun _ => false)) s
        have t51 := ti_z (z := fsB (bkM so E Cn gv rg 2 beh.toInt (fun _ => false)) s) (by omega) (by omega)
        have b1' : (1 : Int32) = bI true := rfl
        have b0' : (0 : Int32) = bI false := rfl
        simp only [hmis', bI0, j51, t51]
        refine ⟨fun ea => ⟨fun em => ⟨fun el => ⟨fun e2 => ⟨fun en => ?_, fun en => ?_⟩, fun e2 => ⟨fun eo => ?_, fun eo => ?_⟩⟩, fun el => ?_⟩, fun em => ?_⟩, fun ea => ?_⟩
        · have hbk : brF (wI so E Cn gv rg s) rg (Cn s) = true := by rw [hbr, ea, em]; rfl
          rw [b1']
          refine tail _ true ?_ (fun q => by omega) hbk el
          rw [fsB, if_pos ⟨en, by unfold bkM brk; rw [hbk, decide_eq_true e2, decide_eq_true el]; rfl⟩, hzs]
        · have hbk : brF (wI so E Cn gv rg s) rg (Cn s) = true := by rw [hbr, ea, em]; rfl
          rw [b1']
          refine tail _ true ?_ (fun q => by omega) hbk el
          rw [fsB, if_neg (fun q => en q.1)]
        · have hbk : brF (wI so E Cn gv rg s) rg (Cn s) = true := by rw [hbr, ea, em]; rfl
          rw [b1']
          refine tail _ true ?_ (fun _ => by rw [hns, decide_eq_true eo]; rfl) hbk el
          rw [nb 2 _ (fun q => e2 q.symm)]
        · have hbk : brF (wI so E Cn gv rg s) rg (Cn s) = true := by rw [hbr, ea, em]; rfl
          rw [b0']
          refine tail _ false ?_ (fun _ => by rw [hns, decide_eq_false eo]; rfl) hbk el
          rw [nb 2 _ (fun q => e2 q.symm)]
        · exact calm fun w nt => by unfold bkM; rw [decide_eq_false el]; simp
        · exact calm fun w nt => by unfold bkM brk; rw [hbr, bnf em]; simp
        · exact calm fun w nt => by unfold bkM brk; rw [hbr, bnf ea]; simp
    have b1' : (1 : Int32) = bI true := rfl
    have b0' : (0 : Int32) = bI false := rfl
    refine w148_82 ?_
    simp only [↓forall_eq, ↓inB_iff, gK_hU, gL_hU, gR_hU, gIh, gJh, pI_hU, pJ_hU, hU_hU, uI_app, uJ_app, and_true, true_and, and_false, false_and, and_self, true_implies, false_implies, not_true, not_false_iff, if_true, if_false, eq_self, Nat.reduceLeDiff, Nat.reduceEqDiff, reduceCtorEq, i32c, ti0, ti1, tiM, Int.natCast_nonneg, Int.reduceEq, Int.reduceLE, Int.reduceLT, Int.reduceNeg, tl_i, Int32.reduceToInt, Int64.reduceToInt, tiA, tlM6, Int.toNat_natCast, natc, nI_1, Int.zero_sub, implies_true, not_false_eq_true, mf.1, mr_15 mf, mk_53 mf, ml_53 mf, mr_16 mf, mk_54 mf, ml_54 mf, mr_21 mf, mk_59 mf, ml_59 mf, mr_22 mf, mk_60 mf, ml_60 mf, mr_23 mf, mk_61 mf, ml_61 mf, mr_24 mf, mk_62 mf, ml_62 mf, mr_34 mf, mk_65 mf, ml_65 mf, mr_35 mf, mk_66 mf, ml_66 mf, mr_39 mf, mk_67 mf, ml_67 mf, mr_41 mf, mk_69 mf, ml_69 mf, mr_43 mf, mk_71 mf, ml_71 mf, mr_44 mf, mk_72 mf, ml_72 mf, mr_47 mf, mk_75 mf, ml_75 mf, hfI, f6, i53, c1, hcI, hb0, hsI, q1, nt20, nI_add, ixI, ix1, i61, i62]
    refine ⟨fun ec => ?_, fun ec => ?_⟩
    · have hcn : Cn s = [] := by
        cases hq : Cn s with
        | nil => rfl
        | cons c cs =>
          obtain ⟨p, to, p1, p2, p3, p4, p5⟩ := s4 (by rw [hq]; simp)
          rw [p1, ti_n (by omega)] at ec
          omega
      rw [b1']
      refine step true I (by unfold apF; rw [hcn]; rfl) ⟨fun _ _ => rfl, fun _ _ _ => rfl⟩ (fun q => absurd hcn (s5 q))
    · have hcn : Cn s ≠ [] := fun q => ec (s3 q)
      obtain ⟨p, to, p1, p2, p3, p4, p5⟩ := s4 hcn
      rw [p1, p2]
      refine m_holds (I := I) (d := d) mf p3 hcn p4 (by rw [i63, i64]; exact p5) fun I1 hh hm => ?_
      have hj := jf_cg ag (Cn s) false false true (ok_encMM _ _ p5)
      rw [hj] at hm ⊢
      have hap : (jf (wI so E Cn gv rg s) rg (Cn s) false false true).1 = apF (wI so E Cn gv rg s) rg (Cn s) := by
        unfold apF
        cases hq : Cn s with
        | nil => exact absurd hq hcn
        | cons c cs => rfl
      simp only [bI0]
      refine ⟨fun eb => ?_, fun eb => ?_⟩
      · rw [b0']; exact step false I1 (by rw [← hap, eb]) hh (fun _ => hm)
      · rw [b1']; exact step true I1 (by rw [← hap, bnf eb]) hh (fun _ => hm)
end MWK
