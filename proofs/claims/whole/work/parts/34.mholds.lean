/-! CONDITIONS: the model's holds -/
section MHO
variable {d : Nat} {g : aH} {X : Nat → aH → Prop} {I : Nat → Nat → Int32} {J : Nat → Nat → Int64}
def rOK (r : Int32) : Prop := r = 1 ∨ r = 3 ∨ r = 2 ∨ r = 5 ∨ r = 6 ∨ r = 4
def relM (r : Int32) : Int32 := if r = 1 then 5 else if r = 3 then 6 else if r = 2 then 7 else if r = 5 then 8 else if r = 6 then 9 else 10
def encMM (Th Wh : Nat → Int32) : Nat → List Cmp → Prop
  | _, [] => True
  | p, c :: cs => (encE Th Wh p c.1 ∧ Th (p + mL c.1) = relM c.2.1 ∧ rOK c.2.1) ∧ (encE Th Wh (p + mL c.1 + 1) c.2.2.1 ∧ (cs ≠ [] → Th (p + mL c.1 + 1 + mL c.2.2.1) = if c.2.2.2 = true then 11 else 12) ∧ (cs = [] → c.2.2.2 = false)) ∧ encMM Th Wh (p + mL c.1 + 1 + mL c.2.2.1 + 1) cs
def mLC : List Cmp → Nat
  | [] => 0
  | c :: cs => mL c.1 + 1 + mL c.2.2.1 + 1 + mLC cs
theorem oc_and {r a b : Int32} (hr : rOK r) : ((a.toInt = -2000000 ∨ b.toInt = -2000000) → decide ((r &&& oc a b).toInt ≠ 0) = false) ∧ (¬ (a.toInt = -2000000 ∨ b.toInt = -2000000) → decide ((r &&& oc a b).toInt ≠ 0) = if r = 1 then decide (a.toInt < b.toInt) else if r = 3 then decide (a.toInt ≤ b.toInt) else if r = 2 then decide (a.toInt = b.toInt) else if r = 5 then decide (a.toInt ≠ b.toInt) else if r = 6 then decide (b.toInt ≤ a.toInt) else decide (b.toInt < a.toInt)) := by
  refine ⟨fun q => ?_, fun q => ?_⟩
  · unfold oc
    rw [if_pos q]
    rcases hr with rfl | rfl | rfl | rfl | rfl | rfl <;> decide
  · unfold oc
    rw [if_neg q]
    by_cases e : a.toInt = b.toInt
    · rw [if_pos e, e]
      rcases hr with rfl | rfl | rfl | rfl | rfl | rfl <;> simp <;> decide
    · rw [if_neg e]
      by_cases l : a.toInt < b.toInt
      · rw [if_pos l]
        have l2 : ¬ b.toInt ≤ a.toInt := by omega
        have l3 : ¬ b.toInt < a.toInt := by omega
        have l4 : a.toInt ≤ b.toInt := by omega
        simp only [l, l2, l3, l4, ne_eq, e, not_false_eq_true]
        rcases hr with rfl | rfl | rfl | rfl | rfl | rfl <;> decide
      · rw [if_neg l]
        have l2 : b.toInt ≤ a.toInt := by omega
        have l3 : b.toInt < a.toInt := by omega
        have l4 : ¬ a.toInt ≤ b.toInt := by omega
        simp only [l, l2, l3, l4, ne_eq, e, not_false_eq_true]
        rcases hr with rfl | rfl | rfl | rfl | rfl | rfl <;> decide
/-- while conditions are looked at: place and missing change, nothing else -/
def holI (I I' : Nat → Nat → Int32) : Prop := (∀ a, a ≠ 44 → I' a = I a) ∧ ∀ j, j ≠ 36 → j ≠ 37 → I' 44 j = I 44 j
theorem bnf {b : Bool} (h : ¬ b = false) : b = true := by cases b <;> simp_all
theorem bI_and1 (a : Bool) : bI a &&& 1 = bI a := by cases a <;> decide
theorem m_holdsw {K : Int32 → aH → Prop} {to : Nat} (f : MF g) (h2 : to ≤ 7200) :
    ∀ (cs : List Cmp) (p : Nat) (any all mis : Bool) (I' : Nat → Nat → Int32), cs ≠ [] → holI I I' → I' 44 37 = bI mis → p + mLC cs = to + 1 → encMM (I 63) (I 64) p cs →
      (∀ (I2 : Nat → Nat → Int32), holI I I2 → I2 44 37 = bI (jf (I 65) (I 66) cs any mis all).2 → K (bI (jf (I 65) (I 66) cs any mis all).1) (hU g I2 J)) →
      Wp (d + 2) 147 (13, [some (vR 44), none, some (vI (nI to)), some (vI (bI any)), some (vI (bI all)), some (vI (nI p)), none, none, none, none], [], hU g I' J) (RI K X) := by
  have htI : (nI to).toInt = to := ti_n (by omega)
  intro cs
  induction cs with
  | nil => intro p any all mis I' h0; exact absurd rfl h0
  | cons c cs ih =>
    intro p any all mis I' h0 s hm hl he k
    obtain ⟨⟨e1, e2, e3⟩, ⟨e4, e5, e6⟩, e7⟩ := he
    rw [mLC] at hl
    have hpI : (nI p).toInt = p := ti_n (by omega)
    have q1 : (p : Int) < to := by omega
    have i63 := s.1 63 (by decide)
    have i64 := s.1 64 (by decide)
    have i65 := s.1 65 (by decide)
    have i66 := s.1 66 (by decide)
    have relM_gt : 4 < (relM c.2.1).toInt := by rcases e3 with e | e | e | e | e | e <;> rw [e] <;> decide
    refine w147_13 ?_
    simp only [↓forall_eq, ↓inB_iff, gK_hU, gL_hU, gR_hU, gIh, gJh, pI_hU, pJ_hU, hU_hU, uI_app, uJ_app, and_true, true_and, and_false, false_and, and_self, true_implies, false_implies, not_true, not_false_iff, if_true, if_false, eq_self, Nat.reduceLeDiff, Nat.reduceEqDiff, reduceCtorEq, i32c, ti0, ti1, tiM, Int.natCast_nonneg, Int.reduceEq, Int.reduceLE, Int.reduceLT, Int.reduceNeg, tl_i, Int32.reduceToInt, Int64.reduceToInt, tiA, tlM6, Int.toNat_natCast, natc, nI_1, Int.zero_sub, implies_true, not_false_eq_true, f.1, mr_25 f, mk_63 f, ml_63 f, hpI, htI, q1]
    have pe1 : p + mL c.1 ≤ to := by omega
    refine m_sum (I := I') (d := d) (E := c.1) f h2 pe1 (fun _ => by rw [i63, e2]; exact relM_gt) (by rw [i63, i64]; exact e1) fun I2 s2 p2 => ?_
    have j63 : I2 63 = I 63 := (s2.1 63 (by decide)).trans i63
    have j64 : I2 64 = I 64 := (s2.1 64 (by decide)).trans i64
    have j65 : I2 65 = I 65 := (s2.1 65 (by decide)).trans i65
    have j66 : I2 66 = I 66 := (s2.1 66 (by decide)).trans i66
    have p2I : (nI (p + mL c.1)).toInt = ((p + mL c.1 : Nat) : Int) := ti_n (by omega)
    have q2 : ((p + mL c.1 : Nat) : Int) < 7200 := by omega
    simp only [↓forall_eq, ↓inB_iff, gK_hU, gL_hU, gR_hU, gIh, gJh, pI_hU, pJ_hU, hU_hU, uI_app, uJ_app, and_true, true_and, and_false, false_and, and_self, true_implies, false_implies, not_true, not_false_iff, if_true, if_false, eq_self, Nat.reduceLeDiff, Nat.reduceEqDiff, reduceCtorEq, i32c, ti0, ti1, tiM, Int.natCast_nonneg, Int.reduceEq, Int.reduceLE, Int.reduceLT, Int.reduceNeg, tl_i, Int32.reduceToInt, Int64.reduceToInt, tiA, tlM6, Int.toNat_natCast, natc, nI_1, Int.zero_sub, implies_true, not_false_eq_true, f.1, mr_25 f, mk_63 f, ml_63 f, p2, p2I, q2, j63, e2, i65, i66]
    have pe2 : p + mL c.1 + 1 + mL c.2.2.1 ≤ to := by omega
    refine m_sum (I := I2) (d := d) (E := c.2.2.1) f h2 pe2 (fun w => ?_) (by rw [j63, j64]; exact e4) fun I3 s3 p3 => ?_
    · have hne : cs ≠ [] := fun q => by rw [q, mLC] at hl; omega
      rw [j63, e5 hne]
      split <;> decide
    have k63 : I3 63 = I 63 := (s3.1 63 (by decide)).trans j63
    have k37 : I3 44 37 = bI mis := by rw [s3.2 37 (by decide), s2.2 37 (by decide)]; exact hm
    have H3 : holI I I3 := ⟨fun a ha => by rw [s3.1 a ha, s2.1 a ha, s.1 a ha], fun j hj1 hj2 => by rw [s3.2 j hj1, s2.2 j hj1, s.2 j hj1 hj2]⟩
    have p3I : (nI (p + mL c.1 + 1 + mL c.2.2.1)).toInt = ((p + mL c.1 + 1 + mL c.2.2.1 : Nat) : Int) := ti_n (by omega)
    simp only [↓forall_eq, ↓inB_iff, gK_hU, gL_hU, gR_hU, gIh, gJh, pI_hU, pJ_hU, hU_hU, uI_app, uJ_app, and_true, true_and, and_false, false_and, and_self, true_implies, false_implies, not_true, not_false_iff, if_true, if_false, eq_self, Nat.reduceLeDiff, Nat.reduceEqDiff, reduceCtorEq, i32c, ti0, ti1, tiM, Int.natCast_nonneg, Int.reduceEq, Int.reduceLE, Int.reduceLT, Int.reduceNeg, tl_i, Int32.reduceToInt, Int64.reduceToInt, tiA, tlM6, Int.toNat_natCast, natc, nI_1, Int.zero_sub, implies_true, not_false_eq_true, f.1, mr_25 f, mk_63 f, ml_63 f, k37, bI0, j65, j66]
    obtain ⟨oc1, oc2⟩ := oc_and (a := eV (I 65) (I 66) c.1) (b := eV (I 65) (I 66) c.2.2.1) e3
    have hcN : cN (I 65) (I 66) c = true ↔ ((eV (I 65) (I 66) c.1).toInt = -2000000 ∨ (eV (I 65) (I 66) c.2.2.1).toInt = -2000000) := by
      unfold cN cO oc
      rw [decide_eq_true_eq]
      constructor
      · intro w
        by_cases q : (eV (I 65) (I 66) c.1).toInt = -2000000 ∨ (eV (I 65) (I 66) c.2.2.1).toInt = -2000000
        · exact q
        · rw [if_neg q] at w
          split at w
          · exact absurd w (by decide)
          · split at w
            · exact absurd w (by decide)
            · exact absurd w (by decide)
      · intro w; rw [if_pos w]; rfl
    -- behind the comparison
    have fin : ∀ (x : Int32) (I4 : Nat → Nat → Int32), x = bI (all && cT (I 65) (I 66) c) → holI I I4 → I4 44 36 = nI (p + mL c.1 + 1 + mL c.2.2.1) → I4 44 37 = bI (mis || cN (I 65) (I 66) c) → Wp (d + 2) 147 (209, [some (vR 44), none, some (vI (nI to)), some (vI (bI any)), none, none, none, none, none, none], [vI x], hU g I4 J) (RI K X) := fun x I4 hx s4 p4 m4 => by
      subst hx
      have l63 := s4.1 63 (by decide)
      rw [jf] at k
      refine w147_209 ?_
      by_cases hcs : cs = []
      · subst hcs
        have hlast := e6 rfl
        rw [mLC] at hl
        have z : ¬ ((p + mL c.1 + 1 + mL c.2.2.1 : Nat) : Int) < to := by omega
        simp only [↓forall_eq, ↓inB_iff, gK_hU, gL_hU, gR_hU, gIh, gJh, pI_hU, pJ_hU, hU_hU, uI_app, uJ_app, and_true, true_and, and_false, false_and, and_self, true_implies, false_implies, not_true, not_false_iff, if_true, if_false, eq_self, Nat.reduceLeDiff, Nat.reduceEqDiff, reduceCtorEq, i32c, ti0, ti1, tiM, Int.natCast_nonneg, Int.reduceEq, Int.reduceLE, Int.reduceLT, Int.reduceNeg, tl_i, Int32.reduceToInt, Int64.reduceToInt, tiA, tlM6, Int.toNat_natCast, natc, nI_1, Int.zero_sub, implies_true, not_false_eq_true, f.1, mr_25 f, mk_63 f, ml_63 f, p4, p3I, htI, z]
        rw [hlast] at k
        simp only [Bool.false_eq_true, if_false, jf] at k
        have k4 := k I4 s4 m4
        have p5I : (nI (p + mL c.1 + 1 + mL c.2.2.1 + 1)).toInt = ((p + mL c.1 + 1 + mL c.2.2.1 + 1 : Nat) : Int) := ti_n (by omega)
        have z2 : ¬ ((p + mL c.1 + 1 + mL c.2.2.1 + 1 : Nat) : Int) < to := by omega
        refine w147_13 ?_
        simp only [↓forall_eq, ↓inB_iff, gK_hU, gL_hU, gR_hU, gIh, gJh, pI_hU, pJ_hU, hU_hU, uI_app, uJ_app, and_true, true_and, and_false, false_and, and_self, true_implies, false_implies, not_true, not_false_iff, if_true, if_false, eq_self, Nat.reduceLeDiff, Nat.reduceEqDiff, reduceCtorEq, i32c, ti0, ti1, tiM, Int.natCast_nonneg, Int.reduceEq, Int.reduceLE, Int.reduceLT, Int.reduceNeg, tl_i, Int32.reduceToInt, Int64.reduceToInt, tiA, tlM6, Int.toNat_natCast, natc, nI_1, Int.zero_sub, implies_true, not_false_eq_true, f.1, mr_25 f, mk_63 f, ml_63 f, p5I, htI, z2, bI0]
        revert k4
        cases any
        · cases (all && cT (I 65) (I 66) c) <;> simp <;> exact fun w => w
        · simp; exact fun w => w
      · have hlc : 0 < mLC cs := by
          cases cs with
          | nil => exact absurd rfl hcs
          | cons c2 cs2 => rw [mLC]; omega
        have z : ((p + mL c.1 + 1 + mL c.2.2.1 : Nat) : Int) < to := by omega
        have z2 : ((p + mL c.1 + 1 + mL c.2.2.1 : Nat) : Int) < 7200 := by omega
        have e5' := e5 hcs
        cases hc : c.2.2.2
        · rw [hc] at k e5'
          simp only [Bool.false_eq_true, if_false] at k e5'
          simp only [↓forall_eq, ↓inB_iff, gK_hU, gL_hU, gR_hU, gIh, gJh, pI_hU, pJ_hU, hU_hU, uI_app, uJ_app, and_true, true_and, and_false, false_and, and_self, true_implies, false_implies, not_true, not_false_iff, if_true, if_false, eq_self, Nat.reduceLeDiff, Nat.reduceEqDiff, reduceCtorEq, i32c, ti0, ti1, tiM, Int.natCast_nonneg, Int.reduceEq, Int.reduceLE, Int.reduceLT, Int.reduceNeg, tl_i, Int32.reduceToInt, Int64.reduceToInt, tiA, tlM6, Int.toNat_natCast, natc, nI_1, Int.zero_sub, implies_true, not_false_eq_true, f.1, mr_25 f, mk_63 f, ml_63 f, p4, p3I, htI, z, z2, l63, e5', bI0]
          have go := fun (any' : Bool) (hany : any' = (any || (all && cT (I 65) (I 66) c))) => ih (p + mL c.1 + 1 + mL c.2.2.1 + 1) any' true (mis || cN (I 65) (I 66) c) I4 hcs s4 m4 (by omega) e7 (fun I5 s5 m5 => by
            rw [hany] at m5 ⊢
            exact k I5 s5 m5)
          have b1' : (1 : Int32) = bI true := rfl
          have b0' : (0 : Int32) = bI false := rfl
          refine ⟨fun c1 => ⟨fun c2 => ?_, fun c2 => ?_⟩, fun c1 => ?_⟩
          · rw [b0', b1']; exact go false (by rw [c1, c2]; rfl)
          · rw [b1']; exact go true (by rw [c1, bnf c2]; rfl)
          · rw [b1']; exact go true (by rw [bnf c1]; rfl)
        · rw [hc] at k e5'
          simp only [if_true] at k e5'
          simp only [↓forall_eq, ↓inB_iff, gK_hU, gL_hU, gR_hU, gIh, gJh, pI_hU, pJ_hU, hU_hU, uI_app, uJ_app, and_true, true_and, and_false, false_and, and_self, true_implies, false_implies, not_true, not_false_iff, if_true, if_false, eq_self, Nat.reduceLeDiff, Nat.reduceEqDiff, reduceCtorEq, i32c, ti0, ti1, tiM, Int.natCast_nonneg, Int.reduceEq, Int.reduceLE, Int.reduceLT, Int.reduceNeg, tl_i, Int32.reduceToInt, Int64.reduceToInt, tiA, tlM6, Int.toNat_natCast, natc, nI_1, Int.zero_sub, implies_true, not_false_eq_true, f.1, mr_25 f, mk_63 f, ml_63 f, p4, p3I, htI, z, z2, l63, e5', bI0]
          exact ih (p + mL c.1 + 1 + mL c.2.2.1 + 1) any (all && cT (I 65) (I 66) c) (mis || cN (I 65) (I 66) c) I4 hcs s4 m4 (by omega) e7 k
    have cmp : ∀ x : Bool, x = (mis || cN (I 65) (I 66) c) → Wp (d + 2) 147 (79, [some (vR 44), none, some (vI (nI to)), some (vI (bI any)), some (vI (bI all)), none, some (vI (eV (I 65) (I 66) c.1)), some (vI (relM c.2.1)), some (vI (eV (I 65) (I 66) c.2.2.1)), none], [vI (bI x), vR 44], hU g I3 J) (RI K X) := fun x hx => by
      subst hx
      have H4 : holI I (uI I3 44 37 (bI (mis || cN (I 65) (I 66) c))) := ⟨fun a ha => by rw [uI_ne _ _ _ ha, H3.1 a ha], fun j hj1 hj2 => by rw [uI_nj _ _ _ _ hj2, H3.2 j hj1 hj2]⟩
      have p4 : uI I3 44 37 (bI (mis || cN (I 65) (I 66) c)) 44 36 = nI (p + mL c.1 + 1 + mL c.2.2.1) := by rw [uI_nj _ _ _ _ (by decide)]; exact p3
      have fin' := fun x hx => fin x _ hx H4 p4 (uI_same _ _ _ _)
      have hT0 : ∀ (q : all = false), (0 : Int32) = bI (all && cT (I 65) (I 66) c) := fun q => by rw [q]; rfl
      have hTF : ∀ (q : cT (I 65) (I 66) c = false), (0 : Int32) = bI (all && cT (I 65) (I 66) c) := fun q => by rw [q, Bool.and_false]; rfl
      have hTT : ∀ (q : ¬ all = false) (q2 : cT (I 65) (I 66) c = true), (1 : Int32) = bI (all && cT (I 65) (I 66) c) := fun q q2 => by rw [q2, bnf q]; rfl
      have ocT : cT (I 65) (I 66) c = decide ((c.2.1 &&& oc (eV (I 65) (I 66) c.1) (eV (I 65) (I 66) c.2.2.1)).toInt ≠ 0) := rfl
      refine w147_79 ?_
      simp only [↓forall_eq, ↓inB_iff, gK_hU, gL_hU, gR_hU, gIh, gJh, pI_hU, pJ_hU, hU_hU, uI_app, uJ_app, and_true, true_and, and_false, false_and, and_self, true_implies, false_implies, not_true, not_false_iff, if_true, if_false, eq_self, Nat.reduceLeDiff, Nat.reduceEqDiff, reduceCtorEq, i32c, ti0, ti1, tiM, Int.natCast_nonneg, Int.reduceEq, Int.reduceLE, Int.reduceLT, Int.reduceNeg, tl_i, Int32.reduceToInt, Int64.reduceToInt, tiA, tlM6, Int.toNat_natCast, natc, nI_1, Int.zero_sub, implies_true, not_false_eq_true, f.1, mr_25 f, mk_63 f, ml_63 f, bI_and1, bI0]
      refine ⟨fun ca => ⟨fun cl => fin' _ (hT0 cl), fun cl => fin' _ (hTF (by rw [ocT]; exact oc1 (Or.inl ca)))⟩, fun ca => ⟨fun cb => ⟨fun cl => fin' _ (hT0 cl), fun cl => fin' _ (hTF (by rw [ocT]; exact oc1 (Or.inr cb)))⟩, fun cb => ?_⟩⟩
      have o2 := oc2 (fun w => w.elim ca cb)
      rw [← ocT] at o2
      rcases e3 with e | e | e | e | e | e
      all_goals
        rw [e] at o2 ⊢
        simp (config := { decide := true }) only [if_true, if_false] at o2
        simp (config := { decide := true }) only [relM, if_true, if_false, true_implies, false_implies, and_true, true_and, not_true, not_false_iff]
      · exact ⟨fun cr => ⟨fun cl => fin' _ (hT0 cl), fun cl => fin' _ (hTT cl (by rw [o2]; exact decide_eq_true cr))⟩, fun cr => ⟨fun cl => fin' _ (hT0 cl), fun cl => fin' _ (hTF (by rw [o2]; exact decide_eq_false cr))⟩⟩
      · exact ⟨fun cr => ⟨fun cl => fin' _ (hT0 cl), fun cl => fin' _ (hTF (by rw [o2]; exact decide_eq_false (by omega)))⟩, fun cr => ⟨fun cl => fin' _ (hT0 cl), fun cl => fin' _ (hTT cl (by rw [o2]; exact decide_eq_true (by omega)))⟩⟩
      · exact ⟨fun cr => ⟨fun cl => fin' _ (hT0 cl), fun cl => fin' _ (hTT cl (by rw [o2]; exact decide_eq_true cr))⟩, fun cr => ⟨fun cl => fin' _ (hT0 cl), fun cl => fin' _ (hTF (by rw [o2]; exact decide_eq_false cr))⟩⟩
      · exact ⟨fun cr => ⟨fun cl => fin' _ (hT0 cl), fun cl => fin' _ (hTF (by rw [o2]; exact decide_eq_false (fun w => w cr)))⟩, fun cr => ⟨fun cl => fin' _ (hT0 cl), fun cl => fin' _ (hTT cl (by rw [o2]; exact decide_eq_true cr))⟩⟩
      · exact ⟨fun cr => ⟨fun cl => fin' _ (hT0 cl), fun cl => fin' _ (hTF (by rw [o2]; exact decide_eq_false (by omega)))⟩, fun cr => ⟨fun cl => fin' _ (hT0 cl), fun cl => fin' _ (hTT cl (by rw [o2]; exact decide_eq_true (by omega)))⟩⟩
      · exact ⟨fun cr => ⟨fun cl => fin' _ (hT0 cl), fun cl => fin' _ (hTT cl (by rw [o2]; exact decide_eq_true cr))⟩, fun cr => ⟨fun cl => fin' _ (hT0 cl), fun cl => fin' _ (hTF (by rw [o2]; exact decide_eq_false cr))⟩⟩
    have b1' : (1 : Int32) = bI true := rfl
    have b0' : (0 : Int32) = bI false := rfl
    refine ⟨fun c1 => ⟨fun c2 => ?_, fun c2 => ⟨fun c3 => ?_, fun c3 => ?_⟩⟩, fun c1 => ?_⟩
    · rw [b1']; exact cmp true (by rw [hcN.mpr (Or.inl c2), Bool.or_true])
    · rw [b1']; exact cmp true (by rw [hcN.mpr (Or.inr c3), Bool.or_true])
    · rw [b0']
      have : cN (I 65) (I 66) c = false := by
        cases hh : cN (I 65) (I 66) c
        · rfl
        · exact absurd (hcN.mp hh) (fun w => w.elim c2 c3)
      exact cmp false (by rw [c1, this]; rfl)
    · rw [b1']; exact cmp true (by rw [bnf c1]; rfl)
theorem m_holds {K : Int32 → aH → Prop} {p to : Nat} {cs : List Cmp} (f : MF g) (h2 : to ≤ 7200) (h0 : cs ≠ []) (hl : p + mLC cs = to + 1) (he : encMM (I 63) (I 64) p cs)
    (k : ∀ (I2 : Nat → Nat → Int32), holI I I2 → I2 44 37 = bI (jf (I 65) (I 66) cs false false true).2 → K (bI (jf (I 65) (I 66) cs false false true).1) (hU g I2 J)) : CI (d + 2) 147 [vR 44, vI (nI p), vI (nI to)] (hU g I J) K X := by
  refine m147 ?_
  simp only [↓forall_eq, ↓inB_iff, gK_hU, gL_hU, gR_hU, gIh, gJh, pI_hU, pJ_hU, hU_hU, uI_app, uJ_app, and_true, true_and, and_false, false_and, and_self, true_implies, false_implies, not_true, not_false_iff, if_true, if_false, eq_self, Nat.reduceLeDiff, Nat.reduceEqDiff, reduceCtorEq, i32c, ti0, ti1, tiM, Int.natCast_nonneg, Int.reduceEq, Int.reduceLE, Int.reduceLT, Int.reduceNeg, tl_i, Int32.reduceToInt, Int64.reduceToInt, tiA, tlM6, Int.toNat_natCast, natc, nI_1, Int.zero_sub, implies_true, not_false_eq_true, f.1, mr_25 f, mk_63 f, ml_63 f]
  exact m_holdsw f h2 cs p false true false _ h0 ⟨fun a ha => by rw [uI_ne _ _ _ ha], fun j hj1 hj2 => by rw [uI_nj _ _ _ _ hj2]⟩ (uI_same _ _ _ _) hl he k
end MHO
