/-! A NEW OFFICE: its parts -/
section NCL
variable {d w lim r0 : Nat} {h : aH} {X : Nat → aH → Prop} {K : aH → Prop}
theorem c_rows (hN : 8 ≤ gN h) (hr : 8 ≤ r0 ∧ r0 < gN h ∧ gK h r0 = 8) (hw : 1 ≤ w ∧ w ≤ 8) (hl : lim ≤ 2000) (kk : ∀ h', keeps h h' (fun q => q = r0) → gN h' = gN h + 1 → gT h' ≤ gT h + 64 → rowsOK h' r0 (gN h) w lim 0 → K h') : CV (d + 1) 1 [vR r0, vI (nI w), vI (nI lim)] h K X := by
  have wI : (nI w).toInt = w := ti_n (by omega)
  have mx : (if (0 : Int32).toInt < (nI w).toInt then nI w else 0) = nI w := by
    rw [wI, if_pos (by show (0 : Int) < w; omega)]
  have n1 : r0 ≠ gN h := by omega
  have n2 : gN h ≠ r0 := by omega
  refine m1 ⟨hr.1, hr.2.2, fun g1 y1 g2 y2 g3 y3 => ?_⟩
  rw [max_br, mx]
  refine ⟨8 * w, by rw [show (8 : Int32) = nI 8 from rfl, nI_mul, Nat.mul_comm], by omega, fun r1 g4 x4 y4 => ⟨?_, fun g5 y5 => ?_⟩⟩
  · subst_vars; simp only [gN_pR, gT_pR, gK_pR, gL_pR, gR_pR, gI_pR, gJ_pR, gN_pI, gT_pI, gK_pI, gL_pI, gR_pI, gI_pI, gJ_pI, gN_pJ, gT_pJ, gK_pJ, gL_pJ, gR_pJ, gI_pJ, gJ_pJ, gN_gNew, gT_gNew, gK_gNew, gL_gNew, gR_gNew, gI_gNew, gJ_gNew, Nat.add_assoc, Nat.reduceAdd, Nat.reduceEqDiff, Nat.add_left_cancel_iff, Nat.left_eq_add, Nat.add_eq_left, if_true, if_false, true_and, and_true, false_and, and_false, and_self, reduceCtorEq, n1]; exact hr.2.2
  have kN : keeps h g5 (fun q => q = r0) := by
    refine ⟨?_, ?_, fun a ha => ?_, fun a ha hp => ⟨?_, ?_, fun j => ?_, fun j => ?_, fun j => ?_⟩⟩
    · subst_vars; simp only [gN_pR, gT_pR, gK_pR, gL_pR, gR_pR, gI_pR, gJ_pR, gN_pI, gT_pI, gK_pI, gL_pI, gR_pI, gI_pI, gJ_pI, gN_pJ, gT_pJ, gK_pJ, gL_pJ, gR_pJ, gI_pJ, gJ_pJ, gN_gNew, gT_gNew, gK_gNew, gL_gNew, gR_gNew, gI_gNew, gJ_gNew]; omega
    · subst_vars; simp only [gN_pR, gT_pR, gK_pR, gL_pR, gR_pR, gI_pR, gJ_pR, gN_pI, gT_pI, gK_pI, gL_pI, gR_pI, gI_pI, gJ_pI, gN_pJ, gT_pJ, gK_pJ, gL_pJ, gR_pJ, gI_pJ, gJ_pJ, gN_gNew, gT_gNew, gK_gNew, gL_gNew, gR_gNew, gI_gNew, gJ_gNew]; omega
    · have l1 : a ≠ gN h := by omega
      subst_vars; simp only [gN_pR, gT_pR, gK_pR, gL_pR, gR_pR, gI_pR, gJ_pR, gN_pI, gT_pI, gK_pI, gL_pI, gR_pI, gI_pI, gJ_pI, gN_pJ, gT_pJ, gK_pJ, gL_pJ, gR_pJ, gI_pJ, gJ_pJ, gN_gNew, gT_gNew, gK_gNew, gL_gNew, gR_gNew, gI_gNew, gJ_gNew, Nat.add_assoc, Nat.reduceAdd, Nat.reduceEqDiff, Nat.add_left_cancel_iff, Nat.left_eq_add, Nat.add_eq_left, if_true, if_false, true_and, and_true, false_and, and_false, and_self, reduceCtorEq, l1]
    all_goals
      have l1 : a ≠ gN h := by omega
      have l2 : a ≠ r0 := hp
      subst_vars; simp only [gN_pR, gT_pR, gK_pR, gL_pR, gR_pR, gI_pR, gJ_pR, gN_pI, gT_pI, gK_pI, gL_pI, gR_pI, gI_pI, gJ_pI, gN_pJ, gT_pJ, gK_pJ, gL_pJ, gR_pJ, gI_pJ, gJ_pJ, gN_gNew, gT_gNew, gK_gNew, gL_gNew, gR_gNew, gI_gNew, gJ_gNew, Nat.add_assoc, Nat.reduceAdd, Nat.reduceEqDiff, Nat.add_left_cancel_iff, Nat.left_eq_add, Nat.add_eq_left, if_true, if_false, true_and, and_true, false_and, and_false, and_self, reduceCtorEq, l1, l2]
  refine kk g5 kN ?_ ?_ ⟨⟨hr.1, ?_, ?_⟩, ⟨?_, ?_, ?_⟩, ⟨?_, hN, ?_, ?_⟩, ⟨?_, ?_, ?_⟩, hw.1, hw.2, hl, by omega⟩
  · subst_vars; simp only [gN_pR, gT_pR, gK_pR, gL_pR, gR_pR, gI_pR, gJ_pR, gN_pI, gT_pI, gK_pI, gL_pI, gR_pI, gI_pI, gJ_pI, gN_pJ, gT_pJ, gK_pJ, gL_pJ, gR_pJ, gI_pJ, gJ_pJ, gN_gNew, gT_gNew, gK_gNew, gL_gNew, gR_gNew, gI_gNew, gJ_gNew]
  · subst_vars; simp only [gN_pR, gT_pR, gK_pR, gL_pR, gR_pR, gI_pR, gJ_pR, gN_pI, gT_pI, gK_pI, gL_pI, gR_pI, gI_pI, gJ_pI, gN_pJ, gT_pJ, gK_pJ, gL_pJ, gR_pJ, gI_pJ, gJ_pJ, gN_gNew, gT_gNew, gK_gNew, gL_gNew, gR_gNew, gI_gNew, gJ_gNew]; omega
  · subst_vars; simp only [gN_pR, gT_pR, gK_pR, gL_pR, gR_pR, gI_pR, gJ_pR, gN_pI, gT_pI, gK_pI, gL_pI, gR_pI, gI_pI, gJ_pI, gN_pJ, gT_pJ, gK_pJ, gL_pJ, gR_pJ, gI_pJ, gJ_pJ, gN_gNew, gT_gNew, gK_gNew, gL_gNew, gR_gNew, gI_gNew, gJ_gNew]; omega
  · subst_vars; simp only [gN_pR, gT_pR, gK_pR, gL_pR, gR_pR, gI_pR, gJ_pR, gN_pI, gT_pI, gK_pI, gL_pI, gR_pI, gI_pI, gJ_pI, gN_pJ, gT_pJ, gK_pJ, gL_pJ, gR_pJ, gI_pJ, gJ_pJ, gN_gNew, gT_gNew, gK_gNew, gL_gNew, gR_gNew, gI_gNew, gJ_gNew, Nat.add_assoc, Nat.reduceAdd, Nat.reduceEqDiff, Nat.add_left_cancel_iff, Nat.left_eq_add, Nat.add_eq_left, if_true, if_false, true_and, and_true, false_and, and_false, and_self, reduceCtorEq, n1]; exact hr.2.2
  · subst_vars; simp only [gN_pR, gT_pR, gK_pR, gL_pR, gR_pR, gI_pR, gJ_pR, gN_pI, gT_pI, gK_pI, gL_pI, gR_pI, gI_pI, gJ_pI, gN_pJ, gT_pJ, gK_pJ, gL_pJ, gR_pJ, gI_pJ, gJ_pJ, gN_gNew, gT_gNew, gK_gNew, gL_gNew, gR_gNew, gI_gNew, gJ_gNew, Nat.add_assoc, Nat.reduceAdd, Nat.reduceEqDiff, Nat.add_left_cancel_iff, Nat.left_eq_add, Nat.add_eq_left, if_true, if_false, true_and, and_true, false_and, and_false, and_self, reduceCtorEq, n1]
  · subst_vars; simp only [gN_pR, gT_pR, gK_pR, gL_pR, gR_pR, gI_pR, gJ_pR, gN_pI, gT_pI, gK_pI, gL_pI, gR_pI, gI_pI, gJ_pI, gN_pJ, gT_pJ, gK_pJ, gL_pJ, gR_pJ, gI_pJ, gJ_pJ, gN_gNew, gT_gNew, gK_gNew, gL_gNew, gR_gNew, gI_gNew, gJ_gNew, Nat.add_assoc, Nat.reduceAdd, Nat.reduceEqDiff, Nat.add_left_cancel_iff, Nat.left_eq_add, Nat.add_eq_left, if_true, if_false, true_and, and_true, false_and, and_false, and_self, reduceCtorEq, n1]
  · subst_vars; simp only [gN_pR, gT_pR, gK_pR, gL_pR, gR_pR, gI_pR, gJ_pR, gN_pI, gT_pI, gK_pI, gL_pI, gR_pI, gI_pI, gJ_pI, gN_pJ, gT_pJ, gK_pJ, gL_pJ, gR_pJ, gI_pJ, gJ_pJ, gN_gNew, gT_gNew, gK_gNew, gL_gNew, gR_gNew, gI_gNew, gJ_gNew, Nat.add_assoc, Nat.reduceAdd, Nat.reduceEqDiff, Nat.add_left_cancel_iff, Nat.left_eq_add, Nat.add_eq_left, if_true, if_false, true_and, and_true, false_and, and_false, and_self, reduceCtorEq, n1]; rfl
  · subst_vars; simp only [gN_pR, gT_pR, gK_pR, gL_pR, gR_pR, gI_pR, gJ_pR, gN_pI, gT_pI, gK_pI, gL_pI, gR_pI, gI_pI, gJ_pI, gN_pJ, gT_pJ, gK_pJ, gL_pJ, gR_pJ, gI_pJ, gJ_pJ, gN_gNew, gT_gNew, gK_gNew, gL_gNew, gR_gNew, gI_gNew, gJ_gNew, Nat.add_assoc, Nat.reduceAdd, Nat.reduceEqDiff, Nat.add_left_cancel_iff, Nat.left_eq_add, Nat.add_eq_left, if_true, if_false, true_and, and_true, false_and, and_false, and_self, reduceCtorEq]
  · subst_vars; simp only [gN_pR, gT_pR, gK_pR, gL_pR, gR_pR, gI_pR, gJ_pR, gN_pI, gT_pI, gK_pI, gL_pI, gR_pI, gI_pI, gJ_pI, gN_pJ, gT_pJ, gK_pJ, gL_pJ, gR_pJ, gI_pJ, gJ_pJ, gN_gNew, gT_gNew, gK_gNew, gL_gNew, gR_gNew, gI_gNew, gJ_gNew]; omega
  · subst_vars; simp only [gN_pR, gT_pR, gK_pR, gL_pR, gR_pR, gI_pR, gJ_pR, gN_pI, gT_pI, gK_pI, gL_pI, gR_pI, gI_pI, gJ_pI, gN_pJ, gT_pJ, gK_pJ, gL_pJ, gR_pJ, gI_pJ, gJ_pJ, gN_gNew, gT_gNew, gK_gNew, gL_gNew, gR_gNew, gI_gNew, gJ_gNew, Nat.add_assoc, Nat.reduceAdd, Nat.reduceEqDiff, Nat.add_left_cancel_iff, Nat.left_eq_add, Nat.add_eq_left, if_true, if_false, true_and, and_true, false_and, and_false, and_self, reduceCtorEq]
  · omega
  · subst_vars; simp only [gN_pR, gT_pR, gK_pR, gL_pR, gR_pR, gI_pR, gJ_pR, gN_pI, gT_pI, gK_pI, gL_pI, gR_pI, gI_pI, gJ_pI, gN_pJ, gT_pJ, gK_pJ, gL_pJ, gR_pJ, gI_pJ, gJ_pJ, gN_gNew, gT_gNew, gK_gNew, gL_gNew, gR_gNew, gI_gNew, gJ_gNew, Nat.add_assoc, Nat.reduceAdd, Nat.reduceEqDiff, Nat.add_left_cancel_iff, Nat.left_eq_add, Nat.add_eq_left, if_true, if_false, true_and, and_true, false_and, and_false, and_self, reduceCtorEq]; omega
  · subst_vars; simp only [gN_pR, gT_pR, gK_pR, gL_pR, gR_pR, gI_pR, gJ_pR, gN_pI, gT_pI, gK_pI, gL_pI, gR_pI, gI_pI, gJ_pI, gN_pJ, gT_pJ, gK_pJ, gL_pJ, gR_pJ, gI_pJ, gJ_pJ, gN_gNew, gT_gNew, gK_gNew, gL_gNew, gR_gNew, gI_gNew, gJ_gNew, Nat.add_assoc, Nat.reduceAdd, Nat.reduceEqDiff, Nat.add_left_cancel_iff, Nat.left_eq_add, Nat.add_eq_left, if_true, if_false, true_and, and_true, false_and, and_false, and_self, reduceCtorEq]
    have : 8 * w ≤ 2 * (lim + 4) * w := Nat.mul_le_mul_right _ (by omega)
    exact this
/-- an object stands at N = gN h, its parts behind it, the office knows it by its field j -/
def stgS (h h' : aH) (j : Nat) : Prop := keeps h h' (fun q => q = 8) ∧ gR h' 8 j = gN h ∧ (∀ i, i ≠ j → gR h' 8 i = gR h 8 i) ∧ ∀ i, gI h' 8 i = gI h 8 i
theorem stg_of {k sz j : Nat} {h1 : aH} (hN : 8 < gN h) (kp : keeps (gNew h k sz) h1 (fun q => q = gN h)) : stgS h (pR h1 8 j (gN h)) j := by
  have g1 : gN (gNew h k sz) = gN h + 1 := gN_gNew _ _ _
  have g2 : gT (gNew h k sz) = gT h + sz := gT_gNew _ _ _
  have ol : ∀ a, a < gN h → gK (gNew h k sz) a = gK h a ∧ gL (gNew h k sz) a = gL h a ∧ (∀ j, gI (gNew h k sz) a j = gI h a j) ∧ (∀ j, gJ (gNew h k sz) a j = gJ h a j) ∧ ∀ j, gR (gNew h k sz) a j = gR h a j := fun a ha => by
    have l1 : a ≠ gN h := by omega
    exact ⟨by rw [gK_gNew, if_neg l1], by rw [gL_gNew, if_neg l1], fun j => by rw [gI_gNew, if_neg l1], fun j => by rw [gJ_gNew, if_neg l1], fun j => by rw [gR_gNew, if_neg l1]⟩
  have s : ∀ a, a < gN h → same h h1 a := fun a ha => same_trans (ol a ha) (kp.2.2.2 a (by omega) (by omega))
  refine ⟨⟨by rw [gN_pR]; have := kp.1; omega, by rw [gT_pR]; have := kp.2.1; omega, fun a ha => ?_, fun a ha hp => ?_⟩, by rw [gR_pR, if_pos ⟨rfl, rfl⟩], fun i hi => ?_, fun i => ?_⟩
  · rw [gK_pR, gL_pR]; exact ⟨(s a ha).1, (s a ha).2.1⟩
  · obtain ⟨s1, s2, s3, s4, s5⟩ := s a ha
    exact ⟨by rw [gK_pR]; exact s1, by rw [gL_pR]; exact s2, fun j => by rw [gI_pR]; exact s3 j, fun j => by rw [gJ_pR]; exact s4 j, fun j => by rw [gR_pR, if_neg (fun z => hp z.1)]; exact s5 j⟩
  · rw [gR_pR, if_neg (fun z => hi z.2)]; exact (s 8 hN).2.2.2.2 i
  · rw [gI_pR]; exact (s 8 hN).2.2.1 i
theorem c_tape (hN : 8 ≤ gN h) (kk : ∀ h', keeps (gNew h 12 7) h' (fun q => q = gN h) → gN h' = gN h + 2 → gT h' ≤ gT h + 1300 → (gK h' (gN h) = 12 ∧ gK h' (gN h + 1) = 103 ∧ gL h' (gN h + 1) = 1200 ∧ gR h' (gN h) 0 = gN h + 1 ∧ gI h' (gN h) 1 = 0) → K h') : CV d 3 [vR (gN h)] (gNew h 12 7) K X := by
  refine m3 ⟨hN, fun r0 g0 x0 y0 => ⟨?_, fun g1 y1 g2 y2 g3 y3 g4 y4 g5 y5 g6 y6 g7 y7 => ?_⟩⟩
  · subst_vars; simp only [gN_pR, gT_pR, gK_pR, gL_pR, gR_pR, gI_pR, gJ_pR, gN_pI, gT_pI, gK_pI, gL_pI, gR_pI, gI_pI, gJ_pI, gN_pJ, gT_pJ, gK_pJ, gL_pJ, gR_pJ, gI_pJ, gJ_pJ, gN_gNew, gT_gNew, gK_gNew, gL_gNew, gR_gNew, gI_gNew, gJ_gNew, Nat.add_assoc, Nat.reduceAdd, Nat.reduceEqDiff, Nat.add_left_cancel_iff, Nat.left_eq_add, Nat.add_eq_left, if_true, if_false, true_and, and_true, false_and, and_false, and_self, reduceCtorEq]
  refine kk g7 ⟨?_, ?_, fun a ha => ?_, fun a ha hp => ⟨?_, ?_, fun j => ?_, fun j => ?_, fun j => ?_⟩⟩ ?_ ?_ ⟨?_, ?_, ?_, ?_, ?_⟩
  · subst_vars; simp only [gN_pR, gT_pR, gK_pR, gL_pR, gR_pR, gI_pR, gJ_pR, gN_pI, gT_pI, gK_pI, gL_pI, gR_pI, gI_pI, gJ_pI, gN_pJ, gT_pJ, gK_pJ, gL_pJ, gR_pJ, gI_pJ, gJ_pJ, gN_gNew, gT_gNew, gK_gNew, gL_gNew, gR_gNew, gI_gNew, gJ_gNew]; omega
  · subst_vars; simp only [gN_pR, gT_pR, gK_pR, gL_pR, gR_pR, gI_pR, gJ_pR, gN_pI, gT_pI, gK_pI, gL_pI, gR_pI, gI_pI, gJ_pI, gN_pJ, gT_pJ, gK_pJ, gL_pJ, gR_pJ, gI_pJ, gJ_pJ, gN_gNew, gT_gNew, gK_gNew, gL_gNew, gR_gNew, gI_gNew, gJ_gNew]; omega
  · rw [gN_gNew] at ha
    have l1 : a ≠ gN h + 1 := by omega
    subst_vars; simp only [gN_pR, gT_pR, gK_pR, gL_pR, gR_pR, gI_pR, gJ_pR, gN_pI, gT_pI, gK_pI, gL_pI, gR_pI, gI_pI, gJ_pI, gN_pJ, gT_pJ, gK_pJ, gL_pJ, gR_pJ, gI_pJ, gJ_pJ, gN_gNew, gT_gNew, gK_gNew, gL_gNew, gR_gNew, gI_gNew, gJ_gNew, Nat.add_assoc, Nat.reduceAdd, Nat.reduceEqDiff, Nat.add_left_cancel_iff, Nat.left_eq_add, Nat.add_eq_left, if_true, if_false, true_and, and_true, false_and, and_false, and_self, reduceCtorEq, l1]
  · rw [gN_gNew] at ha
    have l1 : a ≠ gN h + 1 := by omega
    have l2 : a ≠ gN h := hp
    subst_vars; simp only [gN_pR, gT_pR, gK_pR, gL_pR, gR_pR, gI_pR, gJ_pR, gN_pI, gT_pI, gK_pI, gL_pI, gR_pI, gI_pI, gJ_pI, gN_pJ, gT_pJ, gK_pJ, gL_pJ, gR_pJ, gI_pJ, gJ_pJ, gN_gNew, gT_gNew, gK_gNew, gL_gNew, gR_gNew, gI_gNew, gJ_gNew, Nat.add_assoc, Nat.reduceAdd, Nat.reduceEqDiff, Nat.add_left_cancel_iff, Nat.left_eq_add, Nat.add_eq_left, if_true, if_false, true_and, and_true, false_and, and_false, and_self, reduceCtorEq, l1, l2]
  · rw [gN_gNew] at ha
    have l1 : a ≠ gN h + 1 := by omega
    have l2 : a ≠ gN h := hp
    subst_vars; simp only [gN_pR, gT_pR, gK_pR, gL_pR, gR_pR, gI_pR, gJ_pR, gN_pI, gT_pI, gK_pI, gL_pI, gR_pI, gI_pI, gJ_pI, gN_pJ, gT_pJ, gK_pJ, gL_pJ, gR_pJ, gI_pJ, gJ_pJ, gN_gNew, gT_gNew, gK_gNew, gL_gNew, gR_gNew, gI_gNew, gJ_gNew, Nat.add_assoc, Nat.reduceAdd, Nat.reduceEqDiff, Nat.add_left_cancel_iff, Nat.left_eq_add, Nat.add_eq_left, if_true, if_false, true_and, and_true, false_and, and_false, and_self, reduceCtorEq, l1, l2]
  · rw [gN_gNew] at ha
    have l1 : a ≠ gN h + 1 := by omega
    have l2 : a ≠ gN h := hp
    subst_vars; simp only [gN_pR, gT_pR, gK_pR, gL_pR, gR_pR, gI_pR, gJ_pR, gN_pI, gT_pI, gK_pI, gL_pI, gR_pI, gI_pI, gJ_pI, gN_pJ, gT_pJ, gK_pJ, gL_pJ, gR_pJ, gI_pJ, gJ_pJ, gN_gNew, gT_gNew, gK_gNew, gL_gNew, gR_gNew, gI_gNew, gJ_gNew, Nat.add_assoc, Nat.reduceAdd, Nat.reduceEqDiff, Nat.add_left_cancel_iff, Nat.left_eq_add, Nat.add_eq_left, if_true, if_false, true_and, and_true, false_and, and_false, and_self, reduceCtorEq, l1, l2]
  · rw [gN_gNew] at ha
    have l1 : a ≠ gN h + 1 := by omega
    have l2 : a ≠ gN h := hp
    subst_vars; simp only [gN_pR, gT_pR, gK_pR, gL_pR, gR_pR, gI_pR, gJ_pR, gN_pI, gT_pI, gK_pI, gL_pI, gR_pI, gI_pI, gJ_pI, gN_pJ, gT_pJ, gK_pJ, gL_pJ, gR_pJ, gI_pJ, gJ_pJ, gN_gNew, gT_gNew, gK_gNew, gL_gNew, gR_gNew, gI_gNew, gJ_gNew, Nat.add_assoc, Nat.reduceAdd, Nat.reduceEqDiff, Nat.add_left_cancel_iff, Nat.left_eq_add, Nat.add_eq_left, if_true, if_false, true_and, and_true, false_and, and_false, and_self, reduceCtorEq, l1, l2]
  · rw [gN_gNew] at ha
    have l1 : a ≠ gN h + 1 := by omega
    have l2 : a ≠ gN h := hp
    subst_vars; simp only [gN_pR, gT_pR, gK_pR, gL_pR, gR_pR, gI_pR, gJ_pR, gN_pI, gT_pI, gK_pI, gL_pI, gR_pI, gI_pI, gJ_pI, gN_pJ, gT_pJ, gK_pJ, gL_pJ, gR_pJ, gI_pJ, gJ_pJ, gN_gNew, gT_gNew, gK_gNew, gL_gNew, gR_gNew, gI_gNew, gJ_gNew, Nat.add_assoc, Nat.reduceAdd, Nat.reduceEqDiff, Nat.add_left_cancel_iff, Nat.left_eq_add, Nat.add_eq_left, if_true, if_false, true_and, and_true, false_and, and_false, and_self, reduceCtorEq, l1, l2]
  · subst_vars; simp only [gN_pR, gT_pR, gK_pR, gL_pR, gR_pR, gI_pR, gJ_pR, gN_pI, gT_pI, gK_pI, gL_pI, gR_pI, gI_pI, gJ_pI, gN_pJ, gT_pJ, gK_pJ, gL_pJ, gR_pJ, gI_pJ, gJ_pJ, gN_gNew, gT_gNew, gK_gNew, gL_gNew, gR_gNew, gI_gNew, gJ_gNew, Nat.add_assoc, Nat.reduceAdd, Nat.reduceEqDiff, Nat.add_left_cancel_iff, Nat.left_eq_add, Nat.add_eq_left, if_true, if_false, true_and, and_true, false_and, and_false, and_self, reduceCtorEq]
  · subst_vars; simp only [gN_pR, gT_pR, gK_pR, gL_pR, gR_pR, gI_pR, gJ_pR, gN_pI, gT_pI, gK_pI, gL_pI, gR_pI, gI_pI, gJ_pI, gN_pJ, gT_pJ, gK_pJ, gL_pJ, gR_pJ, gI_pJ, gJ_pJ, gN_gNew, gT_gNew, gK_gNew, gL_gNew, gR_gNew, gI_gNew, gJ_gNew]; omega
  · subst_vars; simp only [gN_pR, gT_pR, gK_pR, gL_pR, gR_pR, gI_pR, gJ_pR, gN_pI, gT_pI, gK_pI, gL_pI, gR_pI, gI_pI, gJ_pI, gN_pJ, gT_pJ, gK_pJ, gL_pJ, gR_pJ, gI_pJ, gJ_pJ, gN_gNew, gT_gNew, gK_gNew, gL_gNew, gR_gNew, gI_gNew, gJ_gNew, Nat.add_assoc, Nat.reduceAdd, Nat.reduceEqDiff, Nat.add_left_cancel_iff, Nat.left_eq_add, Nat.add_eq_left, if_true, if_false, true_and, and_true, false_and, and_false, and_self, reduceCtorEq]
  · subst_vars; simp only [gN_pR, gT_pR, gK_pR, gL_pR, gR_pR, gI_pR, gJ_pR, gN_pI, gT_pI, gK_pI, gL_pI, gR_pI, gI_pI, gJ_pI, gN_pJ, gT_pJ, gK_pJ, gL_pJ, gR_pJ, gI_pJ, gJ_pJ, gN_gNew, gT_gNew, gK_gNew, gL_gNew, gR_gNew, gI_gNew, gJ_gNew, Nat.add_assoc, Nat.reduceAdd, Nat.reduceEqDiff, Nat.add_left_cancel_iff, Nat.left_eq_add, Nat.add_eq_left, if_true, if_false, true_and, and_true, false_and, and_false, and_self, reduceCtorEq]
  · subst_vars; simp only [gN_pR, gT_pR, gK_pR, gL_pR, gR_pR, gI_pR, gJ_pR, gN_pI, gT_pI, gK_pI, gL_pI, gR_pI, gI_pI, gJ_pI, gN_pJ, gT_pJ, gK_pJ, gL_pJ, gR_pJ, gI_pJ, gJ_pJ, gN_gNew, gT_gNew, gK_gNew, gL_gNew, gR_gNew, gI_gNew, gJ_gNew, Nat.add_assoc, Nat.reduceAdd, Nat.reduceEqDiff, Nat.add_left_cancel_iff, Nat.left_eq_add, Nat.add_eq_left, if_true, if_false, true_and, and_true, false_and, and_false, and_self, reduceCtorEq]
  · subst_vars; simp only [gN_pR, gT_pR, gK_pR, gL_pR, gR_pR, gI_pR, gJ_pR, gN_pI, gT_pI, gK_pI, gL_pI, gR_pI, gI_pI, gJ_pI, gN_pJ, gT_pJ, gK_pJ, gL_pJ, gR_pJ, gI_pJ, gJ_pJ, gN_gNew, gT_gNew, gK_gNew, gL_gNew, gR_gNew, gI_gNew, gJ_gNew, Nat.add_assoc, Nat.reduceAdd, Nat.reduceEqDiff, Nat.add_left_cancel_iff, Nat.left_eq_add, Nat.add_eq_left, if_true, if_false, true_and, and_true, false_and, and_false, and_self, reduceCtorEq]
  · subst_vars; simp only [gN_pR, gT_pR, gK_pR, gL_pR, gR_pR, gI_pR, gJ_pR, gN_pI, gT_pI, gK_pI, gL_pI, gR_pI, gI_pI, gJ_pI, gN_pJ, gT_pJ, gK_pJ, gL_pJ, gR_pJ, gI_pJ, gJ_pJ, gN_gNew, gT_gNew, gK_gNew, gL_gNew, gR_gNew, gI_gNew, gJ_gNew, Nat.add_assoc, Nat.reduceAdd, Nat.reduceEqDiff, Nat.add_left_cancel_iff, Nat.left_eq_add, Nat.add_eq_left, if_true, if_false, true_and, and_true, false_and, and_false, and_self, reduceCtorEq]
theorem c_edit (hN : 8 ≤ gN h) (kk : ∀ h', keeps (gNew h 2 3) h' (fun q => q = gN h) → gN h' = gN h + 2 → gT h' ≤ gT h + 30 → (gK h' (gN h) = 2 ∧ gK h' (gN h + 1) = 100 ∧ gL h' (gN h + 1) = 20 ∧ gR h' (gN h) 0 = gN h + 1) → K h') : CV d 6 [vR (gN h)] (gNew h 2 3) K X := by
  refine m6 ⟨hN, fun r0 g0 x0 y0 => ⟨?_, fun g1 y1 g2 y2 g3 y3 => ?_⟩⟩
  · subst_vars; simp only [gN_pR, gT_pR, gK_pR, gL_pR, gR_pR, gI_pR, gJ_pR, gN_pI, gT_pI, gK_pI, gL_pI, gR_pI, gI_pI, gJ_pI, gN_pJ, gT_pJ, gK_pJ, gL_pJ, gR_pJ, gI_pJ, gJ_pJ, gN_gNew, gT_gNew, gK_gNew, gL_gNew, gR_gNew, gI_gNew, gJ_gNew, Nat.add_assoc, Nat.reduceAdd, Nat.reduceEqDiff, Nat.add_left_cancel_iff, Nat.left_eq_add, Nat.add_eq_left, if_true, if_false, true_and, and_true, false_and, and_false, and_self, reduceCtorEq]
  refine kk g3 ⟨?_, ?_, fun a ha => ?_, fun a ha hp => ⟨?_, ?_, fun j => ?_, fun j => ?_, fun j => ?_⟩⟩ ?_ ?_ ⟨?_, ?_, ?_, ?_⟩
  · subst_vars; simp only [gN_pR, gT_pR, gK_pR, gL_pR, gR_pR, gI_pR, gJ_pR, gN_pI, gT_pI, gK_pI, gL_pI, gR_pI, gI_pI, gJ_pI, gN_pJ, gT_pJ, gK_pJ, gL_pJ, gR_pJ, gI_pJ, gJ_pJ, gN_gNew, gT_gNew, gK_gNew, gL_gNew, gR_gNew, gI_gNew, gJ_gNew]; omega
  · subst_vars; simp only [gN_pR, gT_pR, gK_pR, gL_pR, gR_pR, gI_pR, gJ_pR, gN_pI, gT_pI, gK_pI, gL_pI, gR_pI, gI_pI, gJ_pI, gN_pJ, gT_pJ, gK_pJ, gL_pJ, gR_pJ, gI_pJ, gJ_pJ, gN_gNew, gT_gNew, gK_gNew, gL_gNew, gR_gNew, gI_gNew, gJ_gNew]; omega
  · rw [gN_gNew] at ha
    have l1 : a ≠ gN h + 1 := by omega
    subst_vars; simp only [gN_pR, gT_pR, gK_pR, gL_pR, gR_pR, gI_pR, gJ_pR, gN_pI, gT_pI, gK_pI, gL_pI, gR_pI, gI_pI, gJ_pI, gN_pJ, gT_pJ, gK_pJ, gL_pJ, gR_pJ, gI_pJ, gJ_pJ, gN_gNew, gT_gNew, gK_gNew, gL_gNew, gR_gNew, gI_gNew, gJ_gNew, Nat.add_assoc, Nat.reduceAdd, Nat.reduceEqDiff, Nat.add_left_cancel_iff, Nat.left_eq_add, Nat.add_eq_left, if_true, if_false, true_and, and_true, false_and, and_false, and_self, reduceCtorEq, l1]
  · rw [gN_gNew] at ha
    have l1 : a ≠ gN h + 1 := by omega
    have l2 : a ≠ gN h := hp
    subst_vars; simp only [gN_pR, gT_pR, gK_pR, gL_pR, gR_pR, gI_pR, gJ_pR, gN_pI, gT_pI, gK_pI, gL_pI, gR_pI, gI_pI, gJ_pI, gN_pJ, gT_pJ, gK_pJ, gL_pJ, gR_pJ, gI_pJ, gJ_pJ, gN_gNew, gT_gNew, gK_gNew, gL_gNew, gR_gNew, gI_gNew, gJ_gNew, Nat.add_assoc, Nat.reduceAdd, Nat.reduceEqDiff, Nat.add_left_cancel_iff, Nat.left_eq_add, Nat.add_eq_left, if_true, if_false, true_and, and_true, false_and, and_false, and_self, reduceCtorEq, l1, l2]
  · rw [gN_gNew] at ha
    have l1 : a ≠ gN h + 1 := by omega
    have l2 : a ≠ gN h := hp
    subst_vars; simp only [gN_pR, gT_pR, gK_pR, gL_pR, gR_pR, gI_pR, gJ_pR, gN_pI, gT_pI, gK_pI, gL_pI, gR_pI, gI_pI, gJ_pI, gN_pJ, gT_pJ, gK_pJ, gL_pJ, gR_pJ, gI_pJ, gJ_pJ, gN_gNew, gT_gNew, gK_gNew, gL_gNew, gR_gNew, gI_gNew, gJ_gNew, Nat.add_assoc, Nat.reduceAdd, Nat.reduceEqDiff, Nat.add_left_cancel_iff, Nat.left_eq_add, Nat.add_eq_left, if_true, if_false, true_and, and_true, false_and, and_false, and_self, reduceCtorEq, l1, l2]
  · rw [gN_gNew] at ha
    have l1 : a ≠ gN h + 1 := by omega
    have l2 : a ≠ gN h := hp
    subst_vars; simp only [gN_pR, gT_pR, gK_pR, gL_pR, gR_pR, gI_pR, gJ_pR, gN_pI, gT_pI, gK_pI, gL_pI, gR_pI, gI_pI, gJ_pI, gN_pJ, gT_pJ, gK_pJ, gL_pJ, gR_pJ, gI_pJ, gJ_pJ, gN_gNew, gT_gNew, gK_gNew, gL_gNew, gR_gNew, gI_gNew, gJ_gNew, Nat.add_assoc, Nat.reduceAdd, Nat.reduceEqDiff, Nat.add_left_cancel_iff, Nat.left_eq_add, Nat.add_eq_left, if_true, if_false, true_and, and_true, false_and, and_false, and_self, reduceCtorEq, l1, l2]
  · rw [gN_gNew] at ha
    have l1 : a ≠ gN h + 1 := by omega
    have l2 : a ≠ gN h := hp
    subst_vars; simp only [gN_pR, gT_pR, gK_pR, gL_pR, gR_pR, gI_pR, gJ_pR, gN_pI, gT_pI, gK_pI, gL_pI, gR_pI, gI_pI, gJ_pI, gN_pJ, gT_pJ, gK_pJ, gL_pJ, gR_pJ, gI_pJ, gJ_pJ, gN_gNew, gT_gNew, gK_gNew, gL_gNew, gR_gNew, gI_gNew, gJ_gNew, Nat.add_assoc, Nat.reduceAdd, Nat.reduceEqDiff, Nat.add_left_cancel_iff, Nat.left_eq_add, Nat.add_eq_left, if_true, if_false, true_and, and_true, false_and, and_false, and_self, reduceCtorEq, l1, l2]
  · rw [gN_gNew] at ha
    have l1 : a ≠ gN h + 1 := by omega
    have l2 : a ≠ gN h := hp
    subst_vars; simp only [gN_pR, gT_pR, gK_pR, gL_pR, gR_pR, gI_pR, gJ_pR, gN_pI, gT_pI, gK_pI, gL_pI, gR_pI, gI_pI, gJ_pI, gN_pJ, gT_pJ, gK_pJ, gL_pJ, gR_pJ, gI_pJ, gJ_pJ, gN_gNew, gT_gNew, gK_gNew, gL_gNew, gR_gNew, gI_gNew, gJ_gNew, Nat.add_assoc, Nat.reduceAdd, Nat.reduceEqDiff, Nat.add_left_cancel_iff, Nat.left_eq_add, Nat.add_eq_left, if_true, if_false, true_and, and_true, false_and, and_false, and_self, reduceCtorEq, l1, l2]
  · subst_vars; simp only [gN_pR, gT_pR, gK_pR, gL_pR, gR_pR, gI_pR, gJ_pR, gN_pI, gT_pI, gK_pI, gL_pI, gR_pI, gI_pI, gJ_pI, gN_pJ, gT_pJ, gK_pJ, gL_pJ, gR_pJ, gI_pJ, gJ_pJ, gN_gNew, gT_gNew, gK_gNew, gL_gNew, gR_gNew, gI_gNew, gJ_gNew, Nat.add_assoc, Nat.reduceAdd, Nat.reduceEqDiff, Nat.add_left_cancel_iff, Nat.left_eq_add, Nat.add_eq_left, if_true, if_false, true_and, and_true, false_and, and_false, and_self, reduceCtorEq]
  · subst_vars; simp only [gN_pR, gT_pR, gK_pR, gL_pR, gR_pR, gI_pR, gJ_pR, gN_pI, gT_pI, gK_pI, gL_pI, gR_pI, gI_pI, gJ_pI, gN_pJ, gT_pJ, gK_pJ, gL_pJ, gR_pJ, gI_pJ, gJ_pJ, gN_gNew, gT_gNew, gK_gNew, gL_gNew, gR_gNew, gI_gNew, gJ_gNew]; omega
  · subst_vars; simp only [gN_pR, gT_pR, gK_pR, gL_pR, gR_pR, gI_pR, gJ_pR, gN_pI, gT_pI, gK_pI, gL_pI, gR_pI, gI_pI, gJ_pI, gN_pJ, gT_pJ, gK_pJ, gL_pJ, gR_pJ, gI_pJ, gJ_pJ, gN_gNew, gT_gNew, gK_gNew, gL_gNew, gR_gNew, gI_gNew, gJ_gNew, Nat.add_assoc, Nat.reduceAdd, Nat.reduceEqDiff, Nat.add_left_cancel_iff, Nat.left_eq_add, Nat.add_eq_left, if_true, if_false, true_and, and_true, false_and, and_false, and_self, reduceCtorEq]
  · subst_vars; simp only [gN_pR, gT_pR, gK_pR, gL_pR, gR_pR, gI_pR, gJ_pR, gN_pI, gT_pI, gK_pI, gL_pI, gR_pI, gI_pI, gJ_pI, gN_pJ, gT_pJ, gK_pJ, gL_pJ, gR_pJ, gI_pJ, gJ_pJ, gN_gNew, gT_gNew, gK_gNew, gL_gNew, gR_gNew, gI_gNew, gJ_gNew, Nat.add_assoc, Nat.reduceAdd, Nat.reduceEqDiff, Nat.add_left_cancel_iff, Nat.left_eq_add, Nat.add_eq_left, if_true, if_false, true_and, and_true, false_and, and_false, and_self, reduceCtorEq]
  · subst_vars; simp only [gN_pR, gT_pR, gK_pR, gL_pR, gR_pR, gI_pR, gJ_pR, gN_pI, gT_pI, gK_pI, gL_pI, gR_pI, gI_pI, gJ_pI, gN_pJ, gT_pJ, gK_pJ, gL_pJ, gR_pJ, gI_pJ, gJ_pJ, gN_gNew, gT_gNew, gK_gNew, gL_gNew, gR_gNew, gI_gNew, gJ_gNew, Nat.add_assoc, Nat.reduceAdd, Nat.reduceEqDiff, Nat.add_left_cancel_iff, Nat.left_eq_add, Nat.add_eq_left, if_true, if_false, true_and, and_true, false_and, and_false, and_self, reduceCtorEq]
  · subst_vars; simp only [gN_pR, gT_pR, gK_pR, gL_pR, gR_pR, gI_pR, gJ_pR, gN_pI, gT_pI, gK_pI, gL_pI, gR_pI, gI_pI, gJ_pI, gN_pJ, gT_pJ, gK_pJ, gL_pJ, gR_pJ, gI_pJ, gJ_pJ, gN_gNew, gT_gNew, gK_gNew, gL_gNew, gR_gNew, gI_gNew, gJ_gNew, Nat.add_assoc, Nat.reduceAdd, Nat.reduceEqDiff, Nat.add_left_cancel_iff, Nat.left_eq_add, Nat.add_eq_left, if_true, if_false, true_and, and_true, false_and, and_false, and_self, reduceCtorEq]
theorem c_list (hN : 8 ≤ gN h) (kk : ∀ h', keeps (gNew h 13 3) h' (fun q => q = gN h) → gN h' = gN h + 1 → gT h' ≤ gT h + 3 → (gK h' (gN h) = 13 ∧ gI h' (gN h) 1 = 0 ∧ gR h' (gN h) 0 = 2) → K h') : CV (d + 2) 9 [vR (gN h)] (gNew h 13 3) K X := by
  have k13 : gK (gNew h 13 3) (gN h) = 13 := by rw [gK_gNew, if_pos rfl]
  refine m9 ⟨hN, m8 ⟨hN, m7 ⟨hN, k13, fun g1 y1 => ⟨?_, fun g2 y2 => ?_⟩⟩⟩⟩
  · subst_vars; simp only [gN_pR, gT_pR, gK_pR, gL_pR, gR_pR, gI_pR, gJ_pR, gN_pI, gT_pI, gK_pI, gL_pI, gR_pI, gI_pI, gJ_pI, gN_pJ, gT_pJ, gK_pJ, gL_pJ, gR_pJ, gI_pJ, gJ_pJ, gN_gNew, gT_gNew, gK_gNew, gL_gNew, gR_gNew, gI_gNew, gJ_gNew, Nat.add_assoc, Nat.reduceAdd, Nat.reduceEqDiff, Nat.add_left_cancel_iff, Nat.left_eq_add, Nat.add_eq_left, if_true, if_false, true_and, and_true, false_and, and_false, and_self, reduceCtorEq]
  refine kk g2 ⟨?_, ?_, fun a ha => ?_, fun a ha hp => ⟨?_, ?_, fun j => ?_, fun j => ?_, fun j => ?_⟩⟩ ?_ ?_ ⟨?_, ?_, ?_⟩
  · subst_vars; simp only [gN_pR, gT_pR, gK_pR, gL_pR, gR_pR, gI_pR, gJ_pR, gN_pI, gT_pI, gK_pI, gL_pI, gR_pI, gI_pI, gJ_pI, gN_pJ, gT_pJ, gK_pJ, gL_pJ, gR_pJ, gI_pJ, gJ_pJ, gN_gNew, gT_gNew, gK_gNew, gL_gNew, gR_gNew, gI_gNew, gJ_gNew]; omega
  · subst_vars; simp only [gN_pR, gT_pR, gK_pR, gL_pR, gR_pR, gI_pR, gJ_pR, gN_pI, gT_pI, gK_pI, gL_pI, gR_pI, gI_pI, gJ_pI, gN_pJ, gT_pJ, gK_pJ, gL_pJ, gR_pJ, gI_pJ, gJ_pJ, gN_gNew, gT_gNew, gK_gNew, gL_gNew, gR_gNew, gI_gNew, gJ_gNew]; omega
  · subst_vars; simp only [gN_pR, gT_pR, gK_pR, gL_pR, gR_pR, gI_pR, gJ_pR, gN_pI, gT_pI, gK_pI, gL_pI, gR_pI, gI_pI, gJ_pI, gN_pJ, gT_pJ, gK_pJ, gL_pJ, gR_pJ, gI_pJ, gJ_pJ, gN_gNew, gT_gNew, gK_gNew, gL_gNew, gR_gNew, gI_gNew, gJ_gNew, Nat.add_assoc, Nat.reduceAdd, Nat.reduceEqDiff, Nat.add_left_cancel_iff, Nat.left_eq_add, Nat.add_eq_left, if_true, if_false, true_and, and_true, false_and, and_false, and_self, reduceCtorEq]
  · have l2 : a ≠ gN h := hp
    subst_vars; simp only [gN_pR, gT_pR, gK_pR, gL_pR, gR_pR, gI_pR, gJ_pR, gN_pI, gT_pI, gK_pI, gL_pI, gR_pI, gI_pI, gJ_pI, gN_pJ, gT_pJ, gK_pJ, gL_pJ, gR_pJ, gI_pJ, gJ_pJ, gN_gNew, gT_gNew, gK_gNew, gL_gNew, gR_gNew, gI_gNew, gJ_gNew, Nat.add_assoc, Nat.reduceAdd, Nat.reduceEqDiff, Nat.add_left_cancel_iff, Nat.left_eq_add, Nat.add_eq_left, if_true, if_false, true_and, and_true, false_and, and_false, and_self, reduceCtorEq, l2]
  · have l2 : a ≠ gN h := hp
    subst_vars; simp only [gN_pR, gT_pR, gK_pR, gL_pR, gR_pR, gI_pR, gJ_pR, gN_pI, gT_pI, gK_pI, gL_pI, gR_pI, gI_pI, gJ_pI, gN_pJ, gT_pJ, gK_pJ, gL_pJ, gR_pJ, gI_pJ, gJ_pJ, gN_gNew, gT_gNew, gK_gNew, gL_gNew, gR_gNew, gI_gNew, gJ_gNew, Nat.add_assoc, Nat.reduceAdd, Nat.reduceEqDiff, Nat.add_left_cancel_iff, Nat.left_eq_add, Nat.add_eq_left, if_true, if_false, true_and, and_true, false_and, and_false, and_self, reduceCtorEq, l2]
  · have l2 : a ≠ gN h := hp
    subst_vars; simp only [gN_pR, gT_pR, gK_pR, gL_pR, gR_pR, gI_pR, gJ_pR, gN_pI, gT_pI, gK_pI, gL_pI, gR_pI, gI_pI, gJ_pI, gN_pJ, gT_pJ, gK_pJ, gL_pJ, gR_pJ, gI_pJ, gJ_pJ, gN_gNew, gT_gNew, gK_gNew, gL_gNew, gR_gNew, gI_gNew, gJ_gNew, Nat.add_assoc, Nat.reduceAdd, Nat.reduceEqDiff, Nat.add_left_cancel_iff, Nat.left_eq_add, Nat.add_eq_left, if_true, if_false, true_and, and_true, false_and, and_false, and_self, reduceCtorEq, l2]
  · have l2 : a ≠ gN h := hp
    subst_vars; simp only [gN_pR, gT_pR, gK_pR, gL_pR, gR_pR, gI_pR, gJ_pR, gN_pI, gT_pI, gK_pI, gL_pI, gR_pI, gI_pI, gJ_pI, gN_pJ, gT_pJ, gK_pJ, gL_pJ, gR_pJ, gI_pJ, gJ_pJ, gN_gNew, gT_gNew, gK_gNew, gL_gNew, gR_gNew, gI_gNew, gJ_gNew, Nat.add_assoc, Nat.reduceAdd, Nat.reduceEqDiff, Nat.add_left_cancel_iff, Nat.left_eq_add, Nat.add_eq_left, if_true, if_false, true_and, and_true, false_and, and_false, and_self, reduceCtorEq, l2]
  · have l2 : a ≠ gN h := hp
    subst_vars; simp only [gN_pR, gT_pR, gK_pR, gL_pR, gR_pR, gI_pR, gJ_pR, gN_pI, gT_pI, gK_pI, gL_pI, gR_pI, gI_pI, gJ_pI, gN_pJ, gT_pJ, gK_pJ, gL_pJ, gR_pJ, gI_pJ, gJ_pJ, gN_gNew, gT_gNew, gK_gNew, gL_gNew, gR_gNew, gI_gNew, gJ_gNew, Nat.add_assoc, Nat.reduceAdd, Nat.reduceEqDiff, Nat.add_left_cancel_iff, Nat.left_eq_add, Nat.add_eq_left, if_true, if_false, true_and, and_true, false_and, and_false, and_self, reduceCtorEq, l2]
  · subst_vars; simp only [gN_pR, gT_pR, gK_pR, gL_pR, gR_pR, gI_pR, gJ_pR, gN_pI, gT_pI, gK_pI, gL_pI, gR_pI, gI_pI, gJ_pI, gN_pJ, gT_pJ, gK_pJ, gL_pJ, gR_pJ, gI_pJ, gJ_pJ, gN_gNew, gT_gNew, gK_gNew, gL_gNew, gR_gNew, gI_gNew, gJ_gNew, Nat.add_assoc, Nat.reduceAdd, Nat.reduceEqDiff, Nat.add_left_cancel_iff, Nat.left_eq_add, Nat.add_eq_left, if_true, if_false, true_and, and_true, false_and, and_false, and_self, reduceCtorEq]
  · subst_vars; simp only [gN_pR, gT_pR, gK_pR, gL_pR, gR_pR, gI_pR, gJ_pR, gN_pI, gT_pI, gK_pI, gL_pI, gR_pI, gI_pI, gJ_pI, gN_pJ, gT_pJ, gK_pJ, gL_pJ, gR_pJ, gI_pJ, gJ_pJ, gN_gNew, gT_gNew, gK_gNew, gL_gNew, gR_gNew, gI_gNew, gJ_gNew]; omega
  · subst_vars; simp only [gN_pR, gT_pR, gK_pR, gL_pR, gR_pR, gI_pR, gJ_pR, gN_pI, gT_pI, gK_pI, gL_pI, gR_pI, gI_pI, gJ_pI, gN_pJ, gT_pJ, gK_pJ, gL_pJ, gR_pJ, gI_pJ, gJ_pJ, gN_gNew, gT_gNew, gK_gNew, gL_gNew, gR_gNew, gI_gNew, gJ_gNew, Nat.add_assoc, Nat.reduceAdd, Nat.reduceEqDiff, Nat.add_left_cancel_iff, Nat.left_eq_add, Nat.add_eq_left, if_true, if_false, true_and, and_true, false_and, and_false, and_self, reduceCtorEq]
  · subst_vars; simp only [gN_pR, gT_pR, gK_pR, gL_pR, gR_pR, gI_pR, gJ_pR, gN_pI, gT_pI, gK_pI, gL_pI, gR_pI, gI_pI, gJ_pI, gN_pJ, gT_pJ, gK_pJ, gL_pJ, gR_pJ, gI_pJ, gJ_pJ, gN_gNew, gT_gNew, gK_gNew, gL_gNew, gR_gNew, gI_gNew, gJ_gNew, Nat.add_assoc, Nat.reduceAdd, Nat.reduceEqDiff, Nat.add_left_cancel_iff, Nat.left_eq_add, Nat.add_eq_left, if_true, if_false, true_and, and_true, false_and, and_false, and_self, reduceCtorEq]
  · subst_vars; simp only [gN_pR, gT_pR, gK_pR, gL_pR, gR_pR, gI_pR, gJ_pR, gN_pI, gT_pI, gK_pI, gL_pI, gR_pI, gI_pI, gJ_pI, gN_pJ, gT_pJ, gK_pJ, gL_pJ, gR_pJ, gI_pJ, gJ_pJ, gN_gNew, gT_gNew, gK_gNew, gL_gNew, gR_gNew, gI_gNew, gJ_gNew, Nat.add_assoc, Nat.reduceAdd, Nat.reduceEqDiff, Nat.add_left_cancel_iff, Nat.left_eq_add, Nat.add_eq_left, if_true, if_false, true_and, and_true, false_and, and_false, and_self, reduceCtorEq]
end NCL
