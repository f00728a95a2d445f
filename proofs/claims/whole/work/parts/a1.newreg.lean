/-! A NEW OFFICE: its register, its reader -/
section NRG
variable {d : Nat} {h : aH} {X : Nat → aH → Prop} {K : aH → Prop}
theorem kp_new {h : aH} {k n : Nat} {p : Nat → Prop} : keeps h (gNew h k n) p := keeps_new _ _ _ _
theorem c_reg (hN : 8 ≤ gN h) (kk : ∀ h', keeps (gNew h 6 6) h' (fun q => q = gN h) → gN h' = gN h + 8 → gT h' ≤ gT h + 500 → (gK h' (gN h) = 6 ∧ gR h' (gN h) 0 = gN h + 1 ∧ gR h' (gN h) 1 = gN h + 3 ∧ gR h' (gN h) 2 = gN h + 5 ∧ gR h' (gN h) 3 = gN h + 6 ∧ gR h' (gN h) 4 = gN h + 7 ∧ gI h' (gN h) 5 = 0) → (gK h' (gN h + 5) = 100 ∧ gK h' (gN h + 6) = 100 ∧ gK h' (gN h + 7) = 100 ∧ gL h' (gN h + 5) = 100 ∧ gL h' (gN h + 6) = 100 ∧ gL h' (gN h + 7) = 100) → rowsOK h' (gN h + 1) (gN h + 2) 2 100 0 → rowsOK h' (gN h + 3) (gN h + 4) 5 1500 0 → K h') : CV (d + 2) 2 [vR (gN h)] (gNew h 6 6) K X := by
  have n0 : gN (gNew h 6 6) = gN h + 1 := gN_gNew _ _ _
  have t0 : gT (gNew h 6 6) = gT h + 6 := gT_gNew _ _ _
  have K0 : gK (gNew h 6 6) (gN h) = 6 := by rw [gK_gNew, if_pos rfl]
  generalize gNew h 6 6 = h0 at *
  generalize gN h = N at *
  refine m2 ⟨hN, fun r1 g1 x1 y1 => ?_⟩
  rw [n0] at x1
  subst x1
  have k1 : keeps h0 g1 (fun q => q = N) := by rw [y1]; exact kp_new
  have n1 : gN g1 = N + 2 := by rw [y1, gN_gNew, n0]
  have t1 : gT g1 = gT h + 10 := by rw [y1, gT_gNew, t0]
  have K1 : gK g1 (N + 1) = 8 := by rw [y1, gK_gNew, if_pos n0.symm]
  refine ⟨by omega, c_rows (w := 2) (lim := 100) (by omega) ⟨by omega, by omega, K1⟩ (by omega) (by omega) (fun h1 kh1 nh1 th1 R1 => ?_)⟩
  rw [n1] at nh1 R1
  have KN1 : gK h1 N = 6 := by rw [(kh1.2.2.1 N (by omega)).1, (k1.2.2.1 N (by omega)).1]; exact K0
  refine ⟨KN1, fun h2 y2 r2 g3 x3 y3 => ?_⟩
  have n2 : gN h2 = N + 3 := by rw [y2, gN_pR, nh1]
  rw [n2] at x3
  subst x3
  have n3 : gN g3 = N + 4 := by rw [y3, gN_gNew, n2]
  have t3 : gT g3 = gT h1 + 4 := by rw [y3, gT_gNew, y2, gT_pR]
  have K3 : gK g3 (N + 3) = 8 := by rw [y3, gK_gNew, if_pos n2.symm]
  have k12 : keeps h1 h2 (fun q => q = N) := by rw [y2]; exact keeps_pR _ _ _ _
  have k23 : keeps h2 g3 (fun q => q = N) := by rw [y3]; exact kp_new
  refine ⟨by omega, c_rows (w := 5) (lim := 1500) (by omega) ⟨by omega, by omega, K3⟩ (by omega) (by omega) (fun h4 kh4 nh4 th4 R4 => ?_)⟩
  rw [n3] at nh4 R4
  have sN := kh4.2.2.2 N (by omega) (by omega)
  have KN4 : gK h4 N = 6 := by rw [sN.1, (k23.2.2.1 N (by omega)).1, (k12.2.2.1 N (by omega)).1]; exact KN1
  have R04 : gR h4 N 0 = N + 1 := by rw [sN.2.2.2.2, y3, gR_gNew, if_neg (by omega), y2, gR_pR, if_pos ⟨rfl, rfl⟩]
  refine ⟨KN4, fun h5 y5 r3 g6 x6 y6 => ⟨?_, fun h7 y7 r4 g8 x8 y8 => ⟨?_, fun h9 y9 r5 g10 x10 y10 => ⟨?_, fun h11 y11 h12 y12 => ?_⟩⟩⟩⟩
  · subst y6 y5; simp only [gN_pR, gT_pR, gK_pR, gL_pR, gR_pR, gI_pR, gJ_pR, gN_pI, gT_pI, gK_pI, gL_pI, gR_pI, gI_pI, gJ_pI, gN_pJ, gT_pJ, gK_pJ, gL_pJ, gR_pJ, gI_pJ, gJ_pJ, gN_gNew, gT_gNew, gK_gNew, gL_gNew, gR_gNew, gI_gNew, gJ_gNew, Nat.add_assoc, Nat.reduceAdd, Nat.reduceEqDiff, Nat.add_left_cancel_iff, Nat.left_eq_add, Nat.add_eq_left, if_true, if_false, true_and, and_true, false_and, and_false, and_self, reduceCtorEq, nh4]; exact KN4
  · subst y8 y7 y6 y5; simp only [gN_pR, gT_pR, gK_pR, gL_pR, gR_pR, gI_pR, gJ_pR, gN_pI, gT_pI, gK_pI, gL_pI, gR_pI, gI_pI, gJ_pI, gN_pJ, gT_pJ, gK_pJ, gL_pJ, gR_pJ, gI_pJ, gJ_pJ, gN_gNew, gT_gNew, gK_gNew, gL_gNew, gR_gNew, gI_gNew, gJ_gNew, Nat.add_assoc, Nat.reduceAdd, Nat.reduceEqDiff, Nat.add_left_cancel_iff, Nat.left_eq_add, Nat.add_eq_left, if_true, if_false, true_and, and_true, false_and, and_false, and_self, reduceCtorEq, nh4]; exact KN4
  · subst y10 y9 y8 y7 y6 y5; simp only [gN_pR, gT_pR, gK_pR, gL_pR, gR_pR, gI_pR, gJ_pR, gN_pI, gT_pI, gK_pI, gL_pI, gR_pI, gI_pI, gJ_pI, gN_pJ, gT_pJ, gK_pJ, gL_pJ, gR_pJ, gI_pJ, gJ_pJ, gN_gNew, gT_gNew, gK_gNew, gL_gNew, gR_gNew, gI_gNew, gJ_gNew, Nat.add_assoc, Nat.reduceAdd, Nat.reduceEqDiff, Nat.add_left_cancel_iff, Nat.left_eq_add, Nat.add_eq_left, if_true, if_false, true_and, and_true, false_and, and_false, and_self, reduceCtorEq, nh4]; exact KN4
  have k412 : keeps h4 h12 (fun q => q = N) := by
    refine ⟨?_, ?_, fun a ha => ?_, fun a ha hp => ⟨?_, ?_, fun j => ?_, fun j => ?_, fun j => ?_⟩⟩
    · subst y12 y11 y10 y9 y8 y7 y6 y5; simp only [gN_pR, gT_pR, gK_pR, gL_pR, gR_pR, gI_pR, gJ_pR, gN_pI, gT_pI, gK_pI, gL_pI, gR_pI, gI_pI, gJ_pI, gN_pJ, gT_pJ, gK_pJ, gL_pJ, gR_pJ, gI_pJ, gJ_pJ, gN_gNew, gT_gNew, gK_gNew, gL_gNew, gR_gNew, gI_gNew, gJ_gNew]; omega
    · subst y12 y11 y10 y9 y8 y7 y6 y5; simp only [gN_pR, gT_pR, gK_pR, gL_pR, gR_pR, gI_pR, gJ_pR, gN_pI, gT_pI, gK_pI, gL_pI, gR_pI, gI_pI, gJ_pI, gN_pJ, gT_pJ, gK_pJ, gL_pJ, gR_pJ, gI_pJ, gJ_pJ, gN_gNew, gT_gNew, gK_gNew, gL_gNew, gR_gNew, gI_gNew, gJ_gNew]; omega
    · have l1 : ∀ x, a ≠ N + (5 + x) := by omega
      have l5 := l1 0
      have l6 := l1 1
      have l7 := l1 2
      subst y12 y11 y10 y9 y8 y7 y6 y5; simp only [gN_pR, gT_pR, gK_pR, gL_pR, gR_pR, gI_pR, gJ_pR, gN_pI, gT_pI, gK_pI, gL_pI, gR_pI, gI_pI, gJ_pI, gN_pJ, gT_pJ, gK_pJ, gL_pJ, gR_pJ, gI_pJ, gJ_pJ, gN_gNew, gT_gNew, gK_gNew, gL_gNew, gR_gNew, gI_gNew, gJ_gNew, nh4, Nat.add_assoc, Nat.reduceAdd, Nat.reduceEqDiff, Nat.add_left_cancel_iff, Nat.left_eq_add, Nat.add_eq_left, if_true, if_false, true_and, and_true, false_and, and_false, and_self, reduceCtorEq] at l5 l6 l7 ⊢; simp only [l5, l6, l7, if_false, and_self]
    all_goals
      have l1 : ∀ x, a ≠ N + (5 + x) := by omega
      have l5 := l1 0
      have l6 := l1 1
      have l7 := l1 2
      have l8 : a ≠ N := hp
      subst y12 y11 y10 y9 y8 y7 y6 y5; simp only [gN_pR, gT_pR, gK_pR, gL_pR, gR_pR, gI_pR, gJ_pR, gN_pI, gT_pI, gK_pI, gL_pI, gR_pI, gI_pI, gJ_pI, gN_pJ, gT_pJ, gK_pJ, gL_pJ, gR_pJ, gI_pJ, gJ_pJ, gN_gNew, gT_gNew, gK_gNew, gL_gNew, gR_gNew, gI_gNew, gJ_gNew, nh4, Nat.add_assoc, Nat.reduceAdd, Nat.reduceEqDiff, Nat.add_left_cancel_iff, Nat.left_eq_add, Nat.add_eq_left, if_true, if_false, true_and, and_true, false_and, and_false, and_self, reduceCtorEq] at l5 l6 l7 ⊢; simp only [l5, l6, l7, l8, if_false, false_and]
  have kl : ∀ a, a < N + 1 → gK h12 a = gK h0 a ∧ gL h12 a = gL h0 a := fun a ha => by
    have q1 := k1.2.2.1 a (by omega)
    have q2 := kh1.2.2.1 a (by omega)
    have q3 := k12.2.2.1 a (by omega)
    have q4 := k23.2.2.1 a (by omega)
    have q5 := kh4.2.2.1 a (by omega)
    have q6 := k412.2.2.1 a (by omega)
    exact ⟨q6.1.trans (q5.1.trans (q4.1.trans (q3.1.trans (q2.1.trans q1.1)))), q6.2.trans (q5.2.trans (q4.2.trans (q3.2.trans (q2.2.trans q1.2))))⟩
  have kp : keeps h0 h12 (fun q => q = N) := by
    refine ⟨by have := k412.1; omega, by have := k412.2.1; have := kh4.2.1; have := kh1.2.1; omega, fun a ha => kl a (by omega), fun a ha hp => ?_⟩
    exact same_trans (k1.2.2.2 a ha hp) (same_trans (kh1.2.2.2 a (by omega) (by omega)) (same_trans (k12.2.2.2 a (by omega) hp) (same_trans (k23.2.2.2 a (by omega) hp) (same_trans (kh4.2.2.2 a (by omega) (by omega)) (k412.2.2.2 a (by omega) hp)))))
  refine kk h12 kp ?_ ?_ ⟨?_, ?_, ?_, ?_, ?_, ?_, ?_⟩ ⟨?_, ?_, ?_, ?_, ?_, ?_⟩ ?_ ?_
  · subst y12 y11 y10 y9 y8 y7 y6 y5; simp only [gN_pR, gT_pR, gK_pR, gL_pR, gR_pR, gI_pR, gJ_pR, gN_pI, gT_pI, gK_pI, gL_pI, gR_pI, gI_pI, gJ_pI, gN_pJ, gT_pJ, gK_pJ, gL_pJ, gR_pJ, gI_pJ, gJ_pJ, gN_gNew, gT_gNew, gK_gNew, gL_gNew, gR_gNew, gI_gNew, gJ_gNew, Nat.add_assoc, Nat.reduceAdd, Nat.reduceEqDiff, Nat.add_left_cancel_iff, Nat.left_eq_add, Nat.add_eq_left, if_true, if_false, true_and, and_true, false_and, and_false, and_self, reduceCtorEq, nh4]
  · have e : gT h12 = gT h4 + 300 := by subst y12 y11 y10 y9 y8 y7 y6 y5; simp only [gN_pR, gT_pR, gK_pR, gL_pR, gR_pR, gI_pR, gJ_pR, gN_pI, gT_pI, gK_pI, gL_pI, gR_pI, gI_pI, gJ_pI, gN_pJ, gT_pJ, gK_pJ, gL_pJ, gR_pJ, gI_pJ, gJ_pJ, gN_gNew, gT_gNew, gK_gNew, gL_gNew, gR_gNew, gI_gNew, gJ_gNew, Nat.add_assoc, Nat.reduceAdd, Nat.reduceEqDiff, Nat.add_left_cancel_iff, Nat.left_eq_add, Nat.add_eq_left, if_true, if_false, true_and, and_true, false_and, and_false, and_self, reduceCtorEq]
    omega
  · rw [(kl N (by omega)).1]; exact K0
  · subst y12 y11 y10 y9 y8 y7 y6 y5; simp only [gN_pR, gT_pR, gK_pR, gL_pR, gR_pR, gI_pR, gJ_pR, gN_pI, gT_pI, gK_pI, gL_pI, gR_pI, gI_pI, gJ_pI, gN_pJ, gT_pJ, gK_pJ, gL_pJ, gR_pJ, gI_pJ, gJ_pJ, gN_gNew, gT_gNew, gK_gNew, gL_gNew, gR_gNew, gI_gNew, gJ_gNew, Nat.add_assoc, Nat.reduceAdd, Nat.reduceEqDiff, Nat.add_left_cancel_iff, Nat.left_eq_add, Nat.add_eq_left, if_true, if_false, true_and, and_true, false_and, and_false, and_self, reduceCtorEq, nh4]; exact R04
  · subst y12 y11 y10 y9 y8 y7 y6 y5; simp only [gN_pR, gT_pR, gK_pR, gL_pR, gR_pR, gI_pR, gJ_pR, gN_pI, gT_pI, gK_pI, gL_pI, gR_pI, gI_pI, gJ_pI, gN_pJ, gT_pJ, gK_pJ, gL_pJ, gR_pJ, gI_pJ, gJ_pJ, gN_gNew, gT_gNew, gK_gNew, gL_gNew, gR_gNew, gI_gNew, gJ_gNew, Nat.add_assoc, Nat.reduceAdd, Nat.reduceEqDiff, Nat.add_left_cancel_iff, Nat.left_eq_add, Nat.add_eq_left, if_true, if_false, true_and, and_true, false_and, and_false, and_self, reduceCtorEq, nh4]
  · subst y12 y11 y10 y9 y8 y7 y6 y5; subst_vars; simp only [gN_pR, gT_pR, gK_pR, gL_pR, gR_pR, gI_pR, gJ_pR, gN_pI, gT_pI, gK_pI, gL_pI, gR_pI, gI_pI, gJ_pI, gN_pJ, gT_pJ, gK_pJ, gL_pJ, gR_pJ, gI_pJ, gJ_pJ, gN_gNew, gT_gNew, gK_gNew, gL_gNew, gR_gNew, gI_gNew, gJ_gNew, Nat.add_assoc, Nat.reduceAdd, Nat.reduceEqDiff, Nat.add_left_cancel_iff, Nat.left_eq_add, Nat.add_eq_left, if_true, if_false, true_and, and_true, false_and, and_false, and_self, reduceCtorEq, nh4]
  · subst y12 y11 y10 y9 y8 y7 y6 y5; subst_vars; simp only [gN_pR, gT_pR, gK_pR, gL_pR, gR_pR, gI_pR, gJ_pR, gN_pI, gT_pI, gK_pI, gL_pI, gR_pI, gI_pI, gJ_pI, gN_pJ, gT_pJ, gK_pJ, gL_pJ, gR_pJ, gI_pJ, gJ_pJ, gN_gNew, gT_gNew, gK_gNew, gL_gNew, gR_gNew, gI_gNew, gJ_gNew, Nat.add_assoc, Nat.reduceAdd, Nat.reduceEqDiff, Nat.add_left_cancel_iff, Nat.left_eq_add, Nat.add_eq_left, if_true, if_false, true_and, and_true, false_and, and_false, and_self, reduceCtorEq, nh4]
  · subst y12 y11 y10 y9 y8 y7 y6 y5; subst_vars; simp only [gN_pR, gT_pR, gK_pR, gL_pR, gR_pR, gI_pR, gJ_pR, gN_pI, gT_pI, gK_pI, gL_pI, gR_pI, gI_pI, gJ_pI, gN_pJ, gT_pJ, gK_pJ, gL_pJ, gR_pJ, gI_pJ, gJ_pJ, gN_gNew, gT_gNew, gK_gNew, gL_gNew, gR_gNew, gI_gNew, gJ_gNew, Nat.add_assoc, Nat.reduceAdd, Nat.reduceEqDiff, Nat.add_left_cancel_iff, Nat.left_eq_add, Nat.add_eq_left, if_true, if_false, true_and, and_true, false_and, and_false, and_self, reduceCtorEq, nh4]
  · subst y12; simp only [gN_pR, gT_pR, gK_pR, gL_pR, gR_pR, gI_pR, gJ_pR, gN_pI, gT_pI, gK_pI, gL_pI, gR_pI, gI_pI, gJ_pI, gN_pJ, gT_pJ, gK_pJ, gL_pJ, gR_pJ, gI_pJ, gJ_pJ, gN_gNew, gT_gNew, gK_gNew, gL_gNew, gR_gNew, gI_gNew, gJ_gNew, Nat.add_assoc, Nat.reduceAdd, Nat.reduceEqDiff, Nat.add_left_cancel_iff, Nat.left_eq_add, Nat.add_eq_left, if_true, if_false, true_and, and_true, false_and, and_false, and_self, reduceCtorEq]
  · subst y12 y11 y10 y9 y8 y7 y6 y5; simp only [gN_pR, gT_pR, gK_pR, gL_pR, gR_pR, gI_pR, gJ_pR, gN_pI, gT_pI, gK_pI, gL_pI, gR_pI, gI_pI, gJ_pI, gN_pJ, gT_pJ, gK_pJ, gL_pJ, gR_pJ, gI_pJ, gJ_pJ, gN_gNew, gT_gNew, gK_gNew, gL_gNew, gR_gNew, gI_gNew, gJ_gNew, Nat.add_assoc, Nat.reduceAdd, Nat.reduceEqDiff, Nat.add_left_cancel_iff, Nat.left_eq_add, Nat.add_eq_left, if_true, if_false, true_and, and_true, false_and, and_false, and_self, reduceCtorEq, nh4]
  · subst y12 y11 y10 y9 y8 y7 y6 y5; simp only [gN_pR, gT_pR, gK_pR, gL_pR, gR_pR, gI_pR, gJ_pR, gN_pI, gT_pI, gK_pI, gL_pI, gR_pI, gI_pI, gJ_pI, gN_pJ, gT_pJ, gK_pJ, gL_pJ, gR_pJ, gI_pJ, gJ_pJ, gN_gNew, gT_gNew, gK_gNew, gL_gNew, gR_gNew, gI_gNew, gJ_gNew, Nat.add_assoc, Nat.reduceAdd, Nat.reduceEqDiff, Nat.add_left_cancel_iff, Nat.left_eq_add, Nat.add_eq_left, if_true, if_false, true_and, and_true, false_and, and_false, and_self, reduceCtorEq, nh4]
  · subst y12 y11 y10 y9 y8 y7 y6 y5; simp only [gN_pR, gT_pR, gK_pR, gL_pR, gR_pR, gI_pR, gJ_pR, gN_pI, gT_pI, gK_pI, gL_pI, gR_pI, gI_pI, gJ_pI, gN_pJ, gT_pJ, gK_pJ, gL_pJ, gR_pJ, gI_pJ, gJ_pJ, gN_gNew, gT_gNew, gK_gNew, gL_gNew, gR_gNew, gI_gNew, gJ_gNew, Nat.add_assoc, Nat.reduceAdd, Nat.reduceEqDiff, Nat.add_left_cancel_iff, Nat.left_eq_add, Nat.add_eq_left, if_true, if_false, true_and, and_true, false_and, and_false, and_self, reduceCtorEq, nh4]
  · subst y12 y11 y10 y9 y8 y7 y6 y5; simp only [gN_pR, gT_pR, gK_pR, gL_pR, gR_pR, gI_pR, gJ_pR, gN_pI, gT_pI, gK_pI, gL_pI, gR_pI, gI_pI, gJ_pI, gN_pJ, gT_pJ, gK_pJ, gL_pJ, gR_pJ, gI_pJ, gJ_pJ, gN_gNew, gT_gNew, gK_gNew, gL_gNew, gR_gNew, gI_gNew, gJ_gNew, Nat.add_assoc, Nat.reduceAdd, Nat.reduceEqDiff, Nat.add_left_cancel_iff, Nat.left_eq_add, Nat.add_eq_left, if_true, if_false, true_and, and_true, false_and, and_false, and_self, reduceCtorEq, nh4]
  · subst y12 y11 y10 y9 y8 y7 y6 y5; simp only [gN_pR, gT_pR, gK_pR, gL_pR, gR_pR, gI_pR, gJ_pR, gN_pI, gT_pI, gK_pI, gL_pI, gR_pI, gI_pI, gJ_pI, gN_pJ, gT_pJ, gK_pJ, gL_pJ, gR_pJ, gI_pJ, gJ_pJ, gN_gNew, gT_gNew, gK_gNew, gL_gNew, gR_gNew, gI_gNew, gJ_gNew, Nat.add_assoc, Nat.reduceAdd, Nat.reduceEqDiff, Nat.add_left_cancel_iff, Nat.left_eq_add, Nat.add_eq_left, if_true, if_false, true_and, and_true, false_and, and_false, and_self, reduceCtorEq, nh4]
  · subst y12 y11 y10 y9 y8 y7 y6 y5; simp only [gN_pR, gT_pR, gK_pR, gL_pR, gR_pR, gI_pR, gJ_pR, gN_pI, gT_pI, gK_pI, gL_pI, gR_pI, gI_pI, gJ_pI, gN_pJ, gT_pJ, gK_pJ, gL_pJ, gR_pJ, gI_pJ, gJ_pJ, gN_gNew, gT_gNew, gK_gNew, gL_gNew, gR_gNew, gI_gNew, gJ_gNew, Nat.add_assoc, Nat.reduceAdd, Nat.reduceEqDiff, Nat.add_left_cancel_iff, Nat.left_eq_add, Nat.add_eq_left, if_true, if_false, true_and, and_true, false_and, and_false, and_self, reduceCtorEq, nh4]
  · exact rows_keeps (rows_keeps (rows_keeps (rows_keeps R1 k12 (by omega)) k23 (by omega)) kh4 (by omega)) k412 (by omega)
  · exact rows_keeps R4 k412 (by omega)
theorem c_reader {r1 : Nat} (hN : 8 ≤ gN h) (kk : ∀ h', keeps (gNew h 4 5) h' (fun q => q = gN h) → gN h' = gN h + 13 → gT h' ≤ gT h + 200 → (gK h' (gN h) = 4 ∧ gR h' (gN h) 0 = r1) → K h') : CV (d + 3) 5 [vR (gN h), vR r1] (gNew h 4 5) K X := by
  have n0 : gN (gNew h 4 5) = gN h + 1 := gN_gNew _ _ _
  have t0 : gT (gNew h 4 5) = gT h + 5 := gT_gNew _ _ _
  have K0 : gK (gNew h 4 5) (gN h) = 4 := by rw [gK_gNew, if_pos rfl]
  generalize gNew h 4 5 = h0 at *
  generalize gN h = N at *
  refine m5 ⟨hN, fun r2 g1 x1 y1 => ?_⟩
  subst x1
  subst y1
  refine ⟨by omega, c_newForm (L := 0) (by omega) (by omega) (fun g n => ?_)⟩
  obtain ⟨kg, ⟨gn, gt⟩, -⟩ := n
  have KN : gK g N = 4 := by rw [(kg.2.2.1 N (by omega)).1]; exact K0
  refine ⟨KN, fun h2 y2 h3 y3 h4 y4 h5 y5 h6 y6 => ?_⟩
  refine kk h6 ⟨?_, ?_, fun a ha => ?_, fun a ha hp => ?_⟩ ?_ ?_ ⟨?_, ?_⟩
  · subst y6 y5 y4 y3 y2; simp only [gN_pR, gT_pR, gK_pR, gL_pR, gR_pR, gI_pR, gJ_pR, gN_pI, gT_pI, gK_pI, gL_pI, gR_pI, gI_pI, gJ_pI, gN_pJ, gT_pJ, gK_pJ, gL_pJ, gR_pJ, gI_pJ, gJ_pJ, gN_gNew, gT_gNew, gK_gNew, gL_gNew, gR_gNew, gI_gNew, gJ_gNew]; omega
  · subst y6 y5 y4 y3 y2; simp only [gN_pR, gT_pR, gK_pR, gL_pR, gR_pR, gI_pR, gJ_pR, gN_pI, gT_pI, gK_pI, gL_pI, gR_pI, gI_pI, gJ_pI, gN_pJ, gT_pJ, gK_pJ, gL_pJ, gR_pJ, gI_pJ, gJ_pJ, gN_gNew, gT_gNew, gK_gNew, gL_gNew, gR_gNew, gI_gNew, gJ_gNew]; exact kg.2.1
  · subst y6 y5 y4 y3 y2; simp only [gN_pR, gT_pR, gK_pR, gL_pR, gR_pR, gI_pR, gJ_pR, gN_pI, gT_pI, gK_pI, gL_pI, gR_pI, gI_pI, gJ_pI, gN_pJ, gT_pJ, gK_pJ, gL_pJ, gR_pJ, gI_pJ, gJ_pJ, gN_gNew, gT_gNew, gK_gNew, gL_gNew, gR_gNew, gI_gNew, gJ_gNew]; exact kg.2.2.1 a ha
  · have s := kg.2.2.2 a ha (fun z => z)
    have l : a ≠ N := hp
    refine ⟨?_, ?_, fun j => ?_, fun j => ?_, fun j => ?_⟩
    · subst y6 y5 y4 y3 y2; simp only [gN_pR, gT_pR, gK_pR, gL_pR, gR_pR, gI_pR, gJ_pR, gN_pI, gT_pI, gK_pI, gL_pI, gR_pI, gI_pI, gJ_pI, gN_pJ, gT_pJ, gK_pJ, gL_pJ, gR_pJ, gI_pJ, gJ_pJ, gN_gNew, gT_gNew, gK_gNew, gL_gNew, gR_gNew, gI_gNew, gJ_gNew]; exact s.1
    · subst y6 y5 y4 y3 y2; simp only [gN_pR, gT_pR, gK_pR, gL_pR, gR_pR, gI_pR, gJ_pR, gN_pI, gT_pI, gK_pI, gL_pI, gR_pI, gI_pI, gJ_pI, gN_pJ, gT_pJ, gK_pJ, gL_pJ, gR_pJ, gI_pJ, gJ_pJ, gN_gNew, gT_gNew, gK_gNew, gL_gNew, gR_gNew, gI_gNew, gJ_gNew]; exact s.2.1
    · subst y6 y5 y4 y3 y2; simp only [gN_pR, gT_pR, gK_pR, gL_pR, gR_pR, gI_pR, gJ_pR, gN_pI, gT_pI, gK_pI, gL_pI, gR_pI, gI_pI, gJ_pI, gN_pJ, gT_pJ, gK_pJ, gL_pJ, gR_pJ, gI_pJ, gJ_pJ, gN_gNew, gT_gNew, gK_gNew, gL_gNew, gR_gNew, gI_gNew, gJ_gNew, Nat.add_assoc, Nat.reduceAdd, Nat.reduceEqDiff, Nat.add_left_cancel_iff, Nat.left_eq_add, Nat.add_eq_left, if_true, if_false, true_and, and_true, false_and, and_false, and_self, reduceCtorEq, l]; exact s.2.2.1 j
    · subst y6 y5 y4 y3 y2; simp only [gN_pR, gT_pR, gK_pR, gL_pR, gR_pR, gI_pR, gJ_pR, gN_pI, gT_pI, gK_pI, gL_pI, gR_pI, gI_pI, gJ_pI, gN_pJ, gT_pJ, gK_pJ, gL_pJ, gR_pJ, gI_pJ, gJ_pJ, gN_gNew, gT_gNew, gK_gNew, gL_gNew, gR_gNew, gI_gNew, gJ_gNew, Nat.add_assoc, Nat.reduceAdd, Nat.reduceEqDiff, Nat.add_left_cancel_iff, Nat.left_eq_add, Nat.add_eq_left, if_true, if_false, true_and, and_true, false_and, and_false, and_self, reduceCtorEq, l]; exact s.2.2.2.1 j
    · subst y6 y5 y4 y3 y2; simp only [gN_pR, gT_pR, gK_pR, gL_pR, gR_pR, gI_pR, gJ_pR, gN_pI, gT_pI, gK_pI, gL_pI, gR_pI, gI_pI, gJ_pI, gN_pJ, gT_pJ, gK_pJ, gL_pJ, gR_pJ, gI_pJ, gJ_pJ, gN_gNew, gT_gNew, gK_gNew, gL_gNew, gR_gNew, gI_gNew, gJ_gNew, Nat.add_assoc, Nat.reduceAdd, Nat.reduceEqDiff, Nat.add_left_cancel_iff, Nat.left_eq_add, Nat.add_eq_left, if_true, if_false, true_and, and_true, false_and, and_false, and_self, reduceCtorEq, l]; exact s.2.2.2.2 j
  · subst y6 y5 y4 y3 y2; simp only [gN_pR, gT_pR, gK_pR, gL_pR, gR_pR, gI_pR, gJ_pR, gN_pI, gT_pI, gK_pI, gL_pI, gR_pI, gI_pI, gJ_pI, gN_pJ, gT_pJ, gK_pJ, gL_pJ, gR_pJ, gI_pJ, gJ_pJ, gN_gNew, gT_gNew, gK_gNew, gL_gNew, gR_gNew, gI_gNew, gJ_gNew]; omega
  · subst y6 y5 y4 y3 y2; simp only [gN_pR, gT_pR, gK_pR, gL_pR, gR_pR, gI_pR, gJ_pR, gN_pI, gT_pI, gK_pI, gL_pI, gR_pI, gI_pI, gJ_pI, gN_pJ, gT_pJ, gK_pJ, gL_pJ, gR_pJ, gI_pJ, gJ_pJ, gN_gNew, gT_gNew, gK_gNew, gL_gNew, gR_gNew, gI_gNew, gJ_gNew]; omega
  · subst y6 y5 y4 y3 y2; simp only [gN_pR, gT_pR, gK_pR, gL_pR, gR_pR, gI_pR, gJ_pR, gN_pI, gT_pI, gK_pI, gL_pI, gR_pI, gI_pI, gJ_pI, gN_pJ, gT_pJ, gK_pJ, gL_pJ, gR_pJ, gI_pJ, gJ_pJ, gN_gNew, gT_gNew, gK_gNew, gL_gNew, gR_gNew, gI_gNew, gJ_gNew]; exact KN
  · subst y6 y5 y4 y3 y2; simp only [gN_pR, gT_pR, gK_pR, gL_pR, gR_pR, gI_pR, gJ_pR, gN_pI, gT_pI, gK_pI, gL_pI, gR_pI, gI_pI, gJ_pI, gN_pJ, gT_pJ, gK_pJ, gL_pJ, gR_pJ, gI_pJ, gJ_pJ, gN_gNew, gT_gNew, gK_gNew, gL_gNew, gR_gNew, gI_gNew, gJ_gNew, Nat.add_assoc, Nat.reduceAdd, Nat.reduceEqDiff, Nat.add_left_cancel_iff, Nat.left_eq_add, Nat.add_eq_left, if_true, if_false, true_and, and_true, false_and, and_false, and_self, reduceCtorEq]
end NRG
