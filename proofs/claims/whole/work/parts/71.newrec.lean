/-! A NEW RECORD -/
section NRC
variable {d q0 : Nat} {h : aH} {X : Nat → aH → Prop}
theorem c_newRec {K : aH → Prop} (hN : 8 ≤ gN h) (hq : q0 < gN h ∧ gK h q0 = 10) (ha : gR h q0 3 < gN h ∧ 8 ≤ gR h q0 3 ∧ gK h (gR h q0 3) = 100 ∧ gL h (gR h q0 3) = 20)
    (kk : ∀ h4, keeps h h4 (fun _ => False) → gN h4 = gN h + 3 → gT h4 ≤ gT h + 60 → (gK h4 (gN h) = 5 ∧ gK h4 (gN h + 1) = 100 ∧ gK h4 (gN h + 2) = 100 ∧ gL h4 (gN h + 1) = 20 ∧ gL h4 (gN h + 2) = 20) → (gR h4 (gN h) 0 = gR h q0 0 ∧ gR h4 (gN h) 2 = gR h q0 2 ∧ gR h4 (gN h) 3 = gN h + 2 ∧ gR h4 (gN h) 4 = gN h + 1) → gI h4 (gN h) 1 = gI h q0 1 → (∀ i, i < 20 → gI h4 (gN h + 1) i = 0 ∧ gI h4 (gN h + 2) i = gI h (gR h q0 3) i) → K h4) : CV (d + 2) 168 [vR (gN h), vR q0] (gNew h 5 5) K X := by
  obtain ⟨hq1, hq2⟩ := hq
  obtain ⟨ha1, ha2, ha3, ha4⟩ := ha
  generalize hN0 : gN h = N at *
  generalize hA0 : gR h q0 3 = ar at *
  have n1 : q0 ≠ N := by omega
  have n2 : q0 ≠ N + 1 := by omega
  have n3 : ar ≠ N := by omega
  have n4 : ar ≠ N + 1 := by omega
  have n5 : ar ≠ N + 1 + 1 := by omega
  have n6 : N ≠ N + 1 := by omega
  have n7 : N ≠ N + 1 + 1 := by omega
  have n8 : N + 1 ≠ N := by omega
  have n9 : N + 1 ≠ N + 1 + 1 := by omega
  have n10 : N + 1 + 1 ≠ N := by omega
  have n11 : N + 1 + 1 ≠ N + 1 := by omega
  refine m168 ⟨hN, fun r0 h0 e0 e1 => ⟨?_, fun h1 e2 => ⟨?_, fun h2 e3 h3 e4 h4 e5 => m20 ⟨?_, ?_⟩⟩⟩⟩
  · subst e1; simp only [gN_pR, gT_pR, gK_pR, gL_pR, gR_pR, gI_pR, gJ_pR, gN_pI, gT_pI, gK_pI, gL_pI, gR_pI, gI_pI, gJ_pI, gN_gNew, gT_gNew, gK_gNew, gL_gNew, gR_gNew, gI_gNew, gJ_gNew, gN_cpI, gT_cpI, gK_cpI, gL_cpI, gR_cpI, gI_cpI, gJ_cpI, hN0, n6, if_true, if_false]
  · subst e2 e1 e0; simp only [gN_pR, gT_pR, gK_pR, gL_pR, gR_pR, gI_pR, gJ_pR, gN_pI, gT_pI, gK_pI, gL_pI, gR_pI, gI_pI, gJ_pI, gN_gNew, gT_gNew, gK_gNew, gL_gNew, gR_gNew, gI_gNew, gJ_gNew, gN_cpI, gT_cpI, gK_cpI, gL_cpI, gR_cpI, gI_cpI, gJ_cpI, hN0, n1, n2, if_false]; exact hq2
  · subst e5 e4 e3 e2 e1 e0
    simp only [gN_pR, gT_pR, gK_pR, gL_pR, gR_pR, gI_pR, gJ_pR, gN_pI, gT_pI, gK_pI, gL_pI, gR_pI, gI_pI, gJ_pI, gN_gNew, gT_gNew, gK_gNew, gL_gNew, gR_gNew, gI_gNew, gJ_gNew, gN_cpI, gT_cpI, gK_cpI, gL_cpI, gR_cpI, gI_cpI, gJ_cpI, hN0, n1, n2, n3, n4, n5, n6, n7, false_and, and_false, if_true, if_false, hA0, ha3]
    omega
  · have t20 : (20 : Int32).toInt = (nI 20).toInt := rfl
    have a9 : gR h4 q0 3 = ar := by subst e5 e4 e3 e2 e1 e0; simp only [gN_pR, gT_pR, gK_pR, gL_pR, gR_pR, gI_pR, gJ_pR, gN_pI, gT_pI, gK_pI, gL_pI, gR_pI, gI_pI, gJ_pI, gN_gNew, gT_gNew, gK_gNew, gL_gNew, gR_gNew, gI_gNew, gJ_gNew, gN_cpI, gT_cpI, gK_cpI, gL_cpI, gR_cpI, gI_cpI, gJ_cpI, hN0, n1, n2, false_and, if_false, hA0]
    have l9 : gL h4 ar = 20 := by subst e5 e4 e3 e2 e1 e0; simp only [gN_pR, gT_pR, gK_pR, gL_pR, gR_pR, gI_pR, gJ_pR, gN_pI, gT_pI, gK_pI, gL_pI, gR_pI, gI_pI, gJ_pI, gN_gNew, gT_gNew, gK_gNew, gL_gNew, gR_gNew, gI_gNew, gJ_gNew, gN_cpI, gT_cpI, gK_cpI, gL_cpI, gR_cpI, gI_cpI, gJ_cpI, hN0, n3, n4, if_false, ha4]
    have k9 : gK h4 ar = 100 := by subst e5 e4 e3 e2 e1 e0; simp only [gN_pR, gT_pR, gK_pR, gL_pR, gR_pR, gI_pR, gJ_pR, gN_pI, gT_pI, gK_pI, gL_pI, gR_pI, gI_pI, gJ_pI, gN_gNew, gT_gNew, gK_gNew, gL_gNew, gR_gNew, gI_gNew, gJ_gNew, gN_cpI, gT_cpI, gK_cpI, gL_cpI, gR_cpI, gI_cpI, gJ_cpI, hN0, n3, n4, if_false, ha3]
    have N4 : gN h4 = N + 1 + 1 := by subst e5 e4 e3 e2 e1 e0; simp only [gN_pR, gT_pR, gK_pR, gL_pR, gR_pR, gI_pR, gJ_pR, gN_pI, gT_pI, gK_pI, gL_pI, gR_pI, gI_pI, gJ_pI, gN_gNew, gT_gNew, gK_gNew, gL_gNew, gR_gNew, gI_gNew, gJ_gNew, gN_cpI, gT_cpI, gK_cpI, gL_cpI, gR_cpI, gI_cpI, gJ_cpI, hN0]
    rw [a9, l9, k9]
    refine ⟨fun _ => ⟨ha2, rfl, fun r1 h5 e6 e7 => ⟨Or.inr ?_, ?_, fun h6 e8 => ?_⟩⟩, fun z => absurd t20 z⟩
    · subst e7 e6; simp only [gN_pR, gT_pR, gK_pR, gL_pR, gR_pR, gI_pR, gJ_pR, gN_pI, gT_pI, gK_pI, gL_pI, gR_pI, gI_pI, gJ_pI, gN_gNew, gT_gNew, gK_gNew, gL_gNew, gR_gNew, gI_gNew, gJ_gNew, gN_cpI, gT_cpI, gK_cpI, gL_cpI, gR_cpI, gI_cpI, gJ_cpI, N4, if_true]
    · subst e7 e6 e5 e4 e3 e2 e1 e0
      simp only [gN_pR, gT_pR, gK_pR, gL_pR, gR_pR, gI_pR, gJ_pR, gN_pI, gT_pI, gK_pI, gL_pI, gR_pI, gI_pI, gJ_pI, gN_gNew, gT_gNew, gK_gNew, gL_gNew, gR_gNew, gI_gNew, gJ_gNew, gN_cpI, gT_cpI, gK_cpI, gL_cpI, gR_cpI, gI_cpI, gJ_cpI, hN0, n6, n7, if_true, if_false]
    · rw [N4] at e7 e6
      refine kk h6 ⟨?_, ?_, fun a ha => ?_, fun a ha _ => ⟨?_, ?_, fun j => ?_, fun j => ?_, fun j => ?_⟩⟩ ?_ ?_ ⟨?_, ?_, ?_, ?_, ?_⟩ ⟨?_, ?_, ?_, ?_⟩ ?_ (fun i hi => ⟨?_, ?_⟩)
      all_goals
        subst e8 e7 e6 e5 e4 e3 e2 e1 e0
      all_goals try
        have m1 : a ≠ N := by omega
        have m2 : a ≠ N + 1 := by omega
        have m3 : a ≠ N + 1 + 1 := by omega
      all_goals
        simp only [gN_pR, gT_pR, gK_pR, gL_pR, gR_pR, gI_pR, gJ_pR, gN_pI, gT_pI, gK_pI, gL_pI, gR_pI, gI_pI, gJ_pI, gN_gNew, gT_gNew, gK_gNew, gL_gNew, gR_gNew, gI_gNew, gJ_gNew, gN_cpI, gT_cpI, gK_cpI, gL_cpI, gR_cpI, gI_cpI, gJ_cpI, hN0, *, false_and, and_false, true_and, and_true, if_true, if_false, Nat.zero_le, and_self]
      all_goals try omega
      all_goals try rfl
      all_goals first | (rw [Nat.zero_add, Nat.sub_zero]) | done
end NRC
