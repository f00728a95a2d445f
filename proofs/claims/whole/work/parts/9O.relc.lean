/-! RELEASES: the class makes one -/
section RLC
variable {d N : Nat} {h : aH} {X : Nat → aH → Prop} {pe mi : Int32}
theorem c_newRel {K : aH → Prop} {r0 tb pu : Nat} (hr : r0 < gN h ∧ 8 ≤ r0 ∧ gK h r0 = 7) (ht : gK h tb = 11 ∧ tb < gN h) (hp : 8 ≤ pu ∧ pu < gN h ∧ gK h pu = 100 ∧ gL h pu = N ∧ gR h tb 10 = pu) (h6 : gI h tb 6 = nI N) (hN : N ≤ 12)
    (kk : ∀ h5, keeps h h5 (fun q => q = r0) → gN h5 = gN h + 1 → gT h5 = gT h + N → (gK h5 (gN h) = 100 ∧ gL h5 (gN h) = N ∧ ∀ i, i < N → gI h5 (gN h) i = gI h pu i) → (gR h5 r0 0 = tb ∧ gR h5 r0 1 = gN h) → (gI h5 r0 2 = gI h tb 13 ∧ gI h5 r0 3 = pe ∧ gI h5 r0 4 = mi) → K h5) : CV (d + 2) 313 [vR r0, vR tb, vI pe, vI mi] h K X := by
  obtain ⟨r1, r2, r3⟩ := hr
  obtain ⟨t1, t2⟩ := ht
  obtain ⟨p1, p2, p3, p4, p5⟩ := hp
  have n1 : tb ≠ r0 := fun e => by rw [e, r3] at t1; cases t1
  have n2 : pu ≠ r0 := fun e => by rw [e, r3] at p3; cases p3
  have n3 : gN h ≠ r0 := by omega
  have n4 : r0 ≠ gN h := by omega
  refine m313 ⟨r2, r3, fun h0 e0 => ?_⟩
  have k0 : keeps h h0 (fun q => q = r0) := by rw [e0]; exact ⟨by simp only [gN_pR, gT_pR, gK_pR, gL_pR, gR_pR, gI_pR, gJ_pR, gN_gNew, gT_gNew, gK_gNew, gL_gNew, gR_gNew, gI_gNew, gJ_gNew]; omega, by simp only [gN_pR, gT_pR, gK_pR, gL_pR, gR_pR, gI_pR, gJ_pR, gN_gNew, gT_gNew, gK_gNew, gL_gNew, gR_gNew, gI_gNew, gJ_gNew]; omega, fun a _ => by simp only [gN_pR, gT_pR, gK_pR, gL_pR, gR_pR, gI_pR, gJ_pR, gN_gNew, gT_gNew, gK_gNew, gL_gNew, gR_gNew, gI_gNew, gJ_gNew]; exact ⟨trivial, trivial⟩, fun a _ ha => ⟨by simp only [gN_pR, gT_pR, gK_pR, gL_pR, gR_pR, gI_pR, gJ_pR, gN_gNew, gT_gNew, gK_gNew, gL_gNew, gR_gNew, gI_gNew, gJ_gNew], by simp only [gN_pR, gT_pR, gK_pR, gL_pR, gR_pR, gI_pR, gJ_pR, gN_gNew, gT_gNew, gK_gNew, gL_gNew, gR_gNew, gI_gNew, gJ_gNew], fun j => by simp only [gN_pR, gT_pR, gK_pR, gL_pR, gR_pR, gI_pR, gJ_pR, gN_gNew, gT_gNew, gK_gNew, gL_gNew, gR_gNew, gI_gNew, gJ_gNew], fun j => by simp only [gN_pR, gT_pR, gK_pR, gL_pR, gR_pR, gI_pR, gJ_pR, gN_gNew, gT_gNew, gK_gNew, gL_gNew, gR_gNew, gI_gNew, gJ_gNew], fun j => by simp only [gN_pR, gT_pR, gK_pR, gL_pR, gR_pR, gI_pR, gJ_pR, gN_gNew, gT_gNew, gK_gNew, gL_gNew, gR_gNew, gI_gNew, gJ_gNew, show a ≠ r0 from ha, false_and, if_false]⟩⟩
  have g0 : gN h0 = gN h ∧ gT h0 = gT h := by rw [e0]; simp only [gN_pR, gT_pR, gK_pR, gL_pR, gR_pR, gI_pR, gJ_pR, gN_gNew, gT_gNew, gK_gNew, gL_gNew, gR_gNew, gI_gNew, gJ_gNew]; exact ⟨trivial, trivial⟩
  have st := k0.2.2.2 tb t2 n1
  have sp := k0.2.2.2 pu p2 n2
  have R0 : gR h0 r0 0 = tb := by rw [e0]; simp only [gN_pR, gT_pR, gK_pR, gL_pR, gR_pR, gI_pR, gJ_pR, gN_gNew, gT_gNew, gK_gNew, gL_gNew, gR_gNew, gI_gNew, gJ_gNew, and_self, if_true]
  refine ⟨by rw [st.1]; exact t1, ?_⟩
  rw [st.2.2.2.2, p5, st.2.2.1, h6]
  refine c_copyOf (n := N) ⟨p1, by rw [g0.1]; exact p2, by rw [sp.1]; exact p3, by rw [sp.2.1]; exact p4⟩ (Nat.le_refl _) (by omega) (fun h2 k2 g2 t2' w2 v2 => ?_)
  have s0 := k2.2.2.2 r0 (by omega) (fun w => w)
  have sb := k2.2.2.2 tb (by omega) (fun w => w)
  have r0k : gK h0 r0 = 7 := by rw [e0]; simp only [gN_pR, gT_pR, gK_pR, gL_pR, gR_pR, gI_pR, gJ_pR, gN_gNew, gT_gNew, gK_gNew, gL_gNew, gR_gNew, gI_gNew, gJ_gNew]; exact r3
  refine ⟨by rw [s0.1]; exact r0k, fun g1 y1 => ⟨by subst y1; simp only [gN_pR, gT_pR, gK_pR, gL_pR, gR_pR, gI_pR, gJ_pR, gN_gNew, gT_gNew, gK_gNew, gL_gNew, gR_gNew, gI_gNew, gJ_gNew]; rw [sb.1, st.1]; exact t1, fun g3 y3 g4 y4 g5 y5 => ?_⟩⟩
  rw [g0.1] at g2 w2 v2 y1
  rw [g0.2] at t2'
  have i13 : gI g1 tb 13 = gI h tb 13 := by subst y1; simp only [gN_pR, gT_pR, gK_pR, gL_pR, gR_pR, gI_pR, gJ_pR, gN_gNew, gT_gNew, gK_gNew, gL_gNew, gR_gNew, gI_gNew, gJ_gNew]; rw [sb.2.2.1, st.2.2.1]
  rw [i13] at y3
  refine kk g5 ⟨?_, ?_, fun a ha => ?_, fun a ha hq => ?_⟩ ?_ ?_ ⟨?_, ?_, fun i hi => ?_⟩ ⟨?_, ?_⟩ ⟨?_, ?_, ?_⟩
  · subst y5 y4 y3 y1; simp only [gN_pR, gT_pR, gK_pR, gL_pR, gR_pR, gI_pR, gJ_pR, gN_gNew, gT_gNew, gK_gNew, gL_gNew, gR_gNew, gI_gNew, gJ_gNew, gN_pI, gT_pI, gK_pI, gL_pI, gR_pI, gI_pI, gJ_pI]; omega
  · subst y5 y4 y3 y1; simp only [gN_pR, gT_pR, gK_pR, gL_pR, gR_pR, gI_pR, gJ_pR, gN_gNew, gT_gNew, gK_gNew, gL_gNew, gR_gNew, gI_gNew, gJ_gNew, gN_pI, gT_pI, gK_pI, gL_pI, gR_pI, gI_pI, gJ_pI]; omega
  · have q := k2.2.2.1 a (by omega)
    have q0 := k0.2.2.1 a ha
    subst y5 y4 y3 y1; simp only [gN_pR, gT_pR, gK_pR, gL_pR, gR_pR, gI_pR, gJ_pR, gN_gNew, gT_gNew, gK_gNew, gL_gNew, gR_gNew, gI_gNew, gJ_gNew, gN_pI, gT_pI, gK_pI, gL_pI, gR_pI, gI_pI, gJ_pI]
    exact ⟨q.1.trans q0.1, q.2.trans q0.2⟩
  · have q := k2.2.2.2 a (by omega) (fun w => w)
    have q0 := k0.2.2.2 a ha hq
    have na : a ≠ r0 := hq
    subst y5 y4 y3 y1
    refine ⟨?_, ?_, fun j => ?_, fun j => ?_, fun j => ?_⟩
    · simp only [gN_pR, gT_pR, gK_pR, gL_pR, gR_pR, gI_pR, gJ_pR, gN_gNew, gT_gNew, gK_gNew, gL_gNew, gR_gNew, gI_gNew, gJ_gNew, gN_pI, gT_pI, gK_pI, gL_pI, gR_pI, gI_pI, gJ_pI]; exact q.1.trans q0.1
    · simp only [gN_pR, gT_pR, gK_pR, gL_pR, gR_pR, gI_pR, gJ_pR, gN_gNew, gT_gNew, gK_gNew, gL_gNew, gR_gNew, gI_gNew, gJ_gNew, gN_pI, gT_pI, gK_pI, gL_pI, gR_pI, gI_pI, gJ_pI]; exact q.2.1.trans q0.2.1
    · simp only [gN_pR, gT_pR, gK_pR, gL_pR, gR_pR, gI_pR, gJ_pR, gN_gNew, gT_gNew, gK_gNew, gL_gNew, gR_gNew, gI_gNew, gJ_gNew, gN_pI, gT_pI, gK_pI, gL_pI, gR_pI, gI_pI, gJ_pI, na, false_and, if_false]; exact (q.2.2.1 j).trans (q0.2.2.1 j)
    · simp only [gN_pR, gT_pR, gK_pR, gL_pR, gR_pR, gI_pR, gJ_pR, gN_gNew, gT_gNew, gK_gNew, gL_gNew, gR_gNew, gI_gNew, gJ_gNew, gN_pI, gT_pI, gK_pI, gL_pI, gR_pI, gI_pI, gJ_pI]; exact (q.2.2.2.1 j).trans (q0.2.2.2.1 j)
    · simp only [gN_pR, gT_pR, gK_pR, gL_pR, gR_pR, gI_pR, gJ_pR, gN_gNew, gT_gNew, gK_gNew, gL_gNew, gR_gNew, gI_gNew, gJ_gNew, gN_pI, gT_pI, gK_pI, gL_pI, gR_pI, gI_pI, gJ_pI, na, false_and, if_false]; exact (q.2.2.2.2 j).trans (q0.2.2.2.2 j)
  · subst y5 y4 y3 y1; simp only [gN_pR, gT_pR, gK_pR, gL_pR, gR_pR, gI_pR, gJ_pR, gN_gNew, gT_gNew, gK_gNew, gL_gNew, gR_gNew, gI_gNew, gJ_gNew, gN_pI, gT_pI, gK_pI, gL_pI, gR_pI, gI_pI, gJ_pI]; exact g2
  · subst y5 y4 y3 y1; simp only [gN_pR, gT_pR, gK_pR, gL_pR, gR_pR, gI_pR, gJ_pR, gN_gNew, gT_gNew, gK_gNew, gL_gNew, gR_gNew, gI_gNew, gJ_gNew, gN_pI, gT_pI, gK_pI, gL_pI, gR_pI, gI_pI, gJ_pI]; exact t2'
  · subst y5 y4 y3 y1; simp only [gN_pR, gT_pR, gK_pR, gL_pR, gR_pR, gI_pR, gJ_pR, gN_gNew, gT_gNew, gK_gNew, gL_gNew, gR_gNew, gI_gNew, gJ_gNew, gN_pI, gT_pI, gK_pI, gL_pI, gR_pI, gI_pI, gJ_pI]; exact w2.1
  · subst y5 y4 y3 y1; simp only [gN_pR, gT_pR, gK_pR, gL_pR, gR_pR, gI_pR, gJ_pR, gN_gNew, gT_gNew, gK_gNew, gL_gNew, gR_gNew, gI_gNew, gJ_gNew, gN_pI, gT_pI, gK_pI, gL_pI, gR_pI, gI_pI, gJ_pI]; exact w2.2
  · subst y5 y4 y3 y1; simp only [gN_pR, gT_pR, gK_pR, gL_pR, gR_pR, gI_pR, gJ_pR, gN_gNew, gT_gNew, gK_gNew, gL_gNew, gR_gNew, gI_gNew, gJ_gNew, gN_pI, gT_pI, gK_pI, gL_pI, gR_pI, gI_pI, gJ_pI, n3, false_and, if_false]; rw [v2 i hi]; exact sp.2.2.1 i
  · subst y5 y4 y3 y1; simp only [gN_pR, gT_pR, gK_pR, gL_pR, gR_pR, gI_pR, gJ_pR, gN_gNew, gT_gNew, gK_gNew, gL_gNew, gR_gNew, gI_gNew, gJ_gNew, gN_pI, gT_pI, gK_pI, gL_pI, gR_pI, gI_pI, gJ_pI, Nat.reduceEqDiff, and_false, if_false]; rw [s0.2.2.2.2]; exact R0
  · subst y5 y4 y3 y1; simp only [gN_pR, gT_pR, gK_pR, gL_pR, gR_pR, gI_pR, gJ_pR, gN_gNew, gT_gNew, gK_gNew, gL_gNew, gR_gNew, gI_gNew, gJ_gNew, gN_pI, gT_pI, gK_pI, gL_pI, gR_pI, gI_pI, gJ_pI, and_self, if_true]
  · subst y5 y4 y3 y1; simp only [gN_pR, gT_pR, gK_pR, gL_pR, gR_pR, gI_pR, gJ_pR, gN_gNew, gT_gNew, gK_gNew, gL_gNew, gR_gNew, gI_gNew, gJ_gNew, gN_pI, gT_pI, gK_pI, gL_pI, gR_pI, gI_pI, gJ_pI, and_self, if_true, Nat.reduceEqDiff, and_false, if_false]
  · subst y5 y4 y3 y1; simp only [gN_pR, gT_pR, gK_pR, gL_pR, gR_pR, gI_pR, gJ_pR, gN_gNew, gT_gNew, gK_gNew, gL_gNew, gR_gNew, gI_gNew, gJ_gNew, gN_pI, gT_pI, gK_pI, gL_pI, gR_pI, gI_pI, gJ_pI, and_self, if_true, Nat.reduceEqDiff, and_false, if_false]
  · subst y5 y4 y3 y1; simp only [gN_pR, gT_pR, gK_pR, gL_pR, gR_pR, gI_pR, gJ_pR, gN_gNew, gT_gNew, gK_gNew, gL_gNew, gR_gNew, gI_gNew, gJ_gNew, gN_pI, gT_pI, gK_pI, gL_pI, gR_pI, gI_pI, gJ_pI, and_self, if_true]
end RLC
