/-! RELEASES: their area -/
section REL
variable {d nt nk k t R C : Nat} {h h2 : aH} {A A1 o o1 : Nat → Nat} {X : Nat → aH → Prop} {M M2 : Nat → Nat → Int32} {C9 : Nat → Prop} {x : Int32}
/-- what release k holds: of a table of R rows and C columns -/
def relS (h : aH) (A : Nat → Nat) (M : Nat → Nat → Int32) (k R C : Nat) : Prop := ((1 ≤ R ∧ R ≤ 4) ∧ 1 ≤ C ∧ C ≤ 3) ∧ (M 102 k = nI R ∧ M 103 k = nI C) ∧ gL h (A (bL k + 1)) = R * C ∧ (gI h (A (bL k)) 2 = M 104 k ∧ gI h (A (bL k)) 3 = M 100 k ∧ gI h (A (bL k)) 4 = M 101 k) ∧ ∀ i, i < R * C → gI h (A (bL k + 1)) i = M 105 (12 * k + i)
def relOK (h : aH) (A o : Nat → Nat) (M : Nat → Nat → Int32) (nt k : Nat) : Prop := TL h A o k ∧ ∃ t R C, t < nt ∧ gR h (A (bL k)) 0 = A (bT t) ∧ (M 90 t = nI R ∧ M 91 t = nI C) ∧ relS h A M k R C
def RelA (h : aH) (A o : Nat → Nat) (M : Nat → Nat → Int32) (nt nk : Nat) : Prop := listT h A o 39 10 nk 7 ∧ (M 44 82 = nI nk ∧ nk ≤ 12) ∧ ∀ k, k < nk → relOK h A o M nt k
theorem vL_j {j : Nat} (q : TL h A o k) (hj : j < 2) : ∃ kd, liv h A o (bL k + j) kd := by
  have : ∃ kd ∈ [7, 100], (j, kd) ∈ kL := (show ∀ j : Fin 2, ∃ kd ∈ [7, 100], (j.val, kd) ∈ kL by decide) ⟨j, hj⟩
  obtain ⟨kd, -, hm⟩ := this
  exact ⟨kd, q.1 _ hm⟩
theorem RelA_left {as fs : List Nat} {n q nt1 : Nat} (b : base h o) (S : RelA h A o (gI h) nt nk) (l : left h h2 A A1 o o1 C9 as fs n q) (hc : ¬ C9 10) (hA : ∀ t, t < nt → A1 (bT t) = A (bT t) ∧ gI h2 90 t = gI h 90 t ∧ gI h2 91 t = gI h 91 t) (ht : nt ≤ nt1) (ha : ∀ a ∈ as, ¬ (100 ≤ a ∧ a ≤ 105)) (hf : 82 ∉ fs) : RelA h2 A1 o1 (gI h2) nt1 nk := by
  obtain ⟨l1, l2, ⟨l3, l4, l5⟩, -⟩ := l
  have hcc : ¬ (C9 10 ∨ 10 = 14 ∨ 10 = 15) := by rintro (q | q | q); exact hc q; omega; omega
  have hN := b.1.1
  obtain ⟨f1, ⟨f2, f3⟩, f4⟩ := S
  have m : ∀ a, 100 ≤ a → a ≤ 105 → gI h2 a = gI h a := fun a h1 h2 => l3 a (by omega) (by omega) (fun w => ha a w ⟨h1, h2⟩)
  refine ⟨list_fr l2 hcc (by omega) (by omega) f1, ⟨by rw [l4 82 (by decide) hf]; exact f2, f3⟩, fun k hk => ?_⟩
  obtain ⟨T, t, R, C, h1, h3, ⟨h4, h5⟩, s1, s2, s3, ⟨s4, s5, s6⟩, s7⟩ := f4 k hk
  have i0 := iL_fr l2 hcc (by omega) (show 0 < 100 by decide) (vL_0 T)
  have i1 := iL_fr l2 hcc (by omega) (show 1 < 100 by decide) (vL_1 T)
  have i00 : gI h2 (A1 (bL k)) = gI h (A (bL k)) := i0.1
  have r00 : gR h2 (A1 (bL k)) = gR h (A (bL k)) := i0.2.2.1
  obtain ⟨e1, e2, e3⟩ := hA t h1
  refine ⟨TL_fr l2 hcc (by omega) T, t, R, C, by omega, by rw [r00, e1]; exact h3, ⟨by rw [e2]; exact h4, by rw [e3]; exact h5⟩, s1, ?_, by rw [i1.2.2.2]; exact s3, ?_, fun i hi => ?_⟩
  · rw [m 102 (by decide) (by decide), m 103 (by decide) (by decide)]; exact s2
  · rw [i00, m 100 (by decide) (by decide), m 101 (by decide) (by decide), m 104 (by decide) (by decide)]; exact ⟨s4, s5, s6⟩
  · rw [i1.1, m 105 (by decide) (by decide)]; exact s7 i hi
/-- work outside the tables -/
theorem RelA_out {as fs : List Nat} {n q : Nat} (b : base h o) (S : RelA h A o (gI h) nt nk) (n12 : nt ≤ 12) (l : left h h2 A A1 o o1 C9 as fs n q) (hc : ¬ C9 10) (hc9 : ¬ C9 9) (ha : ∀ a ∈ as, ¬ (90 ≤ a ∧ a ≤ 105)) (hf : 82 ∉ fs) : RelA h2 A1 o1 (gI h2) nt nk := by
  refine RelA_left b S l hc (fun t ht => ⟨l.2.1.2.2 _ (by unfold bT; rw [show (9001000 + 100 * t) / 1000000 = 9 by omega]; rintro (q | q | q); exact hc9 q; omega; omega), ?_, ?_⟩) (Nat.le_refl _) (fun a h1 h2 => ha a h1 ⟨by omega, h2.2⟩) hf
  · rw [l.2.2.1.1 90 (by decide) (by decide) (fun w => ha 90 w ⟨by decide, by decide⟩)]
  · rw [l.2.2.1.1 91 (by decide) (by decide) (fun w => ha 91 w ⟨by decide, by decide⟩)]
end REL
