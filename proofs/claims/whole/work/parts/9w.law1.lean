/-! THE LAW: what holds between two calls -/
section LW1
variable {U T L nf nf2 ns nr nm nt np nk nl n : Nat} {h h2 : aH} {A A1 o o1 : Nat → Nat} {C : Nat → Prop} {E E1 : Nat → Nat → List Tm} {Cn Cn1 : Nat → Nat → List Cmp} {as fs : List Nat} {m q : Nat}
def LawI (n : Nat) (h : aH) : Prop := ∃ (A o : Nat → Nat) (E : Nat → Nat → List Tm) (Cn : Nat → Nat → List Cmp) (U T L nf ns nr nm nt np nk nl : Nat), (base h o ∧ RegA h A o (gI h) U T ∧ MinA h (gI h) ∧ TapeA h (gI h) L) ∧ (FormA h A o (gI h) E Cn nf ∧ ThA (gI h) nf) ∧ (SessA h A o (gI h) E Cn nf ns U ∧ RecA h A o (gI h) nf ns nr ∧ nr = clC (gI h) ns) ∧ (SamA h A o (gI h) U nm ∧ TabA h A o (gI h) nt ∧ PerA h A o (gI h) np ∧ RelA h A o (gI h) nt nk ∧ LookA h A o (gI h) nl) ∧ (T ≤ n ∧ nl ≤ n) ∧ gN h ≤ 108 + 13 * n ∧ gT h ≤ 100000 + 6200 * n
theorem Pr_mono {nc nm : Nat} {args : List aV} {exs : List Nat} {P Q : aH → Prop} (p : Pr nc nm args exs h P) (k : ∀ h2, P h2 → Q h2) : Pr nc nm args exs h Q := by
  obtain ⟨c, y, Mid, p1, p2, p3⟩ := p
  exact ⟨c, y, Mid, p1, p2, fun h1 J1 m j K X kk => p3 h1 J1 m j K X (fun h2 b e1 e2 e3 e4 => kk h2 b e1 e2 e3 (k h2 e4))⟩
theorem clC_e70 {M M2 : Nat → Nat → Int32} (e : M2 70 = M 70) : ∀ n, clC M2 n = clC M n := by
  intro n
  induction n with
  | zero => rfl
  | succ n ih => rw [clC, clC, ih, e]
theorem cl_left (l : left h h2 A A1 o o1 C as fs m q) (hcl : nr = clC (gI h) ns) (ha : 70 ∉ as) : nr = clC (gI h2) ns := by
  rw [hcl]; exact (clC_e70 (l.2.2.1.1 70 (by decide) (by decide) ha) ns).symm
/-- forms' cells change, their places don't -/
theorem SessA_F (b : base h o) (S : SessA h A o (gI h) E Cn nf ns U) (l : left h h2 A A1 o o1 C as fs m q) (hc : ¬ C 6) (hF : ∀ f, f < nf → A1 (bF f) = A (bF f)) (ha : ∀ a ∈ as, ¬ (67 ≤ a ∧ a ≤ 77) ∧ a ≠ 53 ∧ a ≠ 54 ∧ a ≠ 56 ∧ a ≠ 57) (hf : 38 ∉ fs) : SessA h2 A1 o1 (gI h2) E Cn nf ns U := by
  obtain ⟨l1, l2, ⟨l3, l4, l5⟩, -⟩ := l
  refine SessA_fr b S l2 (by rintro (q | q | q); exact hc q; omega; omega) hF (Nat.le_refl _) (Nat.le_refl _) (fun f hf => fV_of fun a q => l3 a (by omega) (by omega) (fun w => ?_)) (fun k hk => sV_of fun a h1 h2 => l3 a (by omega) (by omega) (fun q => (ha a q).1 ⟨h1, h2⟩)) (l4 38 (by decide) hf)
  have := ha a w; omega
theorem RecA_F (b : base h o) (F : FormA h A o (gI h) E Cn nf) (R : RecA h A o (gI h) nf ns nr) (l : left h h2 A A1 o o1 C as fs m q) (hc : ¬ C 7) (hF : ∀ f, f < nf → A1 (bF f) = A (bF f)) (hS : ∀ k, k < ns → A1 (bS k + 1) = A (bS k + 1)) (ha : ∀ a ∈ as, a ≠ 53 ∧ a ≠ 54 ∧ a ≠ 56 ∧ a ≠ 57 ∧ a ≠ 67 ∧ a ≠ 68 ∧ a ≠ 78 ∧ a ≠ 79 ∧ a ≠ 80) (hf : 53 ∉ fs) : RecA h2 A1 o1 (gI h2) nf ns nr := by
  obtain ⟨l1, l2, ⟨l3, l4, l5⟩, -⟩ := l
  have m := fun a (h1 : 44 < a) (h2 : a < 107) (h3 : a = 53 ∨ a = 54 ∨ a = 56 ∨ a = 57 ∨ a = 67 ∨ a = 68 ∨ a = 78 ∨ a = 79 ∨ a = 80) => l3 a h1 h2 (fun w => by have := ha a w; omega)
  exact RecA_fr b R l2 (by rintro (q | q | q); exact hc q; omega; omega) hF hS (Nat.le_refl _) (Nat.le_refl _) (fun f hf => ⟨fV_of fun a q => m a (by omega) (by omega) (by omega), (cn_of F f hf).2⟩) (fun k hk => by rw [m 67 (by omega) (by omega) (by omega), m 68 (by omega) (by omega) (by omega)]; exact ⟨rfl, rfl⟩) ⟨m 78 (by omega) (by omega) (by omega), m 79 (by omega) (by omega) (by omega), m 80 (by omega) (by omega) (by omega)⟩ (l4 53 (by decide) hf)
theorem lbS (l : left h h2 A A1 o o1 C as fs m q) (hc : ¬ C 6) (h60 : ns ≤ 60) : ∀ k, k < ns → A1 (bS k + 1) = A (bS k + 1) := fun k hk => l.2.1.2.2 _ (by unfold bS; rw [show (6001000 + 100 * k + 1) / 1000000 = 6 by omega]; rintro (q | q | q); exact hc q; omega; omega)
/-- a form more -/
theorem SessA_E (S : SessA h A o (gI h) E Cn nf ns U) (hE : ∀ f, f < nf → E1 f = E f ∧ Cn1 f = Cn f) : SessA h A o (gI h) E1 Cn1 nf ns U := by
  obtain ⟨s1, s2, s3, s4⟩ := S
  refine ⟨s1, s2, fun k hk => ?_, s4⟩
  obtain ⟨t1, t2, t3, t4, t5, t6⟩ := s3 k hk
  refine ⟨t1, t2, t3, t4, t5, ?_⟩
  rw [(hE _ t2.2).1, (hE _ t2.2).2]; exact t6
theorem SessA_frm (b : base h o) (S : SessA h A o (gI h) E Cn nf ns U) (l : left h h2 A A1 o o1 C as fs m q) (hc : ¬ C 6) (hn : nf ≤ nf2) (hF : ∀ f, f < nf → A1 (bF f) = A (bF f) ∧ E1 f = E f ∧ Cn1 f = Cn f ∧ fV (gI h) (gI h2) f) (ha : ∀ a ∈ as, ¬ (67 ≤ a ∧ a ≤ 77)) (hf : 38 ∉ fs) : SessA h2 A1 o1 (gI h2) E1 Cn1 nf2 ns U := by
  obtain ⟨l1, l2, ⟨l3, l4, l5⟩, -⟩ := l
  have S1 := SessA_E (E1 := E1) (Cn1 := Cn1) S (fun f hf => ⟨(hF f hf).2.1, (hF f hf).2.2.1⟩)
  exact SessA_fr b S1 l2 (by rintro (q | q | q); exact hc q; omega; omega) (fun f hf => (hF f hf).1) hn (Nat.le_refl _) (fun f hf => (hF f hf).2.2.2) (fun k hk => sV_of fun a h1 h2 => l3 a (by omega) (by omega) (fun q => (ha a q) ⟨h1, h2⟩)) (l4 38 (by decide) hf)
theorem RecA_frm (b : base h o) (F : FormA h A o (gI h) E Cn nf) (R : RecA h A o (gI h) nf ns nr) (l : left h h2 A A1 o o1 C as fs m q) (hc : ¬ C 7) (hc6 : ¬ C 6) (h60 : ns ≤ 60) (hn : nf ≤ nf2) (hF : ∀ f, f < nf → A1 (bF f) = A (bF f) ∧ E1 f = E f ∧ Cn1 f = Cn f ∧ fV (gI h) (gI h2) f) (ha : ∀ a ∈ as, a ≠ 67 ∧ a ≠ 68 ∧ a ≠ 78 ∧ a ≠ 79 ∧ a ≠ 80) (hf : 53 ∉ fs) : RecA h2 A1 o1 (gI h2) nf2 ns nr := by
  have lb := lbS l hc6 h60
  obtain ⟨l1, l2, ⟨l3, l4, l5⟩, -⟩ := l
  have m := fun a (h1 : 44 < a) (h2 : a < 107) (h3 : a = 67 ∨ a = 68 ∨ a = 78 ∨ a = 79 ∨ a = 80) => l3 a h1 h2 (fun w => by have := ha a w; omega)
  exact RecA_fr b R l2 (by rintro (q | q | q); exact hc q; omega; omega) (fun f hf => (hF f hf).1) lb hn (Nat.le_refl _) (fun f hf => ⟨(hF f hf).2.2.2, (cn_of F f hf).2⟩) (fun k hk => by rw [m 67 (by omega) (by omega) (by omega), m 68 (by omega) (by omega) (by omega)]; exact ⟨rfl, rfl⟩) ⟨m 78 (by omega) (by omega) (by omega), m 79 (by omega) (by omega) (by omega), m 80 (by omega) (by omega) (by omega)⟩ (l4 53 (by decide) hf)
end LW1
