/-! THE OBJECTS: forms, sessions, records, samples, tables, releases (written by wip/tools/gen31.py) -/
section OBJ
variable {h h1 : aH} {A A1 o o1 : Nat → Nat} {C : Nat → Prop} {k : Nat}
/-- form k -/
def bF (k : Nat) : Nat := 5001000 + 100 * k
def kF : List (Nat × Nat) := [(0, 3), (1, 100), (2, 100), (3, 100), (4, 100), (5, 100), (6, 100), (7, 101), (8, 100), (9, 100), (10, 8), (11, 100)]
def lF : List (Nat × Nat) := [(3, 20), (4, 20), (5, 20), (6, 20), (7, 20), (8, 21), (9, 20)]
def rF : List (Nat × Nat × Nat) := [(0, 0, 1), (0, 1, 2), (0, 2, 3), (0, 3, 4), (0, 4, 5), (0, 5, 6), (0, 6, 7), (0, 7, 8), (0, 8, 9), (0, 9, 10), (10, 2, 11)]
def TF (h : aH) (A o : Nat → Nat) (k : Nat) : Prop := objT h A o (bF k) kF lF rF
theorem vF_0 (t : TF h A o k) : liv h A o (bF k) 3 := t.1 (0, 3) (by decide)
theorem kF_0 (t : TF h A o k) : gK h (A (bF k)) = 3 := (vF_0 t).2.2.2
theorem eF_0 (t : TF h A o k) : 8 ≤ A (bF k) := (vF_0 t).2.1
theorem nF_0 (t : TF h A o k) : A (bF k) < gN h := (vF_0 t).2.2.1
theorem oF_0 (t : TF h A o k) : o (A (bF k)) = bF k := (vF_0 t).1
theorem vF_1 (t : TF h A o k) : liv h A o (bF k + 1) 100 := t.1 (1, 100) (by decide)
theorem kF_1 (t : TF h A o k) : gK h (A (bF k + 1)) = 100 := (vF_1 t).2.2.2
theorem eF_1 (t : TF h A o k) : 8 ≤ A (bF k + 1) := (vF_1 t).2.1
theorem nF_1 (t : TF h A o k) : A (bF k + 1) < gN h := (vF_1 t).2.2.1
theorem oF_1 (t : TF h A o k) : o (A (bF k + 1)) = bF k + 1 := (vF_1 t).1
theorem vF_2 (t : TF h A o k) : liv h A o (bF k + 2) 100 := t.1 (2, 100) (by decide)
theorem kF_2 (t : TF h A o k) : gK h (A (bF k + 2)) = 100 := (vF_2 t).2.2.2
theorem eF_2 (t : TF h A o k) : 8 ≤ A (bF k + 2) := (vF_2 t).2.1
theorem nF_2 (t : TF h A o k) : A (bF k + 2) < gN h := (vF_2 t).2.2.1
theorem oF_2 (t : TF h A o k) : o (A (bF k + 2)) = bF k + 2 := (vF_2 t).1
theorem vF_3 (t : TF h A o k) : liv h A o (bF k + 3) 100 := t.1 (3, 100) (by decide)
theorem kF_3 (t : TF h A o k) : gK h (A (bF k + 3)) = 100 := (vF_3 t).2.2.2
theorem eF_3 (t : TF h A o k) : 8 ≤ A (bF k + 3) := (vF_3 t).2.1
theorem nF_3 (t : TF h A o k) : A (bF k + 3) < gN h := (vF_3 t).2.2.1
theorem oF_3 (t : TF h A o k) : o (A (bF k + 3)) = bF k + 3 := (vF_3 t).1
theorem vF_4 (t : TF h A o k) : liv h A o (bF k + 4) 100 := t.1 (4, 100) (by decide)
theorem kF_4 (t : TF h A o k) : gK h (A (bF k + 4)) = 100 := (vF_4 t).2.2.2
theorem eF_4 (t : TF h A o k) : 8 ≤ A (bF k + 4) := (vF_4 t).2.1
theorem nF_4 (t : TF h A o k) : A (bF k + 4) < gN h := (vF_4 t).2.2.1
theorem oF_4 (t : TF h A o k) : o (A (bF k + 4)) = bF k + 4 := (vF_4 t).1
theorem vF_5 (t : TF h A o k) : liv h A o (bF k + 5) 100 := t.1 (5, 100) (by decide)
theorem kF_5 (t : TF h A o k) : gK h (A (bF k + 5)) = 100 := (vF_5 t).2.2.2
theorem eF_5 (t : TF h A o k) : 8 ≤ A (bF k + 5) := (vF_5 t).2.1
theorem nF_5 (t : TF h A o k) : A (bF k + 5) < gN h := (vF_5 t).2.2.1
theorem oF_5 (t : TF h A o k) : o (A (bF k + 5)) = bF k + 5 := (vF_5 t).1
theorem vF_6 (t : TF h A o k) : liv h A o (bF k + 6) 100 := t.1 (6, 100) (by decide)
theorem kF_6 (t : TF h A o k) : gK h (A (bF k + 6)) = 100 := (vF_6 t).2.2.2
theorem eF_6 (t : TF h A o k) : 8 ≤ A (bF k + 6) := (vF_6 t).2.1
theorem nF_6 (t : TF h A o k) : A (bF k + 6) < gN h := (vF_6 t).2.2.1
theorem oF_6 (t : TF h A o k) : o (A (bF k + 6)) = bF k + 6 := (vF_6 t).1
theorem vF_7 (t : TF h A o k) : liv h A o (bF k + 7) 101 := t.1 (7, 101) (by decide)
theorem kF_7 (t : TF h A o k) : gK h (A (bF k + 7)) = 101 := (vF_7 t).2.2.2
theorem eF_7 (t : TF h A o k) : 8 ≤ A (bF k + 7) := (vF_7 t).2.1
theorem nF_7 (t : TF h A o k) : A (bF k + 7) < gN h := (vF_7 t).2.2.1
theorem oF_7 (t : TF h A o k) : o (A (bF k + 7)) = bF k + 7 := (vF_7 t).1
theorem vF_8 (t : TF h A o k) : liv h A o (bF k + 8) 100 := t.1 (8, 100) (by decide)
theorem kF_8 (t : TF h A o k) : gK h (A (bF k + 8)) = 100 := (vF_8 t).2.2.2
theorem eF_8 (t : TF h A o k) : 8 ≤ A (bF k + 8) := (vF_8 t).2.1
theorem nF_8 (t : TF h A o k) : A (bF k + 8) < gN h := (vF_8 t).2.2.1
theorem oF_8 (t : TF h A o k) : o (A (bF k + 8)) = bF k + 8 := (vF_8 t).1
theorem vF_9 (t : TF h A o k) : liv h A o (bF k + 9) 100 := t.1 (9, 100) (by decide)
theorem kF_9 (t : TF h A o k) : gK h (A (bF k + 9)) = 100 := (vF_9 t).2.2.2
theorem eF_9 (t : TF h A o k) : 8 ≤ A (bF k + 9) := (vF_9 t).2.1
theorem nF_9 (t : TF h A o k) : A (bF k + 9) < gN h := (vF_9 t).2.2.1
theorem oF_9 (t : TF h A o k) : o (A (bF k + 9)) = bF k + 9 := (vF_9 t).1
theorem vF_10 (t : TF h A o k) : liv h A o (bF k + 10) 8 := t.1 (10, 8) (by decide)
theorem kF_10 (t : TF h A o k) : gK h (A (bF k + 10)) = 8 := (vF_10 t).2.2.2
theorem eF_10 (t : TF h A o k) : 8 ≤ A (bF k + 10) := (vF_10 t).2.1
theorem nF_10 (t : TF h A o k) : A (bF k + 10) < gN h := (vF_10 t).2.2.1
theorem oF_10 (t : TF h A o k) : o (A (bF k + 10)) = bF k + 10 := (vF_10 t).1
theorem vF_11 (t : TF h A o k) : liv h A o (bF k + 11) 100 := t.1 (11, 100) (by decide)
theorem kF_11 (t : TF h A o k) : gK h (A (bF k + 11)) = 100 := (vF_11 t).2.2.2
theorem eF_11 (t : TF h A o k) : 8 ≤ A (bF k + 11) := (vF_11 t).2.1
theorem nF_11 (t : TF h A o k) : A (bF k + 11) < gN h := (vF_11 t).2.2.1
theorem oF_11 (t : TF h A o k) : o (A (bF k + 11)) = bF k + 11 := (vF_11 t).1
theorem lF_3 (t : TF h A o k) : gL h (A (bF k + 3)) = 20 := t.2.1 (3, 20) (by decide)
theorem lF_4 (t : TF h A o k) : gL h (A (bF k + 4)) = 20 := t.2.1 (4, 20) (by decide)
theorem lF_5 (t : TF h A o k) : gL h (A (bF k + 5)) = 20 := t.2.1 (5, 20) (by decide)
theorem lF_6 (t : TF h A o k) : gL h (A (bF k + 6)) = 20 := t.2.1 (6, 20) (by decide)
theorem lF_7 (t : TF h A o k) : gL h (A (bF k + 7)) = 20 := t.2.1 (7, 20) (by decide)
theorem lF_8 (t : TF h A o k) : gL h (A (bF k + 8)) = 21 := t.2.1 (8, 21) (by decide)
theorem lF_9 (t : TF h A o k) : gL h (A (bF k + 9)) = 20 := t.2.1 (9, 20) (by decide)
theorem rF_0_0 (t : TF h A o k) : gR h (A (bF k)) 0 = A (bF k + 1) := t.2.2 (0, 0, 1) (by decide)
theorem rF_0_1 (t : TF h A o k) : gR h (A (bF k)) 1 = A (bF k + 2) := t.2.2 (0, 1, 2) (by decide)
theorem rF_0_2 (t : TF h A o k) : gR h (A (bF k)) 2 = A (bF k + 3) := t.2.2 (0, 2, 3) (by decide)
theorem rF_0_3 (t : TF h A o k) : gR h (A (bF k)) 3 = A (bF k + 4) := t.2.2 (0, 3, 4) (by decide)
theorem rF_0_4 (t : TF h A o k) : gR h (A (bF k)) 4 = A (bF k + 5) := t.2.2 (0, 4, 5) (by decide)
theorem rF_0_5 (t : TF h A o k) : gR h (A (bF k)) 5 = A (bF k + 6) := t.2.2 (0, 5, 6) (by decide)
theorem rF_0_6 (t : TF h A o k) : gR h (A (bF k)) 6 = A (bF k + 7) := t.2.2 (0, 6, 7) (by decide)
theorem rF_0_7 (t : TF h A o k) : gR h (A (bF k)) 7 = A (bF k + 8) := t.2.2 (0, 7, 8) (by decide)
theorem rF_0_8 (t : TF h A o k) : gR h (A (bF k)) 8 = A (bF k + 9) := t.2.2 (0, 8, 9) (by decide)
theorem rF_0_9 (t : TF h A o k) : gR h (A (bF k)) 9 = A (bF k + 10) := t.2.2 (0, 9, 10) (by decide)
theorem rF_10_2 (t : TF h A o k) : gR h (A (bF k + 10)) 2 = A (bF k + 11) := t.2.2 (10, 2, 11) (by decide)
theorem TF_fr (f : fr h h1 A A1 o o1 C) (hc : ¬ C 5) (hk : k ≤ 60) (t : TF h A o k) : TF h1 A1 o1 k := obj_fr f hc ⟨fun q hq => by
    have : q.1 < 20 := (show ∀ q ∈ kF, q.1 < 20 by decide) q hq
    unfold bF; omega, fun q hq => (show ∀ q ∈ lF, ∃ k ∈ [3, 8, 100, 101], (q.1, k) ∈ kF by decide) q hq |>.imp fun _ w => w.2, fun q hq => ⟨(show ∀ q ∈ rF, ∃ k ∈ [3, 8, 100, 101], (q.1, k) ∈ kF by decide) q hq |>.imp fun _ w => w.2, (show ∀ q ∈ rF, ∃ k ∈ [3, 8, 100, 101], (q.2.2, k) ∈ kF by decide) q hq |>.imp fun _ w => w.2⟩⟩ t
theorem AF_fr (f : fr h h1 A A1 o o1 C) (hc : ¬ C 5) (hk : k ≤ 60) {j : Nat} (hj : j < 100) : A1 (bF k + j) = A (bF k + j) := f.2.2 _ (by unfold bF; rw [show (5001000 + 100 * k + j) / 1000000 = 5 by omega]; exact hc)
theorem iF_fr (f : fr h h1 A A1 o o1 C) (hc : ¬ C 5) (hk : k ≤ 60) {j kd : Nat} (hj : j < 100) (v : liv h A o (bF k + j) kd) : gI h1 (A1 (bF k + j)) = gI h (A (bF k + j)) ∧ gJ h1 (A1 (bF k + j)) = gJ h (A (bF k + j)) ∧ gR h1 (A1 (bF k + j)) = gR h (A (bF k + j)) ∧ gL h1 (A1 (bF k + j)) = gL h (A (bF k + j)) := by
  have s := fr_same f v.2.2.1 (by rw [v.1]; unfold bF; rw [show (5001000 + 100 * k + j) / 1000000 = 5 by omega]; exact hc)
  rw [AF_fr f hc hk hj]
  exact ⟨funext s.2.2.1, funext s.2.2.2.1, funext s.2.2.2.2, s.2.1⟩
/-- session k -/
def bS (k : Nat) : Nat := 6001000 + 100 * k
def kS : List (Nat × Nat) := [(0, 10), (1, 100), (2, 100), (3, 100), (4, 100)]
def lS : List (Nat × Nat) := [(1, 6), (2, 20), (3, 20), (4, 20)]
def rS : List (Nat × Nat × Nat) := [(0, 2, 1), (0, 3, 2), (0, 4, 3), (0, 5, 4)]
def TS (h : aH) (A o : Nat → Nat) (k : Nat) : Prop := objT h A o (bS k) kS lS rS
theorem vS_0 (t : TS h A o k) : liv h A o (bS k) 10 := t.1 (0, 10) (by decide)
theorem kS_0 (t : TS h A o k) : gK h (A (bS k)) = 10 := (vS_0 t).2.2.2
theorem eS_0 (t : TS h A o k) : 8 ≤ A (bS k) := (vS_0 t).2.1
theorem nS_0 (t : TS h A o k) : A (bS k) < gN h := (vS_0 t).2.2.1
theorem oS_0 (t : TS h A o k) : o (A (bS k)) = bS k := (vS_0 t).1
theorem vS_1 (t : TS h A o k) : liv h A o (bS k + 1) 100 := t.1 (1, 100) (by decide)
theorem kS_1 (t : TS h A o k) : gK h (A (bS k + 1)) = 100 := (vS_1 t).2.2.2
theorem eS_1 (t : TS h A o k) : 8 ≤ A (bS k + 1) := (vS_1 t).2.1
theorem nS_1 (t : TS h A o k) : A (bS k + 1) < gN h := (vS_1 t).2.2.1
theorem oS_1 (t : TS h A o k) : o (A (bS k + 1)) = bS k + 1 := (vS_1 t).1
theorem vS_2 (t : TS h A o k) : liv h A o (bS k + 2) 100 := t.1 (2, 100) (by decide)
theorem kS_2 (t : TS h A o k) : gK h (A (bS k + 2)) = 100 := (vS_2 t).2.2.2
theorem eS_2 (t : TS h A o k) : 8 ≤ A (bS k + 2) := (vS_2 t).2.1
theorem nS_2 (t : TS h A o k) : A (bS k + 2) < gN h := (vS_2 t).2.2.1
theorem oS_2 (t : TS h A o k) : o (A (bS k + 2)) = bS k + 2 := (vS_2 t).1
theorem vS_3 (t : TS h A o k) : liv h A o (bS k + 3) 100 := t.1 (3, 100) (by decide)
theorem kS_3 (t : TS h A o k) : gK h (A (bS k + 3)) = 100 := (vS_3 t).2.2.2
theorem eS_3 (t : TS h A o k) : 8 ≤ A (bS k + 3) := (vS_3 t).2.1
theorem nS_3 (t : TS h A o k) : A (bS k + 3) < gN h := (vS_3 t).2.2.1
theorem oS_3 (t : TS h A o k) : o (A (bS k + 3)) = bS k + 3 := (vS_3 t).1
theorem vS_4 (t : TS h A o k) : liv h A o (bS k + 4) 100 := t.1 (4, 100) (by decide)
theorem kS_4 (t : TS h A o k) : gK h (A (bS k + 4)) = 100 := (vS_4 t).2.2.2
theorem eS_4 (t : TS h A o k) : 8 ≤ A (bS k + 4) := (vS_4 t).2.1
theorem nS_4 (t : TS h A o k) : A (bS k + 4) < gN h := (vS_4 t).2.2.1
theorem oS_4 (t : TS h A o k) : o (A (bS k + 4)) = bS k + 4 := (vS_4 t).1
theorem lS_1 (t : TS h A o k) : gL h (A (bS k + 1)) = 6 := t.2.1 (1, 6) (by decide)
theorem lS_2 (t : TS h A o k) : gL h (A (bS k + 2)) = 20 := t.2.1 (2, 20) (by decide)
theorem lS_3 (t : TS h A o k) : gL h (A (bS k + 3)) = 20 := t.2.1 (3, 20) (by decide)
theorem lS_4 (t : TS h A o k) : gL h (A (bS k + 4)) = 20 := t.2.1 (4, 20) (by decide)
theorem rS_0_2 (t : TS h A o k) : gR h (A (bS k)) 2 = A (bS k + 1) := t.2.2 (0, 2, 1) (by decide)
theorem rS_0_3 (t : TS h A o k) : gR h (A (bS k)) 3 = A (bS k + 2) := t.2.2 (0, 3, 2) (by decide)
theorem rS_0_4 (t : TS h A o k) : gR h (A (bS k)) 4 = A (bS k + 3) := t.2.2 (0, 4, 3) (by decide)
theorem rS_0_5 (t : TS h A o k) : gR h (A (bS k)) 5 = A (bS k + 4) := t.2.2 (0, 5, 4) (by decide)
theorem TS_fr (f : fr h h1 A A1 o o1 C) (hc : ¬ C 6) (hk : k ≤ 60) (t : TS h A o k) : TS h1 A1 o1 k := obj_fr f hc ⟨fun q hq => by
    have : q.1 < 20 := (show ∀ q ∈ kS, q.1 < 20 by decide) q hq
    unfold bS; omega, fun q hq => (show ∀ q ∈ lS, ∃ k ∈ [10, 100], (q.1, k) ∈ kS by decide) q hq |>.imp fun _ w => w.2, fun q hq => ⟨(show ∀ q ∈ rS, ∃ k ∈ [10, 100], (q.1, k) ∈ kS by decide) q hq |>.imp fun _ w => w.2, (show ∀ q ∈ rS, ∃ k ∈ [10, 100], (q.2.2, k) ∈ kS by decide) q hq |>.imp fun _ w => w.2⟩⟩ t
theorem AS_fr (f : fr h h1 A A1 o o1 C) (hc : ¬ C 6) (hk : k ≤ 60) {j : Nat} (hj : j < 100) : A1 (bS k + j) = A (bS k + j) := f.2.2 _ (by unfold bS; rw [show (6001000 + 100 * k + j) / 1000000 = 6 by omega]; exact hc)
theorem iS_fr (f : fr h h1 A A1 o o1 C) (hc : ¬ C 6) (hk : k ≤ 60) {j kd : Nat} (hj : j < 100) (v : liv h A o (bS k + j) kd) : gI h1 (A1 (bS k + j)) = gI h (A (bS k + j)) ∧ gJ h1 (A1 (bS k + j)) = gJ h (A (bS k + j)) ∧ gR h1 (A1 (bS k + j)) = gR h (A (bS k + j)) ∧ gL h1 (A1 (bS k + j)) = gL h (A (bS k + j)) := by
  have s := fr_same f v.2.2.1 (by rw [v.1]; unfold bS; rw [show (6001000 + 100 * k + j) / 1000000 = 6 by omega]; exact hc)
  rw [AS_fr f hc hk hj]
  exact ⟨funext s.2.2.1, funext s.2.2.2.1, funext s.2.2.2.2, s.2.1⟩
/-- record k -/
def bR (k : Nat) : Nat := 7001000 + 100 * k
def kR : List (Nat × Nat) := [(0, 5), (1, 100), (2, 100)]
def lR : List (Nat × Nat) := [(1, 20), (2, 20)]
def rR : List (Nat × Nat × Nat) := [(0, 3, 1), (0, 4, 2)]
def TR (h : aH) (A o : Nat → Nat) (k : Nat) : Prop := objT h A o (bR k) kR lR rR
theorem vR_0 (t : TR h A o k) : liv h A o (bR k) 5 := t.1 (0, 5) (by decide)
theorem kR_0 (t : TR h A o k) : gK h (A (bR k)) = 5 := (vR_0 t).2.2.2
theorem eR_0 (t : TR h A o k) : 8 ≤ A (bR k) := (vR_0 t).2.1
theorem nR_0 (t : TR h A o k) : A (bR k) < gN h := (vR_0 t).2.2.1
theorem oR_0 (t : TR h A o k) : o (A (bR k)) = bR k := (vR_0 t).1
theorem vR_1 (t : TR h A o k) : liv h A o (bR k + 1) 100 := t.1 (1, 100) (by decide)
theorem kR_1 (t : TR h A o k) : gK h (A (bR k + 1)) = 100 := (vR_1 t).2.2.2
theorem eR_1 (t : TR h A o k) : 8 ≤ A (bR k + 1) := (vR_1 t).2.1
theorem nR_1 (t : TR h A o k) : A (bR k + 1) < gN h := (vR_1 t).2.2.1
theorem oR_1 (t : TR h A o k) : o (A (bR k + 1)) = bR k + 1 := (vR_1 t).1
theorem vR_2 (t : TR h A o k) : liv h A o (bR k + 2) 100 := t.1 (2, 100) (by decide)
theorem kR_2 (t : TR h A o k) : gK h (A (bR k + 2)) = 100 := (vR_2 t).2.2.2
theorem eR_2 (t : TR h A o k) : 8 ≤ A (bR k + 2) := (vR_2 t).2.1
theorem nR_2 (t : TR h A o k) : A (bR k + 2) < gN h := (vR_2 t).2.2.1
theorem oR_2 (t : TR h A o k) : o (A (bR k + 2)) = bR k + 2 := (vR_2 t).1
theorem lR_1 (t : TR h A o k) : gL h (A (bR k + 1)) = 20 := t.2.1 (1, 20) (by decide)
theorem lR_2 (t : TR h A o k) : gL h (A (bR k + 2)) = 20 := t.2.1 (2, 20) (by decide)
theorem rR_0_3 (t : TR h A o k) : gR h (A (bR k)) 3 = A (bR k + 1) := t.2.2 (0, 3, 1) (by decide)
theorem rR_0_4 (t : TR h A o k) : gR h (A (bR k)) 4 = A (bR k + 2) := t.2.2 (0, 4, 2) (by decide)
theorem TR_fr (f : fr h h1 A A1 o o1 C) (hc : ¬ C 7) (hk : k ≤ 60) (t : TR h A o k) : TR h1 A1 o1 k := obj_fr f hc ⟨fun q hq => by
    have : q.1 < 20 := (show ∀ q ∈ kR, q.1 < 20 by decide) q hq
    unfold bR; omega, fun q hq => (show ∀ q ∈ lR, ∃ k ∈ [5, 100], (q.1, k) ∈ kR by decide) q hq |>.imp fun _ w => w.2, fun q hq => ⟨(show ∀ q ∈ rR, ∃ k ∈ [5, 100], (q.1, k) ∈ kR by decide) q hq |>.imp fun _ w => w.2, (show ∀ q ∈ rR, ∃ k ∈ [5, 100], (q.2.2, k) ∈ kR by decide) q hq |>.imp fun _ w => w.2⟩⟩ t
theorem AR_fr (f : fr h h1 A A1 o o1 C) (hc : ¬ C 7) (hk : k ≤ 60) {j : Nat} (hj : j < 100) : A1 (bR k + j) = A (bR k + j) := f.2.2 _ (by unfold bR; rw [show (7001000 + 100 * k + j) / 1000000 = 7 by omega]; exact hc)
theorem iR_fr (f : fr h h1 A A1 o o1 C) (hc : ¬ C 7) (hk : k ≤ 60) {j kd : Nat} (hj : j < 100) (v : liv h A o (bR k + j) kd) : gI h1 (A1 (bR k + j)) = gI h (A (bR k + j)) ∧ gJ h1 (A1 (bR k + j)) = gJ h (A (bR k + j)) ∧ gR h1 (A1 (bR k + j)) = gR h (A (bR k + j)) ∧ gL h1 (A1 (bR k + j)) = gL h (A (bR k + j)) := by
  have s := fr_same f v.2.2.1 (by rw [v.1]; unfold bR; rw [show (7001000 + 100 * k + j) / 1000000 = 7 by omega]; exact hc)
  rw [AR_fr f hc hk hj]
  exact ⟨funext s.2.2.1, funext s.2.2.2.1, funext s.2.2.2.2, s.2.1⟩
/-- sample k -/
def bM (k : Nat) : Nat := 8001000 + 100 * k
def kM : List (Nat × Nat) := [(0, 9), (1, 100), (2, 100), (3, 102)]
def lM : List (Nat × Nat) := []
def rM : List (Nat × Nat × Nat) := [(0, 0, 1), (0, 1, 2), (0, 2, 3)]
def TM (h : aH) (A o : Nat → Nat) (k : Nat) : Prop := objT h A o (bM k) kM lM rM
theorem vM_0 (t : TM h A o k) : liv h A o (bM k) 9 := t.1 (0, 9) (by decide)
theorem kM_0 (t : TM h A o k) : gK h (A (bM k)) = 9 := (vM_0 t).2.2.2
theorem eM_0 (t : TM h A o k) : 8 ≤ A (bM k) := (vM_0 t).2.1
theorem nM_0 (t : TM h A o k) : A (bM k) < gN h := (vM_0 t).2.2.1
theorem oM_0 (t : TM h A o k) : o (A (bM k)) = bM k := (vM_0 t).1
theorem vM_1 (t : TM h A o k) : liv h A o (bM k + 1) 100 := t.1 (1, 100) (by decide)
theorem kM_1 (t : TM h A o k) : gK h (A (bM k + 1)) = 100 := (vM_1 t).2.2.2
theorem eM_1 (t : TM h A o k) : 8 ≤ A (bM k + 1) := (vM_1 t).2.1
theorem nM_1 (t : TM h A o k) : A (bM k + 1) < gN h := (vM_1 t).2.2.1
theorem oM_1 (t : TM h A o k) : o (A (bM k + 1)) = bM k + 1 := (vM_1 t).1
theorem vM_2 (t : TM h A o k) : liv h A o (bM k + 2) 100 := t.1 (2, 100) (by decide)
theorem kM_2 (t : TM h A o k) : gK h (A (bM k + 2)) = 100 := (vM_2 t).2.2.2
theorem eM_2 (t : TM h A o k) : 8 ≤ A (bM k + 2) := (vM_2 t).2.1
theorem nM_2 (t : TM h A o k) : A (bM k + 2) < gN h := (vM_2 t).2.2.1
theorem oM_2 (t : TM h A o k) : o (A (bM k + 2)) = bM k + 2 := (vM_2 t).1
theorem vM_3 (t : TM h A o k) : liv h A o (bM k + 3) 102 := t.1 (3, 102) (by decide)
theorem kM_3 (t : TM h A o k) : gK h (A (bM k + 3)) = 102 := (vM_3 t).2.2.2
theorem eM_3 (t : TM h A o k) : 8 ≤ A (bM k + 3) := (vM_3 t).2.1
theorem nM_3 (t : TM h A o k) : A (bM k + 3) < gN h := (vM_3 t).2.2.1
theorem oM_3 (t : TM h A o k) : o (A (bM k + 3)) = bM k + 3 := (vM_3 t).1
theorem rM_0_0 (t : TM h A o k) : gR h (A (bM k)) 0 = A (bM k + 1) := t.2.2 (0, 0, 1) (by decide)
theorem rM_0_1 (t : TM h A o k) : gR h (A (bM k)) 1 = A (bM k + 2) := t.2.2 (0, 1, 2) (by decide)
theorem rM_0_2 (t : TM h A o k) : gR h (A (bM k)) 2 = A (bM k + 3) := t.2.2 (0, 2, 3) (by decide)
theorem TM_fr (f : fr h h1 A A1 o o1 C) (hc : ¬ C 8) (hk : k ≤ 60) (t : TM h A o k) : TM h1 A1 o1 k := obj_fr f hc ⟨fun q hq => by
    have : q.1 < 20 := (show ∀ q ∈ kM, q.1 < 20 by decide) q hq
    unfold bM; omega, fun q hq => (show ∀ q ∈ lM, ∃ k ∈ [9, 100, 102], (q.1, k) ∈ kM by decide) q hq |>.imp fun _ w => w.2, fun q hq => ⟨(show ∀ q ∈ rM, ∃ k ∈ [9, 100, 102], (q.1, k) ∈ kM by decide) q hq |>.imp fun _ w => w.2, (show ∀ q ∈ rM, ∃ k ∈ [9, 100, 102], (q.2.2, k) ∈ kM by decide) q hq |>.imp fun _ w => w.2⟩⟩ t
theorem AM_fr (f : fr h h1 A A1 o o1 C) (hc : ¬ C 8) (hk : k ≤ 60) {j : Nat} (hj : j < 100) : A1 (bM k + j) = A (bM k + j) := f.2.2 _ (by unfold bM; rw [show (8001000 + 100 * k + j) / 1000000 = 8 by omega]; exact hc)
theorem iM_fr (f : fr h h1 A A1 o o1 C) (hc : ¬ C 8) (hk : k ≤ 60) {j kd : Nat} (hj : j < 100) (v : liv h A o (bM k + j) kd) : gI h1 (A1 (bM k + j)) = gI h (A (bM k + j)) ∧ gJ h1 (A1 (bM k + j)) = gJ h (A (bM k + j)) ∧ gR h1 (A1 (bM k + j)) = gR h (A (bM k + j)) ∧ gL h1 (A1 (bM k + j)) = gL h (A (bM k + j)) := by
  have s := fr_same f v.2.2.1 (by rw [v.1]; unfold bM; rw [show (8001000 + 100 * k + j) / 1000000 = 8 by omega]; exact hc)
  rw [AM_fr f hc hk hj]
  exact ⟨funext s.2.2.1, funext s.2.2.2.1, funext s.2.2.2.2, s.2.1⟩
/-- table k -/
def bT (k : Nat) : Nat := 9001000 + 100 * k
def kT : List (Nat × Nat) := [(0, 11), (1, 100), (2, 100), (3, 100), (4, 100), (5, 100)]
def lT : List (Nat × Nat) := [(5, 32)]
def rT : List (Nat × Nat × Nat) := [(0, 7, 1), (0, 8, 2), (0, 9, 3), (0, 10, 4), (0, 11, 5)]
def TT (h : aH) (A o : Nat → Nat) (k : Nat) : Prop := objT h A o (bT k) kT lT rT
theorem vT_0 (t : TT h A o k) : liv h A o (bT k) 11 := t.1 (0, 11) (by decide)
theorem kT_0 (t : TT h A o k) : gK h (A (bT k)) = 11 := (vT_0 t).2.2.2
theorem eT_0 (t : TT h A o k) : 8 ≤ A (bT k) := (vT_0 t).2.1
theorem nT_0 (t : TT h A o k) : A (bT k) < gN h := (vT_0 t).2.2.1
theorem oT_0 (t : TT h A o k) : o (A (bT k)) = bT k := (vT_0 t).1
theorem vT_1 (t : TT h A o k) : liv h A o (bT k + 1) 100 := t.1 (1, 100) (by decide)
theorem kT_1 (t : TT h A o k) : gK h (A (bT k + 1)) = 100 := (vT_1 t).2.2.2
theorem eT_1 (t : TT h A o k) : 8 ≤ A (bT k + 1) := (vT_1 t).2.1
theorem nT_1 (t : TT h A o k) : A (bT k + 1) < gN h := (vT_1 t).2.2.1
theorem oT_1 (t : TT h A o k) : o (A (bT k + 1)) = bT k + 1 := (vT_1 t).1
theorem vT_2 (t : TT h A o k) : liv h A o (bT k + 2) 100 := t.1 (2, 100) (by decide)
theorem kT_2 (t : TT h A o k) : gK h (A (bT k + 2)) = 100 := (vT_2 t).2.2.2
theorem eT_2 (t : TT h A o k) : 8 ≤ A (bT k + 2) := (vT_2 t).2.1
theorem nT_2 (t : TT h A o k) : A (bT k + 2) < gN h := (vT_2 t).2.2.1
theorem oT_2 (t : TT h A o k) : o (A (bT k + 2)) = bT k + 2 := (vT_2 t).1
theorem vT_3 (t : TT h A o k) : liv h A o (bT k + 3) 100 := t.1 (3, 100) (by decide)
theorem kT_3 (t : TT h A o k) : gK h (A (bT k + 3)) = 100 := (vT_3 t).2.2.2
theorem eT_3 (t : TT h A o k) : 8 ≤ A (bT k + 3) := (vT_3 t).2.1
theorem nT_3 (t : TT h A o k) : A (bT k + 3) < gN h := (vT_3 t).2.2.1
theorem oT_3 (t : TT h A o k) : o (A (bT k + 3)) = bT k + 3 := (vT_3 t).1
theorem vT_4 (t : TT h A o k) : liv h A o (bT k + 4) 100 := t.1 (4, 100) (by decide)
theorem kT_4 (t : TT h A o k) : gK h (A (bT k + 4)) = 100 := (vT_4 t).2.2.2
theorem eT_4 (t : TT h A o k) : 8 ≤ A (bT k + 4) := (vT_4 t).2.1
theorem nT_4 (t : TT h A o k) : A (bT k + 4) < gN h := (vT_4 t).2.2.1
theorem oT_4 (t : TT h A o k) : o (A (bT k + 4)) = bT k + 4 := (vT_4 t).1
theorem vT_5 (t : TT h A o k) : liv h A o (bT k + 5) 100 := t.1 (5, 100) (by decide)
theorem kT_5 (t : TT h A o k) : gK h (A (bT k + 5)) = 100 := (vT_5 t).2.2.2
theorem eT_5 (t : TT h A o k) : 8 ≤ A (bT k + 5) := (vT_5 t).2.1
theorem nT_5 (t : TT h A o k) : A (bT k + 5) < gN h := (vT_5 t).2.2.1
theorem oT_5 (t : TT h A o k) : o (A (bT k + 5)) = bT k + 5 := (vT_5 t).1
theorem lT_5 (t : TT h A o k) : gL h (A (bT k + 5)) = 32 := t.2.1 (5, 32) (by decide)
theorem rT_0_7 (t : TT h A o k) : gR h (A (bT k)) 7 = A (bT k + 1) := t.2.2 (0, 7, 1) (by decide)
theorem rT_0_8 (t : TT h A o k) : gR h (A (bT k)) 8 = A (bT k + 2) := t.2.2 (0, 8, 2) (by decide)
theorem rT_0_9 (t : TT h A o k) : gR h (A (bT k)) 9 = A (bT k + 3) := t.2.2 (0, 9, 3) (by decide)
theorem rT_0_10 (t : TT h A o k) : gR h (A (bT k)) 10 = A (bT k + 4) := t.2.2 (0, 10, 4) (by decide)
theorem rT_0_11 (t : TT h A o k) : gR h (A (bT k)) 11 = A (bT k + 5) := t.2.2 (0, 11, 5) (by decide)
theorem TT_fr (f : fr h h1 A A1 o o1 C) (hc : ¬ C 9) (hk : k ≤ 60) (t : TT h A o k) : TT h1 A1 o1 k := obj_fr f hc ⟨fun q hq => by
    have : q.1 < 20 := (show ∀ q ∈ kT, q.1 < 20 by decide) q hq
    unfold bT; omega, fun q hq => (show ∀ q ∈ lT, ∃ k ∈ [11, 100], (q.1, k) ∈ kT by decide) q hq |>.imp fun _ w => w.2, fun q hq => ⟨(show ∀ q ∈ rT, ∃ k ∈ [11, 100], (q.1, k) ∈ kT by decide) q hq |>.imp fun _ w => w.2, (show ∀ q ∈ rT, ∃ k ∈ [11, 100], (q.2.2, k) ∈ kT by decide) q hq |>.imp fun _ w => w.2⟩⟩ t
theorem AT_fr (f : fr h h1 A A1 o o1 C) (hc : ¬ C 9) (hk : k ≤ 60) {j : Nat} (hj : j < 100) : A1 (bT k + j) = A (bT k + j) := f.2.2 _ (by unfold bT; rw [show (9001000 + 100 * k + j) / 1000000 = 9 by omega]; exact hc)
theorem iT_fr (f : fr h h1 A A1 o o1 C) (hc : ¬ C 9) (hk : k ≤ 60) {j kd : Nat} (hj : j < 100) (v : liv h A o (bT k + j) kd) : gI h1 (A1 (bT k + j)) = gI h (A (bT k + j)) ∧ gJ h1 (A1 (bT k + j)) = gJ h (A (bT k + j)) ∧ gR h1 (A1 (bT k + j)) = gR h (A (bT k + j)) ∧ gL h1 (A1 (bT k + j)) = gL h (A (bT k + j)) := by
  have s := fr_same f v.2.2.1 (by rw [v.1]; unfold bT; rw [show (9001000 + 100 * k + j) / 1000000 = 9 by omega]; exact hc)
  rw [AT_fr f hc hk hj]
  exact ⟨funext s.2.2.1, funext s.2.2.2.1, funext s.2.2.2.2, s.2.1⟩
/-- release k -/
def bL (k : Nat) : Nat := 10001000 + 100 * k
def kL : List (Nat × Nat) := [(0, 7), (1, 100)]
def lL : List (Nat × Nat) := []
def rL : List (Nat × Nat × Nat) := [(0, 1, 1)]
def TL (h : aH) (A o : Nat → Nat) (k : Nat) : Prop := objT h A o (bL k) kL lL rL
theorem vL_0 (t : TL h A o k) : liv h A o (bL k) 7 := t.1 (0, 7) (by decide)
theorem kL_0 (t : TL h A o k) : gK h (A (bL k)) = 7 := (vL_0 t).2.2.2
theorem eL_0 (t : TL h A o k) : 8 ≤ A (bL k) := (vL_0 t).2.1
theorem nL_0 (t : TL h A o k) : A (bL k) < gN h := (vL_0 t).2.2.1
theorem oL_0 (t : TL h A o k) : o (A (bL k)) = bL k := (vL_0 t).1
theorem vL_1 (t : TL h A o k) : liv h A o (bL k + 1) 100 := t.1 (1, 100) (by decide)
theorem kL_1 (t : TL h A o k) : gK h (A (bL k + 1)) = 100 := (vL_1 t).2.2.2
theorem eL_1 (t : TL h A o k) : 8 ≤ A (bL k + 1) := (vL_1 t).2.1
theorem nL_1 (t : TL h A o k) : A (bL k + 1) < gN h := (vL_1 t).2.2.1
theorem oL_1 (t : TL h A o k) : o (A (bL k + 1)) = bL k + 1 := (vL_1 t).1
theorem rL_0_1 (t : TL h A o k) : gR h (A (bL k)) 1 = A (bL k + 1) := t.2.2 (0, 1, 1) (by decide)
theorem TL_fr (f : fr h h1 A A1 o o1 C) (hc : ¬ C 10) (hk : k ≤ 60) (t : TL h A o k) : TL h1 A1 o1 k := obj_fr f hc ⟨fun q hq => by
    have : q.1 < 20 := (show ∀ q ∈ kL, q.1 < 20 by decide) q hq
    unfold bL; omega, fun q hq => (show ∀ q ∈ lL, ∃ k ∈ [7, 100], (q.1, k) ∈ kL by decide) q hq |>.imp fun _ w => w.2, fun q hq => ⟨(show ∀ q ∈ rL, ∃ k ∈ [7, 100], (q.1, k) ∈ kL by decide) q hq |>.imp fun _ w => w.2, (show ∀ q ∈ rL, ∃ k ∈ [7, 100], (q.2.2, k) ∈ kL by decide) q hq |>.imp fun _ w => w.2⟩⟩ t
theorem AL_fr (f : fr h h1 A A1 o o1 C) (hc : ¬ C 10) (hk : k ≤ 60) {j : Nat} (hj : j < 100) : A1 (bL k + j) = A (bL k + j) := f.2.2 _ (by unfold bL; rw [show (10001000 + 100 * k + j) / 1000000 = 10 by omega]; exact hc)
theorem iL_fr (f : fr h h1 A A1 o o1 C) (hc : ¬ C 10) (hk : k ≤ 60) {j kd : Nat} (hj : j < 100) (v : liv h A o (bL k + j) kd) : gI h1 (A1 (bL k + j)) = gI h (A (bL k + j)) ∧ gJ h1 (A1 (bL k + j)) = gJ h (A (bL k + j)) ∧ gR h1 (A1 (bL k + j)) = gR h (A (bL k + j)) ∧ gL h1 (A1 (bL k + j)) = gL h (A (bL k + j)) := by
  have s := fr_same f v.2.2.1 (by rw [v.1]; unfold bL; rw [show (10001000 + 100 * k + j) / 1000000 = 10 by omega]; exact hc)
  rw [AL_fr f hc hk hj]
  exact ⟨funext s.2.2.1, funext s.2.2.2.1, funext s.2.2.2.2, s.2.1⟩
end OBJ
