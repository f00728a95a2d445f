/-! WHAT THE ABSTRACT HEAP SAYS OF THE MACHINE'S: own cells stand behind the old heap (of b cells) in the order of their making; references below 8 are the script (1), ArrayList's empty array (2), the class object of Object[] (3) -/
section AR
variable (b : Nat) (x : Nat → Nat) (D : va_G) (H0 : Heap)
def adr (r : Nat) : Nat := if r < 8 then x r else b + (r - 8)
def rv (r : Nat) : Value := if r = 0 then .null else .ref (adr b x r)
def vOK (a : aV) (v : Value) : Prop := match a with
  | .inl i => v = .int i
  | .inr (.inl j) => v = .long j
  | .inr (.inr (.inl r)) => v = rv b x r
  | .inr (.inr (.inr _)) => ∃ q, v = .ref q
def aVal (h : aH) (r : Nat) (t : FieldType) (k : Nat) : Value := match t with
  | .long => .long (gJ h r k)
  | .object _ => rv b x (gR h r k)
  | .array _ => rv b x (gR h r k)
  | _ => .int (gI h r k)
def aCell (h : aH) (r : Nat) (H : Heap) : Prop :=
  (gK h r ≠ 105 ∧ gK h r ≠ 106) ∧ (gK h r = 100 → H[adr b x r]? = some (arrV (D.1 100) (gL h r) (fun j => .int (gI h r j)))) ∧
  (gK h r = 101 → H[adr b x r]? = some (arrV (D.1 101) (gL h r) (fun j => .long (gJ h r j)))) ∧
  (gK h r = 102 → H[adr b x r]? = some (arrV (D.1 102) (gL h r) (fun j => .int (gI h r j)))) ∧
  (gK h r = 103 → H[adr b x r]? = some (arrV (D.1 103) (gL h r) (fun j => .int (gI h r j)))) ∧
  (gK h r = 104 → H[adr b x r]? = some (arrV (D.1 104) (gL h r) (fun j => rv b x (gR h r j)))) ∧
  (∀ q : vw_C, 0 < gK h r → gK h r < 99 → aCl[gK h r]? = some q → t_OB (adr b x r) (D.1 (gK h r)) q.2.2 (D.2 (gK h r)) H (fun k => aVal b x h r (aFt (gK h r) k) k))
def aRep (L : Nat) (xs : Nat → Int32) (h : aH) (H : Heap) : Prop :=
  8 ≤ gN h ∧ H.size = b + (gN h - 8) ∧ (∀ r, 8 ≤ r → r < gN h → aCell b x D h r H) ∧ (∀ q : Nat, q < b → H[q]? = H0[q]?) ∧
  (∀ r, r < 8 → gK h r = if r = 1 then 105 else if r = 2 then 106 else 0) ∧ (∀ r, gN h ≤ r → gK h r = 0) ∧ gL h 2 = 0 ∧ gL h 1 = L ∧ ∀ j, j < L → gI h 1 j = xs j
variable {b x D H0}
theorem adr_own {r : Nat} (hr : 8 ≤ r) : adr b x r = b + (r - 8) := by unfold adr; rw [if_neg (by omega)]
theorem adr_ne {r q : Nat} (hr : 8 ≤ r) (hq : 8 ≤ q) (h : r ≠ q) : adr b x r ≠ adr b x q := by rw [adr_own hr, adr_own hq]; omega
theorem rv_own {r : Nat} (hr : 8 ≤ r) : rv b x r = .ref (b + (r - 8)) := by unfold rv; rw [if_neg (by omega), adr_own hr]
theorem aCell.kept {h h' : aH} {r : Nat} {H H' : Heap} (c : aCell b x D h r H) (hk : gK h' r = gK h r) (hl : gL h' r = gL h r) (hi : ∀ j, gI h' r j = gI h r j) (hj : ∀ j, gJ h' r j = gJ h r j) (hr : ∀ j, gR h' r j = gR h r j) (hH : H'[adr b x r]? = H[adr b x r]?) : aCell b x D h' r H' := by
  obtain ⟨c0, c1, c2, c3, c4, c5, c6⟩ := c
  have ev : ∀ t k, aVal b x h' r t k = aVal b x h r t k := fun t k => by unfold aVal; cases t <;> simp only [hi, hj, hr]
  refine ⟨by rw [hk]; exact c0, ?_, ?_, ?_, ?_, ?_, ?_⟩
  · intro k; rw [hH, c1 (hk ▸ k), hl]; simp only [hi]
  · intro k; rw [hH, c2 (hk ▸ k), hl]; simp only [hj]
  · intro k; rw [hH, c3 (hk ▸ k), hl]; simp only [hi]
  · intro k; rw [hH, c4 (hk ▸ k), hl]; simp only [hi]
  · intro k; rw [hH, c5 (hk ▸ k), hl]; simp only [hr]
  · intro q h1 h2 h3
    rw [hk] at h1 h2 h3 ⊢
    obtain ⟨cell, q1, q2, q3, q4⟩ := c6 q h1 h2 h3
    exact ⟨cell, hH.trans q1, q2, q3, fun k hk9 => by rw [q4 k hk9]; simp only [ev]⟩
/-- one own cell is written -/
theorem aRep.upd {L : Nat} {xs : Nat → Int32} {h h' : aH} {H H' : Heap} {a : Nat} (R : aRep b x D H0 L xs h H) (ha : 8 ≤ a) (hN : gN h' = gN h) (hK : ∀ r, gK h' r = gK h r) (hL : ∀ r, gL h' r = gL h r)
    (hI : ∀ r j, r ≠ a → gI h' r j = gI h r j) (hJ : ∀ r j, r ≠ a → gJ h' r j = gJ h r j) (hR : ∀ r j, r ≠ a → gR h' r j = gR h r j) (hs : H'.size = H.size) (hq : ∀ q : Nat, q ≠ adr b x a → H'[q]? = H[q]?) (hc : a < gN h → aCell b x D h' a H') : aRep b x D H0 L xs h' H' := by
  obtain ⟨r1, r2, r3, r4, r5, r6, r7, r8, r9⟩ := R
  refine ⟨by rw [hN]; exact r1, by rw [hN, hs]; exact r2, fun r h1 h2 => ?_, fun q h1 => ?_, fun r h1 => by rw [hK]; exact r5 r h1, fun r h1 => by rw [hK]; exact r6 r (hN ▸ h1), by rw [hL]; exact r7, by rw [hL]; exact r8, fun j hj => by rw [hI 1 j (by omega)]; exact r9 j hj⟩
  · rw [hN] at h2
    by_cases e : r = a
    · subst e; exact hc h2
    · exact (r3 r h1 h2).kept (hK r) (hL r) (fun j => hI r j e) (fun j => hJ r j e) (fun j => hR r j e) (hq _ (adr_ne h1 ha e))
  · rw [hq q (by rw [adr_own ha]; omega)]; exact r4 q h1
/-- one cell is made -/
theorem aRep.new {L : Nat} {xs : Nat → Int32} {h : aH} {H H' : Heap} {k n : Nat} (R : aRep b x D H0 L xs h H) (hs : H'.size = H.size + 1) (hq : ∀ q : Nat, q < H.size → H'[q]? = H[q]?) (hc : aCell b x D (gNew h k n) (gN h) H') : aRep b x D H0 L xs (gNew h k n) H' := by
  obtain ⟨r1, r2, r3, r4, r5, r6, r7, r8, r9⟩ := R
  refine ⟨by rw [gN_gNew]; omega, by rw [gN_gNew, hs]; omega, fun r h1 h2 => ?_, fun q h1 => by rw [hq q (by omega)]; exact r4 q h1, fun r h1 => by rw [gK_gNew, if_neg (by omega)]; exact r5 r h1, fun r h1 => ?_, by rw [gL_gNew, if_neg (by omega)]; exact r7, by rw [gL_gNew, if_neg (by omega)]; exact r8, fun j hj => by rw [gI_gNew, if_neg (by omega)]; exact r9 j hj⟩
  · rw [gN_gNew] at h2
    by_cases e : r = gN h
    · subst e; exact hc
    · exact (r3 r h1 (by omega)).kept (by rw [gK_gNew, if_neg e]) (by rw [gL_gNew, if_neg e]) (fun j => by rw [gI_gNew, if_neg e]) (fun j => by rw [gJ_gNew, if_neg e]) (fun j => by rw [gR_gNew, if_neg e]) (hq _ (by rw [adr_own h1]; omega))
  · rw [gN_gNew] at h1
    rw [gK_gNew, if_neg (by omega)]; exact r6 r (by omega)
/-- a cell of a kind that is no script's is an own one -/
theorem aRep.own {L : Nat} {xs : Nat → Int32} {h : aH} {H : Heap} (R : aRep b x D H0 L xs h H) {a k : Nat} (hk : gK h a = k) (h0 : 0 < k) (h5 : k < 105) : 8 ≤ a ∧ a < gN h := by
  obtain ⟨r1, r2, r3, r4, r5, r6, -⟩ := R
  refine ⟨?_, ?_⟩
  · by_cases e : 8 ≤ a
    · exact e
    · have := r5 a (by omega)
      rw [hk] at this
      split at this
      · omega
      · split at this <;> omega
  · by_cases e : a < gN h
    · exact e
    · have := r6 a (by omega); omega
theorem aRep.cell {L : Nat} {xs : Nat → Int32} {h : aH} {H : Heap} (R : aRep b x D H0 L xs h H) {a k : Nat} (hk : gK h a = k) (h0 : 0 < k) (h5 : k < 105) : aCell b x D h a H := R.2.2.1 a (R.own hk h0 h5).1 (R.own hk h0 h5).2
theorem aRep.script {L : Nat} {xs : Nat → Int32} {h : aH} {H : Heap} (R : aRep b x D H0 L xs h H) {a : Nat} (hk : gK h a = 105) : a = 1 := by
  obtain ⟨r1, r2, r3, r4, r5, r6, -⟩ := R
  by_cases e : 8 ≤ a
  · by_cases q : a < gN h
    · exact absurd hk (r3 a e q).1.1
    · have := r6 a (by omega); omega
  · have := r5 a (by omega)
    rw [hk] at this
    split at this
    · assumption
    · split at this <;> omega
theorem aRep.empty {L : Nat} {xs : Nat → Int32} {h : aH} {H : Heap} (R : aRep b x D H0 L xs h H) {a : Nat} (hk : gK h a = 106) : a = 2 := by
  obtain ⟨r1, r2, r3, r4, r5, r6, -⟩ := R
  by_cases e : 8 ≤ a
  · by_cases q : a < gN h
    · exact absurd hk (r3 a e q).1.2
    · have := r6 a (by omega); omega
  · have := r5 a (by omega)
    rw [hk] at this
    split at this
    · omega
    · split at this
      · assumption
      · omega
end AR
