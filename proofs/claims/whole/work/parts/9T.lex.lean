/-! SIGNS OF A TEXT: what they are -/
section LEX
section
variable (B : Nat → Int32) (L : Nat)
def lxL (c : Int32) : Bool := decide (97 ≤ c.toInt ∧ c.toInt ≤ 122)
def lxD (c : Int32) : Bool := decide (48 ≤ c.toInt ∧ c.toInt ≤ 57)
def lxB (c : Int32) : Bool := decide (c.toInt = 9 ∨ c.toInt = 10 ∨ c.toInt = 13 ∨ c.toInt = 32)
def lxF (P : Int32 → Bool) : Nat → Nat → Nat
  | 0, p => p
  | n + 1, p => if P (B p) = true then lxF P n (p + 1) else p
/-- the end of a run of signs with P -/
def lxR (P : Int32 → Bool) (p : Nat) : Nat := lxF B P (L - p) p
/-- a word of k letters, a number of k digits -/
def lxV (s : Nat) : Nat → Int64
  | 0 => 0
  | k + 1 => (lxV s k <<< ((8 : Int32).toInt64 &&& 63)) ||| (B (s + k)).toInt64
def lxC (s : Nat) : Nat → Int32
  | 0 => 0
  | k + 1 => 10 * lxC s k + B (s + k) - 48
def rlN (c d : Int32) : Int32 := if c.toInt = 61 then 2 else if c.toInt = 60 then (if d.toInt = 61 then 3 else if d.toInt = 62 then 5 else 1) else (if d.toInt = 61 then 6 else 4)
def rlE (c d : Int32) : Nat := if (c.toInt = 60 ∧ (d.toInt = 61 ∨ d.toInt = 62)) ∨ (c.toInt = 62 ∧ d.toInt = 61) then 2 else 1
/-- the byte at p, 0 behind the end -/
def lxA (p : Nat) : Int32 := if p < L then B p else 0
/-- the sign that is read from p on: its place, its end, its kind, its number, its word -/
def lxS (p : Nat) : Nat := lxR B L lxB p
def lxE (p : Nat) : Nat := if lxS B L p < L then (if lxL (B (lxS B L p)) = true then lxR B L lxL (lxS B L p) else if lxD (B (lxS B L p)) = true then lxR B L lxD (lxS B L p) else if 60 ≤ (B (lxS B L p)).toInt ∧ (B (lxS B L p)).toInt ≤ 62 then lxS B L p + rlE (B (lxS B L p)) (lxA B L (lxS B L p + 1)) else lxS B L p + 1) else lxS B L p
def lxK (p : Nat) : Nat := if lxS B L p < L then (if lxL (B (lxS B L p)) = true then (if 8 < lxE B L p - lxS B L p then 7 else 0) else if lxD (B (lxS B L p)) = true then (if 6 < lxE B L p - lxS B L p then 7 else 1) else if 60 ≤ (B (lxS B L p)).toInt ∧ (B (lxS B L p)).toInt ≤ 62 then 2 else if (B (lxS B L p)).toInt = 43 then 3 else if (B (lxS B L p)).toInt = 45 then 4 else if (B (lxS B L p)).toInt = 59 then 5 else 7) else 6
def lxN (p : Nat) : Int32 := if lxD (B (lxS B L p)) = true then lxC B (lxS B L p) (lxE B L p - lxS B L p) else rlN (B (lxS B L p)) (lxA B L (lxS B L p + 1))
def lxW (p : Nat) : Int64 := lxV B (lxS B L p) (lxE B L p - lxS B L p)
end
variable {B : Nat → Int32} {L p q s d : Nat} {P : Int32 → Bool}
theorem lxE_d (B : Nat → Int32) (L p : Nat) : lxE B L p = if lxS B L p < L then (if lxL (B (lxS B L p)) = true then lxR B L lxL (lxS B L p) else if lxD (B (lxS B L p)) = true then lxR B L lxD (lxS B L p) else if 60 ≤ (B (lxS B L p)).toInt ∧ (B (lxS B L p)).toInt ≤ 62 then lxS B L p + rlE (B (lxS B L p)) (lxA B L (lxS B L p + 1)) else lxS B L p + 1) else lxS B L p := rfl
theorem lxK_d (B : Nat → Int32) (L p : Nat) : lxK B L p = if lxS B L p < L then (if lxL (B (lxS B L p)) = true then (if 8 < lxE B L p - lxS B L p then 7 else 0) else if lxD (B (lxS B L p)) = true then (if 6 < lxE B L p - lxS B L p then 7 else 1) else if 60 ≤ (B (lxS B L p)).toInt ∧ (B (lxS B L p)).toInt ≤ 62 then 2 else if (B (lxS B L p)).toInt = 43 then 3 else if (B (lxS B L p)).toInt = 45 then 4 else if (B (lxS B L p)).toInt = 59 then 5 else 7) else 6 := rfl
theorem lxR_go (h : p < L) (hp : P (B p) = true) : lxR B L P p = lxR B L P (p + 1) := by
  unfold lxR
  rw [show L - p = (L - (p + 1)) + 1 by omega, lxF, if_pos hp]
theorem lxR_no (hp : ¬ P (B p) = true) : lxR B L P p = p := by
  unfold lxR
  cases L - p with
  | zero => rfl
  | succ n => rw [lxF, if_neg hp]
theorem lxR_end (h : L ≤ p) : lxR B L P p = p := by
  unfold lxR
  rw [show L - p = 0 by omega, lxF]
theorem lxR_b : ∀ (n p : Nat), p + n = L → p ≤ lxR B L P p ∧ lxR B L P p ≤ L := by
  intro n
  induction n with
  | zero => intro p hp; rw [lxR_end (by omega)]; omega
  | succ n ih =>
    intro p hp
    by_cases c : P (B p) = true
    · rw [lxR_go (by omega) c]; have := ih (p + 1) (by omega); omega
    · rw [lxR_no c]; omega
theorem lxS_b (h : p ≤ L) : p ≤ lxS B L p ∧ lxS B L p ≤ L := lxR_b (L - p) p (by omega)
theorem lxE_b (h : p ≤ L) : lxS B L p ≤ lxE B L p ∧ lxE B L p ≤ L ∧ (lxS B L p < L → lxS B L p < lxE B L p) := by
  have hs := lxS_b (B := B) h
  unfold lxE
  by_cases c : lxS B L p < L
  · rw [if_pos c]
    by_cases c1 : lxL (B (lxS B L p)) = true
    · rw [if_pos c1, lxR_go c c1]
      have := lxR_b (B := B) (P := lxL) (L := L) (L - (lxS B L p + 1)) (lxS B L p + 1) (by omega)
      omega
    · rw [if_neg c1]
      by_cases c2 : lxD (B (lxS B L p)) = true
      · rw [if_pos c2, lxR_go c c2]
        have := lxR_b (B := B) (P := lxD) (L := L) (L - (lxS B L p + 1)) (lxS B L p + 1) (by omega)
        omega
      · rw [if_neg c2]
        split
        · unfold rlE
          split
          · rename_i hq
            have : lxS B L p + 1 < L := by
              refine Decidable.byContradiction fun z => ?_
              unfold lxA at hq
              rw [if_neg z] at hq
              have z0 : (0 : Int32).toInt = 0 := rfl
              omega
            omega
          · omega
        · omega
  · rw [if_neg c]; omega
theorem lxK_6 : lxK B L p = 6 ↔ ¬ lxS B L p < L := by
  unfold lxK
  by_cases c : lxS B L p < L
  · rw [if_pos c]
    refine ⟨fun z => absurd z ?_, fun z => absurd c z⟩
    split
    · split <;> omega
    · split
      · split <;> omega
      · split
        · omega
        · split
          · omega
          · split
            · omega
            · split <;> omega
  · rw [if_neg c]; exact ⟨fun _ => c, fun _ => rfl⟩
theorem lxK_le : lxK B L p ≤ 7 := by
  unfold lxK
  repeat' split
  all_goals omega
/-- a step further -/
theorem lxK_go (h : p ≤ L) (hk : lxK B L p ≠ 6) : lxS B L p < L ∧ lxS B L p + 1 ≤ lxE B L p ∧ lxE B L p ≤ lxS B L (lxE B L p) ∧ lxE B L p ≤ L := by
  have c : lxS B L p < L := Decidable.byContradiction fun z => hk (lxK_6.2 z)
  have e := lxE_b (B := B) h
  have s := lxS_b (B := B) e.2.1
  have := e.2.2 c
  omega
/-- signed bytes -/
theorem cb_f (c : Int32) (h : 0 ≤ c.toInt ∧ c.toInt ≤ 255) : (c.toInt ≤ 127 → c.toInt8.toInt32 = c) ∧ (128 ≤ c.toInt → c.toInt8.toInt32.toInt < 0) := by
  have e : c.toInt8.toInt32.toInt = c.toInt.bmod (2 ^ 8) := by rw [Int8.toInt_toInt32, Int32.toInt_toInt8]
  have e2 : c.toInt.bmod (2 ^ 8) = if c.toInt % 256 < 128 then c.toInt % 256 else c.toInt % 256 - 256 := rfl
  rw [e2] at e
  refine ⟨fun h1 => ti_inj ?_, fun h1 => ?_⟩
  · rw [e]; split <;> omega
  · rw [e]; split <;> omega
theorem cb_i {c : Int32} (h : 0 ≤ c.toInt ∧ c.toInt ≤ 255) : c.toInt8.toInt32 = c ∨ (128 ≤ c.toInt ∧ c.toInt8.toInt32.toInt < 0) := by
  have := cb_f c h
  by_cases q : c.toInt ≤ 127
  · exact Or.inl (this.1 q)
  · exact Or.inr ⟨by omega, this.2 (by omega)⟩
theorem lxL_i {c : Int32} : lxL c = true ↔ 97 ≤ c.toInt ∧ c.toInt ≤ 122 := by unfold lxL; exact decide_eq_true_iff
theorem lxD_i {c : Int32} : lxD c = true ↔ 48 ≤ c.toInt ∧ c.toInt ≤ 57 := by unfold lxD; exact decide_eq_true_iff
theorem lxB_i {c : Int32} : lxB c = true ↔ c.toInt = 9 ∨ c.toInt = 10 ∨ c.toInt = 13 ∨ c.toInt = 32 := by unfold lxB; exact decide_eq_true_iff
/-- a number of at most six digits -/
theorem lxC_b : ∀ k, k ≤ 6 → (∀ i, i < k → lxD (B (s + i)) = true) → 0 ≤ (lxC B s k).toInt ∧ (lxC B s k).toInt + 1 ≤ ((10 ^ k : Nat) : Int) := by
  intro k
  induction k with
  | zero => intro _ _; exact ⟨Int.le_refl _, by show (0 : Int) + 1 ≤ 1; omega⟩
  | succ k ih =>
    intro hk hd
    have i := ih (by omega) (fun i hi => hd i (by omega))
    have hb := lxD_i.1 (hd k (by omega))
    have p5 : 10 ^ k ≤ 10 ^ 5 := Nat.pow_le_pow_right (by decide) (by omega)
    have e5 : 10 ^ 5 = 100000 := by decide
    have t10 : (10 : Int32).toInt = 10 := rfl
    have t48 : (48 : Int32).toInt = 48 := rfl
    have m1 : (10 * lxC B s k).toInt = 10 * (lxC B s k).toInt := by rw [ti_mul (by rw [t10]; omega) (by rw [t10]; omega), t10]
    have m2 : (10 * lxC B s k + B (s + k)).toInt = 10 * (lxC B s k).toInt + (B (s + k)).toInt := by rw [ti_add (by rw [m1]; omega) (by rw [m1]; omega), m1]
    have m3 : (lxC B s (k + 1)).toInt = 10 * (lxC B s k).toInt + (B (s + k)).toInt - 48 := by rw [lxC, ti_sub (by rw [m2, t48]; omega) (by rw [m2, t48]; omega), m2, t48]
    rw [m3, Nat.pow_succ]
    omega
/-- all of a run has P -/
theorem lxR_all : ∀ (n p : Nat), p + n = L → ∀ i, p ≤ i → i < lxR B L P p → P (B i) = true := by
  intro n
  induction n with
  | zero => intro p hp i h1 h2; rw [lxR_end (by omega)] at h2; omega
  | succ n ih =>
    intro p hp i h1 h2
    by_cases c : P (B p) = true
    · by_cases e : i = p
      · rw [e]; exact c
      · rw [lxR_go (by omega) c] at h2
        exact ih (p + 1) (by omega) i (by omega) h2
    · rw [lxR_no c] at h2; omega
theorem lxN_b (h : p ≤ L) (hk : lxK B L p = 1) : 0 ≤ (lxN B L p).toInt ∧ (lxN B L p).toInt ≤ 999999 := by
  have hs := lxS_b (B := B) h
  have c : lxS B L p < L := Decidable.byContradiction fun z => by rw [lxK_6.2 z] at hk; omega
  by_cases cl : lxL (B (lxS B L p)) = true
  · unfold lxK at hk; rw [if_pos c, if_pos cl] at hk; split at hk <;> omega
  · by_cases cd : lxD (B (lxS B L p)) = true
    · have k6 : ¬ 6 < lxE B L p - lxS B L p := fun z => by unfold lxK at hk; rw [if_pos c, if_neg cl, if_pos cd, if_pos z] at hk; omega
      have eE : lxE B L p = lxR B L lxD (lxS B L p) := by rw [lxE, if_pos c, if_neg cl, if_pos cd]
      have al := lxR_all (B := B) (P := lxD) (L := L) (L - lxS B L p) (lxS B L p) (by omega)
      have b := lxC_b (B := B) (s := lxS B L p) (lxE B L p - lxS B L p) (by omega) (fun i hi => al _ (by omega) (by rw [← eE]; omega))
      have p6 : 10 ^ (lxE B L p - lxS B L p) ≤ 10 ^ 6 := Nat.pow_le_pow_right (by decide) (by omega)
      have e6 : 10 ^ 6 = 1000000 := by decide
      unfold lxN
      rw [if_pos cd]
      omega
    · unfold lxK at hk; rw [if_pos c, if_neg cl, if_neg cd] at hk
      split at hk
      · omega
      · split at hk
        · omega
        · split at hk
          · omega
          · split at hk <;> omega
theorem rlN_ok (c d : Int32) : rOK (rlN c d) := by
  unfold rOK rlN
  repeat' split
  all_goals decide
end LEX
