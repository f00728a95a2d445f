/-! WHO IS LAST: chains of units that went into others -/
section FRS
theorem pigeon : ∀ (n : Nat) (f : Nat → Nat), (∀ i, i ≤ n → f i < n) → ∃ i j, i < j ∧ j ≤ n ∧ f i = f j := by
  intro n
  induction n with
  | zero => intro f h; exact absurd (h 0 (Nat.le_refl 0)) (by omega)
  | succ n ih =>
    intro f h
    by_cases q : ∃ i, i ≤ n ∧ f i = f (n + 1)
    · obtain ⟨i, h1, h2⟩ := q
      exact ⟨i, n + 1, by omega, Nat.le_refl _, h2⟩
    · have q' : ∀ i, i ≤ n → f i ≠ f (n + 1) := fun i hi e => q ⟨i, hi, e⟩
      obtain ⟨i, j, h1, h2, h3⟩ := ih (fun i => if f i = n then f (n + 1) else f i) (fun i hi => by
        have a1 := h i (by omega)
        have a2 := h (n + 1) (Nat.le_refl _)
        have a3 := q' i hi
        show (if f i = n then f (n + 1) else f i) < n
        split <;> omega)
      have b1 := q' i (by omega)
      have b2 := q' j h2
      refine ⟨i, j, h1, by omega, ?_⟩
      have h3 : (if f i = n then f (n + 1) else f i) = (if f j = n then f (n + 1) else f j) := h3
      split at h3 <;> split at h3 <;> omega
variable (into iday : Nat → Int32) (known : Int)
def stopF (x : Nat) : Prop := (into x).toInt < 0 ∨ known < (iday x).toInt
/-- who is last, in so many steps -/
def lastF : Nat → Nat → Nat
  | 0, u => u
  | k + 1, u => if (into u).toInt < 0 ∨ known < (iday u).toInt then u else lastF k (into u).toInt.toNat
def endsF : Nat → Nat → Prop
  | 0, u => stopF into iday known u
  | k + 1, u => stopF into iday known u ∨ endsF k (into u).toInt.toNat
/-- the units that went into others make no circle -/
def forest (U : Nat) : Prop := (∀ u, u < U → into u = -1 ∨ (0 ≤ (into u).toInt ∧ (into u).toInt < U)) ∧ ∃ rk : Nat → Nat, ∀ u, u < U → 0 ≤ (into u).toInt → rk (into u).toInt.toNat < rk u
def iterF (x : Nat) : Nat → Nat
  | 0 => x
  | i + 1 => (into (iterF x i)).toInt.toNat
variable {into iday : Nat → Int32} {known : Int} {U : Nat}
theorem iter_next (x : Nat) : ∀ i, iterF into (into x).toInt.toNat i = iterF into x (i + 1) := by
  intro i
  induction i with
  | zero => rfl
  | succ i ih => show (into (iterF into (into x).toInt.toNat i)).toInt.toNat = _; rw [ih]; rfl
theorem ends_not : ∀ k x, ¬ endsF into iday known k x → ∀ i, i ≤ k → ¬ stopF into iday known (iterF into x i) := by
  intro k
  induction k with
  | zero =>
    intro x hx i hi
    have : i = 0 := by omega
    subst this
    exact hx
  | succ k ih =>
    intro x hx i hi
    cases i with
    | zero => exact fun q => hx (Or.inl q)
    | succ i =>
      rw [← iter_next]
      exact ih _ (fun q => hx (Or.inr q)) i (by omega)
theorem forest_up {x : Nat} (f : forest into U) (hx : x < U) (hs : ¬ stopF into iday known x) : (into x).toInt.toNat < U ∧ 0 ≤ (into x).toInt := by
  have h0 : ¬ (into x).toInt < 0 := fun q => hs (Or.inl q)
  rcases f.1 x hx with q | q
  · rw [q] at h0; exact absurd (by decide) h0
  · omega
theorem ends_all (f : forest into U) (hU : U ≤ 100) {x : Nat} (hx : x < U) : endsF into iday known 99 x := by
  by_cases q : endsF into iday known 99 x
  · exact q
  · exfalso
    have hn := ends_not _ _ q
    have f' := f
    obtain ⟨-, rk, hrk⟩ := f
    have hlt : ∀ i, i ≤ 100 → iterF into x i < U := by
      intro i
      induction i with
      | zero => intro _; exact hx
      | succ i ih => intro hi; exact (forest_up f' (ih (by omega)) (hn i (by omega))).1
    have hr : ∀ i j, i < j → j ≤ 100 → rk (iterF into x j) < rk (iterF into x i) := by
      intro i j hij
      induction j with
      | zero => omega
      | succ j ih =>
        intro hj
        have h1 := hrk _ (hlt j (by omega)) (forest_up f' (hlt j (by omega)) (hn j (by omega))).2
        have h1 : rk (iterF into x (j + 1)) < rk (iterF into x j) := h1
        by_cases e : i = j
        · subst e; exact h1
        · exact Nat.lt_trans h1 (ih (by omega) (by omega))
    obtain ⟨i, j, h1, h2, h3⟩ := pigeon 100 (iterF into x) (fun i hi => Nat.lt_of_lt_of_le (hlt i hi) hU)
    have := hr i j h1 h2
    rw [h3] at this
    omega
theorem last_stop {x k : Nat} (h : stopF into iday known x) : lastF into iday known k x = x := by
  have h' : (into x).toInt < 0 ∨ known < (iday x).toInt := h
  cases k with
  | zero => rfl
  | succ k => rw [lastF, if_pos h']
theorem last_go {x k : Nat} (h : ¬ stopF into iday known x) : lastF into iday known (k + 1) x = lastF into iday known k (into x).toInt.toNat := by
  have h' : ¬ ((into x).toInt < 0 ∨ known < (iday x).toInt) := h
  rw [lastF, if_neg h']
theorem last_more : ∀ k x, endsF into iday known k x → ∀ m, k ≤ m → lastF into iday known m x = lastF into iday known k x := by
  intro k
  induction k with
  | zero => intro x h m _; rw [last_stop h, last_stop h]
  | succ k ih =>
    intro x h m hm
    by_cases q : stopF into iday known x
    · rw [last_stop q, last_stop q]
    · obtain ⟨m, rfl⟩ : ∃ m', m = m' + 1 := ⟨m - 1, by omega⟩
      rw [last_go q, last_go q]
      rcases h with h | h
      · exact absurd h q
      · exact ih _ h m (by omega)
theorem last_lt (f : forest into U) : ∀ k x, x < U → lastF into iday known k x < U := by
  intro k
  induction k with
  | zero => intro x h; exact h
  | succ k ih =>
    intro x hx
    by_cases q : stopF into iday known x
    · rw [last_stop q]; exact hx
    · rw [last_go q]; exact ih _ (forest_up f hx q).1
theorem last_ends : ∀ k x, endsF into iday known k x → stopF into iday known (lastF into iday known k x) := by
  intro k
  induction k with
  | zero => intro x h; exact h
  | succ k ih =>
    intro x h
    by_cases q : stopF into iday known x
    · rw [last_stop q]; exact q
    · rw [last_go q]
      rcases h with h | h
      · exact absurd h q
      · exact ih _ h
/-- a step up has the same last one -/
theorem last_up (f : forest into U) (hU : U ≤ 100) {x : Nat} (hx : x < U) (hs : ¬ stopF into iday known x) : lastF into iday known 99 (into x).toInt.toNat = lastF into iday known 99 x := by
  have h1 : lastF into iday known 100 x = lastF into iday known 99 (into x).toInt.toNat := last_go hs
  rw [← h1]
  exact last_more 99 x (ends_all f hU hx) 100 (by omega)
/-- a root goes into another tree -/
theorem forest_merge {u v : Nat} (f : forest into U) (hU : U ≤ 100) (hu : u < U) (hv : v < U) (hr : (into u).toInt < 0) (hd : ∀ w, w < U → 0 ≤ (into w).toInt → (iday w).toInt ≤ known) (hne : lastF into iday known 99 v ≠ u) : forest (fun w => if w = u then nI v else into w) U := by
  have f0 := f
  obtain ⟨f1, rk, hrk⟩ := f
  have hvI : (nI v).toInt = v := nI_toInt (by omega)
  refine ⟨fun w hw => ?_, fun w => rk w + (if lastF into iday known 99 w = u then rk v + 1 else 0), fun w hw hi => ?_⟩
  · show (if w = u then nI v else into w) = -1 ∨ (0 ≤ (if w = u then nI v else into w).toInt ∧ (if w = u then nI v else into w).toInt < U)
    by_cases e : w = u
    · rw [if_pos e, hvI]; exact Or.inr ⟨by omega, by omega⟩
    · rw [if_neg e]; exact f1 w hw
  · have hi : 0 ≤ (if w = u then nI v else into w).toInt := hi
    show rk (if w = u then nI v else into w).toInt.toNat + (if lastF into iday known 99 (if w = u then nI v else into w).toInt.toNat = u then rk v + 1 else 0) < rk w + (if lastF into iday known 99 w = u then rk v + 1 else 0)
    by_cases e : w = u
    · subst e
      rw [if_pos rfl, hvI, last_stop (Or.inl hr), if_pos rfl]
      rw [Int.toNat_natCast, if_neg hne]
      omega
    · rw [if_neg e] at hi ⊢
      have hns : ¬ stopF into iday known w := by
        have := hd w hw hi
        rintro (q | q) <;> omega
      rw [last_up f0 hU hw hns]
      have := hrk w hw hi
      omega
/-- a new unit -/
theorem forest_new (f : forest into U) : forest (fun w => if w = U then -1 else into w) (U + 1) := by
  obtain ⟨f1, rk, hrk⟩ := f
  refine ⟨fun w hw => ?_, rk, fun w hw hi => ?_⟩
  · show (if w = U then -1 else into w) = -1 ∨ (0 ≤ (if w = U then -1 else into w).toInt ∧ (if w = U then -1 else into w).toInt < ((U + 1 : Nat) : Int))
    by_cases e : w = U
    · rw [if_pos e]; exact Or.inl rfl
    · rw [if_neg e]
      rcases f1 w (by omega) with q | q
      · exact Or.inl q
      · exact Or.inr (by omega)
  · have hi : 0 ≤ (if w = U then -1 else into w).toInt := hi
    show rk (if w = U then -1 else into w).toInt.toNat < rk w
    by_cases e : w = U
    · rw [if_pos e] at hi; exact absurd hi (by decide)
    · rw [if_neg e] at hi ⊢
      exact hrk w (by omega) hi
end FRS
