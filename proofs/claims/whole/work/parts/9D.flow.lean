/-! ROUNDING: a table whose lines are whole can be rounded with all its lines -/
section FLW
def sN (f : Nat → Int) : Nat → Int
  | 0 => 0
  | n + 1 => sN f n + f n
theorem sN_cg {f g : Nat → Int} : ∀ n, (∀ i, i < n → f i = g i) → sN f n = sN g n := by
  intro n
  induction n with
  | zero => intro _; rfl
  | succ n ih => intro h; rw [sN, sN, ih (fun i hi => h i (by omega)), h n (by omega)]
theorem sN_add (f g : Nat → Int) : ∀ n, sN (fun i => f i + g i) n = sN f n + sN g n := by
  intro n
  induction n with
  | zero => rfl
  | succ n ih => rw [sN, sN, sN, ih]; omega
theorem sN_sub (f g : Nat → Int) : ∀ n, sN (fun i => f i - g i) n = sN f n - sN g n := by
  intro n
  induction n with
  | zero => rfl
  | succ n ih => rw [sN, sN, sN, ih]; omega
theorem sN_mul (a : Int) (f : Nat → Int) : ∀ n, sN (fun i => a * f i) n = a * sN f n := by
  intro n
  induction n with
  | zero => rw [sN, sN, Int.mul_zero]
  | succ n ih => rw [sN, sN, ih, Int.mul_add]
theorem sN_0 : ∀ n, sN (fun _ => 0) n = 0 := by
  intro n
  induction n with
  | zero => rfl
  | succ n ih => rw [sN, ih]; rfl
theorem sN_one {c : Nat} (f : Nat → Int) : ∀ n, sN (fun i => if i = c then f i else 0) n = if c < n then f c else 0 := by
  intro n
  induction n with
  | zero => rw [if_neg (by omega)]; rfl
  | succ n ih =>
    rw [sN, ih]
    by_cases e : n = c
    · subst e; rw [if_neg (by omega), if_pos rfl, if_pos (by omega)]; omega
    · rw [if_neg e]
      by_cases l : c < n
      · rw [if_pos l, if_pos (by omega)]; omega
      · rw [if_neg l, if_neg (by omega)]; omega
theorem sN_le {f g : Nat → Int} : ∀ n, (∀ i, i < n → f i ≤ g i) → sN f n ≤ sN g n := by
  intro n
  induction n with
  | zero => intro _; exact Int.le_refl _
  | succ n ih =>
    intro h
    have h1 := ih (fun i hi => h i (by omega))
    have h2 := h n (by omega)
    rw [sN, sN]; omega
theorem sN_lt {f g : Nat → Int} {c : Nat} : ∀ n, (∀ i, i < n → f i ≤ g i) → c < n → f c < g c → sN f n < sN g n := by
  intro n
  induction n with
  | zero => intro _ h; omega
  | succ n ih =>
    intro h hc hl
    rw [sN, sN]
    by_cases e : c = n
    · have h1 := sN_le n (fun i hi => h i (by omega))
      subst e; omega
    · have h1 := ih (fun i hi => h i (by omega)) (by omega) hl
      have h2 := h n (by omega)
      omega
theorem sN_swap (F : Nat → Nat → Int) (k : Nat) : ∀ n, sN (fun i => sN (F i) k) n = sN (fun j => sN (fun i => F i j) n) k := by
  intro n
  induction n with
  | zero => rw [sN]; exact (sN_0 k).symm
  | succ n ih => rw [sN, ih, ← sN_add]; rfl
theorem sN_flat (F : Nat → Nat → Int) {C : Nat} (hC : 0 < C) : ∀ R, sN (fun k => F (k / C) (k % C)) (R * C) = sN (fun i => sN (F i) C) R := by
  have row : ∀ R c, c ≤ C → sN (fun k => F (k / C) (k % C)) (R * C + c) = sN (fun k => F (k / C) (k % C)) (R * C) + sN (F R) c := by
    intro R c
    induction c with
    | zero => intro _; rw [sN, Nat.add_zero, Int.add_zero]
    | succ c ih =>
      intro hc
      have dq : (R * C + c) / C = R := by rw [Nat.add_comm, Nat.add_mul_div_right _ _ hC, Nat.div_eq_of_lt (by omega), Nat.zero_add]
      have mq : (R * C + c) % C = c := by rw [Nat.add_comm, Nat.add_mul_mod_self_right, Nat.mod_eq_of_lt (by omega)]
      rw [← Nat.add_assoc, sN, ih (by omega), dq, mq, sN]; omega
  intro R
  induction R with
  | zero => rw [Nat.zero_mul]; rfl
  | succ R ih => rw [Nat.succ_mul, row R C (Nat.le_refl _), ih]; rfl
/-- a line with one broken place has another -/
theorem frac2 {m : Int} {f : Nat → Int} {k c : Nat} (hc : c < k) (h0 : 0 < f c ∧ f c < m) (hw : ∃ t, sN f k = m * t) (hb : ∀ j, j < k → 0 ≤ f j ∧ f j ≤ m) : ∃ c', c' < k ∧ c' ≠ c ∧ 0 < f c' ∧ f c' < m := by
  by_cases ex : ∃ c', c' < k ∧ c' ≠ c ∧ 0 < f c' ∧ f c' < m
  · exact ex
  · exfalso
    have key : ∀ n, n ≤ k → ∃ t, sN f n = m * t + if c < n then f c else 0 := by
      intro n
      induction n with
      | zero => intro _; exact ⟨0, by rw [if_neg (by omega), Int.mul_zero]; rfl⟩
      | succ n ih =>
        intro hn
        obtain ⟨t, e⟩ := ih (by omega)
        by_cases q : n = c
        · subst q
          rw [if_neg (by omega)] at e
          exact ⟨t, by rw [sN, e, if_pos (by omega)]; omega⟩
        · have b := hb n (by omega)
          have z : f n = 0 ∨ f n = m := by
            by_cases z0 : f n = 0
            · exact Or.inl z0
            · by_cases z1 : f n = m
              · exact Or.inr z1
              · exact absurd ⟨n, by omega, q, by omega, by omega⟩ ex
          have iff9 : (if c < n + 1 then f c else 0) = if c < n then f c else 0 := by
            by_cases l : c < n
            · rw [if_pos l, if_pos (by omega)]
            · rw [if_neg l, if_neg (by omega)]
          rw [iff9]
          rcases z with z | z
          · exact ⟨t, by rw [sN, e, z]; omega⟩
          · exact ⟨t + 1, by rw [sN, e, z, Int.mul_add, Int.mul_one]; omega⟩
    obtain ⟨t, e⟩ := key k (Nat.le_refl _)
    obtain ⟨t2, e2⟩ := hw
    rw [if_pos hc, e2] at e
    have e3 : f c = m * (t2 - t) := by rw [Int.mul_sub]; omega
    by_cases p : 0 < t2 - t
    · have : m * 1 ≤ m * (t2 - t) := Int.mul_le_mul_of_nonneg_left (by omega) (by omega)
      omega
    · have : m * (t2 - t) ≤ m * 0 := Int.mul_le_mul_of_nonneg_left (by omega) (by omega)
      omega
/-- a step along a row -/
def walk (r c c' : Nat) (i j : Nat) : Int := if i = r then ((if j = c then 1 else 0) - (if j = c' then 1 else 0)) else 0
theorem walk_row {r c c' k i : Nat} (h1 : c < k) (h2 : c' < k) : sN (walk r c c' i) k = 0 := by
  unfold walk
  by_cases e : i = r
  · simp only [e, if_true]
    rw [sN_sub, sN_one (fun _ => 1), sN_one (fun _ => 1), if_pos h1, if_pos h2]; rfl
  · simp only [e, if_false]; exact sN_0 k
theorem walk_col {r c c' n j : Nat} (h1 : r < n) : sN (fun i => walk r c c' i j) n = (if j = c then 1 else 0) - (if j = c' then 1 else 0) := by
  unfold walk
  rw [sN_one (fun _ => ((if j = c then 1 else 0) - (if j = c' then 1 else 0))), if_pos h1]
/-- a way round: what may be moved -/
def wayR (n k : Nat) (b : Nat → Nat → Int) (m : Int) (d : Nat → Nat → Int) : Prop := (∀ i, sN (d i) k = 0) ∧ (∀ j, sN (fun i => d i j) n = 0) ∧ (∀ i j, (-1 ≤ d i j ∧ d i j ≤ 1) ∧ (d i j = 0 ∨ (0 < b i j ∧ b i j < m))) ∧ ∃ i j, i < n ∧ j < k ∧ d i j ≠ 0
def frB (b : Nat → Nat → Int) (m : Int) (i j : Nat) : Prop := 0 < b i j ∧ b i j < m
theorem walk_e (r c c' i j : Nat) : (i = r ∧ j = c ∧ j = c' ∧ walk r c c' i j = 0) ∨ (i = r ∧ j = c ∧ j ≠ c' ∧ walk r c c' i j = 1) ∨ (i = r ∧ j ≠ c ∧ j = c' ∧ walk r c c' i j = -1) ∨ (i = r ∧ j ≠ c ∧ j ≠ c' ∧ walk r c c' i j = 0) ∨ (i ≠ r ∧ walk r c c' i j = 0) := by
  unfold walk
  by_cases a : i = r
  · rw [if_pos a]
    by_cases b1 : j = c
    · rw [if_pos b1]
      by_cases b2 : j = c'
      · rw [if_pos b2]; exact Or.inl ⟨a, b1, b2, rfl⟩
      · rw [if_neg b2]; exact Or.inr (Or.inl ⟨a, b1, b2, rfl⟩)
    · rw [if_neg b1]
      by_cases b2 : j = c'
      · rw [if_pos b2]; exact Or.inr (Or.inr (Or.inl ⟨a, b1, b2, rfl⟩))
      · rw [if_neg b2]; exact Or.inr (Or.inr (Or.inr (Or.inl ⟨a, b1, b2, rfl⟩)))
  · rw [if_neg a]; exact Or.inr (Or.inr (Or.inr (Or.inr ⟨a, rfl⟩)))
theorem frB_at {b : Nat → Nat → Int} {m : Int} {r c : Nat} (f : frB b m r c) (i j : Nat) : i = r → j = c → 0 < b i j ∧ b i j < m := fun e1 e2 => by rw [e1, e2]; exact f
theorem way2 {n k r1 r2 c1 c2 : Nat} {b : Nat → Nat → Int} {m : Int} (hr1 : r1 < n) (hr2 : r2 < n) (hc1 : c1 < k) (hc2 : c2 < k) (nr : r2 ≠ r1) (nc : c2 ≠ c1) (f1 : frB b m r1 c1) (f2 : frB b m r1 c2) (f3 : frB b m r2 c2) (f4 : frB b m r2 c1) : ∃ d, wayR n k b m d := by
  refine ⟨fun i j => walk r1 c1 c2 i j + walk r2 c2 c1 i j, fun i => ?_, fun j => ?_, fun i j => ?_, r1, c1, hr1, hc1, ?_⟩
  · rw [sN_add, walk_row hc1 hc2, walk_row hc2 hc1]; rfl
  · rw [sN_add, walk_col hr1, walk_col hr2]; omega
  · have g1 := frB_at f1 i j
    have g2 := frB_at f2 i j
    have g3 := frB_at f3 i j
    have g4 := frB_at f4 i j
    have s1 := walk_e r1 c1 c2 i j
    have s2 := walk_e r2 c2 c1 i j
    dsimp only
    omega
  · have s1 := walk_e r1 c1 c2 r1 c1
    have s2 := walk_e r2 c2 c1 r1 c1
    dsimp only
    omega
theorem walk_0 {r c c' i j : Nat} (h1 : j ≠ c) (h2 : j ≠ c') : walk r c c' i j = 0 := by
  unfold walk; rw [if_neg h1, if_neg h2]; split <;> rfl
theorem walk_p {r c c' i j : Nat} (h1 : j = c) (h2 : j ≠ c') : (i = r ∧ walk r c c' i j = 1) ∨ (i ≠ r ∧ walk r c c' i j = 0) := by
  unfold walk; rw [if_pos h1, if_neg h2]
  by_cases e : i = r
  · rw [if_pos e]; exact Or.inl ⟨e, rfl⟩
  · rw [if_neg e]; exact Or.inr ⟨e, rfl⟩
theorem walk_m {r c c' i j : Nat} (h1 : j ≠ c) (h2 : j = c') : (i = r ∧ walk r c c' i j = -1) ∨ (i ≠ r ∧ walk r c c' i j = 0) := by
  unfold walk; rw [if_neg h1, if_pos h2]
  by_cases e : i = r
  · rw [if_pos e]; exact Or.inl ⟨e, rfl⟩
  · rw [if_neg e]; exact Or.inr ⟨e, rfl⟩
/-- what a column of a way round holds -/
theorem ent2 {b : Nat → Nat → Int} {m : Int} {r r' c i j : Nat} {x y z : Int} (e : j = c) (fx : frB b m r c) (fy : frB b m r' c) (hx : (i = r ∧ x = 1) ∨ (i ≠ r ∧ x = 0)) (hy : (i = r' ∧ y = -1) ∨ (i ≠ r' ∧ y = 0)) (hz : z = x + y) : (-1 ≤ z ∧ z ≤ 1) ∧ (z = 0 ∨ (0 < b i j ∧ b i j < m)) := by
  have g1 := frB_at fx i j
  have g2 := frB_at fy i j
  omega
theorem way3 {n k r1 r2 r3 c1 c2 c3 : Nat} {b : Nat → Nat → Int} {m : Int} (hr1 : r1 < n) (hr2 : r2 < n) (hr3 : r3 < n) (hc1 : c1 < k) (hc2 : c2 < k) (hc3 : c3 < k) (n12 : r2 ≠ r1) (m12 : c2 ≠ c1) (m23 : c3 ≠ c2) (m13 : c3 ≠ c1) (f1 : frB b m r1 c1) (f2 : frB b m r1 c2) (f3 : frB b m r2 c2) (f4 : frB b m r2 c3) (f5 : frB b m r3 c3) (f6 : frB b m r3 c1) : ∃ d, wayR n k b m d := by
  refine ⟨fun i j => walk r1 c1 c2 i j + (walk r2 c2 c3 i j + walk r3 c3 c1 i j), fun i => ?_, fun j => ?_, fun i j => ?_, r2, c2, hr2, hc2, ?_⟩
  · rw [sN_add, sN_add, walk_row hc1 hc2, walk_row hc2 hc3, walk_row hc3 hc1]; rfl
  · rw [sN_add, sN_add, walk_col hr1, walk_col hr2, walk_col hr3]; omega
  · dsimp only
    by_cases b1 : j = c1
    · exact ent2 b1 f1 f6 (walk_p (r := r1) (c' := c2) b1 (by omega)) (walk_m (r := r3) (c := c3) (by omega) b1) (by rw [walk_0 (r := r2) (c := c2) (c' := c3) (by omega) (by omega)]; omega)
    · by_cases b2 : j = c2
      · exact ent2 b2 f3 f2 (walk_p (r := r2) (c' := c3) b2 (by omega)) (walk_m (r := r1) (c := c1) (by omega) b2) (by rw [walk_0 (r := r3) (c := c3) (c' := c1) (by omega) (by omega)]; omega)
      · by_cases b3 : j = c3
        · exact ent2 b3 f5 f4 (walk_p (r := r3) (c' := c1) b3 (by omega)) (walk_m (r := r2) (c := c2) (by omega) b3) (by rw [walk_0 (r := r1) (c := c1) (c' := c2) (by omega) (by omega)]; omega)
        · rw [walk_0 b1 b2, walk_0 b2 b3, walk_0 b3 b1]
          exact ⟨by decide, Or.inl rfl⟩
  · dsimp only
    rw [walk_0 (r := r3) (c := c3) (c' := c1) (by omega) (by omega)]
    have p1 := walk_p (r := r2) (c := c2) (c' := c3) (i := r2) (j := c2) rfl (by omega)
    have p2 := walk_m (r := r1) (c := c1) (c' := c2) (i := r2) (j := c2) (by omega) rfl
    omega
theorem way4 {n k r1 r2 r3 r4 c1 c2 c3 c4 : Nat} {b : Nat → Nat → Int} {m : Int} (hr1 : r1 < n) (hr2 : r2 < n) (hr3 : r3 < n) (hr4 : r4 < n) (hc1 : c1 < k) (hc2 : c2 < k) (hc3 : c3 < k) (hc4 : c4 < k) (n12 : r2 ≠ r1) (m12 : c2 ≠ c1) (m13 : c3 ≠ c1) (m14 : c4 ≠ c1) (m23 : c3 ≠ c2) (m24 : c4 ≠ c2) (m34 : c4 ≠ c3) (f1 : frB b m r1 c1) (f2 : frB b m r1 c2) (f3 : frB b m r2 c2) (f4 : frB b m r2 c3) (f5 : frB b m r3 c3) (f6 : frB b m r3 c4) (f7 : frB b m r4 c4) (f8 : frB b m r4 c1) : ∃ d, wayR n k b m d := by
  refine ⟨fun i j => walk r1 c1 c2 i j + (walk r2 c2 c3 i j + (walk r3 c3 c4 i j + walk r4 c4 c1 i j)), fun i => ?_, fun j => ?_, fun i j => ?_, r2, c2, hr2, hc2, ?_⟩
  · rw [sN_add, sN_add, sN_add, walk_row hc1 hc2, walk_row hc2 hc3, walk_row hc3 hc4, walk_row hc4 hc1]; rfl
  · rw [sN_add, sN_add, sN_add, walk_col hr1, walk_col hr2, walk_col hr3, walk_col hr4]; omega
  · dsimp only
    by_cases b1 : j = c1
    · exact ent2 b1 f1 f8 (walk_p (r := r1) (c' := c2) b1 (by omega)) (walk_m (r := r4) (c := c4) (by omega) b1) (by rw [walk_0 (r := r2) (c := c2) (c' := c3) (by omega) (by omega), walk_0 (r := r3) (c := c3) (c' := c4) (by omega) (by omega)]; omega)
    · by_cases b2 : j = c2
      · exact ent2 b2 f3 f2 (walk_p (r := r2) (c' := c3) b2 (by omega)) (walk_m (r := r1) (c := c1) (by omega) b2) (by rw [walk_0 (r := r3) (c := c3) (c' := c4) (by omega) (by omega), walk_0 (r := r4) (c := c4) (c' := c1) (by omega) (by omega)]; omega)
      · by_cases b3 : j = c3
        · exact ent2 b3 f5 f4 (walk_p (r := r3) (c' := c4) b3 (by omega)) (walk_m (r := r2) (c := c2) (by omega) b3) (by rw [walk_0 (r := r1) (c := c1) (c' := c2) (by omega) (by omega), walk_0 (r := r4) (c := c4) (c' := c1) (by omega) (by omega)]; omega)
        · by_cases b4 : j = c4
          · exact ent2 b4 f7 f6 (walk_p (r := r4) (c' := c1) b4 (by omega)) (walk_m (r := r3) (c := c3) (by omega) b4) (by rw [walk_0 (r := r1) (c := c1) (c' := c2) (by omega) (by omega), walk_0 (r := r2) (c := c2) (c' := c3) (by omega) (by omega)]; omega)
          · rw [walk_0 b1 b2, walk_0 b2 b3, walk_0 b3 b4, walk_0 b4 b1]
            exact ⟨by decide, Or.inl rfl⟩
  · dsimp only
    rw [walk_0 (r := r3) (c := c3) (c' := c4) (by omega) (by omega), walk_0 (r := r4) (c := c4) (c' := c1) (by omega) (by omega)]
    have p1 := walk_p (r := r2) (c := c2) (c' := c3) (i := r2) (j := c2) rfl (by omega)
    have p2 := walk_m (r := r1) (c := c1) (c' := c2) (i := r2) (j := c2) (by omega) rfl
    omega
/-- all lines are whole -/
def whole (n k : Nat) (m : Int) (b : Nat → Nat → Int) : Prop := (∀ i, i < n → ∃ t, sN (b i) k = m * t) ∧ (∀ j, j < k → ∃ t, sN (fun i => b i j) n = m * t) ∧ ∀ i, i < n → ∀ j, j < k → 0 ≤ b i j ∧ b i j ≤ m
theorem way_ex {n k r1 c1 : Nat} {b : Nat → Nat → Int} {m : Int} (k4 : k ≤ 4) (w : whole n k m b) (hr1 : r1 < n) (hc1 : c1 < k) (f1 : frB b m r1 c1) : ∃ d, wayR n k b m d := by
  obtain ⟨w1, w2, w3⟩ := w
  have row : ∀ r c, r < n → c < k → frB b m r c → ∃ c', c' < k ∧ c' ≠ c ∧ frB b m r c' := fun r c hr hc f => by
    obtain ⟨c', a1, a2, a3⟩ := frac2 (f := b r) hc f (w1 r hr) (w3 r hr)
    exact ⟨c', a1, a2, a3⟩
  have col : ∀ r c, r < n → c < k → frB b m r c → ∃ r', r' < n ∧ r' ≠ r ∧ frB b m r' c := fun r c hr hc f => by
    obtain ⟨r', a1, a2, a3⟩ := frac2 (f := fun i => b i c) hr f (w2 c hc) (fun i hi => w3 i hi c hc)
    exact ⟨r', a1, a2, a3⟩
  obtain ⟨c2, hc2, m12, f2⟩ := row r1 c1 hr1 hc1 f1
  obtain ⟨r2, hr2, n12, f3⟩ := col r1 c2 hr1 hc2 f2
  obtain ⟨c3, hc3, m23, f4⟩ := row r2 c2 hr2 hc2 f3
  by_cases e13 : c3 = c1
  · subst e13; exact way2 hr1 hr2 hc1 hc2 n12 m12 f1 f2 f3 f4
  obtain ⟨r3, hr3, n23, f5⟩ := col r2 c3 hr2 hc3 f4
  obtain ⟨c4, hc4, m34, f6⟩ := row r3 c3 hr3 hc3 f5
  by_cases e24 : c4 = c2
  · subst e24; exact way2 hr2 hr3 hc2 hc3 n23 m23 f3 f4 f5 f6
  by_cases e14 : c4 = c1
  · subst e14; exact way3 hr1 hr2 hr3 hc1 hc2 hc3 n12 m12 m23 e13 f1 f2 f3 f4 f5 f6
  obtain ⟨r4, hr4, n34, f7⟩ := col r3 c4 hr3 hc4 f6
  obtain ⟨c5, hc5, m45, f8⟩ := row r4 c4 hr4 hc4 f7
  by_cases e35 : c5 = c3
  · subst e35; exact way2 hr3 hr4 hc3 hc4 n34 m34 f5 f6 f7 f8
  by_cases e25 : c5 = c2
  · subst e25; exact way3 hr2 hr3 hr4 hc2 hc3 hc4 n23 m23 m34 e24 f3 f4 f5 f6 f7 f8
  by_cases e15 : c5 = c1
  · subst e15; exact way4 hr1 hr2 hr3 hr4 hc1 hc2 hc3 hc4 n12 m12 e13 e14 m23 e24 m34 f1 f2 f3 f4 f5 f6 f7 f8
  omega
/-- how far the places are from the middle -/
def sqs (n k : Nat) (b : Nat → Nat → Int) : Int := sN (fun i => sN (fun j => b i j * b i j) k) n
theorem sqs_two {n k : Nat} {b d : Nat → Nat → Int} : sqs n k (fun i j => b i j + d i j) + sqs n k (fun i j => b i j - d i j) = 2 * sqs n k b + 2 * sqs n k d := by
  unfold sqs
  rw [← sN_add, ← sN_mul, ← sN_mul, ← sN_add]
  refine sN_cg n fun i _ => ?_
  rw [← sN_add, ← sN_mul, ← sN_mul, ← sN_add]
  refine sN_cg k fun j _ => ?_
  dsimp only
  generalize b i j = x
  generalize d i j = y
  rw [Int.add_mul, Int.mul_add, Int.mul_add, Int.sub_mul, Int.mul_sub, Int.mul_sub, Int.mul_comm y x]
  omega
theorem sqs_pos {n k : Nat} {d : Nat → Nat → Int} {i j : Nat} (hi : i < n) (hj : j < k) (h0 : d i j ≠ 0) : 0 < sqs n k d := by
  have sq : ∀ x : Int, 0 ≤ x * x := fun x => by
    by_cases p : 0 ≤ x
    · exact Int.mul_nonneg p p
    · have := Int.mul_nonneg (a := -x) (b := -x) (by omega) (by omega)
      rw [Int.neg_mul_neg] at this; exact this
  have sq1 : 0 < d i j * d i j := by
    have h := sq (d i j)
    have : d i j * d i j ≠ 0 := fun e => (Int.mul_eq_zero.mp e).elim h0 h0
    omega
  have rw0 : ∀ i, 0 ≤ sN (fun j => d i j * d i j) k := fun i => by
    rw [← sN_0 k]; exact sN_le k fun j _ => sq _
  have r1 : 0 < sN (fun j => d i j * d i j) k := by
    have := sN_lt (f := fun _ => 0) (g := fun j => d i j * d i j) (c := j) k (fun j _ => sq _) hj sq1
    rw [sN_0] at this; exact this
  have := sN_lt (f := fun _ => 0) (g := fun i => sN (fun j => d i j * d i j) k) (c := i) n (fun i _ => rw0 i) hi r1
  rw [sN_0] at this; exact this
theorem way_neg {n k : Nat} {b d : Nat → Nat → Int} {m : Int} (w : wayR n k b m d) : wayR n k b m (fun i j => 0 - d i j) := by
  obtain ⟨w1, w2, w3, i, j, hi, hj, h0⟩ := w
  refine ⟨fun i => ?_, fun j => ?_, fun i j => ?_, i, j, hi, hj, by dsimp only; omega⟩
  · rw [sN_sub, sN_0, w1]; rfl
  · rw [sN_sub, sN_0, w2]; rfl
  · have := w3 i j
    dsimp only
    omega
theorem way_up {n k : Nat} {b d : Nat → Nat → Int} {m : Int} (w : wayR n k b m d) : ∃ d', wayR n k b m d' ∧ sqs n k b < sqs n k (fun i j => b i j + d' i j) := by
  have w0 := w
  obtain ⟨w1, w2, w3, i, j, hi, hj, h0⟩ := w
  have t := sqs_two (n := n) (k := k) (b := b) (d := d)
  have p := sqs_pos hi hj h0
  by_cases l : sqs n k b < sqs n k (fun i j => b i j + d i j)
  · exact ⟨d, w0, l⟩
  · refine ⟨_, way_neg w0, ?_⟩
    have e : (fun i j => b i j + (0 - d i j)) = fun i j => b i j - d i j := by funext i j; omega
    rw [e]; omega
theorem round_ex {n k : Nat} {m : Int} (k4 : k ≤ 4) : ∀ (fuel : Nat) (b : Nat → Nat → Int), whole n k m b → sN (fun _ => sN (fun _ => m * m) k) n - sqs n k b ≤ fuel → ∃ y : Nat → Nat → Int, (∀ i, i < n → sN (y i) k = sN (b i) k) ∧ (∀ j, j < k → sN (fun i => y i j) n = sN (fun i => b i j) n) ∧ ∀ i, i < n → ∀ j, j < k → (y i j = 0 ∨ y i j = m) ∧ (b i j = 0 → y i j = 0) := by
  have bound : ∀ b, whole n k m b → sqs n k b ≤ sN (fun _ => sN (fun _ => m * m) k) n := fun b w => by
    refine sN_le n fun i hi => sN_le k fun j hj => ?_
    have := w.2.2 i hi j hj
    exact Int.mul_le_mul this.2 this.2 this.1 (by omega)
  intro fuel
  induction fuel with
  | zero =>
    intro b w hf
    by_cases ex : ∃ i j, i < n ∧ j < k ∧ frB b m i j
    · exfalso
      obtain ⟨i, j, hi, hj, f⟩ := ex
      obtain ⟨d, wd⟩ := way_ex k4 w hi hj f
      obtain ⟨d', ⟨v1, v2, v3, -⟩, l⟩ := way_up wd
      have := bound (fun i j => b i j + d' i j) ⟨fun i hi => by rw [sN_add, v1]; obtain ⟨t, e⟩ := w.1 i hi; exact ⟨t, by omega⟩, fun j hj => by rw [sN_add, v2]; obtain ⟨t, e⟩ := w.2.1 j hj; exact ⟨t, by omega⟩, fun i hi j hj => by
        have q := w.2.2 i hi j hj
        have q2 := v3 i j
        dsimp only; omega⟩
      omega
    · refine ⟨b, fun _ _ => rfl, fun _ _ => rfl, fun i hi j hj => ⟨?_, fun e => e⟩⟩
      have q := w.2.2 i hi j hj
      by_cases z0 : b i j = 0
      · exact Or.inl z0
      · by_cases z1 : b i j = m
        · exact Or.inr z1
        · exact absurd ⟨i, j, hi, hj, by omega, by omega⟩ ex
  | succ fuel ih =>
    intro b w hf
    by_cases ex : ∃ i j, i < n ∧ j < k ∧ frB b m i j
    · obtain ⟨i, j, hi, hj, f⟩ := ex
      obtain ⟨d, wd⟩ := way_ex k4 w hi hj f
      obtain ⟨d', ⟨v1, v2, v3, -⟩, l⟩ := way_up wd
      obtain ⟨y, y1, y2, y3⟩ := ih (fun i j => b i j + d' i j) ⟨fun i hi => by rw [sN_add, v1]; obtain ⟨t, e⟩ := w.1 i hi; exact ⟨t, by omega⟩, fun j hj => by rw [sN_add, v2]; obtain ⟨t, e⟩ := w.2.1 j hj; exact ⟨t, by omega⟩, fun i hi j hj => by
        have q := w.2.2 i hi j hj
        have q2 := v3 i j
        dsimp only; omega⟩ (by omega)
      refine ⟨y, fun i hi => ?_, fun j hj => ?_, fun i hi j hj => ⟨(y3 i hi j hj).1, fun e => (y3 i hi j hj).2 ?_⟩⟩
      · rw [y1 i hi, sN_add, v1]; omega
      · rw [y2 j hj, sN_add, v2]; omega
      · have q2 := v3 i j
        omega
    · refine ⟨b, fun _ _ => rfl, fun _ _ => rfl, fun i hi j hj => ⟨?_, fun e => e⟩⟩
      have q := w.2.2 i hi j hj
      by_cases z0 : b i j = 0
      · exact Or.inl z0
      · by_cases z1 : b i j = m
        · exact Or.inr z1
        · exact absurd ⟨i, j, hi, hj, by omega, by omega⟩ ex
/-- a table of remainders, with what its lines lack -/
def xtd (a : Nat → Nat → Int) (m : Int) (R C : Nat) (i j : Nat) : Int := if i < R then (if j < C then a i j else (0 - sN (a i) C) % m) else if j < C then (0 - sN (fun i => a i j) R) % m else sN (fun i => sN (a i) C) R % m
theorem sN_mod (m : Int) (g : Nat → Int) (n : Nat) : sN (fun j => g j % m) n = sN g n - m * sN (fun j => g j / m) n := by
  rw [← sN_mul, ← sN_sub]
  exact sN_cg n fun i _ => Int.emod_def _ _
theorem xtd_whole {a : Nat → Nat → Int} {m : Int} {R C : Nat} (hm : 0 < m) (ha : ∀ i, i < R → ∀ j, j < C → 0 ≤ a i j ∧ a i j < m) : whole (R + 1) (C + 1) m (xtd a m R C) := by
  have md : ∀ x : Int, 0 ≤ x % m ∧ x % m < m := fun x => ⟨Int.emod_nonneg _ (by omega), Int.emod_lt_of_pos _ hm⟩
  refine ⟨fun i hi => ?_, fun j hj => ?_, fun i hi j hj => ?_⟩
  · by_cases l : i < R
    · have e : sN (xtd a m R C i) (C + 1) = sN (a i) C + (0 - sN (a i) C) % m := by
        rw [sN, sN_cg (g := a i) C (fun j hj => by unfold xtd; rw [if_pos l, if_pos hj])]
        unfold xtd; rw [if_pos l, if_neg (by omega)]
      rw [e, Int.emod_def]
      exact ⟨-((0 - sN (a i) C) / m), by rw [Int.mul_neg]; omega⟩
    · have e : sN (xtd a m R C i) (C + 1) = sN (fun j => (0 - sN (fun i => a i j) R) % m) C + sN (fun i => sN (a i) C) R % m := by
        rw [sN, sN_cg (g := fun j => (0 - sN (fun i => a i j) R) % m) C (fun j hj => by unfold xtd; rw [if_neg l, if_pos hj])]
        unfold xtd; rw [if_neg l, if_neg (by omega)]
      have e2 := sN_sub (fun _ => 0) (fun j => sN (fun i => a i j) R) C
      rw [sN_0] at e2
      rw [e, sN_mod, e2, Int.emod_def, sN_swap a C R]
      exact ⟨-sN (fun j => (0 - sN (fun i => a i j) R) / m) C - (sN (fun j => sN (fun i => a i j) R) C / m), by rw [Int.mul_sub, Int.mul_neg]; omega⟩
  · by_cases l : j < C
    · have e : sN (fun i => xtd a m R C i j) (R + 1) = sN (fun i => a i j) R + (0 - sN (fun i => a i j) R) % m := by
        rw [sN, sN_cg (g := fun i => a i j) R (fun i hi => by unfold xtd; rw [if_pos hi, if_pos l])]
        unfold xtd; rw [if_neg (by omega), if_pos l]
      rw [e, Int.emod_def]
      exact ⟨-((0 - sN (fun i => a i j) R) / m), by rw [Int.mul_neg]; omega⟩
    · have e : sN (fun i => xtd a m R C i j) (R + 1) = sN (fun i => (0 - sN (a i) C) % m) R + sN (fun i => sN (a i) C) R % m := by
        rw [sN, sN_cg (g := fun i => (0 - sN (a i) C) % m) R (fun i hi => by unfold xtd; rw [if_pos hi, if_neg l])]
        unfold xtd; rw [if_neg (by omega), if_neg l]
      have e2 := sN_sub (fun _ => 0) (fun i => sN (a i) C) R
      rw [sN_0] at e2
      rw [e, sN_mod, e2, Int.emod_def]
      exact ⟨-sN (fun i => (0 - sN (a i) C) / m) R - (sN (fun i => sN (a i) C) R / m), by rw [Int.mul_sub, Int.mul_neg]; omega⟩
  · unfold xtd
    split
    · split
      · have := ha i (by omega) j (by omega); omega
      · have := md (0 - sN (a i) C); omega
    · split
      · have := md (0 - sN (fun i => a i j) R); omega
      · have := md (sN (fun i => sN (a i) C) R); omega
/-- remainders can be rounded with all their lines -/
theorem ctl_ex {a : Nat → Nat → Int} {m : Int} {R C : Nat} (hm : 0 < m) (C3 : C ≤ 3) (ha : ∀ i, i < R → ∀ j, j < C → 0 ≤ a i j ∧ a i j < m) : ∃ y : Nat → Nat → Int, (∀ i, i < R → ∀ j, j < C → (y i j = 0 ∨ y i j = m) ∧ (a i j = 0 → y i j = 0)) ∧ (∀ i, i < R → -m < sN (y i) C - sN (a i) C ∧ sN (y i) C - sN (a i) C < m) ∧ (∀ j, j < C → -m < sN (fun i => y i j) R - sN (fun i => a i j) R ∧ sN (fun i => y i j) R - sN (fun i => a i j) R < m) ∧ -m < sN (fun i => sN (y i) C) R - sN (fun i => sN (a i) C) R ∧ sN (fun i => sN (y i) C) R - sN (fun i => sN (a i) C) R < m := by
  have wh := xtd_whole (R := R) (C := C) hm ha
  have md : ∀ x : Int, 0 ≤ x % m ∧ x % m < m := fun x => ⟨Int.emod_nonneg _ (by omega), Int.emod_lt_of_pos _ hm⟩
  obtain ⟨y, y1, y2, y3⟩ := round_ex (n := R + 1) (k := C + 1) (m := m) (by omega) (sN (fun _ => sN (fun _ => m * m) (C + 1)) (R + 1) - sqs (R + 1) (C + 1) (xtd a m R C)).toNat _ wh (by omega)
  have xa : ∀ i, i < R → ∀ j, j < C → xtd a m R C i j = a i j := fun i hi j hj => by unfold xtd; rw [if_pos hi, if_pos hj]
  have xr : ∀ i, i < R → xtd a m R C i C = (0 - sN (a i) C) % m := fun i hi => by unfold xtd; rw [if_pos hi, if_neg (by omega)]
  have xc : ∀ j, j < C → xtd a m R C R j = (0 - sN (fun i => a i j) R) % m := fun j hj => by unfold xtd; rw [if_neg (by omega), if_pos hj]
  have xx : xtd a m R C R C = sN (fun i => sN (a i) C) R % m := by unfold xtd; rw [if_neg (by omega), if_neg (by omega)]
  have rows : ∀ i, i < R → sN (y i) C + y i C = sN (a i) C + (0 - sN (a i) C) % m := fun i hi => by
    have := y1 i (by omega)
    rw [sN, sN, sN_cg (f := xtd a m R C i) (g := a i) C (fun j hj => xa i hi j hj), xr i hi] at this
    exact this
  refine ⟨y, fun i hi j hj => ?_, fun i hi => ?_, fun j hj => ?_, ?_⟩
  · have := y3 i (by omega) j (by omega)
    rw [xa i hi j hj] at this
    exact this
  · have r := rows i hi
    have q := y3 i (by omega) C (by omega)
    rw [xr i hi] at q
    have := md (0 - sN (a i) C)
    omega
  · have r := y2 j (by omega)
    rw [sN, sN, sN_cg (f := fun i => xtd a m R C i j) (g := fun i => a i j) R (fun i hi => xa i hi j hj), xc j hj] at r
    have q := y3 R (by omega) j (by omega)
    rw [xc j hj] at q
    have := md (0 - sN (fun i => a i j) R)
    omega
  · have r := y2 C (by omega)
    rw [sN, sN, sN_cg (f := fun i => xtd a m R C i C) (g := fun i => (0 - sN (a i) C) % m) R (fun i hi => xr i hi), xx] at r
    have q := y3 R (by omega) C (by omega)
    rw [xx] at q
    have := md (sN (fun i => sN (a i) C) R)
    have s1 : sN (fun i => sN (y i) C + y i C) R = sN (fun i => sN (a i) C + (0 - sN (a i) C) % m) R := sN_cg R fun i hi => rows i hi
    rw [sN_add, sN_add] at s1
    omega
end FLW
