/-! CUTS: the model's side -/
section MST
variable {d t R C : Nat} {h g : aH} {X : Nat → aH → Prop} {I : Nat → Nat → Int32} {J : Nat → Nat → Int64} {v : Nat → Int} {O P Q : Nat → Bool}
def cutJ (v : Nat → Int) (O P Q : Nat → Bool) (C : Nat) : Nat → Int
  | 0 => 0
  | j + 1 => cutJ v O P Q C j + if (O j && (Q (j % C) && !P (j / C))) = true then v j else 0
def enJ (O P Q : Nat → Bool) (C : Nat) : Nat → Bool
  | 0 => true
  | j + 1 => enJ O P Q C j && !(O j && (P (j / C) && !Q (j % C)))
abbrev cRw (R p : Nat) : Nat → Bool := fun c => p.testBit (R + c)
def okM (up : Bool) (R r0 c0 p : Nat) : Bool := if up = true then (!p.testBit r0 && p.testBit (R + c0)) else (p.testBit r0 && !p.testBit (R + c0))
def bsM (v : Nat → Int) (O : Nat → Bool) (R C r0 c0 : Nat) (up : Bool) : Nat → Int
  | 0 => -1
  | p + 1 => if (okM up R r0 c0 p && enJ O (tB p) (cRw R p) C (R * C)) = true then (if bsM v O R C r0 c0 up p < 0 ∨ cutJ v O (tB p) (cRw R p) C (R * C) < bsM v O R C r0 c0 up p then cutJ v O (tB p) (cRw R p) C (R * C) else bsM v O R C r0 c0 up p) else bsM v O R C r0 c0 up p
theorem cutJ_row (hC : 0 < C) {r : Nat} : ∀ c, c ≤ C → cutJ v O P Q C (r * C + c) = cutJ v O P Q C (r * C) + if P r = true then 0 else rowS v O Q C r c := by
  intro c
  induction c with
  | zero => intro _; rw [Nat.add_zero, rowS]; split <;> omega
  | succ c ih =>
    intro hc
    have dq : (r * C + c) / C = r := by rw [Nat.add_comm, Nat.add_mul_div_right _ _ hC, Nat.div_eq_of_lt (by omega), Nat.zero_add]
    have mq : (r * C + c) % C = c := by rw [Nat.add_comm, Nat.add_mul_mod_self_right, Nat.mod_eq_of_lt (by omega)]
    rw [← Nat.add_assoc, cutJ, ih (by omega), dq, mq, rowS]
    by_cases p : P r = true
    · rw [if_pos p, if_pos p, if_neg (by rw [p]; simp)]
      omega
    · have pf : P r = false := by cases hh : P r; rfl; exact absurd hh p
      rw [if_neg p, if_neg p, pf]
      cases O (r * C + c) <;> cases Q c <;> simp <;> omega
theorem cutJ_eq (hC : 0 < C) : ∀ r, cutJ v O P Q C (r * C) = cutR v O P Q C r := by
  intro r
  induction r with
  | zero => rw [Nat.zero_mul]; rfl
  | succ r ih => rw [Nat.succ_mul, cutJ_row hC C (Nat.le_refl _), ih, cutR]
theorem enJ_iff (hC : 0 < C) : ∀ n, enJ O P Q C n = true ↔ ∀ j, j < n → O j = true → P (j / C) = true → Q (j % C) = true := by
  intro n
  induction n with
  | zero => exact ⟨fun _ j hj => by omega, fun _ => rfl⟩
  | succ n ih =>
    rw [enJ, Bool.and_eq_true, ih]
    constructor
    · intro ⟨h1, h2⟩ j hj o1 o2
      by_cases e : j = n
      · subst e
        rw [o1, o2] at h2
        cases hq : Q (j % C)
        · rw [hq] at h2; exact absurd h2 (by decide)
        · rfl
      · exact h1 j (by omega) o1 o2
    · intro h1
      refine ⟨fun j hj => h1 j (by omega), ?_⟩
      cases ho : O n
      · rfl
      · cases hp : P (n / C)
        · rfl
        · rw [h1 n (by omega) ho hp]; rfl
theorem anyR_iff {c : Nat} : ∀ r, anyR O P C c r = true ↔ ∃ i, i < r ∧ P i = true ∧ O (i * C + c) = true := by
  intro r
  induction r with
  | zero => exact ⟨fun z => Bool.noConfusion (show false = true from z), fun ⟨i, hi, _⟩ => by omega⟩
  | succ r ih =>
    rw [anyR, Bool.or_eq_true, ih, Bool.and_eq_true]
    constructor
    · rintro (⟨i, h1, h2⟩ | h2)
      · exact ⟨i, by omega, h2⟩
      · exact ⟨r, by omega, h2⟩
    · rintro ⟨i, h1, h2⟩
      by_cases e : i = r
      · subst e; exact Or.inr h2
      · exact Or.inl ⟨i, by omega, h2⟩
/-- the columns that go with some rows are the least -/
theorem en_cols (hC : 0 < C) : (enJ O P Q C (R * C) = true) ↔ ∀ c, c < C → anyR O P C c R = true → Q c = true := by
  rw [enJ_iff hC]
  constructor
  · intro w c hc ha
    obtain ⟨i, h1, h2, h3⟩ := (anyR_iff R).mp ha
    have : (i + 1) * C ≤ R * C := Nat.mul_le_mul_right _ h1
    rw [Nat.succ_mul] at this
    have dq : (i * C + c) / C = i := by rw [Nat.add_comm, Nat.add_mul_div_right _ _ hC, Nat.div_eq_of_lt hc, Nat.zero_add]
    have mq : (i * C + c) % C = c := by rw [Nat.add_comm, Nat.add_mul_mod_self_right, Nat.mod_eq_of_lt hc]
    have := w (i * C + c) (by omega) h3 (by rw [dq]; exact h2)
    rw [mq] at this
    exact this
  · intro w j hj ho hp
    have hm : j % C < C := Nat.mod_lt _ hC
    have hd : j / C < R := Nat.div_lt_of_lt_mul (by rw [Nat.mul_comm]; exact hj)
    refine w (j % C) hm ((anyR_iff R).mpr ⟨j / C, hd, hp, ?_⟩)
    rw [Nat.mul_comm, Nat.div_add_mod]; exact ho
theorem rowS_le {Q' : Nat → Bool} {r : Nat} (hv : ∀ k, k < R * C → 0 ≤ v k ∧ v k ≤ 60000000) (hr : r < R) (hq : ∀ c, c < C → Q c = true → Q' c = true) : ∀ c, c ≤ C → rowS v O Q C r c ≤ rowS v O Q' C r c := by
  intro c
  induction c with
  | zero => intro _; exact Int.le_refl _
  | succ c ih =>
    intro hc
    have i := ih (by omega)
    have : (r + 1) * C ≤ R * C := Nat.mul_le_mul_right _ hr
    rw [Nat.succ_mul] at this
    have b := hv (r * C + c) (by omega)
    have q := hq c (by omega)
    rw [rowS, rowS]
    cases ho : O (r * C + c)
    · rw [Bool.false_and, Bool.false_and, if_neg (by decide)]; omega
    · rw [Bool.true_and, Bool.true_and]
      by_cases z : Q c = true
      · rw [if_pos z, if_pos (q z)]; omega
      · rw [if_neg z]
        split <;> omega
theorem cutR_le {Q' : Nat → Bool} (hv : ∀ k, k < R * C → 0 ≤ v k ∧ v k ≤ 60000000) (hq : ∀ c, c < C → Q c = true → Q' c = true) : ∀ r, r ≤ R → cutR v O P Q C r ≤ cutR v O P Q' C r := by
  intro r
  induction r with
  | zero => intro _; exact Int.le_refl _
  | succ r ih =>
    intro hr
    have i := ih (by omega)
    have b := rowS_le (O := O) hv (show r < R by omega) hq C (Nat.le_refl _)
    rw [cutR, cutR]
    split <;> omega
theorem bsM_spec (hv : ∀ k, k < R * C → 0 ≤ v k ∧ v k ≤ 60000000) (hC : 0 < C) (C3 : C ≤ 3) {r0 c0 : Nat} {up : Bool} : ∀ n, ((bsM v O R C r0 c0 up n = -1 ∧ ∀ p, p < n → (okM up R r0 c0 p && enJ O (tB p) (cRw R p) C (R * C)) = false) ∨ (0 ≤ bsM v O R C r0 c0 up n ∧ ∃ p, p < n ∧ (okM up R r0 c0 p && enJ O (tB p) (cRw R p) C (R * C)) = true ∧ bsM v O R C r0 c0 up n = cutR v O (tB p) (cRw R p) C R)) ∧ ∀ p, p < n → (okM up R r0 c0 p && enJ O (tB p) (cRw R p) C (R * C)) = true → bsM v O R C r0 c0 up n ≤ cutR v O (tB p) (cRw R p) C R := by
  intro n
  induction n with
  | zero => exact ⟨Or.inl ⟨rfl, fun p hp => by omega⟩, fun p hp => by omega⟩
  | succ n ih =>
    obtain ⟨i1, i2⟩ := ih
    have cb := cut_b (O := O) (P := tB n) (Q := cRw R n) hv C3 R (Nat.le_refl _)
    rw [bsM, cutJ_eq hC]
    by_cases ok : (okM up R r0 c0 n && enJ O (tB n) (cRw R n) C (R * C)) = true
    · rw [if_pos ok]
      by_cases c : bsM v O R C r0 c0 up n < 0 ∨ cutR v O (tB n) (cRw R n) C R < bsM v O R C r0 c0 up n
      · rw [if_pos c]
        refine ⟨Or.inr ⟨cb.1, n, by omega, ok, rfl⟩, fun p hp hk => ?_⟩
        by_cases e : p = n
        · rw [e]; exact Int.le_refl _
        · have h2 := i2 p (by omega) hk
          rcases i1 with ⟨e1, e2⟩ | ⟨e1, -⟩
          · rw [e2 p (by omega)] at hk; cases hk
          · rcases c with c | c <;> omega
      · rw [if_neg c]
        refine ⟨?_, fun p hp hk => ?_⟩
        · rcases i1 with ⟨e1, e2⟩ | ⟨e1, p, h1, h2⟩
          · exact absurd (Or.inl (by omega)) c
          · exact Or.inr ⟨e1, p, by omega, h2⟩
        · by_cases e : p = n
          · rw [e]; exact Int.not_lt.mp (fun z => c (Or.inr z))
          · exact i2 p (by omega) hk
    · rw [if_neg ok]
      have okf : (okM up R r0 c0 n && enJ O (tB n) (cRw R n) C (R * C)) = false := by cases hh : (okM up R r0 c0 n && enJ O (tB n) (cRw R n) C (R * C)); rfl; exact absurd hh ok
      refine ⟨?_, fun p hp hk => ?_⟩
      · rcases i1 with ⟨e1, e2⟩ | ⟨e1, p, h1, h2⟩
        · refine Or.inl ⟨e1, fun p hp => ?_⟩
          by_cases e : p = n
          · rw [e]; exact okf
          · exact e2 p (by omega)
        · exact Or.inr ⟨e1, p, by omega, h2⟩
      · by_cases e : p = n
        · rw [e, okf] at hk; cases hk
        · exact i2 p (by omega) hk
/-- a side out of rows and columns -/
theorem side_bits {R C a b : Nat} (ha : a < 2 ^ R) (hb : b < 2 ^ C) : a + 2 ^ R * b < 2 ^ (R + C) ∧ (∀ r, r < R → (a + 2 ^ R * b).testBit r = a.testBit r) ∧ ∀ c, (a + 2 ^ R * b).testBit (R + c) = b.testBit c := by
  refine ⟨?_, fun r hr => ?_, fun c => ?_⟩
  · have : 2 ^ R * (b + 1) ≤ 2 ^ R * 2 ^ C := Nat.mul_le_mul_left _ hb
    rw [Nat.pow_add, Nat.mul_succ] at *
    omega
  · rw [Nat.add_comm, Nat.testBit_two_pow_mul_add _ ha, if_pos hr]
  · rw [Nat.add_comm a, Nat.testBit_two_pow_mul_add _ ha, if_neg (by omega)]
    congr 1
    omega
theorem low_bit {R p r : Nat} (hr : r < R) : (p % 2 ^ R).testBit r = p.testBit r := by
  rw [Nat.testBit_mod_two_pow, decide_eq_true hr, Bool.true_and]
/-- a side of rows and columns that are given by a test -/
theorem side_of {R C a : Nat} {q : Nat → Bool} (C3 : C ≤ 3) (ha : a < 2 ^ R) : ∃ p, p < 2 ^ (R + C) ∧ (∀ r, r < R → p.testBit r = a.testBit r) ∧ ∀ c, c < C → p.testBit (R + c) = q c := by
  have hY : ∀ i, C ≤ i → gB (bits q C) i = false := fun i hi => by
    rw [gB_bits C (by omega), decide_eq_false (by omega), Bool.false_and]
  obtain ⟨s1, s2, s3⟩ := side_bits ha (msk_lt hY)
  refine ⟨_, s1, s2, fun c hc => ?_⟩
  rw [s3, ← msk_bit, gB_bits C (by omega), decide_eq_true hc, Bool.true_and]
theorem rmA_spec {r0 c0 : Nat} : ∀ n, (rmA v O R C r0 c0 n = 2147483647 ∨ ∃ a, a < n ∧ a.testBit r0 = false ∧ rmA v O R C r0 c0 n = cutR v O (tB a) (qA O R C c0 a) C R) ∧ ∀ a, a < n → a.testBit r0 = false → rmA v O R C r0 c0 n ≤ cutR v O (tB a) (qA O R C c0 a) C R := by
  intro n
  induction n with
  | zero => exact ⟨Or.inl rfl, fun p hp => by omega⟩
  | succ n ih =>
    obtain ⟨i1, i2⟩ := ih
    have i1' : rmA v O R C r0 c0 n = 2147483647 ∨ ∃ a, a < n + 1 ∧ a.testBit r0 = false ∧ rmA v O R C r0 c0 n = cutR v O (tB a) (qA O R C c0 a) C R := by
      rcases i1 with i1 | ⟨a, h1, h2⟩
      · exact Or.inl i1
      · exact Or.inr ⟨a, by omega, h2⟩
    rw [rmA]
    by_cases ok : n.testBit r0 = true
    · rw [if_pos ok]
      refine ⟨i1', fun a ha hk => ?_⟩
      by_cases e : a = n
      · rw [e, ok] at hk; cases hk
      · exact i2 a (by omega) hk
    · rw [if_neg ok]
      have okf : n.testBit r0 = false := by cases hh : n.testBit r0; rfl; exact absurd hh ok
      split
      · rename_i z
        refine ⟨Or.inr ⟨n, by omega, okf, rfl⟩, fun a ha hk => ?_⟩
        by_cases e : a = n
        · rw [e]; exact Int.le_refl _
        · have := i2 a (by omega) hk; omega
      · rename_i z
        refine ⟨i1', fun a ha hk => ?_⟩
        by_cases e : a = n
        · rw [e]; exact Int.not_lt.mp z
        · exact i2 a (by omega) hk
theorem rmB_spec {r0 c0 : Nat} : ∀ n, (rmB v O R C r0 c0 n = v (r0 * C + c0) ∨ ∃ a, a < n ∧ (a.testBit r0 && !anyR O (tB a) C c0 R) = true ∧ rmB v O R C r0 c0 n = cutR v O (tB a) (qB O R C a) C R) ∧ rmB v O R C r0 c0 n ≤ v (r0 * C + c0) ∧ ∀ a, a < n → (a.testBit r0 && !anyR O (tB a) C c0 R) = true → rmB v O R C r0 c0 n ≤ cutR v O (tB a) (qB O R C a) C R := by
  intro n
  induction n with
  | zero => exact ⟨Or.inl rfl, Int.le_refl _, fun p hp => by omega⟩
  | succ n ih =>
    obtain ⟨i1, i0, i2⟩ := ih
    have i1' : rmB v O R C r0 c0 n = v (r0 * C + c0) ∨ ∃ a, a < n + 1 ∧ (a.testBit r0 && !anyR O (tB a) C c0 R) = true ∧ rmB v O R C r0 c0 n = cutR v O (tB a) (qB O R C a) C R := by
      rcases i1 with i1 | ⟨a, h1, h2⟩
      · exact Or.inl i1
      · exact Or.inr ⟨a, by omega, h2⟩
    rw [rmB]
    by_cases ok : (n.testBit r0 && !anyR O (tB n) C c0 R) = true
    · rw [if_pos ok]
      split
      · rename_i z
        refine ⟨Or.inr ⟨n, by omega, ok, rfl⟩, by omega, fun a ha hk => ?_⟩
        by_cases e : a = n
        · rw [e]; exact Int.le_refl _
        · have := i2 a (by omega) hk; omega
      · rename_i z
        refine ⟨i1', i0, fun a ha hk => ?_⟩
        by_cases e : a = n
        · rw [e]; exact Int.not_lt.mp z
        · exact i2 a (by omega) hk
    · rw [if_neg ok]
      refine ⟨i1', i0, fun a ha hk => ?_⟩
      by_cases e : a = n
      · rw [e] at hk; exact absurd hk ok
      · exact i2 a (by omega) hk
theorem bsM_up (hv : ∀ k, k < R * C → 0 ≤ v k ∧ v k ≤ 60000000) (hC : 0 < C) (C3 : C ≤ 3) (R4 : R ≤ 4) {r0 c0 : Nat} (hr : r0 < R) (hc : c0 < C) : bsM v O R C r0 c0 true (2 ^ (R + C)) = rmA v O R C r0 c0 (2 ^ R) := by
  obtain ⟨m1, m2⟩ := bsM_spec (O := O) hv hC C3 (r0 := r0) (c0 := c0) (up := true) (2 ^ (R + C))
  obtain ⟨a1, a2⟩ := rmA_spec (v := v) (O := O) (R := R) (C := C) (r0 := r0) (c0 := c0) (2 ^ R)
  have p2 : 0 < 2 ^ R := Nat.two_pow_pos R
  have ub : ∀ a, a < 2 ^ R → a.testBit r0 = false → ∃ p, p < 2 ^ (R + C) ∧ (okM true R r0 c0 p && enJ O (tB p) (cRw R p) C (R * C)) = true ∧ cutR v O (tB p) (cRw R p) C R = cutR v O (tB a) (qA O R C c0 a) C R := by
    intro a ha h0
    obtain ⟨p, b1, b2, b3⟩ := side_of (q := qA O R C c0 a) C3 ha
    refine ⟨p, b1, ?_, cutR_cg (fun i hi => b3 i hi) R (fun i hi => b2 i hi)⟩
    rw [Bool.and_eq_true]
    refine ⟨?_, (en_cols hC).mpr fun c hc1 ha1 => ?_⟩
    · unfold okM
      rw [if_pos rfl, b2 r0 hr, b3 c0 hc, h0]
      simp
    · show p.testBit (R + c) = true
      rw [b3 c hc1, Bool.or_eq_true]
      exact Or.inl (by rw [← anyR_cg (P := tB p) R (fun i hi => b2 i hi)]; exact ha1)
  have le1 : bsM v O R C r0 c0 true (2 ^ (R + C)) ≤ rmA v O R C r0 c0 (2 ^ R) := by
    rcases a1 with e | ⟨a, h1, h2, h3⟩
    · have := a2 0 p2 (Nat.zero_testBit _)
      have := cut_b (O := O) (P := tB 0) (Q := qA O R C c0 0) hv C3 R (Nat.le_refl _)
      omega
    · obtain ⟨p, q1, q2, q3⟩ := ub a h1 h2
      have := m2 p q1 q2
      omega
  have le2 : rmA v O R C r0 c0 (2 ^ R) ≤ bsM v O R C r0 c0 true (2 ^ (R + C)) := by
    rcases m1 with ⟨e1, e2⟩ | ⟨e1, p, h1, h2, h3⟩
    · obtain ⟨p, q1, q2, q3⟩ := ub 0 p2 (Nat.zero_testBit _)
      rw [e2 p q1] at q2; cases q2
    · rw [Bool.and_eq_true] at h2
      obtain ⟨k1, k2⟩ := h2
      unfold okM at k1
      rw [if_pos rfl, Bool.and_eq_true] at k1
      have z0 : (p % 2 ^ R).testBit r0 = false := by rw [low_bit hr]; cases hh : p.testBit r0; rfl; rw [hh] at k1; exact absurd k1.1 (by decide)
      have l1 := a2 (p % 2 ^ R) (Nat.mod_lt _ p2) z0
      have l2 := cutR_le (O := O) (P := tB (p % 2 ^ R)) (Q := qA O R C c0 (p % 2 ^ R)) (Q' := cRw R p) hv (fun c hc1 w => by
        rcases Bool.or_eq_true _ _ ▸ w with w | w
        · exact (en_cols hC).mp k2 c hc1 (by rw [anyR_cg (P' := tB (p % 2 ^ R)) R (fun i hi => (low_bit hi).symm)]; exact w)
        · rw [of_decide_eq_true w]; exact k1.2) R (Nat.le_refl _)
      have l3 := cutR_cg (v := v) (O := O) (C := C) (P := tB (p % 2 ^ R)) (P' := tB p) (Q := cRw R p) (Q' := cRw R p) (fun _ _ => rfl) R (fun i hi => low_bit hi)
      omega
  omega
theorem bsM_down (hv : ∀ k, k < R * C → 0 ≤ v k ∧ v k ≤ 60000000) (hC : 0 < C) (C3 : C ≤ 3) {r0 c0 : Nat} (hr : r0 < R) (hc : c0 < C) (hO : O (r0 * C + c0) = false) : (if bsM v O R C r0 c0 false (2 ^ (R + C)) < v (r0 * C + c0) then bsM v O R C r0 c0 false (2 ^ (R + C)) else v (r0 * C + c0)) = rmB v O R C r0 c0 (2 ^ R) := by
  obtain ⟨m1, m2⟩ := bsM_spec (O := O) hv hC C3 (r0 := r0) (c0 := c0) (up := false) (2 ^ (R + C))
  obtain ⟨a1, a0, a2⟩ := rmB_spec (v := v) (O := O) (R := R) (C := C) (r0 := r0) (c0 := c0) (2 ^ R)
  have p2 : 0 < 2 ^ R := Nat.two_pow_pos R
  have ub : ∀ a, a < 2 ^ R → (a.testBit r0 && !anyR O (tB a) C c0 R) = true → ∃ p, p < 2 ^ (R + C) ∧ (okM false R r0 c0 p && enJ O (tB p) (cRw R p) C (R * C)) = true ∧ cutR v O (tB p) (cRw R p) C R = cutR v O (tB a) (qB O R C a) C R := by
    intro a ha h0
    obtain ⟨p, b1, b2, b3⟩ := side_of (q := qB O R C a) C3 ha
    refine ⟨p, b1, ?_, cutR_cg (fun i hi => b3 i hi) R (fun i hi => b2 i hi)⟩
    rw [Bool.and_eq_true]
    refine ⟨?_, (en_cols hC).mpr fun c hc1 ha1 => ?_⟩
    · unfold okM
      rw [if_neg (by decide), b2 r0 hr, b3 c0 hc]
      exact h0
    · show p.testBit (R + c) = true
      rw [b3 c hc1]
      show anyR O (tB a) C c R = true
      rw [← anyR_cg (P := tB p) R (fun i hi => b2 i hi)]; exact ha1
  have one : (((2 ^ r0 : Nat).testBit r0 && !anyR O (tB (2 ^ r0)) C c0 R)) = true := by
    rw [Nat.testBit_two_pow_self, Bool.true_and]
    cases hh : anyR O (tB (2 ^ r0)) C c0 R
    · rfl
    · obtain ⟨i, i1, i2, i3⟩ := (anyR_iff R).mp hh
      have : i = r0 := by
        by_cases e : i = r0
        · exact e
        · have i2' : (2 ^ r0 : Nat).testBit i = true := i2
          rw [Nat.testBit_two_pow_of_ne (by omega)] at i2'; cases i2'
      rw [this, hO] at i3; cases i3
  have le1 : ∀ a, a < 2 ^ R → (a.testBit r0 && !anyR O (tB a) C c0 R) = true → bsM v O R C r0 c0 false (2 ^ (R + C)) ≤ cutR v O (tB a) (qB O R C a) C R := fun a ha hk => by
    obtain ⟨p, q1, q2, q3⟩ := ub a ha hk
    have := m2 p q1 q2
    omega
  have le2 : rmB v O R C r0 c0 (2 ^ R) ≤ bsM v O R C r0 c0 false (2 ^ (R + C)) := by
    rcases m1 with ⟨e1, e2⟩ | ⟨e1, p, h1, h2, h3⟩
    · obtain ⟨p, q1, q2, q3⟩ := ub (2 ^ r0) (Nat.pow_lt_pow_right (by decide) hr) one
      rw [e2 p q1] at q2; cases q2
    · rw [Bool.and_eq_true] at h2
      obtain ⟨k1, k2⟩ := h2
      unfold okM at k1
      rw [if_neg (by decide), Bool.and_eq_true] at k1
      have ag : ∀ c, anyR O (tB p) C c R = anyR O (tB (p % 2 ^ R)) C c R := fun c => anyR_cg R (fun i hi => (low_bit hi).symm)
      have z0 : ((p % 2 ^ R).testBit r0 && !anyR O (tB (p % 2 ^ R)) C c0 R) = true := by
        rw [low_bit hr, k1.1, Bool.true_and, ← ag]
        cases hh : anyR O (tB p) C c0 R
        · rfl
        · have : cRw R p c0 = true := (en_cols hC).mp k2 c0 hc hh
          have k12 := k1.2
          rw [show p.testBit (R + c0) = true from this] at k12
          exact absurd k12 (by decide)
      have l1 := a2 (p % 2 ^ R) (Nat.mod_lt _ p2) z0
      have l2 := cutR_le (O := O) (P := tB (p % 2 ^ R)) (Q := qB O R C (p % 2 ^ R)) (Q' := cRw R p) hv (fun c hc1 w => (en_cols hC).mp k2 c hc1 (by rw [ag]; exact w)) R (Nat.le_refl _)
      have l3 := cutR_cg (v := v) (O := O) (C := C) (P := tB (p % 2 ^ R)) (P' := tB p) (Q := cRw R p) (Q' := cRw R p) (fun _ _ => rfl) R (fun i hi => low_bit hi)
      omega
  by_cases z : bsM v O R C r0 c0 false (2 ^ (R + C)) < v (r0 * C + c0)
  · rw [if_pos z]
    rcases a1 with e | ⟨a, h1, h2, h3⟩
    · omega
    · have := le1 a h1 h2; omega
  · rw [if_neg z]
    rcases a1 with e | ⟨a, h1, h2, h3⟩
    · omega
    · have := le1 a h1 h2; omega
end MST
