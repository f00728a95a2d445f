/-! THE NEXT SET OF A SET, AND THE BEST OF MANY SETS -/
section BST
theorem and_low (a b : Nat) : a &&& b = 2 * (a / 2 &&& b / 2) + (a % 2) * (b % 2) := by
  have h1 : (a &&& b) / 2 = a / 2 &&& b / 2 := Nat.and_div_two
  have h2 : (a &&& b) % 2 = 1 ↔ a % 2 = 1 ∧ b % 2 = 1 := Nat.and_mod_two_eq_one
  generalize a &&& b = x at *
  generalize a / 2 &&& b / 2 = y at *
  rcases Nat.mod_two_eq_zero_or_one a with ha | ha <;> rcases Nat.mod_two_eq_zero_or_one b with hb | hb <;> rw [ha, hb] <;> omega
theorem and_par {m T : Nat} (h : T &&& m = T) : T / 2 &&& m / 2 = T / 2 ∧ T % 2 ≤ m % 2 ∧ T ≤ m ∧ T / 2 ≤ m / 2 := by
  have h1 : (T &&& m) / 2 = T / 2 &&& m / 2 := Nat.and_div_two
  have h2 : (T &&& m) % 2 = 1 ↔ T % 2 = 1 ∧ m % 2 = 1 := Nat.and_mod_two_eq_one
  have h3 : T &&& m ≤ m := Nat.and_le_right
  rw [h] at h1 h2 h3
  refine ⟨h1.symm, ?_, h3, by omega⟩
  rcases Nat.mod_two_eq_zero_or_one T with ha | ha
  · omega
  · have := (h2.mp ha).2; omega
theorem nx_a : ∀ n m T : Nat, m < 2 ^ n → T &&& m = T → (2 ^ n - 1 - (m - T)) &&& m = T := by
  intro n
  induction n with
  | zero =>
    intro m T hm h
    have : m = 0 := by omega
    subst this
    have := (and_par h).2.2.1
    rw [Nat.and_zero]; omega
  | succ n ih =>
    intro m T hm h
    obtain ⟨p1, p2, p3, p4⟩ := and_par h
    have e2 : 2 ^ (n + 1) = 2 * 2 ^ n := by rw [Nat.pow_succ]; omega
    have i := ih (m / 2) (T / 2) (by omega) p1
    rw [and_low]
    have a1 : (2 ^ (n + 1) - 1 - (m - T)) / 2 = 2 ^ n - 1 - (m / 2 - T / 2) := by omega
    rw [a1, i]
    rcases Nat.mod_two_eq_zero_or_one m with hm2 | hm2
    · rw [hm2]; omega
    · rw [hm2]; omega
theorem nx_b : ∀ n m T : Nat, m < 2 ^ n → T &&& m = T → T < m → T < ((2 ^ n - (m - T)) &&& m) ∧ ∀ T2, T2 &&& m = T2 → T < T2 → ((2 ^ n - (m - T)) &&& m) ≤ T2 := by
  intro n
  induction n with
  | zero => intro m T hm h hl; omega
  | succ n ih =>
    intro m T hm h hl
    obtain ⟨p1, p2, p3, p4⟩ := and_par h
    have e2 : 2 ^ (n + 1) = 2 * 2 ^ n := by rw [Nat.pow_succ]; omega
    by_cases c : T % 2 = m % 2
    · have i := ih (m / 2) (T / 2) (by omega) p1 (by omega)
      have a1 : (2 ^ (n + 1) - (m - T)) / 2 = 2 ^ n - (m / 2 - T / 2) := by omega
      have a2 : (2 ^ (n + 1) - (m - T)) % 2 = 0 := by omega
      rw [and_low, a1, a2]
      refine ⟨by omega, fun T2 h2 hl2 => ?_⟩
      obtain ⟨r1, r2, r3, r4⟩ := and_par h2
      by_cases c2 : T / 2 < T2 / 2
      · have := i.2 _ r1 c2; omega
      · omega
    · have a1 : (2 ^ (n + 1) - (m - T)) / 2 = 2 ^ n - 1 - (m / 2 - T / 2) := by omega
      have a2 : (2 ^ (n + 1) - (m - T)) % 2 = 1 := by omega
      have i := nx_a n (m / 2) (T / 2) (by omega) p1
      have hm1 : m % 2 = 1 := by omega
      rw [and_low, a1, a2, i, hm1]
      exact ⟨by omega, fun T2 h2 hl2 => by omega⟩
/-- within -/
def subB (T m : Int32) : Prop := ∀ i, gB T i = true → gB m i = true
theorem sub_and {T m : Int32} (s : subB T m) : msk T &&& msk m = msk T := Nat.eq_of_testBit_eq fun i => by
  rw [Nat.testBit_and]
  have := s i
  rw [msk_bit, msk_bit] at this
  cases h1 : (msk T).testBit i
  · rfl
  · rw [this h1]; rfl
theorem sub_le {T m : Int32} (s : subB T m) : msk T ≤ msk m := (and_par (sub_and s)).2.2.1
theorem nx_I {T m : Int32} (s : subB T m) (hl : msk T < msk m) : subB ((T - m) &&& m) m ∧ msk T < msk ((T - m) &&& m) ∧ ∀ T2, subB T2 m → msk T < msk T2 → msk ((T - m) &&& m) ≤ msk T2 := by
  have hm : msk m < 2 ^ 32 := m.toBitVec.isLt
  have e : msk ((T - m) &&& m) = (2 ^ 32 - (msk m - msk T)) &&& msk m := by
    unfold msk
    rw [Int32.toBitVec_and, Int32.toBitVec_sub, BitVec.toNat_and, BitVec.toNat_sub]
    have e1 : m.toBitVec.toNat = msk m := rfl
    have e2 : T.toBitVec.toNat = msk T := rfl
    rw [e1, e2, Nat.mod_eq_of_lt (by omega)]
    congr 1
    omega
  obtain ⟨n1, n2⟩ := nx_b 32 (msk m) (msk T) hm (sub_and s) hl
  rw [e]
  refine ⟨fun i hi => ?_, n1, fun T2 s2 l2 => n2 _ (sub_and s2) l2⟩
  rw [gB_and] at hi
  cases hb : gB m i
  · rw [hb, Bool.and_false] at hi; exact hi
  · rfl
/-- the best of the sets of P that fit, b0 being met before: the least cost, and of those the first -/
def best (F : Int32 → Bool) (c : Int32 → Int) (P : Int32 → Prop) (b0 b1 : Int32 × Int) : Prop :=
  (b1 = b0 ∧ ∀ T, P T → F T = true → b0.2 ≤ c T) ∨ (P b1.1 ∧ F b1.1 = true ∧ b1.2 = c b1.1 ∧ b1.2 < b0.2 ∧ ∀ T, P T → F T = true → b1.2 ≤ c T ∧ (c T = b1.2 → msk b1.1 ≤ msk T))
variable {F : Int32 → Bool} {c : Int32 → Int} {P P1 P2 : Int32 → Prop} {b0 b1 b2 : Int32 × Int}
theorem best_two (h1 : best F c P1 b0 b1) (h2 : best F c P2 b1 b2) (ho : ∀ T1 T2, P1 T1 → P2 T2 → msk T1 < msk T2) (hp : ∀ T, P T ↔ P1 T ∨ P2 T) : best F c P b0 b2 := by
  rcases h1 with ⟨e1, a1⟩ | ⟨p1, f1, q1, l1, a1⟩
  · rw [e1] at h2
    rcases h2 with ⟨e2, a2⟩ | ⟨p2, f2, q2, l2, a2⟩
    · exact Or.inl ⟨e2, fun T hT hF => ((hp T).mp hT).elim (fun z => a1 T z hF) (fun z => a2 T z hF)⟩
    · refine Or.inr ⟨(hp _).mpr (Or.inr p2), f2, q2, l2, fun T hT hF => ?_⟩
      rcases (hp T).mp hT with z | z
      · have := a1 T z hF; exact ⟨by omega, fun e => by omega⟩
      · exact a2 T z hF
  · rcases h2 with ⟨e2, a2⟩ | ⟨p2, f2, q2, l2, a2⟩
    · rw [e2]
      refine Or.inr ⟨(hp _).mpr (Or.inl p1), f1, q1, l1, fun T hT hF => ?_⟩
      rcases (hp T).mp hT with z | z
      · exact a1 T z hF
      · exact ⟨a2 T z hF, fun _ => Nat.le_of_lt (ho _ _ p1 z)⟩
    · refine Or.inr ⟨(hp _).mpr (Or.inr p2), f2, q2, by omega, fun T hT hF => ?_⟩
      rcases (hp T).mp hT with z | z
      · have := (a1 T z hF).1; exact ⟨by omega, fun e => by omega⟩
      · exact a2 T z hF
theorem best_none (hn : ∀ T, P T → F T = false) : best F c P b0 b0 := Or.inl ⟨rfl, fun T hT hF => by rw [hn T hT] at hF; cases hF⟩
theorem best_cg (hp : ∀ T, P1 T ↔ P T) (h : best F c P b0 b1) : best F c P1 b0 b1 := by
  rcases h with ⟨e2, a2⟩ | ⟨p2, f2, q2, l2, a2⟩
  · exact Or.inl ⟨e2, fun T hT => a2 T ((hp T).mp hT)⟩
  · exact Or.inr ⟨(hp _).mpr p2, f2, q2, l2, fun T hT => a2 T ((hp T).mp hT)⟩
theorem msk_inj {x y : Int32} (h : msk x = msk y) : x = y := Int32.toBitVec_inj.mp (BitVec.eq_of_toNat_eq h)
/-- the best of all is the best of those in which every other has one that fits as well, and costs less -/
theorem best_same (h1 : best F c P1 b0 b1) (h2 : best F c P2 b0 b2) (hs : ∀ T, P2 T → P1 T) (hr : ∀ T, P1 T → F T = true → P2 T ∨ ∃ T2, P2 T2 ∧ F T2 = true ∧ c T2 < c T) : b1 = b2 := by
  rcases h1 with ⟨e1, a1⟩ | ⟨p1, f1, q1, l1, a1⟩
  · rcases h2 with ⟨e2, a2⟩ | ⟨p2, f2, q2, l2, a2⟩
    · rw [e1, e2]
    · have := a1 _ (hs _ p2) f2; omega
  · have p12 : P2 b1.1 := by
      rcases hr _ p1 f1 with z | ⟨T2, z1, z2, z3⟩
      · exact z
      · have := (a1 T2 (hs _ z1) z2).1; omega
    rcases h2 with ⟨e2, a2⟩ | ⟨p2, f2, q2, l2, a2⟩
    · have := a2 _ p12 f1; omega
    · have x1 := a1 _ (hs _ p2) f2
      have x2 := a2 _ p12 f1
      have ec : b1.2 = b2.2 := by omega
      have em : b1.1 = b2.1 := msk_inj (Nat.le_antisymm (x1.2 (by omega)) (x2.2 (by omega)))
      exact Prod.ext em ec
end BST
