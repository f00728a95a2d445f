/-! SETS AS BITS: the highest bit, the next smaller set, the best of many -/
section MSK
variable {d : Nat} {h : aH} {X : Nat → aH → Prop}
def msk (x : Int32) : Nat := x.toBitVec.toNat
theorem msk_bit {x : Int32} {i : Nat} : gB x i = (msk x).testBit i := rfl
theorem msk_lt {x : Int32} {n : Nat} (hx : ∀ i, n ≤ i → gB x i = false) : msk x < 2 ^ n := Nat.lt_pow_two_of_testBit _ fun i hi => hx i hi
theorem msk_ge {x : Int32} {i : Nat} (hx : gB x i = true) : 2 ^ i ≤ msk x := Nat.ge_two_pow_of_testBit hx
theorem msk_nI {x : Int32} (hx : msk x < 2 ^ 31) : x = nI (msk x) := by
  have h1 : x.toInt = (msk x : Int) := by
    show x.toBitVec.toInt = _
    rw [BitVec.toInt_eq_toNat_cond]
    have : x.toBitVec.toNat = msk x := rfl
    rw [if_pos (by omega), this]
  exact ti_inj (by rw [h1, ti_n (by omega)])
theorem msk_ti {x : Int32} (hx : msk x < 2 ^ 31) : x.toInt = (msk x : Int) := by
  have := congrArg Int32.toInt (msk_nI hx)
  rw [this, ti_n (by omega)]
theorem nat_lt_bit {x y t : Nat} (h1 : x.testBit t = false) (h2 : y.testBit t = true) (h3 : ∀ i, t < i → x.testBit i = y.testBit i) : x < y := by
  have e1 : x / 2 ^ (t + 1) = y / 2 ^ (t + 1) := Nat.eq_of_testBit_eq fun i => by
    rw [Nat.testBit_div_two_pow, Nat.testBit_div_two_pow]; exact h3 _ (by omega)
  have e2 : x % 2 ^ (t + 1) < 2 ^ t := Nat.lt_pow_two_of_testBit _ fun i hi => by
    rw [Nat.testBit_mod_two_pow]
    by_cases e : i = t
    · rw [e, h1, Bool.and_false]
    · rw [decide_eq_false (by omega), Bool.false_and]
  have e3 : 2 ^ t ≤ y % 2 ^ (t + 1) := Nat.ge_two_pow_of_testBit (i := t) (by rw [Nat.testBit_mod_two_pow, h2, decide_eq_true (by omega)]; rfl)
  have d1 := Nat.div_add_mod x (2 ^ (t + 1))
  have d2 := Nat.div_add_mod y (2 ^ (t + 1))
  rw [e1] at d1
  omega
theorem msk_lt_bit {x y : Int32} {t : Nat} (h1 : gB x t = false) (h2 : gB y t = true) (h3 : ∀ i, t < i → gB x i = gB y i) : msk x < msk y := nat_lt_bit h1 h2 h3
theorem ush_n {n k : Nat} (hk : k < 32) (hn : n < 2 ^ 31) : aUshr (nI n) (nI k) = nI (n / 2 ^ k) := by
  have e1 : (nI k).toUInt32 &&& Int32.toUInt32 31 = UInt32.ofNat k := by
    have : ∀ s : Fin 32, (nI s.val).toUInt32 &&& Int32.toUInt32 31 = UInt32.ofNat s.val := by decide +kernel
    exact this ⟨k, hk⟩
  have z : ∀ s : Fin 32, ((UInt32.ofNat s.val).toBitVec % 32#32).toNat = s.val := by decide +kernel
  have a2 : (aUshr (nI n) (nI k)).toBitVec = (nI n).toBitVec >>> k := by
    unfold aUshr
    rw [e1]
    show ((nI n).toUInt32 >>> UInt32.ofNat k).toBitVec = _
    rw [UInt32.toBitVec_shiftRight]
    show (nI n).toBitVec >>> ((UInt32.ofNat k).toBitVec % 32#32) = _
    rw [BitVec.ushiftRight_eq', z ⟨k, hk⟩]
  have hm : ∀ j, j < 2 ^ 31 → msk (nI j) = j := fun j hj => by
    have h1 : (nI j).toInt = (j : Int) := ti_n (by omega)
    have h2 : (nI j).toBitVec.toInt = (j : Int) := h1
    rw [BitVec.toInt_eq_toNat_cond] at h2
    have : (nI j).toBitVec.toNat < 2 ^ 32 := (nI j).toBitVec.isLt
    unfold msk
    split at h2 <;> omega
  have h3 : msk (aUshr (nI n) (nI k)) = n / 2 ^ k := by
    unfold msk
    rw [a2, BitVec.toNat_ushiftRight, Nat.shiftRight_eq_div_pow]
    exact congrArg (· / 2 ^ k) (hm n hn)
  have := Nat.div_le_self n (2 ^ k)
  rw [msk_nI (x := aUshr (nI n) (nI k)) (by rw [h3]; omega), h3]
theorem lg_m {u m : Nat} (hu : u < 8) (h1 : 2 ^ u ≤ m) (h2 : m < 2 ^ (u + 1)) : (m < 16 → m < 4 → u = m / 2) ∧ (m < 16 → ¬ m < 4 → u = 2 + m / 4 / 2) ∧ (¬ m < 16 → m / 16 < 4 → u = 4 + m / 16 / 2) ∧ (¬ m < 16 → ¬ m / 16 < 4 → u = 6 + m / 16 / 4 / 2) := by
  have : u = 0 ∨ u = 1 ∨ u = 2 ∨ u = 3 ∨ u = 4 ∨ u = 5 ∨ u = 6 ∨ u = 7 := by omega
  rcases this with rfl | rfl | rfl | rfl | rfl | rfl | rfl | rfl <;> (simp only [Nat.reduceAdd, Nat.reducePow] at h1 h2; refine ⟨fun _ _ => ?_, fun _ _ => ?_, fun _ _ => ?_, fun _ _ => ?_⟩ <;> omega)
theorem nlz_tail {K : Int32 → aH → Prop} {u m c : Nat} (hu : u < 8) (h1 : 2 ^ u ≤ m) (h2 : m < 2 ^ (u + 1)) (hc : 7 ≤ c) (hc2 : c ≤ 31) (w : K (nI (c - u)) h) : Wp d 202 (48, [some (vI (nI m)), some (vI (nI c))], [], h) (RI K X) := by
  obtain ⟨g1, g2, g3, g4⟩ := lg_m hu h1 h2
  have hm : m < 256 := Nat.lt_of_lt_of_le h2 (Nat.pow_le_pow_right (by omega) (show u + 1 ≤ 8 by omega))
  have hmI : (nI m).toInt = m := ti_n (by omega)
  have s1 : ∀ x, x < 256 → aUshr (nI x) 1 = nI (x / 2) := fun x hx => ush_n (k := 1) (by omega) (by omega)
  have s2 : aUshr (nI m) 2 = nI (m / 4) := ush_n (k := 2) (by omega) (by omega)
  have s4 : aUshr (nI m) 4 = nI (m / 16) := ush_n (k := 4) (by omega) (by omega)
  have s42 : aUshr (nI (m / 16)) 2 = nI (m / 16 / 4) := ush_n (k := 2) (by omega) (by omega)
  have hcI : (nI c).toInt = c := ti_n (by omega)
  have e2 : nI c + (-2) = nI (c - 2) := ti_inj (by rw [ti_add (by rw [hcI]; have : (-2 : Int32).toInt = -2 := rfl; omega) (by rw [hcI]; have : (-2 : Int32).toInt = -2 := rfl; omega), hcI, ti_n (by omega)]; have : (-2 : Int32).toInt = -2 := rfl; omega)
  have e4 : nI c + (-4) = nI (c - 4) := ti_inj (by rw [ti_add (by rw [hcI]; have : (-4 : Int32).toInt = -4 := rfl; omega) (by rw [hcI]; have : (-4 : Int32).toInt = -4 := rfl; omega), hcI, ti_n (by omega)]; have : (-4 : Int32).toInt = -4 := rfl; omega)
  have hc4 : (nI (c - 4)).toInt = ((c - 4 : Nat) : Int) := ti_n (by omega)
  have e6 : nI (c - 4) + (-2) = nI (c - 6) := ti_inj (by rw [ti_add (by rw [hc4]; have : (-2 : Int32).toInt = -2 := rfl; omega) (by rw [hc4]; have : (-2 : Int32).toInt = -2 := rfl; omega), hc4, ti_n (by omega)]; have : (-2 : Int32).toInt = -2 := rfl; omega)
  have sb : ∀ a b : Nat, b ≤ a → a ≤ 31 → nI a - nI b = nI (a - b) := fun a b hb ha => ti_inj (by rw [ti_sub (by rw [ti_n (by omega), ti_n (by omega)]; omega) (by rw [ti_n (by omega), ti_n (by omega)]; omega), ti_n (by omega), ti_n (by omega), ti_n (by omega)]; omega)
  have hm16 : (nI (m / 16)).toInt = ((m / 16 : Nat) : Int) := ti_n (by omega)
  refine w202_48 ⟨fun c1 => ⟨fun c2 => ?_, fun c2 v0 q0 v1 q1 => ?_⟩, fun c1 v2 q2 v3 q3 => ⟨fun c2 => ?_, fun c2 v4 q4 v5 q5 => ?_⟩⟩
  · rw [hmI] at c1 c2
    have := g1 (by omega) (by omega)
    rw [s1 m (by omega), sb _ _ (by omega) (by omega), ← this]; exact w
  · rw [hmI] at c1 c2
    have := g2 (by omega) (by omega)
    rw [q0, q1, s2, e2, s1 _ (by omega), sb _ _ (by omega) (by omega), show c - 2 - m / 4 / 2 = c - u by omega]; exact w
  · rw [hmI] at c1
    rw [q3, s4, hm16] at c2
    have := g3 (by omega) (by omega)
    rw [q2, q3, s4, e4, s1 _ (by omega), sb _ _ (by omega) (by omega), show c - 4 - m / 16 / 2 = c - u by omega]; exact w
  · rw [hmI] at c1
    rw [q3, s4, hm16] at c2
    have := g4 (by omega) (by omega)
    rw [q4, q2, q5, q3, s4, s42, e4, e6, s1 _ (by omega), sb _ _ (by omega) (by omega), show c - 6 - m / 16 / 4 / 2 = c - u by omega]; exact w
theorem nlz_ok {K : Int32 → aH → Prop} {x : Int32} {t : Nat} (ht : t < 31) (h1 : gB x t = true) (h0 : ∀ i, t < i → gB x i = false) (w : K (nI (31 - t)) h) : CI d 202 [vI x] h K X := by
  have l1 := msk_ge h1
  have l2 := msk_lt (x := x) (n := t + 1) (fun i hi => h0 i (by omega))
  generalize hn : msk x = n at *
  have p31 : 2 ^ (t + 1) ≤ 2 ^ 31 := Nat.pow_le_pow_right (by omega) (by omega)
  have hx : x = nI n := by rw [← hn]; exact msk_nI (by omega)
  have hxI : (nI n).toInt = n := ti_n (by omega)
  have p0 : 1 ≤ 2 ^ t := Nat.one_le_two_pow
  have t2 : 2 ^ (t + 1) = 2 * 2 ^ t := by rw [Nat.pow_succ]; omega
  have big : ∀ k, t < k → n < 2 ^ k := fun k hk => Nat.lt_of_lt_of_le l2 (Nat.pow_le_pow_right (by omega) hk)
  have sml : ∀ k, k ≤ t → 2 ^ k ≤ n := fun k hk => Nat.le_trans (Nat.pow_le_pow_right (by omega) hk) l1
  have dv : ∀ k, k ≤ t → 2 ^ (t - k) ≤ n / 2 ^ k ∧ n / 2 ^ k < 2 ^ (t - k + 1) := fun k hk => by
    have e1 : 2 ^ t = 2 ^ (t - k) * 2 ^ k := by rw [← Nat.pow_add]; congr 1; omega
    have e2 : 2 ^ (t + 1) = 2 ^ (t - k + 1) * 2 ^ k := by rw [← Nat.pow_add]; congr 1; omega
    have pk : 0 < 2 ^ k := Nat.pow_pos (by omega)
    exact ⟨(Nat.le_div_iff_mul_le pk).mpr (by omega), (Nat.div_lt_iff_lt_mul pk).mpr (by omega)⟩
  subst hx
  have u8 : aUshr (nI n) 8 = nI (n / 2 ^ 8) := ush_n (k := 8) (by omega) (by omega)
  have u16 : aUshr (nI n) 16 = nI (n / 2 ^ 16) := ush_n (k := 16) (by omega) (by omega)
  have d16 : n / 2 ^ 16 < 2 ^ 31 := by have := Nat.div_le_self n (2 ^ 16); omega
  have u24 : aUshr (nI (n / 2 ^ 16)) 8 = nI (n / 2 ^ 24) := by
    have := ush_n (n := n / 2 ^ 16) (k := 8) (by omega) d16
    rw [Nat.div_div_eq_div_mul] at this
    exact this
  have i16 : (nI (n / 2 ^ 16)).toInt = ((n / 2 ^ 16 : Nat) : Int) := ti_n (by omega)
  refine m202 ⟨fun c0 => ⟨fun c1 => ⟨fun c2 => ?_, fun c2 v0 q0 v1 q1 => ?_⟩, fun c1 v2 q2 v3 q3 => ⟨fun c2 => ?_, fun c2 v4 q4 v5 q5 => ?_⟩⟩, fun c0 => absurd (by rw [hxI]; omega) c0⟩
  · rw [hxI] at c1 c2
    have : t < 8 := Nat.lt_of_not_le fun q => by have := sml 8 q; omega
    exact nlz_tail (c := 31) this l1 l2 (by omega) (by omega) w
  · rw [hxI] at c1 c2
    have a1 : 8 ≤ t := Nat.le_of_not_lt fun q => by have := big 8 q; omega
    have a2 : t < 16 := Nat.lt_of_not_le fun q => by have := sml 16 q; omega
    rw [q1, u8, q0]
    have := dv 8 a1
    refine nlz_tail (c := 23) (u := t - 8) (by omega) this.1 this.2 (by omega) (by omega) ?_
    rw [show 23 - (t - 8) = 31 - t by omega]; exact w
  · rw [hxI] at c1
    rw [q3, u16, i16] at c2
    have a1 : 16 ≤ t := Nat.le_of_not_lt fun q => by have := big 16 q; omega
    have d1 := dv 16 a1
    have a2 : t < 24 := Nat.lt_of_not_le fun q => by
      have : 2 ^ 8 ≤ 2 ^ (t - 16) := Nat.pow_le_pow_right (by omega) (by omega)
      omega
    rw [q3, u16, q2]
    refine nlz_tail (c := 15) (u := t - 16) (by omega) d1.1 d1.2 (by omega) (by omega) ?_
    rw [show 15 - (t - 16) = 31 - t by omega]; exact w
  · rw [hxI] at c1
    rw [q3, u16, i16] at c2
    have a1 : 16 ≤ t := Nat.le_of_not_lt fun q => by have := big 16 q; omega
    have d1 := dv 16 a1
    have a2 : 24 ≤ t := Nat.le_of_not_lt fun q => by
      have : 2 ^ (t - 16 + 1) ≤ 2 ^ 8 := Nat.pow_le_pow_right (by omega) (by omega)
      omega
    have d2 := dv 24 a2
    rw [q5, q3, u16, u24, q4, q2]
    refine nlz_tail (c := 7) (u := t - 24) (by omega) d2.1 d2.2 (by omega) (by omega) ?_
    rw [show 7 - (t - 24) = 31 - t by omega]; exact w
theorem highest_br {K : Int32 → aH → Prop} {x : Int32} {t : Nat} (ht : t < 31) (h1 : gB x t = true) (h0 : ∀ i, t < i → gB x i = false) : CI (d + 1) 203 [vI x] h K X ↔ K (1 <<< (nI t &&& 31)) h := by
  refine CI_iff fun K X w => m203 (nlz_ok ht h1 h0 ?_)
  have e1 : aUshr (-2147483648) (nI (31 - t)) = 1 <<< (nI t &&& 31) := by
    have : ∀ s : Fin 31, aUshr (-2147483648) (nI (31 - s.val)) = 1 <<< (nI s.val &&& 31) := by decide +kernel
    exact this ⟨t, ht⟩
  rw [e1]
  have : x &&& (1 <<< (nI t &&& 31)) = 1 <<< (nI t &&& 31) := gB_ext fun i hi => by
    rw [gB_and, gB_sh (by omega)]
    by_cases e : i = t
    · subst e; rw [h1]; rfl
    · rw [decide_eq_false e, Bool.and_false]
  rw [this]; exact w
theorem top_bit {x : Int32} : ∀ n, n ≤ 32 → (∀ i, n ≤ i → gB x i = false) → ¬ x.toInt = 0 → ∃ t, t < n ∧ gB x t = true ∧ ∀ i, t < i → gB x i = false := by
  intro n
  induction n with
  | zero => intro _ h0 hx; exact absurd (gB_zero.mpr fun i _ => h0 i (by omega)) hx
  | succ n ih =>
    intro hn h0 hx
    cases hb : gB x n
    · obtain ⟨t, t1, t2, t3⟩ := ih (by omega) (fun i hi => by by_cases e : i = n; rw [e]; exact hb; exact h0 i (by omega)) hx
      exact ⟨t, by omega, t2, t3⟩
    · exact ⟨n, by omega, hb, fun i hi => h0 i (by omega)⟩
end MSK
