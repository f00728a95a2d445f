/-! ROWS AND SMALL METHODS: contracts -/
section RW
theorem nI_mul (a b : Nat) : nI a * nI b = nI (a * b) := by unfold nI; exact (Int32.ofNat_mul a b).symm
theorem ti0 : (0 : Int32).toInt = 0 := rfl
theorem ti1 : (1 : Int32).toInt = 1 := rfl
theorem tiM : (-1 : Int32).toInt = -1 := rfl
/-- an index in its bounds -/
theorem inB_i {h : aH} {k a : Nat} {i : Int32} {P : Nat → Prop} (hk : gK h a = k) (h0 : 0 ≤ i.toInt) (h1 : i.toInt < gL h a) (hP : P i.toInt.toNat) : ∃ j : Nat, inB h k a i j ∧ P j :=
  ⟨i.toInt.toNat, ⟨hk, ti_nat h0, by omega, by have := ti_hi i; omega⟩, hP⟩
theorem inB_n {h : aH} {k a j : Nat} {i : Int32} {P : Nat → Prop} (hk : gK h a = k) (hi : i = nI j) (hj : j < gL h a) (hm : j < 2147483648) (hP : P j) : ∃ j : Nat, inB h k a i j ∧ P j := ⟨j, ⟨hk, hi, hj, hm⟩, hP⟩
/-- a table of rows at a, its numbers at b: its width, its limit, how many rows -/
def rowsOK (h : aH) (a b w lim n : Nat) : Prop := (8 ≤ a ∧ a < gN h ∧ gK h a = 8) ∧ (gI h a 0 = nI w ∧ gI h a 1 = nI lim ∧ gI h a 3 = nI n) ∧ (gR h a 2 = b ∧ 8 ≤ b ∧ b < gN h ∧ gK h b = 100) ∧ (n * w ≤ gL h b ∧ 8 * w ≤ gL h b ∧ gL h b ≤ 2 * (lim + 4) * w) ∧ (1 ≤ w ∧ w ≤ 8 ∧ lim ≤ 2000 ∧ n ≤ lim)
variable {d a b w lim n : Nat} {h : aH} {X : Nat → aH → Prop}
theorem rows_len (R : rowsOK h a b w lim n) : gL h b ≤ 32064 ∧ n * w ≤ 16000 := by
  obtain ⟨-, -, -, ⟨l1, l2, l3⟩, w1, w8, hl, hn⟩ := R
  have e1 : 2 * (lim + 4) * w ≤ 4008 * 8 := Nat.mul_le_mul (by omega) w8
  have e2 : n * w ≤ 2000 * 8 := Nat.mul_le_mul (by omega) w8
  omega
theorem c_size {K : Int32 → aH → Prop} (R : rowsOK h a b w lim n) (k : K (nI n) h) : CI d 28 [vR a] h K X := m28 ⟨R.1.2.2, by rw [R.2.1.2.2]; exact k⟩
theorem c_isFull {K : Int32 → aH → Prop} (R : rowsOK h a b w lim n) (k0 : n < lim → K 0 h) (k1 : ¬ n < lim → K 1 h) : CI d 18 [vR a] h K X := by
  have hb := R.2.2.2.2
  refine m18 ⟨R.1.2.2, fun c => k0 ?_, fun c => k1 ?_⟩ <;> (rw [R.2.1.2.1, R.2.1.2.2, ti_n (by omega), ti_n (by omega)] at c; omega)
theorem c_has {K : Int32 → aH → Prop} {x : Int32} (R : rowsOK h a b w lim n) (k1 : 0 ≤ x.toInt → x.toInt < n → K 1 h) (k0 : ¬ (0 ≤ x.toInt ∧ x.toInt < n) → K 0 h) : CI d 22 [vR a, vI x] h K X := by
  have hb := R.2.2.2.2
  have e : (gI h a 3).toInt = n := by rw [R.2.1.2.2, ti_n (by omega)]
  refine m22 ⟨fun c => k0 (by omega), fun c => ⟨R.1.2.2, fun c2 => k1 (by omega) (by omega), fun c2 => k0 (by omega)⟩⟩
theorem rows_ix {x y : Int32} {c : Nat} (R : rowsOK h a b w lim n) (h0 : 0 ≤ x.toInt) (h1 : x.toInt < n) (hy : y = nI c) (hc : c < w) : x * gI h a 0 + y = nI (x.toInt.toNat * w + c) ∧ x.toInt.toNat * w + c < gL h b ∧ x.toInt.toNat * w + c < 16000 := by
  have hl := rows_len R
  obtain ⟨-, hI, -, ⟨l1, l2, l3⟩, w1, w8, hl9, hn⟩ := R
  have e : x.toInt.toNat * w + w ≤ n * w := by
    have := Nat.mul_le_mul_right w (show x.toInt.toNat + 1 ≤ n by omega)
    rw [Nat.succ_mul] at this
    exact this
  refine ⟨?_, by omega, by omega⟩
  rw [hI.1, hy, ti_nat h0, nI_mul, nI_add, ← ti_nat h0]
theorem c_at {K : Int32 → aH → Prop} {x y : Int32} (c : Nat) (R : rowsOK h a b w lim n) (h0 : 0 ≤ x.toInt) (h1 : x.toInt < n) (hy : y = nI c) (hc : c < w) (k : K (gI h b (x.toInt.toNat * w + c)) h) : CI (d + 1) 32 [vR a, vI x, vI y] h K X := by
  have hR := R
  obtain ⟨i1, i2, i3⟩ := rows_ix R h0 h1 hy hc
  obtain ⟨⟨a8, aN, hk⟩, ⟨hw, -, -⟩, ⟨hb, b8, -, hkb⟩, -, w1, w8, -, -⟩ := R
  have hyc : y.toInt = c := by rw [hy, ti_n (by omega)]
  refine m32 ⟨a8, hk, c_has hR (fun _ _ => ⟨fun q => absurd q (by decide), fun _ => ⟨fun q => absurd q (by omega), fun _ => ⟨hk, fun q => ?_, fun q => absurd ?_ q⟩⟩⟩) (fun q => absurd ⟨h0, h1⟩ q)⟩
  · rw [hb]
    exact inB_n hkb i1 i2 (by omega) k
  · rw [hw, hyc, ti_n (by omega)]; omega
theorem c_atx {K : Int32 → aH → Prop} {x y : Int32} (R : rowsOK h a b w lim n) (h0 : ¬ (0 ≤ x.toInt ∧ x.toInt < n)) (k : K (-2000000) h) : CI (d + 1) 32 [vR a, vI x, vI y] h K X :=
  m32 ⟨R.1.1, R.1.2.2, c_has R (fun q1 q2 => absurd ⟨q1, q2⟩ h0) (fun _ => ⟨fun _ => k, fun q => absurd rfl q⟩)⟩
theorem c_put {K : aH → Prop} {x y v : Int32} (c : Nat) (R : rowsOK h a b w lim n) (h0 : 0 ≤ x.toInt) (h1 : x.toInt < n) (hy : y = nI c) (hc : c < w) (k : K (pI h b (x.toInt.toNat * w + c) v)) : CV (d + 1) 23 [vR a, vI x, vI y, vI v] h K X := by
  have hR := R
  obtain ⟨i1, i2, i3⟩ := rows_ix R h0 h1 hy hc
  obtain ⟨⟨a8, aN, hk⟩, ⟨hw, -, -⟩, ⟨hb, b8, -, hkb⟩, -, w1, w8, -, -⟩ := R
  have hyc : y.toInt = c := by rw [hy, ti_n (by omega)]
  refine m23 ⟨a8, hk, c_has hR (fun _ _ => ⟨fun q => absurd q (by decide), fun _ => ⟨fun q => absurd q (by omega), fun _ => ⟨hk, fun q => ?_, fun q => absurd ?_ q⟩⟩⟩) (fun q => absurd ⟨h0, h1⟩ q)⟩
  · rw [hb]
    exact ⟨b8, inB_n hkb i1 i2 (by omega) (fun h1 e => by subst e; exact k)⟩
  · rw [hw, hyc, ti_n (by omega)]; omega
theorem rows_keeps {h1 : aH} {p : Nat → Prop} (R : rowsOK h a b w lim n) (k : keeps h h1 p) (ha : ¬ p a) : rowsOK h1 a b w lim n := by
  obtain ⟨⟨a8, aN, hk⟩, ⟨i0, i1, i3⟩, ⟨hb, b8, bN, hkb⟩, ⟨l1, l2, l3⟩, hr⟩ := R
  obtain ⟨k1, k2, k3, k4⟩ := k
  obtain ⟨s1, s2, s3, s4, s5⟩ := k4 a aN ha
  have e := k3 b bN
  exact ⟨⟨a8, by omega, by rw [s1]; exact hk⟩, ⟨by rw [s3]; exact i0, by rw [s3]; exact i1, by rw [s3]; exact i3⟩, ⟨by rw [s5]; exact hb, b8, by omega, by rw [e.1]; exact hkb⟩, by rw [e.2]; exact ⟨l1, l2, l3⟩, hr⟩
/-- a row more: the numbers stay, or are copied into a new array -/
theorem c_add {K : Int32 → aH → Prop} (R : rowsOK h a b w lim n) (hn : n < lim)
    (k : ∀ (b' : Nat) (h1 : aH), rowsOK h1 a b' w lim (n + 1) → (∀ i, i < n * w → gI h1 b' i = gI h b i) → ((b' = b ∧ gN h1 = gN h) ∨ (b' = gN h ∧ gN h1 = gN h + 1)) → keeps h h1 (fun q => q = a) → gT h1 ≤ gT h + 2 * ((n + 1) * w) → K (nI n) h1) : CI (d + 2) 21 [vR a] h K X := by
  have hR := R
  have hl := rows_len R
  obtain ⟨⟨a8, aN, hk⟩, ⟨i0, i1, i3⟩, ⟨hb, b8, bN, hkb⟩, ⟨l1, l2, l3⟩, w1, w8, hl9, hn9⟩ := R
  have en : (n + 1) * w = n * w + w := Nat.succ_mul n w
  have el : (n + 1) * w ≤ lim * w := Nat.mul_le_mul_right w hn
  have e8 : lim * w ≤ 2000 * 8 := Nat.mul_le_mul hl9 w8
  have e2 : 2 * (lim + 4) * w = 2 * (lim * w) + 8 * w := by rw [Nat.mul_assoc, Nat.add_mul, Nat.mul_add]; omega
  have hab : b ≠ a := fun q => by rw [q, hk] at hkb; omega
  refine m21 ⟨hk, by rw [hb, hkb]; omega, fun c => ?_, fun c => ?_⟩
  · rw [hb, i0, i3, nI_1, nI_mul, ti_n (by omega), ti_n (by omega)] at c
    rw [hb]
    refine m20 ⟨by rw [hkb]; omega, fun c2 => absurd c2 ?_, fun c2 => ?_⟩
    · rw [show (2 : Int32) = nI 2 from rfl, nI_mul, ti_n (by omega), ti_n (by omega)]; omega
    · refine ⟨gL h b * 2, by rw [show (2 : Int32) = nI 2 from rfl, nI_mul], by omega, fun r1 h1 er e1 => ?_⟩
      have kb1 : gK h1 b = 100 := by rw [e1, gK_gNew, if_neg (by omega)]; exact hkb
      have lb1 : gL h1 b = gL h b := by rw [e1, gL_gNew, if_neg (by omega)]
      have kr1 : gK h1 r1 = 100 := by rw [e1, er, gK_gNew, if_pos rfl]
      have lr1 : gL h1 r1 = gL h b * 2 := by rw [e1, er, gL_gNew, if_pos rfl]
      refine ⟨by rw [kb1]; omega, ?_⟩
      rw [lb1, show nI (gL h b) * 2 = nI (gL h b * 2) by rw [show (2 : Int32) = nI 2 from rfl, nI_mul]]
      refine m19 ⟨fun c3 => absurd c3 ?_, fun _ => ?_⟩
      · rw [ti_n (by omega), ti_n (by omega)]; omega
      · refine ⟨0, 0, gL h b, ⟨b8, by rw [er]; omega, by rw [er]; omega, rfl, rfl, rfl, by omega, by omega, by omega, by rw [lb1]; omega, by rw [lr1]; omega⟩, kb1, kr1, fun h3 e3 => ?_⟩
        have n3 : gN h3 = gN h + 1 := by rw [e3, gN_cpI, e1, gN_gNew]
        have k3a : gK h3 a = 8 := by rw [e3, gK_cpI, e1, gK_gNew, if_neg (by omega)]; exact hk
        refine ⟨a8, k3a, fun h4 e4 h5 e5 => ?_⟩
        have har : a ≠ r1 := by rw [er]; omega
        have i4 : ∀ j, gI h4 a j = gI h a j := fun j => by rw [e4, gI_pR, e3, gI_cpI, if_neg (fun q => har q.1), e1, gI_gNew, if_neg (by omega)]
        have i5 : gI h5 a 3 = nI (n + 1) := by rw [e5, gI_pI, if_pos ⟨rfl, rfl⟩, i4, i3, nI_1]
        have K5 : ∀ q, gK h5 q = gK h1 q := fun q => by rw [e5, gK_pI, e4, gK_pR, e3, gK_cpI]
        have L5 : ∀ q, gL h5 q = gL h1 q := fun q => by rw [e5, gL_pI, e4, gL_pR, e3, gL_cpI]
        have N5 : gN h5 = gN h + 1 := by rw [e5, gN_pI, e4, gN_pR]; exact n3
        have K1 : ∀ q, q < gN h → gK h1 q = gK h q ∧ gL h1 q = gL h q := fun q hq => by rw [e1, gK_gNew, gL_gNew, if_neg (by omega), if_neg (by omega)]; exact ⟨rfl, rfl⟩
        rw [i5, nI_pred]
        refine k r1 h5 ⟨⟨a8, by omega, by rw [K5, (K1 a aN).1]; exact hk⟩, ⟨?_, ?_, i5⟩, ⟨?_, by omega, by omega, by rw [K5]; exact kr1⟩, ?_, w1, w8, hl9, hn⟩ (fun i hi => ?_) (Or.inr ⟨er, N5⟩) ⟨by omega, ?_, fun q hq => ?_, fun q hq hqa => ?_⟩ ?_
        · rw [e5, gI_pI, if_neg (by omega), i4]; exact i0
        · rw [e5, gI_pI, if_neg (by omega), i4]; exact i1
        · rw [e5, gR_pI, e4, gR_pR, if_pos ⟨rfl, rfl⟩]
        · rw [L5, lr1]; omega
        · rw [e5, gI_pI, if_neg (fun q => har q.1.symm), e4, gI_pR, e3, gI_cpI, if_pos ⟨rfl, by omega, by omega⟩, e1, gI_gNew, if_neg (by omega)]
          congr 1; omega
        · rw [e5, gT_pI, e4, gT_pR, e3, gT_cpI, e1, gT_gNew]; omega
        · rw [K5, L5]; exact K1 q hq
        · have hq1 : q ≠ r1 := by rw [er]; omega
          refine ⟨by rw [K5]; exact (K1 q hq).1, by rw [L5]; exact (K1 q hq).2, fun j => ?_, fun j => ?_, fun j => ?_⟩
          · rw [e5, gI_pI, if_neg (fun w => hqa w.1), e4, gI_pR, e3, gI_cpI, if_neg (fun w => hq1 w.1), e1, gI_gNew, if_neg (by omega)]
          · rw [e5, gJ_pI, e4, gJ_pR, e3, gJ_cpI, e1, gJ_gNew, if_neg (by omega)]
          · rw [e5, gR_pI, e4, gR_pR, if_neg (fun w => hqa w.1), e3, gR_cpI, e1, gR_gNew, if_neg (by omega)]
        · rw [e5, gT_pI, e4, gT_pR, e3, gT_cpI, e1, gT_gNew]; omega
  · rw [hb, i0, i3, nI_1, nI_mul, ti_n (by omega), ti_n (by omega)] at c
    refine ⟨a8, fun h3 e3 => ?_⟩
    rw [e3, gI_pI, if_pos ⟨rfl, rfl⟩, i3, nI_1, nI_pred]
    refine k b _ ⟨⟨a8, aN, hk⟩, ⟨?_, ?_, ?_⟩, ⟨hb, b8, bN, hkb⟩, ⟨by show _ ≤ gL h b; omega, l2, l3⟩, w1, w8, hl9, hn⟩ (fun i _ => ?_) (Or.inl ⟨rfl, rfl⟩) (keeps_pI _ _ _ _) (by show gT h ≤ _; omega)
    · rw [gI_pI, if_neg (by omega)]; exact i0
    · rw [gI_pI, if_neg (by omega)]; exact i1
    · rw [gI_pI, if_pos ⟨rfl, rfl⟩]
    · rw [gI_pI, if_neg (fun q => hab q.1)]
end RW
