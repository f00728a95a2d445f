/-! COUNTING BITS -/
section CNT
variable {d : Nat} {h : aH} {X : Nat → aH → Prop}
theorem msk_n {j : Nat} (hj : j < 2 ^ 31) : msk (nI j) = j := by
  have h1 : (nI j).toInt = (j : Int) := ti_n (by omega)
  have h2 : (nI j).toBitVec.toInt = (j : Int) := h1
  rw [BitVec.toInt_eq_toNat_cond] at h2
  have : (nI j).toBitVec.toNat < 2 ^ 32 := (nI j).toBitVec.isLt
  unfold msk
  split at h2 <;> omega
theorem nI_and {a b : Nat} (ha : a < 2 ^ 31) (hb : b < 2 ^ 31) : nI a &&& nI b = nI (a &&& b) := by
  have hle : a &&& b ≤ a := Nat.and_le_left
  refine msk_inj ?_
  rw [msk_n (j := a &&& b) (by omega)]
  have : msk (nI a &&& nI b) = msk (nI a) &&& msk (nI b) := by unfold msk; rw [Int32.toBitVec_and, BitVec.toNat_and]
  rw [this, msk_n ha, msk_n hb]
theorem and_nib (x m c : Nat) (hc : c < 16) : x &&& (16 * m + c) = 16 * (x / 16 &&& m) + (x % 16 &&& c) := by
  have a1 := and_low x (16 * m + c)
  have a2 := and_low (x / 2) ((16 * m + c) / 2)
  have a3 := and_low (x / 2 / 2) ((16 * m + c) / 2 / 2)
  have a4 := and_low (x / 2 / 2 / 2) ((16 * m + c) / 2 / 2 / 2)
  have b1 := and_low (x % 16) c
  have b2 := and_low (x % 16 / 2) (c / 2)
  have b3 := and_low (x % 16 / 2 / 2) (c / 2 / 2)
  have b4 := and_low (x % 16 / 2 / 2 / 2) (c / 2 / 2 / 2)
  have z : x % 16 / 2 / 2 / 2 / 2 = 0 := by omega
  rw [z, Nat.zero_and] at b4
  rw [show x / 2 / 2 / 2 / 2 = x / 16 by omega, show (16 * m + c) / 2 / 2 / 2 / 2 = m by omega] at a4
  rw [show x % 16 % 2 = x % 2 by omega] at b1
  rw [show x % 16 / 2 % 2 = x / 2 % 2 by omega] at b2
  rw [show x % 16 / 2 / 2 % 2 = x / 2 / 2 % 2 by omega] at b3
  rw [show x % 16 / 2 / 2 / 2 % 2 = x / 2 / 2 / 2 % 2 by omega] at b4
  rw [show (16 * m + c) % 2 = c % 2 by omega] at a1
  rw [show (16 * m + c) / 2 % 2 = c / 2 % 2 by omega] at a2
  rw [show (16 * m + c) / 2 / 2 % 2 = c / 2 / 2 % 2 by omega] at a3
  rw [show (16 * m + c) / 2 / 2 / 2 % 2 = c / 2 / 2 / 2 % 2 by omega] at a4
  rw [a1, a2, a3, a4, b1, b2, b3, b4]
  omega
def mk5 : Nat → Nat
  | 0 => 0
  | k + 1 => 16 * mk5 k + 5
def mk3 : Nat → Nat
  | 0 => 0
  | k + 1 => 16 * mk3 k + 3
def pcN (n : Nat) : Nat := n % 2 + n / 2 % 2 + n / 4 % 2 + n / 8 % 2
def pcs : Nat → Nat → Nat
  | 0, _ => 0
  | k + 1, a => 16 * pcs k (a / 16) + pcN (a % 16)
theorem pcs_v0 : ∀ k a, a < 16 ^ k → (a / 2 &&& mk5 k) ≤ a / 2 := fun k a _ => Nat.and_le_left
theorem e_tab : ∀ (b : Fin 2) (n : Fin 16), (8 * b.val + n.val / 2) &&& 5 = (n.val / 2 &&& 5) ∧ (n.val / 2 &&& 5) ≤ n.val ∧ ((n.val - (n.val / 2 &&& 5)) &&& 3) + (n.val - (n.val / 2 &&& 5)) / 4 = pcN n.val := by decide +kernel
theorem f_tab : ∀ (b : Fin 4) (e : Fin 16), (4 * b.val + e.val / 4) &&& 3 = e.val / 4 := by decide +kernel
/-- two steps of counting, nibble by nibble -/
theorem pcs_ok : ∀ k a, a < 16 ^ k → ((a - (a / 2 &&& mk5 k)) &&& mk3 k) + ((a - (a / 2 &&& mk5 k)) / 4 &&& mk3 k) = pcs k a := by
  intro k
  induction k with
  | zero => intro a ha; rw [mk3, Nat.and_zero, Nat.and_zero]; rfl
  | succ k ih =>
    intro a ha
    have i := ih (a / 16) (by rw [Nat.pow_succ] at ha; omega)
    have s1 := and_nib (a / 2) (mk5 k) 5 (by omega)
    rw [show a / 2 / 16 = a / 16 / 2 by omega, show a / 2 % 16 = 8 * (a / 16 % 2) + (a % 16) / 2 by omega] at s1
    have t1 := e_tab ⟨a / 16 % 2, by omega⟩ ⟨a % 16, by omega⟩
    dsimp only at t1
    rw [t1.1] at s1
    have le : (a / 16 / 2 &&& mk5 k) ≤ a / 16 / 2 := Nat.and_le_left
    have v0 : a - (a / 2 &&& mk5 (k + 1)) = 16 * (a / 16 - (a / 16 / 2 &&& mk5 k)) + (a % 16 - (a % 16 / 2 &&& 5)) := by
      rw [mk5, s1]
      have := t1.2.1
      omega
    generalize a / 16 - (a / 16 / 2 &&& mk5 k) = u at *
    have el : a % 16 - (a % 16 / 2 &&& 5) < 16 := by omega
    generalize a % 16 - (a % 16 / 2 &&& 5) = e at *
    rw [v0, mk3, and_nib _ _ 3 (by omega), and_nib _ _ 3 (by omega), pcs, ← i]
    have f := f_tab ⟨u % 4, by omega⟩ ⟨e, el⟩
    dsimp only at f
    rw [show (16 * u + e) / 16 = u by omega, show (16 * u + e) % 16 = e by omega, show (16 * u + e) / 4 / 16 = u / 4 by omega, show (16 * u + e) / 4 % 16 = 4 * (u % 4) + e / 4 by omega, f, ← t1.2.2]
    omega
def cntB (x : Int32) : Nat → Nat
  | 0 => 0
  | n + 1 => cntB x n + if gB x n = true then 1 else 0
theorem gB_dm {x : Int32} {i : Nat} : (if gB x i = true then 1 else 0) = msk x / 2 ^ i % 2 := by
  rw [msk_bit, Nat.testBit_eq_decide_div_mod_eq]
  by_cases c : msk x / 2 ^ i % 2 = 1
  · rw [decide_eq_true c, if_pos rfl, c]
  · rw [decide_eq_false c, if_neg (by decide)]; omega
end CNT
