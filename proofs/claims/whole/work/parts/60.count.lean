/-! COUNTING BITS -/
section CNT
variable {d : Nat} {h : aH} {X : Nat → aH → Prop}
theorem msk_n {j : Nat} (hj : j < 2 ^ 31) : msk (nI j) = j := by
  have h1 : (nI j).toInt = (j : Int) := ti_n (by omega)
  have h2 : (nI j).toBitVec.toInt = (j : Int) := h1
  rw [BitVec.toInt_eq_toNat_cond] at h2
  have : (nI j).toBitVec.toNat < 2 ^ 32 := (nI j).toBitVec.isLt
  unfold msk
  split at h2 <;> omega
theorem nI_and {a b : Nat} (ha : a < 2 ^ 31) (hb : b < 2 ^ 31) : nI a &&& nI b = nI (a &&& b) := by
  have hle : a &&& b ≤ a := Nat.and_le_left
  refine msk_inj ?_
  rw [msk_n (j := a &&& b) (by omega)]
  have : msk (nI a &&& nI b) = msk (nI a) &&& msk (nI b) := by unfold msk; rw [Int32.toBitVec_and, BitVec.toNat_and]
  rw [this, msk_n ha, msk_n hb]
theorem and_nib (x m c : Nat) (hc : c < 16) : x &&& (16 * m + c) = 16 * (x / 16 &&& m) + (x % 16 &&& c) := by
  have a1 := and_low x (16 * m + c)
  have a2 := and_low (x / 2) ((16 * m + c) / 2)
  have a3 := and_low (x / 2 / 2) ((16 * m + c) / 2 / 2)
  have a4 := and_low (x / 2 / 2 / 2) ((16 * m + c) / 2 / 2 / 2)
  have b1 := and_low (x % 16) c
  have b2 := and_low (x % 16 / 2) (c / 2)
  have b3 := and_low (x % 16 / 2 / 2) (c / 2 / 2)
  have b4 := and_low (x % 16 / 2 / 2 / 2) (c / 2 / 2 / 2)
  have z : x % 16 / 2 / 2 / 2 / 2 = 0 := by omega
  rw [z, Nat.zero_and] at b4
  rw [show x / 2 / 2 / 2 / 2 = x / 16 by omega, show (16 * m + c) / 2 / 2 / 2 / 2 = m by omega] at a4
  rw [show x % 16 % 2 = x % 2 by omega] at b1
  rw [show x % 16 / 2 % 2 = x / 2 % 2 by omega] at b2
  rw [show x % 16 / 2 / 2 % 2 = x / 2 / 2 % 2 by omega] at b3
  rw [show x % 16 / 2 / 2 / 2 % 2 = x / 2 / 2 / 2 % 2 by omega] at b4
  rw [show (16 * m + c) % 2 = c % 2 by omega] at a1
  rw [show (16 * m + c) / 2 % 2 = c / 2 % 2 by omega] at a2
  rw [show (16 * m + c) / 2 / 2 % 2 = c / 2 / 2 % 2 by omega] at a3
  rw [show (16 * m + c) / 2 / 2 / 2 % 2 = c / 2 / 2 / 2 % 2 by omega] at a4
  rw [a1, a2, a3, a4, b1, b2, b3, b4]
  omega
def mk5 : Nat → Nat
  | 0 => 0
  | k + 1 => 16 * mk5 k + 5
def mk3 : Nat → Nat
  | 0 => 0
  | k + 1 => 16 * mk3 k + 3
def pcN (n : Nat) : Nat := n % 2 + n / 2 % 2 + n / 4 % 2 + n / 8 % 2
def pcs : Nat → Nat → Nat
  | 0, _ => 0
  | k + 1, a => 16 * pcs k (a / 16) + pcN (a % 16)
theorem pcs_v0 : ∀ k a, a < 16 ^ k → (a / 2 &&& mk5 k) ≤ a / 2 := fun k a _ => Nat.and_le_left
theorem e_tab : ∀ (b : Fin 2) (n : Fin 16), (8 * b.val + n.val / 2) &&& 5 = (n.val / 2 &&& 5) ∧ (n.val / 2 &&& 5) ≤ n.val ∧ ((n.val - (n.val / 2 &&& 5)) &&& 3) + (n.val - (n.val / 2 &&& 5)) / 4 = pcN n.val := by decide +kernel
theorem f_tab : ∀ (b : Fin 4) (e : Fin 16), (4 * b.val + e.val / 4) &&& 3 = e.val / 4 := by decide +kernel
/-- two steps of counting, nibble by nibble -/
theorem pcs_ok : ∀ k a, a < 16 ^ k → ((a - (a / 2 &&& mk5 k)) &&& mk3 k) + ((a - (a / 2 &&& mk5 k)) / 4 &&& mk3 k) = pcs k a := by
  intro k
  induction k with
  | zero => intro a ha; rw [mk3, Nat.and_zero, Nat.and_zero]; rfl
  | succ k ih =>
    intro a ha
    have i := ih (a / 16) (by rw [Nat.pow_succ] at ha; omega)
    have s1 := and_nib (a / 2) (mk5 k) 5 (by omega)
    rw [show a / 2 / 16 = a / 16 / 2 by omega, show a / 2 % 16 = 8 * (a / 16 % 2) + (a % 16) / 2 by omega] at s1
    have t1 := e_tab ⟨a / 16 % 2, by omega⟩ ⟨a % 16, by omega⟩
    dsimp only at t1
    rw [t1.1] at s1
    have le : (a / 16 / 2 &&& mk5 k) ≤ a / 16 / 2 := Nat.and_le_left
    have v0 : a - (a / 2 &&& mk5 (k + 1)) = 16 * (a / 16 - (a / 16 / 2 &&& mk5 k)) + (a % 16 - (a % 16 / 2 &&& 5)) := by
      rw [mk5, s1]
      have := t1.2.1
      omega
    generalize a / 16 - (a / 16 / 2 &&& mk5 k) = u at *
    have el : a % 16 - (a % 16 / 2 &&& 5) < 16 := by omega
    generalize a % 16 - (a % 16 / 2 &&& 5) = e at *
    rw [v0, mk3, and_nib _ _ 3 (by omega), and_nib _ _ 3 (by omega), pcs, ← i]
    have f := f_tab ⟨u % 4, by omega⟩ ⟨e, el⟩
    dsimp only at f
    rw [show (16 * u + e) / 16 = u by omega, show (16 * u + e) % 16 = e by omega, show (16 * u + e) / 4 / 16 = u / 4 by omega, show (16 * u + e) / 4 % 16 = 4 * (u % 4) + e / 4 by omega, f, ← t1.2.2]
    omega
def cntB (x : Int32) : Nat → Nat
  | 0 => 0
  | n + 1 => cntB x n + if gB x n = true then 1 else 0
theorem gB_dm {x : Int32} {i : Nat} : (if gB x i = true then 1 else 0) = msk x / 2 ^ i % 2 := by
  rw [msk_bit, Nat.testBit_eq_decide_div_mod_eq]
  by_cases c : msk x / 2 ^ i % 2 = 1
  · rw [decide_eq_true c, if_pos rfl, c]
  · rw [decide_eq_false c, if_neg (by decide)]; omega
theorem pcN_dm (a : Nat) : pcN (a % 16) = a % 2 + a / 2 % 2 + a / 4 % 2 + a / 8 % 2 := by unfold pcN; omega
theorem cnt_4 {x : Int32} (j : Nat) : cntB x (j + 4) = cntB x j + pcN (msk x / 2 ^ j % 16) := by
  have p1 : 2 ^ (j + 1) = 2 ^ j * 2 := Nat.pow_succ _ _
  have p2 : 2 ^ (j + 2) = 2 ^ j * 4 := by rw [Nat.pow_add]
  have p3 : 2 ^ (j + 3) = 2 ^ j * 8 := by rw [Nat.pow_add]
  rw [cntB, cntB, cntB, cntB, gB_dm, gB_dm, gB_dm, gB_dm, pcN_dm, Nat.div_div_eq_div_mul, Nat.div_div_eq_div_mul, Nat.div_div_eq_div_mul, p1, p2, p3]
  simp only [Nat.add_assoc]
theorem cnt_20 {x : Int32} : cntB x 20 = pcN (msk x % 16) + pcN (msk x / 16 % 16) + pcN (msk x / 256 % 16) + pcN (msk x / 4096 % 16) + pcN (msk x / 65536 % 16) := by
  have h0 := cnt_4 (x := x) 0
  have h1 := cnt_4 (x := x) 4
  have h2 := cnt_4 (x := x) 8
  have h3 := cnt_4 (x := x) 12
  have h4 := cnt_4 (x := x) 16
  rw [show cntB x 0 = 0 from rfl] at h0
  simp only [Nat.reduceAdd, Nat.reducePow, Nat.div_one] at h0 h1 h2 h3 h4
  rw [h4, h3, h2, h1, h0, Nat.zero_add]
theorem pcs_8 {a : Nat} (ha : a < 2 ^ 20) : pcs 8 a = pcN (a % 16) + 16 * (pcN (a / 16 % 16) + 16 * (pcN (a / 256 % 16) + 16 * (pcN (a / 4096 % 16) + 16 * pcN (a / 65536 % 16)))) := by
  have z : ∀ k, pcs k 0 = 0 := fun k => by
    induction k with
    | zero => rfl
    | succ k ih => rw [pcs, Nat.zero_div, ih]; rfl
  rw [pcs, pcs, pcs, pcs, pcs, show a / 16 / 16 = a / 256 by omega, show a / 256 / 16 = a / 4096 by omega, show a / 4096 / 16 = a / 65536 by omega, show a / 65536 / 16 = 0 by omega, z]
  generalize pcN (a % 16) = n0
  generalize pcN (a / 16 % 16) = n1
  generalize pcN (a / 256 % 16) = n2
  generalize pcN (a / 4096 % 16) = n3
  generalize pcN (a / 65536 % 16) = n4
  omega
theorem and_15 {y : Nat} (hy : y < 16) : y &&& 15 = y := (show ∀ z : Fin 16, z.val &&& 15 = z.val by decide) ⟨y, hy⟩
/-- bytes out of nibbles -/
theorem and_by {x : Nat} (hx : x < 2 ^ 24) : x &&& 252645135 = x % 16 + 256 * (x / 256 % 16) + 65536 * (x / 65536 % 16) := by
  have e1 := and_nib x 15790320 15 (by omega)
  have e2 := and_nib (x / 16) 986895 0 (by omega)
  have e3 := and_nib (x / 16 / 16) 61680 15 (by omega)
  have e4 := and_nib (x / 16 / 16 / 16) 3855 0 (by omega)
  have e5 := and_nib (x / 16 / 16 / 16 / 16) 240 15 (by omega)
  have e6 := and_nib (x / 16 / 16 / 16 / 16 / 16) 15 0 (by omega)
  rw [show x / 16 / 16 / 16 / 16 / 16 / 16 = 0 by omega, Nat.zero_and, Nat.and_zero] at e6
  rw [and_15 (by omega)] at e1 e3 e5
  rw [Nat.and_zero] at e2 e4
  simp only [Nat.reduceMul, Nat.reduceAdd] at e1 e2 e3 e4 e5 e6
  rw [e1, e2, e3, e4, e5, e6]
  omega
theorem nI_sub {y z : Nat} (hz : z ≤ y) (hy : y < 2 ^ 31) : nI y - nI z = nI (y - z) := ti_inj (by rw [ti_sub (by rw [ti_n (by omega), ti_n (by omega)]; omega) (by rw [ti_n (by omega), ti_n (by omega)]; omega), ti_n (by omega), ti_n (by omega), ti_n (by omega)]; omega)
/-- from nibbles on -/
theorem bc_tail {n0 n1 n2 n3 n4 : Nat} (u0 : n0 ≤ 4) (u1 : n1 ≤ 4) (u2 : n2 ≤ 4) (u3 : n3 ≤ 4) (u4 : n4 ≤ 4) (v1 : Int32) (hv : v1 = nI (n0 + 16 * n1 + 256 * n2 + 4096 * n3 + 65536 * n4)) : ∀ v2 : Int32, v2 = (v1 + aUshr v1 4) &&& 252645135 → ∀ v3 : Int32, v3 = v2 + aUshr v2 8 → ∀ v4 : Int32, v4 = v3 + aUshr v3 16 → v4 &&& 63 = nI (n0 + n1 + n2 + n3 + n4) := by
  intro v2 q2 v3 q3 v4 q4
  have k4 : (4 : Int32) = nI 4 := rfl
  have k8 : (8 : Int32) = nI 8 := rfl
  have k16 : (16 : Int32) = nI 16 := rfl
  have w1 : v1 + aUshr v1 4 = nI (n0 + n1 + 16 * (n1 + n2) + 256 * (n2 + n3) + 4096 * (n3 + n4) + 65536 * n4) := by
    rw [hv, k4, ush_n (by omega) (by omega), nI_add]
    congr 1
    omega
  have w2 : v2 = nI (n0 + n1 + 256 * (n2 + n3) + 65536 * n4) := by
    rw [q2, w1]
    refine (nI_and (b := 252645135) (by omega) (by decide)).trans ?_
    rw [and_by (by omega)]
    have d1 : (n0 + n1 + 16 * (n1 + n2) + 256 * (n2 + n3) + 4096 * (n3 + n4) + 65536 * n4) % 16 = n0 + n1 := by omega
    have d2 : (n0 + n1 + 16 * (n1 + n2) + 256 * (n2 + n3) + 4096 * (n3 + n4) + 65536 * n4) / 256 = n2 + n3 + 16 * (n3 + n4) + 256 * n4 := by omega
    have d3 : (n0 + n1 + 16 * (n1 + n2) + 256 * (n2 + n3) + 4096 * (n3 + n4) + 65536 * n4) / 65536 = n4 := by omega
    rw [d1, d2, d3, show (n2 + n3 + 16 * (n3 + n4) + 256 * n4) % 16 = n2 + n3 by omega, show n4 % 16 = n4 by omega]
  have w3 : v3 = nI (n0 + n1 + n2 + n3 + 256 * (n2 + n3 + n4) + 65536 * n4) := by
    rw [q3, w2, k8, ush_n (by omega) (by omega), nI_add]
    congr 1
    omega
  have w4 : v4 = nI (n0 + n1 + n2 + n3 + n4 + 256 * (n2 + n3 + n4) + 65536 * n4) := by
    rw [q4, w3, k16, ush_n (by omega) (by omega), nI_add]
    congr 1
    omega
  rw [w4]
  refine (nI_and (b := 63) (by omega) (by decide)).trans ?_
  have := Nat.and_two_pow_sub_one_eq_mod (n0 + n1 + n2 + n3 + n4 + 256 * (n2 + n3 + n4) + 65536 * n4) 6
  rw [show 2 ^ 6 - 1 = 63 from rfl] at this
  rw [this]
  congr 1
  omega
theorem bitCount_br {K : Int32 → aH → Prop} {x : Int32} (hx : msk x < 2 ^ 20) : CI d 220 [vI x] h K X ↔ K (nI (cntB x 20)) h := by
  refine CI_iff fun K X w => m220 ?_
  have hn : x = nI (msk x) := msk_nI (by omega)
  rw [cnt_20] at w
  have p := pcs_ok 8 (msk x) (by omega)
  rw [pcs_8 hx, show mk5 8 = 1431655765 from rfl, show mk3 8 = 858993459 from rfl] at p
  have ub : ∀ y, pcN y ≤ 4 := fun y => by unfold pcN; omega
  have u0 := ub (msk x % 16)
  have u1 := ub (msk x / 16 % 16)
  have u2 := ub (msk x / 256 % 16)
  have u3 := ub (msk x / 4096 % 16)
  have u4 := ub (msk x / 65536 % 16)
  generalize pcN (msk x % 16) = n0 at *
  generalize pcN (msk x / 16 % 16) = n1 at *
  generalize pcN (msk x / 256 % 16) = n2 at *
  generalize pcN (msk x / 4096 % 16) = n3 at *
  generalize pcN (msk x / 65536 % 16) = n4 at *
  intro v0 q0 v1 q1 v2 q2 v3 q3 v4 q4
  have l5 : (msk x / 2 &&& 1431655765) ≤ msk x / 2 := Nat.and_le_left
  have w0 : v0 = nI (msk x - (msk x / 2 &&& 1431655765)) := by
    rw [q0, hn, show (1 : Int32) = nI 1 from rfl, ush_n (by omega) (by omega)]
    rw [show nI (msk x / 2 ^ 1) &&& 1431655765 = nI (msk x / 2 &&& 1431655765) from nI_and (b := 1431655765) (by omega) (by decide)]
    rw [nI_sub (by omega) (by omega), ← hn]
  have hv : msk x - (msk x / 2 &&& 1431655765) < 2 ^ 31 := by omega
  generalize msk x - (msk x / 2 &&& 1431655765) = v at *
  have w1 : v1 = nI (n0 + 16 * n1 + 256 * n2 + 4096 * n3 + 65536 * n4) := by
    rw [q1, w0, show (2 : Int32) = nI 2 from rfl, ush_n (by omega) hv]
    rw [show nI v &&& 858993459 = nI (v &&& 858993459) from nI_and (b := 858993459) hv (by decide)]
    rw [show nI (v / 2 ^ 2) &&& 858993459 = nI (v / 4 &&& 858993459) from nI_and (b := 858993459) (by omega) (by decide)]
    rw [nI_add, p]
    congr 1
    omega
  rw [bc_tail u0 u1 u2 u3 u4 v1 w1 v2 q2 v3 q3 v4 q4]
  exact w
end CNT
