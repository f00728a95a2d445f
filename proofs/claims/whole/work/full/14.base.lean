/-! NUMBERS, CELLS: rows that all contracts use -/
section BA
theorem ti_add {x y : Int32} (h1 : -2147483648 ≤ x.toInt + y.toInt) (h2 : x.toInt + y.toInt < 2147483648) : (x + y).toInt = x.toInt + y.toInt := by
  rw [Int32.toInt_add]; exact Jvm.Kit.bmod32 (by omega) (by omega)
theorem ti_sub {x y : Int32} (h1 : -2147483648 ≤ x.toInt - y.toInt) (h2 : x.toInt - y.toInt < 2147483648) : (x - y).toInt = x.toInt - y.toInt := by
  rw [Int32.toInt_sub]; exact Jvm.Kit.bmod32 (by omega) (by omega)
theorem ti_mul {x y : Int32} (h1 : -2147483648 ≤ x.toInt * y.toInt) (h2 : x.toInt * y.toInt < 2147483648) : (x * y).toInt = x.toInt * y.toInt := by
  rw [Int32.toInt_mul]; exact Jvm.Kit.bmod32 (by omega) (by omega)
theorem ti_neg {x : Int32} (h1 : -2147483648 < x.toInt) : (-x).toInt = -x.toInt := by
  have := x.toInt_lt
  rw [Int32.toInt_neg]; exact Jvm.Kit.bmod32 (by omega) (by omega)
theorem ti_n {n : Nat} (h : n < 2147483648) : (nI n).toInt = (n : Int) := nI_toInt h
theorem ti_inj {x y : Int32} (h : x.toInt = y.toInt) : x = y := Int32.toInt_inj.mp h
theorem ti_lo (x : Int32) : -2147483648 ≤ x.toInt := Int32.le_toInt x
theorem ti_hi (x : Int32) : x.toInt < 2147483648 := Int32.toInt_lt x
/-- a number that isn't below 0 is an nI -/
theorem ti_nat {x : Int32} (h : 0 ≤ x.toInt) : x = nI x.toInt.toNat := by
  apply ti_inj
  have := ti_hi x
  rw [ti_n (by omega)]; omega
theorem ti_eqn {x : Int32} {n : Nat} (hn : n < 2147483648) (h : x.toInt = (n : Int)) : x = nI n := ti_inj (by rw [h, ti_n hn])
/-- a number by its value -/
def iZ (z : Int) : Int32 := Int32.ofInt z
theorem ti_z {z : Int} (h1 : -2147483648 ≤ z) (h2 : z < 2147483648) : (iZ z).toInt = z := by
  unfold iZ; rw [Int32.toInt_ofInt]; exact Jvm.Kit.bmod32 (by omega) (by omega)
theorem iZ_toInt (x : Int32) : iZ x.toInt = x := by
  apply ti_inj
  rw [ti_z (ti_lo x) (ti_hi x)]
/-- longs out of ints -/
theorem tl_i (x : Int32) : x.toInt64.toInt = x.toInt := Int32.toInt_toInt64 x
theorem tl_add {x y : Int64} (h1 : -9223372036854775808 ≤ x.toInt + y.toInt) (h2 : x.toInt + y.toInt < 9223372036854775808) : (x + y).toInt = x.toInt + y.toInt := Jvm.Kit.i64_add (by omega) (by omega)
theorem tl_mul {x y : Int64} (h1 : -9223372036854775808 ≤ x.toInt * y.toInt) (h2 : x.toInt * y.toInt < 9223372036854775808) : (x * y).toInt = x.toInt * y.toInt := Jvm.Kit.i64_mul (by omega) (by omega)
/-- a cell is as it was -/
def same (h h1 : aH) (a : Nat) : Prop := gK h1 a = gK h a ∧ gL h1 a = gL h a ∧ (∀ j, gI h1 a j = gI h a j) ∧ (∀ j, gJ h1 a j = gJ h a j) ∧ ∀ j, gR h1 a j = gR h a j
theorem same_refl (h : aH) (a : Nat) : same h h a := ⟨rfl, rfl, fun _ => rfl, fun _ => rfl, fun _ => rfl⟩
theorem same_trans {h h1 h2 : aH} {a : Nat} (s1 : same h h1 a) (s2 : same h1 h2 a) : same h h2 a :=
  ⟨s2.1.trans s1.1, s2.2.1.trans s1.2.1, fun j => (s2.2.2.1 j).trans (s1.2.2.1 j), fun j => (s2.2.2.2.1 j).trans (s1.2.2.2.1 j), fun j => (s2.2.2.2.2 j).trans (s1.2.2.2.2 j)⟩
/-- all cells are as they were but those of p; kinds and lengths of all -/
def keeps (h h1 : aH) (p : Nat → Prop) : Prop := gN h ≤ gN h1 ∧ gT h ≤ gT h1 ∧ (∀ a, a < gN h → gK h1 a = gK h a ∧ gL h1 a = gL h a) ∧ ∀ a, a < gN h → ¬ p a → same h h1 a
theorem keeps_refl (h : aH) (p : Nat → Prop) : keeps h h p := ⟨Nat.le_refl _, Nat.le_refl _, fun _ _ => ⟨rfl, rfl⟩, fun a _ _ => same_refl h a⟩
theorem keeps_trans {h h1 h2 : aH} {p : Nat → Prop} (k1 : keeps h h1 p) (k2 : keeps h1 h2 p) : keeps h h2 p := by
  obtain ⟨a1, b1, c1, d1⟩ := k1
  obtain ⟨a2, b2, c2, d2⟩ := k2
  exact ⟨by omega, by omega, fun a ha => ⟨(c2 a (by omega)).1.trans (c1 a ha).1, (c2 a (by omega)).2.trans (c1 a ha).2⟩, fun a ha hp => same_trans (d1 a ha hp) (d2 a (by omega) hp)⟩
theorem keeps_mono {h h1 : aH} {p q : Nat → Prop} (k : keeps h h1 p) (hpq : ∀ a, a < gN h → p a → q a) : keeps h h1 q := ⟨k.1, k.2.1, k.2.2.1, fun a ha hq => k.2.2.2 a ha (fun w => hq (hpq a ha w))⟩
theorem keeps_pI (h : aH) (a i : Nat) (x : Int32) : keeps h (pI h a i x) (fun q => q = a) :=
  ⟨Nat.le_refl _, Nat.le_refl _, fun _ _ => ⟨rfl, rfl⟩, fun b _ hb => ⟨rfl, rfl, fun j => by rw [gI_pI, if_neg (fun w => hb w.1)], fun _ => rfl, fun _ => rfl⟩⟩
theorem keeps_pJ (h : aH) (a i : Nat) (x : Int64) : keeps h (pJ h a i x) (fun q => q = a) :=
  ⟨Nat.le_refl _, Nat.le_refl _, fun _ _ => ⟨rfl, rfl⟩, fun b _ hb => ⟨rfl, rfl, fun _ => rfl, fun j => by rw [gJ_pJ, if_neg (fun w => hb w.1)], fun _ => rfl⟩⟩
theorem keeps_pR (h : aH) (a i x : Nat) : keeps h (pR h a i x) (fun q => q = a) :=
  ⟨Nat.le_refl _, Nat.le_refl _, fun _ _ => ⟨rfl, rfl⟩, fun b _ hb => ⟨rfl, rfl, fun _ => rfl, fun _ => rfl, fun j => by rw [gR_pR, if_neg (fun w => hb w.1)]⟩⟩
theorem keeps_new (h : aH) (k n : Nat) (p : Nat → Prop) : keeps h (gNew h k n) p := by
  refine ⟨by rw [gN_gNew]; omega, by rw [gT_gNew]; omega, fun a ha => ?_, fun a ha _ => ?_⟩
  · rw [gK_gNew, gL_gNew, if_neg (by omega), if_neg (by omega)]; exact ⟨rfl, rfl⟩
  · refine ⟨?_, ?_, fun j => ?_, fun j => ?_, fun j => ?_⟩
    · rw [gK_gNew, if_neg (by omega)]
    · rw [gL_gNew, if_neg (by omega)]
    · rw [gI_gNew, if_neg (by omega)]
    · rw [gJ_gNew, if_neg (by omega)]
    · rw [gR_gNew, if_neg (by omega)]
theorem gN_cpI (h : aH) (a i b j n : Nat) : gN (gCopyI h a i b j n) = gN h := rfl
theorem gT_cpI (h : aH) (a i b j n : Nat) : gT (gCopyI h a i b j n) = gT h := rfl
theorem gK_cpI (h : aH) (a i b j n q : Nat) : gK (gCopyI h a i b j n) q = gK h q := rfl
theorem gL_cpI (h : aH) (a i b j n q : Nat) : gL (gCopyI h a i b j n) q = gL h q := rfl
theorem gI_cpI (h : aH) (a i b j n q k : Nat) : gI (gCopyI h a i b j n) q k = if q = b ∧ j ≤ k ∧ k < j + n then gI h a (i + (k - j)) else gI h q k := rfl
theorem gJ_cpI (h : aH) (a i b j n q k : Nat) : gJ (gCopyI h a i b j n) q k = gJ h q k := rfl
theorem gR_cpI (h : aH) (a i b j n q k : Nat) : gR (gCopyI h a i b j n) q k = gR h q k := rfl
theorem gN_cpR (h : aH) (a i b j n : Nat) : gN (gCopyR h a i b j n) = gN h := rfl
theorem gT_cpR (h : aH) (a i b j n : Nat) : gT (gCopyR h a i b j n) = gT h := rfl
theorem gK_cpR (h : aH) (a i b j n q : Nat) : gK (gCopyR h a i b j n) q = gK h q := rfl
theorem gL_cpR (h : aH) (a i b j n q : Nat) : gL (gCopyR h a i b j n) q = gL h q := rfl
theorem gI_cpR (h : aH) (a i b j n q k : Nat) : gI (gCopyR h a i b j n) q k = gI h q k := rfl
theorem gJ_cpR (h : aH) (a i b j n q k : Nat) : gJ (gCopyR h a i b j n) q k = gJ h q k := rfl
theorem gR_cpR (h : aH) (a i b j n q k : Nat) : gR (gCopyR h a i b j n) q k = if q = b ∧ j ≤ k ∧ k < j + n then gR h a (i + (k - j)) else gR h q k := rfl
theorem keeps_cpI (h : aH) (a i b j n : Nat) : keeps h (gCopyI h a i b j n) (fun q => q = b) :=
  ⟨Nat.le_refl _, Nat.le_refl _, fun _ _ => ⟨rfl, rfl⟩, fun q _ hq => ⟨rfl, rfl, fun k => by rw [gI_cpI, if_neg (fun w => hq w.1)], fun _ => rfl, fun _ => rfl⟩⟩
theorem keeps_cpR (h : aH) (a i b j n : Nat) : keeps h (gCopyR h a i b j n) (fun q => q = b) :=
  ⟨Nat.le_refl _, Nat.le_refl _, fun _ _ => ⟨rfl, rfl⟩, fun q _ hq => ⟨rfl, rfl, fun _ => rfl, fun _ => rfl, fun k => by rw [gR_cpR, if_neg (fun w => hq w.1)]⟩⟩
end BA
