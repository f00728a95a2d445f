/-! BITS -/
section BIT
variable {d : Nat} {h : aH} {X : Nat → aH → Prop}
def gB (x : Int32) (i : Nat) : Bool := x.toBitVec.getLsbD i
theorem gB_or (x y : Int32) (i : Nat) : gB (x ||| y) i = (gB x i || gB y i) := by unfold gB; rw [Int32.toBitVec_or, BitVec.getLsbD_or]
theorem gB_and (x y : Int32) (i : Nat) : gB (x &&& y) i = (gB x i && gB y i) := by unfold gB; rw [Int32.toBitVec_and, BitVec.getLsbD_and]
theorem gB_0 (i : Nat) : gB 0 i = false := by unfold gB; simp
theorem gB_32 {x : Int32} {i : Nat} (hi : 32 ≤ i) : gB x i = false := BitVec.getLsbD_of_ge _ _ hi
theorem gB_ext {x y : Int32} (e : ∀ i, i < 32 → gB x i = gB y i) : x = y := Int32.toBitVec_inj.mp (BitVec.eq_of_getLsbD_eq e)
theorem gB_not (x : Int32) {i : Nat} (hi : i < 32) : gB (x ^^^ (-1)) i = !gB x i := by
  unfold gB
  rw [Int32.toBitVec_xor, BitVec.getLsbD_xor]
  have : ∀ i : Fin 32, (-1 : Int32).toBitVec.getLsbD i.val = true := by decide +kernel
  rw [this ⟨i, hi⟩, Bool.xor_true]
theorem gB_shl : ∀ s i : Fin 32, gB (1 <<< (nI s.val &&& 31)) i.val = decide (i.val = s.val) := by decide +kernel
theorem gB_m2 : ∀ s i : Fin 32, gB ((-2) <<< (nI s.val &&& 31)) i.val = decide (s.val < i.val) := by decide +kernel
theorem gB_sh {s i : Nat} (hs : s < 32) : gB (1 <<< (nI s &&& 31)) i = decide (i = s) := by
  by_cases hi : i < 32
  · exact gB_shl ⟨s, hs⟩ ⟨i, hi⟩
  · rw [gB_32 (by omega), decide_eq_false (by omega)]
theorem gB_b {s i : Nat} (hs : s < 32) (hi : i < 32) : gB ((-2) <<< (nI s &&& 31)) i = decide (s < i) := gB_m2 ⟨s, hs⟩ ⟨i, hi⟩
theorem gB_zero {x : Int32} : x.toInt = 0 ↔ ∀ i, i < 32 → gB x i = false := by
  constructor
  · intro e i _
    have : x = 0 := ti_inj (by rw [e]; rfl)
    rw [this, gB_0]
  · intro e
    have : x = 0 := gB_ext fun i hi => by rw [e i hi, gB_0]
    rw [this]; rfl
/-- a set as bits -/
def bits (P : Nat → Bool) : Nat → Int32
  | 0 => 0
  | s + 1 => if P s = true then bits P s ||| (1 <<< (nI s &&& 31)) else bits P s
theorem gB_bits {P : Nat → Bool} : ∀ n, n ≤ 32 → ∀ i, gB (bits P n) i = (decide (i < n) && P i) := by
  intro n
  induction n with
  | zero => intro _ i; rw [bits, gB_0]; simp
  | succ n ih =>
    intro hn i
    rw [bits]
    by_cases q : P n = true
    · rw [if_pos q, gB_or, ih (by omega), gB_sh (by omega)]
      by_cases e : i = n
      · subst e; simp [q]
      · have : (i < n + 1) ↔ i < n := by omega
        simp [e, this]
    · rw [if_neg q, ih (by omega)]
      by_cases e : i = n
      · subst e; simp [q]
      · have : (i < n + 1) ↔ i < n := by omega
        simp [this]
theorem aU_bit {x : Int32} {k : Nat} (hk : k < 32) : (aUshr x (nI k) &&& 1).toInt = 0 ↔ gB x k = false := by
  have e1 : (nI k).toUInt32 &&& Int32.toUInt32 31 = UInt32.ofNat k := by
    have : ∀ s : Fin 32, (nI s.val).toUInt32 &&& Int32.toUInt32 31 = UInt32.ofNat s.val := by decide +kernel
    exact this ⟨k, hk⟩
  have z : ∀ s : Fin 32, ((UInt32.ofNat s.val).toBitVec % 32#32).toNat = s.val := by decide +kernel
  have a2 : (aUshr x (nI k)).toBitVec = x.toBitVec >>> k := by
    unfold aUshr
    rw [e1]
    show (x.toUInt32 >>> UInt32.ofNat k).toBitVec = _
    rw [UInt32.toBitVec_shiftRight]
    show x.toBitVec >>> ((UInt32.ofNat k).toBitVec % 32#32) = _
    rw [BitVec.ushiftRight_eq', z ⟨k, hk⟩]
  have b1 : ∀ i : Fin 32, gB 1 i.val = decide (i.val = 0) := by decide +kernel
  rw [gB_zero]
  constructor
  · intro w
    have := w 0 (by decide)
    rw [gB_and, b1 ⟨0, by decide⟩] at this
    unfold gB at this ⊢
    rw [a2, BitVec.getLsbD_ushiftRight] at this
    simpa using this
  · intro w i hi
    rw [gB_and, b1 ⟨i, hi⟩]
    by_cases e : i = 0
    · subst e
      unfold gB at w ⊢
      rw [a2, BitVec.getLsbD_ushiftRight]
      simpa using w
    · simp [e]
theorem hasBit_br {K : Int32 → aH → Prop} {x : Int32} {k : Nat} (hk : k < 32) : CI d 199 [vI x, vI (nI k)] h K X ↔ K (bI (gB x k)) h := by
  have hkI : (nI k).toInt = k := ti_n (by omega)
  refine CI_iff fun K X w => m199 ⟨fun c => by omega, fun _ => ⟨fun _ => ⟨fun c => ?_, fun c => ?_⟩, fun c => by omega⟩⟩
  · rw [aU_bit hk] at c; rw [c] at w; exact w
  · rw [aU_bit hk] at c; rw [bnf c] at w; exact w
theorem hasBit_no {K : Int32 → aH → Prop} {x k : Int32} (hk : k.toInt < 0) : CI d 199 [vI x, vI k] h K X ↔ K 0 h :=
  CI_iff fun K X w => m199 ⟨fun _ => w, fun c => absurd hk c⟩
/-- the last steps of counting trailing zeros -/
def ntF (v : Int32) : Int32 := if 0 < v.toInt then
    (let p := if 65536 < v.toInt then (if 256 < (aUshr v 16).toInt then (aUshr (aUshr v 16) 8, (1 : Int32) + 16 + 8) else (aUshr v 16, 1 + 16)) else (if 256 < v.toInt then (aUshr v 8, 1 + 8) else (v, 1))
     if 16 < p.1.toInt then (if 4 < (aUshr p.1 4).toInt then p.2 + 4 + 2 + aUshr (aUshr (aUshr p.1 4) 2) 1 else p.2 + 4 + aUshr (aUshr p.1 4) 1) else (if 4 < p.1.toInt then p.2 + 2 + aUshr (aUshr p.1 2) 1 else p.2 + aUshr p.1 1))
  else v &&& 32
theorem ntF_ok : ∀ t : Fin 32, ntF (nI (2 ^ t.val - 1)) = nI t.val := by decide +kernel
theorem ntz_eq {K : Int32 → aH → Prop} {x : Int32} (w : K (ntF ((x ^^^ (-1)) &&& (x - 1))) h) : CI d 152 [vI x] h K X := by
  refine m152 fun v ev => ?_
  rw [← ev] at w
  unfold ntF at w
  have tl : ∀ l0 l1 : Int32, K (if 16 < l0.toInt then (if 4 < (aUshr l0 4).toInt then l1 + 4 + 2 + aUshr (aUshr (aUshr l0 4) 2) 1 else l1 + 4 + aUshr (aUshr l0 4) 1) else (if 4 < l0.toInt then l1 + 2 + aUshr (aUshr l0 2) 1 else l1 + aUshr l0 1)) h → Wp d 152 (49, [some (vI l0), some (vI l1)], [], h) (RI K X) := fun l0 l1 q => by
    refine w152_49 ⟨fun c v0 e0 v1 e1 => ?_, fun c => ?_⟩
    · rw [if_pos c] at q
      subst e0; subst e1
      refine ⟨fun c2 v2 e2 v3 e3 => ?_, fun c2 => ?_⟩
      · rw [if_pos c2] at q; subst e2; subst e3; exact q
      · rw [if_neg c2] at q; exact q
    · rw [if_neg c] at q
      refine ⟨fun c2 v2 e2 v3 e3 => ?_, fun c2 => ?_⟩
      · rw [if_pos c2] at q; subst e2; subst e3; exact q
      · rw [if_neg c2] at q; exact q
  refine ⟨fun c => ⟨fun c1 v1 e1 v2 e2 => ?_, fun c1 => ?_⟩, fun c => ?_⟩
  · rw [if_pos c, if_pos c1] at w
    subst e1; subst e2
    refine ⟨fun c2 v3 e3 v4 e4 => ?_, fun c2 => ?_⟩
    · rw [if_pos c2] at w; subst e3; subst e4; exact tl _ _ w
    · rw [if_neg c2] at w; exact tl _ _ w
  · rw [if_pos c, if_neg c1] at w
    refine ⟨fun c2 v3 e3 v4 e4 => ?_, fun c2 => ?_⟩
    · rw [if_pos c2] at w; subst e3; subst e4; exact tl _ _ w
    · rw [if_neg c2] at w; exact tl _ _ w
  · rw [if_neg c] at w; exact w
theorem gB_nat {x : Int32} {i : Nat} : gB x i = x.toBitVec.toNat.testBit i := rfl
theorem low_mask {x : Int32} {t : Nat} (ht : t < 32) (h1 : gB x t = true) (h0 : ∀ i, i < t → gB x i = false) : (x ^^^ (-1)) &&& (x - 1) = nI (2 ^ t - 1) := by
  generalize hn : x.toBitVec.toNat = n
  have nlt : n < 2 ^ 32 := by rw [← hn]; exact x.toBitVec.isLt
  have e1 : n % 2 ^ (t + 1) = 2 ^ t := by
    apply Nat.eq_of_testBit_eq
    intro i
    rw [Nat.testBit_mod_two_pow, Nat.testBit_two_pow]
    by_cases c : i < t
    · have := h0 i c
      rw [gB_nat, hn] at this
      rw [this, Bool.and_false]; exact (decide_eq_false (by omega)).symm
    · by_cases c2 : i = t
      · subst c2
        rw [gB_nat, hn] at h1
        rw [h1]; simp
      · rw [decide_eq_false (by omega), decide_eq_false (by omega)]; simp
  have e2 : n = 2 ^ (t + 1) * (n / 2 ^ (t + 1)) + 2 ^ t := by have := Nat.div_add_mod n (2 ^ (t + 1)); omega
  have hp : 0 < 2 ^ t := Nat.two_pow_pos t
  have hq : 2 ^ t < 2 ^ (t + 1) := by rw [Nat.pow_succ]; omega
  have e3 : (x - 1).toBitVec.toNat = n - 1 := by
    rw [Int32.toBitVec_sub, BitVec.toNat_sub, hn]
    have : (1 : Int32).toBitVec.toNat = 1 := rfl
    rw [this]
    have : 0 < n := by omega
    omega
  apply gB_ext
  intro i hi
  have hr : gB (nI (2 ^ t - 1)) i = decide (i < t) := by
    have : ∀ t i : Fin 32, gB (nI (2 ^ t.val - 1)) i.val = decide (i.val < t.val) := by decide +kernel
    exact this ⟨t, ht⟩ ⟨i, hi⟩
  rw [hr, gB_and, gB_not _ hi, gB_nat, gB_nat, e3, hn]
  have b1 : n.testBit i = if i < t + 1 then (2 ^ t).testBit i else (n / 2 ^ (t + 1)).testBit (i - (t + 1)) := by
    rw [e2, Nat.testBit_two_pow_mul_add _ hq, ← e2]
  have b2 : (n - 1).testBit i = if i < t + 1 then (2 ^ t - 1).testBit i else (n / 2 ^ (t + 1)).testBit (i - (t + 1)) := by
    have : n - 1 = 2 ^ (t + 1) * (n / 2 ^ (t + 1)) + (2 ^ t - 1) := by omega
    rw [this, Nat.testBit_two_pow_mul_add _ (by omega)]
  rw [b1, b2]
  by_cases c : i < t + 1
  · rw [if_pos c, if_pos c, Nat.testBit_two_pow, Nat.testBit_two_pow_sub_one]
    by_cases c2 : i < t
    · rw [decide_eq_false (by omega), decide_eq_true c2]; rfl
    · rw [decide_eq_true (by omega), decide_eq_false c2]; rfl
  · rw [if_neg c, if_neg c, decide_eq_false (by omega)]
    cases (n / 2 ^ (t + 1)).testBit (i - (t + 1)) <;> rfl
theorem ntz_br {K : Int32 → aH → Prop} {x : Int32} {t : Nat} (ht : t < 32) (h1 : gB x t = true) (h0 : ∀ i, i < t → gB x i = false) : CI d 152 [vI x] h K X ↔ K (nI t) h := by
  refine CI_iff fun K X w => ntz_eq ?_
  rw [low_mask ht h1 h0, ntF_ok ⟨t, ht⟩]
  exact w
end BIT
