/-! ROUNDING: the model's side -/
section RDM
variable {d t R C N m k p : Nat} {h g : aH} {X : Nat → aH → Prop} {M I I0 : Nat → Nat → Int32} {J : Nat → Nat → Int64} {rn wn : Nat → Nat} {S T F Fr y : Int32}
theorem way_br {K : Int32 → aH → Prop} {x y : Int64} {a q : Nat} (mf : MF g) (h79 : I 44 79 = nI m) (m1 : 1 ≤ m ∧ m ≤ 1000) (hx : x.toInt = a) (hy : y.toInt = ((m * q : Nat) : Int)) (ha : a ≤ 1000000000) : CI d 306 [vR 44, vL x, vL y] (hU g I J) K X ↔ K (bI (decide (-(m : Int) < ((m * q : Nat) : Int) - a ∧ ((m * q : Nat) : Int) - a < m))) (hU g I J) := by
  have mI : (nI m).toInt = m := ti_n (by omega)
  have mL : (nI m).toInt64.toInt = m := by rw [tl_i, mI]
  have mne : ¬ (nI m).toInt64 = 0 := fun e => by rw [e] at mL; have : (0 : Int64).toInt = 0 := rfl; omega
  have dm := Nat.div_add_mod a m
  have ml := Nat.mod_lt a (show 0 < m by omega)
  have dle : a / m ≤ a := Nat.div_le_self _ _
  have mle : m * (a / m) ≤ a := by omega
  have dv : (x / (nI m).toInt64).toInt = ((a / m : Nat) : Int) := by
    rw [Int64.toInt_div_of_ne_left _ _ (fun e => by rw [e] at hx; have : (Int64.minValue).toInt = -9223372036854775808 := rfl; omega), hx, mL]
    rfl
  have pr : ((a / m : Nat) : Int) * (m : Int) = ((m * (a / m) : Nat) : Int) := by rw [Nat.mul_comm m]; rfl
  have v0 : ((x / (nI m).toInt64) * (nI m).toInt64).toInt = ((m * (a / m) : Nat) : Int) := by
    rw [tl_mul (by rw [dv, mL, pr]; omega) (by rw [dv, mL, pr]; omega), dv, mL, pr]
  have v1 : ((x / (nI m).toInt64) * (nI m).toInt64 + (nI m).toInt64).toInt = ((m * (a / m) : Nat) : Int) + m := by
    rw [tl_add (by rw [v0, mL]; omega) (by rw [v0, mL]; omega), v0, mL]
  have cs : (q + 1 ≤ a / m ∧ m * q + m ≤ m * (a / m)) ∨ (q = a / m ∧ m * q = m * (a / m)) ∨ (q = a / m + 1 ∧ m * q = m * (a / m) + m) ∨ (a / m + 2 ≤ q ∧ m * (a / m) + m + m ≤ m * q) := by
    by_cases c1 : q + 1 ≤ a / m
    · exact Or.inl ⟨c1, by have := Nat.mul_le_mul_left m c1; rw [Nat.mul_succ] at this; exact this⟩
    · by_cases c2 : q = a / m
      · exact Or.inr (Or.inl ⟨c2, by rw [c2]⟩)
      · by_cases c3 : q = a / m + 1
        · exact Or.inr (Or.inr (Or.inl ⟨c3, by rw [c3, Nat.mul_succ]⟩))
        · exact Or.inr (Or.inr (Or.inr ⟨by omega, by have := Nat.mul_le_mul_left m (show a / m + 1 + 1 ≤ q by omega); rw [Nat.mul_succ, Nat.mul_succ] at this; exact this⟩))
  refine CI_iff fun K X w9 => m306 ?_
  have yes : (-(m : Int) < ((m * q : Nat) : Int) - a ∧ ((m * q : Nat) : Int) - a < m) → K 1 (hU g I J) := fun z => by rw [decide_eq_true z] at w9; exact w9
  have no : ¬ (-(m : Int) < ((m * q : Nat) : Int) - a ∧ ((m * q : Nat) : Int) - a < m) → K 0 (hU g I J) := fun z => by rw [decide_eq_false z] at w9; exact w9
  clear w9
  generalize m * q = mq at *
  generalize m * (a / m) = me at *
  simp only [↓forall_eq, ↓inB_iff, gK_hU, gL_hU, gR_hU, gIh, gJh, pI_hU, pJ_hU, hU_hU, uI_app, uJ_app, and_true, true_and, and_false, false_and, and_self, true_implies, false_implies, not_true, not_false_iff, if_true, if_false, eq_self, Nat.reduceLeDiff, Nat.reduceEqDiff, reduceCtorEq, i32c, ti0, ti1, tiM, Int.natCast_nonneg, Int.reduceEq, Int.reduceLE, Int.reduceLT, Int.reduceNeg, tl_i, Int32.reduceToInt, Int64.reduceToInt, tiA, tlM6, Int.toNat_natCast, natc, nI_1, Int.zero_sub, implies_true, not_false_eq_true, mf.1, h79, mne, v0, v1, hx, hy]
  refine ⟨fun z1 => ⟨fun z2 => yes (by omega), fun z2 => no (by omega)⟩, fun z1 => ⟨fun z2 => yes (by omega), fun z2 => ⟨fun z3 => yes (by omega), fun z3 => no (by omega)⟩⟩⟩
/-- sums of a line, before and after -/
def sO (f : Nat → Nat) (R C r c : Nat) : Nat → Nat
  | 0 => 0
  | k + 1 => sO f R C r c k + if inC R C (r : Int) (c : Int) k = true then f k else 0
theorem sO_b {f : Nat → Nat} {r c B : Nat} (hf : ∀ k, k < N → f k ≤ B) : ∀ n, n ≤ N → sO f R C r c n ≤ B * n := by
  intro n
  induction n with
  | zero => intro _; exact Nat.zero_le _
  | succ n ih =>
    intro hn
    have i := ih (by omega)
    have := hf n (by omega)
    rw [sO, Nat.mul_succ]
    split <;> omega
theorem sO_dvd {f e : Nat → Nat} {r c : Nat} (hf : ∀ k, f k = m * e k) : ∀ n, sO f R C r c n = m * sO e R C r c n := by
  intro n
  induction n with
  | zero => rfl
  | succ n ih =>
    rw [sO, sO, ih, Nat.mul_add, hf n]
    split <;> rfl
theorem sO_ln {r c : Nat} : ∀ n, (sO (rdV wn m T) R C r c n : Int) - (sO wn R C r c n : Int) = lnG (fun k => wn k % m) m T R C r c n := by
  intro n
  induction n with
  | zero => rfl
  | succ n ih =>
    have ml := Nat.mod_le (wn n) m
    rw [sO, sO, lnG, ← ih]
    by_cases z : inC R C (r : Int) (c : Int) n = true
    · rw [if_pos z, if_pos z, if_pos z, rdV]
      by_cases y : gB T n = true
      · rw [if_pos y, if_pos y]; omega
      · rw [if_neg y, if_neg y]; omega
    · rw [if_neg z, if_neg z, if_neg z]; omega
/-- all sums of a way keep, also those of single cells -/
theorem ok_all (m1 : 1 ≤ m) (R1 : 1 ≤ R) (C1 : 1 ≤ C) (m12 : R * C ≤ 12) (hr : ∀ k, rn k < m) (w : wayT rn m (frC rn (R * C)) T R C) {r c : Nat} (h1 : r ≤ R) (h2 : c ≤ C) : okL rn m T R C r c := by
  by_cases h3 : r = R ∨ c = C
  · exact w.2 r c h1 h2 h3
  · have rl : r < R := by omega
    have cl : c < C := by omega
    have : (r + 1) * C ≤ R * C := Nat.mul_le_mul_right _ rl
    rw [Nat.succ_mul] at this
    have one := sN_one (c := r * C + c) (fun k => (if gB T k = true then (m : Int) else 0) - (rn k : Int)) (R * C)
    rw [if_pos (by omega)] at one
    have e : lnG rn m T R C r c (R * C) = (if gB T (r * C + c) = true then (m : Int) else 0) - (rn (r * C + c) : Int) := by
      rw [lnG_sN, ← one]
      refine sN_cg (R * C) fun k hk => ?_
      have ek : k / C * C + k % C = k := by rw [Nat.mul_comm]; exact Nat.div_add_mod k C
      by_cases z : k = r * C + c
      · rw [if_pos z, if_pos]
        have dq : k / C = r := by rw [z, Nat.add_comm, Nat.add_mul_div_right _ _ (by omega), Nat.div_eq_of_lt cl, Nat.zero_add]
        have mq : k % C = c := by rw [z, Nat.add_comm, Nat.add_mul_mod_self_right, Nat.mod_eq_of_lt cl]
        unfold inC
        rw [dq, mq, decide_eq_true (show (r : Int) = r from rfl), decide_eq_true (show (c : Int) = c from rfl), Bool.or_true, Bool.or_true]; rfl
      · rw [if_neg z, if_neg]
        intro y
        unfold inC at y
        rw [Bool.and_eq_true, Bool.or_eq_true, Bool.or_eq_true, decide_eq_true_iff, decide_eq_true_iff, decide_eq_true_iff, decide_eq_true_iff] at y
        have y1 : k / C = r := by omega
        have y2 : k % C = c := by omega
        rw [y1, y2] at ek
        exact z ek.symm
    unfold okL
    rw [e]
    have := hr (r * C + c)
    by_cases z : gB T (r * C + c) = true
    · have := (fst_msk m12 w).2 _ z
      rw [if_pos z]; omega
    · rw [if_neg z]; omega
end RDM
