/-! THE REGISTER: contracts of the model's methods -/
section RM
variable {d U T : Nat} {h : aH} {X : Nat → aH → Prop} {into iday tu tf td tv tt : Nat → Int32}
theorem cm_isIn {K : Int32 → aH → Prop} {a b c : Int64} (k1 : b.toInt ≤ a.toInt → a.toInt ≤ c.toInt → K 1 h) (k0 : ¬ (b.toInt ≤ a.toInt ∧ a.toInt ≤ c.toInt) → K 0 h) : CI d 14 [vL a, vL b, vL c] h K X :=
  m14 ⟨fun c => k0 (by omega), fun c1 => ⟨fun c => k0 (by omega), fun c2 => k1 (by omega) (by omega)⟩⟩
theorem cm_fail {K : Int32 → aH → Prop} {x : Int32} (f : MF h) (k : K 0 (pI h 44 0 x)) : CI d 15 [vR 44, vI x] h K X := m15 ⟨by decide, f.1, fun h0 e => by rw [e]; exact k⟩
theorem cm_thrown {K : Int32 → aH → Prop} (f : MF h) (k : K (gI h 44 0) h) : CI d 17 [vR 44] h K X := m17 ⟨f.1, k⟩
theorem cm_today {K : Int32 → aH → Prop} (f : MF h) (k : K (gI h 44 1 / 1440) h) : CI d 40 [vR 44] h K X := m40 ⟨f.1, k⟩
/-- the units in the model -/
def unitsM (h : aH) (U : Nat) (into iday : Nat → Int32) : Prop := gI h 44 2 = nI U ∧ U ≤ 100 ∧ ∀ r, r < U → gI h 45 r = into r ∧ gI h 46 r = iday r
def tellM (h : aH) (T : Nat) (tu tf td tv tt : Nat → Int32) : Prop := gI h 44 6 = nI T ∧ T ≤ 1500 ∧ ∀ r, r < T → gI h 47 r = tu r ∧ gI h 48 r = tf r ∧ gI h 49 r = td r ∧ gI h 50 r = tv r ∧ gI h 51 r = tt r
theorem cm_isUnit {K : Int32 → aH → Prop} {x : Int32} (f : MF h) (R : unitsM h U into iday) (k1 : 0 ≤ x.toInt → x.toInt < U → K 1 h) (k0 : ¬ (0 ≤ x.toInt ∧ x.toInt < U) → K 0 h) : CI (d + 1) 39 [vR 44, vI x] h K X := by
  have hU := R.2.1
  have e1 : (1 : Int32).toInt = 1 := rfl
  have hu : ((gI h 44 2) - 1).toInt64.toInt = (U : Int) - 1 := by
    have e2 : (nI U).toInt = U := ti_n (by omega)
    rw [tl_i, R.1, ti_sub (by omega) (by omega)]; omega
  have hx : x.toInt64.toInt = x.toInt := tl_i x
  have e0 : (0 : Int64).toInt = 0 := rfl
  exact m39 ⟨f.1, cm_isIn (fun a b => ⟨by decide, k1 (by omega) (by omega)⟩) (fun q => ⟨by decide, k0 (by omega)⟩)⟩
theorem cm_lastw {K : Int32 → aH → Prop} {known : Int32} (f : MF h) (R : unitsM h U into iday) (fo : forest into U) : ∀ (k x : Nat), x < U → endsF into iday known.toInt k x → K (nI (lastF into iday known.toInt k x)) h →
    Wp d 46 (2, [some (vR 44), none, some (vI known), some (vI (nI x))], [], h) (RI K X) := by
  have hU := R.2.1
  intro k
  induction k with
  | zero =>
    intro x hx he hK
    obtain ⟨v1, v2⟩ := R.2.2 x hx
    have hf := fo.1 x hx
    have e1 := mr_3 f
    have e2 := mr_4 f
    refine w46_2 ⟨f.1, inB_n (j := x) (by rw [e1]; exact mk_45 f) rfl (by rw [e1, ml_45 f]; omega) (by omega) ?_⟩
    rw [e1, v1]
    refine ⟨fun _ => hK, fun c => inB_n (j := x) (by rw [e2]; exact mk_46 f) rfl (by rw [e2, ml_46 f]; omega) (by omega) ?_⟩
    rw [e2, v2]
    refine ⟨fun _ => hK, fun c2 => ?_⟩
    exfalso
    rcases hf with q | q
    · rw [q] at c; exact c rfl
    · rcases he with w | w <;> omega
  | succ k ih =>
    intro x hx he hK
    obtain ⟨v1, v2⟩ := R.2.2 x hx
    have hf := fo.1 x hx
    have e1 := mr_3 f
    have e2 := mr_4 f
    refine w46_2 ⟨f.1, inB_n (j := x) (by rw [e1]; exact mk_45 f) rfl (by rw [e1, ml_45 f]; omega) (by omega) ?_⟩
    rw [e1, v1]
    by_cases q : stopF into iday known.toInt x
    · rw [last_stop q] at hK
      refine ⟨fun _ => hK, fun c => inB_n (j := x) (by rw [e2]; exact mk_46 f) rfl (by rw [e2, ml_46 f]; omega) (by omega) ?_⟩
      rw [e2, v2]
      refine ⟨fun _ => hK, fun c2 => ?_⟩
      exfalso
      rcases hf with w | w
      · rw [w] at c; exact c rfl
      · rcases q with q | q <;> omega
    · have hns := forest_up fo hx q
      have hl : lastF into iday known.toInt (k + 1) x = lastF into iday known.toInt k (into x).toInt.toNat := last_go q
      rw [hl] at hK
      have he2 : endsF into iday known.toInt k (into x).toInt.toNat := by
        rcases he with w | w
        · exact absurd w q
        · exact w
      refine ⟨fun c => absurd c (by omega), fun c => inB_n (j := x) (by rw [e2]; exact mk_46 f) rfl (by rw [e2, ml_46 f]; omega) (by omega) ?_⟩
      rw [e2, v2]
      refine ⟨fun c2 => absurd (Or.inr c2) q, fun c2 => inB_n (j := x) (by exact mk_45 f) rfl (by rw [ml_45 f]; omega) (by omega) fun v0 ev => ?_⟩
      rw [ev, v1, ti_nat hns.2]
      exact ih _ hns.1 he2 hK
theorem cm_lastAs {K : Int32 → aH → Prop} {x known : Int32} (f : MF h) (R : unitsM h U into iday) (fo : forest into U) (h0 : 0 ≤ x.toInt) (h1 : x.toInt < U) (k : K (nI (lastF into iday known.toInt 99 x.toInt.toNat)) h) : CI d 46 [vR 44, vI x, vI known] h K X := by
  refine m46 ?_
  rw [ti_nat h0]
  exact cm_lastw f R fo 99 x.toInt.toNat (by omega) (ends_all fo R.2.1 (by omega)) k
end RM
