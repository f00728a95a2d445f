/-! THE REGISTER: contracts of the class's methods -/
section RG
theorem tn_n {n : Nat} (h : n < 2147483648) : (nI n).toInt.toNat = n := by rw [ti_n h]; omega
theorem CF_keeps {h h1 : aH} {p : Nat → Prop} (f : CF h) (k : keeps h h1 p) (hp : ¬ p 8 ∧ ¬ p 9 ∧ ¬ p 17 ∧ ¬ p 19 ∧ ¬ p 32) : CF h1 := by
  have hN := f.1
  refine CF_of f k.1 k.2.2.1 fun q hq => ?_
  obtain ⟨p1, p2, p3, p4, p5⟩ := hp
  have hq' := cF_in.2.2 q hq
  have hs : ∀ a, a < 108 → ¬ p a → gR h1 a q.2.1 = gR h a q.2.1 := fun a ha hpa => (k.2.2.2 a (by omega) hpa).2.2.2.2 _
  rcases hq' with e | e | ⟨e, -⟩ | ⟨e, -⟩ | e <;> rw [e]
  · exact hs 8 (by decide) p1
  · exact hs 9 (by decide) p2
  · exact hs 17 (by decide) p3
  · exact hs 19 (by decide) p4
  · exact hs 32 (by decide) p5
/-- the fixed cells' labels -/
def OF (o : Nat → Nat) : Prop := ∀ a, 8 ≤ a → a < 108 → a ≠ 11 → a ≠ 13 → a ≠ 41 → a ≠ 43 → o a = 100 + a
variable {d U T bu bt : Nat} {h : aH} {X : Nat → aH → Prop} {into iday tu tf td tv tt : Nat → Int32}
theorem c_needIndex {K : aH → Prop} {x y : Int32} (k : 0 ≤ x.toInt → x.toInt < y.toInt → K h) (e : ¬ (0 ≤ x.toInt ∧ x.toInt < y.toInt) → X 3 (gNew h 200 6)) : CV d 29 [vI x, vI y] h K X :=
  m29 ⟨fun c => e (by omega), fun c => ⟨fun c2 => k (by omega) c2, fun c2 => e (by omega)⟩⟩
theorem c_needUnit {K : aH → Prop} {x : Int32} (f : CF h) (R : rowsOK h 10 bu 2 100 U) (k : 0 ≤ x.toInt → x.toInt < U → K h) (e : ¬ (0 ≤ x.toInt ∧ x.toInt < U) → X 3 (gNew h 200 6)) : CV (d + 1) 30 [vR 8, vI x] h K X := by
  have hu : (nI U).toInt = U := ti_n (by have := R.2.2.2.2; omega)
  have e0 := cr_8_0 f
  have e1 := cr_9_0 f
  refine m30 ⟨ck_8 f, by rw [e0]; exact ck_9 f, by rw [e0, e1]; decide, by rw [e0, e1]; exact ck_10 f, ?_⟩
  rw [e0, e1]
  exact c_size R (c_needIndex (fun a b => k a (by omega)) (fun q => e (by omega)))
theorem c_needField {K : aH → Prop} {x : Int32} (k : 0 ≤ x.toInt → x.toInt < 6 → K h) (e : ¬ (0 ≤ x.toInt ∧ x.toInt < 6) → X 3 (gNew h 200 6)) : CV (d + 1) 31 [vR 8, vI x] h K X := by
  have h6 : (6 : Int32).toInt = 6 := rfl
  exact m31 (c_needIndex (fun a b => k a (by omega)) (fun q => e (by omega)))
theorem c_today {K : Int32 → aH → Prop} (f : CF h) (k : K (gI h 8 12 / 1440) h) : CI d 35 [vR 8] h K X := m35 ⟨ck_8 f, k⟩
/-- the units: into whom, told on which day -/
def unitsC (h : aH) (bu U : Nat) (into iday : Nat → Int32) : Prop := rowsOK h 10 bu 2 100 U ∧ ∀ r, r < U → gI h bu (r * 2 + 0) = into r ∧ (0 ≤ (into r).toInt → gI h bu (r * 2 + 1) = iday r)
def tellC (h : aH) (bt T : Nat) (tu tf td tv tt : Nat → Int32) : Prop := rowsOK h 12 bt 5 1500 T ∧ ∀ r, r < T → gI h bt (r * 5 + 0) = tu r ∧ gI h bt (r * 5 + 1) = tf r ∧ gI h bt (r * 5 + 2) = td r ∧ gI h bt (r * 5 + 3) = tv r ∧ gI h bt (r * 5 + 4) = tt r
theorem units_keeps {h1 : aH} {p : Nat → Prop} (R : unitsC h bu U into iday) (k : keeps h h1 p) (q1 : ¬ p 10) (q2 : ¬ p bu) : unitsC h1 bu U into iday := by
  refine ⟨rows_keeps R.1 k q1, fun r hr => ?_⟩
  have hs := k.2.2.2 bu R.1.2.2.1.2.2.1 q2
  rw [hs.2.2.1, hs.2.2.1]
  exact R.2 r hr
theorem tell_keeps {h1 : aH} {p : Nat → Prop} (R : tellC h bt T tu tf td tv tt) (k : keeps h h1 p) (q1 : ¬ p 12) (q2 : ¬ p bt) : tellC h1 bt T tu tf td tv tt := by
  refine ⟨rows_keeps R.1 k q1, fun r hr => ?_⟩
  have hs := k.2.2.2 bt R.1.2.2.1.2.2.1 q2
  rw [hs.2.2.1, hs.2.2.1, hs.2.2.1, hs.2.2.1, hs.2.2.1]
  exact R.2 r hr
theorem c_went {K : Int32 → aH → Prop} {x : Int32} (f : CF h) (R : unitsC h bu U into iday) (h0 : 0 ≤ x.toInt) (h1 : x.toInt < U) (k0 : (into x.toInt.toNat).toInt = -1 → K 0 h) (k1 : ¬ (into x.toInt.toNat).toInt = -1 → K 1 h) : CI (d + 2) 33 [vR 9, vI x] h K X := by
  have e1 := cr_9_0 f
  have hv := (R.2 x.toInt.toNat (by omega)).1
  refine m33 ⟨ck_9 f, by rw [e1]; decide, by rw [e1]; exact ck_10 f, ?_⟩
  rw [e1]
  refine c_at 0 R.1 h0 h1 rfl (by decide) ?_
  rw [hv]
  exact ⟨k0, k1⟩
theorem c_needUnm {K : aH → Prop} {x : Int32} (f : CF h) (R : unitsC h bu U into iday) (h0 : 0 ≤ x.toInt) (h1 : x.toInt < U) (k : (into x.toInt.toNat).toInt = -1 → K h) (e : ¬ (into x.toInt.toNat).toInt = -1 → X 2 (gNew h 200 6)) : CV (d + 3) 34 [vR 8, vI x] h K X := by
  have e0 := cr_8_0 f
  refine m34 ⟨ck_8 f, by rw [e0]; decide, by rw [e0]; exact ck_9 f, ?_⟩
  rw [e0]
  exact c_went f R h0 h1 (fun q => ⟨fun _ => k q, fun w => absurd rfl w⟩) (fun q => ⟨fun w => absurd w (by decide), fun _ => e q⟩)
theorem c_lastw {K : Int32 → aH → Prop} {known : Int32} (f : CF h) (R : unitsC h bu U into iday) (fo : forest into U) : ∀ (k x i : Nat), i + k = 99 → x < U → endsF into iday known.toInt k x → K (nI (lastF into iday known.toInt k x)) h →
    Wp (d + 2) 42 (5, [some (vR 9), none, some (vI known), some (vI (nI x)), some (vI (nI i)), none], [], h) (RI K X) := by
  have e1 := cr_9_0 f
  have hU : U ≤ 100 := R.1.2.2.2.2.2.2.2
  intro k
  induction k with
  | zero =>
    intro x i hi hx he hK
    have hxI : (nI x).toInt = x := ti_n (by omega)
    have hxN : (nI x).toInt.toNat = x := tn_n (by omega)
    obtain ⟨v1, v2⟩ := R.2 x hx
    refine w42_5 ⟨fun c => ⟨ck_9 f, by rw [e1]; decide, by rw [e1]; exact ck_10 f, ?_⟩, fun c => absurd (by rw [ti_n (by omega)]; omega) c⟩
    rw [e1]
    refine c_at 0 R.1 (by omega) (by omega) rfl (by decide) ?_
    rw [hxN, v1]
    refine ⟨fun _ => hK, fun c2 => ⟨ck_9 f, by rw [e1]; decide, by rw [e1]; exact ck_10 f, ?_⟩⟩
    rw [e1]
    refine c_at 1 R.1 (by omega) (by omega) rfl (by decide) ?_
    rw [hxN, v2 (by omega)]
    refine ⟨fun _ => hK, fun c3 => ?_⟩
    rcases he with q | q <;> omega
  | succ k ih =>
    intro x i hi hx he hK
    have hxI : (nI x).toInt = x := ti_n (by omega)
    have hxN : (nI x).toInt.toNat = x := tn_n (by omega)
    obtain ⟨v1, v2⟩ := R.2 x hx
    refine w42_5 ⟨fun c => ⟨ck_9 f, by rw [e1]; decide, by rw [e1]; exact ck_10 f, ?_⟩, fun c => absurd (by rw [ti_n (by omega)]; omega) c⟩
    rw [e1]
    refine c_at 0 R.1 (by omega) (by omega) rfl (by decide) ?_
    rw [hxN, v1]
    by_cases q : stopF into iday known.toInt x
    · rw [last_stop q] at hK
      refine ⟨fun _ => hK, fun c2 => ⟨ck_9 f, by rw [e1]; decide, by rw [e1]; exact ck_10 f, ?_⟩⟩
      rw [e1]
      refine c_at 1 R.1 (by omega) (by omega) rfl (by decide) ?_
      rw [hxN, v2 (by omega)]
      refine ⟨fun _ => hK, fun c3 => ?_⟩
      rcases q with q | q <;> omega
    · have hns := forest_up fo hx q
      have hl : lastF into iday known.toInt (k + 1) x = lastF into iday known.toInt k (into x).toInt.toNat := last_go q
      rw [hl] at hK
      have he2 : endsF into iday known.toInt k (into x).toInt.toNat := by
        rcases he with w | w
        · exact absurd w q
        · exact w
      refine ⟨fun c2 => absurd (Or.inl c2) q, fun c2 => ⟨ck_9 f, by rw [e1]; decide, by rw [e1]; exact ck_10 f, ?_⟩⟩
      rw [e1]
      refine c_at 1 R.1 (by omega) (by omega) rfl (by decide) ?_
      rw [hxN, v2 (by omega)]
      refine ⟨fun c3 => absurd (Or.inr c3) q, fun c3 v0 hv0 => ?_⟩
      rw [hv0, nI_1, ti_nat hns.2]
      exact ih _ _ (by omega) hns.1 he2 hK
theorem c_last {K : Int32 → aH → Prop} {x known : Int32} (f : CF h) (R : unitsC h bu U into iday) (fo : forest into U) (h0 : 0 ≤ x.toInt) (h1 : x.toInt < U) (k : K (nI (lastF into iday known.toInt 99 x.toInt.toNat)) h) : CI (d + 2) 42 [vR 9, vI x, vI known] h K X := by
  have hU : U ≤ 100 := R.1.2.2.2.2.2.2.2
  refine m42 ?_
  rw [ti_nat h0]
  exact c_lastw f R fo 99 x.toInt.toNat 0 (by omega) (by omega) (ends_all fo hU (by omega)) k
theorem c_addMerge {K : aH → Prop} {x v t : Int32} (f : CF h) (R : rowsOK h 10 bu 2 100 U) (h0 : 0 ≤ x.toInt) (h1 : x.toInt < U) (k : K (pI (pI (pI h bu (x.toInt.toNat * 2 + 0) v) bu (x.toInt.toNat * 2 + 1) t) 9 5 (gI h 9 5 + 1))) : CV (d + 2) 43 [vR 9, vI x, vI v, vI t] h K X := by
  have e1 := cr_9_0 f
  have hk := R.2.2.1.2.2.2
  have hb10 : (10 : Nat) ≠ bu := fun q => by rw [← q, ck_10 f] at hk; omega
  have hb9 : (9 : Nat) ≠ bu := fun q => by rw [← q, ck_9 f] at hk; omega
  refine m43 ⟨ck_9 f, by rw [e1]; decide, by rw [e1]; exact ck_10 f, ?_⟩
  rw [e1]
  refine c_put 0 R h0 h1 rfl (by decide) ⟨ck_9 f, by rw [gR_pI, e1]; decide, by rw [gR_pI, e1]; exact ck_10 f, ?_⟩
  rw [gR_pI, e1]
  refine c_put 1 (rows_keeps R (keeps_pI _ _ _ _) hb10) h0 h1 rfl (by decide) ⟨ck_9 f, by decide, fun h2 e2 => ?_⟩
  rw [e2, gI_pI, if_neg (fun q => hb9 q.1), gI_pI, if_neg (fun q => hb9 q.1)]
  exact k
/-- an array is filled -/
theorem c_fillw {K : aH → Prop} {a n : Nat} {v : Int32} {h0 : aH} (a8 : 8 ≤ a) (ka : gK h0 a = 100) (la : gL h0 a = n) (hn : n < 2147483648) (k : ∀ h1, (∀ i, i < n → gI h1 a i = v) → keeps h0 h1 (fun q => q = a) → gN h1 = gN h0 → gT h1 = gT h0 → K h1) :
    ∀ (m i : Nat) (h : aH), i + m = n → (∀ j, j < i → gI h a j = v) → keeps h0 h (fun q => q = a) → gN h = gN h0 → gT h = gT h0 → gK h a = 100 → gL h a = n → Wp d 48 (5, [some (vR a), some (vI v), some (vI (nI i)), some (vI (nI n))], [], h) (RV K X) := by
  intro m
  induction m with
  | zero =>
    intro i h hi hv hk hN hT _ _
    refine w48_5 ⟨fun c => absurd c ?_, fun _ => k h (fun j hj => hv j (by omega)) hk hN hT⟩
    rw [ti_n (by omega), ti_n (by omega)]; omega
  | succ m ih =>
    intro i h hi hv hk hN hT hka hla
    refine w48_5 ⟨fun c => ⟨a8, inB_n hka rfl (by omega) (by omega) fun h1 e1 v0 ev => ?_⟩, fun c => absurd ?_ c⟩
    · rw [ev, nI_1]
      refine ih (i + 1) h1 (by omega) (fun j hj => ?_) (keeps_trans hk (by rw [e1]; exact keeps_pI _ _ _ _)) (by rw [e1]; exact hN) (by rw [e1]; exact hT) (by rw [e1]; exact hka) (by rw [e1]; exact hla)
      rw [e1, gI_pI]
      by_cases q : j = i
      · rw [if_pos ⟨rfl, q⟩]
      · rw [if_neg (fun w => q w.2)]; exact hv j (by omega)
    · rw [ti_n (by omega), ti_n (by omega)]; omega
theorem c_fill {K : aH → Prop} {a n : Nat} {v : Int32} (a8 : 8 ≤ a) (ka : gK h a = 100) (la : gL h a = n) (hn : n < 2147483648) (k : ∀ h1, (∀ i, i < n → gI h1 a i = v) → keeps h h1 (fun q => q = a) → gN h1 = gN h → gT h1 = gT h → K h1) : CV d 48 [vR a, vI v] h K X :=
  m48 ⟨by rw [ka]; omega, fun v0 ev => by
    rw [ev, la]
    exact c_fillw a8 ka la hn k n 0 h (by omega) (fun j hj => by omega) (keeps_refl _ _) rfl rfl ka la⟩
end RG
