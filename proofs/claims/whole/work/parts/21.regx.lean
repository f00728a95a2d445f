/-! THE REGISTER, THE MODEL'S SIDE: rows that run by themselves -/
section RX
variable {d k : Nat} {h : aH} {X : Nat → aH → Prop} {I : Nat → Nat → Int32} {J : Nat → Nat → Int64} {U T : Nat}
theorem isIn_br {K : Int32 → aH → Prop} {a b c : Int64} : CI d 14 [vL a, vL b, vL c] h K X ↔ ((b.toInt ≤ a.toInt ∧ a.toInt ≤ c.toInt → K 1 h) ∧ (¬ (b.toInt ≤ a.toInt ∧ a.toInt ≤ c.toInt) → K 0 h)) := by
  by_cases q : b.toInt ≤ a.toInt ∧ a.toInt ≤ c.toInt
  · rw [bz_t q]; exact CI_iff fun K X w => cm_isIn (fun _ _ => w) (fun n => absurd q n)
  · rw [bz_f q]; exact CI_iff fun K X w => cm_isIn (fun a b => absurd ⟨a, b⟩ q) (fun _ => w)
theorem fail_br {K : Int32 → aH → Prop} {x : Int32} (f : MF h) : CI d 15 [vR 44, vI x] (hU h I J) K X ↔ K 0 (hU h (uI I 44 0 x) J) := CI_iff fun K X w => cm_fail (h := hU h I J) f w
theorem today_br {K : Int32 → aH → Prop} (f : MF h) : CI d 40 [vR 44] (hU h I J) K X ↔ K (I 44 1 / 1440) (hU h I J) := CI_iff fun K X w => cm_today (h := hU h I J) f w
theorem tl0 : (0 : Int64).toInt = 0 := rfl
theorem isUnit_br {K : Int32 → aH → Prop} {x : Int32} (f : MF h) (hp : 0 ≤ (I 44 2).toInt) : CI (d + 1) 39 [vR 44, vI x] (hU h I J) K X ↔ ((0 ≤ x.toInt ∧ x.toInt < (I 44 2).toInt → K 1 (hU h I J)) ∧ (¬ (0 ≤ x.toInt ∧ x.toInt < (I 44 2).toInt) → K 0 (hU h I J))) := by
  have hi := ti_hi (I 44 2)
  have e1 : (1 : Int32).toInt = 1 := rfl
  have hu : ((I 44 2) - 1).toInt64.toInt = (I 44 2).toInt - 1 := by rw [tl_i, ti_sub (by omega) (by omega)]; omega
  have hx : x.toInt64.toInt = x.toInt := tl_i x
  have e0 : (0 : Int64).toInt = 0 := rfl
  have H : ∀ (K : Int32 → aH → Prop) (X : Nat → aH → Prop), ((0 ≤ x.toInt ∧ x.toInt < (I 44 2).toInt → K 1 (hU h I J)) ∧ (¬ (0 ≤ x.toInt ∧ x.toInt < (I 44 2).toInt) → K 0 (hU h I J))) → CI (d + 1) 39 [vR 44, vI x] (hU h I J) K X := fun K X w => by
    have hu' : ((gI (hU h I J) 44 2) - 1).toInt64.toInt = (I 44 2).toInt - 1 := hu
    exact m39 ⟨f.1, cm_isIn (fun a b => ⟨by decide, w.1 (by omega)⟩) (fun q => ⟨by decide, w.2 (by omega)⟩)⟩
  by_cases q : 0 ≤ x.toInt ∧ x.toInt < (I 44 2).toInt
  · rw [bz_t q]; exact CI_iff fun K X w => H K X ((bz_t q).mpr w)
  · rw [bz_f q]; exact CI_iff fun K X w => H K X ((bz_f q).mpr w)
theorem last_br {K : Int32 → aH → Prop} {x known : Int32} (f : MF h) (hU1 : I 44 2 = nI U) (hU2 : U ≤ 100) (fo : forest (I 45) U) (h0 : 0 ≤ x.toInt) (h1 : x.toInt < U) : CI d 46 [vR 44, vI x, vI known] (hU h I J) K X ↔ K (nI (lastF (I 45) (I 46) known.toInt 99 x.toInt.toNat)) (hU h I J) :=
  CI_iff fun K X w => cm_lastAs (h := hU h I J) (into := I 45) (iday := I 46) f ⟨hU1, hU2, fun _ _ => ⟨rfl, rfl⟩⟩ fo h0 h1 w
end RX
