/-! THE REGISTER, THE MODEL'S SIDE: rows that run by themselves -/
section RX
variable {d k : Nat} {h : aH} {X : Nat → aH → Prop} {I : Nat → Nat → Int32} {J : Nat → Nat → Int64} {U T : Nat}
theorem isIn_br {K : Int32 → aH → Prop} {a b c : Int64} : CI d 14 [vL a, vL b, vL c] h K X ↔ ((b.toInt ≤ a.toInt ∧ a.toInt ≤ c.toInt → K 1 h) ∧ (¬ (b.toInt ≤ a.toInt ∧ a.toInt ≤ c.toInt) → K 0 h)) := by
  by_cases q : b.toInt ≤ a.toInt ∧ a.toInt ≤ c.toInt
  · rw [bz_t q]; exact CI_iff fun K X w => cm_isIn (fun _ _ => w) (fun n => absurd q n)
  · rw [bz_f q]; exact CI_iff fun K X w => cm_isIn (fun a b => absurd ⟨a, b⟩ q) (fun _ => w)
theorem fail_br {K : Int32 → aH → Prop} {x : Int32} (f : MF h) : CI d 15 [vR 44, vI x] (hU h I J) K X ↔ K 0 (hU h (uI I 44 0 x) J) := CI_iff fun K X w => cm_fail (h := hU h I J) f w
theorem today_br {K : Int32 → aH → Prop} (f : MF h) : CI d 40 [vR 44] (hU h I J) K X ↔ K (I 44 1 / 1440) (hU h I J) := CI_iff fun K X w => cm_today (h := hU h I J) f w
theorem tl0 : (0 : Int64).toInt = 0 := rfl
theorem isUnit_br {K : Int32 → aH → Prop} {x : Int32} (f : MF h) (hU1 : I 44 2 = nI U) (hU2 : U ≤ 100) : CI (d + 1) 39 [vR 44, vI x] (hU h I J) K X ↔ ((0 ≤ x.toInt ∧ x.toInt < U → K 1 (hU h I J)) ∧ (¬ (0 ≤ x.toInt ∧ x.toInt < U) → K 0 (hU h I J))) := by
  by_cases q : 0 ≤ x.toInt ∧ x.toInt < U
  · rw [bz_t q]; exact CI_iff fun K X w => cm_isUnit (h := hU h I J) (into := I 45) (iday := I 46) f ⟨hU1, hU2, fun _ _ => ⟨rfl, rfl⟩⟩ (fun _ _ => w) (fun n => absurd q n)
  · rw [bz_f q]; exact CI_iff fun K X w => cm_isUnit (h := hU h I J) (into := I 45) (iday := I 46) f ⟨hU1, hU2, fun _ _ => ⟨rfl, rfl⟩⟩ (fun a b => absurd ⟨a, b⟩ q) (fun _ => w)
theorem last_br {K : Int32 → aH → Prop} {x known : Int32} (f : MF h) (hU1 : I 44 2 = nI U) (hU2 : U ≤ 100) (fo : forest (I 45) U) (h0 : 0 ≤ x.toInt) (h1 : x.toInt < U) : CI d 46 [vR 44, vI x, vI known] (hU h I J) K X ↔ K (nI (lastF (I 45) (I 46) known.toInt 99 x.toInt.toNat)) (hU h I J) :=
  CI_iff fun K X w => cm_lastAs (h := hU h I J) (into := I 45) (iday := I 46) f ⟨hU1, hU2, fun _ _ => ⟨rfl, rfl⟩⟩ fo h0 h1 w
theorem test41 {K : Int32 → aH → Prop} {u fi da v : Int32} (f : MF h) (hU1 : I 44 2 = nI U) (hU2 : U ≤ 100) (hT1 : I 44 6 = nI T) (hT2 : T ≤ 1500) : CI (d + 2) 41 [vR 44, vI u, vI fi, vI da, vI v] (hU h I J) K X := by
  have hT3 : T < 2147483648 := by omega
  refine m41 ?_
  simp only [gK_hU, gL_hU, gR_hU, gI_hU, gJ_hU, pI_hU, pJ_hU, hU_hU, inB_iff, forall_eq, and_true, true_and, Nat.reduceLeDiff, f.1, mr_3 f, mk_45 f, ml_45 f, mr_7 f, mk_47 f, ml_47 f, mr_8 f, mk_48 f, ml_48 f, mr_9 f, mk_49 f, ml_49 f, mr_10 f, mk_50 f, ml_50 f, mr_11 f, mk_51 f, ml_51 f, fail_br f, isIn_br, today_br f, isUnit_br f hU1 hU2, uI_app]
  sorry
end RX
