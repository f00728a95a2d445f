/-! FORM: the pair -/
section PFM
variable {d L nf cnt w f : Nat} {h h1 h2 : aH} {A A1 o o1 : Nat → Nat} {X : Nat → aH → Prop} {B : Nat → Int32} {M M2 : Nat → Nat → Int32} {C : Nat → Prop} {p : Nat → Prop} {E : Nat → Nat → List Tm} {Cn : Nat → Nat → List Cmp} {st : Nat → StD}
/-- the things so far; no form has rules before it is there -/
def ThA (M : Nat → Nat → Int32) (nf : Nat) : Prop := (∃ th, M 44 27 = nI th ∧ th ≤ 1200 * nf ∧ ∀ f, f < nf → ∀ s, s < cnM M f → (M 60 (20 * f + s)).toInt ≤ th ∧ (M 62 (20 * f + s)).toInt ≤ th) ∧ ∀ f, nf ≤ f → f < 6 → M 81 f = 0
theorem left_mkJ {as fs : List Nat} {n t : Nat} {I' : Nat → Nat → Int32} {J' : Nat → Nat → Int64} (b : base h o) (b1 : base h1 o1) (f : fr h h1 A A1 o o1 C) (hc : ¬ C 14) (ha : ∀ a ∈ as, 44 ≤ a ∧ a < 107)
    (i1 : ∀ a, a ≠ 44 → a ∉ as → I' a = gI h1 a) (i2 : ∀ j, j ≠ 0 → j ∉ fs → I' 44 j = gI h1 44 j) (j1 : ∀ a, a ≠ 107 → a ∉ as → J' a = gJ h1 a) (hn : gN h1 ≤ gN h + n) (ht : gT h1 ≤ gT h + t) : left h (hU h1 I' J') A A1 o o1 C as fs n t := by
  have hN := b.1.1
  have hm := fun {a : Nat} (h44 : 44 ≤ a) (h107 : a < 107) => fr_m b f hc h44 h107
  refine ⟨b1, ⟨⟨f.1.1, f.1.2.1, f.1.2.2.1, fun a ha2 hp => ?_⟩, f.2.1, fun l hl => f.2.2 l (fun q => hl (Or.inl q))⟩, ⟨fun a h1 h2 hna => ?_, fun j h0 hnj => ?_, fun a h1 h2 hna => ?_⟩, hn, ht⟩
  · have hp1 : ¬ C (o a / 1000000) := fun q => hp (Or.inl q)
    have hp2 : ¬ (44 ≤ a ∧ a < 107) := fun q => hp (Or.inr (Or.inl (ol_m b.2.2 q.1 q.2)))
    have hp3 : a ≠ 107 := fun q => hp (Or.inr (Or.inr (by rw [q, ol_107 b.2.2])))
    have hna : a ∉ as := fun q => hp2 (ha a q)
    obtain ⟨s1, s2, s3, s4, s5⟩ := fr_same f ha2 hp1
    refine ⟨s1, s2, fun j => ?_, fun j => ?_, s5⟩
    · show I' a j = _
      rw [i1 a (by omega) hna]; exact s3 j
    · show J' a j = _
      rw [j1 a hp3 hna]; exact s4 j
  · show I' a = _
    rw [i1 a (by omega) hna]; exact (hm (by omega) h2).1
  · show I' 44 j = _
    rw [i2 j h0 hnj, (hm (a := 44) (by omega) (by omega)).1]
  · show J' a = _
    rw [j1 a (by omega) hna]; exact (hm h1 h2).2
/-- an old form beside a new one -/
theorem formOK_up {E : Nat → List Tm} {Cn : Nat → List Cmp} {th : Nat} (F : formOK h A o M E Cn f) (hth : ∀ s, s < cnM M f → (M 60 (20 * f + s)).toInt ≤ th ∧ (M 62 (20 * f + s)).toInt ≤ th) (kp : keeps h h2 p) (hp : ∀ j, j < 12 → ¬ p (A (bF f + j))) (hA : ∀ j, j < 12 → A1 (bF f + j) = A (bF f + j)) (ho : ∀ q, q < gN h → o1 q = o q) (m53 : M2 53 f = M 53 f) (mr : ∀ a, 54 ≤ a → a ≤ 62 → ∀ i, i < 20 → M2 a (20 * f + i) = M a (20 * f + i)) (mt : ∀ i, i < th → M2 63 i = M 63 i ∧ M2 64 i = M 64 i) (m8 : ∀ a, 81 ≤ a → a ≤ 84 → M2 a = M a) : formOK h2 A1 o1 M2 E Cn f := by
  obtain ⟨⟨t, l, ⟨c1, c2, c3⟩, c4⟩, ⟨⟨f1, f2, f3⟩, f4⟩, fb, ak, rr, rr2, rr3⟩ := F
  have sm : ∀ j, j < 12 → same h h2 (A (bF f + j)) := fun j hj => by
    obtain ⟨kd, v⟩ := vF_j t hj
    exact kp.2.2.2 _ v.2.2.1 (hp j hj)
  have ii : ∀ j, j < 12 → gI h2 (A1 (bF f + j)) = gI h (A (bF f + j)) ∧ gL h2 (A1 (bF f + j)) = gL h (A (bF f + j)) := fun j hj => by
    rw [hA j hj]; exact ⟨funext (sm j hj).2.2.1, (sm j hj).2.1⟩
  have i0 : gI h2 (A1 (bF f)) = gI h (A (bF f)) := (ii 0 (by omega)).1
  have ecn : cnM M2 f = cnM M f := by unfold cnM; rw [m53]
  have enr : nrM M2 f = nrM M f := by unfold nrM; rw [m8 81 (by decide) (by decide)]
  have eso : soM M2 f = soM M f := by
    funext s; unfold soM
    split
    · rename_i hs; exact mr 54 (by decide) (by decide) s hs
    · rfl
  have T2 : TF h2 A1 o1 f := obj_kp (oL_F c3) t kp.1 (fun q hq => by
    have hj : q.1 < 12 := (show ∀ q ∈ kF, q.1 < 12 by decide) q hq
    exact ⟨hA _ hj, sm _ hj, ho _ (t.1 q hq).2.2.1⟩)
  refine ⟨⟨T2, ?_, ⟨?_, by rw [ecn]; exact c2, c3⟩, fun s hs => ?_⟩, ⟨⟨by rw [m53, ecn]; exact f1, by rw [ecn]; exact f2, f3⟩, fun s hs => ?_⟩, fun s hs => ?_, ?_, ?_, ?_, fun r hr => ?_⟩
  · unfold lenT
    rw [(ii 2 (by omega)).2, (ii 1 (by omega)).2]
    exact l
  · rw [i0, ecn]; exact c1
  · rw [ecn] at hs
    obtain ⟨q1, q2, q3⟩ := c4 s hs
    rw [(ii 3 (by omega)).1, eso]
    refine ⟨q1, ?_, q3⟩
    unfold stC
    rw [(ii 8 (by omega)).1, (ii 9 (by omega)).1, (ii 1 (by omega)).1, (ii 2 (by omega)).1, (ii 1 (by omega)).2]
    exact q2
  · rw [ecn] at hs
    obtain ⟨q1, q2, q3⟩ := f4 s hs
    rw [eso, mr 54 (by decide) (by decide) s (by omega)]
    exact ⟨q1, stM_cg q2 ⟨mr 59 (by decide) (by decide) s (by omega), mr 60 (by decide) (by decide) s (by omega), mr 61 (by decide) (by decide) s (by omega), mr 62 (by decide) (by decide) s (by omega)⟩ (hth s hs).1 (hth s hs).2 mt, q3⟩
  · rw [ecn] at hs
    unfold formB
    rw [(ii 4 (by omega)).1, (ii 5 (by omega)).1, (ii 6 (by omega)).1, mr 56 (by decide) (by decide) s (by omega), mr 57 (by decide) (by decide) s (by omega), mr 58 (by decide) (by decide) s (by omega), eso]
    exact fb s hs
  · rw [ecn, eso]; exact ak
  · rw [enr, m8 81 (by decide) (by decide)]; exact rr
  · rw [enr, hA 10 (by decide), hA 11 (by decide)]
    exact rows_keeps rr2 kp (hp 10 (by decide))
  · rw [enr] at hr
    rw [(ii 11 (by omega)).1, m8 82 (by decide) (by decide), m8 83 (by decide) (by decide), m8 84 (by decide) (by decide)]
    unfold rlA
    rw [ecn, eso]
    exact rr3 r hr
/-- a new form: what both have read -/
theorem formOK_new (f6 : f < 6) (T : TF h A o f) (hl : gL h (A (bF f + 1)) = L ∧ gL h (A (bF f + 2)) = L ∧ L ≤ 1200) (hc : ∃ w, clW (fun j => A (bF f + j)) (gI h) (gJ h) st cnt w ∧ w ≤ L) (h20 : cnt ≤ 20) (h10 : stA st cnt ≤ 10) (J : Nat → Nat → Int64) (m53 : M 53 f = nI cnt) (md : ∀ s, s < cnt → mdS M J (20 * f + s) (st s).1 (st s).2.1 (st s).2.2 w) (rw0 : rowsOK h (A (bF f + 10)) (A (bF f + 11)) 3 16 0) (m81 : M 81 f = 0) : formOK h A o M (fun s => (st s).2.1.2.2.2) (fun s => (st s).2.2) f := by
  obtain ⟨w9, ⟨⟨x10, x11, x12⟩, c4, c5, c6⟩, hw⟩ := hc
  have ecn : cnM M f = cnt := by unfold cnM; rw [m53, ti_n (by omega)]; omega
  have eso : ∀ s, s < cnt → soM M f s = nI (st s).1 := fun s hs => by unfold soM; rw [if_pos (by omega)]; exact (md s hs).1.1
  have s3 : ∀ s, s < cnt → (nI (st s).1).toInt = (st s).1 ∧ (st s).1 ≤ 3 := fun s hs => by
    have := (c4 s hs).2.1.1
    exact ⟨ti_n (by omega), this⟩
  have ak : ∀ n, n ≤ cnt → akN (soM M f) n = stA st n := by
    intro n
    induction n with
    | zero => intro _; rfl
    | succ n ih =>
      intro hn
      have e := s3 n (by omega)
      rw [akN, stA, ih (by omega), eso n (by omega), e.1]
      by_cases z : (st n).1 = 0
      · rw [if_pos z, if_pos (by omega)]
      · rw [if_neg z, if_neg (by omega)]
  have nr0 : nrM M f = 0 := by unfold nrM; rw [m81]; rfl
  refine ⟨⟨T, ⟨by rw [hl.1, hl.2.1], by rw [hl.1]; exact hl.2.2⟩, ⟨by rw [ecn]; exact x11, by rw [ecn]; exact h20, by omega⟩, fun s hs => ?_⟩, ⟨⟨by rw [ecn]; exact m53, by rw [ecn]; exact h20, f6⟩, fun s hs => ?_⟩, fun s hs => ?_, by rw [ecn, ak cnt (Nat.le_refl _)]; exact h10, ?_, by rw [nr0]; exact rw0, fun r hr => by rw [nr0] at hr; omega⟩
  · rw [ecn] at hs
    obtain ⟨⟨⟨a3, -, -, -⟩, -, a, ⟨b1, b2, b3⟩, b4, b5, b6⟩, -⟩ := c4 s hs
    have e := s3 s hs
    rw [eso s hs]
    exact ⟨a3, ⟨a, ⟨b1, b2, b3⟩, by rw [hl.1]; exact Nat.le_trans b4 hw, b5, b6⟩, by rw [e.1]; omega, by rw [e.1]; omega⟩
  · rw [ecn] at hs
    have e := s3 s hs
    obtain ⟨⟨m1, m2, m3, m4⟩, m5, m6, m7, m8⟩ := md s hs
    rw [eso s hs]
    exact ⟨m1, m6, by rw [e.1]; omega, by rw [e.1]; omega⟩
  · rw [ecn] at hs
    have e := s3 s hs
    obtain ⟨⟨m1, m2, m3, m4⟩, m5, m6, m7, m8⟩ := md s hs
    obtain ⟨⟨⟨a3, a4, a5, a6⟩, -⟩, hk, -⟩ := c4 s hs
    refine ⟨by rw [m2]; exact a4, by rw [m3]; exact a5, by rw [m4]; exact a6, fun z => ?_⟩
    rw [eso s hs, e.1] at z
    have z0 : (st s).1 = 0 := by omega
    rw [m2, m3, m4, if_pos z0]
    exact ⟨hk.2.2.1 z0, by decide, by decide⟩
  · rw [nr0, m81]; rfl
end PFM
