/-! RULES: one more -/
section RUL
variable {d f n nf b' : Nat} {h g h1 h3 : aH} {A A1 o o1 : Nat → Nat} {X : Nat → aH → Prop} {M I : Nat → Nat → Int32} {J : Nat → Nat → Int64} {x0 x1 x2 : Int32} {E : Nat → Nat → List Tm} {Cn : Nat → Nat → List Cmp}
theorem FormA_row (b : base h o) (F : FormA h A o (gI h) E Cn nf) (hf : f < nf) (k : keeps h h3 (fun q => q = A (bF f + 10) ∨ q = A (bF f + 11) ∨ (44 ≤ q ∧ q ≤ 107))) (ho : ∀ q, q < gN h → o1 q = o q) (hA : ∀ m, m ≠ bF f + 11 → A1 m = A m) (hA2 : A1 (bF f + 11) = b') (ho2 : o1 b' = bF f + 11)
    (R1 : rowsOK h3 (A (bF f + 10)) b' 3 16 (nrM (gI h) f + 1)) (ct : ∀ i, i < nrM (gI h) f * 3 → gI h3 b' i = gI h (A (bF f + 11)) i) (nw : gI h3 b' (nrM (gI h) f * 3 + 0) = x0 ∧ gI h3 b' (nrM (gI h) f * 3 + 1) = x1 ∧ gI h3 b' (nrM (gI h) f * 3 + 2) = x2)
    (m1 : ∀ a, 53 ≤ a → a ≤ 64 → gI h3 a = gI h a) (m14 : gI h3 44 14 = gI h 44 14) (m81 : ∀ j, gI h3 81 j = if j = f then nI (nrM (gI h) f + 1) else gI h 81 j) (m82 : ∀ j, gI h3 82 j = if j = 16 * f + nrM (gI h) f then x0 else gI h 82 j) (m83 : ∀ j, gI h3 83 j = if j = 16 * f + nrM (gI h) f then x1 else gI h 83 j) (m84 : ∀ j, gI h3 84 j = if j = 16 * f + nrM (gI h) f then x2 else gI h 84 j)
    (v : rlA (gI h) f x0 ∧ rlA (gI h) f x1 ∧ x0 ≠ x1 ∧ -2000000 ≤ x2.toInt ∧ x2.toInt ≤ 2000000) : FormA h3 A1 o1 (gI h3) E Cn nf := by
  obtain ⟨f1, f2, f3⟩ := F
  have hN := b.1.1
  have n6 := f2.2
  have tf := (f3 f hf).1.1
  have v10 := vF_10 tf
  have v11 := vF_11 tf
  have kn := k.1
  have b9 := R1.2.2.1
  -- cells that stay
  have st : ∀ l kd, liv h A o l kd → l / 1000000 < 14 → l ≠ bF f + 10 → l ≠ bF f + 11 → A1 l = A l ∧ same h h3 (A l) ∧ liv h3 A1 o1 l kd := fun l kd w hl h10 h11 => by
    have e1 := hA l h11
    have lo := lab_out b w hl
    have sm := k.2.2.2 (A l) w.2.2.1 (by
      rintro (q | q | q)
      · exact liv_ne w v10 h10 q
      · exact liv_ne w v11 h11 q
      · exact lo q)
    refine ⟨e1, sm, ?_⟩
    unfold liv
    rw [e1, ho _ w.2.2.1, sm.1]
    exact ⟨w.1, w.2.1, by have := w.2.2.1; omega, w.2.2.2⟩
  have a10 : ∀ f', f' < nf → A1 (bF f' + 10) = A (bF f' + 10) := fun f' _ => hA _ (by unfold bF; omega)
  have l10 : liv h3 A1 o1 (bF f + 10) 8 := by
    unfold liv
    rw [a10 f hf, ho _ v10.2.2.1]
    exact ⟨v10.1, v10.2.1, by have := v10.2.2.1; omega, R1.1.2.2⟩
  have l11 : liv h3 A1 o1 (bF f + 11) 100 := by
    unfold liv
    rw [hA2]
    exact ⟨ho2, b9.2.1, b9.2.2.1, b9.2.2.2⟩
  have cl : ∀ f', f' < nf → ∀ j kd, (j, kd) ∈ kF → j < 12 := fun f' _ j kd hj => (show ∀ q ∈ kF, q.1 < 12 by decide) _ hj
  have stj : ∀ f', f' < nf → ∀ j, j < 12 → ¬ (f' = f ∧ (j = 10 ∨ j = 11)) → A1 (bF f' + j) = A (bF f' + j) ∧ same h h3 (A (bF f' + j)) := fun f' hf' j hj hn => by
    obtain ⟨kd, w⟩ := vF_j (f3 f' hf').1.1 hj
    have := st (bF f' + j) kd w (by unfold bF; omega) (by unfold bF; omega) (by unfold bF; omega)
    exact ⟨this.1, this.2.1⟩
  have TT : ∀ f', f' < nf → TF h3 A1 o1 f' := fun f' hf' => by
    obtain ⟨t1, t2, t3⟩ := (f3 f' hf').1.1
    refine ⟨fun q hq => ?_, fun q hq => ?_, fun q hq => ?_⟩
    · have hj := cl f' hf' q.1 q.2 hq
      by_cases c : f' = f ∧ (q.1 = 10 ∨ q.1 = 11)
      · obtain ⟨rfl, c⟩ := c
        have kd : (q.1 = 10 → q.2 = 8) ∧ (q.1 = 11 → q.2 = 100) := (show ∀ q ∈ kF, (q.1 = 10 → q.2 = 8) ∧ (q.1 = 11 → q.2 = 100) by decide) q hq
        rcases c with c | c
        · rw [c, kd.1 c]; exact l10
        · rw [c, kd.2 c]; exact l11
      · exact (st (bF f' + q.1) q.2 (t1 q hq) (by unfold bF; omega) (by unfold bF; omega) (by unfold bF; omega)).2.2
    · have hj : q.1 < 10 := (show ∀ q ∈ lF, q.1 < 10 by decide) q hq
      have := stj f' hf' q.1 (by omega) (by omega)
      rw [this.1, this.2.2.1]
      exact t2 q hq
    · have hj : (q.1 = 0 ∧ q.2.2 < 11) ∨ (q.1 = 10 ∧ q.2.1 = 2 ∧ q.2.2 = 11) := (show ∀ q ∈ rF, (q.1 = 0 ∧ q.2.2 < 11) ∨ (q.1 = 10 ∧ q.2.1 = 2 ∧ q.2.2 = 11) by decide) q hq
      have t3q := t3 q hq
      rcases hj with ⟨e1, e2⟩ | ⟨e1, e2, e3⟩
      · have := stj f' hf' q.1 (by omega) (by omega)
        rw [this.1, this.2.2.2.2.2, t3q, hA _ (by unfold bF; omega)]
      · by_cases c : f' = f
        · subst c
          rw [e1, e2, e3, a10 f' hf', hA2]
          exact b9.1
        · have h1 := stj f' hf' 10 (by omega) (by omega)
          have h2 := stj f' hf' 11 (by omega) (by omega)
          rw [e1, e2, e3] at t3q ⊢
          rw [h1.1, h1.2.2.2.2.2, h2.1]
          exact t3q
  refine ⟨?_, ⟨by rw [m14]; exact f2.1, n6⟩, fun f' hf' => ?_⟩
  · obtain ⟨p1, p2, p3, p4⟩ := f1
    have ne34 : ∀ l kd, liv h A o l kd → l / 1000000 < 14 → l ≠ 5000034 → A l ≠ 34 := fun l kd w _ hl e => by
      have := w.1
      rw [e, ol_34 b.2.2] at this
      exact hl this.symm
    have s34 : same h h3 34 := k.2.2.2 34 (by omega) (by
      rintro (q | q | q)
      · exact ne34 _ _ v10 (by unfold bF; omega) (by unfold bF; omega) q.symm
      · exact ne34 _ _ v11 (by unfold bF; omega) (by unfold bF; omega) q.symm
      · omega)
    refine ⟨⟨by rw [s34.1]; exact p1.1, p1.2.1, p1.2.2.1, by rw [ho _ p1.2.2.2.2]; exact p1.2.2.2.1, by omega⟩, ⟨by rw [s34.2.2.1]; exact p2.1, p2.2.1, by rw [(k.2.2.1 2 (by omega)).1]; exact p2.2.2.1, by rw [(k.2.2.1 2 (by omega)).2]; exact p2.2.2.2⟩, ?_, fun q hq => ?_⟩
    · rcases p3 with ⟨e1, e2⟩ | ⟨e1, e2, e3, e4, e5⟩
      · exact Or.inl ⟨e1, by rw [s34.2.2.2.2]; exact e2⟩
      · have := st _ _ e2 (by omega) (by unfold bF; omega) (by unfold bF; omega)
        refine Or.inr ⟨by rw [s34.2.2.2.2, this.1]; exact e1, this.2.2, ?_, e4, ?_⟩
        · rw [this.1, this.2.1.2.1]; exact e3
        · rw [this.1, this.2.1.2.1]; exact e5
    · have dt := list_dat ⟨p1, p2, p3, p4⟩ (by omega)
      have sd := st _ _ dt.2.1 (by omega) (by unfold bF; omega) (by unfold bF; omega)
      have lq := (p4 q hq).2
      have sq := st _ _ lq (by omega) (by unfold bF; omega) (by unfold bF; omega)
      refine ⟨?_, sq.2.2⟩
      rw [s34.2.2.2.2, dt.1, sd.2.1.2.2.2.2, ← dt.1, sq.1]
      exact (p4 q hq).1
  · obtain ⟨⟨t, l, ⟨c1, c2, c3⟩, c4⟩, fm, fb, ak, rr, rr2, rr3⟩ := f3 f' hf'
    have ii : ∀ j, j < 10 → A1 (bF f' + j) = A (bF f' + j) ∧ gI h3 (A (bF f' + j)) = gI h (A (bF f' + j)) ∧ gL h3 (A (bF f' + j)) = gL h (A (bF f' + j)) := fun j hj => by
      have := stj f' hf' j (by omega) (by omega)
      exact ⟨this.1, funext this.2.2.2.1, this.2.2.1⟩
    have i0 : A1 (bF f') = A (bF f') ∧ gI h3 (A (bF f')) = gI h (A (bF f')) := ⟨(ii 0 (by omega)).1, (ii 0 (by omega)).2.1⟩
    have ecn : cnM (gI h3) f' = cnM (gI h) f' := by unfold cnM; rw [m1 53 (by omega) (by omega)]
    have eso : soM (gI h3) f' = soM (gI h) f' := by unfold soM; rw [m1 54 (by omega) (by omega)]
    have nr0 : nrM (gI h) f ≤ 15 := by have := R1.2.2.2.2.2.2.2; omega
    have enr : nrM (gI h3) f' = if f' = f then nrM (gI h) f + 1 else nrM (gI h) f' := by
      have e : nrM (gI h3) f' = (gI h3 81 f').toInt.toNat := rfl
      rw [e, m81]
      by_cases c : f' = f
      · rw [if_pos c, if_pos c, ti_n (by omega)]; rfl
      · rw [if_neg c, if_neg c]; rfl
    have erl : ∀ a, rlA (gI h3) f' a = rlA (gI h) f' a := fun a => by unfold rlA; rw [ecn, eso]
    refine ⟨⟨TT f' hf', ?_, ⟨?_, by rw [ecn]; exact c2, c3⟩, fun s hs => ?_⟩, ?_, fun s hs => ?_, ?_, ?_, ?_, fun r hr => ?_⟩
    · unfold lenT
      rw [(ii 2 (by omega)).1, (ii 1 (by omega)).1, (ii 2 (by omega)).2.2, (ii 1 (by omega)).2.2]
      exact l
    · rw [i0.1, i0.2, ecn]; exact c1
    · rw [ecn] at hs
      obtain ⟨q1, q2, q3⟩ := c4 s hs
      rw [(ii 3 (by omega)).1, (ii 3 (by omega)).2.1, eso]
      refine ⟨q1, ?_, q3⟩
      unfold stC
      rw [(ii 8 (by omega)).1, (ii 9 (by omega)).1, (ii 1 (by omega)).1, (ii 2 (by omega)).1, (ii 8 (by omega)).2.1, (ii 9 (by omega)).2.1, (ii 1 (by omega)).2.1, (ii 2 (by omega)).2.1, (ii 1 (by omega)).2.2]
      exact q2
    · rw [ecn, eso]; exact fmM_cg m1 fm
    · rw [ecn] at hs
      unfold formB
      rw [(ii 4 (by omega)).1, (ii 5 (by omega)).1, (ii 6 (by omega)).1, (ii 4 (by omega)).2.1, (ii 5 (by omega)).2.1, (ii 6 (by omega)).2.1, m1 56 (by omega) (by omega), m1 57 (by omega) (by omega), m1 58 (by omega) (by omega), eso]
      exact fb s hs
    · rw [ecn, eso]; exact ak
    · rw [enr, m81]
      by_cases c : f' = f
      · rw [if_pos c, if_pos c]
      · rw [if_neg c, if_neg c]; exact rr
    · rw [enr]
      by_cases c : f' = f
      · rw [if_pos c, c, a10 f hf, hA2]; exact R1
      · have h1 := stj f' hf' 10 (by omega) (by omega)
        have h2 := stj f' hf' 11 (by omega) (by omega)
        rw [if_neg c, h1.1, h2.1]
        obtain ⟨kd, w⟩ := vF_j t (j := 10) (by omega)
        refine rows_keeps rr2 k ?_
        rintro (q | q | q)
        · exact liv_ne w v10 (by unfold bF; omega) q
        · exact liv_ne w v11 (by unfold bF; omega) q
        · exact lab_out b w (by unfold bF; omega) q
    · rw [enr] at hr
      rw [m82, m83, m84, erl, erl]
      by_cases c : f' = f
      · subst c
        rw [if_pos rfl] at hr
        rw [hA2]
        by_cases e : r = nrM (gI h) f'
        · subst e
          rw [if_pos rfl, if_pos rfl, if_pos rfl]
          exact ⟨nw, v⟩
        · rw [if_neg (by omega), if_neg (by omega), if_neg (by omega), ct _ (by omega), ct _ (by omega), ct _ (by omega)]
          exact rr3 r (by omega)
      · rw [if_neg c] at hr
        have r16 : nrM (gI h) f' ≤ 16 := rr2.2.2.2.2.2.2.2
        have h2 := stj f' hf' 11 (by omega) (by omega)
        rw [if_neg (by omega), if_neg (by omega), if_neg (by omega), h2.1, h2.2.2.2.1, h2.2.2.2.1, h2.2.2.2.1]
        exact rr3 r hr
end RUL
