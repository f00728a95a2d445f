/-! NEW OBJECTS: labels, lists, what stays -/
section BRN
variable {d a c n kd m bs : Nat} {h h1 h2 : aH} {A A1 A2 o o1 o2 : Nat → Nat} {X : Nat → aH → Prop} {C : Nat → Prop} {p : Nat → Prop} {σ τ : Nat → Nat}
/-- new cells get labels -/
theorem lab_new (hσ : ∀ j, j < m → σ j < m ∧ τ (σ j) = j) (hN : gN h + m ≤ gN h1) (k : keeps h h1 p) (hp : ∀ q, q < gN h → p q → C (o q / 1000000)) (hb : ∀ j, j < m → C ((bs + j) / 1000000)) :
    ∃ A1 o1 : Nat → Nat, fr h h1 A A1 o o1 C ∧ (∀ j, j < m → A1 (bs + j) = gN h + σ j ∧ o1 (gN h + σ j) = bs + j) ∧ ∀ l, (l < bs ∨ bs + m ≤ l) → A1 l = A l := by
  refine ⟨fun l => if bs ≤ l ∧ l < bs + m then gN h + σ (l - bs) else A l, fun q => if gN h ≤ q ∧ q < gN h + m then bs + τ (q - gN h) else o q, ⟨keeps_mono k (fun q hq w => hp q hq w), fun q hq => ?_, fun l hl => ?_⟩, fun j hj => ⟨?_, ?_⟩, fun l hl => ?_⟩
  · dsimp only; rw [if_neg (by omega)]
  · dsimp only
    rw [if_neg]
    rintro ⟨q1, q2⟩
    have := hb (l - bs) (by omega)
    rw [show bs + (l - bs) = l by omega] at this
    exact hl this
  · dsimp only
    rw [if_pos (by omega), show bs + j - bs = j by omega]
  · dsimp only
    have := hσ j hj
    rw [if_pos (by omega), show gN h + σ j - gN h = σ j by omega, this.2]
  · dsimp only
    rw [if_neg (by omega)]
theorem list_kp (L : listT h A o a c n kd) (k : keeps h h1 p) (hpa : ¬ p a) (hpd : 0 < n → ¬ p (A (c * 1000000 + 35))) (hA : 0 < n → A1 (c * 1000000 + 35) = A (c * 1000000 + 35)) (hAe : ∀ k, k < n → A1 (c * 1000000 + 1000 + 100 * k) = A (c * 1000000 + 1000 + 100 * k)) (ho : ∀ q, q < gN h → o1 q = o q) : listT h1 A1 o1 a c n kd := by
  obtain ⟨⟨l1, l2, l3, l4, l5⟩, ⟨l6, l7, l8, l9⟩, l10, l11⟩ := L
  have sa := k.2.2.2 a l5 hpa
  have kn := k.1
  have lv : ∀ l k9, A1 l = A l → liv h A o l k9 → liv h1 A1 o1 l k9 := fun l k9 e v => by
    unfold liv
    rw [e, ho _ v.2.2.1, (k.2.2.1 _ v.2.2.1).1]
    exact ⟨v.1, v.2.1, by have := v.2.2.1; omega, v.2.2.2⟩
  refine ⟨⟨by rw [sa.1]; exact l1, l2, l3, by rw [ho _ l5]; exact l4, by omega⟩, ⟨by rw [sa.2.2.1]; exact l6, l7, by rw [(k.2.2.1 2 (by omega)).1]; exact l8, by rw [(k.2.2.1 2 (by omega)).2]; exact l9⟩, ?_, fun q hq => ?_⟩
  · rcases l10 with ⟨e1, e2⟩ | ⟨e1, e2, e3, e4, e5⟩
    · exact Or.inl ⟨e1, by rw [sa.2.2.2.2]; exact e2⟩
    · refine Or.inr ⟨by rw [sa.2.2.2.2, hA e4]; exact e1, lv _ _ (hA e4) e2, ?_, e4, ?_⟩
      · rw [hA e4, (k.2.2.1 _ e2.2.2.1).2]; exact e3
      · rw [hA e4, (k.2.2.1 _ e2.2.2.1).2]; exact e5
  · have h0 : 0 < n := by omega
    rcases l10 with ⟨e1, e2⟩ | ⟨e1, e2, e3, e4, e5⟩
    · omega
    · have sd := k.2.2.2 _ e2.2.2.1 (hpd h0)
      refine ⟨?_, lv _ _ (hAe q hq) (l11 q hq).2⟩
      rw [sa.2.2.2.2, hAe q hq, e1, sd.2.2.2.2, ← e1]
      exact (l11 q hq).1
/-- a new object of m cells, put into its list -/
theorem c_born {K : Int32 → aH → Prop} (L : listT h A o a c n kd) (hn : n < 60) (hc : c < 20) (hk : 0 < kd ∧ kd < 15 ∧ kd ≠ 13) (k : keeps h h1 p) (hN : gN h + m ≤ gN h1) (hm : 0 < m ∧ m ≤ 100) (hσ : ∀ j, j < m → σ j < m ∧ τ (σ j) = j) (h0 : σ 0 = 0) (hkd : gK h1 (gN h) = kd) (hpa : ¬ p a) (hpd : 0 < n → ¬ p (A (c * 1000000 + 35))) (hp : ∀ q, q < gN h → p q → C (o q / 1000000)) (hC : C c)
    (kk : ∀ h2 A2 o2, listT h2 A2 o2 a c (n + 1) kd → fr h h2 A A2 o o2 C → (∀ j, j < m → A2 (c * 1000000 + 1000 + 100 * n + j) = gN h + σ j ∧ o2 (gN h + σ j) = c * 1000000 + 1000 + 100 * n + j) → (∀ l, l ≠ c * 1000000 + 35 → (l < c * 1000000 + 1000 + 100 * n ∨ c * 1000000 + 1000 + 100 * n + m ≤ l) → A2 l = A l) → keeps h1 h2 (fun q => q = a ∨ (0 < n ∧ q = A (c * 1000000 + 35))) → (∀ q, q < gN h1 → q ≠ a → gI h2 q = gI h1 q) → gN h2 ≤ gN h1 + 1 → gT h2 ≤ gT h1 + 100 → K 1 h2) : CI (d + 6) 98 [vR a, vR (gN h)] h1 K X := by
  obtain ⟨A1, o1, f1, f2, f3⟩ := lab_new (A := A) (o := o) (C := C) (bs := c * 1000000 + 1000 + 100 * n) hσ (by omega) k hp (fun j hj => by rw [show (c * 1000000 + 1000 + 100 * n + j) / 1000000 = c by omega]; exact hC)
  have N8 : 8 ≤ gN h := by have := L.1.2.1; have := L.1.2.2.2.2; omega
  have L1 : listT h1 A1 o1 a c n kd := list_kp L k hpa hpd (fun _ => f3 _ (by omega)) (fun q hq => f3 _ (by omega)) f1.2.1
  have e0 := f2 0 hm.1
  rw [h0, Nat.add_zero, Nat.add_zero] at e0
  have vx : liv h1 A1 o1 (c * 1000000 + 1000 + 100 * n) kd := by
    unfold liv
    rw [e0.1, e0.2]
    exact ⟨rfl, N8, by omega, hkd⟩
  have key := c_ladd (d := d) (K := K) (X := X) L1 hn hc vx hk (fun h2 A2 o2 l2 ad => ?_)
  · rw [e0.1] at key; exact key
  · obtain ⟨a1, a2, a3, a4, a5, a6⟩ := ad
    have ea : 0 < n → A1 (c * 1000000 + 35) = A (c * 1000000 + 35) := fun _ => f3 _ (by omega)
    have oa : o a = c * 1000000 + 34 := L.1.2.2.2.1
    have od : 0 < n → A (c * 1000000 + 35) < gN h ∧ o (A (c * 1000000 + 35)) = c * 1000000 + 35 := fun z => by
      have := list_dat L z
      exact ⟨this.2.1.2.2.1, this.2.1.1⟩
    refine kk h2 A2 o2 l2 ⟨⟨by have := a1.1; omega, Nat.le_trans k.2.1 a1.2.1, fun q hq => ?_, fun q hq hh => ?_⟩, fun q hq => ?_, fun l hl => ?_⟩ (fun j hj => ?_) (fun l h1 h2 => ?_) (keeps_mono a1 (fun q hq w => ?_)) a4 a5 a6
    · have z := a1.2.2.1 q (by omega)
      have y := k.2.2.1 q hq
      exact ⟨z.1.trans y.1, z.2.trans y.2⟩
    · refine same_trans (k.2.2.2 q hq (fun w => hh (hp q hq w))) (a1.2.2.2 q (by omega) ?_)
      rintro (w | ⟨w0, w⟩)
      · exact hh (by show C (o q / 1000000); rw [w, oa, show (c * 1000000 + 34) / 1000000 = c by omega]; exact hC)
      · rw [ea w0] at w
        exact hh (by show C (o q / 1000000); rw [w, (od w0).2, show (c * 1000000 + 35) / 1000000 = c by omega]; exact hC)
    · rw [a2 q (by omega), f1.2.1 q hq]
    · have hl2 : l ≠ c * 1000000 + 35 := fun e => hl (by rw [e, show (c * 1000000 + 35) / 1000000 = c by omega]; exact hC)
      rw [a3 l hl2, f1.2.2 l hl]
    · have := f2 j hj
      rw [a3 _ (by omega), a2 _ (by have := (hσ j hj).1; omega)]
      exact this
    · rw [a3 l h1, f3 l h2]
    · rcases w with w | ⟨w0, w⟩
      · exact Or.inl w
      · exact Or.inr ⟨w0, by rw [← ea w0]; exact w⟩
/-- an object whose cells stay -/
theorem obj_kp {b : Nat} {ks ls : List (Nat × Nat)} {rs : List (Nat × Nat × Nat)} (w : objL b c ks ls rs) (v : objT h A o b ks ls rs) (hN : gN h ≤ gN h2) (st : ∀ q ∈ ks, A1 (b + q.1) = A (b + q.1) ∧ same h h2 (A (b + q.1)) ∧ o1 (A (b + q.1)) = o (A (b + q.1))) : objT h2 A1 o1 b ks ls rs := by
  obtain ⟨v1, v2, v3⟩ := v
  obtain ⟨w1, w2, w3⟩ := w
  refine ⟨fun q hq => ?_, fun q hq => ?_, fun q hq => ?_⟩
  · have s := st q hq
    have y := v1 q hq
    unfold liv
    rw [s.1, s.2.2, s.2.1.1]
    exact ⟨y.1, y.2.1, by have := y.2.2.1; omega, y.2.2.2⟩
  · obtain ⟨k9, hk9⟩ := w2 q hq
    have s := st _ hk9
    have := v2 q hq
    rw [s.1, s.2.1.2.1]; exact this
  · obtain ⟨⟨k9, hk9⟩, k8, hk8⟩ := w3 q hq
    have s := st _ hk9
    have s8 := st _ hk8
    have := v3 q hq
    rw [s.1, s8.1, s.2.1.2.2.2.2]; exact this
theorem oL_R {k : Nat} (hk : k ≤ 60) : objL (bR k) 7 kR lR rR := ⟨fun q hq => by
    have : q.1 < 20 := (show ∀ q ∈ kR, q.1 < 20 by decide) q hq
    unfold bR; omega, fun q hq => (show ∀ q ∈ lR, ∃ k ∈ [5, 100], (q.1, k) ∈ kR by decide) q hq |>.imp fun _ w => w.2, fun q hq => ⟨(show ∀ q ∈ rR, ∃ k ∈ [5, 100], (q.1, k) ∈ kR by decide) q hq |>.imp fun _ w => w.2, (show ∀ q ∈ rR, ∃ k ∈ [5, 100], (q.2.2, k) ∈ kR by decide) q hq |>.imp fun _ w => w.2⟩⟩
theorem oL_S {k : Nat} (hk : k ≤ 60) : objL (bS k) 6 kS lS rS := ⟨fun q hq => by
    have : q.1 < 20 := (show ∀ q ∈ kS, q.1 < 20 by decide) q hq
    unfold bS; omega, fun q hq => (show ∀ q ∈ lS, ∃ k ∈ [10, 100], (q.1, k) ∈ kS by decide) q hq |>.imp fun _ w => w.2, fun q hq => ⟨(show ∀ q ∈ rS, ∃ k ∈ [10, 100], (q.1, k) ∈ kS by decide) q hq |>.imp fun _ w => w.2, (show ∀ q ∈ rS, ∃ k ∈ [10, 100], (q.2.2, k) ∈ kS by decide) q hq |>.imp fun _ w => w.2⟩⟩
theorem oL_F {k : Nat} (hk : k ≤ 60) : objL (bF k) 5 kF lF rF := ⟨fun q hq => by
    have : q.1 < 20 := (show ∀ q ∈ kF, q.1 < 20 by decide) q hq
    unfold bF; omega, fun q hq => (show ∀ q ∈ lF, ∃ k ∈ [3, 100, 101, 8], (q.1, k) ∈ kF by decide) q hq |>.imp fun _ w => w.2, fun q hq => ⟨(show ∀ q ∈ rF, ∃ k ∈ [3, 100, 101, 8], (q.1, k) ∈ kF by decide) q hq |>.imp fun _ w => w.2, (show ∀ q ∈ rF, ∃ k ∈ [3, 100, 101, 8], (q.2.2, k) ∈ kF by decide) q hq |>.imp fun _ w => w.2⟩⟩
theorem oL_M {k : Nat} (hk : k ≤ 60) : objL (bM k) 8 kM lM rM := ⟨fun q hq => by
    have : q.1 < 20 := (show ∀ q ∈ kM, q.1 < 20 by decide) q hq
    unfold bM; omega, fun q hq => (show ∀ q ∈ lM, ∃ k ∈ [9, 100, 102], (q.1, k) ∈ kM by decide) q hq |>.imp fun _ w => w.2, fun q hq => ⟨(show ∀ q ∈ rM, ∃ k ∈ [9, 100, 102], (q.1, k) ∈ kM by decide) q hq |>.imp fun _ w => w.2, (show ∀ q ∈ rM, ∃ k ∈ [9, 100, 102], (q.2.2, k) ∈ kM by decide) q hq |>.imp fun _ w => w.2⟩⟩
end BRN
