/-! FORM: the model -/
section MFM
variable {d L p q w w0 w1 w2 W k cnt nf s : Nat} {g : aH} {X : Nat → aH → Prop} {B : Nat → Int32} {I0 I I' : Nat → Nat → Int32} {J0 J J' : Nat → Nat → Int64} {nam : Nat → Int64} {K : Int32 → aH → Prop} {hd : Int64 × Int32 × Int32 × List Tm} {cs : List Cmp} {st : Nat → StD}
theorem mLC_pos {c : Cmp} {cs : List Cmp} : mLC (c :: cs) = mL c.1 + 1 + mL c.2.2.1 + 1 + mLC cs := rfl
theorem encMM_cg {S T S' T' : Nat → Int32} : ∀ (cs : List Cmp) (i : Nat), encMM S T i cs → (∀ j, i ≤ j → j + 1 < i + mLC cs → S' j = S j ∧ T' j = T j) → encMM S' T' i cs := by
  intro cs
  induction cs with
  | nil => intro i _ _; exact True.intro
  | cons c cs ih =>
    intro i he hj
    obtain ⟨⟨h1, h2, h3⟩, ⟨h4, h5, h6⟩, h7⟩ := he
    have lc := mLC_pos (c := c) (cs := cs)
    refine ⟨⟨encE_cg h1 (fun j z1 z2 => hj j z1 (by omega)), by rw [(hj (i + mL c.1) (by omega) (by omega)).1]; exact h2, h3⟩, ⟨encE_cg h4 (fun j z1 z2 => hj j (by omega) (by omega)), fun z => ?_, h6⟩, ih _ h7 (fun j z1 z2 => hj j (by omega) (by omega))⟩
    have m1 : 1 < mLC cs + 1 := by
      cases cs with
      | nil => exact absurd rfl z
      | cons c2 cs2 => rw [mLC_pos]; omega
    rw [(hj (i + mL c.1 + 1 + mL c.2.2.1) (by omega) (by omega)).1]; exact h5 z
theorem stM_cg {so : Int32} {E : List Tm} (t : stM I k so E cs) (hr : I' 59 k = I 59 k ∧ I' 60 k = I 60 k ∧ I' 61 k = I 61 k ∧ I' 62 k = I 62 k) (h60 : (I 60 k).toInt ≤ w) (h62 : (I 62 k).toInt ≤ w) (hc : ∀ i, i < w → I' 63 i = I 63 i ∧ I' 64 i = I 64 i) : stM I' k so E cs := by
  obtain ⟨t1, t2, t3, t4⟩ := t
  obtain ⟨r1, r2, r3, r4⟩ := hr
  refine ⟨fun z => ?_, fun z => by rw [r3]; exact t2 z, fun z => ?_, t4⟩
  · obtain ⟨p, e1, e2, e3, e4⟩ := t1 z
    rw [e2, ti_n (by omega)] at h60
    exact ⟨p, by rw [r1]; exact e1, by rw [r2]; exact e2, e3, encE_cg e4 (fun j z1 z2 => hc j (by omega))⟩
  · obtain ⟨p, to, e1, e2, e3, e4, e5⟩ := t3 z
    rw [e2, ti_n (by omega)] at h62
    exact ⟨p, to, by rw [r3]; exact e1, by rw [r4]; exact e2, e3, e4, encMM_cg _ _ e5 (fun j z1 z2 => hc j (by omega))⟩
theorem mdS_fQ (m : mdS I J k s hd cs w) (u : fQ w2 w1 I I' J J') (hk : k ≠ w2) (hw : w ≤ w1) (hw2 : w ≤ w0) : mdS I' J' k s hd cs w0 := by
  obtain ⟨⟨m1, m2, m3, m4⟩, m5, m6, m7, m8⟩ := m
  have e : ∀ a, 54 ≤ a → a ≤ 62 → I' a k = I a k := fun a h1 h2 => u.2.2.1 a h1 h2 k hk
  refine ⟨⟨by rw [e 54 (by decide) (by decide)]; exact m1, by rw [e 56 (by decide) (by decide)]; exact m2, by rw [e 57 (by decide) (by decide)]; exact m3, by rw [e 58 (by decide) (by decide)]; exact m4⟩, by rw [u.2.2.2.2.2 k hk]; exact m5, stM_cg m6 ⟨e 59 (by decide) (by decide), e 60 (by decide) (by decide), e 61 (by decide) (by decide), e 62 (by decide) (by decide)⟩ m7 m8 (fun i hi => u.2.2.2.1 i (by omega)), by rw [e 60 (by decide) (by decide)]; omega, by rw [e 62 (by decide) (by decide)]; omega⟩
theorem mdS_cg (m : mdS I J k s hd cs w) (hI : ∀ a, 54 ≤ a → a ≤ 64 → I' a = I a) (hJ : J' 55 = J 55) : mdS I' J' k s hd cs w := by
  obtain ⟨m1, m5, m6, m7, m8⟩ := m
  unfold mdS
  rw [hI 54 (by decide) (by decide), hI 56 (by decide) (by decide), hI 57 (by decide) (by decide), hI 58 (by decide) (by decide), hI 60 (by decide) (by decide), hI 62 (by decide) (by decide), hJ]
  refine ⟨m1, m5, ?_, m7, m8⟩
  unfold stM at m6 ⊢
  rw [hI 59 (by decide) (by decide), hI 60 (by decide) (by decide), hI 61 (by decide) (by decide), hI 62 (by decide) (by decide), hI 63 (by decide) (by decide), hI 64 (by decide) (by decide)]
  exact m6
theorem kpt_0 : ¬ kpt 0 := by
  unfold kpt
  have z : (0 : Int64).toInt = 0 := rfl
  rw [z]; omega
theorem stF_hd3 {ak : Nat} (h : stF B L nam cnt ak p = (some (s, hd, cs), q)) : s ≤ 3 ∧ (2 ≤ s → hd.1 = 0) ∧ ¬ kpt hd.1 := by
  unfold stF at h
  split at h
  · cases h
  · rename_i hn
    have sl := srN_le (B := B) (L := L) (p := p)
    split at h
    · cases h
    · rename_i hd9 q9 hh
      split at h
      · cases h
      · split at h
        · cases h
          refine ⟨by omega, ?_⟩
          unfold hdN at hh
          split at hh
          · cases hh
            exact ⟨fun _ => rfl, kpt_0⟩
          · rename_i h2
            split at hh
            · rename_i hm
              split at hh
              · split at hh
                · cases hh
                · cases hh
                  exact ⟨fun z => absurd z h2, hm.2.1⟩
              · split at hh
                · cases hh
                · cases hh
                  exact ⟨fun z => absurd z h2, hm.2.1⟩
            · cases hh
        · cases h
/-- the statements so far, in the model -/
def mdW (I : Nat → Nat → Int32) (J : Nat → Nat → Int64) (nf : Nat) (st : Nat → StD) (cnt w : Nat) : Prop := (I 44 14 = nI nf ∧ nf < 6 ∧ I 53 nf = nI cnt ∧ cnt ≤ 20 ∧ I 44 27 = nI w) ∧ ∀ s, s < cnt → mdS I J (20 * nf + s) (st s).1 (st s).2.1 (st s).2.2 w ∧ (st s).1 ≤ 3 ∧ (2 ≤ (st s).1 → (st s).2.1.1 = 0) ∧ ¬ kpt (st s).2.1.1
theorem nmM_F (m : mdW I J nf st cnt w) : nmM I J nf cnt (sdN st) := by
  obtain ⟨⟨m1, m2, m3, m4, m5⟩, m6⟩ := m
  refine ⟨⟨m1, m2, m3, m4⟩, fun s hs => ?_⟩
  obtain ⟨⟨⟨e1, -, -, -⟩, e2, -⟩, e3, e4, e5⟩ := m6 s hs
  have sI : (nI (st s).1).toInt = (st s).1 := ti_n (by omega)
  rw [e1, sI]
  exact ⟨fun z => e2 (by omega), fun z => e4 (by omega), e5⟩
theorem ak_F (m : mdW I J nf st cnt w) : ∀ n, n ≤ cnt → akN (fun i => I 54 (20 * nf + i)) n = stA st n := by
  intro n
  induction n with
  | zero => intro _; rfl
  | succ n ih =>
    intro hn
    obtain ⟨⟨⟨e1, -, -, -⟩, -⟩, e3, -⟩ := m.2 n (by omega)
    have sI : (nI (st n).1).toInt = (st n).1 := ti_n (by omega)
    rw [akN, stA, ih (by omega), e1, sI]
    by_cases z : (st n).1 = 0
    · rw [if_pos z, if_pos (by omega)]
    · rw [if_neg z, if_neg (by omega)]
/-- what a form changes in the model -/
def fF (nf w : Nat) (I I' : Nat → Nat → Int32) (J J' : Nat → Nat → Int64) : Prop := (∀ a, a ≠ 44 → ¬ (53 ≤ a ∧ a ≤ 64) → I' a = I a) ∧ (∀ j, j ≠ 27 → j ≠ 28 → j ≠ 29 → j ≠ 30 → j ≠ 32 → j ≠ 33 → I' 44 j = I 44 j) ∧ (∀ i, i ≠ nf → I' 53 i = I 53 i) ∧ (∀ a, 54 ≤ a → a ≤ 62 → ∀ i, i < 20 * nf → I' a i = I a i) ∧ (∀ i, i < w → I' 63 i = I 63 i ∧ I' 64 i = I 64 i) ∧ ∀ a, a ≠ 44 → a ≠ 55 → J' a = J a
theorem fF_refl : fF nf w I I J J := ⟨fun _ _ _ => rfl, fun _ _ _ _ _ _ _ => rfl, fun _ _ => rfl, fun _ _ _ _ _ => rfl, fun _ _ => ⟨rfl, rfl⟩, fun _ _ _ => rfl⟩
theorem fF_tr {I2 : Nat → Nat → Int32} {J2 : Nat → Nat → Int64} {w2 : Nat} (t : fF nf w I I' J J') (u : fF nf w2 I' I2 J' J2) (hw : w ≤ w2) : fF nf w I I2 J J2 :=
  ⟨fun a h1 h2 => (u.1 a h1 h2).trans (t.1 a h1 h2), fun j h1 h2 h3 h4 h5 h6 => (u.2.1 j h1 h2 h3 h4 h5 h6).trans (t.2.1 j h1 h2 h3 h4 h5 h6), fun i hi => (u.2.2.1 i hi).trans (t.2.2.1 i hi), fun a h1 h2 i hi => (u.2.2.2.1 a h1 h2 i hi).trans (t.2.2.2.1 a h1 h2 i hi), fun i hi => ⟨(u.2.2.2.2.1 i (by omega)).1.trans (t.2.2.2.2.1 i hi).1, (u.2.2.2.2.1 i (by omega)).2.trans (t.2.2.2.2.1 i hi).2⟩, fun a h1 h2 => (u.2.2.2.2.2 a h1 h2).trans (t.2.2.2.2.2 a h1 h2)⟩
theorem fF_Q (u : fQ (20 * nf + cnt) w I I' J J') : fF nf w I I' J J' := ⟨fun a h1 h2 => u.1 a h1 (by omega), u.2.1, fun i _ => by rw [u.1 53 (by decide) (by decide)], fun a h1 h2 i hi => u.2.2.1 a h1 h2 i (by omega), u.2.2.2.1, u.2.2.2.2.1⟩
theorem fF_N (u : fN I I' J J') : fF nf w I I' J J' := ⟨fun a h1 _ => u.1 a h1, fun j _ h2 h3 h4 h5 _ => u.2.1 j h2 h3 h4 h5, fun i _ => by rw [u.1 53 (by decide)], fun a h1 h2 i _ => by rw [u.1 a (by omega)], fun i _ => by rw [u.1 63 (by decide), u.1 64 (by decide)]; exact ⟨rfl, rfl⟩, fun a h1 _ => u.2.2 a h1⟩
theorem fF_53 {x : Int32} : fF nf w I (uI I 53 nf x) J J := ⟨fun a _ h2 => by rw [uI_ne _ _ _ (by omega)], fun j _ _ _ _ _ _ => by rw [uI_ne _ _ _ (by decide)], fun i hi => by rw [uI_nj _ _ _ _ hi], fun a _ _ i _ => by rw [uI_ne _ _ _ (by omega)], fun i _ => ⟨by rw [uI_ne _ _ _ (by decide)], by rw [uI_ne _ _ _ (by decide)]⟩, fun _ _ _ => rfl⟩
end MFM
