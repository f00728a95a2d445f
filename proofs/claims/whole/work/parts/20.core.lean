/-! CORE: heaps by structure and numbers; runs are determined; labels -/
section CORE
def hU (h : aH) (I : Nat → Nat → Int32) (J : Nat → Nat → Int64) : aH := (h.1, h.2.1, h.2.2.1, h.2.2.2.1, I, J, h.2.2.2.2.2.2)
def uI (I : Nat → Nat → Int32) (a i : Nat) (x : Int32) : Nat → Nat → Int32 := fun b j => if b = a ∧ j = i then x else I b j
def uJ (J : Nat → Nat → Int64) (a i : Nat) (x : Int64) : Nat → Nat → Int64 := fun b j => if b = a ∧ j = i then x else J b j
section
variable (h : aH) (I I' : Nat → Nat → Int32) (J J' : Nat → Nat → Int64) (a b i j : Nat) (x : Int32) (y : Int64)
theorem hU_eta : hU h (gI h) (gJ h) = h := rfl
theorem gN_hU : gN (hU h I J) = gN h := rfl
theorem gT_hU : gT (hU h I J) = gT h := rfl
theorem gK_hU : gK (hU h I J) a = gK h a := rfl
theorem gL_hU : gL (hU h I J) a = gL h a := rfl
theorem gR_hU : gR (hU h I J) a i = gR h a i := rfl
theorem gI_hU : gI (hU h I J) a i = I a i := rfl
theorem gJ_hU : gJ (hU h I J) a i = J a i := rfl
theorem gIh : gI (hU h I J) = I := rfl
theorem gJh : gJ (hU h I J) = J := rfl
theorem pI_hU : pI (hU h I J) a i x = hU h (uI I a i x) J := rfl
theorem pJ_hU : pJ (hU h I J) a i y = hU h I (uJ J a i y) := rfl
theorem hU_hU : hU (hU h I J) I' J' = hU h I' J' := rfl
theorem pI_eq : pI h a i x = hU h (uI (gI h) a i x) (gJ h) := rfl
theorem uI_same : uI I a i x a i = x := if_pos ⟨rfl, rfl⟩
theorem uI_app : uI I a i x b j = if b = a ∧ j = i then x else I b j := rfl
theorem uJ_app : uJ J a i y b j = if b = a ∧ j = i then y else J b j := rfl
theorem uI_ne {a b : Nat} (hb : b ≠ a) : uI I a i x b = I b := by funext j; exact if_neg (fun w => hb w.1)
theorem uI_nj {i j : Nat} (hb : j ≠ i) : uI I a i x b j = I b j := if_neg (fun w => hb w.2)
theorem uJ_ne {a b : Nat} (hb : b ≠ a) : uJ J a i y b = J b := by funext j; exact if_neg (fun w => hb w.1)
end
section
variable {d k mi : Nat} {as : List aV} {cf : aCf} {h h1 : aH} {X : Nat → aH → Prop}
theorem aRun_det {n m : Nat} {r r' : aOut × aH} (h1 : aRun aPr n d mi cf = some r) (h2 : aRun aPr m d mi cf = some r') : r = r' := by
  have a1 := aRun_le aPr h1 (Nat.le_add_right n m)
  have a2 := aRun_le aPr h2 (Nat.le_add_left m n)
  rw [a1] at a2
  cases a2
  rfl
theorem CI_iff {y : Int32} {K : Int32 → aH → Prop} (H : ∀ (K : Int32 → aH → Prop) (X : Nat → aH → Prop), K y h1 → CI d k as h K X) : CI d k as h K X ↔ K y h1 := by
  refine ⟨fun ⟨m, r', e1, e2⟩ => ?_, H K X⟩
  obtain ⟨n, r, hr, hq⟩ := H (fun y' h' => y' = y ∧ h' = h1) (fun _ _ => False) ⟨rfl, rfl⟩
  cases aRun_det hr e1
  rcases hq with ⟨y', q1, q2, q3⟩ | ⟨x, _, w⟩
  · subst q2; subst q3
    rcases e2 with ⟨y9, p1, p2⟩ | ⟨x, p1, _⟩
    · rw [q1] at p1; cases p1; exact p2
    · rw [q1] at p1; cases p1
  · exact w.elim
theorem CL_iff {y : Int64} {K : Int64 → aH → Prop} (H : ∀ (K : Int64 → aH → Prop) (X : Nat → aH → Prop), K y h1 → CL d k as h K X) : CL d k as h K X ↔ K y h1 := by
  refine ⟨fun ⟨m, r', e1, e2⟩ => ?_, H K X⟩
  obtain ⟨n, r, hr, hq⟩ := H (fun y' h' => y' = y ∧ h' = h1) (fun _ _ => False) ⟨rfl, rfl⟩
  cases aRun_det hr e1
  rcases hq with ⟨y', q1, q2, q3⟩ | ⟨x, _, w⟩
  · subst q2; subst q3
    rcases e2 with ⟨y9, p1, p2⟩ | ⟨x, p1, _⟩
    · rw [q1] at p1; cases p1; exact p2
    · rw [q1] at p1; cases p1
  · exact w.elim
theorem CR_iff {y : Nat} {K : Nat → aH → Prop} (H : ∀ (K : Nat → aH → Prop) (X : Nat → aH → Prop), K y h1 → CR d k as h K X) : CR d k as h K X ↔ K y h1 := by
  refine ⟨fun ⟨m, r', e1, e2⟩ => ?_, H K X⟩
  obtain ⟨n, r, hr, hq⟩ := H (fun y' h' => y' = y ∧ h' = h1) (fun _ _ => False) ⟨rfl, rfl⟩
  cases aRun_det hr e1
  rcases hq with ⟨y', q1, q2, q3⟩ | ⟨x, _, w⟩
  · subst q2; subst q3
    rcases e2 with ⟨y9, p1, p2⟩ | ⟨x, p1, _⟩
    · rw [q1] at p1; cases p1; exact p2
    · rw [q1] at p1; cases p1
  · exact w.elim
theorem CV_iff {K : aH → Prop} (H : ∀ (K : aH → Prop) (X : Nat → aH → Prop), K h1 → CV d k as h K X) : CV d k as h K X ↔ K h1 := by
  refine ⟨fun ⟨m, r', e1, e2⟩ => ?_, H K X⟩
  obtain ⟨n, r, hr, hq⟩ := H (fun h' => h' = h1) (fun _ _ => False) rfl
  cases aRun_det hr e1
  rcases hq with ⟨q1, q3⟩ | ⟨x, _, w⟩
  · subst q3
    rcases e2 with ⟨p1, p2⟩ | ⟨x, p1, _⟩
    · exact p2
    · rw [q1] at p1; cases p1
  · exact w.elim
theorem CVx_iff {x : Nat} {K : aH → Prop} (H : ∀ (K : aH → Prop) (X : Nat → aH → Prop), X x h1 → CV d k as h K X) : CV d k as h K X ↔ X x h1 := by
  refine ⟨fun ⟨m, r', e1, e2⟩ => ?_, H K X⟩
  obtain ⟨n, r, hr, hq⟩ := H (fun _ => False) (fun x' h' => x' = x ∧ h' = h1) ⟨rfl, rfl⟩
  cases aRun_det hr e1
  rcases hq with ⟨_, w⟩ | ⟨x', q1, q2, q3⟩
  · exact w.elim
  · subst q2; subst q3
    rcases e2 with ⟨p1, _⟩ | ⟨x9, p1, p2⟩
    · rw [q1] at p1; cases p1
    · rw [q1] at p1; cases p1; exact p2
theorem inB_iff {k a : Nat} {i : Int32} {P : Nat → Prop} : (∃ j : Nat, inB h k a i j ∧ P j) ↔ (gK h a = k ∧ 0 ≤ i.toInt ∧ i.toInt < (gL h a : Int) ∧ P i.toInt.toNat) := by
  constructor
  · rintro ⟨j, ⟨h1, h2, h3, h4⟩, hP⟩
    subst h2
    rw [ti_n h4]
    exact ⟨h1, by omega, by omega, by simpa using hP⟩
  · rintro ⟨h1, h2, h3, hP⟩
    exact inB_i h1 h2 h3 hP
theorem new_iff {n : Int32} {P : Nat → Prop} : (∃ j : Nat, n = nI j ∧ j ≤ 1000000 ∧ P j) ↔ (0 ≤ n.toInt ∧ n.toInt ≤ 1000000 ∧ P n.toInt.toNat) := by
  constructor
  · rintro ⟨j, h2, h4, hP⟩
    subst h2
    rw [ti_n (by omega)]
    exact ⟨by omega, by omega, by simpa using hP⟩
  · rintro ⟨h1, h2, hP⟩
    exact ⟨n.toInt.toNat, ti_nat h1, by omega, hP⟩
theorem tiA : (-2000000 : Int32).toInt = -2000000 := rfl
theorem tlM6 : (-1000000 : Int64).toInt = -1000000 := rfl
theorem natc {n : Nat} : ((no_index (OfNat.ofNat n) : Nat) : Int) = OfNat.ofNat n := rfl
theorem i32c : ((1 : Int32).toInt = 0) ↔ False := by decide
theorem r_eq {r : Nat} {e : aH} {P : Nat → aH → Prop} : (∀ (r0 : Nat) (h0 : aH), r0 = r → h0 = e → P r0 h0) ↔ P r e := ⟨fun q => q _ _ rfl rfl, fun q r0 h0 e1 e2 => by rw [e1, e2]; exact q⟩
/-- a branch on a known side -/
theorem bz_t {c P Q : Prop} (hc : c) : ((c → P) ∧ (¬ c → Q)) ↔ P := ⟨fun w => w.1 hc, fun w => ⟨fun _ => w, fun n => absurd hc n⟩⟩
theorem bz_f {c P Q : Prop} (hc : ¬ c) : ((c → P) ∧ (¬ c → Q)) ↔ Q := ⟨fun w => w.2 hc, fun w => ⟨fun n => absurd n hc, fun _ => w⟩⟩
end
/-- deeper is as good -/
theorem aRun_deep : ∀ (n d mi : Nat) (cf : aCf) (r : aOut × aH), aRun aPr n d mi cf = some r → aRun aPr n (d + 1) mi cf = some r := by
  intro n
  induction n with
  | zero => intro d mi cf r h; simp [aRun] at h
  | succ n ih =>
    intro d mi cf r h
    obtain ⟨pc, L, S, hp⟩ := cf
    rw [aRun] at h ⊢
    split at h
    · cases h
    · exact ih _ _ _ _ h
    · split at h
      · cases h
      · rename_i d
        split at h
        · cases h
        rename_i hlay
        rw [if_neg hlay]
        split at h
        · cases h
        · rename_i h1
          rw [ih _ _ _ _ h1]
          exact ih _ _ _ _ h
        · rename_i h1
          rw [ih _ _ _ _ h1]
          dsimp only
          split at h
          · cases h
          · rename_i hq
            rw [if_neg hq]
            split at h
            · exact ih _ _ _ _ h
            · exact h
    · exact h
theorem Wp_deep {d e mi : Nat} {cf : aCf} {Q : aOut × aH → Prop} (w : Wp d mi cf Q) (hd : d ≤ e) : Wp e mi cf Q := by
  obtain ⟨n, r, h1, h2⟩ := w
  refine ⟨n, r, ?_, h2⟩
  clear h2
  induction hd with
  | refl => exact h1
  | step _ ih => exact aRun_deep _ _ _ _ _ ih
theorem Wc_deep {d e k : Nat} {as : List aV} {h : aH} {Q : aOut × aH → Prop} (w : Wc d k as h Q) (hd : d ≤ e) : Wc e k as h Q := Wp_deep w hd
end CORE
section LABS
/-- the label l lives: its cell, of a kind -/
def liv (h : aH) (A o : Nat → Nat) (l kd : Nat) : Prop := o (A l) = l ∧ 8 ≤ A l ∧ A l < gN h ∧ gK h (A l) = kd
theorem liv_ne {h : aH} {A o : Nat → Nat} {l m k1 k2 : Nat} (a : liv h A o l k1) (b : liv h A o m k2) (hn : l ≠ m) : A l ≠ A m := fun e => hn (by rw [← a.1, ← b.1, e])
/-- the areas in C may change, no other -/
def fr (h h1 : aH) (A A1 o o1 : Nat → Nat) (C : Nat → Prop) : Prop := keeps h h1 (fun a => C (o a / 1000000)) ∧ (∀ a, a < gN h → o1 a = o a) ∧ ∀ l, ¬ C (l / 1000000) → A1 l = A l
variable {h h1 h2 : aH} {A A1 A2 o o1 o2 : Nat → Nat} {C C1 : Nat → Prop} {l kd : Nat}
theorem fr_refl : fr h h A A o o C := ⟨keeps_refl _ _, fun _ _ => rfl, fun _ _ => rfl⟩
theorem fr_trans (f : fr h h1 A A1 o o1 C) (g : fr h1 h2 A1 A2 o1 o2 C) : fr h h2 A A2 o o2 C := by
  obtain ⟨f1, f2, f3⟩ := f
  obtain ⟨g1, g2, g3⟩ := g
  have hN := f1.1
  refine ⟨⟨by have := g1.1; omega, by have := g1.2.1; have := f1.2.1; omega, fun a ha => ?_, fun a ha hp => ?_⟩, fun a ha => ?_, fun l hl => ?_⟩
  · have e1 := f1.2.2.1 a ha
    have e2 := g1.2.2.1 a (by omega)
    exact ⟨e2.1.trans e1.1, e2.2.trans e1.2⟩
  · have e1 := f1.2.2.2 a ha hp
    have e2 := g1.2.2.2 a (by omega) (by show ¬ C (o1 a / 1000000); rw [f2 a ha]; exact hp)
    exact same_trans e1 e2
  · rw [g2 a (by omega), f2 a ha]
  · rw [g3 l hl, f3 l hl]
theorem fr_mono (f : fr h h1 A A1 o o1 C) (hc : ∀ a, C a → C1 a) : fr h h1 A A1 o o1 C1 :=
  ⟨keeps_mono f.1 (fun a _ q => hc _ q), f.2.1, fun l hl => f.2.2 l (fun q => hl (hc _ q))⟩
theorem fr_new (k n : Nat) : fr h (gNew h k n) A A o o C := ⟨keeps_new _ _ _ _, fun _ _ => rfl, fun _ _ => rfl⟩
theorem fr_same (f : fr h h1 A A1 o o1 C) {a : Nat} (ha : a < gN h) (hc : ¬ C (o a / 1000000)) : same h h1 a := f.1.2.2.2 a ha hc
theorem liv_fr (f : fr h h1 A A1 o o1 C) (hc : ¬ C (l / 1000000)) (v : liv h A o l kd) : liv h1 A1 o1 l kd := by
  obtain ⟨v1, v2, v3, v4⟩ := v
  have e := f.2.2 l hc
  have hN := f.1.1
  unfold liv
  rw [e, f.2.1 _ v3, (f.1.2.2.1 _ v3).1]
  exact ⟨v1, v2, by omega, v4⟩
/-- an object's cells: kinds, lengths, references -/
def objT (h : aH) (A o : Nat → Nat) (b : Nat) (ks ls : List (Nat × Nat)) (rs : List (Nat × Nat × Nat)) : Prop :=
  (∀ q ∈ ks, liv h A o (b + q.1) q.2) ∧ (∀ q ∈ ls, gL h (A (b + q.1)) = q.2) ∧ ∀ q ∈ rs, gR h (A (b + q.1)) q.2.1 = A (b + q.2.2)
/-- every cell of the lists is a living one, all in one area -/
def objL (b c : Nat) (ks ls : List (Nat × Nat)) (rs : List (Nat × Nat × Nat)) : Prop :=
  (∀ q ∈ ks, (b + q.1) / 1000000 = c) ∧ (∀ q ∈ ls, ∃ k, (q.1, k) ∈ ks) ∧ ∀ q ∈ rs, (∃ k, (q.1, k) ∈ ks) ∧ ∃ k, (q.2.2, k) ∈ ks
theorem obj_fr {b c : Nat} {ks ls : List (Nat × Nat)} {rs : List (Nat × Nat × Nat)} (f : fr h h1 A A1 o o1 C) (hc : ¬ C c) (w : objL b c ks ls rs) (v : objT h A o b ks ls rs) : objT h1 A1 o1 b ks ls rs := by
  obtain ⟨v1, v2, v3⟩ := v
  obtain ⟨w1, w2, w3⟩ := w
  have hA : ∀ j k, (j, k) ∈ ks → A1 (b + j) = A (b + j) ∧ A (b + j) < gN h ∧ same h h1 (A (b + j)) := fun j k hj => by
    have e1 := w1 _ hj
    have e2 := v1 _ hj
    refine ⟨f.2.2 _ (by rw [e1]; exact hc), e2.2.2.1, fr_same f e2.2.2.1 ?_⟩
    rw [e2.1, e1]; exact hc
  refine ⟨fun q hq => liv_fr f (by rw [w1 q hq]; exact hc) (v1 q hq), fun q hq => ?_, fun q hq => ?_⟩
  · obtain ⟨k, hk⟩ := w2 q hq
    obtain ⟨a1, a2, a3⟩ := hA _ _ hk
    rw [a1, a3.2.1]; exact v2 q hq
  · obtain ⟨⟨k, hk⟩, k2, hk2⟩ := w3 q hq
    obtain ⟨a1, a2, a3⟩ := hA _ _ hk
    obtain ⟨c1, c2, c3⟩ := hA _ _ hk2
    rw [a1, c1, a3.2.2.2.2]; exact v3 q hq
end LABS
