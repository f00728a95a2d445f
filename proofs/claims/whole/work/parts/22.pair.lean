/-! LABELS OF THE FIXED CELLS; PAIRS OF CALLS -/
section OLB
def oF : List (Nat × Nat) := [(8, 13000008), (9, 1000009), (10, 1000010), (12, 1000012), (14, 1000014), (15, 1000015), (16, 1000016), (17, 2000017), (18, 2000018), (19, 3000019), (32, 4000032), (33, 4000033), (34, 5000034), (35, 6000034), (36, 7000034), (37, 8000034), (38, 9000034), (39, 10000034), (40, 11000040), (42, 12000042), (107, 15000107)]
def OL (o : Nat → Nat) : Prop := (∀ q ∈ oF, o q.1 = q.2) ∧ ∀ a, 44 ≤ a → a < 107 → o a = 14000000 + a
variable {o : Nat → Nat}
theorem ol_8 (f : OL o) : o 8 = 13000008 := f.1 (8, 13000008) (by decide)
theorem ol_9 (f : OL o) : o 9 = 1000009 := f.1 (9, 1000009) (by decide)
theorem ol_10 (f : OL o) : o 10 = 1000010 := f.1 (10, 1000010) (by decide)
theorem ol_12 (f : OL o) : o 12 = 1000012 := f.1 (12, 1000012) (by decide)
theorem ol_14 (f : OL o) : o 14 = 1000014 := f.1 (14, 1000014) (by decide)
theorem ol_15 (f : OL o) : o 15 = 1000015 := f.1 (15, 1000015) (by decide)
theorem ol_16 (f : OL o) : o 16 = 1000016 := f.1 (16, 1000016) (by decide)
theorem ol_17 (f : OL o) : o 17 = 2000017 := f.1 (17, 2000017) (by decide)
theorem ol_18 (f : OL o) : o 18 = 2000018 := f.1 (18, 2000018) (by decide)
theorem ol_19 (f : OL o) : o 19 = 3000019 := f.1 (19, 3000019) (by decide)
theorem ol_32 (f : OL o) : o 32 = 4000032 := f.1 (32, 4000032) (by decide)
theorem ol_33 (f : OL o) : o 33 = 4000033 := f.1 (33, 4000033) (by decide)
theorem ol_34 (f : OL o) : o 34 = 5000034 := f.1 (34, 5000034) (by decide)
theorem ol_35 (f : OL o) : o 35 = 6000034 := f.1 (35, 6000034) (by decide)
theorem ol_36 (f : OL o) : o 36 = 7000034 := f.1 (36, 7000034) (by decide)
theorem ol_37 (f : OL o) : o 37 = 8000034 := f.1 (37, 8000034) (by decide)
theorem ol_38 (f : OL o) : o 38 = 9000034 := f.1 (38, 9000034) (by decide)
theorem ol_39 (f : OL o) : o 39 = 10000034 := f.1 (39, 10000034) (by decide)
theorem ol_40 (f : OL o) : o 40 = 11000040 := f.1 (40, 11000040) (by decide)
theorem ol_42 (f : OL o) : o 42 = 12000042 := f.1 (42, 12000042) (by decide)
theorem ol_107 (f : OL o) : o 107 = 15000107 := f.1 (107, 15000107) (by decide)
theorem ol_m (f : OL o) {a : Nat} (h1 : 44 ≤ a) (h2 : a < 107) : o a / 1000000 = 14 := by rw [f.2 a h1 h2]; omega
def base (h : aH) (o : Nat → Nat) : Prop := CF h ∧ MF h ∧ OL o
theorem base_of {h h1 : aH} {A A1 o1 : Nat → Nat} {C : Nat → Prop} (b : base h o) (f : fr h h1 A A1 o o1 C) (hr : ∀ a, a = 8 ∨ a = 9 ∨ a = 17 ∨ a = 32 ∨ a = 44 → ∀ j, gR h1 a j = gR h a j) (hr2 : gR h1 19 0 = gR h 19 0) : base h1 o1 := by
  obtain ⟨b1, b2, b3⟩ := b
  have hN := b1.1
  refine ⟨CF_of b1 f.1.1 f.1.2.2.1 fun q hq => ?_, ⟨?_, ?_, fun q hq => ?_⟩, fun q hq => ?_, fun a h1 h2 => ?_⟩
  · rcases cF_in.2.2 q hq with e | e | ⟨e, -⟩ | ⟨e, e2⟩ | e
    · rw [e]; exact hr 8 (by omega) _
    · rw [e]; exact hr 9 (by omega) _
    · rw [e]; exact hr 17 (by omega) _
    · rw [e, e2]; exact hr2
    · rw [e]; exact hr 32 (by omega) _
  · rw [(f.1.2.2.1 44 (by omega)).1]; exact b2.1
  · have := f.1.1; omega
  · have hi := mA_in q hq
    have e := f.1.2.2.1 q.2.1 (by omega)
    rw [hr 44 (by omega), e.1, e.2]
    exact b2.2.2 q hq
  · have hq' : q.1 < 108 := (show ∀ q ∈ oF, q.1 < 108 by decide) q hq
    rw [f.2.1 _ (by omega)]; exact b3.1 q hq
  · rw [f.2.1 _ (by omega)]; exact b3.2 a h1 h2
theorem base_fr {h h1 : aH} {A A1 o1 : Nat → Nat} {C : Nat → Prop} (b : base h o) (f : fr h h1 A A1 o o1 C) (hc : ¬ C 1 ∧ ¬ C 2 ∧ ¬ C 3 ∧ ¬ C 4 ∧ ¬ C 13 ∧ ¬ C 14) : base h1 o1 := by
  have hN := b.1.1
  have b3 := b.2.2
  refine base_of b f (fun a ha j => ?_) ?_
  · refine (fr_same f (a := a) (by omega) ?_).2.2.2.2 j
    rcases ha with rfl | rfl | rfl | rfl | rfl
    · rw [ol_8 b3]; exact hc.2.2.2.2.1
    · rw [ol_9 b3]; exact hc.1
    · rw [ol_17 b3]; exact hc.2.1
    · rw [ol_32 b3]; exact hc.2.2.2.1
    · rw [ol_m b3 (by omega) (by omega)]; exact hc.2.2.2.2.2
  · refine (fr_same f (a := 19) (by omega) ?_).2.2.2.2 0
    rw [ol_19 b3]; exact hc.2.2.1
/-- what the model's cells hold is kept where its area is -/
theorem fr_m {h h1 : aH} {A A1 o1 : Nat → Nat} {C : Nat → Prop} (b : base h o) (f : fr h h1 A A1 o o1 C) (hc : ¬ C 14) {a : Nat} (h44 : 44 ≤ a) (h107 : a < 107) : gI h1 a = gI h a ∧ gJ h1 a = gJ h a := by
  have hN := b.1.1
  have s := fr_same f (a := a) (by omega) (by rw [ol_m b.2.2 h44 h107]; exact hc)
  exact ⟨funext s.2.2.1, funext s.2.2.2.1⟩
/-- a pair of calls, the class's and the model's: both fail alike (code c), or answer y; Post holds behind both -/
def Pr (nc nm : Nat) (args : List aV) (exs : List Nat) (h : aH) (Post : aH → Prop) : Prop := ∃ (c : Nat) (y : Int32) (Mid : aH → Prop), c ≤ exs.length ∧
  (∀ (K : Int32 → aH → Prop) (X : Nat → aH → Prop), (∀ h1, c = 0 → Mid h1 → K y h1) → (∀ h1, c ≠ 0 → Mid h1 → X (exs.getD (c - 1) 0) h1) → CI 500 nc (vR 8 :: args) h K X) ∧
  ∀ (h1 : aH) (J1 : Nat → Nat → Int64), Mid h1 → (∀ a, a ≠ 107 → J1 a = gJ h1 a) → ∀ (K : Int32 → aH → Prop) (X : Nat → aH → Prop),
    (∀ (h2 : aH) (b : Int32), (c = 0 → b = y) → gI h2 44 0 = nI c → gJ h2 107 = J1 107 → Post h2 → K b h2) → CI 500 nm (vR 44 :: args) (hU h1 (gI h1) J1) K X
/-- both answer -/
theorem Pr_ok {nc nm : Nat} {args : List aV} {exs : List Nat} {h : aH} {Post : aH → Prop} (y : Int32) (Mid : aH → Prop)
    (hc : ∀ (K : Int32 → aH → Prop) (X : Nat → aH → Prop), (∀ h1, Mid h1 → K y h1) → CI 500 nc (vR 8 :: args) h K X)
    (hm : ∀ (h1 : aH) (J1 : Nat → Nat → Int64), Mid h1 → (∀ a, a ≠ 107 → J1 a = gJ h1 a) → ∀ (K : Int32 → aH → Prop) (X : Nat → aH → Prop),
      (∀ (h2 : aH), gI h2 44 0 = 0 → gJ h2 107 = J1 107 → Post h2 → K y h2) → CI 500 nm (vR 44 :: args) (hU h1 (gI h1) J1) K X) : Pr nc nm args exs h Post :=
  ⟨0, y, Mid, Nat.zero_le _, fun K X a _ => hc K X (fun h1 m => a h1 rfl m), fun h1 J1 m j K X k => hm h1 J1 m j K X (fun h2 e1 e2 p => k h2 y (fun _ => rfl) e1 e2 p)⟩
/-- both fail -/
theorem Pr_no {nc nm : Nat} {args : List aV} {exs : List Nat} {h : aH} {Post : aH → Prop} (c : Nat) (Mid : aH → Prop) (x : Nat) (h0 : c + 1 ≤ exs.length) (hx : exs.getD c 0 = x)
    (hc : ∀ (K : Int32 → aH → Prop) (X : Nat → aH → Prop), (∀ h1, Mid h1 → X x h1) → CI 500 nc (vR 8 :: args) h K X)
    (hm : ∀ (h1 : aH) (J1 : Nat → Nat → Int64), Mid h1 → (∀ a, a ≠ 107 → J1 a = gJ h1 a) → ∀ (K : Int32 → aH → Prop) (X : Nat → aH → Prop),
      (∀ (h2 : aH) (b : Int32), gI h2 44 0 = nI (c + 1) → gJ h2 107 = J1 107 → Post h2 → K b h2) → CI 500 nm (vR 44 :: args) (hU h1 (gI h1) J1) K X) : Pr nc nm args exs h Post :=
  ⟨c + 1, 0, Mid, h0, fun K X _ a => hc K X (fun h1 m => hx ▸ a h1 (by omega) m), fun h1 J1 m j K X k => hm h1 J1 m j K X (fun h2 b e1 e2 p => k h2 b (fun e => by omega) e1 e2 p)⟩
end OLB
