/-! READING A TEXT: the class reads a statement -/
section STM
variable {d L p q w w0 cnt ak s : Nat} {h : aH} {X : Nat → aH → Prop} {B : Nat → Int32} {I0 I I' : Nat → Nat → Int32} {J0 J J' : Nat → Nat → Int64} {nam : Nat → Int64} {F : Nat → Nat} {f3 f4 f5 f6 f9 : Nat → Int32} {K : Int32 → aH → Prop}
def up1 {α : Type} (g : Nat → α) (i : Nat) (x : α) : Nat → α := fun j => if j = i then x else g j
/-- nothing but the tape, the reader and the form changes -/
def frS (F : Nat → Nat) (I0 I : Nat → Nat → Int32) (J0 J : Nat → Nat → Int64) : Prop := (∀ a, a ≠ 17 → a ≠ 19 → (∀ j, j < 10 → a ≠ F j) → I a = I0 a ∧ J a = J0 a) ∧ I 17 1 = I0 17 1
def sC (F : Nat → Nat) (I0 I : Nat → Nat → Int32) (J0 J : Nat → Nat → Int64) (w0 : Nat) (f3 f4 f5 f6 f9 : Nat → Int32) (ak w cnt : Nat) : Prop :=
  frS F I0 I J0 J ∧ (I (F 3) = f3 ∧ I (F 4) = f4 ∧ I (F 5) = f5 ∧ I (F 6) = f6 ∧ I (F 9) = f9) ∧ (I (F 8) = I0 (F 8) ∧ I (F 10) = I0 (F 10) ∧ I (F 11) = I0 (F 11) ∧ ∀ j, j < 12 → J (F j) = J0 (F j)) ∧ (I (F 0) 10 = nI w ∧ I (F 0) 11 = nI cnt ∧ I (F 0) 12 = nI ak) ∧ ∀ i, i < w0 → I (F 1) i = I0 (F 1) i ∧ I (F 2) i = I0 (F 2) i
theorem sC_fE {w1 w2 : Nat} (S : pS h F L) (c : sC F I0 I J0 J w0 f3 f4 f5 f6 f9 ak w cnt) (u : fE (F 0) (F 1) (F 2) w1 I I' J J') (hw : w0 ≤ w1) (h2 : I' (F 0) 10 = nI w2) : sC F I0 I' J0 J' w0 f3 f4 f5 f6 f9 ak w2 cnt := by
  obtain ⟨⟨c1, c2⟩, ⟨c3, c4, c5, c6, c9⟩, ⟨c8, c10, c11, c7⟩, ⟨x10, x11, x12⟩, c0⟩ := c
  have g := S.2.2.2.1
  have out : ∀ j, j < 12 → 3 ≤ j → I' (F j) = I (F j) := fun j hj h3 => u.1 _ (by have := g j hj; omega) (by have := g j hj; omega) (pS_ne S hj (by omega) (by omega)) (pS_ne S hj (by omega) (by omega)) (pS_ne S hj (by omega) (by omega))
  refine ⟨⟨fun a h1 h2 h3 => ?_, by rw [u.2.1]; exact c2⟩, ⟨by rw [out 3 (by decide) (by decide)]; exact c3, by rw [out 4 (by decide) (by decide)]; exact c4, by rw [out 5 (by decide) (by decide)]; exact c5, by rw [out 6 (by decide) (by decide)]; exact c6, by rw [out 9 (by decide) (by decide)]; exact c9⟩, ⟨by rw [out 8 (by decide) (by decide)]; exact c8, by rw [out 10 (by decide) (by decide)]; exact c10, by rw [out 11 (by decide) (by decide)]; exact c11, fun j hj => by rw [u.2.2.2.2.2 (F j) (by have := g j hj; omega)]; exact c7 j hj⟩, ⟨h2, by rw [u.2.2.2.1 11 (by decide)]; exact x11, by rw [u.2.2.2.1 12 (by decide)]; exact x12⟩, fun i hi => ?_⟩
  · rw [u.1 a h1 h2 (h3 0 (by decide)) (h3 1 (by decide)) (h3 2 (by decide)), u.2.2.2.2.2 a h1]
    exact c1 a h1 h2 h3
  · have := u.2.2.2.2.1 i (by omega)
    rw [this.1, this.2]; exact c0 i hi
theorem sC_fB (S : pS h F L) (c : sC F I0 I J0 J w0 f3 f4 f5 f6 f9 ak w cnt) (u : fB9 I I' J J') : sC F I0 I' J0 J' w0 f3 f4 f5 f6 f9 ak w cnt := by
  obtain ⟨⟨c1, c2⟩, ⟨c3, c4, c5, c6, c9⟩, ⟨c8, c10, c11, c7⟩, ⟨x10, x11, x12⟩, c0⟩ := c
  have g := S.2.2.2.1
  have out : ∀ j, j < 12 → I' (F j) = I (F j) := fun j hj => u.1 _ (by have := g j hj; omega) (by have := g j hj; omega)
  refine ⟨⟨fun a h1 h2 h3 => ?_, by rw [u.2.1]; exact c2⟩, ⟨by rw [out 3 (by decide)]; exact c3, by rw [out 4 (by decide)]; exact c4, by rw [out 5 (by decide)]; exact c5, by rw [out 6 (by decide)]; exact c6, by rw [out 9 (by decide)]; exact c9⟩, ⟨by rw [out 8 (by decide)]; exact c8, by rw [out 10 (by decide)]; exact c10, by rw [out 11 (by decide)]; exact c11, fun j hj => by rw [u.2.2 (F j) (by have := g j hj; omega)]; exact c7 j hj⟩, ⟨by rw [out 0 (by decide)]; exact x10, by rw [out 0 (by decide)]; exact x11, by rw [out 0 (by decide)]; exact x12⟩, fun i hi => by rw [out 1 (by decide), out 2 (by decide)]; exact c0 i hi⟩
  rw [u.1 a h1 h2, u.2.2 a h1]
  exact c1 a h1 h2 h3
theorem up_same {a i : Nat} {x : Int32} : uI I a i x a = up1 (I a) i x := by
  funext j
  unfold up1
  rw [uI_app]
  by_cases e : j = i
  · rw [if_pos ⟨rfl, e⟩, if_pos e]
  · rw [if_neg (fun z => e z.2), if_neg e]
theorem upJ_same {a i : Nat} {x : Int64} : uJ J a i x a = up1 (J a) i x := by
  funext j
  unfold up1
  rw [uJ_app]
  by_cases e : j = i
  · rw [if_pos ⟨rfl, e⟩, if_pos e]
  · rw [if_neg (fun z => e z.2), if_neg e]
theorem sC_3 {i : Nat} {x : Int32} (S : pS h F L) (c : sC F I0 I J0 J w0 f3 f4 f5 f6 f9 ak w cnt) : sC F I0 (uI I (F 3) i x) J0 J w0 (up1 f3 i x) f4 f5 f6 f9 ak w cnt := by
  obtain ⟨⟨c1, c2⟩, ⟨c3, c4, c5, c6, c9⟩, ⟨c8, c10, c11, c7⟩, ⟨x10, x11, x12⟩, c0⟩ := c
  have g := S.2.2.2.1 3 (by decide)
  have out : ∀ j, j < 12 → j ≠ 3 → uI I (F 3) i x (F j) = I (F j) := fun j hj hn => uI_ne _ _ _ (pS_ne S hj (by decide) hn)
  refine ⟨⟨fun a h1 h2 h3 => by rw [uI_ne _ _ _ (h3 3 (by decide))]; exact c1 a h1 h2 h3, by rw [uI_ne _ _ _ (by omega)]; exact c2⟩, ⟨by rw [up_same, c3], by rw [out 4 (by decide) (by decide)]; exact c4, by rw [out 5 (by decide) (by decide)]; exact c5, by rw [out 6 (by decide) (by decide)]; exact c6, by rw [out 9 (by decide) (by decide)]; exact c9⟩, ⟨by rw [out 8 (by decide) (by decide)]; exact c8, by rw [out 10 (by decide) (by decide)]; exact c10, by rw [out 11 (by decide) (by decide)]; exact c11, c7⟩, ⟨by rw [out 0 (by decide) (by decide)]; exact x10, by rw [out 0 (by decide) (by decide)]; exact x11, by rw [out 0 (by decide) (by decide)]; exact x12⟩, fun i hi => by rw [out 1 (by decide) (by decide), out 2 (by decide) (by decide)]; exact c0 i hi⟩
theorem sC_9 {i : Nat} {x : Int32} (S : pS h F L) (c : sC F I0 I J0 J w0 f3 f4 f5 f6 f9 ak w cnt) : sC F I0 (uI I (F 9) i x) J0 J w0 f3 f4 f5 f6 (up1 f9 i x) ak w cnt := by
  obtain ⟨⟨c1, c2⟩, ⟨c3, c4, c5, c6, c9⟩, ⟨c8, c10, c11, c7⟩, ⟨x10, x11, x12⟩, c0⟩ := c
  have g := S.2.2.2.1 9 (by decide)
  have out : ∀ j, j < 12 → j ≠ 9 → uI I (F 9) i x (F j) = I (F j) := fun j hj hn => uI_ne _ _ _ (pS_ne S hj (by decide) hn)
  refine ⟨⟨fun a h1 h2 h3 => by rw [uI_ne _ _ _ (h3 9 (by decide))]; exact c1 a h1 h2 h3, by rw [uI_ne _ _ _ (by omega)]; exact c2⟩, ⟨by rw [out 3 (by decide) (by decide)]; exact c3, by rw [out 4 (by decide) (by decide)]; exact c4, by rw [out 5 (by decide) (by decide)]; exact c5, by rw [out 6 (by decide) (by decide)]; exact c6, by rw [up_same, c9]⟩, ⟨by rw [out 8 (by decide) (by decide)]; exact c8, by rw [out 10 (by decide) (by decide)]; exact c10, by rw [out 11 (by decide) (by decide)]; exact c11, c7⟩, ⟨by rw [out 0 (by decide) (by decide)]; exact x10, by rw [out 0 (by decide) (by decide)]; exact x11, by rw [out 0 (by decide) (by decide)]; exact x12⟩, fun i hi => by rw [out 1 (by decide) (by decide), out 2 (by decide) (by decide)]; exact c0 i hi⟩
theorem sC_b {i : Nat} {x y : Int32} (S : pS h F L) (c : sC F I0 I J0 J w0 f3 f4 f5 f6 f9 ak w cnt) : sC F I0 (uI (uI (uI (uI I (F 4) i x) (F 5) i y) (F 6) i 1) (F 0) 12 (I (F 0) 12 + 1)) J0 J w0 f3 (up1 f4 i x) (up1 f5 i y) (up1 f6 i 1) f9 (ak + 1) w cnt := by
  obtain ⟨⟨c1, c2⟩, ⟨c3, c4, c5, c6, c9⟩, ⟨c8, c10, c11, c7⟩, ⟨x10, x11, x12⟩, c0⟩ := c
  have g0 := S.2.2.2.1 0 (by decide)
  have g4 := S.2.2.2.1 4 (by decide)
  have g5 := S.2.2.2.1 5 (by decide)
  have g6 := S.2.2.2.1 6 (by decide)
  have ne : ∀ i j, i < 12 → j < 12 → i ≠ j → F i ≠ F j := fun i j hi hj hn => pS_ne S hi hj hn
  have out : ∀ j, j < 12 → j ≠ 0 → j ≠ 4 → j ≠ 5 → j ≠ 6 → uI (uI (uI (uI I (F 4) i x) (F 5) i y) (F 6) i 1) (F 0) 12 (I (F 0) 12 + 1) (F j) = I (F j) := fun j hj h0 h4 h5 h6 => by rw [uI_ne _ _ _ (ne j 0 hj (by decide) h0), uI_ne _ _ _ (ne j 6 hj (by decide) h6), uI_ne _ _ _ (ne j 5 hj (by decide) h5), uI_ne _ _ _ (ne j 4 hj (by decide) h4)]
  have o0 : ∀ k, k ≠ 12 → uI (uI (uI (uI I (F 4) i x) (F 5) i y) (F 6) i 1) (F 0) 12 (I (F 0) 12 + 1) (F 0) k = I (F 0) k := fun k hk => by rw [uI_nj _ _ _ _ hk, uI_ne _ _ _ (ne 0 6 (by decide) (by decide) (by decide)), uI_ne _ _ _ (ne 0 5 (by decide) (by decide) (by decide)), uI_ne _ _ _ (ne 0 4 (by decide) (by decide) (by decide))]
  refine ⟨⟨fun a h1 h2 h3 => by rw [uI_ne _ _ _ (h3 0 (by decide)), uI_ne _ _ _ (h3 6 (by decide)), uI_ne _ _ _ (h3 5 (by decide)), uI_ne _ _ _ (h3 4 (by decide))]; exact c1 a h1 h2 h3, by rw [uI_ne _ _ _ (by omega), uI_ne _ _ _ (by omega), uI_ne _ _ _ (by omega), uI_ne _ _ _ (by omega)]; exact c2⟩, ⟨by rw [out 3 (by decide) (by decide) (by decide) (by decide) (by decide)]; exact c3, ?_, ?_, ?_, by rw [out 9 (by decide) (by decide) (by decide) (by decide) (by decide)]; exact c9⟩, ⟨by rw [out 8 (by decide) (by decide) (by decide) (by decide) (by decide)]; exact c8, by rw [out 10 (by decide) (by decide) (by decide) (by decide) (by decide)]; exact c10, by rw [out 11 (by decide) (by decide) (by decide) (by decide) (by decide)]; exact c11, c7⟩, ⟨by rw [o0 10 (by decide)]; exact x10, by rw [o0 11 (by decide)]; exact x11, by rw [uI_same, x12, nI_1]⟩, fun i hi => by rw [out 1 (by decide) (by decide) (by decide) (by decide) (by decide), out 2 (by decide) (by decide) (by decide) (by decide) (by decide)]; exact c0 i hi⟩
  · rw [uI_ne _ _ _ (ne 4 0 (by decide) (by decide) (by decide)), uI_ne _ _ _ (ne 4 6 (by decide) (by decide) (by decide)), uI_ne _ _ _ (ne 4 5 (by decide) (by decide) (by decide)), up_same, c4]
  · rw [uI_ne _ _ _ (ne 5 0 (by decide) (by decide) (by decide)), uI_ne _ _ _ (ne 5 6 (by decide) (by decide) (by decide)), up_same, uI_ne _ _ _ (ne 5 4 (by decide) (by decide) (by decide)), c5]
  · rw [uI_ne _ _ _ (ne 6 0 (by decide) (by decide) (by decide)), up_same, uI_ne _ _ _ (ne 6 5 (by decide) (by decide) (by decide)), uI_ne _ _ _ (ne 6 4 (by decide) (by decide) (by decide)), c6]
theorem sC_j {x : Int64} (S : pS h F L) (c : sC F I0 I J0 J w0 f3 f4 f5 f6 f9 ak w cnt) : sC F I0 I J0 (uJ J 19 2 x) w0 f3 f4 f5 f6 f9 ak w cnt := by
  obtain ⟨⟨c1, c2⟩, cc, ⟨c8, c10, c11, c7⟩, c4, c5⟩ := c
  refine ⟨⟨fun a h1 h2 h3 => by rw [uJ_ne _ _ _ h2]; exact c1 a h1 h2 h3, c2⟩, cc, ⟨c8, c10, c11, fun j hj => by rw [uJ_ne _ _ _ (by have := S.2.2.2.1 j hj; omega)]; exact c7 j hj⟩, c4, c5⟩
/-- a statement has been read -/
def stR (F : Nat → Nat) (I0 I' : Nat → Nat → Int32) (J0 J' : Nat → Nat → Int64) (w0 cnt ak s : Nat) (hd : Int64 × Int32 × Int32 × List Tm) (cs : List Cmp) : Prop :=
  frS F I0 I' J0 J' ∧ (I' (F 3) = up1 (I0 (F 3)) cnt (nI s) ∧ I' (F 4) = (if s = 0 then up1 (I0 (F 4)) cnt hd.2.1 else I0 (F 4)) ∧ I' (F 5) = (if s = 0 then up1 (I0 (F 5)) cnt hd.2.2.1 else I0 (F 5)) ∧ I' (F 6) = (if s = 0 then up1 (I0 (F 6)) cnt 1 else I0 (F 6)) ∧ I' (F 8) = up1 (I0 (F 8)) (cnt + 1) (nI (w0 + hd.2.2.2.length + lenC cs)) ∧ I' (F 9) = up1 (I0 (F 9)) cnt (nI (w0 + hd.2.2.2.length)) ∧ I' (F 10) = I0 (F 10) ∧ I' (F 11) = I0 (F 11)) ∧ J' (F 7) = up1 (J0 (F 7)) cnt hd.1 ∧ (I' (F 0) 10 = nI (w0 + hd.2.2.2.length + lenC cs) ∧ I' (F 0) 11 = nI (cnt + 1) ∧ I' (F 0) 12 = nI (ak + if s = 0 then 1 else 0)) ∧ (∀ i, i < w0 → I' (F 1) i = I0 (F 1) i ∧ I' (F 2) i = I0 (F 2) i) ∧ encC (I' (F 1)) (I' (F 2)) w0 hd.2.2.2 ∧ encCC (I' (F 1)) (I' (F 2)) (w0 + hd.2.2.2.length) cs
/-- what is known of a head -/
def hdK (s : Nat) (hd : Int64 × Int32 × Int32 × List Tm) : Prop := s ≤ 3 ∧ (s ≠ 1 → hd.2.2.2 = []) ∧ (s = 0 → -999999 ≤ hd.2.1.toInt ∧ hd.2.1.toInt ≤ hd.2.2.1.toInt ∧ hd.2.2.1.toInt ≤ 999999) ∧ (s ≠ 0 → hd.2.1 = 0 ∧ hd.2.2.1 = 0) ∧ (2 ≤ s → hd.1 = 0)
theorem c_s149 {hd : Int64 × Int32 × Int32 × List Tm} {cs : List Cmp} (S : pS h F L) (t : tpC I B L) (a : atC I J B L q) (hq : q ≤ L) (c : sC F I0 I J0 J w0 (up1 (I0 (F 3)) cnt (nI s)) (if s = 0 then up1 (I0 (F 4)) cnt hd.2.1 else I0 (F 4)) (if s = 0 then up1 (I0 (F 5)) cnt hd.2.2.1 else I0 (F 5)) (if s = 0 then up1 (I0 (F 6)) cnt 1 else I0 (F 6)) (up1 (I0 (F 9)) cnt (nI (w0 + hd.2.2.2.length))) (ak + if s = 0 then 1 else 0) (w0 + hd.2.2.2.length + lenC cs) cnt) (h20 : cnt < 20) (hk : hdK s hd) (hn : s ≤ 1 → J 19 2 = hd.1) (en : encC (I (F 1)) (I (F 2)) w0 hd.2.2.2) (enc : encCC (I (F 1)) (I (F 2)) (w0 + hd.2.2.2.length) cs)
    (ok : lxK B L q = 5 → ∀ I' J', stR F I0 I' J0 J' w0 cnt ak s hd cs → atC I' J' B L (lxE B L q) → K 1 (hU h I' J'))
    (no : lxK B L q ≠ 5 → ∀ I' J', frS F I0 I' J0 J' → I' 19 4 = nI (lxS B L q) → K 0 (hU h I' J')) : Wp (d + 5) 89 (149, [some (vR 19), some (vI (nI s)), none], [], hU h I J) (RI K X) := by
  have f := S.1.1
  have r1 := S.1.2.1.2.1
  have k0 := S.1.2.1.1
  have g := S.2.2.2.1
  have g0 := g 0 (by decide)
  have e0 : 8 ≤ F 0 := by omega
  have kl := lxK_le (B := B) (L := L) (p := q)
  have kI : (nI (lxK B L q)).toInt = lxK B L q := ti_n (by omega)
  have sI : (nI s).toInt = s := ti_n (by have := hk.1; omega)
  have s3 := hk.1
  refine w89_149 ?_
  simp only [↓forall_eq, ↓inB_iff, gK_hU, gL_hU, gR_hU, gIh, gJh, pI_hU, pJ_hU, hU_hU, uI_app, uJ_app, and_true, true_and, and_false, false_and, and_self, true_implies, false_implies, not_true, not_false_iff, if_true, if_false, eq_self, Nat.reduceLeDiff, Nat.reduceEqDiff, reduceCtorEq, i32c, ti0, ti1, tiM, Int.natCast_nonneg, Int.reduceEq, Int.reduceLE, Int.reduceLT, Int.reduceNeg, tl_i, Int32.reduceToInt, Int64.reduceToInt, tiA, tlM6, Int.toNat_natCast, natc, nI_1, Int.zero_sub, implies_true, not_false_eq_true, ck_17 f, ck_19 f, cr_19_0 f, a.1.2.1, kI, r1]
  refine ⟨fun z => ?_, fun z => ?_⟩
  · have c5 : lxK B L q = 5 := by omega
    have go := lxK_go (B := B) hq (by omega)
    refine c_adv f t go.2.2.2 a.1.1 (fun I2 J2 u2 a2 => ?_)
    have c2 := sC_fB S c (fB_T u2)
    have fin : ∀ x : Int64, x = hd.1 → CV (d + 4) 88 [vR (F 0), vL x] (hU h I2 J2) (fun h1 => K 1 h1) X := by
      intro x hx
      subst hx
      refine c_finish S c2.2.2.2.1.2.1 h20 ?_
      obtain ⟨⟨b1, b2⟩, ⟨b3, b4, b5, b6, b9⟩, ⟨b8, b10, b11, b7⟩, ⟨x10, x11, x12⟩, b0⟩ := c2
      have ne : ∀ i j, i < 12 → j < 12 → i ≠ j → F i ≠ F j := fun i j hi hj hn => pS_ne S hi hj hn
      have g7 := g 7 (by decide)
      have g8 := g 8 (by decide)
      have out : ∀ j, j < 12 → j ≠ 0 → j ≠ 8 → uI (uI I2 (F 0) 11 (nI (cnt + 1))) (F 8) (cnt + 1) (I2 (F 0) 10) (F j) = I2 (F j) := fun j hj h0 h8 => by rw [uI_ne _ _ _ (ne j 8 hj (by decide) h8), uI_ne _ _ _ (ne j 0 hj (by decide) h0)]
      have e1 : I2 (F 1) = I (F 1) := u2.1 _ (by have := g 1 (by decide); omega)
      have e2 : I2 (F 2) = I (F 2) := u2.1 _ (by have := g 2 (by decide); omega)
      refine ok c5 _ _ ⟨⟨fun a h1 h2 h3 => ?_, ?_⟩, ⟨?_, ?_, ?_, ?_, ?_, ?_, ?_, ?_⟩, ?_, ⟨?_, ?_, ?_⟩, fun i hi => ?_, ?_, ?_⟩ ?_
      · rw [uI_ne _ _ _ (h3 8 (by decide)), uI_ne _ _ _ (h3 0 (by decide)), uJ_ne _ _ _ (h3 7 (by decide))]; exact b1 a h1 h2 h3
      · rw [uI_ne _ _ _ (by omega), uI_ne _ _ _ (by omega)]; exact b2
      · rw [out 3 (by decide) (by decide) (by decide)]; exact b3
      · rw [out 4 (by decide) (by decide) (by decide)]; exact b4
      · rw [out 5 (by decide) (by decide) (by decide)]; exact b5
      · rw [out 6 (by decide) (by decide) (by decide)]; exact b6
      · rw [up_same, uI_ne _ _ _ (ne 8 0 (by decide) (by decide) (by decide)), b8, x10]
      · rw [out 9 (by decide) (by decide) (by decide)]; exact b9
      · rw [out 10 (by decide) (by decide) (by decide)]; exact b10
      · rw [out 11 (by decide) (by decide) (by decide)]; exact b11
      · rw [upJ_same, b7 7 (by decide)]
      · rw [uI_ne _ _ _ (ne 0 8 (by decide) (by decide) (by decide)), uI_nj _ _ _ _ (by decide)]; exact x10
      · rw [uI_ne _ _ _ (ne 0 8 (by decide) (by decide) (by decide)), uI_same]
      · rw [uI_ne _ _ _ (ne 0 8 (by decide) (by decide) (by decide)), uI_nj _ _ _ _ (by decide)]; exact x12
      · rw [out 1 (by decide) (by decide) (by decide), out 2 (by decide) (by decide) (by decide)]; exact b0 i hi
      · rw [out 1 (by decide) (by decide) (by decide), out 2 (by decide) (by decide) (by decide), e1, e2]; exact en
      · rw [out 1 (by decide) (by decide) (by decide), out 2 (by decide) (by decide) (by decide), e1, e2]; exact enc
      · unfold atC at a2 ⊢
        rw [uI_ne _ _ _ (by omega), uI_ne _ _ _ (by omega), uJ_ne _ _ _ (by omega)]; exact a2
    simp only [↓forall_eq, ↓inB_iff, gK_hU, gL_hU, gR_hU, gIh, gJh, pI_hU, pJ_hU, hU_hU, uI_app, uJ_app, and_true, true_and, and_false, false_and, and_self, true_implies, false_implies, not_true, not_false_iff, if_true, if_false, eq_self, Nat.reduceLeDiff, Nat.reduceEqDiff, reduceCtorEq, i32c, ti0, ti1, tiM, Int.natCast_nonneg, Int.reduceEq, Int.reduceLE, Int.reduceLT, Int.reduceNeg, tl_i, Int32.reduceToInt, Int64.reduceToInt, tiA, tlM6, Int.toNat_natCast, natc, nI_1, Int.zero_sub, implies_true, not_false_eq_true, ck_17 f, ck_19 f, cr_19_0 f, sI, r1, k0, e0]
    refine ⟨fun z1 => fin 0 ?_, fun z1 => fin _ ?_⟩
    · exact (hk.2.2.2.2 (by omega)).symm
    · rw [u2.2.2 19 (by decide)]; exact hn (by omega)
  · refine m75 ?_
    simp only [↓forall_eq, ↓inB_iff, gK_hU, gL_hU, gR_hU, gIh, gJh, pI_hU, pJ_hU, hU_hU, uI_app, uJ_app, and_true, true_and, and_false, false_and, and_self, true_implies, false_implies, not_true, not_false_iff, if_true, if_false, eq_self, Nat.reduceLeDiff, Nat.reduceEqDiff, reduceCtorEq, i32c, ti0, ti1, tiM, Int.natCast_nonneg, Int.reduceEq, Int.reduceLE, Int.reduceLT, Int.reduceNeg, tl_i, Int32.reduceToInt, Int64.reduceToInt, tiA, tlM6, Int.toNat_natCast, natc, nI_1, Int.zero_sub, implies_true, not_false_eq_true, ck_17 f, ck_19 f, cr_19_0 f]
    refine ⟨by decide, no (by omega) _ J ⟨fun b h1 h2 h3 => by rw [uI_ne _ _ _ h2]; exact c.1.1 b h1 h2 h3, by rw [uI_ne _ _ _ (by decide)]; exact c.1.2⟩ (by rw [uI_same]; exact a.1.2.2)⟩
end STM
