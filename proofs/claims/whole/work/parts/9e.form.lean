/-! READING A TEXT: the class reads all of it -/
section FRM
def sdN (st : Nat → StD) : Nat → Int64 := fun i => (st i).2.1.1
def stA (st : Nat → StD) : Nat → Nat
  | 0 => 0
  | n + 1 => stA st n + if (st n).1 = 0 then 1 else 0
noncomputable def fmF (B : Nat → Int32) (L : Nat) : Nat → Nat → (Nat → StD) → Nat → Option (Nat × (Nat → StD)) × Nat
  | 0, _, _, p => (none, p)
  | n + 1, cnt, st, p => match stF B L (sdN st) cnt (stA st cnt) p with
    | (none, q) => (none, q)
    | (some s, q) => if lxK B L q = 6 then (some (cnt + 1, up1 st cnt s), q) else fmF B L n (cnt + 1) (up1 st cnt s) q
variable {d L p q w cnt ak s : Nat} {h : aH} {X : Nat → aH → Prop} {B : Nat → Int32} {I0 I I' : Nat → Nat → Int32} {J0 J J' : Nat → Nat → Int64} {nam : Nat → Int64} {F : Nat → Nat} {K : Int32 → aH → Prop} {st : Nat → StD}
theorem lxE_le (hp : p ≤ L) : p ≤ lxE B L p ∧ lxE B L p ≤ L ∧ (lxK B L p ≠ 6 → p < lxE B L p) := by
  have a := lxS_b (B := B) hp
  have b := lxE_b (B := B) hp
  refine ⟨by omega, b.2.1, fun z => ?_⟩
  have := lxK_go (B := B) hp z
  omega
/-- where reading ends -/
def inL (L p : Nat) {α : Type} (r : Option α × Nat) : Prop := r.2 ≤ L ∧ (r.1 ≠ none → p < r.2)
theorem trF_le (hp : p ≤ L) : inL L p (trF B L nam cnt p) := by
  have e := lxE_le (B := B) hp
  have e2 := lxE_le (B := B) e.2.1
  unfold trF
  by_cases c1 : lxK B L p = 1
  · rw [if_pos c1]; exact ⟨e.2.1, fun _ => e.2.2 (by omega)⟩
  · rw [if_neg c1]
    by_cases c4 : lxK B L p = 4
    · rw [if_pos c4]
      have := e.2.2 (by omega)
      split
      · exact ⟨e2.2.1, fun _ => by show p < lxE B L (lxE B L p); omega⟩
      · exact ⟨e.2.1, fun z => absurd rfl z⟩
    · rw [if_neg c4]
      by_cases c0 : lxK B L p = 0 ∧ lxW B L p = 7497063
      · rw [if_pos c0]
        have := e.2.2 (by rw [c0.1]; decide)
        split
        · exact ⟨e2.2.1, fun _ => by show p < lxE B L (lxE B L p); clear c0; omega⟩
        · exact ⟨e.2.1, fun z => absurd rfl z⟩
      · rw [if_neg c0]
        split
        · rename_i c9
          exact ⟨e.2.1, fun _ => e.2.2 (by rw [c9.1]; decide)⟩
        · exact ⟨hp, fun z => absurd rfl z⟩
theorem exF_le : ∀ (n : Nat) (sg : Bool) (p : Nat), p ≤ L → inL L p (exF B L nam cnt n sg p) := by
  intro n
  induction n with
  | zero => intro sg p hp; rw [exF]; exact ⟨hp, fun z => absurd rfl z⟩
  | succ n ih =>
    intro sg p hp
    have t := trF_le (B := B) (nam := nam) (cnt := cnt) hp
    rw [exF]
    generalize trF B L nam cnt p = r at t
    obtain ⟨r1, q⟩ := r
    cases r1 with
    | none => exact ⟨t.1, fun z => absurd rfl z⟩
    | some v =>
      dsimp only
      have hq : q ≤ L := t.1
      have pq : p < q := t.2 (by simp)
      by_cases c : lxK B L q = 3 ∨ lxK B L q = 4
      · rw [if_pos c]
        have e := lxE_le (B := B) hq
        have i := ih (decide (lxK B L q = 4)) (lxE B L q) e.2.1
        generalize exF B L nam cnt n (decide (lxK B L q = 4)) (lxE B L q) = r2 at i
        obtain ⟨r3, q2⟩ := r2
        cases r3 with
        | none => exact ⟨i.1, fun z => absurd rfl z⟩
        | some v2 =>
          have i2 : lxE B L q < q2 := i.2 (by simp)
          exact ⟨i.1, fun _ => by show p < q2; omega⟩
      · rw [if_neg c]; exact ⟨hq, fun _ => pq⟩
theorem cdF_le : ∀ (n p : Nat), p ≤ L → inL L p (cdF B L nam cnt n p) := by
  intro n
  induction n with
  | zero => intro p hp; rw [cdF]; exact ⟨hp, fun z => absurd rfl z⟩
  | succ n ih =>
    intro p hp
    have t := exF_le (B := B) (nam := nam) (cnt := cnt) 1200 false p hp
    rw [cdF]
    generalize exF B L nam cnt 1200 false p = r at t
    obtain ⟨r1, q⟩ := r
    cases r1 with
    | none => exact ⟨t.1, fun z => absurd rfl z⟩
    | some v =>
      dsimp only
      have hq : q ≤ L := t.1
      have pq : p < q := t.2 (by simp)
      by_cases c : lxK B L q = 2
      · rw [if_pos c]
        have e := lxE_le (B := B) hq
        have i := exF_le (B := B) (nam := nam) (cnt := cnt) 1200 false (lxE B L q) e.2.1
        generalize exF B L nam cnt 1200 false (lxE B L q) = r2 at i
        obtain ⟨r3, q2⟩ := r2
        cases r3 with
        | none => exact ⟨i.1, fun z => absurd rfl z⟩
        | some v2 =>
          dsimp only
          have hq2 : q2 ≤ L := i.1
          have i2 : lxE B L q < q2 := i.2 (by simp)
          have e2 := lxE_le (B := B) hq2
          have j := ih (lxE B L q2) e2.2.1
          have fin : ∀ bb : Bool, inL L p (match cdF B L nam cnt n (lxE B L q2) with
              | (none, q3) => ((none : Option (List Cmp)), q3)
              | (some cs, q3) => (some ((v, lxN B L q, v2, bb) :: cs), q3)) := by
            intro bb
            generalize cdF B L nam cnt n (lxE B L q2) = r4 at j
            obtain ⟨r5, q3⟩ := r4
            cases r5 with
            | none => exact ⟨j.1, fun z => absurd rfl z⟩
            | some v3 =>
              have j2 : lxE B L q2 < q3 := j.2 (by simp)
              exact ⟨j.1, fun _ => by show p < q3; omega⟩
          split
          · exact fin true
          · split
            · exact fin false
            · exact ⟨hq2, fun _ => by show p < q2; omega⟩
      · rw [if_neg c]; exact ⟨hq, fun z => absurd rfl z⟩
theorem bdF_le (hp : p ≤ L) : inL L p (bdF B L p) := by
  have e := lxE_le (B := B) hp
  have e2 := lxE_le (B := B) e.2.1
  unfold bdF
  by_cases c4 : lxK B L p = 4
  · rw [if_pos c4]
    have := e.2.2 (by omega)
    split
    · exact ⟨e2.2.1, fun _ => by show p < lxE B L (lxE B L p); omega⟩
    · exact ⟨e.2.1, fun z => absurd rfl z⟩
  · rw [if_neg c4]
    split
    · exact ⟨e.2.1, fun _ => e.2.2 (by omega)⟩
    · exact ⟨hp, fun z => absurd rfl z⟩
theorem bsF_le (hp : p ≤ L) : inL L p (bsF B L p) := by
  have t := bdF_le (B := B) hp
  unfold bsF
  generalize bdF B L p = r at t
  obtain ⟨r1, q⟩ := r
  cases r1 with
  | none => exact ⟨t.1, fun z => absurd rfl z⟩
  | some v =>
    dsimp only
    have hq : q ≤ L := t.1
    have pq : p < q := t.2 (by simp)
    have i := bdF_le (B := B) hq
    generalize bdF B L q = r2 at i
    obtain ⟨r3, q2⟩ := r2
    cases r3 with
    | none => exact ⟨i.1, fun z => absurd rfl z⟩
    | some v2 =>
      dsimp only
      have i2 : q < q2 := i.2 (by simp)
      split
      · exact ⟨hq, fun z => absurd rfl z⟩
      · exact ⟨i.1, fun _ => by show p < q2; omega⟩
theorem hdN_le (hp : p ≤ L) : (hdN B L nam cnt s p).2 ≤ L ∧ ((hdN B L nam cnt s p).1 ≠ none → p ≤ (hdN B L nam cnt s p).2) := by
  have e := lxE_le (B := B) hp
  unfold hdN
  split
  · exact ⟨hp, fun _ => Nat.le_refl _⟩
  · split
    · split
      · have i := bsF_le (B := B) e.2.1
        generalize bsF B L (lxE B L p) = r2 at i
        obtain ⟨r3, q2⟩ := r2
        cases r3 with
        | none => exact ⟨i.1, fun z => absurd rfl z⟩
        | some v2 =>
          have i2 : lxE B L p < q2 := i.2 (by simp)
          exact ⟨i.1, fun _ => by show p ≤ q2; omega⟩
      · have i := exF_le (B := B) (nam := nam) (cnt := cnt) 1200 false (lxE B L p) e.2.1
        generalize exF B L nam cnt 1200 false (lxE B L p) = r2 at i
        obtain ⟨r3, q2⟩ := r2
        cases r3 with
        | none => exact ⟨i.1, fun z => absurd rfl z⟩
        | some v2 =>
          have i2 : lxE B L p < q2 := i.2 (by simp)
          exact ⟨i.1, fun _ => by show p ≤ q2; omega⟩
    · exact ⟨hp, fun z => absurd rfl z⟩
theorem cnF_le (hp : p ≤ L) : (cnF B L nam cnt s p).2 ≤ L ∧ ((cnF B L nam cnt s p).1 ≠ none → p ≤ (cnF B L nam cnt s p).2) := by
  have e := lxE_le (B := B) hp
  unfold cnF
  split
  · have i := cdF_le (B := B) (nam := nam) (cnt := cnt) 1200 p hp
    exact ⟨i.1, fun z => Nat.le_of_lt (i.2 z)⟩
  · split
    · have i := cdF_le (B := B) (nam := nam) (cnt := cnt) 1200 (lxE B L p) e.2.1
      exact ⟨i.1, fun z => by have := i.2 z; omega⟩
    · exact ⟨hp, fun _ => Nat.le_refl _⟩
theorem stF_le (hp : p ≤ L) : inL L p (stF B L nam cnt ak p) := by
  unfold stF
  split
  · exact ⟨hp, fun z => absurd rfl z⟩
  · have e := lxE_le (B := B) hp
    have i := hdN_le (B := B) (nam := nam) (cnt := cnt) (s := srN B L p) e.2.1
    generalize hdN B L nam cnt (srN B L p) (lxE B L p) = r2 at i
    obtain ⟨r3, q2⟩ := r2
    cases r3 with
    | none => exact ⟨i.1, fun z => absurd rfl z⟩
    | some v2 =>
      have hq2 : q2 ≤ L := i.1
      have i2 : lxE B L p ≤ q2 := i.2 (by simp)
      have j := cnF_le (B := B) (nam := nam) (cnt := cnt) (s := srN B L p) hq2
      dsimp only
      generalize cnF B L nam cnt (srN B L p) q2 = r4 at j
      obtain ⟨r5, q3⟩ := r4
      cases r5 with
      | none => exact ⟨j.1, fun z => absurd rfl z⟩
      | some v3 =>
        have hq3 : q3 ≤ L := j.1
        have j2 : q2 ≤ q3 := j.2 (by simp)
        have e3 := lxE_le (B := B) hq3
        dsimp only
        split
        · rename_i c5
          have := e3.2.2 (by omega)
          exact ⟨e3.2.1, fun _ => by show p < lxE B L q3; omega⟩
        · exact ⟨hq3, fun z => absurd rfl z⟩
theorem stF_10 {hd : Int64 × Int32 × Int32 × List Tm} {cs : List Cmp} (hr : stF B L nam cnt ak p = (some (s, hd, cs), q)) : ¬ (s = 0 ∧ 10 ≤ ak) := by
  intro z
  unfold stF at hr
  split at hr
  · cases hr
  · rename_i hn
    split at hr
    · cases hr
    · split at hr
      · cases hr
      · split at hr
        · cases hr
          exact hn (Or.inr z)
        · cases hr
theorem stA_cg {st st' : Nat → StD} : ∀ n, (∀ i, i < n → st' i = st i) → stA st' n = stA st n := by
  intro n
  induction n with
  | zero => intro _; rfl
  | succ n ih => intro h; rw [stA, stA, ih (fun i hi => h i (by omega)), h n (by omega)]
theorem stA_le : ∀ n, stA st n ≤ n := by
  intro n
  induction n with
  | zero => exact Nat.le_refl _
  | succ n ih => rw [stA]; split <;> omega
theorem encCC_cg {S Am S' Am' : Nat → Int32} : ∀ (cs : List Cmp) (i : Nat), encCC S Am i cs → (∀ j, i ≤ j → j < i + lenC cs → S' j = S j ∧ Am' j = Am j) → encCC S' Am' i cs := by
  intro cs
  induction cs with
  | nil => intro i _ _; exact True.intro
  | cons c cs ih =>
    intro i he hj
    obtain ⟨⟨h1, h2, h3⟩, ⟨h4, h5⟩, h6⟩ := he
    have lc : lenC (c :: cs) = c.1.length + 1 + c.2.2.1.length + 1 + lenC cs := rfl
    have y1 := hj (i + c.1.length) (by omega) (by omega)
    have y2 := hj (i + c.1.length + 1 + c.2.2.1.length) (by omega) (by omega)
    refine ⟨⟨encC_cg _ _ h1 (fun j z1 z2 => hj j z1 (by omega)), by rw [y1.1]; exact h2, by rw [y1.2]; exact h3⟩, ⟨encC_cg _ _ h4 (fun j z1 z2 => hj j (by omega) (by omega)), by rw [y2.1]; exact h5⟩, ih _ h6 (fun j z1 z2 => hj j (by omega) (by omega))⟩
/-- a statement in the class's cells -/
def clS (F : Nat → Nat) (I : Nat → Nat → Int32) (J : Nat → Nat → Int64) (S : StD) (s w : Nat) : Prop := (I (F 3) s = nI S.1 ∧ I (F 4) s = S.2.1.2.1 ∧ I (F 5) s = S.2.1.2.2.1 ∧ I (F 6) s = if S.1 = 0 then 1 else 0) ∧ J (F 7) s = S.2.1.1 ∧ (∃ a, (I (F 8) s = nI a ∧ I (F 9) s = nI (a + S.2.1.2.2.2.length) ∧ I (F 8) (s + 1) = nI (a + S.2.1.2.2.2.length + lenC S.2.2)) ∧ a + S.2.1.2.2.2.length + lenC S.2.2 ≤ w ∧ encC (I (F 1)) (I (F 2)) a S.2.1.2.2.2 ∧ encCC (I (F 1)) (I (F 2)) (a + S.2.1.2.2.2.length) S.2.2)
def stK (S : StD) : Prop := hdK S.1 S.2.1 ∧ (2 ≤ S.1 → S.2.2 ≠ [])
def clW (F : Nat → Nat) (I : Nat → Nat → Int32) (J : Nat → Nat → Int64) (st : Nat → StD) (cnt w : Nat) : Prop := (I (F 0) 10 = nI w ∧ I (F 0) 11 = nI cnt ∧ I (F 0) 12 = nI (stA st cnt)) ∧ (∀ s, s < cnt → clS F I J (st s) s w ∧ stK (st s)) ∧ I (F 8) cnt = nI w ∧ ∀ s, cnt ≤ s → s < 20 → I (F 4) s = 0 ∧ I (F 5) s = 0 ∧ I (F 6) s = 0
theorem up1_eq {α : Type} {g : Nat → α} {i : Nat} {x : α} : up1 g i x i = x := if_pos rfl
theorem up1_ne {α : Type} {g : Nat → α} {i j : Nat} {x : α} (hn : j ≠ i) : up1 g i x j = g j := if_neg hn
theorem stA_up {S : StD} : stA (up1 st cnt S) (cnt + 1) = stA st cnt + if S.1 = 0 then 1 else 0 := by
  rw [stA, stA_cg (st := st) cnt (fun i hi => up1_ne (by omega)), up1_eq]
theorem clW_step {hd : Int64 × Int32 × Int32 × List Tm} {cs : List Cmp} (c : clW F I J st cnt w) (r : stR F I I' J J' w cnt (stA st cnt) s hd cs) (hk : hdK s hd) (hne : 2 ≤ s → cs ≠ []) (h20 : cnt < 20) : clW F I' J' (up1 st cnt (s, hd, cs)) (cnt + 1) (w + hd.2.2.2.length + lenC cs) := by
  obtain ⟨⟨c1, c2, c3⟩, c4, c5, c6⟩ := c
  obtain ⟨r1, ⟨r3, r4, r5, r6, r8, r9, r10, r11⟩, r7, ⟨x10, x11, x12⟩, rb, re, rc⟩ := r
  have ak : stA (up1 st cnt (s, hd, cs)) (cnt + 1) = stA st cnt + if s = 0 then 1 else 0 := by
    rw [stA, stA_cg cnt (fun i hi => up1_ne (by omega)), up1_eq]
  refine ⟨⟨x10, x11, by rw [ak]; exact x12⟩, fun k hk' => ?_, by rw [r8, up1_eq], fun k h1 h2 => ?_⟩
  · by_cases e : k = cnt
    · subst e
      rw [up1_eq]
      have v4 : I' (F 4) k = hd.2.1 ∧ I' (F 5) k = hd.2.2.1 ∧ I' (F 6) k = if s = 0 then 1 else 0 := by
        rw [r4, r5, r6]
        by_cases s0 : s = 0
        · rw [if_pos s0, if_pos s0, if_pos s0, if_pos s0, up1_eq, up1_eq, up1_eq]; exact ⟨rfl, rfl, rfl⟩
        · rw [if_neg s0, if_neg s0, if_neg s0, if_neg s0]
          have z := c6 k (Nat.le_refl _) h20
          have y := hk.2.2.2.1 s0
          rw [z.1, z.2.1, z.2.2, y.1, y.2]; exact ⟨rfl, rfl, rfl⟩
      refine ⟨⟨⟨by rw [r3, up1_eq], v4.1, v4.2.1, v4.2.2⟩, by rw [r7, up1_eq], w, ⟨by rw [r8, up1_ne (by omega)]; exact c5, by rw [r9, up1_eq], by rw [r8, up1_eq]⟩, Nat.le_refl _, re, rc⟩, hk, hne⟩
    · rw [up1_ne e]
      obtain ⟨⟨⟨a3, a4, a5, a6⟩, a7, a, ⟨b1, b2, b3⟩, b4, b5, b6⟩, b7⟩ := c4 k (by omega)
      refine ⟨⟨⟨by rw [r3, up1_ne e]; exact a3, ?_, ?_, ?_⟩, by rw [r7, up1_ne e]; exact a7, a, ⟨by rw [r8, up1_ne (by omega)]; exact b1, by rw [r9, up1_ne e]; exact b2, by rw [r8, up1_ne (by omega)]; exact b3⟩, by omega, encC_cg _ _ b5 (fun j z1 z2 => rb j (by omega)), encCC_cg _ _ b6 (fun j z1 z2 => rb j (by omega))⟩, b7⟩
      · rw [r4]; split
        · rw [up1_ne e]; exact a4
        · exact a4
      · rw [r5]; split
        · rw [up1_ne e]; exact a5
        · exact a5
      · rw [r6]; split
        · rw [up1_ne e]; exact a6
        · exact a6
  · have z := c6 k (by omega) h2
    refine ⟨?_, ?_, ?_⟩
    · rw [r4]; split
      · rw [up1_ne (by omega)]; exact z.1
      · exact z.1
    · rw [r5]; split
      · rw [up1_ne (by omega)]; exact z.2.1
      · exact z.2.1
    · rw [r6]; split
      · rw [up1_ne (by omega)]; exact z.2.2
      · exact z.2.2
theorem frS_tr {I2 : Nat → Nat → Int32} {J2 : Nat → Nat → Int64} (t : frS F I I' J J') (u : frS F I' I2 J' J2) : frS F I I2 J J2 := ⟨fun a h1 h2 h3 => ⟨(u.1 a h1 h2 h3).1.trans (t.1 a h1 h2 h3).1, (u.1 a h1 h2 h3).2.trans (t.1 a h1 h2 h3).2⟩, u.2.trans t.2⟩
theorem tpC_frS (S : pS h F L) (t : tpC I B L) (u : frS F I I' J J') : tpC I' B L := ⟨by rw [u.2]; exact t.1, t.2.1, fun k hk => by rw [(u.1 18 (by decide) (by decide) (fun j hj => by have := S.2.2.2.1 j (by omega); omega)).1]; exact t.2.2 k hk⟩
theorem c_read (S : pS h F L) : ∀ (n cnt w p : Nat) (st : Nat → StD) (I : Nat → Nat → Int32) (J : Nat → Nat → Int64), cnt + n = 20 → tpC I B L → atC I J B L p → p ≤ L → clW F I J st cnt w → w ≤ lxS B L p → stA st cnt ≤ 10 →
    (∀ cnt' w' st' q I' J', fmF B L n cnt st p = (some (cnt', st'), q) → clW F I' J' st' cnt' w' → w' ≤ L → 1 ≤ cnt' → cnt' ≤ 20 → stA st' cnt' ≤ 10 → frS F I I' J J' → K (-1) (hU h I' J')) →
    (∀ q I' J', fmF B L n cnt st p = (none, q) → frS F I I' J J' → q ≤ L → K (nI (lxS B L q)) (hU h I' J')) → Wp (d + 6) 90 (14, [some (vR 19), none, some (vI (nI cnt))], [], hU h I J) (RI K X) := by
  have f := S.1.1
  intro n
  induction n with
  | zero =>
    intro cnt w p st I J hn t a hp c hle h10 ok no
    have hc : cnt = 20 := by omega
    subst hc
    have z : ¬ (nI 20).toInt < 20 := by decide
    refine w90_14 ?_
    simp only [↓forall_eq, ↓inB_iff, gK_hU, gL_hU, gR_hU, gIh, gJh, pI_hU, pJ_hU, hU_hU, uI_app, uJ_app, and_true, true_and, and_false, false_and, and_self, true_implies, false_implies, not_true, not_false_iff, if_true, if_false, eq_self, Nat.reduceLeDiff, Nat.reduceEqDiff, reduceCtorEq, i32c, ti0, ti1, tiM, Int.natCast_nonneg, Int.reduceEq, Int.reduceLE, Int.reduceLT, Int.reduceNeg, tl_i, Int32.reduceToInt, Int64.reduceToInt, tiA, tlM6, Int.toNat_natCast, natc, nI_1, Int.zero_sub, implies_true, not_false_eq_true, ck_17 f, ck_19 f, cr_19_0 f, z, a.1.2.2]
    exact no p I J (by rw [fmF]) ⟨fun _ _ _ _ => ⟨rfl, rfl⟩, rfl⟩ hp
  | succ n ih =>
    intro cnt w p st I J hn t a hp c hle h10 ok no
    have cI : (nI cnt).toInt = cnt := ti_n (by omega)
    have c20 : (cnt : Int) < 20 := by omega
    have hak := stA_le (st := st) cnt
    refine w90_14 ?_
    simp only [↓forall_eq, ↓inB_iff, gK_hU, gL_hU, gR_hU, gIh, gJh, pI_hU, pJ_hU, hU_hU, uI_app, uJ_app, and_true, true_and, and_false, false_and, and_self, true_implies, false_implies, not_true, not_false_iff, if_true, if_false, eq_self, Nat.reduceLeDiff, Nat.reduceEqDiff, reduceCtorEq, i32c, ti0, ti1, tiM, Int.natCast_nonneg, Int.reduceEq, Int.reduceLE, Int.reduceLT, Int.reduceNeg, tl_i, Int32.reduceToInt, Int64.reduceToInt, tiA, tlM6, Int.toNat_natCast, natc, nI_1, Int.zero_sub, implies_true, not_false_eq_true, ck_17 f, ck_19 f, cr_19_0 f, cI, c20]
    refine c_stmt (nam := sdN st) (ak := stA st cnt) (w0 := w) (cnt := cnt) S t a hp c.1.1 c.1.2.1 c.1.2.2 (by omega) (by omega) (fun k hk => (c.2.1 k hk).1.2.1) hle (fun s hd cs q I' J' hr r hk hne a' hq le' => ?_) (fun q I' J' hr r x4 => ?_)
    · have c' := clW_step c r hk hne (by omega)
      have kl := lxK_le (B := B) (L := L) (p := q)
      have kI : (nI (lxK B L q)).toInt = lxK B L q := ti_n (by omega)
      have ss := lxS_b (B := B) hq
      have a10 : stA (up1 st cnt (s, hd, cs)) (cnt + 1) ≤ 10 := by
        have z10 := stF_10 hr
        rw [stA_up]
        dsimp only
        by_cases s0 : s = 0
        · rw [if_pos s0]; omega
        · rw [if_neg s0]; omega
      simp only [↓forall_eq, ↓inB_iff, gK_hU, gL_hU, gR_hU, gIh, gJh, pI_hU, pJ_hU, hU_hU, uI_app, uJ_app, and_true, true_and, and_false, false_and, and_self, true_implies, false_implies, not_true, not_false_iff, if_true, if_false, eq_self, Nat.reduceLeDiff, Nat.reduceEqDiff, reduceCtorEq, i32c, ti0, ti1, tiM, Int.natCast_nonneg, Int.reduceEq, Int.reduceLE, Int.reduceLT, Int.reduceNeg, tl_i, Int32.reduceToInt, Int64.reduceToInt, tiA, tlM6, Int.toNat_natCast, natc, nI_1, Int.zero_sub, implies_true, not_false_eq_true, ck_17 f, ck_19 f, cr_19_0 f, a'.1.2.1, kI]
      refine ⟨fun z => ?_, fun z => ?_⟩
      · refine ok (cnt + 1) _ _ q I' J' (by rw [fmF, hr]; dsimp only; rw [if_pos (by omega)]) c' (by omega) (by omega) (by omega) a10 r.1
      · refine ih (cnt + 1) _ q _ I' J' (by omega) (tpC_frS S t r.1) a' hq c' le' a10 (fun cnt' w' st' q' I2 J2 hx cf hw h1 h2 h3 fr2 => ?_) (fun q' I2 J2 hx fr2 hq' => ?_)
        · exact ok cnt' w' st' q' I2 J2 (by rw [fmF, hr]; dsimp only; rw [if_neg (by omega)]; exact hx) cf hw h1 h2 h3 (frS_tr r.1 fr2)
        · exact no q' I2 J2 (by rw [fmF, hr]; dsimp only; rw [if_neg (by omega)]; exact hx) (frS_tr r.1 fr2) hq'
    · refine ⟨fun _ => ?_, fun z => absurd rfl z⟩
      simp only [↓forall_eq, ↓inB_iff, gK_hU, gL_hU, gR_hU, gIh, gJh, pI_hU, pJ_hU, hU_hU, uI_app, uJ_app, and_true, true_and, and_false, false_and, and_self, true_implies, false_implies, not_true, not_false_iff, if_true, if_false, eq_self, Nat.reduceLeDiff, Nat.reduceEqDiff, reduceCtorEq, i32c, ti0, ti1, tiM, Int.natCast_nonneg, Int.reduceEq, Int.reduceLE, Int.reduceLT, Int.reduceNeg, tl_i, Int32.reduceToInt, Int64.reduceToInt, tiA, tlM6, Int.toNat_natCast, natc, nI_1, Int.zero_sub, implies_true, not_false_eq_true, ck_17 f, ck_19 f, cr_19_0 f, x4]
      have := (stF_le (B := B) (nam := sdN st) (cnt := cnt) (ak := stA st cnt) hp).1
      rw [hr] at this
      exact no q I' J' (by rw [fmF, hr]) r this
end FRM
