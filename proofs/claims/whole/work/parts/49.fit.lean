/-! WHAT FITS: rules as differences; sinking numbers settle if anything fits -/
section FIT
variable (M : Nat → Nat → Int32) (f : Nat) (S : Nat → Bool)
def vsd (v : Nat → Int) (a : Int32) : Int := if a.toInt = -1 then 0 else v a.toInt.toNat
def vxs (v : Nat → Int) (r : Nat) : Int := if vsd v (M 82 (16 * f + r)) = -2000000 ∨ vsd v (M 83 (16 * f + r)) = -2000000 then 0 else vsd v (M 82 (16 * f + r)) - vsd v (M 83 (16 * f + r)) - (M 84 (16 * f + r)).toInt
abbrev rA (r : Nat) : Int32 := M 82 (16 * f + r)
abbrev rBb (r : Nat) : Int32 := M 83 (16 * f + r)
abbrev loM (s : Nat) : Int := (M 56 (20 * f + s)).toInt
abbrev hiM (s : Nat) : Int := (M 57 (20 * f + s)).toInt
/-- nothing can be lowered here -/
def badR (t : Nat → Int32) (r : Nat) : Prop := (rA M f r).toInt = -1 ∨ S (rA M f r).toInt.toNat = false ∨ (t (rA M f r).toInt.toNat).toInt - rxs M f t r < loM M f (rA M f r).toInt.toNat
def lowR (t : Nat → Int32) (r : Nat) : Nat → Int32 := upG t (rA M f r).toInt.toNat (iZ ((t (rA M f r).toInt.toNat).toInt - rxs M f t r))
/-- a way through n rules from p on -/
def psG : Nat → Nat → (Nat → Int32) → Bool → Option ((Nat → Int32) × Bool)
  | 0, _, t, b => some (t, b)
  | n + 1, p, t, b => if 0 < rxs M f t p then (if (rA M f p).toInt = -1 ∨ S (rA M f p).toInt.toNat = false ∨ (t (rA M f p).toInt.toNat).toInt - rxs M f t p < loM M f (rA M f p).toInt.toNat then none else psG n (p + 1) (lowR M f t p) true) else psG n (p + 1) t b
def ftG : Nat → (Nat → Int32) → Option (Nat → Int32)
  | 0, _ => none
  | k + 1, t => match psG M f S (nrM M f) 0 t false with
    | none => none
    | some (t1, b) => if b = true then ftG k t1 else some t1
def tr0 (it : Nat → Int32) (s : Nat) : Int32 := if S s = true then M 57 (20 * f + s) else it s
/-- all is as it must be to look for what fits -/
def edV (it : Nat → Int32) : Prop := (∀ r, r < nrM M f → rlA M f (rA M f r) ∧ rlA M f (rBb M f r) ∧ rA M f r ≠ rBb M f r ∧ -2000000 ≤ (M 84 (16 * f + r)).toInt ∧ (M 84 (16 * f + r)).toInt ≤ 2000000) ∧ cnM M f ≤ 20 ∧ akN (soM M f) (cnM M f) ≤ 10 ∧ (∀ s, S s = true → s < cnM M f ∧ (soM M f s).toInt = 0) ∧ (∀ s, s < cnM M f → (soM M f s).toInt = 0 → -999999 ≤ loM M f s ∧ loM M f s ≤ hiM M f s ∧ hiM M f s ≤ 999999) ∧ bndI (cnM M f) it
/-- the numbers that sink: those of the set within their bounds, the others as they were -/
def tIn (it t : Nat → Int32) : Prop := ∀ s, (S s = true → loM M f s ≤ (t s).toInt ∧ (t s).toInt ≤ hiM M f s) ∧ (S s = false → t s = it s)
def feas (it : Nat → Int32) (v : Nat → Int) : Prop := (∀ s, S s = true → loM M f s ≤ v s ∧ v s ≤ hiM M f s) ∧ (∀ s, S s = false → v s = (it s).toInt) ∧ ∀ r, r < nrM M f → vxs M f v r ≤ 0
variable {M f S}
theorem rxs_v (t : Nat → Int32) (r : Nat) : rxs M f t r = vxs M f (fun s => (t s).toInt) r := rfl
variable {it t t1 : Nat → Int32} {v : Nat → Int}
theorem tIn_0 (e : edV M f S it) : tIn M f S it (tr0 M f S it) := fun s => by
  refine ⟨fun hs => ?_, fun hs => ?_⟩
  · have := e.2.2.2.2.1 s (e.2.2.2.1 s hs).1 (e.2.2.2.1 s hs).2
    unfold tr0
    rw [if_pos hs]
    exact ⟨this.2.1, Int.le_refl _⟩
  · unfold tr0
    rw [if_neg (by rw [hs]; decide)]
theorem tIn_b (e : edV M f S it) (i : tIn M f S it t) : bndI (cnM M f) t := fun s hs => by
  cases h : S s
  · rw [(i s).2 h]; exact e.2.2.2.2.2 s hs
  · have := e.2.2.2.2.1 s (e.2.2.2.1 s h).1 (e.2.2.2.1 s h).2
    have := (i s).1 h
    exact Or.inr (by omega)
/-- a lowered number: what the rule leaves -/
theorem low_in (e : edV M f S it) (i : tIn M f S it t) {r : Nat} (hr : r < nrM M f) (hx : 0 < rxs M f t r) (hb : ¬ ((rA M f r).toInt = -1 ∨ S (rA M f r).toInt.toNat = false ∨ (t (rA M f r).toInt.toNat).toInt - rxs M f t r < loM M f (rA M f r).toInt.toNat)) :
    tIn M f S it (lowR M f t r) ∧ S (rA M f r).toInt.toNat = true ∧ (lowR M f t r (rA M f r).toInt.toNat).toInt = vsd (fun s => (t s).toInt) (rBb M f r) + (M 84 (16 * f + r)).toInt ∧ vsd (fun s => (t s).toInt) (rBb M f r) ≠ -2000000 ∧ (lowR M f t r (rA M f r).toInt.toNat).toInt < (t (rA M f r).toInt.toNat).toInt ∧ ∀ s, s ≠ (rA M f r).toInt.toNat → lowR M f t r s = t s := by
  have h1 : ¬ (rA M f r).toInt = -1 := fun q => hb (Or.inl q)
  have h2 : S (rA M f r).toInt.toNat = true := by
    cases h : S (rA M f r).toInt.toNat
    · exact absurd (Or.inr (Or.inl h)) hb
    · rfl
  have h3 : ¬ (t (rA M f r).toInt.toNat).toInt - rxs M f t r < loM M f (rA M f r).toInt.toNat := fun q => hb (Or.inr (Or.inr q))
  have b1 := (i _).1 h2
  have b2 := e.2.2.2.2.1 _ (e.2.2.2.1 _ h2).1 (e.2.2.2.1 _ h2).2
  have hz : (iZ ((t (rA M f r).toInt.toNat).toInt - rxs M f t r)).toInt = (t (rA M f r).toInt.toNat).toInt - rxs M f t r := ti_z (by omega) (by omega)
  have hl : lowR M f t r (rA M f r).toInt.toNat = iZ ((t (rA M f r).toInt.toNat).toInt - rxs M f t r) := by unfold lowR upG; rw [if_pos rfl]
  have ho : ∀ s, s ≠ (rA M f r).toInt.toNat → lowR M f t r s = t s := fun s hs => by unfold lowR upG; rw [if_neg hs]
  have hxs := hx
  rw [rxs_v] at hxs
  unfold vxs at hxs
  have hn : ¬ (vsd (fun s => (t s).toInt) (M 82 (16 * f + r)) = -2000000 ∨ vsd (fun s => (t s).toInt) (M 83 (16 * f + r)) = -2000000) := fun q => by rw [if_pos q] at hxs; omega
  have hva : vsd (fun s => (t s).toInt) (M 82 (16 * f + r)) = (t (rA M f r).toInt.toNat).toInt := by unfold vsd; rw [if_neg h1]
  have hrx : rxs M f t r = (t (rA M f r).toInt.toNat).toInt - vsd (fun s => (t s).toInt) (rBb M f r) - (M 84 (16 * f + r)).toInt := by
    rw [rxs_v]; unfold vxs; rw [if_neg hn, hva]
  refine ⟨fun s => ?_, h2, by rw [hl, hz, hrx]; omega, fun q => hn (Or.inr q), by rw [hl, hz]; omega, ho⟩
  by_cases es : s = (rA M f r).toInt.toNat
  · subst es
    rw [hl, hz]
    exact ⟨fun _ => by omega, fun q => by rw [h2] at q; cases q⟩
  · rw [ho s es]; exact i s
/-- a way through the rules: inside, and only downward -/
theorem ps_in (e : edV M f S it) : ∀ (n p : Nat) (t : Nat → Int32) (b : Bool) (t1 : Nat → Int32) (b1 : Bool), p + n ≤ nrM M f → tIn M f S it t → psG M f S n p t b = some (t1, b1) → tIn M f S it t1 ∧ (∀ s, (t1 s).toInt ≤ (t s).toInt) ∧ (b1 = false → b = false ∧ t1 = t ∧ ∀ r, p ≤ r → r < p + n → rxs M f t r ≤ 0) ∧ (b1 = true → b = true ∨ ∃ s, (t1 s).toInt < (t s).toInt) := by
  intro n
  induction n with
  | zero =>
    intro p t b t1 b1 hp i h
    rw [psG] at h
    cases h
    exact ⟨i, fun _ => Int.le_refl _, fun q => ⟨q, rfl, fun r _ _ => by omega⟩, fun q => Or.inl q⟩
  | succ n ih =>
    intro p t b t1 b1 hp i h
    rw [psG] at h
    by_cases hx : 0 < rxs M f t p
    · rw [if_pos hx] at h
      by_cases hb : (rA M f p).toInt = -1 ∨ S (rA M f p).toInt.toNat = false ∨ (t (rA M f p).toInt.toNat).toInt - rxs M f t p < loM M f (rA M f p).toInt.toNat
      · rw [if_pos hb] at h; cases h
      · rw [if_neg hb] at h
        obtain ⟨l1, l2, l3, l4, l5, l6⟩ := low_in e i (by omega) hx hb
        obtain ⟨j1, j2, j3, j4⟩ := ih (p + 1) _ true t1 b1 (by omega) l1 h
        have hd : ∀ s, (lowR M f t p s).toInt ≤ (t s).toInt := fun s => by
          by_cases es : s = (rA M f p).toInt.toNat
          · subst es; omega
          · rw [l6 s es]; exact Int.le_refl _
        refine ⟨j1, fun s => Int.le_trans (j2 s) (hd s), fun q => absurd (j3 q).1 (by decide), fun _ => Or.inr ⟨(rA M f p).toInt.toNat, by have := j2 (rA M f p).toInt.toNat; omega⟩⟩
    · rw [if_neg hx] at h
      obtain ⟨j1, j2, j3, j4⟩ := ih (p + 1) t b t1 b1 (by omega) i h
      refine ⟨j1, j2, fun q => ?_, j4⟩
      obtain ⟨k1, k2, k3⟩ := j3 q
      refine ⟨k1, k2, fun r h1 h2 => ?_⟩
      by_cases er : r = p
      · subst er; omega
      · exact k3 r (by omega) (by omega)
/-- with numbers that keep all rules below, nothing fails -/
theorem ps_ok (e : edV M f S it) (fe : feas M f S it v) : ∀ (n p : Nat) (t : Nat → Int32) (b : Bool), p + n ≤ nrM M f → tIn M f S it t → (∀ s, S s = true → v s ≤ (t s).toInt) → ∃ t1 b1, psG M f S n p t b = some (t1, b1) ∧ ∀ s, S s = true → v s ≤ (t1 s).toInt := by
  intro n
  induction n with
  | zero => intro p t b _ _ hv; exact ⟨t, b, rfl, hv⟩
  | succ n ih =>
    intro p t b hp i hv
    rw [psG]
    by_cases hx : 0 < rxs M f t p
    · rw [if_pos hx]
      have hvx := fe.2.2 p (by omega)
      have hxs := hx
      rw [rxs_v] at hxs
      unfold vxs at hxs hvx
      have hn : ¬ (vsd (fun s => (t s).toInt) (M 82 (16 * f + p)) = -2000000 ∨ vsd (fun s => (t s).toInt) (M 83 (16 * f + p)) = -2000000) := fun q => by rw [if_pos q] at hxs; omega
      rw [if_neg hn] at hxs
      -- a side in the numbers that keep the rules
      have sd : ∀ a : Int32, vsd (fun s => (t s).toInt) a ≠ -2000000 → vsd v a ≠ -2000000 ∧ vsd v a ≤ vsd (fun s => (t s).toInt) a ∧ ((a.toInt = -1 ∨ S a.toInt.toNat = false) → vsd v a = vsd (fun s => (t s).toInt) a) := fun a ha => by
        unfold vsd at ha ⊢
        by_cases ea : a.toInt = -1
        · rw [if_pos ea] at ha ⊢
          rw [if_pos ea]
          exact ⟨ha, Int.le_refl _, fun _ => rfl⟩
        · rw [if_neg ea] at ha ⊢
          rw [if_neg ea]
          cases hS : S a.toInt.toNat
          · have h1 := fe.2.1 _ hS
            have h2 := (i _).2 hS
            dsimp only at ha ⊢
            rw [h2] at ha ⊢
            rw [h1]
            exact ⟨ha, Int.le_refl _, fun _ => rfl⟩
          · have h1 := fe.1 _ hS
            have h2 := e.2.2.2.2.1 _ (e.2.2.2.1 _ hS).1 (e.2.2.2.1 _ hS).2
            refine ⟨by omega, hv _ hS, fun q => ?_⟩
            rcases q with q | q
            · exact absurd q ea
            · cases q
      obtain ⟨a1, a2, a3⟩ := sd _ (fun q => hn (Or.inl q))
      obtain ⟨b1, b2, b3⟩ := sd _ (fun q => hn (Or.inr q))
      rw [if_neg (by omega)] at hvx
      have h1 : ¬ (rA M f p).toInt = -1 := fun q => by have := a3 (Or.inl q); omega
      have h2 : S (rA M f p).toInt.toNat = true := by
        cases hS : S (rA M f p).toInt.toNat
        · have := a3 (Or.inr hS); omega
        · rfl
      have hva : vsd (fun s => (t s).toInt) (M 82 (16 * f + p)) = (t (rA M f p).toInt.toNat).toInt := by unfold vsd; rw [if_neg h1]
      have hvv : vsd v (M 82 (16 * f + p)) = v (rA M f p).toInt.toNat := by unfold vsd; rw [if_neg h1]
      have hrx : rxs M f t p = (t (rA M f p).toInt.toNat).toInt - vsd (fun s => (t s).toInt) (M 83 (16 * f + p)) - (M 84 (16 * f + p)).toInt := by rw [rxs_v]; unfold vxs; rw [if_neg hn, hva]
      have hlo := (fe.1 _ h2).1
      have hb : ¬ ((rA M f p).toInt = -1 ∨ S (rA M f p).toInt.toNat = false ∨ (t (rA M f p).toInt.toNat).toInt - rxs M f t p < loM M f (rA M f p).toInt.toNat) := by
        rintro (q | q | q)
        · exact h1 q
        · rw [h2] at q; cases q
        · omega
      rw [if_neg hb]
      obtain ⟨l1, l2, l3, l4, l5, l6⟩ := low_in e i (by omega) hx hb
      refine ih (p + 1) _ true (by omega) l1 (fun s hs => ?_)
      by_cases es : s = (rA M f p).toInt.toNat
      · subst es
        have l3' : (lowR M f t p (rA M f p).toInt.toNat).toInt = vsd (fun s => (t s).toInt) (M 83 (16 * f + p)) + (M 84 (16 * f + p)).toInt := l3
        rw [l3']; omega
      · rw [l6 s es]; exact hv s hs
    · rw [if_neg hx]
      exact ih (p + 1) t b (by omega) i hv
/-- a chain of rules: nodes, the value that each owes to those behind it; the last one is at its greatest number, or bound by something fixed -/
def Wk (M : Nat → Nat → Int32) (f : Nat) (S : Nat → Bool) (it : Nat → Int32) (k : Nat) (nd : Nat → Nat) (vl : Nat → Int) : Prop :=
  (∀ i, i ≤ k → S (nd i) = true) ∧ (vl k = hiM M f (nd k) ∨ ∃ r, r < nrM M f ∧ (rA M f r).toInt ≠ -1 ∧ (rA M f r).toInt.toNat = nd k ∧ ((rBb M f r).toInt = -1 ∨ S (rBb M f r).toInt.toNat = false) ∧ vsd (fun s => (it s).toInt) (rBb M f r) ≠ -2000000 ∧ vl k = vsd (fun s => (it s).toInt) (rBb M f r) + (M 84 (16 * f + r)).toInt) ∧
  ∀ i, i < k → ∃ r, r < nrM M f ∧ (rA M f r).toInt ≠ -1 ∧ (rA M f r).toInt.toNat = nd i ∧ (rBb M f r).toInt ≠ -1 ∧ (rBb M f r).toInt.toNat = nd (i + 1) ∧ vl i = vl (i + 1) + (M 84 (16 * f + r)).toInt
/-- a number that sinks is what some chain owes -/
def isW (M : Nat → Nat → Int32) (f : Nat) (S : Nat → Bool) (it : Nat → Int32) (s : Nat) (x : Int) : Prop := ∃ k nd vl, Wk M f S it k nd vl ∧ nd 0 = s ∧ vl 0 = x
theorem isW_0 {s : Nat} (hs : S s = true) : isW M f S it s (hiM M f s) := ⟨0, fun _ => s, fun _ => hiM M f s, ⟨fun _ _ => hs, Or.inl rfl, fun i hi => by omega⟩, rfl, rfl⟩
theorem isW_fix {r : Nat} (hr : r < nrM M f) (h1 : (rA M f r).toInt ≠ -1) (hs : S (rA M f r).toInt.toNat = true) (h2 : (rBb M f r).toInt = -1 ∨ S (rBb M f r).toInt.toNat = false) (h3 : vsd (fun s => (it s).toInt) (rBb M f r) ≠ -2000000) : isW M f S it (rA M f r).toInt.toNat (vsd (fun s => (it s).toInt) (rBb M f r) + (M 84 (16 * f + r)).toInt) :=
  ⟨0, fun _ => (rA M f r).toInt.toNat, fun _ => vsd (fun s => (it s).toInt) (rBb M f r) + (M 84 (16 * f + r)).toInt, ⟨fun _ _ => hs, Or.inr ⟨r, hr, h1, rfl, h2, h3, rfl⟩, fun i hi => by omega⟩, rfl, rfl⟩
theorem isW_step {r : Nat} {x : Int} (hr : r < nrM M f) (h1 : (rA M f r).toInt ≠ -1) (hs : S (rA M f r).toInt.toNat = true) (h2 : (rBb M f r).toInt ≠ -1) (w : isW M f S it (rBb M f r).toInt.toNat x) : isW M f S it (rA M f r).toInt.toNat (x + (M 84 (16 * f + r)).toInt) := by
  obtain ⟨k, nd, vl, ⟨w1, w2, w3⟩, w4, w5⟩ := w
  refine ⟨k + 1, fun i => if i = 0 then (rA M f r).toInt.toNat else nd (i - 1), fun i => if i = 0 then x + (M 84 (16 * f + r)).toInt else vl (i - 1), ⟨fun i hi => ?_, ?_, fun i hi => ?_⟩, if_pos rfl, if_pos rfl⟩
  · dsimp only
    by_cases e : i = 0
    · rw [if_pos e]; exact hs
    · rw [if_neg e]; exact w1 _ (by omega)
  · dsimp only
    rw [if_neg (by omega), if_neg (by omega), show k + 1 - 1 = k by omega]
    exact w2
  · dsimp only
    rw [if_neg (show ¬ i + 1 = 0 by omega), if_neg (show ¬ i + 1 = 0 by omega), show i + 1 - 1 = i by omega]
    by_cases e : i = 0
    · subst e
      rw [if_pos rfl, if_pos rfl, w4, w5]
      exact ⟨r, hr, h1, rfl, h2, rfl, rfl⟩
    · rw [if_neg e, if_neg e]
      obtain ⟨r9, y⟩ := w3 (i - 1) (by omega)
      rw [show i - 1 + 1 = i by omega] at y
      exact ⟨r9, y⟩
/-- a chain that comes back to a node isn't cheaper for it -/
theorem Wk_cyc (e : edV M f S it) (fe : feas M f S it v) {k : Nat} {nd : Nat → Nat} {vl : Nat → Int} (w : Wk M f S it k nd vl) : ∀ i d, i + d ≤ k → v (nd i) - v (nd (i + d)) ≤ vl i - vl (i + d) := by
  obtain ⟨w1, w2, w3⟩ := w
  intro i d
  induction d with
  | zero => intro _; simp
  | succ d ih =>
    intro hd
    have h1 := ih (by omega)
    obtain ⟨r, r1, r2, r3, r4, r5, r6⟩ := w3 (i + d) (by omega)
    have hx := fe.2.2 r r1
    have sa := w1 (i + d) (by omega)
    have sb := w1 (i + d + 1) (by omega)
    have ba := fe.1 _ sa
    have bb := fe.1 _ sb
    have la := e.2.2.2.2.1 _ (e.2.2.2.1 _ sa).1 (e.2.2.2.1 _ sa).2
    have lb := e.2.2.2.2.1 _ (e.2.2.2.1 _ sb).1 (e.2.2.2.1 _ sb).2
    unfold vxs at hx
    have ea : vsd v (M 82 (16 * f + r)) = v (nd (i + d)) := by unfold vsd; rw [if_neg r2]; exact congrArg v r3
    have eb : vsd v (M 83 (16 * f + r)) = v (nd (i + d + 1)) := by unfold vsd; rw [if_neg r4]; exact congrArg v r5
    rw [ea, eb, if_neg (by omega)] at hx
    rw [show i + (d + 1) = i + d + 1 by omega]
    omega
/-- an ask's rank among the asks -/
theorem ak_lt {so : Nat → Int32} : ∀ (n s : Nat), s < n → (so s).toInt = 0 → akN so s < akN so n := by
  intro n
  induction n with
  | zero => intro s hs; omega
  | succ n ih =>
    intro s hs h0
    rw [akN]
    by_cases e : s = n
    · subst e; rw [if_pos h0]; omega
    · have := ih s (by omega) h0; omega
theorem ak_inj {so : Nat → Int32} {s t : Nat} (hs : (so s).toInt = 0) (ht : (so t).toInt = 0) (he : akN so s = akN so t) : s = t := by
  rcases Nat.lt_trichotomy s t with h | h | h
  · have := ak_lt t s h hs; omega
  · exact h
  · have := ak_lt s t h ht; omega
/-- every chain has one of at most ten nodes that owes no more -/
theorem Wk_short (e : edV M f S it) (fe : feas M f S it v) : ∀ (n k : Nat) (nd : Nat → Nat) (vl : Nat → Int), k ≤ n → Wk M f S it k nd vl → ∃ k' nd' vl', k' ≤ 9 ∧ Wk M f S it k' nd' vl' ∧ nd' 0 = nd 0 ∧ vl' 0 ≤ vl 0 := by
  intro n
  induction n with
  | zero => intro k nd vl hk w; exact ⟨k, nd, vl, by omega, w, rfl, Int.le_refl _⟩
  | succ n ih =>
    intro k nd vl hk w
    by_cases c : k ≤ 9
    · exact ⟨k, nd, vl, c, w, rfl, Int.le_refl _⟩
    · have w0 := w
      obtain ⟨w1, w2, w3⟩ := w
      obtain ⟨i, j, hij, hj, hn⟩ := pigeon 10 (fun i => akN (soM M f) (nd i)) (fun i hi => by
        have s := e.2.2.2.1 _ (w1 i (by omega))
        have := ak_lt (so := soM M f) (cnM M f) (nd i) s.1 s.2
        have := e.2.2.1
        show akN (soM M f) (nd i) < 10
        omega)
      have hnd : nd i = nd j := ak_inj (e.2.2.2.1 _ (w1 i (by omega))).2 (e.2.2.2.1 _ (w1 j (by omega))).2 hn
      have cyc := Wk_cyc e fe w0 i (j - i) (by omega)
      rw [show i + (j - i) = j by omega, hnd] at cyc
      -- the circle is left out
      have w' : Wk M f S it (k - (j - i)) (fun m => if m < i then nd m else nd (m + (j - i))) (fun m => if m < i then vl m + (vl j - vl i) else vl (m + (j - i))) := by
        refine ⟨fun m hm => ?_, ?_, fun m hm => ?_⟩
        · dsimp only
          split
          · exact w1 _ (by omega)
          · exact w1 _ (by omega)
        · dsimp only
          rw [if_neg (by omega), if_neg (by omega), show k - (j - i) + (j - i) = k by omega]
          exact w2
        · dsimp only
          by_cases c1 : m + 1 < i
          · rw [if_pos (show m < i by omega), if_pos (show m < i by omega), if_pos c1, if_pos c1]
            obtain ⟨r, r1, r2, r3, r4, r5, r6⟩ := w3 m (by omega)
            exact ⟨r, r1, r2, r3, r4, r5, by omega⟩
          · by_cases c2 : m < i
            · have hm1 : m + 1 = i := by omega
              rw [if_pos c2, if_pos c2, if_neg c1, if_neg c1, hm1, show i + (j - i) = j by omega]
              obtain ⟨r, r1, r2, r3, r4, r5, r6⟩ := w3 m (by omega)
              rw [hm1] at r5 r6
              exact ⟨r, r1, r2, r3, r4, by rw [r5]; exact hnd, by omega⟩
            · rw [if_neg c2, if_neg c2, if_neg c1, if_neg c1, show m + 1 + (j - i) = m + (j - i) + 1 by omega]
              exact w3 (m + (j - i)) (by omega)
      obtain ⟨k', nd', vl', q1, q2, q3, q4⟩ := ih _ _ _ (by omega) w'
      refine ⟨k', nd', vl', q1, q2, ?_, ?_⟩
      · rw [q3]
        by_cases c0 : 0 < i
        · rw [if_pos c0]
        · have : i = 0 := by omega
          subst this
          rw [if_neg c0, Nat.zero_add, Nat.sub_zero]; exact hnd.symm
      · refine Int.le_trans q4 ?_
        by_cases c0 : 0 < i
        · rw [if_pos c0]; omega
        · have : i = 0 := by omega
          subst this
          rw [if_neg c0, Nat.zero_add, Nat.sub_zero]; omega
/-- a side of what sank -/
theorem vsd_in (e : edV M f S it) (i : tIn M f S it t) (i1 : tIn M f S it t1) (hd : ∀ s, (t1 s).toInt ≤ (t s).toInt) (a : Int32) : vsd (fun s => (t1 s).toInt) a ≤ vsd (fun s => (t s).toInt) a ∧ (vsd (fun s => (t s).toInt) a ≠ -2000000 → vsd (fun s => (t1 s).toInt) a ≠ -2000000) := by
  unfold vsd
  by_cases ea : a.toInt = -1
  · rw [if_pos ea, if_pos ea]; exact ⟨Int.le_refl _, fun q => q⟩
  · rw [if_neg ea, if_neg ea]
    refine ⟨hd _, fun q => ?_⟩
    cases hS : S a.toInt.toNat
    · dsimp only at q ⊢
      rw [(i1 _).2 hS, ← (i _).2 hS]; exact q
    · have h1 := (i1 _).1 hS
      have h2 := e.2.2.2.2.1 _ (e.2.2.2.1 _ hS).1 (e.2.2.2.1 _ hS).2
      dsimp only
      omega
/-- what sinks in a way through the rules is owed by chains -/
theorem ps_W (e : edV M f S it) : ∀ (n p : Nat) (t : Nat → Int32) (b : Bool) (t1 : Nat → Int32) (b1 : Bool), p + n ≤ nrM M f → tIn M f S it t → (∀ s, S s = true → isW M f S it s (t s).toInt) → psG M f S n p t b = some (t1, b1) → ∀ s, S s = true → isW M f S it s (t1 s).toInt := by
  intro n
  induction n with
  | zero => intro p t b t1 b1 _ _ hw h; rw [psG] at h; cases h; exact hw
  | succ n ih =>
    intro p t b t1 b1 hp i hw h
    rw [psG] at h
    by_cases hx : 0 < rxs M f t p
    · rw [if_pos hx] at h
      by_cases hb : (rA M f p).toInt = -1 ∨ S (rA M f p).toInt.toNat = false ∨ (t (rA M f p).toInt.toNat).toInt - rxs M f t p < loM M f (rA M f p).toInt.toNat
      · rw [if_pos hb] at h; cases h
      · rw [if_neg hb] at h
        obtain ⟨l1, l2, l3, l4, l5, l6⟩ := low_in e i (by omega) hx hb
        refine ih (p + 1) _ true t1 b1 (by omega) l1 (fun s hs => ?_) h
        by_cases es : s = (rA M f p).toInt.toNat
        · subst es
          rw [l3]
          have h1 : (rA M f p).toInt ≠ -1 := fun q => hb (Or.inl q)
          by_cases c : (rBb M f p).toInt = -1
          · have : vsd (fun s => (t s).toInt) (rBb M f p) = vsd (fun s => (it s).toInt) (rBb M f p) := by unfold vsd; rw [if_pos c, if_pos c]
            rw [this] at l4 ⊢
            exact isW_fix (by omega) h1 hs (Or.inl c) l4
          · cases hS : S (rBb M f p).toInt.toNat
            · have : vsd (fun s => (t s).toInt) (rBb M f p) = vsd (fun s => (it s).toInt) (rBb M f p) := by unfold vsd; rw [if_neg c, if_neg c]; exact congrArg Int32.toInt ((i _).2 hS)
              rw [this] at l4 ⊢
              exact isW_fix (by omega) h1 hs (Or.inr hS) l4
            · have : vsd (fun s => (t s).toInt) (rBb M f p) = (t (rBb M f p).toInt.toNat).toInt := by unfold vsd; rw [if_neg c]
              rw [this]
              exact isW_step (by omega) h1 hs c (hw _ hS)
        · rw [l6 s es]; exact hw s hs
    · rw [if_neg hx] at h
      exact ih (p + 1) t b t1 b1 (by omega) i hw h
/-- after a way through the rules none is above what was behind it before -/
theorem ps_low (e : edV M f S it) : ∀ (n p : Nat) (t : Nat → Int32) (b : Bool) (t1 : Nat → Int32) (b1 : Bool), p + n ≤ nrM M f → tIn M f S it t → psG M f S n p t b = some (t1, b1) → ∀ r, p ≤ r → r < p + n → (rA M f r).toInt ≠ -1 → S (rA M f r).toInt.toNat = true → vsd (fun s => (t s).toInt) (rBb M f r) ≠ -2000000 → (t1 (rA M f r).toInt.toNat).toInt ≤ vsd (fun s => (t s).toInt) (rBb M f r) + (M 84 (16 * f + r)).toInt := by
  intro n
  induction n with
  | zero => intro p t b t1 b1 _ _ _ r h1 h2; omega
  | succ n ih =>
    intro p t b t1 b1 hp i h r hr1 hr2 ra rs rb
    rw [psG] at h
    by_cases hx : 0 < rxs M f t p
    · rw [if_pos hx] at h
      by_cases hb : (rA M f p).toInt = -1 ∨ S (rA M f p).toInt.toNat = false ∨ (t (rA M f p).toInt.toNat).toInt - rxs M f t p < loM M f (rA M f p).toInt.toNat
      · rw [if_pos hb] at h; cases h
      · rw [if_neg hb] at h
        obtain ⟨l1, l2, l3, l4, l5, l6⟩ := low_in e i (by omega) hx hb
        have hd : ∀ s, (lowR M f t p s).toInt ≤ (t s).toInt := fun s => by
          by_cases es : s = (rA M f p).toInt.toNat
          · subst es; omega
          · rw [l6 s es]; exact Int.le_refl _
        by_cases er : r = p
        · subst er
          have := (ps_in e n (r + 1) _ true t1 b1 (by omega) l1 h).2.1 (rA M f r).toInt.toNat
          omega
        · have v1 := vsd_in e i l1 hd (rBb M f r)
          have := ih (p + 1) _ true t1 b1 (by omega) l1 h r (by omega) (by omega) ra rs (v1.2 rb)
          omega
    · rw [if_neg hx] at h
      by_cases er : r = p
      · subst er
        have := (ps_in e n (r + 1) t b t1 b1 (by omega) i h).2.1 (rA M f r).toInt.toNat
        have ea : vsd (fun s => (t s).toInt) (M 82 (16 * f + r)) = (t (rA M f r).toInt.toNat).toInt := by unfold vsd; rw [if_neg ra]
        have b1 := (i _).1 rs
        have b2 := e.2.2.2.2.1 _ (e.2.2.2.1 _ rs).1 (e.2.2.2.1 _ rs).2
        have hx2 : rxs M f t r = (t (rA M f r).toInt.toNat).toInt - vsd (fun s => (t s).toInt) (rBb M f r) - (M 84 (16 * f + r)).toInt := by
          rw [rxs_v]; unfold vxs
          rw [if_neg (fun q => q.elim (fun q => by rw [ea] at q; omega) rb), ea]
        omega
      · exact ih (p + 1) t b t1 b1 (by omega) i h r (by omega) (by omega) ra rs rb
/-- nothing stands above what a short chain owes -/
def cov (M : Nat → Nat → Int32) (f : Nat) (S : Nat → Bool) (it : Nat → Int32) (q : Nat) (t : Nat → Int32) : Prop := ∀ k nd vl, k < q → Wk M f S it k nd vl → (t (nd 0)).toInt ≤ vl 0
theorem cov_ps (e : edV M f S it) {b b1 : Bool} {q : Nat} (i : tIn M f S it t) (h : psG M f S (nrM M f) 0 t b = some (t1, b1)) (c : cov M f S it q t) : cov M f S it (q + 1) t1 := by
  intro k nd vl hk w
  have low := ps_low e _ _ _ _ _ _ (by omega) i h
  have inn := ps_in e _ _ _ _ _ _ (by omega) i h
  obtain ⟨w1, w2, w3⟩ := w
  cases k with
  | zero =>
    rcases w2 with w2 | ⟨r, r1, r2, r3, r4, r5, r6⟩
    · rw [w2]; exact ((inn.1 _).1 (w1 0 (Nat.le_refl 0))).2
    · have ev : vsd (fun s => (t s).toInt) (rBb M f r) = vsd (fun s => (it s).toInt) (rBb M f r) := by
        unfold vsd
        by_cases c1 : (rBb M f r).toInt = -1
        · rw [if_pos c1, if_pos c1]
        · rw [if_neg c1, if_neg c1]; exact congrArg Int32.toInt ((i _).2 (r4.resolve_left c1))
      have := low r (by omega) (by omega) r2 (by rw [r3]; exact w1 0 (Nat.le_refl 0)) (by rw [ev]; exact r5)
      rw [ev, r3] at this
      omega
  | succ k =>
    obtain ⟨r, r1, r2, r3, r4, r5, r6⟩ := w3 0 (by omega)
    have ev : vsd (fun s => (t s).toInt) (rBb M f r) = (t (nd 1)).toInt := by unfold vsd; rw [if_neg r4, r5]
    have s1 := w1 1 (by omega)
    have b1 := (i _).1 s1
    have b2 := e.2.2.2.2.1 _ (e.2.2.2.1 _ s1).1 (e.2.2.2.1 _ s1).2
    have h1 := low r (by omega) (by omega) r2 (by rw [r3]; exact w1 0 (by omega)) (by rw [ev]; omega)
    rw [ev, r3] at h1
    have h2 := c k (fun j => nd (j + 1)) (fun j => vl (j + 1)) (by omega) ⟨fun j hj => w1 _ (by omega), w2, fun j hj => w3 (j + 1) (by omega)⟩
    rw [Nat.zero_add] at h2 r6
    omega
/-- if anything fits, the numbers settle -/
theorem ft_ok (e : edV M f S it) (fe : feas M f S it v) : ∀ (k q : Nat) (t : Nat → Int32), tIn M f S it t → (∀ s, S s = true → v s ≤ (t s).toInt) → (∀ s, S s = true → isW M f S it s (t s).toInt) → cov M f S it q t → 11 ≤ k + q → 1 ≤ k → ∃ t1, ftG M f S k t = some t1 := by
  intro k
  induction k with
  | zero => intro q t _ _ _ _ _ h; omega
  | succ k ih =>
    intro q t i hv hw c hk _
    obtain ⟨t1, b1, h, hv1⟩ := ps_ok e fe (nrM M f) 0 t false (by omega) i hv
    have inn := ps_in e _ _ _ _ _ _ (by omega) i h
    rw [ftG, h]
    dsimp only
    cases b1
    · exact ⟨t1, if_neg (by decide)⟩
    · rw [if_pos rfl]
      by_cases hq : 10 ≤ q
      · exfalso
        rcases inn.2.2.2 rfl with q1 | ⟨s, hs⟩
        · cases q1
        · have hS : S s = true := by
            cases hS : S s
            · rw [(inn.1 s).2 hS, (i s).2 hS] at hs; omega
            · rfl
          obtain ⟨k1, nd, vl, w, w0, wx⟩ := ps_W e _ _ _ _ _ _ (by omega) i hw h s hS
          obtain ⟨k2, nd2, vl2, q1, q2, q3, q4⟩ := Wk_short e fe k1 k1 nd vl (Nat.le_refl _) w
          have := c k2 nd2 vl2 (by omega) q2
          rw [q3, w0] at this
          omega
      · exact ih (q + 1) t1 inn.1 hv1 (ps_W e _ _ _ _ _ _ (by omega) i hw h) (cov_ps e i h c) (by omega) (by omega)
theorem ft_in (e : edV M f S it) : ∀ (k : Nat) (t t1 : Nat → Int32), tIn M f S it t → ftG M f S k t = some t1 → tIn M f S it t1 ∧ ∀ r, r < nrM M f → rxs M f t1 r ≤ 0 := by
  intro k
  induction k with
  | zero => intro t t1 _ h; cases h
  | succ k ih =>
    intro t t1 i h
    rw [ftG] at h
    split at h
    · cases h
    · rename_i t2 b2 hp
      have inn := ps_in e _ _ _ _ _ _ (by omega) i hp
      by_cases hb : b2 = true
      · rw [if_pos hb] at h; exact ih _ _ inn.1 h
      · rw [if_neg hb] at h
        cases h
        have := inn.2.2.1 (by cases b2; rfl; exact absurd rfl hb)
        rw [this.2.1]
        exact ⟨i, fun r hr => this.2.2 r (by omega) (by omega)⟩
/-- does it fit -/
def fitB (M : Nat → Nat → Int32) (f : Nat) (it : Nat → Int32) (S : Nat → Bool) : Bool := (ftG M f S 12 (tr0 M f S it)).isSome
theorem fit_iff (e : edV M f S it) : fitB M f it S = true ↔ ∃ v, feas M f S it v := by
  unfold fitB
  refine ⟨fun h => ?_, fun ⟨v, fe⟩ => ?_⟩
  · obtain ⟨t1, ht⟩ := Option.isSome_iff_exists.mp h
    have := ft_in e _ _ _ (tIn_0 e) ht
    exact ⟨fun s => (t1 s).toInt, fun s hs => (this.1 s).1 hs, fun s hs => congrArg Int32.toInt ((this.1 s).2 hs), this.2⟩
  · have w0 : ∀ s, S s = true → isW M f S it s (tr0 M f S it s).toInt := fun s hs => by
      have : tr0 M f S it s = M 57 (20 * f + s) := by unfold tr0; rw [if_pos hs]
      rw [this]; exact isW_0 hs
    have hv : ∀ s, S s = true → v s ≤ (tr0 M f S it s).toInt := fun s hs => by
      have : tr0 M f S it s = M 57 (20 * f + s) := by unfold tr0; rw [if_pos hs]
      rw [this]; exact (fe.1 s hs).2
    obtain ⟨t1, ht⟩ := ft_ok e fe 12 0 _ (tIn_0 e) hv w0 (fun k _ _ hk => by omega) (by omega) (by omega)
    rw [ht]; rfl
/-- more of it free fits as well -/
theorem feas_more {S2 : Nat → Bool} (fe : feas M f S it v) (hs : ∀ s, S s = true → S2 s = true) (hi : ∀ s, S2 s = true → loM M f s ≤ (it s).toInt ∧ (it s).toInt ≤ hiM M f s) : feas M f S2 it v :=
  ⟨fun s h => by
    cases h1 : S s
    · rw [fe.2.1 s h1]; exact hi s h
    · exact fe.1 s h1,
  fun s h => fe.2.1 s (by cases h1 : S s; rfl; rw [hs s h1] at h; cases h), fe.2.2⟩
/-- what no rule names can stay -/
theorem feas_less {R : Nat → Bool} (fe : feas M f S it v) (hR : ∀ r, r < nrM M f → ((rA M f r).toInt = -1 ∨ S (rA M f r).toInt.toNat = false ∨ R (rA M f r).toInt.toNat = true) ∧ ((rBb M f r).toInt = -1 ∨ S (rBb M f r).toInt.toNat = false ∨ R (rBb M f r).toInt.toNat = true)) : ∃ v', feas M f (fun s => S s && R s) it v' := by
  refine ⟨fun s => if (S s && R s) = true then v s else (it s).toInt, fun s h => ?_, fun s h => ?_, fun r hr => ?_⟩
  · dsimp only
    dsimp only at h
    rw [if_pos h]
    exact fe.1 s (by cases h1 : S s; rw [h1] at h; cases h; rfl)
  · dsimp only at h ⊢
    rw [if_neg (by rw [h]; decide)]
  · have sd : ∀ a : Int32, (a.toInt = -1 ∨ S a.toInt.toNat = false ∨ R a.toInt.toNat = true) → vsd (fun s => if (S s && R s) = true then v s else (it s).toInt) a = vsd v a := fun a ha => by
      unfold vsd
      by_cases c : a.toInt = -1
      · rw [if_pos c, if_pos c]
      · rw [if_neg c, if_neg c]
        dsimp only
        rcases ha with ha | ha | ha
        · exact absurd ha c
        · rw [ha, Bool.false_and, if_neg (by decide), fe.2.1 _ ha]
        · rw [ha, Bool.and_true]
          cases h1 : S a.toInt.toNat
          · rw [if_neg (by decide), fe.2.1 _ h1]
          · rw [if_pos rfl]
    have := fe.2.2 r hr
    unfold vxs at this ⊢
    rw [sd _ (hR r hr).1, sd _ (hR r hr).2]
    exact this
end FIT
