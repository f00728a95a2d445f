/-! WHAT FITS: rules as differences; sinking numbers settle if anything fits -/
section FIT
variable (M : Nat → Nat → Int32) (f : Nat) (S : Nat → Bool)
def vsd (v : Nat → Int) (a : Int32) : Int := if a.toInt = -1 then 0 else v a.toInt.toNat
def vxs (v : Nat → Int) (r : Nat) : Int := if vsd v (M 82 (16 * f + r)) = -2000000 ∨ vsd v (M 83 (16 * f + r)) = -2000000 then 0 else vsd v (M 82 (16 * f + r)) - vsd v (M 83 (16 * f + r)) - (M 84 (16 * f + r)).toInt
abbrev rA (r : Nat) : Int32 := M 82 (16 * f + r)
abbrev rBb (r : Nat) : Int32 := M 83 (16 * f + r)
abbrev loM (s : Nat) : Int := (M 56 (20 * f + s)).toInt
abbrev hiM (s : Nat) : Int := (M 57 (20 * f + s)).toInt
/-- nothing can be lowered here -/
def badR (t : Nat → Int32) (r : Nat) : Prop := (rA M f r).toInt = -1 ∨ S (rA M f r).toInt.toNat = false ∨ (t (rA M f r).toInt.toNat).toInt - rxs M f t r < loM M f (rA M f r).toInt.toNat
def lowR (t : Nat → Int32) (r : Nat) : Nat → Int32 := upG t (rA M f r).toInt.toNat (iZ ((t (rA M f r).toInt.toNat).toInt - rxs M f t r))
/-- a way through n rules from p on -/
def psG : Nat → Nat → (Nat → Int32) → Bool → Option ((Nat → Int32) × Bool)
  | 0, _, t, b => some (t, b)
  | n + 1, p, t, b => if 0 < rxs M f t p then (if (rA M f p).toInt = -1 ∨ S (rA M f p).toInt.toNat = false ∨ (t (rA M f p).toInt.toNat).toInt - rxs M f t p < loM M f (rA M f p).toInt.toNat then none else psG n (p + 1) (lowR M f t p) true) else psG n (p + 1) t b
def ftG : Nat → (Nat → Int32) → Option (Nat → Int32)
  | 0, _ => none
  | k + 1, t => match psG M f S (nrM M f) 0 t false with
    | none => none
    | some (t1, b) => if b = true then ftG k t1 else some t1
def tr0 (it : Nat → Int32) (s : Nat) : Int32 := if S s = true then M 57 (20 * f + s) else it s
/-- all is as it must be to look for what fits -/
def edV (it : Nat → Int32) : Prop := (∀ r, r < nrM M f → rlA M f (rA M f r) ∧ rlA M f (rBb M f r) ∧ rA M f r ≠ rBb M f r ∧ -2000000 ≤ (M 84 (16 * f + r)).toInt ∧ (M 84 (16 * f + r)).toInt ≤ 2000000) ∧ cnM M f ≤ 20 ∧ akN (soM M f) (cnM M f) ≤ 10 ∧ (∀ s, S s = true → s < cnM M f ∧ (soM M f s).toInt = 0) ∧ (∀ s, s < cnM M f → (soM M f s).toInt = 0 → -999999 ≤ loM M f s ∧ loM M f s ≤ hiM M f s ∧ hiM M f s ≤ 999999) ∧ bndI 20 it
/-- the numbers that sink: those of the set within their bounds, the others as they were -/
def tIn (it t : Nat → Int32) : Prop := ∀ s, (S s = true → loM M f s ≤ (t s).toInt ∧ (t s).toInt ≤ hiM M f s) ∧ (S s = false → t s = it s)
def feas (it : Nat → Int32) (v : Nat → Int) : Prop := (∀ s, S s = true → loM M f s ≤ v s ∧ v s ≤ hiM M f s) ∧ (∀ s, S s = false → v s = (it s).toInt) ∧ ∀ r, r < nrM M f → vxs M f v r ≤ 0
variable {M f S}
theorem rxs_v (t : Nat → Int32) (r : Nat) : rxs M f t r = vxs M f (fun s => (t s).toInt) r := rfl
variable {it t t1 : Nat → Int32} {v : Nat → Int}
theorem tIn_0 (e : edV M f S it) : tIn M f S it (tr0 M f S it) := fun s => by
  refine ⟨fun hs => ?_, fun hs => ?_⟩
  · have := e.2.2.2.2.1 s (e.2.2.2.1 s hs).1 (e.2.2.2.1 s hs).2
    unfold tr0
    rw [if_pos hs]
    exact ⟨this.2.1, Int.le_refl _⟩
  · unfold tr0
    rw [if_neg (by rw [hs]; decide)]
theorem tIn_b (e : edV M f S it) (i : tIn M f S it t) : bndI 20 t := fun s hs => by
  cases h : S s
  · rw [(i s).2 h]; exact e.2.2.2.2.2 s hs
  · have := e.2.2.2.2.1 s (e.2.2.2.1 s h).1 (e.2.2.2.1 s h).2
    have := (i s).1 h
    exact Or.inr (by omega)
/-- a lowered number: what the rule leaves -/
theorem low_in (e : edV M f S it) (i : tIn M f S it t) {r : Nat} (hr : r < nrM M f) (hx : 0 < rxs M f t r) (hb : ¬ ((rA M f r).toInt = -1 ∨ S (rA M f r).toInt.toNat = false ∨ (t (rA M f r).toInt.toNat).toInt - rxs M f t r < loM M f (rA M f r).toInt.toNat)) :
    tIn M f S it (lowR M f t r) ∧ S (rA M f r).toInt.toNat = true ∧ (lowR M f t r (rA M f r).toInt.toNat).toInt = vsd (fun s => (t s).toInt) (rBb M f r) + (M 84 (16 * f + r)).toInt ∧ vsd (fun s => (t s).toInt) (rBb M f r) ≠ -2000000 ∧ (lowR M f t r (rA M f r).toInt.toNat).toInt < (t (rA M f r).toInt.toNat).toInt ∧ ∀ s, s ≠ (rA M f r).toInt.toNat → lowR M f t r s = t s := by
  have h1 : ¬ (rA M f r).toInt = -1 := fun q => hb (Or.inl q)
  have h2 : S (rA M f r).toInt.toNat = true := by
    cases h : S (rA M f r).toInt.toNat
    · exact absurd (Or.inr (Or.inl h)) hb
    · rfl
  have h3 : ¬ (t (rA M f r).toInt.toNat).toInt - rxs M f t r < loM M f (rA M f r).toInt.toNat := fun q => hb (Or.inr (Or.inr q))
  have b1 := (i _).1 h2
  have b2 := e.2.2.2.2.1 _ (e.2.2.2.1 _ h2).1 (e.2.2.2.1 _ h2).2
  have hz : (iZ ((t (rA M f r).toInt.toNat).toInt - rxs M f t r)).toInt = (t (rA M f r).toInt.toNat).toInt - rxs M f t r := ti_z (by omega) (by omega)
  have hl : lowR M f t r (rA M f r).toInt.toNat = iZ ((t (rA M f r).toInt.toNat).toInt - rxs M f t r) := by unfold lowR upG; rw [if_pos rfl]
  have ho : ∀ s, s ≠ (rA M f r).toInt.toNat → lowR M f t r s = t s := fun s hs => by unfold lowR upG; rw [if_neg hs]
  have hxs := hx
  rw [rxs_v] at hxs
  unfold vxs at hxs
  have hn : ¬ (vsd (fun s => (t s).toInt) (M 82 (16 * f + r)) = -2000000 ∨ vsd (fun s => (t s).toInt) (M 83 (16 * f + r)) = -2000000) := fun q => by rw [if_pos q] at hxs; omega
  have hva : vsd (fun s => (t s).toInt) (M 82 (16 * f + r)) = (t (rA M f r).toInt.toNat).toInt := by unfold vsd; rw [if_neg h1]
  have hrx : rxs M f t r = (t (rA M f r).toInt.toNat).toInt - vsd (fun s => (t s).toInt) (rBb M f r) - (M 84 (16 * f + r)).toInt := by
    rw [rxs_v]; unfold vxs; rw [if_neg hn, hva]
  refine ⟨fun s => ?_, h2, by rw [hl, hz, hrx]; omega, fun q => hn (Or.inr q), by rw [hl, hz]; omega, ho⟩
  by_cases es : s = (rA M f r).toInt.toNat
  · subst es
    rw [hl, hz]
    exact ⟨fun _ => by omega, fun q => by rw [h2] at q; cases q⟩
  · rw [ho s es]; exact i s
/-- a way through the rules: inside, and only downward -/
theorem ps_in (e : edV M f S it) : ∀ (n p : Nat) (t : Nat → Int32) (b : Bool) (t1 : Nat → Int32) (b1 : Bool), p + n ≤ nrM M f → tIn M f S it t → psG M f S n p t b = some (t1, b1) → tIn M f S it t1 ∧ (∀ s, (t1 s).toInt ≤ (t s).toInt) ∧ (b1 = false → b = false ∧ t1 = t ∧ ∀ r, p ≤ r → r < p + n → rxs M f t r ≤ 0) ∧ (b1 = true → b = true ∨ ∃ s, (t1 s).toInt < (t s).toInt) := by
  intro n
  induction n with
  | zero =>
    intro p t b t1 b1 hp i h
    rw [psG] at h
    cases h
    exact ⟨i, fun _ => Int.le_refl _, fun q => ⟨q, rfl, fun r _ _ => by omega⟩, fun q => Or.inl q⟩
  | succ n ih =>
    intro p t b t1 b1 hp i h
    rw [psG] at h
    by_cases hx : 0 < rxs M f t p
    · rw [if_pos hx] at h
      by_cases hb : (rA M f p).toInt = -1 ∨ S (rA M f p).toInt.toNat = false ∨ (t (rA M f p).toInt.toNat).toInt - rxs M f t p < loM M f (rA M f p).toInt.toNat
      · rw [if_pos hb] at h; cases h
      · rw [if_neg hb] at h
        obtain ⟨l1, l2, l3, l4, l5, l6⟩ := low_in e i (by omega) hx hb
        obtain ⟨j1, j2, j3, j4⟩ := ih (p + 1) _ true t1 b1 (by omega) l1 h
        have hd : ∀ s, (lowR M f t p s).toInt ≤ (t s).toInt := fun s => by
          by_cases es : s = (rA M f p).toInt.toNat
          · subst es; omega
          · rw [l6 s es]; exact Int.le_refl _
        refine ⟨j1, fun s => Int.le_trans (j2 s) (hd s), fun q => absurd (j3 q).1 (by decide), fun _ => Or.inr ⟨(rA M f p).toInt.toNat, by have := j2 (rA M f p).toInt.toNat; omega⟩⟩
    · rw [if_neg hx] at h
      obtain ⟨j1, j2, j3, j4⟩ := ih (p + 1) t b t1 b1 (by omega) i h
      refine ⟨j1, j2, fun q => ?_, j4⟩
      obtain ⟨k1, k2, k3⟩ := j3 q
      refine ⟨k1, k2, fun r h1 h2 => ?_⟩
      by_cases er : r = p
      · subst er; omega
      · exact k3 r (by omega) (by omega)
/-- with numbers that keep all rules below, nothing fails -/
theorem ps_ok (e : edV M f S it) (fe : feas M f S it v) : ∀ (n p : Nat) (t : Nat → Int32) (b : Bool), p + n ≤ nrM M f → tIn M f S it t → (∀ s, S s = true → v s ≤ (t s).toInt) → ∃ t1 b1, psG M f S n p t b = some (t1, b1) ∧ ∀ s, S s = true → v s ≤ (t1 s).toInt := by
  intro n
  induction n with
  | zero => intro p t b _ _ hv; exact ⟨t, b, rfl, hv⟩
  | succ n ih =>
    intro p t b hp i hv
    rw [psG]
    by_cases hx : 0 < rxs M f t p
    · rw [if_pos hx]
      have hvx := fe.2.2 p (by omega)
      have hxs := hx
      rw [rxs_v] at hxs
      unfold vxs at hxs hvx
      have hn : ¬ (vsd (fun s => (t s).toInt) (M 82 (16 * f + p)) = -2000000 ∨ vsd (fun s => (t s).toInt) (M 83 (16 * f + p)) = -2000000) := fun q => by rw [if_pos q] at hxs; omega
      rw [if_neg hn] at hxs
      -- a side in the numbers that keep the rules
      have sd : ∀ a : Int32, vsd (fun s => (t s).toInt) a ≠ -2000000 → vsd v a ≠ -2000000 ∧ vsd v a ≤ vsd (fun s => (t s).toInt) a ∧ ((a.toInt = -1 ∨ S a.toInt.toNat = false) → vsd v a = vsd (fun s => (t s).toInt) a) := fun a ha => by
        unfold vsd at ha ⊢
        by_cases ea : a.toInt = -1
        · rw [if_pos ea] at ha ⊢
          rw [if_pos ea]
          exact ⟨ha, Int.le_refl _, fun _ => rfl⟩
        · rw [if_neg ea] at ha ⊢
          rw [if_neg ea]
          cases hS : S a.toInt.toNat
          · have h1 := fe.2.1 _ hS
            have h2 := (i _).2 hS
            dsimp only at ha ⊢
            rw [h2] at ha ⊢
            rw [h1]
            exact ⟨ha, Int.le_refl _, fun _ => rfl⟩
          · have h1 := fe.1 _ hS
            have h2 := e.2.2.2.2.1 _ (e.2.2.2.1 _ hS).1 (e.2.2.2.1 _ hS).2
            refine ⟨by omega, hv _ hS, fun q => ?_⟩
            rcases q with q | q
            · exact absurd q ea
            · cases q
      obtain ⟨a1, a2, a3⟩ := sd _ (fun q => hn (Or.inl q))
      obtain ⟨b1, b2, b3⟩ := sd _ (fun q => hn (Or.inr q))
      rw [if_neg (by omega)] at hvx
      have h1 : ¬ (rA M f p).toInt = -1 := fun q => by have := a3 (Or.inl q); omega
      have h2 : S (rA M f p).toInt.toNat = true := by
        cases hS : S (rA M f p).toInt.toNat
        · have := a3 (Or.inr hS); omega
        · rfl
      have hva : vsd (fun s => (t s).toInt) (M 82 (16 * f + p)) = (t (rA M f p).toInt.toNat).toInt := by unfold vsd; rw [if_neg h1]
      have hvv : vsd v (M 82 (16 * f + p)) = v (rA M f p).toInt.toNat := by unfold vsd; rw [if_neg h1]
      have hrx : rxs M f t p = (t (rA M f p).toInt.toNat).toInt - vsd (fun s => (t s).toInt) (M 83 (16 * f + p)) - (M 84 (16 * f + p)).toInt := by rw [rxs_v]; unfold vxs; rw [if_neg hn, hva]
      have hlo := (fe.1 _ h2).1
      have hb : ¬ ((rA M f p).toInt = -1 ∨ S (rA M f p).toInt.toNat = false ∨ (t (rA M f p).toInt.toNat).toInt - rxs M f t p < loM M f (rA M f p).toInt.toNat) := by
        rintro (q | q | q)
        · exact h1 q
        · rw [h2] at q; cases q
        · omega
      rw [if_neg hb]
      obtain ⟨l1, l2, l3, l4, l5, l6⟩ := low_in e i (by omega) hx hb
      refine ih (p + 1) _ true (by omega) l1 (fun s hs => ?_)
      by_cases es : s = (rA M f p).toInt.toNat
      · subst es
        have l3' : (lowR M f t p (rA M f p).toInt.toNat).toInt = vsd (fun s => (t s).toInt) (M 83 (16 * f + p)) + (M 84 (16 * f + p)).toInt := l3
        rw [l3']; omega
      · rw [l6 s es]; exact hv s hs
    · rw [if_neg hx]
      exact ih (p + 1) t b (by omega) i hv
/-- a chain of rules: nodes, the value that each owes to those behind it; the last one is at its greatest number, or bound by something fixed -/
def Wk (M : Nat → Nat → Int32) (f : Nat) (S : Nat → Bool) (it : Nat → Int32) (k : Nat) (nd : Nat → Nat) (vl : Nat → Int) : Prop :=
  (∀ i, i ≤ k → S (nd i) = true) ∧ (vl k = hiM M f (nd k) ∨ ∃ r, r < nrM M f ∧ (rA M f r).toInt ≠ -1 ∧ (rA M f r).toInt.toNat = nd k ∧ ((rBb M f r).toInt = -1 ∨ S (rBb M f r).toInt.toNat = false) ∧ vsd (fun s => (it s).toInt) (rBb M f r) ≠ -2000000 ∧ vl k = vsd (fun s => (it s).toInt) (rBb M f r) + (M 84 (16 * f + r)).toInt) ∧
  ∀ i, i < k → ∃ r, r < nrM M f ∧ (rA M f r).toInt ≠ -1 ∧ (rA M f r).toInt.toNat = nd i ∧ (rBb M f r).toInt ≠ -1 ∧ (rBb M f r).toInt.toNat = nd (i + 1) ∧ vl i = vl (i + 1) + (M 84 (16 * f + r)).toInt
/-- a number that sinks is what some chain owes -/
def isW (M : Nat → Nat → Int32) (f : Nat) (S : Nat → Bool) (it : Nat → Int32) (s : Nat) (x : Int) : Prop := ∃ k nd vl, Wk M f S it k nd vl ∧ nd 0 = s ∧ vl 0 = x
theorem isW_0 {s : Nat} (hs : S s = true) : isW M f S it s (hiM M f s) := ⟨0, fun _ => s, fun _ => hiM M f s, ⟨fun _ _ => hs, Or.inl rfl, fun i hi => by omega⟩, rfl, rfl⟩
theorem isW_fix {r : Nat} (hr : r < nrM M f) (h1 : (rA M f r).toInt ≠ -1) (hs : S (rA M f r).toInt.toNat = true) (h2 : (rBb M f r).toInt = -1 ∨ S (rBb M f r).toInt.toNat = false) (h3 : vsd (fun s => (it s).toInt) (rBb M f r) ≠ -2000000) : isW M f S it (rA M f r).toInt.toNat (vsd (fun s => (it s).toInt) (rBb M f r) + (M 84 (16 * f + r)).toInt) :=
  ⟨0, fun _ => (rA M f r).toInt.toNat, fun _ => vsd (fun s => (it s).toInt) (rBb M f r) + (M 84 (16 * f + r)).toInt, ⟨fun _ _ => hs, Or.inr ⟨r, hr, h1, rfl, h2, h3, rfl⟩, fun i hi => by omega⟩, rfl, rfl⟩
theorem isW_step {r : Nat} {x : Int} (hr : r < nrM M f) (h1 : (rA M f r).toInt ≠ -1) (hs : S (rA M f r).toInt.toNat = true) (h2 : (rBb M f r).toInt ≠ -1) (w : isW M f S it (rBb M f r).toInt.toNat x) : isW M f S it (rA M f r).toInt.toNat (x + (M 84 (16 * f + r)).toInt) := by
  obtain ⟨k, nd, vl, ⟨w1, w2, w3⟩, w4, w5⟩ := w
  refine ⟨k + 1, fun i => if i = 0 then (rA M f r).toInt.toNat else nd (i - 1), fun i => if i = 0 then x + (M 84 (16 * f + r)).toInt else vl (i - 1), ⟨fun i hi => ?_, ?_, fun i hi => ?_⟩, if_pos rfl, if_pos rfl⟩
  · dsimp only
    by_cases e : i = 0
    · rw [if_pos e]; exact hs
    · rw [if_neg e]; exact w1 _ (by omega)
  · dsimp only
    rw [if_neg (by omega), if_neg (by omega), show k + 1 - 1 = k by omega]
    exact w2
  · dsimp only
    rw [if_neg (show ¬ i + 1 = 0 by omega), if_neg (show ¬ i + 1 = 0 by omega), show i + 1 - 1 = i by omega]
    by_cases e : i = 0
    · subst e
      rw [if_pos rfl, if_pos rfl, w4, w5]
      exact ⟨r, hr, h1, rfl, h2, rfl, rfl⟩
    · rw [if_neg e, if_neg e]
      obtain ⟨r9, y⟩ := w3 (i - 1) (by omega)
      rw [show i - 1 + 1 = i by omega] at y
      exact ⟨r9, y⟩
/-- a chain that comes back to a node isn't cheaper for it -/
theorem Wk_cyc (e : edV M f S it) (fe : feas M f S it v) {k : Nat} {nd : Nat → Nat} {vl : Nat → Int} (w : Wk M f S it k nd vl) : ∀ i d, i + d ≤ k → v (nd i) - v (nd (i + d)) ≤ vl i - vl (i + d) := by
  obtain ⟨w1, w2, w3⟩ := w
  intro i d
  induction d with
  | zero => intro _; simp
  | succ d ih =>
    intro hd
    have h1 := ih (by omega)
    obtain ⟨r, r1, r2, r3, r4, r5, r6⟩ := w3 (i + d) (by omega)
    have hx := fe.2.2 r r1
    have sa := w1 (i + d) (by omega)
    have sb := w1 (i + d + 1) (by omega)
    have ba := fe.1 _ sa
    have bb := fe.1 _ sb
    have la := e.2.2.2.2.1 _ (e.2.2.2.1 _ sa).1 (e.2.2.2.1 _ sa).2
    have lb := e.2.2.2.2.1 _ (e.2.2.2.1 _ sb).1 (e.2.2.2.1 _ sb).2
    unfold vxs at hx
    have ea : vsd v (M 82 (16 * f + r)) = v (nd (i + d)) := by unfold vsd; rw [if_neg r2]; exact congrArg v r3
    have eb : vsd v (M 83 (16 * f + r)) = v (nd (i + d + 1)) := by unfold vsd; rw [if_neg r4]; exact congrArg v r5
    rw [ea, eb, if_neg (by omega)] at hx
    rw [show i + (d + 1) = i + d + 1 by omega]
    omega
/-- an ask's rank among the asks -/
theorem ak_lt {so : Nat → Int32} : ∀ (n s : Nat), s < n → (so s).toInt = 0 → akN so s < akN so n := by
  intro n
  induction n with
  | zero => intro s hs; omega
  | succ n ih =>
    intro s hs h0
    rw [akN]
    by_cases e : s = n
    · subst e; rw [if_pos h0]; omega
    · have := ih s (by omega) h0; omega
theorem ak_inj {so : Nat → Int32} {s t : Nat} (hs : (so s).toInt = 0) (ht : (so t).toInt = 0) (he : akN so s = akN so t) : s = t := by
  rcases Nat.lt_trichotomy s t with h | h | h
  · have := ak_lt t s h hs; omega
  · exact h
  · have := ak_lt s t h ht; omega
/-- every chain has one of at most ten nodes that owes no more -/
theorem Wk_short (e : edV M f S it) (fe : feas M f S it v) : ∀ (n k : Nat) (nd : Nat → Nat) (vl : Nat → Int), k ≤ n → Wk M f S it k nd vl → ∃ k' nd' vl', k' ≤ 9 ∧ Wk M f S it k' nd' vl' ∧ nd' 0 = nd 0 ∧ vl' 0 ≤ vl 0 := by
  intro n
  induction n with
  | zero => intro k nd vl hk w; exact ⟨k, nd, vl, by omega, w, rfl, Int.le_refl _⟩
  | succ n ih =>
    intro k nd vl hk w
    by_cases c : k ≤ 9
    · exact ⟨k, nd, vl, c, w, rfl, Int.le_refl _⟩
    · have w0 := w
      obtain ⟨w1, w2, w3⟩ := w
      obtain ⟨i, j, hij, hj, hn⟩ := pigeon 10 (fun i => akN (soM M f) (nd i)) (fun i hi => by
        have s := e.2.2.2.1 _ (w1 i (by omega))
        have := ak_lt (so := soM M f) (cnM M f) (nd i) s.1 s.2
        have := e.2.2.1
        show akN (soM M f) (nd i) < 10
        omega)
      have hnd : nd i = nd j := ak_inj (e.2.2.2.1 _ (w1 i (by omega))).2 (e.2.2.2.1 _ (w1 j (by omega))).2 hn
      have cyc := Wk_cyc e fe w0 i (j - i) (by omega)
      rw [show i + (j - i) = j by omega, hnd] at cyc
      -- the circle is left out
      have w' : Wk M f S it (k - (j - i)) (fun m => if m < i then nd m else nd (m + (j - i))) (fun m => if m < i then vl m + (vl j - vl i) else vl (m + (j - i))) := by
        refine ⟨fun m hm => ?_, ?_, fun m hm => ?_⟩
        · dsimp only
          split
          · exact w1 _ (by omega)
          · exact w1 _ (by omega)
        · dsimp only
          rw [if_neg (by omega), if_neg (by omega), show k - (j - i) + (j - i) = k by omega]
          exact w2
        · dsimp only
          by_cases c1 : m + 1 < i
          · rw [if_pos (show m < i by omega), if_pos (show m < i by omega), if_pos c1, if_pos c1]
            obtain ⟨r, r1, r2, r3, r4, r5, r6⟩ := w3 m (by omega)
            exact ⟨r, r1, r2, r3, r4, r5, by omega⟩
          · by_cases c2 : m < i
            · have hm1 : m + 1 = i := by omega
              rw [if_pos c2, if_pos c2, if_neg c1, if_neg c1, hm1, show i + (j - i) = j by omega]
              obtain ⟨r, r1, r2, r3, r4, r5, r6⟩ := w3 m (by omega)
              rw [hm1] at r5 r6
              exact ⟨r, r1, r2, r3, r4, by rw [r5]; exact hnd, by omega⟩
            · rw [if_neg c2, if_neg c2, if_neg c1, if_neg c1, show m + 1 + (j - i) = m + (j - i) + 1 by omega]
              exact w3 (m + (j - i)) (by omega)
      obtain ⟨k', nd', vl', q1, q2, q3, q4⟩ := ih _ _ _ (by omega) w'
      refine ⟨k', nd', vl', q1, q2, ?_, ?_⟩
      · rw [q3]
        dsimp only
        by_cases c0 : 0 < i
        · rw [if_pos c0]
        · have : i = 0 := by omega
          subst this
          rw [if_neg c0, Nat.zero_add, Nat.sub_zero]; exact hnd.symm
      · refine Int.le_trans q4 ?_
        dsimp only
        by_cases c0 : 0 < i
        · rw [if_pos c0]; omega
        · have : i = 0 := by omega
          subst this
          rw [if_neg c0, Nat.zero_add, Nat.sub_zero]; omega
end FIT
