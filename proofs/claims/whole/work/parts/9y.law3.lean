/-! THE LAW: its branches (written by wip/tools/genlaw3.py) -/
section LW3
variable {n L : Nat} {h h1 : aH} {K : Int32 → aH → Prop} {X : Nat → aH → Prop}
abbrev lcs (n : Nat) : List (Option aV) := [some (vR 1), some (vR 8), some (vR 44), some (vR 107), some (vI (nI (7 * n))), none, none]
/-- the script and the cells that the law itself looks at -/
def scr (L : Nat) (h : aH) : Prop := (gK h 1 = 105 ∧ gL h 1 = L) ∧ (gK h 107 = 101 ∧ gL h 107 = 1) ∧ (gK h 8 = 1 ∧ gK h 44 = 14) ∧ 108 ≤ gN h
theorem scr_kp (S : scr L h) (k : kpS h h1) : scr L h1 := by
  obtain ⟨⟨s1, s2⟩, ⟨s3, s4⟩, ⟨s5, s6⟩, s7⟩ := S
  have e : ∀ a, a < 108 → gK h1 a = gK h a ∧ gL h1 a = gL h a := fun a ha => k.2.1 a (by omega)
  exact ⟨⟨by rw [(e 1 (by decide)).1]; exact s1, by rw [(e 1 (by decide)).2]; exact s2⟩, ⟨by rw [(e 107 (by decide)).1]; exact s3, by rw [(e 107 (by decide)).2]; exact s4⟩, ⟨by rw [(e 8 (by decide)).1]; exact s5, by rw [(e 44 (by decide)).1]; exact s6⟩, Nat.le_trans s7 k.1⟩
theorem ix (S : scr L h) (hl : 7 * n + 7 ≤ L) (hL : L ≤ 3584) (j : Nat) (hj : j < 7) : inB h 105 1 (nI (7 * n) + nI j) (7 * n + j) := ⟨S.1.1, by rw [nI_add], by rw [S.1.2]; omega, by omega⟩
theorem ix0 (S : scr L h) (hl : 7 * n + 7 ≤ L) (hL : L ≤ 3584) : inB h 105 1 (nI (7 * n)) (7 * n) := ⟨S.1.1, rfl, by rw [S.1.2]; omega, by omega⟩
theorem ex1 {e1 x : Nat} (q : ∃ i, i < [e1].length ∧ x = [e1].getD i 0 ∧ K (nI (i + 1)) h) : x = e1 ∧ K 1 h := by
  obtain ⟨i, h1, h2, h3⟩ := q
  have : i = 0 := by have h1' : i < 1 := h1; omega
  subst this; exact ⟨h2, h3⟩
theorem ex2 {e1 e2 x : Nat} (q : ∃ i, i < [e1, e2].length ∧ x = [e1, e2].getD i 0 ∧ K (nI (i + 1)) h) : (x = e1 ∧ K 1 h) ∨ (x = e2 ∧ K 2 h) := by
  obtain ⟨i, h1, h2, h3⟩ := q
  have : i = 0 ∨ i = 1 := by have h1' : i < 2 := h1; omega
  rcases this with e | e <;> subst e
  · exact Or.inl ⟨h2, h3⟩
  · exact Or.inr ⟨h2, h3⟩
theorem ex3 {e1 e2 e3 x : Nat} (q : ∃ i, i < [e1, e2, e3].length ∧ x = [e1, e2, e3].getD i 0 ∧ K (nI (i + 1)) h) : (x = e1 ∧ K 1 h) ∨ (x = e2 ∧ K 2 h) ∨ (x = e3 ∧ K 3 h) := by
  obtain ⟨i, h1, h2, h3⟩ := q
  have : i = 0 ∨ i = 1 ∨ i = 2 := by have h1' : i < 3 := h1; omega
  rcases this with e | e | e <;> subst e
  · exact Or.inl ⟨h2, h3⟩
  · exact Or.inr (Or.inl ⟨h2, h3⟩)
  · exact Or.inr (Or.inr ⟨h2, h3⟩)
theorem ex4 {e1 e2 e3 e4 x : Nat} (q : ∃ i, i < [e1, e2, e3, e4].length ∧ x = [e1, e2, e3, e4].getD i 0 ∧ K (nI (i + 1)) h) : (x = e1 ∧ K 1 h) ∨ (x = e2 ∧ K 2 h) ∨ (x = e3 ∧ K 3 h) ∨ (x = e4 ∧ K 4 h) := by
  obtain ⟨i, h1, h2, h3⟩ := q
  have : i = 0 ∨ i = 1 ∨ i = 2 ∨ i = 3 := by have h1' : i < 4 := h1; omega
  rcases this with e | e | e | e <;> subst e
  · exact Or.inl ⟨h2, h3⟩
  · exact Or.inr (Or.inl ⟨h2, h3⟩)
  · exact Or.inr (Or.inr (Or.inl ⟨h2, h3⟩))
  · exact Or.inr (Or.inr (Or.inr ⟨h2, h3⟩))
/-- the law holds both against each other -/
def cmpK (K : Int32 → aH → Prop) (X : Nat → aH → Prop) (n : Nat) (y0 y1 y2 : Int32) (h2 : aH) : Prop := ((y2.toInt = y0.toInt → ((y0.toInt = 0 → inB h2 101 107 0 0 ∧ (((gJ h2 107 0).toInt = (y1.toInt64).toInt → Wp 502 328 (3074, lcs n, [], h2) (RI K X)) ∧ (¬ (gJ h2 107 0).toInt = (y1.toInt64).toInt → K 0 h2))) ∧ (¬ y0.toInt = 0 → Wp 502 328 (3074, lcs n, [], h2) (RI K X)))) ∧ (¬ y2.toInt = y0.toInt → K 0 h2))
theorem lw_run {nc nm wr : Nat} {args wargs : List aV} {exs : List Nat} {Q : aH → Prop} (P : Pr nc nm args exs h Q) (S : scr L h) (he : exs.length ≤ 4)
    (wrap : ∀ (K : Int32 → aH → Prop) (X : Nat → aH → Prop), CI 500 nc (vR 8 :: args) h (fun y0 h0 => 8 ≤ 107 ∧ inB h0 101 107 0 0 ∧ ∀ h1 : aH, h1 = pJ h0 107 0 (y0.toInt64) → K 0 h1) (fun x9 h9 => ∃ i, i < exs.length ∧ x9 = exs.getD i 0 ∧ K (nI (i + 1)) h9) → CI 501 wr wargs h K X)
    (fin : ∀ h2, Q h2 → kpS h h2 → Wp 502 328 (3074, lcs n, [], h2) (RI K X)) : CI 501 wr wargs h (fun y0 h0 => kpS h h0 ∧ CI 501 nm (vR 44 :: args) h0 (fun y1 h1 => gK h1 44 = 14 ∧ CI 501 17 [vR 44] h1 (fun y2 h2 => cmpK K X n y0 y1 y2 h2) X) X) X := by
  obtain ⟨c, y, Mid, p1, p2, p3⟩ := P
  have hN : 8 ≤ gN h := by have := S.2.2.2; omega
  have H := CI_kp (p2 (fun y' h1 => y' = y ∧ c = 0 ∧ Mid h1) (fun x' h1 => c ≠ 0 ∧ x' = exs.getD (c - 1) 0 ∧ Mid h1) (fun h1 hc m => ⟨rfl, hc, m⟩) (fun h1 hc m => ⟨hc, rfl, m⟩)) hN
  have cI : (nI c).toInt = c := ti_n (by omega)
  -- the model, from a heap that the class has left
  have mdl : ∀ (h1 : aH) (J1 : Nat → Nat → Int64), Mid h1 → kpS h h1 → (∀ a, a ≠ 107 → J1 a = gJ h1 a) → (c = 0 → J1 107 0 = y.toInt64) → CI 501 nm (vR 44 :: args) (hU h1 (gI h1) J1) (fun y1 h1 => gK h1 44 = 14 ∧ CI 501 17 [vR 44] h1 (fun y2 h2 => cmpK K X n (nI c) y1 y2 h2) X) X := by
    intro h1 J1 m k1 j jy
    have N1 : 8 ≤ gN (hU h1 (gI h1) J1) := by rw [gN_hU]; exact Nat.le_trans hN k1.1
    have M := CI_kp (p3 h1 J1 m j (fun b h2 => (c = 0 → b = y) ∧ gI h2 44 0 = nI c ∧ gJ h2 107 = J1 107 ∧ Q h2) X (fun h2 b e1 e2 e3 e4 => ⟨e1, e2, e3, e4⟩)) N1
    refine CI_d (CI.mono M (fun b h2 w => ?_) (fun _ _ w => w.1))
    obtain ⟨⟨e1, e2, e3, e4⟩, k2⟩ := w
    have k02 : kpS h h2 := kpS_tr k1 k2
    have S2 := scr_kp S k02
    refine ⟨S2.2.2.1.2, m17 ⟨S2.2.2.1.2, ?_⟩⟩
    rw [e2]
    refine ⟨fun _ => ⟨fun z => ⟨⟨S2.2.1.1, rfl, by rw [S2.2.1.2]; decide, by decide⟩, fun _ => fin h2 e4 k02, fun z2 => absurd ?_ z2⟩, fun _ => fin h2 e4 k02⟩, fun z => absurd rfl z⟩
    have c0 : c = 0 := by rw [cI] at z; omega
    rw [e3, jy c0, e1 c0]
  refine wrap _ _ (CI.mono H (fun y' h1 w => ?_) (fun x' h1 w => ?_))
  · obtain ⟨⟨e1, c0, m⟩, k1⟩ := w
    subst e1
    have S1 := scr_kp S k1
    refine ⟨by decide, ⟨S1.2.1.1, rfl, by rw [S1.2.1.2]; decide, by decide⟩, fun h2 e2 => ?_⟩
    have eta : h2 = hU h1 (gI h1) (uJ (gJ h1) 107 0 y'.toInt64) := by rw [e2]; rfl
    have k2 : kpS h h2 := by rw [e2]; exact kpS_tr k1 kpS_pJ
    refine ⟨k2, ?_⟩
    rw [eta]
    have := mdl h1 (uJ (gJ h1) 107 0 y'.toInt64) m k1 (fun a ha => by rw [uJ_ne _ _ _ ha]) (fun _ => by rw [uJ_app, if_pos ⟨rfl, rfl⟩])
    rw [c0] at this
    exact this
  · obtain ⟨⟨c0, e1, m⟩, k1⟩ := w
    refine ⟨c - 1, by omega, e1, k1, ?_⟩
    have := mdl h1 (gJ h1) m k1 (fun _ _ => rfl) (fun z => absurd z c0)
    rw [hU_eta] at this
    rw [show c - 1 + 1 = c by omega]
    exact this
theorem lb_208 (S : scr L h) (I : LawI n h) (hn : n < 512) (hl : 7 * n + 7 ≤ L) (hL : L ≤ 3584) (fin : ∀ h2, LawI (n + 1) h2 → kpS h h2 → Wp 502 328 (3074, lcs n, [], h2) (RI K X)) : Wp 502 328 (208, lcs n, [], h) (RI K X) := by
  refine w328_208 ⟨7 * n + 1, ix S hl hL 1 (by decide), ?_⟩
  refine CI.mono (lw_run (n := n) (lw_tick (x := gI h 1 (7 * n + 1)) I hn) S (by decide) (fun K X w => m13 ⟨by decide, S.2.2.1.1, CI.mono w (fun _ _ q => q) (fun _ _ q => ex1 q)⟩) fin) (fun y0 h0 q => ?_) (fun _ _ w => w)
  have S0 := scr_kp S q.1
  have e : ∀ i, gI h0 1 i = gI h 1 i := fun i => q.1.2.2 1 (by decide) i
  refine ⟨7 * n + 1, ix S0 hl hL 1 (by decide), by decide, S0.2.2.1.2, ?_⟩
  simp only [e]
  exact q.2
theorem lb_264 (S : scr L h) (I : LawI n h) (hn : n < 512) (hl : 7 * n + 7 ≤ L) (hL : L ≤ 3584) (fin : ∀ h2, LawI (n + 1) h2 → kpS h h2 → Wp 502 328 (3074, lcs n, [], h2) (RI K X)) : Wp 502 328 (264, lcs n, [], h) (RI K X) := by
  refine w328_264 ?_
  refine CI.mono (lw_run (n := n) (lw_unit  I hn) S (by decide) (fun K X w => m26 ⟨by decide, S.2.2.1.1, CI.mono w (fun _ _ q => q) (fun _ _ q => ex1 q)⟩) fin) (fun y0 h0 q => ?_) (fun _ _ w => w)
  have S0 := scr_kp S q.1
  exact ⟨by decide, S0.2.2.1.2, q.2⟩
theorem lb_308 (S : scr L h) (I : LawI n h) (hn : n < 512) (hl : 7 * n + 7 ≤ L) (hL : L ≤ 3584) (fin : ∀ h2, LawI (n + 1) h2 → kpS h h2 → Wp 502 328 (3074, lcs n, [], h2) (RI K X)) : Wp 502 328 (308, lcs n, [], h) (RI K X) := by
  refine w328_308 ⟨7 * n + 1, ix S hl hL 1 (by decide), 7 * n + 2, ix S hl hL 2 (by decide), 7 * n + 3, ix S hl hL 3 (by decide), 7 * n + 4, ix S hl hL 4 (by decide), ?_⟩
  refine CI.mono (lw_run (n := n) (lw_tell (x := gI h 1 (7 * n + 1)) (y := gI h 1 (7 * n + 2)) (z := gI h 1 (7 * n + 3)) (w := gI h 1 (7 * n + 4)) I hn) S (by decide) (fun K X w => m38 ⟨by decide, S.2.2.1.1, CI.mono w (fun _ _ q => q) (fun _ _ q => ex4 q)⟩) fin) (fun y0 h0 q => ?_) (fun _ _ w => w)
  have S0 := scr_kp S q.1
  have e : ∀ i, gI h0 1 i = gI h 1 i := fun i => q.1.2.2 1 (by decide) i
  refine ⟨7 * n + 1, ix S0 hl hL 1 (by decide), 7 * n + 2, ix S0 hl hL 2 (by decide), 7 * n + 3, ix S0 hl hL 3 (by decide), 7 * n + 4, ix S0 hl hL 4 (by decide), by decide, S0.2.2.1.2, ?_⟩
  simp only [e]
  exact q.2
theorem lb_400 (S : scr L h) (I : LawI n h) (hn : n < 512) (hl : 7 * n + 7 ≤ L) (hL : L ≤ 3584) (fin : ∀ h2, LawI (n + 1) h2 → kpS h h2 → Wp 502 328 (3074, lcs n, [], h2) (RI K X)) : Wp 502 328 (400, lcs n, [], h) (RI K X) := by
  refine w328_400 ⟨7 * n + 1, ix S hl hL 1 (by decide), 7 * n + 2, ix S hl hL 2 (by decide), ?_⟩
  refine CI.mono (lw_run (n := n) (lw_merge (x := gI h 1 (7 * n + 1)) (y := gI h 1 (7 * n + 2)) I hn) S (by decide) (fun K X w => m45 ⟨by decide, S.2.2.1.1, CI.mono w (fun _ _ q => q) (fun _ _ q => ex2 q)⟩) fin) (fun y0 h0 q => ?_) (fun _ _ w => w)
  have S0 := scr_kp S q.1
  have e : ∀ i, gI h0 1 i = gI h 1 i := fun i => q.1.2.2 1 (by decide) i
  refine ⟨7 * n + 1, ix S0 hl hL 1 (by decide), 7 * n + 2, ix S0 hl hL 2 (by decide), by decide, S0.2.2.1.2, ?_⟩
  simp only [e]
  exact q.2
theorem lb_468 (S : scr L h) (I : LawI n h) (hn : n < 512) (hl : 7 * n + 7 ≤ L) (hL : L ≤ 3584) (fin : ∀ h2, LawI (n + 1) h2 → kpS h h2 → Wp 502 328 (3074, lcs n, [], h2) (RI K X)) : Wp 502 328 (468, lcs n, [], h) (RI K X) := by
  refine w328_468 ⟨7 * n + 1, ix S hl hL 1 (by decide), 7 * n + 2, ix S hl hL 2 (by decide), 7 * n + 3, ix S hl hL 3 (by decide), 7 * n + 4, ix S hl hL 4 (by decide), ?_⟩
  refine CI.mono (lw_run (n := n) (lw_value (x := gI h 1 (7 * n + 1)) (y := gI h 1 (7 * n + 2)) (z := gI h 1 (7 * n + 3)) (w := gI h 1 (7 * n + 4)) I hn) S (by decide) (fun K X w => m52 ⟨by decide, S.2.2.1.1, CI.mono w (fun _ _ q => q) (fun _ _ q => ex2 q)⟩) fin) (fun y0 h0 q => ?_) (fun _ _ w => w)
  have S0 := scr_kp S q.1
  have e : ∀ i, gI h0 1 i = gI h 1 i := fun i => q.1.2.2 1 (by decide) i
  refine ⟨7 * n + 1, ix S0 hl hL 1 (by decide), 7 * n + 2, ix S0 hl hL 2 (by decide), 7 * n + 3, ix S0 hl hL 3 (by decide), 7 * n + 4, ix S0 hl hL 4 (by decide), by decide, S0.2.2.1.2, ?_⟩
  simp only [e]
  exact q.2
theorem lb_560 (S : scr L h) (I : LawI n h) (hn : n < 512) (hl : 7 * n + 7 ≤ L) (hL : L ≤ 3584) (fin : ∀ h2, LawI (n + 1) h2 → kpS h h2 → Wp 502 328 (3074, lcs n, [], h2) (RI K X)) : Wp 502 328 (560, lcs n, [], h) (RI K X) := by
  refine w328_560 ⟨7 * n + 1, ix S hl hL 1 (by decide), ?_⟩
  refine CI.mono (lw_run (n := n) (lw_last (x := gI h 1 (7 * n + 1)) I hn) S (by decide) (fun K X w => m56 ⟨by decide, S.2.2.1.1, CI.mono w (fun _ _ q => q) (fun _ _ q => ex1 q)⟩) fin) (fun y0 h0 q => ?_) (fun _ _ w => w)
  have S0 := scr_kp S q.1
  have e : ∀ i, gI h0 1 i = gI h 1 i := fun i => q.1.2.2 1 (by decide) i
  refine ⟨7 * n + 1, ix S0 hl hL 1 (by decide), by decide, S0.2.2.1.2, ?_⟩
  simp only [e]
  exact q.2
theorem lb_616 (S : scr L h) (I : LawI n h) (hn : n < 512) (hl : 7 * n + 7 ≤ L) (hL : L ≤ 3584) (fin : ∀ h2, LawI (n + 1) h2 → kpS h h2 → Wp 502 328 (3074, lcs n, [], h2) (RI K X)) : Wp 502 328 (616, lcs n, [], h) (RI K X) := by
  refine w328_616 ⟨7 * n + 1, ix S hl hL 1 (by decide), 7 * n + 2, ix S hl hL 2 (by decide), 7 * n + 3, ix S hl hL 3 (by decide), 7 * n + 4, ix S hl hL 4 (by decide), 7 * n + 5, ix S hl hL 5 (by decide), ?_⟩
  refine CI.mono (lw_run (n := n) (lw_feed (x := gI h 1 (7 * n + 1)) (y := gI h 1 (7 * n + 2)) (z := gI h 1 (7 * n + 3)) (w := gI h 1 (7 * n + 4)) (v := gI h 1 (7 * n + 5)) I hn) S (by decide) (fun K X w => m60 ⟨by decide, S.2.2.1.1, CI.mono w (fun _ _ q => q) (fun _ _ q => ex1 q)⟩) fin) (fun y0 h0 q => ?_) (fun _ _ w => w)
  have S0 := scr_kp S q.1
  have e : ∀ i, gI h0 1 i = gI h 1 i := fun i => q.1.2.2 1 (by decide) i
  refine ⟨7 * n + 1, ix S0 hl hL 1 (by decide), 7 * n + 2, ix S0 hl hL 2 (by decide), 7 * n + 3, ix S0 hl hL 3 (by decide), 7 * n + 4, ix S0 hl hL 4 (by decide), 7 * n + 5, ix S0 hl hL 5 (by decide), by decide, S0.2.2.1.2, ?_⟩
  simp only [e]
  exact q.2
theorem lb_720 (S : scr L h) (I : LawI n h) (hn : n < 512) (hl : 7 * n + 7 ≤ L) (hL : L ≤ 3584) (fin : ∀ h2, LawI (n + 1) h2 → kpS h h2 → Wp 502 328 (3074, lcs n, [], h2) (RI K X)) : Wp 502 328 (720, lcs n, [], h) (RI K X) := by
  refine w328_720 ⟨7 * n + 1, ix S hl hL 1 (by decide), ?_⟩
  refine CI.mono (lw_run (n := n) (lw_trim (x := gI h 1 (7 * n + 1)) I hn) S (by decide) (fun K X w => m63 ⟨by decide, S.2.2.1.1, CI.mono w (fun _ _ q => q) (fun _ _ q => ex1 q)⟩) fin) (fun y0 h0 q => ?_) (fun _ _ w => w)
  have S0 := scr_kp S q.1
  have e : ∀ i, gI h0 1 i = gI h 1 i := fun i => q.1.2.2 1 (by decide) i
  refine ⟨7 * n + 1, ix S0 hl hL 1 (by decide), by decide, S0.2.2.1.2, ?_⟩
  simp only [e]
  exact q.2
theorem lb_776 (S : scr L h) (I : LawI n h) (hn : n < 512) (hl : 7 * n + 7 ≤ L) (hL : L ≤ 3584) (fin : ∀ h2, LawI (n + 1) h2 → kpS h h2 → Wp 502 328 (3074, lcs n, [], h2) (RI K X)) : Wp 502 328 (776, lcs n, [], h) (RI K X) := by
  refine w328_776 ?_
  refine CI.mono (lw_run (n := n) (lw_form  I hn) S (by decide) (fun K X w => m100 ⟨by decide, S.2.2.1.1, CI.mono w (fun _ _ q => q) (fun _ _ q => ex1 q)⟩) fin) (fun y0 h0 q => ?_) (fun _ _ w => w)
  have S0 := scr_kp S q.1
  exact ⟨by decide, S0.2.2.1.2, q.2⟩
theorem lb_820 (S : scr L h) (I : LawI n h) (hn : n < 512) (hl : 7 * n + 7 ≤ L) (hL : L ≤ 3584) (fin : ∀ h2, LawI (n + 1) h2 → kpS h h2 → Wp 502 328 (3074, lcs n, [], h2) (RI K X)) : Wp 502 328 (820, lcs n, [], h) (RI K X) := by
  refine w328_820 ⟨7 * n + 1, ix S hl hL 1 (by decide), 7 * n + 2, ix S hl hL 2 (by decide), 7 * n + 3, ix S hl hL 3 (by decide), ?_⟩
  refine CI.mono (lw_run (n := n) (lw_statement (x := gI h 1 (7 * n + 1)) (y := gI h 1 (7 * n + 2)) (z := gI h 1 (7 * n + 3)) I hn) S (by decide) (fun K X w => m123 ⟨by decide, S.2.2.1.1, CI.mono w (fun _ _ q => q) (fun _ _ q => ex2 q)⟩) fin) (fun y0 h0 q => ?_) (fun _ _ w => w)
  have S0 := scr_kp S q.1
  have e : ∀ i, gI h0 1 i = gI h 1 i := fun i => q.1.2.2 1 (by decide) i
  refine ⟨7 * n + 1, ix S0 hl hL 1 (by decide), 7 * n + 2, ix S0 hl hL 2 (by decide), 7 * n + 3, ix S0 hl hL 3 (by decide), by decide, S0.2.2.1.2, ?_⟩
  simp only [e]
  exact q.2
theorem lb_900 (S : scr L h) (I : LawI n h) (hn : n < 512) (hl : 7 * n + 7 ≤ L) (hL : L ≤ 3584) (fin : ∀ h2, LawI (n + 1) h2 → kpS h h2 → Wp 502 328 (3074, lcs n, [], h2) (RI K X)) : Wp 502 328 (900, lcs n, [], h) (RI K X) := by
  refine w328_900 ⟨7 * n + 1, ix S hl hL 1 (by decide), 7 * n + 2, ix S hl hL 2 (by decide), ?_⟩
  refine CI.mono (lw_run (n := n) (lw_open (x := gI h 1 (7 * n + 1)) (y := gI h 1 (7 * n + 2)) I hn) S (by decide) (fun K X w => m138 ⟨by decide, S.2.2.1.1, CI.mono w (fun _ _ q => q) (fun _ _ q => ex3 q)⟩) fin) (fun y0 h0 q => ?_) (fun _ _ w => w)
  have S0 := scr_kp S q.1
  have e : ∀ i, gI h0 1 i = gI h 1 i := fun i => q.1.2.2 1 (by decide) i
  refine ⟨7 * n + 1, ix S0 hl hL 1 (by decide), 7 * n + 2, ix S0 hl hL 2 (by decide), by decide, S0.2.2.1.2, ?_⟩
  simp only [e]
  exact q.2
theorem lb_968 (S : scr L h) (I : LawI n h) (hn : n < 512) (hl : 7 * n + 7 ≤ L) (hL : L ≤ 3584) (fin : ∀ h2, LawI (n + 1) h2 → kpS h h2 → Wp 502 328 (3074, lcs n, [], h2) (RI K X)) : Wp 502 328 (968, lcs n, [], h) (RI K X) := by
  refine w328_968 ⟨7 * n + 1, ix S hl hL 1 (by decide), ?_⟩
  refine CI.mono (lw_run (n := n) (lw_question (x := gI h 1 (7 * n + 1)) I hn) S (by decide) (fun K X w => m144 ⟨by decide, S.2.2.1.1, CI.mono w (fun _ _ q => q) (fun _ _ q => ex1 q)⟩) fin) (fun y0 h0 q => ?_) (fun _ _ w => w)
  have S0 := scr_kp S q.1
  have e : ∀ i, gI h0 1 i = gI h 1 i := fun i => q.1.2.2 1 (by decide) i
  refine ⟨7 * n + 1, ix S0 hl hL 1 (by decide), by decide, S0.2.2.1.2, ?_⟩
  simp only [e]
  exact q.2
theorem lb_1024 (S : scr L h) (I : LawI n h) (hn : n < 512) (hl : 7 * n + 7 ≤ L) (hL : L ≤ 3584) (fin : ∀ h2, LawI (n + 1) h2 → kpS h h2 → Wp 502 328 (3074, lcs n, [], h2) (RI K X)) : Wp 502 328 (1024, lcs n, [], h) (RI K X) := by
  refine w328_1024 ⟨7 * n + 1, ix S hl hL 1 (by decide), 7 * n + 2, ix S hl hL 2 (by decide), ?_⟩
  refine CI.mono (lw_run (n := n) (lw_answer (x := gI h 1 (7 * n + 1)) (y := gI h 1 (7 * n + 2)) I hn) S (by decide) (fun K X w => m157 ⟨by decide, S.2.2.1.1, CI.mono w (fun _ _ q => q) (fun _ _ q => ex3 q)⟩) fin) (fun y0 h0 q => ?_) (fun _ _ w => w)
  have S0 := scr_kp S q.1
  have e : ∀ i, gI h0 1 i = gI h 1 i := fun i => q.1.2.2 1 (by decide) i
  refine ⟨7 * n + 1, ix S0 hl hL 1 (by decide), 7 * n + 2, ix S0 hl hL 2 (by decide), by decide, S0.2.2.1.2, ?_⟩
  simp only [e]
  exact q.2
theorem lb_1092 (S : scr L h) (I : LawI n h) (hn : n < 512) (hl : 7 * n + 7 ≤ L) (hL : L ≤ 3584) (fin : ∀ h2, LawI (n + 1) h2 → kpS h h2 → Wp 502 328 (3074, lcs n, [], h2) (RI K X)) : Wp 502 328 (1092, lcs n, [], h) (RI K X) := by
  refine w328_1092 ⟨7 * n + 1, ix S hl hL 1 (by decide), ?_⟩
  refine CI.mono (lw_run (n := n) (lw_back (x := gI h 1 (7 * n + 1)) I hn) S (by decide) (fun K X w => m163 ⟨by decide, S.2.2.1.1, CI.mono w (fun _ _ q => q) (fun _ _ q => ex2 q)⟩) fin) (fun y0 h0 q => ?_) (fun _ _ w => w)
  have S0 := scr_kp S q.1
  have e : ∀ i, gI h0 1 i = gI h 1 i := fun i => q.1.2.2 1 (by decide) i
  refine ⟨7 * n + 1, ix S0 hl hL 1 (by decide), by decide, S0.2.2.1.2, ?_⟩
  simp only [e]
  exact q.2
theorem lb_1148 (S : scr L h) (I : LawI n h) (hn : n < 512) (hl : 7 * n + 7 ≤ L) (hL : L ≤ 3584) (fin : ∀ h2, LawI (n + 1) h2 → kpS h h2 → Wp 502 328 (3074, lcs n, [], h2) (RI K X)) : Wp 502 328 (1148, lcs n, [], h) (RI K X) := by
  refine w328_1148 ⟨7 * n + 1, ix S hl hL 1 (by decide), 7 * n + 2, ix S hl hL 2 (by decide), 7 * n + 3, ix S hl hL 3 (by decide), fun z => ?_, fun z => ?_⟩
  · refine CI.mono (lw_run (n := n) (lw_given (x := gI h 1 (7 * n + 1)) (y := gI h 1 (7 * n + 2)) (z := 0) I hn) S (by decide) (fun K X w => m166 ⟨by decide, S.2.2.1.1, CI.mono w (fun _ _ q => q) (fun _ _ q => ex1 q)⟩) fin) (fun y0 h0 q => ?_) (fun _ _ w => w)
    have S0 := scr_kp S q.1
    have e : ∀ i, gI h0 1 i = gI h 1 i := fun i => q.1.2.2 1 (by decide) i
    refine ⟨7 * n + 1, ix S0 hl hL 1 (by decide), 7 * n + 2, ix S0 hl hL 2 (by decide), 7 * n + 3, ix S0 hl hL 3 (by decide), fun z2 => w328_1208 ⟨by decide, S0.2.2.1.2, ?_⟩, fun z2 => absurd z (by rw [e] at z2; exact z2)⟩
    simp only [e]
    exact CI.mono q.2 (fun _ _ w => ⟨by decide, w⟩) (fun _ _ w => w)
  · refine CI.mono (lw_run (n := n) (lw_given (x := gI h 1 (7 * n + 1)) (y := gI h 1 (7 * n + 2)) (z := 1) I hn) S (by decide) (fun K X w => m166 ⟨by decide, S.2.2.1.1, CI.mono w (fun _ _ q => q) (fun _ _ q => ex1 q)⟩) fin) (fun y0 h0 q => ?_) (fun _ _ w => w)
    have S0 := scr_kp S q.1
    have e : ∀ i, gI h0 1 i = gI h 1 i := fun i => q.1.2.2 1 (by decide) i
    refine ⟨7 * n + 1, ix S0 hl hL 1 (by decide), 7 * n + 2, ix S0 hl hL 2 (by decide), 7 * n + 3, ix S0 hl hL 3 (by decide), fun z2 => absurd (by rw [e] at z2; exact z2) z, fun z2 => w328_1208 ⟨by decide, S0.2.2.1.2, ?_⟩⟩
    simp only [e]
    exact CI.mono q.2 (fun _ _ w => ⟨by decide, w⟩) (fun _ _ w => w)
theorem lb_1244 (S : scr L h) (I : LawI n h) (hn : n < 512) (hl : 7 * n + 7 ≤ L) (hL : L ≤ 3584) (fin : ∀ h2, LawI (n + 1) h2 → kpS h h2 → Wp 502 328 (3074, lcs n, [], h2) (RI K X)) : Wp 502 328 (1244, lcs n, [], h) (RI K X) := by
  refine w328_1244 ⟨7 * n + 1, ix S hl hL 1 (by decide), ?_⟩
  refine CI.mono (lw_run (n := n) (lw_close (x := gI h 1 (7 * n + 1)) I hn) S (by decide) (fun K X w => m170 ⟨by decide, S.2.2.1.1, CI.mono w (fun _ _ q => q) (fun _ _ q => ex2 q)⟩) fin) (fun y0 h0 q => ?_) (fun _ _ w => w)
  have S0 := scr_kp S q.1
  have e : ∀ i, gI h0 1 i = gI h 1 i := fun i => q.1.2.2 1 (by decide) i
  refine ⟨7 * n + 1, ix S0 hl hL 1 (by decide), by decide, S0.2.2.1.2, ?_⟩
  simp only [e]
  exact q.2
theorem lb_1300 (S : scr L h) (I : LawI n h) (hn : n < 512) (hl : 7 * n + 7 ≤ L) (hL : L ≤ 3584) (fin : ∀ h2, LawI (n + 1) h2 → kpS h h2 → Wp 502 328 (3074, lcs n, [], h2) (RI K X)) : Wp 502 328 (1300, lcs n, [], h) (RI K X) := by
  refine w328_1300 ⟨7 * n + 1, ix S hl hL 1 (by decide), 7 * n + 2, ix S hl hL 2 (by decide), ?_⟩
  refine CI.mono (lw_run (n := n) (lw_item (x := gI h 1 (7 * n + 1)) (y := gI h 1 (7 * n + 2)) I hn) S (by decide) (fun K X w => m174 ⟨by decide, S.2.2.1.1, CI.mono w (fun _ _ q => q) (fun _ _ q => ex1 q)⟩) fin) (fun y0 h0 q => ?_) (fun _ _ w => w)
  have S0 := scr_kp S q.1
  have e : ∀ i, gI h0 1 i = gI h 1 i := fun i => q.1.2.2 1 (by decide) i
  refine ⟨7 * n + 1, ix S0 hl hL 1 (by decide), 7 * n + 2, ix S0 hl hL 2 (by decide), by decide, S0.2.2.1.2, ?_⟩
  simp only [e]
  exact q.2
theorem lb_1368 (S : scr L h) (I : LawI n h) (hn : n < 512) (hl : 7 * n + 7 ≤ L) (hL : L ≤ 3584) (fin : ∀ h2, LawI (n + 1) h2 → kpS h h2 → Wp 502 328 (3074, lcs n, [], h2) (RI K X)) : Wp 502 328 (1368, lcs n, [], h) (RI K X) := by
  refine w328_1368 ⟨7 * n + 1, ix S hl hL 1 (by decide), 7 * n + 2, ix S hl hL 2 (by decide), ?_⟩
  refine CI.mono (lw_run (n := n) (lw_mark (x := gI h 1 (7 * n + 1)) (y := gI h 1 (7 * n + 2)) I hn) S (by decide) (fun K X w => m179 ⟨by decide, S.2.2.1.1, CI.mono w (fun _ _ q => q) (fun _ _ q => ex1 q)⟩) fin) (fun y0 h0 q => ?_) (fun _ _ w => w)
  have S0 := scr_kp S q.1
  have e : ∀ i, gI h0 1 i = gI h 1 i := fun i => q.1.2.2 1 (by decide) i
  refine ⟨7 * n + 1, ix S0 hl hL 1 (by decide), 7 * n + 2, ix S0 hl hL 2 (by decide), by decide, S0.2.2.1.2, ?_⟩
  simp only [e]
  exact q.2
theorem lb_1436 (S : scr L h) (I : LawI n h) (hn : n < 512) (hl : 7 * n + 7 ≤ L) (hL : L ≤ 3584) (fin : ∀ h2, LawI (n + 1) h2 → kpS h h2 → Wp 502 328 (3074, lcs n, [], h2) (RI K X)) : Wp 502 328 (1436, lcs n, [], h) (RI K X) := by
  refine w328_1436 ⟨7 * n + 1, ix S hl hL 1 (by decide), 7 * n + 2, ix S hl hL 2 (by decide), 7 * n + 3, ix S hl hL 3 (by decide), 7 * n + 4, ix S hl hL 4 (by decide), ?_⟩
  refine CI.mono (lw_run (n := n) (lw_rule (x := gI h 1 (7 * n + 1)) (y := gI h 1 (7 * n + 2)) (z := gI h 1 (7 * n + 3)) (w := gI h 1 (7 * n + 4)) I hn) S (by decide) (fun K X w => m185 ⟨by decide, S.2.2.1.1, CI.mono w (fun _ _ q => q) (fun _ _ q => ex3 q)⟩) fin) (fun y0 h0 q => ?_) (fun _ _ w => w)
  have S0 := scr_kp S q.1
  have e : ∀ i, gI h0 1 i = gI h 1 i := fun i => q.1.2.2 1 (by decide) i
  refine ⟨7 * n + 1, ix S0 hl hL 1 (by decide), 7 * n + 2, ix S0 hl hL 2 (by decide), 7 * n + 3, ix S0 hl hL 3 (by decide), 7 * n + 4, ix S0 hl hL 4 (by decide), by decide, S0.2.2.1.2, ?_⟩
  simp only [e]
  exact q.2
theorem lb_1528 (S : scr L h) (I : LawI n h) (hn : n < 512) (hl : 7 * n + 7 ≤ L) (hL : L ≤ 3584) (fin : ∀ h2, LawI (n + 1) h2 → kpS h h2 → Wp 502 328 (3074, lcs n, [], h2) (RI K X)) : Wp 502 328 (1528, lcs n, [], h) (RI K X) := by
  refine w328_1528 ⟨7 * n + 1, ix S hl hL 1 (by decide), 7 * n + 2, ix S hl hL 2 (by decide), 7 * n + 3, ix S hl hL 3 (by decide), ?_⟩
  refine CI.mono (lw_run (n := n) (lw_cost (x := gI h 1 (7 * n + 1)) (y := gI h 1 (7 * n + 2)) (z := gI h 1 (7 * n + 3)) I hn) S (by decide) (fun K X w => m189 ⟨by decide, S.2.2.1.1, CI.mono w (fun _ _ q => q) (fun _ _ q => ex2 q)⟩) fin) (fun y0 h0 q => ?_) (fun _ _ w => w)
  have S0 := scr_kp S q.1
  have e : ∀ i, gI h0 1 i = gI h 1 i := fun i => q.1.2.2 1 (by decide) i
  refine ⟨7 * n + 1, ix S0 hl hL 1 (by decide), 7 * n + 2, ix S0 hl hL 2 (by decide), 7 * n + 3, ix S0 hl hL 3 (by decide), by decide, S0.2.2.1.2, ?_⟩
  simp only [e]
  exact q.2
theorem lb_1608 (S : scr L h) (I : LawI n h) (hn : n < 512) (hl : 7 * n + 7 ≤ L) (hL : L ≤ 3584) (fin : ∀ h2, LawI (n + 1) h2 → kpS h h2 → Wp 502 328 (3074, lcs n, [], h2) (RI K X)) : Wp 502 328 (1608, lcs n, [], h) (RI K X) := by
  refine w328_1608 ⟨7 * n + 1, ix S hl hL 1 (by decide), 7 * n + 2, ix S hl hL 2 (by decide), ?_⟩
  refine CI.mono (lw_run (n := n) (lw_broken (x := gI h 1 (7 * n + 1)) (y := gI h 1 (7 * n + 2)) I hn) S (by decide) (fun K X w => m196 ⟨by decide, S.2.2.1.1, CI.mono w (fun _ _ q => q) (fun _ _ q => ex1 q)⟩) fin) (fun y0 h0 q => ?_) (fun _ _ w => w)
  have S0 := scr_kp S q.1
  have e : ∀ i, gI h0 1 i = gI h 1 i := fun i => q.1.2.2 1 (by decide) i
  refine ⟨7 * n + 1, ix S0 hl hL 1 (by decide), 7 * n + 2, ix S0 hl hL 2 (by decide), by decide, S0.2.2.1.2, ?_⟩
  simp only [e]
  exact q.2
theorem lb_1676 (S : scr L h) (I : LawI n h) (hn : n < 512) (hl : 7 * n + 7 ≤ L) (hL : L ≤ 3584) (fin : ∀ h2, LawI (n + 1) h2 → kpS h h2 → Wp 502 328 (3074, lcs n, [], h2) (RI K X)) : Wp 502 328 (1676, lcs n, [], h) (RI K X) := by
  refine w328_1676 ⟨7 * n + 1, ix S hl hL 1 (by decide), 7 * n + 2, ix S hl hL 2 (by decide), fun z => ?_, fun z => ?_⟩
  · refine CI.mono (lw_run (n := n) (lw_least (x := gI h 1 (7 * n + 1)) (y := 0) I hn) S (by decide) (fun K X w => m208 ⟨by decide, S.2.2.1.1, CI.mono w (fun _ _ q => q) (fun _ _ q => ex1 q)⟩) fin) (fun y0 h0 q => ?_) (fun _ _ w => w)
    have S0 := scr_kp S q.1
    have e : ∀ i, gI h0 1 i = gI h 1 i := fun i => q.1.2.2 1 (by decide) i
    refine ⟨7 * n + 1, ix S0 hl hL 1 (by decide), 7 * n + 2, ix S0 hl hL 2 (by decide), fun z2 => w328_1724 ⟨by decide, S0.2.2.1.2, ?_⟩, fun z2 => absurd z (by rw [e] at z2; exact z2)⟩
    simp only [e]
    exact CI.mono q.2 (fun _ _ w => ⟨by decide, w⟩) (fun _ _ w => w)
  · refine CI.mono (lw_run (n := n) (lw_least (x := gI h 1 (7 * n + 1)) (y := 1) I hn) S (by decide) (fun K X w => m208 ⟨by decide, S.2.2.1.1, CI.mono w (fun _ _ q => q) (fun _ _ q => ex1 q)⟩) fin) (fun y0 h0 q => ?_) (fun _ _ w => w)
    have S0 := scr_kp S q.1
    have e : ∀ i, gI h0 1 i = gI h 1 i := fun i => q.1.2.2 1 (by decide) i
    refine ⟨7 * n + 1, ix S0 hl hL 1 (by decide), 7 * n + 2, ix S0 hl hL 2 (by decide), fun z2 => absurd (by rw [e] at z2; exact z2) z, fun z2 => w328_1724 ⟨by decide, S0.2.2.1.2, ?_⟩⟩
    simp only [e]
    exact CI.mono q.2 (fun _ _ w => ⟨by decide, w⟩) (fun _ _ w => w)
theorem lb_1760 (S : scr L h) (I : LawI n h) (hn : n < 512) (hl : 7 * n + 7 ≤ L) (hL : L ≤ 3584) (fin : ∀ h2, LawI (n + 1) h2 → kpS h h2 → Wp 502 328 (3074, lcs n, [], h2) (RI K X)) : Wp 502 328 (1760, lcs n, [], h) (RI K X) := by
  refine w328_1760 ⟨7 * n + 1, ix S hl hL 1 (by decide), 7 * n + 2, ix S hl hL 2 (by decide), ?_⟩
  refine CI.mono (lw_run (n := n) (lw_impute (x := gI h 1 (7 * n + 1)) (y := gI h 1 (7 * n + 2)) I hn) S (by decide) (fun K X w => m222 ⟨by decide, S.2.2.1.1, CI.mono w (fun _ _ q => q) (fun _ _ q => ex3 q)⟩) fin) (fun y0 h0 q => ?_) (fun _ _ w => w)
  have S0 := scr_kp S q.1
  have e : ∀ i, gI h0 1 i = gI h 1 i := fun i => q.1.2.2 1 (by decide) i
  refine ⟨7 * n + 1, ix S0 hl hL 1 (by decide), 7 * n + 2, ix S0 hl hL 2 (by decide), by decide, S0.2.2.1.2, ?_⟩
  simp only [e]
  exact q.2
theorem lb_1828 (S : scr L h) (I : LawI n h) (hn : n < 512) (hl : 7 * n + 7 ≤ L) (hL : L ≤ 3584) (fin : ∀ h2, LawI (n + 1) h2 → kpS h h2 → Wp 502 328 (3074, lcs n, [], h2) (RI K X)) : Wp 502 328 (1828, lcs n, [], h) (RI K X) := by
  refine w328_1828 ⟨7 * n + 1, ix S hl hL 1 (by decide), 7 * n + 2, ix S hl hL 2 (by decide), 7 * n + 3, ix S hl hL 3 (by decide), 7 * n + 4, ix S hl hL 4 (by decide), 7 * n + 5, ix S hl hL 5 (by decide), 7 * n + 6, ix S hl hL 6 (by decide), ?_⟩
  refine CI.mono (lw_run (n := n) (lw_sample (x := gI h 1 (7 * n + 1)) (y := gI h 1 (7 * n + 2)) (z := gI h 1 (7 * n + 3)) (w := gI h 1 (7 * n + 4)) (v := gI h 1 (7 * n + 5)) (u := gI h 1 (7 * n + 6)) I hn) S (by decide) (fun K X w => m237 ⟨by decide, S.2.2.1.1, CI.mono w (fun _ _ q => q) (fun _ _ q => ex3 q)⟩) fin) (fun y0 h0 q => ?_) (fun _ _ w => w)
  have S0 := scr_kp S q.1
  have e : ∀ i, gI h0 1 i = gI h 1 i := fun i => q.1.2.2 1 (by decide) i
  refine ⟨7 * n + 1, ix S0 hl hL 1 (by decide), 7 * n + 2, ix S0 hl hL 2 (by decide), 7 * n + 3, ix S0 hl hL 3 (by decide), 7 * n + 4, ix S0 hl hL 4 (by decide), 7 * n + 5, ix S0 hl hL 5 (by decide), 7 * n + 6, ix S0 hl hL 6 (by decide), by decide, S0.2.2.1.2, ?_⟩
  simp only [e]
  exact q.2
theorem lb_1946 (S : scr L h) (I : LawI n h) (hn : n < 512) (hl : 7 * n + 7 ≤ L) (hL : L ≤ 3584) (fin : ∀ h2, LawI (n + 1) h2 → kpS h h2 → Wp 502 328 (3074, lcs n, [], h2) (RI K X)) : Wp 502 328 (1946, lcs n, [], h) (RI K X) := by
  refine w328_1946 ⟨7 * n + 1, ix S hl hL 1 (by decide), 7 * n + 2, ix S hl hL 2 (by decide), ?_⟩
  refine CI.mono (lw_run (n := n) (lw_drawn (x := gI h 1 (7 * n + 1)) (y := gI h 1 (7 * n + 2)) I hn) S (by decide) (fun K X w => m245 ⟨by decide, S.2.2.1.1, CI.mono w (fun _ _ q => q) (fun _ _ q => ex1 q)⟩) fin) (fun y0 h0 q => ?_) (fun _ _ w => w)
  have S0 := scr_kp S q.1
  have e : ∀ i, gI h0 1 i = gI h 1 i := fun i => q.1.2.2 1 (by decide) i
  refine ⟨7 * n + 1, ix S0 hl hL 1 (by decide), 7 * n + 2, ix S0 hl hL 2 (by decide), by decide, S0.2.2.1.2, ?_⟩
  simp only [e]
  exact q.2
theorem lb_2014 (S : scr L h) (I : LawI n h) (hn : n < 512) (hl : 7 * n + 7 ≤ L) (hL : L ≤ 3584) (fin : ∀ h2, LawI (n + 1) h2 → kpS h h2 → Wp 502 328 (3074, lcs n, [], h2) (RI K X)) : Wp 502 328 (2014, lcs n, [], h) (RI K X) := by
  refine w328_2014 ⟨7 * n + 1, ix S hl hL 1 (by decide), 7 * n + 2, ix S hl hL 2 (by decide), 7 * n + 3, ix S hl hL 3 (by decide), fun z => ?_, fun z => ?_⟩
  · refine CI.mono (lw_run (n := n) (lw_chance (x := gI h 1 (7 * n + 1)) (y := gI h 1 (7 * n + 2)) (z := 0) I hn) S (by decide) (fun K X w => m251 ⟨by decide, S.2.2.1.1, CI.mono w (fun _ _ q => q) (fun _ _ q => ex1 q)⟩) fin) (fun y0 h0 q => ?_) (fun _ _ w => w)
    have S0 := scr_kp S q.1
    have e : ∀ i, gI h0 1 i = gI h 1 i := fun i => q.1.2.2 1 (by decide) i
    refine ⟨7 * n + 1, ix S0 hl hL 1 (by decide), 7 * n + 2, ix S0 hl hL 2 (by decide), 7 * n + 3, ix S0 hl hL 3 (by decide), fun z2 => w328_2074 ⟨by decide, S0.2.2.1.2, ?_⟩, fun z2 => absurd z (by rw [e] at z2; exact z2)⟩
    simp only [e]
    exact CI.mono q.2 (fun _ _ w => ⟨by decide, w⟩) (fun _ _ w => w)
  · refine CI.mono (lw_run (n := n) (lw_chance (x := gI h 1 (7 * n + 1)) (y := gI h 1 (7 * n + 2)) (z := 1) I hn) S (by decide) (fun K X w => m251 ⟨by decide, S.2.2.1.1, CI.mono w (fun _ _ q => q) (fun _ _ q => ex1 q)⟩) fin) (fun y0 h0 q => ?_) (fun _ _ w => w)
    have S0 := scr_kp S q.1
    have e : ∀ i, gI h0 1 i = gI h 1 i := fun i => q.1.2.2 1 (by decide) i
    refine ⟨7 * n + 1, ix S0 hl hL 1 (by decide), 7 * n + 2, ix S0 hl hL 2 (by decide), 7 * n + 3, ix S0 hl hL 3 (by decide), fun z2 => absurd (by rw [e] at z2; exact z2) z, fun z2 => w328_2074 ⟨by decide, S0.2.2.1.2, ?_⟩⟩
    simp only [e]
    exact CI.mono q.2 (fun _ _ w => ⟨by decide, w⟩) (fun _ _ w => w)
theorem lb_2110 (S : scr L h) (I : LawI n h) (hn : n < 512) (hl : 7 * n + 7 ≤ L) (hL : L ≤ 3584) (fin : ∀ h2, LawI (n + 1) h2 → kpS h h2 → Wp 502 328 (3074, lcs n, [], h2) (RI K X)) : Wp 502 328 (2110, lcs n, [], h) (RI K X) := by
  refine w328_2110 ⟨7 * n + 1, ix S hl hL 1 (by decide), 7 * n + 2, ix S hl hL 2 (by decide), ?_⟩
  refine CI.mono (lw_run (n := n) (lw_overlap (x := gI h 1 (7 * n + 1)) (y := gI h 1 (7 * n + 2)) I hn) S (by decide) (fun K X w => m256 ⟨by decide, S.2.2.1.1, CI.mono w (fun _ _ q => q) (fun _ _ q => ex1 q)⟩) fin) (fun y0 h0 q => ?_) (fun _ _ w => w)
  have S0 := scr_kp S q.1
  have e : ∀ i, gI h0 1 i = gI h 1 i := fun i => q.1.2.2 1 (by decide) i
  refine ⟨7 * n + 1, ix S0 hl hL 1 (by decide), 7 * n + 2, ix S0 hl hL 2 (by decide), by decide, S0.2.2.1.2, ?_⟩
  simp only [e]
  exact q.2
theorem lb_2178 (S : scr L h) (I : LawI n h) (hn : n < 512) (hl : 7 * n + 7 ≤ L) (hL : L ≤ 3584) (fin : ∀ h2, LawI (n + 1) h2 → kpS h h2 → Wp 502 328 (3074, lcs n, [], h2) (RI K X)) : Wp 502 328 (2178, lcs n, [], h) (RI K X) := by
  refine w328_2178 ⟨7 * n + 1, ix S hl hL 1 (by decide), 7 * n + 2, ix S hl hL 2 (by decide), 7 * n + 3, ix S hl hL 3 (by decide), 7 * n + 4, ix S hl hL 4 (by decide), 7 * n + 5, ix S hl hL 5 (by decide), ?_⟩
  refine CI.mono (lw_run (n := n) (lw_table (x := gI h 1 (7 * n + 1)) (y := gI h 1 (7 * n + 2)) (z := gI h 1 (7 * n + 3)) (w := gI h 1 (7 * n + 4)) (v := gI h 1 (7 * n + 5)) I hn) S (by decide) (fun K X w => m265 ⟨by decide, S.2.2.1.1, CI.mono w (fun _ _ q => q) (fun _ _ q => ex3 q)⟩) fin) (fun y0 h0 q => ?_) (fun _ _ w => w)
  have S0 := scr_kp S q.1
  have e : ∀ i, gI h0 1 i = gI h 1 i := fun i => q.1.2.2 1 (by decide) i
  refine ⟨7 * n + 1, ix S0 hl hL 1 (by decide), 7 * n + 2, ix S0 hl hL 2 (by decide), 7 * n + 3, ix S0 hl hL 3 (by decide), 7 * n + 4, ix S0 hl hL 4 (by decide), 7 * n + 5, ix S0 hl hL 5 (by decide), by decide, S0.2.2.1.2, ?_⟩
  simp only [e]
  exact q.2
theorem lb_2282 (S : scr L h) (I : LawI n h) (hn : n < 512) (hl : 7 * n + 7 ≤ L) (hL : L ≤ 3584) (fin : ∀ h2, LawI (n + 1) h2 → kpS h h2 → Wp 502 328 (3074, lcs n, [], h2) (RI K X)) : Wp 502 328 (2282, lcs n, [], h) (RI K X) := by
  refine w328_2282 ⟨7 * n + 1, ix S hl hL 1 (by decide), 7 * n + 2, ix S hl hL 2 (by decide), 7 * n + 3, ix S hl hL 3 (by decide), 7 * n + 4, ix S hl hL 4 (by decide), ?_⟩
  refine CI.mono (lw_run (n := n) (lw_cell (x := gI h 1 (7 * n + 1)) (y := gI h 1 (7 * n + 2)) (z := gI h 1 (7 * n + 3)) (w := gI h 1 (7 * n + 4)) I hn) S (by decide) (fun K X w => m273 ⟨by decide, S.2.2.1.1, CI.mono w (fun _ _ q => q) (fun _ _ q => ex2 q)⟩) fin) (fun y0 h0 q => ?_) (fun _ _ w => w)
  have S0 := scr_kp S q.1
  have e : ∀ i, gI h0 1 i = gI h 1 i := fun i => q.1.2.2 1 (by decide) i
  refine ⟨7 * n + 1, ix S0 hl hL 1 (by decide), 7 * n + 2, ix S0 hl hL 2 (by decide), 7 * n + 3, ix S0 hl hL 3 (by decide), 7 * n + 4, ix S0 hl hL 4 (by decide), by decide, S0.2.2.1.2, ?_⟩
  simp only [e]
  exact q.2
theorem lb_2374 (S : scr L h) (I : LawI n h) (hn : n < 512) (hl : 7 * n + 7 ≤ L) (hL : L ≤ 3584) (fin : ∀ h2, LawI (n + 1) h2 → kpS h h2 → Wp 502 328 (3074, lcs n, [], h2) (RI K X)) : Wp 502 328 (2374, lcs n, [], h) (RI K X) := by
  refine w328_2374 ⟨7 * n + 1, ix S hl hL 1 (by decide), 7 * n + 2, ix S hl hL 2 (by decide), 7 * n + 3, ix S hl hL 3 (by decide), 7 * n + 4, ix S hl hL 4 (by decide), ?_⟩
  refine CI.mono (lw_run (n := n) (lw_secrecy (x := gI h 1 (7 * n + 1)) (y := gI h 1 (7 * n + 2)) (z := gI h 1 (7 * n + 3)) (w := gI h 1 (7 * n + 4)) I hn) S (by decide) (fun K X w => m285 ⟨by decide, S.2.2.1.1, CI.mono w (fun _ _ q => q) (fun _ _ q => ex2 q)⟩) fin) (fun y0 h0 q => ?_) (fun _ _ w => w)
  have S0 := scr_kp S q.1
  have e : ∀ i, gI h0 1 i = gI h 1 i := fun i => q.1.2.2 1 (by decide) i
  refine ⟨7 * n + 1, ix S0 hl hL 1 (by decide), 7 * n + 2, ix S0 hl hL 2 (by decide), 7 * n + 3, ix S0 hl hL 3 (by decide), 7 * n + 4, ix S0 hl hL 4 (by decide), by decide, S0.2.2.1.2, ?_⟩
  simp only [e]
  exact q.2
theorem lb_2466 (S : scr L h) (I : LawI n h) (hn : n < 512) (hl : 7 * n + 7 ≤ L) (hL : L ≤ 3584) (fin : ∀ h2, LawI (n + 1) h2 → kpS h h2 → Wp 502 328 (3074, lcs n, [], h2) (RI K X)) : Wp 502 328 (2466, lcs n, [], h) (RI K X) := by
  refine w328_2466 ⟨7 * n + 1, ix S hl hL 1 (by decide), 7 * n + 2, ix S hl hL 2 (by decide), 7 * n + 3, ix S hl hL 3 (by decide), ?_⟩
  refine CI.mono (lw_run (n := n) (lw_secret (x := gI h 1 (7 * n + 1)) (y := gI h 1 (7 * n + 2)) (z := gI h 1 (7 * n + 3)) I hn) S (by decide) (fun K X w => m292 ⟨by decide, S.2.2.1.1, CI.mono w (fun _ _ q => q) (fun _ _ q => ex1 q)⟩) fin) (fun y0 h0 q => ?_) (fun _ _ w => w)
  have S0 := scr_kp S q.1
  have e : ∀ i, gI h0 1 i = gI h 1 i := fun i => q.1.2.2 1 (by decide) i
  refine ⟨7 * n + 1, ix S0 hl hL 1 (by decide), 7 * n + 2, ix S0 hl hL 2 (by decide), 7 * n + 3, ix S0 hl hL 3 (by decide), by decide, S0.2.2.1.2, ?_⟩
  simp only [e]
  exact q.2
theorem lb_2546 (S : scr L h) (I : LawI n h) (hn : n < 512) (hl : 7 * n + 7 ≤ L) (hL : L ≤ 3584) (fin : ∀ h2, LawI (n + 1) h2 → kpS h h2 → Wp 502 328 (3074, lcs n, [], h2) (RI K X)) : Wp 502 328 (2546, lcs n, [], h) (RI K X) := by
  refine w328_2546 ⟨7 * n + 1, ix S hl hL 1 (by decide), 7 * n + 2, ix S hl hL 2 (by decide), 7 * n + 3, ix S hl hL 3 (by decide), 7 * n + 4, ix S hl hL 4 (by decide), fun z => ?_, fun z => ?_⟩
  · refine CI.mono (lw_run (n := n) (lw_interval (x := gI h 1 (7 * n + 1)) (y := gI h 1 (7 * n + 2)) (z := gI h 1 (7 * n + 3)) (w := 0) I hn) S (by decide) (fun K X w => m298 ⟨by decide, S.2.2.1.1, CI.mono w (fun _ _ q => q) (fun _ _ q => ex1 q)⟩) fin) (fun y0 h0 q => ?_) (fun _ _ w => w)
    have S0 := scr_kp S q.1
    have e : ∀ i, gI h0 1 i = gI h 1 i := fun i => q.1.2.2 1 (by decide) i
    refine ⟨7 * n + 1, ix S0 hl hL 1 (by decide), 7 * n + 2, ix S0 hl hL 2 (by decide), 7 * n + 3, ix S0 hl hL 3 (by decide), 7 * n + 4, ix S0 hl hL 4 (by decide), fun z2 => w328_2618 ⟨by decide, S0.2.2.1.2, ?_⟩, fun z2 => absurd z (by rw [e] at z2; exact z2)⟩
    simp only [e]
    exact CI.mono q.2 (fun _ _ w => ⟨by decide, w⟩) (fun _ _ w => w)
  · refine CI.mono (lw_run (n := n) (lw_interval (x := gI h 1 (7 * n + 1)) (y := gI h 1 (7 * n + 2)) (z := gI h 1 (7 * n + 3)) (w := 1) I hn) S (by decide) (fun K X w => m298 ⟨by decide, S.2.2.1.1, CI.mono w (fun _ _ q => q) (fun _ _ q => ex1 q)⟩) fin) (fun y0 h0 q => ?_) (fun _ _ w => w)
    have S0 := scr_kp S q.1
    have e : ∀ i, gI h0 1 i = gI h 1 i := fun i => q.1.2.2 1 (by decide) i
    refine ⟨7 * n + 1, ix S0 hl hL 1 (by decide), 7 * n + 2, ix S0 hl hL 2 (by decide), 7 * n + 3, ix S0 hl hL 3 (by decide), 7 * n + 4, ix S0 hl hL 4 (by decide), fun z2 => absurd (by rw [e] at z2; exact z2) z, fun z2 => w328_2618 ⟨by decide, S0.2.2.1.2, ?_⟩⟩
    simp only [e]
    exact CI.mono q.2 (fun _ _ w => ⟨by decide, w⟩) (fun _ _ w => w)
theorem lb_2654 (S : scr L h) (I : LawI n h) (hn : n < 512) (hl : 7 * n + 7 ≤ L) (hL : L ≤ 3584) (fin : ∀ h2, LawI (n + 1) h2 → kpS h h2 → Wp 502 328 (3074, lcs n, [], h2) (RI K X)) : Wp 502 328 (2654, lcs n, [], h) (RI K X) := by
  refine w328_2654 ⟨7 * n + 1, ix S hl hL 1 (by decide), 7 * n + 2, ix S hl hL 2 (by decide), ?_⟩
  refine CI.mono (lw_run (n := n) (lw_round (x := gI h 1 (7 * n + 1)) (y := gI h 1 (7 * n + 2)) I hn) S (by decide) (fun K X w => m305 ⟨by decide, S.2.2.1.1, CI.mono w (fun _ _ q => q) (fun _ _ q => ex2 q)⟩) fin) (fun y0 h0 q => ?_) (fun _ _ w => w)
  have S0 := scr_kp S q.1
  have e : ∀ i, gI h0 1 i = gI h 1 i := fun i => q.1.2.2 1 (by decide) i
  refine ⟨7 * n + 1, ix S0 hl hL 1 (by decide), 7 * n + 2, ix S0 hl hL 2 (by decide), by decide, S0.2.2.1.2, ?_⟩
  simp only [e]
  exact q.2
theorem lb_2722 (S : scr L h) (I : LawI n h) (hn : n < 512) (hl : 7 * n + 7 ≤ L) (hL : L ≤ 3584) (fin : ∀ h2, LawI (n + 1) h2 → kpS h h2 → Wp 502 328 (3074, lcs n, [], h2) (RI K X)) : Wp 502 328 (2722, lcs n, [], h) (RI K X) := by
  refine w328_2722 ⟨7 * n + 1, ix S hl hL 1 (by decide), ?_⟩
  refine CI.mono (lw_run (n := n) (lw_person (x := gI h 1 (7 * n + 1)) I hn) S (by decide) (fun K X w => m310 ⟨by decide, S.2.2.1.1, CI.mono w (fun _ _ q => q) (fun _ _ q => ex2 q)⟩) fin) (fun y0 h0 q => ?_) (fun _ _ w => w)
  have S0 := scr_kp S q.1
  have e : ∀ i, gI h0 1 i = gI h 1 i := fun i => q.1.2.2 1 (by decide) i
  refine ⟨7 * n + 1, ix S0 hl hL 1 (by decide), by decide, S0.2.2.1.2, ?_⟩
  simp only [e]
  exact q.2
theorem lb_2778 (S : scr L h) (I : LawI n h) (hn : n < 512) (hl : 7 * n + 7 ≤ L) (hL : L ≤ 3584) (fin : ∀ h2, LawI (n + 1) h2 → kpS h h2 → Wp 502 328 (3074, lcs n, [], h2) (RI K X)) : Wp 502 328 (2778, lcs n, [], h) (RI K X) := by
  refine w328_2778 ⟨7 * n + 1, ix S hl hL 1 (by decide), 7 * n + 2, ix S hl hL 2 (by decide), 7 * n + 3, ix S hl hL 3 (by decide), ?_⟩
  refine CI.mono (lw_run (n := n) (lw_release (x := gI h 1 (7 * n + 1)) (y := gI h 1 (7 * n + 2)) (z := gI h 1 (7 * n + 3)) I hn) S (by decide) (fun K X w => m315 ⟨by decide, S.2.2.1.1, CI.mono w (fun _ _ q => q) (fun _ _ q => ex4 q)⟩) fin) (fun y0 h0 q => ?_) (fun _ _ w => w)
  have S0 := scr_kp S q.1
  have e : ∀ i, gI h0 1 i = gI h 1 i := fun i => q.1.2.2 1 (by decide) i
  refine ⟨7 * n + 1, ix S0 hl hL 1 (by decide), 7 * n + 2, ix S0 hl hL 2 (by decide), 7 * n + 3, ix S0 hl hL 3 (by decide), by decide, S0.2.2.1.2, ?_⟩
  simp only [e]
  exact q.2
theorem lb_2858 (S : scr L h) (I : LawI n h) (hn : n < 512) (hl : 7 * n + 7 ≤ L) (hL : L ≤ 3584) (fin : ∀ h2, LawI (n + 1) h2 → kpS h h2 → Wp 502 328 (3074, lcs n, [], h2) (RI K X)) : Wp 502 328 (2858, lcs n, [], h) (RI K X) := by
  refine w328_2858 ⟨7 * n + 1, ix S hl hL 1 (by decide), 7 * n + 2, ix S hl hL 2 (by decide), 7 * n + 3, ix S hl hL 3 (by decide), 7 * n + 4, ix S hl hL 4 (by decide), ?_⟩
  refine CI.mono (lw_run (n := n) (lw_look (x := gI h 1 (7 * n + 1)) (y := gI h 1 (7 * n + 2)) (z := gI h 1 (7 * n + 3)) (w := gI h 1 (7 * n + 4)) I hn) S (by decide) (fun K X w => m320 ⟨by decide, S.2.2.1.1, CI.mono w (fun _ _ q => q) (fun _ _ q => ex2 q)⟩) fin) (fun y0 h0 q => ?_) (fun _ _ w => w)
  have S0 := scr_kp S q.1
  have e : ∀ i, gI h0 1 i = gI h 1 i := fun i => q.1.2.2 1 (by decide) i
  refine ⟨7 * n + 1, ix S0 hl hL 1 (by decide), 7 * n + 2, ix S0 hl hL 2 (by decide), 7 * n + 3, ix S0 hl hL 3 (by decide), 7 * n + 4, ix S0 hl hL 4 (by decide), by decide, S0.2.2.1.2, ?_⟩
  simp only [e]
  exact q.2
theorem lb_2950 (S : scr L h) (I : LawI n h) (hn : n < 512) (hl : 7 * n + 7 ≤ L) (hL : L ≤ 3584) (fin : ∀ h2, LawI (n + 1) h2 → kpS h h2 → Wp 502 328 (3074, lcs n, [], h2) (RI K X)) : Wp 502 328 (2950, lcs n, [], h) (RI K X) := by
  refine w328_2950 ⟨7 * n + 1, ix S hl hL 1 (by decide), 7 * n + 2, ix S hl hL 2 (by decide), ?_⟩
  refine CI.mono (lw_run (n := n) (lw_looked (x := gI h 1 (7 * n + 1)) (y := gI h 1 (7 * n + 2)) I hn) S (by decide) (fun K X w => m323 ⟨by decide, S.2.2.1.1, CI.mono w (fun _ _ q => q) (fun _ _ q => ex2 q)⟩) fin) (fun y0 h0 q => ?_) (fun _ _ w => w)
  have S0 := scr_kp S q.1
  have e : ∀ i, gI h0 1 i = gI h 1 i := fun i => q.1.2.2 1 (by decide) i
  refine ⟨7 * n + 1, ix S0 hl hL 1 (by decide), 7 * n + 2, ix S0 hl hL 2 (by decide), by decide, S0.2.2.1.2, ?_⟩
  simp only [e]
  exact q.2
theorem lb_3018 (S : scr L h) (I : LawI n h) (hn : n < 512) (hl : 7 * n + 7 ≤ L) (hL : L ≤ 3584) (fin : ∀ h2, LawI (n + 1) h2 → kpS h h2 → Wp 502 328 (3074, lcs n, [], h2) (RI K X)) : Wp 502 328 (3018, lcs n, [], h) (RI K X) := by
  refine w328_3018 ⟨7 * n + 1, ix S hl hL 1 (by decide), ?_⟩
  refine CI.mono (lw_run (n := n) (lw_told (x := gI h 1 (7 * n + 1)) I hn) S (by decide) (fun K X w => m326 ⟨by decide, S.2.2.1.1, CI.mono w (fun _ _ q => q) (fun _ _ q => ex1 q)⟩) fin) (fun y0 h0 q => ?_) (fun _ _ w => w)
  have S0 := scr_kp S q.1
  have e : ∀ i, gI h0 1 i = gI h 1 i := fun i => q.1.2.2 1 (by decide) i
  refine ⟨7 * n + 1, ix S0 hl hL 1 (by decide), by decide, S0.2.2.1.2, ?_⟩
  simp only [e]
  exact q.2
end LW3
