/-! THE LAW: one row a call (written by wip/tools/genlaw.py) -/
section LW2
variable {n : Nat} {h : aH} {x y z w v u : Int32}
theorem RelA_o2 {h h2 : aH} {A A1 o o1 : Nat → Nat} {C9 : Nat → Prop} {nt nk : Nat} {as fs : List Nat} {n q : Nat} (b : base h o) (S : RelA h A o (gI h) nt nk) (n12 : nt ≤ 12) (l : left h h2 A A1 o o1 C9 as fs n q) (hc : ¬ C9 10) (hc9 : ¬ C9 9) (ha : ∀ a ∈ as, a ≠ 90 ∧ a ≠ 91 ∧ ¬ (100 ≤ a ∧ a ≤ 105)) (hf : 82 ∉ fs) : RelA h2 A1 o1 (gI h2) nt nk := by
  refine RelA_left b S l hc (fun t ht => ⟨l.2.1.2.2 _ (by unfold bT; rw [show (9001000 + 100 * t) / 1000000 = 9 by omega]; rintro (q | q | q); exact hc9 q; omega; omega), ?_, ?_⟩) (Nat.le_refl _) (fun a h1 => (ha a h1).2.2) hf
  · rw [l.2.2.1.1 90 (by decide) (by decide) (fun w => (ha 90 w).1 rfl)]
  · rw [l.2.2.1.1 91 (by decide) (by decide) (fun w => (ha 91 w).2.1 rfl)]
theorem gn_ok {a b c n : Nat} (h1 : a ≤ b + c) (h2 : b ≤ 108 + 13 * n) (h3 : c ≤ 13) : a ≤ 108 + 13 * (n + 1) := by omega
theorem gt_ok {a b c n : Nat} (h1 : a ≤ b + c) (h2 : b ≤ 100000 + 6200 * n) (h3 : c ≤ 6200) : a ≤ 100000 + 6200 * (n + 1) := by omega
theorem th_rule {h h2 : aH} {A A1 o o1 : Nat → Nat} {C : Nat → Prop} {as fs : List Nat} {m q nf : Nat} (t : ∃ th, gI h 44 27 = nI th ∧ th ≤ 1200 * nf ∧ ∀ f, f < nf → ∀ s, s < cnM (gI h) f → (gI h 60 (20 * f + s)).toInt ≤ th ∧ (gI h 62 (20 * f + s)).toInt ≤ th) (l : left h h2 A A1 o o1 C as fs m q) (ha : ∀ a ∈ as, a ≠ 53 ∧ a ≠ 60 ∧ a ≠ 62) (hf : 27 ∉ fs) : ∃ th, gI h2 44 27 = nI th ∧ th ≤ 1200 * nf ∧ ∀ f, f < nf → ∀ s, s < cnM (gI h2) f → (gI h2 60 (20 * f + s)).toInt ≤ th ∧ (gI h2 62 (20 * f + s)).toInt ≤ th := by
  obtain ⟨-, -, ⟨l3, l4, -⟩, -⟩ := l
  obtain ⟨th, t1, t2, t3⟩ := t
  have m : ∀ a, a = 53 ∨ a = 60 ∨ a = 62 → gI h2 a = gI h a := fun a ha2 => l3 a (by omega) (by omega) (fun w => by have := ha a w; omega)
  refine ⟨th, by rw [l4 27 (by decide) hf]; exact t1, t2, fun f hf s hs => ?_⟩
  unfold cnM at hs
  rw [m 53 (by omega)] at hs
  rw [m 60 (by omega), m 62 (by omega)]
  exact t3 f hf s hs
theorem lw_tick (I : LawI n h) (hn9 : n < 512) : Pr 12 16 [vI x] [1] h (LawI (n + 1)) := by
  obtain ⟨A, o, E, Cn, U, T, L, nf, ns, nr, nm, nt, np, nk, nl, ⟨b, Rg, mm, tp⟩, ⟨F, th⟩, ⟨S, R, hcl⟩, ⟨Sm, Tb, P, Rl, Lk⟩, ⟨q1, q2⟩, gn, gt⟩ := I
  have nl5 := Lk.1.2
  refine Pr_mono (pr_tick b Rg mm) (fun h2 Q => ?_)
  obtain ⟨l, Rg2, mm2⟩ := Q
  have g1 := l.2.2.2.1
  have g2 := l.2.2.2.2
  exact ⟨A, o, E, Cn, U, T, L, nf, ns, nr, nm, nt, np, nk, nl, ⟨l.1, Rg2, mm2, TapeA_left b tp l (by decide) (by decide) (by decide)⟩, ⟨FormA_left b F l (by decide) (by decide) (by decide), ThA_left th l (by decide) (by decide)⟩, ⟨SessA_left b S l (by decide) (by decide) F.2.1.2 (Nat.le_refl _) (by decide) (by decide), RecA_left b F R l S.2.1.2 (by decide) (by decide) (by decide), cl_left l hcl (by decide)⟩, ⟨SamA_left b Sm l (by decide) (Nat.le_refl _) (RegA_le Rg).1 (by decide) (by decide), TabA_left b Tb l (by decide) (by decide) (by decide), PerA_left b P l (by decide) (by decide) (by decide), RelA_out b Rl Tb.2.1.2 l (by decide) (by decide) (by decide) (by decide), LookA_left b Lk l (by decide) (by decide) (by decide)⟩, ⟨by omega, by omega⟩, gn_ok g1 gn (by omega), gt_ok g2 gt (by omega)⟩
theorem lw_unit (I : LawI n h) (hn9 : n < 512) : Pr 25 27 [] [4] h (LawI (n + 1)) := by
  obtain ⟨A, o, E, Cn, U, T, L, nf, ns, nr, nm, nt, np, nk, nl, ⟨b, Rg, mm, tp⟩, ⟨F, th⟩, ⟨S, R, hcl⟩, ⟨Sm, Tb, P, Rl, Lk⟩, ⟨q1, q2⟩, gn, gt⟩ := I
  have nl5 := Lk.1.2
  refine Pr_mono (pr_unit b Rg) (fun h2 Q => ?_)
  obtain ⟨A1, o1, U1, l, Rg2, hU1, hU2⟩ := Q
  have g1 := l.2.2.2.1
  have g2 := l.2.2.2.2
  exact ⟨A1, o1, E, Cn, U1, T, L, nf, ns, nr, nm, nt, np, nk, nl, ⟨l.1, Rg2, MinA_left b mm l (by decide) (by decide), TapeA_left b tp l (by decide) (by decide) (by decide)⟩, ⟨FormA_left b F l (by decide) (by decide) (by decide), ThA_left th l (by decide) (by decide)⟩, ⟨SessA_left b S l (by decide) (by decide) F.2.1.2 hU1 (by decide) (by decide), RecA_left b F R l S.2.1.2 (by decide) (by decide) (by decide), cl_left l hcl (by decide)⟩, ⟨SamA_left b Sm l (by decide) hU1 (RegA_le Rg).1 (by decide) (by decide), TabA_left b Tb l (by decide) (by decide) (by decide), PerA_left b P l (by decide) (by decide) (by decide), RelA_out b Rl Tb.2.1.2 l (by decide) (by decide) (by decide) (by decide), LookA_left b Lk l (by decide) (by decide) (by decide)⟩, ⟨by omega, by omega⟩, gn_ok g1 gn (by omega), gt_ok g2 gt (by omega)⟩
theorem lw_tell (I : LawI n h) (hn9 : n < 512) : Pr 37 41 [vI x, vI y, vI z, vI w] [3, 1, 2, 4] h (LawI (n + 1)) := by
  obtain ⟨A, o, E, Cn, U, T, L, nf, ns, nr, nm, nt, np, nk, nl, ⟨b, Rg, mm, tp⟩, ⟨F, th⟩, ⟨S, R, hcl⟩, ⟨Sm, Tb, P, Rl, Lk⟩, ⟨q1, q2⟩, gn, gt⟩ := I
  have nl5 := Lk.1.2
  refine Pr_mono (pr_tell b Rg mm) (fun h2 Q => ?_)
  obtain ⟨A1, o1, T1, l, Rg2, hT1⟩ := Q
  have g1 := l.2.2.2.1
  have g2 := l.2.2.2.2
  exact ⟨A1, o1, E, Cn, U, T1, L, nf, ns, nr, nm, nt, np, nk, nl, ⟨l.1, Rg2, MinA_left b mm l (by decide) (by decide), TapeA_left b tp l (by decide) (by decide) (by decide)⟩, ⟨FormA_left b F l (by decide) (by decide) (by decide), ThA_left th l (by decide) (by decide)⟩, ⟨SessA_left b S l (by decide) (by decide) F.2.1.2 (Nat.le_refl _) (by decide) (by decide), RecA_left b F R l S.2.1.2 (by decide) (by decide) (by decide), cl_left l hcl (by decide)⟩, ⟨SamA_left b Sm l (by decide) (Nat.le_refl _) (RegA_le Rg).1 (by decide) (by decide), TabA_left b Tb l (by decide) (by decide) (by decide), PerA_left b P l (by decide) (by decide) (by decide), RelA_out b Rl Tb.2.1.2 l (by decide) (by decide) (by decide) (by decide), LookA_left b Lk l (by decide) (by decide) (by decide)⟩, ⟨by omega, by omega⟩, gn_ok g1 gn (by omega), gt_ok g2 gt (by omega)⟩
theorem lw_merge (I : LawI n h) (hn9 : n < 512) : Pr 44 47 [vI x, vI y] [3, 2] h (LawI (n + 1)) := by
  obtain ⟨A, o, E, Cn, U, T, L, nf, ns, nr, nm, nt, np, nk, nl, ⟨b, Rg, mm, tp⟩, ⟨F, th⟩, ⟨S, R, hcl⟩, ⟨Sm, Tb, P, Rl, Lk⟩, ⟨q1, q2⟩, gn, gt⟩ := I
  have nl5 := Lk.1.2
  refine Pr_mono (pr_merge b Rg mm) (fun h2 Q => ?_)
  obtain ⟨l, Rg2⟩ := Q
  have g1 := l.2.2.2.1
  have g2 := l.2.2.2.2
  exact ⟨A, o, E, Cn, U, T, L, nf, ns, nr, nm, nt, np, nk, nl, ⟨l.1, Rg2, MinA_left b mm l (by decide) (by decide), TapeA_left b tp l (by decide) (by decide) (by decide)⟩, ⟨FormA_left b F l (by decide) (by decide) (by decide), ThA_left th l (by decide) (by decide)⟩, ⟨SessA_left b S l (by decide) (by decide) F.2.1.2 (Nat.le_refl _) (by decide) (by decide), RecA_left b F R l S.2.1.2 (by decide) (by decide) (by decide), cl_left l hcl (by decide)⟩, ⟨SamA_left b Sm l (by decide) (Nat.le_refl _) (RegA_le Rg).1 (by decide) (by decide), TabA_left b Tb l (by decide) (by decide) (by decide), PerA_left b P l (by decide) (by decide) (by decide), RelA_out b Rl Tb.2.1.2 l (by decide) (by decide) (by decide) (by decide), LookA_left b Lk l (by decide) (by decide) (by decide)⟩, ⟨by omega, by omega⟩, gn_ok g1 gn (by omega), gt_ok g2 gt (by omega)⟩
theorem lw_value (I : LawI n h) (hn9 : n < 512) : Pr 51 54 [vI x, vI y, vI z, vI w] [3, 1] h (LawI (n + 1)) := by
  obtain ⟨A, o, E, Cn, U, T, L, nf, ns, nr, nm, nt, np, nk, nl, ⟨b, Rg, mm, tp⟩, ⟨F, th⟩, ⟨S, R, hcl⟩, ⟨Sm, Tb, P, Rl, Lk⟩, ⟨q1, q2⟩, gn, gt⟩ := I
  have nl5 := Lk.1.2
  refine Pr_mono (pr_value b Rg) (fun h2 Q => ?_)
  obtain ⟨l, Rg2⟩ := Q
  have g1 := l.2.2.2.1
  have g2 := l.2.2.2.2
  exact ⟨A, o, E, Cn, U, T, L, nf, ns, nr, nm, nt, np, nk, nl, ⟨l.1, Rg2, MinA_left b mm l (by decide) (by decide), TapeA_left b tp l (by decide) (by decide) (by decide)⟩, ⟨FormA_left b F l (by decide) (by decide) (by decide), ThA_left th l (by decide) (by decide)⟩, ⟨SessA_left b S l (by decide) (by decide) F.2.1.2 (Nat.le_refl _) (by decide) (by decide), RecA_left b F R l S.2.1.2 (by decide) (by decide) (by decide), cl_left l hcl (by decide)⟩, ⟨SamA_left b Sm l (by decide) (Nat.le_refl _) (RegA_le Rg).1 (by decide) (by decide), TabA_left b Tb l (by decide) (by decide) (by decide), PerA_left b P l (by decide) (by decide) (by decide), RelA_out b Rl Tb.2.1.2 l (by decide) (by decide) (by decide) (by decide), LookA_left b Lk l (by decide) (by decide) (by decide)⟩, ⟨by omega, by omega⟩, gn_ok g1 gn (by omega), gt_ok g2 gt (by omega)⟩
theorem lw_last (I : LawI n h) (hn9 : n < 512) : Pr 55 57 [vI x] [3] h (LawI (n + 1)) := by
  obtain ⟨A, o, E, Cn, U, T, L, nf, ns, nr, nm, nt, np, nk, nl, ⟨b, Rg, mm, tp⟩, ⟨F, th⟩, ⟨S, R, hcl⟩, ⟨Sm, Tb, P, Rl, Lk⟩, ⟨q1, q2⟩, gn, gt⟩ := I
  have nl5 := Lk.1.2
  refine Pr_mono (pr_last b Rg mm.1) (fun h2 Q => ?_)
  have l := Q
  have g1 := l.2.2.2.1
  have g2 := l.2.2.2.2
  exact ⟨A, o, E, Cn, U, T, L, nf, ns, nr, nm, nt, np, nk, nl, ⟨l.1, RegA_left b Rg l (by decide) (by decide) (by decide), MinA_left b mm l (by decide) (by decide), TapeA_left b tp l (by decide) (by decide) (by decide)⟩, ⟨FormA_left b F l (by decide) (by decide) (by decide), ThA_left th l (by decide) (by decide)⟩, ⟨SessA_left b S l (by decide) (by decide) F.2.1.2 (Nat.le_refl _) (by decide) (by decide), RecA_left b F R l S.2.1.2 (by decide) (by decide) (by decide), cl_left l hcl (by decide)⟩, ⟨SamA_left b Sm l (by decide) (Nat.le_refl _) (RegA_le Rg).1 (by decide) (by decide), TabA_left b Tb l (by decide) (by decide) (by decide), PerA_left b P l (by decide) (by decide) (by decide), RelA_out b Rl Tb.2.1.2 l (by decide) (by decide) (by decide) (by decide), LookA_left b Lk l (by decide) (by decide) (by decide)⟩, ⟨by omega, by omega⟩, gn_ok g1 gn (by omega), gt_ok g2 gt (by omega)⟩
theorem lw_feed (I : LawI n h) (hn9 : n < 512) : Pr 59 61 [vI x, vI y, vI z, vI w, vI v] [4] h (LawI (n + 1)) := by
  obtain ⟨A, o, E, Cn, U, T, L, nf, ns, nr, nm, nt, np, nk, nl, ⟨b, Rg, mm, tp⟩, ⟨F, th⟩, ⟨S, R, hcl⟩, ⟨Sm, Tb, P, Rl, Lk⟩, ⟨q1, q2⟩, gn, gt⟩ := I
  have nl5 := Lk.1.2
  refine Pr_mono (pr_feed (A := A) b tp) (fun h2 Q => ?_)
  obtain ⟨L1, l, tp2⟩ := Q
  have g1 := l.2.2.2.1
  have g2 := l.2.2.2.2
  exact ⟨A, o, E, Cn, U, T, L1, nf, ns, nr, nm, nt, np, nk, nl, ⟨l.1, RegA_left b Rg l (by decide) (by decide) (by decide), MinA_left b mm l (by decide) (by decide), tp2⟩, ⟨FormA_left b F l (by decide) (by decide) (by decide), ThA_left th l (by decide) (by decide)⟩, ⟨SessA_left b S l (by decide) (by decide) F.2.1.2 (Nat.le_refl _) (by decide) (by decide), RecA_left b F R l S.2.1.2 (by decide) (by decide) (by decide), cl_left l hcl (by decide)⟩, ⟨SamA_left b Sm l (by decide) (Nat.le_refl _) (RegA_le Rg).1 (by decide) (by decide), TabA_left b Tb l (by decide) (by decide) (by decide), PerA_left b P l (by decide) (by decide) (by decide), RelA_out b Rl Tb.2.1.2 l (by decide) (by decide) (by decide) (by decide), LookA_left b Lk l (by decide) (by decide) (by decide)⟩, ⟨by omega, by omega⟩, gn_ok g1 gn (by omega), gt_ok g2 gt (by omega)⟩
theorem lw_trim (I : LawI n h) (hn9 : n < 512) : Pr 62 64 [vI x] [1] h (LawI (n + 1)) := by
  obtain ⟨A, o, E, Cn, U, T, L, nf, ns, nr, nm, nt, np, nk, nl, ⟨b, Rg, mm, tp⟩, ⟨F, th⟩, ⟨S, R, hcl⟩, ⟨Sm, Tb, P, Rl, Lk⟩, ⟨q1, q2⟩, gn, gt⟩ := I
  have nl5 := Lk.1.2
  refine Pr_mono (pr_trim (A := A) b tp) (fun h2 Q => ?_)
  obtain ⟨L1, l, tp2⟩ := Q
  have g1 := l.2.2.2.1
  have g2 := l.2.2.2.2
  exact ⟨A, o, E, Cn, U, T, L1, nf, ns, nr, nm, nt, np, nk, nl, ⟨l.1, RegA_left b Rg l (by decide) (by decide) (by decide), MinA_left b mm l (by decide) (by decide), tp2⟩, ⟨FormA_left b F l (by decide) (by decide) (by decide), ThA_left th l (by decide) (by decide)⟩, ⟨SessA_left b S l (by decide) (by decide) F.2.1.2 (Nat.le_refl _) (by decide) (by decide), RecA_left b F R l S.2.1.2 (by decide) (by decide) (by decide), cl_left l hcl (by decide)⟩, ⟨SamA_left b Sm l (by decide) (Nat.le_refl _) (RegA_le Rg).1 (by decide) (by decide), TabA_left b Tb l (by decide) (by decide) (by decide), PerA_left b P l (by decide) (by decide) (by decide), RelA_out b Rl Tb.2.1.2 l (by decide) (by decide) (by decide) (by decide), LookA_left b Lk l (by decide) (by decide) (by decide)⟩, ⟨by omega, by omega⟩, gn_ok g1 gn (by omega), gt_ok g2 gt (by omega)⟩
theorem lw_form (I : LawI n h) (hn9 : n < 512) : Pr 99 115 [] [4] h (LawI (n + 1)) := by
  obtain ⟨A, o, E, Cn, U, T, L, nf, ns, nr, nm, nt, np, nk, nl, ⟨b, Rg, mm, tp⟩, ⟨F, th⟩, ⟨S, R, hcl⟩, ⟨Sm, Tb, P, Rl, Lk⟩, ⟨q1, q2⟩, gn, gt⟩ := I
  have nl5 := Lk.1.2
  refine Pr_mono (pr_form b F tp th) (fun h2 Q => ?_)
  obtain ⟨A1, o1, E1, Cn1, nf1, L1, l, F2, tp2, th2, hn, hF⟩ := Q
  have g1 := l.2.2.2.1
  have g2 := l.2.2.2.2
  exact ⟨A1, o1, E1, Cn1, U, T, L1, nf1, ns, nr, nm, nt, np, nk, nl, ⟨l.1, RegA_left b Rg l (by decide) (by decide) (by decide), MinA_left b mm l (by decide) (by decide), tp2⟩, ⟨F2, th2⟩, ⟨SessA_frm b S l (by decide) hn hF (by decide) (by decide), RecA_frm b F R l (by decide) (by decide) S.2.1.2 hn hF (by decide) (by decide), cl_left l hcl (by decide)⟩, ⟨SamA_left b Sm l (by decide) (Nat.le_refl _) (RegA_le Rg).1 (by decide) (by decide), TabA_left b Tb l (by decide) (by decide) (by decide), PerA_left b P l (by decide) (by decide) (by decide), RelA_out b Rl Tb.2.1.2 l (by decide) (by decide) (by decide) (by decide), LookA_left b Lk l (by decide) (by decide) (by decide)⟩, ⟨by omega, by omega⟩, gn_ok g1 gn (by omega), gt_ok g2 gt (by omega)⟩
theorem lw_statement (I : LawI n h) (hn9 : n < 512) : Pr 122 126 [vI x, vI y, vI z] [3, 1] h (LawI (n + 1)) := by
  obtain ⟨A, o, E, Cn, U, T, L, nf, ns, nr, nm, nt, np, nk, nl, ⟨b, Rg, mm, tp⟩, ⟨F, th⟩, ⟨S, R, hcl⟩, ⟨Sm, Tb, P, Rl, Lk⟩, ⟨q1, q2⟩, gn, gt⟩ := I
  have nl5 := Lk.1.2
  refine Pr_mono (pr_statement b F) (fun h2 Q => ?_)
  have l := Q
  have g1 := l.2.2.2.1
  have g2 := l.2.2.2.2
  exact ⟨A, o, E, Cn, U, T, L, nf, ns, nr, nm, nt, np, nk, nl, ⟨l.1, RegA_left b Rg l (by decide) (by decide) (by decide), MinA_left b mm l (by decide) (by decide), TapeA_left b tp l (by decide) (by decide) (by decide)⟩, ⟨FormA_left b F l (by decide) (by decide) (by decide), ThA_left th l (by decide) (by decide)⟩, ⟨SessA_left b S l (by decide) (by decide) F.2.1.2 (Nat.le_refl _) (by decide) (by decide), RecA_left b F R l S.2.1.2 (by decide) (by decide) (by decide), cl_left l hcl (by decide)⟩, ⟨SamA_left b Sm l (by decide) (Nat.le_refl _) (RegA_le Rg).1 (by decide) (by decide), TabA_left b Tb l (by decide) (by decide) (by decide), PerA_left b P l (by decide) (by decide) (by decide), RelA_out b Rl Tb.2.1.2 l (by decide) (by decide) (by decide) (by decide), LookA_left b Lk l (by decide) (by decide) (by decide)⟩, ⟨by omega, by omega⟩, gn_ok g1 gn (by omega), gt_ok g2 gt (by omega)⟩
theorem lw_open (I : LawI n h) (hn9 : n < 512) : Pr 137 139 [vI x, vI y] [3, 2, 4] h (LawI (n + 1)) := by
  obtain ⟨A, o, E, Cn, U, T, L, nf, ns, nr, nm, nt, np, nk, nl, ⟨b, Rg, mm, tp⟩, ⟨F, th⟩, ⟨S, R, hcl⟩, ⟨Sm, Tb, P, Rl, Lk⟩, ⟨q1, q2⟩, gn, gt⟩ := I
  have nl5 := Lk.1.2
  refine Pr_mono (pr_open b F Rg mm S R) (fun h2 Q => ?_)
  obtain ⟨A1, o1, ns1, l, Rg2, S2, R2, hc2⟩ := Q
  have g1 := l.2.2.2.1
  have g2 := l.2.2.2.2
  exact ⟨A1, o1, E, Cn, U, T, L, nf, ns1, nr, nm, nt, np, nk, nl, ⟨l.1, Rg2, MinA_left b mm l (by decide) (by decide), TapeA_left b tp l (by decide) (by decide) (by decide)⟩, ⟨FormA_left b F l (by decide) (by decide) (by decide), ThA_left th l (by decide) (by decide)⟩, ⟨S2, R2, by rw [hc2]; exact hcl⟩, ⟨SamA_left b Sm l (by decide) (Nat.le_refl _) (RegA_le Rg).1 (by decide) (by decide), TabA_left b Tb l (by decide) (by decide) (by decide), PerA_left b P l (by decide) (by decide) (by decide), RelA_out b Rl Tb.2.1.2 l (by decide) (by decide) (by decide) (by decide), LookA_left b Lk l (by decide) (by decide) (by decide)⟩, ⟨by omega, by omega⟩, gn_ok g1 gn (by omega), gt_ok g2 gt (by omega)⟩
theorem lw_question (I : LawI n h) (hn9 : n < 512) : Pr 143 150 [vI x] [3] h (LawI (n + 1)) := by
  obtain ⟨A, o, E, Cn, U, T, L, nf, ns, nr, nm, nt, np, nk, nl, ⟨b, Rg, mm, tp⟩, ⟨F, th⟩, ⟨S, R, hcl⟩, ⟨Sm, Tb, P, Rl, Lk⟩, ⟨q1, q2⟩, gn, gt⟩ := I
  have nl5 := Lk.1.2
  refine Pr_mono (pr_question b F S) (fun h2 Q => ?_)
  have l := Q
  have g1 := l.2.2.2.1
  have g2 := l.2.2.2.2
  exact ⟨A, o, E, Cn, U, T, L, nf, ns, nr, nm, nt, np, nk, nl, ⟨l.1, RegA_left b Rg l (by decide) (by decide) (by decide), MinA_left b mm l (by decide) (by decide), TapeA_left b tp l (by decide) (by decide) (by decide)⟩, ⟨FormA_left b F l (by decide) (by decide) (by decide), ThA_left th l (by decide) (by decide)⟩, ⟨SessA_left b S l (by decide) (by decide) F.2.1.2 (Nat.le_refl _) (by decide) (by decide), RecA_left b F R l S.2.1.2 (by decide) (by decide) (by decide), cl_left l hcl (by decide)⟩, ⟨SamA_left b Sm l (by decide) (Nat.le_refl _) (RegA_le Rg).1 (by decide) (by decide), TabA_left b Tb l (by decide) (by decide) (by decide), PerA_left b P l (by decide) (by decide) (by decide), RelA_out b Rl Tb.2.1.2 l (by decide) (by decide) (by decide) (by decide), LookA_left b Lk l (by decide) (by decide) (by decide)⟩, ⟨by omega, by omega⟩, gn_ok g1 gn (by omega), gt_ok g2 gt (by omega)⟩
theorem lw_answer (I : LawI n h) (hn9 : n < 512) : Pr 156 160 [vI x, vI y] [3, 2, 1] h (LawI (n + 1)) := by
  obtain ⟨A, o, E, Cn, U, T, L, nf, ns, nr, nm, nt, np, nk, nl, ⟨b, Rg, mm, tp⟩, ⟨F, th⟩, ⟨S, R, hcl⟩, ⟨Sm, Tb, P, Rl, Lk⟩, ⟨q1, q2⟩, gn, gt⟩ := I
  have nl5 := Lk.1.2
  refine Pr_mono (pr_answer b F S) (fun h2 Q => ?_)
  obtain ⟨l, S2⟩ := Q
  have g1 := l.2.2.2.1
  have g2 := l.2.2.2.2
  exact ⟨A, o, E, Cn, U, T, L, nf, ns, nr, nm, nt, np, nk, nl, ⟨l.1, RegA_left b Rg l (by decide) (by decide) (by decide), MinA_left b mm l (by decide) (by decide), TapeA_left b tp l (by decide) (by decide) (by decide)⟩, ⟨FormA_left b F l (by decide) (by decide) (by decide), ThA_left th l (by decide) (by decide)⟩, ⟨S2, RecA_F b F R l (by decide) (fun _ _ => rfl) (fun _ _ => rfl) (by decide) (by decide), cl_left l hcl (by decide)⟩, ⟨SamA_left b Sm l (by decide) (Nat.le_refl _) (RegA_le Rg).1 (by decide) (by decide), TabA_left b Tb l (by decide) (by decide) (by decide), PerA_left b P l (by decide) (by decide) (by decide), RelA_out b Rl Tb.2.1.2 l (by decide) (by decide) (by decide) (by decide), LookA_left b Lk l (by decide) (by decide) (by decide)⟩, ⟨by omega, by omega⟩, gn_ok g1 gn (by omega), gt_ok g2 gt (by omega)⟩
theorem lw_back (I : LawI n h) (hn9 : n < 512) : Pr 162 164 [vI x] [3, 2] h (LawI (n + 1)) := by
  obtain ⟨A, o, E, Cn, U, T, L, nf, ns, nr, nm, nt, np, nk, nl, ⟨b, Rg, mm, tp⟩, ⟨F, th⟩, ⟨S, R, hcl⟩, ⟨Sm, Tb, P, Rl, Lk⟩, ⟨q1, q2⟩, gn, gt⟩ := I
  have nl5 := Lk.1.2
  refine Pr_mono (pr_back b F S) (fun h2 Q => ?_)
  obtain ⟨l, S2⟩ := Q
  have g1 := l.2.2.2.1
  have g2 := l.2.2.2.2
  exact ⟨A, o, E, Cn, U, T, L, nf, ns, nr, nm, nt, np, nk, nl, ⟨l.1, RegA_left b Rg l (by decide) (by decide) (by decide), MinA_left b mm l (by decide) (by decide), TapeA_left b tp l (by decide) (by decide) (by decide)⟩, ⟨FormA_left b F l (by decide) (by decide) (by decide), ThA_left th l (by decide) (by decide)⟩, ⟨S2, RecA_F b F R l (by decide) (fun _ _ => rfl) (fun _ _ => rfl) (by decide) (by decide), cl_left l hcl (by decide)⟩, ⟨SamA_left b Sm l (by decide) (Nat.le_refl _) (RegA_le Rg).1 (by decide) (by decide), TabA_left b Tb l (by decide) (by decide) (by decide), PerA_left b P l (by decide) (by decide) (by decide), RelA_out b Rl Tb.2.1.2 l (by decide) (by decide) (by decide) (by decide), LookA_left b Lk l (by decide) (by decide) (by decide)⟩, ⟨by omega, by omega⟩, gn_ok g1 gn (by omega), gt_ok g2 gt (by omega)⟩
theorem lw_given (I : LawI n h) (hn9 : n < 512) : Pr 165 167 [vI x, vI y, vI z] [3] h (LawI (n + 1)) := by
  obtain ⟨A, o, E, Cn, U, T, L, nf, ns, nr, nm, nt, np, nk, nl, ⟨b, Rg, mm, tp⟩, ⟨F, th⟩, ⟨S, R, hcl⟩, ⟨Sm, Tb, P, Rl, Lk⟩, ⟨q1, q2⟩, gn, gt⟩ := I
  have nl5 := Lk.1.2
  refine Pr_mono (pr_given b F S) (fun h2 Q => ?_)
  have l := Q
  have g1 := l.2.2.2.1
  have g2 := l.2.2.2.2
  exact ⟨A, o, E, Cn, U, T, L, nf, ns, nr, nm, nt, np, nk, nl, ⟨l.1, RegA_left b Rg l (by decide) (by decide) (by decide), MinA_left b mm l (by decide) (by decide), TapeA_left b tp l (by decide) (by decide) (by decide)⟩, ⟨FormA_left b F l (by decide) (by decide) (by decide), ThA_left th l (by decide) (by decide)⟩, ⟨SessA_left b S l (by decide) (by decide) F.2.1.2 (Nat.le_refl _) (by decide) (by decide), RecA_left b F R l S.2.1.2 (by decide) (by decide) (by decide), cl_left l hcl (by decide)⟩, ⟨SamA_left b Sm l (by decide) (Nat.le_refl _) (RegA_le Rg).1 (by decide) (by decide), TabA_left b Tb l (by decide) (by decide) (by decide), PerA_left b P l (by decide) (by decide) (by decide), RelA_out b Rl Tb.2.1.2 l (by decide) (by decide) (by decide) (by decide), LookA_left b Lk l (by decide) (by decide) (by decide)⟩, ⟨by omega, by omega⟩, gn_ok g1 gn (by omega), gt_ok g2 gt (by omega)⟩
theorem lw_close (I : LawI n h) (hn9 : n < 512) : Pr 169 171 [vI x] [3, 2] h (LawI (n + 1)) := by
  obtain ⟨A, o, E, Cn, U, T, L, nf, ns, nr, nm, nt, np, nk, nl, ⟨b, Rg, mm, tp⟩, ⟨F, th⟩, ⟨S, R, hcl⟩, ⟨Sm, Tb, P, Rl, Lk⟩, ⟨q1, q2⟩, gn, gt⟩ := I
  have nl5 := Lk.1.2
  refine Pr_mono (pr_close b F S R hcl) (fun h2 Q => ?_)
  obtain ⟨A1, o1, nr1, l, S2, R2, hc2⟩ := Q
  have g1 := l.2.2.2.1
  have g2 := l.2.2.2.2
  exact ⟨A1, o1, E, Cn, U, T, L, nf, ns, nr1, nm, nt, np, nk, nl, ⟨l.1, RegA_left b Rg l (by decide) (by decide) (by decide), MinA_left b mm l (by decide) (by decide), TapeA_left b tp l (by decide) (by decide) (by decide)⟩, ⟨FormA_left b F l (by decide) (by decide) (by decide), ThA_left th l (by decide) (by decide)⟩, ⟨S2, R2, hc2⟩, ⟨SamA_left b Sm l (by decide) (Nat.le_refl _) (RegA_le Rg).1 (by decide) (by decide), TabA_left b Tb l (by decide) (by decide) (by decide), PerA_left b P l (by decide) (by decide) (by decide), RelA_out b Rl Tb.2.1.2 l (by decide) (by decide) (by decide) (by decide), LookA_left b Lk l (by decide) (by decide) (by decide)⟩, ⟨by omega, by omega⟩, gn_ok g1 gn (by omega), gt_ok g2 gt (by omega)⟩
theorem lw_item (I : LawI n h) (hn9 : n < 512) : Pr 173 177 [vI x, vI y] [3] h (LawI (n + 1)) := by
  obtain ⟨A, o, E, Cn, U, T, L, nf, ns, nr, nm, nt, np, nk, nl, ⟨b, Rg, mm, tp⟩, ⟨F, th⟩, ⟨S, R, hcl⟩, ⟨Sm, Tb, P, Rl, Lk⟩, ⟨q1, q2⟩, gn, gt⟩ := I
  have nl5 := Lk.1.2
  refine Pr_mono (pr_item b F R S.2.1.2) (fun h2 Q => ?_)
  have l := Q
  have g1 := l.2.2.2.1
  have g2 := l.2.2.2.2
  exact ⟨A, o, E, Cn, U, T, L, nf, ns, nr, nm, nt, np, nk, nl, ⟨l.1, RegA_left b Rg l (by decide) (by decide) (by decide), MinA_left b mm l (by decide) (by decide), TapeA_left b tp l (by decide) (by decide) (by decide)⟩, ⟨FormA_left b F l (by decide) (by decide) (by decide), ThA_left th l (by decide) (by decide)⟩, ⟨SessA_left b S l (by decide) (by decide) F.2.1.2 (Nat.le_refl _) (by decide) (by decide), RecA_left b F R l S.2.1.2 (by decide) (by decide) (by decide), cl_left l hcl (by decide)⟩, ⟨SamA_left b Sm l (by decide) (Nat.le_refl _) (RegA_le Rg).1 (by decide) (by decide), TabA_left b Tb l (by decide) (by decide) (by decide), PerA_left b P l (by decide) (by decide) (by decide), RelA_out b Rl Tb.2.1.2 l (by decide) (by decide) (by decide) (by decide), LookA_left b Lk l (by decide) (by decide) (by decide)⟩, ⟨by omega, by omega⟩, gn_ok g1 gn (by omega), gt_ok g2 gt (by omega)⟩
theorem lw_mark (I : LawI n h) (hn9 : n < 512) : Pr 178 180 [vI x, vI y] [3] h (LawI (n + 1)) := by
  obtain ⟨A, o, E, Cn, U, T, L, nf, ns, nr, nm, nt, np, nk, nl, ⟨b, Rg, mm, tp⟩, ⟨F, th⟩, ⟨S, R, hcl⟩, ⟨Sm, Tb, P, Rl, Lk⟩, ⟨q1, q2⟩, gn, gt⟩ := I
  have nl5 := Lk.1.2
  refine Pr_mono (pr_mark b F R S.2.1.2) (fun h2 Q => ?_)
  have l := Q
  have g1 := l.2.2.2.1
  have g2 := l.2.2.2.2
  exact ⟨A, o, E, Cn, U, T, L, nf, ns, nr, nm, nt, np, nk, nl, ⟨l.1, RegA_left b Rg l (by decide) (by decide) (by decide), MinA_left b mm l (by decide) (by decide), TapeA_left b tp l (by decide) (by decide) (by decide)⟩, ⟨FormA_left b F l (by decide) (by decide) (by decide), ThA_left th l (by decide) (by decide)⟩, ⟨SessA_left b S l (by decide) (by decide) F.2.1.2 (Nat.le_refl _) (by decide) (by decide), RecA_left b F R l S.2.1.2 (by decide) (by decide) (by decide), cl_left l hcl (by decide)⟩, ⟨SamA_left b Sm l (by decide) (Nat.le_refl _) (RegA_le Rg).1 (by decide) (by decide), TabA_left b Tb l (by decide) (by decide) (by decide), PerA_left b P l (by decide) (by decide) (by decide), RelA_out b Rl Tb.2.1.2 l (by decide) (by decide) (by decide) (by decide), LookA_left b Lk l (by decide) (by decide) (by decide)⟩, ⟨by omega, by omega⟩, gn_ok g1 gn (by omega), gt_ok g2 gt (by omega)⟩
theorem lw_rule (I : LawI n h) (hn9 : n < 512) : Pr 184 187 [vI x, vI y, vI z, vI w] [3, 1, 4] h (LawI (n + 1)) := by
  obtain ⟨A, o, E, Cn, U, T, L, nf, ns, nr, nm, nt, np, nk, nl, ⟨b, Rg, mm, tp⟩, ⟨F, th⟩, ⟨S, R, hcl⟩, ⟨Sm, Tb, P, Rl, Lk⟩, ⟨q1, q2⟩, gn, gt⟩ := I
  have nl5 := Lk.1.2
  refine Pr_mono (pr_rule b F) (fun h2 Q => ?_)
  obtain ⟨A1, o1, l, F2, hF, h81⟩ := Q
  have g1 := l.2.2.2.1
  have g2 := l.2.2.2.2
  exact ⟨A1, o1, E, Cn, U, T, L, nf, ns, nr, nm, nt, np, nk, nl, ⟨l.1, RegA_left b Rg l (by decide) (by decide) (by decide), MinA_left b mm l (by decide) (by decide), TapeA_left b tp l (by decide) (by decide) (by decide)⟩, ⟨F2, ⟨th_rule th.1 l (by decide) (by decide), fun f z1 z2 => by rw [h81 f z1]; exact th.2 f z1 z2⟩⟩, ⟨SessA_F b S l (by decide) (fun f _ => hF f) (by decide) (by decide), RecA_F b F R l (by decide) (fun f _ => hF f) (lbS l (by decide) S.2.1.2) (by decide) (by decide), cl_left l hcl (by decide)⟩, ⟨SamA_left b Sm l (by decide) (Nat.le_refl _) (RegA_le Rg).1 (by decide) (by decide), TabA_left b Tb l (by decide) (by decide) (by decide), PerA_left b P l (by decide) (by decide) (by decide), RelA_out b Rl Tb.2.1.2 l (by decide) (by decide) (by decide) (by decide), LookA_left b Lk l (by decide) (by decide) (by decide)⟩, ⟨by omega, by omega⟩, gn_ok g1 gn (by omega), gt_ok g2 gt (by omega)⟩
theorem lw_cost (I : LawI n h) (hn9 : n < 512) : Pr 188 190 [vI x, vI y, vI z] [3, 1] h (LawI (n + 1)) := by
  obtain ⟨A, o, E, Cn, U, T, L, nf, ns, nr, nm, nt, np, nk, nl, ⟨b, Rg, mm, tp⟩, ⟨F, th⟩, ⟨S, R, hcl⟩, ⟨Sm, Tb, P, Rl, Lk⟩, ⟨q1, q2⟩, gn, gt⟩ := I
  have nl5 := Lk.1.2
  refine Pr_mono (pr_cost b F) (fun h2 Q => ?_)
  obtain ⟨l, F2⟩ := Q
  have g1 := l.2.2.2.1
  have g2 := l.2.2.2.2
  exact ⟨A, o, E, Cn, U, T, L, nf, ns, nr, nm, nt, np, nk, nl, ⟨l.1, RegA_left b Rg l (by decide) (by decide) (by decide), MinA_left b mm l (by decide) (by decide), TapeA_left b tp l (by decide) (by decide) (by decide)⟩, ⟨F2, ThA_left th l (by decide) (by decide)⟩, ⟨SessA_F b S l (by decide) (fun _ _ => rfl) (by decide) (by decide), RecA_F b F R l (by decide) (fun _ _ => rfl) (fun _ _ => rfl) (by decide) (by decide), cl_left l hcl (by decide)⟩, ⟨SamA_left b Sm l (by decide) (Nat.le_refl _) (RegA_le Rg).1 (by decide) (by decide), TabA_left b Tb l (by decide) (by decide) (by decide), PerA_left b P l (by decide) (by decide) (by decide), RelA_out b Rl Tb.2.1.2 l (by decide) (by decide) (by decide) (by decide), LookA_left b Lk l (by decide) (by decide) (by decide)⟩, ⟨by omega, by omega⟩, gn_ok g1 gn (by omega), gt_ok g2 gt (by omega)⟩
theorem lw_broken (I : LawI n h) (hn9 : n < 512) : Pr 195 198 [vI x, vI y] [3] h (LawI (n + 1)) := by
  obtain ⟨A, o, E, Cn, U, T, L, nf, ns, nr, nm, nt, np, nk, nl, ⟨b, Rg, mm, tp⟩, ⟨F, th⟩, ⟨S, R, hcl⟩, ⟨Sm, Tb, P, Rl, Lk⟩, ⟨q1, q2⟩, gn, gt⟩ := I
  have nl5 := Lk.1.2
  refine Pr_mono (pr_broken b F R S.2.1.2) (fun h2 Q => ?_)
  have l := Q
  have g1 := l.2.2.2.1
  have g2 := l.2.2.2.2
  exact ⟨A, o, E, Cn, U, T, L, nf, ns, nr, nm, nt, np, nk, nl, ⟨l.1, RegA_left b Rg l (by decide) (by decide) (by decide), MinA_left b mm l (by decide) (by decide), TapeA_left b tp l (by decide) (by decide) (by decide)⟩, ⟨FormA_left b F l (by decide) (by decide) (by decide), ThA_left th l (by decide) (by decide)⟩, ⟨SessA_left b S l (by decide) (by decide) F.2.1.2 (Nat.le_refl _) (by decide) (by decide), RecA_left b F R l S.2.1.2 (by decide) (by decide) (by decide), cl_left l hcl (by decide)⟩, ⟨SamA_left b Sm l (by decide) (Nat.le_refl _) (RegA_le Rg).1 (by decide) (by decide), TabA_left b Tb l (by decide) (by decide) (by decide), PerA_left b P l (by decide) (by decide) (by decide), RelA_out b Rl Tb.2.1.2 l (by decide) (by decide) (by decide) (by decide), LookA_left b Lk l (by decide) (by decide) (by decide)⟩, ⟨by omega, by omega⟩, gn_ok g1 gn (by omega), gt_ok g2 gt (by omega)⟩
theorem lw_least (I : LawI n h) (hn9 : n < 512) : Pr 207 212 [vI x, vI y] [3] h (LawI (n + 1)) := by
  obtain ⟨A, o, E, Cn, U, T, L, nf, ns, nr, nm, nt, np, nk, nl, ⟨b, Rg, mm, tp⟩, ⟨F, th⟩, ⟨S, R, hcl⟩, ⟨Sm, Tb, P, Rl, Lk⟩, ⟨q1, q2⟩, gn, gt⟩ := I
  have nl5 := Lk.1.2
  refine Pr_mono (pr_least b F R S.2.1.2) (fun h2 Q => ?_)
  have l := Q
  have g1 := l.2.2.2.1
  have g2 := l.2.2.2.2
  exact ⟨A, o, E, Cn, U, T, L, nf, ns, nr, nm, nt, np, nk, nl, ⟨l.1, RegA_left b Rg l (by decide) (by decide) (by decide), MinA_left b mm l (by decide) (by decide), TapeA_left b tp l (by decide) (by decide) (by decide)⟩, ⟨FormA_left b F l (by decide) (by decide) (by decide), ThA_left th l (by decide) (by decide)⟩, ⟨SessA_left b S l (by decide) (by decide) F.2.1.2 (Nat.le_refl _) (by decide) (by decide), RecA_left b F R l S.2.1.2 (by decide) (by decide) (by decide), cl_left l hcl (by decide)⟩, ⟨SamA_left b Sm l (by decide) (Nat.le_refl _) (RegA_le Rg).1 (by decide) (by decide), TabA_left b Tb l (by decide) (by decide) (by decide), PerA_left b P l (by decide) (by decide) (by decide), RelA_out b Rl Tb.2.1.2 l (by decide) (by decide) (by decide) (by decide), LookA_left b Lk l (by decide) (by decide) (by decide)⟩, ⟨by omega, by omega⟩, gn_ok g1 gn (by omega), gt_ok g2 gt (by omega)⟩
theorem lw_impute (I : LawI n h) (hn9 : n < 512) : Pr 221 227 [vI x, vI y] [3, 1, 2] h (LawI (n + 1)) := by
  obtain ⟨A, o, E, Cn, U, T, L, nf, ns, nr, nm, nt, np, nk, nl, ⟨b, Rg, mm, tp⟩, ⟨F, th⟩, ⟨S, R, hcl⟩, ⟨Sm, Tb, P, Rl, Lk⟩, ⟨q1, q2⟩, gn, gt⟩ := I
  have nl5 := Lk.1.2
  refine Pr_mono (pr_impute b F S R) (fun h2 Q => ?_)
  obtain ⟨l, R2⟩ := Q
  have g1 := l.2.2.2.1
  have g2 := l.2.2.2.2
  exact ⟨A, o, E, Cn, U, T, L, nf, ns, nr, nm, nt, np, nk, nl, ⟨l.1, RegA_left b Rg l (by decide) (by decide) (by decide), MinA_left b mm l (by decide) (by decide), TapeA_left b tp l (by decide) (by decide) (by decide)⟩, ⟨FormA_left b F l (by decide) (by decide) (by decide), ThA_left th l (by decide) (by decide)⟩, ⟨SessA_left b S l (by decide) (by decide) F.2.1.2 (Nat.le_refl _) (by decide) (by decide), R2, cl_left l hcl (by decide)⟩, ⟨SamA_left b Sm l (by decide) (Nat.le_refl _) (RegA_le Rg).1 (by decide) (by decide), TabA_left b Tb l (by decide) (by decide) (by decide), PerA_left b P l (by decide) (by decide) (by decide), RelA_out b Rl Tb.2.1.2 l (by decide) (by decide) (by decide) (by decide), LookA_left b Lk l (by decide) (by decide) (by decide)⟩, ⟨by omega, by omega⟩, gn_ok g1 gn (by omega), gt_ok g2 gt (by omega)⟩
theorem lw_sample (I : LawI n h) (hn9 : n < 512) : Pr 236 241 [vI x, vI y, vI z, vI w, vI v, vI u] [3, 1, 4] h (LawI (n + 1)) := by
  obtain ⟨A, o, E, Cn, U, T, L, nf, ns, nr, nm, nt, np, nk, nl, ⟨b, Rg, mm, tp⟩, ⟨F, th⟩, ⟨S, R, hcl⟩, ⟨Sm, Tb, P, Rl, Lk⟩, ⟨q1, q2⟩, gn, gt⟩ := I
  have nl5 := Lk.1.2
  refine Pr_mono (pr_sample b Rg mm Sm) (fun h2 Q => ?_)
  obtain ⟨A1, o1, nm1, l, Rg2, Sm2⟩ := Q
  have g1 := l.2.2.2.1
  have g2 := l.2.2.2.2
  exact ⟨A1, o1, E, Cn, U, T, L, nf, ns, nr, nm1, nt, np, nk, nl, ⟨l.1, Rg2, MinA_left b mm l (by decide) (by decide), TapeA_left b tp l (by decide) (by decide) (by decide)⟩, ⟨FormA_left b F l (by decide) (by decide) (by decide), ThA_left th l (by decide) (by decide)⟩, ⟨SessA_left b S l (by decide) (by decide) F.2.1.2 (Nat.le_refl _) (by decide) (by decide), RecA_left b F R l S.2.1.2 (by decide) (by decide) (by decide), cl_left l hcl (by decide)⟩, ⟨Sm2, TabA_left b Tb l (by decide) (by decide) (by decide), PerA_left b P l (by decide) (by decide) (by decide), RelA_out b Rl Tb.2.1.2 l (by decide) (by decide) (by decide) (by decide), LookA_left b Lk l (by decide) (by decide) (by decide)⟩, ⟨by omega, by omega⟩, gn_ok g1 gn (by omega), gt_ok g2 gt (by omega)⟩
theorem lw_drawn (I : LawI n h) (hn9 : n < 512) : Pr 244 247 [vI x, vI y] [3] h (LawI (n + 1)) := by
  obtain ⟨A, o, E, Cn, U, T, L, nf, ns, nr, nm, nt, np, nk, nl, ⟨b, Rg, mm, tp⟩, ⟨F, th⟩, ⟨S, R, hcl⟩, ⟨Sm, Tb, P, Rl, Lk⟩, ⟨q1, q2⟩, gn, gt⟩ := I
  have nl5 := Lk.1.2
  refine Pr_mono (pr_drawn b Sm (RegA_le Rg).1) (fun h2 Q => ?_)
  have l := Q
  have g1 := l.2.2.2.1
  have g2 := l.2.2.2.2
  exact ⟨A, o, E, Cn, U, T, L, nf, ns, nr, nm, nt, np, nk, nl, ⟨l.1, RegA_left b Rg l (by decide) (by decide) (by decide), MinA_left b mm l (by decide) (by decide), TapeA_left b tp l (by decide) (by decide) (by decide)⟩, ⟨FormA_left b F l (by decide) (by decide) (by decide), ThA_left th l (by decide) (by decide)⟩, ⟨SessA_left b S l (by decide) (by decide) F.2.1.2 (Nat.le_refl _) (by decide) (by decide), RecA_left b F R l S.2.1.2 (by decide) (by decide) (by decide), cl_left l hcl (by decide)⟩, ⟨SamA_left b Sm l (by decide) (Nat.le_refl _) (RegA_le Rg).1 (by decide) (by decide), TabA_left b Tb l (by decide) (by decide) (by decide), PerA_left b P l (by decide) (by decide) (by decide), RelA_out b Rl Tb.2.1.2 l (by decide) (by decide) (by decide) (by decide), LookA_left b Lk l (by decide) (by decide) (by decide)⟩, ⟨by omega, by omega⟩, gn_ok g1 gn (by omega), gt_ok g2 gt (by omega)⟩
theorem lw_chance (I : LawI n h) (hn9 : n < 512) : Pr 250 253 [vI x, vI y, vI z] [3] h (LawI (n + 1)) := by
  obtain ⟨A, o, E, Cn, U, T, L, nf, ns, nr, nm, nt, np, nk, nl, ⟨b, Rg, mm, tp⟩, ⟨F, th⟩, ⟨S, R, hcl⟩, ⟨Sm, Tb, P, Rl, Lk⟩, ⟨q1, q2⟩, gn, gt⟩ := I
  have nl5 := Lk.1.2
  refine Pr_mono (pr_chance b Rg Sm) (fun h2 Q => ?_)
  have l := Q
  have g1 := l.2.2.2.1
  have g2 := l.2.2.2.2
  exact ⟨A, o, E, Cn, U, T, L, nf, ns, nr, nm, nt, np, nk, nl, ⟨l.1, RegA_left b Rg l (by decide) (by decide) (by decide), MinA_left b mm l (by decide) (by decide), TapeA_left b tp l (by decide) (by decide) (by decide)⟩, ⟨FormA_left b F l (by decide) (by decide) (by decide), ThA_left th l (by decide) (by decide)⟩, ⟨SessA_left b S l (by decide) (by decide) F.2.1.2 (Nat.le_refl _) (by decide) (by decide), RecA_left b F R l S.2.1.2 (by decide) (by decide) (by decide), cl_left l hcl (by decide)⟩, ⟨SamA_left b Sm l (by decide) (Nat.le_refl _) (RegA_le Rg).1 (by decide) (by decide), TabA_left b Tb l (by decide) (by decide) (by decide), PerA_left b P l (by decide) (by decide) (by decide), RelA_out b Rl Tb.2.1.2 l (by decide) (by decide) (by decide) (by decide), LookA_left b Lk l (by decide) (by decide) (by decide)⟩, ⟨by omega, by omega⟩, gn_ok g1 gn (by omega), gt_ok g2 gt (by omega)⟩
theorem lw_overlap (I : LawI n h) (hn9 : n < 512) : Pr 255 257 [vI x, vI y] [3] h (LawI (n + 1)) := by
  obtain ⟨A, o, E, Cn, U, T, L, nf, ns, nr, nm, nt, np, nk, nl, ⟨b, Rg, mm, tp⟩, ⟨F, th⟩, ⟨S, R, hcl⟩, ⟨Sm, Tb, P, Rl, Lk⟩, ⟨q1, q2⟩, gn, gt⟩ := I
  have nl5 := Lk.1.2
  refine Pr_mono (pr_overlap b Rg Sm) (fun h2 Q => ?_)
  have l := Q
  have g1 := l.2.2.2.1
  have g2 := l.2.2.2.2
  exact ⟨A, o, E, Cn, U, T, L, nf, ns, nr, nm, nt, np, nk, nl, ⟨l.1, RegA_left b Rg l (by decide) (by decide) (by decide), MinA_left b mm l (by decide) (by decide), TapeA_left b tp l (by decide) (by decide) (by decide)⟩, ⟨FormA_left b F l (by decide) (by decide) (by decide), ThA_left th l (by decide) (by decide)⟩, ⟨SessA_left b S l (by decide) (by decide) F.2.1.2 (Nat.le_refl _) (by decide) (by decide), RecA_left b F R l S.2.1.2 (by decide) (by decide) (by decide), cl_left l hcl (by decide)⟩, ⟨SamA_left b Sm l (by decide) (Nat.le_refl _) (RegA_le Rg).1 (by decide) (by decide), TabA_left b Tb l (by decide) (by decide) (by decide), PerA_left b P l (by decide) (by decide) (by decide), RelA_out b Rl Tb.2.1.2 l (by decide) (by decide) (by decide) (by decide), LookA_left b Lk l (by decide) (by decide) (by decide)⟩, ⟨by omega, by omega⟩, gn_ok g1 gn (by omega), gt_ok g2 gt (by omega)⟩
theorem lw_table (I : LawI n h) (hn9 : n < 512) : Pr 264 266 [vI x, vI y, vI z, vI w, vI v] [3, 1, 4] h (LawI (n + 1)) := by
  obtain ⟨A, o, E, Cn, U, T, L, nf, ns, nr, nm, nt, np, nk, nl, ⟨b, Rg, mm, tp⟩, ⟨F, th⟩, ⟨S, R, hcl⟩, ⟨Sm, Tb, P, Rl, Lk⟩, ⟨q1, q2⟩, gn, gt⟩ := I
  have nl5 := Lk.1.2
  refine Pr_mono (pr_table b F Rg mm S R Sm Tb) (fun h2 Q => ?_)
  obtain ⟨A1, o1, nt1, l, Tb2, hn, hT⟩ := Q
  have g1 := l.2.2.2.1
  have g2 := l.2.2.2.2
  exact ⟨A1, o1, E, Cn, U, T, L, nf, ns, nr, nm, nt1, np, nk, nl, ⟨l.1, RegA_left b Rg l (by decide) (by decide) (by decide), MinA_left b mm l (by decide) (by decide), TapeA_left b tp l (by decide) (by decide) (by decide)⟩, ⟨FormA_left b F l (by decide) (by decide) (by decide), ThA_left th l (by decide) (by decide)⟩, ⟨SessA_left b S l (by decide) (by decide) F.2.1.2 (Nat.le_refl _) (by decide) (by decide), RecA_left b F R l S.2.1.2 (by decide) (by decide) (by decide), cl_left l hcl (by decide)⟩, ⟨SamA_left b Sm l (by decide) (Nat.le_refl _) (RegA_le Rg).1 (by decide) (by decide), Tb2, PerA_left b P l (by decide) (by decide) (by decide), RelA_left b Rl l (by decide) hT hn (by decide) (by decide), LookA_left b Lk l (by decide) (by decide) (by decide)⟩, ⟨by omega, by omega⟩, gn_ok g1 gn (by omega), gt_ok g2 gt (by omega)⟩
theorem lw_cell (I : LawI n h) (hn9 : n < 512) : Pr 272 276 [vI x, vI y, vI z, vI w] [3, 1] h (LawI (n + 1)) := by
  obtain ⟨A, o, E, Cn, U, T, L, nf, ns, nr, nm, nt, np, nk, nl, ⟨b, Rg, mm, tp⟩, ⟨F, th⟩, ⟨S, R, hcl⟩, ⟨Sm, Tb, P, Rl, Lk⟩, ⟨q1, q2⟩, gn, gt⟩ := I
  have nl5 := Lk.1.2
  refine Pr_mono (pr_cell b Tb) (fun h2 Q => ?_)
  have l := Q
  have g1 := l.2.2.2.1
  have g2 := l.2.2.2.2
  exact ⟨A, o, E, Cn, U, T, L, nf, ns, nr, nm, nt, np, nk, nl, ⟨l.1, RegA_left b Rg l (by decide) (by decide) (by decide), MinA_left b mm l (by decide) (by decide), TapeA_left b tp l (by decide) (by decide) (by decide)⟩, ⟨FormA_left b F l (by decide) (by decide) (by decide), ThA_left th l (by decide) (by decide)⟩, ⟨SessA_left b S l (by decide) (by decide) F.2.1.2 (Nat.le_refl _) (by decide) (by decide), RecA_left b F R l S.2.1.2 (by decide) (by decide) (by decide), cl_left l hcl (by decide)⟩, ⟨SamA_left b Sm l (by decide) (Nat.le_refl _) (RegA_le Rg).1 (by decide) (by decide), TabA_left b Tb l (by decide) (by decide) (by decide), PerA_left b P l (by decide) (by decide) (by decide), RelA_out b Rl Tb.2.1.2 l (by decide) (by decide) (by decide) (by decide), LookA_left b Lk l (by decide) (by decide) (by decide)⟩, ⟨by omega, by omega⟩, gn_ok g1 gn (by omega), gt_ok g2 gt (by omega)⟩
theorem lw_secrecy (I : LawI n h) (hn9 : n < 512) : Pr 284 288 [vI x, vI y, vI z, vI w] [3, 1] h (LawI (n + 1)) := by
  obtain ⟨A, o, E, Cn, U, T, L, nf, ns, nr, nm, nt, np, nk, nl, ⟨b, Rg, mm, tp⟩, ⟨F, th⟩, ⟨S, R, hcl⟩, ⟨Sm, Tb, P, Rl, Lk⟩, ⟨q1, q2⟩, gn, gt⟩ := I
  have nl5 := Lk.1.2
  refine Pr_mono (pr_secrecy b Tb) (fun h2 Q => ?_)
  obtain ⟨l, Tb2⟩ := Q
  have g1 := l.2.2.2.1
  have g2 := l.2.2.2.2
  exact ⟨A, o, E, Cn, U, T, L, nf, ns, nr, nm, nt, np, nk, nl, ⟨l.1, RegA_left b Rg l (by decide) (by decide) (by decide), MinA_left b mm l (by decide) (by decide), TapeA_left b tp l (by decide) (by decide) (by decide)⟩, ⟨FormA_left b F l (by decide) (by decide) (by decide), ThA_left th l (by decide) (by decide)⟩, ⟨SessA_left b S l (by decide) (by decide) F.2.1.2 (Nat.le_refl _) (by decide) (by decide), RecA_left b F R l S.2.1.2 (by decide) (by decide) (by decide), cl_left l hcl (by decide)⟩, ⟨SamA_left b Sm l (by decide) (Nat.le_refl _) (RegA_le Rg).1 (by decide) (by decide), Tb2, PerA_left b P l (by decide) (by decide) (by decide), RelA_left b Rl l (by decide) (fun t _ => ⟨rfl, by rw [l.2.2.1.1 90 (by decide) (by decide) (by decide)], by rw [l.2.2.1.1 91 (by decide) (by decide) (by decide)]⟩) (Nat.le_refl _) (by decide) (by decide), LookA_left b Lk l (by decide) (by decide) (by decide)⟩, ⟨by omega, by omega⟩, gn_ok g1 gn (by omega), gt_ok g2 gt (by omega)⟩
theorem lw_secret (I : LawI n h) (hn9 : n < 512) : Pr 291 294 [vI x, vI y, vI z] [3] h (LawI (n + 1)) := by
  obtain ⟨A, o, E, Cn, U, T, L, nf, ns, nr, nm, nt, np, nk, nl, ⟨b, Rg, mm, tp⟩, ⟨F, th⟩, ⟨S, R, hcl⟩, ⟨Sm, Tb, P, Rl, Lk⟩, ⟨q1, q2⟩, gn, gt⟩ := I
  have nl5 := Lk.1.2
  refine Pr_mono (pr_secret b Tb) (fun h2 Q => ?_)
  have l := Q
  have g1 := l.2.2.2.1
  have g2 := l.2.2.2.2
  exact ⟨A, o, E, Cn, U, T, L, nf, ns, nr, nm, nt, np, nk, nl, ⟨l.1, RegA_left b Rg l (by decide) (by decide) (by decide), MinA_left b mm l (by decide) (by decide), TapeA_left b tp l (by decide) (by decide) (by decide)⟩, ⟨FormA_left b F l (by decide) (by decide) (by decide), ThA_left th l (by decide) (by decide)⟩, ⟨SessA_left b S l (by decide) (by decide) F.2.1.2 (Nat.le_refl _) (by decide) (by decide), RecA_left b F R l S.2.1.2 (by decide) (by decide) (by decide), cl_left l hcl (by decide)⟩, ⟨SamA_left b Sm l (by decide) (Nat.le_refl _) (RegA_le Rg).1 (by decide) (by decide), TabA_left b Tb l (by decide) (by decide) (by decide), PerA_left b P l (by decide) (by decide) (by decide), RelA_out b Rl Tb.2.1.2 l (by decide) (by decide) (by decide) (by decide), LookA_left b Lk l (by decide) (by decide) (by decide)⟩, ⟨by omega, by omega⟩, gn_ok g1 gn (by omega), gt_ok g2 gt (by omega)⟩
theorem lw_interval (I : LawI n h) (hn9 : n < 512) : Pr 297 299 [vI x, vI y, vI z, vI w] [3] h (LawI (n + 1)) := by
  obtain ⟨A, o, E, Cn, U, T, L, nf, ns, nr, nm, nt, np, nk, nl, ⟨b, Rg, mm, tp⟩, ⟨F, th⟩, ⟨S, R, hcl⟩, ⟨Sm, Tb, P, Rl, Lk⟩, ⟨q1, q2⟩, gn, gt⟩ := I
  have nl5 := Lk.1.2
  refine Pr_mono (pr_interval b Tb) (fun h2 Q => ?_)
  have l := Q
  have g1 := l.2.2.2.1
  have g2 := l.2.2.2.2
  exact ⟨A, o, E, Cn, U, T, L, nf, ns, nr, nm, nt, np, nk, nl, ⟨l.1, RegA_left b Rg l (by decide) (by decide) (by decide), MinA_left b mm l (by decide) (by decide), TapeA_left b tp l (by decide) (by decide) (by decide)⟩, ⟨FormA_left b F l (by decide) (by decide) (by decide), ThA_left th l (by decide) (by decide)⟩, ⟨SessA_left b S l (by decide) (by decide) F.2.1.2 (Nat.le_refl _) (by decide) (by decide), RecA_left b F R l S.2.1.2 (by decide) (by decide) (by decide), cl_left l hcl (by decide)⟩, ⟨SamA_left b Sm l (by decide) (Nat.le_refl _) (RegA_le Rg).1 (by decide) (by decide), TabA_left b Tb l (by decide) (by decide) (by decide), PerA_left b P l (by decide) (by decide) (by decide), RelA_out b Rl Tb.2.1.2 l (by decide) (by decide) (by decide) (by decide), LookA_left b Lk l (by decide) (by decide) (by decide)⟩, ⟨by omega, by omega⟩, gn_ok g1 gn (by omega), gt_ok g2 gt (by omega)⟩
theorem lw_round (I : LawI n h) (hn9 : n < 512) : Pr 304 308 [vI x, vI y] [3, 1] h (LawI (n + 1)) := by
  obtain ⟨A, o, E, Cn, U, T, L, nf, ns, nr, nm, nt, np, nk, nl, ⟨b, Rg, mm, tp⟩, ⟨F, th⟩, ⟨S, R, hcl⟩, ⟨Sm, Tb, P, Rl, Lk⟩, ⟨q1, q2⟩, gn, gt⟩ := I
  have nl5 := Lk.1.2
  refine Pr_mono (pr_round b Tb) (fun h2 Q => ?_)
  obtain ⟨l, Tb2⟩ := Q
  have g1 := l.2.2.2.1
  have g2 := l.2.2.2.2
  exact ⟨A, o, E, Cn, U, T, L, nf, ns, nr, nm, nt, np, nk, nl, ⟨l.1, RegA_left b Rg l (by decide) (by decide) (by decide), MinA_left b mm l (by decide) (by decide), TapeA_left b tp l (by decide) (by decide) (by decide)⟩, ⟨FormA_left b F l (by decide) (by decide) (by decide), ThA_left th l (by decide) (by decide)⟩, ⟨SessA_left b S l (by decide) (by decide) F.2.1.2 (Nat.le_refl _) (by decide) (by decide), RecA_left b F R l S.2.1.2 (by decide) (by decide) (by decide), cl_left l hcl (by decide)⟩, ⟨SamA_left b Sm l (by decide) (Nat.le_refl _) (RegA_le Rg).1 (by decide) (by decide), Tb2, PerA_left b P l (by decide) (by decide) (by decide), RelA_left b Rl l (by decide) (fun t _ => ⟨rfl, by rw [l.2.2.1.1 90 (by decide) (by decide) (by decide)], by rw [l.2.2.1.1 91 (by decide) (by decide) (by decide)]⟩) (Nat.le_refl _) (by decide) (by decide), LookA_left b Lk l (by decide) (by decide) (by decide)⟩, ⟨by omega, by omega⟩, gn_ok g1 gn (by omega), gt_ok g2 gt (by omega)⟩
theorem lw_person (I : LawI n h) (hn9 : n < 512) : Pr 309 311 [vI x] [1, 4] h (LawI (n + 1)) := by
  obtain ⟨A, o, E, Cn, U, T, L, nf, ns, nr, nm, nt, np, nk, nl, ⟨b, Rg, mm, tp⟩, ⟨F, th⟩, ⟨S, R, hcl⟩, ⟨Sm, Tb, P, Rl, Lk⟩, ⟨q1, q2⟩, gn, gt⟩ := I
  have nl5 := Lk.1.2
  refine Pr_mono (pr_person b P) (fun h2 Q => ?_)
  obtain ⟨A1, o1, np1, l, P2⟩ := Q
  have g1 := l.2.2.2.1
  have g2 := l.2.2.2.2
  exact ⟨A1, o1, E, Cn, U, T, L, nf, ns, nr, nm, nt, np1, nk, nl, ⟨l.1, RegA_left b Rg l (by decide) (by decide) (by decide), MinA_left b mm l (by decide) (by decide), TapeA_left b tp l (by decide) (by decide) (by decide)⟩, ⟨FormA_left b F l (by decide) (by decide) (by decide), ThA_left th l (by decide) (by decide)⟩, ⟨SessA_left b S l (by decide) (by decide) F.2.1.2 (Nat.le_refl _) (by decide) (by decide), RecA_left b F R l S.2.1.2 (by decide) (by decide) (by decide), cl_left l hcl (by decide)⟩, ⟨SamA_left b Sm l (by decide) (Nat.le_refl _) (RegA_le Rg).1 (by decide) (by decide), TabA_left b Tb l (by decide) (by decide) (by decide), P2, RelA_o2 b Rl Tb.2.1.2 l (by decide) (by decide) (by decide) (by decide), LookA_left b Lk l (by decide) (by decide) (by decide)⟩, ⟨by omega, by omega⟩, gn_ok g1 gn (by omega), gt_ok g2 gt (by omega)⟩
theorem lw_release (I : LawI n h) (hn9 : n < 512) : Pr 314 316 [vI x, vI y, vI z] [3, 2, 1, 4] h (LawI (n + 1)) := by
  obtain ⟨A, o, E, Cn, U, T, L, nf, ns, nr, nm, nt, np, nk, nl, ⟨b, Rg, mm, tp⟩, ⟨F, th⟩, ⟨S, R, hcl⟩, ⟨Sm, Tb, P, Rl, Lk⟩, ⟨q1, q2⟩, gn, gt⟩ := I
  have nl5 := Lk.1.2
  refine Pr_mono (pr_release b P mm.1 Tb Rl) (fun h2 Q => ?_)
  obtain ⟨A1, o1, nk1, l, Rl2⟩ := Q
  have g1 := l.2.2.2.1
  have g2 := l.2.2.2.2
  exact ⟨A1, o1, E, Cn, U, T, L, nf, ns, nr, nm, nt, np, nk1, nl, ⟨l.1, RegA_left b Rg l (by decide) (by decide) (by decide), MinA_left b mm l (by decide) (by decide), TapeA_left b tp l (by decide) (by decide) (by decide)⟩, ⟨FormA_left b F l (by decide) (by decide) (by decide), ThA_left th l (by decide) (by decide)⟩, ⟨SessA_left b S l (by decide) (by decide) F.2.1.2 (Nat.le_refl _) (by decide) (by decide), RecA_left b F R l S.2.1.2 (by decide) (by decide) (by decide), cl_left l hcl (by decide)⟩, ⟨SamA_left b Sm l (by decide) (Nat.le_refl _) (RegA_le Rg).1 (by decide) (by decide), TabA_left b Tb l (by decide) (by decide) (by decide), PerA_left b P l (by decide) (by decide) (by decide), Rl2, LookA_left b Lk l (by decide) (by decide) (by decide)⟩, ⟨by omega, by omega⟩, gn_ok g1 gn (by omega), gt_ok g2 gt (by omega)⟩
theorem lw_look (I : LawI n h) (hn9 : n < 512) : Pr 319 321 [vI x, vI y, vI z, vI w] [3, 4] h (LawI (n + 1)) := by
  obtain ⟨A, o, E, Cn, U, T, L, nf, ns, nr, nm, nt, np, nk, nl, ⟨b, Rg, mm, tp⟩, ⟨F, th⟩, ⟨S, R, hcl⟩, ⟨Sm, Tb, P, Rl, Lk⟩, ⟨q1, q2⟩, gn, gt⟩ := I
  have nl5 := Lk.1.2
  refine Pr_mono (pr_look b P mm.1 Tb Rl Lk) (fun h2 Q => ?_)
  obtain ⟨A1, o1, nl1, l, Lk2, hl1⟩ := Q
  have g1 := l.2.2.2.1
  have g2 := l.2.2.2.2
  exact ⟨A1, o1, E, Cn, U, T, L, nf, ns, nr, nm, nt, np, nk, nl1, ⟨l.1, RegA_left b Rg l (by decide) (by decide) (by decide), MinA_left b mm l (by decide) (by decide), TapeA_left b tp l (by decide) (by decide) (by decide)⟩, ⟨FormA_left b F l (by decide) (by decide) (by decide), ThA_left th l (by decide) (by decide)⟩, ⟨SessA_left b S l (by decide) (by decide) F.2.1.2 (Nat.le_refl _) (by decide) (by decide), RecA_left b F R l S.2.1.2 (by decide) (by decide) (by decide), cl_left l hcl (by decide)⟩, ⟨SamA_left b Sm l (by decide) (Nat.le_refl _) (RegA_le Rg).1 (by decide) (by decide), TabA_left b Tb l (by decide) (by decide) (by decide), PerA_left b P l (by decide) (by decide) (by decide), RelA_out b Rl Tb.2.1.2 l (by decide) (by decide) (by decide) (by decide), Lk2⟩, ⟨by omega, by omega⟩, gn_ok g1 gn (by omega), gt_ok g2 gt (by omega)⟩
theorem lw_looked (I : LawI n h) (hn9 : n < 512) : Pr 322 324 [vI x, vI y] [3, 1] h (LawI (n + 1)) := by
  obtain ⟨A, o, E, Cn, U, T, L, nf, ns, nr, nm, nt, np, nk, nl, ⟨b, Rg, mm, tp⟩, ⟨F, th⟩, ⟨S, R, hcl⟩, ⟨Sm, Tb, P, Rl, Lk⟩, ⟨q1, q2⟩, gn, gt⟩ := I
  have nl5 := Lk.1.2
  refine Pr_mono (pr_looked b Lk) (fun h2 Q => ?_)
  have l := Q
  have g1 := l.2.2.2.1
  have g2 := l.2.2.2.2
  exact ⟨A, o, E, Cn, U, T, L, nf, ns, nr, nm, nt, np, nk, nl, ⟨l.1, RegA_left b Rg l (by decide) (by decide) (by decide), MinA_left b mm l (by decide) (by decide), TapeA_left b tp l (by decide) (by decide) (by decide)⟩, ⟨FormA_left b F l (by decide) (by decide) (by decide), ThA_left th l (by decide) (by decide)⟩, ⟨SessA_left b S l (by decide) (by decide) F.2.1.2 (Nat.le_refl _) (by decide) (by decide), RecA_left b F R l S.2.1.2 (by decide) (by decide) (by decide), cl_left l hcl (by decide)⟩, ⟨SamA_left b Sm l (by decide) (Nat.le_refl _) (RegA_le Rg).1 (by decide) (by decide), TabA_left b Tb l (by decide) (by decide) (by decide), PerA_left b P l (by decide) (by decide) (by decide), RelA_out b Rl Tb.2.1.2 l (by decide) (by decide) (by decide) (by decide), LookA_left b Lk l (by decide) (by decide) (by decide)⟩, ⟨by omega, by omega⟩, gn_ok g1 gn (by omega), gt_ok g2 gt (by omega)⟩
theorem lw_told (I : LawI n h) (hn9 : n < 512) : Pr 325 327 [vI x] [1] h (LawI (n + 1)) := by
  obtain ⟨A, o, E, Cn, U, T, L, nf, ns, nr, nm, nt, np, nk, nl, ⟨b, Rg, mm, tp⟩, ⟨F, th⟩, ⟨S, R, hcl⟩, ⟨Sm, Tb, P, Rl, Lk⟩, ⟨q1, q2⟩, gn, gt⟩ := I
  have nl5 := Lk.1.2
  refine Pr_mono (pr_told b Rg mm tp F S R Sm Tb P Rl Lk hcl) (fun h2 Q => ?_)
  have l := Q
  have g1 := l.2.2.2.1
  have g2 := l.2.2.2.2
  exact ⟨A, o, E, Cn, U, T, L, nf, ns, nr, nm, nt, np, nk, nl, ⟨l.1, RegA_left b Rg l (by decide) (by decide) (by decide), MinA_left b mm l (by decide) (by decide), TapeA_left b tp l (by decide) (by decide) (by decide)⟩, ⟨FormA_left b F l (by decide) (by decide) (by decide), ThA_left th l (by decide) (by decide)⟩, ⟨SessA_left b S l (by decide) (by decide) F.2.1.2 (Nat.le_refl _) (by decide) (by decide), RecA_left b F R l S.2.1.2 (by decide) (by decide) (by decide), cl_left l hcl (by decide)⟩, ⟨SamA_left b Sm l (by decide) (Nat.le_refl _) (RegA_le Rg).1 (by decide) (by decide), TabA_left b Tb l (by decide) (by decide) (by decide), PerA_left b P l (by decide) (by decide) (by decide), RelA_out b Rl Tb.2.1.2 l (by decide) (by decide) (by decide) (by decide), LookA_left b Lk l (by decide) (by decide) (by decide)⟩, ⟨by omega, by omega⟩, gn_ok g1 gn (by omega), gt_ok g2 gt (by omega)⟩
end LW2
