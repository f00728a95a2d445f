/-! THE LAW: its loop -/
section LW4
variable {n L : Nat} {h h1 : aH} {X : Nat → aH → Prop}
theorem LawI_mono (I : LawI n h) : LawI (n + 1) h := by
  obtain ⟨A, o, E, Cn, U, T, L, nf, ns, nr, nm, nt, np, nk, nl, a1, a2, a3, a4, ⟨q1, q2⟩, gn, gt⟩ := I
  exact ⟨A, o, E, Cn, U, T, L, nf, ns, nr, nm, nt, np, nk, nl, a1, a2, a3, a4, ⟨by omega, by omega⟩, by omega, by omega⟩
def KLaw (y : Int32) (h2 : aH) : Prop := y = 1 ∧ gN h2 ≤ 601032 ∧ gT h2 ≤ 7293034
theorem lw_end (I : LawI n h) (hn : n ≤ 512) : KLaw 1 h := by
  obtain ⟨A, o, E, Cn, U, T, L, nf, ns, nr, nm, nt, np, nk, nl, a1, a2, a3, a4, q, gn, gt⟩ := I
  exact ⟨rfl, by omega, by omega⟩
theorem lw_loop (hL : L ≤ 3584) : ∀ k n h, n + k = 513 → scr L h → LawI n h → n ≤ 512 → Wp 502 328 (23, lcs n, [], h) (RI KLaw X) := by
  intro k
  induction k with
  | zero => intro n h hk S I hn; omega
  | succ k ih =>
    intro n h hk S I hn512
    have nI7 : (nI (7 * n)).toInt = ((7 * n : Nat) : Int) := ti_n (by omega)
    have t7 : (7 : Int32).toInt = 7 := rfl
    have LI : (nI L - 7).toInt = (L : Int) - 7 := by rw [ti_sub (by rw [ti_n (by omega), t7]; omega) (by rw [ti_n (by omega), t7]; omega), ti_n (by omega), t7]
    refine w328_23 ⟨by rw [S.1.1]; decide, fun _ => lw_end I hn512, fun c => ?_⟩
    rw [S.1.2, LI, nI7] at c
    have hl : 7 * n + 7 ≤ L := by omega
    have hn : n < 512 := by omega
    have fin : ∀ h2, LawI (n + 1) h2 → kpS h h2 → Wp 502 328 (3074, lcs n, [], h2) (RI KLaw X) := fun h2 I2 k2 => w328_3074 (fun v0 e => by
      have e7 : nI (7 * n) + 7 = nI (7 * (n + 1)) := by rw [show (7 : Int32) = nI 7 from rfl, nI_add, show 7 * n + 7 = 7 * (n + 1) by omega]
      rw [e, e7]
      exact ih (n + 1) h2 (by omega) (scr_kp S k2) I2 (by omega))
    refine ⟨7 * n, ix0 S hl hL, fun _ => lb_208 S I hn hl hL fin, fun _ => lb_264 S I hn hl hL fin, fun _ => lb_308 S I hn hl hL fin, fun _ => lb_400 S I hn hl hL fin, fun _ => lb_468 S I hn hl hL fin, fun _ => lb_560 S I hn hl hL fin, fun _ => lb_616 S I hn hl hL fin, fun _ => lb_720 S I hn hl hL fin, fun _ => lb_776 S I hn hl hL fin, fun _ => lb_820 S I hn hl hL fin, fun _ => lb_900 S I hn hl hL fin, fun _ => lb_968 S I hn hl hL fin, fun _ => lb_1024 S I hn hl hL fin, fun _ => lb_1092 S I hn hl hL fin, fun _ => lb_1148 S I hn hl hL fin, fun _ => lb_1244 S I hn hl hL fin, fun _ => lb_1300 S I hn hl hL fin, fun _ => lb_1368 S I hn hl hL fin, fun _ => lb_1436 S I hn hl hL fin, fun _ => lb_1528 S I hn hl hL fin, fun _ => lb_1608 S I hn hl hL fin, fun _ => lb_1676 S I hn hl hL fin, fun _ => lb_1760 S I hn hl hL fin, fun _ => lb_1828 S I hn hl hL fin, fun _ => lb_1946 S I hn hl hL fin, fun _ => lb_2014 S I hn hl hL fin, fun _ => lb_2110 S I hn hl hL fin, fun _ => lb_2178 S I hn hl hL fin, fun _ => lb_2282 S I hn hl hL fin, fun _ => lb_2374 S I hn hl hL fin, fun _ => lb_2466 S I hn hl hL fin, fun _ => lb_2546 S I hn hl hL fin, fun _ => lb_2654 S I hn hl hL fin, fun _ => lb_2722 S I hn hl hL fin, fun _ => lb_2778 S I hn hl hL fin, fun _ => lb_2858 S I hn hl hL fin, fun _ => lb_2950 S I hn hl hL fin, fun _ => lb_3018 S I hn hl hL fin, fun _ => fin h (LawI_mono I) (kpS_refl h)⟩
end LW4
