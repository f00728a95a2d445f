/-! A NEW SESSION: the unit's numbers, the constructor -/
section NSE
variable {d r0 ra F bu bt U T : Nat} {h : aH} {u x kn : Int32} {X : Nat → aH → Prop} {M : Nat → Nat → Int32}
/-- the six numbers of a unit -/
theorem c_nums {K : Nat → aH → Prop} (f : CF h) (R : unitsC h bu U (M 45) (M 46)) (R2 : tellC h bt T (M 47) (M 48) (M 49) (M 50) (M 51)) (fo : forest (M 45) U) (hb : bu ≠ 14 ∧ bu ≠ 15 ∧ bt ≠ 14 ∧ bt ≠ 15)
    (hd : ∀ r, r < T → (0 ≤ (M 47 r).toInt ∧ (M 47 r).toInt < U) ∧ 0 ≤ (M 49 r).toInt) (h0 : 0 ≤ u.toInt) (h1 : u.toInt < U) (hbN : bu < gN h ∧ bt < gN h)
    (kk : ∀ I : Nat → Nat → Int32, (∀ a, a ≠ 14 → a ≠ 15 → a ≠ gN h → I a = gI h a) → (∀ i, i < 6 → I (gN h) i = valM M i kn.toInt kn.toInt (lastM M kn.toInt u.toInt.toNat) T) → K (gN h) (hU (gNew h 100 6) I (gJ (gNew h 100 6)))) : CR (d + 5) 127 [vR 9, vI u, vI kn] h K X := by
  have hN := f.1
  generalize hg : gNew h 100 6 = g at *
  have kp : keeps h g (fun _ => False) := by rw [← hg]; exact keeps_new _ _ _ _
  have fg : CF g := CF_keeps f kp (by simp)
  have gk : gK g (gN h) = 100 := by rw [← hg, gK_gNew, if_pos rfl]
  have gl : gL g (gN h) = 6 := by rw [← hg, gL_gNew, if_pos rfl]
  have gi : ∀ a, a ≠ gN h → gI g a = gI h a := fun a ha => by funext j; rw [← hg, gI_gNew, if_neg ha]
  have Rg : unitsC g bu U (M 45) (M 46) := units_keeps R kp (fun w => w) (fun w => w)
  have R2g : tellC g bt T (M 47) (M 48) (M 49) (M 50) (M 51) := tell_keeps R2 kp (fun w => w) (fun w => w)
  have main : ∀ (n p : Nat) (I : Nat → Nat → Int32), p + n = 6 → (∀ a, a ≠ 14 → a ≠ 15 → a ≠ gN h → I a = gI h a) → (∀ i, i < p → I (gN h) i = valM M i kn.toInt kn.toInt (lastM M kn.toInt u.toInt.toNat) T) → Wp (d + 5) 127 (8, [some (vR 9), some (vI u), some (vI kn), some (vR (gN h)), some (vI (nI p))], [], hU g I (gJ g)) (RR K X) := by
    intro n
    induction n with
    | zero =>
      intro p I hp i1 i2
      have hpc : p = 6 := by omega
      subst hpc
      have t6 : (nI 6).toInt = 6 := rfl
      refine w127_8 ⟨fun c => by rw [t6] at c; omega, fun _ => kk I i1 i2⟩
    | succ n ih =>
      intro p I hp i1 i2
      have hpI : (nI p).toInt = p := ti_n (by omega)
      have cf : CF (hU g I (gJ g)) := fg
      have e1 : I 10 = gI g 10 := by rw [gi 10 (by omega)]; exact i1 10 (by decide) (by decide) (by omega)
      have e2 : I bu = gI g bu := by rw [gi bu (by omega)]; exact i1 bu hb.1 hb.2.1 (by omega)
      have e3 : I 12 = gI g 12 := by rw [gi 12 (by omega)]; exact i1 12 (by decide) (by decide) (by omega)
      have e4 : I bt = gI g bt := by rw [gi bt (by omega)]; exact i1 bt hb.2.2.1 hb.2.2.2 (by omega)
      have R' : unitsC (hU g I (gJ g)) bu U (M 45) (M 46) := units_hU Rg e1 e2
      have R2' : tellC (hU g I (gJ g)) bt T (M 47) (M 48) (M 49) (M 50) (M 51) := ⟨rows_hU R2g.1 e3, fun r hr => by rw [gIh, e4]; exact R2g.2 r hr⟩
      refine w127_8 ⟨fun c => ⟨by decide, ck_9 fg, c_numberOf (d := d) cf R' R2' fo hb hd h0 h1 fun I2 a1 => ?_⟩, fun c => absurd (by omega) c⟩
      rw [hpI]
      simp only [↓inB_iff, gK_hU, gL_hU, gk, gl, hpI, pI_hU, hU_hU, gJh, forall_eq, nI_1]
      refine ⟨by omega, trivial, by omega, by omega, ?_⟩
      have nx := ih (p + 1) (uI I2 (gN h) p (valM M (p : Int) kn.toInt kn.toInt (lastM M kn.toInt u.toInt.toNat) T)) (by omega) (fun a q1 q2 q3 => by rw [uI_ne _ _ _ q3, a1 a q1 q2]; exact i1 a q1 q2 q3) (fun i hi => by
        rw [uI_app]
        by_cases c9 : i = p
        · rw [if_pos ⟨rfl, c9⟩, c9]
        · rw [if_neg (fun z => c9 z.2), a1 _ (by omega) (by omega)]; exact i2 i (by omega))
      rw [Int.toNat_natCast]
      exact nx
  refine m127 (fun r0 h9 e0 e1 => ?_)
  rw [e1, e0, hg]
  exact main 6 0 (gI g) (by omega) (fun a _ _ ha => gi a ha) (fun i hi => by omega)
theorem c_newSes {K : aH → Prop} (hN : 8 ≤ gN h) (hr : r0 < gN h ∧ 8 ≤ r0 ∧ gK h r0 = 10)
    (kk : ∀ h4, keeps h h4 (fun q => q = r0) → gN h4 = gN h + 3 → gT h4 ≤ gT h + 60 → (∀ j, j < 3 → gK h4 (gN h + j) = 100 ∧ gL h4 (gN h + j) = 20 ∧ ∀ i, i < 20 → gI h4 (gN h + j) i = -2000000) → (gR h4 r0 0 = F ∧ gR h4 r0 2 = ra ∧ gR h4 r0 3 = gN h ∧ gR h4 r0 4 = gN h + 1 ∧ gR h4 r0 5 = gN h + 2) → (gI h4 r0 1 = u ∧ gI h4 r0 9 = 0 ∧ gI h4 r0 12 = 0) → K h4) : CV (d + 2) 128 [vR r0, vR F, vI u, vR ra] h K X := by
  obtain ⟨hr1, hr2, hr3⟩ := hr
  generalize hN0 : gN h = N at *
  have n1 : r0 ≠ N := by omega
  have n2 : r0 ≠ N + 1 := by omega
  have n3 : r0 ≠ N + 1 + 1 := by omega
  refine m128 ⟨hr2, hr3, fun h0 e0 h1 e1 h2 e2 h3 e3 => w128_24 ⟨hr2, ?_, fun h4 e4 h5 e5 h6 e6 h7 e7 => w128_44 ⟨hr2, ?_, fun h8 e8 h9 e9 a1 g1 x1 y1 => ⟨?_, fun g2 y2 a2 g3 x2 y3 => ⟨?_, fun g4 y4 => w128_70 fun a3 g5 x3 y5 => ⟨hr2, ?_, fun g6 y6 => ?_⟩⟩⟩⟩⟩⟩
  · subst e3 e2 e1 e0; exact hr3
  · subst e7 e6 e5 e4 e3 e2 e1 e0; exact hr3
  · subst y1 e9 e8 e7 e6 e5 e4 e3 e2 e1 e0; simp only [gN_pR, gT_pR, gK_pR, gL_pR, gR_pR, gI_pR, gJ_pR, gN_pI, gT_pI, gK_pI, gL_pI, gR_pI, gI_pI, gJ_pI, gN_gNew, gT_gNew, gK_gNew, gL_gNew, gR_gNew, gI_gNew, gJ_gNew, hN0, n1, if_false]; exact hr3
  · subst y3 y2 y1 e9 e8 e7 e6 e5 e4 e3 e2 e1 e0; simp only [gN_pR, gT_pR, gK_pR, gL_pR, gR_pR, gI_pR, gJ_pR, gN_pI, gT_pI, gK_pI, gL_pI, gR_pI, gI_pI, gJ_pI, gN_gNew, gT_gNew, gK_gNew, gL_gNew, gR_gNew, gI_gNew, gJ_gNew, hN0, n1, n2, if_false]; exact hr3
  · subst y5 y4 y3 y2 y1 e9 e8 e7 e6 e5 e4 e3 e2 e1 e0; simp only [gN_pR, gT_pR, gK_pR, gL_pR, gR_pR, gI_pR, gJ_pR, gN_pI, gT_pI, gK_pI, gL_pI, gR_pI, gI_pI, gJ_pI, gN_gNew, gT_gNew, gK_gNew, gL_gNew, gR_gNew, gI_gNew, gJ_gNew, hN0, n1, n2, n3, if_false]; exact hr3
  · have q1 : a1 = N := by rw [x1]; subst e9 e8 e7 e6 e5 e4 e3 e2 e1 e0; simp only [gN_pR, gT_pR, gK_pR, gL_pR, gR_pR, gI_pR, gJ_pR, gN_pI, gT_pI, gK_pI, gL_pI, gR_pI, gI_pI, gJ_pI, gN_gNew, gT_gNew, gK_gNew, gL_gNew, gR_gNew, gI_gNew, gJ_gNew, hN0]
    have q2 : a2 = N + 1 := by rw [x2]; subst y2 y1 e9 e8 e7 e6 e5 e4 e3 e2 e1 e0; simp only [gN_pR, gT_pR, gK_pR, gL_pR, gR_pR, gI_pR, gJ_pR, gN_pI, gT_pI, gK_pI, gL_pI, gR_pI, gI_pI, gJ_pI, gN_gNew, gT_gNew, gK_gNew, gL_gNew, gR_gNew, gI_gNew, gJ_gNew, hN0]
    have q3 : a3 = N + 1 + 1 := by rw [x3]; subst y4 y3 y2 y1 e9 e8 e7 e6 e5 e4 e3 e2 e1 e0; simp only [gN_pR, gT_pR, gK_pR, gL_pR, gR_pR, gI_pR, gJ_pR, gN_pI, gT_pI, gK_pI, gL_pI, gR_pI, gI_pI, gJ_pI, gN_gNew, gT_gNew, gK_gNew, gL_gNew, gR_gNew, gI_gNew, gJ_gNew, hN0]
    have m1 : N ≠ N + 1 := by omega
    have m2 : N ≠ N + 1 + 1 := by omega
    have m3 : N + 1 ≠ N := by omega
    have m4 : N + 1 ≠ N + 1 + 1 := by omega
    have m5 : N + 1 + 1 ≠ N := by omega
    have m6 : N + 1 + 1 ≠ N + 1 := by omega
    subst q1 q2 q3
    have r3 : gR g6 r0 3 = a1 ∧ gR g6 r0 4 = a1 + 1 ∧ gR g6 r0 5 = a1 + 1 + 1 ∧ gR g6 r0 0 = F ∧ gR g6 r0 2 = ra := by
      subst y6 y5 y4 y3 y2 y1 e9 e8 e7 e6 e5 e4 e3 e2 e1 e0
      simp only [gN_pR, gT_pR, gK_pR, gL_pR, gR_pR, gI_pR, gJ_pR, gN_pI, gT_pI, gK_pI, gL_pI, gR_pI, gI_pI, gJ_pI, gN_gNew, gT_gNew, gK_gNew, gL_gNew, gR_gNew, gI_gNew, gJ_gNew, hN0, n1, n2, n3, true_and, and_true, Nat.reduceEqDiff, if_true, if_false]
    have k3 : gK g6 a1 = 100 ∧ gK g6 (a1 + 1) = 100 ∧ gK g6 (a1 + 1 + 1) = 100 ∧ gK g6 r0 = 10 ∧ gL g6 a1 = 20 ∧ gL g6 (a1 + 1) = 20 ∧ gL g6 (a1 + 1 + 1) = 20 := by
      subst y6 y5 y4 y3 y2 y1 e9 e8 e7 e6 e5 e4 e3 e2 e1 e0
      simp only [gN_pR, gT_pR, gK_pR, gL_pR, gR_pR, gI_pR, gJ_pR, gN_pI, gT_pI, gK_pI, gL_pI, gR_pI, gI_pI, gJ_pI, gN_gNew, gT_gNew, gK_gNew, gL_gNew, gR_gNew, gI_gNew, gJ_gNew, hN0, n1, n2, n3, m1, m2, m4, if_true, if_false, hr3, and_self]
    have i3 : gI g6 r0 1 = u ∧ gI g6 r0 9 = 0 ∧ gI g6 r0 12 = 0 := by
      subst y6 y5 y4 y3 y2 y1 e9 e8 e7 e6 e5 e4 e3 e2 e1 e0
      simp only [gN_pR, gT_pR, gK_pR, gL_pR, gR_pR, gI_pR, gJ_pR, gN_pI, gT_pI, gK_pI, gL_pI, gR_pI, gI_pI, gJ_pI, gN_gNew, gT_gNew, gK_gNew, gL_gNew, gR_gNew, gI_gNew, gJ_gNew, hN0, n1, n2, n3, true_and, and_true, Nat.reduceEqDiff, if_true, if_false]
    have kp : keeps h g6 (fun q => q = r0) := by
      refine ⟨?_, ?_, fun a ha => ?_, fun a ha hp => ?_⟩
      · subst y6 y5 y4 y3 y2 y1 e9 e8 e7 e6 e5 e4 e3 e2 e1 e0; simp only [gN_pR, gT_pR, gK_pR, gL_pR, gR_pR, gI_pR, gJ_pR, gN_pI, gT_pI, gK_pI, gL_pI, gR_pI, gI_pI, gJ_pI, gN_gNew, gT_gNew, gK_gNew, gL_gNew, gR_gNew, gI_gNew, gJ_gNew, hN0]; omega
      · subst y6 y5 y4 y3 y2 y1 e9 e8 e7 e6 e5 e4 e3 e2 e1 e0; simp only [gN_pR, gT_pR, gK_pR, gL_pR, gR_pR, gI_pR, gJ_pR, gN_pI, gT_pI, gK_pI, gL_pI, gR_pI, gI_pI, gJ_pI, gN_gNew, gT_gNew, gK_gNew, gL_gNew, gR_gNew, gI_gNew, gJ_gNew, hN0]; omega
      · have l1 : a ≠ a1 := by omega
        have l2 : a ≠ a1 + 1 := by omega
        have l3 : a ≠ a1 + 1 + 1 := by omega
        subst y6 y5 y4 y3 y2 y1 e9 e8 e7 e6 e5 e4 e3 e2 e1 e0
        simp only [gN_pR, gT_pR, gK_pR, gL_pR, gR_pR, gI_pR, gJ_pR, gN_pI, gT_pI, gK_pI, gL_pI, gR_pI, gI_pI, gJ_pI, gN_gNew, gT_gNew, gK_gNew, gL_gNew, gR_gNew, gI_gNew, gJ_gNew, hN0, l1, l2, l3, if_false, and_self]
      · have l1 : a ≠ a1 := by omega
        have l2 : a ≠ a1 + 1 := by omega
        have l3 : a ≠ a1 + 1 + 1 := by omega
        subst y6 y5 y4 y3 y2 y1 e9 e8 e7 e6 e5 e4 e3 e2 e1 e0
        refine ⟨?_, ?_, fun j => ?_, fun j => ?_, fun j => ?_⟩ <;> simp only [gN_pR, gT_pR, gK_pR, gL_pR, gR_pR, gI_pR, gJ_pR, gN_pI, gT_pI, gK_pI, gL_pI, gR_pI, gI_pI, gJ_pI, gN_gNew, gT_gNew, gK_gNew, gL_gNew, gR_gNew, gI_gNew, gJ_gNew, hN0, l1, l2, l3, hp, false_and, if_false]
    have gn6 : gN g6 = a1 + 3 := by subst y6 y5 y4 y3 y2 y1 e9 e8 e7 e6 e5 e4 e3 e2 e1 e0; simp only [gN_pR, gT_pR, gK_pR, gL_pR, gR_pR, gI_pR, gJ_pR, gN_pI, gT_pI, gK_pI, gL_pI, gR_pI, gI_pI, gJ_pI, gN_gNew, gT_gNew, gK_gNew, gL_gNew, gR_gNew, gI_gNew, gJ_gNew, hN0]
    have gt6 : gT g6 ≤ gT h + 60 := by subst y6 y5 y4 y3 y2 y1 e9 e8 e7 e6 e5 e4 e3 e2 e1 e0; simp only [gN_pR, gT_pR, gK_pR, gL_pR, gR_pR, gI_pR, gJ_pR, gN_pI, gT_pI, gK_pI, gL_pI, gR_pI, gI_pI, gJ_pI, gN_gNew, gT_gNew, gK_gNew, gL_gNew, gR_gNew, gI_gNew, gJ_gNew, hN0]; omega
    rw [r3.1]
    have f1 := fun (K : aH → Prop) X => fill_br (d := d + 1) (h := g6) (I := gI g6) (J := gJ g6) (X := X) (K := K) (a := a1) (n := 20) (v := -2000000) (by omega) k3.1 k3.2.2.2.2.1 (by decide)
    rw [hU_eta] at f1
    refine f1 _ _ (fun I1 i11 i12 => ?_)
    rw [gK_hU, gR_hU, r3.2.1]
    refine ⟨k3.2.2.2.1, fill_br (d := d + 1) (h := g6) (I := I1) (J := gJ g6) (by omega) k3.2.1 k3.2.2.2.2.2.1 (by decide) (fun I2 i21 i22 => ?_)⟩
    rw [gK_hU, gR_hU, r3.2.2.1]
    refine ⟨k3.2.2.2.1, fill_br (d := d + 1) (h := g6) (I := I2) (J := gJ g6) (by omega) k3.2.2.1 k3.2.2.2.2.2.2 (by decide) (fun I3 i31 i32 => ?_)⟩
    have j0 : ∀ a, a ≠ a1 → a ≠ a1 + 1 → a ≠ a1 + 1 + 1 → I3 a = gI g6 a := fun a q1 q2 q3 => by rw [i32 a q3, i22 a q2, i12 a q1]
    refine kk (hU g6 I3 (gJ g6)) ⟨kp.1, kp.2.1, kp.2.2.1, fun a ha hp => ?_⟩ gn6 gt6 (fun j hj => ?_) ⟨r3.2.2.2.1, r3.2.2.2.2, r3.1, r3.2.1, r3.2.2.1⟩ ?_
    · have s := kp.2.2.2 a ha hp
      exact ⟨s.1, s.2.1, fun j => by rw [gI_hU, j0 a (by omega) (by omega) (by omega)]; exact s.2.2.1 j, s.2.2.2.1, s.2.2.2.2⟩
    · have : j = 0 ∨ j = 1 ∨ j = 2 := by omega
      rcases this with e | e | e <;> subst e
      · refine ⟨k3.1, k3.2.2.2.2.1, fun i hi => ?_⟩
        rw [gIh, Nat.add_zero, i32 _ m2, i22 _ m1]; exact i11 i hi
      · refine ⟨k3.2.1, k3.2.2.2.2.2.1, fun i hi => ?_⟩
        rw [gIh, i32 _ m4]; exact i21 i hi
      · exact ⟨k3.2.2.1, k3.2.2.2.2.2.2, fun i hi => i31 i hi⟩
    · rw [gIh, j0 r0 n1 n2 n3]; exact i3
end NSE
