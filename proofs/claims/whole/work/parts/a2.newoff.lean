/-! A NEW OFFICE: the whole of the class -/
section NOF
variable {d : Nat} {h : aH} {X : Nat → aH → Prop} {K : aH → Prop}
/-- what a new office is made of -/
def offN (h e : aH) : Prop := (gN e = 44 ∧ gT e ≤ gT h + 3000 ∧ keeps h e (fun q => q = 8)) ∧ (gK e 8 = 1 ∧ gI e 8 12 = 0) ∧ (gR e 8 0 = 9 ∧ gR e 8 1 = 17 ∧ gR e 8 2 = 19 ∧ gR e 8 3 = 32 ∧ gR e 8 4 = 34 ∧ gR e 8 5 = 35 ∧ gR e 8 6 = 36 ∧ gR e 8 7 = 37 ∧ gR e 8 8 = 38 ∧ gR e 8 9 = 39 ∧ gR e 8 10 = 40 ∧ gR e 8 11 = 42) ∧ ((gK e 9 = 6 ∧ gR e 9 0 = 10 ∧ gR e 9 1 = 12 ∧ gR e 9 2 = 14 ∧ gR e 9 3 = 15 ∧ gR e 9 4 = 16 ∧ gI e 9 5 = 0) ∧ (gK e 14 = 100 ∧ gK e 15 = 100 ∧ gK e 16 = 100 ∧ gL e 14 = 100 ∧ gL e 15 = 100 ∧ gL e 16 = 100) ∧ rowsOK e 10 11 2 100 0 ∧ rowsOK e 12 13 5 1500 0) ∧ (gK e 17 = 12 ∧ gK e 18 = 103 ∧ gL e 18 = 1200 ∧ gR e 17 0 = 18 ∧ gI e 17 1 = 0) ∧ (gK e 19 = 4 ∧ gR e 19 0 = 17) ∧ (gK e 32 = 2 ∧ gK e 33 = 100 ∧ gL e 33 = 20 ∧ gR e 32 0 = 33) ∧ (∀ a, 34 ≤ a → a ≤ 39 → gK e a = 13 ∧ gI e a 1 = 0 ∧ gR e a 0 = 2) ∧ rowsOK e 40 41 1 12 0 ∧ rowsOK e 42 43 6 500 0
theorem c_office (hN : gN h = 9) (h8 : gK h 8 = 1) (kk : ∀ e, offN h e → K e) : CV (d + 4) 10 [vR 8] h K X := by
  have k8 : ∀ {a b : aH} {j : Nat}, stgS a b j → 8 < gN a → gK a 8 = 1 → gK b 8 = 1 := fun {a b j} s hn hk => by rw [(s.1.2.2.1 8 hn).1]; exact hk
  refine m10 ⟨by decide, fun r1 g1 x1 y1 => ?_⟩
  subst x1 y1
  refine ⟨by omega, c_reg (by omega) (fun h1 kp1 n1 t1 f1 f1b R1 R1b => ?_)⟩
  rw [hN] at n1 f1 f1b R1 R1b
  have s1 := stg_of (j := 0) (by omega) kp1
  refine ⟨by rw [(kp1.2.2.1 8 (by rw [gN_gNew]; omega)).1, gK_gNew, if_neg (by omega)]; exact h8, fun e1 z1 r2 g2 x2 y2 => ?_⟩
  rw [← z1] at s1
  have m1 : gN e1 = 17 := by rw [z1, gN_pR]; exact n1
  have u1 : gT e1 = gT h1 := by rw [z1, gT_pR]
  have q1 := k8 s1 (by omega) h8
  have R1' : rowsOK e1 10 11 2 100 0 := by rw [z1]; exact rows_keeps R1 (keeps_pR _ _ _ _) (by decide)
  have R1b' : rowsOK e1 12 13 5 1500 0 := by rw [z1]; exact rows_keeps R1b (keeps_pR _ _ _ _) (by decide)
  have F1 : (gK e1 9 = 6 ∧ gR e1 9 0 = 10 ∧ gR e1 9 1 = 12 ∧ gR e1 9 2 = 14 ∧ gR e1 9 3 = 15 ∧ gR e1 9 4 = 16 ∧ gI e1 9 5 = 0) ∧ (gK e1 14 = 100 ∧ gK e1 15 = 100 ∧ gK e1 16 = 100 ∧ gL e1 14 = 100 ∧ gL e1 15 = 100 ∧ gL e1 16 = 100) := by rw [z1]; exact ⟨f1, f1b⟩
  have r80 : gR e1 8 0 = 9 := by rw [s1.2.1, hN]
  subst x2 y2
  refine ⟨by omega, c_tape (by omega) (fun h2 kp2 n2 t2 f2 => ?_)⟩
  rw [m1] at n2 f2
  have s2 := stg_of (j := 1) (by omega) kp2
  refine ⟨by rw [(kp2.2.2.1 8 (by rw [gN_gNew]; omega)).1, gK_gNew, if_neg (by omega)]; exact q1, fun e2 z2 r3 g3 x3 y3 => ?_⟩
  rw [← z2] at s2
  have m2' : gN e2 = 19 := by rw [z2, gN_pR]; exact n2
  have u2 : gT e2 = gT h2 := by rw [z2, gT_pR]
  have q2 := k8 s2 (by omega) q1
  have F2 : gK e2 17 = 12 ∧ gK e2 18 = 103 ∧ gL e2 18 = 1200 ∧ gR e2 17 0 = 18 ∧ gI e2 17 1 = 0 := by rw [z2]; exact f2
  have r81 : gR e2 8 1 = 17 := by rw [s2.2.1, m1]
  subst x3 y3
  have g81 : gR (gNew e2 4 5) 8 1 = 17 := by rw [gR_gNew, if_neg (by omega)]; exact r81
  rw [g81]
  refine ⟨by rw [gK_gNew, if_neg (by omega)]; exact q2, by omega, c_reader (by omega) (fun h3 kp3 n3 t3 f3 => ?_)⟩
  rw [m2'] at n3 f3
  have s3 := stg_of (j := 2) (by omega) kp3
  refine ⟨by rw [(kp3.2.2.1 8 (by rw [gN_gNew]; omega)).1, gK_gNew, if_neg (by omega)]; exact q2, fun e3 z3 r4 g4 x4 y4 => ?_⟩
  rw [← z3] at s3
  have m3' : gN e3 = 32 := by rw [z3, gN_pR]; exact n3
  have u3 : gT e3 = gT h3 := by rw [z3, gT_pR]
  have q3 := k8 s3 (by omega) q2
  have F3 : gK e3 19 = 4 ∧ gR e3 19 0 = 17 := by rw [z3]; exact f3
  subst x4 y4
  refine ⟨by omega, c_edit (by omega) (fun h4 kp4 n4 t4 f4 => ?_)⟩
  rw [m3'] at n4 f4
  have s4 := stg_of (j := 3) (by omega) kp4
  refine ⟨by rw [(kp4.2.2.1 8 (by rw [gN_gNew]; omega)).1, gK_gNew, if_neg (by omega)]; exact q3, fun e4 z4 => ?_⟩
  rw [← z4] at s4
  have m4' : gN e4 = 34 := by rw [z4, gN_pR]; exact n4
  have u4 : gT e4 = gT h4 := by rw [z4, gT_pR]
  have q4 := k8 s4 (by omega) q3
  have F4 : gK e4 32 = 2 ∧ gK e4 33 = 100 ∧ gL e4 33 = 20 ∧ gR e4 32 0 = 33 := by rw [z4]; exact f4
  refine w10_52 (fun r5 g5 x5 y5 => ?_)
  subst x5 y5
  refine ⟨by omega, c_list (by omega) (fun h5 kp5 n5 t5 f5 => ?_)⟩
  rw [m4'] at n5 f5
  have s5 := stg_of (j := 4) (by omega) kp5
  refine ⟨by decide, by rw [(kp5.2.2.1 8 (by rw [gN_gNew]; omega)).1, gK_gNew, if_neg (by omega)]; exact q4, fun e5 z5 r6 g6 x6 y6 => ?_⟩
  rw [← z5] at s5
  have m5' : gN e5 = 35 := by rw [z5, gN_pR]; exact n5
  have u5 : gT e5 = gT h5 := by rw [z5, gT_pR]
  have q5 := k8 s5 (by omega) q4
  have F5 : gK e5 34 = 13 ∧ gI e5 34 1 = 0 ∧ gR e5 34 0 = 2 := by rw [z5]; exact f5
  subst x6 y6
  refine ⟨by omega, c_list (by omega) (fun h6 kp6 n6 t6 f6 => ?_)⟩
  rw [m5'] at n6 f6
  have s6 := stg_of (j := 5) (by omega) kp6
  refine ⟨by rw [(kp6.2.2.1 8 (by rw [gN_gNew]; omega)).1, gK_gNew, if_neg (by omega)]; exact q5, fun e6 z6 r7 g7 x7 y7 => ?_⟩
  rw [← z6] at s6
  have m6' : gN e6 = 36 := by rw [z6, gN_pR]; exact n6
  have u6 : gT e6 = gT h6 := by rw [z6, gT_pR]
  have q6 := k8 s6 (by omega) q5
  have F6 : gK e6 35 = 13 ∧ gI e6 35 1 = 0 ∧ gR e6 35 0 = 2 := by rw [z6]; exact f6
  subst x7 y7
  refine ⟨by omega, c_list (by omega) (fun h7 kp7 n7 t7 f7 => ?_)⟩
  rw [m6'] at n7 f7
  have s7 := stg_of (j := 6) (by omega) kp7
  refine ⟨by rw [(kp7.2.2.1 8 (by rw [gN_gNew]; omega)).1, gK_gNew, if_neg (by omega)]; exact q6, fun e7 z7 r8 g8 x8 y8 => ?_⟩
  rw [← z7] at s7
  have m7' : gN e7 = 37 := by rw [z7, gN_pR]; exact n7
  have u7 : gT e7 = gT h7 := by rw [z7, gT_pR]
  have q7 := k8 s7 (by omega) q6
  have F7 : gK e7 36 = 13 ∧ gI e7 36 1 = 0 ∧ gR e7 36 0 = 2 := by rw [z7]; exact f7
  subst x8 y8
  refine ⟨by omega, c_list (by omega) (fun h8 kp8 n8 t8 f8 => ?_)⟩
  rw [m7'] at n8 f8
  have s8 := stg_of (j := 7) (by omega) kp8
  refine ⟨by rw [(kp8.2.2.1 8 (by rw [gN_gNew]; omega)).1, gK_gNew, if_neg (by omega)]; exact q7, fun e8 z8 => ?_⟩
  rw [← z8] at s8
  have m8' : gN e8 = 38 := by rw [z8, gN_pR]; exact n8
  have u8 : gT e8 = gT h8 := by rw [z8, gT_pR]
  have q8 := k8 s8 (by omega) q7
  have F8 : gK e8 37 = 13 ∧ gI e8 37 1 = 0 ∧ gR e8 37 0 = 2 := by rw [z8]; exact f8
  refine w10_96 (fun r9 g9 x9 y9 => ?_)
  subst x9 y9
  refine ⟨by omega, c_list (by omega) (fun h9 kp9 n9 t9 f9 => ?_)⟩
  rw [m8'] at n9 f9
  have s9 := stg_of (j := 8) (by omega) kp9
  refine ⟨by decide, by rw [(kp9.2.2.1 8 (by rw [gN_gNew]; omega)).1, gK_gNew, if_neg (by omega)]; exact q8, fun e9 z9 r10 g10 x10 y10 => ?_⟩
  rw [← z9] at s9
  have m9' : gN e9 = 39 := by rw [z9, gN_pR]; exact n9
  have u9 : gT e9 = gT h9 := by rw [z9, gT_pR]
  have q9 := k8 s9 (by omega) q8
  have F9 : gK e9 38 = 13 ∧ gI e9 38 1 = 0 ∧ gR e9 38 0 = 2 := by rw [z9]; exact f9
  subst x10 y10
  refine ⟨by omega, c_list (by omega) (fun h10 kp10 n10 t10 f10 => ?_)⟩
  rw [m9'] at n10 f10
  have s10 := stg_of (j := 9) (by omega) kp10
  refine ⟨by rw [(kp10.2.2.1 8 (by rw [gN_gNew]; omega)).1, gK_gNew, if_neg (by omega)]; exact q9, fun e10 z10 r11 g11 x11 y11 => ?_⟩
  rw [← z10] at s10
  have m10' : gN e10 = 40 := by rw [z10, gN_pR]; exact n10
  have u10 : gT e10 = gT h10 := by rw [z10, gT_pR]
  have q10 := k8 s10 (by omega) q9
  have F10 : gK e10 39 = 13 ∧ gI e10 39 1 = 0 ∧ gR e10 39 0 = 2 := by rw [z10]; exact f10
  subst x11 y11
  refine ⟨by omega, c_rows (w := 1) (lim := 12) (by rw [gN_gNew]; omega) ⟨by omega, by rw [gN_gNew]; omega, by rw [gK_gNew, if_pos rfl]⟩ (by omega) (by omega) (fun h11 kp11 n11 t11 f11 => ?_)⟩
  rw [gN_gNew, m10'] at n11 f11
  rw [gT_gNew] at t11
  have s11 := stg_of (j := 10) (by omega) kp11
  refine ⟨by rw [(kp11.2.2.1 8 (by rw [gN_gNew]; omega)).1, gK_gNew, if_neg (by omega)]; exact q10, fun e11 z11 r12 g12 x12 y12 => ?_⟩
  rw [← z11] at s11
  have m11' : gN e11 = 42 := by rw [z11, gN_pR]; exact n11
  have u11 : gT e11 = gT h11 := by rw [z11, gT_pR]
  have q11 := k8 s11 (by omega) q10
  have F11 : rowsOK e11 40 41 1 12 0 := by rw [z11]; exact rows_keeps f11 (keeps_pR _ _ _ _) (by decide)
  subst x12 y12
  refine ⟨by omega, c_rows (w := 6) (lim := 500) (by rw [gN_gNew]; omega) ⟨by omega, by rw [gN_gNew]; omega, by rw [gK_gNew, if_pos rfl]⟩ (by omega) (by omega) (fun h12 kp12 n12 t12 f12 => ?_)⟩
  rw [gN_gNew, m11'] at n12 f12
  rw [gT_gNew] at t12
  have s12 := stg_of (j := 11) (by omega) kp12
  refine ⟨by rw [(kp12.2.2.1 8 (by rw [gN_gNew]; omega)).1, gK_gNew, if_neg (by omega)]; exact q11, fun e12 z12 => ?_⟩
  rw [← z12] at s12
  have m12' : gN e12 = 44 := by rw [z12, gN_pR]; exact n12
  have u12 : gT e12 = gT h12 := by rw [z12, gT_pR]
  have q12 := k8 s12 (by omega) q11
  have F12 : rowsOK e12 42 43 6 500 0 := by rw [z12]; exact rows_keeps f12 (keeps_pR _ _ _ _) (by decide)
  refine w10_148 ⟨by decide, q12, fun e13 z13 => ?_⟩
  have T12 : keeps e12 e13 (fun q => q = 8) := by rw [z13]; exact keeps_pI _ _ _ _
  have T11 : keeps e11 e13 (fun q => q = 8) := keeps_trans s12.1 T12
  have T10 : keeps e10 e13 (fun q => q = 8) := keeps_trans s11.1 T11
  have T9 : keeps e9 e13 (fun q => q = 8) := keeps_trans s10.1 T10
  have T8 : keeps e8 e13 (fun q => q = 8) := keeps_trans s9.1 T9
  have T7 : keeps e7 e13 (fun q => q = 8) := keeps_trans s8.1 T8
  have T6 : keeps e6 e13 (fun q => q = 8) := keeps_trans s7.1 T7
  have T5 : keeps e5 e13 (fun q => q = 8) := keeps_trans s6.1 T6
  have T4 : keeps e4 e13 (fun q => q = 8) := keeps_trans s5.1 T5
  have T3 : keeps e3 e13 (fun q => q = 8) := keeps_trans s4.1 T4
  have T2 : keeps e2 e13 (fun q => q = 8) := keeps_trans s3.1 T3
  have T1 : keeps e1 e13 (fun q => q = 8) := keeps_trans s2.1 T2
  have T0 : keeps h e13 (fun q => q = 8) := keeps_trans s1.1 T1
  have r8_0 : gR e13 8 0 = 9 := by rw [z13, gR_pI, s12.2.2.1 0 (by decide), s11.2.2.1 0 (by decide), s10.2.2.1 0 (by decide), s9.2.2.1 0 (by decide), s8.2.2.1 0 (by decide), s7.2.2.1 0 (by decide), s6.2.2.1 0 (by decide), s5.2.2.1 0 (by decide), s4.2.2.1 0 (by decide), s3.2.2.1 0 (by decide), s2.2.2.1 0 (by decide), s1.2.1, hN]
  have r8_1 : gR e13 8 1 = 17 := by rw [z13, gR_pI, s12.2.2.1 1 (by decide), s11.2.2.1 1 (by decide), s10.2.2.1 1 (by decide), s9.2.2.1 1 (by decide), s8.2.2.1 1 (by decide), s7.2.2.1 1 (by decide), s6.2.2.1 1 (by decide), s5.2.2.1 1 (by decide), s4.2.2.1 1 (by decide), s3.2.2.1 1 (by decide), s2.2.1, m1]
  have r8_2 : gR e13 8 2 = 19 := by rw [z13, gR_pI, s12.2.2.1 2 (by decide), s11.2.2.1 2 (by decide), s10.2.2.1 2 (by decide), s9.2.2.1 2 (by decide), s8.2.2.1 2 (by decide), s7.2.2.1 2 (by decide), s6.2.2.1 2 (by decide), s5.2.2.1 2 (by decide), s4.2.2.1 2 (by decide), s3.2.1, m2']
  have r8_3 : gR e13 8 3 = 32 := by rw [z13, gR_pI, s12.2.2.1 3 (by decide), s11.2.2.1 3 (by decide), s10.2.2.1 3 (by decide), s9.2.2.1 3 (by decide), s8.2.2.1 3 (by decide), s7.2.2.1 3 (by decide), s6.2.2.1 3 (by decide), s5.2.2.1 3 (by decide), s4.2.1, m3']
  have r8_4 : gR e13 8 4 = 34 := by rw [z13, gR_pI, s12.2.2.1 4 (by decide), s11.2.2.1 4 (by decide), s10.2.2.1 4 (by decide), s9.2.2.1 4 (by decide), s8.2.2.1 4 (by decide), s7.2.2.1 4 (by decide), s6.2.2.1 4 (by decide), s5.2.1, m4']
  have r8_5 : gR e13 8 5 = 35 := by rw [z13, gR_pI, s12.2.2.1 5 (by decide), s11.2.2.1 5 (by decide), s10.2.2.1 5 (by decide), s9.2.2.1 5 (by decide), s8.2.2.1 5 (by decide), s7.2.2.1 5 (by decide), s6.2.1, m5']
  have r8_6 : gR e13 8 6 = 36 := by rw [z13, gR_pI, s12.2.2.1 6 (by decide), s11.2.2.1 6 (by decide), s10.2.2.1 6 (by decide), s9.2.2.1 6 (by decide), s8.2.2.1 6 (by decide), s7.2.1, m6']
  have r8_7 : gR e13 8 7 = 37 := by rw [z13, gR_pI, s12.2.2.1 7 (by decide), s11.2.2.1 7 (by decide), s10.2.2.1 7 (by decide), s9.2.2.1 7 (by decide), s8.2.1, m7']
  have r8_8 : gR e13 8 8 = 38 := by rw [z13, gR_pI, s12.2.2.1 8 (by decide), s11.2.2.1 8 (by decide), s10.2.2.1 8 (by decide), s9.2.1, m8']
  have r8_9 : gR e13 8 9 = 39 := by rw [z13, gR_pI, s12.2.2.1 9 (by decide), s11.2.2.1 9 (by decide), s10.2.1, m9']
  have r8_10 : gR e13 8 10 = 40 := by rw [z13, gR_pI, s12.2.2.1 10 (by decide), s11.2.1, m10']
  have r8_11 : gR e13 8 11 = 42 := by rw [z13, gR_pI, s12.2.1, m11']
  have kt : gT e13 = gT e12 := by rw [z13, gT_pI]
  have g13 : gN e13 = 44 := by rw [z13, gN_pI]; exact m12'
  have i8 : gI e13 8 12 = 0 := by rw [z13, gI_pI, if_pos ⟨rfl, rfl⟩]
  have sa : ∀ a, a < 17 → a ≠ 8 → same e1 e13 a := fun a ha h => T1.2.2.2 a (by omega) h
  have s9 := sa 9 (by decide) (by decide)
  have s14 := sa 14 (by decide) (by decide)
  have s15 := sa 15 (by decide) (by decide)
  have s16 := sa 16 (by decide) (by decide)
  have s17 := T2.2.2.2 17 (by omega) (by decide)
  have s18 := T2.2.2.2 18 (by omega) (by decide)
  have s19 := T3.2.2.2 19 (by omega) (by decide)
  have s32 := T4.2.2.2 32 (by omega) (by decide)
  have s33 := T4.2.2.2 33 (by omega) (by decide)
  have s34 := T5.2.2.2 34 (by omega) (by decide)
  have s35 := T6.2.2.2 35 (by omega) (by decide)
  have s36 := T7.2.2.2 36 (by omega) (by decide)
  have s37 := T8.2.2.2 37 (by omega) (by decide)
  have s38 := T9.2.2.2 38 (by omega) (by decide)
  have s39 := T10.2.2.2 39 (by omega) (by decide)
  refine kk e13 ⟨⟨g13, by omega, T0⟩, ⟨by rw [z13, gK_pI]; exact q12, i8⟩, ⟨r8_0, r8_1, r8_2, r8_3, r8_4, r8_5, r8_6, r8_7, r8_8, r8_9, r8_10, r8_11⟩, ⟨⟨?_, ?_, ?_, ?_, ?_, ?_, ?_⟩, ⟨?_, ?_, ?_, ?_, ?_, ?_⟩, rows_keeps R1' T1 (by decide), rows_keeps R1b' T1 (by decide)⟩, ⟨?_, ?_, ?_, ?_, ?_⟩, ⟨?_, ?_⟩, ⟨?_, ?_, ?_, ?_⟩, fun a h1 h2 => ?_, rows_keeps F11 T11 (by decide), rows_keeps F12 T12 (by decide)⟩
  · rw [s9.1]; exact F1.1.1
  · rw [s9.2.2.2.2]; exact F1.1.2.1
  · rw [s9.2.2.2.2]; exact F1.1.2.2.1
  · rw [s9.2.2.2.2]; exact F1.1.2.2.2.1
  · rw [s9.2.2.2.2]; exact F1.1.2.2.2.2.1
  · rw [s9.2.2.2.2]; exact F1.1.2.2.2.2.2.1
  · rw [s9.2.2.1]; exact F1.1.2.2.2.2.2.2
  · rw [s14.1]; exact F1.2.1
  · rw [s15.1]; exact F1.2.2.1
  · rw [s16.1]; exact F1.2.2.2.1
  · rw [s14.2.1]; exact F1.2.2.2.2.1
  · rw [s15.2.1]; exact F1.2.2.2.2.2.1
  · rw [s16.2.1]; exact F1.2.2.2.2.2.2
  · rw [s17.1]; exact F2.1
  · rw [s18.1]; exact F2.2.1
  · rw [s18.2.1]; exact F2.2.2.1
  · rw [s17.2.2.2.2]; exact F2.2.2.2.1
  · rw [s17.2.2.1]; exact F2.2.2.2.2
  · rw [s19.1]; exact F3.1
  · rw [s19.2.2.2.2]; exact F3.2
  · rw [s32.1]; exact F4.1
  · rw [s33.1]; exact F4.2.1
  · rw [s33.2.1]; exact F4.2.2.1
  · rw [s32.2.2.2.2]; exact F4.2.2.2
  · have : a = 34 ∨ a = 35 ∨ a = 36 ∨ a = 37 ∨ a = 38 ∨ a = 39 := by omega
    rcases this with e | e | e | e | e | e <;> subst e
    · rw [s34.1, s34.2.2.1, s34.2.2.2.2]; exact F5
    · rw [s35.1, s35.2.2.1, s35.2.2.2.2]; exact F6
    · rw [s36.1, s36.2.2.1, s36.2.2.2.2]; exact F7
    · rw [s37.1, s37.2.2.1, s37.2.2.2.2]; exact F8
    · rw [s38.1, s38.2.2.1, s38.2.2.2.2]; exact F9
    · rw [s39.1, s39.2.2.1, s39.2.2.2.2]; exact F10
end NOF
