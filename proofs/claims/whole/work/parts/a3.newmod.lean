/-! A NEW MODEL -/
section NMD
variable {d : Nat} {h : aH} {X : Nat → aH → Prop} {K : aH → Prop}
def alN (a0 : Nat) : List (Nat × Nat × Nat) → aH → aH
  | [], h => h
  | q :: l, h => alN a0 l (pR (gNew h q.2.1 q.2.2) a0 q.1 (gN h))
def suN : List (Nat × Nat × Nat) → Nat
  | [] => 0
  | q :: l => q.2.2 + suN l
theorem alN_f {a0 : Nat} : ∀ (l : List (Nat × Nat × Nat)) (h : aH), a0 < gN h → (l.map (fun q => q.1)).Nodup → (gN (alN a0 l h) = gN h + l.length ∧ gT (alN a0 l h) = gT h + suN l) ∧ (∀ a, a < gN h → gK (alN a0 l h) a = gK h a ∧ gL (alN a0 l h) a = gL h a ∧ (∀ i, gI (alN a0 l h) a i = gI h a i) ∧ (∀ i, gJ (alN a0 l h) a i = gJ h a i) ∧ (a ≠ a0 → ∀ i, gR (alN a0 l h) a i = gR h a i)) ∧ (∀ i, i ∉ l.map (fun q => q.1) → gR (alN a0 l h) a0 i = gR h a0 i) ∧ (∀ m (hm : m < l.length), gK (alN a0 l h) (gN h + m) = (l[m]).2.1 ∧ gL (alN a0 l h) (gN h + m) = (l[m]).2.2 ∧ gR (alN a0 l h) a0 (l[m]).1 = gN h + m ∧ ∀ i, gI (alN a0 l h) (gN h + m) i = 0) := by
  intro l
  induction l with
  | nil => intro h h1 h2; exact ⟨⟨rfl, rfl⟩, fun a ha => ⟨rfl, rfl, fun _ => rfl, fun _ => rfl, fun _ _ => rfl⟩, fun _ _ => rfl, fun m hm => absurd hm (Nat.not_lt_zero _)⟩
  | cons q l ih =>
    intro h h1 h2
    rw [List.map_cons, List.nodup_cons] at h2
    have e1 : gN (pR (gNew h q.2.1 q.2.2) a0 q.1 (gN h)) = gN h + 1 := rfl
    have e2 : gT (pR (gNew h q.2.1 q.2.2) a0 q.1 (gN h)) = gT h + q.2.2 := rfl
    obtain ⟨⟨i1, i2⟩, i3, i4, i5⟩ := ih (pR (gNew h q.2.1 q.2.2) a0 q.1 (gN h)) (by rw [e1]; omega) h2.2
    rw [e1] at i1 i3 i5
    rw [e2] at i2
    rw [alN]
    refine ⟨⟨by rw [i1, List.length_cons]; omega, by rw [i2, suN]; omega⟩, fun a ha => ?_, fun i hi => ?_, fun m hm => ?_⟩
    · obtain ⟨j1, j2, j3, j4, j5⟩ := i3 a (by omega)
      have l1 : a ≠ gN h := by omega
      refine ⟨by rw [j1, gK_pR, gK_gNew, if_neg l1], by rw [j2, gL_pR, gL_gNew, if_neg l1], fun i => by rw [j3, gI_pR, gI_gNew, if_neg l1], fun i => by rw [j4, gJ_pR, gJ_gNew, if_neg l1], fun ha0 i => by rw [j5 ha0, gR_pR, if_neg (fun z => ha0 z.1), gR_gNew, if_neg l1]⟩
    · rw [List.map_cons, List.mem_cons, not_or] at hi
      rw [i4 i hi.2, gR_pR, if_neg (fun z => hi.1 z.2), gR_gNew, if_neg (by omega)]
    · cases m with
      | zero =>
        obtain ⟨j1, j2, j3, -⟩ := i3 (gN h) (by omega)
        refine ⟨by rw [Nat.add_zero, j1, gK_pR, gK_gNew, if_pos rfl]; rfl, by rw [Nat.add_zero, j2, gL_pR, gL_gNew, if_pos rfl]; rfl, ?_, fun i => by rw [Nat.add_zero, j3, gI_pR, gI_gNew, if_pos rfl]⟩
        show gR _ a0 q.1 = _
        rw [i4 q.1 h2.1, gR_pR, if_pos ⟨rfl, rfl⟩, Nat.add_zero]
      | succ m =>
        have := i5 m (by rw [List.length_cons] at hm; omega)
        rw [show gN h + 1 + m = gN h + (m + 1) by omega] at this
        exact this
def mL62 : List (Nat × Nat × Nat) := [(3, 100, 100), (4, 100, 100), (7, 100, 1500), (8, 100, 1500), (9, 100, 1500), (10, 100, 1500), (11, 100, 1500), (12, 100, 1200), (15, 100, 6), (16, 100, 120), (17, 101, 120), (18, 100, 120), (19, 100, 120), (20, 100, 120), (21, 100, 120), (22, 100, 120), (23, 100, 120), (24, 100, 120), (25, 100, 7200), (26, 100, 7200), (34, 100, 20), (35, 100, 6), (39, 100, 60), (40, 100, 60), (41, 100, 360), (42, 102, 60), (43, 102, 1200), (44, 100, 1200), (45, 102, 1200), (46, 100, 1200), (47, 102, 1200), (48, 100, 60), (49, 100, 60), (54, 100, 60), (55, 100, 1200), (56, 100, 1200), (57, 100, 6), (58, 100, 96), (59, 100, 96), (60, 100, 96), (61, 100, 20), (65, 100, 1200), (66, 100, 1200), (67, 102, 1200), (68, 100, 100), (70, 100, 12), (71, 100, 12), (72, 100, 144), (73, 100, 144), (74, 100, 144), (75, 100, 144), (76, 102, 12), (77, 100, 12), (78, 100, 12), (81, 100, 12), (83, 100, 12), (84, 100, 12), (85, 100, 12), (86, 100, 12), (87, 100, 12), (88, 100, 144), (90, 100, 3000)]
def okMd (h : aH) : Prop := gK h 44 = 14 ∧ 44 < gN h
theorem ok_s {k n f : Nat} (o : okMd h) : gK (gNew h k n) 44 = 14 ∧ okMd (pR (gNew h k n) 44 f (gN h)) := by
  have e : gK (gNew h k n) 44 = 14 := by rw [gK_gNew, if_neg (by have := o.2; omega)]; exact o.1
  exact ⟨e, e, by rw [gN_pR, gN_gNew]; have := o.2; omega⟩
theorem mc_8 (o0 : okMd h) (kk : K (alN 44 [(84, 100, 12), (85, 100, 12), (86, 100, 12), (87, 100, 12), (88, 100, 144), (90, 100, 3000)] h)) : Wp d 11 (475, [some (vR 44)], [], h) (RV K X) := by
  have o1 := (ok_s (k := 100) (n := 12) (f := 84) o0).2
  have o2 := (ok_s (k := 100) (n := 12) (f := 85) o1).2
  have o3 := (ok_s (k := 100) (n := 12) (f := 86) o2).2
  have o4 := (ok_s (k := 100) (n := 12) (f := 87) o3).2
  have o5 := (ok_s (k := 100) (n := 144) (f := 88) o4).2
  have o6 := (ok_s (k := 100) (n := 3000) (f := 90) o5).2
  refine w11_475 ?_
  rintro _ _ rfl rfl
  refine ⟨by decide, (ok_s (f := 0) o0).1, ?_⟩
  rintro _ rfl _ _ rfl rfl
  refine ⟨(ok_s (f := 0) o1).1, ?_⟩
  rintro _ rfl _ _ rfl rfl
  refine ⟨(ok_s (f := 0) o2).1, ?_⟩
  rintro _ rfl _ _ rfl rfl
  refine ⟨(ok_s (f := 0) o3).1, ?_⟩
  rintro _ rfl _ _ rfl rfl
  refine ⟨(ok_s (f := 0) o4).1, ?_⟩
  rintro _ rfl _ _ rfl rfl
  refine ⟨(ok_s (f := 0) o5).1, ?_⟩
  rintro _ rfl
  exact kk
theorem mc_7 (o0 : okMd h) (kk : Wp d 11 (475, [some (vR 44)], [], alN 44 [(74, 100, 144), (75, 100, 144), (76, 102, 12), (77, 100, 12), (78, 100, 12), (81, 100, 12), (83, 100, 12)] h) (RV K X)) : Wp d 11 (417, [some (vR 44)], [], h) (RV K X) := by
  have o1 := (ok_s (k := 100) (n := 144) (f := 74) o0).2
  have o2 := (ok_s (k := 100) (n := 144) (f := 75) o1).2
  have o3 := (ok_s (k := 102) (n := 12) (f := 76) o2).2
  have o4 := (ok_s (k := 100) (n := 12) (f := 77) o3).2
  have o5 := (ok_s (k := 100) (n := 12) (f := 78) o4).2
  have o6 := (ok_s (k := 100) (n := 12) (f := 81) o5).2
  have o7 := (ok_s (k := 100) (n := 12) (f := 83) o6).2
  refine w11_417 ?_
  rintro _ _ rfl rfl
  refine ⟨by decide, (ok_s (f := 0) o0).1, ?_⟩
  rintro _ rfl _ _ rfl rfl
  refine ⟨(ok_s (f := 0) o1).1, ?_⟩
  rintro _ rfl _ _ rfl rfl
  refine ⟨(ok_s (f := 0) o2).1, ?_⟩
  rintro _ rfl _ _ rfl rfl
  refine ⟨(ok_s (f := 0) o3).1, ?_⟩
  rintro _ rfl _ _ rfl rfl
  refine ⟨(ok_s (f := 0) o4).1, ?_⟩
  rintro _ rfl _ _ rfl rfl
  refine ⟨(ok_s (f := 0) o5).1, ?_⟩
  rintro _ rfl _ _ rfl rfl
  refine ⟨(ok_s (f := 0) o6).1, ?_⟩
  rintro _ rfl
  exact kk
theorem mc_6 (o0 : okMd h) (kk : Wp d 11 (417, [some (vR 44)], [], alN 44 [(66, 100, 1200), (67, 102, 1200), (68, 100, 100), (70, 100, 12), (71, 100, 12), (72, 100, 144), (73, 100, 144)] h) (RV K X)) : Wp d 11 (357, [some (vR 44)], [], h) (RV K X) := by
  have o1 := (ok_s (k := 100) (n := 1200) (f := 66) o0).2
  have o2 := (ok_s (k := 102) (n := 1200) (f := 67) o1).2
  have o3 := (ok_s (k := 100) (n := 100) (f := 68) o2).2
  have o4 := (ok_s (k := 100) (n := 12) (f := 70) o3).2
  have o5 := (ok_s (k := 100) (n := 12) (f := 71) o4).2
  have o6 := (ok_s (k := 100) (n := 144) (f := 72) o5).2
  have o7 := (ok_s (k := 100) (n := 144) (f := 73) o6).2
  refine w11_357 ?_
  rintro _ _ rfl rfl
  refine ⟨by decide, (ok_s (f := 0) o0).1, ?_⟩
  rintro _ rfl _ _ rfl rfl
  refine ⟨(ok_s (f := 0) o1).1, ?_⟩
  rintro _ rfl _ _ rfl rfl
  refine ⟨(ok_s (f := 0) o2).1, ?_⟩
  rintro _ rfl _ _ rfl rfl
  refine ⟨(ok_s (f := 0) o3).1, ?_⟩
  rintro _ rfl _ _ rfl rfl
  refine ⟨(ok_s (f := 0) o4).1, ?_⟩
  rintro _ rfl _ _ rfl rfl
  refine ⟨(ok_s (f := 0) o5).1, ?_⟩
  rintro _ rfl _ _ rfl rfl
  refine ⟨(ok_s (f := 0) o6).1, ?_⟩
  rintro _ rfl
  exact kk
theorem mc_5 (o0 : okMd h) (kk : Wp d 11 (357, [some (vR 44)], [], alN 44 [(56, 100, 1200), (57, 100, 6), (58, 100, 96), (59, 100, 96), (60, 100, 96), (61, 100, 20), (65, 100, 1200)] h) (RV K X)) : Wp d 11 (299, [some (vR 44)], [], h) (RV K X) := by
  have o1 := (ok_s (k := 100) (n := 1200) (f := 56) o0).2
  have o2 := (ok_s (k := 100) (n := 6) (f := 57) o1).2
  have o3 := (ok_s (k := 100) (n := 96) (f := 58) o2).2
  have o4 := (ok_s (k := 100) (n := 96) (f := 59) o3).2
  have o5 := (ok_s (k := 100) (n := 96) (f := 60) o4).2
  have o6 := (ok_s (k := 100) (n := 20) (f := 61) o5).2
  have o7 := (ok_s (k := 100) (n := 1200) (f := 65) o6).2
  refine w11_299 ?_
  rintro _ _ rfl rfl
  refine ⟨by decide, (ok_s (f := 0) o0).1, ?_⟩
  rintro _ rfl _ _ rfl rfl
  refine ⟨(ok_s (f := 0) o1).1, ?_⟩
  rintro _ rfl _ _ rfl rfl
  refine ⟨(ok_s (f := 0) o2).1, ?_⟩
  rintro _ rfl _ _ rfl rfl
  refine ⟨(ok_s (f := 0) o3).1, ?_⟩
  rintro _ rfl _ _ rfl rfl
  refine ⟨(ok_s (f := 0) o4).1, ?_⟩
  rintro _ rfl _ _ rfl rfl
  refine ⟨(ok_s (f := 0) o5).1, ?_⟩
  rintro _ rfl _ _ rfl rfl
  refine ⟨(ok_s (f := 0) o6).1, ?_⟩
  rintro _ rfl
  exact kk
theorem mc_4 (o0 : okMd h) (kk : Wp d 11 (299, [some (vR 44)], [], alN 44 [(45, 102, 1200), (46, 100, 1200), (47, 102, 1200), (48, 100, 60), (49, 100, 60), (54, 100, 60), (55, 100, 1200)] h) (RV K X)) : Wp d 11 (239, [some (vR 44)], [], h) (RV K X) := by
  have o1 := (ok_s (k := 102) (n := 1200) (f := 45) o0).2
  have o2 := (ok_s (k := 100) (n := 1200) (f := 46) o1).2
  have o3 := (ok_s (k := 102) (n := 1200) (f := 47) o2).2
  have o4 := (ok_s (k := 100) (n := 60) (f := 48) o3).2
  have o5 := (ok_s (k := 100) (n := 60) (f := 49) o4).2
  have o6 := (ok_s (k := 100) (n := 60) (f := 54) o5).2
  have o7 := (ok_s (k := 100) (n := 1200) (f := 55) o6).2
  refine w11_239 ?_
  rintro _ _ rfl rfl
  refine ⟨by decide, (ok_s (f := 0) o0).1, ?_⟩
  rintro _ rfl _ _ rfl rfl
  refine ⟨(ok_s (f := 0) o1).1, ?_⟩
  rintro _ rfl _ _ rfl rfl
  refine ⟨(ok_s (f := 0) o2).1, ?_⟩
  rintro _ rfl _ _ rfl rfl
  refine ⟨(ok_s (f := 0) o3).1, ?_⟩
  rintro _ rfl _ _ rfl rfl
  refine ⟨(ok_s (f := 0) o4).1, ?_⟩
  rintro _ rfl _ _ rfl rfl
  refine ⟨(ok_s (f := 0) o5).1, ?_⟩
  rintro _ rfl _ _ rfl rfl
  refine ⟨(ok_s (f := 0) o6).1, ?_⟩
  rintro _ rfl
  exact kk
theorem mc_3 (o0 : okMd h) (kk : Wp d 11 (239, [some (vR 44)], [], alN 44 [(35, 100, 6), (39, 100, 60), (40, 100, 60), (41, 100, 360), (42, 102, 60), (43, 102, 1200), (44, 100, 1200)] h) (RV K X)) : Wp d 11 (180, [some (vR 44)], [], h) (RV K X) := by
  have o1 := (ok_s (k := 100) (n := 6) (f := 35) o0).2
  have o2 := (ok_s (k := 100) (n := 60) (f := 39) o1).2
  have o3 := (ok_s (k := 100) (n := 60) (f := 40) o2).2
  have o4 := (ok_s (k := 100) (n := 360) (f := 41) o3).2
  have o5 := (ok_s (k := 102) (n := 60) (f := 42) o4).2
  have o6 := (ok_s (k := 102) (n := 1200) (f := 43) o5).2
  have o7 := (ok_s (k := 100) (n := 1200) (f := 44) o6).2
  refine w11_180 ?_
  rintro _ _ rfl rfl
  refine ⟨by decide, (ok_s (f := 0) o0).1, ?_⟩
  rintro _ rfl _ _ rfl rfl
  refine ⟨(ok_s (f := 0) o1).1, ?_⟩
  rintro _ rfl _ _ rfl rfl
  refine ⟨(ok_s (f := 0) o2).1, ?_⟩
  rintro _ rfl _ _ rfl rfl
  refine ⟨(ok_s (f := 0) o3).1, ?_⟩
  rintro _ rfl _ _ rfl rfl
  refine ⟨(ok_s (f := 0) o4).1, ?_⟩
  rintro _ rfl _ _ rfl rfl
  refine ⟨(ok_s (f := 0) o5).1, ?_⟩
  rintro _ rfl _ _ rfl rfl
  refine ⟨(ok_s (f := 0) o6).1, ?_⟩
  rintro _ rfl
  exact kk
theorem mc_2 (o0 : okMd h) (kk : Wp d 11 (180, [some (vR 44)], [], alN 44 [(21, 100, 120), (22, 100, 120), (23, 100, 120), (24, 100, 120), (25, 100, 7200), (26, 100, 7200), (34, 100, 20)] h) (RV K X)) : Wp d 11 (122, [some (vR 44)], [], h) (RV K X) := by
  have o1 := (ok_s (k := 100) (n := 120) (f := 21) o0).2
  have o2 := (ok_s (k := 100) (n := 120) (f := 22) o1).2
  have o3 := (ok_s (k := 100) (n := 120) (f := 23) o2).2
  have o4 := (ok_s (k := 100) (n := 120) (f := 24) o3).2
  have o5 := (ok_s (k := 100) (n := 7200) (f := 25) o4).2
  have o6 := (ok_s (k := 100) (n := 7200) (f := 26) o5).2
  have o7 := (ok_s (k := 100) (n := 20) (f := 34) o6).2
  refine w11_122 ?_
  rintro _ _ rfl rfl
  refine ⟨by decide, (ok_s (f := 0) o0).1, ?_⟩
  rintro _ rfl _ _ rfl rfl
  refine ⟨(ok_s (f := 0) o1).1, ?_⟩
  rintro _ rfl _ _ rfl rfl
  refine ⟨(ok_s (f := 0) o2).1, ?_⟩
  rintro _ rfl _ _ rfl rfl
  refine ⟨(ok_s (f := 0) o3).1, ?_⟩
  rintro _ rfl _ _ rfl rfl
  refine ⟨(ok_s (f := 0) o4).1, ?_⟩
  rintro _ rfl _ _ rfl rfl
  refine ⟨(ok_s (f := 0) o5).1, ?_⟩
  rintro _ rfl _ _ rfl rfl
  refine ⟨(ok_s (f := 0) o6).1, ?_⟩
  rintro _ rfl
  exact kk
theorem mc_1 (o0 : okMd h) (kk : Wp d 11 (122, [some (vR 44)], [], alN 44 [(12, 100, 1200), (15, 100, 6), (16, 100, 120), (17, 101, 120), (18, 100, 120), (19, 100, 120), (20, 100, 120)] h) (RV K X)) : Wp d 11 (65, [some (vR 44)], [], h) (RV K X) := by
  have o1 := (ok_s (k := 100) (n := 1200) (f := 12) o0).2
  have o2 := (ok_s (k := 100) (n := 6) (f := 15) o1).2
  have o3 := (ok_s (k := 100) (n := 120) (f := 16) o2).2
  have o4 := (ok_s (k := 101) (n := 120) (f := 17) o3).2
  have o5 := (ok_s (k := 100) (n := 120) (f := 18) o4).2
  have o6 := (ok_s (k := 100) (n := 120) (f := 19) o5).2
  have o7 := (ok_s (k := 100) (n := 120) (f := 20) o6).2
  refine w11_65 ?_
  rintro _ _ rfl rfl
  refine ⟨by decide, (ok_s (f := 0) o0).1, ?_⟩
  rintro _ rfl _ _ rfl rfl
  refine ⟨(ok_s (f := 0) o1).1, ?_⟩
  rintro _ rfl _ _ rfl rfl
  refine ⟨(ok_s (f := 0) o2).1, ?_⟩
  rintro _ rfl _ _ rfl rfl
  refine ⟨(ok_s (f := 0) o3).1, ?_⟩
  rintro _ rfl _ _ rfl rfl
  refine ⟨(ok_s (f := 0) o4).1, ?_⟩
  rintro _ rfl _ _ rfl rfl
  refine ⟨(ok_s (f := 0) o5).1, ?_⟩
  rintro _ rfl _ _ rfl rfl
  refine ⟨(ok_s (f := 0) o6).1, ?_⟩
  rintro _ rfl
  exact kk
theorem mc_0 (o0 : okMd h) (kk : Wp d 11 (65, [some (vR 44)], [], alN 44 [(3, 100, 100), (4, 100, 100), (7, 100, 1500), (8, 100, 1500), (9, 100, 1500), (10, 100, 1500), (11, 100, 1500)] h) (RV K X)) : CV d 11 [vR 44] h K X := by
  have o1 := (ok_s (k := 100) (n := 100) (f := 3) o0).2
  have o2 := (ok_s (k := 100) (n := 100) (f := 4) o1).2
  have o3 := (ok_s (k := 100) (n := 1500) (f := 7) o2).2
  have o4 := (ok_s (k := 100) (n := 1500) (f := 8) o3).2
  have o5 := (ok_s (k := 100) (n := 1500) (f := 9) o4).2
  have o6 := (ok_s (k := 100) (n := 1500) (f := 10) o5).2
  have o7 := (ok_s (k := 100) (n := 1500) (f := 11) o6).2
  refine m11 ⟨by decide, ?_⟩
  rintro _ _ rfl rfl
  refine ⟨(ok_s (f := 0) o0).1, ?_⟩
  rintro _ rfl _ _ rfl rfl
  refine ⟨(ok_s (f := 0) o1).1, ?_⟩
  rintro _ rfl _ _ rfl rfl
  refine ⟨(ok_s (f := 0) o2).1, ?_⟩
  rintro _ rfl _ _ rfl rfl
  refine ⟨(ok_s (f := 0) o3).1, ?_⟩
  rintro _ rfl _ _ rfl rfl
  refine ⟨(ok_s (f := 0) o4).1, ?_⟩
  rintro _ rfl _ _ rfl rfl
  refine ⟨(ok_s (f := 0) o5).1, ?_⟩
  rintro _ rfl _ _ rfl rfl
  refine ⟨(ok_s (f := 0) o6).1, ?_⟩
  rintro _ rfl
  exact kk
theorem alN_app (a0 : Nat) : ∀ (l l2 : List (Nat × Nat × Nat)) (h : aH), alN a0 l2 (alN a0 l h) = alN a0 (l ++ l2) h := by
  intro l
  induction l with
  | nil => intro l2 h; rfl
  | cons q l ih => intro l2 h; rw [alN, List.cons_append, alN]; exact ih l2 _
theorem ok_alN : ∀ (l : List (Nat × Nat × Nat)) (h : aH), okMd h → okMd (alN 44 l h) := by
  intro l
  induction l with
  | nil => intro h o; exact o
  | cons q l ih => intro h o; rw [alN]; exact ih _ (ok_s o).2
theorem c_model (o : okMd h) (kk : K (alN 44 mL62 h)) : CV d 11 [vR 44] h K X := by
  refine mc_0 o (mc_1 (ok_alN _ _ o) (mc_2 (ok_alN _ _ (ok_alN _ _ o)) (mc_3 (ok_alN _ _ (ok_alN _ _ (ok_alN _ _ o))) (mc_4 (ok_alN _ _ (ok_alN _ _ (ok_alN _ _ (ok_alN _ _ o)))) (mc_5 (ok_alN _ _ (ok_alN _ _ (ok_alN _ _ (ok_alN _ _ (ok_alN _ _ o))))) (mc_6 (ok_alN _ _ (ok_alN _ _ (ok_alN _ _ (ok_alN _ _ (ok_alN _ _ (ok_alN _ _ o)))))) (mc_7 (ok_alN _ _ (ok_alN _ _ (ok_alN _ _ (ok_alN _ _ (ok_alN _ _ (ok_alN _ _ (ok_alN _ _ o))))))) (mc_8 (ok_alN _ _ (ok_alN _ _ (ok_alN _ _ (ok_alN _ _ (ok_alN _ _ (ok_alN _ _ (ok_alN _ _ (ok_alN _ _ o)))))))) ?_))))))))
  rw [alN_app, alN_app, alN_app, alN_app, alN_app, alN_app, alN_app, alN_app]
  exact kk
theorem mL_A : ∀ m : Fin 62, (mA[m.val]'(Nat.lt_of_lt_of_eq m.isLt (by decide))).2.1 = 45 + m.val ∧ mL62[m.val]'(Nat.lt_of_lt_of_eq m.isLt (by decide)) = ((mA[m.val]'(Nat.lt_of_lt_of_eq m.isLt (by decide))).1, (mA[m.val]'(Nat.lt_of_lt_of_eq m.isLt (by decide))).2.2.1, (mA[m.val]'(Nat.lt_of_lt_of_eq m.isLt (by decide))).2.2.2) := by decide
/-- what a new model is made of -/
theorem mL_MF (hN : gN h = 45) (h44 : gK h 44 = 14) : (gN (alN 44 mL62 h) = 107 ∧ gT (alN 44 mL62 h) = gT h + 41398) ∧ (gK (alN 44 mL62 h) 44 = 14 ∧ ∀ q ∈ mA, gR (alN 44 mL62 h) 44 q.1 = q.2.1 ∧ gK (alN 44 mL62 h) q.2.1 = q.2.2.1 ∧ gL (alN 44 mL62 h) q.2.1 = q.2.2.2) ∧ (∀ a, a < 45 → gK (alN 44 mL62 h) a = gK h a ∧ gL (alN 44 mL62 h) a = gL h a ∧ (∀ i, gI (alN 44 mL62 h) a i = gI h a i) ∧ (a ≠ 44 → ∀ i, gR (alN 44 mL62 h) a i = gR h a i)) ∧ ∀ a, 45 ≤ a → a < 107 → ∀ i, gI (alN 44 mL62 h) a i = 0 := by
  obtain ⟨⟨f1, f2⟩, f3, f4, f5⟩ := alN_f (a0 := 44) mL62 h (by omega) (by decide)
  have ln : mL62.length = 62 := by decide
  have sm : suN mL62 = 41398 := by decide
  rw [ln, hN] at f1
  rw [sm] at f2
  rw [hN] at f3 f5
  refine ⟨⟨by omega, f2⟩, ⟨by rw [(f3 44 (by omega)).1]; exact h44, fun q hq => ?_⟩, fun a ha => ⟨(f3 a ha).1, (f3 a ha).2.1, (f3 a ha).2.2.1, (f3 a ha).2.2.2.2⟩, fun a h1 h2 i => ?_⟩
  · obtain ⟨m, hm, he⟩ := List.getElem_of_mem hq
    have lA : mA.length = 62 := by decide
    have H := mL_A
    have hm2 : m < 62 := by rw [← lA]; exact hm
    obtain ⟨e1, e2⟩ := H ⟨m, hm2⟩
    simp only [he] at e1 e2
    have g := f5 m (by rw [ln]; exact hm2)
    simp only [e2] at g
    rw [e1]
    exact ⟨g.2.2.1, g.1, g.2.1⟩
  · have g := f5 (a - 45) (by rw [ln]; omega)
    have := g.2.2.2 i
    rw [show 45 + (a - 45) = a by omega] at this
    exact this
end NMD
