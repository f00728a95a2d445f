/-! THE LAW: its start; it ends with 1 -/
section STA
variable {L : Nat} {xs : Nat → Int32}
def o0 (a : Nat) : Nat := if 44 ≤ a ∧ a < 107 then 14000000 + a else if a = 8 then 13000008 else if a = 9 then 1000009 else if a = 10 then 1000010 else if a = 11 then 1000011 else if a = 12 then 1000012 else if a = 13 then 1000013 else if a = 14 then 1000014 else if a = 15 then 1000015 else if a = 16 then 1000016 else if a = 17 then 2000017 else if a = 18 then 2000018 else if a = 19 then 3000019 else if a = 32 then 4000032 else if a = 33 then 4000033 else if a = 34 then 5000034 else if a = 35 then 6000034 else if a = 36 then 7000034 else if a = 37 then 8000034 else if a = 38 then 9000034 else if a = 39 then 10000034 else if a = 40 then 11000040 else if a = 41 then 11000041 else if a = 42 then 12000042 else if a = 43 then 12000043 else if a = 107 then 15000107 else 0
def A0 (l : Nat) : Nat := if l = 1000011 then 11 else if l = 1000013 then 13 else if l = 11000041 then 41 else if l = 12000043 then 43 else 0
theorem o0_OL : OL o0 := ⟨by decide, fun a h1 h2 => if_pos ⟨h1, h2⟩⟩
theorem mA_lt : ∀ q ∈ mA, 45 ≤ q.2.1 ∧ q.2.1 < 107 := by decide
/-- the heap at the law's loop: the script's, then all that was made -/
theorem start {e g : aH} (h : aH) (hN : gN h = 8) (hT : gT h = 0) (hk : (gK h 1 = 105 ∧ gL h 1 = L) ∧ gK h 2 = 106 ∧ gL h 2 = 0) (of : offN (gNew h 1 13) e) (hg : g = gNew (alN 44 mL62 (gNew e 14 91)) 101 1) : scr L g ∧ LawI 0 g := by
  obtain ⟨⟨en, et, ek⟩, ⟨k8, i8⟩, ⟨r0, r1, r2, r3, r4, r5, r6, r7, r8, r9, r10, r11⟩, ⟨⟨k9, r90, r91, r92, r93, r94, i9⟩, ⟨k14, k15, k16, l14, l15, l16⟩, R10, R12⟩, ⟨k17, k18, l18, r17, i17⟩, ⟨k19, r19⟩, ⟨k32, k33, l33, r32⟩, lst, R40, R42⟩ := of
  have n0 : gN (gNew e 14 91) = 45 := by rw [gN_gNew, en]
  have t0 : gT (gNew e 14 91) = gT e + 91 := gT_gNew _ _ _
  have kk44 : gK (gNew e 14 91) 44 = 14 := by rw [gK_gNew, if_pos en.symm]
  have i44 : ∀ j, gI (gNew e 14 91) 44 j = 0 := fun j => by rw [gI_gNew, if_pos en.symm]
  have ke : keeps e (gNew e 14 91) (fun _ => False) := kp_new
  obtain ⟨⟨m1, m2⟩, ⟨m3, m4⟩, m5, m6⟩ := mL_MF n0 kk44
  obtain ⟨-, af, -⟩ := alN_f (a0 := 44) mL62 (gNew e 14 91) (by omega) (by decide)
  rw [n0] at af
  have gN9 : gN g = 108 := by rw [hg, gN_gNew, m1]
  have gT9 : gT g = gT e + 91 + 41398 + 1 := by rw [hg, gT_gNew, m2, t0]
  have sm : ∀ a, a < 44 → same e g a := fun a ha => by
    obtain ⟨a1, a2, a3, a4, a5⟩ := af a (by omega)
    have s := ke.2.2.2 a (by omega) (fun z => z)
    have l : a ≠ gN (alN 44 mL62 (gNew e 14 91)) := by omega
    refine ⟨by rw [hg, gK_gNew, if_neg l, a1]; exact s.1, by rw [hg, gL_gNew, if_neg l, a2]; exact s.2.1, fun j => by rw [hg, gI_gNew, if_neg l, a3]; exact s.2.2.1 j, fun j => by rw [hg, gJ_gNew, if_neg l, a4]; exact s.2.2.2.1 j, fun j => by rw [hg, gR_gNew, if_neg l, a5 (by omega)]; exact s.2.2.2.2 j⟩
  have kp : keeps e g (fun _ => False) := ⟨by omega, by omega, fun a ha => ⟨(sm a (by omega)).1, (sm a (by omega)).2.1⟩, fun a ha _ => sm a (by omega)⟩
  have ml : ∀ a, a < 107 → gK g a = gK (alN 44 mL62 (gNew e 14 91)) a ∧ gL g a = gL (alN 44 mL62 (gNew e 14 91)) a ∧ (∀ j, gI g a j = gI (alN 44 mL62 (gNew e 14 91)) a j) ∧ ∀ j, gR g a j = gR (alN 44 mL62 (gNew e 14 91)) a j := fun a ha => by
    have l : a ≠ gN (alN 44 mL62 (gNew e 14 91)) := by omega
    exact ⟨by rw [hg, gK_gNew, if_neg l], by rw [hg, gL_gNew, if_neg l], fun j => by rw [hg, gI_gNew, if_neg l], fun j => by rw [hg, gR_gNew, if_neg l]⟩
  have Z : ∀ a, 44 ≤ a → a < 107 → ∀ i, gI g a i = 0 := fun a h1 h2 i => by
    rw [(ml a h2).2.2.1 i]
    by_cases z : a = 44
    · rw [z, (m5 44 (by omega)).2.2.1 i]; exact i44 i
    · exact m6 a (by omega) h2 i
  have kd : ∀ a, a < 44 → gK g a = gK e a := fun a ha => (sm a ha).1
  have ld : ∀ a, a < 44 → gL g a = gL e a := fun a ha => (sm a ha).2.1
  have rd : ∀ a, a < 44 → ∀ j, gR g a j = gR e a j := fun a ha => (sm a ha).2.2.2.2
  have id9 : ∀ a, a < 44 → ∀ j, gI g a j = gI e a j := fun a ha => (sm a ha).2.2.1
  have K107 : gK g 107 = 101 := by rw [hg, gK_gNew, if_pos m1.symm]
  have L107 : gL g 107 = 1 := by rw [hg, gL_gNew, if_pos m1.symm]
  have e12 : ∀ a, a < 8 → gK e a = gK h a ∧ gL e a = gL h a := fun a ha => by
    have q := ek.2.2.1 a (by rw [gN_gNew]; omega)
    rw [q.1, q.2, gK_gNew, gL_gNew, if_neg (by omega), if_neg (by omega)]; exact ⟨rfl, rfl⟩
  have K1 : gK g 1 = 105 := by rw [kd 1 (by decide), (e12 1 (by decide)).1]; exact hk.1.1
  have L1 : gL g 1 = L := by rw [ld 1 (by decide), (e12 1 (by decide)).2]; exact hk.1.2
  have K2 : gK g 2 = 106 := by rw [kd 2 (by decide), (e12 2 (by decide)).1]; exact hk.2.1
  have L2 : gL g 2 = 0 := by rw [ld 2 (by decide), (e12 2 (by decide)).2]; exact hk.2.2
  have cf : CF g := by
    refine ⟨by omega, fun q hq => ?_, fun q hq => ?_, fun q hq => ?_⟩
    · have w := lst
      simp only [cK, List.mem_cons, List.mem_nil_iff, or_false] at hq
      rcases hq with e | e | e | e | e | e | e | e | e | e | e | e | e | e | e | e | e | e | e | e | e <;> subst e <;> dsimp only
      · rw [kd 8 (by decide)]; exact k8
      · rw [kd 9 (by decide)]; exact k9
      · rw [kd 10 (by decide)]; exact R10.1.2.2
      · rw [kd 12 (by decide)]; exact R12.1.2.2
      · rw [kd 17 (by decide)]; exact k17
      · rw [kd 19 (by decide)]; exact k19
      · rw [kd 32 (by decide)]; exact k32
      · rw [kd 34 (by decide)]; exact (lst 34 (by decide) (by decide)).1
      · rw [kd 35 (by decide)]; exact (lst 35 (by decide) (by decide)).1
      · rw [kd 36 (by decide)]; exact (lst 36 (by decide) (by decide)).1
      · rw [kd 37 (by decide)]; exact (lst 37 (by decide) (by decide)).1
      · rw [kd 38 (by decide)]; exact (lst 38 (by decide) (by decide)).1
      · rw [kd 39 (by decide)]; exact (lst 39 (by decide) (by decide)).1
      · rw [kd 40 (by decide)]; exact R40.1.2.2
      · rw [kd 42 (by decide)]; exact R42.1.2.2
      · rw [kd 14 (by decide)]; exact k14
      · rw [kd 15 (by decide)]; exact k15
      · rw [kd 16 (by decide)]; exact k16
      · rw [kd 18 (by decide)]; exact k18
      · rw [kd 33 (by decide)]; exact k33
      · exact K107
    · simp only [cL, List.mem_cons, List.mem_nil_iff, or_false] at hq
      rcases hq with e | e | e | e | e | e <;> subst e <;> dsimp only
      · rw [ld 14 (by decide)]; exact l14
      · rw [ld 15 (by decide)]; exact l15
      · rw [ld 16 (by decide)]; exact l16
      · rw [ld 18 (by decide)]; exact l18
      · rw [ld 33 (by decide)]; exact l33
      · exact L107
    · simp only [cR, List.mem_cons, List.mem_nil_iff, or_false] at hq
      rcases hq with e | e | e | e | e | e | e | e | e | e | e | e | e | e | e | e | e | e | e | e <;> subst e <;> dsimp only
      · rw [rd 8 (by decide)]; exact r0
      · rw [rd 8 (by decide)]; exact r1
      · rw [rd 8 (by decide)]; exact r2
      · rw [rd 8 (by decide)]; exact r3
      · rw [rd 8 (by decide)]; exact r4
      · rw [rd 8 (by decide)]; exact r5
      · rw [rd 8 (by decide)]; exact r6
      · rw [rd 8 (by decide)]; exact r7
      · rw [rd 8 (by decide)]; exact r8
      · rw [rd 8 (by decide)]; exact r9
      · rw [rd 8 (by decide)]; exact r10
      · rw [rd 8 (by decide)]; exact r11
      · rw [rd 9 (by decide)]; exact r90
      · rw [rd 9 (by decide)]; exact r91
      · rw [rd 9 (by decide)]; exact r92
      · rw [rd 9 (by decide)]; exact r93
      · rw [rd 9 (by decide)]; exact r94
      · rw [rd 17 (by decide)]; exact r17
      · rw [rd 19 (by decide)]; exact r19
      · rw [rd 32 (by decide)]; exact r32
  have K44 : gK g 44 = 14 := by rw [(ml 44 (by decide)).1]; exact m3
  have mf : MF g := ⟨K44, by omega, fun q hq => by
    obtain ⟨b1, b2⟩ := mA_lt q hq
    obtain ⟨c1, c2, c3⟩ := m4 q hq
    rw [(ml 44 (by decide)).2.2.2 q.1, (ml q.2.1 b2).1, (ml q.2.1 b2).2.1]
    exact ⟨c1, c2, c3⟩⟩
  have bs : base g o0 := ⟨cf, mf, o0_OL⟩
  have L0 : ∀ a c kd9, 34 ≤ a → a ≤ 39 → o0 a = c * 1000000 + 34 → listT g A0 o0 a c 0 kd9 := fun a c kd9 h1 h2 h3 => by
    obtain ⟨w1, w2, w3⟩ := lst a h1 h2
    exact ⟨⟨by rw [kd a (by omega)]; exact w1, h1, h2, h3, by omega⟩, ⟨by rw [id9 a (by omega)]; exact w2, by omega, K2, L2⟩, Or.inl ⟨rfl, by rw [rd a (by omega)]; exact w3⟩, fun k hk => by omega⟩
  have R10' := rows_keeps R10 kp (fun z => z)
  have R12' := rows_keeps R12 kp (fun z => z)
  have R40' := rows_keeps R40 kp (fun z => z)
  have R42' := rows_keeps R42 kp (fun z => z)
  have z44 : ∀ j, gI g 44 j = 0 := Z 44 (by decide) (by decide)
  have G8 : gK g 8 = 1 := by rw [kd 8 (by decide)]; exact k8
  have z0 : (0 : Int32).toInt = 0 := rfl
  have e13 : gT (gNew h 1 13) = 13 := by rw [gT_gNew, hT]
  refine ⟨⟨⟨K1, L1⟩, ⟨K107, L107⟩, ⟨G8, K44⟩, by omega⟩, A0, o0, fun _ _ => [], fun _ _ => [], 0, 0, 0, 0, 0, 0, 0, 0, 0, 0, 0, ⟨bs, ⟨⟨z44 2, z44 6⟩, ⟨R10', fun r hr => by omega⟩, ⟨R12', fun r hr => by omega⟩, by rw [id9 9 (by decide), i9, z44 5], ⟨rfl, rfl⟩, ⟨fun u hu => by omega, fun _ => 0, fun u hu => by omega⟩, fun w hw => by omega, fun r hr => by omega⟩, ⟨by rw [id9 8 (by decide), i8, z44 1], by rw [z44 1, z0]; omega, by rw [z44 1, z0]; omega⟩, ⟨⟨by rw [id9 17 (by decide)]; exact i17, z44 13, by omega⟩, fun k hk => by omega⟩⟩, ⟨⟨L0 34 5 3 (by decide) (by decide) rfl, ⟨z44 14, by omega⟩, fun f hf => by omega⟩, ⟨⟨0, z44 27, by omega, fun f hf => by omega⟩, fun f h1 h2 => Z 81 (by decide) (by decide) f⟩⟩, ⟨⟨L0 35 6 10 (by decide) (by decide) rfl, ⟨z44 38, by omega⟩, fun k hk => by omega, fun k h1 h2 => ⟨Z 70 (by decide) (by decide) k, fun i hi => ⟨Z 71 (by decide) (by decide) _, Z 73 (by decide) (by decide) _, Z 75 (by decide) (by decide) _⟩⟩⟩, ⟨L0 36 7 5 (by decide) (by decide) rfl, ⟨z44 53, by omega⟩, fun r hr => by omega⟩, rfl⟩, ⟨⟨L0 37 8 9 (by decide) (by decide) rfl, ⟨z44 64, by omega⟩, fun s hs => by omega, fun j h1 h2 => ⟨Z 86 (by decide) (by decide) j, Z 87 (by decide) (by decide) j, Z 88 (by decide) (by decide) j⟩⟩, ⟨L0 38 9 11 (by decide) (by decide) rfl, ⟨z44 69, by omega⟩, fun t ht => by omega⟩, ⟨⟨z44 80, by omega⟩, ⟨R40', rfl⟩, fun k hk => by omega⟩, ⟨L0 39 10 7 (by decide) (by decide) rfl, ⟨z44 82, by omega⟩, fun k hk => by omega⟩, ⟨⟨z44 89, by omega⟩, ⟨R42', rfl⟩, fun i hi => by omega⟩⟩, ⟨Nat.le_refl _, Nat.le_refl _⟩, by omega, by omega⟩
theorem law_ok : aLaw := by
  intro L xs hL
  have e8 : gN (hS L xs) = 8 := rfl
  have H : CI 502 328 [vR 1] (hS L xs) KLaw (fun _ _ => False) := by
    refine m328 (fun r0 h0 x0 y0 => ?_)
    rw [e8] at x0
    subst x0 y0
    refine ⟨by decide, c_office (d := 497) (by rw [gN_gNew, e8]) (by rw [gK_gNew, e8, if_pos rfl]) (fun e of => ?_)⟩
    refine fun r1 h2 x1 y1 => ?_
    have en := of.1.1
    rw [en] at x1
    subst x1 y1
    refine ⟨by decide, c_model ⟨by rw [gK_gNew, if_pos en.symm], by rw [gN_gNew, en]; decide⟩ ?_⟩
    refine fun r2 h4 x2 y2 => ?_
    have n7 := (mL_MF (h := gNew e 14 91) (by rw [gN_gNew, en]) (by rw [gK_gNew, if_pos en.symm])).1.1
    rw [n7] at x2
    subst x2
    obtain ⟨S, I⟩ := start (L := L) (hS L xs) e8 rfl ⟨⟨rfl, rfl⟩, rfl, rfl⟩ of y2
    exact lw_loop hL 513 0 h4 rfl S I (by decide)
  obtain ⟨n, r, h1, h2⟩ := H
  rcases h2 with ⟨y, e, q⟩ | ⟨x, e, q⟩
  · refine ⟨n, 502, r.2, by decide, ?_, q.2.1, q.2.2⟩
    have h1' : aRun aPr n 502 328 (0, aEntry 7 [vR 1], [], hS L xs) = some r := h1
    rw [h1']
    have : r = (r.1, r.2) := rfl
    rw [this, e, q.1]
  · exact q.elim
end STA
