/-! SAMPLES: their area, the pair -/
section PSM
variable {d U U2 T nm s : Nat} {h h2 g : aH} {A A1 o o1 : Nat → Nat} {X : Nat → aH → Prop} {M M2 : Nat → Nat → Int32} {I : Nat → Nat → Int32} {J : Nat → Nat → Int64} {C : Nat → Prop} {p : Nat → Prop} {a1 a2 a3 a4 a5 a6 : Int32}
def samV (h : aH) (A : Nat → Nat) (M : Nat → Nat → Int32) (s i : Nat) : Prop := ∃ (a N : Nat) (b : Bool), (a ≤ 10001 ∧ N ≤ 100 ∧ (N = 0 → a = 0)) ∧ (M 86 (100 * s + i) = nI a ∧ M 87 (100 * s + i) = nI N ∧ M 88 (100 * s + i) = bI b) ∧ gI h (A (bM s + 1)) i = nI (if 0 < Nat.gcd a N then a / Nat.gcd a N else a) ∧ gI h (A (bM s + 2)) i = nI (if 0 < Nat.gcd a N then N / Nat.gcd a N else 1) ∧ gI h (A (bM s + 3)) i = bI b
def samOK (h : aH) (A o : Nat → Nat) (M : Nat → Nat → Int32) (U s : Nat) : Prop := TM h A o s ∧ ∃ L, L ≤ U ∧ (∀ j, j < 3 → gL h (A (bM s + 1 + j)) = L) ∧ (∀ i, i < L → samV h A M s i) ∧ ∀ i, L ≤ i → i < 100 → M 86 (100 * s + i) = 0 ∧ M 87 (100 * s + i) = 0 ∧ M 88 (100 * s + i) = 0
def SamA (h : aH) (A o : Nat → Nat) (M : Nat → Nat → Int32) (U nm : Nat) : Prop := listT h A o 37 8 nm 9 ∧ (M 44 64 = nI nm ∧ nm ≤ 12) ∧ (∀ s, s < nm → samOK h A o M U s) ∧ ∀ j, 100 * nm ≤ j → j < 1200 → M 86 j = 0 ∧ M 87 j = 0 ∧ M 88 j = 0
theorem vM_j {j : Nat} (t : TM h A o s) (hj : j < 4) : ∃ kd, liv h A o (bM s + j) kd := by
  have : ∃ kd ∈ [9, 100, 102], (j, kd) ∈ kM := (show ∀ j : Fin 4, ∃ kd ∈ [9, 100, 102], (j.val, kd) ∈ kM by decide) ⟨j, hj⟩
  obtain ⟨kd, -, hm⟩ := this
  exact ⟨kd, t.1 _ hm⟩
theorem samOK_cg (S : samOK h A o M U s) (t2 : TM h2 A1 o1 s) (hI : ∀ j, j < 4 → gI h2 (A1 (bM s + j)) = gI h (A (bM s + j)) ∧ gL h2 (A1 (bM s + j)) = gL h (A (bM s + j))) (hU9 : U ≤ U2) (m : ∀ j, j < 100 → M2 86 (100 * s + j) = M 86 (100 * s + j) ∧ M2 87 (100 * s + j) = M 87 (100 * s + j) ∧ M2 88 (100 * s + j) = M 88 (100 * s + j)) (u9 : U ≤ 100) : samOK h2 A1 o1 M2 U2 s := by
  obtain ⟨-, L, l1, l2, l3, l4⟩ := S
  refine ⟨t2, L, by omega, fun j hj => ?_, fun i hi => ?_, fun i h1 h2 => ?_⟩
  · rw [Nat.add_assoc, (hI (1 + j) (by omega)).2, ← Nat.add_assoc]; exact l2 j hj
  · obtain ⟨a, N, b, q1, q2, q3, q4, q5⟩ := l3 i hi
    obtain ⟨e1, e2, e3⟩ := m i (by omega)
    refine ⟨a, N, b, q1, by rw [e1, e2, e3]; exact q2, ?_, ?_, ?_⟩
    · rw [(hI 1 (by omega)).1]; exact q3
    · rw [(hI 2 (by omega)).1]; exact q4
    · rw [(hI 3 (by omega)).1]; exact q5
  · obtain ⟨e1, e2, e3⟩ := m i h2
    rw [e1, e2, e3]; exact l4 i h1 h2
theorem SamA_left {as fs : List Nat} {n t : Nat} (b : base h o) (S : SamA h A o (gI h) U nm) (l : left h h2 A A1 o o1 C as fs n t) (hc : ¬ C 8) (hU9 : U ≤ U2) (u9 : U ≤ 100) (ha : ∀ a ∈ as, a ≠ 86 ∧ a ≠ 87 ∧ a ≠ 88) (hf : 64 ∉ fs) : SamA h2 A1 o1 (gI h2) U2 nm := by
  obtain ⟨l1, l2, ⟨l3, l4, l5⟩, -⟩ := l
  have hcc : ¬ (C 8 ∨ 8 = 14 ∨ 8 = 15) := by rintro (q | q | q); exact hc q; omega; omega
  have hN := b.1.1
  obtain ⟨f1, f2, f3, f4⟩ := S
  have m86 := l3 86 (by decide) (by decide) (fun w => (ha _ w).1 rfl)
  have m87 := l3 87 (by decide) (by decide) (fun w => (ha _ w).2.1 rfl)
  have m88 := l3 88 (by decide) (by decide) (fun w => (ha _ w).2.2 rfl)
  refine ⟨list_fr l2 hcc (by omega) (by omega) f1, by rw [l4 64 (by decide) hf]; exact f2, fun s hs => ?_, fun j h1 h2 => by rw [m86, m87, m88]; exact f4 j h1 h2⟩
  have S := f3 s hs
  refine samOK_cg S (TM_fr l2 hcc (by omega) S.1) (fun j hj => ?_) hU9 (fun j _ => by rw [m86, m87, m88]; exact ⟨rfl, rfl, rfl⟩) u9
  obtain ⟨kd, v⟩ := vM_j S.1 hj
  have := iM_fr l2 hcc (by omega) (by omega) v
  exact ⟨this.1, this.2.2.2⟩
theorem SamA_new (b : base h o) (S : SamA h A o (gI h) U nm) (hns : nm < 12) (u9 : U ≤ 100) (L : listT h2 A1 o1 37 8 (nm + 1) 9) (kp : keeps h h2 p) (hp : ∀ q, q < gN h → p q → q = 37 ∨ (0 < nm ∧ q = A 8000035) ∨ o q / 1000000 ≠ 8) (hA : ∀ l, l ≠ 8000035 → (l < bM nm ∨ bM nm + 4 ≤ l) → A1 l = A l) (ho : ∀ q, q < gN h → o1 q = o q) (m64 : gI h2 44 64 = nI (nm + 1)) (ot : ∀ j, j < 100 * nm ∨ 100 * nm + 100 ≤ j → gI h2 86 j = gI h 86 j ∧ gI h2 87 j = gI h 87 j ∧ gI h2 88 j = gI h 88 j)
    (new : samOK h2 A1 o1 (gI h2) U nm) : SamA h2 A1 o1 (gI h2) U (nm + 1) := by
  obtain ⟨f1, f2, f3, f4⟩ := S
  have kn := kp.1
  refine ⟨L, ⟨m64, by omega⟩, fun k hk => ?_, fun j h1 h2 => ?_⟩
  · by_cases e : k = nm
    · rw [e]; exact new
    · have S' := f3 k (by omega)
      have A6 : ∀ j, j < 4 → A1 (bM k + j) = A (bM k + j) := fun j hj => hA _ (by unfold bM; omega) (by unfold bM; omega)
      have sm : ∀ j, j < 4 → same h h2 (A (bM k + j)) := fun j hj => by
        obtain ⟨kd, v⟩ := vM_j S'.1 hj
        refine kp.2.2.2 _ v.2.2.1 (fun w => ?_)
        rcases hp _ v.2.2.1 w with e | ⟨e0, e⟩ | e
        · have := v.1
          rw [e, ol_37 b.2.2] at this
          unfold bM at this; omega
        · have dt := list_dat f1 e0
          exact liv_ne v dt.2.1 (by unfold bM; omega) e
        · exact e (by rw [v.1]; unfold bM; omega)
      have T2 : TM h2 A1 o1 k := obj_kp (oL_M (by omega)) S'.1 kn (fun q hq => by
        have hj : q.1 < 4 := (show ∀ q ∈ kM, q.1 < 4 by decide) q hq
        exact ⟨A6 _ hj, sm _ hj, ho _ (S'.1.1 q hq).2.2.1⟩)
      refine samOK_cg S' T2 (fun j hj => ?_) (Nat.le_refl _) (fun j hj => ot _ (by omega)) u9
      rw [A6 j hj]; exact ⟨funext (sm j hj).2.2.1, (sm j hj).2.1⟩
  · have := ot j (by omega)
    rw [this.1, this.2.1, this.2.2]; exact f4 j (by omega) h2
theorem al_0 {st : Nat → Int32} {n fr i : Nat} (hi : i < U) (h0 : nN st U i = 0) : alS st U n fr i = 0 := by
  unfold alS
  by_cases c : (st i).toInt = -2000000
  · rw [if_pos c]
  · have : 0 < nN st U i := by
      unfold nN
      rw [if_neg c]
      exact cntP_0 (j := i) (by unfold eqS; exact decide_eq_true rfl) U hi
    omega
theorem pr_sample (b : base h o) (Rg : RegA h A o (gI h) U T) (mm : MinA h (gI h)) (S : SamA h A o (gI h) U nm) : Pr 236 241 [vI a1, vI a2, vI a3, vI a4, vI a5, vI a6] [3, 1, 4] h (fun h2 => ∃ A1 o1 nm1, left h h2 A A1 o o1 (fun c => c = 1 ∨ c = 8) [86, 87, 88, 89] [64] 7 610 ∧ RegA h2 A1 o1 (gI h2) U T ∧ SamA h2 A1 o1 (gI h2) U nm1) := by
  obtain ⟨u9, t9⟩ := RegA_le Rg
  have mf := b.2.1
  have hN := b.1.1
  have fin : ∀ h2, left h h2 A A o o (fun _ => False) [] [] 1 6 → ∃ A1 o1 nm1, left h h2 A A1 o o1 (fun c => c = 1 ∨ c = 8) [86, 87, 88, 89] [64] 7 610 ∧ RegA h2 A1 o1 (gI h2) U T ∧ SamA h2 A1 o1 (gI h2) U nm1 := fun h2 l => ⟨A, o, nm, left_mono l (fun _ w => w.elim) (by simp) (by simp) (by omega) (by omega), RegA_left b Rg l (fun w => w) (by simp) (by simp), SamA_left b S l (fun w => w) (Nat.le_refl _) u9 (by simp) (by simp)⟩
  have om : ∀ q, 44 ≤ q ∧ q ≤ 107 → o q / 1000000 ≠ 8 ∧ o q / 1000000 ≠ 1 := fun q hq => by
    by_cases z : q = 107
    · rw [z, ol_107 b.2.2]; omega
    · rw [ol_m b.2.2 hq.1 (by omega)]; omega
  -- what a refusal leaves
  have refuse : ∀ (Ic I' : Nat → Nat → Int32) (J1 : Nat → Nat → Int64), (∀ a, a ≠ 14 → a ≠ 15 → a ≠ 16 → Ic a = gI h a) → (∀ a, a ≠ 107 → J1 a = gJ (gNew (hU h Ic (gJ h)) 200 6) a) → (∀ a, a ≠ 44 → a ≠ 89 → I' a = gI (gNew (hU h Ic (gJ h)) 200 6) a) → (∀ j, j ≠ 0 → I' 44 j = gI (gNew (hU h Ic (gJ h)) 200 6) 44 j) → ∃ A1 o1 nm1, left h (hU (gNew (hU h Ic (gJ h)) 200 6) I' J1) A A1 o o1 (fun c => c = 1 ∨ c = 8) [86, 87, 88, 89] [64] 7 610 ∧ RegA (hU (gNew (hU h Ic (gJ h)) 200 6) I' J1) A1 o1 I' U T ∧ SamA (hU (gNew (hU h Ic (gJ h)) 200 6) I' J1) A1 o1 I' U nm1 := fun Ic I' J1 ic j i1 i2 => by
    have b1 : base (hU h Ic (gJ h)) o := b
    have b2 := base_new b1
    have f1 : fr h (hU h Ic (gJ h)) A A o o (fun c => c = 1) := by
      refine ⟨⟨Nat.le_refl _, Nat.le_refl _, fun a _ => ⟨rfl, rfl⟩, fun a _ hp => ⟨rfl, rfl, fun j9 => ?_, fun _ => rfl, fun _ => rfl⟩⟩, fun _ _ => rfl, fun _ _ => rfl⟩
      have e1 : a ≠ 14 := fun e => hp (by show o a / 1000000 = 1; rw [e, ol_14 b.2.2])
      have e2 : a ≠ 15 := fun e => hp (by show o a / 1000000 = 1; rw [e, ol_15 b.2.2])
      have e3 : a ≠ 16 := fun e => hp (by show o a / 1000000 = 1; rw [e, ol_16 b.2.2])
      rw [gI_hU, ic a e1 e2 e3]
    have fl : fr h (gNew (hU h Ic (gJ h)) 200 6) A A o o (fun c => c = 1) := fr_trans f1 (fr_new 200 6)
    have ls : left h (hU (gNew (hU h Ic (gJ h)) 200 6) I' J1) A A o o (fun c => c = 1) [89] [] 1 6 := left_mk (h1 := gNew (hU h Ic (gJ h)) 200 6) b b2 fl (by decide) (by decide) (fun a q1 q2 => by
      simp only [List.mem_cons, List.mem_nil_iff, or_false] at q2
      exact i1 a q1 q2) (fun j9 q1 _ => i2 j9 q1) (fun a a1 _ => j a a1) (by rw [gN_gNew, gN_hU]; omega) (by rw [gT_gNew, gT_hU]; omega)
    refine ⟨A, o, nm, left_mono ls (fun _ w => Or.inl w) (by simp) (by simp) (by omega) (by omega), ?_, SamA_left b S ls (by decide) (Nat.le_refl _) u9 (by simp) (by simp)⟩
    have kp : keeps h (hU (gNew (hU h Ic (gJ h)) 200 6) I' J1) (fun q => q = 14 ∨ q = 15 ∨ q = 16 ∨ (44 ≤ q ∧ q ≤ 107)) := by
      have z := ls.2.1.1
      refine ⟨z.1, z.2.1, z.2.2.1, fun q hq hp => ?_⟩
      have hm : ¬ (44 ≤ q ∧ q ≤ 107) := fun w => hp (Or.inr (Or.inr (Or.inr w)))
      have y := (keeps_new (hU h Ic (gJ h)) 200 6 (fun _ => False)).2.2.2 q (by rw [gN_hU]; omega) (fun w => w)
      refine ⟨y.1, y.2.1, fun j9 => ?_, fun j9 => ?_, y.2.2.2.2⟩
      · rw [gI_hU, i1 q (by omega) (by omega), y.2.2.1, gI_hU, ic q (fun e => hp (Or.inl e)) (fun e => hp (Or.inr (Or.inl e))) (fun e => hp (Or.inr (Or.inr (Or.inl e))))]
      · rw [gJ_hU, j q (by omega)]; exact y.2.2.2.1 j9
    have md := ls.2.2.1.1
    have m4 := ls.2.2.1.2.1
    refine RegA_kp b Rg kp (fun q hq w => ?_) ⟨rfl, rfl⟩ (fun _ _ => rfl) (fun a q1 q2 => md a (by omega) (by omega) (by simp; omega)) ⟨m4 1 (by decide) (by simp), m4 2 (by decide) (by simp), m4 5 (by decide) (by simp), m4 6 (by decide) (by simp)⟩
    rcases w with w | w | w | w
    · exact Or.inl w
    · exact Or.inr (Or.inl w)
    · exact Or.inr (Or.inr (Or.inl w))
    · exact Or.inr (Or.inr (Or.inr (om q w).2))
  have new9 : ∀ (Ic : Nat → Nat → Int32), (∀ a, a ≠ 14 → a ≠ 15 → a ≠ 16 → Ic a = gI h a) → ∀ a, 44 ≤ a → a < 107 → gI (gNew (hU h Ic (gJ h)) 200 6) a = gI h a := fun Ic ic a h1 h2 => by
    funext j9
    rw [gI_gNew, if_neg (by rw [gN_hU]; omega), gI_hU, ic a (by omega) (by omega) (by omega)]
  by_cases q1 : 0 ≤ a1.toInt ∧ a1.toInt ≤ 5
  · by_cases q4 : 0 ≤ a4.toInt ∧ a4.toInt ≤ 5
    · by_cases q5 : 0 ≤ a5.toInt ∧ a5.toInt ≤ (frD (gI h) U T a1 a2 a3 a4 : Nat)
      · by_cases q12 : nm < 12
        · refine Pr_ok (nI nm) (fun h1 => ∃ A2 o2, samN h h1 A A2 o o2 (stD (gI h) U T a1 a2 a3 a4) U nm a5.toInt.toNat (frD (gI h) U T a1 a2 a3 a4) a6) (fun K X kk => c_sample b Rg S.1 mm.1 q1 q4 (fun z => absurd q5 z) (fun _ z => absurd q12 z) (fun _ _ h5 A2 o2 z => kk h5 ⟨A2, o2, z⟩)) (fun h1 J1 m j K X kk => ?_)
          obtain ⟨A2, o2, l5, f5, st, k5, t5, gl, v5, gn, gt⟩ := m
          have od : 0 < nm → o (A 8000035) = 8000035 := fun z => (list_dat S.1 z).2.1.1
          have nd : ∀ q, o q / 1000000 ≠ 8 → ¬ (0 < nm ∧ q = A 8000035) := fun q hq w => hq (by rw [w.2, od w.1])
          have b1 : base h1 o2 := base_of b f5 (fun a ha j9 => by
            refine (k5.2.2.2 a (by omega) ?_).2.2.2.2 j9
            have h6 : o a / 1000000 ≠ 8 := by
              rcases ha with e | e | e | e | e <;> rw [e]
              · rw [ol_8 b.2.2]; decide
              · rw [ol_9 b.2.2]; decide
              · rw [ol_17 b.2.2]; decide
              · rw [ol_32 b.2.2]; decide
              · rw [ol_m b.2.2 (by decide) (by decide)]; decide
            rintro (w | w | w | w | w)
            · omega
            · omega
            · omega
            · omega
            · exact nd a h6 w) (by
            refine (k5.2.2.2 19 (by omega) ?_).2.2.2.2 0
            rintro (w | w | w | w | w)
            · omega
            · omega
            · omega
            · omega
            · exact nd 19 (by rw [ol_19 b.2.2]; decide) w)
          have e9 : ∀ x, 44 ≤ x → x < 107 → gI h1 x = gI h x := fun x z1 z2 => (fr_m b f5 (by decide) z1 z2).1
          refine m_sample b1.2.1 Rg S.2.1.1 S.2.1.2 e9 q1 q4 (fun z => absurd q5 z) (fun _ z => absurd q12 z) (fun _ _ I4 sm v4 => ?_)
          obtain ⟨s1, s2, s3, s4⟩ := sm
          generalize hI : uI I4 44 64 (nI (nm + 1)) = I5
          have i0 : ∀ a, a ≠ 44 → I5 a = I4 a := fun a ha => by rw [← hI, uI_ne _ _ _ ha]
          have md : ∀ a, a ≠ 44 → a ≠ 86 → a ≠ 87 → a ≠ 88 → a ≠ 89 → I5 a = gI h1 a := fun a z1 z2 z3 z4 z5 => by rw [i0 a z1, s1 a z2 z3 z4 z5, uI_ne _ _ _ z1]
          have m44 : ∀ j9, j9 ≠ 0 → j9 ≠ 64 → I5 44 j9 = gI h1 44 j9 := fun j9 z1 z2 => by rw [← hI, uI_nj _ _ _ _ z2, s1 44 (by decide) (by decide) (by decide) (by decide), uI_nj _ _ _ _ z1]
          have m0 : I5 44 0 = 0 := by rw [← hI, uI_nj _ _ _ _ (by decide), s1 44 (by decide) (by decide) (by decide) (by decide), uI_same]
          have m64 : I5 44 64 = nI (nm + 1) := by rw [← hI, uI_same]
          have out : ∀ a, ¬ (44 ≤ a ∧ a ≤ 107) → I5 a = gI h1 a := fun a ha => md a (by omega) (by omega) (by omega) (by omega) (by omega)
          have z8 : ∀ a, (a = 86 ∨ a = 87 ∨ a = 88) → ∀ j9, uI (gI h1) 44 0 0 a j9 = gI h a j9 := fun a ha j9 => by rw [uI_ne _ _ _ (by omega), e9 a (by omega) (by omega)]
          have ls : left h (hU h1 I5 J1) A A2 o o2 (fun c => c = 1 ∨ c = 8) [86, 87, 88, 89] [64] 7 610 := left_mk (h1 := h1) b b1 f5 (by decide) (by decide) (fun a z1 z2 => by
            simp only [List.mem_cons, List.mem_nil_iff, or_false, not_or] at z2
            exact md a z1 z2.1 z2.2.1 z2.2.2.1 z2.2.2.2) (fun j9 z1 z2 => by
            simp only [List.mem_cons, List.mem_nil_iff, or_false] at z2
            exact m44 j9 z1 z2) (fun a a1 _ => j a a1) gn gt
          have kp : keeps h (hU h1 I5 J1) (fun q => q = 14 ∨ q = 15 ∨ q = 16 ∨ q = 37 ∨ (0 < nm ∧ q = A 8000035) ∨ (44 ≤ q ∧ q ≤ 107)) := by
            refine ⟨k5.1, k5.2.1, k5.2.2.1, fun q hq hp => ?_⟩
            have sq := k5.2.2.2 q hq (fun z => hp (by rcases z with z | z | z | z | z; exact Or.inl z; exact Or.inr (Or.inl z); exact Or.inr (Or.inr (Or.inl z)); exact Or.inr (Or.inr (Or.inr (Or.inl z))); exact Or.inr (Or.inr (Or.inr (Or.inr (Or.inl z))))))
            have hm : ¬ (44 ≤ q ∧ q ≤ 107) := fun z => hp (Or.inr (Or.inr (Or.inr (Or.inr (Or.inr z)))))
            refine ⟨sq.1, sq.2.1, fun j9 => ?_, fun j9 => ?_, sq.2.2.2.2⟩
            · rw [gI_hU, out q hm]; exact sq.2.2.1 j9
            · rw [gJ_hU, j q (by omega)]; exact sq.2.2.2.1 j9
          refine kk (hU h1 I5 J1) m0 rfl ⟨A2, o2, nm + 1, ls, ?_, ?_⟩
          · refine RegA_kp b Rg kp (fun q hq w => ?_) ⟨st _ (by decide) (by unfold bM; omega), st _ (by decide) (by unfold bM; omega)⟩ f5.2.1 (fun a z1 z2 => by rw [gIh, md a (by omega) (by omega) (by omega) (by omega) (by omega), e9 a (by omega) (by omega)]) ⟨by rw [gIh, m44 1 (by decide) (by decide), e9 44 (by decide) (by decide)], by rw [gIh, m44 2 (by decide) (by decide), e9 44 (by decide) (by decide)], by rw [gIh, m44 5 (by decide) (by decide), e9 44 (by decide) (by decide)], by rw [gIh, m44 6 (by decide) (by decide), e9 44 (by decide) (by decide)]⟩
            rcases w with w | w | w | w | w | w
            · exact Or.inl w
            · exact Or.inr (Or.inl w)
            · exact Or.inr (Or.inr (Or.inl w))
            · rw [w, ol_37 b.2.2]; exact Or.inr (Or.inr (Or.inr (by decide)))
            · rw [w.2, od w.1]; exact Or.inr (Or.inr (Or.inr (by decide)))
            · exact Or.inr (Or.inr (Or.inr (om q w).2))
          · have hlist : listT (hU h1 I5 J1) A2 o2 37 8 (nm + 1) 9 := ⟨l5.1, ⟨by rw [gIh, out 37 (by decide)]; exact l5.2.1.1, l5.2.1.2⟩, l5.2.2⟩
            have loM : ∀ j9, j9 < 4 → ¬ (44 ≤ A2 (bM nm + j9) ∧ A2 (bM nm + j9) ≤ 107) := fun j9 hj => by
              obtain ⟨kd, v⟩ := vM_j t5 hj
              exact lab_out b1 v (by unfold bM; omega)
            refine SamA_new b S q12 u9 hlist kp (fun q hq w => ?_) st f5.2.1 m64 (fun j9 hj => ?_) ⟨t5, U, Nat.le_refl _, gl, fun i hi => ?_, fun i z1 z2 => ?_⟩
            · rcases w with w | w | w | w | w | w
              · rw [w, ol_14 b.2.2]; exact Or.inr (Or.inr (by decide))
              · rw [w, ol_15 b.2.2]; exact Or.inr (Or.inr (by decide))
              · rw [w, ol_16 b.2.2]; exact Or.inr (Or.inr (by decide))
              · exact Or.inl w
              · exact Or.inr (Or.inl w)
              · exact Or.inr (Or.inr (om q w).1)
            · obtain ⟨w1, w2, w3⟩ := s2 j9 hj
              rw [gIh, i0 86 (by decide), i0 87 (by decide), i0 88 (by decide), w1, w2, w3, z8 86 (by omega), z8 87 (by omega), z8 88 (by omega)]; exact ⟨rfl, rfl, rfl⟩
            · obtain ⟨w1, w2, w3⟩ := v4 i hi
              obtain ⟨x1, x2, x3⟩ := v5 i hi
              refine ⟨alS (stD (gI h) U T a1 a2 a3 a4) U a5.toInt.toNat (frD (gI h) U T a1 a2 a3 a4) i, nN (stD (gI h) U T a1 a2 a3 a4) U i, drS (stD (gI h) U T a1 a2 a3 a4) U a5.toInt.toNat (frD (gI h) U T a1 a2 a3 a4) a6 i, ⟨al_le u9 ?_, Nat.le_trans nN_le u9, fun z => al_0 hi z⟩, ⟨?_, ?_, ?_⟩, ?_, ?_, ?_⟩
              · have frle : frD (gI h) U T a1 a2 a3 a4 ≤ U := cntP_le U
                omega
              · rw [gIh, i0 86 (by decide)]; exact w1
              · rw [gIh, i0 87 (by decide)]; exact w2
              · rw [gIh, i0 88 (by decide)]; exact w3
              · rw [gIh, out _ (loM 1 (by omega))]; exact x1
              · rw [gIh, out _ (loM 2 (by omega))]; exact x2
              · rw [gIh, out _ (loM 3 (by omega))]; exact x3
            · obtain ⟨w1, w2, w3⟩ := s3 i z1 z2
              rw [gIh, i0 86 (by decide), i0 87 (by decide), i0 88 (by decide), w1, w2, w3, z8 86 (by omega), z8 87 (by omega), z8 88 (by omega)]
              exact S.2.2.2 _ (by omega) (by omega)
        · refine Pr_no 2 (fun h1 => ∃ Ic, h1 = gNew (hU h Ic (gJ h)) 200 6 ∧ ∀ a, a ≠ 14 → a ≠ 15 → a ≠ 16 → Ic a = gI h a) 4 (by decide) rfl (fun K X kk => c_sample b Rg S.1 mm.1 q1 q4 (fun z => absurd q5 z) (fun _ _ I i1 => kk _ ⟨I, rfl, i1⟩) (fun _ z => absurd z q12)) (fun h1 J1 m j K X kk => ?_)
          obtain ⟨Ic, rfl, ic⟩ := m
          have b1 : base (hU h Ic (gJ h)) o := b
          exact m_sample (base_new b1).2.1 Rg S.2.1.1 S.2.1.2 (new9 Ic ic) q1 q4 (fun z => absurd q5 z) (fun _ _ I' v1 v2 v3 => kk _ 0 v3 rfl (refuse Ic I' J1 ic j v1 v2)) (fun _ z => absurd z q12)
      · refine Pr_no 1 (fun h1 => ∃ Ic, h1 = gNew (hU h Ic (gJ h)) 200 6 ∧ ∀ a, a ≠ 14 → a ≠ 15 → a ≠ 16 → Ic a = gI h a) 1 (by decide) rfl (fun K X kk => c_sample b Rg S.1 mm.1 q1 q4 (fun _ I i1 => kk _ ⟨I, rfl, i1⟩) (fun z => absurd z q5) (fun z => absurd z q5)) (fun h1 J1 m j K X kk => ?_)
        obtain ⟨Ic, rfl, ic⟩ := m
        have b1 : base (hU h Ic (gJ h)) o := b
        exact m_sample (base_new b1).2.1 Rg S.2.1.1 S.2.1.2 (new9 Ic ic) q1 q4 (fun _ I' v1 v2 v3 => kk _ 0 v3 rfl (refuse Ic I' J1 ic j v1 v2)) (fun z => absurd z q5) (fun z => absurd z q5)
    · refine Pr_gc (A := A) (C := fun _ => False) 0 3 b (by decide) rfl (fun K X kk => m236 ?_) (fun g J K X mf e kk => m241 ?_) fin
      · simp only [↓forall_eq, ↓inB_iff, gK_hU, gL_hU, gR_hU, gIh, gJh, pI_hU, pJ_hU, hU_hU, uI_app, uJ_app, and_true, true_and, and_false, false_and, and_self, true_implies, false_implies, not_true, not_false_iff, if_true, if_false, eq_self, Nat.reduceLeDiff, Nat.reduceEqDiff, reduceCtorEq, i32c, ti0, ti1, tiM, Int.natCast_nonneg, Int.reduceEq, Int.reduceLE, Int.reduceLT, Int.reduceNeg, tl_i, Int32.reduceToInt, Int64.reduceToInt, tiA, tlM6, Int.toNat_natCast, natc, nI_1, Int.zero_sub, implies_true, not_false_eq_true, ck_8 b.1, ↓needField_br, q1, q4]
        exact kk
      · simp only [↓forall_eq, ↓inB_iff, gK_hU, gL_hU, gR_hU, gIh, gJh, pI_hU, pJ_hU, hU_hU, uI_app, uJ_app, and_true, true_and, and_false, false_and, and_self, true_implies, false_implies, not_true, not_false_iff, if_true, if_false, eq_self, Nat.reduceLeDiff, Nat.reduceEqDiff, reduceCtorEq, i32c, ti0, ti1, tiM, Int.natCast_nonneg, Int.reduceEq, Int.reduceLE, Int.reduceLT, Int.reduceNeg, tl_i, Int32.reduceToInt, Int64.reduceToInt, tiA, tlM6, Int.toNat_natCast, natc, nI_1, Int.zero_sub, implies_true, not_false_eq_true, mf.1, mr_3 mf, mk_45 mf, ml_45 mf, mr_65 mf, mk_86 mf, ml_86 mf, mr_66 mf, mk_87 mf, ml_87 mf, mr_67 mf, mk_88 mf, ml_88 mf, mr_68 mf, mk_89 mf, ml_89 mf, ↓fail_br mf, ↓isIn_br, q1, q4]
        exact kk
  · refine Pr_gc (A := A) (C := fun _ => False) 0 3 b (by decide) rfl (fun K X kk => m236 ?_) (fun g J K X mf e kk => m241 ?_) fin
    · simp only [↓forall_eq, ↓inB_iff, gK_hU, gL_hU, gR_hU, gIh, gJh, pI_hU, pJ_hU, hU_hU, uI_app, uJ_app, and_true, true_and, and_false, false_and, and_self, true_implies, false_implies, not_true, not_false_iff, if_true, if_false, eq_self, Nat.reduceLeDiff, Nat.reduceEqDiff, reduceCtorEq, i32c, ti0, ti1, tiM, Int.natCast_nonneg, Int.reduceEq, Int.reduceLE, Int.reduceLT, Int.reduceNeg, tl_i, Int32.reduceToInt, Int64.reduceToInt, tiA, tlM6, Int.toNat_natCast, natc, nI_1, Int.zero_sub, implies_true, not_false_eq_true, ck_8 b.1, ↓needField_br, q1]
      exact kk
    · simp only [↓forall_eq, ↓inB_iff, gK_hU, gL_hU, gR_hU, gIh, gJh, pI_hU, pJ_hU, hU_hU, uI_app, uJ_app, and_true, true_and, and_false, false_and, and_self, true_implies, false_implies, not_true, not_false_iff, if_true, if_false, eq_self, Nat.reduceLeDiff, Nat.reduceEqDiff, reduceCtorEq, i32c, ti0, ti1, tiM, Int.natCast_nonneg, Int.reduceEq, Int.reduceLE, Int.reduceLT, Int.reduceNeg, tl_i, Int32.reduceToInt, Int64.reduceToInt, tiA, tlM6, Int.toNat_natCast, natc, nI_1, Int.zero_sub, implies_true, not_false_eq_true, mf.1, mr_3 mf, mk_45 mf, ml_45 mf, mr_65 mf, mk_86 mf, ml_86 mf, mr_66 mf, mk_87 mf, ml_87 mf, mr_67 mf, mk_88 mf, ml_88 mf, mr_68 mf, mk_89 mf, ml_89 mf, ↓fail_br mf, ↓isIn_br, q1]
      exact kk
end PSM
