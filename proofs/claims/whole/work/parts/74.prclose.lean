/-! CLOSE: the areas, the pair -/
section PCL
variable {d k f n nf ns nr U : Nat} {h g h1 h2 h5 : aH} {A A1 A2 o o1 o2 : Nat → Nat} {X : Nat → aH → Prop} {M I : Nat → Nat → Int32} {J : Nat → Nat → Int64} {E : Nat → Nat → List Tm} {Cn : Nat → Nat → List Cmp} {p : Nat → Prop}
/-- how many sessions are closed -/
def clC (M : Nat → Nat → Int32) : Nat → Nat
  | 0 => 0
  | n + 1 => clC M n + if (M 70 n).toInt = 0 then 0 else 1
theorem clC_le : ∀ n, clC M n ≤ n := by
  intro n
  induction n with
  | zero => exact Nat.le_refl _
  | succ n ih => rw [clC]; split <;> omega
theorem clC_lt (hk : (M 70 k).toInt = 0) : ∀ n, k < n → clC M n < n := by
  intro n
  induction n with
  | zero => intro h; omega
  | succ n ih =>
    intro hn
    rw [clC]
    by_cases c : k = n
    · subst c; rw [if_pos hk]; have := clC_le (M := M) k; omega
    · have := ih (by omega); split <;> omega
theorem clC_cg {M2 : Nat → Nat → Int32} : ∀ n, (∀ j, j < n → M2 70 j = M 70 j) → clC M2 n = clC M n := by
  intro n
  induction n with
  | zero => intro _; rfl
  | succ n ih => intro h; rw [clC, clC, ih (fun j hj => h j (by omega)), h n (by omega)]
theorem clC_up {M2 : Nat → Nat → Int32} (hk : (M 70 k).toInt = 0) (h2 : ∀ j, M2 70 j = if j = k then 1 else M 70 j) : ∀ n, k < n → clC M2 n = clC M n + 1 := by
  intro n
  induction n with
  | zero => intro h; omega
  | succ n ih =>
    intro hn
    rw [clC, clC, h2]
    by_cases c : k = n
    · subst c
      rw [clC_cg k (fun j hj => by rw [h2, if_neg (by omega)]), show (if k = k then (1 : Int32) else M 70 k) = 1 from if_pos rfl, if_pos hk, if_neg (by decide)]
    · rw [ih (by omega), show (if n = k then (1 : Int32) else M 70 n) = M 70 n from if_neg (fun e => c e.symm)]; omega
/-- sessions, where only one's own fields change -/
theorem SessA_kp (b : base h o) (S : SessA h A o (gI h) E Cn nf ns U) (hk : k < ns) (kp : keeps h h2 p) (hp : ∀ q, q < gN h → p q → q = A (bS k) ∨ o q / 1000000 ≠ 6) (hA : ∀ l, l / 1000000 = 6 → A1 l = A l) (ho : ∀ q, q < gN h → o1 q = o q) (hF : ∀ f, f < nf → A1 (bF f) = A (bF f)) (fv : ∀ f, f < nf → fV (gI h) (gI h2) f) (sv : ∀ k', k' < 60 → k' ≠ k → sV (gI h) (gI h2) k') (m38 : gI h2 44 38 = gI h 44 38)
    (own : gI h2 67 k = gI h 67 k ∧ gI h2 68 k = gI h 68 k ∧ ∀ j, j < 6 → gI h2 69 (6 * k + j) = gI h 69 (6 * k + j)) (i1 : gI h2 (A (bS k)) 1 = gI h (A (bS k)) 1) (r1 : ∀ j, gR h2 (A (bS k)) j = gR h (A (bS k)) j) (new : sessI h2 A1 (gI h2) (E (fS (gI h) k)) (Cn (fS (gI h) k)) (fS (gI h) k) k) : SessA h2 A1 o1 (gI h2) E Cn nf ns U := by
  obtain ⟨f1, f2, f3, f4⟩ := S
  have hN := b.1.1
  have kn := kp.1
  obtain ⟨s1, ⟨s2, s3⟩, s4, ⟨s5, s6, s7⟩, ⟨s8, s9⟩, s10⟩ := f3 k hk
  have n60 := f2.2
  have o35 : o 35 / 1000000 = 6 := by rw [ol_35 b.2.2]
  have n35 : (35 : Nat) ≠ A (bS k) := fun e => by
    have := (vS_0 s1).1
    rw [← e, ol_35 b.2.2] at this
    unfold bS at this; omega
  have oS : ∀ k' j, k' ≤ 60 → j < 5 → (bS k' + j) / 1000000 = 6 := fun k' j h1 h2 => by unfold bS; omega
  have sm : ∀ k' j, k' < ns → j < 5 → ¬ (k' = k ∧ j = 0) → same h h2 (A (bS k' + j)) := fun k' j h1 h2 h3 => by
    obtain ⟨kd, v⟩ := vS_j (f3 k' h1).1 h2
    refine kp.2.2.2 _ v.2.2.1 (fun w => ?_)
    rcases hp _ v.2.2.1 w with e | e
    · exact liv_ne v (vS_0 s1) (by unfold bS; omega) e
    · exact e (by rw [v.1]; exact oS k' j (by omega) h2)
  refine ⟨?_, ⟨by rw [m38]; exact f2.1, f2.2⟩, fun k' hk' => ?_, sesZ_cg f4 (fun k' h1 h2 => sv k' h2 (by omega))⟩
  · refine list_kp f1 kp (fun w => ?_) (fun h0 w => ?_) (fun _ => hA _ (by omega)) (fun q hq => hA _ (by omega)) ho
    · rcases hp 35 (by omega) w with e | e
      · exact n35 e
      · exact e o35
    · have dt := list_dat f1 h0
      rcases hp _ dt.2.1.2.2.1 w with e | e
      · exact liv_ne dt.2.1 (vS_0 s1) (by unfold bS; omega) e
      · exact e (by rw [dt.2.1.1])
  · have A6 : ∀ j, j < 5 → A1 (bS k' + j) = A (bS k' + j) := fun j hj => hA _ (oS k' j (by omega) hj)
    by_cases e : k' = k
    · subst e
      have A0 : A1 (bS k') = A (bS k') := A6 0 (by omega)
      have e1 : fS (gI h2) k' = fS (gI h) k' := by unfold fS; rw [own.1]
      have erg : rgM (gI h2) k' = rgM (gI h) k' := by
        funext i
        unfold rgM
        by_cases hi : i < 6
        · rw [if_pos hi, if_pos hi, own.2.2 i hi]
        · rw [if_neg hi, if_neg hi]
      have T2 : TS h2 A1 o1 k' := by
        obtain ⟨t1, t2, t3⟩ := s1
        refine ⟨fun q hq => ?_, fun q hq => ?_, fun q hq => ?_⟩
        · have hj : q.1 < 5 := (show ∀ q ∈ kS, q.1 < 5 by decide) q hq
          have y := t1 q hq
          unfold liv
          rw [A6 _ hj, ho _ y.2.2.1, (kp.2.2.1 _ y.2.2.1).1]
          exact ⟨y.1, y.2.1, by have := y.2.2.1; omega, y.2.2.2⟩
        · have hj : q.1 < 5 := (show ∀ q ∈ lS, q.1 < 5 by decide) q hq
          obtain ⟨kd, v⟩ := vS_j ⟨t1, t2, t3⟩ hj
          rw [A6 _ hj, (kp.2.2.1 _ v.2.2.1).2]
          exact t2 q hq
        · have hj : q.1 = 0 ∧ q.2.2 < 5 := (show ∀ q ∈ rS, q.1 = 0 ∧ q.2.2 < 5 by decide) q hq
          have y := t3 q hq
          rw [hj.1] at y ⊢
          rw [A6 0 (by omega), A6 _ hj.2, Nat.add_zero, r1]
          exact y
      refine ⟨T2, ⟨by rw [e1, own.1]; exact s2, by rw [e1]; exact s3⟩, by rw [e1, A0, r1, hF _ s3]; exact s4, ⟨by rw [A0, i1, own.2.1]; exact s5, by rw [own.2.1]; exact s6, by rw [own.2.1]; exact s7⟩, ⟨fun i hi => ?_, by rw [erg]; exact s9⟩, by rw [e1]; exact new⟩
      rw [A6 1 (by omega), (sm k' 1 hk' (by omega) (by omega)).2.2.1, erg]
      exact s8 i hi
    · have S' := f3 k' hk'
      have T2 : TS h2 A1 o1 k' := obj_kp (oL_S (by omega)) S'.1 kn (fun q hq => by
        have hj : q.1 < 5 := (show ∀ q ∈ kS, q.1 < 5 by decide) q hq
        exact ⟨A6 _ hj, sm k' q.1 hk' hj (by omega), ho _ (S'.1.1 q hq).2.2.1⟩)
      refine sessOK_cg S' T2 (fun j hj => ?_) ?_ hF (Nat.le_refl _) (Nat.le_refl _) fv (sv k' (by omega) e)
      · rw [A6 j hj]; exact funext (sm k' j hk' hj (by omega)).2.2.1
      · rw [show A1 (bS k') = A (bS k') from A6 0 (by omega)]; exact (sm k' 0 hk' (by omega) (by omega)).2.2.2.2 0
/-- records, and a new one -/
theorem RecA_new (b : base h o) (F : FormA h A o (gI h) E Cn nf) (R : RecA h A o (gI h) nf ns nr) (hnr : nr < 60) (L : listT h2 A1 o1 36 7 (nr + 1) 5) (kp : keeps h h2 p) (hp : ∀ q, q < gN h → p q → q = 36 ∨ (0 < nr ∧ q = A 7000035) ∨ o q / 1000000 ≠ 7) (hA : ∀ l, l ≠ 7000035 → (l < bR nr ∨ bR nr + 3 ≤ l) → A1 l = A l) (ho : ∀ q, q < gN h → o1 q = o q) (fv : ∀ f, f < nf → fV (gI h) (gI h2) f ∧ cnM (gI h) f ≤ 20) (sv : ∀ k, k < ns → gI h2 67 k = gI h 67 k ∧ gI h2 68 k = gI h 68 k) (m53 : gI h2 44 53 = nI (nr + 1)) (m78 : ∀ j, j ≠ nr → gI h2 78 j = gI h 78 j) (ot : ∀ j, j < 20 * nr ∨ 20 * nr + 20 ≤ j → gI h2 79 j = gI h 79 j ∧ gI h2 80 j = gI h 80 j)
    (new : recOK h2 A1 o1 (gI h2) nf ns nr) (n6 : nf ≤ 6) (hn : ns ≤ 60) : RecA h2 A1 o1 (gI h2) nf ns (nr + 1) := by
  obtain ⟨f1, f2, f3⟩ := R
  have kn := kp.1
  refine ⟨L, ⟨m53, by omega⟩, fun r hr => ?_⟩
  by_cases e : r = nr
  · rw [e]; exact new
  · have S' := f3 r (by omega)
    have A6 : ∀ j, j < 3 → A1 (bR r + j) = A (bR r + j) := fun j hj => hA _ (by unfold bR; omega) (by unfold bR; omega)
    have sm : ∀ j, j < 3 → same h h2 (A (bR r + j)) := fun j hj => by
      obtain ⟨kd, v⟩ := vR_j S'.1 hj
      refine kp.2.2.2 _ v.2.2.1 (fun w => ?_)
      rcases hp _ v.2.2.1 w with e | ⟨e0, e⟩ | e
      · have := v.1
        rw [e, ol_36 b.2.2] at this
        unfold bR at this; omega
      · have dt := list_dat f1 e0
        exact liv_ne v dt.2.1 (by unfold bR; omega) e
      · exact e (by rw [v.1]; unfold bR; omega)
    have T2 : TR h2 A1 o1 r := obj_kp (oL_R (by omega)) S'.1 kn (fun q hq => by
      have hj : q.1 < 3 := (show ∀ q ∈ kR, q.1 < 3 by decide) q hq
      exact ⟨A6 _ hj, sm _ hj, ho _ (S'.1.1 q hq).2.2.1⟩)
    have A0 : A1 (bR r) = A (bR r) := A6 0 (by omega)
    refine recOK_cg S' T2 (fun j hj => ?_) ?_ (fun f hf => hA _ (by unfold bF; omega) (by unfold bF bR; omega)) (fun k hk => hA _ (by unfold bS; omega) (by unfold bS bR; omega)) (Nat.le_refl _) (Nat.le_refl _) fv sv ⟨m78 r e, fun i hi => ot _ (by omega)⟩
    · rw [A6 j hj]; exact funext (sm j hj).2.2.1
    · rw [A0]; exact funext (sm 0 (by omega)).2.2.2.2
theorem wI_ask {so : Nat → Int32} {E : Nat → List Tm} {Cn : Nat → List Cmp} {gv rg : Nat → Int32} {i : Nat} (h0 : (so i).toInt = 0) : ∀ s, wI so E Cn gv rg s i = -2000000 ∨ wI so E Cn gv rg s i = gv i := by
  intro s
  induction s with
  | zero => exact Or.inl rfl
  | succ s ih =>
    show (if i = s then wS so E Cn gv rg s (wI so E Cn gv rg s) else wI so E Cn gv rg s i) = _ ∨ (if i = s then wS so E Cn gv rg s (wI so E Cn gv rg s) else wI so E Cn gv rg s i) = _
    by_cases c : i = s
    · subst c
      rw [if_pos rfl]
      unfold wS
      rw [if_neg (by rw [h0]; decide)]
      split
      · exact Or.inr rfl
      · exact Or.inl rfl
    · rw [if_neg c]; exact ih
theorem pr_close {x : Int32} (b : base h o) (F : FormA h A o (gI h) E Cn nf) (S : SessA h A o (gI h) E Cn nf ns U) (R : RecA h A o (gI h) nf ns nr) (hcl : nr = clC (gI h) ns) : Pr 169 171 [vI x] [3, 2] h (fun h2 => ∃ A1 o1 nr1, left h h2 A A1 o o1 (fun c => c = 6 ∨ c = 7) [65, 66, 70, 78, 79, 80] [36, 37, 50, 51, 52, 53] 4 160 ∧ SessA h2 A1 o1 (gI h2) E Cn nf ns U ∧ RecA h2 A1 o1 (gI h2) nf ns nr1 ∧ nr1 = clC (gI h2) ns) := by
  have hs := S.2.1.1
  have hs6 := S.2.1.2
  have n6 := F.2.1.2
  have hs2 : (nI ns).toInt = ns := ti_n (by omega)
  have fin : ∀ h2, left h h2 A A o o (fun _ => False) [65, 66] [36, 37, 50, 51, 52] 1 6 → ∃ A1 o1 nr1, left h h2 A A1 o o1 (fun c => c = 6 ∨ c = 7) [65, 66, 70, 78, 79, 80] [36, 37, 50, 51, 52, 53] 4 160 ∧ SessA h2 A1 o1 (gI h2) E Cn nf ns U ∧ RecA h2 A1 o1 (gI h2) nf ns nr1 ∧ nr1 = clC (gI h2) ns := fun h2 l => ⟨A, o, nr, left_mono l (fun _ w => w.elim) (by simp) (by simp) (by omega) (by omega), SessA_left b S l (fun w => w) (fun w => w) n6 (Nat.le_refl _) (by simp) (by simp), RecA_left b F R l hs6 (by simp) (by simp) (by simp), by rw [hcl]; exact (clC_cg ns (fun j _ => by rw [l.2.2.1.1 70 (by decide) (by decide) (by simp)])).symm⟩
  by_cases q : 0 ≤ x.toInt ∧ x.toInt < ns
  · generalize hk : x.toInt.toNat = k at *
    have hx : x = nI k := by rw [← hk]; exact ti_nat q.1
    have hk2 : k < ns := by omega
    subst hx
    by_cases qq : (gI h 70 k).toInt = 0 ∧ eN (gI h) E Cn k = cnM (gI h) (fS (gI h) k)
    · have hnr : nr < 60 := by have := clC_lt (M := gI h) qq.1 ns hk2; omega
      obtain ⟨s1, ⟨s2, s3⟩, s4, ⟨s5, s6, s7⟩, ⟨s8, s9⟩, ⟨y1, y2, y3, y4⟩, ⟨c1, c2⟩, g1, g2, n1, n2⟩ := S.2.2.1 k hk2
      obtain ⟨fc, fm, fb, -⟩ := F.2.2 _ s3
      have c20 := fm.1.2.1
      refine Pr_ok (nI nr) (fun h1 => ∃ A2 o2, recN h h1 A A2 o o2 k nr) (fun K X kk => c_close b F S R.1 hk2 (fun _ => hnr) (fun _ h5 A2 o2 z => kk h5 ⟨A2, o2, z⟩) (fun z => absurd qq z)) (fun h1 J1 m j K X kk => ?_)
      obtain ⟨A2, o2, l5, f5, st, k5, t5, ⟨r50, r52, i51⟩, v5, ⟨iS, rS⟩, gn, gt⟩ := m
      have b1 : base h1 o2 := base_fr b f5 (by decide)
      have e9 : ∀ x, 44 ≤ x → x < 107 → gI h1 x = gI h x := fun x q1 q2 => (fr_m b f5 (by decide) q1 q2).1
      refine m_close b1.2.1 F S R.2.1.1 hk2 R.2.1.2 (fun _ => hnr) e9 (fun _ I4 cl => ?_) (fun z => absurd qq z)
      obtain ⟨l0, l4, l40, l53, l70, l78, lot, lnw⟩ := cl
      have out : ∀ a, ¬ (44 ≤ a ∧ a ≤ 107) → I4 a = gI h1 a := fun a ha => l0 a (by omega) (by omega) (by omega) (by omega) (by omega) (by omega) (by omega)
      have md : ∀ a, 44 < a → a < 107 → a ≠ 65 → a ≠ 66 → a ≠ 70 → a ≠ 78 → a ≠ 79 → a ≠ 80 → I4 a = gI h a := fun a q1 q2 q3 q4 q5 q6 q7 q8 => by rw [l0 a (by omega) q3 q4 q5 q6 q7 q8, e9 a (by omega) q2]
      have ls : left h (hU h1 I4 J1) A A2 o o2 (fun c => c = 6 ∨ c = 7) [65, 66, 70, 78, 79, 80] [36, 37, 50, 51, 52, 53] 4 160 := left_mk (h1 := h1) b b1 f5 (by decide) (by decide) (fun a a1 a2 => by
        simp only [List.mem_cons, List.mem_nil_iff, or_false, not_or] at a2
        exact l0 a a1 a2.1 a2.2.1 a2.2.2.1 a2.2.2.2.1 a2.2.2.2.2.1 a2.2.2.2.2.2) (fun j9 a1 a2 => by
        simp only [List.mem_cons, List.mem_nil_iff, or_false, not_or] at a2
        exact l4 j9 a1 a2.1 a2.2.1 a2.2.2.1 a2.2.2.2.1 a2.2.2.2.2.1 a2.2.2.2.2.2) (fun a a1 _ => j a a1) gn gt
      have kp : keeps h (hU h1 I4 J1) (fun q => q = A (bS k) ∨ q = 36 ∨ (0 < nr ∧ q = A 7000035) ∨ (44 ≤ q ∧ q ≤ 107)) := by
        refine ⟨k5.1, k5.2.1, k5.2.2.1, fun q hq hp => ?_⟩
        have s := k5.2.2.2 q hq (fun z => hp (by rcases z with z | z | z; exact Or.inl z; exact Or.inr (Or.inl z); exact Or.inr (Or.inr (Or.inl z))))
        have hm : ¬ (44 ≤ q ∧ q ≤ 107) := fun z => hp (Or.inr (Or.inr (Or.inr z)))
        refine ⟨s.1, s.2.1, fun j9 => ?_, fun j9 => ?_, s.2.2.2.2⟩
        · rw [gI_hU, out q hm]; exact s.2.2.1 j9
        · rw [gJ_hU, j q (by omega)]; exact s.2.2.2.1 j9
      have oA : o (A (bS k)) = bS k := (vS_0 s1).1
      have hN := b.1.1
      have om : ∀ q, 44 ≤ q ∧ q ≤ 107 → o q / 1000000 ≠ 6 ∧ o q / 1000000 ≠ 7 := fun q hq => by
        by_cases z : q = 107
        · rw [z, ol_107 b.2.2]; omega
        · rw [ol_m b.2.2 hq.1 (by omega)]; omega
      have od : 0 < nr → o (A 7000035) = 7000035 := fun z => (list_dat R.1 z).2.1.1
      have A6 : ∀ l, l / 1000000 = 6 → A2 l = A l := fun l hl => st l (by omega) (by unfold bR; omega)
      have aF : ∀ f, f < nf → A2 (bF f) = A (bF f) := fun f hf => st _ (by unfold bF; omega) (by unfold bF bR; omega)
      have fv : ∀ f, f < nf → fV (gI h) (gI (hU h1 I4 J1)) f ∧ cnM (gI h) f ≤ 20 := fun f hf => ⟨fV_of fun a q => md a (by omega) (by omega) (by omega) (by omega) (by omega) (by omega) (by omega) (by omega), (cn_of F f hf).2⟩
      have loS : ∀ j, j < 5 → ¬ (44 ≤ A (bS k + j) ∧ A (bS k + j) ≤ 107) := fun j hj => by
        obtain ⟨kd, v⟩ := vS_j s1 hj
        exact lab_out b v (by unfold bS; omega)
      have smS : ∀ j, 0 < j → j < 5 → gI h1 (A (bS k + j)) = gI h (A (bS k + j)) := fun j h0 hj => by
        obtain ⟨kd, v⟩ := vS_j s1 hj
        refine funext (k5.2.2.2 _ v.2.2.1 ?_).2.2.1
        rintro (w | w | ⟨w0, w⟩)
        · exact liv_ne v (vS_0 s1) (by omega) w
        · have := v.1
          rw [w, ol_36 b.2.2] at this
          unfold bS at this; omega
        · have := v.1
          rw [w, od w0] at this
          unfold bS at this; omega
      have S0 : A2 (bS k) = A (bS k) := A6 _ (by unfold bS; omega)
      have Sj : ∀ j, j < 5 → A2 (bS k + j) = A (bS k + j) := fun j hj => A6 _ (by unfold bS; omega)
      have g0 : gvM I4 k = gvM (gI h) k := by funext i; unfold gvM; rw [md 71 (by decide) (by decide) (by decide) (by decide) (by decide) (by decide) (by decide) (by decide), md 72 (by decide) (by decide) (by decide) (by decide) (by decide) (by decide) (by decide) (by decide)]
      have g3 : avM I4 k = avM (gI h) k := by funext i; unfold avM; rw [md 73 (by decide) (by decide) (by decide) (by decide) (by decide) (by decide) (by decide) (by decide), md 74 (by decide) (by decide) (by decide) (by decide) (by decide) (by decide) (by decide) (by decide)]
      have g4 : ntM I4 k = ntM (gI h) k := by funext i; unfold ntM; rw [md 75 (by decide) (by decide) (by decide) (by decide) (by decide) (by decide) (by decide) (by decide)]
      have g5 : rgM I4 k = rgM (gI h) k := by funext i; unfold rgM; rw [md 69 (by decide) (by decide) (by decide) (by decide) (by decide) (by decide) (by decide) (by decide)]
      have g6 : cnM I4 (fS (gI h) k) = cnM (gI h) (fS (gI h) k) := by unfold cnM; rw [md 53 (by decide) (by decide) (by decide) (by decide) (by decide) (by decide) (by decide) (by decide)]
      have g7 : soM I4 (fS (gI h) k) = soM (gI h) (fS (gI h) k) := by unfold soM; rw [md 54 (by decide) (by decide) (by decide) (by decide) (by decide) (by decide) (by decide) (by decide)]
      have fs2 : fS I4 k = fS (gI h) k := by unfold fS; rw [md 67 (by decide) (by decide) (by decide) (by decide) (by decide) (by decide) (by decide) (by decide)]
      refine kk (hU h1 I4 J1) l40 rfl ⟨A2, o2, nr + 1, ls, ?_, ?_, ?_⟩
      · refine SessA_kp b S hk2 kp (fun q hq w => ?_) A6 f5.2.1 aF (fun f hf => (fv f hf).1) (fun k' h6 hne => ⟨⟨?_, ?_, ?_, ?_, ?_⟩, fun i hi => ⟨?_, ?_, ?_, ?_, ?_⟩, fun j hj => ?_⟩) ?_ ⟨?_, ?_, fun j hj => ?_⟩ ?_ rS ?_
        · rcases w with w | w | ⟨w0, w⟩ | w
          · exact Or.inl w
          · rw [w, ol_36 b.2.2]; exact Or.inr (by decide)
          · rw [w, od w0]; exact Or.inr (by decide)
          · exact Or.inr (om q w).1
        · rw [gIh, md 67 (by decide) (by decide) (by decide) (by decide) (by decide) (by decide) (by decide) (by decide)]
        · rw [gIh, md 68 (by decide) (by decide) (by decide) (by decide) (by decide) (by decide) (by decide) (by decide)]
        · rw [gIh, l70, if_neg hne, e9 70 (by decide) (by decide)]
        · rw [gIh, md 76 (by decide) (by decide) (by decide) (by decide) (by decide) (by decide) (by decide) (by decide)]
        · rw [gIh, md 77 (by decide) (by decide) (by decide) (by decide) (by decide) (by decide) (by decide) (by decide)]
        · rw [gIh, md 71 (by decide) (by decide) (by decide) (by decide) (by decide) (by decide) (by decide) (by decide)]
        · rw [gIh, md 72 (by decide) (by decide) (by decide) (by decide) (by decide) (by decide) (by decide) (by decide)]
        · rw [gIh, md 73 (by decide) (by decide) (by decide) (by decide) (by decide) (by decide) (by decide) (by decide)]
        · rw [gIh, md 74 (by decide) (by decide) (by decide) (by decide) (by decide) (by decide) (by decide) (by decide)]
        · rw [gIh, md 75 (by decide) (by decide) (by decide) (by decide) (by decide) (by decide) (by decide) (by decide)]
        · rw [gIh, md 69 (by decide) (by decide) (by decide) (by decide) (by decide) (by decide) (by decide) (by decide)]
        · rw [gIh, l4 38 (by decide) (by decide) (by decide) (by decide) (by decide) (by decide) (by decide), e9 44 (by decide) (by decide)]
        · rw [gIh, md 67 (by decide) (by decide) (by decide) (by decide) (by decide) (by decide) (by decide) (by decide)]
        · rw [gIh, md 68 (by decide) (by decide) (by decide) (by decide) (by decide) (by decide) (by decide) (by decide)]
        · rw [gIh, md 69 (by decide) (by decide) (by decide) (by decide) (by decide) (by decide) (by decide) (by decide)]
        · rw [gIh, out (A (bS k)) (loS 0 (by omega)), iS, if_neg (by decide)]
        · have i0 : ∀ j9, I4 (A (bS k)) j9 = if j9 = 12 then 1 else gI h (A (bS k)) j9 := fun j9 => by
            have := out (A (bS k)) (loS 0 (by omega))
            rw [this]; exact iS j9
          refine ⟨⟨fun i hi => ?_, fun i hi => ?_, fun i hi => ?_, ?_⟩, ⟨?_, ?_⟩, ?_, ?_, ?_, ?_⟩
          · rw [gIh, Sj 3 (by omega), out _ (loS 3 (by omega)), smS 3 (by omega) (by omega), g0]; exact y1 i hi
          · rw [gIh, Sj 4 (by omega), out _ (loS 4 (by omega)), smS 4 (by omega) (by omega), g3]; exact y2 i hi
          · rw [gIh, Sj 2 (by omega), out _ (loS 2 (by omega)), smS 2 (by omega) (by omega), g0, g5, g6, g7]; exact y3 i hi
          · rw [gIh, S0, i0, if_neg (by decide), g0, g5, g6, g7]; exact y4
          · rw [gIh, S0, i0, if_pos rfl, l70, if_pos rfl]
          · refine Or.inr ⟨by rw [gIh, l70, if_pos rfl], ?_⟩
            rw [gIh, g0, g5, g6, g7]; exact qq.2
          · unfold gaOK
            rw [gIh, g6, g7, md 71 (by decide) (by decide) (by decide) (by decide) (by decide) (by decide) (by decide) (by decide), md 72 (by decide) (by decide) (by decide) (by decide) (by decide) (by decide) (by decide) (by decide), md 56 (by decide) (by decide) (by decide) (by decide) (by decide) (by decide) (by decide) (by decide), md 57 (by decide) (by decide) (by decide) (by decide) (by decide) (by decide) (by decide) (by decide)]
            exact g1
          · unfold gaOK
            rw [gIh, g6, g7, md 73 (by decide) (by decide) (by decide) (by decide) (by decide) (by decide) (by decide) (by decide), md 74 (by decide) (by decide) (by decide) (by decide) (by decide) (by decide) (by decide) (by decide), md 56 (by decide) (by decide) (by decide) (by decide) (by decide) (by decide) (by decide) (by decide), md 57 (by decide) (by decide) (by decide) (by decide) (by decide) (by decide) (by decide) (by decide)]
            exact g2
          · rw [gIh, S0, i0, if_neg (by decide), g4]; exact n1
          · rw [gIh, g4, S0, i0, i0, if_neg (by decide), if_neg (by decide), md 76 (by decide) (by decide) (by decide) (by decide) (by decide) (by decide) (by decide) (by decide), md 77 (by decide) (by decide) (by decide) (by decide) (by decide) (by decide) (by decide) (by decide)]; exact n2
      · have hlist : listT (hU h1 I4 J1) A2 o2 36 7 (nr + 1) 5 := ⟨l5.1, ⟨by rw [gIh, out 36 (by decide)]; exact l5.2.1.1, l5.2.1.2⟩, l5.2.2⟩
        have loR : ∀ j, j < 3 → ¬ (44 ≤ A2 (bR nr + j) ∧ A2 (bR nr + j) ≤ 107) := fun j hj => by
          obtain ⟨kd, v⟩ := vR_j t5 hj
          exact lab_out b1 v (by unfold bR; omega)
        have srn : sR I4 nr = k := by unfold sR; rw [l78, if_pos rfl, ti_n (by omega)]; rfl
        have frn : fR I4 nr = fS (gI h) k := by unfold fR; rw [srn, fs2]
        have eit : ∀ i, i < 20 → itM I4 nr i = wN (gI h) E Cn k i := fun i hi => by unfold itM; rw [if_pos hi]; exact (lnw i hi).1
        refine RecA_new b F R hnr hlist kp (fun q hq w => ?_) st f5.2.1 fv (fun k' _ => by rw [gIh, md 67 (by decide) (by decide) (by decide) (by decide) (by decide) (by decide) (by decide) (by decide), md 68 (by decide) (by decide) (by decide) (by decide) (by decide) (by decide) (by decide) (by decide)]; exact ⟨rfl, rfl⟩) l53 (fun j9 h9 => by rw [gIh, l78, if_neg h9, e9 78 (by decide) (by decide)]) (fun j9 h9 => by rw [gIh, (lot j9 h9).1, (lot j9 h9).2, e9 79 (by decide) (by decide), e9 80 (by decide) (by decide)]; exact ⟨rfl, rfl⟩) ?_ n6 hs6
        · rcases w with w | w | w | w
          · exact Or.inr (Or.inr (by rw [w, oA]; unfold bS; omega))
          · exact Or.inl w
          · exact Or.inr (Or.inl w)
          · exact Or.inr (Or.inr (om q w).2)
        · refine ⟨t5, ⟨?_, ?_, ?_, ?_⟩, ⟨?_, ?_, ?_⟩, fun i hi => ⟨?_, ?_⟩, ?_⟩
          · rw [gIh, srn, l78, if_pos rfl]
          · rw [gIh, srn]; exact hk2
          · rw [gIh, srn, frn, md 67 (by decide) (by decide) (by decide) (by decide) (by decide) (by decide) (by decide) (by decide)]; exact s2
          · rw [gIh, frn]; exact s3
          · rw [gIh, frn, gR_hU, r50, aF _ s3]; exact s4
          · rw [gIh, srn, out (A2 (bR nr)) (loR 0 (by omega)), md 68 (by decide) (by decide) (by decide) (by decide) (by decide) (by decide) (by decide) (by decide), ← s5]; exact i51
          · rw [gIh, srn, gR_hU, r52, Sj 1 (by omega)]; exact rS_0_2 s1
          · rw [gIh, out _ (loR 1 (by omega)), eit i hi, (v5 i hi).1]; exact y3 i hi
          · rw [gIh, out _ (loR 2 (by omega)), (v5 i hi).2, (lnw i hi).2]
          · rw [gIh, frn]
            have bg := gv_bnd g1 fb
            have hle : eN (gI h) E Cn k ≤ cnM (gI h) (fS (gI h) k) := en_le
            refine ⟨fun i hi => ?_, fun i hi h0 => ?_⟩
            · rw [eit i hi]; exact wI_b bg _ (by omega) i hi
            · rw [g6] at hi
              rw [g7] at h0
              rw [eit i (by omega), md 56 (by decide) (by decide) (by decide) (by decide) (by decide) (by decide) (by decide) (by decide), md 57 (by decide) (by decide) (by decide) (by decide) (by decide) (by decide) (by decide) (by decide)]
              rcases wI_ask (E := E (fS (gI h) k)) (Cn := Cn (fS (gI h) k)) (gv := gvM (gI h) k) (rg := rgM (gI h) k) h0 (eN (gI h) E Cn k) with z | z
              · exact Or.inl (by rw [show wN (gI h) E Cn k i = -2000000 from z]; rfl)
              · rw [show wN (gI h) E Cn k i = gvM (gI h) k i from z]
                unfold gvM
                rw [if_pos (by omega)]
                by_cases c : (gI h 71 (20 * k + i)).toInt = 0
                · rw [if_pos c]; exact Or.inl rfl
                · rw [if_neg c]
                  have := g1 i (by omega) c
                  exact Or.inr this.2.2
      · have cl9 : clC I4 ns = clC (gI h) ns + 1 := clC_up qq.1 (fun j9 => by rw [l70, e9 70 (by decide) (by decide)]) ns hk2
        show nr + 1 = clC I4 ns
        rw [cl9, ← hcl]
    · refine Pr_gcs (A := A) (C := fun _ => False) (as := [65, 66]) (fs := [36, 37, 50, 51, 52]) 1 2 b (by decide) rfl (by decide) (fun K X kk => c_close b F S R.1 hk2 (fun z => absurd z qq) (fun z => absurd z qq) (fun _ => kk)) (fun g J K X mf e kk => m_close mf F S R.2.1.1 hk2 R.2.1.2 (fun z => absurd z qq) e (fun z => absurd z qq) (fun _ I' v1 v2 v3 => kk I' 0 (fun a a1 a2 => ?_) (fun j a1 a2 => ?_) v3)) fin
      · simp only [List.mem_cons, List.mem_nil_iff, or_false, not_or] at a2
        exact v1 a a1 a2.1 a2.2
      · simp only [List.mem_cons, List.mem_nil_iff, or_false, not_or] at a2
        exact v2 j a1 a2.1 a2.2.1 a2.2.2.1 a2.2.2.2.1 a2.2.2.2.2
  · refine Pr_gc (A := A) (C := fun _ => False) 0 3 b (by decide) rfl (fun K X kk => m169 ?_) (fun g J K X mf e kk => m171 ?_) (fun h2 l => fin h2 (left_w l (by simp) (by simp)))
    · simp only [↓forall_eq, ↓inB_iff, gK_hU, gL_hU, gR_hU, gIh, gJh, pI_hU, pJ_hU, hU_hU, uI_app, uJ_app, and_true, true_and, and_false, false_and, and_self, true_implies, false_implies, not_true, not_false_iff, if_true, if_false, eq_self, Nat.reduceLeDiff, Nat.reduceEqDiff, reduceCtorEq, i32c, ti0, ti1, tiM, Int.natCast_nonneg, Int.reduceEq, Int.reduceLE, Int.reduceLT, Int.reduceNeg, tl_i, Int32.reduceToInt, Int64.reduceToInt, tiA, tlM6, Int.toNat_natCast, natc, nI_1, Int.zero_sub, implies_true, not_false_eq_true, ck_8 b.1, ↓sessionAt_br b S.1, q]
      exact kk
    · simp only [↓forall_eq, ↓inB_iff, gK_hU, gL_hU, gR_hU, gIh, gJh, pI_hU, pJ_hU, hU_hU, uI_app, uJ_app, and_true, true_and, and_false, false_and, and_self, true_implies, false_implies, not_true, not_false_iff, if_true, if_false, eq_self, Nat.reduceLeDiff, Nat.reduceEqDiff, reduceCtorEq, i32c, ti0, ti1, tiM, Int.natCast_nonneg, Int.reduceEq, Int.reduceLE, Int.reduceLT, Int.reduceNeg, tl_i, Int32.reduceToInt, Int64.reduceToInt, tiA, tlM6, Int.toNat_natCast, natc, nI_1, Int.zero_sub, implies_true, not_false_eq_true, mf.1, mr_34 mf, mk_65 mf, ml_65 mf, mr_42 mf, mk_70 mf, ml_70 mf, mr_54 mf, mk_78 mf, ml_78 mf, mr_55 mf, mk_79 mf, ml_79 mf, mr_56 mf, mk_80 mf, ml_80 mf, ↓fail_br mf, ↓isSession_br mf, e 44 (by decide) (by decide), hs, hs2, q]
      exact kk
end PCL
