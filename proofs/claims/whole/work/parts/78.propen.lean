/-! OPEN: the areas, the pair -/
section POP
variable {d k f n nf ns nr U T : Nat} {h g h1 h2 h5 : aH} {A A1 A2 o o1 o2 : Nat → Nat} {X : Nat → aH → Prop} {M I : Nat → Nat → Int32} {J : Nat → Nat → Int64} {E : Nat → Nat → List Tm} {Cn : Nat → Nat → List Cmp} {p : Nat → Prop}
/-- the register, where only what it works with changes -/
theorem RegA_kp (b : base h o) (R : RegA h A o (gI h) U T) (kp : keeps h h2 p) (hp : ∀ q, q < gN h → p q → q = 14 ∨ q = 15 ∨ q = 16 ∨ o q / 1000000 ≠ 1) (hA : A1 1000011 = A 1000011 ∧ A1 1000013 = A 1000013) (ho : ∀ q, q < gN h → o1 q = o q) (m1 : ∀ a, 45 ≤ a → a ≤ 51 → gI h2 a = gI h a) (m2 : gI h2 44 1 = gI h 44 1 ∧ gI h2 44 2 = gI h 44 2 ∧ gI h2 44 5 = gI h 44 5 ∧ gI h2 44 6 = gI h 44 6) : RegA h2 A1 o1 (gI h2) U T := by
  have ne := reg_ne b R
  obtain ⟨⟨r1, r2⟩, r3, r4, r5, ⟨r6, r7⟩, r8, r9, r10⟩ := R
  have ol := b.2.2
  have hN := b.1.1
  have n1 := r3.1.2.2.1.2.2.1
  have n2 := r4.1.2.2.1.2.2.1
  have np : ∀ q, q < gN h → q ≠ 14 → q ≠ 15 → q ≠ 16 → o q / 1000000 = 1 → ¬ p q := fun q hq q1 q2 q4 q3 w => by
    rcases hp q hq w with e | e | e | e
    · exact q1 e
    · exact q2 e
    · exact q4 e
    · exact e q3
  have n16 : A 1000011 ≠ 16 ∧ A 1000013 ≠ 16 := ⟨fun e => by rw [e, ol_16 ol] at r6; omega, fun e => by rw [e, ol_16 ol] at r7; omega⟩
  unfold RegA
  rw [m1 45 (by omega) (by omega), m1 46 (by omega) (by omega), m1 47 (by omega) (by omega), m1 48 (by omega) (by omega), m1 49 (by omega) (by omega), m1 50 (by omega) (by omega), m1 51 (by omega) (by omega), m2.1, m2.2.1, m2.2.2.1, m2.2.2.2, hA.1, hA.2, ho _ n1, ho _ n2]
  refine ⟨⟨r1, r2⟩, units_keeps r3 kp (np 10 (by omega) (by decide) (by decide) (by decide) (by rw [ol_10 ol])) (np _ n1 ne.1 ne.2.1 n16.1 (by rw [r6])), tell_keeps r4 kp (np 12 (by omega) (by decide) (by decide) (by decide) (by rw [ol_12 ol])) (np _ n2 ne.2.2.1 ne.2.2.2 n16.2 (by rw [r7])), ?_, ⟨r6, r7⟩, r8, r9, r10⟩
  rw [(kp.2.2.2 9 (by omega) (np 9 (by omega) (by decide) (by decide) (by decide) (by rw [ol_9 ol]))).2.2.1]; exact r5
/-- sessions, and a new one -/
theorem SessA_new (b : base h o) (S : SessA h A o (gI h) E Cn nf ns U) (hns : ns < 60) (L : listT h2 A1 o1 35 6 (ns + 1) 10) (kp : keeps h h2 p) (hp : ∀ q, q < gN h → p q → q = 35 ∨ (0 < ns ∧ q = A 6000035) ∨ o q / 1000000 ≠ 6) (hA : ∀ l, l ≠ 6000035 → (l < bS ns ∨ bS ns + 5 ≤ l) → A1 l = A l) (ho : ∀ q, q < gN h → o1 q = o q) (fv : ∀ f, f < nf → fV (gI h) (gI h2) f) (sv : ∀ k, k < 60 → k ≠ ns → sV (gI h) (gI h2) k) (m38 : gI h2 44 38 = nI (ns + 1)) (n6 : nf ≤ 6)
    (new : sessOK h2 A1 o1 (gI h2) E Cn nf U ns) : SessA h2 A1 o1 (gI h2) E Cn nf (ns + 1) U := by
  obtain ⟨f1, f2, f3, f4⟩ := S
  have kn := kp.1
  refine ⟨L, ⟨m38, by omega⟩, fun k hk => ?_, sesZ_cg (fun k h1 h2 => f4 k (by omega) h2) (fun k h1 h2 => sv k h2 (by omega))⟩
  by_cases e : k = ns
  · rw [e]; exact new
  · have S' := f3 k (by omega)
    have A6 : ∀ j, j < 5 → A1 (bS k + j) = A (bS k + j) := fun j hj => hA _ (by unfold bS; omega) (by unfold bS; omega)
    have sm : ∀ j, j < 5 → same h h2 (A (bS k + j)) := fun j hj => by
      obtain ⟨kd, v⟩ := vS_j S'.1 hj
      refine kp.2.2.2 _ v.2.2.1 (fun w => ?_)
      rcases hp _ v.2.2.1 w with e | ⟨e0, e⟩ | e
      · have := v.1
        rw [e, ol_35 b.2.2] at this
        unfold bS at this; omega
      · have dt := list_dat f1 e0
        exact liv_ne v dt.2.1 (by unfold bS; omega) e
      · exact e (by rw [v.1]; unfold bS; omega)
    have T2 : TS h2 A1 o1 k := obj_kp (oL_S (by omega)) S'.1 kn (fun q hq => by
      have hj : q.1 < 5 := (show ∀ q ∈ kS, q.1 < 5 by decide) q hq
      exact ⟨A6 _ hj, sm _ hj, ho _ (S'.1.1 q hq).2.2.1⟩)
    refine sessOK_cg S' T2 (fun j hj => ?_) ?_ (fun f hf => hA _ (by unfold bF; omega) (by unfold bF bS; omega)) (Nat.le_refl _) (Nat.le_refl _) fv (sv k (by omega) e)
    · rw [A6 j hj]; exact funext (sm j hj).2.2.1
    · rw [show A1 (bS k) = A (bS k) from A6 0 (by omega)]; exact (sm 0 (by omega)).2.2.2.2 0
theorem bits_n0 {P : Nat → Bool} : ∀ n, (∀ i, i < n → P i = false) → bits P n = 0 := by
  intro n
  induction n with
  | zero => intro _; rfl
  | succ n ih => intro h; rw [bits, if_neg (by rw [h n (by omega)]; decide)]; exact ih (fun i hi => h i (by omega))
theorem pr_open {x u : Int32} (b : base h o) (F : FormA h A o (gI h) E Cn nf) (Rg : RegA h A o (gI h) U T) (mm : MinA h (gI h)) (S : SessA h A o (gI h) E Cn nf ns U) (R : RecA h A o (gI h) nf ns nr) : Pr 137 139 [vI x, vI u] [3, 2, 4] h (fun h2 => ∃ A1 o1 ns1, left h h2 A A1 o o1 (fun c => c = 1 ∨ c = 6) [67, 68, 69, 76] [38] 6 180 ∧ RegA h2 A1 o1 (gI h2) U T ∧ SessA h2 A1 o1 (gI h2) E Cn nf ns1 U ∧ RecA h2 A1 o1 (gI h2) nf ns1 nr ∧ clC (gI h2) ns1 = clC (gI h) ns) := by
  have hs := S.2.1.1
  have hs6 := S.2.1.2
  have hs2 : (nI ns).toInt = ns := ti_n (by omega)
  have hnf := F.2.1.1
  have n6 := F.2.1.2
  have hn : (nI nf).toInt = nf := ti_n (by omega)
  obtain ⟨u9, t9⟩ := RegA_le Rg
  have hu' := Rg.1.1
  have hUI : (nI U).toInt = U := ti_n (by omega)
  have k35 := S.1.1.1
  have fin : ∀ h2, left h h2 A A o o (fun _ => False) [] [] 1 6 → ∃ A1 o1 ns1, left h h2 A A1 o o1 (fun c => c = 1 ∨ c = 6) [67, 68, 69, 76] [38] 6 180 ∧ RegA h2 A1 o1 (gI h2) U T ∧ SessA h2 A1 o1 (gI h2) E Cn nf ns1 U ∧ RecA h2 A1 o1 (gI h2) nf ns1 nr ∧ clC (gI h2) ns1 = clC (gI h) ns := fun h2 l => ⟨A, o, ns, left_mono l (fun _ w => w.elim) (by simp) (by simp) (by omega) (by omega), RegA_left b Rg l (fun w => w) (by simp) (by simp), SessA_left b S l (fun w => w) (fun w => w) n6 (Nat.le_refl _) (by simp) (by simp), RecA_left b F R l hs6 (by simp) (by simp) (by simp), clC_cg ns (fun j _ => by rw [l.2.2.1.1 70 (by decide) (by decide) (by simp)])⟩
  by_cases q : 0 ≤ x.toInt ∧ x.toInt < nf
  · by_cases qu : 0 ≤ u.toInt ∧ u.toInt < U
    · have u100 : u.toInt < 100 := by omega
      by_cases qm : (gI h 45 u.toInt.toNat).toInt = -1
      · by_cases qn : ns < 60
        · generalize hfx : x.toInt.toNat = f at *
          have hx : x = nI f := by rw [← hfx]; exact ti_nat q.1
          have hf : f < nf := by omega
          subst hx
          refine Pr_ok (nI ns) (fun h1 => ∃ A2 o2, sesN h h1 A A2 o o2 (gI h) E Cn T f ns u) (fun K X kk => c_open b F Rg S mm.1 hf qu qm qn (fun h5 A2 o2 z => kk h5 ⟨A2, o2, z⟩)) (fun h1 J1 m j K X kk => ?_)
          obtain ⟨A2, o2, l5, f5, st, k5, t5, ⟨r50, i51, i59, i512⟩, v5, ⟨y1, y2, y3, y4⟩, gn, gt⟩ := m
          have hN := b.1.1
          have od : 0 < ns → o (A 6000035) = 6000035 := fun z => (list_dat S.1 z).2.1.1
          have nd : ∀ q, o q / 1000000 ≠ 6 → ¬ (0 < ns ∧ q = A 6000035) := fun q hq w => hq (by rw [w.2, od w.1])
          have b1 : base h1 o2 := base_of b f5 (fun a ha j9 => by
            refine (k5.2.2.2 a (by omega) ?_).2.2.2.2 j9
            have h6 : o a / 1000000 ≠ 6 := by
              rcases ha with e | e | e | e | e <;> rw [e]
              · rw [ol_8 b.2.2]; decide
              · rw [ol_9 b.2.2]; decide
              · rw [ol_17 b.2.2]; decide
              · rw [ol_32 b.2.2]; decide
              · rw [ol_m b.2.2 (by decide) (by decide)]; decide
            rintro (w | w | w | w)
            · omega
            · omega
            · omega
            · exact nd a h6 w) (by
            refine (k5.2.2.2 19 (by omega) ?_).2.2.2.2 0
            rintro (w | w | w | w)
            · omega
            · omega
            · omega
            · exact nd 19 (by rw [ol_19 b.2.2]; decide) w)
          have e9 : ∀ x, 44 ≤ x → x < 107 → gI h1 x = gI h x := fun x q1 q2 => (fr_m b f5 (by decide) q1 q2).1
          refine m_open b1.2.1 F Rg hs hf qu qm qn e9 (fun I4 cl => ?_)
          obtain ⟨l0, l4, l40, l38, l67, l68, lot, lnw, l76⟩ := cl
          have out : ∀ a, ¬ (44 ≤ a ∧ a ≤ 107) → I4 a = gI h1 a := fun a ha => l0 a (by omega) (by omega) (by omega) (by omega) (by omega)
          have md : ∀ a, 44 < a → a < 107 → a ≠ 67 → a ≠ 68 → a ≠ 69 → a ≠ 76 → I4 a = gI h a := fun a q1 q2 q3 q4 q5 q6 => by rw [l0 a (by omega) q3 q4 q5 q6, e9 a (by omega) q2]
          have m44 : ∀ j9, j9 ≠ 0 → j9 ≠ 38 → I4 44 j9 = gI h 44 j9 := fun j9 q1 q2 => by rw [l4 j9 q1 q2, e9 44 (by decide) (by decide)]
          have ls : left h (hU h1 I4 J1) A A2 o o2 (fun c => c = 1 ∨ c = 6) [67, 68, 69, 76] [38] 6 180 := left_mk (h1 := h1) b b1 f5 (by decide) (by decide) (fun a a1 a2 => by
            simp only [List.mem_cons, List.mem_nil_iff, or_false, not_or] at a2
            exact l0 a a1 a2.1 a2.2.1 a2.2.2.1 a2.2.2.2) (fun j9 a1 a2 => by
            simp only [List.mem_cons, List.mem_nil_iff, or_false] at a2
            exact l4 j9 a1 a2) (fun a a1 _ => j a a1) gn gt
          have kp : keeps h (hU h1 I4 J1) (fun q => q = 14 ∨ q = 15 ∨ q = 35 ∨ (0 < ns ∧ q = A 6000035) ∨ (44 ≤ q ∧ q ≤ 107)) := by
            refine ⟨k5.1, k5.2.1, k5.2.2.1, fun q hq hp => ?_⟩
            have s := k5.2.2.2 q hq (fun z => hp (by rcases z with z | z | z | z; exact Or.inl z; exact Or.inr (Or.inl z); exact Or.inr (Or.inr (Or.inl z)); exact Or.inr (Or.inr (Or.inr (Or.inl z)))))
            have hm : ¬ (44 ≤ q ∧ q ≤ 107) := fun z => hp (Or.inr (Or.inr (Or.inr (Or.inr z))))
            refine ⟨s.1, s.2.1, fun j9 => ?_, fun j9 => ?_, s.2.2.2.2⟩
            · rw [gI_hU, out q hm]; exact s.2.2.1 j9
            · rw [gJ_hU, j q (by omega)]; exact s.2.2.2.1 j9
          have om : ∀ q, 44 ≤ q ∧ q ≤ 107 → o q / 1000000 ≠ 6 ∧ o q / 1000000 ≠ 1 := fun q hq => by
            by_cases z : q = 107
            · rw [z, ol_107 b.2.2]; omega
            · rw [ol_m b.2.2 hq.1 (by omega)]; omega
          have fv : ∀ f, f < nf → fV (gI h) (gI (hU h1 I4 J1)) f ∧ cnM (gI h) f ≤ 20 := fun f hf => ⟨fV_of fun a q => md a (by omega) (by omega) (by omega) (by omega) (by omega) (by omega), (cn_of F f hf).2⟩
          have sv : ∀ k, k < 60 → k ≠ ns → sV (gI h) (gI (hU h1 I4 J1)) k := fun k h6 hne => by
            refine ⟨⟨?_, ?_, ?_, ?_, ?_⟩, fun i hi => ⟨?_, ?_, ?_, ?_, ?_⟩, fun j9 hj => ?_⟩
            · rw [gIh, l67, if_neg hne, e9 67 (by decide) (by decide)]
            · rw [gIh, l68, if_neg hne, e9 68 (by decide) (by decide)]
            · rw [gIh, md 70 (by decide) (by decide) (by decide) (by decide) (by decide) (by decide)]
            · rw [gIh, l76 k hne, e9 76 (by decide) (by decide)]
            · rw [gIh, md 77 (by decide) (by decide) (by decide) (by decide) (by decide) (by decide)]
            · rw [gIh, md 71 (by decide) (by decide) (by decide) (by decide) (by decide) (by decide)]
            · rw [gIh, md 72 (by decide) (by decide) (by decide) (by decide) (by decide) (by decide)]
            · rw [gIh, md 73 (by decide) (by decide) (by decide) (by decide) (by decide) (by decide)]
            · rw [gIh, md 74 (by decide) (by decide) (by decide) (by decide) (by decide) (by decide)]
            · rw [gIh, md 75 (by decide) (by decide) (by decide) (by decide) (by decide) (by decide)]
            · rw [gIh, lot _ (by omega), e9 69 (by decide) (by decide)]
          obtain ⟨z70, z20⟩ := S.2.2.2 ns (Nat.le_refl _) qn
          have fsn : fS I4 ns = f := by unfold fS; rw [l67, if_pos rfl, ti_n (by omega)]; rfl
          have gvn : gvM I4 ns = fun _ => -2000000 := by
            funext i
            unfold gvM
            by_cases hi : i < 20
            · rw [if_pos hi, md 71 (by decide) (by decide) (by decide) (by decide) (by decide) (by decide), (z20 i hi).1, if_pos (by decide)]
            · rw [if_neg hi]
          have avn : avM I4 ns = fun _ => -2000000 := by
            funext i
            unfold avM
            by_cases hi : i < 20
            · rw [if_pos hi, md 73 (by decide) (by decide) (by decide) (by decide) (by decide) (by decide), (z20 i hi).2.1, if_pos (by decide)]
            · rw [if_neg hi]
          have ntn : ∀ i, ntM I4 ns i = false := fun i => by
            unfold ntM
            by_cases hi : i < 20
            · rw [md 75 (by decide) (by decide) (by decide) (by decide) (by decide) (by decide), (z20 i hi).2.2]; simp
            · rw [decide_eq_false hi]; rfl
          have rgn : rgM I4 ns = rgV (gI h) T u := by
            funext i
            by_cases hi : i < 6
            · unfold rgM; rw [if_pos hi]; exact lnw i hi
            · unfold rgM rgV; rw [if_neg hi, if_neg hi]
          have g6 : cnM I4 f = cnM (gI h) f := by unfold cnM; rw [md 53 (by decide) (by decide) (by decide) (by decide) (by decide) (by decide)]
          have g7 : soM I4 f = soM (gI h) f := by unfold soM; rw [md 54 (by decide) (by decide) (by decide) (by decide) (by decide) (by decide)]
          have loS : ∀ j9, j9 < 5 → ¬ (44 ≤ A2 (bS ns + j9) ∧ A2 (bS ns + j9) ≤ 107) := fun j9 hj => by
            obtain ⟨kd, v⟩ := vS_j t5 hj
            exact lab_out b1 v (by unfold bS; omega)
          have o0 : I4 (A2 (bS ns)) = gI h1 (A2 (bS ns)) := out _ (loS 0 (by omega))
          have aF : ∀ f, f < nf → A2 (bF f) = A (bF f) := fun f hf => st _ (by unfold bF; omega) (by unfold bF bS; omega)
          refine kk (hU h1 I4 J1) l40 rfl ⟨A2, o2, ns + 1, ls, ?_, ?_, ?_, ?_⟩
          · refine RegA_kp b Rg kp (fun q hq w => ?_) ⟨st _ (by decide) (by unfold bS; omega), st _ (by decide) (by unfold bS; omega)⟩ f5.2.1 (fun a h1 h2 => md a (by omega) (by omega) (by omega) (by omega) (by omega) (by omega)) ⟨m44 1 (by decide) (by decide), m44 2 (by decide) (by decide), m44 5 (by decide) (by decide), m44 6 (by decide) (by decide)⟩
            rcases w with w | w | w | w | w
            · exact Or.inl w
            · exact Or.inr (Or.inl w)
            · rw [w, ol_35 b.2.2]; exact Or.inr (Or.inr (Or.inr (by decide)))
            · rw [w.2, od w.1]; exact Or.inr (Or.inr (Or.inr (by decide)))
            · exact Or.inr (Or.inr (Or.inr (om q w).2))
          · have hlist : listT (hU h1 I4 J1) A2 o2 35 6 (ns + 1) 10 := ⟨l5.1, ⟨by rw [gIh, out 35 (by decide)]; exact l5.2.1.1, l5.2.1.2⟩, l5.2.2⟩
            refine SessA_new b S qn hlist kp (fun q hq w => ?_) st f5.2.1 (fun f hf => (fv f hf).1) sv l38 n6 ?_
            · rcases w with w | w | w | w | w
              · rw [w, ol_14 b.2.2]; exact Or.inr (Or.inr (by decide))
              · rw [w, ol_15 b.2.2]; exact Or.inr (Or.inr (by decide))
              · exact Or.inl w
              · exact Or.inr (Or.inl w)
              · exact Or.inr (Or.inr (om q w).1)
            · refine ⟨t5, ⟨?_, ?_⟩, ?_, ⟨?_, ?_, ?_⟩, ⟨fun i hi => ?_, ?_⟩, ⟨⟨fun i hi => ?_, fun i hi => ?_, fun i hi => ?_, ?_⟩, ⟨?_, ?_⟩, ?_, ?_, ?_, ?_⟩⟩
              · rw [gIh, fsn, l67, if_pos rfl]
              · rw [gIh, fsn]; exact hf
              · rw [gIh, fsn, gR_hU, r50, aF f hf]
              · rw [gIh, o0, i51, l68, if_pos rfl]
              · rw [gIh, l68, if_pos rfl]; exact qu.1
              · rw [gIh, l68, if_pos rfl]; exact qu.2
              · rw [gIh, out _ (loS 1 (by omega)), rgn]; exact v5 i hi
              · rw [gIh, rgn]; exact rgV_b Rg
              · rw [gIh, gvn, out _ (loS 3 (by omega))]; exact y1 i hi
              · rw [gIh, avn, out _ (loS 4 (by omega))]; exact y2 i hi
              · rw [gIh, gvn, rgn, fsn, g6, g7, out _ (loS 2 (by omega))]; exact y3 i hi
              · rw [gIh, gvn, rgn, fsn, g6, g7, o0]; exact y4
              · rw [gIh, o0, i512, md 70 (by decide) (by decide) (by decide) (by decide) (by decide) (by decide), z70]
              · exact Or.inl (by rw [gIh, md 70 (by decide) (by decide) (by decide) (by decide) (by decide) (by decide), z70])
              · intro i hi hne
                rw [gIh, md 71 (by decide) (by decide) (by decide) (by decide) (by decide) (by decide), (z20 i hi).1] at hne
                exact absurd rfl hne
              · intro i hi hne
                rw [gIh, md 73 (by decide) (by decide) (by decide) (by decide) (by decide) (by decide), (z20 i hi).2.1] at hne
                exact absurd rfl hne
              · rw [gIh, o0, i59, bits_n0 20 (fun i _ => ntn i)]
              · exact Or.inl (fun i _ => by rw [gIh]; exact ntn i)
          · refine RecA_fr b R ls.2.1 (by decide) aF (fun k hk => st _ (by unfold bS; omega) (by unfold bS; omega)) (Nat.le_refl _) (by omega) fv (fun k hk => ?_) ⟨?_, ?_, ?_⟩ ?_
            · rw [gIh, l67, if_neg (by omega), l68, if_neg (by omega), e9 67 (by decide) (by decide), e9 68 (by decide) (by decide)]; exact ⟨rfl, rfl⟩
            · rw [gIh, md 78 (by decide) (by decide) (by decide) (by decide) (by decide) (by decide)]
            · rw [gIh, md 79 (by decide) (by decide) (by decide) (by decide) (by decide) (by decide)]
            · rw [gIh, md 80 (by decide) (by decide) (by decide) (by decide) (by decide) (by decide)]
            · rw [gIh, m44 53 (by decide) (by decide)]
          · rw [clC, if_pos (by rw [gIh, md 70 (by decide) (by decide) (by decide) (by decide) (by decide) (by decide), z70]; rfl)]
            exact clC_cg ns (fun j9 _ => by rw [gIh, md 70 (by decide) (by decide) (by decide) (by decide) (by decide) (by decide)])
        · have n60 : ns = 60 := by omega
          have n60' : ¬ (ns : Int) < 60 := by omega
          have n61 : (ns : Int) = 60 := by omega
          refine Pr_gc (A := A) (C := fun _ => False) 2 4 b (by decide) rfl (fun K X kk => m137 ?_) (fun g J K X mf e kk => m139 ?_) fin
          · simp only [↓forall_eq, ↓inB_iff, gK_hU, gL_hU, gR_hU, gIh, gJh, pI_hU, pJ_hU, hU_hU, uI_app, uJ_app, and_true, true_and, and_false, false_and, and_self, true_implies, false_implies, not_true, not_false_iff, if_true, if_false, eq_self, Nat.reduceLeDiff, Nat.reduceEqDiff, reduceCtorEq, i32c, ti0, ti1, tiM, Int.natCast_nonneg, Int.reduceEq, Int.reduceLE, Int.reduceLT, Int.reduceNeg, tl_i, Int32.reduceToInt, Int64.reduceToInt, tiA, tlM6, Int.toNat_natCast, natc, nI_1, Int.zero_sub, implies_true, not_false_eq_true, ck_8 b.1, ↓formAt_br b F.1, q, ↓needUnit_br b Rg, qu, ↓needUnm_br b Rg qu, qm, cr_8_5 b.1, k35, ↓lsize_br S.1, hs2, n60']
            exact kk
          · simp only [↓forall_eq, ↓inB_iff, gK_hU, gL_hU, gR_hU, gIh, gJh, pI_hU, pJ_hU, hU_hU, uI_app, uJ_app, and_true, true_and, and_false, false_and, and_self, true_implies, false_implies, not_true, not_false_iff, if_true, if_false, eq_self, Nat.reduceLeDiff, Nat.reduceEqDiff, reduceCtorEq, i32c, ti0, ti1, tiM, Int.natCast_nonneg, Int.reduceEq, Int.reduceLE, Int.reduceLT, Int.reduceNeg, tl_i, Int32.reduceToInt, Int64.reduceToInt, tiA, tlM6, Int.toNat_natCast, natc, nI_1, Int.zero_sub, implies_true, not_false_eq_true, mf.1, mr_3 mf, mk_45 mf, ml_45 mf, mr_39 mf, mk_67 mf, ml_67 mf, mr_40 mf, mk_68 mf, ml_68 mf, mr_41 mf, mk_69 mf, ml_69 mf, mr_48 mf, mk_76 mf, ml_76 mf, ↓fail_br mf, ↓isForm_br mf, ↓isUnit_br mf, e 44 (by decide) (by decide), e 45 (by decide) (by decide), hu', hnf, hs, hn, hUI, hs2, q, qu, u100, qm, n61]
            exact kk
      · refine Pr_gc (A := A) (C := fun _ => False) 1 2 b (by decide) rfl (fun K X kk => m137 ?_) (fun g J K X mf e kk => m139 ?_) fin
        · simp only [↓forall_eq, ↓inB_iff, gK_hU, gL_hU, gR_hU, gIh, gJh, pI_hU, pJ_hU, hU_hU, uI_app, uJ_app, and_true, true_and, and_false, false_and, and_self, true_implies, false_implies, not_true, not_false_iff, if_true, if_false, eq_self, Nat.reduceLeDiff, Nat.reduceEqDiff, reduceCtorEq, i32c, ti0, ti1, tiM, Int.natCast_nonneg, Int.reduceEq, Int.reduceLE, Int.reduceLT, Int.reduceNeg, tl_i, Int32.reduceToInt, Int64.reduceToInt, tiA, tlM6, Int.toNat_natCast, natc, nI_1, Int.zero_sub, implies_true, not_false_eq_true, ck_8 b.1, ↓formAt_br b F.1, q, ↓needUnit_br b Rg, qu, ↓needUnm_br b Rg qu, qm]
          exact kk
        · simp only [↓forall_eq, ↓inB_iff, gK_hU, gL_hU, gR_hU, gIh, gJh, pI_hU, pJ_hU, hU_hU, uI_app, uJ_app, and_true, true_and, and_false, false_and, and_self, true_implies, false_implies, not_true, not_false_iff, if_true, if_false, eq_self, Nat.reduceLeDiff, Nat.reduceEqDiff, reduceCtorEq, i32c, ti0, ti1, tiM, Int.natCast_nonneg, Int.reduceEq, Int.reduceLE, Int.reduceLT, Int.reduceNeg, tl_i, Int32.reduceToInt, Int64.reduceToInt, tiA, tlM6, Int.toNat_natCast, natc, nI_1, Int.zero_sub, implies_true, not_false_eq_true, mf.1, mr_3 mf, mk_45 mf, ml_45 mf, mr_39 mf, mk_67 mf, ml_67 mf, mr_40 mf, mk_68 mf, ml_68 mf, mr_41 mf, mk_69 mf, ml_69 mf, mr_48 mf, mk_76 mf, ml_76 mf, ↓fail_br mf, ↓isForm_br mf, ↓isUnit_br mf, e 44 (by decide) (by decide), e 45 (by decide) (by decide), hu', hnf, hn, hUI, q, qu, u100, qm]
          exact kk
    · refine Pr_gc (A := A) (C := fun _ => False) 0 3 b (by decide) rfl (fun K X kk => m137 ?_) (fun g J K X mf e kk => m139 ?_) fin
      · simp only [↓forall_eq, ↓inB_iff, gK_hU, gL_hU, gR_hU, gIh, gJh, pI_hU, pJ_hU, hU_hU, uI_app, uJ_app, and_true, true_and, and_false, false_and, and_self, true_implies, false_implies, not_true, not_false_iff, if_true, if_false, eq_self, Nat.reduceLeDiff, Nat.reduceEqDiff, reduceCtorEq, i32c, ti0, ti1, tiM, Int.natCast_nonneg, Int.reduceEq, Int.reduceLE, Int.reduceLT, Int.reduceNeg, tl_i, Int32.reduceToInt, Int64.reduceToInt, tiA, tlM6, Int.toNat_natCast, natc, nI_1, Int.zero_sub, implies_true, not_false_eq_true, ck_8 b.1, ↓formAt_br b F.1, q, ↓needUnit_br b Rg, qu]
        exact kk
      · simp only [↓forall_eq, ↓inB_iff, gK_hU, gL_hU, gR_hU, gIh, gJh, pI_hU, pJ_hU, hU_hU, uI_app, uJ_app, and_true, true_and, and_false, false_and, and_self, true_implies, false_implies, not_true, not_false_iff, if_true, if_false, eq_self, Nat.reduceLeDiff, Nat.reduceEqDiff, reduceCtorEq, i32c, ti0, ti1, tiM, Int.natCast_nonneg, Int.reduceEq, Int.reduceLE, Int.reduceLT, Int.reduceNeg, tl_i, Int32.reduceToInt, Int64.reduceToInt, tiA, tlM6, Int.toNat_natCast, natc, nI_1, Int.zero_sub, implies_true, not_false_eq_true, mf.1, mr_3 mf, mk_45 mf, ml_45 mf, mr_39 mf, mk_67 mf, ml_67 mf, mr_40 mf, mk_68 mf, ml_68 mf, mr_41 mf, mk_69 mf, ml_69 mf, mr_48 mf, mk_76 mf, ml_76 mf, ↓fail_br mf, ↓isForm_br mf, ↓isUnit_br mf, e 44 (by decide) (by decide), hu', hnf, hn, hUI, q, qu]
        exact kk
  · refine Pr_gc (A := A) (C := fun _ => False) 0 3 b (by decide) rfl (fun K X kk => m137 ?_) (fun g J K X mf e kk => m139 ?_) fin
    · simp only [↓forall_eq, ↓inB_iff, gK_hU, gL_hU, gR_hU, gIh, gJh, pI_hU, pJ_hU, hU_hU, uI_app, uJ_app, and_true, true_and, and_false, false_and, and_self, true_implies, false_implies, not_true, not_false_iff, if_true, if_false, eq_self, Nat.reduceLeDiff, Nat.reduceEqDiff, reduceCtorEq, i32c, ti0, ti1, tiM, Int.natCast_nonneg, Int.reduceEq, Int.reduceLE, Int.reduceLT, Int.reduceNeg, tl_i, Int32.reduceToInt, Int64.reduceToInt, tiA, tlM6, Int.toNat_natCast, natc, nI_1, Int.zero_sub, implies_true, not_false_eq_true, ck_8 b.1, ↓formAt_br b F.1, q]
      exact kk
    · simp only [↓forall_eq, ↓inB_iff, gK_hU, gL_hU, gR_hU, gIh, gJh, pI_hU, pJ_hU, hU_hU, uI_app, uJ_app, and_true, true_and, and_false, false_and, and_self, true_implies, false_implies, not_true, not_false_iff, if_true, if_false, eq_self, Nat.reduceLeDiff, Nat.reduceEqDiff, reduceCtorEq, i32c, ti0, ti1, tiM, Int.natCast_nonneg, Int.reduceEq, Int.reduceLE, Int.reduceLT, Int.reduceNeg, tl_i, Int32.reduceToInt, Int64.reduceToInt, tiA, tlM6, Int.toNat_natCast, natc, nI_1, Int.zero_sub, implies_true, not_false_eq_true, mf.1, mr_3 mf, mk_45 mf, ml_45 mf, mr_39 mf, mk_67 mf, ml_67 mf, mr_40 mf, mk_68 mf, ml_68 mf, mr_41 mf, mk_69 mf, ml_69 mf, mr_48 mf, mk_76 mf, ml_76 mf, ↓fail_br mf, ↓isForm_br mf, e 44 (by decide) (by decide), hnf, hn, q]
      exact kk
end POP
