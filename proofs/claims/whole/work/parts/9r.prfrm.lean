/-! FORM: the pair, its three cases -/
section PFR
variable {d L nf cnt w f : Nat} {h h1 h2 : aH} {A A1 o o1 : Nat → Nat} {X : Nat → aH → Prop} {B : Nat → Int32} {M M2 : Nat → Nat → Int32} {C : Nat → Prop} {p : Nat → Prop} {E : Nat → Nat → List Tm} {Cn : Nat → Nat → List Cmp} {st : Nat → StD}
theorem ThA_left {as fs : List Nat} {n q : Nat} (T : ThA (gI h) nf) (l : left h h2 A A1 o o1 C as fs n q) (ha : ∀ a ∈ as, a ≠ 53 ∧ a ≠ 60 ∧ a ≠ 62 ∧ a ≠ 81) (hf : 27 ∉ fs) : ThA (gI h2) nf := by
  obtain ⟨-, -, ⟨l3, l4, -⟩, -⟩ := l
  obtain ⟨⟨th, t1, t2, t3⟩, t4⟩ := T
  have m : ∀ a, a = 53 ∨ a = 60 ∨ a = 62 ∨ a = 81 → gI h2 a = gI h a := fun a ha2 => l3 a (by omega) (by omega) (fun w => by have := ha a w; omega)
  refine ⟨⟨th, by rw [l4 27 (by decide) hf]; exact t1, t2, fun f hf s hs => ?_⟩, fun f h1 h2 => by rw [m 81 (by omega)]; exact t4 f h1 h2⟩
  unfold cnM at hs
  rw [m 53 (by omega)] at hs
  rw [m 60 (by omega), m 62 (by omega)]
  exact t3 f hf s hs
def frmP (h h2 : aH) (A A1 o o1 : Nat → Nat) (E E1 : Nat → Nat → List Tm) (Cn Cn1 : Nat → Nat → List Cmp) (nf nf1 L1 : Nat) : Prop := left h h2 A A1 o o1 (fun c => c = 2 ∨ c = 3 ∨ c = 5) [44, 53, 54, 55, 56, 57, 58, 59, 60, 61, 62, 63, 64] [13, 14, 27, 28, 29, 30, 32, 33] 13 2700 ∧ FormA h2 A1 o1 (gI h2) E1 Cn1 nf1 ∧ TapeA h2 (gI h2) L1 ∧ ThA (gI h2) nf1 ∧ nf ≤ nf1 ∧ ∀ f, f < nf → A1 (bF f) = A (bF f) ∧ E1 f = E f ∧ Cn1 f = Cn f ∧ fV (gI h) (gI h2) f
/-- the model's cells of the old forms -/
def oldM (M M2 : Nat → Nat → Int32) (nf th : Nat) : Prop := (∀ f, f < nf → M2 53 f = M 53 f) ∧ (∀ f, f < nf → ∀ a, 54 ≤ a → a ≤ 62 → ∀ i, i < 20 → M2 a (20 * f + i) = M a (20 * f + i)) ∧ (∀ i, i < th → M2 63 i = M 63 i ∧ M2 64 i = M 64 i) ∧ ∀ a, 81 ≤ a → a ≤ 84 → M2 a = M a
theorem oldM_of {I' I2 : Nat → Nat → Int32} {J' J1 : Nat → Nat → Int64} {w0 : Nat} (e9 : ∀ x, 44 ≤ x → x < 107 → gI h1 x = gI h x) (i0 : ∀ a, a ≠ 44 → I2 a = I' a) (ff : fF nf w0 (uI (gI h1) 44 0 0) I' J1 J') : oldM (gI h) I2 nf w0 :=
  ⟨fun f hf => by rw [i0 53 (by decide), ff.2.2.1 f (by omega), uI_ne _ _ _ (by decide), e9 53 (by decide) (by decide)], fun f hf a z1 z2 i hi => by rw [i0 a (by omega), ff.2.2.2.1 a z1 z2 _ (by omega), uI_ne _ _ _ (by omega), e9 a (by omega) (by omega)], fun i hi => by rw [i0 63 (by decide), i0 64 (by decide), (ff.2.2.2.2.1 i hi).1, (ff.2.2.2.2.1 i hi).2, uI_ne _ _ _ (by decide), uI_ne _ _ _ (by decide), e9 63 (by decide) (by decide), e9 64 (by decide) (by decide)]; exact ⟨rfl, rfl⟩, fun a z1 z2 => by rw [i0 a (by omega), ff.1 a (by omega) (by omega), uI_ne _ _ _ (by omega), e9 a (by omega) (by omega)]⟩
theorem oldM_V {th : Nat} (m : oldM M M2 nf th) (hf : f < nf) : fV M M2 f := by
  refine ⟨by unfold cnM; rw [m.1 f hf], ?_, fun i hi => ⟨m.2.1 f hf 56 (by decide) (by decide) i hi, m.2.1 f hf 57 (by decide) (by decide) i hi⟩⟩
  funext s; unfold soM
  split
  · rename_i hs; exact m.2.1 f hf 54 (by decide) (by decide) s hs
  · rfl
theorem lf_form {I' I2 : Nat → Nat → Int32} {J' J1 : Nat → Nat → Int64} {w0 n t : Nat} (b : base h o) (b1 : base h1 o1) (f1 : fr h h1 A A1 o o1 C) (hC : ¬ C 14) (j : ∀ a, a ≠ 107 → J1 a = gJ h1 a) (ff : fF nf w0 (uI (gI h1) 44 0 0) I' J1 J') (i0 : ∀ a, a ≠ 44 → I2 a = I' a) (i4 : ∀ jj, jj ≠ 13 → jj ≠ 14 → jj ≠ 27 → I2 44 jj = I' 44 jj) (gn : gN h1 ≤ gN h + n) (gt : gT h1 ≤ gT h + t) : left h (hU h1 I2 J') A A1 o o1 C [44, 53, 54, 55, 56, 57, 58, 59, 60, 61, 62, 63, 64] [13, 14, 27, 28, 29, 30, 32, 33] n t := by
  refine left_mkJ (h1 := h1) b b1 f1 hC (by decide) (fun a z1 z2 => ?_) (fun jj z1 z2 => ?_) (fun a z1 z2 => ?_) gn gt
  · simp only [List.mem_cons, List.mem_nil_iff, or_false, not_or] at z2
    rw [i0 a z1, ff.1 a z1 (by omega), uI_ne _ _ _ z1]
  · simp only [List.mem_cons, List.mem_nil_iff, or_false, not_or] at z2
    obtain ⟨y1, y2, y3, y4, y5, y6, y7, y8⟩ := z2
    rw [i4 jj y1 y2 y3, ff.2.1 jj y3 y4 y5 y6 y7 y8, uI_nj _ _ _ _ z1]
  · simp only [List.mem_cons, List.mem_nil_iff, or_false, not_or] at z2
    rw [ff.2.2.2.2.2 a (by omega) (by omega)]; exact j a z1
theorem pf_no {I' : Nat → Nat → Int32} {J' J1 : Nat → Nat → Int64} {w0 : Nat} (b : base h o) (F : FormA h A o (gI h) E Cn nf) (l12 : L ≤ 1200) (t1 : gI h 44 27 = nI w0) (t2 : w0 ≤ 1200 * nf) (t3 : ∀ f, f < nf → ∀ s, s < cnM (gI h) f → (gI h 60 (20 * f + s)).toInt ≤ w0 ∧ (gI h 62 (20 * f + s)).toInt ≤ w0) (t4 : ∀ f, nf ≤ f → f < 6 → gI h 81 f = 0) (fo : frmO h h1 A o L) (j : ∀ a, a ≠ 107 → J1 a = gJ h1 a) (ff : fF nf w0 (uI (gI h1) 44 0 0) I' J1 J') : frmP h (hU h1 (uI (uI I' 44 13 0) 44 27 (nI w0)) J') A A o o E E Cn Cn nf nf 0 := by
  obtain ⟨b1, f1, t17, gn, gt⟩ := fo
  have e9 : ∀ x, 44 ≤ x → x < 107 → gI h1 x = gI h x := fun x z1 z2 => (fr_m b f1 (by omega) z1 z2).1
  have i0 : ∀ a, a ≠ 44 → (uI (uI I' 44 13 0) 44 27 (nI w0)) a = I' a := fun a ha => by rw [uI_ne _ _ _ ha, uI_ne _ _ _ ha]
  have i4 : ∀ jj, jj ≠ 13 → jj ≠ 27 → (uI (uI I' 44 13 0) 44 27 (nI w0)) 44 jj = I' 44 jj := fun jj z1 z2 => by rw [uI_nj _ _ _ _ z2, uI_nj _ _ _ _ z1]
  have v4 : (uI (uI I' 44 13 0) 44 27 (nI w0)) 44 13 = 0 ∧ (uI (uI I' 44 13 0) 44 27 (nI w0)) 44 27 = nI w0 := ⟨by rw [uI_nj _ _ _ _ (by decide), uI_same], by rw [uI_same]⟩
  generalize uI (uI I' 44 13 0) 44 27 (nI w0) = I2 at *
  have l0 := lf_form (n := 13) (t := 2700) b b1 f1 (by omega) j ff i0 (fun jj z1 _ z3 => i4 jj z1 z3) (by omega) (by omega)
  have om := oldM_of e9 i0 ff
  have hN := b.1.1
  have hcc : ¬ ((5 = 2 ∨ 5 = 3) ∨ 5 = 14 ∨ 5 = 15) := by omega
  obtain ⟨g1, ⟨g2, g3⟩, g4⟩ := F
  have e14 : I2 44 14 = nI nf := by rw [i4 14 (by decide) (by decide), ff.2.1 14 (by decide) (by decide) (by decide) (by decide) (by decide) (by decide), uI_nj _ _ _ _ (by decide), e9 44 (by decide) (by decide)]; exact g2
  refine ⟨left_mono l0 (fun c w => by omega) (fun _ w => w) (fun _ w => w) (Nat.le_refl _) (Nat.le_refl _), ⟨list_fr l0.2.1 hcc (by omega) (by omega) g1, ⟨e14, g3⟩, fun f hf => ?_⟩, ⟨⟨?_, by rw [gIh]; exact v4.1, by omega⟩, fun k hk => by omega⟩, ⟨⟨w0, v4.2, t2, fun f hf s hs => ?_⟩, fun f z1 z2 => ?_⟩, Nat.le_refl _, fun f hf => ⟨rfl, rfl, rfl, oldM_V om hf⟩⟩
  · have fk := g4 f hf
    refine formOK_up fk (t3 f hf) l0.2.1.1 (fun jj hj => ?_) (fun _ _ => rfl) (fun _ _ => rfl) (om.1 f hf) (om.2.1 f hf) om.2.2.1 om.2.2.2
    obtain ⟨kd, v⟩ := vF_j fk.1.1 hj
    rw [v.1, show (bF f + jj) / 1000000 = 5 by unfold bF; omega]; exact hcc
  · show I2 17 1 = nI 0
    rw [i0 17 (by decide), ff.1 17 (by decide) (by decide), uI_ne _ _ _ (by decide)]; exact t17
  · have cn : cnM (gI (hU h1 I2 J')) f = cnM (gI h) f := by unfold cnM; rw [gIh, om.1 f hf]
    rw [cn] at hs
    have h20 := (g4 f hf).1.2.2.1.2.1
    rw [gIh, om.2.1 f hf 60 (by decide) (by decide) s (by omega), om.2.1 f hf 62 (by decide) (by decide) s (by omega)]
    exact t3 f hf s hs
  · rw [gIh, om.2.2.2 81 (by decide) (by decide)]; exact t4 f z1 z2
theorem pf_ok {I' : Nat → Nat → Int32} {J' J1 : Nat → Nat → Int64} {w0 : Nat} {A2 o2 : Nat → Nat} (b : base h o) (F : FormA h A o (gI h) E Cn nf) (l12 : L ≤ 1200) (c6 : nf < 6) (t3 : ∀ f, f < nf → ∀ s, s < cnM (gI h) f → (gI h 60 (20 * f + s)).toInt ≤ w0 ∧ (gI h 62 (20 * f + s)).toInt ≤ w0) (t4 : ∀ f, nf ≤ f → f < 6 → gI h 81 f = 0) (fo : frmN h h1 A A2 o o2 nf L st cnt) (j : ∀ a, a ≠ 107 → J1 a = gJ h1 a) (ff : fF nf w0 (uI (gI h1) 44 0 0) I' J1 J') (md : mdW I' J' nf st cnt w) (hw : w ≤ 1200 * (nf + 1)) (hw0 : w0 ≤ w) : frmP h (hU h1 (uI (uI I' 44 13 0) 44 14 (nI (nf + 1))) J') A A2 o o2 E (fun f => if f = nf then (fun s => (st s).2.1.2.2.2) else E f) Cn (fun f => if f = nf then (fun s => (st s).2.2) else Cn f) nf (nf + 1) 0 := by
  obtain ⟨⟨b1, l5, f1⟩, sA, kp5, ⟨T5, gl1, gl2⟩, cw, ⟨n1, n20, n10⟩, rw0, t17, gn, gt⟩ := fo
  have e9 : ∀ x, 44 ≤ x → x < 107 → gI h1 x = gI h x := fun x z1 z2 => (fr_m b f1 (by omega) z1 z2).1
  have i0 : ∀ a, a ≠ 44 → (uI (uI I' 44 13 0) 44 14 (nI (nf + 1))) a = I' a := fun a ha => by rw [uI_ne _ _ _ ha, uI_ne _ _ _ ha]
  have i4 : ∀ jj, jj ≠ 13 → jj ≠ 14 → (uI (uI I' 44 13 0) 44 14 (nI (nf + 1))) 44 jj = I' 44 jj := fun jj z1 z2 => by rw [uI_nj _ _ _ _ z2, uI_nj _ _ _ _ z1]
  have v4 : (uI (uI I' 44 13 0) 44 14 (nI (nf + 1))) 44 13 = 0 ∧ (uI (uI I' 44 13 0) 44 14 (nI (nf + 1))) 44 14 = nI (nf + 1) := ⟨by rw [uI_nj _ _ _ _ (by decide), uI_same], by rw [uI_same]⟩
  generalize uI (uI I' 44 13 0) 44 14 (nI (nf + 1)) = I2 at *
  have l0 := lf_form (n := 13) (t := 2700) b b1 f1 (by omega) j ff i0 (fun jj z1 z2 _ => i4 jj z1 z2) (by omega) (by omega)
  have om := oldM_of e9 i0 ff
  have hN := b.1.1
  obtain ⟨g1, ⟨g2, g3⟩, g4⟩ := F
  have out : ∀ a, ¬ (44 ≤ a ∧ a ≤ 107) → I2 a = gI h1 a := fun a ha => by rw [i0 a (by omega), ff.1 a (by omega) (by omega), uI_ne _ _ _ (by omega)]
  have loF : ∀ jj, jj < 12 → ¬ (44 ≤ A2 (bF nf + jj) ∧ A2 (bF nf + jj) ≤ 107) := fun jj hj => by
    obtain ⟨kd, v⟩ := vF_j T5 hj
    exact lab_out b1 v (by unfold bF; omega)
  have oF : ∀ jj, jj < 12 → I2 (A2 (bF nf + jj)) = gI h1 (A2 (bF nf + jj)) := fun jj hj => out _ (loF jj hj)
  have jF : J' (A2 (bF nf + 7)) = gJ h1 (A2 (bF nf + 7)) := by
    have := loF 7 (by decide)
    rw [ff.2.2.2.2.2 _ (by omega) (by omega)]; exact j _ (by omega)
  have mdI : ∀ s, s < cnt → mdS I2 J' (20 * nf + s) (st s).1 (st s).2.1 (st s).2.2 w := fun s hs => mdS_cg (md.2 s hs).1 (fun a z1 z2 => i0 a (by omega)) rfl
  have e53 : I2 53 nf = nI cnt := by rw [i0 53 (by decide)]; exact md.1.2.2.1
  have hlist : listT (hU h1 I2 J') A2 o2 34 5 (nf + 1) 3 := ⟨l5.1, ⟨by rw [gIh, out 34 (by decide)]; exact l5.2.1.1, l5.2.1.2⟩, l5.2.2⟩
  have kp : keeps h (hU h1 I2 J') (fun q => q = 34 ∨ (0 < nf ∧ q = A 5000035) ∨ q = 17 ∨ q = 19 ∨ (44 ≤ q ∧ q ≤ 107)) := by
    refine ⟨kp5.1, kp5.2.1, kp5.2.2.1, fun q hq hp => ?_⟩
    have sq := kp5.2.2.2 q hq (fun z => hp (by
      rcases z with z | z | z | z
      · exact Or.inl z
      · exact Or.inr (Or.inl z)
      · exact Or.inr (Or.inr (Or.inl z))
      · exact Or.inr (Or.inr (Or.inr (Or.inl z)))))
    have hm : ¬ (44 ≤ q ∧ q ≤ 107) := fun z => hp (Or.inr (Or.inr (Or.inr (Or.inr z))))
    refine ⟨sq.1, sq.2.1, fun j9 => ?_, fun j9 => ?_, sq.2.2.2.2⟩
    · rw [gI_hU, out q hm]; exact sq.2.2.1 j9
    · rw [gJ_hU, ff.2.2.2.2.2 q (by omega) (by omega), j q (by omega)]; exact sq.2.2.2.1 j9
  have s17 : gI (hU h1 I2 J') 17 1 = 0 := by rw [gIh, out 17 (by decide)]; exact t17
  have fold : ∀ f, f < nf → ∀ jj, jj < 12 → A2 (bF f + jj) = A (bF f + jj) := fun f hf jj hj => sA _ (by unfold bF; omega) (by unfold bF; omega)
  refine ⟨l0, ⟨hlist, ⟨by rw [gIh]; exact v4.2, by omega⟩, fun f hf => ?_⟩, ⟨⟨s17, by rw [gIh]; exact v4.1, by omega⟩, fun k hk => by omega⟩, ⟨⟨w, by rw [gIh, i4 27 (by decide) (by decide)]; exact md.1.2.2.2.2, hw, fun f hf s hs => ?_⟩, fun f z1 z2 => ?_⟩, by omega, fun f hf => ⟨fold f hf 0 (by decide), ?_, ?_, oldM_V om hf⟩⟩
  · by_cases e : f = nf
    · subst e
      dsimp only
      rw [if_pos rfl, if_pos rfl]
      refine formOK_new (w := w) (J := J') c6 T5 ⟨gl1, gl2, l12⟩ ?_ n20 n10 (by rw [gIh]; exact e53) mdI (rows_hU rw0 (oF 10 (by decide))) (by rw [gIh, om.2.2.2 81 (by decide) (by decide)]; exact t4 f (Nat.le_refl _) c6)
      obtain ⟨w9, cw1, cw2⟩ := cw
      exact ⟨w9, clW_cg cw1 (fun jj hj => oF jj hj) jF, cw2⟩
    · dsimp only
      rw [if_neg e, if_neg e]
      have hf' : f < nf := by omega
      have fk := g4 f hf'
      refine formOK_up fk (t3 f hf') kp (fun jj hj w => ?_) (fold f hf') f1.2.1 (om.1 f hf') (om.2.1 f hf') om.2.2.1 om.2.2.2
      obtain ⟨kd, v⟩ := vF_j fk.1.1 hj
      have v1 := v.1
      rcases w with w | w | w | w | w
      · rw [w, ol_34 b.2.2] at v1; unfold bF at v1; omega
      · rw [w.2, (list_dat g1 w.1).2.1.1] at v1; unfold bF at v1; omega
      · rw [w, ol_17 b.2.2] at v1; unfold bF at v1; omega
      · rw [w, ol_19 b.2.2] at v1; unfold bF at v1; omega
      · exact lab_out b v (by unfold bF; omega) w
  · by_cases e : f = nf
    · subst e
      have cn : cnM (gI (hU h1 I2 J')) f = cnt := by unfold cnM; rw [gIh, e53, ti_n (by omega)]; omega
      rw [cn] at hs
      have := mdI s hs
      exact ⟨this.2.2.2.1, this.2.2.2.2⟩
    · have hf' : f < nf := by omega
      have cn : cnM (gI (hU h1 I2 J')) f = cnM (gI h) f := by unfold cnM; rw [gIh, om.1 f hf']
      rw [cn] at hs
      have h20 := (g4 f hf').1.2.2.1.2.1
      rw [gIh, om.2.1 f hf' 60 (by decide) (by decide) s (by omega), om.2.1 f hf' 62 (by decide) (by decide) s (by omega)]
      have := t3 f hf' s hs
      omega
  · rw [gIh, om.2.2.2 81 (by decide) (by decide)]; exact t4 f (by omega) z2
  · dsimp only
    rw [if_neg (Nat.ne_of_lt hf)]
  · dsimp only
    rw [if_neg (Nat.ne_of_lt hf)]
theorem pr_form (b : base h o) (F : FormA h A o (gI h) E Cn nf) (tp : TapeA h (gI h) L) (T : ThA (gI h) nf) : Pr 99 115 [] [4] h (fun h2 => ∃ A1 o1 E1 Cn1 nf1 L1, frmP h h2 A A1 o o1 E E1 Cn Cn1 nf nf1 L1) := by
  obtain ⟨⟨tp1, tp2, l12⟩, tp3⟩ := tp
  have n6 := F.2.1.2
  have T0 := T
  obtain ⟨⟨w0, t1, t2, t3⟩, t4⟩ := T
  have tC : tpC (gI h) (gI h 52) L := ⟨tp1, l12, tp3⟩
  by_cases c6 : nf < 6
  · have tM : ∀ {g : aH}, (∀ x, 44 ≤ x → x < 107 → gI g x = gI h x) → tpM (gI g) (gI h 52) L := fun {g} e => ⟨by rw [e 44 (by decide) (by decide)]; exact tp2, l12, fun k hk => by rw [e 52 (by decide) (by decide)]; exact ⟨rfl, (tp3 k hk).2⟩⟩
    cases hr : fmF (gI h 52) L 20 0 st0 0 with
    | mk r q =>
      cases r with
      | none =>
        refine Pr_ok ((-1) - nI (lxS (gI h 52) L q)) (fun h1 => frmO h h1 A o L) (fun K X kk => c_form b F.1 n6 tC (fun z => absurd c6 z) (fun _ q' h2 hx _ fo => ?_) (fun _ cnt st q' h2 A2 o2 hx => ?_)) (fun h1 J1 m j K X kk => ?_)
        · rw [hr] at hx; cases hx; exact kk h2 fo
        · rw [hr] at hx; cases hx
        · have e9 : ∀ x, 44 ≤ x → x < 107 → gI h1 x = gI h x := fun x z1 z2 => (fr_m b m.2.1 (by omega) z1 z2).1
          refine m_form (nf := nf) (w0 := w0) m.1.2.1 (tM e9) (by rw [e9 44 (by decide) (by decide)]; exact F.2.1.1) n6 (by rw [e9 44 (by decide) (by decide)]; exact t1) t2 (fun z => absurd c6 z) (fun _ q' I' J' hx ff => ?_) (fun _ cnt w st q' I' J' hx => ?_)
          · rw [hr] at hx; cases hx
            refine kk _ ?_ ?_ ⟨A, o, E, Cn, nf, 0, pf_no b F l12 t1 t2 t3 t4 m j ff⟩
            · rw [gIh, uI_nj _ _ _ _ (by decide), uI_nj _ _ _ _ (by decide), ff.2.1 0 (by decide) (by decide) (by decide) (by decide) (by decide) (by decide), uI_same]
            · show J' 107 = J1 107
              exact ff.2.2.2.2.2 107 (by decide) (by decide)
          · rw [hr] at hx; cases hx
      | some rs =>
        obtain ⟨cnt, st⟩ := rs
        refine Pr_ok (nI nf) (fun h1 => ∃ A2 o2, frmN h h1 A A2 o o2 nf L st cnt) (fun K X kk => c_form b F.1 n6 tC (fun z => absurd c6 z) (fun _ q' h2 hx => ?_) (fun _ cnt' st' q' h2 A2 o2 hx fo => ?_)) (fun h1 J1 m j K X kk => ?_)
        · rw [hr] at hx; cases hx
        · rw [hr] at hx; cases hx; exact kk h2 ⟨A2, o2, fo⟩
        · obtain ⟨A2, o2, fo⟩ := m
          have e9 : ∀ x, 44 ≤ x → x < 107 → gI h1 x = gI h x := fun x z1 z2 => (fr_m b fo.1.2.2 (by omega) z1 z2).1
          refine m_form (nf := nf) (w0 := w0) fo.1.1.2.1 (tM e9) (by rw [e9 44 (by decide) (by decide)]; exact F.2.1.1) n6 (by rw [e9 44 (by decide) (by decide)]; exact t1) t2 (fun z => absurd c6 z) (fun _ q' I' J' hx => ?_) (fun _ cnt' w st' q' I' J' hx md hw hw0 ff => ?_)
          · rw [hr] at hx; cases hx
          · rw [hr] at hx; cases hx
            refine kk _ ?_ ?_ ⟨A2, o2, _, _, nf + 1, 0, pf_ok b F l12 c6 t3 t4 fo j ff md hw hw0⟩
            · rw [gIh, uI_nj _ _ _ _ (by decide), uI_nj _ _ _ _ (by decide), ff.2.1 0 (by decide) (by decide) (by decide) (by decide) (by decide) (by decide), uI_same]
            · show J' 107 = J1 107
              exact ff.2.2.2.2.2 107 (by decide) (by decide)
  · refine Pr_gc (A := A) (C := fun _ => False) 0 4 b (by decide) rfl (fun K X kk => c_form b F.1 n6 tC (fun _ => kk) (fun z => absurd z c6) (fun z => absurd z c6)) (fun g J K X mf e kk => ?_) (fun h2 l => ⟨A, o, E, Cn, nf, L, left_mono l (fun _ w => w.elim) (by simp) (by simp) (by omega) (by omega), FormA_left b F l (fun w => w) (by simp) (by simp), TapeA_left b ⟨⟨tp1, tp2, l12⟩, tp3⟩ l (fun w => w) (by simp) (by simp), ThA_left T0 l (by simp) (by simp), Nat.le_refl _, fun f hf => ⟨rfl, rfl, rfl, fV_of (fun a z => l.2.2.1.1 a (by omega) (by omega) (by simp))⟩⟩)
    refine m_form (nf := nf) (w0 := w0) (B := gI h 52) (L := L) mf ⟨by rw [e 44 (by decide) (by decide)]; exact tp2, l12, fun k hk => by rw [e 52 (by decide) (by decide)]; exact ⟨rfl, (tp3 k hk).2⟩⟩ (by rw [e 44 (by decide) (by decide)]; exact F.2.1.1) n6 (by rw [e 44 (by decide) (by decide)]; exact t1) t2 (fun _ => kk) (fun z => absurd z c6) (fun z => absurd z c6)
end PFR
