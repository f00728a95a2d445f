/-! IMPUTE: a record is filled, on both sides -/
section FIL
variable {d f r k n p nr nf ns U nu : Nat} {h g : aH} {A o : Nat → Nat} {X : Nat → aH → Prop} {M I0 I I1 I2 : Nat → Nat → Int32} {J J2 : Nat → Nat → Int64} {S mk : Int32} {dn : Nat → Int32} {E : Nat → Nat → List Tm} {Cn : Nat → Nat → List Cmp}
/-- the numbers and marks that a record has afterwards -/
abbrev nwI (M : Nat → Nat → Int32) (E : Nat → Nat → List Tm) (Cn : Nat → Nat → List Cmp) (r : Nat) (S : Int32) (dn : Nat → Int32) : Nat → Int32 := ltI (soM M (fR M r)) (E (fR M r)) (Cn (fR M r)) (rgM M (sR M r)) (mixN S dn (itM M r) (cnM M (fR M r))) (cnM M (fR M r))
def nwK (M : Nat → Nat → Int32) (r : Nat) (S mk : Int32) (i : Nat) : Int32 := if i < cnM M (fR M r) ∧ gB S i = true then mk else M 80 (20 * r + i)
/-- only the editor and one record change -/
def gFr (h : aH) (A : Nat → Nat) (r : Nat) (I : Nat → Nat → Int32) : Prop := ∀ c, c ≠ 32 → c ≠ 33 → c ≠ A (bR r + 1) → c ≠ A (bR r + 2) → I c = gI h c
theorem R_ne2 {k i j : Nat} (t : TR h A o r) (t' : TR h A o k) (hi : i < 3) (hj : j < 3) (hne : k ≠ r) : A (bR k + j) ≠ A (bR r + i) := by
  obtain ⟨k1, v1⟩ := vR_j t hi
  obtain ⟨k2, v2⟩ := vR_j t' hj
  exact liv_ne v2 v1 (by unfold bR; omega)
theorem S_ne_R {k i j : Nat} (t : TR h A o r) (t' : TS h A o k) (hi : i < 3) (hj : j < 5) (k60 : k ≤ 60) (r60 : r ≤ 60) : A (bS k + j) ≠ A (bR r + i) := by
  obtain ⟨k1, v1⟩ := vR_j t hi
  obtain ⟨k2, v2⟩ := vS_j t' hj
  exact liv_ne v2 v1 (by unfold bR bS; omega)
theorem c_fillr {K : aH → Prop} (b : base h o) (F : FormA h A o (gI h) E Cn nf) (Sa : SessA h A o (gI h) E Cn nf ns U) (R : RecA h A o (gI h) nf ns nr) (hr : r < nr) (s : eFr h I) (hnu : nu = 33 ∨ ∃ k, k < nr ∧ k ≠ r ∧ nu = A (bR k + 1)) (hdn : ∀ i, i < cnM (gI h) (fR (gI h) r) → gB S i = true → I nu i = dn i ∧ ((dn i).toInt = -2000000 ∨ (-1000000 ≤ (dn i).toInt ∧ (dn i).toInt ≤ 1000000)))
    (kk : ∀ I1, gFr h A r I1 → (∀ i, i < 20 → I1 (A (bR r + 1)) i = nwI (gI h) E Cn r S dn i) → (∀ i, i < 20 → I1 (A (bR r + 2)) i = nwK (gI h) r S mk i) → K (hU h I1 (gJ h))) : CV (d + 4) 218 [vR (A (bR r)), vI S, vR nu, vI mk] (hU h I (gJ h)) K X := by
  obtain ⟨t, ⟨r2, r3, r4, r5⟩, ⟨r6, r7, r8⟩, r9, r10⟩ := R.2.2 r hr
  have h60 := R.2.1.2
  have n6 := F.2.1.2
  have n60 := Sa.2.1.2
  obtain ⟨fc, fm, fb, ak, fr9⟩ := F.2.2 _ r5
  obtain ⟨s1, -, -, -, ⟨s8, s9⟩, -⟩ := Sa.2.2.1 _ r3
  have o3 := b.2.2
  have tf := fc.1
  have q1 := eR_out (j := 1) o3 t (by omega) (by omega)
  have q2 := eR_out (j := 2) o3 t (by omega) (by omega)
  have sn : ∀ c l kd, liv h A o l kd → (c = 32 ∨ c = 33) → l / 1000000 ≠ 4 → A l ≠ c := fun c l kd v hc hl e => by
    have := v.1
    rw [e] at this
    rcases hc with hc | hc
    · rw [hc, ol_32 o3] at this; omega
    · rw [hc, ol_33 o3] at this; omega
  have es : ∀ l kd, liv h A o l kd → l / 1000000 ≠ 4 → I (A l) = gI h (A l) := fun l kd v hl => s _ (sn 32 l kd v (Or.inl rfl) hl) (sn 33 l kd v (Or.inr rfl) hl)
  have fc2 : fmC (hU h I (gJ h)) A o (fR (gI h) r) (cnM (gI h) (fR (gI h) r)) (soM (gI h) (fR (gI h) r)) (E (fR (gI h) r)) (Cn (fR (gI h) r)) := fmC_hU (fun j hj => by
    obtain ⟨kd, v⟩ := vF_j tf hj
    exact es _ _ v (by unfold bF; omega)) fc
  have eS : I (A (bS (sR (gI h) r) + 1)) = gI h (A (bS (sR (gI h) r) + 1)) := es _ _ (vS_1 s1) (by unfold bS; omega)
  have e1 : I (A (bR r + 1)) = gI h (A (bR r + 1)) := es _ _ (vR_1 t) (by unfold bR; omega)
  have e2 : I (A (bR r + 2)) = gI h (A (bR r + 2)) := es _ _ (vR_2 t) (by unfold bR; omega)
  have nk : gK (hU h I (gJ h)) nu = 100 ∧ gL (hU h I (gJ h)) nu = 20 ∧ nu ≠ A (bR r + 1) ∧ nu ≠ A (bR r + 2) := by
    rcases hnu with e | ⟨k, k1, k2, k3⟩
    · rw [e]; exact ⟨ck_33 b.1, cl_33 b.1, fun z => q1.2 z.symm, fun z => q2.2 z.symm⟩
    · have tk := (R.2.2 k k1).1
      rw [k3]; exact ⟨kR_1 tk, lR_1 tk, R_ne2 t tk (by omega) (by omega) k2, R_ne2 t tk (by omega) (by omega) k2⟩
  refine c_change (d := d) (h := hU h I (gJ h)) (ri := A (bS (sR (gI h) r) + 1)) (rg := rgM (gI h) (sR (gI h) r)) (it := itM (gI h) r) (dn := dn) fc2 t (by omega) r6 r8 ⟨kS_1 s1, lS_1 s1, S_ne_R t s1 (by omega) (by omega) (by omega) (by omega), S_ne_R t s1 (by omega) (by omega) (by omega) (by omega)⟩ (fun i hi => by rw [gIh, eS]; exact s8 i hi) s9 (fun i hi => by rw [gIh, e1]; exact (r9 i hi).1) r10.1 nk (fun i hi hS => by rw [gIh]; exact hdn i hi hS) (fun I1 z1 z2 z3 => ?_)
  refine kk I1 (fun c h1 h2 h3 h4 => ?_) z2 (fun i hi => ?_)
  · rw [z1 c h3 h4, gIh]; exact s c h1 h2
  · rw [z3 i hi, gIh, e2, (r9 i hi).2]; rfl
/-- what the model's filling leaves -/
def hFr (r : Nat) (I0 I : Nat → Nat → Int32) : Prop := (∀ a, a ≠ 44 → a ≠ 65 → a ≠ 66 → a ≠ 79 → a ≠ 80 → I a = I0 a) ∧ (∀ j, j ≠ 36 → j ≠ 37 → I 44 j = I0 44 j) ∧ ∀ j, j < 20 * r ∨ 20 * r + 20 ≤ j → I 79 j = I0 79 j ∧ I 80 j = I0 80 j
theorem m_fill {K : Int32 → aH → Prop} {dI : Int32} (mf : MF g) (F : FormA h A o M E Cn nf) (R : RecA h A o M nf ns nr) (hn : ns ≤ 60) (hr : r < nr) (s : tFr M I0)
    (hd : (dI.toInt = -1 ∧ ∀ i, i < cnM M (fR M r) → gB S i = true → I0 85 i = dn i) ∨ ∃ k, k < nr ∧ k ≠ r ∧ dI = nI k ∧ ∀ i, i < cnM M (fR M r) → gB S i = true → itM M k i = dn i)
    (kk : ∀ I1, hFr r I0 I1 → (∀ i, i < 20 → I1 79 (20 * r + i) = nwI M E Cn r S dn i) → (∀ i, i < 20 → I1 80 (20 * r + i) = nwK M r S (if dI.toInt = -1 then 1 else 2) i) → K (nI (cntB S (cnM M (fR M r)))) (hU g I1 J)) :
    Wp (d + 4) 227 (164, [some (vR 44), some (vI (nI r)), none, some (vI (nI (fR M r))), some (vI S), some (vI dI), some (vI 0), some (vI 0)], [], hU g I0 J) (RI K X) := by
  obtain ⟨t, ⟨r2, r3, r4, r5⟩, ⟨r6, r7, r8⟩, r9, r10⟩ := R.2.2 r hr
  have h60 := R.2.1.2
  have n6 := F.2.1.2
  obtain ⟨fc, fm, fb, ak, fr9⟩ := F.2.2 _ r5
  have c20 := fm.1.2.1
  have FO := fun I (e78 : I 78 = M 78) (e67 : I 67 = M 67) (K : Int32 → aH → Prop) X => @formOf_br (d + 2) nf ns nr r h g A o X M I J K mf R hr hn e78 e67
  refine m_put (d := d + 3) (dn := dn) (it := itM M r) mf (by omega) (by omega) c20 (by rw [s 53 (by decide) (by decide)]; exact fm.1.1) (fun i hi => by rw [s 79 (by decide) (by decide)]; unfold itM; rw [if_pos hi]) ?_ (fun I1 z1 z2 z3 => ?_)
  · rcases hd with q | ⟨k, k1, k2, k3, k4⟩
    · exact Or.inl q
    · refine Or.inr ⟨k, by omega, k2, k3, fun i hi hS => ?_⟩
      have := k4 i hi hS
      unfold itM at this
      rw [if_pos (by omega)] at this
      rw [s 79 (by decide) (by decide)]; exact this
  · have e1 : ∀ a, 53 ≤ a → a < 79 → I1 a = M a := fun a h1 h2 => by rw [z1.1 a (by omega) (by omega)]; exact s a h1 (by omega)
    refine m_lets (d := d) (sr := sR M r) (rg := rgM M (sR M r)) (it := mixN S dn (itM M r) (cnM M (fR M r))) mf (by omega) (by omega) (fmM_cg (fun a h1 h2 => e1 a h1 (by omega)) fm) (by rw [e1 78 (by decide) (by decide)]; exact r2) (fun i hi => by rw [e1 69 (by decide) (by decide)]; unfold rgM; rw [if_pos hi]) z2 (FO I1 (e1 78 (by decide) (by decide)) (e1 67 (by decide) (by decide))) (fun I2 y1 y2 => ?_)
    refine kk I2 ⟨fun a h1 h2 h3 h4 h5 => ?_, fun j h1 h2 => ?_, fun j hj => ⟨?_, ?_⟩⟩ y2 (fun i hi => ?_)
    · rw [y1.1 a h1 h2 h3 h4, z1.1 a h4 h5]
    · rw [y1.2.1 j h1 h2, z1.1 44 (by decide) (by decide)]
    · rw [y1.2.2 j hj, (z1.2 j hj).1]
    · rw [y1.1 80 (by decide) (by decide) (by decide) (by decide), (z1.2 j hj).2]
    · rw [y1.1 80 (by decide) (by decide) (by decide) (by decide), z3 i hi, s 80 (by decide) (by decide)]; rfl
/-- one record changes -/
theorem RecA_set (b : base h o) (F : FormA h A o (gI h) E Cn nf) (R : RecA h A o (gI h) nf ns nr) (hr : r < nr) (s : gFr h A r I1) (hC : ∀ a, ¬ (44 ≤ a ∧ a ≤ 107) → I2 a = I1 a) (m : ∀ a, (53 ≤ a ∧ a ≤ 78) → a ≠ 65 → a ≠ 66 → I2 a = gI h a) (m53 : I2 44 53 = gI h 44 53) (ot : ∀ j, j < 20 * r ∨ 20 * r + 20 ≤ j → I2 79 j = gI h 79 j ∧ I2 80 j = gI h 80 j)
    (own : ∀ i, i < 20 → I1 (A (bR r + 1)) i = I2 79 (20 * r + i) ∧ I1 (A (bR r + 2)) i = I2 80 (20 * r + i)) (v : itV (gI h) (fR (gI h) r) (fun i => if i < 20 then I2 79 (20 * r + i) else -2000000)) : RecA (hU h I2 J2) A o I2 nf ns nr := by
  obtain ⟨f1, f2, f3⟩ := R
  have hN := b.1.1
  have n6 := F.2.1.2
  have o3 := b.2.2
  have t := (f3 r hr).1
  have h60 := f2.2
  have ne36 : ∀ j, j < 3 → (36 : Nat) ≠ A (bR r + j) := fun j hj e => by
    obtain ⟨kd, v⟩ := vR_j t hj
    have := v.1
    rw [← e, ol_36 o3] at this
    unfold bR at this
    omega
  have i36 : I2 36 = gI h 36 := by rw [hC 36 (by omega), s 36 (by decide) (by decide) (ne36 1 (by omega)) (ne36 2 (by omega))]
  have fv : ∀ f, f < nf → fV (gI h) I2 f ∧ cnM (gI h) f ≤ 20 := fun f hf => ⟨fV_of fun a q => m a (by omega) (by omega) (by omega), (cn_of F f hf).2⟩
  refine ⟨?_, ⟨by rw [m53]; exact f2.1, f2.2⟩, fun k hk => ?_⟩
  · obtain ⟨l1, ⟨l2, l3⟩, l4, l5⟩ := f1
    exact ⟨l1, ⟨by rw [gIh, i36]; exact l2, l3⟩, l4, l5⟩
  · have S' := f3 k hk
    have out := fun j (hj : j < 3) => eR_out (j := j) o3 S'.1 (by omega) hj
    have lo : ∀ j, j < 3 → ¬ (44 ≤ A (bR k + j) ∧ A (bR k + j) ≤ 107) := fun j hj => by
      obtain ⟨kd, v⟩ := vR_j S'.1 hj
      exact lab_out b v (by unfold bR; omega)
    by_cases e : k = r
    · subst e
      obtain ⟨-, ⟨r2, r3, r4, r5⟩, ⟨r6, r7, r8⟩, r9, r10⟩ := S'
      have es : sR I2 k = sR (gI h) k := by unfold sR; rw [m 78 (by omega) (by omega) (by omega)]
      have ef : fR I2 k = fR (gI h) k := by unfold fR fS; rw [es, m 67 (by omega) (by omega) (by omega)]
      have ei : itM I2 k = fun i => if i < 20 then I2 79 (20 * k + i) else -2000000 := rfl
      obtain ⟨n21, n01, n02⟩ := R_ne12 t
      have i0 : I2 (A (bR k)) = gI h (A (bR k)) := (hC _ (lo 0 (by omega))).trans (s _ (out 0 (by omega)).1 (out 0 (by omega)).2 n01 n02)
      refine ⟨t, ⟨by rw [es, m 78 (by omega) (by omega) (by omega)]; exact r2, by rw [es]; exact r3, by rw [es, ef, m 67 (by omega) (by omega) (by omega)]; exact r4, by rw [ef]; exact r5⟩, ⟨by rw [ef]; exact r6, by rw [es, gIh, i0, m 68 (by omega) (by omega) (by omega)]; exact r7, by rw [es]; exact r8⟩, fun i hi => ?_, ?_⟩
      · rw [gIh, hC _ (lo 1 (by omega)), hC _ (lo 2 (by omega)), (own i hi).1, (own i hi).2]
        unfold itM
        rw [if_pos hi]
        exact ⟨rfl, rfl⟩
      · rw [ef, ei]; exact itV_cg (fv _ r5).1 (fv _ r5).2 v
    · refine recOK_cg S' S'.1 (fun j hj => ?_) rfl (fun _ _ => rfl) (fun _ _ => rfl) (Nat.le_refl _) (Nat.le_refl _) fv (fun k' _ => by rw [m 67 (by omega) (by omega) (by omega), m 68 (by omega) (by omega) (by omega)]; exact ⟨rfl, rfl⟩) ⟨by rw [m 78 (by omega) (by omega) (by omega)], fun i hi => ot _ (by omega)⟩
      rw [gIh, hC _ (lo j hj), s _ (out j hj).1 (out j hj).2 (R_ne2 t S'.1 (by omega) hj e) (R_ne2 t S'.1 (by omega) hj e)]
end FIL
