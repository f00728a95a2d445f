/-! FORMS AND SESSIONS: their areas -/
section ARE
variable {d U nf ns : Nat} {h h1 h2 g : aH} {A A1 o o1 : Nat → Nat} {X : Nat → aH → Prop} {M M2 : Nat → Nat → Int32} {I : Nat → Nat → Int32} {J : Nat → Nat → Int64} {C : Nat → Prop} {E : Nat → Nat → List Tm} {Cn : Nat → Nat → List Cmp}
theorem isForm_br {K : Int32 → aH → Prop} {x : Int32} (f : MF g) (hp : 0 ≤ (I 44 14).toInt) : CI (d + 1) 124 [vR 44, vI x] (hU g I J) K X ↔ ((0 ≤ x.toInt ∧ x.toInt < (I 44 14).toInt → K 1 (hU g I J)) ∧ (¬ (0 ≤ x.toInt ∧ x.toInt < (I 44 14).toInt) → K 0 (hU g I J))) := by
  have hi := ti_hi (I 44 14)
  have e1 : (1 : Int32).toInt = 1 := rfl
  have hu : ((I 44 14) - 1).toInt64.toInt = (I 44 14).toInt - 1 := by rw [tl_i, ti_sub (by omega) (by omega)]; omega
  have hx : x.toInt64.toInt = x.toInt := tl_i x
  have e0 : (0 : Int64).toInt = 0 := rfl
  have H : ∀ (K : Int32 → aH → Prop) (X : Nat → aH → Prop), ((0 ≤ x.toInt ∧ x.toInt < (I 44 14).toInt → K 1 (hU g I J)) ∧ (¬ (0 ≤ x.toInt ∧ x.toInt < (I 44 14).toInt) → K 0 (hU g I J))) → CI (d + 1) 124 [vR 44, vI x] (hU g I J) K X := fun K X w => by
    have hu' : ((gI (hU g I J) 44 14) - 1).toInt64.toInt = (I 44 14).toInt - 1 := hu
    exact m124 ⟨f.1, cm_isIn (fun a b => ⟨by decide, w.1 (by omega)⟩) (fun q => ⟨by decide, w.2 (by omega)⟩)⟩
  by_cases q : 0 ≤ x.toInt ∧ x.toInt < (I 44 14).toInt
  · rw [bz_t q]; exact CI_iff fun K X w => H K X ((bz_t q).mpr w)
  · rw [bz_f q]; exact CI_iff fun K X w => H K X ((bz_f q).mpr w)
theorem isSession_br {K : Int32 → aH → Prop} {x : Int32} (f : MF g) (hp : 0 ≤ (I 44 38).toInt) : CI (d + 1) 145 [vR 44, vI x] (hU g I J) K X ↔ ((0 ≤ x.toInt ∧ x.toInt < (I 44 38).toInt → K 1 (hU g I J)) ∧ (¬ (0 ≤ x.toInt ∧ x.toInt < (I 44 38).toInt) → K 0 (hU g I J))) := by
  have hi := ti_hi (I 44 38)
  have e1 : (1 : Int32).toInt = 1 := rfl
  have hu : ((I 44 38) - 1).toInt64.toInt = (I 44 38).toInt - 1 := by rw [tl_i, ti_sub (by omega) (by omega)]; omega
  have hx : x.toInt64.toInt = x.toInt := tl_i x
  have e0 : (0 : Int64).toInt = 0 := rfl
  have H : ∀ (K : Int32 → aH → Prop) (X : Nat → aH → Prop), ((0 ≤ x.toInt ∧ x.toInt < (I 44 38).toInt → K 1 (hU g I J)) ∧ (¬ (0 ≤ x.toInt ∧ x.toInt < (I 44 38).toInt) → K 0 (hU g I J))) → CI (d + 1) 145 [vR 44, vI x] (hU g I J) K X := fun K X w => by
    have hu' : ((gI (hU g I J) 44 38) - 1).toInt64.toInt = (I 44 38).toInt - 1 := hu
    exact m145 ⟨f.1, cm_isIn (fun a b => ⟨by decide, w.1 (by omega)⟩) (fun q => ⟨by decide, w.2 (by omega)⟩)⟩
  by_cases q : 0 ≤ x.toInt ∧ x.toInt < (I 44 38).toInt
  · rw [bz_t q]; exact CI_iff fun K X w => H K X ((bz_t q).mpr w)
  · rw [bz_f q]; exact CI_iff fun K X w => H K X ((bz_f q).mpr w)
theorem isSample_br {K : Int32 → aH → Prop} {x : Int32} (f : MF g) (hp : 0 ≤ (I 44 64).toInt) : CI (d + 1) 246 [vR 44, vI x] (hU g I J) K X ↔ ((0 ≤ x.toInt ∧ x.toInt < (I 44 64).toInt → K 1 (hU g I J)) ∧ (¬ (0 ≤ x.toInt ∧ x.toInt < (I 44 64).toInt) → K 0 (hU g I J))) := by
  have hi := ti_hi (I 44 64)
  have e1 : (1 : Int32).toInt = 1 := rfl
  have hu : ((I 44 64) - 1).toInt64.toInt = (I 44 64).toInt - 1 := by rw [tl_i, ti_sub (by omega) (by omega)]; omega
  have hx : x.toInt64.toInt = x.toInt := tl_i x
  have e0 : (0 : Int64).toInt = 0 := rfl
  have H : ∀ (K : Int32 → aH → Prop) (X : Nat → aH → Prop), ((0 ≤ x.toInt ∧ x.toInt < (I 44 64).toInt → K 1 (hU g I J)) ∧ (¬ (0 ≤ x.toInt ∧ x.toInt < (I 44 64).toInt) → K 0 (hU g I J))) → CI (d + 1) 246 [vR 44, vI x] (hU g I J) K X := fun K X w => by
    have hu' : ((gI (hU g I J) 44 64) - 1).toInt64.toInt = (I 44 64).toInt - 1 := hu
    exact m246 ⟨f.1, cm_isIn (fun a b => ⟨by decide, w.1 (by omega)⟩) (fun q => ⟨by decide, w.2 (by omega)⟩)⟩
  by_cases q : 0 ≤ x.toInt ∧ x.toInt < (I 44 64).toInt
  · rw [bz_t q]; exact CI_iff fun K X w => H K X ((bz_t q).mpr w)
  · rw [bz_f q]; exact CI_iff fun K X w => H K X ((bz_f q).mpr w)
theorem isTable_br {K : Int32 → aH → Prop} {x : Int32} (f : MF g) (hp : 0 ≤ (I 44 69).toInt) : CI (d + 1) 274 [vR 44, vI x] (hU g I J) K X ↔ ((0 ≤ x.toInt ∧ x.toInt < (I 44 69).toInt → K 1 (hU g I J)) ∧ (¬ (0 ≤ x.toInt ∧ x.toInt < (I 44 69).toInt) → K 0 (hU g I J))) := by
  have hi := ti_hi (I 44 69)
  have e1 : (1 : Int32).toInt = 1 := rfl
  have hu : ((I 44 69) - 1).toInt64.toInt = (I 44 69).toInt - 1 := by rw [tl_i, ti_sub (by omega) (by omega)]; omega
  have hx : x.toInt64.toInt = x.toInt := tl_i x
  have e0 : (0 : Int64).toInt = 0 := rfl
  have H : ∀ (K : Int32 → aH → Prop) (X : Nat → aH → Prop), ((0 ≤ x.toInt ∧ x.toInt < (I 44 69).toInt → K 1 (hU g I J)) ∧ (¬ (0 ≤ x.toInt ∧ x.toInt < (I 44 69).toInt) → K 0 (hU g I J))) → CI (d + 1) 274 [vR 44, vI x] (hU g I J) K X := fun K X w => by
    have hu' : ((gI (hU g I J) 44 69) - 1).toInt64.toInt = (I 44 69).toInt - 1 := hu
    exact m274 ⟨f.1, cm_isIn (fun a b => ⟨by decide, w.1 (by omega)⟩) (fun q => ⟨by decide, w.2 (by omega)⟩)⟩
  by_cases q : 0 ≤ x.toInt ∧ x.toInt < (I 44 69).toInt
  · rw [bz_t q]; exact CI_iff fun K X w => H K X ((bz_t q).mpr w)
  · rw [bz_f q]; exact CI_iff fun K X w => H K X ((bz_f q).mpr w)
theorem CRx_iff {k x : Nat} {as : List aV} {K : Nat → aH → Prop} (H : ∀ (K : Nat → aH → Prop) (X : Nat → aH → Prop), X x h1 → CR d k as h K X) : CR d k as h K X ↔ X x h1 := by
  refine ⟨fun ⟨m, r', e1, e2⟩ => ?_, H K X⟩
  obtain ⟨n, r, hr, hq⟩ := H (fun _ _ => False) (fun x' h' => x' = x ∧ h' = h1) ⟨rfl, rfl⟩
  cases aRun_det hr e1
  rcases hq with ⟨_, _, w⟩ | ⟨x', q1, q2, q3⟩
  · exact w.elim
  · subst q2; subst q3
    rcases e2 with ⟨_, p1, _⟩ | ⟨x9, p1, p2⟩
    · rw [q1] at p1; cases p1
    · rw [q1] at p1; cases p1; exact p2
theorem formAt_br {n : Nat} {K : Nat → aH → Prop} {x : Int32} (b : base h o) (L : listT h A o 34 5 n 3) : CR (d + 3) 120 [vR 8, vI x] h K X ↔ ((0 ≤ x.toInt ∧ x.toInt < n → K (A (bF x.toInt.toNat)) h) ∧ (¬ (0 ≤ x.toInt ∧ x.toInt < n) → X 3 (gNew h 200 6))) := by
  have hn : (nI n).toInt = n := ti_n (by have := L.2.1.2.1; omega)
  have e0 := cr_8_4 b.1
  have H : ∀ (K : Nat → aH → Prop) (X : Nat → aH → Prop), ((0 ≤ x.toInt ∧ x.toInt < n → K (A (bF x.toInt.toNat)) h) ∧ (¬ (0 ≤ x.toInt ∧ x.toInt < n) → X 3 (gNew h 200 6))) → CR (d + 3) 120 [vR 8, vI x] h K X := fun K X w => by
    refine m120 ?_
    simp only [e0]
    refine ⟨ck_8 b.1, by decide, L.1.1, ?_⟩
    refine (lsize_br L).mpr (c_needIndex (fun q1 q2 => ?_) (fun q => w.2 (by rw [hn] at q; exact q)))
    simp only [e0]
    refine ⟨ck_8 b.1, by decide, L.1.1, ?_⟩
    rw [hn] at q2
    refine (lget_br L ⟨q1, q2⟩).mpr ?_
    have lv := (L.2.2.2 x.toInt.toNat (by omega)).2
    exact ⟨Or.inr lv.2.2.2, w.1 ⟨q1, q2⟩⟩
  by_cases q : 0 ≤ x.toInt ∧ x.toInt < n
  · rw [bz_t q]; exact CR_iff fun K X w => H K X ((bz_t q).mpr w)
  · rw [bz_f q]; exact CRx_iff fun K X w => H K X ((bz_f q).mpr w)
theorem sessionAt_br {n : Nat} {K : Nat → aH → Prop} {x : Int32} (b : base h o) (L : listT h A o 35 6 n 10) : CR (d + 3) 140 [vR 8, vI x] h K X ↔ ((0 ≤ x.toInt ∧ x.toInt < n → K (A (bS x.toInt.toNat)) h) ∧ (¬ (0 ≤ x.toInt ∧ x.toInt < n) → X 3 (gNew h 200 6))) := by
  have hn : (nI n).toInt = n := ti_n (by have := L.2.1.2.1; omega)
  have e0 := cr_8_5 b.1
  have H : ∀ (K : Nat → aH → Prop) (X : Nat → aH → Prop), ((0 ≤ x.toInt ∧ x.toInt < n → K (A (bS x.toInt.toNat)) h) ∧ (¬ (0 ≤ x.toInt ∧ x.toInt < n) → X 3 (gNew h 200 6))) → CR (d + 3) 140 [vR 8, vI x] h K X := fun K X w => by
    refine m140 ?_
    simp only [e0]
    refine ⟨ck_8 b.1, by decide, L.1.1, ?_⟩
    refine (lsize_br L).mpr (c_needIndex (fun q1 q2 => ?_) (fun q => w.2 (by rw [hn] at q; exact q)))
    simp only [e0]
    refine ⟨ck_8 b.1, by decide, L.1.1, ?_⟩
    rw [hn] at q2
    refine (lget_br L ⟨q1, q2⟩).mpr ?_
    have lv := (L.2.2.2 x.toInt.toNat (by omega)).2
    exact ⟨Or.inr lv.2.2.2, w.1 ⟨q1, q2⟩⟩
  by_cases q : 0 ≤ x.toInt ∧ x.toInt < n
  · rw [bz_t q]; exact CR_iff fun K X w => H K X ((bz_t q).mpr w)
  · rw [bz_f q]; exact CRx_iff fun K X w => H K X ((bz_f q).mpr w)
theorem recordAt_br {n : Nat} {K : Nat → aH → Prop} {x : Int32} (b : base h o) (L : listT h A o 36 7 n 5) : CR (d + 3) 172 [vR 8, vI x] h K X ↔ ((0 ≤ x.toInt ∧ x.toInt < n → K (A (bR x.toInt.toNat)) h) ∧ (¬ (0 ≤ x.toInt ∧ x.toInt < n) → X 3 (gNew h 200 6))) := by
  have hn : (nI n).toInt = n := ti_n (by have := L.2.1.2.1; omega)
  have e0 := cr_8_6 b.1
  have H : ∀ (K : Nat → aH → Prop) (X : Nat → aH → Prop), ((0 ≤ x.toInt ∧ x.toInt < n → K (A (bR x.toInt.toNat)) h) ∧ (¬ (0 ≤ x.toInt ∧ x.toInt < n) → X 3 (gNew h 200 6))) → CR (d + 3) 172 [vR 8, vI x] h K X := fun K X w => by
    refine m172 ?_
    simp only [e0]
    refine ⟨ck_8 b.1, by decide, L.1.1, ?_⟩
    refine (lsize_br L).mpr (c_needIndex (fun q1 q2 => ?_) (fun q => w.2 (by rw [hn] at q; exact q)))
    simp only [e0]
    refine ⟨ck_8 b.1, by decide, L.1.1, ?_⟩
    rw [hn] at q2
    refine (lget_br L ⟨q1, q2⟩).mpr ?_
    have lv := (L.2.2.2 x.toInt.toNat (by omega)).2
    exact ⟨Or.inr lv.2.2.2, w.1 ⟨q1, q2⟩⟩
  by_cases q : 0 ≤ x.toInt ∧ x.toInt < n
  · rw [bz_t q]; exact CR_iff fun K X w => H K X ((bz_t q).mpr w)
  · rw [bz_f q]; exact CRx_iff fun K X w => H K X ((bz_f q).mpr w)
theorem sampleAt_br {n : Nat} {K : Nat → aH → Prop} {x : Int32} (b : base h o) (L : listT h A o 37 8 n 9) : CR (d + 3) 242 [vR 8, vI x] h K X ↔ ((0 ≤ x.toInt ∧ x.toInt < n → K (A (bM x.toInt.toNat)) h) ∧ (¬ (0 ≤ x.toInt ∧ x.toInt < n) → X 3 (gNew h 200 6))) := by
  have hn : (nI n).toInt = n := ti_n (by have := L.2.1.2.1; omega)
  have e0 := cr_8_7 b.1
  have H : ∀ (K : Nat → aH → Prop) (X : Nat → aH → Prop), ((0 ≤ x.toInt ∧ x.toInt < n → K (A (bM x.toInt.toNat)) h) ∧ (¬ (0 ≤ x.toInt ∧ x.toInt < n) → X 3 (gNew h 200 6))) → CR (d + 3) 242 [vR 8, vI x] h K X := fun K X w => by
    refine m242 ?_
    simp only [e0]
    refine ⟨ck_8 b.1, by decide, L.1.1, ?_⟩
    refine (lsize_br L).mpr (c_needIndex (fun q1 q2 => ?_) (fun q => w.2 (by rw [hn] at q; exact q)))
    simp only [e0]
    refine ⟨ck_8 b.1, by decide, L.1.1, ?_⟩
    rw [hn] at q2
    refine (lget_br L ⟨q1, q2⟩).mpr ?_
    have lv := (L.2.2.2 x.toInt.toNat (by omega)).2
    exact ⟨Or.inr lv.2.2.2, w.1 ⟨q1, q2⟩⟩
  by_cases q : 0 ≤ x.toInt ∧ x.toInt < n
  · rw [bz_t q]; exact CR_iff fun K X w => H K X ((bz_t q).mpr w)
  · rw [bz_f q]; exact CRx_iff fun K X w => H K X ((bz_f q).mpr w)
theorem tableAt_br {n : Nat} {K : Nat → aH → Prop} {x : Int32} (b : base h o) (L : listT h A o 38 9 n 11) : CR (d + 3) 267 [vR 8, vI x] h K X ↔ ((0 ≤ x.toInt ∧ x.toInt < n → K (A (bT x.toInt.toNat)) h) ∧ (¬ (0 ≤ x.toInt ∧ x.toInt < n) → X 3 (gNew h 200 6))) := by
  have hn : (nI n).toInt = n := ti_n (by have := L.2.1.2.1; omega)
  have e0 := cr_8_8 b.1
  have H : ∀ (K : Nat → aH → Prop) (X : Nat → aH → Prop), ((0 ≤ x.toInt ∧ x.toInt < n → K (A (bT x.toInt.toNat)) h) ∧ (¬ (0 ≤ x.toInt ∧ x.toInt < n) → X 3 (gNew h 200 6))) → CR (d + 3) 267 [vR 8, vI x] h K X := fun K X w => by
    refine m267 ?_
    simp only [e0]
    refine ⟨ck_8 b.1, by decide, L.1.1, ?_⟩
    refine (lsize_br L).mpr (c_needIndex (fun q1 q2 => ?_) (fun q => w.2 (by rw [hn] at q; exact q)))
    simp only [e0]
    refine ⟨ck_8 b.1, by decide, L.1.1, ?_⟩
    rw [hn] at q2
    refine (lget_br L ⟨q1, q2⟩).mpr ?_
    have lv := (L.2.2.2 x.toInt.toNat (by omega)).2
    exact ⟨Or.inr lv.2.2.2, w.1 ⟨q1, q2⟩⟩
  by_cases q : 0 ≤ x.toInt ∧ x.toInt < n
  · rw [bz_t q]; exact CR_iff fun K X w => H K X ((bz_t q).mpr w)
  · rw [bz_f q]; exact CRx_iff fun K X w => H K X ((bz_f q).mpr w)
theorem releaseAt_br {n : Nat} {K : Nat → aH → Prop} {x : Int32} (b : base h o) (L : listT h A o 39 10 n 7) : CR (d + 3) 317 [vR 8, vI x] h K X ↔ ((0 ≤ x.toInt ∧ x.toInt < n → K (A (bL x.toInt.toNat)) h) ∧ (¬ (0 ≤ x.toInt ∧ x.toInt < n) → X 3 (gNew h 200 6))) := by
  have hn : (nI n).toInt = n := ti_n (by have := L.2.1.2.1; omega)
  have e0 := cr_8_9 b.1
  have H : ∀ (K : Nat → aH → Prop) (X : Nat → aH → Prop), ((0 ≤ x.toInt ∧ x.toInt < n → K (A (bL x.toInt.toNat)) h) ∧ (¬ (0 ≤ x.toInt ∧ x.toInt < n) → X 3 (gNew h 200 6))) → CR (d + 3) 317 [vR 8, vI x] h K X := fun K X w => by
    refine m317 ?_
    simp only [e0]
    refine ⟨ck_8 b.1, by decide, L.1.1, ?_⟩
    refine (lsize_br L).mpr (c_needIndex (fun q1 q2 => ?_) (fun q => w.2 (by rw [hn] at q; exact q)))
    simp only [e0]
    refine ⟨ck_8 b.1, by decide, L.1.1, ?_⟩
    rw [hn] at q2
    refine (lget_br L ⟨q1, q2⟩).mpr ?_
    have lv := (L.2.2.2 x.toInt.toNat (by omega)).2
    exact ⟨Or.inr lv.2.2.2, w.1 ⟨q1, q2⟩⟩
  by_cases q : 0 ≤ x.toInt ∧ x.toInt < n
  · rw [bz_t q]; exact CR_iff fun K X w => H K X ((bz_t q).mpr w)
  · rw [bz_f q]; exact CRx_iff fun K X w => H K X ((bz_f q).mpr w)
theorem needSt_br {K : aH → Prop} {x : Int32} {F cnt : Nat} (hF : gK h F = 3) (hc : gI h F 11 = nI cnt) (h20 : cnt ≤ 20) : CV (d + 1) 121 [vR 8, vR F, vI x] h K X ↔ ((0 ≤ x.toInt ∧ x.toInt < cnt → K h) ∧ (¬ (0 ≤ x.toInt ∧ x.toInt < cnt) → X 3 (gNew h 200 6))) := by
  have hn : (nI cnt).toInt = cnt := ti_n (by omega)
  have H : ∀ (K : aH → Prop) (X : Nat → aH → Prop), ((0 ≤ x.toInt ∧ x.toInt < cnt → K h) ∧ (¬ (0 ≤ x.toInt ∧ x.toInt < cnt) → X 3 (gNew h 200 6))) → CV (d + 1) 121 [vR 8, vR F, vI x] h K X := fun K X w =>
    m121 ⟨hF, by rw [hc]; exact c_needIndex (fun q1 q2 => w.1 (by omega)) (fun q => w.2 (by omega))⟩
  by_cases q : 0 ≤ x.toInt ∧ x.toInt < cnt
  · rw [bz_t q]; exact CV_iff fun K X w => H K X ((bz_t q).mpr w)
  · rw [bz_f q]; exact CVx_iff fun K X w => H K X ((bz_f q).mpr w)
def cnM (M : Nat → Nat → Int32) (f : Nat) : Nat := (M 53 f).toInt.toNat
def nrM (M : Nat → Nat → Int32) (f : Nat) : Nat := (M 81 f).toInt.toNat
def soM (M : Nat → Nat → Int32) (f s : Nat) : Int32 := if s < 20 then M 54 (20 * f + s) else 0
def akN (so : Nat → Int32) : Nat → Nat
  | 0 => 0
  | n + 1 => akN so n + if (so n).toInt = 0 then 1 else 0
/-- a statement of a rule: none, or an ask -/
def rlA (M : Nat → Nat → Int32) (f : Nat) (a : Int32) : Prop := a = -1 ∨ (0 ≤ a.toInt ∧ a.toInt < cnM M f ∧ (soM M f a.toInt.toNat).toInt = 0)
def formR (h : aH) (A : Nat → Nat) (M : Nat → Nat → Int32) (f : Nat) : Prop := M 81 f = nI (nrM M f) ∧ rowsOK h (A (bF f + 10)) (A (bF f + 11)) 3 16 (nrM M f) ∧ ∀ r, r < nrM M f → (gI h (A (bF f + 11)) (r * 3 + 0) = M 82 (16 * f + r) ∧ gI h (A (bF f + 11)) (r * 3 + 1) = M 83 (16 * f + r) ∧ gI h (A (bF f + 11)) (r * 3 + 2) = M 84 (16 * f + r)) ∧ rlA M f (M 82 (16 * f + r)) ∧ rlA M f (M 83 (16 * f + r)) ∧ M 82 (16 * f + r) ≠ M 83 (16 * f + r) ∧ -2000000 ≤ (M 84 (16 * f + r)).toInt ∧ (M 84 (16 * f + r)).toInt ≤ 2000000
def formB (h : aH) (A : Nat → Nat) (M : Nat → Nat → Int32) (f s : Nat) : Prop := gI h (A (bF f + 4)) s = M 56 (20 * f + s) ∧ gI h (A (bF f + 5)) s = M 57 (20 * f + s) ∧ gI h (A (bF f + 6)) s = M 58 (20 * f + s) ∧ ((soM M f s).toInt = 0 → (-999999 ≤ (M 56 (20 * f + s)).toInt ∧ (M 56 (20 * f + s)).toInt ≤ (M 57 (20 * f + s)).toInt ∧ (M 57 (20 * f + s)).toInt ≤ 999999) ∧ 1 ≤ (M 58 (20 * f + s)).toInt ∧ (M 58 (20 * f + s)).toInt ≤ 100)
def formOK (h : aH) (A o : Nat → Nat) (M : Nat → Nat → Int32) (E : Nat → List Tm) (Cn : Nat → List Cmp) (f : Nat) : Prop := fmC h A o f (cnM M f) (soM M f) E Cn ∧ fmM M f (cnM M f) (soM M f) E Cn ∧ (∀ s, s < cnM M f → formB h A M f s) ∧ akN (soM M f) (cnM M f) ≤ 10 ∧ formR h A M f
def FormA (h : aH) (A o : Nat → Nat) (M : Nat → Nat → Int32) (E : Nat → Nat → List Tm) (Cn : Nat → Nat → List Cmp) (nf : Nat) : Prop := listT h A o 34 5 nf 3 ∧ (M 44 14 = nI nf ∧ nf ≤ 6) ∧ ∀ f, f < nf → formOK h A o M (E f) (Cn f) f
theorem vF_j {f j : Nat} (t : TF h A o f) (hj : j < 12) : ∃ kd, liv h A o (bF f + j) kd := by
  have : ∃ kd ∈ [3, 100, 101, 8], (j, kd) ∈ kF := (show ∀ j : Fin 12, ∃ kd ∈ [3, 100, 101, 8], (j.val, kd) ∈ kF by decide) ⟨j, hj⟩
  obtain ⟨kd, -, hm⟩ := this
  exact ⟨kd, t.1 _ hm⟩
/-- a form is left alone -/
theorem formOK_fr {f : Nat} {E : Nat → List Tm} {Cn : Nat → List Cmp} (fr1 : fr h h2 A A1 o o1 C) (hc : ¬ C 5) (m1 : ∀ a, 53 ≤ a → a ≤ 64 → M2 a = M a) (m2 : ∀ a, 81 ≤ a → a ≤ 84 → M2 a = M a) (F : formOK h A o M E Cn f) : formOK h2 A1 o1 M2 E Cn f := by
  obtain ⟨⟨t, l, ⟨c1, c2, c3⟩, c4⟩, fm, fb, ak, rr, rr2, rr3⟩ := F
  have ii : ∀ j, j < 12 → gI h2 (A1 (bF f + j)) = gI h (A (bF f + j)) ∧ gL h2 (A1 (bF f + j)) = gL h (A (bF f + j)) := fun j hj => by
    obtain ⟨kd, v⟩ := vF_j t hj
    have := iF_fr fr1 hc c3 (by omega) v
    exact ⟨this.1, this.2.2.2⟩
  have i0 : gI h2 (A1 (bF f)) = gI h (A (bF f)) := (ii 0 (by omega)).1
  have ecn : cnM M2 f = cnM M f := by unfold cnM; rw [m1 53 (by omega) (by omega)]
  have enr : nrM M2 f = nrM M f := by unfold nrM; rw [m2 81 (by omega) (by omega)]
  have eso : soM M2 f = soM M f := by unfold soM; rw [m1 54 (by omega) (by omega)]
  have e10 := AF_fr fr1 hc c3 (j := 10) (by omega)
  have e11 := AF_fr fr1 hc c3 (j := 11) (by omega)
  have v10 := vF_10 t
  have hz : ∀ j, j < 12 → (bF f + j) / 1000000 = 5 := fun j hj => by unfold bF; omega
  refine ⟨⟨TF_fr fr1 hc c3 t, ?_, ⟨?_, by rw [ecn]; exact c2, c3⟩, fun s hs => ?_⟩, ?_, fun s hs => ?_, ?_, ?_, ?_, fun r hr => ?_⟩
  · unfold lenT
    rw [(ii 2 (by omega)).2, (ii 1 (by omega)).2]
    exact l
  · rw [i0, ecn]; exact c1
  · rw [ecn] at hs
    obtain ⟨q1, q2, q3⟩ := c4 s hs
    rw [(ii 3 (by omega)).1, eso]
    refine ⟨q1, ?_, q3⟩
    unfold stC
    rw [(ii 8 (by omega)).1, (ii 9 (by omega)).1, (ii 1 (by omega)).1, (ii 2 (by omega)).1, (ii 1 (by omega)).2]
    exact q2
  · rw [ecn, eso]; exact fmM_cg m1 fm
  · rw [ecn] at hs
    unfold formB
    rw [(ii 4 (by omega)).1, (ii 5 (by omega)).1, (ii 6 (by omega)).1, m1 56 (by omega) (by omega), m1 57 (by omega) (by omega), m1 58 (by omega) (by omega), eso]
    exact fb s hs
  · rw [ecn, eso]; exact ak
  · rw [enr, m2 81 (by omega) (by omega)]; exact rr
  · rw [enr, e10, e11]
    refine rows_keeps rr2 fr1.1 ?_
    show ¬ C (o (A (bF f + 10)) / 1000000)
    rw [v10.1, hz 10 (by omega)]; exact hc
  · rw [enr] at hr
    rw [(ii 11 (by omega)).1, m2 82 (by omega) (by omega), m2 83 (by omega) (by omega), m2 84 (by omega) (by omega)]
    unfold rlA
    rw [ecn, eso]
    exact rr3 r hr
theorem FormA_fr (b : base h o) (F : FormA h A o M E Cn nf) (fr1 : fr h h2 A A1 o o1 C) (hc : ¬ C 5) (m1 : ∀ a, 53 ≤ a → a ≤ 64 → M2 a = M a) (m2 : ∀ a, 81 ≤ a → a ≤ 84 → M2 a = M a) (m3 : M2 44 14 = M 44 14) : FormA h2 A1 o1 M2 E Cn nf := by
  have hN := b.1.1
  obtain ⟨f1, f2, f3⟩ := F
  exact ⟨list_fr fr1 hc (by omega) (by omega) f1, by rw [m3]; exact f2, fun f hf => formOK_fr fr1 hc m1 m2 (f3 f hf)⟩
theorem FormA_left {as fs : List Nat} {n t : Nat} (b : base h o) (F : FormA h A o (gI h) E Cn nf) (l : left h h2 A A1 o o1 C as fs n t) (hc : ¬ C 5) (ha : ∀ a ∈ as, ¬ (53 ≤ a ∧ a ≤ 64) ∧ ¬ (81 ≤ a ∧ a ≤ 84)) (hf : 14 ∉ fs) : FormA h2 A1 o1 (gI h2) E Cn nf := by
  obtain ⟨l1, l2, ⟨l3, l4, l5⟩, -⟩ := l
  exact FormA_fr b F l2 (by rintro (q | q | q); exact hc q; omega; omega) (fun a h1 h2 => l3 a (by omega) (by omega) (fun q => (ha a q).1 ⟨h1, h2⟩)) (fun a h1 h2 => l3 a (by omega) (by omega) (fun q => (ha a q).2 ⟨h1, h2⟩)) (l4 14 (by decide) hf)
def fS (M : Nat → Nat → Int32) (k : Nat) : Nat := (M 67 k).toInt.toNat
/-- a number that is given, or aside, is one of the question's -/
def gaOK (M : Nat → Nat → Int32) (a b k f : Nat) : Prop := ∀ i, i < 20 → ¬ (M a (20 * k + i)).toInt = 0 → i < cnM M f ∧ (soM M f i).toInt = 0 ∧ (M 56 (20 * f + i)).toInt ≤ (M b (20 * k + i)).toInt ∧ (M b (20 * k + i)).toInt ≤ (M 57 (20 * f + i)).toInt
/-- what a session has of its own -/
def sessI (h : aH) (A : Nat → Nat) (M : Nat → Nat → Int32) (E : Nat → List Tm) (Cn : Nat → List Cmp) (f k : Nat) : Prop := sW h A k (cnM M f) (soM M f) E Cn (rgM M k) (gvM M k) (avM M k) ∧ (gI h (A (bS k)) 12 = M 70 k ∧ (M 70 k = 0 ∨ (M 70 k = 1 ∧ enW (soM M f) E Cn (gvM M k) (rgM M k) (cnM M f) = cnM M f))) ∧ gaOK M 71 72 k f ∧ gaOK M 73 74 k f ∧ gI h (A (bS k)) 9 = bits (ntM M k) 20 ∧ ((∀ i, i < 20 → ntM M k i = false) ∨ (gI h (A (bS k)) 10 = M 76 k ∧ gI h (A (bS k)) 11 = M 77 k))
def sessOK (h : aH) (A o : Nat → Nat) (M : Nat → Nat → Int32) (E : Nat → Nat → List Tm) (Cn : Nat → Nat → List Cmp) (nf U k : Nat) : Prop := TS h A o k ∧ (M 67 k = nI (fS M k) ∧ fS M k < nf) ∧ gR h (A (bS k)) 0 = A (bF (fS M k)) ∧ (gI h (A (bS k)) 1 = M 68 k ∧ 0 ≤ (M 68 k).toInt ∧ (M 68 k).toInt < U) ∧ ((∀ i, i < 6 → gI h (A (bS k + 1)) i = rgM M k i) ∧ bndI 6 (rgM M k)) ∧ sessI h A M (E (fS M k)) (Cn (fS M k)) (fS M k) k
/-- sessions that are not begun yet -/
def sesZ (M : Nat → Nat → Int32) (ns : Nat) : Prop := ∀ k, ns ≤ k → k < 60 → M 70 k = 0 ∧ ∀ i, i < 20 → M 71 (20 * k + i) = 0 ∧ M 73 (20 * k + i) = 0 ∧ M 75 (20 * k + i) = 0
def SessA (h : aH) (A o : Nat → Nat) (M : Nat → Nat → Int32) (E : Nat → Nat → List Tm) (Cn : Nat → Nat → List Cmp) (nf ns U : Nat) : Prop := listT h A o 35 6 ns 10 ∧ (M 44 38 = nI ns ∧ ns ≤ 60) ∧ (∀ k, k < ns → sessOK h A o M E Cn nf U k) ∧ sesZ M ns
end ARE
