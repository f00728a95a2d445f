/-! ROUNDING: the class's search, all of it -/
section RSS
variable {d t R C N m k : Nat} {h : aH} {A o : Nat → Nat} {X : Nat → aH → Prop} {M I : Nat → Nat → Int32} {J : Nat → Nat → Int64} {rn wn : Nat → Nat} {S S' T F Fr : Int32} {a sm : Nat}
def okL (rn : Nat → Nat) (m : Nat) (T : Int32) (R C r c : Nat) : Prop := -(m : Int) < lnG rn m T R C r c (R * C) ∧ lnG rn m T R C r c (R * C) < m
/-- a way to round -/
def wayT (rn : Nat → Nat) (m : Nat) (Fr T : Int32) (R C : Nat) : Prop := subB T Fr ∧ ∀ r c, r ≤ R → c ≤ C → (r = R ∨ c = C) → okL rn m T R C r c
abbrev extT (k : Nat) (S T : Int32) : Prop := ∀ i, i < k → gB T i = gB S i
def lexT (T U : Int32) : Prop := T = U ∨ ∃ j, gB T j = false ∧ gB U j = true ∧ ∀ i, i < j → gB T i = gB U i
def rsR (rn : Nat → Nat) (m : Nat) (Fr : Int32) (R C k : Nat) (S y : Int32) : Prop := (y.toInt = -1 ∧ ∀ T, wayT rn m Fr T R C → ¬ extT k S T) ∨ (wayT rn m Fr y R C ∧ extT k S y ∧ ∀ T, wayT rn m Fr T R C → extT k S T → lexT y T)
def invT (rn : Nat → Nat) (m : Nat) (R C k : Nat) (S : Int32) : Prop := ∀ r c, r ≤ R → c ≤ C → (r = R ∨ c = C) → (∀ i, i < R * C → inC R C (r : Int) (c : Int) i = true → i < k) → okL rn m S R C r c
theorem lnG_cg {r c : Nat} : ∀ n, (∀ i, i < n → inC R C (r : Int) (c : Int) i = true → gB S i = gB S' i) → lnG rn m S R C r c n = lnG rn m S' R C r c n := by
  intro n
  induction n with
  | zero => intro _; rfl
  | succ n ih =>
    intro hh
    rw [lnG, lnG, ih (fun i hi => hh i (by omega))]
    by_cases z : inC R C (r : Int) (c : Int) n = true
    · rw [if_pos z, if_pos z, hh n (by omega) z]
    · rw [if_neg z, if_neg z]
theorem lnF_0 {r c : Nat} : ∀ n, (∀ i, i < n → inC R C (r : Int) (c : Int) i = true → gB F i = false) → lnF m F R C r c n = 0 := by
  intro n
  induction n with
  | zero => intro _; rfl
  | succ n ih =>
    intro hh
    rw [lnF, ih (fun i hi => hh i (by omega))]
    by_cases z : inC R C (r : Int) (c : Int) n = true
    · rw [if_pos z, hh n (by omega) z]; rfl
    · rw [if_neg z]; rfl
theorem lnG_le {r c : Nat} : ∀ n, (∀ i, i < n → (gB T i = gB S i) ∨ (gB S i = false ∧ gB T i = true ∧ gB F i = true)) → lnG rn m S R C r c n ≤ lnG rn m T R C r c n ∧ lnG rn m T R C r c n ≤ lnG rn m S R C r c n + lnF m F R C r c n := by
  intro n
  induction n with
  | zero => intro _; exact ⟨Int.le_refl _, Int.le_refl _⟩
  | succ n ih =>
    intro hh
    have i1 := ih (fun i hi => hh i (by omega))
    rw [lnG, lnG, lnF]
    by_cases z : inC R C (r : Int) (c : Int) n = true
    · rw [if_pos z, if_pos z, if_pos z]
      rcases hh n (by omega) with e | ⟨e1, e2, e3⟩
      · rw [e]
        have : (0 : Int) ≤ if gB F n = true then (m : Int) else 0 := by split <;> omega
        omega
      · rw [e1, e2, e3, if_pos rfl, if_neg (by decide)]; omega
    · rw [if_neg z, if_neg z, if_neg z]; omega
/-- the cells behind k -/
abbrev hiF (Fr : Int32) (k : Nat) : Int32 := Fr &&& ((-2) <<< (nI k &&& 31))
theorem gB_hi {i : Nat} (hk : k < 32) (hi : i < 32) : gB (hiF Fr k) i = (gB Fr i && decide (k < i)) := by rw [gB_and, gB_b hk hi]
theorem fit_L {r c : Nat} (m12 : R * C ≤ 12) (hk : k < R * C) (w : wayT rn m Fr T R C) (e : extT (k + 1) S T) (hS : ∀ i, k + 1 ≤ i → gB S i = false) (h1 : r ≤ R) (h2 : c ≤ C) (h3 : r = R ∨ c = C) : fitL rn m (hiF Fr k) S R C r c = true := by
  have o := w.2 r c h1 h2 h3
  have l := lnG_le (rn := rn) (m := m) (R := R) (C := C) (r := r) (c := c) (S := S) (T := T) (F := hiF Fr k) (R * C) (fun i hi => by
    by_cases q : i < k + 1
    · exact Or.inl (e i q)
    · rw [hS i (by omega)]
      cases hT : gB T i
      · exact Or.inl rfl
      · exact Or.inr ⟨rfl, rfl, by rw [gB_hi (by omega) (by omega), w.1 i hT, decide_eq_true (by omega)]; rfl⟩)
  unfold okL at o
  unfold fitL
  rw [decide_eq_true (by omega), decide_eq_true (by omega)]; rfl
theorem fit_3 (m12 : R * C ≤ 12) (hC : 0 < C) (hk : k < R * C) (w : wayT rn m Fr T R C) (e : extT (k + 1) S T) (hS : ∀ i, k + 1 ≤ i → gB S i = false) : fit3 rn m (hiF Fr k) S R C k = true := by
  have hd : k / C < R := Nat.div_lt_of_lt_mul (by rw [Nat.mul_comm]; exact hk)
  have hm : k % C < C := Nat.mod_lt _ hC
  unfold fit3
  rw [fit_L m12 hk w e hS (by omega) (Nat.le_refl _) (Or.inr rfl), fit_L m12 hk w e hS (Nat.le_refl _) (by omega) (Or.inl rfl), fit_L m12 hk w e hS (Nat.le_refl _) (Nat.le_refl _) (Or.inl rfl)]; rfl
theorem inv_next (m12 : R * C ≤ 12) (hk : k < R * C) (iv : invT rn m R C k S) (ag : ∀ i, i < k → gB S' i = gB S i) (f : fit3 rn m (hiF Fr k) S' R C k = true) : invT rn m R C (k + 1) S' := by
  intro r c h1 h2 h3 h4
  by_cases z : inC R C (r : Int) (c : Int) k = true
  · have L : fitL rn m (hiF Fr k) S' R C r c = true := by
      unfold fit3 at f
      rw [Bool.and_eq_true, Bool.and_eq_true] at f
      unfold inC at z
      rw [Bool.and_eq_true, Bool.or_eq_true, Bool.or_eq_true, decide_eq_true_iff, decide_eq_true_iff, decide_eq_true_iff, decide_eq_true_iff] at z
      by_cases e1 : r = R
      · by_cases e2 : c = C
        · rw [e1, e2]; exact f.2.2
        · have : c = k % C := by omega
          rw [e1, this]; exact f.2.1
      · have e2 : c = C := by omega
        have : r = k / C := by omega
        rw [e2, this]; exact f.1
    have l0 : lnF m (hiF Fr k) R C r c (R * C) = 0 := lnF_0 _ (fun i hi y => by
      have := h4 i hi y
      rw [gB_hi (by omega) (by omega), decide_eq_false (by omega), Bool.and_false])
    unfold fitL at L
    rw [Bool.and_eq_true, decide_eq_true_iff, decide_eq_true_iff, l0] at L
    exact ⟨by omega, L.1⟩
  · have hh : ∀ i, i < R * C → inC R C (r : Int) (c : Int) i = true → i < k := fun i hi y => by
      have := h4 i hi y
      by_cases e : i = k
      · subst e; exact absurd y z
      · omega
    have o := iv r c h1 h2 h3 hh
    unfold okL at o ⊢
    rw [lnG_cg (S := S') (S' := S) (R * C) (fun i hi y => ag i (hh i hi y))]
    exact o
theorem way_nn (m12 : R * C ≤ 12) (hF : ∀ i, R * C ≤ i → gB Fr i = false) (w : wayT rn m Fr T R C) : ¬ T.toInt = -1 := fun e => by
  have : msk T < 2 ^ 12 := msk_lt fun i hi => by
    cases hh : gB T i
    · rfl
    · have := w.1 i hh; rw [hF i (by omega)] at this; cases this
  rw [msk_ti (by omega)] at e; omega
theorem c_raise (rd : rdT h a sm R C wn) (m1 : 1 ≤ m ∧ m ≤ 1000) (hF : ∀ i, R * C ≤ i → gB Fr i = false) : ∀ (n k : Nat) (S : Int32) (K : Int32 → aH → Prop), k + n = R * C → subB S Fr → (∀ i, k ≤ i → gB S i = false) → invT (fun k => wn k % m) m R C k S → (∀ y, rsR (fun k => wn k % m) m Fr R C k S y → K y h) → CI (d + n + 4) 302 [vR a, vI Fr, vI S, vI (nI m), vI (nI k)] h K X := by
  have R4 : R ≤ 4 := rd.2.1.1.2
  have C3 : C ≤ 3 := rd.2.1.2.2
  have C1 : 1 ≤ C := rd.2.1.2.1
  have m12 : R * C ≤ 4 * 3 := Nat.mul_le_mul R4 C3
  have NI : (nI (R * C)).toInt = ((R * C : Nat) : Int) := ti_n (by omega)
  have k0 : gK h a = 11 := rd.1.1
  have e0 : 8 ≤ a := rd.1.2
  have i6 : gI h a 6 = nI (R * C) := rd.2.2.1.2.2
  intro n
  induction n with
  | zero =>
    intro k S K hk hs hb iv kk
    have hkc : k = R * C := by omega
    subst hkc
    refine m302 ?_
    simp only [↓forall_eq, ↓inB_iff, gK_hU, gL_hU, gR_hU, gIh, gJh, pI_hU, pJ_hU, hU_hU, uI_app, uJ_app, and_true, true_and, and_false, false_and, and_self, true_implies, false_implies, not_true, not_false_iff, if_true, if_false, eq_self, Nat.reduceLeDiff, Nat.reduceEqDiff, reduceCtorEq, i32c, ti0, ti1, tiM, Int.natCast_nonneg, Int.reduceEq, Int.reduceLE, Int.reduceLT, Int.reduceNeg, tl_i, Int32.reduceToInt, Int64.reduceToInt, tiA, tlM6, Int.toNat_natCast, natc, nI_1, Int.zero_sub, implies_true, not_false_eq_true, k0, i6, Int.lt_irrefl]
    refine kk S (Or.inr ⟨⟨hs, fun r c h1 h2 h3 => iv r c h1 h2 h3 (fun i hi _ => hi)⟩, fun _ _ => rfl, fun T hT hE => Or.inl (gB_ext fun i hi => ?_)⟩)
    by_cases l : i < R * C
    · exact (hE i l).symm
    · rw [hb i (by omega)]
      cases hh : gB T i
      · rfl
      · have := hT.1 i hh; rw [hF i (by omega)] at this; cases this
  | succ n ih =>
    intro k S K hk hs hb iv kk
    have hk9 : k < R * C := by omega
    have hkI : (nI k).toInt = k := ti_n (by omega)
    have zk : (k : Int) < ((R * C : Nat) : Int) := by omega
    have F0 := fun (T : Int32) (K : Int32 → aH → Prop) X => c_fit3 (d := d + n + 2) (F := hiF Fr k) (S := T) (k := k) (K := K) (X := X) rd m1 hk9
    have sk : gB S k = false := hb k (Nat.le_refl _)
    have up0 : ∀ T, extT k S T → gB T k = false → extT (k + 1) S T := fun T e z i hi => by
      by_cases q : i = k
      · rw [q, z, sk]
      · exact e i (by omega)
    have gS : ∀ i, gB (S ||| (1 <<< (nI k &&& 31))) i = (gB S i || decide (i = k)) := fun i => by rw [gB_or, gB_sh (by omega)]
    have up1 : ∀ T, extT k S T → gB T k = true → extT (k + 1) (S ||| (1 <<< (nI k &&& 31))) T := fun T e z i hi => by
      rw [gS]
      by_cases q : i = k
      · rw [q, z, decide_eq_true rfl, Bool.or_true]
      · rw [decide_eq_false q, Bool.or_false]; exact e i (by omega)
    have hb1 : ∀ i, k + 1 ≤ i → gB (S ||| (1 <<< (nI k &&& 31))) i = false := fun i hi => by rw [gS, hb i (by omega), decide_eq_false (by omega)]; rfl
    have tail : ∀ y, rsR (fun k => wn k % m) m Fr R C (k + 1) S y → Wp (d + n + 1 + 4) 302 (49, [some (vR a), some (vI Fr), some (vI S), some (vI (nI m)), some (vI (nI k)), some (vI (hiF Fr k)), some (vI y)], [], h) (RI K X) := fun y hy => by
      refine w302_49 ?_
      rcases hy with ⟨y1, y2⟩ | ⟨y1, y2, y3⟩
      · have F1 := F0 (S ||| (1 <<< (nI k &&& 31)))
        simp only [↓forall_eq, ↓inB_iff, gK_hU, gL_hU, gR_hU, gIh, gJh, pI_hU, pJ_hU, hU_hU, uI_app, uJ_app, and_true, true_and, and_false, false_and, and_self, true_implies, false_implies, not_true, not_false_iff, if_true, if_false, eq_self, Nat.reduceLeDiff, Nat.reduceEqDiff, reduceCtorEq, i32c, ti0, ti1, tiM, Int.natCast_nonneg, Int.reduceEq, Int.reduceLE, Int.reduceLT, Int.reduceNeg, tl_i, Int32.reduceToInt, Int64.reduceToInt, tiA, tlM6, Int.toNat_natCast, natc, nI_1, Int.zero_sub, implies_true, not_false_eq_true, y1, ↓hasBit_br (show k < 32 by omega), bI0, k0, e0, ↓F1]
        refine ⟨fun z => kk y (Or.inl ⟨y1, fun T hT hE => ?_⟩), fun z => ⟨fun z2 => kk y (Or.inl ⟨y1, fun T hT hE => ?_⟩), fun z2 => ?_⟩⟩
        · cases hh : gB T k
          · exact y2 T hT (up0 T hE hh)
          · have := hT.1 k hh; rw [z] at this; cases this
        · cases hh : gB T k
          · exact y2 T hT (up0 T hE hh)
          · have := fit_3 (by omega) (by omega) hk9 hT (up1 T hE hh) hb1
            rw [z2] at this; cases this
        · have zk' := bnf z
          refine ih (k + 1) _ _ (by omega) (fun i hi => ?_) hb1 (inv_next (by omega) hk9 iv (fun i hi => by rw [gS, decide_eq_false (by omega), Bool.or_false]) (bnf z2)) (fun y9 hy9 => kk y9 ?_)
          · rw [gS] at hi
            by_cases q : i = k
            · rw [q]; exact zk'
            · rw [decide_eq_false q, Bool.or_false] at hi; exact hs i hi
          · rcases hy9 with ⟨x1, x2⟩ | ⟨x1, x2, x3⟩
            · refine Or.inl ⟨x1, fun T hT hE => ?_⟩
              cases hh : gB T k
              · exact y2 T hT (up0 T hE hh)
              · exact x2 T hT (up1 T hE hh)
            · refine Or.inr ⟨x1, fun i hi => ?_, fun T hT hE => ?_⟩
              · rw [x2 i (by omega), gS, decide_eq_false (by omega), Bool.or_false]
              · cases hh : gB T k
                · exact absurd (up0 T hE hh) (y2 T hT)
                · exact x3 T hT (up1 T hE hh)
      · have ny := way_nn (by omega) hF y1
        simp only [↓forall_eq, ↓inB_iff, gK_hU, gL_hU, gR_hU, gIh, gJh, pI_hU, pJ_hU, hU_hU, uI_app, uJ_app, and_true, true_and, and_false, false_and, and_self, true_implies, false_implies, not_true, not_false_iff, if_true, if_false, eq_self, Nat.reduceLeDiff, Nat.reduceEqDiff, reduceCtorEq, i32c, ti0, ti1, tiM, Int.natCast_nonneg, Int.reduceEq, Int.reduceLE, Int.reduceLT, Int.reduceNeg, tl_i, Int32.reduceToInt, Int64.reduceToInt, tiA, tlM6, Int.toNat_natCast, natc, nI_1, Int.zero_sub, implies_true, not_false_eq_true, ny]
        refine kk y (Or.inr ⟨y1, fun i hi => y2 i (by omega), fun T hT hE => ?_⟩)
        cases hh : gB T k
        · exact y3 T hT (up0 T hE hh)
        · exact Or.inr ⟨k, by rw [y2 k (by omega)]; exact sk, hh, fun i hi => by rw [y2 i (by omega), hE i hi]⟩
    have F1 := F0 S
    rw [show d + (n + 1) + 4 = d + n + 1 + 4 by omega]
    refine m302 ?_
    simp only [↓forall_eq, ↓inB_iff, gK_hU, gL_hU, gR_hU, gIh, gJh, pI_hU, pJ_hU, hU_hU, uI_app, uJ_app, and_true, true_and, and_false, false_and, and_self, true_implies, false_implies, not_true, not_false_iff, if_true, if_false, eq_self, Nat.reduceLeDiff, Nat.reduceEqDiff, reduceCtorEq, i32c, ti0, ti1, tiM, Int.natCast_nonneg, Int.reduceEq, Int.reduceLE, Int.reduceLT, Int.reduceNeg, tl_i, Int32.reduceToInt, Int64.reduceToInt, tiA, tlM6, Int.toNat_natCast, natc, nI_1, Int.zero_sub, implies_true, not_false_eq_true, k0, e0, i6, NI, hkI, zk, ↓F1, bI0]
    refine ⟨fun z => tail (-1) (Or.inl ⟨rfl, fun T hT hE => ?_⟩), fun z => ?_⟩
    · have := fit_3 (by omega) (by omega) hk9 hT hE (fun i hi => hb i (by omega))
      rw [z] at this; cases this
    · exact ih (k + 1) S _ (by omega) hs (fun i hi => hb i (by omega)) (inv_next (by omega) hk9 iv (fun _ _ => rfl) (bnf z)) tail
end RSS
