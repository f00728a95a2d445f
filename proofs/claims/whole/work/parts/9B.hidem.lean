/-! SECRECY: the model's side -/
section HDM
variable {d t R C N : Nat} {h g : aH} {X : Nat → aH → Prop} {M I I0 : Nat → Nat → Int32} {J : Nat → Nat → Int64} {v : Nat → Int} {P S T : Int32} {nd l1 l2 : Int32}
abbrev vvM (I : Nat → Nat → Int32) (t : Nat) : Nat → Int := fun k => (I 92 (12 * t + k)).toInt
theorem m_good {K : Int32 → aH → Prop} (mf : MF g) (ht : t < 12) (R4 : 1 ≤ R ∧ R ≤ 4) (C3 : 1 ≤ C ∧ C ≤ 3) (m90 : I 90 t = nI R) (m91 : I 91 t = nI C) (hv : ∀ k, k < R * C → 0 ≤ (I 92 (12 * t + k)).toInt ∧ (I 92 (12 * t + k)).toInt ≤ 60000000) : CI (d + 1) 287 [vR 44, vI (nI t), vI T, vI nd] (hU g I J) K X ↔ K (bI (goodS (vvM I t) (I 98 t) T nd.toInt R C (R * C))) (hU g I J) := by
  have m12 : R * C ≤ 4 * 3 := Nat.mul_le_mul R4.2 C3.2
  have NI : (nI (R * C)).toInt = ((R * C : Nat) : Int) := ti_n (by omega)
  have mul : nI R * nI C = nI (R * C) := nI_mul R C
  have htI : (nI t).toInt = t := ti_n (by omega)
  have zt : (t : Int) < 12 := by omega
  refine CI_iff fun K X w9 => m287 ?_
  have main : ∀ (n p : Nat), p + n = R * C → goodS (vvM I t) (I 98 t) T nd.toInt R C p = true → Wp (d + 1) 287 (3, [some (vR 44), some (vI (nI t)), some (vI T), some (vI nd), some (vI (nI p)), none, none], [], hU g I J) (RI K X) := by
    intro n
    induction n with
    | zero =>
      intro p hp hg
      have hpc : p = R * C := by omega
      subst hpc
      refine w287_3 ?_
      simp only [↓forall_eq, ↓inB_iff, gK_hU, gL_hU, gR_hU, gIh, gJh, pI_hU, pJ_hU, hU_hU, uI_app, uJ_app, and_true, true_and, and_false, false_and, and_self, true_implies, false_implies, not_true, not_false_iff, if_true, if_false, eq_self, Nat.reduceLeDiff, Nat.reduceEqDiff, reduceCtorEq, i32c, ti0, ti1, tiM, Int.natCast_nonneg, Int.reduceEq, Int.reduceLE, Int.reduceLT, Int.reduceNeg, tl_i, Int32.reduceToInt, Int64.reduceToInt, tiA, tlM6, Int.toNat_natCast, natc, nI_1, Int.zero_sub, implies_true, not_false_eq_true, mf.1, mr_70 mf, mk_90 mf, ml_90 mf, mr_71 mf, mk_91 mf, ml_91 mf, mr_72 mf, mk_92 mf, ml_92 mf, mr_78 mf, mk_98 mf, ml_98 mf, htI, zt, m90, m91, mul, Int.lt_irrefl]
      rw [hg] at w9; exact w9
    | succ n ih =>
      intro p hp hg
      have nx := ih (p + 1) (by omega)
      rw [goodS, hg, Bool.true_and] at nx
      have no : (!gB (I 98 t) p || roomy (vvM I t) T nd.toInt R C p) = false → K 0 (hU g I J) := fun z => by
        rw [good_f (p := p + 1) (by rw [goodS, z, Bool.and_false]) (R * C) (by omega)] at w9; exact w9
      have hpI : (nI p).toInt = p := ti_n (by omega)
      have zp : (p : Int) < ((R * C : Nat) : Int) := by omega
      have hm : p % C < C := Nat.mod_lt _ (by omega)
      have hdv : p / C < R := Nat.div_lt_of_lt_mul (by rw [Nat.mul_comm]; omega)
      have ep : p / C * C + p % C = p := by rw [Nat.mul_comm]; exact Nat.div_add_mod p C
      have MB := fun (u : Int32) (K : Int32 → aH → Prop) X => most_br (d := d) (S := T) (u := u) (J := J) (K := K) (X := X) mf ht R4 C3 m90 m91 hv hdv hm
      rw [ep] at MB
      have rb := rmA_b (O := oth T p) (v := vvM I t) (r0 := p / C) (c0 := p % C) hv R4.2 C3.2 (2 ^ R)
      have sb := rmB_b (O := oth T p) (v := vvM I t) (r0 := p / C) (c0 := p % C) hv C3.2 (by rw [ep]; omega) (2 ^ R)
      rw [ep] at sb
      have bp := hv p (by omega)
      have bp' : 0 ≤ vvM I t p ∧ vvM I t p ≤ 60000000 := bp
      have z1 := ti_z (z := rmA (vvM I t) (oth T p) R C (p / C) (p % C) (2 ^ R)) (by omega) (by omega)
      have z2 := ti_z (z := rmB (vvM I t) (oth T p) R C (p / C) (p % C) (2 ^ R)) (by omega) (by omega)
      have x1 : (12 : Int32) * nI t + nI p = nI (12 * t + p) := by rw [show (12 : Int32) = nI 12 from rfl, nI_mul, nI_add]
      have x2 : (nI (12 * t + p)).toInt = ((12 * t + p : Nat) : Int) := ti_n (by omega)
      have x3 : ((12 * t + p : Nat) : Int) < 144 := by omega
      have k62 : ∀ s0 : Int32, s0.toInt = (if vvM I t p < nd.toInt then vvM I t p else nd.toInt) → gB (I 98 t) p = true → Wp (d + 1) 287 (62, [some (vR 44), some (vI (nI t)), some (vI T), some (vI nd), some (vI (nI p)), none, none], [vI s0], hU g I J) (RI K X) := fun s0 hs z' => by
        rw [z', Bool.not_true, Bool.false_or] at nx no
        unfold roomy at nx no
        refine w287_62 ?_
        simp only [↓forall_eq, ↓inB_iff, gK_hU, gL_hU, gR_hU, gIh, gJh, pI_hU, pJ_hU, hU_hU, uI_app, uJ_app, and_true, true_and, and_false, false_and, and_self, true_implies, false_implies, not_true, not_false_iff, if_true, if_false, eq_self, Nat.reduceLeDiff, Nat.reduceEqDiff, reduceCtorEq, i32c, ti0, ti1, tiM, Int.natCast_nonneg, Int.reduceEq, Int.reduceLE, Int.reduceLT, Int.reduceNeg, tl_i, Int32.reduceToInt, Int64.reduceToInt, tiA, tlM6, Int.toNat_natCast, natc, nI_1, Int.zero_sub, implies_true, not_false_eq_true, mf.1, mr_70 mf, mk_90 mf, ml_90 mf, mr_71 mf, mk_91 mf, ml_91 mf, mr_72 mf, mk_92 mf, ml_92 mf, mr_78 mf, mk_98 mf, ml_98 mf, ↓MB, z1, z2, hs]
        refine ⟨fun a1 => no (by rw [decide_eq_false (by omega), Bool.false_and]), fun a1 => ⟨fun a2 => no (by rw [decide_eq_false (p := (if vvM I t p < nd.toInt then vvM I t p else nd.toInt) ≤ _) (by omega), Bool.and_false]), fun a2 => nx (by rw [decide_eq_true (show nd.toInt ≤ _ by omega), decide_eq_true (p := (if vvM I t p < nd.toInt then vvM I t p else nd.toInt) ≤ _) (by omega)]; rfl)⟩⟩
      refine w287_3 ?_
      simp only [↓forall_eq, ↓inB_iff, gK_hU, gL_hU, gR_hU, gIh, gJh, pI_hU, pJ_hU, hU_hU, uI_app, uJ_app, and_true, true_and, and_false, false_and, and_self, true_implies, false_implies, not_true, not_false_iff, if_true, if_false, eq_self, Nat.reduceLeDiff, Nat.reduceEqDiff, reduceCtorEq, i32c, ti0, ti1, tiM, Int.natCast_nonneg, Int.reduceEq, Int.reduceLE, Int.reduceLT, Int.reduceNeg, tl_i, Int32.reduceToInt, Int64.reduceToInt, tiA, tlM6, Int.toNat_natCast, natc, nI_1, Int.zero_sub, implies_true, not_false_eq_true, mf.1, mr_70 mf, mk_90 mf, ml_90 mf, mr_71 mf, mk_91 mf, ml_91 mf, mr_72 mf, mk_92 mf, ml_92 mf, mr_78 mf, mk_98 mf, ml_98 mf, htI, zt, m90, m91, mul, NI, hpI, zp, sh_bit (show p < 32 by omega), bI1, x1, x2, x3]
      refine ⟨fun z => ⟨fun a1 => k62 _ (by rw [if_pos a1]) z, fun a1 => k62 _ (by rw [if_neg a1]) z⟩, fun z => nx (by rw [bnt z]; rfl)⟩
  exact main (R * C) 0 (by omega) rfl
abbrev k195 (t N p : Nat) (nd : Int32) (l6 : Int64) (hh : aH) : aCf := (195, [some (vR 44), some (vI (nI t)), none, none, some (vI nd), some (vI (nI N)), some (vL l6), none, some (vI (nI p)), none, none, none], [], hh)
abbrev k210 (t N p j : Nat) (nd : Int32) (l6 l9 : Int64) (hh : aH) : aCf := (210, [some (vR 44), some (vI (nI t)), none, none, some (vI nd), some (vI (nI N)), some (vL l6), none, some (vI (nI p)), some (vL l9), none, some (vI (nI j))], [], hh)
abbrev k87 (t N p : Nat) (l1 l2 nd : Int32) (hh : aH) : aCf := (87, [some (vR 44), some (vI (nI t)), some (vI l1), some (vI l2), some (vI nd), some (vI (nI N)), some (vI (nI p)), none, none, none, none, none], [], hh)
abbrev k125 (t N p : Nat) (l1 l2 nd : Int32) (hh : aH) : aCf := (125, [some (vR 44), some (vI (nI t)), some (vI l1), some (vI l2), some (vI nd), some (vI (nI N)), some (vI (nI p)), some (vI (nI (12 * t + p))), none, none, none, none], [], hh)
/-- only the table's two sets change -/
def mdF (I0 I : Nat → Nat → Int32) (t : Nat) : Prop := (∀ a, a ≠ 97 → a ≠ 98 → I a = I0 a) ∧ ∀ i, i ≠ t → I 97 i = I0 97 i ∧ I 98 i = I0 98 i
/-- a table of the model -/
def mdT (I0 : Nat → Nat → Int32) (t R C : Nat) : Prop := t < 12 ∧ (1 ≤ R ∧ R ≤ 4) ∧ (1 ≤ C ∧ C ≤ 3) ∧ I0 90 t = nI R ∧ I0 91 t = nI C ∧ ∀ k, k < R * C → 0 ≤ (I0 92 (12 * t + k)).toInt ∧ (I0 92 (12 * t + k)).toInt ≤ 60000000
theorem c_sets {n : Nat} (hn : n ≤ 12) : (1 <<< (nI n &&& 31) : Int32).toInt = ((2 ^ n : Nat) : Int) := (show ∀ n : Fin 13, (1 <<< (nI n.val &&& 31) : Int32).toInt = ((2 ^ n.val : Nat) : Int) by decide +kernel) ⟨n, by omega⟩
theorem and_sub {x y : Int32} : (x &&& y).toInt = y.toInt ↔ subB y x := by
  constructor
  · intro e i hi
    have e' : x &&& y = y := ti_inj e
    rw [← e', gB_and] at hi
    cases hh : gB x i
    · rw [hh, Bool.false_and] at hi; exact hi
    · rfl
  · intro s
    have : x &&& y = y := gB_ext fun i _ => by
      rw [gB_and]
      cases hh : gB y i
      · rw [Bool.and_false]
      · rw [s i hh]; rfl
    rw [this]
/-- the cost of a set, and whether it is taken -/
theorem m_210s {K : Int32 → aH → Prop} {p : Nat} {l6 : Int64} (mf : MF g) (mt : mdT I0 t R C) (f : mdF I0 I t) (hp : p < 4096)
    (kn : ¬ (subB (I 98 t) (nI p) ∧ (l6.toInt < 0 ∨ cX (vvM I0 t) (I 98 t) (nI p) (R * C) < l6.toInt) ∧ goodS (vvM I0 t) (I 98 t) (nI p) nd.toInt R C (R * C) = true) → Wp (d + 2) 288 (k195 t (R * C) (p + 1) nd l6 (hU g I J)) (RI K X))
    (ky : ∀ z : Int64, z.toInt = cX (vvM I0 t) (I 98 t) (nI p) (R * C) → subB (I 98 t) (nI p) → (l6.toInt < 0 ∨ cX (vvM I0 t) (I 98 t) (nI p) (R * C) < l6.toInt) → goodS (vvM I0 t) (I 98 t) (nI p) nd.toInt R C (R * C) = true → Wp (d + 2) 288 (k195 t (R * C) (p + 1) nd z (hU g (uI I 97 t (nI p)) J)) (RI K X)) :
    ∀ (q j : Nat) (l9 : Int64), j + q = R * C → l9.toInt = cX (vvM I0 t) (I 98 t) (nI p) j → Wp (d + 2) 288 (k210 t (R * C) p j nd l6 l9 (hU g I J)) (RI K X) := by
  obtain ⟨ht, R4, C3, m90, m91, hv⟩ := mt
  have m12 : R * C ≤ 4 * 3 := Nat.mul_le_mul R4.2 C3.2
  have NI : (nI (R * C)).toInt = ((R * C : Nat) : Int) := ti_n (by omega)
  have htI : (nI t).toInt = t := ti_n (by omega)
  have zt : (t : Int) < 12 := by omega
  have e92 : I 92 = I0 92 := f.1 92 (by decide) (by decide)
  have GB := fun (K : Int32 → aH → Prop) X => m_good (d := d) (T := nI p) (nd := nd) (J := J) (K := K) (X := X) mf ht R4 C3 (by rw [f.1 90 (by decide) (by decide)]; exact m90) (by rw [f.1 91 (by decide) (by decide)]; exact m91) (I := I) (by rw [e92]; exact hv)
  have ev : vvM I t = vvM I0 t := by funext k; show (I 92 _).toInt = (I0 92 _).toInt; rw [e92]
  rw [ev] at GB
  intro q
  induction q with
  | zero =>
    intro j l9 hj hl
    have hjc : j = R * C := by omega
    subst hjc
    rw [← hl] at kn ky
    refine w288_210 ?_
    simp only [↓forall_eq, ↓inB_iff, gK_hU, gL_hU, gR_hU, gIh, gJh, pI_hU, pJ_hU, hU_hU, uI_app, uJ_app, and_true, true_and, and_false, false_and, and_self, true_implies, false_implies, not_true, not_false_iff, if_true, if_false, eq_self, Nat.reduceLeDiff, Nat.reduceEqDiff, reduceCtorEq, i32c, ti0, ti1, tiM, Int.natCast_nonneg, Int.reduceEq, Int.reduceLE, Int.reduceLT, Int.reduceNeg, tl_i, Int32.reduceToInt, Int64.reduceToInt, tiA, tlM6, Int.toNat_natCast, natc, nI_1, Int.zero_sub, implies_true, not_false_eq_true, mf.1, mr_70 mf, mk_90 mf, ml_90 mf, mr_71 mf, mk_91 mf, ml_91 mf, mr_72 mf, mk_92 mf, ml_92 mf, mr_73 mf, mk_93 mf, ml_93 mf, mr_74 mf, mk_94 mf, ml_94 mf, mr_77 mf, mk_97 mf, ml_97 mf, mr_78 mf, mk_98 mf, ml_98 mf, htI, zt, Int.lt_irrefl, and_sub, ↓GB, bI0]
    refine ⟨fun s => ⟨fun a => ⟨fun z => kn (fun y => by rw [y.2.2] at z; cases z), fun z => ky _ rfl s (Or.inl a) (bnf z)⟩, fun a => ⟨fun b => ⟨fun z => kn (fun y => by rw [y.2.2] at z; cases z), fun z => ky _ rfl s (Or.inr b) (bnf z)⟩, fun b => kn (fun y => y.2.1.elim a b)⟩⟩, fun s => kn (fun y => s y.1)⟩
  | succ q ih =>
    intro j l9 hj hl
    have nx := fun z => ih (j + 1) z (by omega)
    have bd := cX_b (v := vvM I0 t) (P := I 98 t) (T := nI p) hv j (by omega)
    have bj := hv j (by omega)
    rw [cX, ← hl] at nx
    have hjI : (nI j).toInt = j := ti_n (by omega)
    have zj : (j : Int) < ((R * C : Nat) : Int) := by omega
    have x1 : (12 : Int32) * nI t + nI j = nI (12 * t + j) := by rw [show (12 : Int32) = nI 12 from rfl, nI_mul, nI_add]
    have x2 : (nI (12 * t + j)).toInt = ((12 * t + j : Nat) : Int) := ti_n (by omega)
    have x3 : ((12 * t + j : Nat) : Int) < 144 := by omega
    have e1 : (1 : Int64).toInt = 1 := rfl
    have s0 : ((I0 92 (12 * t + j)).toInt64 + 1).toInt = (I0 92 (12 * t + j)).toInt + 1 := by rw [tl_add (by rw [tl_i, e1]; omega) (by rw [tl_i, e1]; omega), tl_i, e1]
    have s1 : (l9 + ((I0 92 (12 * t + j)).toInt64 + 1)).toInt = l9.toInt + ((I0 92 (12 * t + j)).toInt + 1) := by rw [tl_add (by rw [s0]; omega) (by rw [s0]; omega), s0]
    refine w288_210 ?_
    simp only [↓forall_eq, ↓inB_iff, gK_hU, gL_hU, gR_hU, gIh, gJh, pI_hU, pJ_hU, hU_hU, uI_app, uJ_app, and_true, true_and, and_false, false_and, and_self, true_implies, false_implies, not_true, not_false_iff, if_true, if_false, eq_self, Nat.reduceLeDiff, Nat.reduceEqDiff, reduceCtorEq, i32c, ti0, ti1, tiM, Int.natCast_nonneg, Int.reduceEq, Int.reduceLE, Int.reduceLT, Int.reduceNeg, tl_i, Int32.reduceToInt, Int64.reduceToInt, tiA, tlM6, Int.toNat_natCast, natc, nI_1, Int.zero_sub, implies_true, not_false_eq_true, mf.1, mr_70 mf, mk_90 mf, ml_90 mf, mr_71 mf, mk_91 mf, ml_91 mf, mr_72 mf, mk_92 mf, ml_92 mf, mr_73 mf, mk_93 mf, ml_93 mf, mr_74 mf, mk_94 mf, ml_94 mf, mr_77 mf, mk_97 mf, ml_97 mf, mr_78 mf, mk_98 mf, ml_98 mf, htI, zt, NI, hjI, zj, sh_bit (show j < 32 by omega), bI0, bI1, x1, x2, x3, e92, add0L]
    refine ⟨fun a => ⟨fun b => nx _ ?_, fun b => nx _ ?_⟩, fun a => nx _ ?_⟩
    · rw [s1, a, b, if_pos (by decide)]
    · rw [bnf b, Bool.not_true, Bool.and_false, if_neg (by decide), Int.add_zero]
    · rw [bnt a, Bool.false_and, if_neg (by decide), Int.add_zero]
/-- what the model has when it has looked at the sets below p -/
def mdR (I : Nat → Nat → Int32) (t : Nat) (l6 : Int64) (b : Int32 × Int) : Prop := (b = (-1, 2147483647) ∧ l6.toInt = -1) ∨ ((0 ≤ b.2 ∧ b.2 ≤ 720000012) ∧ l6.toInt = b.2 ∧ I 97 t = b.1 ∧ msk b.1 < 4096)
abbrev lowS (P : Int32) (p : Nat) (T : Int32) : Prop := subB P T ∧ msk T < p
theorem m_195 {K : Int32 → aH → Prop} {PM : Int32} (mf : MF g) (mt : mdT I0 t R C) (pmx : ∀ i, R * C ≤ i → gB PM i = false) (kk : ∀ I1 b1, mdF I0 I1 t → I1 98 t = PM → I1 97 t = hidS (R * C) b1 → hidB (vvM I0 t) PM nd.toInt R C b1 → K (hidV b1) (hU g I1 J)) :
    ∀ (q p : Nat) (I : Nat → Nat → Int32) (l6 : Int64) (b : Int32 × Int), p + q = 2 ^ (R * C) → mdF I0 I t → I 98 t = PM → mdR I t l6 b → best (fun T => goodS (vvM I0 t) PM T nd.toInt R C (R * C)) (fun T => cX (vvM I0 t) PM T (R * C)) (lowS PM p) (-1, 2147483647) b → Wp (d + 2) 288 (k195 t (R * C) p nd l6 (hU g I J)) (RI K X) := by
  have mt0 := mt
  obtain ⟨ht, R4, C3, m90, m91, hv⟩ := mt
  have m12 : R * C ≤ 4 * 3 := Nat.mul_le_mul R4.2 C3.2
  have NI : (nI (R * C)).toInt = ((R * C : Nat) : Int) := ti_n (by omega)
  have htI : (nI t).toInt = t := ti_n (by omega)
  have zt : (t : Int) < 12 := by omega
  have p12 : 2 ^ (R * C) ≤ 2 ^ 12 := Nat.pow_le_pow_right (by decide) (by omega)
  intro q
  induction q with
  | zero =>
    intro p I l6 b hp f h98 r bs
    have hpc : p = 2 ^ (R * C) := by omega
    subst hpc
    have pI : (nI (2 ^ (R * C))).toInt = ((2 ^ (R * C) : Nat) : Int) := ti_n (by omega)
    have bs' : hidB (vvM I0 t) PM nd.toInt R C b := best_cg (fun T => by
      unfold btw
      rw [or_all (by omega) pmx]
      constructor
      · rintro ⟨u1, u2⟩
        refine ⟨u1, msk_lt fun i hi => ?_⟩
        cases hh : gB T i
        · rfl
        · have := u2 i hh
          rw [gB_all (by omega), decide_eq_false (by omega)] at this; cases this
      · rintro ⟨u1, u2⟩
        refine ⟨u1, fun i hi => ?_⟩
        rw [gB_all (by omega)]
        refine decide_eq_true (Nat.lt_of_not_le fun z => ?_)
        have g1 := msk_ge hi
        have g2 : 2 ^ (R * C) ≤ 2 ^ i := Nat.pow_le_pow_right (by decide) z
        omega) bs
    have tz : ∀ z : Int, l6.toInt = z → -1 ≤ z → z ≤ 2147483647 → l6.toInt32 = iZ z := fun z e z1 z2 => by
      apply ti_inj
      rw [Int64.toInt_toInt32, ti_z (by omega) (by omega), e]
      exact Jvm.Kit.bmod32 (by omega) (by omega)
    refine w288_195 ?_
    simp only [↓forall_eq, ↓inB_iff, gK_hU, gL_hU, gR_hU, gIh, gJh, pI_hU, pJ_hU, hU_hU, uI_app, uJ_app, and_true, true_and, and_false, false_and, and_self, true_implies, false_implies, not_true, not_false_iff, if_true, if_false, eq_self, Nat.reduceLeDiff, Nat.reduceEqDiff, reduceCtorEq, i32c, ti0, ti1, tiM, Int.natCast_nonneg, Int.reduceEq, Int.reduceLE, Int.reduceLT, Int.reduceNeg, tl_i, Int32.reduceToInt, Int64.reduceToInt, tiA, tlM6, Int.toNat_natCast, natc, nI_1, Int.zero_sub, implies_true, not_false_eq_true, mf.1, mr_70 mf, mk_90 mf, ml_90 mf, mr_71 mf, mk_91 mf, ml_91 mf, mr_72 mf, mk_92 mf, ml_92 mf, mr_73 mf, mk_93 mf, ml_93 mf, mr_74 mf, mk_94 mf, ml_94 mf, mr_77 mf, mk_97 mf, ml_97 mf, mr_78 mf, mk_98 mf, ml_98 mf, htI, zt, c_sets (show R * C ≤ 12 by omega), pI, Int.lt_irrefl]
    rcases r with ⟨rb, rl⟩ | ⟨rb, rl, r97, rm⟩
    · have k9 := fun I1 => kk I1 b
      rw [rb] at k9 bs'
      have l0 : l6.toInt < 0 := by omega
      refine ⟨fun _ => ?_, fun z => absurd l0 z⟩
      rw [tz (-1) rl (by omega) (by omega)]
      refine k9 _ ⟨fun a h1 h2 => ?_, fun i hi => ⟨?_, ?_⟩⟩ ?_ ?_ bs'
      · rw [uI_ne _ _ _ h1]; exact f.1 a h1 h2
      · rw [uI_app, if_neg (by omega)]; exact (f.2 i hi).1
      · rw [uI_app, if_neg (by omega)]; exact (f.2 i hi).2
      · rw [uI_app, if_neg (by omega)]; exact h98
      · rw [uI_same]; rfl
    · have l0 : ¬ l6.toInt < 0 := by omega
      have nb : ¬ b.1.toInt = -1 := fun e => by
        rw [msk_ti (by omega)] at e; omega
      refine ⟨fun z => absurd z l0, fun _ => ?_⟩
      rw [tz b.2 rl (by omega) (by omega)]
      have k9 := kk I b f h98 (by unfold hidS; rw [if_neg nb]; exact r97) bs'
      unfold hidV at k9
      rw [if_neg nb] at k9
      exact k9
  | succ q ih =>
    intro p I l6 b hp f h98 r bs
    have hp4 : p < 4096 := by omega
    have pI : (nI p).toInt = p := ti_n (by omega)
    have mp : msk (nI p) = p := msk_n (by omega)
    have zp : (p : Int) < ((2 ^ (R * C) : Nat) : Int) := by omega
    have cb := cX_b (v := vvM I0 t) (P := PM) (T := nI p) hv (R * C) (Nat.le_refl _)
    have two : ∀ T, lowS PM (p + 1) T ↔ lowS PM p T ∨ (T = nI p ∧ subB PM T) := fun T => by
      constructor
      · rintro ⟨u1, u2⟩
        by_cases e : msk T = p
        · exact Or.inr ⟨msk_inj (by rw [e, mp]), u1⟩
        · exact Or.inl ⟨u1, by omega⟩
      · rintro (⟨u1, u2⟩ | ⟨u1, u2⟩)
        · exact ⟨u1, by omega⟩
        · exact ⟨u2, by rw [u1, mp]; omega⟩
    have ord : ∀ T1 T2, lowS PM p T1 → (T2 = nI p ∧ subB PM T2) → msk T1 < msk T2 := fun T1 T2 u1 u2 => by rw [u2.1, mp]; exact u1.2
    have lt : (l6.toInt < 0 ∨ cX (vvM I0 t) PM (nI p) (R * C) < l6.toInt) ↔ cX (vvM I0 t) PM (nI p) (R * C) < b.2 := by
      rcases r with ⟨rb, rl⟩ | ⟨rb, rl, -, -⟩
      · rw [rb]; show _ ↔ _ < (2147483647 : Int); exact ⟨fun _ => by omega, fun _ => Or.inl (by omega)⟩
      · rw [rl]; exact ⟨fun z => z.elim (fun y => by omega) (fun y => y), fun z => Or.inr z⟩
    refine w288_195 ?_
    simp only [↓forall_eq, ↓inB_iff, gK_hU, gL_hU, gR_hU, gIh, gJh, pI_hU, pJ_hU, hU_hU, uI_app, uJ_app, and_true, true_and, and_false, false_and, and_self, true_implies, false_implies, not_true, not_false_iff, if_true, if_false, eq_self, Nat.reduceLeDiff, Nat.reduceEqDiff, reduceCtorEq, i32c, ti0, ti1, tiM, Int.natCast_nonneg, Int.reduceEq, Int.reduceLE, Int.reduceLT, Int.reduceNeg, tl_i, Int32.reduceToInt, Int64.reduceToInt, tiA, tlM6, Int.toNat_natCast, natc, nI_1, Int.zero_sub, implies_true, not_false_eq_true, mf.1, mr_70 mf, mk_90 mf, ml_90 mf, mr_71 mf, mk_91 mf, ml_91 mf, mr_72 mf, mk_92 mf, ml_92 mf, mr_73 mf, mk_93 mf, ml_93 mf, mr_74 mf, mk_94 mf, ml_94 mf, mr_77 mf, mk_97 mf, ml_97 mf, mr_78 mf, mk_98 mf, ml_98 mf, c_sets (show R * C ≤ 12 by omega), pI, zp]
    refine m_210s mf mt0 f hp4 (fun z => ?_) (fun z hz s l gd => ?_) (R * C) 0 0 (by omega) rfl
    · rw [h98, lt] at z
      refine ih (p + 1) I l6 b (by omega) f h98 r (best_two bs (Or.inl ⟨rfl, fun T hT hF => ?_⟩) ord two)
      obtain ⟨u1, u2⟩ := hT
      subst u1
      exact Int.not_lt.mp fun y => z ⟨u2, y, hF⟩
    · rw [h98] at hz s l gd
      rw [lt] at l
      refine ih (p + 1) _ z (nI p, cX (vvM I0 t) PM (nI p) (R * C)) (by omega) ⟨fun a h1 h2 => by rw [uI_ne _ _ _ h1]; exact f.1 a h1 h2, fun i hi => ⟨by rw [uI_app, if_neg (by omega)]; exact (f.2 i hi).1, by rw [uI_app, if_neg (by omega)]; exact (f.2 i hi).2⟩⟩ (by rw [uI_app, if_neg (by omega)]; exact h98) (Or.inr ⟨⟨cb.1, by dsimp only; omega⟩, hz, by rw [uI_same], by dsimp only; omega⟩) (best_two bs (Or.inr ⟨⟨rfl, s⟩, gd, rfl, l, fun T hT hF => ?_⟩) ord two)
      obtain ⟨u1, u2⟩ := hT
      subst u1
      exact ⟨Int.le_refl _, fun _ => Nat.le_refl _⟩
abbrev w1M (I : Nat → Nat → Int32) (a t : Nat) : Nat → Int32 := fun k => I a (12 * t + k)
abbrev pmM (I : Nat → Nat → Int32) (t : Nat) (l1 l2 : Int32) : Nat → Bool := pmB (w1M I 92 t) (w1M I 93 t) (w1M I 94 t) l1 l2
theorem m_87 {K : Int32 → aH → Prop} (mf : MF g) (mt : mdT I0 t R C) (kk : ∀ I1 b1, mdF I0 I1 t → I1 98 t = bits (pmM I0 t l1 l2) (R * C) → I1 97 t = hidS (R * C) b1 → hidB (vvM I0 t) (bits (pmM I0 t l1 l2) (R * C)) nd.toInt R C b1 → K (hidV b1) (hU g I1 J)) :
    ∀ (q p : Nat) (I : Nat → Nat → Int32), p + q = R * C → mdF I0 I t → I 98 t = bits (pmM I0 t l1 l2) p → Wp (d + 2) 288 (k87 t (R * C) p l1 l2 nd (hU g I J)) (RI K X) := by
  have mt0 := mt
  obtain ⟨ht, R4, C3, m90, m91, hv⟩ := mt
  have m12 : R * C ≤ 4 * 3 := Nat.mul_le_mul R4.2 C3.2
  have NI : (nI (R * C)).toInt = ((R * C : Nat) : Int) := ti_n (by omega)
  have htI : (nI t).toInt = t := ti_n (by omega)
  have zt : (t : Int) < 12 := by omega
  intro q
  induction q with
  | zero =>
    intro p I hp f h98
    have hpc : p = R * C := by omega
    subst hpc
    refine w288_87 ?_
    simp only [↓forall_eq, ↓inB_iff, gK_hU, gL_hU, gR_hU, gIh, gJh, pI_hU, pJ_hU, hU_hU, uI_app, uJ_app, and_true, true_and, and_false, false_and, and_self, true_implies, false_implies, not_true, not_false_iff, if_true, if_false, eq_self, Nat.reduceLeDiff, Nat.reduceEqDiff, reduceCtorEq, i32c, ti0, ti1, tiM, Int.natCast_nonneg, Int.reduceEq, Int.reduceLE, Int.reduceLT, Int.reduceNeg, tl_i, Int32.reduceToInt, Int64.reduceToInt, tiA, tlM6, Int.toNat_natCast, natc, nI_1, Int.zero_sub, implies_true, not_false_eq_true, mf.1, mr_70 mf, mk_90 mf, ml_90 mf, mr_71 mf, mk_91 mf, ml_91 mf, mr_72 mf, mk_92 mf, ml_92 mf, mr_73 mf, mk_93 mf, ml_93 mf, mr_74 mf, mk_94 mf, ml_94 mf, mr_77 mf, mk_97 mf, ml_97 mf, mr_78 mf, mk_98 mf, ml_98 mf, Int.lt_irrefl]
    refine m_195 mf mt0 (fun i hi => by rw [gB_bits _ (by omega), decide_eq_false (by omega), Bool.false_and]) kk (2 ^ (R * C)) 0 I (-1) (-1, 2147483647) (by omega) f h98 (Or.inl ⟨rfl, rfl⟩) (best_none fun T hT => absurd hT.2 (by omega))
  | succ q ih =>
    intro p I hp f h98
    have pI : (nI p).toInt = p := ti_n (by omega)
    have zp : (p : Int) < ((R * C : Nat) : Int) := by omega
    have x1 : (12 : Int32) * nI t + nI p = nI (12 * t + p) := by rw [show (12 : Int32) = nI 12 from rfl, nI_mul, nI_add]
    have x2 : (nI (12 * t + p)).toInt = ((12 * t + p : Nat) : Int) := ti_n (by omega)
    have x3 : ((12 * t + p : Nat) : Int) < 144 := by omega
    have e92 : I 92 (12 * t + p) = w1M I0 92 t p := by rw [f.1 92 (by decide) (by decide)]
    have e93 : I 93 (12 * t + p) = w1M I0 93 t p := by rw [f.1 93 (by decide) (by decide)]
    have e94 : I 94 (12 * t + p) = w1M I0 94 t p := by rw [f.1 94 (by decide) (by decide)]
    have up : ∀ x, x = bits (pmM I0 t l1 l2) (p + 1) → Wp (d + 2) 288 (k87 t (R * C) (p + 1) l1 l2 nd (hU g (uI I 98 t x) J)) (RI K X) := fun x hx => ih (p + 1) _ (by omega) ⟨fun a h1 h2 => by rw [uI_ne _ _ _ h2]; exact f.1 a h1 h2, fun i hi => ⟨by rw [uI_app, if_neg (by omega)]; exact (f.2 i hi).1, by rw [uI_app, if_neg (by omega)]; exact (f.2 i hi).2⟩⟩ (by rw [uI_same, hx])
    have yes : pmM I0 t l1 l2 p = true → Wp (d + 2) 288 (k87 t (R * C) (p + 1) l1 l2 nd (hU g (uI I 98 t (I 98 t ||| (1 <<< (nI p &&& 31)))) J)) (RI K X) := fun z => up _ (by rw [h98, bits, if_pos z])
    have no : pmM I0 t l1 l2 p = false → Wp (d + 2) 288 (k87 t (R * C) (p + 1) l1 l2 nd (hU g (uI I 98 t (I 98 t ||| 0)) J)) (RI K X) := fun z => up _ (by rw [h98, bits, if_neg (by rw [z]; decide)]; exact gB_ext fun i _ => by rw [gB_or, gB_0, Bool.or_false])
    have k9 : ¬ (0 < (w1M I0 93 t p).toInt ∧ (w1M I0 93 t p).toInt < l1.toInt) → Wp (d + 2) 288 (k125 t (R * C) p l1 l2 nd (hU g I J)) (RI K X) := fun z => by
      have zb : (decide (0 < (w1M I0 93 t p).toInt) && decide ((w1M I0 93 t p).toInt < l1.toInt)) = false := by
        rw [← Bool.decide_and]; exact decide_eq_false z
      unfold pmM pmB at yes no
      rw [zb, Bool.false_or] at yes no
      refine w288_125 ?_
      simp only [↓forall_eq, ↓inB_iff, gK_hU, gL_hU, gR_hU, gIh, gJh, pI_hU, pJ_hU, hU_hU, uI_app, uJ_app, and_true, true_and, and_false, false_and, and_self, true_implies, false_implies, not_true, not_false_iff, if_true, if_false, eq_self, Nat.reduceLeDiff, Nat.reduceEqDiff, reduceCtorEq, i32c, ti0, ti1, tiM, Int.natCast_nonneg, Int.reduceEq, Int.reduceLE, Int.reduceLT, Int.reduceNeg, tl_i, Int32.reduceToInt, Int64.reduceToInt, tiA, tlM6, Int.toNat_natCast, natc, nI_1, Int.zero_sub, implies_true, not_false_eq_true, mf.1, mr_70 mf, mk_90 mf, ml_90 mf, mr_71 mf, mk_91 mf, ml_91 mf, mr_72 mf, mk_92 mf, ml_92 mf, mr_73 mf, mk_93 mf, ml_93 mf, mr_74 mf, mk_94 mf, ml_94 mf, mr_77 mf, mk_97 mf, ml_97 mf, mr_78 mf, mk_98 mf, ml_98 mf, htI, zt, x2, x3, e92, e94]
      exact ⟨fun a => yes (decide_eq_true a), fun a => no (decide_eq_false a)⟩
    refine w288_87 ?_
    simp only [↓forall_eq, ↓inB_iff, gK_hU, gL_hU, gR_hU, gIh, gJh, pI_hU, pJ_hU, hU_hU, uI_app, uJ_app, and_true, true_and, and_false, false_and, and_self, true_implies, false_implies, not_true, not_false_iff, if_true, if_false, eq_self, Nat.reduceLeDiff, Nat.reduceEqDiff, reduceCtorEq, i32c, ti0, ti1, tiM, Int.natCast_nonneg, Int.reduceEq, Int.reduceLE, Int.reduceLT, Int.reduceNeg, tl_i, Int32.reduceToInt, Int64.reduceToInt, tiA, tlM6, Int.toNat_natCast, natc, nI_1, Int.zero_sub, implies_true, not_false_eq_true, mf.1, mr_70 mf, mk_90 mf, ml_90 mf, mr_71 mf, mk_91 mf, ml_91 mf, mr_72 mf, mk_92 mf, ml_92 mf, mr_73 mf, mk_93 mf, ml_93 mf, mr_74 mf, mk_94 mf, ml_94 mf, mr_77 mf, mk_97 mf, ml_97 mf, mr_78 mf, mk_98 mf, ml_98 mf, htI, zt, NI, pI, zp, x1, x2, x3, e93]
    refine ⟨fun a => k9 (fun y => by omega), fun a => ⟨fun b => yes ?_, fun b => k9 (fun y => b y.2)⟩⟩
    unfold pmM pmB
    rw [decide_eq_true (show 0 < (w1M I0 93 t p).toInt by omega), decide_eq_true b]; rfl
end HDM
