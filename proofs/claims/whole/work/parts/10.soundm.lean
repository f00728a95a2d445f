/-! SOUNDNESS, 13: lengths and growth; ends and calls; handlers -/
section SND
theorem aKill_length (ks : List Nat) : ∀ L : List (Option aV), (aKill ks L).length = L.length := by
  unfold aKill
  induction ks with
  | nil => intro L; rfl
  | cons k ks ih => intro L; rw [List.foldl_cons, ih, List.length_set]
set_option maxHeartbeats 4000000 in
theorem aStep_gr {z : Bool} {E : aE} {pc : Nat} {L : List (Option aV)} {S : List aV} {h : aH} {cf' : aCf} (hs : aStep z E pc L S h = some (.inl cf')) : cf'.2.1.length = L.length ∧ gN h ≤ gN cf'.2.2.2 ∧ gT h ≤ gT cf'.2.2.2 := by
  obtain ⟨I, nn, ks, v⟩ := E
  cases I <;> simp only [aStep, aBin, aBinL, aUn, aIf, aIf2, aLdI, aStI, aNewA, aGo] at hs <;> (repeat' split at hs) <;> first
    | (cases hs; done)
    | (cases hs; exact ⟨rfl, Nat.le_refl _, Nat.le_refl _⟩)
    | (cases hs; exact ⟨aSet_length _ _ _, Nat.le_refl _, Nat.le_refl _⟩)
    | (cases hs; exact ⟨rfl, Nat.le_succ _, Nat.le_add_right _ _⟩)
    | (cases hs; exact ⟨by rw [List.length_set, aSet_length], Nat.le_refl _, Nat.le_refl _⟩)
set_option maxHeartbeats 4000000 in
theorem aStep_call {z : Bool} {E : aE} {pc : Nat} {L : List (Option aV)} {S : List aV} {h : aH} {q : Nat × List aV × aCf} (hs : aStep z E pc L S h = some (.inr (.inl q))) : ∃ n S', E.1 = .invokeinterface q.1 n ∧ aTop n S = some (q.2.1, S') ∧ aWt S' ≤ 8 ∧ aRcv E.2.2.2 q.2.1 h = true ∧ q.2.2 = (pc + E.2.1, L, S', h) := by
  obtain ⟨I, nn, ks, v⟩ := E
  cases I <;> simp only [aStep, aBin, aBinL, aUn, aIf, aIf2, aLdI, aStI, aNewA, aGo] at hs <;> (repeat' split at hs) <;> first
    | (cases hs; done)
    | (rename_i e1 e2; cases hs; exact ⟨_, _, rfl, e1, e2.1, e2.2, rfl⟩)
/-- how a method ends -/
def aFin (z : Bool) (E : aE) (S : List aV) (h : aH) (r : aOut × aH) : Prop :=
  (∃ k w, E.1 = .multianewarray k w ∧ S = [] ∧ r = (.inr k, gNew h 200 6)) ∨ (E.1 = .ireturn ∧ ∃ y, S = [vI y] ∧ ¬ (z = true ∧ ¬ y &&& 1 = y) ∧ r = (.inl (some (vI y)), h)) ∨
  (E.1 = .lreturn ∧ ∃ y, S = [vL y] ∧ r = (.inl (some (vL y)), h)) ∨ (E.1 = .areturn ∧ ∃ y, S = [vR y] ∧ r = (.inl (some (vR y)), h)) ∨ (E.1 = .return_ ∧ S = [] ∧ r = (.inl none, h))
set_option maxHeartbeats 4000000 in
theorem aStep_end {z : Bool} {E : aE} {pc : Nat} {L : List (Option aV)} {S : List aV} {h : aH} {r : aOut × aH} (hs : aStep z E pc L S h = some (.inr (.inr r))) : aFin z E S h r := by
  obtain ⟨I, nn, ks, v⟩ := E
  cases I <;> simp only [aStep, aBin, aBinL, aUn, aIf, aIf2, aLdI, aStI, aNewA, aGo] at hs <;> (repeat' split at hs) <;> first
    | (cases hs; done)
    | (cases hs; exact Or.inl ⟨_, _, rfl, rfl, rfl⟩)
    | (rename_i e1; cases hs; exact Or.inr (Or.inl ⟨rfl, _, rfl, e1, rfl⟩))
    | (cases hs; exact Or.inr (Or.inr (Or.inl ⟨rfl, _, rfl, rfl⟩)))
    | (cases hs; exact Or.inr (Or.inr (Or.inr (Or.inl ⟨rfl, _, rfl, rfl⟩))))
    | (cases hs; exact Or.inr (Or.inr (Or.inr (Or.inr ⟨rfl, rfl, rfl⟩))))
theorem aFin_gr {z : Bool} {E : aE} {S : List aV} {h : aH} {r : aOut × aH} (hs : aFin z E S h r) : gN h ≤ gN r.2 ∧ gT h ≤ gT r.2 := by
  rcases hs with ⟨k, w, -, -, rfl⟩ | ⟨-, y, -, -, rfl⟩ | ⟨-, y, -, rfl⟩ | ⟨-, y, -, rfl⟩ | ⟨-, -, rfl⟩
  · exact ⟨Nat.le_succ _, Nat.le_add_right _ _⟩
  all_goals exact ⟨Nat.le_refl _, Nat.le_refl _⟩
theorem aRun_gr (P : aPg) : ∀ (n d mi : Nat) (cf : aCf) (r : aOut × aH), aRun P n d mi cf = some r → gN cf.2.2.2 ≤ gN r.2 ∧ gT cf.2.2.2 ≤ gT r.2 := by
  intro n
  induction n with
  | zero => intro d mi cf r h; simp [aRun] at h
  | succ n ih =>
    intro d mi cf r hr
    obtain ⟨pc, L, S, h⟩ := cf
    rw [aRun] at hr
    split at hr
    · cases hr
    · rename_i cf' hs
      have h1 := aStep_gr hs
      have h2 := ih _ _ _ _ hr
      exact ⟨Nat.le_trans h1.2.1 h2.1, Nat.le_trans h1.2.2 h2.2⟩
    · rename_i k as pc' L' S' h' hs
      obtain ⟨na, S2, e1, e2, e3, e4, e5⟩ := aStep_call hs
      simp only [Prod.mk.injEq] at e5
      obtain ⟨rfl, rfl, rfl, rfl⟩ := e5
      split at hr
      · cases hr
      · split at hr
        · cases hr
        · split at hr
          · cases hr
          · rename_i h1
            have g1 := ih _ _ _ _ h1
            have g2 := ih _ _ _ _ hr
            exact ⟨Nat.le_trans g1.1 g2.1, Nat.le_trans g1.2 g2.2⟩
          · rename_i h1
            have g1 := ih _ _ _ _ h1
            split at hr
            · cases hr
            · split at hr
              · have g2 := ih _ _ _ _ hr
                exact ⟨Nat.le_trans g1.1 g2.1, Nat.le_trans g1.2 g2.2⟩
              · split at hr
                · cases hr; exact g1
                · cases hr
    · rename_i r' hs
      cases hr
      exact aFin_gr (aStep_end hs)
set_option maxHeartbeats 4000000 in
theorem aTr_ret {o pc : Nat} {i I : Instr} {v : aV} (h : aTr o pc i = some (I, v)) (hI : I = .ireturn ∨ I = .lreturn ∨ I = .areturn ∨ I = .return_) : i = I := by
  cases i <;> simp only [aTr, aTyI, aJmp] at h <;> (repeat' split at h) <;> first
    | (cases h; done)
    | (cases h; rcases hI with hI | hI | hI | hI <;> first | (cases hI; done) | rfl)
set_option maxHeartbeats 4000000 in
theorem aTr_call {o pc k n : Nat} {i I : Instr} {v : aV} (h : aTr o pc i = some (I, v)) (hI : I = .invokeinterface k n) : ∃ j kind rr, aFind aMl o j = some (k, kind, rr) ∧ n = (aInf k).1 ∧ v = vR (aRk k kind) ∧ i = (if kind % 3 = 0 then .invokevirtual j else if kind % 3 = 1 then .invokespecial j else .invokestatic j) := by
  cases i <;> simp only [aTr, aTyI, aJmp] at h <;> (repeat' split at h) <;> first
    | (cases h; done)
    | (cases h; cases hI; done)
    | (cases h; cases hI; refine ⟨_, _, _, by assumption, rfl, rfl, rfl⟩)
set_option maxHeartbeats 4000000 in
theorem aTr_thr {o pc k w : Nat} {i I : Instr} {v : aV} (h : aTr o pc i = some (I, v)) (hI : I = .multianewarray k w) : False := by
  cases i <;> simp only [aTr, aTyI, aJmp] at h <;> (repeat' split at h) <;> first
    | (cases h; done)
    | (cases h; cases hI; done)
/-- a method's table of handlers, by the class file's and by mine -/
def aHdB (own : Nat) (hs ks : List (Nat × Nat × Nat × Nat)) : Bool := match hs, ks with
  | [], [] => true
  | (a, b, t, ct) :: hs, (a', b', t', k) :: ks => decide (a = a' ∧ b = b' ∧ t = t' ∧ ct ≠ 0 ∧ 0 < k ∧ k < 5) && decide ((aFind aKl own ct).map (fun q => q.1) = some (200 + k)) && aHdB own hs ks
  | _, _ => false
set_option maxRecDepth 100000 in
theorem aHd_all : (List.range 329).all (fun mi => aHdB (aMt mi).2.1 (aMt mi).2.2.2.2.2 (aInf mi).2.2.2) = true := by decide +kernel
theorem aHd_ok {mi : Nat} (h : mi < 329) : aHdB (aMt mi).2.1 (aMt mi).2.2.2.2.2 (aInf mi).2.2.2 = true := List.all_eq_true.mp aHd_all mi (List.mem_range.mpr h)
theorem aHd_nil {own : Nat} {hs ks : List (Nat × Nat × Nat × Nat)} (h : aHdB own hs ks = true) (hk : ks = []) : hs = [] := by
  subst hk
  cases hs with
  | nil => rfl
  | cons a hs => simp [aHdB] at h
theorem aHd_at {own pc k t : Nat} : ∀ {hs ks : List (Nat × Nat × Nat × Nat)}, aHdB own hs ks = true → aHand ks pc k = some t →
    ∃ pre x suf, tableOf hs = pre ++ x :: suf ∧ x.handlerPc = t ∧ covers x pc = true ∧ x.catchType ≠ 0 ∧ (∃ r, aFind aKl own x.catchType = some (200 + k, r)) ∧
      ∀ y ∈ pre, covers y pc = false ∨ (y.catchType ≠ 0 ∧ ∃ k' r, 0 < k' ∧ k' < 5 ∧ k' ≠ k ∧ aFind aKl own y.catchType = some (200 + k', r)) := by
  intro hs
  induction hs with
  | nil =>
    intro ks h ht
    cases ks with
    | nil => simp [aHand] at ht
    | cons a ks => simp [aHdB] at h
  | cons q hs ih =>
    intro ks h ht
    cases ks with
    | nil => simp [aHdB] at h
    | cons q' ks =>
      obtain ⟨a, b, t1, ct⟩ := q
      obtain ⟨a', b', t', k'⟩ := q'
      simp only [aHdB, Bool.and_eq_true, decide_eq_true_eq] at h
      obtain ⟨⟨⟨rfl, rfl, rfl, h0, hk0, hk5⟩, hf⟩, h3⟩ := h
      have hf2 : ∃ r, aFind aKl own ct = some (200 + k', r) := by
        cases hq : aFind aKl own ct with
        | none => rw [hq] at hf; cases hf
        | some q => rw [hq] at hf; simp at hf; exact ⟨q.2, by rw [← hf]⟩
      rw [aHand] at ht
      have htab : tableOf ((a, b, t1, ct) :: hs) = ⟨a, b, t1, ct⟩ :: tableOf hs := rfl
      split at ht
      · rename_i hc
        obtain ⟨c1, c2, rfl⟩ := hc
        cases ht
        refine ⟨[], _, tableOf hs, htab, rfl, ?_, h0, hf2, fun y hy => by cases hy⟩
        simp only [covers, Bool.and_eq_true, decide_eq_true_eq]
        exact ⟨c1, c2⟩
      · rename_i hc
        obtain ⟨pre, x, suf, g1, g2, g3, g4, g5, g6⟩ := ih h3 ht
        refine ⟨⟨a, b, t1, ct⟩ :: pre, x, suf, by rw [htab, g1]; rfl, g2, g3, g4, g5, fun y hy => ?_⟩
        rcases List.mem_cons.mp hy with rfl | hy
        · by_cases hcov : covers (⟨a, b, t1, ct⟩ : ExceptionTableEntry) pc = true
          · refine Or.inr ⟨h0, k', ?_⟩
            obtain ⟨r, hr⟩ := hf2
            refine ⟨r, hk0, hk5, fun e => hc ?_, hr⟩
            simp only [covers, Bool.and_eq_true, decide_eq_true_eq] at hcov
            exact ⟨hcov.1, hcov.2, e⟩
          · exact Or.inl (by simpa using hcov)
        · exact g6 y hy
/-- exceptions: which class is which -/
def aEx (s0 : State) : Prop := ∀ j k, 0 < j → j < 5 → 0 < k → k < 5 → k ≠ j → va_Nc (aExc j) (aExc k) s0
theorem aEx_cast {k : Nat} (h0 : 0 < k) (h5 : k < 5) : Cond.castable (aExc k) (aExc k) ∈ lw_tbl := by
  rcases (show k = 1 ∨ k = 2 ∨ k = 3 ∨ k = 4 by omega) with rfl | rfl | rfl | rfl
  · exact aAt_mem (p := 422) (by decide +kernel)
  · exact aAt_mem (p := 606) (by decide +kernel)
  · exact aAt_mem (p := 570) (by decide +kernel)
  · exact aAt_mem (p := 502) (by decide +kernel)
end SND
