/-! THE LAW: what a run keeps; a run that may go deeper -/
section LW0
/-- kinds and lengths stay; what lies below 8 stays -/
def kpS (h h1 : aH) : Prop := gN h ≤ gN h1 ∧ (∀ a, a < gN h → gK h1 a = gK h a ∧ gL h1 a = gL h a) ∧ ∀ a, a < 8 → ∀ i, gI h1 a i = gI h a i
theorem kpS_refl (h : aH) : kpS h h := ⟨Nat.le_refl _, fun _ _ => ⟨rfl, rfl⟩, fun _ _ _ => rfl⟩
theorem kpS_tr {h h1 h2 : aH} (t : kpS h h1) (u : kpS h1 h2) : kpS h h2 := ⟨Nat.le_trans t.1 u.1, fun a ha => ⟨(u.2.1 a (by have := t.1; omega)).1.trans (t.2.1 a ha).1, (u.2.1 a (by have := t.1; omega)).2.trans (t.2.1 a ha).2⟩, fun a ha i => (u.2.2 a ha i).trans (t.2.2 a ha i)⟩
theorem kpS_pI {h : aH} {a i : Nat} {x : Int32} (ha : 8 ≤ a) : kpS h (pI h a i x) := ⟨Nat.le_refl _, fun _ _ => ⟨rfl, rfl⟩, fun b hb j => by rw [gI_pI, if_neg (by omega)]⟩
theorem kpS_pJ {h : aH} {a i : Nat} {x : Int64} : kpS h (pJ h a i x) := ⟨Nat.le_refl _, fun _ _ => ⟨rfl, rfl⟩, fun _ _ _ => rfl⟩
theorem kpS_pR {h : aH} {a i x : Nat} : kpS h (pR h a i x) := ⟨Nat.le_refl _, fun _ _ => ⟨rfl, rfl⟩, fun _ _ _ => rfl⟩
theorem kpS_new {h : aH} {k n : Nat} (hN : 8 ≤ gN h) : kpS h (gNew h k n) := ⟨by rw [gN_gNew]; omega, fun a ha => by rw [gK_gNew, gL_gNew, if_neg (by omega), if_neg (by omega)]; exact ⟨rfl, rfl⟩, fun a ha i => by rw [gI_gNew, if_neg (by omega)]⟩
theorem kpS_cI {h : aH} {a i b j n : Nat} (hb : 8 ≤ b) : kpS h (gCopyI h a i b j n) := ⟨Nat.le_refl _, fun _ _ => ⟨rfl, rfl⟩, fun c hc k => if_neg (by omega)⟩
theorem kpS_cR {h : aH} {a i b j n : Nat} : kpS h (gCopyR h a i b j n) := ⟨Nat.le_refl _, fun _ _ => ⟨rfl, rfl⟩, fun _ _ _ => rfl⟩
def outH (r : aSt) : aH := match r with
  | .inl cf => cf.2.2.2
  | .inr (.inl q) => q.2.2.2.2.2
  | .inr (.inr q) => q.2
theorem aGo_o {pc : Nat} {L : List (Option aV)} {S : List aV} {h h0 : aH} {r : aSt} (e : aGo pc L S h = some r) (k : kpS h0 h) : kpS h0 (outH r) := by
  unfold aGo at e
  cases e
  exact k
theorem aStep_kp {z : Bool} {E : aE} {pc : Nat} {L : List (Option aV)} {S : List aV} {h : aH} {r : aSt} (hN : 8 ≤ gN h) (e : aStep z E pc L S h = some r) : kpS h (outH r) := by
  have k0 := kpS_refl h
  unfold aStep at e
  split at e
  all_goals (try (first | exact aGo_o e k0 | (cases e; done)))
  all_goals (try (simp only [aBin, aBinL, aUn, aIf, aIf2, aLdI, aStI, aNewA] at e))
  all_goals (repeat' split at e)
  all_goals (first
    | (cases e; done)
    | exact aGo_o e k0
    | (rename_i hh; exact aGo_o e (kpS_pI hh.1))
    | (rename_i hh _; exact aGo_o e (kpS_pI hh.1))
    | exact aGo_o e kpS_pJ
    | exact aGo_o e kpS_pR
    | exact aGo_o e (kpS_new hN)
    | (exact aGo_o e (kpS_tr (kpS_new hN) (kpS_cI hN)))
    | (rename_i hh _; exact aGo_o e (kpS_cI hh.2.2.1))
    | (exact aGo_o e kpS_cR)
    | (cases e; exact k0)
    | (cases e; exact kpS_new hN))
theorem aRun_kp (P : aPg) : ∀ (n d mi : Nat) (cf : aCf) (r : aOut × aH), aRun P n d mi cf = some r → 8 ≤ gN cf.2.2.2 → kpS cf.2.2.2 r.2 := by
  intro n
  induction n with
  | zero => intro d mi cf r h; simp [aRun] at h
  | succ n ih =>
    intro d mi cf r h hN
    obtain ⟨pc, L, S, hp⟩ := cf
    rw [aRun] at h
    have st := fun (s : aSt) (e : aStep (P.2 mi).2.2.1 (P.1 mi pc) pc (aKill (P.1 mi pc).2.2.1 L) S hp = some s) => aStep_kp hN e
    split at h
    · cases h
    · rename_i cf1 e
      have k := st _ e
      exact kpS_tr k (ih _ _ _ _ h (Nat.le_trans hN k.1))
    · rename_i k as pc' L' S' h' e
      have k1 := st _ e
      have N1 : 8 ≤ gN h' := Nat.le_trans hN k1.1
      split at h
      · cases h
      · split at h
        · cases h
        split at h
        · cases h
        · rename_i h1
          have k2 := ih _ _ _ _ h1 N1
          have k3 := ih _ _ _ _ h (Nat.le_trans N1 k2.1)
          exact kpS_tr k1 (kpS_tr k2 k3)
        · rename_i h1
          have k2 := ih _ _ _ _ h1 N1
          split at h
          · cases h
          · split at h
            · have k3 := ih _ _ _ _ h (Nat.le_trans N1 k2.1)
              exact kpS_tr k1 (kpS_tr k2 k3)
            · split at h
              · cases h
                exact kpS_tr k1 k2
              · cases h
    · rename_i r1 e
      cases h
      exact st _ e
theorem aRun_md (P : aPg) : ∀ (n d mi : Nat) (cf : aCf) (r : aOut × aH), aRun P n d mi cf = some r → aRun P n (d + 1) mi cf = some r := by
  intro n
  induction n with
  | zero => intro d mi cf r h; simp [aRun] at h
  | succ n ih =>
    intro d mi cf r h
    obtain ⟨pc, L, S, hp⟩ := cf
    rw [aRun] at h ⊢
    split at h
    · cases h
    · exact ih _ _ _ _ h
    · split at h
      · cases h
      · rename_i d
        split at h
        · cases h
        rename_i hlay
        rw [if_neg hlay]
        split at h
        · cases h
        · rename_i h1
          rw [ih _ _ _ _ h1]
          exact ih _ _ _ _ h
        · rename_i h1
          rw [ih _ _ _ _ h1]
          dsimp only
          split at h
          · cases h
          · rename_i hq
            rw [if_neg hq]
            split at h
            · exact ih _ _ _ _ h
            · exact h
    · exact h
variable {d k : Nat} {as : List aV} {h : aH} {K : Int32 → aH → Prop} {X : Nat → aH → Prop}
theorem CI_d (H : CI d k as h K X) : CI (d + 1) k as h K X := by
  obtain ⟨n, r, h1, h2⟩ := H
  exact ⟨n, r, aRun_md _ _ _ _ _ _ h1, h2⟩
theorem CI_kp (H : CI d k as h K X) (hN : 8 ≤ gN h) : CI d k as h (fun y h1 => K y h1 ∧ kpS h h1) (fun x h1 => X x h1 ∧ kpS h h1) := by
  obtain ⟨n, r, h1, h2⟩ := H
  have kp := aRun_kp _ _ _ _ _ _ h1 hN
  refine ⟨n, r, h1, ?_⟩
  rcases h2 with ⟨y, e, q⟩ | ⟨x, e, q⟩
  · exact Or.inl ⟨y, e, q, kp⟩
  · exact Or.inr ⟨x, e, q, kp⟩
end LW0
