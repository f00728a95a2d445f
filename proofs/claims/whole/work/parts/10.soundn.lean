/-! SOUNDNESS, 14: what the abstract machine answers, the machine does -/
section SNE
variable {l : Launch} {s0 : State} {a0 : Array Value} {x : Nat → Nat} {D : va_G} {Lx : Nat} {xs : Nat → Int32}
theorem aG_kill {p : Program} {e : Env} {R : Room} {s : State} {m : MethodId} {args : Array Value} {below : List Frame} {meth : Method} {c : Code} {Q : State → Prop} {n0 t0 pc : Nat} {L : List (Option aV)} {S : List aV} {h : aH} (ks : List Nat)
    (K : aG s0 x D Lx xs p l e R s m args below meth c Q n0 t0 (pc, aKill ks L, S, h)) : aG s0 x D Lx xs p l e R s m args below meth c Q n0 t0 (pc, L, S, h) := by
  intro H locs ls st hr1 hl1 hs1 hq1
  exact K H locs ls st hr1 (lOK_kill hl1) hs1 hq1
theorem aEntry_len {n : Nat} {as : List aV} (h : (aLay as).length ≤ n) : (aEntry n as).length = n := by
  unfold aEntry
  rw [List.length_append, List.length_replicate]
  omega
theorem aRk_quiet {k kind : Nat} (h6 : kind < 6) (h3 : kind ≠ 3) (hk : kind ≠ 0 ∧ kind ≠ 2) : aQuiet (vR (aRk k kind)) = true := by
  rcases (show kind = 1 ∨ kind = 4 ∨ kind = 5 by omega) with rfl | rfl | rfl <;> rfl
theorem a_sound (F : aF0 l s0 a0 x D Lx xs) (X : aEx s0) : ∀ (n d mi : Nat) (cf : aCf) (r : aOut × aH), aRun aPr n d mi cf = some r → mi < 329 →
    ∀ (p : Program) (e : Env) (s : State) (m : MethodId) (args : Array Value) (below : List Frame) (meth : Method) (c : Code) (n0 t0 CC TT : Nat), aMc s0 mi p s m meth c → c.exceptionTable.toList = tableOf (aMt mi).2.2.2.2.2 →
      s.heap.size = s0.heap.size + (n0 - 8) → (∀ q : Nat, q < s0.heap.size → s.heap[q]? = s0.heap[q]?) → 8 ≤ n0 → n0 ≤ gN cf.2.2.2 → t0 ≤ gT cf.2.2.2 → cf.2.1.length = (aMt mi).2.2.2.1 → gN r.2 - n0 ≤ CC → gT r.2 - t0 ≤ TT →
      aG s0 x D Lx xs p l e (aRoom d CC TT) s m args below meth c (aEnd s0 x D Lx xs below args s n0 t0 r) n0 t0 cf := by
  intro n
  induction n with
  | zero => intro d mi cf r hr; simp [aRun] at hr
  | succ n ih =>
    intro d mi cf r hr hmi p e s m args below meth c n0 t0 CC TT M hex hsz hold h8 hn0 ht0 hL hC hT
    obtain ⟨pc, L, S, h⟩ := cf
    have hn0 : n0 ≤ gN h := hn0
    have ht0 : t0 ≤ gT h := ht0
    have hL : L.length = (aMt mi).2.2.2.1 := hL
    rw [aRun] at hr
    have hcode : aPr.1 mi pc = aCode mi pc := rfl
    rw [hcode] at hr
    refine aG_kill (aCode mi pc).2.2.1 ?_
    have hL9 : (aKill (aCode mi pc).2.2.1 L).length = (aMt mi).2.2.2.1 := by rw [aKill_length]; exact hL
    generalize aKill (aCode mi pc).2.2.1 L = L9 at hr hL9 ⊢
    have hok := aCode_ok mi pc
    generalize hE : aCode mi pc = E at hr hok
    rcases hok with hok | hok
    · subst hok
      split at hr
      · cases hr
      · rename_i hs; simp [aStep, aX] at hs
      · rename_i hs; simp [aStep, aX] at hs
      · rename_i hs; simp [aStep, aX] at hs
    split at hr
    · cases hr
    · rename_i cf' hs
      have h1 := aStep_gr hs
      have h2 := aRun_gr _ _ _ _ _ _ hr
      have e1 := h1.2.1
      have e2 := h1.2.2
      exact a_step (R := aRoom d CC TT) M F hok hL9 hn0 ht0 (by show _ ≤ CC; omega) (by show _ ≤ TT; omega) (by show 1 ≤ 20 + d; omega) (by show 60 ≤ 200 + 100 * d; omega) hs
        (ih d mi cf' r hr hmi p e s m args below meth c n0 t0 CC TT M hex hsz hold h8 (by omega) (by omega) (h1.1.trans hL9) hC hT)
    · rename_i k as pc' L' S' h' hs
      obtain ⟨na, S2, e1, e2, e3, e4, e5⟩ := aStep_call hs
      simp only [Prod.mk.injEq] at e1 e2 e4 e5
      obtain ⟨rfl, rfl, rfl, e5h⟩ := e5
      obtain rfl := e5h.symm
      obtain ⟨I, nn, ks, v⟩ := E
      simp only at e1 e4
      subst e1
      obtain ⟨hfn, hdec⟩ := aOKg_dec hok
      rcases hdec with hd9 | ⟨k9, w9, hd9, -⟩ | ⟨i, hd, htr, hlen⟩
      · cases hd9
      · cases hd9
      obtain ⟨j, kind, rr, hf, hna, rfl, hi⟩ := aTr_call htr rfl
      obtain ⟨hk6, hk328, -⟩ := aMl_ok hf
      obtain ⟨-, -, -, -, hno3⟩ := aMk_ok hf
      obtain ⟨-, -, hpl, how, hlo, -, -⟩ := aMe_ok hk328
      have hlen : nn = 3 := by
        rcases (show kind = 0 ∨ kind = 1 ∨ kind = 2 ∨ kind = 3 ∨ kind = 4 ∨ kind = 5 by omega) with rfl | rfl | rfl | rfl | rfl | rfl <;> (subst hi; simpa [iSw, iLen] using hlen)
      subst hlen
      subst hna
      rw [hi] at hd
      split at hr
      · cases hr
      rename_i d
      split at hr
      · cases hr
      rename_i hlay
      have hinf : (aPr.2 k).2.1 = (aMt k).2.2.2.1 := hlo
      rw [hinf] at hlay hr
      have hlay : (aLay as).length ≤ (aMt k).2.2.2.1 := by omega
      have hmet : ∀ out h1, aRun aPr n d k (0, aEntry (aMt k).2.2.2.1 as, [], h) = some (out, h1) → vx_Met l (aMt k).1 [aWd k] (aRoom d (gN h1 - gN h) (gT h1 - gT h)) (aPc s0 x D Lx xs as h) (aQ s0 x D Lx xs (out, h1)) (aX9 s0 x D Lx xs (out, h1)) (gN h1 - gN h) (gT h1 - gT h) (fun q => s0.heap.size ≤ q) := by
        intro out h1 hrun
        refine a_met (r := (out, h1)) F hk328 hlay hpl how ?_
        intro p' e' s' m' args' below' meth' c' M' hex' hsz' hold'
        exact ih d k _ _ hrun (by omega) p' e' s' m' args' below' meth' c' (gN h) (gT h) _ _ M' hex' hsz' hold' (by omega) (Nat.le_refl _) (Nat.le_refl _) (aEntry_len hlay) (Nat.le_refl _) (Nat.le_refl _)
      split at hr
      · cases hr
      · rename_i v h1 hrun
        have g1 := aRun_gr _ _ _ _ _ _ hrun
        have g2 := aRun_gr _ _ _ _ _ _ hr
        obtain ⟨g1a, g1b⟩ := g1
        obtain ⟨g2a, g2b⟩ := g2
        have g1a : gN h ≤ gN h1 := g1a
        have g1b : gT h ≤ gT h1 := g1b
        have g2a : gN h1 ≤ gN r.2 := g2a
        have g2b : gT h1 ≤ gT r.2 := g2b
        refine st_call (out := .inl v) (h1 := h1) (d := d) (CC := CC) (TT := TT) M F hf hd e2 e3 e4 (fun _ => ⟨v, rfl⟩) (hmet _ _ hrun) rfl (by omega) (by omega) g1a g1b hn0 ht0 hL9 ?_ (fun k9 hk9 => by cases hk9)
        intro v' hv'
        cases hv'
        exact ih (d + 1) mi _ r hr hmi p e s m args below meth c n0 t0 CC TT M hex hsz hold h8 (show n0 ≤ gN h1 by omega) (show t0 ≤ gT h1 by omega) hL9 hC hT
      · rename_i k2 h1 hrun
        have g1 := aRun_gr _ _ _ _ _ _ hrun
        obtain ⟨g1a, g1b⟩ := g1
        have g1a : gN h ≤ gN h1 := g1a
        have g1b : gT h ≤ gT h1 := g1b
        split at hr
        · cases hr
        rename_i hq
        have hkd : kind = 0 ∨ kind = 2 := by
          by_cases w : kind = 0 ∨ kind = 2
          · exact w
          · exact (hq (aRk_quiet hk6 hno3 (by omega))).elim
        have hown := M.2.2.2.1
        have hW := M.2.2.2.2.1
        have hlk := M.2.2.2.2.2.2.1
        split at hr
        · rename_i t ht
          have g2 := aRun_gr _ _ _ _ _ _ hr
          obtain ⟨g2a, g2b⟩ := g2
          have g2a : gN h1 ≤ gN r.2 := g2a
          have g2b : gT h1 ≤ gT r.2 := g2b
          refine st_call (out := .inr k2) (h1 := h1) (d := d) (CC := CC) (TT := TT) M F hf hd e2 e3 e4 (fun w => by omega) (hmet _ _ hrun) rfl (by omega) (by omega) g1a g1b hn0 ht0 hL9 (fun v' hv' => by cases hv') ?_
          intro k3 hk3 k0 k5 H' locs' ls rest q ce r1 l1 r2 r3 r4 r5
          cases hk3
          obtain ⟨pre, xe, suf, w1, rfl, w3, w4, ⟨rr9, w5⟩, w6⟩ := aHd_at (aHd_ok hmi) ht
          have hlink := aKl_ok w5
          rw [aKn_exc k0 k5] at hlink
          refine ax_catch (E := aExc k2) (name := aExc k2) hown pre xe suf (hex.trans w1) (fun z hz => ?_) w3 w4 (F.word hlink rfl hW) (va_Nw.use rfl (va_Nw.warmC hW (va_Nw.of rfl (F.1 _ (aEx_cast k0 k5))))) r2 r3 r4 ?_
          · rcases w6 z hz with y1 | ⟨y1, k', rr8, y2, y3, y4, y5⟩
            · exact Or.inl y1
            · have hl2 := aKl_ok y5
              rw [aKn_exc y2 y3] at hl2
              exact Or.inr ⟨y1, aExc k', F.word hl2 rfl hW, va_Nc.moved hW.alike (X _ _ k0 k5 y2 y3 y4)⟩
          · exact ih (d + 1) mi _ r hr hmi p e s m args below meth c n0 t0 CC TT M hex hsz hold h8 (show n0 ≤ gN h1 by omega) (show t0 ≤ gT h1 by omega) hL9 hC hT H' locs' ls [.ref q] r1 l1 ⟨⟨q, rfl⟩, trivial⟩ r5
        · split at hr
          · rename_i hemp
            cases hr
            have hC : gN h1 - n0 ≤ CC := hC
            have hT : gT h1 - t0 ≤ TT := hT
            refine st_call (out := .inr k2) (h1 := h1) (d := d) (CC := CC) (TT := TT) M F hf hd e2 e3 e4 (fun w => by omega) (hmet _ _ hrun) rfl (by omega) (by omega) g1a g1b hn0 ht0 hL9 (fun v' hv' => by cases hv') ?_
            intro k3 hk3 k0 k5 H' locs' ls rest q ce r1 l1 r2 r3 r4 r5
            cases hk3
            have hemp2 : (aPr.2 mi).2.2.2 = [] := by simpa using hemp
            have hnil := aHd_nil (aHd_ok hmi) hemp2
            refine vx_out (E := aExc k2) (fun z hz => ?_) hlk r2 r3 r4 (fun t ht _ => ⟨⟨k2, rfl, rfl, k0, k5⟩, by rw [ht]; exact r1⟩) r5 (Nat.le_refl _) (Nat.le_refl _)
            rw [hex, hnil] at hz
            cases hz
          · cases hr
    · rename_i r' hs
      cases hr
      obtain ⟨I, nn, ks, v⟩ := E
      obtain ⟨hfn, hdec⟩ := aOKg_dec hok
      have hdr : ∀ J, I = J → (J = .ireturn ∨ J = .lreturn ∨ J = .areturn ∨ J = .return_) → decode (aMt mi).2.2.1 pc = .ok (J, 1) := by
        intro J hJ hJr
        subst hJ
        rcases hdec with rfl | ⟨k9, w9, rfl, -⟩ | ⟨i, hd, htr, hlen⟩
        · rcases hJr with w | w | w | w <;> cases w
        · rcases hJr with w | w | w | w <;> cases w
        · have := aTr_ret htr hJr
          subst this
          have : nn = 1 := by rcases hJr with rfl | rfl | rfl | rfl <;> simpa [iSw, iLen] using hlen
          rw [hd, this]
      rcases aStep_end hs with ⟨k, w, e1, rfl, rfl⟩ | ⟨e1, y, rfl, hz, rfl⟩ | ⟨e1, y, rfl, rfl⟩ | ⟨e1, y, rfl, rfl⟩ | ⟨e1, rfl, rfl⟩
      · simp only at e1
        subst e1
        have hthr : aThr (aMt mi).2.1 (aMt mi).2.2.1 pc k w nn = true := by
          rcases hdec with w9 | ⟨k9, w9, w1, w2⟩ | ⟨i, hd, htr, hlen⟩
          · cases w9
          · cases w1; exact w2
          · exact (aTr_thr htr rfl).elim
        have hnil : (aMt mi).2.2.2.2.2 = [] := by simpa [aOKf] using hfn
        have hC : gN h + 1 - n0 ≤ CC := hC
        have hT : gT h + 6 - t0 ≤ TT := hT
        exact st_throw M F hthr M.2.1 hL9 (by show 6 ≤ 20 + d; omega) (by show 100 ≤ 200 + 100 * d; omega) (by rw [hex, hnil]; rfl) h8 hn0 ht0 hC hT hsz hold
      · simp only at e1
        subst e1
        simp only [aOKf, Bool.or_eq_true, Bool.and_eq_true, decide_eq_true_eq] at hfn
        refine st_ireturn M ?_ (hdr _ rfl (Or.inl rfl))
        rcases hfn with w | ⟨w1, w2⟩
        · exact Or.inl w
        · refine Or.inr ⟨w1, ?_⟩
          by_cases q : y &&& 1 = y
          · exact q
          · exact (hz ⟨w2, q⟩).elim
      · simp only at e1
        subst e1
        simp only [aOKf, decide_eq_true_eq] at hfn
        exact st_lreturn M hfn (hdr _ rfl (Or.inr (Or.inl rfl)))
      · simp only at e1
        subst e1
        simp only [aOKf] at hfn
        split at hfn
        · rename_i n9 hq; exact st_areturn M hq (Or.inl ⟨_, rfl⟩) (hdr _ rfl (Or.inr (Or.inr (Or.inl rfl))))
        · rename_i n9 hq; exact st_areturn M hq (Or.inr ⟨_, rfl⟩) (hdr _ rfl (Or.inr (Or.inr (Or.inl rfl))))
        · cases hfn
      · simp only at e1
        subst e1
        simp only [aOKf, decide_eq_true_eq] at hfn
        exact st_vreturn M hfn (hdr _ rfl (Or.inr (Or.inr (Or.inr rfl))))
end SNE
