/-! SOUNDNESS, 11: the calls themselves -/
section SNB
variable {l : Launch} {s0 : State} {a0 : Array Value} {x : Nat → Nat} {D : va_G} {Lx : Nat} {xs : Nat → Int32}
variable {p : Program} {e : Env} {R : Room} {s : State} {m : MethodId} {args : Array Value} {below : List Frame} {meth : Method} {c : Code} {Q : State → Prop} {n0 t0 mi pc : Nat} {L : List (Option aV)} {S : List aV} {h : aH}
theorem aRcv_own {k : Nat} {as : List aV} (hk : k ≠ 0) (hk2 : k ≠ 97) (hr : aRcv (vR k) as h = true) : ∃ a as', as = vR a :: as' ∧ 8 ≤ a ∧ (k = 99 ∨ gK h a = k) := by
  unfold aRcv at hr
  split at hr
  · rename_i e1; cases e1; exact (hk rfl).elim
  · rename_i e1; cases e1; exact (hk2 rfl).elim
  · rename_i rk e1 e2 e3
    cases e3
    split at hr
    · rename_i a as'
      simp only [Bool.and_eq_true, Bool.or_eq_true, decide_eq_true_eq] at hr
      exact ⟨a, as', rfl, hr.1, hr.2⟩
    · cases hr
  · cases hr
theorem aRk_v {k : Nat} (hany : (List.range 15).any (fun c => decide (0 < c ∧ (aCl.getD c ("", kT0, 0)).1 = (aMt k).1.cls)) = true) : 0 < aRk k 0 ∧ aRk k 0 < 15 ∧ (aCl.getD (aRk k 0) ("", kT0, 0)).1 = (aMt k).1.cls := by
  unfold aRk
  rw [if_neg (by decide), if_neg (by decide), if_neg (by decide)]
  cases hq : (List.range 15).find? (fun c => decide (0 < c) && decide ((aCl.getD c ("", kT0, 0)).1 = (aMt k).1.cls)) with
  | none =>
    exfalso
    obtain ⟨c, hc1, hc2⟩ := List.any_eq_true.mp hany
    have := List.find?_eq_none.mp hq c hc1
    simp only [Bool.and_eq_true, decide_eq_true_eq] at this hc2
    exact this hc2
  | some q =>
    have h1 := List.find?_some hq
    have h2 := List.mem_range.mp (List.mem_of_find?_eq_some hq)
    simp only [Bool.and_eq_true, decide_eq_true_eq] at h1
    exact ⟨h1.1, h2, h1.2⟩
theorem st_call (M : aMc s0 mi p s m meth c) (F : aF0 l s0 a0 x D Lx xs) {j k kind d CC TT : Nat} {rr : Nat × Nat × Nat × Nat × Nat} {as S' : List aV} {out : aOut} {h1 : aH} (hf : aFind aMl (aMt mi).2.1 j = some (k, kind, rr))
    (hd : decode (aMt mi).2.2.1 pc = .ok ((if kind % 3 = 0 then .invokevirtual j else if kind % 3 = 1 then .invokespecial j else .invokestatic j), 3)) (htop : aTop (aInf k).1 S = some (as, S')) (hw : aWt S' ≤ 8) (hrcv : aRcv (vR (aRk k kind)) as h = true) (hquiet : (kind ≠ 0 ∧ kind ≠ 2) → ∃ v, out = .inl v)
    (hM : vx_Met l (aMt k).1 [aWd k] (aRoom d (gN h1 - gN h) (gT h1 - gT h)) (aPc s0 x D Lx xs as h) (aQ s0 x D Lx xs (out, h1)) (aX9 s0 x D Lx xs (out, h1)) (gN h1 - gN h) (gT h1 - gT h) (fun q => s0.heap.size ≤ q))
    (hR : R = aRoom (d + 1) CC TT) (hC : gN h1 - n0 ≤ CC) (hT9 : gT h1 - t0 ≤ TT) (g1 : gN h ≤ gN h1) (g2 : gT h ≤ gT h1) (g3 : n0 ≤ gN h) (g4 : t0 ≤ gT h) (hL9 : L.length = (aMt mi).2.2.2.1)
    (Kr : ∀ v, out = .inl v → aG s0 x D Lx xs p l e R s m args below meth c Q n0 t0 (pc + 3, L, v.toList ++ S', h1))
    (Kx : ∀ k, out = .inr k → 0 < k → k < 5 → ∀ (H' : Heap) (locs' : List Loc) (ls : Array Slot) (rest : List Value) (q : Addr) (ce : Cell), aRep s0.heap.size x D s0.heap Lx xs h1 H' → lOK s0.heap.size x L ls → H'[q]? = some ce → ce.vm = .none → s.vm.findClass (aExc k) = some ce.cls → (∀ q ∈ locs', s0.heap.size ≤ q.base) → vx_W p l e R s m args below meth c H' locs' (gN h1 - n0) (gT h1 - t0) Q (F0 m pc ls rest) q) :
    aG s0 x D Lx xs p l e R s m args below meth c Q n0 t0 (pc, L, S, h) := by
  obtain ⟨hx, hb, hml, hown, hW, hr, hlk, hnm⟩ := M
  intro H locs ls st hr1 hl1 hs1 hq1
  have hr1 : aRep s0.heap.size x D s0.heap Lx xs h H := hr1
  obtain ⟨vs, rest, rfl, hvs, hs3, hlen⟩ := sOK_top htop hs1
  obtain ⟨hk6, hk328, hlink, hins, hini, hsel⟩ := aMl_ok hf
  obtain ⟨hnargs, hinit, hhand, hany, hno3⟩ := aMk_ok hf
  obtain ⟨e1, e2, e3, e4, e5, e6, e7⟩ := aMe_ok hk328
  have hwt := sOK_wt hs3
  have hsz : (F0 m pc ls (vs.reverse ++ rest)).locals.size = (aMt mi).2.2.2.1 := by show ls.size = _; rw [hl1.1]; exact hL9
  have hW8 : 2 * (F0 m pc ls (vs.reverse ++ rest)).monitorRoom + (rest.map fun v => v.category).sum ≤ 8 := by show 2 * 0 + _ ≤ 8; omega
  have hws : ∀ w ∈ [aWd k], ∀ (a' : Array Value) (U : State), s.WarmedH U.vm → w.before a' U = true := by
    intro w hw9 a' U hU
    rw [List.mem_singleton.mp hw9]
    exact F.word (aWd_ok k hk328) (aWd_good k) (State.WarmedH.trans hW hU)
  have hcw : (aWd k).before args s = true := F.word (aWd_ok k hk328) (aWd_good k) hW
  have hcells : gN h - n0 + (gN h1 - gN h) ≤ R.cells ∧ gT h - t0 + (gT h1 - gT h) ≤ R.slots := by rw [hR]; show _ ≤ CC ∧ _ ≤ TT; omega
  have hfr : (aRoom d (gN h1 - gN h) (gT h1 - gT h)).frames + 1 ≤ R.frames := by rw [hR]; show 20 + d + 1 ≤ 20 + (d + 1); omega
  have hlo : 8 + ((aMt k).2.2.2.1 + 11) + (aRoom d (gN h1 - gN h) (gT h1 - gT h)).locals ≤ R.locals := by rw [hR]; show 8 + (_ + 11) + (200 + 100 * d) ≤ 200 + 100 * (d + 1); omega
  have hfix : CallFix p m c (aMt mi).2.2.1 (aMt mi).2.2.2.1 s args [] (aOw (aMt mi).2.1) := ⟨hx, hb, hml, hown, fun w hw9 => by cases hw9⟩
  have hpc : ∀ U : State, U.heap = H → s.WarmedH U.vm → aPc s0 x D Lx xs as h vs.toArray U := fun U hU hWU => ⟨vs, rfl, hvs, State.WarmedH.trans hW hWU, by rw [hU]; exact hr1⟩
  have hsig : ∀ (n : Nat), (aInf k).1 = (if kind % 3 = 2 then 0 else 1) + n → ∀ sig, parseMethodDescriptor (aMt k).1.desc = some sig → n = sig.parameters.length := by
    intro n hn sig hs9
    rw [hs9] at hnargs
    simp only [Option.map_some, Option.getD_some] at hnargs
    omega
  have hmet : (kind ≠ 0 ∧ kind ≠ 2) → Met l (aMt k).1 [aWd k] (aRoom d (gN h1 - gN h) (gT h1 - gT h)) (aPc s0 x D Lx xs as h) (aQ s0 x D Lx xs (out, h1)) (gN h1 - gN h) (gT h1 - gT h) (fun q => s0.heap.size ≤ q) := by
    intro hk9
    obtain ⟨v, hv⟩ := hquiet hk9
    refine met_of_vx hM fun E st t hX => ?_
    obtain ⟨⟨k2, hk2, -⟩, -⟩ := hX
    simp only at hk2
    rw [hv] at hk2
    cases hk2
  have hcode : (aMt k).2.2.2.2.2 = [] → aWd k = .code (aMt k).1 (aMt k).2.2.1 (aMt k).2.2.2.1 (aMt k).2.2.2.2.1 := fun e9 => by unfold aWd; rw [e9]
  refine a_after (rest := rest) (S' := S') (arr := vs.toArray) ?_ g1 g2 g3 g4 hl1 hs3 hq1 Kr (fun k2 w1 w2 w3 H' locs' q ce r1 r2 r3 r4 r5 => Kx k2 w1 w2 w3 H' locs' ls rest q ce r1 hl1 r2 r3 r4 r5)
  rcases (show kind = 0 ∨ kind = 1 ∨ kind = 2 ∨ kind = 3 ∨ kind = 4 ∨ kind = 5 by omega) with rfl | rfl | rfl | rfl | rfl | rfl
  · -- virtual
    have hh := hhand.resolve_left (by decide)
    have hc9 := hcode hh
    rw [if_neg (by decide)] at hlink hins
    obtain ⟨rk1, rk2, rk3⟩ := aRk_v (hany (by decide))
    obtain ⟨a, as', rfl, ha, hk9⟩ := aRcv_own (by omega) (by omega) hrcv
    have hka : gK h a = aRk k 0 := hk9.resolve_left (by omega)
    obtain ⟨v, As, rfl, hv, hAs⟩ := sOK_cons hvs
    have hv : v = rv s0.heap.size x a := hv
    rw [rv_own ha] at hv
    subst hv
    have hC9 : ∃ q, aCl[aRk k 0]? = some q := ⟨_, List.getElem?_eq_getElem (by rw [aCl_len]; exact rk2)⟩
    obtain ⟨⟨C, T, N⟩, hC9⟩ := hC9
    rw [List.getD_eq_getElem?_getD, hC9] at rk3
    have rk3 : C = (aMt k).1.cls := rk3
    have hcell := hr1.cell hka rk1 (by omega)
    rw [← hka] at hC9 rk1 rk2
    obtain ⟨cell, q1, q2, q3, q4⟩ := hcell.2.2.2.2.2.2 _ rk1 (by omega) hC9
    rw [adr_own ha] at q1
    have hKn := F.kn rk1 hC9 hW
    rw [rk3] at hKn
    refine vx_runV (ret := (aMt k).2.2.2.2.1) (bytes := (aMt k).2.2.1) (maxL := (aMt k).2.2.2.1) (As := As) (n := As.length) hfix hM ⟨⟨rfl, rfl, hfr, hlo, hws, by rw [hc9]; exact List.mem_singleton.mpr rfl, by rw [← hc9]; exact hcw, F.word hini rfl hW, e2, hsig _ (by rw [← hlen]; simp; omega), F.word hlink rfl hW⟩, F.word hins rfl hW, F.word (hsel (by decide)) rfl hW⟩
      ⟨aPc_blind, ⟨cell, q1, by rw [q3]; rfl, by rw [q2]; exact hKn.2.1⟩, hpc⟩ rfl rfl hsz (by show _ = _; simp) hW8 hd hcells
  · -- a constructor
    have hh := hhand.resolve_left (by decide)
    have hc9 := hcode hh
    obtain ⟨hi1, hi2⟩ := hinit (by decide)
    rw [if_neg (by decide)] at hlink hins
    obtain ⟨a, as', rfl, ha, -⟩ := aRcv_own (k := aRk k 1) (by rw [show aRk k 1 = 99 from rfl]; decide) (by rw [show aRk k 1 = 99 from rfl]; decide) hrcv
    obtain ⟨v, As, rfl, hv, hAs⟩ := sOK_cons hvs
    have hv : v = rv s0.heap.size x a := hv
    rw [rv_own ha] at hv
    subst hv
    rw [hi2] at hc9
    refine vx_of_va (va_runI (bytes := (aMt k).2.2.1) (maxL := (aMt k).2.2.2.1) (As := As) (n := As.length) hfix (hmet (by decide)) ⟨⟨rfl, rfl, hfr, hlo, hws, by rw [hc9]; exact List.mem_singleton.mpr rfl, by rw [← hc9]; exact hcw, F.word hini rfl hW, e2, hsig _ (by rw [← hlen]; simp; omega), F.word hlink rfl hW⟩, hi1, F.word hins rfl hW⟩
      ⟨aPc_blind, hpc⟩ rfl rfl hsz (by show _ = _; simp) hW8 hd hcells)
  · -- static
    rw [if_neg (by decide)] at hlink
    rw [if_pos (by decide)] at hins
    by_cases hh : (aMt k).2.2.2.2.2 = []
    · have hc9 := hcode hh
      exact vx_runS (ret := (aMt k).2.2.2.2.1) (bytes := (aMt k).2.2.1) (maxL := (aMt k).2.2.2.1) (As := vs) (n := vs.length) hfix hM ⟨⟨rfl, rfl, hfr, hlo, hws, by rw [hc9]; exact List.mem_singleton.mpr rfl, by rw [← hc9]; exact hcw, F.word hini rfl hW, e2, hsig _ (by rw [← hlen]; simp), F.word hlink rfl hW⟩, F.word hins rfl hW⟩
        ⟨aPc_blind, hpc⟩ rfl rfl hsz rfl hW8 hd hcells
    · have hc9 : aWd k = .codeWith (aMt k).1 (aMt k).2.2.1 (aMt k).2.2.2.1 (aMt k).2.2.2.2.1 (aMt k).2.2.2.2.2 := by
        unfold aWd
        split
        · rename_i w; exact (hh w).elim
        · rename_i w; rw [w]
      exact vx_runSX (ret := (aMt k).2.2.2.2.1) (bytes := (aMt k).2.2.1) (maxL := (aMt k).2.2.2.1) (hh := (aMt k).2.2.2.2.2) (As := vs) (n := vs.length) hfix hM ⟨⟨rfl, rfl, hfr, hlo, hws, by rw [hc9]; exact List.mem_singleton.mpr rfl⟩, by rw [← hc9]; exact hcw, F.word hini rfl hW, e2, hsig _ (by rw [← hlen]; simp), F.word hlink rfl hW, F.word hins rfl hW⟩
        ⟨aPc_blind, hpc⟩ rfl rfl hsz rfl hW8 hd hcells
  · exact (hno3 rfl).elim
  · -- a constructor by a nest
    have hh := hhand.resolve_left (by decide)
    have hc9 := hcode hh
    obtain ⟨hi1, hi2⟩ := hinit (by decide)
    rw [if_pos (by decide)] at hlink
    rw [if_neg (by decide)] at hins
    obtain ⟨a, as', rfl, ha, -⟩ := aRcv_own (k := aRk k 4) (by rw [show aRk k 4 = 99 from rfl]; decide) (by rw [show aRk k 4 = 99 from rfl]; decide) hrcv
    obtain ⟨v, As, rfl, hv, hAs⟩ := sOK_cons hvs
    have hv : v = rv s0.heap.size x a := hv
    rw [rv_own ha] at hv
    subst hv
    rw [hi2] at hc9
    refine vx_of_va (va_runIN (bytes := (aMt k).2.2.1) (maxL := (aMt k).2.2.2.1) (As := As) (n := As.length) (host := "CensusOffice") hfix (hmet (by decide)) ⟨⟨⟨rfl, rfl, hfr, hlo, hws, by rw [hc9]; exact List.mem_singleton.mpr rfl⟩, by rw [← hc9]; exact hcw, F.word hini rfl hW, e2, hsig _ (by rw [← hlen]; simp; omega), va_Nw.use rfl (va_Nw.warmM hW (va_Nw.of rfl (F.1 _ hlink)))⟩, hi1, F.word hins rfl hW⟩
      ⟨aPc_blind, hpc⟩ rfl rfl hsz (by show _ = _; simp) hW8 hd hcells)
  · -- static by a nest
    have hh := hhand.resolve_left (by decide)
    have hc9 := hcode hh
    rw [if_pos (by decide)] at hlink
    rw [if_pos (by decide)] at hins
    refine vx_of_va (va_runSN (ret := (aMt k).2.2.2.2.1) (bytes := (aMt k).2.2.1) (maxL := (aMt k).2.2.2.1) (As := vs) (n := vs.length) (host := "CensusOffice") hfix (hmet (by decide)) ⟨⟨⟨rfl, rfl, hfr, hlo, hws, by rw [hc9]; exact List.mem_singleton.mpr rfl⟩, by rw [← hc9]; exact hcw, F.word hini rfl hW, e2, hsig _ (by rw [← hlen]; simp), va_Nw.use rfl (va_Nw.warmM hW (va_Nw.of rfl (F.1 _ hlink)))⟩, F.word hins rfl hW, trivial⟩
      ⟨aPc_blind, hpc⟩ rfl rfl hsz rfl hW8 hd hcells)
end SNB
