/-! SOUNDNESS, 3: fields -/
section SN3
variable {l : Launch} {s0 : State} {a0 : Array Value} {x : Nat → Nat} {D : va_G} {Lx : Nat} {xs : Nat → Int32}
variable {p : Program} {e : Env} {R : Room} {s : State} {m : MethodId} {args : Array Value} {below : List Frame} {meth : Method} {c : Code} {Q : State → Prop} {n0 t0 mi pc : Nat} {L : List (Option aV)} {S : List aV} {h : aH}
theorem u_lay_good (C : String) (T : u_T) (k : Nat) : goodWord (u_lay C T k) = true := by unfold u_lay; split <;> rfl
theorem aF0.lays (F : aF0 l s0 a0 x D Lx xs) {ci : Nat} {C : String} {T : u_T} {N : Nat} (h0 : 0 < ci) (hc : aCl[ci]? = some (C, T, N)) (hW : s0.WarmedH s.vm) : ∀ w ∈ u_ws C T N, w.before args s = true := by
  intro w hw
  have h1 := (aCl_ok h0 hc).1 w hw
  obtain ⟨k, -, rfl⟩ := List.mem_map.mp hw
  exact F.word h1 (u_lay_good C T k) hW
theorem aF0.kn (F : aF0 l s0 a0 x D Lx xs) {ci : Nat} {C : String} {T : u_T} {N : Nat} (h0 : 0 < ci) (hc : aCl[ci]? = some (C, T, N)) (hW : s0.WarmedH s.vm) : u_Kn s C T N (D.1 ci) (D.2 ci) := u_Kn_moved hW.alike (F.2.1 ci _ h0 hc)
theorem aF0.same (F : aF0 l s0 a0 x D Lx xs) {T : u_T} {k : Nat} {ref : String} (hr : ref = (T k).1 ∨ Cond.sameField ref (T k).1 (T k).2.1 (T k).2.2.1 ∈ lw_tbl) (hW : s0.WarmedH s.vm) : ∀ y, s.fieldFound? (T k).1 (T k).2.1 (T k).2.2.1 = some y → s.fieldFound? ref (T k).2.1 (T k).2.2.1 = some y := by
  intro y hy
  rcases hr with rfl | hr
  · exact hy
  · exact u_same (args := #[]) (F.word hr rfl hW) y hy
theorem st_getf (M : aMc s0 mi p s m meth c) (F : aF0 l s0 a0 x D Lx xs) {j ci k a : Nat} (hf : aFlP (aMt mi).2.1 j ci k) (hk : gK h a = ci) (hd : decode (aMt mi).2.2.1 pc = .ok (.getfield j, 3)) {v : aV} (hv : vOK s0.heap.size x v (aVal s0.heap.size x h a (aFt ci k) k))
    (K : aG s0 x D Lx xs p l e R s m args below meth c Q n0 t0 (pc + 3, L, v :: S, h)) : aG s0 x D Lx xs p l e R s m args below meth c Q n0 t0 (pc, L, vR a :: S, h) := by
  obtain ⟨hx, hb, hml, hown, hW, hr, hlk, hnm⟩ := M
  intro H locs ls st hr1 hl1 hs1 hq1
  obtain ⟨v0, st, rfl, hv0, hs2⟩ := sOK_cons hs1
  obtain ⟨C, T, N, ref, hc, hkN, h0, h99, href, hlink⟩ := hf
  have hr1 : aRep s0.heap.size x D s0.heap Lx xs h H := hr1
  have ho := hr1.own hk h0 (by omega)
  have hv0 : v0 = rv s0.heap.size x a := hv0
  rw [rv_own ho.1] at hv0
  subst hv0
  have hcell := hr1.cell hk h0 (by omega)
  subst hk
  obtain ⟨cell, q1, q2, q3, q4⟩ := hcell.2.2.2.2.2.2 _ h0 h99 hc
  rw [adr_own ho.1] at q1
  obtain ⟨hS, hfc, kC, hkC, hkind⟩ := F.kn h0 hc hW
  obtain ⟨cf, kf, fi, f, hi, hsl⟩ := hS k hkN
  have hst := (u_facts hfc hkC (u_lays (F.lays (args := args) h0 hc hW) (fun _ q => q) hkN) hi).1
  rcases hlink with hlink | hlink
  · exact W.getf hx hb hown (F.word hlink rfl hW) (F.same href hW _ hi) hst q1 (by rw [q3]; exact fun h => by cases h) (by rw [hsl]; exact q4 k hkN) rfl rfl hd (K H locs ls (_ :: st) hr1 hl1 ⟨hv, hs2⟩ hq1)
  · exact va_Wgetf hx hb hown (va_Nw.use rfl (va_Nw.warmF hW (va_Nw.of rfl (F.1 _ hlink)))) (F.same href hW _ hi) hst q1 (by rw [q3]; exact fun h => by cases h) (by rw [hsl]; exact q4 k hkN) rfl rfl hd (K H locs ls (_ :: st) hr1 hl1 ⟨hv, hs2⟩ hq1)
theorem aFl_fin {o i ci k : Nat} {r : Nat × String × Bool} (hf : aFind aFl o i = some (ci, k, r)) {C : String} {T : u_T} {N : Nat} (hc : aCl[ci]? = some (C, T, N)) (hfin : (T k).2.2.2 = true) (hdecl : (T k).1 = aOw o) :
    ∃ ref : String, (ref = (T k).1 ∨ Cond.sameField ref (T k).1 (T k).2.1 (T k).2.2.1 ∈ lw_tbl) ∧ Cond.fieldLink (aOw o) i ref (T k).2.1 (T k).2.2.1 ∈ lw_tbl := by
  have h1 := List.all_eq_true.mp aFl_all _ (aFind_mem hf)
  obtain ⟨p, ref, nest⟩ := r
  simp only [aFlB, hc] at h1
  simp only [Bool.and_eq_true, Bool.or_eq_true, decide_eq_true_eq] at h1
  obtain ⟨⟨⟨h2, h3, h4⟩, h5⟩, h6⟩ := h1
  refine ⟨ref, h5, ?_⟩
  split at h6
  · simp only [Bool.and_eq_true, decide_eq_true_eq] at h6
    rcases h6.2 with w | w
    · rw [hfin] at w; cases w
    · exact absurd hdecl w
  · exact aAt_mem h6
/-- what a store asks of its value -/
def aFit (t : FieldType) (v : Value) : Prop := narrow t v = v ∧ fits t v = true
theorem st_putf (M : aMc s0 mi p s m meth c) (F : aF0 l s0 a0 x D Lx xs) {j ci k a : Nat} (hf : aFlP (aMt mi).2.1 j ci k) (hfin : ∀ C T N, aCl[ci]? = some (C, T, N) → (T k).2.2.2 = true → (aMt mi).1.name = "<init>" ∧ (T k).1 = aOw (aMt mi).2.1 ∧ ∃ ref : String, (ref = (T k).1 ∨ Cond.sameField ref (T k).1 (T k).2.1 (T k).2.2.1 ∈ lw_tbl) ∧ Cond.fieldLink (aOw (aMt mi).2.1) j ref (T k).2.1 (T k).2.2.1 ∈ lw_tbl) (hk : gK h a = ci) (hd : decode (aMt mi).2.2.1 pc = .ok (.putfield j, 3)) {v : aV} {h' : aH}
    (hv : ∀ w, vOK s0.heap.size x v w → aFit (aFt ci k) w ∧ aVal s0.heap.size x h' a (aFt ci k) k = w) (hN : gN h' = gN h) (hT : gT h' = gT h) (hK : ∀ r, gK h' r = gK h r) (hL : ∀ r, gL h' r = gL h r)
    (hI : ∀ r i, (r ≠ a ∨ i ≠ k) → gI h' r i = gI h r i) (hJ : ∀ r i, (r ≠ a ∨ i ≠ k) → gJ h' r i = gJ h r i) (hR : ∀ r i, (r ≠ a ∨ i ≠ k) → gR h' r i = gR h r i)
    (K : aG s0 x D Lx xs p l e R s m args below meth c Q n0 t0 (pc + 3, L, S, h')) : aG s0 x D Lx xs p l e R s m args below meth c Q n0 t0 (pc, L, v :: vR a :: S, h) := by
  obtain ⟨hx, hb, hml, hown, hW, hr, hlk, hnm⟩ := M
  intro H locs ls st hr1 hl1 hs1 hq1
  obtain ⟨v1, st, rfl, hv1, hs2⟩ := sOK_cons hs1
  obtain ⟨v0, st, rfl, hv0, hs3⟩ := sOK_cons hs2
  obtain ⟨C, T, N, ref, hc, hkN, h0, h99, href, hlink⟩ := hf
  have hr1 : aRep s0.heap.size x D s0.heap Lx xs h H := hr1
  have ho := hr1.own hk h0 (by omega)
  have hv0 : v0 = rv s0.heap.size x a := hv0
  rw [rv_own ho.1] at hv0
  subst hv0
  have hcell := hr1.cell hk h0 (by omega)
  subst hk
  obtain ⟨hfit, hval⟩ := hv v1 hv1
  obtain ⟨cell, q1, q2, q3, q4⟩ := hcell.2.2.2.2.2.2 _ h0 h99 hc
  rw [adr_own ho.1] at q1
  have hts := F.lays (args := args) h0 hc hW
  obtain ⟨hS, hfc, kC, hkC, hkind⟩ := F.kn h0 hc hW
  obtain ⟨cf, kf, fi, f, hi, hsl⟩ := hS k hkN
  have hok := aCl_ok h0 hc
  have hst := (u_facts hfc hkC (u_lays hts (fun _ q => q) hkN) hi).1
  have hlay := hts _ (u_in_lay hkN)
  have hap : ∀ i, i < N → ∀ j, j < N → i ≠ j → D.2 (gK h a) i ≠ D.2 (gK h a) j := by
    intro i hi9 j hj9 hne
    obtain ⟨_, _, _, fd1, hi1, e1⟩ := hS i hi9
    obtain ⟨_, _, _, fd2, hi2, e2⟩ := hS j hj9
    rw [← e1, ← e2]
    refine u_apart (u_lays hts (fun _ q => q) hi9) (u_lays hts (fun _ q => q) hj9) hi1 hi2 ?_
    rw [(State.fieldFound?_type hi1 (hok.2.2.2.2.1 i hi9)).1, (State.fieldFound?_type hi2 (hok.2.2.2.2.1 j hj9)).1]
    exact hok.2.2.2.2.2.2 i hi9 j hj9 hne
  have hlt : f.slot < cell.slots.size := by rw [hsl]; exact k2_hasslot (q4 k hkN)
  have fin : ∀ (H' : Heap), H'[s0.heap.size + (a - 8)]? = some (cell.setSlot f.slot v1) → H'.size = H.size → (∀ q, q ≠ s0.heap.size + (a - 8) → H'[q]? = H[q]?) → W p l e R s m args below meth c H' (locs ++ [⟨s0.heap.size + (a - 8), f.slot⟩]) (gN h - n0) (gT h - t0) Q (F0 m (pc + 3) ls st) := by
    intro H' e1 e2 e3
    have hrep : aRep s0.heap.size x D s0.heap Lx xs h' H' := by
      refine hr1.upd ho.1 hN hK hL (fun r i q => hI r i (Or.inl q)) (fun r i q => hJ r i (Or.inl q)) (fun r i q => hR r i (Or.inl q)) e2 (fun q hq => e3 q (by rw [← adr_own (x := x) ho.1]; exact hq)) (fun _ => ?_)
      refine ⟨by rw [hK]; exact ⟨by omega, by omega⟩, fun w => ?_, fun w => ?_, fun w => ?_, fun w => ?_, fun w => ?_, fun q w1 w2 w3 => ?_⟩
      · rw [hK] at w; omega
      · rw [hK] at w; omega
      · rw [hK] at w; omega
      · rw [hK] at w; omega
      · rw [hK] at w; omega
      · rw [hK] at w3 ⊢
        cases hc.symm.trans w3
        refine ⟨cell.setSlot f.slot v1, by rw [adr_own ho.1]; exact e1, q2, q3, fun i hi9 => ?_⟩
        show (cell.setSlot f.slot v1).slots[_]? = some (aVal s0.heap.size x h' a (aFt (gK h a) i) i)
        by_cases ei : i = k
        · subst ei
          rw [hval, ← hsl]
          exact Cell.slots_setSlot_self _ hlt
        · rw [Cell.slots_setSlot_ne _ (fun w => hap k hkN i hi9 (Ne.symm ei) (by rw [← hsl]; exact w))]
          have e9 : aVal s0.heap.size x h' a (aFt (gK h a) i) i = aVal s0.heap.size x h a (aFt (gK h a) i) i := by unfold aVal; rw [hI a i (Or.inr ei), hJ a i (Or.inr ei), hR a i (Or.inr ei)]
          rw [e9]
          exact q4 i hi9
    have := K H' (locs ++ [⟨s0.heap.size + (a - 8), f.slot⟩]) ls st hrep hl1 hs3 (fun q hq => by
      rcases List.mem_append.mp hq with w | w
      · exact hq1 q w
      · rw [List.mem_singleton.mp w]; show _ ≤ s0.heap.size + (a - 8); omega)
    simpa only [hN, hT] using this
  cases hfb : (T k).2.2.2 with
  | false =>
    unfold u_lay at hlay
    rw [if_neg (by rw [hfb]; decide)] at hlay
    have h6 := u_store hfc hkC hkind hlay hi (hok.2.2.2.2.1 k hkN) hfit.1 hfit.2
    rcases hlink with hlink | hlink
    · exact W.putK hx hb (f := f) ⟨hown, F.word hlink rfl hW, ⟨_, _, _, F.same href hW _ hi⟩, hst⟩ (by rw [q2]; exact h6) q1 q3 hlt rfl rfl hd fin
    · exact va_WputK hx hb (f := f) hown (va_Nw.use rfl (va_Nw.warmF hW (va_Nw.of rfl (F.1 _ hlink)))) (F.same href hW _ hi) hst (by rw [q2]; exact h6) q1 q3 hlt rfl rfl hd fin
  | true =>
    unfold u_lay at hlay
    rw [if_pos hfb] at hlay
    obtain ⟨hin, hdecl, ref2, href2, hlink2⟩ := hfin C T N hc hfb
    have hcf : m.cls = cf := by
      obtain ⟨_, _, c', _, _, _, -, -, hf', -, -, -, hown2, -⟩ := Cond.laysFinal_spec hlay
      have e1 : c' = cf := by have := hi.symm.trans hf'; simp at this; exact this.1.symm
      rw [hdecl] at hown2
      rw [← e1]; exact Option.some.inj (hown.symm.trans hown2)
    have h6 := u_fits hfc hkC hkind (Or.inr hlay) hi (hok.2.2.2.2.1 k hkN) hfit.1 hfit.2
    exact W.putFinK hx hb hown (F.word hlink2 rfl hW) (F.same href2 hW _ hi) hst hcf (hnm hin) (by rw [q2]; exact h6) q1 q3 hlt rfl rfl hd fin
end SN3
