/-! SOUNDNESS, 6: casts, comparisons of references, switches, statics, members without code -/
section SN6
variable {l : Launch} {s0 : State} {a0 : Array Value} {x : Nat → Nat} {D : va_G} {Lx : Nat} {xs : Nat → Int32}
variable {p : Program} {e : Env} {R : Room} {s : State} {m : MethodId} {args : Array Value} {below : List Frame} {meth : Method} {c : Code} {Q : State → Prop} {n0 t0 mi pc : Nat} {L : List (Option aV)} {S : List aV} {h : aH}
theorem st_cast (M : aMc s0 mi p s m meth c) (F : aF0 l s0 a0 x D Lx xs) {j k a : Nat} (hlink : Cond.classLink (aOw (aMt mi).2.1) j (aKn k) ∈ lw_tbl) (hk : k = 100 ∨ (0 < k ∧ k < 99 ∧ ∃ q, aCl[k]? = some q)) (ha : a = 0 ∨ gK h a = k) (hd : decode (aMt mi).2.2.1 pc = .ok (.checkcast j, 3))
    (K : aG s0 x D Lx xs p l e R s m args below meth c Q n0 t0 (pc + 3, L, vR a :: S, h)) : aG s0 x D Lx xs p l e R s m args below meth c Q n0 t0 (pc, L, vR a :: S, h) := by
  obtain ⟨hx, hb, hml, hown, hW, hr, hlk, hnm⟩ := M
  intro H locs ls st hr1 hl1 hs1 hq1
  obtain ⟨v0, st, rfl, hv0, hs2⟩ := sOK_cons hs1
  have hr1 : aRep s0.heap.size x D s0.heap Lx xs h H := hr1
  have kk := K H locs ls (v0 :: st) hr1 hl1 ⟨hv0, hs2⟩ hq1
  have hv0 : v0 = rv s0.heap.size x a := hv0
  by_cases e0 : a = 0
  · subst e0
    have hv0 : v0 = .null := hv0
    subst hv0
    exact lv_castN hx hb hd kk
  · have hka := ha.resolve_left e0
    rcases hk with rfl | ⟨k1, k2, ⟨C, T, N⟩, hC⟩
    · have ho := hr1.own hka (by omega) (by omega)
      rw [rv_own ho.1] at hv0
      subst hv0
      have hc := (hr1.cell hka (by omega) (by omega)).2.1 hka
      rw [adr_own ho.1] at hc
      refine va_castA (D := D) (cl := []) (ws := [(s0.heap.size + (a - 8), .inl (D.1 100, gL h a, .inl (fun j => gI h a j)))]) hx hb hown (F.word hlink rfl hW) (fun k q hq => ?_) 0 rfl ?_ hd kk
      · cases k with
        | zero => simp at hq; subst hq; exact hc
        | succ k => simp at hq
      · rw [hW.alike.findClass]; exact F.2.2.1.2
    · have ho := hr1.own hka k1 (by omega)
      rw [rv_own ho.1] at hv0
      subst hv0
      have hcell := hr1.cell hka k1 (by omega)
      subst hka
      obtain ⟨cell, q1, q2, q3, q4⟩ := hcell.2.2.2.2.2.2 _ k1 k2 hC
      rw [adr_own ho.1] at q1
      have hKn := F.kn k1 hC hW
      rw [aKn_cl k2 hC] at hlink
      exact va_castS hx hb hown (F.word hlink rfl hW) hKn.2 ⟨cell, q1, by rw [q3]; rfl, by rw [q2]; exact hKn.2.1⟩ hd kk
theorem rv_rf (r : Nat) : rv s0.heap.size x r = va_rf (if r = 0 then none else some (adr s0.heap.size x r)) := by unfold rv; split <;> rfl
theorem rv_inj (F : aF0 l s0 a0 x D Lx xs) {y z : Nat} (h : y = z ∨ ((8 ≤ y ∨ y = 0 ∨ y = 2) ∧ (8 ≤ z ∨ z = 0 ∨ z = 2))) : (if y = 0 then none else some (adr s0.heap.size x y)) = (if z = 0 then none else some (adr s0.heap.size x z)) ↔ y = z := by
  have h2 : x 2 < s0.heap.size := F.2.2.2.2.2.2.2.2.1.2.1
  constructor
  · intro q
    rcases h with h | ⟨h1, h3⟩
    · exact h
    · by_cases e1 : y = 0
      · by_cases e2 : z = 0
        · omega
        · rw [if_pos e1, if_neg e2] at q; cases q
      · by_cases e2 : z = 0
        · rw [if_neg e1, if_pos e2] at q; cases q
        · rw [if_neg e1, if_neg e2] at q
          have q := Option.some.inj q
          unfold adr at q
          split at q <;> split at q
          · omega
          · have : y = 2 := by omega
            subst this; omega
          · have : z = 2 := by omega
            subst this; omega
          · omega
  · intro q; rw [q]
theorem st_acmp (M : aMc s0 mi p s m meth c) (F : aF0 l s0 a0 x D Lx xs) {y z : Nat} {k : Jvm.ClassFile.ACond} {off : Int} (h0 : 0 ≤ (pc : Int) + off) (hyz : y = z ∨ ((8 ≤ y ∨ y = 0 ∨ y = 2) ∧ (8 ≤ z ∨ z = 0 ∨ z = 2))) (hd : decode (aMt mi).2.2.1 pc = .ok (.if_acmp k off, 3))
    (K : aG s0 x D Lx xs p l e R s m args below meth c Q n0 t0 ((if (match k with | .eq => decide (y = z) | .ne => !decide (y = z)) = true then ((pc : Int) + off).toNat else pc + 3), L, S, h)) : aG s0 x D Lx xs p l e R s m args below meth c Q n0 t0 (pc, L, vR z :: vR y :: S, h) := by
  obtain ⟨hx, hb, hml, hown, hW, hr, hlk, hnm⟩ := M
  intro H locs ls st hr1 hl1 hs1 hq1
  obtain ⟨v1, st, rfl, hv1, hsq0⟩ := sOK_cons hs1
  obtain ⟨v0, st, rfl, hv0, hs3⟩ := sOK_cons hsq0
  have hv1 : v1 = rv s0.heap.size x z := hv1
  have hv0 : v0 = rv s0.heap.size x y := hv0
  rw [rv_rf] at hv0 hv1
  subst hv0
  subst hv1
  have hi := rv_inj F hyz
  cases k with
  | eq =>
    refine lv_acmp_eq (tgt := ((pc : Int) + off).toNat) hx hb hd (aOff h0) (fun q => ?_) (fun q => ?_)
    · have := hi.mp q
      simp only [this, decide_true, if_true] at K
      exact K H locs ls st hr1 hl1 hs3 hq1
    · have : ¬ y = z := fun w => q (hi.mpr w)
      simp only [this, decide_false, Bool.false_eq_true, if_false] at K
      exact K H locs ls st hr1 hl1 hs3 hq1
  | ne =>
    refine lv_acmp_ne (tgt := ((pc : Int) + off).toNat) hx hb hd (aOff h0) (fun q => ?_) (fun q => ?_)
    · have : ¬ y = z := fun w => q (hi.mpr w)
      simp only [this, decide_false, Bool.not_false, if_true] at K
      exact K H locs ls st hr1 hl1 hs3 hq1
    · have := hi.mp q
      simp only [this, decide_true, Bool.not_true, Bool.false_eq_true, if_false] at K
      exact K H locs ls st hr1 hl1 hs3 hq1
theorem st_ifnull (M : aMc s0 mi p s m meth c) {y : Nat} {off : Int} (h0 : 0 ≤ (pc : Int) + off) (hd : decode (aMt mi).2.2.1 pc = .ok (.ifnull off, 3))
    (K : aG s0 x D Lx xs p l e R s m args below meth c Q n0 t0 ((if y = 0 then ((pc : Int) + off).toNat else pc + 3), L, S, h)) : aG s0 x D Lx xs p l e R s m args below meth c Q n0 t0 (pc, L, vR y :: S, h) := by
  obtain ⟨hx, hb, hml, hown, hW, hr, hlk, hnm⟩ := M
  intro H locs ls st hr1 hl1 hs1 hq1
  obtain ⟨v0, st, rfl, hv0, hs3⟩ := sOK_cons hs1
  have hv0 : v0 = rv s0.heap.size x y := hv0
  unfold rv at hv0
  by_cases e0 : y = 0
  · rw [if_pos e0] at hv0 K
    subst hv0
    exact lv_ifnullN (tgt := ((pc : Int) + off).toNat) hx hb hd (aOff h0) (K H locs ls st hr1 hl1 hs3 hq1)
  · rw [if_neg e0] at hv0 K
    subst hv0
    exact lv_ifnull hx hb hd (K H locs ls st hr1 hl1 hs3 hq1)
theorem st_ifnonnull (M : aMc s0 mi p s m meth c) {y : Nat} {off : Int} (h0 : 0 ≤ (pc : Int) + off) (hd : decode (aMt mi).2.2.1 pc = .ok (.ifnonnull off, 3))
    (K : aG s0 x D Lx xs p l e R s m args below meth c Q n0 t0 ((if y = 0 then pc + 3 else ((pc : Int) + off).toNat), L, S, h)) : aG s0 x D Lx xs p l e R s m args below meth c Q n0 t0 (pc, L, vR y :: S, h) := by
  obtain ⟨hx, hb, hml, hown, hW, hr, hlk, hnm⟩ := M
  intro H locs ls st hr1 hl1 hs1 hq1
  obtain ⟨v0, st, rfl, hv0, hs3⟩ := sOK_cons hs1
  have hv0 : v0 = rv s0.heap.size x y := hv0
  unfold rv at hv0
  by_cases e0 : y = 0
  · rw [if_pos e0] at hv0 K
    subst hv0
    exact lv_ifnonnullN hx hb hd (K H locs ls st hr1 hl1 hs3 hq1)
  · rw [if_neg e0] at hv0 K
    subst hv0
    exact lv_ifnonnull (tgt := ((pc : Int) + off).toNat) hx hb hd (aOff h0) (K H locs ls st hr1 hl1 hs3 hq1)
theorem st_tsw (M : aMc s0 mi p s m meth c) {y : Int32} {d lo hi : Int} {offs : Array Int} {n : Nat} (hsz : lo ≤ hi ∧ offs.size = (hi - lo + 1).toNat) (h0 : 0 ≤ (pc : Int) + d) (h1 : offs.all (fun t => decide (0 ≤ (pc : Int) + t)) = true) (hd : decode (aMt mi).2.2.1 pc = .ok (.tableswitch d lo hi offs, n))
    (K : aG s0 x D Lx xs p l e R s m args below meth c Q n0 t0 (aSw ((pc : Int) + d) lo hi (offs.map (fun t => (pc : Int) + t)) y, L, S, h)) : aG s0 x D Lx xs p l e R s m args below meth c Q n0 t0 (pc, L, vI y :: S, h) := by
  obtain ⟨hx, hb, hml, hown, hW, hr, hlk, hnm⟩ := M
  intro H locs ls st hr1 hl1 hs1 hq1
  obtain ⟨v0, st, rfl, rfl, hs3⟩ := sOK_cons hs1
  unfold aSw at K
  by_cases q : y.toInt < lo ∨ hi < y.toInt
  · rw [if_pos q] at K
    exact lv_tableOut (tgt := ((pc : Int) + d).toNat) hx hb hd q (aOff h0) (K H locs ls st hr1 hl1 hs3 hq1)
  · rw [if_neg q] at K
    have q1 : ¬ y.toInt < lo := fun w => q (Or.inl w)
    have q2 : ¬ hi < y.toInt := fun w => q (Or.inr w)
    have hlt : (y.toInt - lo).toNat < offs.size := by omega
    have hoff : offs[(y.toInt - lo).toNat]? = some offs[(y.toInt - lo).toNat] := Array.getElem?_eq_getElem hlt
    have hp : 0 ≤ (pc : Int) + offs[(y.toInt - lo).toNat] := by
      have := Array.all_eq_true.mp h1 _ hlt
      simpa using this
    refine lv_tableIn (tgt := ((pc : Int) + offs[(y.toInt - lo).toNat]).toNat) hx hb hd q1 q2 hoff (aOff hp) ?_
    have e : (Array.map (fun t => (pc : Int) + t) offs).getD (y.toInt - lo).toNat ((pc : Int) + d) = (pc : Int) + offs[(y.toInt - lo).toNat] := by
      rw [Array.getD_eq_getD_getElem?, Array.getElem?_map, hoff]; rfl
    rw [e] at K
    exact K H locs ls st hr1 hl1 hs3 hq1
theorem aLook_eq (pc : Nat) (d k : Int) : ∀ (ps : List (Int × Int)), aLook ((pc : Int) + d) (ps.map (fun q => (q.1, (pc : Int) + q.2))) k = ((pc : Int) + Op.lookupswitch.offset ps d k).toNat := by
  intro ps
  induction ps with
  | nil => rfl
  | cons q ps ih =>
    obtain ⟨a, t⟩ := q
    rw [List.map_cons, aLook, Op.lookupswitch.offset_cons, ih]
    by_cases e : k = a
    · rw [if_pos e, if_pos e.symm]
    · rw [if_neg e, if_neg (Ne.symm e)]
theorem aLook_pos (pc : Nat) (d k : Int) (h0 : 0 ≤ (pc : Int) + d) : ∀ (ps : List (Int × Int)), ps.all (fun q => decide (0 ≤ (pc : Int) + q.2)) = true → 0 ≤ (pc : Int) + Op.lookupswitch.offset ps d k := by
  intro ps
  induction ps with
  | nil => intro _; exact h0
  | cons q ps ih =>
    intro hp
    obtain ⟨a, t⟩ := q
    rw [List.all_cons, Bool.and_eq_true, decide_eq_true_eq] at hp
    rw [Op.lookupswitch.offset_cons]
    split
    · exact hp.1
    · exact ih hp.2
theorem st_lsw (M : aMc s0 mi p s m meth c) {y : Int32} {d : Int} {ps : Array (Int × Int)} {n : Nat} (h0 : 0 ≤ (pc : Int) + d) (h1 : ps.toList.all (fun q => decide (0 ≤ (pc : Int) + q.2)) = true) (h2 : (ps.toList.zip (ps.toList.drop 1)).all (fun (a, next) => a.1 < next.1) = true) (hd : decode (aMt mi).2.2.1 pc = .ok (.lookupswitch d ps, n))
    (K : aG s0 x D Lx xs p l e R s m args below meth c Q n0 t0 (aLook ((pc : Int) + d) (ps.map (fun q => (q.1, (pc : Int) + q.2))).toList y.toInt, L, S, h)) : aG s0 x D Lx xs p l e R s m args below meth c Q n0 t0 (pc, L, vI y :: S, h) := by
  obtain ⟨hx, hb, hml, hown, hW, hr, hlk, hnm⟩ := M
  intro H locs ls st hr1 hl1 hs1 hq1
  obtain ⟨v0, st, rfl, rfl, hs3⟩ := sOK_cons hs1
  rw [Array.toList_map, aLook_eq] at K
  exact lv_lookup (tgt := ((pc : Int) + Op.lookupswitch.offset ps.toList d y.toInt).toNat) hx hb hd h2 rfl (aOff (aLook_pos pc d _ h0 _ h1)) (K H locs ls st hr1 hl1 hs3 hq1)
theorem st_gets (M : aMc s0 mi p s m meth c) (F : aF0 l s0 a0 x D Lx xs) (ho : aOw (aMt mi).2.1 = "java/util/ArrayList") (hd : decode (aMt mi).2.2.1 pc = .ok (.getstatic 39, 3))
    (K : aG s0 x D Lx xs p l e R s m args below meth c Q n0 t0 (pc + 3, L, vR 2 :: S, h)) : aG s0 x D Lx xs p l e R s m args below meth c Q n0 t0 (pc, L, S, h) := by
  obtain ⟨hx, hb, hml, hown, hW, hr, hlk, hnm⟩ := M
  intro H locs ls st hr1 hl1 hs1 hq1
  have hr1 : aRep s0.heap.size x D s0.heap Lx xs h H := hr1
  rw [ho] at hown
  obtain ⟨cf, kf, fi, f, a, cell, h1, h2, h3, h4, h5, h6, h7, h8⟩ := va_Z.moved hW.alike F.2.2.2.2.2.2.2.2.1.1
  refine W.gets hx hb hown (F.word (w := .fieldLink "java/util/ArrayList" 39 "java/util/ArrayList" "DEFAULTCAPACITY_EMPTY_ELEMENTDATA" "[Ljava/lang/Object;") (aAt_mem (p := 354) (by decide +kernel)) rfl hW) h1 h2 h3 h4 ((hr1.2.2.2.1 a (Nat.not_le.mp h8)).trans h5) (fun q => by rw [q] at h6; cases h6) h7 rfl hd ?_
  exact K H locs ls (_ :: st) hr1 hl1 ⟨rfl, hs1⟩ hq1
theorem st_ldcM (M : aMc s0 mi p s m meth c) (F : aF0 l s0 a0 x D Lx xs) {j : Nat} (hlink : Cond.classLink (aOw (aMt mi).2.1) j "[Ljava/lang/Object;" ∈ lw_tbl) (hd : decode (aMt mi).2.2.1 pc = .ok (.ldc j, 2))
    (K : aG s0 x D Lx xs p l e R s m args below meth c Q n0 t0 (pc + 2, L, vR 3 :: S, h)) : aG s0 x D Lx xs p l e R s m args below meth c Q n0 t0 (pc, L, S, h) := by
  obtain ⟨hx, hb, hml, hown, hW, hr, hlk, hnm⟩ := M
  intro H locs ls st hr1 hl1 hs1 hq1
  exact va_ldcM hx hb hown (F.word hlink rfl hW) (va_Mi.moved hW.alike F.2.2.2.2.2.2.2.2.2.2.1) hd (K H locs ls (_ :: st) hr1 hl1 ⟨rfl, hs1⟩ hq1)
theorem st_objInit (M : aMc s0 mi p s m meth c) (F : aF0 l s0 a0 x D Lx xs) {j a : Nat} (hlink : Cond.methodLink (aOw (aMt mi).2.1) j objectInit ∈ lw_tbl) (ha : 8 ≤ a) (hw : aWt S ≤ 8) (hL9 : L.length = (aMt mi).2.2.2.1) (hf : 1 ≤ R.frames) (hl9 : 40 ≤ R.locals) (hd : decode (aMt mi).2.2.1 pc = .ok (.invokespecial j, 3))
    (K : aG s0 x D Lx xs p l e R s m args below meth c Q n0 t0 (pc + 3, L, S, h)) : aG s0 x D Lx xs p l e R s m args below meth c Q n0 t0 (pc, L, vR a :: S, h) := by
  obtain ⟨hx, hb, hml, hown, hW, hr, hlk, hnm⟩ := M
  intro H locs ls st hr1 hl1 hs1 hq1
  obtain ⟨v0, st, rfl, hv0, hs3⟩ := sOK_cons hs1
  have hv0 : v0 = rv s0.heap.size x a := hv0
  rw [rv_own ha] at hv0
  subst hv0
  have hwt := sOK_wt hs3
  refine W.objInit hx hb hown (F.word hlink rfl hW) (F.word (aAt_mem (p := 148) (by decide +kernel)) rfl hW) (F.word (w := .code objectInit ⟨#[0xb1]⟩ 1 none) (List.mem_of_getElem? (i := 149) rfl) rfl hW) rfl (by show ls.size = _; rw [hl1.1, hml]; exact hL9) rfl hd hf (by show 2 * 0 + _ + 12 ≤ _; omega) ?_
  exact K H locs ls st hr1 hl1 hs3 hq1
theorem st_getC (M : aMc s0 mi p s m meth c) (F : aF0 l s0 a0 x D Lx xs) {j a : Nat} (hlink : Cond.methodLink (aOw (aMt mi).2.1) j ⟨"java/lang/Object", "getClass", "()Ljava/lang/Class;"⟩ ∈ lw_tbl) (hk : gK h a = 104) (hw : aWt S ≤ 8) (hL9 : L.length = (aMt mi).2.2.2.1) (hf : 1 ≤ R.frames) (hl9 : 40 ≤ R.locals) (hd : decode (aMt mi).2.2.1 pc = .ok (.invokevirtual j, 3))
    (K : aG s0 x D Lx xs p l e R s m args below meth c Q n0 t0 (pc + 3, L, vR 3 :: S, h)) : aG s0 x D Lx xs p l e R s m args below meth c Q n0 t0 (pc, L, vR a :: S, h) := by
  obtain ⟨hx, hb, hml, hown, hW, hr, hlk, hnm⟩ := M
  intro H locs ls st hr1 hl1 hs1 hq1
  obtain ⟨v0, st, rfl, hv0, hs3⟩ := sOK_cons hs1
  have hr1 : aRep s0.heap.size x D s0.heap Lx xs h H := hr1
  have hv0 : v0 = rv s0.heap.size x a := hv0
  have ho := hr1.own hk (by omega) (by omega)
  rw [rv_own ho.1] at hv0
  subst hv0
  have hc := (hr1.cell hk (by omega) (by omega)).2.2.2.2.2.1 hk
  rw [adr_own ho.1] at hc
  have hwt := sOK_wt hs3
  obtain ⟨kA, comp, k1, k2, k3, k4⟩ := va_RA.moved hW.alike F.2.2.2.2.2.2.1.2
  refine va_getC (C := "[Ljava/lang/Object;") hx hb (by rw [hl1.1, hml]; exact hL9.symm) hown (F.word hlink rfl hW) (va_Nw.use rfl (va_Nw.warmD hW (va_Nw.of rfl (F.1 _ (aAt_mem (p := 2379) (by decide +kernel)))))) (F.word (aAt_mem (p := 2378) (by decide +kernel)) rfl hW) (F.word (aAt_mem (p := 845) (by decide +kernel)) rfl hW) (F.word (aAt_mem (p := 865) (by decide +kernel)) rfl hW) (va_Mi.moved hW.alike F.2.2.2.2.2.2.2.2.2.2.1) ⟨_, hc, rfl, k4⟩ hf (by omega) hd ?_
  exact K H locs ls (_ :: st) hr1 hl1 ⟨rfl, hs3⟩ hq1
end SN6
