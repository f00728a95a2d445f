/-! SOUNDNESS, 5: new cells, casts, switches, members without code -/
section SN5
variable {l : Launch} {s0 : State} {a0 : Array Value} {x : Nat → Nat} {D : va_G} {Lx : Nat} {xs : Nat → Int32}
variable {p : Program} {e : Env} {R : Room} {s : State} {m : MethodId} {args : Array Value} {below : List Frame} {meth : Method} {c : Code} {Q : State → Prop} {n0 t0 mi pc : Nat} {L : List (Option aV)} {S : List aV} {h : aH}
theorem st_newa (M : aMc s0 mi p s m meth c) (F : aF0 l s0 a0 x D Lx xs) {k : Nat} {atp : ArrayType} {ty : FieldType} {n : Int32} (hty : newarray.typeOf atp = ty) (hfind : s0.vm.findClass ("[" ++ ty.toString) = some (D.1 k)) (harr : Cond.arrayClass ty ∈ lw_tbl) (hcomp : componentBytes ty ≤ 8)
    (hcell : ∀ (h9 : aH) (H' : Heap) (N : Nat), 8 ≤ gN h9 → H'[s0.heap.size + (gN h9 - 8)]? = some (arrV (D.1 k) N (fun _ => defaultValue ty)) → aCell s0.heap.size x D (gNew h9 k N) (gN h9) H')
    (hn : ¬ n < 0) (hm : n.toNatClampNeg ≤ 1000000) (hd : decode (aMt mi).2.2.1 pc = .ok (.newarray atp, 2)) (hn0 : n0 ≤ gN h) (ht0 : t0 ≤ gT h) (hC : gN h + 1 - n0 ≤ R.cells) (hSl : gT h + n.toNatClampNeg - t0 ≤ R.slots)
    (K : aG s0 x D Lx xs p l e R s m args below meth c Q n0 t0 (pc + 2, L, vR (gN h) :: S, gNew h k n.toNatClampNeg)) : aG s0 x D Lx xs p l e R s m args below meth c Q n0 t0 (pc, L, vI n :: S, h) := by
  obtain ⟨hx, hb, hml, hown, hW, hr, hlk, hnm⟩ := M
  intro H locs ls st hr1 hl1 hs1 hq1
  obtain ⟨v1, st, rfl, rfl, hs2⟩ := sOK_cons hs1
  have hr1 : aRep s0.heap.size x D s0.heap Lx xs h H := hr1
  subst hty
  have h8 := hr1.1
  have hsz := hr1.2.1
  show W p l e R s m args below meth c H locs (gN h - n0) (gT h - t0) Q _
  refine va_newaK hx hb (F.word harr rfl hW) rfl hd rfl hn rfl (Nat.le_trans (Nat.mul_le_mul hm hcomp) (by decide)) (by omega) (by omega) rfl fun H' cA e1 e2 e3 hA hf => ?_
  have hcA : cA = D.1 k := by
    rw [hW.alike.findClass] at hf
    exact Option.some.inj (hf.symm.trans hfind)
  subst hcA
  have hrep := hr1.new (k := k) (n := n.toNatClampNeg) e2 (fun q hq => e3 q hq) (hcell h H' _ h8 (by rw [← hsz]; exact e1))
  have := K H' locs ls (.ref H.size :: st) hrep hl1 ⟨by show Value.ref _ = rv _ _ _; rw [rv_own h8, hsz], hs2⟩ hq1
  rw [gN_gNew, gT_gNew, show gN h + 1 - n0 = gN h - n0 + 1 by omega, show gT h + n.toNatClampNeg - t0 = gT h - t0 + n.toNatClampNeg by omega] at this
  exact this
theorem aCell_new {h : aH} {k N : Nat} {H' : Heap} (h8 : 8 ≤ gN h) (hk : 100 ≤ k ∧ k ≤ 104)
    (hc : H'[s0.heap.size + (gN h - 8)]? = some (arrV (D.1 k) N (fun _ => if k = 101 then .long 0 else if k = 104 then .null else .int 0))) : aCell s0.heap.size x D (gNew h k N) (gN h) H' := by
  have e1 : gK (gNew h k N) (gN h) = k := by rw [gK_gNew, if_pos rfl]
  have e2 : gL (gNew h k N) (gN h) = N := by rw [gL_gNew, if_pos rfl]
  have e3 : ∀ j, gI (gNew h k N) (gN h) j = 0 := fun j => by rw [gI_gNew, if_pos rfl]
  have e4 : ∀ j, gJ (gNew h k N) (gN h) j = 0 := fun j => by rw [gJ_gNew, if_pos rfl]
  have e5 : ∀ j, gR (gNew h k N) (gN h) j = 0 := fun j => by rw [gR_gNew, if_pos rfl]
  unfold aCell
  simp only [e1, e2, e3, e4, e5, adr_own h8]
  refine ⟨⟨by omega, by omega⟩, ?_, ?_, ?_, ?_, ?_, fun q _ w _ => by omega⟩
  · rintro rfl; exact hc
  · rintro rfl; exact hc
  · rintro rfl; exact hc
  · rintro rfl; exact hc
  · rintro rfl; exact hc
theorem st_newarray (M : aMc s0 mi p s m meth c) (F : aF0 l s0 a0 x D Lx xs) {atp : ArrayType} {k : Nat} {n : Int32} (hk : (atp = .int ∧ k = 100) ∨ (atp = .long ∧ k = 101) ∨ (atp = .boolean ∧ k = 102) ∨ (atp = .byte ∧ k = 103))
    (hn : ¬ n < 0) (hm : n.toNatClampNeg ≤ 1000000) (hd : decode (aMt mi).2.2.1 pc = .ok (.newarray atp, 2)) (hn0 : n0 ≤ gN h) (ht0 : t0 ≤ gT h) (hC : gN h + 1 - n0 ≤ R.cells) (hSl : gT h + n.toNatClampNeg - t0 ≤ R.slots)
    (K : aG s0 x D Lx xs p l e R s m args below meth c Q n0 t0 (pc + 2, L, vR (gN h) :: S, gNew h k n.toNatClampNeg)) : aG s0 x D Lx xs p l e R s m args below meth c Q n0 t0 (pc, L, vI n :: S, h) := by
  rcases hk with ⟨rfl, rfl⟩ | ⟨rfl, rfl⟩ | ⟨rfl, rfl⟩ | ⟨rfl, rfl⟩
  · exact st_newa M F (ty := .int) rfl F.2.2.1.2 (aAt_mem (p := 178) (by decide +kernel)) (by decide) (fun h9 H' N w1 w2 => aCell_new w1 ⟨by omega, by omega⟩ w2) hn hm hd hn0 ht0 hC hSl K
  · exact st_newa M F (ty := .long) rfl F.2.2.2.1.2 (aAt_mem (p := 307) (by decide +kernel)) (by decide) (fun h9 H' N w1 w2 => aCell_new w1 ⟨by omega, by omega⟩ w2) hn hm hd hn0 ht0 hC hSl K
  · exact st_newa M F (ty := .boolean) rfl F.2.2.2.2.1.2 (aAt_mem (p := 1319) (by decide +kernel)) (by decide) (fun h9 H' N w1 w2 => aCell_new w1 ⟨by omega, by omega⟩ w2) hn hm hd hn0 ht0 hC hSl K
  · exact st_newa M F (ty := .byte) rfl F.2.2.2.2.2.1.2 (aAt_mem (p := 235) (by decide +kernel)) (by decide) (fun h9 H' N w1 w2 => aCell_new w1 ⟨by omega, by omega⟩ w2) hn hm hd hn0 ht0 hC hSl K
theorem st_anew (M : aMc s0 mi p s m meth c) (F : aF0 l s0 a0 x D Lx xs) {j : Nat} {n : Int32} (hlink : Cond.classLink (aOw (aMt mi).2.1) j "java/lang/Object" ∈ lw_tbl)
    (hn : ¬ n < 0) (hm : n.toNatClampNeg ≤ 1000000) (hd : decode (aMt mi).2.2.1 pc = .ok (.anewarray j, 3)) (hn0 : n0 ≤ gN h) (ht0 : t0 ≤ gT h) (hC : gN h + 1 - n0 ≤ R.cells) (hSl : gT h + n.toNatClampNeg - t0 ≤ R.slots)
    (K : aG s0 x D Lx xs p l e R s m args below meth c Q n0 t0 (pc + 3, L, vR (gN h) :: S, gNew h 104 n.toNatClampNeg)) : aG s0 x D Lx xs p l e R s m args below meth c Q n0 t0 (pc, L, vI n :: S, h) := by
  obtain ⟨hx, hb, hml, hown, hW, hr, hlk, hnm⟩ := M
  intro H locs ls st hr1 hl1 hs1 hq1
  obtain ⟨v1, st, rfl, rfl, hs2⟩ := sOK_cons hs1
  have hr1 : aRep s0.heap.size x D s0.heap Lx xs h H := hr1
  have h8 := hr1.1
  have hsz := hr1.2.1
  show W p l e R s m args below meth c H locs (gN h - n0) (gT h - t0) Q _
  have hover : va_AO "java/lang/Object" s := va_AO.moved hW.alike (va_AO.of (F.1 _ (aAt_mem (p := 870) (by decide +kernel))))
  refine W.anew hx hb hown (F.word hlink rfl hW) (va_AO.use hover) rfl hd rfl hn (by omega) (by omega) (by omega) fun cA kA comp f1 f2 f3 f4 => ?_
  obtain ⟨kA', comp', k1, k2, k3, k4⟩ := va_RA.moved hW.alike F.2.2.2.2.2.2.1.2
  cases Option.some.inj (f1.symm.trans k4)
  have hrep := hr1.new (k := 104) (n := n.toNatClampNeg) (H' := H.push { cls := D.1 104, slots := Array.replicate n.toNatClampNeg .null, vm := .none }) (by rw [Array.size_push]) (fun q hq => by rw [Array.getElem?_push, if_neg (Nat.ne_of_lt hq)])
    (aCell_new h8 ⟨by omega, by omega⟩ (by rw [← hsz, Array.getElem?_push_size, ← arrV_new]; rfl))
  have := K _ locs ls (.ref H.size :: st) hrep hl1 ⟨by show Value.ref _ = rv _ _ _; rw [rv_own h8, hsz], hs2⟩ hq1
  rw [gN_gNew, gT_gNew, show gN h + 1 - n0 = gN h - n0 + 1 by omega, show gT h + n.toNatClampNeg - t0 = gT h - t0 + n.toNatClampNeg by omega] at this
  exact this
theorem aVal_new {h : aH} {k N : Nat} (t : FieldType) (j : Nat) (ht : t = .int ∨ t = .long ∨ t = .boolean ∨ (∃ n, t = .object n) ∨ ∃ u, t = .array u) : defaultValue t = aVal s0.heap.size x (gNew h k N) (gN h) t j := by
  have e3 : gI (gNew h k N) (gN h) j = 0 := by rw [gI_gNew, if_pos rfl]
  have e4 : gJ (gNew h k N) (gN h) j = 0 := by rw [gJ_gNew, if_pos rfl]
  have e5 : gR (gNew h k N) (gN h) j = 0 := by rw [gR_gNew, if_pos rfl]
  unfold aVal
  rw [e3, e4, e5]
  rcases ht with rfl | rfl | rfl | ⟨n, rfl⟩ | ⟨u, rfl⟩ <;> rfl
def aFtB (t : FieldType) : Bool := match t with
  | .int => true
  | .long => true
  | .boolean => true
  | .object _ => true
  | .array _ => true
  | _ => false
theorem aFts_all : aFts.all (fun l => l.all aFtB) = true := by decide +kernel
theorem aFt_ok (ci k : Nat) : aFt ci k = .int ∨ aFt ci k = .long ∨ aFt ci k = .boolean ∨ (∃ n, aFt ci k = .object n) ∨ ∃ u, aFt ci k = .array u := by
  have h : aFtB (aFt ci k) = true := by
    unfold aFt
    rw [List.getD_eq_getElem?_getD, List.getD_eq_getElem?_getD]
    cases h1 : aFts[ci]? with
    | none => simp; rfl
    | some l =>
      have h2 := List.all_eq_true.mp aFts_all l (List.mem_of_getElem? h1)
      simp only [Option.getD_some]
      cases h3 : l[k]? with
      | none => rfl
      | some t => exact List.all_eq_true.mp h2 t (List.mem_of_getElem? h3)
  cases ht : aFt ci k <;> rw [ht] at h <;> first | (cases h; done) | simp
theorem st_new (M : aMc s0 mi p s m meth c) (F : aF0 l s0 a0 x D Lx xs) {j ci : Nat} {C : String} {T : u_T} {N : Nat} (h0 : 0 < ci) (h99 : ci < 99) (hc : aCl[ci]? = some (C, T, N)) (hlink : Cond.classLink (aOw (aMt mi).2.1) j C ∈ lw_tbl)
    (hd : decode (aMt mi).2.2.1 pc = .ok (.new j, 3)) (hn0 : n0 ≤ gN h) (ht0 : t0 ≤ gT h) (hC : gN h + 1 - n0 ≤ R.cells) (hSl : gT h + N - t0 ≤ R.slots)
    (K : aG s0 x D Lx xs p l e R s m args below meth c Q n0 t0 (pc + 3, L, vR (gN h) :: S, gNew h ci N)) : aG s0 x D Lx xs p l e R s m args below meth c Q n0 t0 (pc, L, S, h) := by
  obtain ⟨hx, hb, hml, hown, hW, hr, hlk, hnm⟩ := M
  intro H locs ls st hr1 hl1 hs1 hq1
  have hr1 : aRep s0.heap.size x D s0.heap Lx xs h H := hr1
  have h8 := hr1.1
  have hsz := hr1.2.1
  have hok := aCl_ok h0 hc
  have hKn := F.kn h0 hc hW
  show W p l e R s m args below meth c H locs (gN h - n0) (gT h - t0) Q _
  refine W.newcK hx hb hown (F.word hlink rfl hW) (F.word hok.2.1 rfl hW) (F.word hok.2.2.1 rfl hW) rfl hd (by omega) (by omega) hKn.2.1 rfl fun H' kC hkC e1 e2 e3 => ?_
  have hOB := u_born (aFt ci) (F.lays (args := args) h0 hc hW) (fun _ q => q) hKn hkC e1 hok.2.2.2.2.1
  have hrep := hr1.new (k := ci) (n := N) e2 (fun q hq => e3 q hq) (by
    have e9 : gK (gNew h ci N) (gN h) = ci := by rw [gK_gNew, if_pos rfl]
    refine ⟨by rw [e9]; omega, ?_, ?_, ?_, ?_, ?_, fun q w1 w2 w3 => ?_⟩
    · rw [e9]; intro w; omega
    · rw [e9]; intro w; omega
    · rw [e9]; intro w; omega
    · rw [e9]; intro w; omega
    · rw [e9]; intro w; omega
    · rw [e9] at w3 ⊢
      cases hc.symm.trans w3
      rw [adr_own h8, ← hsz]
      exact hOB.to fun k _ => aVal_new _ k (aFt_ok ci k))
  have := K H' locs ls (.ref H.size :: st) hrep hl1 ⟨by show Value.ref _ = rv _ _ _; rw [rv_own h8, hsz], hs1⟩ hq1
  rw [gN_gNew, gT_gNew, show gN h + 1 - n0 = gN h - n0 + 1 by omega, show gT h + N - t0 = gT h - t0 + N by omega] at this
  exact this
end SN5
