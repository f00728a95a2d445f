/-! THE CLAIM OUT OF ONE RUN OF THE ABSTRACT MACHINE (rows of the task's skeleton, turned to it) -/
section LWA
def R_law : String := "CensusOfficeLaw"
def lw_P (b : Addr) (xs : List Int32) (args : Array Value) (s : State) : Prop := args = #[.ref b] ∧ s.IntsAt b xs ∧ xs.length ≤ 3584 ∧ (Jvm.Cond.and given_1 narrow_1).before args s = true
def lw_Q (_ : Array Value) (s : State) (o : Outcome) (t : State) : Prop := o = .returned (some (.int 1)) ∧ Framed s o t [] 601024 7293034
/-- the abstract heap at the law's start: the script alone -/
def hS (L : Nat) (xs : Nat → Int32) : aH := (8, 0, (fun r => if r = 1 then 105 else if r = 2 then 106 else 0), (fun r => if r = 1 then L else 0), (fun r j => if r = 1 then xs j else 0), (fun _ _ => 0), (fun _ _ => 0))
/-- what is owed of the abstract machine: on every script the law ends with 1, in its room -/
def aLaw : Prop := ∀ (L : Nat) (xs : Nat → Int32), L ≤ 3584 → ∃ (n d : Nat) (h' : aH), d ≤ 800 ∧ aRun aPr n d 328 (0, aEntry 7 [vR 1], [], hS L xs) = some (.inl (some (vI 1)), h') ∧ gN h' ≤ 601032 ∧ gT h' ≤ 7293034
theorem W_room {p : Program} {l : Launch} {e : Env} {R R' : Room} {s : State} {m : MethodId} {args : Array Value} {below : List Frame} {meth : Method} {c : Code} {H : Heap} {locs : List Loc} {cells slots : Nat} {Q : State → Prop} {g : JFrame}
    (h1 : R'.frames ≤ R.frames) (h2 : R'.cells ≤ R.cells) (h3 : R'.slots ≤ R.slots) (h4 : R'.locals ≤ R.locals) (h : W p l e R' s m args below meth c H locs cells slots Q g) : W p l e R s m args below meth c H locs cells slots Q g := by
  intro T hT X
  refine h T hT { X with room := ?_ }
  have hr := X.room
  simp only [State.hasRoom, Bool.and_eq_true, decide_eq_true_eq] at hr ⊢
  simp only [and_assoc] at hr ⊢
  obtain ⟨r1, r2, r3, r4, r5, r6, r7, r8⟩ := hr
  refine ⟨by omega, by omega, by omega, by omega, by omega, r6, by omega, ?_⟩
  first | omega | exact ⟨by omega, r8.2⟩
theorem aRep_start {x : Nat → Nat} {D : va_G} {H : Heap} {L : Nat} {xs : Nat → Int32} : aRep H.size x D H L xs (hS L xs) H := by
  refine ⟨Nat.le_refl _, by show H.size = H.size + (8 - 8); omega, fun r h1 h2 => ?_, fun q _ => rfl, fun r _ => rfl, fun r hr => ?_, rfl, rfl, fun j _ => rfl⟩
  · have : r < 8 := h2
    omega
  · have : 8 ≤ r := hr
    show (if r = 1 then 105 else if r = 2 then 106 else 0) = 0
    rw [if_neg (by omega), if_neg (by omega)]
theorem aArr {s : State} {c : ClassId} {k : Class} {comp : ClassId} {ty : FieldType} (h1 : s.vm.classes[c]? = some k) (h2 : k.kind = .array comp ty) : ArrOfT s c ty := fun n z => ⟨(fun k9 h9 => by cases h9), k, h1, comp, h2⟩
/-- the classes' numbers -/
theorem aNum {s : State} {a0 : Array Value} (hw : ∀ w ∈ lw_tbl, w.before a0 s = true) : ∃ D : va_G, (∀ (c : Nat) (q : vw_C), 0 < c → aCl[c]? = some q → u_Kn s q.1 q.2.1 q.2.2 (D.1 c) (D.2 c)) ∧
    (ArrOfT s (D.1 100) .int ∧ s.vm.findClass "[I" = some (D.1 100)) ∧ (ArrOfT s (D.1 101) .long ∧ s.vm.findClass "[J" = some (D.1 101)) ∧ (ArrOfT s (D.1 102) .boolean ∧ s.vm.findClass "[Z" = some (D.1 102)) ∧ (ArrOfT s (D.1 103) .byte ∧ s.vm.findClass "[B" = some (D.1 103)) ∧
    (ArrOfT s (D.1 104) (.object "java/lang/Object") ∧ va_RA s (D.1 104) (.object "java/lang/Object")) := by
  obtain ⟨c0, k0, m0, f0, g0, e0⟩ := Cond.arrayClass_spec (hw _ (aAt_mem (p := 178) (w := .arrayClass .int) (by decide +kernel)))
  obtain ⟨c1, k1, m1, f1, g1, e1⟩ := Cond.arrayClass_spec (hw _ (aAt_mem (p := 307) (w := .arrayClass .long) (by decide +kernel)))
  obtain ⟨c2, k2, m2, f2, g2, e2⟩ := Cond.arrayClass_spec (hw _ (aAt_mem (p := 1319) (w := .arrayClass .boolean) (by decide +kernel)))
  obtain ⟨c3, k3, m3, f3, g3, e3⟩ := Cond.arrayClass_spec (hw _ (aAt_mem (p := 235) (w := .arrayClass .byte) (by decide +kernel)))
  obtain ⟨m4, c4, k4, f4, -, g4, e4, f5⟩ := Cond.arrayOver_spec (hw _ (aAt_mem (p := 870) (w := .arrayOver (.object "java/lang/Object")) (by decide +kernel)))
  have hcl : ∀ c : Nat, ∃ (cC : ClassId) (iS : Nat → Nat), ∀ q : vw_C, 0 < c → aCl[c]? = some q → u_Kn s q.1 q.2.1 q.2.2 cC iS := by
    intro c
    by_cases h0 : 0 < c
    · cases hq : aCl[c]? with
      | none => exact ⟨0, fun _ => 0, fun q _ h => by cases h⟩
      | some q =>
        obtain ⟨C, T, N⟩ := q
        obtain ⟨w1, w2, -⟩ := aCl_ok h0 hq
        obtain ⟨cC, iS, hk⟩ := u_known (N := N) hw w1 (hw _ w2)
        exact ⟨cC, iS, fun q _ h => by cases h; exact hk⟩
    · exact ⟨0, fun _ => 0, fun q h => absurd h h0⟩
  refine ⟨(fun c => if c = 100 then c0 else if c = 101 then c1 else if c = 102 then c2 else if c = 103 then c3 else if c = 104 then c4 else (hcl c).choose, fun c => (hcl c).choose_spec.choose), fun c q h0 hq => ?_, ?_, ?_, ?_, ?_, ?_⟩
  · have hl : c < 15 := by rw [← aCl_len]; exact (List.getElem?_eq_some_iff.mp hq).1
    have := (hcl c).choose_spec.choose_spec q h0 hq
    show u_Kn s q.1 q.2.1 q.2.2 (if c = 100 then c0 else if c = 101 then c1 else if c = 102 then c2 else if c = 103 then c3 else if c = 104 then c4 else (hcl c).choose) _
    rw [if_neg (by omega), if_neg (by omega), if_neg (by omega), if_neg (by omega), if_neg (by omega)]
    exact this
  · exact ⟨aArr g0 e0, f0⟩
  · exact ⟨aArr g1 e1, f1⟩
  · exact ⟨aArr g2 e2, f2⟩
  · exact ⟨aArr g3 e3, f3⟩
  · exact ⟨aArr g4 e4, k4, m4, g4, e4, f4, f5⟩
end LWA
section LWB
theorem aStart {l : Launch} {s : State} {b : Addr} {L : Nat} {xs : Nat → Int32} (hl : l.stackTraces = false) (hw : ∀ w ∈ lw_tbl, w.before #[Value.ref b] s = true) (hX : va_X b L xs s s.heap) (hb : b < s.heap.size) (hL : L ≤ 3584) (h : (Jvm.Cond.and given_1 narrow_1).before #[Value.ref b] s = true) :
    ∃ (x : Nat → Nat) (D : va_G), x 1 = b ∧ aF0 l s #[Value.ref b] x D L xs ∧ aEx s := by
  have hs := flat_of_before _ h
  obtain ⟨D, d1, d2, d3, d4, d5, d6⟩ := aNum hw
  obtain ⟨v, hv, hvr⟩ := Cond.isRef_spec (hs (.isRef (.static "java/util/ArrayList" "DEFAULTCAPACITY_EMPTY_ELEMENTDATA" "[Ljava/lang/Object;")) (by decide +kernel))
  have hE := hs (.arrayOf (.static "java/util/ArrayList" "DEFAULTCAPACITY_EMPTY_ELEMENTDATA" "[Ljava/lang/Object;") (.object "java/lang/Object")) (by decide +kernel)
  obtain ⟨ea, rfl⟩ : ∃ q, v = .ref q := by
    cases v <;> first | exact ⟨_, rfl⟩ | (exfalso; revert hE; simp [Cond.before, Cond.holds, Cond.value, hv]; done) | (exfalso; revert hvr; decide) | (exfalso; cases hvr)
  have hN := hs (.eq (.length (.static "java/util/ArrayList" "DEFAULTCAPACITY_EMPTY_ELEMENTDATA" "[Ljava/lang/Object;")) (.int 0)) (by decide +kernel)
  have hM := hs (.isRef (.mirror "[Ljava/lang/Object;")) (by decide +kernel)
  obtain ⟨mi, hmi⟩ := va_Mi.of hM
  have hfree : ∀ a : Nat, a < s.heap.size → ¬ s.heap.size ≤ a := fun a h1 h2 => by omega
  have hZ : va_Z "java/util/ArrayList" "DEFAULTCAPACITY_EMPTY_ELEMENTDATA" "[Ljava/lang/Object;" (.ref ea) (fun q => s.heap.size ≤ q) s s.heap := va_Zof (hw _ (aAt_mem (p := 355) (by decide +kernel))) (hw _ (aAt_mem (p := 122) (by decide +kernel))) hv hfree
  have hcell : ∃ cell : Cell, s.heap[ea]? = some cell ∧ s.isArrayOf cell (.object "java/lang/Object") ∧ cell.slots.size = 0 := by
    cases hc : s.heap[ea]? with
    | none =>
      exfalso
      revert hE
      simp [Cond.before, Cond.holds, Cond.value, hv, hc]
    | some cell =>
      refine ⟨cell, rfl, (Cond.arrayOf_spec hE hv hc).1, ?_⟩
      cases hlen : (Term.length (.static "java/util/ArrayList" "DEFAULTCAPACITY_EMPTY_ELEMENTDATA" "[Ljava/lang/Object;")).eval #[Value.ref b] s none [] s with
      | none =>
        exfalso
        revert hN
        simp [Cond.before, Cond.holds, Cond.value, hlen]
      | some w =>
        obtain ⟨a9, cell9, q1, q2, rfl⟩ := Term.length_spec hlen
        cases hv.symm.trans q1
        obtain ⟨q3, -⟩ := State.arrayAt?_spec q2
        cases hc.symm.trans q3
        have hlt : cell.slots.size < 2 ^ 31 := by
          by_cases q : cell.slots.size < 2 ^ 31
          · exact q
          · exfalso
            have hlen2 := hlen
            have hv2 := hv
            simp only [Term.eval] at hlen2 hv2
            rw [hv2] at hlen2
            simp [q2, q] at hlen2
        have hz := Cond.eq_ints hlen (show (Term.int 0).eval #[Value.ref b] s none [] s = some (.int 0) from rfl)
        have hz : cell.slots.size.toInt32 = 0 := by simpa [Cond.before, Cond.holds, hz] using hN
        have h9 : (Int32.ofNat cell.slots.size).toNatClampNeg = cell.slots.size := nI_clamp hlt
        rw [← h9, show Int32.ofNat cell.slots.size = 0 from hz]
        rfl
  obtain ⟨ecell, hec, hea, hen⟩ := hcell
  refine ⟨fun r => if r = 1 then b else if r = 2 then ea else mi, D, rfl, ⟨hw, d1, d2, d3, d4, d5, d6, ⟨hX, hb, by omega⟩, ⟨hZ, (Array.getElem?_eq_some_iff.mp hec).1, ecell, hec, hea, hen⟩, ⟨?_, ?_⟩, hmi, ?_, hl⟩, ?_⟩
  · exact vx_Zqof (hw _ (aAt_mem (p := 447) (by decide +kernel))) (hw _ (aAt_mem (p := 124) (by decide +kernel))) (hs _ (by decide +kernel)) hfree
  · exact vx_Zqof (hw _ (aAt_mem (p := 449) (by decide +kernel))) (hw _ (aAt_mem (p := 124) (by decide +kernel))) (hs _ (by decide +kernel)) hfree
  · intro o i t p9 hf
    have h1 := hw _ (aSr_ok hf)
    cases hc : s.vm.findClass (aOw o) with
    | none =>
      exfalso
      revert h1
      simp [Cond.before, Cond.holds, Cond.value, hc]
    | some cur =>
      obtain ⟨-, -, -, a9, -, -, -, -, -, h2⟩ := Cond.stringRef_spec hc h1
      exact ⟨a9, vk_R.of h1 h2⟩
  · intro j k j0 j5 k0 k5 hne
    rcases (show j = 1 ∨ j = 2 ∨ j = 3 ∨ j = 4 by omega) with rfl | rfl | rfl | rfl <;> rcases (show k = 1 ∨ k = 2 ∨ k = 3 ∨ k = 4 by omega) with rfl | rfl | rfl | rfl <;>
      first
        | exact (hne rfl).elim
        | exact va_Nc.of (hs _ (by decide +kernel))
end LWB
section LWC
set_option maxHeartbeats 4000000 in
theorem lw_walk (hA : aLaw) (l : Launch) (hl : l.stackTraces = false) (b : Addr) (xs : List Int32) : MetFree l x (headSpec (Jvm.Cond.code x code maxLocals ret :: tables_1) room_1) (lw_P b xs) (fun _ _ _ _ _ => True) lw_Q := by
  refine MetFree.of_bodyS (code := code) (maxLocals := maxLocals) (ret := ret) (by decide) ?_ ?_
  · intro args s m h hn
    obtain ⟨meth, c, h1, h2, h3, h4, h5, h6, -, -⟩ := Cond.code_spec hn (atoms_spec (ws := Jvm.Cond.code x code maxLocals ret :: tables_1) h _ List.mem_cons_self)
    exact ⟨meth, c, h1, h2, h3, h4, h5, h6⟩
  · intro p e s m args below meth c s₁ B hml0 hP _
    obtain ⟨rfl, hx, hbd, hgv⟩ := hP
    obtain ⟨scr, harrAt, hlist, hof, hsmall⟩ := hx
    obtain ⟨hcb, hkn, -, -⟩ := State.arrayAt?_spec harrAt
    have hown : s.vm.findClass R_law = some m.cls := findClass_of_methodNamed B.named
    have hts0 : ∀ c ∈ (Jvm.Cond.code x code maxLocals ret :: tables_1), c.before #[Value.ref b] s = true := atoms_spec (ws := Jvm.Cond.code x code maxLocals ret :: tables_1) B.pre
    have hts : ∀ w ∈ lw_tbl, w.before #[Value.ref b] s = true := k2_hts_sels lw_privs (fun w hw => hts0 w (List.mem_cons_of_mem _ hw)) lw_privs_ok
    have hml : c.maxLocals = 7 := B.maxLocals_eq (hts0 _ List.mem_cons_self)
    have X₀ : Stand p l e room_1 s m #[Value.ref b] below meth c s₁ [] 0 0 := Stand.of_body B
    have hh0 : s₁.heap = s.heap := by rw [B.state]; rfl
    have hsz : scr.slots.size = xs.length := by rw [← Array.length_toList, hlist, List.length_map]
    have hval : ∀ j : Nat, j < xs.length → scr.slots[j]? = some (.int (xs.getD j 0)) := fun j hj => by
      rw [← Array.getElem?_toList, hlist]
      simp [hj]
    have hbl : b < s.heap.size := (Array.getElem?_eq_some_iff.mp hcb).1
    have hX : va_X b xs.length (fun j => xs.getD j 0) s s.heap := ⟨scr, hcb, hof, hkn, hsz, hval⟩
    obtain ⟨n, d, h', hd, hrun, hgN, hgT⟩ := hA xs.length (fun j => xs.getD j 0) hbd
    obtain ⟨x9, D, hx1, F, hEx⟩ := aStart (l := l) hl hts hX hbl hbd hgv
    obtain ⟨meth', c', g1, g2, g3, g4, g5, g6, g7, -⟩ := Cond.code_spec B.named (hts0 _ List.mem_cons_self)
    cases B.method.symm.trans g1
    cases X₀.code.symm.trans g2
    have hM : aMc s 328 p s m meth c := ⟨B.exec, B.bytes, hml, hown, State.WarmedH.refl _, B.returns, g6, fun w => absurd w (by decide)⟩
    have hex : c.exceptionTable.toList = tableOf (aMt 328).2.2.2.2.2 := by
      have : c.exceptionTable.toList = [] := by simpa using g7
      rw [this]; rfl
    have hG := a_sound F hEx n d 328 _ _ hrun (by decide) p e s m #[Value.ref b] below meth c 8 0 601024 7293034 hM hex (by omega) (fun q _ => rfl) (Nat.le_refl _) (Nat.le_refl _) (Nat.le_refl _) (aEntry_len (by decide)) (by show gN h' - 8 ≤ 601024; omega) (by show gT h' - 0 ≤ 7293034; omega)
    have hs1 : sOK s.heap.size x9 [vR 1] [Value.ref b] := ⟨by show Value.ref b = rv s.heap.size x9 1; unfold rv adr; rw [if_neg (by decide), if_pos (by decide), hx1], trivial⟩
    have hW9 : W p l e (aRoom d 601024 7293034) s m #[Value.ref b] below meth c s.heap [] 0 0 (aEnd s x9 D xs.length (fun j => xs.getD j 0) below #[Value.ref b] s 8 0 (.inl (some (vI 1)), h')) (entryFrame m ([Value.ref b] : List Value).toArray 7) := by
      rw [lg_entry_eq]
      exact hG s.heap [] _ [] aRep_start (lOK_entry hs1 (by decide)) trivial (fun q hq => by cases hq)
    have hW9 := W_room (R := room_1) (R' := aRoom d 601024 7293034) (by show 20 + d ≤ 2048; omega) (Nat.le_refl _) (Nat.le_refl _) (by show 200 + 100 * d ≤ 84000; omega) hW9
    obtain ⟨t, a1, o, b1, b2, b3⟩ := hW9 s₁ hh0 X₀
    rcases b3 with ⟨⟨b3, -⟩, L9, b4, b5⟩ | ⟨q, -, E, ce, L9, ⟨⟨k9, hk9, -⟩, -⟩, -⟩
    · rcases b3 with ⟨b3, -⟩ | ⟨a, v, b3, b6, b7⟩
      · cases b3
      · cases b3
        have b7 : v = .int 1 := b7
        subst b7
        subst b6
        refine ⟨t, _, a1, b1, b2, rfl, ⟨_, rfl⟩, b4.2.1, ?_⟩
        have h5 := b4.2.2
        have h6 := State.sameButNew.drop_fresh (L := []) (J := L9) h5 b5
        exact State.sameButNew.mono h6 (by show gN h' - 8 ≤ _; omega) (by show gT h' - 0 ≤ _; omega)
    · cases hk9
theorem lw_pre_spec {args : Array Value} {s : State} (h : (Jvm.Cond.and given_1 narrow_1).before args s = true) (hr : rest_1_c.before args s = true) : ∃ (b : Addr) (xs : List Int32), lw_P b xs args s := by
  have hs := flat_of_before _ h
  have hq := flat_of_before _ hr
  have hc : (Cond.count 1).before args s = true := hs _ (by decide +kernel)
  have harr : (Cond.arrayOf (.arg 0) .int).before args s = true := hs _ (by decide +kernel)
  have hle : (Cond.le (.length (.arg 0)) (.int 3584)).before args s = true := hs _ (by decide +kernel)
  have hlen : (Cond.isInt (.length (.arg 0))).before args s = true := hq _ (by decide +kernel)
  have hall : (Cond.all (.arg 0) (.isInt (.elem (.arg 0) (.index 0)))).before args s = true := hq _ (by decide +kernel)
  obtain ⟨b, xs, hb, hx⟩ := State.ints_of_pre rfl harr hlen hall
  have hsm : xs.length < 2 ^ 31 := hx.choose_spec.2.2.2
  have hev : (Term.length (.arg 0)).eval args s none [] s = some (.int xs.length.toInt32) := hx.length_eval hb
  have hv := Cond.le_ints hev (show (Term.int 3584).eval args s none [] s = some (.int 3584) from rfl)
  have hd : xs.length.toInt32 ≤ 3584 := by
    simpa [Cond.before, Cond.holds, hv] using hle
  have hN : xs.length ≤ 3584 := (Int32.ofNat_le_ofNat hsm (by decide)).mp (show Int32.ofNat xs.length ≤ Int32.ofNat 3584 from hd)
  exact ⟨b, xs, Cond.one_arg hc (show args[0]? = some (.ref b) from hb), hx, hN, h⟩
theorem lw_comes (hA : aLaw) (l : Launch) (hl : l.stackTraces = false) : Comes l x (Jvm.Cond.code x code maxLocals ret :: tables_1) room_1 (fun tb e args s => Calls_1 tb e args s ∧ rest_1 tb e args s ∧ Pre_1 tb e args s)
    (fun _ _ args s o t => lw_Q args s o t) := by
  intro p e ha hc hk s m args below hf hfit hheap happ hpre
  obtain ⟨b, xs, hP⟩ := lw_pre_spec hpre.2.2 hpre.2.1
  obtain ⟨k, o, h1, h2, h3, hQ⟩ := lw_walk hA l hl b xs p e ha hc hk s m args below hf ((Spec.applies_iff_loose hf).mp happ).1 hP trivial
  exact ⟨k, o, h1, h2, h3, hQ⟩
theorem lw_frame {s t : State} {o : Outcome} {args : Array Value} (h : Framed s o t [] 601024 7293034) :
    Framed s o t (fieldLocs frame_1_writes args s ++ arrayLocs frame_1_arrays args s ++ staticLocs frame_1_statics s) 601024 7293034 := h
theorem lw_limb (hA : aLaw) (L : Cond) (hL : ∀ (args : Array Value) (s t : State), L.after args s (.returned (some (.int 1))) t = true) :
    ArmFor flags0 classFile x code maxLocals ret World_1 tables_1 room_1 Calls_1 rest_1 Pre_1
      (fun tb e a s o t => postC L tb e a s o t ∧ Framed s o t (fieldLocs frame_1_writes a s ++ arrayLocs frame_1_arrays a s ++ staticLocs frame_1_statics s) 601024 7293034) := by
  intro l hfl _ _ p e ha hc hk s m args below hf hfit hheap happ hpre
  obtain ⟨k, o, h1, h2, h3, rfl, hF⟩ := lw_comes hA l (by unfold Launch.stackTraces; rw [hfl]; decide +kernel) p e ha hc hk s m args below hf hfit hheap happ hpre
  exact ⟨k, _, h1, h2, h3, hL args s _, lw_frame hF⟩
theorem vc_of_run (hA : aLaw) : Claimed_1_1 ∧ Claimed_1_2 := ⟨lw_limb hA limb_1_1 (fun args s t => by simp [limb_1_1, Cond.after, Cond.holds, Cond.value]), lw_limb hA limb_1_2 (fun args s t => Cond.after_iff.mpr (by
  first | (rw [show limb_1_2 = Cond.eq .result (.int 1) from rfl, Cond.eq_ints (x := 1) (y := 1) rfl rfl]; simp; done) | (simp [limb_1_2, Cond.value, Term.eval]; done)))⟩
end LWC
