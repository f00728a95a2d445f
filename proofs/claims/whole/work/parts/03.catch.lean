/-! AN EXCEPTION THAT A CALLEE HAS THROWN IS CAUGHT BY A ROW OF THE WALKED METHOD'S TABLE (rows that stand for two of the task's, which rest on a part of the library that no round sees) -/
section AXC
variable {e : Env} {f : JFrame} {a : Addr}
/-- one row that covers the place and names a class: she takes it, or the search goes on; the class is resolved behind it -/
theorem ax_row {s : State} {Q : Handler → Pre} {E : CtlPost} {d : Bool} {acts : List Action} {x : ExceptionTableEntry} {t : List ExceptionTableEntry} {c : ClassId} {cell : Cell} (hx : covers x f.pc = true) (h0 : x.catchType ≠ 0)
    (hl : s.vm.ClassLinks e.platform f.method.cls x.catchType c) (hcell : s.heap[a]? = some cell) (hobj : ∀ k, cell.vm ≠ .statics k) (hk : ∃ k, s.vm.classes[cell.cls]? = some k) (hc : ∃ k, s.vm.classes[c]? = some k) :
    wp (findHandler.go f a (x :: t)) Q E e d acts s ↔ (if s.vm.assignable cell.cls c = true then Q (.found x.handlerPc) d acts (s.setVm (s.vm.noted f.method.cls x.catchType (.cls c))) else wp (findHandler.go f a t) Q E e d acts (s.setVm (s.vm.noted f.method.cls x.catchType (.cls c)))) := by
  simp only [covers] at hx
  obtain ⟨r1, r2⟩ := (resolveClass_links e.toSetting hl).op (op := VmOp.resolveClass f.method.cls x.catchType) rfl
  have hal : s.vm.Alike (s.vm.noted f.method.cls x.catchType (.cls c)) := (Vm.Alike.refl s.vm).noted _ _ _
  obtain ⟨k1, hk1⟩ := hk
  obtain ⟨k2, hk2⟩ := hc
  obtain ⟨k3, hk3, -⟩ := hal.2.2 _ _ hk1
  obtain ⟨k4, hk4, -⟩ := hal.2.2 _ _ hk2
  have has : (s.vm.noted f.method.cls x.catchType (.cls c)).assignable cell.cls c = s.vm.assignable cell.cls c := hal.assignable _ _
  by_cases hf : s.vm.assignable cell.cls c = true
  · rw [if_pos hf]
    rw [hf] at has
    simp [findHandler.go, hx, h0, r1, r2, hcell, hobj, hk3, hk4, has, VmOp.dirties, VmOp.acts]
  · rw [if_neg hf]
    have hf' : s.vm.assignable cell.cls c = false := by simpa using hf
    rw [hf'] at has
    simp [findHandler.go, hx, h0, r1, r2, hcell, hobj, hk3, hk4, has, VmOp.dirties, VmOp.acts]
/-- rows that are passed, then one that takes it -/
theorem ax_rows {s₀ : State} {cell : Cell} (hobj : ∀ k, cell.vm ≠ .statics k) (hk0 : ∃ k, s₀.vm.classes[cell.cls]? = some k) (x : ExceptionTableEntry) (rest : List ExceptionTableEntry) (hx : covers x f.pc = true) (h0 : x.catchType ≠ 0)
    {cx : ClassId} (hlx : s₀.vm.ClassLinks e.platform f.method.cls x.catchType cx) (hfx : s₀.vm.assignable cell.cls cx = true) :
    ∀ (pre : List ExceptionTableEntry) (S : State), s₀.WarmedH S.vm → S.heap[a]? = some cell → (∀ y ∈ pre, covers y f.pc = false ∨ (y.catchType ≠ 0 ∧ ∃ c, s₀.vm.ClassLinks e.platform f.method.cls y.catchType c ∧ s₀.vm.assignable cell.cls c = false)) →
      ∃ vm', s₀.WarmedH vm' ∧ ∀ (Q : Handler → Pre) (E : CtlPost) (d : Bool) (acts : List Action), wp (findHandler.go f a (pre ++ x :: rest)) Q E e d acts S ↔ Q (.found x.handlerPc) d acts (S.setVm vm') := by
  obtain ⟨k0, hk0⟩ := hk0
  intro pre
  induction pre with
  | nil =>
    intro S hW hcell _
    obtain ⟨k1, hk1, -⟩ := hW.alike.2.2 _ _ hk0
    obtain ⟨dk, _, _, kt, hd, _, _, _, _, hkt, _, hopen⟩ := hlx.here
    obtain ⟨k2, hk2, -⟩ := hW.alike.2.2 _ _ hkt
    refine ⟨_, hW.noted hd hopen (State.rightAt_cls hlx), fun Q E d acts => ?_⟩
    rw [List.nil_append, ax_row hx h0 (hW.classLinks hlx) hcell hobj ⟨k1, hk1⟩ ⟨k2, hk2⟩, if_pos (by rw [hW.alike.assignable]; exact hfx)]
  | cons y ys ih =>
    intro S hW hcell hpass
    obtain ⟨k1, hk1, -⟩ := hW.alike.2.2 _ _ hk0
    have hrest := fun z hz => hpass z (List.mem_cons_of_mem _ hz)
    by_cases hcov : covers y f.pc = true
    · rcases hpass y (List.mem_cons_self ..) with h | ⟨hy0, c, hl, hno⟩
      · rw [h] at hcov; cases hcov
      · obtain ⟨dk, _, _, kt, hd, _, _, _, _, hkt, _, hopen⟩ := hl.here
        obtain ⟨k2, hk2, -⟩ := hW.alike.2.2 _ _ hkt
        obtain ⟨vm', hW', hq⟩ := ih (S.setVm (S.vm.noted f.method.cls y.catchType (.cls c))) (hW.noted hd hopen (State.rightAt_cls hl)) hcell hrest
        refine ⟨vm', hW', fun Q E d acts => ?_⟩
        rw [List.cons_append, ax_row hcov hy0 (hW.classLinks hl) hcell hobj ⟨k1, hk1⟩ ⟨k2, hk2⟩, if_neg (by rw [hW.alike.assignable, hno]; decide)]
        exact hq Q E d acts
    · obtain ⟨vm', hW', hq⟩ := ih S hW hcell hrest
      refine ⟨vm', hW', fun Q E d acts => ?_⟩
      rw [List.cons_append, Jvm.W.findHandler_go_skip (by simpa using hcov)]
      exact hq Q E d acts
end AXC
section AXD
variable {p : Program} {l : Launch} {e : Env} {R : Room} {s : State} {m : MethodId} {args : Array Value} {below : List Frame} {meth : Method} {c : Code} {H : Heap} {locs : List Loc} {cells slots : Nat} {Q : State → Prop} {ls : Array Slot} {rest : List Value} {pc : Nat}
theorem ax_caught {T : State} (X : Stand p l e R s m args below meth c T locs cells slots) (q : Addr) {g : JFrame} (hg : g.method = m) {ce : Cell} (hcell : T.heap[q]? = some ce) (hobj : ∀ k, ce.vm ≠ .statics k) (hk0 : ∃ k, s.vm.classes[ce.cls]? = some k)
    (pre : List ExceptionTableEntry) (x : ExceptionTableEntry) (suf : List ExceptionTableEntry) (hsplit : c.exceptionTable.toList = pre ++ x :: suf)
    (hpass : ∀ y ∈ pre, covers y g.pc = false ∨ (y.catchType ≠ 0 ∧ ∃ c, s.vm.ClassLinks e.platform m.cls y.catchType c ∧ s.vm.assignable ce.cls c = false)) (hx : covers x g.pc = true) (h0 : x.catchType ≠ 0)
    {cx : ClassId} (hlx : s.vm.ClassLinks e.platform m.cls x.catchType cx) (hfx : s.vm.assignable ce.cls cx = true) :
    ∃ vm', Stand p l e R s m args below meth c (T.setVm vm') locs cells slots ∧
      ∀ tg, Steps p.tables e below ((T.setVm vm').setTop { g with pc := x.handlerPc, stack := [.ref q] }) tg → Steps p.tables e below ((T.setTop g).pushFrame (.throwing q)) tg := by
  subst hg
  obtain ⟨vm', hW', hq⟩ := ax_rows (e := e) (f := g) (a := q) hobj hk0 x suf hx h0 hlx hfx pre ((T.setTop g).pushFrame (.throwing q)) X.warmed hcell hpass
  refine ⟨vm', X.noted hW', fun tg hrest => ?_⟩
  have hm : ((T.setTop g).pushFrame (.throwing q)).vm.method? g.method = some meth := X.method'
  have hf : ∀ (Q : Handler → Pre) (E : CtlPost) (d : Bool) (acts : List Action), wp (findHandler g q) Q E e d acts ((T.setTop g).pushFrame (.throwing q)) ↔ Q (.found x.handlerPc) d acts (((T.setTop g).pushFrame (.throwing q)).setVm vm') := fun Q E d acts => by
    rw [Jvm.W.findHandler_eq hm X.code, hsplit]; exact hq Q E d acts
  obtain ⟨hgo, hw⟩ := X.here.throwing (g := g) q
  refine Steps.head hgo hw ?_
  have hst : (stepThrowing e ((T.setTop g).pushFrame (.throwing q)) q (.java g :: T.frames.tail)).Is ((((T.setTop g).pushFrame (.throwing q)).setVm vm').setFrames (.java { g with pc := x.handlerPc, stack := [.ref q] } :: T.frames.tail)) [] := by
    simp only [stepThrowing, searchFrame, vmDo]
    generalize hr : Sem.go _ e false [] ((T.setTop g).pushFrame (.throwing q)) = res
    obtain ⟨as, rfl, ha⟩ := Sem.eq_ok_of hr (a := Handler.found x.handlerPc) (s' := ((T.setTop g).pushFrame (.throwing q)).setVm vm') (acts' := []) (by simp [hf _ _ _ _])
    exact ⟨rfl, ha⟩
  rw [stepThread_throwing (frames_entered X.here.top _), hst.1]
  obtain ⟨g₀, hg0⟩ := Option.isSome_iff_exists.mp X.here.top
  obtain ⟨r, hr⟩ := State.topJava?_eq_some.mp hg0
  have hr' : (T.setVm vm').frames = .java g₀ :: r := hr
  rw [State.setTop_of_frames _ hr'] at hrest
  have key : ∀ (u : State) (F G : List Frame), ((u.setFrames F).setVm vm').setFrames G = (u.setVm vm').setFrames G := fun u F G => by
    rw [show (u.setFrames F).setVm vm' = (u.setVm vm').setFrames F from rfl, State.setFrames_setFrames]
  rw [hr, List.tail_cons, State.pushFrame, key, State.setTop_of_frames _ hr, key]
  exact hrest
/-- caught by the row x of this method's table; the rows ahead don't take it -/
theorem ax_catch {own name : String} {E : String} {ce : Cell} {q : Addr} (hown : s.vm.findClass own = some m.cls) (pre : List ExceptionTableEntry) (x : ExceptionTableEntry) (suf : List ExceptionTableEntry) (hsplit : c.exceptionTable.toList = pre ++ x :: suf)
    (hpass : ∀ z ∈ pre, covers z pc = false ∨ (z.catchType ≠ 0 ∧ ∃ nm : String, (Cond.classLink own z.catchType nm).before args s = true ∧ va_Nc E nm s)) (hx : covers x pc = true) (h0 : x.catchType ≠ 0)
    (hlink : (Cond.classLink own x.catchType name).before args s = true) (hcast : (Cond.castable E name).before args s = true) (hcell : H[q]? = some ce) (hv : ce.vm = .none) (hcl : s.vm.findClass E = some ce.cls)
    (kk : W p l e R s m args below meth c H locs cells slots Q (F0 m x.handlerPc ls [.ref q])) : vx_W p l e R s m args below meth c H locs cells slots Q (F0 m pc ls rest) q := by
  intro T hT X
  have hpl : e.platform.magicAccessors = ({} : Platform).magicAccessors := by rw [X.admits.platform]
  obtain ⟨c3, c4, hc3, hc4, hasg⟩ := Cond.castable_spec hcast
  cases Option.some.inj (hc3.symm.trans hcl)
  obtain ⟨c5, hc5, hcl5⟩ := Cond.classLink_spec hown hlink e.platform hpl
  cases Option.some.inj (hc4.symm.trans hc5)
  obtain ⟨vm', X', st⟩ := ax_caught X q (g := F0 m pc ls rest) rfl (by rw [hT]; exact hcell) (fun k h => by rw [hv] at h; cases h) (by obtain ⟨k9, h9, -⟩ := Vm.findClass_spec hcl; exact ⟨k9, h9⟩) pre x suf hsplit
    (fun z hz => by
      rcases hpass z hz with h | ⟨hz0, nm, hl1, hn1⟩
      · exact Or.inl h
      · obtain ⟨c6, hc6, hcl6⟩ := Cond.classLink_spec hown hl1 e.platform hpl
        obtain ⟨a8, b8, h1, h2, h3⟩ := hn1
        cases Option.some.inj (h1.symm.trans hcl)
        cases Option.some.inj (h2.symm.trans hc6)
        exact Or.inr ⟨hz0, _, hcl6, h3⟩) hx h0 hcl5 hasg
  obtain ⟨t, a1, b1⟩ := kk (T.setVm vm') hT X'
  exact ⟨t, st t a1, b1⟩
end AXD
