section BZC
variable {p : Program} {l : Launch} {e : Env} {R : Room} {s : State} {m : MethodId} {args : Array Value} {below : List Frame} {meth : Method} {c : Code} {H : Heap} {locs : List Loc} {cells slots : Nat} {Q : State → Prop}
/-- the search through these rows ends at the handler h0, the tables being vm' then -/
def bz_fi (e : Env) (S : State) (f : JFrame) (a : Addr) (rows : List ExceptionTableEntry) (h0 : Nat) (vm' : Vm) : Prop :=
  ∀ (Q9 : Handler → Pre) (E9 : CtlPost) (d9 : Bool) (acts : List Action), wp (findHandler.go f a rows) Q9 E9 e d9 acts S ↔ Q9 (.found h0) d9 acts (S.setVm vm')
/-- one row of the table whose class has a link: what it does hangs on whether the object is of that class -/
theorem bz_row {S : State} {f : JFrame} {a : Addr} {r : ExceptionTableEntry} {rows : List ExceptionTableEntry} {k : ClassId} {ce : Cell} (hc : covers r f.pc = true) (hz : r.catchType ≠ 0) (hl : S.vm.ClassLinks e.platform f.method.cls r.catchType k) (ha : S.heap[a]? = some ce) (hv : ce.vm = .none)
    (h1 : ∃ z, S.vm.classes[ce.cls]? = some z) (h2 : ∃ z, S.vm.classes[k]? = some z) (b9 : Bool) (hb : S.vm.assignable ce.cls k = b9) (Q9 : Handler → Pre) (E9 : CtlPost) (d9 : Bool) (acts : List Action) :
    wp (findHandler.go f a (r :: rows)) Q9 E9 e d9 acts S ↔ if b9 = true then Q9 (.found r.handlerPc) d9 acts (S.setVm (S.vm.noted f.method.cls r.catchType (.cls k))) else wp (findHandler.go f a rows) Q9 E9 e d9 acts (S.setVm (S.vm.noted f.method.cls r.catchType (.cls k))) := by
  have al : S.vm.Alike (S.vm.noted f.method.cls r.catchType (.cls k)) := (Vm.Alike.refl S.vm).noted _ _ _
  obtain ⟨z1, h1⟩ := h1
  obtain ⟨z2, h2⟩ := h2
  obtain ⟨y1, g1, -⟩ := al.2.2 _ _ h1
  obtain ⟨y2, g2, -⟩ := al.2.2 _ _ h2
  obtain ⟨o1, o2⟩ := (resolveClass_links e.toSetting hl).op (op := VmOp.resolveClass f.method.cls r.catchType) rfl
  have hb' : (S.vm.noted f.method.cls r.catchType (.cls k)).assignable ce.cls k = b9 := by rw [al.assignable]; exact hb
  have hs : ∀ z, ce.vm ≠ .statics z := fun z h => by rw [hv] at h; cases h
  simp only [covers] at hc
  cases b9 <;> simp [findHandler.go, hc, hz, o1, o2, ha, hs, g1, g2, hb', VmOp.dirties, VmOp.acts]
/-- thrown in a call below this frame: the way that is left -/
def bz_WT (p : Program) (l : Launch) (e : Env) (R : Room) (s : State) (m : MethodId) (args : Array Value) (below : List Frame) (meth : Method) (c : Code) (H : Heap) (locs : List Loc) (cells slots : Nat) (Q : State → Prop) (g : JFrame) (q : Addr) : Prop :=
  ∀ T : State, T.heap = H → Stand p l e R s m args below meth c T locs cells slots → ∃ t, Steps p.tables e below ((T.setTop g).pushFrame (.throwing q)) t ∧ Q t
theorem bz_catch {g : JFrame} {q : Addr} {T : State} (hg : g.method = m) {h0 : Nat} {vm' : Vm} (X : Stand p l e R s m args below meth c T locs cells slots) (hf : bz_fi e ((T.setTop g).pushFrame (.throwing q)) g q c.exceptionTable.toList h0 vm') {target : State}
    (h : Steps p.tables e below ((T.setVm vm').setTop { g with pc := h0, stack := [.ref q] }) target) : Steps p.tables e below ((T.setTop g).pushFrame (.throwing q)) target := by
  subst hg
  obtain ⟨hgo, hin⟩ := X.here.throwing q
  refine Steps.head hgo hin ?_
  obtain ⟨g0, hg0⟩ := Option.isSome_iff_exists.mp X.here.top
  obtain ⟨fr, hfr⟩ := State.topJava?_eq_some.mp hg0
  have hfull : ∀ (Q9 : Handler → Pre) (E9 : CtlPost) (d9 : Bool) (acts : List Action), wp (findHandler g q) Q9 E9 e d9 acts ((T.setTop g).pushFrame (.throwing q)) ↔ Q9 (.found h0) d9 acts (((T.setTop g).pushFrame (.throwing q)).setVm vm') := fun Q9 E9 d9 acts => by
    rw [W.findHandler_eq (s := (T.setTop g).pushFrame (.throwing q)) (meth := meth) (code := c) X.method' X.code]
    exact hf Q9 E9 d9 acts
  have hstep : (stepThrowing e ((T.setTop g).pushFrame (.throwing q)) q (.java g :: T.frames.tail)).1 = (((T.setTop g).pushFrame (.throwing q)).setVm vm').setFrames (.java { g with pc := h0, stack := [.ref q] } :: T.frames.tail) := by
    simp only [stepThrowing, searchFrame, vmDo]
    generalize hr : Sem.go _ e false [] ((T.setTop g).pushFrame (.throwing q)) = res
    obtain ⟨as, rfl, -⟩ := Sem.eq_ok_of hr (a := Handler.found h0) (s' := ((T.setTop g).pushFrame (.throwing q)).setVm vm') (acts' := []) (by simp [hfull _ _ _ _])
    rfl
  rw [stepThread_throwing (frames_entered X.here.top _), hstep]
  have hfr2 : (T.setVm vm').frames = .java g0 :: fr := hfr
  have e1 : (((T.setTop g).pushFrame (.throwing q)).setVm vm').setFrames (.java { g with pc := h0, stack := [.ref q] } :: T.frames.tail) = (T.setVm vm').setTop { g with pc := h0, stack := [.ref q] } := by
    rw [State.setTop_of_frames _ hfr2, State.setTop_of_frames _ hfr, hfr]
    show (((T.setFrames (.java g :: fr)).setVm vm').setFrames _).setFrames _ = _
    rw [State.setFrames_setFrames]
    show ((T.setVm vm').setFrames _).setFrames _ = _
    rw [State.setFrames_setFrames]
    rfl
  rw [e1]
  exact h
theorem bz_ex {S : State} {E : String} {k : ClassId} (h : S.vm.findClass E = some k) : ∃ z, S.vm.classes[k]? = some z := by
  obtain ⟨z, h9, -⟩ := Vm.findClass_spec h
  exact ⟨z, h9⟩
/-- caught by the first row -/
theorem bz_cat1 {own E : String} {ce : Cell} {q : Addr} {g : JFrame} (hg : g.method = m) {r1 : ExceptionTableEntry} {rows : List ExceptionTableEntry} (hown : s.vm.findClass own = some m.cls) (ht : c.exceptionTable.toList = r1 :: rows) (hc : covers r1 g.pc = true) (hz : r1.catchType ≠ 0)
    (hlink : (Cond.classLink own r1.catchType E).before args s = true) (hcast : (Cond.castable E E).before args s = true) (ha : H[q]? = some ce) (hv : ce.vm = .none) (hcl : s.vm.findClass E = some ce.cls)
    (kk : W p l e R s m args below meth c H locs cells slots Q { g with pc := r1.handlerPc, stack := [.ref q] }) : bz_WT p l e R s m args below meth c H locs cells slots Q g q := by
  intro T hT X
  have hpl : e.platform.magicAccessors = ({} : Platform).magicAccessors := by rw [X.admits.platform]
  obtain ⟨c1, c2, a1, a2, a3⟩ := Cond.castable_spec hcast
  cases Option.some.inj (a1.symm.trans hcl)
  cases Option.some.inj (a2.symm.trans hcl)
  obtain ⟨c3, a4, hl⟩ := Cond.classLink_spec hown hlink e.platform hpl
  cases Option.some.inj (a4.symm.trans hcl)
  obtain ⟨dk, _, _, kt, hd, _, _, _, _, hkt, _, hopen⟩ := hl.here
  have hW := X.warmed.noted hd hopen (State.rightAt_cls hl)
  obtain ⟨zt, hzt, -⟩ := X.warmed.alike.2.2 _ _ hkt
  have hl2 := X.warmed.classLinks hl
  subst hg
  have hfi : bz_fi e ((T.setTop g).pushFrame (.throwing q)) g q c.exceptionTable.toList r1.handlerPc (T.vm.noted g.method.cls r1.catchType (.cls ce.cls)) := by
    intro Q9 E9 d9 acts
    rw [ht]
    have h9 := bz_row (S := (T.setTop g).pushFrame (.throwing q)) (f := g) (rows := rows) hc hz hl2 (ce := ce) (by show T.heap[q]? = some ce; rw [hT]; exact ha) hv ⟨zt, hzt⟩ ⟨zt, hzt⟩ true (by show T.vm.assignable _ _ = true; rw [X.warmed.alike.assignable]; exact a3) Q9 E9 d9 acts
    rw [if_pos rfl] at h9
    exact h9
  obtain ⟨t, b1, b2⟩ := kk (T.setVm (T.vm.noted g.method.cls r1.catchType (.cls ce.cls))) hT (X.noted hW)
  exact ⟨t, bz_catch rfl X hfi b1, b2⟩
/-- the first row lets it pass, the second one catches it -/
theorem bz_cat2 {own E F : String} {ce : Cell} {q : Addr} {g : JFrame} (hg : g.method = m) {r1 r2 : ExceptionTableEntry} {rows : List ExceptionTableEntry} (hown : s.vm.findClass own = some m.cls) (ht : c.exceptionTable.toList = r1 :: r2 :: rows) (hc : covers r1 g.pc = true) (hz : r1.catchType ≠ 0) (hc2 : covers r2 g.pc = true) (hz2 : r2.catchType ≠ 0)
    (hlink1 : (Cond.classLink own r1.catchType F).before args s = true) (hno : va_Nc E F s) (hlink : (Cond.classLink own r2.catchType E).before args s = true) (hcast : (Cond.castable E E).before args s = true) (ha : H[q]? = some ce) (hv : ce.vm = .none) (hcl : s.vm.findClass E = some ce.cls)
    (kk : W p l e R s m args below meth c H locs cells slots Q { g with pc := r2.handlerPc, stack := [.ref q] }) : bz_WT p l e R s m args below meth c H locs cells slots Q g q := by
  intro T hT X
  have hpl : e.platform.magicAccessors = ({} : Platform).magicAccessors := by rw [X.admits.platform]
  obtain ⟨c1, c2, a1, a2, a3⟩ := Cond.castable_spec hcast
  cases Option.some.inj (a1.symm.trans hcl)
  cases Option.some.inj (a2.symm.trans hcl)
  obtain ⟨c3, a4, hl⟩ := Cond.classLink_spec hown hlink e.platform hpl
  cases Option.some.inj (a4.symm.trans hcl)
  obtain ⟨c5, a5, hl0⟩ := Cond.classLink_spec hown hlink1 e.platform hpl
  obtain ⟨n1, n2, n3, n4, n5⟩ := hno
  cases Option.some.inj (n3.symm.trans hcl)
  cases Option.some.inj (n4.symm.trans a5)
  obtain ⟨dk, _, _, kt, hd, _, _, _, _, hkt, _, hopen⟩ := hl.here
  obtain ⟨dk0, _, _, kt0, hd0, _, _, _, _, hkt0, _, hopen0⟩ := hl0.here
  have hW0 := X.warmed.noted hd0 hopen0 (State.rightAt_cls hl0)
  have hW := hW0.noted hd hopen (State.rightAt_cls hl)
  obtain ⟨zt, hzt, -⟩ := X.warmed.alike.2.2 _ _ hkt
  obtain ⟨zt0, hzt0, -⟩ := X.warmed.alike.2.2 _ _ hkt0
  obtain ⟨zu, hzu, -⟩ := hW0.alike.2.2 _ _ hkt
  have hl1 := X.warmed.classLinks hl0
  have hl2 := hW0.classLinks hl
  subst hg
  have hfi : bz_fi e ((T.setTop g).pushFrame (.throwing q)) g q c.exceptionTable.toList r2.handlerPc ((T.vm.noted g.method.cls r1.catchType (.cls c5)).noted g.method.cls r2.catchType (.cls ce.cls)) := by
    intro Q9 E9 d9 acts
    rw [ht]
    have h8 := bz_row (S := (T.setTop g).pushFrame (.throwing q)) (f := g) (rows := r2 :: rows) hc hz hl1 (ce := ce) (by show T.heap[q]? = some ce; rw [hT]; exact ha) hv ⟨zt, hzt⟩ ⟨zt0, hzt0⟩ false (by show T.vm.assignable _ _ = false; rw [X.warmed.alike.assignable]; exact n5) Q9 E9 d9 acts
    rw [if_neg (by decide)] at h8
    have h9 := bz_row (S := ((T.setTop g).pushFrame (.throwing q)).setVm (T.vm.noted g.method.cls r1.catchType (.cls c5))) (f := g) (rows := rows) hc2 hz2 hl2 (ce := ce) (by show T.heap[q]? = some ce; rw [hT]; exact ha) hv ⟨zu, hzu⟩ ⟨zu, hzu⟩ true (by show (T.vm.noted g.method.cls r1.catchType (.cls c5)).assignable _ _ = true; rw [hW0.alike.assignable]; exact a3) Q9 E9 d9 acts
    rw [if_pos rfl] at h9
    exact h8.trans h9
  obtain ⟨t, b1, b2⟩ := kk (T.setVm ((T.vm.noted g.method.cls r1.catchType (.cls c5)).noted g.method.cls r2.catchType (.cls ce.cls))) hT (X.noted hW)
  exact ⟨t, bz_catch rfl X hfi b1, b2⟩
end BZC
