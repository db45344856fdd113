/-! a handler by the name of a class that may not have been resolved yet -/
section XH
variable {Q : Handler → Pre} {E : CtlPost} {e : Env} {d : Bool} {acts : List Action} {s : State} {f : JFrame} {a : Addr}
/-- one row of the table: it takes the object or passes it on; the entry is noted either way -/
theorem xh_row {x : ExceptionTableEntry} {t : List ExceptionTableEntry} {cX : ClassId} {cell : Cell} (hx : covers x f.pc = true) (h0 : x.catchType ≠ 0) (hl : s.vm.ClassLinks e.platform f.method.cls x.catchType cX) (hcell : s.heap[a]? = some cell) (hobj : ∀ k, cell.vm ≠ .statics k) (hk : ∃ k, s.vm.classes[cell.cls]? = some k) (hc : ∃ k, s.vm.classes[cX]? = some k) :
    wp (findHandler.go f a (x :: t)) Q E e d acts s ↔ if s.vm.assignable cell.cls cX = true then Q (.found x.handlerPc) d acts (s.setVm (s.vm.noted f.method.cls x.catchType (.cls cX))) else wp (findHandler.go f a t) Q E e d acts (s.setVm (s.vm.noted f.method.cls x.catchType (.cls cX))) := by
  simp only [covers] at hx
  obtain ⟨r1, r2⟩ := (resolveClass_links e.toSetting hl).op (op := VmOp.resolveClass f.method.cls x.catchType) rfl
  have hal : s.vm.Alike (s.vm.noted f.method.cls x.catchType (.cls cX)) := (Vm.Alike.refl s.vm).noted _ _ _
  obtain ⟨k1, hk1⟩ := hk
  obtain ⟨k2, hk2⟩ := hc
  obtain ⟨k1', hk1', -⟩ := hal.2.2 _ _ hk1
  obtain ⟨k2', hk2', -⟩ := hal.2.2 _ _ hk2
  have hsame : (s.vm.noted f.method.cls x.catchType (.cls cX)).assignable cell.cls cX = s.vm.assignable cell.cls cX := hal.assignable ..
  cases hb : s.vm.assignable cell.cls cX <;> rw [hb] at hsame <;> simp [findHandler.go, hx, h0, r1, r2, hcell, hobj, hk1', hk2', hsame, VmOp.dirties, VmOp.acts]
/-- what the search finds, and the tables behind it -/
def xh_F (e : Env) (s : State) (f : JFrame) (a : Addr) (pc : Nat) (vm' : Vm) : Prop := ∀ (Q : Handler → Pre) (E : CtlPost) (d : Bool) (acts : List Action), wp (findHandler f a) Q E e d acts s ↔ Q (.found pc) d acts (s.setVm vm')
theorem xh_into {tb : Tables} {s target : State} {g : JFrame} {c : Code} {below : List Frame} (h : At s g.method c below) {pc : Nat} {vm' : Vm} (hfind : xh_F e ((s.setTop g).pushFrame (.throwing a)) g a pc vm') (hrest : Steps tb e below ((s.setVm vm').setTop { g with pc := pc, stack := [.ref a] }) target) : Steps tb e below ((s.setTop g).pushFrame (.throwing a)) target := by
  obtain ⟨hgo, hw⟩ := h.throwing a
  refine Steps.head hgo hw ?_
  obtain ⟨g₀, hg⟩ := Option.isSome_iff_exists.mp h.top
  obtain ⟨r, hr⟩ := State.topJava?_eq_some.mp hg
  have hst : (stepThrowing e ((s.setTop g).pushFrame (.throwing a)) a (.java g :: s.frames.tail)).Is ((((s.setTop g).pushFrame (.throwing a)).setVm vm').setFrames (.java { g with pc := pc, stack := [.ref a] } :: s.frames.tail)) [] := by
    simp only [stepThrowing, searchFrame, vmDo]
    generalize hres : Sem.go _ e false [] ((s.setTop g).pushFrame (.throwing a)) = res
    obtain ⟨as, rfl, has⟩ := Sem.eq_ok_of hres (a := Handler.found pc) (s' := ((s.setTop g).pushFrame (.throwing a)).setVm vm') (acts' := []) (by simp [hfind _ _ _ _])
    exact ⟨rfl, has⟩
  rw [stepThread_throwing (frames_entered h.top _), hst.1]
  have hr' : (s.setVm vm').frames = .java g₀ :: r := hr
  rw [State.setTop_of_frames _ hr'] at hrest
  have key : ∀ (u : State) (F G : List Frame), ((u.setFrames F).setVm vm').setFrames G = (u.setVm vm').setFrames G := fun u F G => by
    rw [show (u.setFrames F).setVm vm' = (u.setVm vm').setFrames F from rfl, State.setFrames_setFrames]
  rw [hr, List.tail_cons, State.pushFrame, key, State.setTop_of_frames _ hr, key]
  exact hrest
end XH
section XI
variable {p : Program} {l : Launch} {e : Env} {R : Room} {s : State} {m : MethodId} {args : Array Value} {below : List Frame} {meth : Method} {c : Code} {H : Heap} {locs : List Loc} {cells slots : Nat} {Q : State → Prop} {pc : Nat} {ls : Array Slot} {rest : List Value}
/-- the class that a catch names takes the object -/
theorem xh_catch1 {own nm E : String} {ce : Cell} {q : Addr} (hown : s.vm.findClass own = some m.cls) {x : ExceptionTableEntry} {t : List ExceptionTableEntry} (htab : c.exceptionTable.toList = x :: t) (hx : covers x pc = true) (h0 : x.catchType ≠ 0) (hlink : (Cond.classLink own x.catchType nm).before args s = true) (hcast : (Cond.castable E nm).before args s = true) (hcell : H[q]? = some ce) (hv : ce.vm = .none) (hcl : s.vm.findClass E = some ce.cls)
    (kk : W p l e R s m args below meth c H locs cells slots Q (F0 m x.handlerPc ls [.ref q])) : xw_X p l e R s m args below meth c H locs cells slots Q (F0 m pc ls rest) q := by
  intro T hT X
  have hpl : e.platform.magicAccessors = ({} : Platform).magicAccessors := by rw [X.admits.platform]
  obtain ⟨c3, c4, hc3, hc4, hasg⟩ := Cond.castable_spec hcast
  cases Option.some.inj (hc3.symm.trans hcl)
  obtain ⟨c5, hc5, hl5⟩ := Cond.classLink_spec hown hlink e.platform hpl
  cases Option.some.inj (hc4.symm.trans hc5)
  have hW := X.warmed
  obtain ⟨dk, _, _, kt, hd, _, _, _, _, hkt, _, hopen⟩ := hl5.here
  obtain ⟨k0, hk0, -⟩ := Vm.findClass_spec hcl
  obtain ⟨k0', hk0', -⟩ := hW.alike.2.2 _ _ hk0
  obtain ⟨kt', hkt', -⟩ := hW.alike.2.2 _ _ hkt
  have hW' := hW.noted hd hopen (State.rightAt_cls hl5)
  have hf : xh_F e ((T.setTop (F0 m pc ls rest)).pushFrame (.throwing q)) (F0 m pc ls rest) q x.handlerPc (T.vm.noted m.cls x.catchType (.cls c4)) := by
    intro Q9 E9 d9 acts9
    refine (W.findHandler_eq (meth := meth) (code := c) X.method' X.code).trans ?_
    rw [htab]
    refine (xh_row (s := (T.setTop (F0 m pc ls rest)).pushFrame (.throwing q)) (f := F0 m pc ls rest) (cX := c4) (cell := ce) hx h0 (hW.classLinks hl5) (by show T.heap[q]? = _; rw [hT]; exact hcell) (VmData.ne_statics_of (by rw [hv]; rfl)) ⟨k0', hk0'⟩ ⟨kt', hkt'⟩).trans ?_
    rw [if_pos (by show T.vm.assignable _ _ = true; rw [hW.alike.assignable]; exact hasg)]
    rfl
  obtain ⟨t9, a1, b1⟩ := kk (T.setVm (T.vm.noted m.cls x.catchType (.cls c4))) hT (X.noted hW')
  exact ⟨t9, xh_into (by exact X.here) hf a1, b1⟩
/-- .. behind a row that passes it on -/
theorem xh_catch2 {own nm nm1 E : String} {ce : Cell} {q : Addr} (hown : s.vm.findClass own = some m.cls) {x1 x : ExceptionTableEntry} {t : List ExceptionTableEntry} (htab : c.exceptionTable.toList = x1 :: x :: t) (hx1 : covers x1 pc = true) (h01 : x1.catchType ≠ 0) (hlink1 : (Cond.classLink own x1.catchType nm1).before args s = true) (hnc : va_Nc E nm1 s) (hx : covers x pc = true) (h0 : x.catchType ≠ 0) (hlink : (Cond.classLink own x.catchType nm).before args s = true) (hcast : (Cond.castable E nm).before args s = true) (hcell : H[q]? = some ce) (hv : ce.vm = .none) (hcl : s.vm.findClass E = some ce.cls)
    (kk : W p l e R s m args below meth c H locs cells slots Q (F0 m x.handlerPc ls [.ref q])) : xw_X p l e R s m args below meth c H locs cells slots Q (F0 m pc ls rest) q := by
  intro T hT X
  have hpl : e.platform.magicAccessors = ({} : Platform).magicAccessors := by rw [X.admits.platform]
  obtain ⟨c3, c4, hc3, hc4, hasg⟩ := Cond.castable_spec hcast
  cases Option.some.inj (hc3.symm.trans hcl)
  obtain ⟨c5, hc5, hl5⟩ := Cond.classLink_spec hown hlink e.platform hpl
  cases Option.some.inj (hc4.symm.trans hc5)
  obtain ⟨c6, hc6, hl6⟩ := Cond.classLink_spec hown hlink1 e.platform hpl
  obtain ⟨a8, b8, g1, g2, g3⟩ := hnc
  cases Option.some.inj (g1.symm.trans hcl)
  cases Option.some.inj (g2.symm.trans hc6)
  have hW := X.warmed
  obtain ⟨dk, _, _, kt, hd, _, _, _, _, hkt, _, hopen⟩ := hl5.here
  obtain ⟨dk6, _, _, kt6, hd6, _, _, _, _, hkt6, _, hopen6⟩ := hl6.here
  obtain ⟨k0, hk0, -⟩ := Vm.findClass_spec hcl
  have hW1 := hW.noted hd6 hopen6 (State.rightAt_cls hl6)
  have hW2 := hW1.noted hd hopen (State.rightAt_cls hl5)
  obtain ⟨k0', hk0', -⟩ := hW.alike.2.2 _ _ hk0
  obtain ⟨kt6', hkt6', -⟩ := hW.alike.2.2 _ _ hkt6
  obtain ⟨k0'', hk0'', -⟩ := hW1.alike.2.2 _ _ hk0
  obtain ⟨kt'', hkt'', -⟩ := hW1.alike.2.2 _ _ hkt
  have hf : xh_F e ((T.setTop (F0 m pc ls rest)).pushFrame (.throwing q)) (F0 m pc ls rest) q x.handlerPc ((T.vm.noted m.cls x1.catchType (.cls c6)).noted m.cls x.catchType (.cls c4)) := by
    intro Q9 E9 d9 acts9
    refine (W.findHandler_eq (meth := meth) (code := c) X.method' X.code).trans ?_
    rw [htab]
    refine (xh_row (s := (T.setTop (F0 m pc ls rest)).pushFrame (.throwing q)) (f := F0 m pc ls rest) (cX := c6) (cell := ce) hx1 h01 (hW.classLinks hl6) (by show T.heap[q]? = _; rw [hT]; exact hcell) (VmData.ne_statics_of (by rw [hv]; rfl)) ⟨k0', hk0'⟩ ⟨kt6', hkt6'⟩).trans ?_
    rw [if_neg (by show ¬ T.vm.assignable _ _ = true; rw [hW.alike.assignable, g3]; decide)]
    refine (xh_row (s := ((T.setTop (F0 m pc ls rest)).pushFrame (.throwing q)).setVm (T.vm.noted m.cls x1.catchType (.cls c6))) (f := F0 m pc ls rest) (cX := c4) (cell := ce) hx h0 (hW1.classLinks hl5) (by show T.heap[q]? = _; rw [hT]; exact hcell) (VmData.ne_statics_of (by rw [hv]; rfl)) ⟨k0'', hk0''⟩ ⟨kt'', hkt''⟩).trans ?_
    rw [if_pos (by show (T.vm.noted m.cls x1.catchType (.cls c6)).assignable _ _ = true; rw [hW1.alike.assignable]; exact hasg)]
    rfl
  obtain ⟨t9, a1, b1⟩ := kk (T.setVm ((T.vm.noted m.cls x1.catchType (.cls c6)).noted m.cls x.catchType (.cls c4))) hT (X.noted hW2)
  exact ⟨t9, xh_into (by exact X.here) hf a1, b1⟩
end XI
