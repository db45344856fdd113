/-! a call of a method that may make cells or throw; a handler -/
section XV
variable {p : Program} {l : Launch} {e : Env} {R : Room} {s : State} {m : MethodId} {args : Array Value} {below : List Frame} {meth : Method} {c : Code} {H : Heap} {locs : List Loc} {cells slots : Nat} {Q : State → Prop}
variable {cc : ByteArray} {nL pc index : Nat} {own : String} {rt : Option FieldType} {ls : Array Slot} {rest st0 : List Value} {A : Nat → Prop}
variable {S1 : Type} {D : va_G} {tys : List (ClassId × FieldType)} {Wd : S1 → va_W} {u : S1} {Po : Option Value → S1 → Prop} {Px : String → S1 → Prop}
/-- q is being thrown over the frame g -/
def xw_X (p : Program) (l : Launch) (e : Env) (R : Room) (s : State) (m : MethodId) (args : Array Value) (below : List Frame) (meth : Method) (c : Code) (H : Heap) (locs : List Loc) (cells slots : Nat) (Q : State → Prop) (g : JFrame) (q : Addr) : Prop :=
  ∀ T : State, T.heap = H → Stand p l e R s m args below meth c T locs cells slots → ∃ t, Steps p.tables e below ((T.setTop g).pushFrame (.throwing q)) t ∧ Q t
/-- the callee's run, from the caller's frame g with the arguments taken off -/
theorem xw_run {y : MethodName} {b : ByteArray} {nY : Nat} {rY : Option FieldType} {rm : Room} {vs : List Value} {T : State} {g : JFrame} {ig : Instr} {mk : MethodId} (X : Stand p l e R s m args below meth c T locs cells slots) (hM : xw_M l D tys Wd y b nY rY rm vs u Po Px) (hN : xx_N s) (hZ : xw_Z T)
    (hts : ∀ w ∈ xx_tb, w.before args s = true) (hcode : Cond.code y b nY rY ∈ xx_tb) (hini : Cond.initialized y.cls ∈ xx_tb) (hR : rm.frames + 1 ≤ R.frames ∧ 8 + (nY + 11) + rm.locals ≤ R.locals) (hf : cells + rm.cells ≤ R.cells ∧ slots + rm.slots ≤ R.slots)
    (hK : va_K D xx_cls tys s) (hP : va_P D xx_cls (Wd u) T.heap) (hD : va_D A (Wd u)) (hg : g.method = m) (hsize : g.locals.size = c.maxLocals) (hdg : decode c.code g.pc = .ok (ig, 3)) (hW : 2 * g.monitorRoom + (g.stack.map fun v => v.category).sum ≤ 8) (hn : T.methodNamed? y = some mk) :
    ∃ (T' : State) (L : List Loc), Stand p l e R s m args below meth c T' (locs ++ L) (cells + rm.cells) (slots + rm.slots) ∧ (∀ z ∈ L, va_A (Wd u) T.heap.size z.base) ∧ (T.heap.size ≤ T'.heap.size ∧ ∀ q : Nat, q < T.heap.size → ¬ va_A (Wd u) T.heap.size q → T'.heap[q]? = T.heap[q]?) ∧
      ((∃ (rv : Option Value) (u1 : S1), Po rv u1 ∧ va_P D xx_cls (Wd u1) T'.heap ∧ va_D (va_A (Wd u) T.heap.size) (Wd u1) ∧ Steps p.tables e below (doInvoke e (T.setTop g) [] mk vs.toArray).1 (T'.setTop { g with pc := g.pc + 3, stack := rv.toList ++ g.stack })) ∨
       (∃ (q : Addr) (E : String) (u1 : S1) (ce : Cell), Px E u1 ∧ va_P D xx_cls (Wd u1) T'.heap ∧ va_D (va_A (Wd u) T.heap.size) (Wd u1) ∧ T'.heap[q]? = some ce ∧ ce.vm = .none ∧ s.vm.findClass E = some ce.cls ∧ Steps p.tables e below (doInvoke e (T.setTop g) [] mk vs.toArray).1 ((T'.setTop g).pushFrame (.throwing q)))) := by
  have hws : ∀ (w : Cond), w ∈ Cond.code y b nY rY :: xx_tb → ∀ (a' : Array Value) (U : State), s.WarmedH U.vm → w.before a' U = true := pay_in hts (xx_GI (xx_GIc hcode))
  have h2 : (Cond.code y b nY rY).before vs.toArray T = true := hws _ List.mem_cons_self _ _ X.warmed
  have h3 : (Cond.initialized y.cls).before vs.toArray T = true := hws _ (List.mem_cons_of_mem _ hini) _ _ X.warmed
  obtain ⟨methY, cY, hmY, hcY, -, hlY, -, -, -, -⟩ := Cond.code_spec hn h2
  obtain ⟨kY, hkY, -⟩ := className_of_methodNamed hn
  have hiY : kY.init = .initialized := Cond.initialized_spec (findClass_of_methodNamed hn) hkY h3
  have hat : At T g.method c below := by rw [hg]; exact X.here
  have hlo : 8 + (nY + 11) + (headSpec (Cond.code y b nY rY :: xx_tb) rm).room.locals ≤ R.locals := hR.2
  have happ : (headSpec (Cond.code y b nY rY :: xx_tb) rm).appliesLoose y e.platform (T.calling g mk vs.toArray) = true :=
    Spec.appliesLoose_calling (g := g) hat hdg hn hkY hiY (X.room_calling (g := g) (R' := (headSpec (Cond.code y b nY rY :: xx_tb) rm).room) hsize hmY hcY hR.1 (by rw [hlY]; omega) hf.1 hf.2) (atoms_intro fun w hw => hws w hw _ _ X.warmed)
  have hPc : xw_Pc D tys Wd vs u T.heap.size vs.toArray (T.calling g mk vs.toArray) :=
    xw_blind _ _ _ _ ⟨rfl, rfl, ⟨xx_N.warm X.warmed hN, hZ⟩, hP, va_K.moved X.warmed.alike hK, hD.weaken (fun _ _ _ _ => trivial)⟩
  obtain ⟨mid, hmid⟩ := hat.above
  have hfr : (T.setTop g).frames = (.java g :: mid) ++ below := by rw [State.frames_setTop' g hat.top, hmid]; rfl
  obtain ⟨o, s₂, hsteps, -, hend, hq⟩ := Steps.callFree (hM T.heap.size) p X.admits X.cas X.clock (acts := []) hfr happ hPc trivial
  obtain ⟨hcase, hF, hW₂, L, hsm, hL⟩ : xw_Q D tys Wd Po Px rm.cells rm.slots (va_A (Wd u) T.heap.size) vs.toArray (T.calling g mk vs.toArray) o s₂ := hq
  rw [State.frames_setTop' g hat.top] at hend
  obtain ⟨g₀, hg0⟩ := Option.isSome_iff_exists.mp hat.top
  obtain ⟨r, hr⟩ := State.topJava?_eq_some.mp hg0
  have hW' : T.WarmedH s₂.vm := hW₂
  obtain ⟨T', hT'⟩ : ∃ z : State, z = ({ T with heap := s₂.heap, slotsUsed := s₂.slotsUsed } : State).setVm s₂.vm := ⟨_, rfl⟩
  have hr' : T'.frames = .java g₀ :: r := by rw [hT']; exact hr
  obtain ⟨e2, q2, q3, q4, q5, q6⟩ := id hsm
  have e3 : s₂ = ({ (T.calling g mk vs.toArray).setFrames s₂.frames with heap := s₂.heap, slotsUsed := s₂.slotsUsed } : State).setVm s₂.vm := by
    have h0 : s₂ = ({ s₂ with vm := (T.calling g mk vs.toArray).vm } : State).setVm s₂.vm := rfl
    rw [e2] at h0
    exact h0
  have hsame : T.sameButNew ({ T with heap := s₂.heap, slotsUsed := s₂.slotsUsed } : State) L rm.cells rm.slots := by
    refine ⟨?_, q2, q3, q4, q5, q6⟩
    obtain ⟨t, ht, -⟩ := State.frames_cons hr
    show ({ T with heap := s₂.heap, slotsUsed := s₂.slotsUsed } : State) = { T.setFrames T.frames with heap := s₂.heap, slotsUsed := s₂.slotsUsed }
    rw [State.setFrames_self ht]
  have X' : Stand p l e R s m args below meth c T' (locs ++ L) (cells + rm.cells) (slots + rm.slots) := by
    rw [hT']
    exact ⟨X.admits, X.cas, X.clock, X.frames, X.room, X.hears, X.method, X.code, (X.here.setHeapUsed s₂.heap s₂.slotsUsed).setVm hW'.alike, X.tail, State.WarmedH.trans X.warmed hW', X.limits, X.bytes, X.same.trans (hsame.setVm s.vm)⟩
  have hhp : T'.heap = s₂.heap := by rw [hT']; rfl
  refine ⟨T', L, X', hL, by rw [hhp]; exact hF, ?_⟩
  rw [hhp]
  rcases hcase with ⟨rv, u1, rfl, hPo, hB⟩ | ⟨q, E, u1, ce, rfl, hPx, hB, hce, hcv, hcl⟩
  · refine Or.inl ⟨rv, u1, hPo, hB.1, hB.2.2, ?_⟩
    obtain ⟨c₂, i₂, len₂, hc₂, hd₂, hf₂⟩ := hend
    have hcc : c₂ = c := by
      have h1 : s₂.code? g.method = T.code? g.method := by rw [State.code?_eq, State.code?_eq, hW'.alike.method?]
      exact Option.some.inj (hc₂.symm.trans (h1.trans hat.code))
    subst hcc
    have hlen : len₂ = 3 := by rw [hdg] at hd₂; cases hd₂; rfl
    subst hlen
    have hs₂ : s₂ = T'.setTop { g with pc := g.pc + 3, stack := rv.toList ++ g.stack } := by
      refine e3.trans ?_
      rw [hf₂, State.calling_eq hat.top, State.setFrames_setFrames, State.setTop_of_frames _ hr', hr, hT']
      rfl
    rw [← hs₂]
    exact hsteps
  · refine Or.inr ⟨q, E, u1, ce, hPx, hB.1, hB.2.2, hce, hcv, ?_, ?_⟩
    · have h1 : T.vm.findClass E = some ce.cls := hcl
      rw [X.warmed.alike.findClass] at h1
      exact h1
    · have hf₂ : s₂.frames = .throwing q :: .java g :: T.frames.tail := hend
      have hs₂ : s₂ = (T'.setTop g).pushFrame (.throwing q) := by
        refine e3.trans ?_
        rw [hf₂, State.calling_eq hat.top, State.setFrames_setFrames, State.pushFrame, State.frames_setTop _ hr', State.setTop_of_frames _ hr', State.setFrames_setFrames, hr, hT']
        rfl
      rw [← hs₂]
      exact hsteps
/-- invokevirtual of such a method on a cell of the world -/
theorem xw_callV {y : MethodName} {b : ByteArray} {nY : Nat} {rY : Option FieldType} {rm : Room} {As : List Value} {T : u_T} {N ci o : Nat} {fs : List Value} {Cn : String} {n : Nat} (C : xx_C p s m args meth c cc nL own rt) (hZ : xw_Z s) (hAst : ∀ (q : Nat) (x : Cell), s.heap[q]? = some x → x.vm.isStatics = true → ¬ A q) (hM : xw_M l D tys Wd y b nY rY rm (.ref o :: As) u Po Px)
    (hw : Cond.code y b nY rY ∈ xx_tb ∧ Cond.methodLink own index y ∈ xx_tb ∧ Cond.instanceMethod y ∈ xx_tb ∧ Cond.selects Cn y y ∈ xx_tb ∧ Cond.initialized y.cls ∈ xx_tb) (hd : y.cls ≠ "java/lang/invoke/MethodHandle" ∧ y.cls ≠ "java/lang/invoke/VarHandle" ∧ (parseMethodDescriptor y.desc).map (fun d => d.parameters.length) = some n) (hn : As.length = n) (hR : rm.frames + 1 ≤ R.frames ∧ 8 + (nY + 11) + rm.locals ≤ R.locals)
    (q0 : Nat) (he : (Wd u)[q0]? = some (o, .inr (ci, fs))) (hc : xx_cls[ci]? = some (Cn, T, N))
    (hl : ls.size = nL) (hst : st0 = As.reverse ++ .ref o :: rest) (hrs : (rest.map fun v => v.category).sum ≤ 8) (hA : ∀ q, s.heap.size ≤ q → A q) (hK : va_K D xx_cls tys s) (hP : va_P D xx_cls (Wd u) H) (hD : va_D A (Wd u)) (hS : va_S A s.heap H locs) (hf : cells + rm.cells ≤ R.cells ∧ slots + rm.slots ≤ R.slots) (hdg : decode cc pc = .ok (.invokevirtual index, 3))
    (kr : ∀ (rv : Option Value) (u1 : S1) (H1 : Heap) (locs1 : List Loc), Po rv u1 → va_P D xx_cls (Wd u1) H1 → va_D A (Wd u1) → va_S A s.heap H1 locs1 → W p l e R s m args below meth c H1 locs1 (cells + rm.cells) (slots + rm.slots) Q (F0 m (pc + 3) ls (rv.toList ++ rest)))
    (kx : ∀ (q : Addr) (E : String) (ce : Cell) (u1 : S1) (H1 : Heap) (locs1 : List Loc), Px E u1 → va_P D xx_cls (Wd u1) H1 → va_D A (Wd u1) → va_S A s.heap H1 locs1 → H1[q]? = some ce → ce.vm = .none → s.vm.findClass E = some ce.cls → xw_X p l e R s m args below meth c H1 locs1 (cells + rm.cells) (slots + rm.slots) Q (F0 m pc ls rest) q) : W p l e R s m args below meth c H locs cells slots Q (F0 m pc ls st0) := by
  obtain ⟨hexec, hb, hml, hown, hts, -, -, hN⟩ := C
  obtain ⟨cellB, hcB, hoB, hclB⟩ := va_recv hK hP hc he
  subst hn
  intro T hT X
  obtain ⟨mk, methM, hnamed, hmethM, hstM, habM⟩ := Cond.instanceMethod_spec (hts _ hw.2.2.1)
  obtain ⟨methM', cM, hmethM', -, -, -, -, -, -, hsigM⟩ := Cond.code_spec hnamed (hts _ hw.1)
  cases hmethM.symm.trans hmethM'
  have hy : y.cls ≠ "java/lang/invoke/MethodHandle" ∧ y.cls ≠ "java/lang/invoke/VarHandle" := ⟨hd.1, hd.2.1⟩
  obtain ⟨c2, r2, m2, q1, q2, q3, q4, kP, hkP, hkPi⟩ := Cond.selects_spec (hts _ hw.2.2.2.1)
  cases hclB.symm.trans q1
  cases (State.methodFound?_of_named hnamed hy).symm.trans q2
  cases hnamed.symm.trans q3
  have hselP : selectMethod e.platform s.vm cellB.cls mk = .method mk := by rw [Launch.admits_selectMethod X.admits]; exact q4
  have hlen : As.length = methM.sig.parameters.length := by
    have h2 := hd.2.2
    rw [hsigM] at h2
    exact (Option.some.inj h2).symm
  obtain ⟨vm₁, X₁, hstep₁⟩ := X.invokevirtual hexec hown (hts _ hw.2.1) hnamed hmethM hstM hkP hkPi hy (a := o) (cell := cellB) (by rw [hT]; exact hcB)
    (fun z h => by rw [h] at hoB; cases hoB) hselP hmethM habM hkP hkPi (g := F0 m pc ls st0) rfl (argsL := As) (rest := rest) hlen hst (by rw [hb]; exact hdg)
  have hh1 : (T.setVm vm₁).heap = H := hT
  have hZ1 : xw_Z (T.setVm vm₁) := xw_Z.move X₁.warmed (fun q x hx hs => by rw [hh1, hS.2.1 q (Array.getElem?_eq_some_iff.mp hx).1 (hAst q x hx hs)]; exact hx) hZ
  obtain ⟨T', L, X', hL, hF, hcase⟩ := xw_run (A := A) (g := F0 m pc ls rest) (ig := .invokevirtual index) X₁ hM hN hZ1 hts hw.1 hw.2.2.2.2 hR hf hK (by rw [hh1]; exact hP) hD rfl (hl.trans hml.symm) (by rw [hb]; exact hdg) (lv_room hrs) (X₁.named hnamed)
  rw [hh1] at hL hF hcase
  have hfree : ∀ q, va_A (Wd u) H.size q → A q := by
    rintro q (⟨k, e', h⟩ | h)
    · exact hD.2 k _ h
    · exact hA q (Nat.le_trans hS.1 h)
  have hS' : va_S A s.heap T'.heap (locs ++ L) := ⟨Nat.le_trans hS.1 hF.1, fun q h1 h2 => by rw [hF.2 q (Nat.lt_of_lt_of_le h1 hS.1) (fun z => h2 (hfree q z))]; exact hS.2.1 q h1 h2, fun q hq => by
    rcases List.mem_append.mp hq with h | h
    · exact hS.2.2 q h
    · exact hfree _ (hL q h)⟩
  rcases hcase with ⟨rv, u1, hPo, hP1, hD1, st⟩ | ⟨q, E, u1, ce, hPx, hP1, hD1, hce, hcv, hcl, st⟩
  · obtain ⟨t2, a2, b2⟩ := kr rv u1 T'.heap (locs ++ L) hPo hP1 ⟨hD1.1, fun k q hq => hfree _ (hD1.2 k q hq)⟩ hS' T' rfl X'
    exact ⟨t2, hstep₁ _ fun acts => by rw [doInvoke_state]; exact st.trans a2, b2⟩
  · obtain ⟨t2, a2, b2⟩ := kx q E ce u1 T'.heap (locs ++ L) hPx hP1 ⟨hD1.1, fun k q hq => hfree _ (hD1.2 k q hq)⟩ hS' hce hcv hcl T' rfl X'
    exact ⟨t2, hstep₁ _ fun acts => by rw [doInvoke_state]; exact st.trans a2, b2⟩
/-- the same where nothing is thrown -/
theorem xw_callR {y : MethodName} {b : ByteArray} {nY : Nat} {rY : Option FieldType} {rm : Room} {As : List Value} {T : u_T} {N ci o : Nat} {fs : List Value} {Cn : String} {n : Nat} (C : xx_C p s m args meth c cc nL own rt) (CW : xw_C s c A) (hM : xw_M l D tys Wd y b nY rY rm (.ref o :: As) u Po (fun _ _ => False))
    (hw : Cond.code y b nY rY ∈ xx_tb ∧ Cond.methodLink own index y ∈ xx_tb ∧ Cond.instanceMethod y ∈ xx_tb ∧ Cond.selects Cn y y ∈ xx_tb ∧ Cond.initialized y.cls ∈ xx_tb) (hd : y.cls ≠ "java/lang/invoke/MethodHandle" ∧ y.cls ≠ "java/lang/invoke/VarHandle" ∧ (parseMethodDescriptor y.desc).map (fun d => d.parameters.length) = some n) (hn : As.length = n) (hR : rm.frames + 1 ≤ R.frames ∧ 8 + (nY + 11) + rm.locals ≤ R.locals)
    (q0 : Nat) (he : (Wd u)[q0]? = some (o, .inr (ci, fs))) (hc : xx_cls[ci]? = some (Cn, T, N))
    (hl : ls.size = nL) (hst : st0 = As.reverse ++ .ref o :: rest) (hrs : (rest.map fun v => v.category).sum ≤ 8) (hA : ∀ q, s.heap.size ≤ q → A q) (hK : va_K D xx_cls tys s) (hP : va_P D xx_cls (Wd u) H) (hD : va_D A (Wd u)) (hS : va_S A s.heap H locs) (hf : cells + rm.cells ≤ R.cells ∧ slots + rm.slots ≤ R.slots) (hdg : decode cc pc = .ok (.invokevirtual index, 3))
    (kr : ∀ (rv : Option Value) (u1 : S1) (H : Heap) (locs : List Loc), Po rv u1 → va_P D xx_cls (Wd u1) H → va_D A (Wd u1) → va_S A s.heap H locs → W p l e R s m args below meth c H locs (cells + rm.cells) (slots + rm.slots) Q (F0 m (pc + 3) ls (rv.toList ++ rest))) : W p l e R s m args below meth c H locs cells slots Q (F0 m pc ls st0) :=
  xw_callV C CW.2.2 CW.2.1 hM hw hd hn hR q0 he hc hl hst hrs hA hK hP hD hS hf hdg kr (fun _ _ _ _ _ _ h => h.elim)
end XV
