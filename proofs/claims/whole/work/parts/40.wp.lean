/-! Methods that make cells or throw: contracts by what must hold behind them. Po: where it returns; Px: where it throws (the class's name) -/
def xw_zs : List Cond := [.isRef (.static Bundle.tN "UNASSIGNED_STACK" Bundle.steD), .isRef (.static Bundle.tN "SUPPRESSED_SENTINEL" Bundle.listD), .laysStatic Bundle.tN "UNASSIGNED_STACK" Bundle.steD, .laysStatic Bundle.tN "SUPPRESSED_SENTINEL" Bundle.listD]
abbrev xw_ds : List MethodName := [Bundle.init0 "java/lang/RuntimeException", Bundle.init0 "java/lang/Exception", Bundle.init0 Bundle.tN]
theorem xw_dmove {x : MethodName} {s U : State} (hW : s.WarmedH U.vm) (h : va_Nw (.declares x) s) : va_Nw (.declares x) U := va_tabs rfl (rfl : (s.setVm U.vm).vm = U.vm) (by rw [Cond.declares_setVm hW.alike]; exact h)
/-- Throwable's two statics -/
def xw_Z (U : State) : Prop := ((Cond.initialized Bundle.tN).before #[] U = true ∧ va_Nc "java/lang/IllegalStateException" "java/lang/IndexOutOfBoundsException" U ∧ va_Nc "java/lang/IllegalStateException" "java/lang/IllegalArgumentException" U) ∧ (∀ w ∈ xw_zs, w.before #[] U = true) ∧ (∀ x ∈ xw_ds, va_Nw (.declares x) U) ∧ va_AO "ModuleLoader$Symbol" U ∧ va_AO "ModuleLoader$LoadedModule" U
theorem xw_lays {C n d : String} {args args' : Array Value} {s U : State} (hv : s.vm.Alike U.vm) (hh : ∀ (q : Nat) (x : Cell), s.heap[q]? = some x → x.vm.isStatics = true → U.heap[q]? = some x) (h : (Cond.laysStatic C n d).before args s = true) : (Cond.laysStatic C n d).before args' U = true := by
  obtain ⟨c, k, i, f, a, cell, h1, h2, h3, h4, h5, h6, h7, h8, h9⟩ := Cond.laysStatic_spec h
  obtain ⟨k', hi', he⟩ := State.fieldFound?_setVm hv h2
  show (Cond.laysStatic C n d).holds args' U none U [] = true
  exact Cond.laysStatic_of (by rw [hv.findClass]; exact h1) hi' h3 (by rw [he]; exact h4) (hh a cell h5 h6) h6 h7 h8 (by rw [he]; exact h9)
theorem xw_isRef {C n d : String} {args args' : Array Value} {s U : State} (hv : s.vm.Alike U.vm) (hh : ∀ (q : Nat) (x : Cell), s.heap[q]? = some x → x.vm.isStatics = true → U.heap[q]? = some x) (hl : (Cond.laysStatic C n d).before args s = true) (hi : (Cond.initialized C).before args s = true) (h : (Cond.isRef (.static C n d)).before args s = true) : (Cond.isRef (.static C n d)).before args' U = true := by
  have key : ∀ v : Value, (v = .null ∨ ∃ t, v = .ref t) → va_Z C n d v (fun _ => False) s s.heap → (Cond.isRef (.static C n d)).before args' U = true := by
    intro v hvr hz
    obtain ⟨cf, kf, fi, f, a, cell, h1, h2, h3, h4, h5, h6, h7, -⟩ := hz
    obtain ⟨k', hi', he⟩ := State.fieldFound?_setVm hv h1
    have hk' : k'.statics = some a := by rw [he]; exact h4
    clear he
    have hi2 : U.fieldFound? C n d = some (cf, k', fi, f) := hi'
    have hU := hh a cell h5 h6
    have hev : (Term.static C n d).eval args' U none [] U = some v := by
      simp [Term.eval, State.fieldNamed?, hi2, h2, hk', hU, h6, h7]
    rcases hvr with rfl | ⟨t, rfl⟩ <;> simp [Cond.before, Cond.holds, Cond.value, hev]
  rcases va_Zqof (A := fun _ => False) hl hi h (fun _ _ z => z) with hz | ⟨t, hz⟩
  · exact key _ (Or.inl rfl) hz
  · exact key _ (Or.inr ⟨t, rfl⟩) hz
theorem xw_ini {C : String} {args args' : Array Value} {s U : State} (hW : s.WarmedH U.vm) (h : (Cond.initialized C).before args s = true) : (Cond.initialized C).before args' U = true := word_at hW (Or.inl (by first | rfl | simp [Cond.onTables, Cond.keeps, Cond.steady])) h
theorem xw_Z.move {s U : State} (hW : s.WarmedH U.vm) (hh : ∀ (q : Nat) (x : Cell), s.heap[q]? = some x → x.vm.isStatics = true → U.heap[q]? = some x) (h : xw_Z s) : xw_Z U := by
  obtain ⟨⟨h0, n1, n2⟩, h1, h7, h8, h9⟩ := h
  have l1 := h1 (.laysStatic Bundle.tN "UNASSIGNED_STACK" Bundle.steD) (by simp [xw_zs])
  have l2 := h1 (.laysStatic Bundle.tN "SUPPRESSED_SENTINEL" Bundle.listD) (by simp [xw_zs])
  refine ⟨⟨xw_ini hW h0, n1.moved hW.alike, n2.moved hW.alike⟩, ?_, fun x hx => xw_dmove hW (h7 x hx), h8.moved hW.alike, h9.moved hW.alike⟩
  intro w hw
  simp only [xw_zs, List.mem_cons, List.not_mem_nil, or_false] at hw
  rcases hw with rfl | rfl | rfl | rfl
  · exact xw_isRef hW.alike hh l1 h0 (h1 _ (by simp [xw_zs]))
  · exact xw_isRef hW.alike hh l2 h0 (h1 _ (by simp [xw_zs]))
  · exact xw_lays hW.alike hh l1
  · exact xw_lays hW.alike hh l2
def xw_Pc {S1 : Type} (D : va_G) (tys : List (ClassId × FieldType)) (Wd : S1 → va_W) (vs : List Value) (u : S1) (sz : Nat) : Array Value → State → Prop :=
  va_Pc vs (fun U => U.heap.size = sz ∧ (xx_N U ∧ xw_Z U) ∧ xx_B D tys Wd (fun _ => True) u U)
theorem xw_blind {S1 : Type} {D : va_G} {tys : List (ClassId × FieldType)} {Wd : S1 → va_W} {vs : List Value} {u : S1} {sz : Nat} : FrameBlind (xw_Pc D tys Wd vs u sz) := by
  intro a U g mk h
  obtain ⟨q0, q1, ⟨qN, qZ⟩, qP, qK, qD⟩ := h
  exact ⟨q0, q1, ⟨xx_N.same rfl qN, xw_Z.move (State.WarmedH.refl U) (fun q x h _ => h) qZ⟩, qP, va_K.moved (u := U) (U := U.calling g mk a) (Vm.Alike.refl U.vm) qK, qD⟩
def xw_Q {S1 : Type} (D : va_G) (tys : List (ClassId × FieldType)) (Wd : S1 → va_W) (Po : Option Value → S1 → Prop) (Px : String → S1 → Prop) (mc ms : Nat) (A : Nat → Prop) : Array Value → State → Outcome → State → Prop := fun _ st o t =>
  ((∃ (rv : Option Value) (u1 : S1), o = .returned rv ∧ Po rv u1 ∧ xx_B D tys Wd A u1 t) ∨ (∃ (q : Addr) (E : String) (u1 : S1) (ce : Cell), o = .threw q ∧ Px E u1 ∧ xx_B D tys Wd A u1 t ∧ t.heap[q]? = some ce ∧ ce.vm = .none ∧ st.vm.findClass E = some ce.cls)) ∧
  va_F A st t ∧ st.WarmedH t.vm ∧ ∃ L : List Loc, st.sameButNew ({ t with vm := st.vm } : State) L mc ms ∧ ∀ z ∈ L, A z.base
/-- the contract of a method that makes cells or throws -/
def xw_M {S1 : Type} (l : Launch) (D : va_G) (tys : List (ClassId × FieldType)) (Wd : S1 → va_W) (y : MethodName) (b : ByteArray) (nL : Nat) (rt : Option FieldType) (rm : Room) (vs : List Value) (u : S1) (Po : Option Value → S1 → Prop) (Px : String → S1 → Prop) : Prop :=
  ∀ sz : Nat, MetFree l y (headSpec (Cond.code y b nL rt :: xx_tb) rm) (xw_Pc D tys Wd vs u sz) (fun _ _ _ _ _ => True) (xw_Q D tys Wd Po Px rm.cells rm.slots (va_A (Wd u) sz))
def xw_MQ {S1 : Type} (D : va_G) (tys : List (ClassId × FieldType)) (Wd : S1 → va_W) (Po : Option Value → S1 → Prop) (Px : String → S1 → Prop) (A : Nat → Prop) (below : List Frame) (args : Array Value) (s : State) (mc ms : Nat) : State → Prop := fun t =>
  ∃ o, t.status = .running ∧ Ended t below o ∧ xw_Q D tys Wd Po Px mc ms A args s o t
section XW
variable {p : Program} {l : Launch} {e : Env} {R : Room} {s : State} {m : MethodId} {args : Array Value} {below : List Frame} {meth : Method} {c : Code} {H : Heap} {locs : List Loc} {cells slots : Nat} {Q : State → Prop}
variable {cc : ByteArray} {nL pc index : Nat} {own : String} {rt : Option FieldType} {ls : Array Slot} {rest st0 : List Value} {A : Nat → Prop}
variable {S1 : Type} {D : va_G} {tys : List (ClassId × FieldType)} {Wd : S1 → va_W} {u u1 : S1} {Po : Option Value → S1 → Prop} {Px : String → S1 → Prop} {mc ms : Nat}
theorem xw_mono {Q' : State → Prop} {g : JFrame} (h : ∀ t, Q t → Q' t) (k : W p l e R s m args below meth c H locs cells slots Q g) : W p l e R s m args below meth c H locs cells slots Q' g := by
  intro T hT X
  obtain ⟨t, a, b⟩ := k T hT X
  exact ⟨t, a, h t b⟩
/-- out of the ends of methods that only return -/
theorem xw_ofMQ {g : JFrame} {rv : Option Value} (hPo : Po rv u) (k : W p l e R s m args below meth c H locs mc ms (MQ below (xx_Q D tys Wd rv u A) args s mc ms A) g) : W p l e R s m args below meth c H locs mc ms (xw_MQ D tys Wd Po Px A below args s mc ms) g := by
  refine xw_mono ?_ k
  intro t ht
  obtain ⟨o, h1, h2, ⟨⟨ho, hB⟩, hF⟩, L, ⟨-, hW, hs⟩, hL⟩ := ht
  exact ⟨o, h1, h2, Or.inl ⟨rv, u, ho, hPo, hB⟩, hF, hW, L, hs, hL⟩
theorem xw_vret (C : xx_C p s m args meth c cc nL own none) (hc : cells ≤ mc) (hs : slots ≤ ms) (hF : Po none u) (hK : va_K D xx_cls tys s) (hP : va_P D xx_cls (Wd u) H) (hD : va_D A (Wd u)) (hS : va_S A s.heap H locs) (hdg : decode cc pc = .ok (.return_, 1)) :
    W p l e R s m args below meth c H locs cells slots (xw_MQ D tys Wd Po Px A below args s mc ms) (F0 m pc ls []) :=
  W.widen hc hs (xw_ofMQ hF (xx_vret C rfl hK hP hD hS hdg))
theorem xw_iret {x : Int32} (C : xx_C p s m args meth c cc nL own (some .int)) (hc : cells ≤ mc) (hs : slots ≤ ms) (hF : Po (some (.int x)) u) (hK : va_K D xx_cls tys s) (hP : va_P D xx_cls (Wd u) H) (hD : va_D A (Wd u)) (hS : va_S A s.heap H locs) (hdg : decode cc pc = .ok (.ireturn, 1)) :
    W p l e R s m args below meth c H locs cells slots (xw_MQ D tys Wd Po Px A below args s mc ms) (F0 m pc ls [.int x]) :=
  W.widen hc hs (xw_ofMQ hF (xx_iret C rfl hK hP hD hS hdg))
theorem xw_qret {x : Option Nat} {cn : String} (C : xx_C p s m args meth c cc nL own (some (.object cn))) (hc : cells ≤ mc) (hs : slots ≤ ms) (hF : Po (some (va_rf x)) u) (hK : va_K D xx_cls tys s) (hP : va_P D xx_cls (Wd u) H) (hD : va_D A (Wd u)) (hS : va_S A s.heap H locs) (hdg : decode cc pc = .ok (.areturn, 1)) :
    W p l e R s m args below meth c H locs cells slots (xw_MQ D tys Wd Po Px A below args s mc ms) (F0 m pc ls [va_rf x]) :=
  W.widen hc hs (xw_ofMQ hF (xx_qret C rfl hK hP hD hS hdg))
/-- what more holds in such a method's body: no handler; no cell that it may write is a class's statics; the statics -/
def xw_C (s : State) (c : Code) (A : Nat → Prop) : Prop := c.exceptionTable.isEmpty = true ∧ (∀ (q : Nat) (x : Cell), s.heap[q]? = some x → x.vm.isStatics = true → ¬ A q) ∧ xw_Z s
theorem xw_nost {D : va_G} {cl : List vw_C} {ws : va_W} {H : Heap} {sz : Nat} (hz : H.size = sz) (hP : va_P D cl ws H) {q : Nat} {x : Cell} (hx : H[q]? = some x) (hs : x.vm.isStatics = true) : ¬ va_A ws sz q := by
  rintro (⟨k, e', h⟩ | h)
  · have h1 := hP k _ h
    obtain ⟨a9, o9⟩ | ⟨c9, f9⟩ := e'
    · have h2 : H[q]? = some (vp_cell a9 o9) := h1
      rw [hx] at h2
      rw [Option.some.inj h2] at hs
      obtain ⟨n9, f | f | f | f | f⟩ := o9 <;> cases hs
    · obtain ⟨r, -, cell, g1, g2, g3, -⟩ := h1
      rw [hx] at g1
      rw [Option.some.inj g1, g3] at hs
      cases hs
  · have := (Array.getElem?_eq_some_iff.mp hx).1
    omega
theorem xw_body {y : MethodName} {b : ByteArray} {rm : Room} {vs : List Value} (hy : plainName y.cls = true) (hn : (lg_sl vs).length ≤ nL)
    (body : ∀ (p : Program) (e : Env) (s : State) (m : MethodId) (args : Array Value) (below : List Frame) (meth : Method) (c : Code) (A : Nat → Prop) (ls : Array Slot), xx_C p s m args meth c b nL y.cls rt → xw_C s c A → (y.name = "<init>" → meth.name = "<init>") → va_K D xx_cls tys s → lv_has ls nL (lv_args 0 vs) → (∀ q, s.heap.size ≤ q → A q) → va_P D xx_cls (Wd u) s.heap → va_D A (Wd u) → va_S A s.heap s.heap [] →
      W p l e rm s m args below meth c s.heap [] 0 0 (xw_MQ D tys Wd Po Px A below args s rm.cells rm.slots) (F0 m 0 ls [])) : xw_M l D tys Wd y b nL rt rm vs u Po Px := by
  intro sz
  refine MetFree.of_bodyS (code := b) (maxLocals := nL) (ret := rt) hy ?_ ?_
  · intro args s m h hn
    obtain ⟨meth, c, h1, h2, h3, h4, h5, h6, -, -⟩ := Cond.code_spec hn (atoms_spec (ws := Cond.code y b nL rt :: xx_tb) h _ List.mem_cons_self)
    exact ⟨meth, c, h1, h2, h3, h4, h5, h6⟩
  · intro p e s m args below meth c s₁ B hml hv _
    obtain ⟨rfl, hsz, ⟨hN, hZ⟩, hP, hK, hD0⟩ := hv
    subst hsz
    have hts := atoms_spec (ws := Cond.code y b nL rt :: xx_tb) B.pre
    have hl := lv_entry vs (n := nL) hn
    have hh0 : s₁.heap = s.heap := by rw [B.state]; rfl
    have K := body p e s m _ below meth c (va_A (Wd u) s.heap.size) _ ⟨B.exec, B.bytes, hml, findClass_of_methodNamed B.named, fun w hw => hts w (List.mem_cons_of_mem _ hw), B.returns, B.notSynchronized, hN⟩ ⟨B.noHandlers (hts _ List.mem_cons_self), fun q x hx hs => xw_nost rfl hP hx hs, hZ⟩ (fun h => by rw [(name_of_methodNamed B.named B.method).1]; exact h) hK hl (fun q h => Or.inr h) hP (hD0.self (sz := s.heap.size)) va_S.rf
    rw [← lg_entry_eq] at K
    obtain ⟨t, a1, o, b1, b2, b3⟩ := K s₁ hh0 (Stand.of_body B)
    exact ⟨t, o, a1, b1, b2, b3⟩
end XW
