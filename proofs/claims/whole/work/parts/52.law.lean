/-! the law's world: the reference, the law's own array, the class; calls of the law's helpers -/
abbrev ll_S : Type := zz_S × qm_S × (Nat → Int64)
/-- the reference's picture beside the class's: the same tables -/
abbrev ll_q (g : xx_G) (aq : Nat → Nat) : xx_G := (g.1, aq, g.2.2)
def ll_T (g : xx_G) : List (ClassId × FieldType) := [(g.2.2 0, .int), (g.2.2 1, .boolean), (g.2.2 2, .object "ModuleLoader$Symbol"), (g.2.2 3, .object "ModuleLoader$LoadedModule"), (g.2.2 4, .long)]
def ll_W (g : xx_G) (aq : Nat → Nat) (o : Nat) (v : ll_S) : va_W := qm_W (ll_q g aq) v.2.1 ++ ((o, .inl (g.2.2 4, 1, .inr (.inl v.2.2))) :: zz_W g v.1)
theorem ll_pz {g : xx_G} {aq : Nat → Nat} {o : Nat} (w : zz_S) (v : ll_S) : (zz_W g w ++ (qm_W (ll_q g aq) v.2.1 ++ [((o, .inl (g.2.2 4, 1, .inr (.inl v.2.2))) : Nat × va_E)])).Perm (ll_W g aq o (w, v.2)) := by
  refine List.perm_append_comm.trans ?_
  unfold ll_W
  rw [List.append_assoc]
  exact List.Perm.refl _
theorem ll_tz {g : xx_G} : ∀ q ∈ zz_T g, q ∈ ll_T g := by
  intro q hq
  simp only [zz_T, List.mem_cons, List.not_mem_nil, or_false] at hq
  simp only [ll_T, List.mem_cons, List.not_mem_nil, or_false]
  rcases hq with h | h | h | h <;> simp [h]
theorem ll_tq {g : xx_G} {aq : Nat → Nat} : ∀ q ∈ qm_T (ll_q g aq), q ∈ ll_T g := by
  intro q hq
  simp only [qm_T, List.mem_cons, List.not_mem_nil, or_false] at hq
  simp only [ll_T, List.mem_cons, List.not_mem_nil, or_false]
  rcases hq with h | h <;> simp [h]
/-- a plain method of the class, of the reference, in the law's world -/
theorem ll_mz {l : Launch} {g : xx_G} {aq : Nat → Nat} {o : Nat} {y : MethodName} {b : ByteArray} {nL : Nat} {rt : Option FieldType} {rm : Room} {vs : List Value} {u1 : zz_S} {rv : Option Value} {v : ll_S} (h : xx_M l g.1 (zz_T g) (zz_W g) y b nL rt rm vs v.1 rv u1) : xx_M l g.1 (ll_T g) (ll_W g aq o) y b nL rt rm vs v rv (u1, v.2) :=
  xf_M h _ (ll_pz v.1 v) (ll_pz u1 v) ll_tz
theorem ll_mq {l : Launch} {g : xx_G} {aq : Nat → Nat} {o : Nat} {y : MethodName} {b : ByteArray} {nL : Nat} {rt : Option FieldType} {rm : Room} {vs : List Value} {u1 : qm_S} {rv : Option Value} {v : ll_S} (h : xx_M l (ll_q g aq).1 (qm_T (ll_q g aq)) (qm_W (ll_q g aq)) y b nL rt rm vs v.2.1 rv u1) : xx_M l g.1 (ll_T g) (ll_W g aq o) y b nL rt rm vs v rv (v.1, u1, v.2.2) :=
  xf_M h (((o, .inl (g.2.2 4, 1, .inr (.inl v.2.2))) : Nat × va_E) :: zz_W g v.1) (List.Perm.refl _) (List.Perm.refl _) ll_tq
theorem ll_wz {l : Launch} {g : xx_G} {aq : Nat → Nat} {o : Nat} {y : MethodName} {b : ByteArray} {nL : Nat} {rt : Option FieldType} {rm : Room} {vs : List Value} {v : ll_S} {Po : Option Value → zz_S → Prop} {Px : String → zz_S → Prop} (h : xw_M l g.1 (zz_T g) (zz_W g) y b nL rt rm vs v.1 Po Px) : xw_M l g.1 (ll_T g) (ll_W g aq o) y b nL rt rm vs v (fun r w => w.2 = v.2 ∧ Po r w.1) (fun E w => w.2 = v.2 ∧ Px E w.1) :=
  xf_W h _ (fun w => (w, v.2)) (ll_pz v.1 v) (fun w => ll_pz w v) ll_tz (fun _ _ h => ⟨rfl, h⟩) (fun _ _ h => ⟨rfl, h⟩)
/-- the contract of a helper: a method with handlers, out of which nothing is thrown -/
def xl_M {S1 : Type} (l : Launch) (D : va_G) (tys : List (ClassId × FieldType)) (Wd : S1 → va_W) (y : MethodName) (b : ByteArray) (nL : Nat) (rt : Option FieldType) (hh : List (Nat × Nat × Nat × Nat)) (rm : Room) (vs : List Value) (u : S1) (Po : Option Value → S1 → Prop) : Prop :=
  ∀ sz : Nat, Met l y (Cond.codeWith y b nL rt hh :: xx_tb) rm (xw_Pc D tys Wd vs u sz) (fun _ st o t => (∃ (rv : Option Value) (u1 : S1), o = .returned rv ∧ Po rv u1 ∧ xx_B D tys Wd (va_A (Wd u) sz) u1 t) ∧ va_F (va_A (Wd u) sz) st t) rm.cells rm.slots (va_A (Wd u) sz)
section XL
variable {p : Program} {l : Launch} {e : Env} {R : Room} {s : State} {m : MethodId} {args : Array Value} {below : List Frame} {meth : Method} {c : Code} {H : Heap} {locs : List Loc} {cells slots : Nat} {Q : State → Prop}
variable {cc : ByteArray} {nL pc index : Nat} {own : String} {rt : Option FieldType} {ls : Array Slot} {rest st0 : List Value} {A : Nat → Prop} {D : va_G} {tys : List (ClassId × FieldType)}
variable {S1 : Type} {Wd : S1 → va_W} {u u1 : S1} {Po : Option Value → S1 → Prop}
def xl_MQ (D : va_G) (tys : List (ClassId × FieldType)) (Wd : S1 → va_W) (Po : Option Value → S1 → Prop) (A : Nat → Prop) : Array Value → State → Outcome → State → Prop := fun _ st o t => (∃ (rv : Option Value) (u1 : S1), o = .returned rv ∧ Po rv u1 ∧ xx_B D tys Wd A u1 t) ∧ va_F A st t
theorem xl_body {y : MethodName} {b : ByteArray} {rm : Room} {vs : List Value} {hh : List (Nat × Nat × Nat × Nat)} (hy : plainName y.cls = true) (hn : (lg_sl vs).length ≤ nL)
    (body : ∀ (p : Program) (e : Env) (s : State) (m : MethodId) (args : Array Value) (below : List Frame) (meth : Method) (c : Code) (A : Nat → Prop) (ls : Array Slot), xx_C p s m args meth c b nL y.cls rt → xw_Z s → (∀ (q : Nat) (x : Cell), s.heap[q]? = some x → x.vm.isStatics = true → ¬ A q) → c.exceptionTable.toList.map (fun h => (h.startPc, h.endPc, h.handlerPc, h.catchType)) = hh → va_K D xx_cls tys s → lv_has ls nL (lv_args 0 vs) → (∀ q, s.heap.size ≤ q → A q) → va_P D xx_cls (Wd u) s.heap → va_D A (Wd u) → va_S A s.heap s.heap [] →
      W p l e rm s m args below meth c s.heap [] 0 0 (MQ below (xl_MQ D tys Wd Po A) args s rm.cells rm.slots A) (F0 m 0 ls [])) : xl_M l D tys Wd y b nL rt hh rm vs u Po := by
  intro sz
  refine va_MetW (cc := b) (maxL := nL) (ret := rt) (hh := hh) hy rfl ?_
  intro p e s m args below meth c s₁ B hml hv
  obtain ⟨rfl, hsz, ⟨hN, hZ⟩, hP, hK, hD0⟩ := hv
  subst hsz
  have hts := atoms_spec (ws := Cond.codeWith y b nL rt hh :: xx_tb) B.pre
  have hl := lv_entry vs (n := nL) hn
  rw [lg_entry_eq]
  obtain ⟨m9, meth9, c9, hn9, h1, h2, -, -, h6, -⟩ := Cond.codeWith_spec (hts _ List.mem_cons_self)
  cases Option.some.inj (hn9.symm.trans B.named)
  cases Option.some.inj (h1.symm.trans B.method)
  cases Option.some.inj (h2.symm.trans (Stand.of_body B).code)
  exact body p e s _ _ below _ _ (va_A (Wd u) s.heap.size) _ ⟨B.exec, B.bytes, hml, findClass_of_methodNamed B.named, fun w hw => hts w (List.mem_cons_of_mem _ hw), B.returns, B.notSynchronized, hN⟩ hZ (fun q x hx hs => xw_nost rfl hP hx hs) h6 hK hl (fun q h => Or.inr h) hP (hD0.self (sz := s.heap.size)) va_S.rf
theorem xl_iret {x : Int32} {mc ms : Nat} (C : xx_C p s m args meth c cc nL own (some .int)) (hc : cells ≤ mc) (hs : slots ≤ ms) (hF : Po (some (.int x)) u) (hK : va_K D xx_cls tys s) (hP : va_P D xx_cls (Wd u) H) (hD : va_D A (Wd u)) (hS : va_S A s.heap H locs) (hdg : decode cc pc = .ok (.ireturn, 1)) :
    W p l e R s m args below meth c H locs cells slots (MQ below (xl_MQ D tys Wd Po A) args s mc ms A) (F0 m pc ls [.int x]) :=
  W.widen hc hs (W.iret (v := x) C.1 C.2.1 C.2.2.2.2.2.1 (fun t ht hW => ⟨⟨_, u, rfl, hF, by rw [ht]; exact hP, va_K.moved hW.alike hK, hD⟩, hS.F ht⟩) hS.2.2 hdg C.2.2.2.2.2.2.1)
/-- a call of a helper -/
theorem xl_callS {y : MethodName} {b : ByteArray} {nY : Nat} {rY : Option FieldType} {hh : List (Nat × Nat × Nat × Nat)} {rm : Room} {As : List Value} {n : Nat} (C : xx_C p s m args meth c cc nL own rt) (hZ : xw_Z s) (hAst : ∀ (q : Nat) (x : Cell), s.heap[q]? = some x → x.vm.isStatics = true → ¬ A q) (hM : xl_M l D tys Wd y b nY rY hh rm As u Po)
    (hw : Cond.codeWith y b nY rY hh ∈ xx_tb ∧ Cond.methodLink own index y ∈ xx_tb ∧ Cond.static y ∈ xx_tb ∧ Cond.initialized y.cls ∈ xx_tb) (hd : y.cls ≠ "java/lang/invoke/MethodHandle" ∧ y.cls ≠ "java/lang/invoke/VarHandle" ∧ (parseMethodDescriptor y.desc).map (fun d => d.parameters.length) = some n) (hn : As.length = n) (hR : rm.frames + 1 ≤ R.frames ∧ 8 + (nY + 11) + rm.locals ≤ R.locals)
    (hl : ls.size = nL) (hst : st0 = As.reverse ++ rest) (hrs : (rest.map fun v => v.category).sum ≤ 8) (hA : ∀ q, s.heap.size ≤ q → A q) (hK : va_K D xx_cls tys s) (hP : va_P D xx_cls (Wd u) H) (hD : va_D A (Wd u)) (hS : va_S A s.heap H locs) (hf : cells + rm.cells ≤ R.cells ∧ slots + rm.slots ≤ R.slots) (hdg : decode cc pc = .ok (.invokestatic index, 3))
    (kk : ∀ (rv : Option Value) (u1 : S1) (H : Heap) (locs : List Loc), Po rv u1 → va_P D xx_cls (Wd u1) H → va_D A (Wd u1) → va_S A s.heap H locs → W p l e R s m args below meth c H locs (cells + rm.cells) (slots + rm.slots) Q (F0 m (pc + 3) ls (rv.toList ++ rest))) : W p l e R s m args below meth c H locs cells slots Q (F0 m pc ls st0) := by
  obtain ⟨hexec, hb, hml, hown, hts, -, -, hN⟩ := C
  have hy : y.cls ≠ "java/lang/invoke/MethodHandle" ∧ y.cls ≠ "java/lang/invoke/VarHandle" := ⟨hd.1, hd.2.1⟩
  subst hn
  intro T hT X
  obtain ⟨mk, methM, cM, hnamed, hmethM, -, -, -, -, -, -, hsigM⟩ := Cond.codeWith_spec (hts _ hw.1)
  have hstatic : methM.isStatic = true := Cond.static_spec hnamed hmethM (hts _ hw.2.2.1)
  obtain ⟨kP, hkP, -⟩ := className_of_methodNamed hnamed
  have hinitP : kP.init = .initialized := Cond.initialized_spec (findClass_of_methodNamed hnamed) hkP (hts _ hw.2.2.2)
  have hlen : As.length = methM.sig.parameters.length := by
    have h2 := hd.2.2
    rw [hsigM] at h2
    exact (Option.some.inj h2).symm
  obtain ⟨vm₁, X₁, hstep₁⟩ := X.invokestatic hexec hown (hts _ hw.2.1) hnamed hmethM hstatic hkP hinitP hy (g := F0 m pc ls st0) rfl (argsL := As) (rest := rest) hlen hst (by rw [hb]; exact hdg)
  have hh1 : (T.setVm vm₁).heap = H := hT
  have hZ1 : xw_Z (T.setVm vm₁) := xw_Z.move X₁.warmed (fun q x hx hs => by rw [hh1, hS.2.1 q (Array.getElem?_eq_some_iff.mp hx).1 (hAst q x hx hs)]; exact hx) hZ
  have hB : Back l R p e below s args y 3 8 (PreOf R rm.cells rm.slots (xw_Pc D tys Wd As u H.size)) (PostOf (xl_MQ D tys Wd Po (va_A (Wd u) H.size)) rm.cells rm.slots (va_A (Wd u) H.size)) :=
    va_backW (bytes := b) (maxL := nY) (ret := rY) (hh := hh) (hM H.size) xw_blind rfl rfl hR.1 hR.2 (pay_in hts (xx_GI (xx_GIc hw.1))) List.mem_cons_self (fun a' U hW => xw_ini hW (hts _ hw.2.2.2))
  obtain ⟨v, ⟨U', l2, c2, s2⟩, X', ⟨g', mk', t, L, e1, e2, ⟨⟨rv, w1, ho, hPo, hP1, -, hD1⟩, hz, hk⟩, h1, hL, h2, h3⟩, hsteps⟩ := hB m meth c ⟨T.setVm vm₁, locs, cells, slots⟩ (F0 m pc ls rest) (.invokestatic index) mk As.toArray X₁ rfl (hl.trans hml.symm) (by rw [hb]; exact hdg) (lv_room hrs) (X₁.named hnamed)
    ⟨hf.1, hf.2, rfl, by rw [hh1], ⟨xx_N.warm X₁.warmed hN, hZ1⟩, by rw [hh1]; exact hP, va_K.moved X₁.warmed.alike hK, hD.weaken (fun _ _ _ _ => trivial)⟩
  dsimp only [Pt.U, Pt.locs, Pt.cells, Pt.slots] at X' e1 e2 h1 h2 h3 hsteps
  subst h1; subst h2; subst h3
  cases ho
  have hz : H.size ≤ t.heap.size := by rw [← hh1]; exact hz
  have hk : ∀ q : Nat, q < H.size → ¬ va_A (Wd u) H.size q → t.heap[q]? = H[q]? := fun q hq hn => by rw [← hh1] at hq ⊢; exact hk q hq hn
  have hfree : ∀ q, va_A (Wd u) H.size q → A q := by
    rintro q (⟨k, e', h⟩ | h)
    · exact hD.2 k _ h
    · exact hA q (Nat.le_trans hS.1 h)
  obtain ⟨t2, a2, b2⟩ := kk v w1 U'.heap (locs ++ L) hPo (by rw [e1]; exact hP1) ⟨hD1.1, fun k q hq => hfree _ (hD1.2 k q hq)⟩
    ⟨Nat.le_trans hS.1 (by rw [e1]; exact hz), fun q h1 h2 => by rw [e1, hk q (Nat.lt_of_lt_of_le h1 hS.1) (fun z => h2 (hfree q z))]; exact hS.2.1 q h1 h2, fun q hq => by
      rcases List.mem_append.mp hq with h | h
      · exact hS.2.2 q h
      · exact hfree _ (hL q h)⟩ U' rfl X'
  exact ⟨t2, hstep₁ _ fun acts => by rw [doInvoke_state]; exact hsteps.trans a2, b2⟩
end XL
