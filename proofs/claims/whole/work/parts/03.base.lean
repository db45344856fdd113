/-- a name for a value; a step that may fail -/
def xx_nm {α β : Type} (x : α) (f : α → Option β) : Option β := f x
theorem xx_nm_some {α β : Type} {x : α} {f : α → Option β} {r : β} (h : xx_nm x f = some r) : ∃ y, y = x ∧ f y = some r := ⟨x, rfl, h⟩
theorem xx_ob {α β : Type} {x : Option α} {f : α → Option β} {r : β} (h : x.bind f = some r) : ∃ a, x = some a ∧ f a = some r := by
  cases x with
  | none => cases h
  | some a => exact ⟨a, rfl, h⟩
def xx_ag {α : Type} (f : Nat → α) (n : Nat) (i : Int32) : Option α := if i < 0 ∨ n ≤ i.toNatClampNeg then none else some (f i.toNatClampNeg)
theorem xx_ag_some {α : Type} {f : Nat → α} {n : Nat} {i : Int32} {v : α} (h : xx_ag f n i = some v) : vp_in i n ∧ f i.toNatClampNeg = v := by
  unfold xx_ag at h
  split at h
  · cases h
  · rename_i q
    exact ⟨q, Option.some.inj h⟩
def xx_as {α : Type} (f : Nat → α) (n : Nat) (i : Int32) (v : α) : Option (Nat → α) := if i < 0 ∨ n ≤ i.toNatClampNeg then none else some (va_up f i.toNatClampNeg v)
theorem xx_as_some {α : Type} {f f1 : Nat → α} {n : Nat} {i : Int32} {v : α} (h : xx_as f n i v = some f1) : vp_in i n ∧ f1 = va_up f i.toNatClampNeg v := by
  unfold xx_as at h
  split at h
  · cases h
  · rename_i q
    exact ⟨q, (Option.some.inj h).symm⟩
def xx_b2 {α β γ : Type} (o : Option (α × β)) (f : α → β → Option γ) : Option γ := match o with
  | none => none
  | some q => f q.1 q.2
theorem xx_b2_some {α β γ : Type} {o : Option (α × β)} {f : α → β → Option γ} {r : γ} (h : xx_b2 o f = some r) : ∃ a b, o = some (a, b) ∧ f a b = some r := by
  cases o with
  | none => cases h
  | some q => exact ⟨q.1, q.2, rfl, h⟩
def xx_ush (x y : Int32) : Int32 := (x.toUInt32 >>> (y.toUInt32 &&& Int32.toUInt32 31)).toInt32
theorem xx_ush_eq (x y : Int32) : (x.toUInt32 >>> (y.toUInt32 &&& Int32.toUInt32 31)).toInt32 = xx_ush x y := rfl
def xx_nz {β : Type} (y : Int32) (f : Option β) : Option β := if y = 0 then none else f
theorem xx_nz_some {β : Type} {y : Int32} {f : Option β} {r : β} (h : xx_nz y f = some r) : ¬ y = 0 ∧ f = some r := by
  unfold xx_nz at h
  split at h
  · cases h
  · rename_i q
    exact ⟨q, h⟩
theorem xx_ip {β : Type} {c : Prop} [Decidable c] {a b : Option β} {r : β} (hc : c) (h : (if c then a else b) = some r) : a = some r := by rwa [if_pos hc] at h
theorem xx_in' {β : Type} {c : Prop} [Decidable c] {a b : Option β} {r : β} (hc : ¬ c) (h : (if c then a else b) = some r) : b = some r := by rwa [if_neg hc] at h
def xx_rm (d n : Nat) : Room := { frames := d, cells := 0, slots := 0, locals := n }
def xx_rmc (d n mc ms : Nat) : Room := { frames := d, cells := mc, slots := ms, locals := n }
/-- the two words on private methods of a nest mate -/
def xx_N (U : State) : Prop := va_Nw (.methodLinkNest "ModuleLoader$ModuleFile" 87 ky_Loader_isName "ModuleLoader") U ∧ va_Nw (.methodLinkNest "ModuleLoader$ModuleFile" 81 ky_Loader_isWordBelow "ModuleLoader") U
theorem xx_N.warm {s U : State} (hW : s.WarmedH U.vm) (h : xx_N s) : xx_N U := ⟨h.1.warmM hW, h.2.warmM hW⟩
theorem xx_N.same {s U : State} (hv : s.vm = U.vm) (h : xx_N s) : xx_N U := ⟨h.1.same rfl hv, h.2.same rfl hv⟩
/-- what holds through a method's body -/
def xx_C (p : Program) (s : State) (m : MethodId) (args : Array Value) (meth : Method) (c : Code) (cc : ByteArray) (nL : Nat) (own : String) (rt : Option FieldType) : Prop :=
  p.tables.exec = Jvm.exec ∧ c.code = cc ∧ c.maxLocals = nL ∧ s.vm.findClass own = some m.cls ∧ (∀ w ∈ xx_tb, w.before args s = true) ∧ meth.sig.returnType = rt ∧ meth.locks = false ∧ xx_N s
/-- the world behind (or ahead of) a method -/
def xx_B {S1 : Type} (D : va_G) (tys : List (ClassId × FieldType)) (Wd : S1 → va_W) (A : Nat → Prop) (u : S1) (t : State) : Prop :=
  va_P D xx_cls (Wd u) t.heap ∧ va_K D xx_cls tys t ∧ va_D A (Wd u)
def xx_Pc {S1 : Type} (D : va_G) (tys : List (ClassId × FieldType)) (Wd : S1 → va_W) (vs : List Value) (u : S1) (sz : Nat) : Array Value → State → Prop :=
  va_Pc vs (fun U => U.heap.size = sz ∧ xx_N U ∧ xx_B D tys Wd (fun _ => True) u U)
def xx_Q {S1 : Type} (D : va_G) (tys : List (ClassId × FieldType)) (Wd : S1 → va_W) (rv : Option Value) (u1 : S1) (A : Nat → Prop) : Array Value → State → Outcome → State → Prop :=
  fun _ st oc t => (oc = .returned rv ∧ xx_B D tys Wd A u1 t) ∧ va_F A st t
/-- the contract: from the picture u, with these arguments, the method answers rv and leaves the picture u1; no other old cell changes -/
def xx_M {S1 : Type} (l : Launch) (D : va_G) (tys : List (ClassId × FieldType)) (Wd : S1 → va_W) (y : MethodName) (b : ByteArray) (nL : Nat) (rt : Option FieldType) (rm : Room) (vs : List Value) (u : S1) (rv : Option Value) (u1 : S1) : Prop :=
  ∀ sz : Nat, Met l y (Cond.code y b nL rt :: xx_tb) rm (xx_Pc D tys Wd vs u sz) (xx_Q D tys Wd rv u1 (va_A (Wd u) sz)) rm.cells rm.slots (va_A (Wd u) sz)
theorem xx_blind {S1 : Type} {D : va_G} {tys : List (ClassId × FieldType)} {Wd : S1 → va_W} {vs : List Value} {u : S1} {sz : Nat} : FrameBlind (xx_Pc D tys Wd vs u sz) := by
  intro a U g mk h
  obtain ⟨q0, q1, qN, qP, qK, qD⟩ := h
  exact ⟨q0, q1, xx_N.same rfl qN, qP, va_K.moved (u := U) (U := U.calling g mk a) (Vm.Alike.refl U.vm) qK, qD⟩
section XR
variable {p : Program} {l : Launch} {e : Env} {R : Room} {s : State} {m : MethodId} {args : Array Value} {below : List Frame} {meth : Method} {c : Code} {H : Heap} {locs : List Loc} {cells slots : Nat} {Q : State → Prop}
variable {cc : ByteArray} {nL pc index : Nat} {own : String} {rt : Option FieldType} {ls : Array Slot} {rest st0 : List Value} {A : Nat → Prop}
variable {S1 : Type} {D : va_G} {tys : List (ClassId × FieldType)} {Wd : S1 → va_W} {u u1 : S1} {rv : Option Value}
theorem xx_topi {x y : Int32} (h : y = x) (k : W p l e R s m args below meth c H locs cells slots Q (F0 m pc ls (.int y :: rest))) : W p l e R s m args below meth c H locs cells slots Q (F0 m pc ls (.int x :: rest)) := h ▸ k
/-- a body from its walk -/
theorem xx_body {y : MethodName} {b : ByteArray} {rm : Room} {vs : List Value} (hy : plainName y.cls = true) (hn : (lg_sl vs).length ≤ nL)
    (body : ∀ (p : Program) (e : Env) (s : State) (m : MethodId) (args : Array Value) (below : List Frame) (meth : Method) (c : Code) (A : Nat → Prop) (ls : Array Slot), xx_C p s m args meth c b nL y.cls rt → (y.name = "<init>" → meth.name = "<init>") → va_K D xx_cls tys s → lv_has ls nL (lv_args 0 vs) → (∀ q, s.heap.size ≤ q → A q) → va_P D xx_cls (Wd u) s.heap → va_D A (Wd u) → va_S A s.heap s.heap [] →
      W p l e rm s m args below meth c s.heap [] 0 0 (MQ below (xx_Q D tys Wd rv u1 A) args s rm.cells rm.slots A) (F0 m 0 ls [])) : xx_M l D tys Wd y b nL rt rm vs u rv u1 := by
  intro sz
  refine Met.ofW (cc := b) (maxL := nL) (ret := rt) hy rfl ?_
  intro p e s m args below meth c s₁ B hml hv
  obtain ⟨rfl, hsz, hN, hP, hK, hD0⟩ := hv
  subst hsz
  have hts := atoms_spec (ws := Cond.code y b nL rt :: xx_tb) B.pre
  have hl := lv_entry vs (n := nL) hn
  rw [lg_entry_eq]
  refine body p e s m _ below meth c _ _ ⟨B.exec, B.bytes, hml, findClass_of_methodNamed B.named, fun w hw => hts w (List.mem_cons_of_mem _ hw), B.returns, B.notSynchronized, hN⟩ ?_ hK hl (fun q h => Or.inr h) hP (hD0.self (sz := s.heap.size)) va_S.rf
  intro h
  rw [(name_of_methodNamed B.named B.method).1]
  exact h
/-- the ends -/
theorem xx_end (hP : va_P D xx_cls (Wd u) H) (hK : va_K D xx_cls tys s) (hD : va_D A (Wd u)) (hS : va_S A s.heap H locs) {o : Outcome} (ho : o = .returned rv) (t : State) (ht : t.heap = H) (hW : s.WarmedH t.vm) : xx_Q D tys Wd rv u A args s o t :=
  ⟨⟨ho, by rw [ht]; exact hP, va_K.moved hW.alike hK, hD⟩, hS.F ht⟩
theorem xx_iret {x : Int32} {r : Int32} (C : xx_C p s m args meth c cc nL own (some .int)) (hF : some (x, u) = some (r, u1)) (hK : va_K D xx_cls tys s) (hP : va_P D xx_cls (Wd u) H) (hD : va_D A (Wd u)) (hS : va_S A s.heap H locs) (hdg : decode cc pc = .ok (.ireturn, 1)) :
    W p l e R s m args below meth c H locs cells slots (MQ below (xx_Q D tys Wd (some (.int r)) u1 A) args s cells slots A) (F0 m pc ls [.int x]) := by
  cases hF
  exact W.iret (v := x) C.1 C.2.1 C.2.2.2.2.2.1 (fun t ht hW => xx_end hP hK hD hS rfl t ht hW) hS.2.2 hdg C.2.2.2.2.2.2.1
theorem xx_narZ (x : Int32) : narrow .boolean (.int x) = .int (vp_nar .boolean x) := rfl
/-- a boolean's answer: what is kept of it -/
theorem xx_zret {x : Int32} {r : Int32} (C : xx_C p s m args meth c cc nL own (some .boolean)) (hF : some (vp_nar .boolean x, u) = some (r, u1)) (hK : va_K D xx_cls tys s) (hP : va_P D xx_cls (Wd u) H) (hD : va_D A (Wd u)) (hS : va_S A s.heap H locs) (hdg : decode cc pc = .ok (.ireturn, 1)) :
    W p l e R s m args below meth c H locs cells slots (MQ below (xx_Q D tys Wd (some (.int r)) u1 A) args s cells slots A) (F0 m pc ls [.int x]) := by
  cases hF
  have hexec := C.1
  have hb := C.2.1
  have hr := C.2.2.2.2.2.1
  have hlocks := C.2.2.2.2.2.2.1
  intro T hT X
  obtain ⟨fs, hret, hrun, hended, hW, hframe⟩ := X.leave (v := some (.int (vp_nar .boolean x))) (hlocks := hlocks) (fun h => by rw [hr] at h; cases h)
  have hmeth' : T.vm.method? m = some meth := X.method'
  refine ⟨T.setFrames fs, ?_, .returned (some (.int (vp_nar .boolean x))), hrun, hended, xx_end hP hK hD hS rfl _ hT hW, locs, ⟨⟨_, rfl⟩, hW, hframe⟩, hS.2.2⟩
  jvm_step X.here [X.here.top, hexec, hb, hdg, hmeth', hr, xx_narZ]
  (try refine ⟨rfl, ?_⟩); (try refine ⟨rfl, ?_⟩)
  first | (intro acts; rw [hret _ acts rfl rfl rfl]) | rw [hret _ _ rfl rfl rfl]
  exact Steps.refl _
theorem xx_vret (C : xx_C p s m args meth c cc nL own none) (hF : some u = some u1) (hK : va_K D xx_cls tys s) (hP : va_P D xx_cls (Wd u) H) (hD : va_D A (Wd u)) (hS : va_S A s.heap H locs) (hdg : decode cc pc = .ok (.return_, 1)) :
    W p l e R s m args below meth c H locs cells slots (MQ below (xx_Q D tys Wd none u1 A) args s cells slots A) (F0 m pc ls []) := by
  cases hF
  exact W.vret C.1 C.2.1 C.2.2.2.2.2.1 (fun t ht hW => xx_end hP hK hD hS rfl t ht hW) hS.2.2 hdg C.2.2.2.2.2.2.1
/-- fields -/
theorem xx_get (C : xx_C p s m args meth c cc nL own rt) {ref Cn : String} {T : u_T} {N ci : Nat} (hin : ∀ w ∈ u_ws Cn T N, w ∈ xx_tb) (hK : va_K D xx_cls tys s) {ws : va_W} (hP : va_P D xx_cls ws H) (q0 : Nat) {fs : List Value} {a : Nat} (he : ws[q0]? = some (a, .inr (ci, fs))) (hc : xx_cls[ci]? = some (Cn, T, N)) (k : Nat) (hk : k < N) (hlink : Cond.fieldLink own index ref (T k).2.1 (T k).2.2.1 ∈ xx_tb) (hsame : (T k).1 = ref) {v : Value} (hv : fs[k]? = some v) (hdg : decode cc pc = .ok (.getfield index, 3))
    (kk : W p l e R s m args below meth c H locs cells slots Q (F0 m (pc + 3) ls (v :: rest))) : W p l e R s m args below meth c H locs cells slots Q (F0 m pc ls (.ref a :: rest)) :=
  va_get C.1 C.2.1 C.2.2.2.2.1 hin C.2.2.2.1 hK hP q0 he hc k hk (C.2.2.2.2.1 _ hlink) (fun x h => by rw [← hsame]; exact h) hv hdg kk
theorem xx_put (C : xx_C p s m args meth c cc nL own rt) {ref Cn : String} {T : u_T} {N ci : Nat} (hin : ∀ w ∈ u_ws Cn T N, w ∈ xx_tb) (ty0 : Nat → FieldType) (hty : ∀ k, k < N → parseFieldDescriptor (T k).2.2.1 = some (ty0 k)) (hnm : ∀ a, a < N → ∀ b, b < N → a ≠ b → (T a).2.1 ≠ (T b).2.1) (hK : va_K D xx_cls tys s) {ws ws1 : va_W} (hP : va_P D xx_cls ws H) (hD : va_D A ws) (hS : va_S A s.heap H locs) (q0 : Nat) {fs : List Value} {a : Nat} (he : ws[q0]? = some (a, .inr (ci, fs))) (hc : xx_cls[ci]? = some (Cn, T, N)) (k : Nat) (hk : k < N) (hlink : Cond.fieldLink own index ref (T k).2.1 (T k).2.2.1 ∈ xx_tb) (hsame : (T k).1 = ref) (hfin : (T k).2.2.2 = false) {v : Value} (hn : narrow (ty0 k) v = v) (hfit : fits (ty0 k) v = true) (hl : k < fs.length) (hset : ws.set q0 (a, .inr (ci, fs.set k v)) = ws1)
    (hdg : decode cc pc = .ok (.putfield index, 3)) (kk : ∀ (H1 : Heap) (locs1 : List Loc), va_P D xx_cls ws1 H1 → va_D A ws1 → va_S A s.heap H1 locs1 → W p l e R s m args below meth c H1 locs1 cells slots Q (F0 m (pc + 3) ls rest)) : W p l e R s m args below meth c H locs cells slots Q (F0 m pc ls (v :: .ref a :: rest)) := by
  refine va_put C.1 C.2.1 C.2.2.2.2.1 hin ty0 hty hnm C.2.2.2.1 hK hP hD hS q0 he hc k hk (C.2.2.2.2.1 _ hlink) (fun x h => by rw [← hsame]; exact h) hfin (hty k hk) hn hfit hl hdg (fun H1 locs1 h1 h2 h3 => kk H1 locs1 ?_ ?_ h3)
  · rw [← hset]; exact h1
  · rw [← hset]; exact h2
/-- arrays of ints and of booleans -/
theorem xx_iald (C : xx_C p s m args meth c cc nL own rt) (hK : va_K D xx_cls tys s) {ws : va_W} (hP : va_P D xx_cls ws H) (q0 t0 : Nat) {cA : ClassId} {n a : Nat} {f : Nat → Int32} (ha : ws[q0]? = some (a, .inl (cA, n, .inl f))) (ht : tys[t0]? = some (cA, .int)) {i v : Int32} (hi : xx_ag f n i = some v) (hdg : decode cc pc = .ok (.iaload, 1))
    (kk : W p l e R s m args below meth c H locs cells slots Q (F0 m (pc + 1) ls (.int v :: rest))) : W p l e R s m args below meth c H locs cells slots Q (F0 m pc ls (.int i :: .ref a :: rest)) := by
  obtain ⟨h1, h2⟩ := xx_ag_some hi
  subst h2
  exact va_iald C.1 C.2.1 hK hP q0 t0 ha ht h1 hdg kk
theorem xx_zald (C : xx_C p s m args meth c cc nL own rt) (hK : va_K D xx_cls tys s) {ws : va_W} (hP : va_P D xx_cls ws H) (q0 t0 : Nat) {cA : ClassId} {n a : Nat} {f : Nat → Int32} (ha : ws[q0]? = some (a, .inl (cA, n, .inl f))) (ht : tys[t0]? = some (cA, .boolean)) {i v : Int32} (hi : xx_ag f n i = some v) (hdg : decode cc pc = .ok (.baload, 1))
    (kk : W p l e R s m args below meth c H locs cells slots Q (F0 m (pc + 1) ls (.int v :: rest))) : W p l e R s m args below meth c H locs cells slots Q (F0 m pc ls (.int i :: .ref a :: rest)) := by
  obtain ⟨h1, h2⟩ := xx_ag_some hi
  subst h2
  exact va_zald C.1 C.2.1 hK hP q0 t0 ha ht h1 hdg kk
theorem xx_iast (C : xx_C p s m args meth c cc nL own rt) (hK : va_K D xx_cls tys s) {ws ws1 : va_W} (hP : va_P D xx_cls ws H) (hD : va_D A ws) (hS : va_S A s.heap H locs) (q0 t0 : Nat) {cA : ClassId} {n a : Nat} {f f1 : Nat → Int32} (ha : ws[q0]? = some (a, .inl (cA, n, .inl f))) (ht : tys[t0]? = some (cA, .int)) {i x : Int32} (hi : xx_as f n i x = some f1) (hset : ws.set q0 (a, .inl (cA, n, .inl f1)) = ws1) (hdg : decode cc pc = .ok (.iastore, 1))
    (kk : ∀ (H1 : Heap) (locs1 : List Loc), va_P D xx_cls ws1 H1 → va_D A ws1 → va_S A s.heap H1 locs1 → W p l e R s m args below meth c H1 locs1 cells slots Q (F0 m (pc + 1) ls rest)) : W p l e R s m args below meth c H locs cells slots Q (F0 m pc ls (.int x :: .int i :: .ref a :: rest)) := by
  obtain ⟨h1, h2⟩ := xx_as_some hi
  refine va_iast C.1 C.2.1 hK hP hD hS q0 t0 ha ht h1 hdg (fun H1 locs1 g1 g2 g3 => kk H1 locs1 ?_ ?_ g3)
  · rw [← hset, h2]; exact g1
  · rw [← hset, h2]; exact g2
theorem xx_zast (C : xx_C p s m args meth c cc nL own rt) (hK : va_K D xx_cls tys s) {ws ws1 : va_W} (hP : va_P D xx_cls ws H) (hD : va_D A ws) (hS : va_S A s.heap H locs) (q0 t0 : Nat) {cA : ClassId} {n a : Nat} {f f1 : Nat → Int32} (ha : ws[q0]? = some (a, .inl (cA, n, .inl f))) (ht : tys[t0]? = some (cA, .boolean)) {i x : Int32} (hi : xx_as f n i (vp_nar .boolean x) = some f1) (hset : ws.set q0 (a, .inl (cA, n, .inl f1)) = ws1) (hdg : decode cc pc = .ok (.bastore, 1))
    (kk : ∀ (H1 : Heap) (locs1 : List Loc), va_P D xx_cls ws1 H1 → va_D A ws1 → va_S A s.heap H1 locs1 → W p l e R s m args below meth c H1 locs1 cells slots Q (F0 m (pc + 1) ls rest)) : W p l e R s m args below meth c H locs cells slots Q (F0 m pc ls (.int x :: .int i :: .ref a :: rest)) := by
  obtain ⟨h1, h2⟩ := xx_as_some hi
  refine va_zast C.1 C.2.1 hK hP hD hS q0 t0 ha ht h1 hdg (fun H1 locs1 g1 g2 g3 => kk H1 locs1 ?_ ?_ g3)
  · rw [← hset, h2]; exact g1
  · rw [← hset, h2]; exact g2
/-- calls -/
theorem xx_call {mc ms : Nat} {a : Array Value} (hr : va_Run p l e R s m args below meth c H locs cells slots mc ms (F0 m pc ls st0) rest (xx_Q D tys Wd rv u1 (va_A (Wd u) H.size) a) (va_A (Wd u) H.size)) (hA : ∀ q, s.heap.size ≤ q → A q) (hD : va_D A (Wd u)) (hS : va_S A s.heap H locs)
    (kk : ∀ (H1 : Heap) (locs1 : List Loc), va_P D xx_cls (Wd u1) H1 → va_D A (Wd u1) → va_S A s.heap H1 locs1 → W p l e R s m args below meth c H1 locs1 (cells + mc) (slots + ms) Q (F0 m (pc + 3) ls (rv.toList ++ rest))) : W p l e R s m args below meth c H locs cells slots Q (F0 m pc ls st0) := by
  intro T hT X
  obtain ⟨v, st₀, t, T', L, h0, X', hL, e1, e2, ⟨⟨hv, hP1, hK1, hD1⟩, hz, hk⟩, st⟩ := hr T hT X
  cases hv
  rw [h0] at hz hk
  have hfree : ∀ q, va_A (Wd u) H.size q → A q := by
    rintro q (⟨k, e', h⟩ | h)
    · exact hD.2 k _ h
    · exact hA q (Nat.le_trans hS.1 h)
  obtain ⟨t2, a2, b2⟩ := kk T'.heap (locs ++ L) (by rw [e1]; exact hP1) ⟨hD1.1, fun k q hq => hfree _ (hD1.2 k q hq)⟩
    ⟨Nat.le_trans hS.1 (by rw [e1]; exact hz), fun q h1 h2 => by rw [e1, hk q (Nat.lt_of_lt_of_le h1 hS.1) (fun z => h2 (hfree q z))]; exact hS.2.1 q h1 h2, fun q hq => by
      rcases List.mem_append.mp hq with h | h
      · exact hS.2.2 q h
      · exact hfree _ (hL q h)⟩ T' rfl X'
  exact ⟨t2, st t2 a2, b2⟩
theorem xx_pre {vs : List Value} (hN : xx_N s) (hK : va_K D xx_cls tys s) (hP : va_P D xx_cls (Wd u) H) (hD : va_D A (Wd u)) (U : State) (hU : U.heap = H) (hW : s.WarmedH U.vm) : xx_Pc D tys Wd vs u H.size vs.toArray U :=
  ⟨rfl, by rw [hU], xx_N.warm hW hN, by rw [hU]; exact hP, va_K.moved hW.alike hK, hD.weaken (fun _ _ _ _ => trivial)⟩
/-- a static method -/
theorem xx_callS {y : MethodName} {bytes : ByteArray} {maxL : Nat} {ret : Option FieldType} {rm : Room} {As : List Value} {n : Nat} (C : xx_C p s m args meth c cc nL own rt) (hM : xx_M l D tys Wd y bytes maxL ret rm As u rv u1)
    (hw : Cond.code y bytes maxL ret ∈ xx_tb ∧ Cond.methodLink own index y ∈ xx_tb ∧ Cond.static y ∈ xx_tb ∧ Cond.initialized y.cls ∈ xx_tb) (hd : y.cls ≠ "java/lang/invoke/MethodHandle" ∧ y.cls ≠ "java/lang/invoke/VarHandle" ∧ (parseMethodDescriptor y.desc).map (fun d => d.parameters.length) = some n) (hn : As.length = n) (hR : rm.frames + 1 ≤ R.frames ∧ 8 + (maxL + 11) + rm.locals ≤ R.locals)
    (hl : ls.size = nL) (hst : st0 = As.reverse ++ rest) (hrs : (rest.map fun v => v.category).sum ≤ 8) (hA : ∀ q, s.heap.size ≤ q → A q) (hK : va_K D xx_cls tys s) (hP : va_P D xx_cls (Wd u) H) (hD : va_D A (Wd u)) (hS : va_S A s.heap H locs) (hf : cells + rm.cells ≤ R.cells ∧ slots + rm.slots ≤ R.slots) {st1 : List Value} {cells1 slots1 : Nat} (hst1 : rv.toList ++ rest = st1) (hc1 : cells + rm.cells = cells1) (hs1 : slots + rm.slots = slots1) (hdg : decode cc pc = .ok (.invokestatic index, 3))
    (kk : ∀ (H1 : Heap) (locs1 : List Loc), va_P D xx_cls (Wd u1) H1 → va_D A (Wd u1) → va_S A s.heap H1 locs1 → W p l e R s m args below meth c H1 locs1 cells1 slots1 Q (F0 m (pc + 3) ls st1)) : W p l e R s m args below meth c H locs cells slots Q (F0 m pc ls st0) := by
  subst hst1
  subst hc1
  subst hs1
  subst hn
  exact xx_call (a := As.toArray) (va_runS (y := y) (bytes := bytes) (maxL := maxL) (ret := ret) (ws := Cond.code y bytes maxL ret :: xx_tb) (rm := rm) (n := As.length) (As := As) ⟨C.1, C.2.1, C.2.2.1, C.2.2.2.1, C.2.2.2.2.1⟩ (hM H.size)
    ⟨callB_of As.length C.2.2.2.2.1 (xx_GI (xx_GIc hw.1)) rfl rfl rfl (C.2.2.2.2.1 _ hw.2.2.2) (C.2.2.2.2.1 _ hw.2.1) hd hR, C.2.2.2.2.1 _ hw.2.2.1⟩ ⟨xx_blind, fun U hU hW => xx_pre C.2.2.2.2.2.2.2 hK hP hD U hU hW⟩ rfl rfl hl hst (lv_room hrs) hdg hf) hA hD hS kk
/-- an instance method, on a cell of the world -/
theorem xx_callV {y : MethodName} {bytes : ByteArray} {maxL : Nat} {ret : Option FieldType} {rm : Room} {As : List Value} {T : u_T} {N ci b : Nat} {fs : List Value} {Cn : String} {n : Nat} (C : xx_C p s m args meth c cc nL own rt) (hM : xx_M l D tys Wd y bytes maxL ret rm (.ref b :: As) u rv u1)
    (hw : Cond.code y bytes maxL ret ∈ xx_tb ∧ Cond.methodLink own index y ∈ xx_tb ∧ Cond.instanceMethod y ∈ xx_tb ∧ Cond.selects Cn y y ∈ xx_tb ∧ Cond.initialized y.cls ∈ xx_tb) (hd : y.cls ≠ "java/lang/invoke/MethodHandle" ∧ y.cls ≠ "java/lang/invoke/VarHandle" ∧ (parseMethodDescriptor y.desc).map (fun d => d.parameters.length) = some n) (hn : As.length = n) (hR : rm.frames + 1 ≤ R.frames ∧ 8 + (maxL + 11) + rm.locals ≤ R.locals)
    (q0 : Nat) (he : (Wd u)[q0]? = some (b, .inr (ci, fs))) (hc : xx_cls[ci]? = some (Cn, T, N))
    (hl : ls.size = nL) (hst : st0 = As.reverse ++ .ref b :: rest) (hrs : (rest.map fun v => v.category).sum ≤ 8) (hA : ∀ q, s.heap.size ≤ q → A q) (hK : va_K D xx_cls tys s) (hP : va_P D xx_cls (Wd u) H) (hD : va_D A (Wd u)) (hS : va_S A s.heap H locs) (hf : cells + rm.cells ≤ R.cells ∧ slots + rm.slots ≤ R.slots) {st1 : List Value} {cells1 slots1 : Nat} (hst1 : rv.toList ++ rest = st1) (hc1 : cells + rm.cells = cells1) (hs1 : slots + rm.slots = slots1) (hdg : decode cc pc = .ok (.invokevirtual index, 3))
    (kk : ∀ (H1 : Heap) (locs1 : List Loc), va_P D xx_cls (Wd u1) H1 → va_D A (Wd u1) → va_S A s.heap H1 locs1 → W p l e R s m args below meth c H1 locs1 cells1 slots1 Q (F0 m (pc + 3) ls st1)) : W p l e R s m args below meth c H locs cells slots Q (F0 m pc ls st0) := by
  subst hst1
  subst hc1
  subst hs1
  subst hn
  exact xx_call (a := (Value.ref b :: As).toArray) (va_runV (y := y) (bytes := bytes) (maxL := maxL) (ret := ret) (ws := Cond.code y bytes maxL ret :: xx_tb) (rm := rm) (n := As.length) (As := As) (C := Cn) ⟨C.1, C.2.1, C.2.2.1, C.2.2.2.1, C.2.2.2.2.1⟩ (hM H.size)
    ⟨callB_of As.length C.2.2.2.2.1 (xx_GI (xx_GIc hw.1)) rfl rfl rfl (C.2.2.2.2.1 _ hw.2.2.2.2) (C.2.2.2.2.1 _ hw.2.1) hd hR, C.2.2.2.2.1 _ hw.2.2.1, C.2.2.2.2.1 _ hw.2.2.2.1⟩ ⟨xx_blind, va_recv hK hP hc he, fun U hU hW => xx_pre C.2.2.2.2.2.2.2 hK hP hD U hU hW⟩ rfl rfl hl hst (lv_room hrs) hdg hf) hA hD hS kk
end XR
abbrev xx_G : Type := va_G × (Nat → Nat) × (Nat → ClassId)
abbrev qm_S : Type := (Nat → Int32) × (Nat → Nat → Int32)
def qm_T (g : xx_G) : List (ClassId × FieldType) := [(g.2.2 0, .int), (g.2.2 1, .boolean)]
def qm_W (g : xx_G) (u : qm_S) : va_W := [(g.2.1 0, .inr (0, [.int (u.1 0), .ref (g.2.1 1), .int (u.1 2), .int (u.1 3), .ref (g.2.1 2), .ref (g.2.1 3), .ref (g.2.1 4), .ref (g.2.1 5), .ref (g.2.1 6), .ref (g.2.1 7), .ref (g.2.1 8), .ref (g.2.1 9), .ref (g.2.1 10), .ref (g.2.1 11), .ref (g.2.1 12), .int (u.1 15), .ref (g.2.1 13), .int (u.1 17), .int (u.1 18), .int (u.1 19), .int (u.1 20), .int (u.1 21), .ref (g.2.1 14), .int (u.1 23), .int (u.1 24), .int (u.1 25), .int (u.1 26), .int (u.1 27), .int (u.1 28), .int (u.1 29), .int (u.1 30)])), (g.2.1 1, .inl (g.2.2 0, 4096, .inl (u.2 1))), (g.2.1 2, .inl (g.2.2 0, 40, .inl (u.2 2))), (g.2.1 3, .inl (g.2.2 0, 40, .inl (u.2 3))), (g.2.1 4, .inl (g.2.2 0, 40, .inl (u.2 4))), (g.2.1 5, .inl (g.2.2 0, 40, .inl (u.2 5))), (g.2.1 6, .inl (g.2.2 1, 12, .inl (u.2 6))), (g.2.1 7, .inl (g.2.2 0, 12, .inl (u.2 7))), (g.2.1 8, .inl (g.2.2 0, 12, .inl (u.2 8))), (g.2.1 9, .inl (g.2.2 0, 12, .inl (u.2 9))), (g.2.1 10, .inl (g.2.2 0, 12, .inl (u.2 10))), (g.2.1 11, .inl (g.2.2 0, 12, .inl (u.2 11))), (g.2.1 12, .inl (g.2.2 1, 144, .inl (u.2 12))), (g.2.1 13, .inl (g.2.2 0, 1200, .inl (u.2 13))), (g.2.1 14, .inl (g.2.2 0, 32, .inl (u.2 14)))]
def xx_fu : Nat := 5000
