/-! new cells; final fields; constructors' calls -/
section XA
variable {p : Program} {l : Launch} {e : Env} {R : Room} {s : State} {m : MethodId} {args : Array Value} {below : List Frame} {meth : Method} {c : Code} {H : Heap} {locs : List Loc} {cells slots : Nat} {Q : State → Prop}
variable {cc : ByteArray} {nL pc index : Nat} {own : String} {rt : Option FieldType} {ls : Array Slot} {rest st0 : List Value} {A : Nat → Prop} {D : va_G} {tys : List (ClassId × FieldType)} {ws : va_W}
theorem xw_newa (C : xx_C p s m args meth c cc nL own rt) {atype : ArrayType} (harr : Cond.arrayClass (newarray.typeOf atype) ∈ xx_tb) {ty : FieldType} (hty : newarray.typeOf atype = ty) (hob : ∀ cA, va_RA s cA ty → s.vm.findClass ("[" ++ ty.toString) = some cA) (hK : va_K D xx_cls tys s) (hP : va_P D xx_cls ws H) (hD : va_D A ws) (hS : va_S A s.heap H locs) (hA : ∀ q, s.heap.size ≤ q → A q) (t0 : Nat) {cA : ClassId} (ht : tys[t0]? = some (cA, ty))
    {n : Int32} {N' : Nat} {a0 : vp_A} (ha : ∀ cA : ClassId, vp_cell cA a0 = arrV cA N' (fun _ => defaultValue ty)) (hn : ¬ n < 0) (hN : n.toNatClampNeg = N') (hbytes : N' * componentBytes ty ≤ 536870912) (hcells : cells + 1 ≤ R.cells) (hslots : slots + N' ≤ R.slots) {cells1 slots1 : Nat} (hc1 : cells + 1 = cells1) (hs1 : slots + N' = slots1) (hdg : decode cc pc = .ok (.newarray atype, 2))
    (kk : ∀ (q : Nat) (H1 : Heap), va_P D xx_cls (ws ++ [(q, .inl (cA, a0))]) H1 → va_D A (ws ++ [(q, .inl (cA, a0))]) → va_S A s.heap H1 locs → W p l e R s m args below meth c H1 locs cells1 slots1 Q (F0 m (pc + 2) ls (.ref q :: rest))) : W p l e R s m args below meth c H locs cells slots Q (F0 m pc ls (.int n :: rest)) := by
  subst hc1
  subst hs1
  refine va_newa C.1 C.2.1 (C.2.2.2.2.1 _ harr) hty hK hP hD hS hA ha hn hN hbytes hcells hslots hdg (fun q cA' H1 hK1 hP1 hD1 hS1 => ?_)
  have h1 := hob _ (hK1.2 tys.length (cA', ty) (by simp)).2
  have h2 := hob _ (hK.2 t0 _ ht).2
  have h3 : cA' = cA := Option.some.inj (h1.symm.trans h2)
  subst h3
  exact kk q H1 hP1 hD1 hS1
theorem xw_newq (C : xx_C p s m args meth c cc nL own rt) {cn : String} (hcl : Cond.classLink own index cn ∈ xx_tb) (hover : va_AO cn s) (hK : va_K D xx_cls tys s) (hP : va_P D xx_cls ws H) (hD : va_D A ws) (hS : va_S A s.heap H locs) (hA : ∀ q, s.heap.size ≤ q → A q) (t0 : Nat) {cA : ClassId} (ht : tys[t0]? = some (cA, .object cn))
    {n : Int32} {N' : Nat} (hn : ¬ n < 0) (hN : n.toNatClampNeg = N') (hbytes : N' * 4 ≤ 536870912) (hcells : cells + 1 ≤ R.cells) (hslots : slots + N' ≤ R.slots) {cells1 slots1 : Nat} (hc1 : cells + 1 = cells1) (hs1 : slots + N' = slots1) (hdg : decode cc pc = .ok (.anewarray index, 3))
    (kk : ∀ (q : Nat) (H1 : Heap), va_P D xx_cls (ws ++ [(q, .inl (cA, N', .inr (.inr (.inr (.inr (fun _ => none))))))]) H1 → va_D A (ws ++ [(q, .inl (cA, N', .inr (.inr (.inr (.inr (fun _ => none))))))]) → va_S A s.heap H1 locs → W p l e R s m args below meth c H1 locs cells1 slots1 Q (F0 m (pc + 3) ls (.ref q :: rest))) : W p l e R s m args below meth c H locs cells slots Q (F0 m pc ls (.int n :: rest)) := by
  subst hc1
  subst hs1
  refine va_newq C.1 C.2.1 C.2.2.2.1 (C.2.2.2.2.1 _ hcl) hover hK hP hD hS hA hn hN hbytes hcells hslots hdg (fun q cA' H1 hK1 hP1 hD1 hS1 => ?_)
  obtain ⟨-, -, -, -, -, h1⟩ := (hK1.2 tys.length (cA', .object cn) (by simp)).2
  obtain ⟨-, -, -, -, -, h2⟩ := (hK.2 t0 _ ht).2
  have h3 : cA' = cA := Option.some.inj (h1.symm.trans h2)
  subst h3
  exact kk q H1 hP1 hD1 hS1
theorem xw_new (C : xx_C p s m args meth c cc nL own rt) {Cn : String} {T : u_T} {N ci : Nat} (hin : ∀ w ∈ u_ws Cn T N, w ∈ xx_tb) (ty : Nat → FieldType) (hty : ∀ k, k < N → parseFieldDescriptor (T k).2.2.1 = some (ty k)) (hw : Cond.classLink own index Cn ∈ xx_tb ∧ Cond.instantiable Cn N ∈ xx_tb ∧ Cond.initialized Cn ∈ xx_tb) (hK : va_K D xx_cls tys s) (hP : va_P D xx_cls ws H) (hD : va_D A ws) (hS : va_S A s.heap H locs) (hA : ∀ q, s.heap.size ≤ q → A q) (hc : xx_cls[ci]? = some (Cn, T, N)) {fs : List Value} (hfs : ∀ j, j < N → defaultValue (ty j) = vp_V fs j) (hcells : cells + 1 ≤ R.cells) (hslots : slots + N ≤ R.slots) {cells1 slots1 : Nat} (hc1 : cells + 1 = cells1) (hs1 : slots + N = slots1) (hdg : decode cc pc = .ok (.new index, 3))
    (kk : ∀ (q : Nat) (H1 : Heap), va_P D xx_cls (ws ++ [(q, .inr (ci, fs))]) H1 → va_D A (ws ++ [(q, .inr (ci, fs))]) → va_S A s.heap H1 locs → W p l e R s m args below meth c H1 locs cells1 slots1 Q (F0 m (pc + 3) ls (.ref q :: rest))) : W p l e R s m args below meth c H locs cells slots Q (F0 m pc ls rest) := by
  subst hc1
  subst hs1
  exact va_new C.1 C.2.1 C.2.2.2.2.1 hin ty hty C.2.2.2.1 (C.2.2.2.2.1 _ hw.1) (C.2.2.2.2.1 _ hw.2.1) (C.2.2.2.2.1 _ hw.2.2) hK hP hD hS hA hc hfs hcells hslots hdg kk
theorem xx_putF (C : xx_C p s m args meth c cc nL own rt) (hin2 : meth.name = "<init>") {Cn : String} {T : u_T} {N ci : Nat} (hin : ∀ w ∈ u_ws Cn T N, w ∈ xx_tb) (ty0 : Nat → FieldType) (hty : ∀ k, k < N → parseFieldDescriptor (T k).2.2.1 = some (ty0 k)) (hnm : ∀ a, a < N → ∀ b, b < N → a ≠ b → (T a).2.1 ≠ (T b).2.1) (hK : va_K D xx_cls tys s) {ws1 : va_W} (hP : va_P D xx_cls ws H) (hD : va_D A ws) (hS : va_S A s.heap H locs) (q0 : Nat) {fs : List Value} {a : Nat} (he : ws[q0]? = some (a, .inr (ci, fs))) (hc : xx_cls[ci]? = some (Cn, T, N)) (k : Nat) (hk : k < N) (hlink : Cond.fieldLink own index own (T k).2.1 (T k).2.2.1 ∈ xx_tb) (hsame : (T k).1 = own) (hfin : (T k).2.2.2 = true) {v : Value} (hn : narrow (ty0 k) v = v) (hfit : fits (ty0 k) v = true) (hl : k < fs.length) (hset : ws.set q0 (a, .inr (ci, fs.set k v)) = ws1)
    (hdg : decode cc pc = .ok (.putfield index, 3)) (kk : ∀ (H1 : Heap) (locs1 : List Loc), va_P D xx_cls ws1 H1 → va_D A ws1 → va_S A s.heap H1 locs1 → W p l e R s m args below meth c H1 locs1 cells slots Q (F0 m (pc + 3) ls rest)) : W p l e R s m args below meth c H locs cells slots Q (F0 m pc ls (v :: .ref a :: rest)) := by
  refine va_putF C.1 C.2.1 C.2.2.2.2.1 hin ty0 hty hnm C.2.2.2.1 hK hP hD hS q0 he hc k hk (C.2.2.2.2.1 _ hlink) (fun x h => by rw [← hsame]; exact h) hfin hin2 hsame (hty k hk) hn hfit hl hdg (fun H1 locs1 h1 h2 h3 => kk H1 locs1 ?_ ?_ h3)
  · rw [← hset]; exact h1
  · rw [← hset]; exact h2
theorem xx_obj (C : xx_C p s m args meth c cc nL own rt) {a : Nat} (hw : Cond.methodLink own index Lib.objectInit ∈ xx_tb ∧ Cond.instanceMethod Lib.objectInit ∈ xx_tb ∧ Cond.code Lib.objectInit ⟨#[0xb1]⟩ 1 none ∈ xx_tb) (hl : ls.size = nL) (hdg : decode cc pc = .ok (.invokespecial index, 3)) (hframes : 1 ≤ R.frames) (hlocals : (rest.map fun v => v.category).sum + 12 ≤ R.locals)
    (kk : W p l e R s m args below meth c H locs cells slots Q (F0 m (pc + 3) ls rest)) : W p l e R s m args below meth c H locs cells slots Q (F0 m pc ls (.ref a :: rest)) :=
  W.objInit C.1 C.2.1 C.2.2.2.1 (C.2.2.2.2.1 _ hw.1) (C.2.2.2.2.1 _ hw.2.1) (C.2.2.2.2.1 _ hw.2.2) (g := F0 m pc ls (.ref a :: rest)) rfl (hl.trans C.2.2.1.symm) rfl hdg hframes (by show 2 * 0 + _ + 12 ≤ _; omega) kk
variable {S1 : Type} {Wd : S1 → va_W} {u u1 : S1}
/-- a constructor that makes nothing -/
theorem xx_callI {y : MethodName} {bytes : ByteArray} {maxL : Nat} {rm : Room} {As : List Value} {n b : Nat} (C : xx_C p s m args meth c cc nL own rt) (hM : xx_M l D tys Wd y bytes maxL none rm (.ref b :: As) u none u1)
    (hw : Cond.code y bytes maxL none ∈ xx_tb ∧ Cond.methodLink own index y ∈ xx_tb ∧ Cond.instanceMethod y ∈ xx_tb ∧ Cond.initialized y.cls ∈ xx_tb) (hy1 : y.name = "<init>") (hd : y.cls ≠ "java/lang/invoke/MethodHandle" ∧ y.cls ≠ "java/lang/invoke/VarHandle" ∧ (parseMethodDescriptor y.desc).map (fun d => d.parameters.length) = some n) (hn : As.length = n) (hR : rm.frames + 1 ≤ R.frames ∧ 8 + (maxL + 11) + rm.locals ≤ R.locals)
    (hl : ls.size = nL) (hst : st0 = As.reverse ++ .ref b :: rest) (hrs : (rest.map fun v => v.category).sum ≤ 8) (hA : ∀ q, s.heap.size ≤ q → A q) (hK : va_K D xx_cls tys s) (hP : va_P D xx_cls (Wd u) H) (hD : va_D A (Wd u)) (hS : va_S A s.heap H locs) (hf : cells + rm.cells ≤ R.cells ∧ slots + rm.slots ≤ R.slots) {cells1 slots1 : Nat} (hc1 : cells + rm.cells = cells1) (hs1 : slots + rm.slots = slots1) (hdg : decode cc pc = .ok (.invokespecial index, 3))
    (kk : ∀ (H1 : Heap) (locs1 : List Loc), va_P D xx_cls (Wd u1) H1 → va_D A (Wd u1) → va_S A s.heap H1 locs1 → W p l e R s m args below meth c H1 locs1 cells1 slots1 Q (F0 m (pc + 3) ls rest)) : W p l e R s m args below meth c H locs cells slots Q (F0 m pc ls st0) := by
  subst hc1
  subst hs1
  subst hn
  exact xx_call (rv := none) (a := (Value.ref b :: As).toArray) (va_runI (y := y) (bytes := bytes) (maxL := maxL) (ws := Cond.code y bytes maxL none :: xx_tb) (rm := rm) (n := As.length) (As := As) ⟨C.1, C.2.1, C.2.2.1, C.2.2.2.1, C.2.2.2.2.1⟩ (hM H.size)
    ⟨callB_of As.length C.2.2.2.2.1 (xx_GI (xx_GIc hw.1)) rfl rfl rfl (C.2.2.2.2.1 _ hw.2.2.2) (C.2.2.2.2.1 _ hw.2.1) hd hR, hy1, C.2.2.2.2.1 _ hw.2.2.1⟩ ⟨xx_blind, fun U hU hW => xx_pre C.2.2.2.2.2.2.2 hK hP hD U hU hW⟩ rfl rfl hl hst (lv_room hrs) hdg hf) hA hD hS kk
/-- a constructor that makes cells -/
theorem xw_callI {y : MethodName} {bytes : ByteArray} {maxL : Nat} {rm : Room} {As : List Value} {n o : Nat} {Po : Option Value → S1 → Prop} (C : xx_C p s m args meth c cc nL own rt) (CW : xw_C s c A) (hM : xw_M l D tys Wd y bytes maxL none rm (.ref o :: As) u Po (fun _ _ => False))
    (hw : Cond.code y bytes maxL none ∈ xx_tb ∧ Cond.methodLink own index y ∈ xx_tb ∧ Cond.instanceMethod y ∈ xx_tb ∧ Cond.initialized y.cls ∈ xx_tb) (hy1 : y.name = "<init>") (hd : y.cls ≠ "java/lang/invoke/MethodHandle" ∧ y.cls ≠ "java/lang/invoke/VarHandle" ∧ (parseMethodDescriptor y.desc).map (fun d => d.parameters.length) = some n) (hn : As.length = n) (hR : rm.frames + 1 ≤ R.frames ∧ 8 + (maxL + 11) + rm.locals ≤ R.locals)
    (hl : ls.size = nL) (hst : st0 = As.reverse ++ .ref o :: rest) (hrs : (rest.map fun v => v.category).sum ≤ 8) (hA : ∀ q, s.heap.size ≤ q → A q) (hK : va_K D xx_cls tys s) (hP : va_P D xx_cls (Wd u) H) (hD : va_D A (Wd u)) (hS : va_S A s.heap H locs) (hf : cells + rm.cells ≤ R.cells ∧ slots + rm.slots ≤ R.slots) {cells1 slots1 : Nat} (hc1 : cells + rm.cells = cells1) (hs1 : slots + rm.slots = slots1) (hdg : decode cc pc = .ok (.invokespecial index, 3))
    (kk : ∀ (rv : Option Value) (u1 : S1) (H1 : Heap) (locs1 : List Loc), Po rv u1 → va_P D xx_cls (Wd u1) H1 → va_D A (Wd u1) → va_S A s.heap H1 locs1 → W p l e R s m args below meth c H1 locs1 cells1 slots1 Q (F0 m (pc + 3) ls (rv.toList ++ rest))) : W p l e R s m args below meth c H locs cells slots Q (F0 m pc ls st0) := by
  subst hc1
  subst hs1
  subst hn
  obtain ⟨hexec, hb, hml, hown, hts, -, -, hN⟩ := C
  have hy : y.cls ≠ "java/lang/invoke/MethodHandle" ∧ y.cls ≠ "java/lang/invoke/VarHandle" := ⟨hd.1, hd.2.1⟩
  intro T hT X
  have hpl : e.platform.magicAccessors = ({} : Platform).magicAccessors := by rw [X.admits.platform]
  have hlen : ∀ sig, parseMethodDescriptor y.desc = some sig → As.length = sig.parameters.length := fun sig h => by
    have h2 := hd.2.2
    rw [h] at h2
    exact (Option.some.inj h2).symm
  obtain ⟨mk, methM, cM, kP, vm₁, hnamed, hmethM, hcodeM, -, hlocalsM, -, hkP, -, hW₁, hstep₁⟩ := Steps.initColdArgs (e := e) X.here hexec X.warmed hpl hown hy1 hy (hts _ hw.2.1) (hts _ hw.2.2.1) (hts _ hw.1) (f := F0 m pc ls st0) rfl hlen hst (by rw [hb]; exact hdg)
  have X₁ := X.noted hW₁
  have hh1 : (T.setVm vm₁).heap = H := hT
  have hZ1 : xw_Z (T.setVm vm₁) := xw_Z.move X₁.warmed (fun q x hx hs => by rw [hh1, hS.2.1 q (Array.getElem?_eq_some_iff.mp hx).1 (CW.2.1 q x hx hs)]; exact hx) CW.2.2
  obtain ⟨T', L, X', hL, hF, hcase⟩ := xw_run (A := A) (g := F0 m pc ls rest) (ig := .invokespecial index) X₁ hM hN hZ1 hts hw.1 hw.2.2.2 hR hf hK (by rw [hh1]; exact hP) hD rfl (hl.trans hml.symm) (by rw [hb]; exact hdg) (lv_room hrs) (X₁.named hnamed)
  rw [hh1] at hL hF hcase
  have hfree : ∀ q, va_A (Wd u) H.size q → A q := by
    rintro q (⟨k, e', h⟩ | h)
    · exact hD.2 k _ h
    · exact hA q (Nat.le_trans hS.1 h)
  have hS' : va_S A s.heap T'.heap (locs ++ L) := ⟨Nat.le_trans hS.1 hF.1, fun q h1 h2 => by rw [hF.2 q (Nat.lt_of_lt_of_le h1 hS.1) (fun z => h2 (hfree q z))]; exact hS.2.1 q h1 h2, fun q hq => by
    rcases List.mem_append.mp hq with h | h
    · exact hS.2.2 q h
    · exact hfree _ (hL q h)⟩
  rcases hcase with ⟨rv, u1, hPo, hP1, hD1, st⟩ | ⟨q, E, u1, ce, hPx, -⟩
  · obtain ⟨t2, a2, b2⟩ := kk rv u1 T'.heap (locs ++ L) hPo hP1 ⟨hD1.1, fun k q hq => hfree _ (hD1.2 k q hq)⟩ hS' T' rfl X'
    exact ⟨t2, hstep₁ _ fun acts => by rw [doInvoke_state]; exact st.trans a2, b2⟩
  · exact hPx.elim
end XA
section ZA
variable {p : Program} {l : Launch} {e : Env} {R : Room} {s : State} {m : MethodId} {args : Array Value} {below : List Frame} {meth : Method} {c : Code} {H : Heap} {locs : List Loc} {cells slots : Nat} {Q : State → Prop}
variable {cc : ByteArray} {nL pc index : Nat} {own : String} {rt : Option FieldType} {ls : Array Slot} {rest st0 : List Value} {A : Nat → Prop} {g : xx_G} {u u1 : zz_S}
/-- the picture with one object more, with one array more -/
def zz_more (u : zz_S) (q : Nat) (o : Nat × List Value) : zz_S := (u.1, u.2.1, u.2.2.1, (u.2.2.2.1.1 ++ [q], va_up u.2.2.2.1.2 q o), u.2.2.2.2)
def zz_moreN (u : zz_S) (q : Nat) : zz_S := (u.1, u.2.1, u.2.2.1, u.2.2.2.1, (u.2.2.2.2.1 ++ [q], va_up u.2.2.2.2.2 q (fun _ => none)))
theorem zz_fresh {q : Nat} {x : va_E} (hD : va_D A (zz_W g u ++ [(q, x)])) : q ∉ u.2.2.2.1.1 ∧ q ∉ u.2.2.2.2.1 := by
  have key : ∀ k : Nat, ∀ y : va_E, (zz_W g u)[k]? = some (q, y) → False := by
    intro k y hk
    have hl := (List.getElem?_eq_some_iff.mp hk).1
    have h1 : (zz_W g u ++ [(q, x)])[k]? = some (q, y) := by rw [List.getElem?_append_left hl]; exact hk
    have h2 : (zz_W g u ++ [(q, x)])[(zz_W g u).length]? = some (q, x) := by simp
    have := hD.1 k _ _ _ h1 h2 rfl
    omega
  refine ⟨fun h => ?_, fun h => ?_⟩
  · obtain ⟨k, hk⟩ := zz_atW (g := g) (u := u) (a := q) (ci := (u.2.2.2.1.2 q).1) ⟨h, rfl⟩
    exact key k _ hk
  · obtain ⟨k, hk⟩ := zz_atN (g := g) (u := u) h
    exact key k _ hk
theorem zz_more_W {q : Nat} {o : Nat × List Value} (h : q ∉ u.2.2.2.1.1) : zz_W g (zz_more u q o) = ((zz_X g u ++ va_pl u.2.2.2.1.1 (fun a => .inr (u.2.2.2.1.2 a))) ++ [(q, .inr o)]) ++ zz_Z g u := by
  have h1 := va_pl_push (f := fun a => (.inr (u.2.2.2.1.2 a) : va_E)) (e := .inr o) h
  have h2 : va_pl (u.2.2.2.1.1 ++ [q]) (va_up (fun a => (.inr (u.2.2.2.1.2 a) : va_E)) q (.inr o)) = va_pl (u.2.2.2.1.1 ++ [q]) (fun b => .inr (va_up u.2.2.2.1.2 q o b)) := va_pl_congr (fun b => by by_cases hb : b = q <;> simp [va_up, hb])
  rw [List.append_assoc (zz_X g u), h1, h2]
  rfl
theorem zz_moreN_W {q : Nat} (h : q ∉ u.2.2.2.2.1) : zz_W g (zz_moreN u q) = zz_W g u ++ [(q, .inl (g.2.2 3, 8, .inr (.inr (.inr (.inr (fun _ => none))))))] := by
  have h1 := va_pl_push (f := fun a => (.inl (g.2.2 3, 8, .inr (.inr (.inr (.inr (u.2.2.2.2.2 a))))) : va_E)) (e := .inl (g.2.2 3, 8, .inr (.inr (.inr (.inr (fun _ => none)))))) h
  have h2 : va_pl (u.2.2.2.2.1 ++ [q]) (va_up (fun a => (.inl (g.2.2 3, 8, .inr (.inr (.inr (.inr (u.2.2.2.2.2 a))))) : va_E)) q (.inl (g.2.2 3, 8, .inr (.inr (.inr (.inr (fun _ => none))))))) = va_pl (u.2.2.2.2.1 ++ [q]) (fun b => .inl (g.2.2 3, 8, .inr (.inr (.inr (.inr (va_up u.2.2.2.2.2 q (fun _ => none) b)))))) := va_pl_congr (fun b => by by_cases hb : b = q <;> simp [va_up, hb])
  show _ = (_ ++ zz_Z g u) ++ _
  rw [List.append_assoc, show zz_Z g u = va_pl u.2.2.2.2.1 (fun a => (.inl (g.2.2 3, 8, .inr (.inr (.inr (.inr (u.2.2.2.2.2 a))))) : va_E)) from rfl, h1, h2]
  rfl
theorem zz_new (C : xx_C p s m args meth c cc nL own rt) {Cn : String} {T : u_T} {N ci : Nat} (hin : ∀ w ∈ u_ws Cn T N, w ∈ xx_tb) (ty : Nat → FieldType) (hty : ∀ k, k < N → parseFieldDescriptor (T k).2.2.1 = some (ty k)) (hw : Cond.classLink own index Cn ∈ xx_tb ∧ Cond.instantiable Cn N ∈ xx_tb ∧ Cond.initialized Cn ∈ xx_tb) (hK : va_K g.1 xx_cls (zz_T g) s) (hP : va_P g.1 xx_cls (zz_W g u) H) (hD : va_D A (zz_W g u)) (hS : va_S A s.heap H locs) (hA : ∀ q, s.heap.size ≤ q → A q) (hc : xx_cls[ci]? = some (Cn, T, N)) {fs : List Value} (hfs : ∀ j, j < N → defaultValue (ty j) = vp_V fs j) (hcells : cells + 1 ≤ R.cells) (hslots : slots + N ≤ R.slots) {cells1 slots1 : Nat} (hc1 : cells + 1 = cells1) (hs1 : slots + N = slots1) (hdg : decode cc pc = .ok (.new index, 3))
    (kk : ∀ (q : Nat) (H1 : Heap), q ∉ u.2.2.2.1.1 → va_P g.1 xx_cls (zz_W g (zz_more u q (ci, fs))) H1 → va_D A (zz_W g (zz_more u q (ci, fs))) → va_S A s.heap H1 locs → W p l e R s m args below meth c H1 locs cells1 slots1 Q (F0 m (pc + 3) ls (.ref q :: rest))) : W p l e R s m args below meth c H locs cells slots Q (F0 m pc ls rest) := by
  refine xw_new C hin ty hty hw hK hP hD hS hA hc hfs hcells hslots hc1 hs1 hdg (fun q H1 hP1 hD1 hS1 => ?_)
  have hf := (zz_fresh hD1).1
  refine kk q H1 hf ?_ ?_ hS1
  · rw [zz_more_W hf]; exact va_P.swap hP1
  · rw [zz_more_W hf]; exact va_D.swap hD1
theorem zz_newN (C : xx_C p s m args meth c cc nL own rt) (hcl : Cond.classLink own index "ModuleLoader$LoadedModule" ∈ xx_tb) (hover : va_AO "ModuleLoader$LoadedModule" s) (hK : va_K g.1 xx_cls (zz_T g) s) (hP : va_P g.1 xx_cls (zz_W g u) H) (hD : va_D A (zz_W g u)) (hS : va_S A s.heap H locs) (hA : ∀ q, s.heap.size ≤ q → A q) (hcells : cells + 1 ≤ R.cells) (hslots : slots + 8 ≤ R.slots) {cells1 slots1 : Nat} (hc1 : cells + 1 = cells1) (hs1 : slots + 8 = slots1) (hdg : decode cc pc = .ok (.anewarray index, 3))
    (kk : ∀ (q : Nat) (H1 : Heap), q ∉ u.2.2.2.2.1 → va_P g.1 xx_cls (zz_W g (zz_moreN u q)) H1 → va_D A (zz_W g (zz_moreN u q)) → va_S A s.heap H1 locs → W p l e R s m args below meth c H1 locs cells1 slots1 Q (F0 m (pc + 3) ls (.ref q :: rest))) : W p l e R s m args below meth c H locs cells slots Q (F0 m pc ls (.int 8 :: rest)) := by
  refine xw_newq C hcl hover hK hP hD hS hA 3 rfl (N' := 8) (by decide) (by decide) (by decide) hcells hslots hc1 hs1 hdg (fun q H1 hP1 hD1 hS1 => ?_)
  have hf := (zz_fresh hD1).2
  refine kk q H1 hf ?_ ?_ hS1
  · rw [zz_moreN_W hf]; exact hP1
  · rw [zz_moreN_W hf]; exact hD1
/-- a write of a final field of an object of the pool, by its constructor -/
theorem zz_putF (C : xx_C p s m args meth c cc nL own rt) (hin2 : meth.name = "<init>") {Cn : String} {T : u_T} {N ci : Nat} (hin : ∀ w ∈ u_ws Cn T N, w ∈ xx_tb) (ty0 : Nat → FieldType) (hty : ∀ k, k < N → parseFieldDescriptor (T k).2.2.1 = some (ty0 k)) (hnm : ∀ a, a < N → ∀ b, b < N → a ≠ b → (T a).2.1 ≠ (T b).2.1) (hK : va_K g.1 xx_cls (zz_T g) s) (hP : va_P g.1 xx_cls (zz_W g u) H) (hD : va_D A (zz_W g u)) (hS : va_S A s.heap H locs) {a : Nat} (hc : xx_cls[ci]? = some (Cn, T, N)) (k : Nat) (hk : k < N) (hlink : Cond.fieldLink own index own (T k).2.1 (T k).2.2.1 ∈ xx_tb) (hsame : (T k).1 = own) (hfin : (T k).2.2.2 = true) {v : Value} (hn : narrow (ty0 k) v = v) (hfit : fits (ty0 k) v = true) (hw : zz_pw u a ci k v = some u1)
    (hdg : decode cc pc = .ok (.putfield index, 3)) (kk : ∀ (H1 : Heap) (locs1 : List Loc), va_P g.1 xx_cls (zz_W g u1) H1 → va_D A (zz_W g u1) → va_S A s.heap H1 locs1 → W p l e R s m args below meth c H1 locs1 cells slots Q (F0 m (pc + 3) ls rest)) : W p l e R s m args below meth c H locs cells slots Q (F0 m pc ls (v :: .ref a :: rest)) := by
  obtain ⟨_, h1, h2⟩ := xx_ob hw
  have h := zz_ok_some h1
  split at h2
  · rename_i hlen
    obtain ⟨q0, he⟩ := zz_at (g := g) h
    have heW : (zz_W g u)[q0]? = some (a, .inr (ci, (u.2.2.2.1.2 a).2)) := by
      unfold zz_W
      rw [List.getElem?_append_left (List.getElem?_eq_some_iff.mp he).1]
      exact he
    refine xx_putF (ws1 := zz_W g u1) C hin2 hin ty0 hty hnm hK hP hD hS q0 heW hc k hk hlink hsame hfin hn hfit hlen ?_ hdg kk
    rw [← Option.some.inj h2]
    exact zz_setA (hD := hD) h he
  · cases h2
theorem xx_nrq {cn : String} {q : Option Nat} : narrow (.object cn) (va_rf q) = va_rf q := by cases q <;> rfl
theorem xx_ftq {cn : String} {q : Option Nat} : fits (.object cn) (va_rf q) = true := by cases q <;> rfl
end ZA
