theorem kw_868 : Cond.instantiable "ModuleLoaderModel" 31 ∈ xx_tb := xx_in (List.mem_append_right _ (List.mem_of_getElem? (i := 868) (by decide +kernel))) (by decide +kernel)
theorem kw_22 : Cond.instantiable "ModuleLoader" 8 ∈ xx_tb := xx_in (List.mem_append_right _ (List.mem_of_getElem? (i := 22) (by decide +kernel))) (by decide +kernel)
theorem kw_1169 : Cond.arrayClass .long ∈ xx_tb := xx_in (List.mem_append_right _ (List.mem_of_getElem? (i := 1169) (by decide +kernel))) (by decide +kernel)
theorem kw_21 : Cond.classLink "ModuleLoaderLaw" 8 "ModuleLoader" ∈ xx_tb := xx_in (List.mem_append_right _ (List.mem_of_getElem? (i := 21) (by decide +kernel))) (by decide +kernel)
theorem kw_867 : Cond.classLink "ModuleLoaderLaw" 39 "ModuleLoaderModel" ∈ xx_tb := xx_in (List.mem_append_right _ (List.mem_of_getElem? (i := 867) (by decide +kernel))) (by decide +kernel)
theorem kw_10 : Cond.initialized "java/lang/Throwable" ∈ xx_tb := xx_in (List.mem_append_right _ (List.mem_of_getElem? (i := 10) (by decide +kernel))) (by decide +kernel)
set_option maxRecDepth 100000 in
theorem kw_25 : Cond.code ky_Loader_init kb_Loader_init 1 none ∈ xx_tb := xx_in (List.mem_append_right _ (List.mem_of_getElem? (i := 25) (by rfl))) (by decide +kernel)
theorem kw_23 : Cond.methodLink "ModuleLoaderLaw" 38 ky_Loader_init ∈ xx_tb := xx_in (List.mem_append_right _ (List.mem_of_getElem? (i := 23) (by decide +kernel))) (by decide +kernel)
theorem kw_24 : Cond.instanceMethod ky_Loader_init ∈ xx_tb := xx_in (List.mem_append_right _ (List.mem_of_getElem? (i := 24) (by decide +kernel))) (by decide +kernel)
set_option maxRecDepth 100000 in
theorem kw_871 : Cond.code ky_Model_init kb_Model_init 1 none ∈ xx_tb := xx_in (List.mem_append_right _ (List.mem_of_getElem? (i := 871) (by rfl))) (by decide +kernel)
theorem kw_869 : Cond.methodLink "ModuleLoaderLaw" 41 ky_Model_init ∈ xx_tb := xx_in (List.mem_append_right _ (List.mem_of_getElem? (i := 869) (by decide +kernel))) (by decide +kernel)
theorem kw_870 : Cond.instanceMethod ky_Model_init ∈ xx_tb := xx_in (List.mem_append_right _ (List.mem_of_getElem? (i := 870) (by decide +kernel))) (by decide +kernel)
theorem kv_lays1 : Cond.laysStatic Bundle.tN "UNASSIGNED_STACK" Bundle.steD ∈ lw_tbl := List.mem_append_right _ (List.mem_of_getElem? (i := 371) (by decide +kernel))
theorem kv_lays2 : Cond.laysStatic Bundle.tN "SUPPRESSED_SENTINEL" Bundle.listD ∈ lw_tbl := List.mem_append_right _ (List.mem_of_getElem? (i := 373) (by decide +kernel))
theorem kv_decl0 : Cond.declares (Bundle.init0 "java/lang/RuntimeException") ∈ lw_tbl := List.mem_append_right _ (List.mem_of_getElem? (i := 347) (by decide +kernel))
theorem kv_decl1 : Cond.declares (Bundle.init0 "java/lang/Exception") ∈ lw_tbl := List.mem_append_right _ (List.mem_of_getElem? (i := 349) (by decide +kernel))
theorem kv_decl2 : Cond.declares (Bundle.init0 Bundle.tN) ∈ lw_tbl := List.mem_append_right _ (List.mem_of_getElem? (i := 351) (by decide +kernel))
theorem kv_aoS : Cond.arrayOver (.object "ModuleLoader$Symbol") ∈ lw_tbl := List.mem_append_right _ (List.mem_of_getElem? (i := 137) (by decide +kernel))
theorem kv_aoL : Cond.arrayOver (.object "ModuleLoader$LoadedModule") ∈ lw_tbl := List.mem_append_right _ (List.mem_of_getElem? (i := 152) (by decide +kernel))
theorem kv_nest_isName : Cond.methodLinkNest "ModuleLoader$ModuleFile" 87 ky_Loader_isName "ModuleLoader" ∈ lw_tbl := List.mem_append_right _ (List.mem_of_getElem? (i := 536) (by decide +kernel))
theorem kv_nest_isWordBelow : Cond.methodLinkNest "ModuleLoader$ModuleFile" 81 ky_Loader_isWordBelow "ModuleLoader" ∈ lw_tbl := List.mem_append_right _ (List.mem_of_getElem? (i := 527) (by decide +kernel))
theorem ll_N {args : Array Value} {s : State} (hts : ∀ w ∈ lw_tbl, w.before args s = true) : xx_N s := ⟨va_Nw.of rfl (hts _ kv_nest_isName), va_Nw.of rfl (hts _ kv_nest_isWordBelow)⟩
theorem ll_Z {args : Array Value} {s : State} (hts : ∀ w ∈ lw_tbl, w.before args s = true) (hg : (Jvm.Cond.and given_1 narrow_1).before args s = true) : xw_Z s := by
  have hs := flat_of_before _ hg
  have hi : (Cond.initialized Bundle.tN).before args s = true := hts _ (List.mem_filter.mp kw_10).1
  have r1 : (Cond.isRef (.static Bundle.tN "UNASSIGNED_STACK" Bundle.steD)).before args s = true := hs _ (by decide +kernel)
  have r2 : (Cond.isRef (.static Bundle.tN "SUPPRESSED_SENTINEL" Bundle.listD)).before args s = true := hs _ (by decide +kernel)
  have c1 : (Cond.not (.castable "java/lang/IllegalStateException" "java/lang/IndexOutOfBoundsException")).before args s = true := hs _ (by decide +kernel)
  have c2 : (Cond.not (.castable "java/lang/IllegalStateException" "java/lang/IllegalArgumentException")).before args s = true := hs _ (by decide +kernel)
  refine ⟨⟨va_Nw.of rfl hi, va_Nc.of c1, va_Nc.of c2⟩, ?_, ?_, va_AO.of (hts _ kv_aoS), va_AO.of (hts _ kv_aoL)⟩
  · intro w hw
    simp only [xw_zs, List.mem_cons, List.not_mem_nil, or_false] at hw
    rcases hw with rfl | rfl | rfl | rfl
    · exact xw_isRef (Vm.Alike.refl s.vm) (fun _ _ h _ => h) (hts _ kv_lays1) hi r1
    · exact xw_isRef (Vm.Alike.refl s.vm) (fun _ _ h _ => h) (hts _ kv_lays2) hi r2
    · exact xw_lays (Vm.Alike.refl s.vm) (fun _ _ h _ => h) (hts _ kv_lays1)
    · exact xw_lays (Vm.Alike.refl s.vm) (fun _ _ h _ => h) (hts _ kv_lays2)
  · intro x hx
    simp only [xw_ds, List.mem_cons, List.not_mem_nil, or_false] at hx
    rcases hx with rfl | rfl | rfl
    · exact va_Nw.of rfl (hts _ kv_decl0)
    · exact va_Nw.of rfl (hts _ kv_decl1)
    · exact va_Nw.of rfl (hts _ kv_decl2)
theorem ll_arr {args : Array Value} {s : State} {ty : FieldType} (h : (Cond.arrayClass ty).before args s = true) : ∃ cA : ClassId, ArrOfT s cA ty ∧ s.vm.findClass ("[" ++ ty.toString) = some cA := by
  obtain ⟨cA, k, comp, h1, h2, h3⟩ := Cond.arrayClass_spec h
  exact ⟨cA, fun N z => ⟨(fun k h => by cases h), k, h2, comp, h3⟩, h1⟩
theorem ll_arrO {s : State} {C : String} (h : va_AO C s) : ∃ cA : ClassId, ArrOfT s cA (.object C) ∧ va_RA s cA (.object C) := by
  obtain ⟨comp, cA, k, h1, h2, h3, h4, h5⟩ := Cond.arrayOver_spec h
  exact ⟨cA, fun N z => ⟨(fun k h => by cases h), k, h3, comp, h4⟩, k, comp, h3, h4, h1, h5⟩
theorem ll_known {args : Array Value} {s : State} (hts : ∀ w ∈ xx_tb, w.before args s = true) (hZ : xw_Z s) : ∃ (D : va_G) (t : Nat → ClassId), va_K D xx_cls (ll_T (D, (fun _ => 0), t)) s := by
  obtain ⟨c0, i0, h0⟩ := u_known hts ki_Model (hts _ kw_868)
  obtain ⟨c1, i1, h1⟩ := u_known hts ki_Loader (hts _ kw_22)
  obtain ⟨c2, i2, h2⟩ := u_known hts ki_Memory (hts _ kw_30)
  obtain ⟨c3, i3, h3⟩ := u_known hts ki_Machine (hts _ kw_45)
  obtain ⟨c4, i4, h4⟩ := u_known hts ki_Tape (hts _ kw_69)
  obtain ⟨c5, i5, h5⟩ := u_known hts ki_ModuleFile (hts _ kw_82)
  obtain ⟨c6, i6, h6⟩ := u_known hts ki_SymbolTable (hts _ kw_131)
  obtain ⟨c7, i7, h7⟩ := u_known hts ki_Symbol (hts _ kw_457)
  obtain ⟨c8, i8, h8⟩ := u_known hts ki_ModuleTable (hts _ kw_146)
  obtain ⟨c9, i9, h9⟩ := u_known hts ki_LoadedModule (hts _ kw_667)
  obtain ⟨c10, i10, h10⟩ := u_known hts ki_Report (hts _ kw_161)
  obtain ⟨t0, a0, b0⟩ := ll_arr (hts _ kw_42)
  obtain ⟨t1, a1, b1⟩ := ll_arr (hts _ kw_43)
  obtain ⟨t2, a2, b2⟩ := ll_arrO hZ.2.2.2.1
  obtain ⟨t3, a3, b3⟩ := ll_arrO hZ.2.2.2.2
  obtain ⟨t4, a4, b4⟩ := ll_arr (hts _ kw_1169)
  refine ⟨(fun k => [c0, c1, c2, c3, c4, c5, c6, c7, c8, c9, c10].getD k c0, fun k => [i0, i1, i2, i3, i4, i5, i6, i7, i8, i9, i10].getD k i0), fun k => [t0, t1, t2, t3, t4].getD k t0, ?_, ?_⟩
  · intro c q hq
    match c, hq with
    | 0, hq => cases hq; exact h0
    | 1, hq => cases hq; exact h1
    | 2, hq => cases hq; exact h2
    | 3, hq => cases hq; exact h3
    | 4, hq => cases hq; exact h4
    | 5, hq => cases hq; exact h5
    | 6, hq => cases hq; exact h6
    | 7, hq => cases hq; exact h7
    | 8, hq => cases hq; exact h8
    | 9, hq => cases hq; exact h9
    | 10, hq => cases hq; exact h10
    | n + 11, hq => simp [xx_cls] at hq
  · intro k q hq
    match k, hq with
    | 0, hq => cases hq; exact ⟨a0, b0⟩
    | 1, hq => cases hq; exact ⟨a1, b1⟩
    | 2, hq => cases hq; exact ⟨a2, b2⟩
    | 3, hq => cases hq; exact ⟨a3, b3⟩
    | 4, hq => cases hq; exact ⟨a4, b4⟩
    | n + 5, hq => simp [ll_T] at hq
section LJ
variable {p : Program} {l : Launch} {e : Env} {R : Room} {s : State} {m : MethodId} {args : Array Value} {below : List Frame} {meth : Method} {c : Code} {H : Heap} {locs : List Loc} {cells slots : Nat} {Q : State → Prop}
variable {cc : ByteArray} {nL pc index : Nat} {own : String} {rt : Option FieldType} {ls : Array Slot} {rest st0 : List Value} {A : Nat → Prop} {D : va_G} {tys : List (ClassId × FieldType)} {ws : va_W}
variable {S1 : Type} {Wd : S1 → va_W} {u u1 : S1}
theorem xw_callJ {y : MethodName} {bytes : ByteArray} {maxL : Nat} {rm : Room} {As : List Value} {n o : Nat} {Po : Option Value → S1 → Prop} (C : xx_C p s m args meth c cc nL own rt) (hAst : ∀ (q : Nat) (x : Cell), s.heap[q]? = some x → x.vm.isStatics = true → ¬ A q) (hZ : xw_Z s) (hM : xw_M l D tys Wd y bytes maxL none rm (.ref o :: As) u Po (fun _ _ => False))
    (hw : Cond.code y bytes maxL none ∈ xx_tb ∧ Cond.methodLink own index y ∈ xx_tb ∧ Cond.instanceMethod y ∈ xx_tb ∧ Cond.initialized y.cls ∈ xx_tb) (hy1 : y.name = "<init>") (hd : y.cls ≠ "java/lang/invoke/MethodHandle" ∧ y.cls ≠ "java/lang/invoke/VarHandle" ∧ (parseMethodDescriptor y.desc).map (fun d => d.parameters.length) = some n) (hn : As.length = n) (hR : rm.frames + 1 ≤ R.frames ∧ 8 + (maxL + 11) + rm.locals ≤ R.locals)
    (hl : ls.size = nL) (hst : st0 = As.reverse ++ .ref o :: rest) (hrs : (rest.map fun v => v.category).sum ≤ 8) (hA : ∀ q, s.heap.size ≤ q → A q) (hK : va_K D xx_cls tys s) (hP : va_P D xx_cls (Wd u) H) (hD : va_D A (Wd u)) (hS : va_S A s.heap H locs) (hf : cells + rm.cells ≤ R.cells ∧ slots + rm.slots ≤ R.slots) {cells1 slots1 : Nat} (hc1 : cells + rm.cells = cells1) (hs1 : slots + rm.slots = slots1) (hdg : decode cc pc = .ok (.invokespecial index, 3))
    (kk : ∀ (rv : Option Value) (u1 : S1) (H1 : Heap) (locs1 : List Loc), Po rv u1 → va_P D xx_cls (Wd u1) H1 → va_D A (Wd u1) → va_S A s.heap H1 locs1 → W p l e R s m args below meth c H1 locs1 cells1 slots1 Q (F0 m (pc + 3) ls (rv.toList ++ rest))) : W p l e R s m args below meth c H locs cells slots Q (F0 m pc ls st0) := by
  subst hc1
  subst hs1
  subst hn
  obtain ⟨hexec, hb, hml, hown, hts, -, -, hN⟩ := C
  have hy : y.cls ≠ "java/lang/invoke/MethodHandle" ∧ y.cls ≠ "java/lang/invoke/VarHandle" := ⟨hd.1, hd.2.1⟩
  intro T hT X
  have hpl : e.platform.magicAccessors = ({} : Platform).magicAccessors := by rw [X.admits.platform]
  have hlen : ∀ sig, parseMethodDescriptor y.desc = some sig → As.length = sig.parameters.length := fun sig h => by
    have h2 := hd.2.2
    rw [h] at h2
    exact (Option.some.inj h2).symm
  obtain ⟨mk, methM, cM, kP, vm₁, hnamed, hmethM, hcodeM, -, hlocalsM, -, hkP, -, hW₁, hstep₁⟩ := Steps.initColdArgs (e := e) X.here hexec X.warmed hpl hown hy1 hy (hts _ hw.2.1) (hts _ hw.2.2.1) (hts _ hw.1) (f := F0 m pc ls st0) rfl hlen hst (by rw [hb]; exact hdg)
  have X₁ := X.noted hW₁
  have hh1 : (T.setVm vm₁).heap = H := hT
  have hZ1 : xw_Z (T.setVm vm₁) := xw_Z.move X₁.warmed (fun q x hx hs => by rw [hh1, hS.2.1 q (Array.getElem?_eq_some_iff.mp hx).1 (hAst q x hx hs)]; exact hx) hZ
  obtain ⟨T', L, X', hL, hF, hcase⟩ := xw_run (A := A) (g := F0 m pc ls rest) (ig := .invokespecial index) X₁ hM hN hZ1 hts hw.1 hw.2.2.2 hR hf hK (by rw [hh1]; exact hP) hD rfl (hl.trans hml.symm) (by rw [hb]; exact hdg) (lv_room hrs) (X₁.named hnamed)
  rw [hh1] at hL hF hcase
  have hfree : ∀ q, va_A (Wd u) H.size q → A q := by
    rintro q (⟨k, e', h⟩ | h)
    · exact hD.2 k _ h
    · exact hA q (Nat.le_trans hS.1 h)
  have hS' : va_S A s.heap T'.heap (locs ++ L) := ⟨Nat.le_trans hS.1 hF.1, fun q h1 h2 => by rw [hF.2 q (Nat.lt_of_lt_of_le h1 hS.1) (fun z => h2 (hfree q z))]; exact hS.2.1 q h1 h2, fun q hq => by
    rcases List.mem_append.mp hq with h | h
    · exact hS.2.2 q h
    · exact hfree _ (hL q h)⟩
  rcases hcase with ⟨rv, u1, hPo, hP1, hD1, st⟩ | ⟨q, E, u1, ce, hPx, -⟩
  · obtain ⟨t2, a2, b2⟩ := kk rv u1 T'.heap (locs ++ L) hPo hP1 ⟨hD1.1, fun k q hq => hfree _ (hD1.2 k q hq)⟩ hS' T' rfl X'
    exact ⟨t2, hstep₁ _ fun acts => by rw [doInvoke_state]; exact st.trans a2, b2⟩
  · exact hPx.elim
end LJ
theorem ll_and (x : Int32) : ∃ j : Nat, j < 16 ∧ (x &&& 15).toInt = (j : Int) := by
  have h : (x &&& 15).toBitVec.toNat = x.toBitVec.toNat % 16 := by
    rw [Int32.toBitVec_and, BitVec.toNat_and]
    exact Nat.and_two_pow_sub_one_eq_mod _ 4
  refine ⟨x.toBitVec.toNat % 16, Nat.mod_lt _ (by decide), ?_⟩
  rw [← h]
  exact BitVec.toInt_eq_toNat_of_lt (by omega)
theorem ll_gt {k L : Nat} (hk : 5 * k ≤ L) (hL : L ≤ 2560) : (nI (5 * k) > Int32.ofNat L - 5) ↔ L < 5 * k + 5 := by
  have e : (Int32.ofNat L - 5).toInt = (L : Int) - 5 := by
    rw [Int32.toInt_sub, show (Int32.ofNat L).toInt = (L : Int) from nI_toInt (by omega), show (5 : Int32).toInt = 5 from by decide]
    exact Int.bmod_eq_of_le (by omega) (by omega)
  rw [gt_iff_lt, Int32.lt_iff_toInt_lt, e, nI_toInt (by omega)]
  omega
set_option maxHeartbeats 4000000 in
set_option maxRecDepth 100000 in
theorem ll_loop {p : Program} {l : Launch} {e : Env} {s : State} {m : MethodId} {b L : Nat} {xs : Nat → Int32} {below : List Frame} {meth : Method} {c : Code} {Q : State → Prop} {g : xx_G} {aq : Nat → Nat} {o : Nat} {A : Nat → Prop} {Rel : zz_S → qm_S → Prop} (hSim : ll_Sim Rel) (hl0 : l.stackTraces = false) (C : xx_C p s m #[Value.ref b] meth c code 7 kr_Law (some .boolean)) (hZ : xw_Z s) (hAst : ∀ (q : Nat) (x : Cell), s.heap[q]? = some x → x.vm.isStatics = true → ¬ A q) (hA : ∀ q, s.heap.size ≤ q → A q) (hK : va_K g.1 xx_cls (ll_T g) s) (hX : va_X b L xs s s.heap) (hbl : b < s.heap.size) (hbA : ¬ A b) (hL : L ≤ 2560) (hQ : ∀ (H : Heap) (locs : List Loc) (ls : Array Slot) (cs ss : Nat), cs ≤ 601024 → ss ≤ 7293034 → va_S A s.heap H locs → W p l e room_1 s m #[Value.ref b] below meth c H locs cs ss Q (F0 m 756 ls [])) : ∀ (n k : Nat) (v : ll_S) (H : Heap) (locs : List Loc) (ls : Array Slot) (cs ss : Nat), L < 5 * (k + n) + 5 → 5 * k ≤ L → cs ≤ 30 + 11 * k → ss ≤ 8205 + 56 * k → Rel v.1 v.2.1 → lv_has ls 7 [(0, .ref b), (1, .ref (g.2.1 0)), (2, .ref (aq 0)), (3, .ref o), (4, .int (nI (5 * k)))] → va_P g.1 xx_cls (ll_W g aq o v) H → va_D A (ll_W g aq o v) → va_S A s.heap H locs → W p l e room_1 s m #[Value.ref b] below meth c H locs cs ss Q (F0 m 23 ls []) := by
  have hx := C.1
  have hb := C.2.1
  intro n
  induction n with
  | zero =>
    intro k v H locs ls cs ss hn hkL hcs hss hR hl hP hD hS
    refine W.widen hcs hss ?_
    refine lv_iload hx hb ld_law_23 (lv_at hl 4 rfl) ?_
    refine lv_aload_n hx hb ld_law_25 rfl (lv_at hl 0 rfl) ?_
    refine va_slen hx hb hX hbl hbA hS ld_law_26 ?_
    refine lv_iconst (v := (5 : Int32)) hx hb ld_law_27 (by decide) ?_
    refine lv_isub hx hb ld_law_28 ?_
    refine lv_icmp_gt (tgt := 756) hx hb ld_law_29 (by decide) (fun _ => hQ _ _ _ _ _ (by omega) (by omega) hS) (fun hc => ?_)
    have hk : 5 * k + 5 ≤ L := Nat.not_lt.mp (fun h => hc ((ll_gt hkL hL).mpr h))
    omega
  | succ n ih =>
    intro k v H locs ls cs ss hn hkL hcs hss hR hl hP hD hS
    refine W.widen hcs hss ?_
    refine lv_iload hx hb ld_law_23 (lv_at hl 4 rfl) ?_
    refine lv_aload_n hx hb ld_law_25 rfl (lv_at hl 0 rfl) ?_
    refine va_slen hx hb hX hbl hbA hS ld_law_26 ?_
    refine lv_iconst (v := (5 : Int32)) hx hb ld_law_27 (by decide) ?_
    refine lv_isub hx hb ld_law_28 ?_
    refine lv_icmp_gt (tgt := 756) hx hb ld_law_29 (by decide) (fun _ => hQ _ _ _ _ _ (by omega) (by omega) hS) (fun hc => ?_)
    have hk : 5 * k + 5 ≤ L := Nat.not_lt.mp (fun h => hc ((ll_gt hkL hL).mpr h))
    have hend : ∀ (v1 : ll_S) (H : Heap) (locs : List Loc) (ls : Array Slot) (cs ss : Nat), cs ≤ 30 + 11 * (k + 1) → ss ≤ 8205 + 56 * (k + 1) → Rel v1.1 v1.2.1 → lv_has ls 7 [(0, .ref b), (1, .ref (g.2.1 0)), (2, .ref (aq 0)), (3, .ref o), (4, .int (nI (5 * k)))] → va_P g.1 xx_cls (ll_W g aq o v1) H → va_D A (ll_W g aq o v1) → va_S A s.heap H locs → W p l e room_1 s m #[Value.ref b] below meth c H locs cs ss Q (F0 m 750 ls []) := by
      intro v1 H locs ls cs ss h1 h2 h3 h4 h5 h6 h7
      refine lv_iinc (k := 4) (v := nI (5 * (k + 1))) hx hb ld_law_750 h4 rfl (by rw [show Int32.ofInt 5 = nI 5 from rfl, nI_add]; exact congrArg nI (by omega)) (by decide) rfl (fun ls hl => ?_)
      refine lv_goto (tgt := 23) hx hb ld_law_753 (by decide) ?_
      exact ih (k + 1) v1 H locs ls cs ss (by omega) (by omega) h1 h2 h3 (lv_sub hl [1, 2, 3, 4, 0] rfl) h5 h6 h7
    refine lv_aload_n hx hb ld_law_32 rfl (lv_at hl 0 rfl) ?_
    refine lv_iload hx hb ld_law_33 (lv_at hl 4 rfl) ?_
    refine ll_sld (n := 5 * k) hx hb hX hbl hbA hS rfl (by omega) hL ld_law_35 ?_
    refine lv_bipush (v := (15 : Int32)) hx hb ld_law_36 (by decide) ?_
    refine lv_iand hx hb ld_law_38 ?_
    obtain ⟨j, hj, hje⟩ := ll_and (xs (5 * k))
    match j, hj, hje with
    | 0, _, e => exact lv_tableIn (off := 77) (tgt := 116) hx hb ld_law_39 (by rw [e]; decide) (by rw [e]; decide) (by rw [e]; rfl) (by decide) (ll_case_poke hSim hl0 C hZ hAst hA hK hX hbl hbA hL hk hR hl hP hD hS hend)
    | 1, _, e => exact lv_tableIn (off := 125) (tgt := 164) hx hb ld_law_39 (by rw [e]; decide) (by rw [e]; decide) (by rw [e]; rfl) (by decide) (ll_case_seal hSim hl0 C hZ hAst hA hK hX hbl hbA hL hk hR hl hP hD hS hend)
    | 2, _, e => exact lv_tableIn (off := 138) (tgt := 177) hx hb ld_law_39 (by rw [e]; decide) (by rw [e]; decide) (by rw [e]; rfl) (by decide) (ll_case_symbol hSim hl0 C hZ hAst hA hK hX hbl hbA hL hk hR hl hP hD hS hend)
    | 3, _, e => exact lv_tableIn (off := 198) (tgt := 237) hx hb ld_law_39 (by rw [e]; decide) (by rw [e]; decide) (by rw [e]; rfl) (by decide) (ll_case_feed hSim hl0 C hZ hAst hA hK hX hbl hbA hL hk hR hl hP hD hS hend)
    | 4, _, e => exact lv_tableIn (off := 223) (tgt := 262) hx hb ld_law_39 (by rw [e]; decide) (by rw [e]; decide) (by rw [e]; rfl) (by decide) (ll_case_feedByte hSim hl0 C hZ hAst hA hK hX hbl hbA hL hk hR hl hP hD hS hend)
    | 5, _, e => exact lv_tableIn (off := 248) (tgt := 287) hx hb ld_law_39 (by rw [e]; decide) (by rw [e]; decide) (by rw [e]; rfl) (by decide) (ll_case_load hSim hl0 C hZ hAst hA hK hX hbl hbA hL hk hR hl hP hD hS hend)
    | 6, _, e => exact lv_tableIn (off := 316) (tgt := 355) hx hb ld_law_39 (by rw [e]; decide) (by rw [e]; decide) (by rw [e]; rfl) (by decide) (ll_case_fault hSim hl0 C hZ hAst hA hK hX hbl hbA hL hk hR hl hP hD hS hend)
    | 7, _, e => exact lv_tableIn (off := 341) (tgt := 380) hx hb ld_law_39 (by rw [e]; decide) (by rw [e]; decide) (by rw [e]; rfl) (by decide) (ll_case_unload hSim hl0 C hZ hAst hA hK hX hbl hbA hL hk hR hl hP hD hS hend)
    | 8, _, e => exact lv_tableIn (off := 389) (tgt := 428) hx hb ld_law_39 (by rw [e]; decide) (by rw [e]; decide) (by rw [e]; rfl) (by decide) (ll_case_call hSim hl0 C hZ hAst hA hK hX hbl hbA hL hk hR hl hP hD hS hend)
    | 9, _, e => exact lv_tableIn (off := 481) (tgt := 520) hx hb ld_law_39 (by rw [e]; decide) (by rw [e]; decide) (by rw [e]; rfl) (by decide) (ll_case_peek hSim hl0 C hZ hAst hA hK hX hbl hbA hL hk hR hl hP hD hS hend)
    | 10, _, e => exact lv_tableIn (off := 537) (tgt := 576) hx hb ld_law_39 (by rw [e]; decide) (by rw [e]; decide) (by rw [e]; rfl) (by decide) (ll_case_isProtected hSim hl0 C hZ hAst hA hK hX hbl hbA hL hk hR hl hP hD hS hend)
    | 11, _, e => exact lv_tableIn (off := 562) (tgt := 601) hx hb ld_law_39 (by rw [e]; decide) (by rw [e]; decide) (by rw [e]; rfl) (by decide) (ll_case_register hSim hl0 C hZ hAst hA hK hX hbl hbA hL hk hR hl hP hD hS hend)
    | 12, _, e => exact lv_tableIn (off := 587) (tgt := 626) hx hb ld_law_39 (by rw [e]; decide) (by rw [e]; decide) (by rw [e]; rfl) (by decide) (ll_case_lookup hSim hl0 C hZ hAst hA hK hX hbl hbA hL hk hR hl hP hD hS hend)
    | 13, _, e => exact lv_tableIn (off := 624) (tgt := 663) hx hb ld_law_39 (by rw [e]; decide) (by rw [e]; decide) (by rw [e]; rfl) (by decide) (ll_case_module hSim hl0 C hZ hAst hA hK hX hbl hbA hL hk hR hl hP hD hS hend)
    | 14, _, e => exact lv_tableIn (off := 661) (tgt := 700) hx hb ld_law_39 (by rw [e]; decide) (by rw [e]; decide) (by rw [e]; rfl) (by decide) (ll_case_count hSim hl0 C hZ hAst hA hK hX hbl hbA hL hk hR hl hP hD hS hend)
    | 15, _, e => exact lv_tableIn (off := 686) (tgt := 725) hx hb ld_law_39 (by rw [e]; decide) (by rw [e]; decide) (by rw [e]; rfl) (by decide) (ll_case_at hSim hl0 C hZ hAst hA hK hX hbl hbA hL hk hR hl hP hD hS hend)
    | q + 16, hq, _ => exact absurd hq (by omega)
