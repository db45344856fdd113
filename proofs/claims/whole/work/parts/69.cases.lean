theorem ll_cmp (x : Int64) : lg_cmp x x = 0 := by
  have h : ¬ x < x := fun h => by have := Int64.lt_iff_toInt_lt.mp h; omega
  simp [lg_cmp, h]
theorem ll_sld {p : Program} {l : Launch} {e : Env} {R : Room} {s : State} {m : MethodId} {args : Array Value} {below : List Frame} {meth : Method} {c : Code} {H : Heap} {locs : List Loc} {cells slots : Nat} {Q : State → Prop} {cc : ByteArray} {pc : Nat} {ls : Array Slot} {rest : List Value} {A : Nat → Prop} (hexec : p.tables.exec = Jvm.exec) (hb : c.code = cc) {b L n : Nat} {xs : Nat → Int32} (hX : va_X b L xs s s.heap) (hbl : b < s.heap.size) (hbA : ¬ A b) (hS : va_S A s.heap H locs) {i : Int32} (hi : i = nI n) (hn : n < L) (hL : L ≤ 2560) (hdg : decode cc pc = .ok (.iaload, 1))
    (kk : W p l e R s m args below meth c H locs cells slots Q (F0 m (pc + 1) ls (.int (xs n) :: rest))) : W p l e R s m args below meth c H locs cells slots Q (F0 m pc ls (.int i :: .ref b :: rest)) := by
  subst hi
  refine va_sld hexec hb hX hbl hbA hS (vp_in_nI hn (by omega)) hdg ?_
  rw [nI_clamp (by omega)]
  exact kk
set_option maxRecDepth 100000 in
theorem kw_cw_poke : Cond.codeWith ky_Law_poke kb_Law_poke 4 (some .int) [(0, 6, 9, 13), (0, 6, 12, 15)] ∈ xx_tb := xx_in (List.mem_append_right _ (List.mem_of_getElem? (i := 334) (by rfl))) (by decide +kernel)
theorem kw_332 : Cond.methodLink "ModuleLoaderLaw" 42 ky_Law_poke ∈ xx_tb := xx_in (List.mem_append_right _ (List.mem_of_getElem? (i := 332) (by decide +kernel))) (by decide +kernel)
theorem kw_333 : Cond.static ky_Law_poke ∈ xx_tb := xx_in (List.mem_append_right _ (List.mem_of_getElem? (i := 333) (by decide +kernel))) (by decide +kernel)
theorem kw_0 : Cond.initialized "ModuleLoaderLaw" ∈ xx_tb := xx_in (List.mem_append_right _ (List.mem_of_getElem? (i := 0) (by decide +kernel))) (by decide +kernel)
set_option maxRecDepth 100000 in
theorem kw_982 : Cond.code ky_Model_poke kb_Model_poke 3 none ∈ xx_tb := xx_in (List.mem_append_right _ (List.mem_of_getElem? (i := 982) (by rfl))) (by decide +kernel)
theorem kw_979 : Cond.methodLink "ModuleLoaderLaw" 47 ky_Model_poke ∈ xx_tb := xx_in (List.mem_append_right _ (List.mem_of_getElem? (i := 979) (by decide +kernel))) (by decide +kernel)
theorem kw_980 : Cond.instanceMethod ky_Model_poke ∈ xx_tb := xx_in (List.mem_append_right _ (List.mem_of_getElem? (i := 980) (by decide +kernel))) (by decide +kernel)
theorem kw_981 : Cond.selects "ModuleLoaderModel" ky_Model_poke ky_Model_poke ∈ xx_tb := xx_in (List.mem_append_right _ (List.mem_of_getElem? (i := 981) (by decide +kernel))) (by decide +kernel)
set_option maxRecDepth 100000 in
theorem kw_970 : Cond.code ky_Model_thrown kb_Model_thrown 1 (some .int) ∈ xx_tb := xx_in (List.mem_append_right _ (List.mem_of_getElem? (i := 970) (by rfl))) (by decide +kernel)
theorem kw_967 : Cond.methodLink "ModuleLoaderLaw" 48 ky_Model_thrown ∈ xx_tb := xx_in (List.mem_append_right _ (List.mem_of_getElem? (i := 967) (by decide +kernel))) (by decide +kernel)
theorem kw_968 : Cond.instanceMethod ky_Model_thrown ∈ xx_tb := xx_in (List.mem_append_right _ (List.mem_of_getElem? (i := 968) (by decide +kernel))) (by decide +kernel)
theorem kw_969 : Cond.selects "ModuleLoaderModel" ky_Model_thrown ky_Model_thrown ∈ xx_tb := xx_in (List.mem_append_right _ (List.mem_of_getElem? (i := 969) (by decide +kernel))) (by decide +kernel)
set_option maxHeartbeats 4000000 in
set_option maxRecDepth 100000 in
theorem ll_case_poke {p : Program} {l : Launch} {e : Env} {s : State} {m : MethodId} {b L : Nat} {xs : Nat → Int32} {below : List Frame} {meth : Method} {c : Code} {Q : State → Prop} {g : xx_G} {aq : Nat → Nat} {o : Nat} {A : Nat → Prop} {k : Nat} {v : ll_S} {H : Heap} {locs : List Loc} {ls : Array Slot} {Rel : zz_S → qm_S → Prop} (hSim : ll_Sim Rel) (hl0 : l.stackTraces = false) (C : xx_C p s m #[Value.ref b] meth c code 7 kr_Law (some .boolean)) (hZ : xw_Z s) (hAst : ∀ (q : Nat) (x : Cell), s.heap[q]? = some x → x.vm.isStatics = true → ¬ A q) (hA : ∀ q, s.heap.size ≤ q → A q) (hK : va_K g.1 xx_cls (ll_T g) s) (hX : va_X b L xs s s.heap) (hbl : b < s.heap.size) (hbA : ¬ A b) (hL : L ≤ 2560) (hk : 5 * k + 5 ≤ L) (hR : Rel v.1 v.2.1) (hl : lv_has ls 7 [(0, .ref b), (1, .ref (g.2.1 0)), (2, .ref (aq 0)), (3, .ref o), (4, .int (nI (5 * k)))]) (hP : va_P g.1 xx_cls (ll_W g aq o v) H) (hD : va_D A (ll_W g aq o v)) (hS : va_S A s.heap H locs) (hend : ∀ (v1 : ll_S) (H : Heap) (locs : List Loc) (ls : Array Slot) (cs ss : Nat), cs ≤ 30 + 11 * (k + 1) → ss ≤ 8205 + 56 * (k + 1) → Rel v1.1 v1.2.1 → lv_has ls 7 [(0, .ref b), (1, .ref (g.2.1 0)), (2, .ref (aq 0)), (3, .ref o), (4, .int (nI (5 * k)))] → va_P g.1 xx_cls (ll_W g aq o v1) H → va_D A (ll_W g aq o v1) → va_S A s.heap H locs → W p l e room_1 s m #[Value.ref b] below meth c H locs cs ss Q (F0 m 750 ls [])) : W p l e room_1 s m #[Value.ref b] below meth c H locs (30 + 11 * k) (8205 + 56 * k) Q (F0 m 116 ls []) := by
  have hx := C.1
  have hb := C.2.1
  have hown := C.2.2.2.1
  have hts := C.2.2.2.2.1
  obtain ⟨w1, kk, w2, e1, e2, hF⟩ := hSim.2.2.2.2.2.2.2.2.2.2.2.1 v.1 v.2.1 (xs (5 * k + 1)) (xs (5 * k + 2)) hR
  refine lv_aload_n hx hb ld_law_116 rfl (lv_at hl 1 rfl) ?_
  refine lv_aload_n hx hb ld_law_117 rfl (lv_at hl 0 rfl) ?_
  refine lv_iload hx hb ld_law_118 (lv_at hl 4 rfl) ?_
  refine lv_iconst (v := (1 : Int32)) hx hb ld_law_120 (by decide) ?_
  refine lv_iadd hx hb ld_law_121 ?_
  refine ll_sld (n := 5 * k + 1) hx hb hX hbl hbA hS (by rw [show (1 : Int32) = nI 1 from rfl, nI_add]) (by omega) hL ld_law_122 ?_
  refine lv_aload_n hx hb ld_law_123 rfl (lv_at hl 0 rfl) ?_
  refine lv_iload hx hb ld_law_124 (lv_at hl 4 rfl) ?_
  refine lv_iconst (v := (2 : Int32)) hx hb ld_law_126 (by decide) ?_
  refine lv_iadd hx hb ld_law_127 ?_
  refine ll_sld (n := 5 * k + 2) hx hb hX hbl hbA hS (by rw [show (2 : Int32) = nI 2 from rfl, nI_add]) (by omega) hL ld_law_128 ?_
  have hM := lc_poke l hl0 g aq o v (xs (5 * k + 1)) (xs (5 * k + 2)) (fun rv w => rv = some (.int kk) ∧ Rel w.1 w2 ∧ w.2 = v.2) (hF _ _ (fun u1 h0 hr => ⟨rfl, by rw [h0], hr, rfl⟩) (fun u1 h0 hr => Or.inl ⟨rfl, by rw [h0], hr, rfl⟩) (fun u1 h0 hr => Or.inr ⟨rfl, by rw [h0], hr, rfl⟩))
  refine xl_callS (n := 3) (As := [.ref (g.2.1 0), .int (xs (5 * k + 1)), .int (xs (5 * k + 2))]) (rest := []) C hZ hAst hM ⟨kw_cw_poke, kw_332, kw_333, kw_0⟩ ⟨by decide +kernel, by decide +kernel, by decide +kernel⟩ rfl ⟨Nat.le_of_ble_eq_true rfl, Nat.le_of_ble_eq_true rfl⟩ hl.1 rfl (Nat.le_of_ble_eq_true rfl) hA hK hP hD hS ⟨by show 30 + 11 * k + 1 ≤ 601024; omega, by show 8205 + 56 * k + 6 ≤ 7293034; omega⟩ ld_law_129 (fun rv w H locs hPo hP2 hD2 hS2 => ?_)
  obtain ⟨rfl, hR1, hw2⟩ := hPo
  have e1 := e1
  obtain ⟨wz, wq, wo⟩ := w
  obtain ⟨vz, vq, vo⟩ := v
  cases hw2
  have hP := hP2
  have hD := hD2
  have hS := hS2
  refine W.widen (k := (30 + 11 * k + 1)) (n := (8205 + 56 * k + 6)) (Nat.le_refl _) (Nat.le_refl _) ?_
  refine lv_istore hx hb ld_law_132 hl (by decide) rfl (fun ls hl => ?_)
  refine lv_aload_n hx hb ld_law_134 rfl (lv_at hl 3 rfl) ?_
  refine lv_aload_n hx hb ld_law_135 rfl (lv_at hl 1 rfl) ?_
  refine lv_iload hx hb ld_law_136 (lv_at hl 5 rfl) ?_
  refine lv_iconst (v := (1 : Int32)) hx hb ld_law_138 (by decide) ?_
  refine lv_iadd hx hb ld_law_139 ?_
  refine ll_sld (n := 5 * k + 1) hx hb hX hbl hbA hS (by rw [show (1 : Int32) = nI 1 from rfl, nI_add]) (by omega) hL ld_law_140 ?_
  refine lv_aload_n hx hb ld_law_141 rfl (lv_at hl 1 rfl) ?_
  refine lv_iload hx hb ld_law_142 (lv_at hl 5 rfl) ?_
  refine lv_iconst (v := (2 : Int32)) hx hb ld_law_144 (by decide) ?_
  refine lv_iadd hx hb ld_law_145 ?_
  refine ll_sld (n := 5 * k + 2) hx hb hX hbl hbA hS (by rw [show (2 : Int32) = nI 2 from rfl, nI_add]) (by omega) hL ld_law_146 ?_
  refine xx_callV (cells1 := (30 + 11 * k + 1)) (slots1 := (8205 + 56 * k + 6)) (n := 2) (As := [.int (xs (5 * k + 1)), .int (xs (5 * k + 2))]) (rest := []) C (ll_mq (v := (wz, wq, wo)) (qc_Model_poke l (ll_q g aq) (wz, wq, wo).2.1 (xs (5 * k + 1)) (xs (5 * k + 2)) w1 e1)) ⟨kw_982, kw_979, kw_980, kw_981, kw_9⟩ ⟨by decide +kernel, by decide +kernel, by decide +kernel⟩ rfl ⟨Nat.le_of_ble_eq_true rfl, Nat.le_of_ble_eq_true rfl⟩ 0 rfl rfl hl.1 rfl (Nat.le_of_ble_eq_true rfl) hA hK hP hD hS ⟨by show 30 + 11 * k + 1 + 0 ≤ 601024; omega, by show 8205 + 56 * k + 6 + 0 ≤ 7293034; omega⟩ rfl rfl rfl ld_law_147 (fun H locs hP hD hS => ?_)
  refine lv_aload_n hx hb ld_law_150 rfl (lv_at hl 3 rfl) ?_
  refine xx_callV (cells1 := (30 + 11 * k + 1)) (slots1 := (8205 + 56 * k + 6)) (n := 0) (As := []) (rest := []) C (ll_mq (v := ((wz, wq, wo).1, w1, (wz, wq, wo).2.2)) (qc_Model_thrown l (ll_q g aq) ((wz, wq, wo).1, w1, (wz, wq, wo).2.2).2.1 kk w2 e2)) ⟨kw_970, kw_967, kw_968, kw_969, kw_9⟩ ⟨by decide +kernel, by decide +kernel, by decide +kernel⟩ rfl ⟨Nat.le_of_ble_eq_true rfl, Nat.le_of_ble_eq_true rfl⟩ 0 rfl rfl hl.1 rfl (Nat.le_of_ble_eq_true rfl) hA hK hP hD hS ⟨by show 30 + 11 * k + 1 + 0 ≤ 601024; omega, by show 8205 + 56 * k + 6 + 0 ≤ 7293034; omega⟩ rfl rfl rfl ld_law_151 (fun H locs hP hD hS => ?_)
  refine lv_iload hx hb ld_law_154 (lv_at hl 0 rfl) ?_
  refine lv_icmp_eq (tgt := 161) hx hb ld_law_156 (by decide) (fun _ => ?_) (fun hc => absurd rfl hc)
  refine lv_goto (tgt := 750) hx hb ld_law_161 (by decide) ?_
  exact hend (((wz, wq, wo).1, w1, (wz, wq, wo).2.2).1, w2, ((wz, wq, wo).1, w1, (wz, wq, wo).2.2).2.2) _ _ _ _ _ (by show 30 + 11 * k + 1 ≤ 30 + 11 * (k + 1); omega) (by show 8205 + 56 * k + 6 ≤ 8205 + 56 * (k + 1); omega) hR1 (lv_sub hl [1, 2, 3, 4, 5] rfl) hP hD hS
set_option maxRecDepth 100000 in
theorem kw_215 : Cond.code ky_Loader_seal kb_Loader_seal 1 (some .boolean) ∈ xx_tb := xx_in (List.mem_append_right _ (List.mem_of_getElem? (i := 215) (by rfl))) (by decide +kernel)
theorem kw_212 : Cond.methodLink "ModuleLoaderLaw" 52 ky_Loader_seal ∈ xx_tb := xx_in (List.mem_append_right _ (List.mem_of_getElem? (i := 212) (by decide +kernel))) (by decide +kernel)
theorem kw_213 : Cond.instanceMethod ky_Loader_seal ∈ xx_tb := xx_in (List.mem_append_right _ (List.mem_of_getElem? (i := 213) (by decide +kernel))) (by decide +kernel)
theorem kw_214 : Cond.selects "ModuleLoader" ky_Loader_seal ky_Loader_seal ∈ xx_tb := xx_in (List.mem_append_right _ (List.mem_of_getElem? (i := 214) (by decide +kernel))) (by decide +kernel)
set_option maxRecDepth 100000 in
theorem kw_1001 : Cond.code ky_Model_seal kb_Model_seal 2 (some .boolean) ∈ xx_tb := xx_in (List.mem_append_right _ (List.mem_of_getElem? (i := 1001) (by rfl))) (by decide +kernel)
theorem kw_998 : Cond.methodLink "ModuleLoaderLaw" 56 ky_Model_seal ∈ xx_tb := xx_in (List.mem_append_right _ (List.mem_of_getElem? (i := 998) (by decide +kernel))) (by decide +kernel)
theorem kw_999 : Cond.instanceMethod ky_Model_seal ∈ xx_tb := xx_in (List.mem_append_right _ (List.mem_of_getElem? (i := 999) (by decide +kernel))) (by decide +kernel)
theorem kw_1000 : Cond.selects "ModuleLoaderModel" ky_Model_seal ky_Model_seal ∈ xx_tb := xx_in (List.mem_append_right _ (List.mem_of_getElem? (i := 1000) (by decide +kernel))) (by decide +kernel)
set_option maxHeartbeats 4000000 in
set_option maxRecDepth 100000 in
theorem ll_case_seal {p : Program} {l : Launch} {e : Env} {s : State} {m : MethodId} {b L : Nat} {xs : Nat → Int32} {below : List Frame} {meth : Method} {c : Code} {Q : State → Prop} {g : xx_G} {aq : Nat → Nat} {o : Nat} {A : Nat → Prop} {k : Nat} {v : ll_S} {H : Heap} {locs : List Loc} {ls : Array Slot} {Rel : zz_S → qm_S → Prop} (hSim : ll_Sim Rel) (hl0 : l.stackTraces = false) (C : xx_C p s m #[Value.ref b] meth c code 7 kr_Law (some .boolean)) (hZ : xw_Z s) (hAst : ∀ (q : Nat) (x : Cell), s.heap[q]? = some x → x.vm.isStatics = true → ¬ A q) (hA : ∀ q, s.heap.size ≤ q → A q) (hK : va_K g.1 xx_cls (ll_T g) s) (hX : va_X b L xs s s.heap) (hbl : b < s.heap.size) (hbA : ¬ A b) (hL : L ≤ 2560) (hk : 5 * k + 5 ≤ L) (hR : Rel v.1 v.2.1) (hl : lv_has ls 7 [(0, .ref b), (1, .ref (g.2.1 0)), (2, .ref (aq 0)), (3, .ref o), (4, .int (nI (5 * k)))]) (hP : va_P g.1 xx_cls (ll_W g aq o v) H) (hD : va_D A (ll_W g aq o v)) (hS : va_S A s.heap H locs) (hend : ∀ (v1 : ll_S) (H : Heap) (locs : List Loc) (ls : Array Slot) (cs ss : Nat), cs ≤ 30 + 11 * (k + 1) → ss ≤ 8205 + 56 * (k + 1) → Rel v1.1 v1.2.1 → lv_has ls 7 [(0, .ref b), (1, .ref (g.2.1 0)), (2, .ref (aq 0)), (3, .ref o), (4, .int (nI (5 * k)))] → va_P g.1 xx_cls (ll_W g aq o v1) H → va_D A (ll_W g aq o v1) → va_S A s.heap H locs → W p l e room_1 s m #[Value.ref b] below meth c H locs cs ss Q (F0 m 750 ls [])) : W p l e room_1 s m #[Value.ref b] below meth c H locs (30 + 11 * k) (8205 + 56 * k) Q (F0 m 164 ls []) := by
  have hx := C.1
  have hb := C.2.1
  have hown := C.2.2.2.1
  have hts := C.2.2.2.2.1
  obtain ⟨r, u1, w1, e1, e2, hR1⟩ := hSim.2.1 v.1 v.2.1 hR
  refine lv_aload_n hx hb ld_law_164 rfl (lv_at hl 1 rfl) ?_
  refine xx_callV (cells1 := (30 + 11 * k)) (slots1 := (8205 + 56 * k)) (n := 0) (As := []) (rest := []) C (ll_mz (v := v) (zc_Loader_seal l g v.1 r u1 e1)) ⟨kw_215, kw_212, kw_213, kw_214, kw_1⟩ ⟨by decide +kernel, by decide +kernel, by decide +kernel⟩ rfl ⟨Nat.le_of_ble_eq_true rfl, Nat.le_of_ble_eq_true rfl⟩ 16 rfl rfl hl.1 rfl (Nat.le_of_ble_eq_true rfl) hA hK hP hD hS ⟨by show 30 + 11 * k + 0 ≤ 601024; omega, by show 8205 + 56 * k + 0 ≤ 7293034; omega⟩ rfl rfl rfl ld_law_165 (fun H locs hP hD hS => ?_)
  refine lv_aload_n hx hb ld_law_168 rfl (lv_at hl 2 rfl) ?_
  refine xx_callV (cells1 := (30 + 11 * k)) (slots1 := (8205 + 56 * k)) (n := 0) (As := []) (rest := [.int r]) C (ll_mq (v := (u1, v.2)) (qc_Model_seal l (ll_q g aq) (u1, v.2).2.1 r w1 e2)) ⟨kw_1001, kw_998, kw_999, kw_1000, kw_9⟩ ⟨by decide +kernel, by decide +kernel, by decide +kernel⟩ rfl ⟨Nat.le_of_ble_eq_true rfl, Nat.le_of_ble_eq_true rfl⟩ 0 rfl rfl hl.1 rfl (Nat.le_of_ble_eq_true rfl) hA hK hP hD hS ⟨by show 30 + 11 * k + 0 + 0 ≤ 601024; omega, by show 8205 + 56 * k + 0 + 0 ≤ 7293034; omega⟩ rfl rfl rfl ld_law_169 (fun H locs hP hD hS => ?_)
  refine lv_icmp_eq (tgt := 750) hx hb ld_law_172 (by decide) (fun _ => ?_) (fun hc => absurd rfl hc)
  exact hend ((u1, v.2).1, w1, (u1, v.2).2.2) _ _ _ _ _ (by show 30 + 11 * k + 0 ≤ 30 + 11 * (k + 1); omega) (by show 8205 + 56 * k + 0 ≤ 8205 + 56 * (k + 1); omega) hR1 (lv_sub hl [0, 1, 2, 3, 4] rfl) hP hD hS
set_option maxRecDepth 100000 in
theorem kw_cw_symbol : Cond.codeWith ky_Law_symbol kb_Law_symbol 5 (some .int) [(0, 7, 10, 21), (0, 7, 14, 15)] ∈ xx_tb := xx_in (List.mem_append_right _ (List.mem_of_getElem? (i := 428) (by rfl))) (by decide +kernel)
theorem kw_426 : Cond.methodLink "ModuleLoaderLaw" 57 ky_Law_symbol ∈ xx_tb := xx_in (List.mem_append_right _ (List.mem_of_getElem? (i := 426) (by decide +kernel))) (by decide +kernel)
theorem kw_427 : Cond.static ky_Law_symbol ∈ xx_tb := xx_in (List.mem_append_right _ (List.mem_of_getElem? (i := 427) (by decide +kernel))) (by decide +kernel)
set_option maxRecDepth 100000 in
theorem kw_1005 : Cond.code ky_Model_symbol kb_Model_symbol 4 none ∈ xx_tb := xx_in (List.mem_append_right _ (List.mem_of_getElem? (i := 1005) (by rfl))) (by decide +kernel)
theorem kw_1002 : Cond.methodLink "ModuleLoaderLaw" 60 ky_Model_symbol ∈ xx_tb := xx_in (List.mem_append_right _ (List.mem_of_getElem? (i := 1002) (by decide +kernel))) (by decide +kernel)
theorem kw_1003 : Cond.instanceMethod ky_Model_symbol ∈ xx_tb := xx_in (List.mem_append_right _ (List.mem_of_getElem? (i := 1003) (by decide +kernel))) (by decide +kernel)
theorem kw_1004 : Cond.selects "ModuleLoaderModel" ky_Model_symbol ky_Model_symbol ∈ xx_tb := xx_in (List.mem_append_right _ (List.mem_of_getElem? (i := 1004) (by decide +kernel))) (by decide +kernel)
set_option maxHeartbeats 4000000 in
set_option maxRecDepth 100000 in
theorem ll_case_symbol {p : Program} {l : Launch} {e : Env} {s : State} {m : MethodId} {b L : Nat} {xs : Nat → Int32} {below : List Frame} {meth : Method} {c : Code} {Q : State → Prop} {g : xx_G} {aq : Nat → Nat} {o : Nat} {A : Nat → Prop} {k : Nat} {v : ll_S} {H : Heap} {locs : List Loc} {ls : Array Slot} {Rel : zz_S → qm_S → Prop} (hSim : ll_Sim Rel) (hl0 : l.stackTraces = false) (C : xx_C p s m #[Value.ref b] meth c code 7 kr_Law (some .boolean)) (hZ : xw_Z s) (hAst : ∀ (q : Nat) (x : Cell), s.heap[q]? = some x → x.vm.isStatics = true → ¬ A q) (hA : ∀ q, s.heap.size ≤ q → A q) (hK : va_K g.1 xx_cls (ll_T g) s) (hX : va_X b L xs s s.heap) (hbl : b < s.heap.size) (hbA : ¬ A b) (hL : L ≤ 2560) (hk : 5 * k + 5 ≤ L) (hR : Rel v.1 v.2.1) (hl : lv_has ls 7 [(0, .ref b), (1, .ref (g.2.1 0)), (2, .ref (aq 0)), (3, .ref o), (4, .int (nI (5 * k)))]) (hP : va_P g.1 xx_cls (ll_W g aq o v) H) (hD : va_D A (ll_W g aq o v)) (hS : va_S A s.heap H locs) (hend : ∀ (v1 : ll_S) (H : Heap) (locs : List Loc) (ls : Array Slot) (cs ss : Nat), cs ≤ 30 + 11 * (k + 1) → ss ≤ 8205 + 56 * (k + 1) → Rel v1.1 v1.2.1 → lv_has ls 7 [(0, .ref b), (1, .ref (g.2.1 0)), (2, .ref (aq 0)), (3, .ref o), (4, .int (nI (5 * k)))] → va_P g.1 xx_cls (ll_W g aq o v1) H → va_D A (ll_W g aq o v1) → va_S A s.heap H locs → W p l e room_1 s m #[Value.ref b] below meth c H locs cs ss Q (F0 m 750 ls [])) : W p l e room_1 s m #[Value.ref b] below meth c H locs (30 + 11 * k) (8205 + 56 * k) Q (F0 m 177 ls []) := by
  have hx := C.1
  have hb := C.2.1
  have hown := C.2.2.2.1
  have hts := C.2.2.2.2.1
  obtain ⟨w1, kk, w2, e1, e2, hF⟩ := hSim.2.2.2.2.2.2.2.2.2.2.2.2.1 v.1 v.2.1 (xs (5 * k + 1)) (xs (5 * k + 2)) (xs (5 * k + 3)) hR
  refine lv_aload_n hx hb ld_law_177 rfl (lv_at hl 1 rfl) ?_
  refine lv_aload_n hx hb ld_law_178 rfl (lv_at hl 0 rfl) ?_
  refine lv_iload hx hb ld_law_179 (lv_at hl 4 rfl) ?_
  refine lv_iconst (v := (1 : Int32)) hx hb ld_law_181 (by decide) ?_
  refine lv_iadd hx hb ld_law_182 ?_
  refine ll_sld (n := 5 * k + 1) hx hb hX hbl hbA hS (by rw [show (1 : Int32) = nI 1 from rfl, nI_add]) (by omega) hL ld_law_183 ?_
  refine lv_aload_n hx hb ld_law_184 rfl (lv_at hl 0 rfl) ?_
  refine lv_iload hx hb ld_law_185 (lv_at hl 4 rfl) ?_
  refine lv_iconst (v := (2 : Int32)) hx hb ld_law_187 (by decide) ?_
  refine lv_iadd hx hb ld_law_188 ?_
  refine ll_sld (n := 5 * k + 2) hx hb hX hbl hbA hS (by rw [show (2 : Int32) = nI 2 from rfl, nI_add]) (by omega) hL ld_law_189 ?_
  refine lv_aload_n hx hb ld_law_190 rfl (lv_at hl 0 rfl) ?_
  refine lv_iload hx hb ld_law_191 (lv_at hl 4 rfl) ?_
  refine lv_iconst (v := (3 : Int32)) hx hb ld_law_193 (by decide) ?_
  refine lv_iadd hx hb ld_law_194 ?_
  refine ll_sld (n := 5 * k + 3) hx hb hX hbl hbA hS (by rw [show (3 : Int32) = nI 3 from rfl, nI_add]) (by omega) hL ld_law_195 ?_
  have hM := lc_symbol l hl0 g aq o v (xs (5 * k + 1)) (xs (5 * k + 2)) (xs (5 * k + 3)) (fun rv w => rv = some (.int kk) ∧ Rel w.1 w2 ∧ w.2 = v.2) (hF _ _ (fun u1 h0 hr => ⟨rfl, by rw [h0], hr, rfl⟩) (fun u1 h0 hr => Or.inl ⟨rfl, by rw [h0], hr, rfl⟩) (fun u1 h0 hr => Or.inr ⟨rfl, by rw [h0], hr, rfl⟩))
  refine xl_callS (n := 4) (As := [.ref (g.2.1 0), .int (xs (5 * k + 1)), .int (xs (5 * k + 2)), .int (xs (5 * k + 3))]) (rest := []) C hZ hAst hM ⟨kw_cw_symbol, kw_426, kw_427, kw_0⟩ ⟨by decide +kernel, by decide +kernel, by decide +kernel⟩ rfl ⟨Nat.le_of_ble_eq_true rfl, Nat.le_of_ble_eq_true rfl⟩ hl.1 rfl (Nat.le_of_ble_eq_true rfl) hA hK hP hD hS ⟨by show 30 + 11 * k + 1 ≤ 601024; omega, by show 8205 + 56 * k + 6 ≤ 7293034; omega⟩ ld_law_196 (fun rv w H locs hPo hP2 hD2 hS2 => ?_)
  obtain ⟨rfl, hR1, hw2⟩ := hPo
  have e1 := e1
  obtain ⟨wz, wq, wo⟩ := w
  obtain ⟨vz, vq, vo⟩ := v
  cases hw2
  have hP := hP2
  have hD := hD2
  have hS := hS2
  refine W.widen (k := (30 + 11 * k + 1)) (n := (8205 + 56 * k + 6)) (Nat.le_refl _) (Nat.le_refl _) ?_
  refine lv_istore hx hb ld_law_199 hl (by decide) rfl (fun ls hl => ?_)
  refine lv_aload_n hx hb ld_law_201 rfl (lv_at hl 3 rfl) ?_
  refine lv_aload_n hx hb ld_law_202 rfl (lv_at hl 1 rfl) ?_
  refine lv_iload hx hb ld_law_203 (lv_at hl 5 rfl) ?_
  refine lv_iconst (v := (1 : Int32)) hx hb ld_law_205 (by decide) ?_
  refine lv_iadd hx hb ld_law_206 ?_
  refine ll_sld (n := 5 * k + 1) hx hb hX hbl hbA hS (by rw [show (1 : Int32) = nI 1 from rfl, nI_add]) (by omega) hL ld_law_207 ?_
  refine lv_aload_n hx hb ld_law_208 rfl (lv_at hl 1 rfl) ?_
  refine lv_iload hx hb ld_law_209 (lv_at hl 5 rfl) ?_
  refine lv_iconst (v := (2 : Int32)) hx hb ld_law_211 (by decide) ?_
  refine lv_iadd hx hb ld_law_212 ?_
  refine ll_sld (n := 5 * k + 2) hx hb hX hbl hbA hS (by rw [show (2 : Int32) = nI 2 from rfl, nI_add]) (by omega) hL ld_law_213 ?_
  refine lv_aload_n hx hb ld_law_214 rfl (lv_at hl 1 rfl) ?_
  refine lv_iload hx hb ld_law_215 (lv_at hl 5 rfl) ?_
  refine lv_iconst (v := (3 : Int32)) hx hb ld_law_217 (by decide) ?_
  refine lv_iadd hx hb ld_law_218 ?_
  refine ll_sld (n := 5 * k + 3) hx hb hX hbl hbA hS (by rw [show (3 : Int32) = nI 3 from rfl, nI_add]) (by omega) hL ld_law_219 ?_
  refine xx_callV (cells1 := (30 + 11 * k + 1)) (slots1 := (8205 + 56 * k + 6)) (n := 3) (As := [.int (xs (5 * k + 1)), .int (xs (5 * k + 2)), .int (xs (5 * k + 3))]) (rest := []) C (ll_mq (v := (wz, wq, wo)) (qc_Model_symbol l (ll_q g aq) (wz, wq, wo).2.1 (xs (5 * k + 1)) (xs (5 * k + 2)) (xs (5 * k + 3)) w1 e1)) ⟨kw_1005, kw_1002, kw_1003, kw_1004, kw_9⟩ ⟨by decide +kernel, by decide +kernel, by decide +kernel⟩ rfl ⟨Nat.le_of_ble_eq_true rfl, Nat.le_of_ble_eq_true rfl⟩ 0 rfl rfl hl.1 rfl (Nat.le_of_ble_eq_true rfl) hA hK hP hD hS ⟨by show 30 + 11 * k + 1 + 0 ≤ 601024; omega, by show 8205 + 56 * k + 6 + 0 ≤ 7293034; omega⟩ rfl rfl rfl ld_law_220 (fun H locs hP hD hS => ?_)
  refine lv_aload_n hx hb ld_law_223 rfl (lv_at hl 3 rfl) ?_
  refine xx_callV (cells1 := (30 + 11 * k + 1)) (slots1 := (8205 + 56 * k + 6)) (n := 0) (As := []) (rest := []) C (ll_mq (v := ((wz, wq, wo).1, w1, (wz, wq, wo).2.2)) (qc_Model_thrown l (ll_q g aq) ((wz, wq, wo).1, w1, (wz, wq, wo).2.2).2.1 kk w2 e2)) ⟨kw_970, kw_967, kw_968, kw_969, kw_9⟩ ⟨by decide +kernel, by decide +kernel, by decide +kernel⟩ rfl ⟨Nat.le_of_ble_eq_true rfl, Nat.le_of_ble_eq_true rfl⟩ 0 rfl rfl hl.1 rfl (Nat.le_of_ble_eq_true rfl) hA hK hP hD hS ⟨by show 30 + 11 * k + 1 + 0 ≤ 601024; omega, by show 8205 + 56 * k + 6 + 0 ≤ 7293034; omega⟩ rfl rfl rfl ld_law_224 (fun H locs hP hD hS => ?_)
  refine lv_iload hx hb ld_law_227 (lv_at hl 0 rfl) ?_
  refine lv_icmp_eq (tgt := 234) hx hb ld_law_229 (by decide) (fun _ => ?_) (fun hc => absurd rfl hc)
  refine lv_goto (tgt := 750) hx hb ld_law_234 (by decide) ?_
  exact hend (((wz, wq, wo).1, w1, (wz, wq, wo).2.2).1, w2, ((wz, wq, wo).1, w1, (wz, wq, wo).2.2).2.2) _ _ _ _ _ (by show 30 + 11 * k + 1 ≤ 30 + 11 * (k + 1); omega) (by show 8205 + 56 * k + 6 ≤ 8205 + 56 * (k + 1); omega) hR1 (lv_sub hl [1, 2, 3, 4, 5] rfl) hP hD hS
set_option maxRecDepth 100000 in
theorem kw_227 : Cond.code ky_Loader_feed kb_Loader_feed 2 (some .int) ∈ xx_tb := xx_in (List.mem_append_right _ (List.mem_of_getElem? (i := 227) (by rfl))) (by decide +kernel)
theorem kw_224 : Cond.methodLink "ModuleLoaderLaw" 61 ky_Loader_feed ∈ xx_tb := xx_in (List.mem_append_right _ (List.mem_of_getElem? (i := 224) (by decide +kernel))) (by decide +kernel)
theorem kw_225 : Cond.instanceMethod ky_Loader_feed ∈ xx_tb := xx_in (List.mem_append_right _ (List.mem_of_getElem? (i := 225) (by decide +kernel))) (by decide +kernel)
theorem kw_226 : Cond.selects "ModuleLoader" ky_Loader_feed ky_Loader_feed ∈ xx_tb := xx_in (List.mem_append_right _ (List.mem_of_getElem? (i := 226) (by decide +kernel))) (by decide +kernel)
set_option maxRecDepth 100000 in
theorem kw_1020 : Cond.code ky_Model_feed kb_Model_feed 3 (some .int) ∈ xx_tb := xx_in (List.mem_append_right _ (List.mem_of_getElem? (i := 1020) (by rfl))) (by decide +kernel)
theorem kw_1017 : Cond.methodLink "ModuleLoaderLaw" 64 ky_Model_feed ∈ xx_tb := xx_in (List.mem_append_right _ (List.mem_of_getElem? (i := 1017) (by decide +kernel))) (by decide +kernel)
theorem kw_1018 : Cond.instanceMethod ky_Model_feed ∈ xx_tb := xx_in (List.mem_append_right _ (List.mem_of_getElem? (i := 1018) (by decide +kernel))) (by decide +kernel)
theorem kw_1019 : Cond.selects "ModuleLoaderModel" ky_Model_feed ky_Model_feed ∈ xx_tb := xx_in (List.mem_append_right _ (List.mem_of_getElem? (i := 1019) (by decide +kernel))) (by decide +kernel)
set_option maxHeartbeats 4000000 in
set_option maxRecDepth 100000 in
theorem ll_case_feed {p : Program} {l : Launch} {e : Env} {s : State} {m : MethodId} {b L : Nat} {xs : Nat → Int32} {below : List Frame} {meth : Method} {c : Code} {Q : State → Prop} {g : xx_G} {aq : Nat → Nat} {o : Nat} {A : Nat → Prop} {k : Nat} {v : ll_S} {H : Heap} {locs : List Loc} {ls : Array Slot} {Rel : zz_S → qm_S → Prop} (hSim : ll_Sim Rel) (hl0 : l.stackTraces = false) (C : xx_C p s m #[Value.ref b] meth c code 7 kr_Law (some .boolean)) (hZ : xw_Z s) (hAst : ∀ (q : Nat) (x : Cell), s.heap[q]? = some x → x.vm.isStatics = true → ¬ A q) (hA : ∀ q, s.heap.size ≤ q → A q) (hK : va_K g.1 xx_cls (ll_T g) s) (hX : va_X b L xs s s.heap) (hbl : b < s.heap.size) (hbA : ¬ A b) (hL : L ≤ 2560) (hk : 5 * k + 5 ≤ L) (hR : Rel v.1 v.2.1) (hl : lv_has ls 7 [(0, .ref b), (1, .ref (g.2.1 0)), (2, .ref (aq 0)), (3, .ref o), (4, .int (nI (5 * k)))]) (hP : va_P g.1 xx_cls (ll_W g aq o v) H) (hD : va_D A (ll_W g aq o v)) (hS : va_S A s.heap H locs) (hend : ∀ (v1 : ll_S) (H : Heap) (locs : List Loc) (ls : Array Slot) (cs ss : Nat), cs ≤ 30 + 11 * (k + 1) → ss ≤ 8205 + 56 * (k + 1) → Rel v1.1 v1.2.1 → lv_has ls 7 [(0, .ref b), (1, .ref (g.2.1 0)), (2, .ref (aq 0)), (3, .ref o), (4, .int (nI (5 * k)))] → va_P g.1 xx_cls (ll_W g aq o v1) H → va_D A (ll_W g aq o v1) → va_S A s.heap H locs → W p l e room_1 s m #[Value.ref b] below meth c H locs cs ss Q (F0 m 750 ls [])) : W p l e room_1 s m #[Value.ref b] below meth c H locs (30 + 11 * k) (8205 + 56 * k) Q (F0 m 237 ls []) := by
  have hx := C.1
  have hb := C.2.1
  have hown := C.2.2.2.1
  have hts := C.2.2.2.2.1
  obtain ⟨r, u1, w1, e1, e2, hR1⟩ := hSim.2.2.1 v.1 v.2.1 (xs (5 * k + 1)) hR
  refine lv_aload_n hx hb ld_law_237 rfl (lv_at hl 1 rfl) ?_
  refine lv_aload_n hx hb ld_law_238 rfl (lv_at hl 0 rfl) ?_
  refine lv_iload hx hb ld_law_239 (lv_at hl 4 rfl) ?_
  refine lv_iconst (v := (1 : Int32)) hx hb ld_law_241 (by decide) ?_
  refine lv_iadd hx hb ld_law_242 ?_
  refine ll_sld (n := 5 * k + 1) hx hb hX hbl hbA hS (by rw [show (1 : Int32) = nI 1 from rfl, nI_add]) (by omega) hL ld_law_243 ?_
  refine xx_callV (cells1 := (30 + 11 * k)) (slots1 := (8205 + 56 * k)) (n := 1) (As := [.int (xs (5 * k + 1))]) (rest := []) C (ll_mz (v := v) (zc_Loader_feed l g v.1 (xs (5 * k + 1)) r u1 e1)) ⟨kw_227, kw_224, kw_225, kw_226, kw_1⟩ ⟨by decide +kernel, by decide +kernel, by decide +kernel⟩ rfl ⟨Nat.le_of_ble_eq_true rfl, Nat.le_of_ble_eq_true rfl⟩ 16 rfl rfl hl.1 rfl (Nat.le_of_ble_eq_true rfl) hA hK hP hD hS ⟨by show 30 + 11 * k + 0 ≤ 601024; omega, by show 8205 + 56 * k + 0 ≤ 7293034; omega⟩ rfl rfl rfl ld_law_244 (fun H locs hP hD hS => ?_)
  refine lv_aload_n hx hb ld_law_247 rfl (lv_at hl 2 rfl) ?_
  refine lv_aload_n hx hb ld_law_248 rfl (lv_at hl 0 rfl) ?_
  refine lv_iload hx hb ld_law_249 (lv_at hl 4 rfl) ?_
  refine lv_iconst (v := (1 : Int32)) hx hb ld_law_251 (by decide) ?_
  refine lv_iadd hx hb ld_law_252 ?_
  refine ll_sld (n := 5 * k + 1) hx hb hX hbl hbA hS (by rw [show (1 : Int32) = nI 1 from rfl, nI_add]) (by omega) hL ld_law_253 ?_
  refine xx_callV (cells1 := (30 + 11 * k)) (slots1 := (8205 + 56 * k)) (n := 1) (As := [.int (xs (5 * k + 1))]) (rest := [.int r]) C (ll_mq (v := (u1, v.2)) (qc_Model_feed l (ll_q g aq) (u1, v.2).2.1 (xs (5 * k + 1)) r w1 e2)) ⟨kw_1020, kw_1017, kw_1018, kw_1019, kw_9⟩ ⟨by decide +kernel, by decide +kernel, by decide +kernel⟩ rfl ⟨Nat.le_of_ble_eq_true rfl, Nat.le_of_ble_eq_true rfl⟩ 0 rfl rfl hl.1 rfl (Nat.le_of_ble_eq_true rfl) hA hK hP hD hS ⟨by show 30 + 11 * k + 0 + 0 ≤ 601024; omega, by show 8205 + 56 * k + 0 + 0 ≤ 7293034; omega⟩ rfl rfl rfl ld_law_254 (fun H locs hP hD hS => ?_)
  refine lv_icmp_eq (tgt := 750) hx hb ld_law_257 (by decide) (fun _ => ?_) (fun hc => absurd rfl hc)
  exact hend ((u1, v.2).1, w1, (u1, v.2).2.2) _ _ _ _ _ (by show 30 + 11 * k + 0 ≤ 30 + 11 * (k + 1); omega) (by show 8205 + 56 * k + 0 ≤ 8205 + 56 * (k + 1); omega) hR1 (lv_sub hl [0, 1, 2, 3, 4] rfl) hP hD hS
set_option maxRecDepth 100000 in
theorem kw_243 : Cond.code ky_Loader_feedByte kb_Loader_feedByte 2 (some .int) ∈ xx_tb := xx_in (List.mem_append_right _ (List.mem_of_getElem? (i := 243) (by rfl))) (by decide +kernel)
theorem kw_240 : Cond.methodLink "ModuleLoaderLaw" 65 ky_Loader_feedByte ∈ xx_tb := xx_in (List.mem_append_right _ (List.mem_of_getElem? (i := 240) (by decide +kernel))) (by decide +kernel)
theorem kw_241 : Cond.instanceMethod ky_Loader_feedByte ∈ xx_tb := xx_in (List.mem_append_right _ (List.mem_of_getElem? (i := 241) (by decide +kernel))) (by decide +kernel)
theorem kw_242 : Cond.selects "ModuleLoader" ky_Loader_feedByte ky_Loader_feedByte ∈ xx_tb := xx_in (List.mem_append_right _ (List.mem_of_getElem? (i := 242) (by decide +kernel))) (by decide +kernel)
set_option maxRecDepth 100000 in
theorem kw_1024 : Cond.code ky_Model_feedByte kb_Model_feedByte 2 (some .int) ∈ xx_tb := xx_in (List.mem_append_right _ (List.mem_of_getElem? (i := 1024) (by rfl))) (by decide +kernel)
theorem kw_1021 : Cond.methodLink "ModuleLoaderLaw" 68 ky_Model_feedByte ∈ xx_tb := xx_in (List.mem_append_right _ (List.mem_of_getElem? (i := 1021) (by decide +kernel))) (by decide +kernel)
theorem kw_1022 : Cond.instanceMethod ky_Model_feedByte ∈ xx_tb := xx_in (List.mem_append_right _ (List.mem_of_getElem? (i := 1022) (by decide +kernel))) (by decide +kernel)
theorem kw_1023 : Cond.selects "ModuleLoaderModel" ky_Model_feedByte ky_Model_feedByte ∈ xx_tb := xx_in (List.mem_append_right _ (List.mem_of_getElem? (i := 1023) (by decide +kernel))) (by decide +kernel)
set_option maxHeartbeats 4000000 in
set_option maxRecDepth 100000 in
theorem ll_case_feedByte {p : Program} {l : Launch} {e : Env} {s : State} {m : MethodId} {b L : Nat} {xs : Nat → Int32} {below : List Frame} {meth : Method} {c : Code} {Q : State → Prop} {g : xx_G} {aq : Nat → Nat} {o : Nat} {A : Nat → Prop} {k : Nat} {v : ll_S} {H : Heap} {locs : List Loc} {ls : Array Slot} {Rel : zz_S → qm_S → Prop} (hSim : ll_Sim Rel) (hl0 : l.stackTraces = false) (C : xx_C p s m #[Value.ref b] meth c code 7 kr_Law (some .boolean)) (hZ : xw_Z s) (hAst : ∀ (q : Nat) (x : Cell), s.heap[q]? = some x → x.vm.isStatics = true → ¬ A q) (hA : ∀ q, s.heap.size ≤ q → A q) (hK : va_K g.1 xx_cls (ll_T g) s) (hX : va_X b L xs s s.heap) (hbl : b < s.heap.size) (hbA : ¬ A b) (hL : L ≤ 2560) (hk : 5 * k + 5 ≤ L) (hR : Rel v.1 v.2.1) (hl : lv_has ls 7 [(0, .ref b), (1, .ref (g.2.1 0)), (2, .ref (aq 0)), (3, .ref o), (4, .int (nI (5 * k)))]) (hP : va_P g.1 xx_cls (ll_W g aq o v) H) (hD : va_D A (ll_W g aq o v)) (hS : va_S A s.heap H locs) (hend : ∀ (v1 : ll_S) (H : Heap) (locs : List Loc) (ls : Array Slot) (cs ss : Nat), cs ≤ 30 + 11 * (k + 1) → ss ≤ 8205 + 56 * (k + 1) → Rel v1.1 v1.2.1 → lv_has ls 7 [(0, .ref b), (1, .ref (g.2.1 0)), (2, .ref (aq 0)), (3, .ref o), (4, .int (nI (5 * k)))] → va_P g.1 xx_cls (ll_W g aq o v1) H → va_D A (ll_W g aq o v1) → va_S A s.heap H locs → W p l e room_1 s m #[Value.ref b] below meth c H locs cs ss Q (F0 m 750 ls [])) : W p l e room_1 s m #[Value.ref b] below meth c H locs (30 + 11 * k) (8205 + 56 * k) Q (F0 m 262 ls []) := by
  have hx := C.1
  have hb := C.2.1
  have hown := C.2.2.2.1
  have hts := C.2.2.2.2.1
  obtain ⟨r, u1, w1, e1, e2, hR1⟩ := hSim.2.2.2.1 v.1 v.2.1 (xs (5 * k + 1)) hR
  refine lv_aload_n hx hb ld_law_262 rfl (lv_at hl 1 rfl) ?_
  refine lv_aload_n hx hb ld_law_263 rfl (lv_at hl 0 rfl) ?_
  refine lv_iload hx hb ld_law_264 (lv_at hl 4 rfl) ?_
  refine lv_iconst (v := (1 : Int32)) hx hb ld_law_266 (by decide) ?_
  refine lv_iadd hx hb ld_law_267 ?_
  refine ll_sld (n := 5 * k + 1) hx hb hX hbl hbA hS (by rw [show (1 : Int32) = nI 1 from rfl, nI_add]) (by omega) hL ld_law_268 ?_
  refine xx_callV (cells1 := (30 + 11 * k)) (slots1 := (8205 + 56 * k)) (n := 1) (As := [.int (xs (5 * k + 1))]) (rest := []) C (ll_mz (v := v) (zc_Loader_feedByte l g v.1 (xs (5 * k + 1)) r u1 e1)) ⟨kw_243, kw_240, kw_241, kw_242, kw_1⟩ ⟨by decide +kernel, by decide +kernel, by decide +kernel⟩ rfl ⟨Nat.le_of_ble_eq_true rfl, Nat.le_of_ble_eq_true rfl⟩ 16 rfl rfl hl.1 rfl (Nat.le_of_ble_eq_true rfl) hA hK hP hD hS ⟨by show 30 + 11 * k + 0 ≤ 601024; omega, by show 8205 + 56 * k + 0 ≤ 7293034; omega⟩ rfl rfl rfl ld_law_269 (fun H locs hP hD hS => ?_)
  refine lv_aload_n hx hb ld_law_272 rfl (lv_at hl 2 rfl) ?_
  refine lv_aload_n hx hb ld_law_273 rfl (lv_at hl 0 rfl) ?_
  refine lv_iload hx hb ld_law_274 (lv_at hl 4 rfl) ?_
  refine lv_iconst (v := (1 : Int32)) hx hb ld_law_276 (by decide) ?_
  refine lv_iadd hx hb ld_law_277 ?_
  refine ll_sld (n := 5 * k + 1) hx hb hX hbl hbA hS (by rw [show (1 : Int32) = nI 1 from rfl, nI_add]) (by omega) hL ld_law_278 ?_
  refine xx_callV (cells1 := (30 + 11 * k)) (slots1 := (8205 + 56 * k)) (n := 1) (As := [.int (xs (5 * k + 1))]) (rest := [.int r]) C (ll_mq (v := (u1, v.2)) (qc_Model_feedByte l (ll_q g aq) (u1, v.2).2.1 (xs (5 * k + 1)) r w1 e2)) ⟨kw_1024, kw_1021, kw_1022, kw_1023, kw_9⟩ ⟨by decide +kernel, by decide +kernel, by decide +kernel⟩ rfl ⟨Nat.le_of_ble_eq_true rfl, Nat.le_of_ble_eq_true rfl⟩ 0 rfl rfl hl.1 rfl (Nat.le_of_ble_eq_true rfl) hA hK hP hD hS ⟨by show 30 + 11 * k + 0 + 0 ≤ 601024; omega, by show 8205 + 56 * k + 0 + 0 ≤ 7293034; omega⟩ rfl rfl rfl ld_law_279 (fun H locs hP hD hS => ?_)
  refine lv_icmp_eq (tgt := 750) hx hb ld_law_282 (by decide) (fun _ => ?_) (fun hc => absurd rfl hc)
  exact hend ((u1, v.2).1, w1, (u1, v.2).2.2) _ _ _ _ _ (by show 30 + 11 * k + 0 ≤ 30 + 11 * (k + 1); omega) (by show 8205 + 56 * k + 0 ≤ 8205 + 56 * (k + 1); omega) hR1 (lv_sub hl [0, 1, 2, 3, 4] rfl) hP hD hS
set_option maxRecDepth 100000 in
theorem kw_cw_load : Cond.codeWith ky_Law_load kb_Law_load 5 (some .int) [(0, 10, 13, 21), (0, 10, 17, 15)] ∈ xx_tb := xx_in (List.mem_append_right _ (List.mem_of_getElem? (i := 486) (by rfl))) (by decide +kernel)
theorem kw_484 : Cond.methodLink "ModuleLoaderLaw" 69 ky_Law_load ∈ xx_tb := xx_in (List.mem_append_right _ (List.mem_of_getElem? (i := 484) (by decide +kernel))) (by decide +kernel)
theorem kw_485 : Cond.static ky_Law_load ∈ xx_tb := xx_in (List.mem_append_right _ (List.mem_of_getElem? (i := 485) (by decide +kernel))) (by decide +kernel)
set_option maxRecDepth 100000 in
theorem kw_1028 : Cond.code ky_Model_load kb_Model_load 6 (some .int) ∈ xx_tb := xx_in (List.mem_append_right _ (List.mem_of_getElem? (i := 1028) (by rfl))) (by decide +kernel)
theorem kw_1025 : Cond.methodLink "ModuleLoaderLaw" 72 ky_Model_load ∈ xx_tb := xx_in (List.mem_append_right _ (List.mem_of_getElem? (i := 1025) (by decide +kernel))) (by decide +kernel)
theorem kw_1026 : Cond.instanceMethod ky_Model_load ∈ xx_tb := xx_in (List.mem_append_right _ (List.mem_of_getElem? (i := 1026) (by decide +kernel))) (by decide +kernel)
theorem kw_1027 : Cond.selects "ModuleLoaderModel" ky_Model_load ky_Model_load ∈ xx_tb := xx_in (List.mem_append_right _ (List.mem_of_getElem? (i := 1027) (by decide +kernel))) (by decide +kernel)
set_option maxHeartbeats 4000000 in
set_option maxRecDepth 100000 in
theorem ll_case_load {p : Program} {l : Launch} {e : Env} {s : State} {m : MethodId} {b L : Nat} {xs : Nat → Int32} {below : List Frame} {meth : Method} {c : Code} {Q : State → Prop} {g : xx_G} {aq : Nat → Nat} {o : Nat} {A : Nat → Prop} {k : Nat} {v : ll_S} {H : Heap} {locs : List Loc} {ls : Array Slot} {Rel : zz_S → qm_S → Prop} (hSim : ll_Sim Rel) (hl0 : l.stackTraces = false) (C : xx_C p s m #[Value.ref b] meth c code 7 kr_Law (some .boolean)) (hZ : xw_Z s) (hAst : ∀ (q : Nat) (x : Cell), s.heap[q]? = some x → x.vm.isStatics = true → ¬ A q) (hA : ∀ q, s.heap.size ≤ q → A q) (hK : va_K g.1 xx_cls (ll_T g) s) (hX : va_X b L xs s s.heap) (hbl : b < s.heap.size) (hbA : ¬ A b) (hL : L ≤ 2560) (hk : 5 * k + 5 ≤ L) (hR : Rel v.1 v.2.1) (hl : lv_has ls 7 [(0, .ref b), (1, .ref (g.2.1 0)), (2, .ref (aq 0)), (3, .ref o), (4, .int (nI (5 * k)))]) (hP : va_P g.1 xx_cls (ll_W g aq o v) H) (hD : va_D A (ll_W g aq o v)) (hS : va_S A s.heap H locs) (hend : ∀ (v1 : ll_S) (H : Heap) (locs : List Loc) (ls : Array Slot) (cs ss : Nat), cs ≤ 30 + 11 * (k + 1) → ss ≤ 8205 + 56 * (k + 1) → Rel v1.1 v1.2.1 → lv_has ls 7 [(0, .ref b), (1, .ref (g.2.1 0)), (2, .ref (aq 0)), (3, .ref o), (4, .int (nI (5 * k)))] → va_P g.1 xx_cls (ll_W g aq o v1) H → va_D A (ll_W g aq o v1) → va_S A s.heap H locs → W p l e room_1 s m #[Value.ref b] below meth c H locs cs ss Q (F0 m 750 ls [])) : W p l e room_1 s m #[Value.ref b] below meth c H locs (30 + 11 * k) (8205 + 56 * k) Q (F0 m 287 ls []) := by
  have hx := C.1
  have hb := C.2.1
  have hown := C.2.2.2.1
  have hts := C.2.2.2.2.1
  obtain ⟨r, w1, kk, w2, e1, e2, hF⟩ := hSim.2.2.2.2.2.2.2.2.2.2.2.2.2.2.1 v.1 v.2.1 (xs (5 * k + 1)) (xs (5 * k + 2)) hR
  refine lv_aload_n hx hb ld_law_287 rfl (lv_at hl 1 rfl) ?_
  refine lv_aload_n hx hb ld_law_288 rfl (lv_at hl 0 rfl) ?_
  refine lv_iload hx hb ld_law_289 (lv_at hl 4 rfl) ?_
  refine lv_iconst (v := (1 : Int32)) hx hb ld_law_291 (by decide) ?_
  refine lv_iadd hx hb ld_law_292 ?_
  refine ll_sld (n := 5 * k + 1) hx hb hX hbl hbA hS (by rw [show (1 : Int32) = nI 1 from rfl, nI_add]) (by omega) hL ld_law_293 ?_
  refine lv_aload_n hx hb ld_law_294 rfl (lv_at hl 0 rfl) ?_
  refine lv_iload hx hb ld_law_295 (lv_at hl 4 rfl) ?_
  refine lv_iconst (v := (2 : Int32)) hx hb ld_law_297 (by decide) ?_
  refine lv_iadd hx hb ld_law_298 ?_
  refine ll_sld (n := 5 * k + 2) hx hb hX hbl hbA hS (by rw [show (2 : Int32) = nI 2 from rfl, nI_add]) (by omega) hL ld_law_299 ?_
  refine lv_aload_n hx hb ld_law_300 rfl (lv_at hl 3 rfl) ?_
  have hM := lc_load l hl0 g aq o v (xs (5 * k + 1)) (xs (5 * k + 2)) (fun rv w => rv = some (.int kk) ∧ Rel w.1 w2 ∧ w.2.1 = v.2.1 ∧ (kk = 0 → w.2.2 ((0 : Int32).toNatClampNeg) = r.toInt64)) (hF _ _ (fun u1 h0 hr => ⟨r, rfl, by rw [h0], hr, rfl, fun _ => by simp [vp_updL]⟩) (fun u1 h0 hr => Or.inl ⟨rfl, by rw [h0], hr, rfl, fun h9 => absurd (h9.symm.trans h0) (by decide)⟩) (fun u1 h0 hr => Or.inr ⟨rfl, by rw [h0], hr, rfl, fun h9 => absurd (h9.symm.trans h0) (by decide)⟩))
  refine xl_callS (n := 4) (As := [.ref (g.2.1 0), .int (xs (5 * k + 1)), .int (xs (5 * k + 2)), .ref o]) (rest := []) C hZ hAst hM ⟨kw_cw_load, kw_484, kw_485, kw_0⟩ ⟨by decide +kernel, by decide +kernel, by decide +kernel⟩ rfl ⟨Nat.le_of_ble_eq_true rfl, Nat.le_of_ble_eq_true rfl⟩ hl.1 rfl (Nat.le_of_ble_eq_true rfl) hA hK hP hD hS ⟨by show 30 + 11 * k + 11 ≤ 601024; omega, by show 8205 + 56 * k + 56 ≤ 7293034; omega⟩ ld_law_301 (fun rv w H locs hPo hP2 hD2 hS2 => ?_)
  obtain ⟨rfl, hR1, hw2, hout⟩ := hPo
  have e1 := e1
  obtain ⟨wz, wq, wo⟩ := w
  obtain ⟨vz, vq, vo⟩ := v
  cases hw2
  have hP := hP2
  have hD := hD2
  have hS := hS2
  refine W.widen (k := (30 + 11 * k + 11)) (n := (8205 + 56 * k + 56)) (Nat.le_refl _) (Nat.le_refl _) ?_
  refine lv_istore hx hb ld_law_304 hl (by decide) rfl (fun ls hl => ?_)
  refine lv_aload_n hx hb ld_law_306 rfl (lv_at hl 3 rfl) ?_
  refine lv_aload_n hx hb ld_law_307 rfl (lv_at hl 1 rfl) ?_
  refine lv_iload hx hb ld_law_308 (lv_at hl 5 rfl) ?_
  refine lv_iconst (v := (1 : Int32)) hx hb ld_law_310 (by decide) ?_
  refine lv_iadd hx hb ld_law_311 ?_
  refine ll_sld (n := 5 * k + 1) hx hb hX hbl hbA hS (by rw [show (1 : Int32) = nI 1 from rfl, nI_add]) (by omega) hL ld_law_312 ?_
  refine lv_aload_n hx hb ld_law_313 rfl (lv_at hl 1 rfl) ?_
  refine lv_iload hx hb ld_law_314 (lv_at hl 5 rfl) ?_
  refine lv_iconst (v := (2 : Int32)) hx hb ld_law_316 (by decide) ?_
  refine lv_iadd hx hb ld_law_317 ?_
  refine ll_sld (n := 5 * k + 2) hx hb hX hbl hbA hS (by rw [show (2 : Int32) = nI 2 from rfl, nI_add]) (by omega) hL ld_law_318 ?_
  refine xx_callV (cells1 := (30 + 11 * k + 11)) (slots1 := (8205 + 56 * k + 56)) (n := 2) (As := [.int (xs (5 * k + 1)), .int (xs (5 * k + 2))]) (rest := []) C (ll_mq (v := (wz, wq, wo)) (qc_Model_load l (ll_q g aq) (wz, wq, wo).2.1 (xs (5 * k + 1)) (xs (5 * k + 2)) r w1 e1)) ⟨kw_1028, kw_1025, kw_1026, kw_1027, kw_9⟩ ⟨by decide +kernel, by decide +kernel, by decide +kernel⟩ rfl ⟨Nat.le_of_ble_eq_true rfl, Nat.le_of_ble_eq_true rfl⟩ 0 rfl rfl hl.1 rfl (Nat.le_of_ble_eq_true rfl) hA hK hP hD hS ⟨by show 30 + 11 * k + 11 + 0 ≤ 601024; omega, by show 8205 + 56 * k + 56 + 0 ≤ 7293034; omega⟩ rfl rfl rfl ld_law_319 (fun H locs hP hD hS => ?_)
  refine lv_istore hx hb ld_law_322 hl (by decide) rfl (fun ls hl => ?_)
  refine lv_aload_n hx hb ld_law_324 rfl (lv_at hl 4 rfl) ?_
  refine xx_callV (cells1 := (30 + 11 * k + 11)) (slots1 := (8205 + 56 * k + 56)) (n := 0) (As := []) (rest := []) C (ll_mq (v := ((wz, wq, wo).1, w1, (wz, wq, wo).2.2)) (qc_Model_thrown l (ll_q g aq) ((wz, wq, wo).1, w1, (wz, wq, wo).2.2).2.1 kk w2 e2)) ⟨kw_970, kw_967, kw_968, kw_969, kw_9⟩ ⟨by decide +kernel, by decide +kernel, by decide +kernel⟩ rfl ⟨Nat.le_of_ble_eq_true rfl, Nat.le_of_ble_eq_true rfl⟩ 0 rfl rfl hl.1 rfl (Nat.le_of_ble_eq_true rfl) hA hK hP hD hS ⟨by show 30 + 11 * k + 11 + 0 ≤ 601024; omega, by show 8205 + 56 * k + 56 + 0 ≤ 7293034; omega⟩ rfl rfl rfl ld_law_325 (fun H locs hP hD hS => ?_)
  refine lv_iload hx hb ld_law_328 (lv_at hl 1 rfl) ?_
  refine lv_icmp_eq (tgt := 335) hx hb ld_law_330 (by decide) (fun _ => ?_) (fun hc => absurd rfl hc)
  refine lv_iload hx hb ld_law_335 (lv_at hl 1 rfl) ?_
  refine lv_if_ne (tgt := 352) hx hb ld_law_337 (by decide) (fun hc => ?_) (fun hc => ?_)
  · refine lv_goto (tgt := 750) hx hb ld_law_352 (by decide) ?_
    exact hend (((wz, wq, wo).1, w1, (wz, wq, wo).2.2).1, w2, ((wz, wq, wo).1, w1, (wz, wq, wo).2.2).2.2) _ _ _ _ _ (by show 30 + 11 * k + 11 ≤ 30 + 11 * (k + 1); omega) (by show 8205 + 56 * k + 56 ≤ 8205 + 56 * (k + 1); omega) hR1 (lv_sub hl [2, 3, 4, 5, 6] rfl) hP hD hS
  · refine lv_aload_n hx hb ld_law_340 rfl (lv_at hl 5 rfl) ?_
    refine lv_iconst (v := (0 : Int32)) hx hb ld_law_341 (by decide) ?_
    refine va_lald hx hb hK hP 15 4 rfl rfl xl_in0 ld_law_342 ?_
    refine lv_iload hx hb ld_law_343 (lv_at hl 0 rfl) ?_
    refine lv_i2l hx hb ld_law_345 rfl ?_
    refine W.lcmp hx hb ld_law_346 ?_
    rw [show ((((wz, wq, wo).1, w1, (wz, wq, wo).2.2).1, w2, ((wz, wq, wo).1, w1, (wz, wq, wo).2.2).2.2) : ll_S).2.2 ((0 : Int32).toNatClampNeg) = r.toInt64 from hout hc]
    refine lv_if_eq (tgt := 352) hx hb ld_law_347 (by decide) (fun _ => ?_) (fun h9 => absurd (ll_cmp _) h9)
    refine lv_goto (tgt := 750) hx hb ld_law_352 (by decide) ?_
    exact hend (((wz, wq, wo).1, w1, (wz, wq, wo).2.2).1, w2, ((wz, wq, wo).1, w1, (wz, wq, wo).2.2).2.2) _ _ _ _ _ (by show 30 + 11 * k + 11 ≤ 30 + 11 * (k + 1); omega) (by show 8205 + 56 * k + 56 ≤ 8205 + 56 * (k + 1); omega) hR1 (lv_sub hl [2, 3, 4, 5, 6] rfl) hP hD hS
set_option maxRecDepth 100000 in
theorem kw_247 : Cond.code ky_Loader_fault kb_Loader_fault 2 (some .int) ∈ xx_tb := xx_in (List.mem_append_right _ (List.mem_of_getElem? (i := 247) (by rfl))) (by decide +kernel)
theorem kw_244 : Cond.methodLink "ModuleLoaderLaw" 73 ky_Loader_fault ∈ xx_tb := xx_in (List.mem_append_right _ (List.mem_of_getElem? (i := 244) (by decide +kernel))) (by decide +kernel)
theorem kw_245 : Cond.instanceMethod ky_Loader_fault ∈ xx_tb := xx_in (List.mem_append_right _ (List.mem_of_getElem? (i := 245) (by decide +kernel))) (by decide +kernel)
theorem kw_246 : Cond.selects "ModuleLoader" ky_Loader_fault ky_Loader_fault ∈ xx_tb := xx_in (List.mem_append_right _ (List.mem_of_getElem? (i := 246) (by decide +kernel))) (by decide +kernel)
set_option maxRecDepth 100000 in
theorem kw_1148 : Cond.code ky_Model_fault kb_Model_fault 2 (some .int) ∈ xx_tb := xx_in (List.mem_append_right _ (List.mem_of_getElem? (i := 1148) (by rfl))) (by decide +kernel)
theorem kw_1145 : Cond.methodLink "ModuleLoaderLaw" 76 ky_Model_fault ∈ xx_tb := xx_in (List.mem_append_right _ (List.mem_of_getElem? (i := 1145) (by decide +kernel))) (by decide +kernel)
theorem kw_1146 : Cond.instanceMethod ky_Model_fault ∈ xx_tb := xx_in (List.mem_append_right _ (List.mem_of_getElem? (i := 1146) (by decide +kernel))) (by decide +kernel)
theorem kw_1147 : Cond.selects "ModuleLoaderModel" ky_Model_fault ky_Model_fault ∈ xx_tb := xx_in (List.mem_append_right _ (List.mem_of_getElem? (i := 1147) (by decide +kernel))) (by decide +kernel)
set_option maxHeartbeats 4000000 in
set_option maxRecDepth 100000 in
theorem ll_case_fault {p : Program} {l : Launch} {e : Env} {s : State} {m : MethodId} {b L : Nat} {xs : Nat → Int32} {below : List Frame} {meth : Method} {c : Code} {Q : State → Prop} {g : xx_G} {aq : Nat → Nat} {o : Nat} {A : Nat → Prop} {k : Nat} {v : ll_S} {H : Heap} {locs : List Loc} {ls : Array Slot} {Rel : zz_S → qm_S → Prop} (hSim : ll_Sim Rel) (hl0 : l.stackTraces = false) (C : xx_C p s m #[Value.ref b] meth c code 7 kr_Law (some .boolean)) (hZ : xw_Z s) (hAst : ∀ (q : Nat) (x : Cell), s.heap[q]? = some x → x.vm.isStatics = true → ¬ A q) (hA : ∀ q, s.heap.size ≤ q → A q) (hK : va_K g.1 xx_cls (ll_T g) s) (hX : va_X b L xs s s.heap) (hbl : b < s.heap.size) (hbA : ¬ A b) (hL : L ≤ 2560) (hk : 5 * k + 5 ≤ L) (hR : Rel v.1 v.2.1) (hl : lv_has ls 7 [(0, .ref b), (1, .ref (g.2.1 0)), (2, .ref (aq 0)), (3, .ref o), (4, .int (nI (5 * k)))]) (hP : va_P g.1 xx_cls (ll_W g aq o v) H) (hD : va_D A (ll_W g aq o v)) (hS : va_S A s.heap H locs) (hend : ∀ (v1 : ll_S) (H : Heap) (locs : List Loc) (ls : Array Slot) (cs ss : Nat), cs ≤ 30 + 11 * (k + 1) → ss ≤ 8205 + 56 * (k + 1) → Rel v1.1 v1.2.1 → lv_has ls 7 [(0, .ref b), (1, .ref (g.2.1 0)), (2, .ref (aq 0)), (3, .ref o), (4, .int (nI (5 * k)))] → va_P g.1 xx_cls (ll_W g aq o v1) H → va_D A (ll_W g aq o v1) → va_S A s.heap H locs → W p l e room_1 s m #[Value.ref b] below meth c H locs cs ss Q (F0 m 750 ls [])) : W p l e room_1 s m #[Value.ref b] below meth c H locs (30 + 11 * k) (8205 + 56 * k) Q (F0 m 355 ls []) := by
  have hx := C.1
  have hb := C.2.1
  have hown := C.2.2.2.1
  have hts := C.2.2.2.2.1
  obtain ⟨r, u1, w1, e1, e2, hR1⟩ := hSim.2.2.2.2.1 v.1 v.2.1 (xs (5 * k + 1)) hR
  refine lv_aload_n hx hb ld_law_355 rfl (lv_at hl 1 rfl) ?_
  refine lv_aload_n hx hb ld_law_356 rfl (lv_at hl 0 rfl) ?_
  refine lv_iload hx hb ld_law_357 (lv_at hl 4 rfl) ?_
  refine lv_iconst (v := (1 : Int32)) hx hb ld_law_359 (by decide) ?_
  refine lv_iadd hx hb ld_law_360 ?_
  refine ll_sld (n := 5 * k + 1) hx hb hX hbl hbA hS (by rw [show (1 : Int32) = nI 1 from rfl, nI_add]) (by omega) hL ld_law_361 ?_
  refine xx_callV (cells1 := (30 + 11 * k)) (slots1 := (8205 + 56 * k)) (n := 1) (As := [.int (xs (5 * k + 1))]) (rest := []) C (ll_mz (v := v) (zc_Loader_fault l g v.1 (xs (5 * k + 1)) r u1 e1)) ⟨kw_247, kw_244, kw_245, kw_246, kw_1⟩ ⟨by decide +kernel, by decide +kernel, by decide +kernel⟩ rfl ⟨Nat.le_of_ble_eq_true rfl, Nat.le_of_ble_eq_true rfl⟩ 16 rfl rfl hl.1 rfl (Nat.le_of_ble_eq_true rfl) hA hK hP hD hS ⟨by show 30 + 11 * k + 0 ≤ 601024; omega, by show 8205 + 56 * k + 0 ≤ 7293034; omega⟩ rfl rfl rfl ld_law_362 (fun H locs hP hD hS => ?_)
  refine lv_aload_n hx hb ld_law_365 rfl (lv_at hl 2 rfl) ?_
  refine lv_aload_n hx hb ld_law_366 rfl (lv_at hl 0 rfl) ?_
  refine lv_iload hx hb ld_law_367 (lv_at hl 4 rfl) ?_
  refine lv_iconst (v := (1 : Int32)) hx hb ld_law_369 (by decide) ?_
  refine lv_iadd hx hb ld_law_370 ?_
  refine ll_sld (n := 5 * k + 1) hx hb hX hbl hbA hS (by rw [show (1 : Int32) = nI 1 from rfl, nI_add]) (by omega) hL ld_law_371 ?_
  refine xx_callV (cells1 := (30 + 11 * k)) (slots1 := (8205 + 56 * k)) (n := 1) (As := [.int (xs (5 * k + 1))]) (rest := [.int r]) C (ll_mq (v := (u1, v.2)) (qc_Model_fault l (ll_q g aq) (u1, v.2).2.1 (xs (5 * k + 1)) r w1 e2)) ⟨kw_1148, kw_1145, kw_1146, kw_1147, kw_9⟩ ⟨by decide +kernel, by decide +kernel, by decide +kernel⟩ rfl ⟨Nat.le_of_ble_eq_true rfl, Nat.le_of_ble_eq_true rfl⟩ 0 rfl rfl hl.1 rfl (Nat.le_of_ble_eq_true rfl) hA hK hP hD hS ⟨by show 30 + 11 * k + 0 + 0 ≤ 601024; omega, by show 8205 + 56 * k + 0 + 0 ≤ 7293034; omega⟩ rfl rfl rfl ld_law_372 (fun H locs hP hD hS => ?_)
  refine lv_icmp_eq (tgt := 750) hx hb ld_law_375 (by decide) (fun _ => ?_) (fun hc => absurd rfl hc)
  exact hend ((u1, v.2).1, w1, (u1, v.2).2.2) _ _ _ _ _ (by show 30 + 11 * k + 0 ≤ 30 + 11 * (k + 1); omega) (by show 8205 + 56 * k + 0 ≤ 8205 + 56 * (k + 1); omega) hR1 (lv_sub hl [0, 1, 2, 3, 4] rfl) hP hD hS
set_option maxRecDepth 100000 in
theorem kw_cw_unload : Cond.codeWith ky_Law_unload kb_Law_unload 4 (some .int) [(0, 6, 9, 21), (0, 6, 12, 15)] ∈ xx_tb := xx_in (List.mem_append_right _ (List.mem_of_getElem? (i := 848) (by rfl))) (by decide +kernel)
theorem kw_846 : Cond.methodLink "ModuleLoaderLaw" 77 ky_Law_unload ∈ xx_tb := xx_in (List.mem_append_right _ (List.mem_of_getElem? (i := 846) (by decide +kernel))) (by decide +kernel)
theorem kw_847 : Cond.static ky_Law_unload ∈ xx_tb := xx_in (List.mem_append_right _ (List.mem_of_getElem? (i := 847) (by decide +kernel))) (by decide +kernel)
set_option maxRecDepth 100000 in
theorem kw_1136 : Cond.code ky_Model_unload kb_Model_unload 4 none ∈ xx_tb := xx_in (List.mem_append_right _ (List.mem_of_getElem? (i := 1136) (by rfl))) (by decide +kernel)
theorem kw_1133 : Cond.methodLink "ModuleLoaderLaw" 79 ky_Model_unload ∈ xx_tb := xx_in (List.mem_append_right _ (List.mem_of_getElem? (i := 1133) (by decide +kernel))) (by decide +kernel)
theorem kw_1134 : Cond.instanceMethod ky_Model_unload ∈ xx_tb := xx_in (List.mem_append_right _ (List.mem_of_getElem? (i := 1134) (by decide +kernel))) (by decide +kernel)
theorem kw_1135 : Cond.selects "ModuleLoaderModel" ky_Model_unload ky_Model_unload ∈ xx_tb := xx_in (List.mem_append_right _ (List.mem_of_getElem? (i := 1135) (by decide +kernel))) (by decide +kernel)
set_option maxHeartbeats 4000000 in
set_option maxRecDepth 100000 in
theorem ll_case_unload {p : Program} {l : Launch} {e : Env} {s : State} {m : MethodId} {b L : Nat} {xs : Nat → Int32} {below : List Frame} {meth : Method} {c : Code} {Q : State → Prop} {g : xx_G} {aq : Nat → Nat} {o : Nat} {A : Nat → Prop} {k : Nat} {v : ll_S} {H : Heap} {locs : List Loc} {ls : Array Slot} {Rel : zz_S → qm_S → Prop} (hSim : ll_Sim Rel) (hl0 : l.stackTraces = false) (C : xx_C p s m #[Value.ref b] meth c code 7 kr_Law (some .boolean)) (hZ : xw_Z s) (hAst : ∀ (q : Nat) (x : Cell), s.heap[q]? = some x → x.vm.isStatics = true → ¬ A q) (hA : ∀ q, s.heap.size ≤ q → A q) (hK : va_K g.1 xx_cls (ll_T g) s) (hX : va_X b L xs s s.heap) (hbl : b < s.heap.size) (hbA : ¬ A b) (hL : L ≤ 2560) (hk : 5 * k + 5 ≤ L) (hR : Rel v.1 v.2.1) (hl : lv_has ls 7 [(0, .ref b), (1, .ref (g.2.1 0)), (2, .ref (aq 0)), (3, .ref o), (4, .int (nI (5 * k)))]) (hP : va_P g.1 xx_cls (ll_W g aq o v) H) (hD : va_D A (ll_W g aq o v)) (hS : va_S A s.heap H locs) (hend : ∀ (v1 : ll_S) (H : Heap) (locs : List Loc) (ls : Array Slot) (cs ss : Nat), cs ≤ 30 + 11 * (k + 1) → ss ≤ 8205 + 56 * (k + 1) → Rel v1.1 v1.2.1 → lv_has ls 7 [(0, .ref b), (1, .ref (g.2.1 0)), (2, .ref (aq 0)), (3, .ref o), (4, .int (nI (5 * k)))] → va_P g.1 xx_cls (ll_W g aq o v1) H → va_D A (ll_W g aq o v1) → va_S A s.heap H locs → W p l e room_1 s m #[Value.ref b] below meth c H locs cs ss Q (F0 m 750 ls [])) : W p l e room_1 s m #[Value.ref b] below meth c H locs (30 + 11 * k) (8205 + 56 * k) Q (F0 m 380 ls []) := by
  have hx := C.1
  have hb := C.2.1
  have hown := C.2.2.2.1
  have hts := C.2.2.2.2.1
  obtain ⟨w1, kk, w2, e1, e2, hF⟩ := hSim.2.2.2.2.2.2.2.2.2.2.2.2.2.1 v.1 v.2.1 (xs (5 * k + 1)) (xs (5 * k + 2)) hR
  refine lv_aload_n hx hb ld_law_380 rfl (lv_at hl 1 rfl) ?_
  refine lv_aload_n hx hb ld_law_381 rfl (lv_at hl 0 rfl) ?_
  refine lv_iload hx hb ld_law_382 (lv_at hl 4 rfl) ?_
  refine lv_iconst (v := (1 : Int32)) hx hb ld_law_384 (by decide) ?_
  refine lv_iadd hx hb ld_law_385 ?_
  refine ll_sld (n := 5 * k + 1) hx hb hX hbl hbA hS (by rw [show (1 : Int32) = nI 1 from rfl, nI_add]) (by omega) hL ld_law_386 ?_
  refine lv_aload_n hx hb ld_law_387 rfl (lv_at hl 0 rfl) ?_
  refine lv_iload hx hb ld_law_388 (lv_at hl 4 rfl) ?_
  refine lv_iconst (v := (2 : Int32)) hx hb ld_law_390 (by decide) ?_
  refine lv_iadd hx hb ld_law_391 ?_
  refine ll_sld (n := 5 * k + 2) hx hb hX hbl hbA hS (by rw [show (2 : Int32) = nI 2 from rfl, nI_add]) (by omega) hL ld_law_392 ?_
  have hM := lc_unload l hl0 g aq o v (xs (5 * k + 1)) (xs (5 * k + 2)) (fun rv w => rv = some (.int kk) ∧ Rel w.1 w2 ∧ w.2 = v.2) (hF _ _ (fun u1 h0 hr => ⟨rfl, by rw [h0], hr, rfl⟩) (fun u1 h0 hr => Or.inl ⟨rfl, by rw [h0], hr, rfl⟩) (fun u1 h0 hr => Or.inr ⟨rfl, by rw [h0], hr, rfl⟩))
  refine xl_callS (n := 3) (As := [.ref (g.2.1 0), .int (xs (5 * k + 1)), .int (xs (5 * k + 2))]) (rest := []) C hZ hAst hM ⟨kw_cw_unload, kw_846, kw_847, kw_0⟩ ⟨by decide +kernel, by decide +kernel, by decide +kernel⟩ rfl ⟨Nat.le_of_ble_eq_true rfl, Nat.le_of_ble_eq_true rfl⟩ hl.1 rfl (Nat.le_of_ble_eq_true rfl) hA hK hP hD hS ⟨by show 30 + 11 * k + 1 ≤ 601024; omega, by show 8205 + 56 * k + 6 ≤ 7293034; omega⟩ ld_law_393 (fun rv w H locs hPo hP2 hD2 hS2 => ?_)
  obtain ⟨rfl, hR1, hw2⟩ := hPo
  have e1 := e1
  obtain ⟨wz, wq, wo⟩ := w
  obtain ⟨vz, vq, vo⟩ := v
  cases hw2
  have hP := hP2
  have hD := hD2
  have hS := hS2
  refine W.widen (k := (30 + 11 * k + 1)) (n := (8205 + 56 * k + 6)) (Nat.le_refl _) (Nat.le_refl _) ?_
  refine lv_istore hx hb ld_law_396 hl (by decide) rfl (fun ls hl => ?_)
  refine lv_aload_n hx hb ld_law_398 rfl (lv_at hl 3 rfl) ?_
  refine lv_aload_n hx hb ld_law_399 rfl (lv_at hl 1 rfl) ?_
  refine lv_iload hx hb ld_law_400 (lv_at hl 5 rfl) ?_
  refine lv_iconst (v := (1 : Int32)) hx hb ld_law_402 (by decide) ?_
  refine lv_iadd hx hb ld_law_403 ?_
  refine ll_sld (n := 5 * k + 1) hx hb hX hbl hbA hS (by rw [show (1 : Int32) = nI 1 from rfl, nI_add]) (by omega) hL ld_law_404 ?_
  refine lv_aload_n hx hb ld_law_405 rfl (lv_at hl 1 rfl) ?_
  refine lv_iload hx hb ld_law_406 (lv_at hl 5 rfl) ?_
  refine lv_iconst (v := (2 : Int32)) hx hb ld_law_408 (by decide) ?_
  refine lv_iadd hx hb ld_law_409 ?_
  refine ll_sld (n := 5 * k + 2) hx hb hX hbl hbA hS (by rw [show (2 : Int32) = nI 2 from rfl, nI_add]) (by omega) hL ld_law_410 ?_
  refine xx_callV (cells1 := (30 + 11 * k + 1)) (slots1 := (8205 + 56 * k + 6)) (n := 2) (As := [.int (xs (5 * k + 1)), .int (xs (5 * k + 2))]) (rest := []) C (ll_mq (v := (wz, wq, wo)) (qc_Model_unload l (ll_q g aq) (wz, wq, wo).2.1 (xs (5 * k + 1)) (xs (5 * k + 2)) w1 e1)) ⟨kw_1136, kw_1133, kw_1134, kw_1135, kw_9⟩ ⟨by decide +kernel, by decide +kernel, by decide +kernel⟩ rfl ⟨Nat.le_of_ble_eq_true rfl, Nat.le_of_ble_eq_true rfl⟩ 0 rfl rfl hl.1 rfl (Nat.le_of_ble_eq_true rfl) hA hK hP hD hS ⟨by show 30 + 11 * k + 1 + 0 ≤ 601024; omega, by show 8205 + 56 * k + 6 + 0 ≤ 7293034; omega⟩ rfl rfl rfl ld_law_411 (fun H locs hP hD hS => ?_)
  refine lv_aload_n hx hb ld_law_414 rfl (lv_at hl 3 rfl) ?_
  refine xx_callV (cells1 := (30 + 11 * k + 1)) (slots1 := (8205 + 56 * k + 6)) (n := 0) (As := []) (rest := []) C (ll_mq (v := ((wz, wq, wo).1, w1, (wz, wq, wo).2.2)) (qc_Model_thrown l (ll_q g aq) ((wz, wq, wo).1, w1, (wz, wq, wo).2.2).2.1 kk w2 e2)) ⟨kw_970, kw_967, kw_968, kw_969, kw_9⟩ ⟨by decide +kernel, by decide +kernel, by decide +kernel⟩ rfl ⟨Nat.le_of_ble_eq_true rfl, Nat.le_of_ble_eq_true rfl⟩ 0 rfl rfl hl.1 rfl (Nat.le_of_ble_eq_true rfl) hA hK hP hD hS ⟨by show 30 + 11 * k + 1 + 0 ≤ 601024; omega, by show 8205 + 56 * k + 6 + 0 ≤ 7293034; omega⟩ rfl rfl rfl ld_law_415 (fun H locs hP hD hS => ?_)
  refine lv_iload hx hb ld_law_418 (lv_at hl 0 rfl) ?_
  refine lv_icmp_eq (tgt := 425) hx hb ld_law_420 (by decide) (fun _ => ?_) (fun hc => absurd rfl hc)
  refine lv_goto (tgt := 750) hx hb ld_law_425 (by decide) ?_
  exact hend (((wz, wq, wo).1, w1, (wz, wq, wo).2.2).1, w2, ((wz, wq, wo).1, w1, (wz, wq, wo).2.2).2.2) _ _ _ _ _ (by show 30 + 11 * k + 1 ≤ 30 + 11 * (k + 1); omega) (by show 8205 + 56 * k + 6 ≤ 8205 + 56 * (k + 1); omega) hR1 (lv_sub hl [1, 2, 3, 4, 5] rfl) hP hD hS
set_option maxRecDepth 100000 in
theorem kw_cw_call : Cond.codeWith ky_Law_call kb_Law_call 7 (some .int) [(0, 14, 17, 21), (0, 14, 21, 15)] ∈ xx_tb := xx_in (List.mem_append_right _ (List.mem_of_getElem? (i := 855) (by rfl))) (by decide +kernel)
theorem kw_853 : Cond.methodLink "ModuleLoaderLaw" 80 ky_Law_call ∈ xx_tb := xx_in (List.mem_append_right _ (List.mem_of_getElem? (i := 853) (by decide +kernel))) (by decide +kernel)
theorem kw_854 : Cond.static ky_Law_call ∈ xx_tb := xx_in (List.mem_append_right _ (List.mem_of_getElem? (i := 854) (by decide +kernel))) (by decide +kernel)
set_option maxRecDepth 100000 in
theorem kw_1144 : Cond.code ky_Model_call kb_Model_call 6 (some .int) ∈ xx_tb := xx_in (List.mem_append_right _ (List.mem_of_getElem? (i := 1144) (by rfl))) (by decide +kernel)
theorem kw_1141 : Cond.methodLink "ModuleLoaderLaw" 83 ky_Model_call ∈ xx_tb := xx_in (List.mem_append_right _ (List.mem_of_getElem? (i := 1141) (by decide +kernel))) (by decide +kernel)
theorem kw_1142 : Cond.instanceMethod ky_Model_call ∈ xx_tb := xx_in (List.mem_append_right _ (List.mem_of_getElem? (i := 1142) (by decide +kernel))) (by decide +kernel)
theorem kw_1143 : Cond.selects "ModuleLoaderModel" ky_Model_call ky_Model_call ∈ xx_tb := xx_in (List.mem_append_right _ (List.mem_of_getElem? (i := 1143) (by decide +kernel))) (by decide +kernel)
set_option maxHeartbeats 4000000 in
set_option maxRecDepth 100000 in
theorem ll_case_call {p : Program} {l : Launch} {e : Env} {s : State} {m : MethodId} {b L : Nat} {xs : Nat → Int32} {below : List Frame} {meth : Method} {c : Code} {Q : State → Prop} {g : xx_G} {aq : Nat → Nat} {o : Nat} {A : Nat → Prop} {k : Nat} {v : ll_S} {H : Heap} {locs : List Loc} {ls : Array Slot} {Rel : zz_S → qm_S → Prop} (hSim : ll_Sim Rel) (hl0 : l.stackTraces = false) (C : xx_C p s m #[Value.ref b] meth c code 7 kr_Law (some .boolean)) (hZ : xw_Z s) (hAst : ∀ (q : Nat) (x : Cell), s.heap[q]? = some x → x.vm.isStatics = true → ¬ A q) (hA : ∀ q, s.heap.size ≤ q → A q) (hK : va_K g.1 xx_cls (ll_T g) s) (hX : va_X b L xs s s.heap) (hbl : b < s.heap.size) (hbA : ¬ A b) (hL : L ≤ 2560) (hk : 5 * k + 5 ≤ L) (hR : Rel v.1 v.2.1) (hl : lv_has ls 7 [(0, .ref b), (1, .ref (g.2.1 0)), (2, .ref (aq 0)), (3, .ref o), (4, .int (nI (5 * k)))]) (hP : va_P g.1 xx_cls (ll_W g aq o v) H) (hD : va_D A (ll_W g aq o v)) (hS : va_S A s.heap H locs) (hend : ∀ (v1 : ll_S) (H : Heap) (locs : List Loc) (ls : Array Slot) (cs ss : Nat), cs ≤ 30 + 11 * (k + 1) → ss ≤ 8205 + 56 * (k + 1) → Rel v1.1 v1.2.1 → lv_has ls 7 [(0, .ref b), (1, .ref (g.2.1 0)), (2, .ref (aq 0)), (3, .ref o), (4, .int (nI (5 * k)))] → va_P g.1 xx_cls (ll_W g aq o v1) H → va_D A (ll_W g aq o v1) → va_S A s.heap H locs → W p l e room_1 s m #[Value.ref b] below meth c H locs cs ss Q (F0 m 750 ls [])) : W p l e room_1 s m #[Value.ref b] below meth c H locs (30 + 11 * k) (8205 + 56 * k) Q (F0 m 428 ls []) := by
  have hx := C.1
  have hb := C.2.1
  have hown := C.2.2.2.1
  have hts := C.2.2.2.2.1
  obtain ⟨r, w1, kk, w2, e1, e2, hF⟩ := hSim.2.2.2.2.2.2.2.2.2.2.2.2.2.2.2.1 v.1 v.2.1 (xs (5 * k + 1)) (xs (5 * k + 2)) (xs (5 * k + 3)) (xs (5 * k + 4)) hR
  refine lv_aload_n hx hb ld_law_428 rfl (lv_at hl 1 rfl) ?_
  refine lv_aload_n hx hb ld_law_429 rfl (lv_at hl 0 rfl) ?_
  refine lv_iload hx hb ld_law_430 (lv_at hl 4 rfl) ?_
  refine lv_iconst (v := (1 : Int32)) hx hb ld_law_432 (by decide) ?_
  refine lv_iadd hx hb ld_law_433 ?_
  refine ll_sld (n := 5 * k + 1) hx hb hX hbl hbA hS (by rw [show (1 : Int32) = nI 1 from rfl, nI_add]) (by omega) hL ld_law_434 ?_
  refine lv_aload_n hx hb ld_law_435 rfl (lv_at hl 0 rfl) ?_
  refine lv_iload hx hb ld_law_436 (lv_at hl 4 rfl) ?_
  refine lv_iconst (v := (2 : Int32)) hx hb ld_law_438 (by decide) ?_
  refine lv_iadd hx hb ld_law_439 ?_
  refine ll_sld (n := 5 * k + 2) hx hb hX hbl hbA hS (by rw [show (2 : Int32) = nI 2 from rfl, nI_add]) (by omega) hL ld_law_440 ?_
  refine lv_aload_n hx hb ld_law_441 rfl (lv_at hl 0 rfl) ?_
  refine lv_iload hx hb ld_law_442 (lv_at hl 4 rfl) ?_
  refine lv_iconst (v := (3 : Int32)) hx hb ld_law_444 (by decide) ?_
  refine lv_iadd hx hb ld_law_445 ?_
  refine ll_sld (n := 5 * k + 3) hx hb hX hbl hbA hS (by rw [show (3 : Int32) = nI 3 from rfl, nI_add]) (by omega) hL ld_law_446 ?_
  refine lv_aload_n hx hb ld_law_447 rfl (lv_at hl 0 rfl) ?_
  refine lv_iload hx hb ld_law_448 (lv_at hl 4 rfl) ?_
  refine lv_iconst (v := (4 : Int32)) hx hb ld_law_450 (by decide) ?_
  refine lv_iadd hx hb ld_law_451 ?_
  refine ll_sld (n := 5 * k + 4) hx hb hX hbl hbA hS (by rw [show (4 : Int32) = nI 4 from rfl, nI_add]) (by omega) hL ld_law_452 ?_
  refine lv_aload_n hx hb ld_law_453 rfl (lv_at hl 3 rfl) ?_
  have hM := lc_call l hl0 g aq o v (xs (5 * k + 1)) (xs (5 * k + 2)) (xs (5 * k + 3)) (xs (5 * k + 4)) (fun rv w => rv = some (.int kk) ∧ Rel w.1 w2 ∧ w.2.1 = v.2.1 ∧ (kk = 0 → w.2.2 ((0 : Int32).toNatClampNeg) = r.toInt64)) (hF _ _ (fun u1 h0 hr => ⟨r, rfl, by rw [h0], hr, rfl, fun _ => by simp [vp_updL]⟩) (fun u1 h0 hr => Or.inl ⟨rfl, by rw [h0], hr, rfl, fun h9 => absurd (h9.symm.trans h0) (by decide)⟩) (fun u1 h0 hr => Or.inr ⟨rfl, by rw [h0], hr, rfl, fun h9 => absurd (h9.symm.trans h0) (by decide)⟩))
  refine xl_callS (n := 6) (As := [.ref (g.2.1 0), .int (xs (5 * k + 1)), .int (xs (5 * k + 2)), .int (xs (5 * k + 3)), .int (xs (5 * k + 4)), .ref o]) (rest := []) C hZ hAst hM ⟨kw_cw_call, kw_853, kw_854, kw_0⟩ ⟨by decide +kernel, by decide +kernel, by decide +kernel⟩ rfl ⟨Nat.le_of_ble_eq_true rfl, Nat.le_of_ble_eq_true rfl⟩ hl.1 rfl (Nat.le_of_ble_eq_true rfl) hA hK hP hD hS ⟨by show 30 + 11 * k + 1 ≤ 601024; omega, by show 8205 + 56 * k + 6 ≤ 7293034; omega⟩ ld_law_454 (fun rv w H locs hPo hP2 hD2 hS2 => ?_)
  obtain ⟨rfl, hR1, hw2, hout⟩ := hPo
  have e1 := e1
  obtain ⟨wz, wq, wo⟩ := w
  obtain ⟨vz, vq, vo⟩ := v
  cases hw2
  have hP := hP2
  have hD := hD2
  have hS := hS2
  refine W.widen (k := (30 + 11 * k + 1)) (n := (8205 + 56 * k + 6)) (Nat.le_refl _) (Nat.le_refl _) ?_
  refine lv_istore hx hb ld_law_457 hl (by decide) rfl (fun ls hl => ?_)
  refine lv_aload_n hx hb ld_law_459 rfl (lv_at hl 3 rfl) ?_
  refine lv_aload_n hx hb ld_law_460 rfl (lv_at hl 1 rfl) ?_
  refine lv_iload hx hb ld_law_461 (lv_at hl 5 rfl) ?_
  refine lv_iconst (v := (1 : Int32)) hx hb ld_law_463 (by decide) ?_
  refine lv_iadd hx hb ld_law_464 ?_
  refine ll_sld (n := 5 * k + 1) hx hb hX hbl hbA hS (by rw [show (1 : Int32) = nI 1 from rfl, nI_add]) (by omega) hL ld_law_465 ?_
  refine lv_aload_n hx hb ld_law_466 rfl (lv_at hl 1 rfl) ?_
  refine lv_iload hx hb ld_law_467 (lv_at hl 5 rfl) ?_
  refine lv_iconst (v := (2 : Int32)) hx hb ld_law_469 (by decide) ?_
  refine lv_iadd hx hb ld_law_470 ?_
  refine ll_sld (n := 5 * k + 2) hx hb hX hbl hbA hS (by rw [show (2 : Int32) = nI 2 from rfl, nI_add]) (by omega) hL ld_law_471 ?_
  refine lv_aload_n hx hb ld_law_472 rfl (lv_at hl 1 rfl) ?_
  refine lv_iload hx hb ld_law_473 (lv_at hl 5 rfl) ?_
  refine lv_iconst (v := (3 : Int32)) hx hb ld_law_475 (by decide) ?_
  refine lv_iadd hx hb ld_law_476 ?_
  refine ll_sld (n := 5 * k + 3) hx hb hX hbl hbA hS (by rw [show (3 : Int32) = nI 3 from rfl, nI_add]) (by omega) hL ld_law_477 ?_
  refine lv_aload_n hx hb ld_law_478 rfl (lv_at hl 1 rfl) ?_
  refine lv_iload hx hb ld_law_479 (lv_at hl 5 rfl) ?_
  refine lv_iconst (v := (4 : Int32)) hx hb ld_law_481 (by decide) ?_
  refine lv_iadd hx hb ld_law_482 ?_
  refine ll_sld (n := 5 * k + 4) hx hb hX hbl hbA hS (by rw [show (4 : Int32) = nI 4 from rfl, nI_add]) (by omega) hL ld_law_483 ?_
  refine xx_callV (cells1 := (30 + 11 * k + 1)) (slots1 := (8205 + 56 * k + 6)) (n := 4) (As := [.int (xs (5 * k + 1)), .int (xs (5 * k + 2)), .int (xs (5 * k + 3)), .int (xs (5 * k + 4))]) (rest := []) C (ll_mq (v := (wz, wq, wo)) (qc_Model_call l (ll_q g aq) (wz, wq, wo).2.1 (xs (5 * k + 1)) (xs (5 * k + 2)) (xs (5 * k + 3)) (xs (5 * k + 4)) r w1 e1)) ⟨kw_1144, kw_1141, kw_1142, kw_1143, kw_9⟩ ⟨by decide +kernel, by decide +kernel, by decide +kernel⟩ rfl ⟨Nat.le_of_ble_eq_true rfl, Nat.le_of_ble_eq_true rfl⟩ 0 rfl rfl hl.1 rfl (Nat.le_of_ble_eq_true rfl) hA hK hP hD hS ⟨by show 30 + 11 * k + 1 + 0 ≤ 601024; omega, by show 8205 + 56 * k + 6 + 0 ≤ 7293034; omega⟩ rfl rfl rfl ld_law_484 (fun H locs hP hD hS => ?_)
  refine lv_istore hx hb ld_law_487 hl (by decide) rfl (fun ls hl => ?_)
  refine lv_aload_n hx hb ld_law_489 rfl (lv_at hl 4 rfl) ?_
  refine xx_callV (cells1 := (30 + 11 * k + 1)) (slots1 := (8205 + 56 * k + 6)) (n := 0) (As := []) (rest := []) C (ll_mq (v := ((wz, wq, wo).1, w1, (wz, wq, wo).2.2)) (qc_Model_thrown l (ll_q g aq) ((wz, wq, wo).1, w1, (wz, wq, wo).2.2).2.1 kk w2 e2)) ⟨kw_970, kw_967, kw_968, kw_969, kw_9⟩ ⟨by decide +kernel, by decide +kernel, by decide +kernel⟩ rfl ⟨Nat.le_of_ble_eq_true rfl, Nat.le_of_ble_eq_true rfl⟩ 0 rfl rfl hl.1 rfl (Nat.le_of_ble_eq_true rfl) hA hK hP hD hS ⟨by show 30 + 11 * k + 1 + 0 ≤ 601024; omega, by show 8205 + 56 * k + 6 + 0 ≤ 7293034; omega⟩ rfl rfl rfl ld_law_490 (fun H locs hP hD hS => ?_)
  refine lv_iload hx hb ld_law_493 (lv_at hl 1 rfl) ?_
  refine lv_icmp_eq (tgt := 500) hx hb ld_law_495 (by decide) (fun _ => ?_) (fun hc => absurd rfl hc)
  refine lv_iload hx hb ld_law_500 (lv_at hl 1 rfl) ?_
  refine lv_if_ne (tgt := 517) hx hb ld_law_502 (by decide) (fun hc => ?_) (fun hc => ?_)
  · refine lv_goto (tgt := 750) hx hb ld_law_517 (by decide) ?_
    exact hend (((wz, wq, wo).1, w1, (wz, wq, wo).2.2).1, w2, ((wz, wq, wo).1, w1, (wz, wq, wo).2.2).2.2) _ _ _ _ _ (by show 30 + 11 * k + 1 ≤ 30 + 11 * (k + 1); omega) (by show 8205 + 56 * k + 6 ≤ 8205 + 56 * (k + 1); omega) hR1 (lv_sub hl [2, 3, 4, 5, 6] rfl) hP hD hS
  · refine lv_aload_n hx hb ld_law_505 rfl (lv_at hl 5 rfl) ?_
    refine lv_iconst (v := (0 : Int32)) hx hb ld_law_506 (by decide) ?_
    refine va_lald hx hb hK hP 15 4 rfl rfl xl_in0 ld_law_507 ?_
    refine lv_iload hx hb ld_law_508 (lv_at hl 0 rfl) ?_
    refine lv_i2l hx hb ld_law_510 rfl ?_
    refine W.lcmp hx hb ld_law_511 ?_
    rw [show ((((wz, wq, wo).1, w1, (wz, wq, wo).2.2).1, w2, ((wz, wq, wo).1, w1, (wz, wq, wo).2.2).2.2) : ll_S).2.2 ((0 : Int32).toNatClampNeg) = r.toInt64 from hout hc]
    refine lv_if_eq (tgt := 517) hx hb ld_law_512 (by decide) (fun _ => ?_) (fun h9 => absurd (ll_cmp _) h9)
    refine lv_goto (tgt := 750) hx hb ld_law_517 (by decide) ?_
    exact hend (((wz, wq, wo).1, w1, (wz, wq, wo).2.2).1, w2, ((wz, wq, wo).1, w1, (wz, wq, wo).2.2).2.2) _ _ _ _ _ (by show 30 + 11 * k + 1 ≤ 30 + 11 * (k + 1); omega) (by show 8205 + 56 * k + 6 ≤ 8205 + 56 * (k + 1); omega) hR1 (lv_sub hl [2, 3, 4, 5, 6] rfl) hP hD hS
set_option maxRecDepth 100000 in
theorem kw_cw_peek : Cond.codeWith ky_Law_peek kb_Law_peek 4 (some .int) [(0, 9, 12, 13)] ∈ xx_tb := xx_in (List.mem_append_right _ (List.mem_of_getElem? (i := 862) (by rfl))) (by decide +kernel)
theorem kw_860 : Cond.methodLink "ModuleLoaderLaw" 84 ky_Law_peek ∈ xx_tb := xx_in (List.mem_append_right _ (List.mem_of_getElem? (i := 860) (by decide +kernel))) (by decide +kernel)
theorem kw_861 : Cond.static ky_Law_peek ∈ xx_tb := xx_in (List.mem_append_right _ (List.mem_of_getElem? (i := 861) (by decide +kernel))) (by decide +kernel)
set_option maxRecDepth 100000 in
theorem kw_993 : Cond.code ky_Model_peek kb_Model_peek 2 (some .int) ∈ xx_tb := xx_in (List.mem_append_right _ (List.mem_of_getElem? (i := 993) (by rfl))) (by decide +kernel)
theorem kw_990 : Cond.methodLink "ModuleLoaderLaw" 87 ky_Model_peek ∈ xx_tb := xx_in (List.mem_append_right _ (List.mem_of_getElem? (i := 990) (by decide +kernel))) (by decide +kernel)
theorem kw_991 : Cond.instanceMethod ky_Model_peek ∈ xx_tb := xx_in (List.mem_append_right _ (List.mem_of_getElem? (i := 991) (by decide +kernel))) (by decide +kernel)
theorem kw_992 : Cond.selects "ModuleLoaderModel" ky_Model_peek ky_Model_peek ∈ xx_tb := xx_in (List.mem_append_right _ (List.mem_of_getElem? (i := 992) (by decide +kernel))) (by decide +kernel)
set_option maxHeartbeats 4000000 in
set_option maxRecDepth 100000 in
theorem ll_case_peek {p : Program} {l : Launch} {e : Env} {s : State} {m : MethodId} {b L : Nat} {xs : Nat → Int32} {below : List Frame} {meth : Method} {c : Code} {Q : State → Prop} {g : xx_G} {aq : Nat → Nat} {o : Nat} {A : Nat → Prop} {k : Nat} {v : ll_S} {H : Heap} {locs : List Loc} {ls : Array Slot} {Rel : zz_S → qm_S → Prop} (hSim : ll_Sim Rel) (hl0 : l.stackTraces = false) (C : xx_C p s m #[Value.ref b] meth c code 7 kr_Law (some .boolean)) (hZ : xw_Z s) (hAst : ∀ (q : Nat) (x : Cell), s.heap[q]? = some x → x.vm.isStatics = true → ¬ A q) (hA : ∀ q, s.heap.size ≤ q → A q) (hK : va_K g.1 xx_cls (ll_T g) s) (hX : va_X b L xs s s.heap) (hbl : b < s.heap.size) (hbA : ¬ A b) (hL : L ≤ 2560) (hk : 5 * k + 5 ≤ L) (hR : Rel v.1 v.2.1) (hl : lv_has ls 7 [(0, .ref b), (1, .ref (g.2.1 0)), (2, .ref (aq 0)), (3, .ref o), (4, .int (nI (5 * k)))]) (hP : va_P g.1 xx_cls (ll_W g aq o v) H) (hD : va_D A (ll_W g aq o v)) (hS : va_S A s.heap H locs) (hend : ∀ (v1 : ll_S) (H : Heap) (locs : List Loc) (ls : Array Slot) (cs ss : Nat), cs ≤ 30 + 11 * (k + 1) → ss ≤ 8205 + 56 * (k + 1) → Rel v1.1 v1.2.1 → lv_has ls 7 [(0, .ref b), (1, .ref (g.2.1 0)), (2, .ref (aq 0)), (3, .ref o), (4, .int (nI (5 * k)))] → va_P g.1 xx_cls (ll_W g aq o v1) H → va_D A (ll_W g aq o v1) → va_S A s.heap H locs → W p l e room_1 s m #[Value.ref b] below meth c H locs cs ss Q (F0 m 750 ls [])) : W p l e room_1 s m #[Value.ref b] below meth c H locs (30 + 11 * k) (8205 + 56 * k) Q (F0 m 520 ls []) := by
  have hx := C.1
  have hb := C.2.1
  have hown := C.2.2.2.1
  have hts := C.2.2.2.2.1
  obtain ⟨r, w1, kk, w2, e1, e2, hF⟩ := hSim.2.2.2.2.2.2.2.2.2.2.2.2.2.2.2.2 v.1 v.2.1 (xs (5 * k + 1)) hR
  refine lv_aload_n hx hb ld_law_520 rfl (lv_at hl 1 rfl) ?_
  refine lv_aload_n hx hb ld_law_521 rfl (lv_at hl 0 rfl) ?_
  refine lv_iload hx hb ld_law_522 (lv_at hl 4 rfl) ?_
  refine lv_iconst (v := (1 : Int32)) hx hb ld_law_524 (by decide) ?_
  refine lv_iadd hx hb ld_law_525 ?_
  refine ll_sld (n := 5 * k + 1) hx hb hX hbl hbA hS (by rw [show (1 : Int32) = nI 1 from rfl, nI_add]) (by omega) hL ld_law_526 ?_
  refine lv_aload_n hx hb ld_law_527 rfl (lv_at hl 3 rfl) ?_
  have hM := lc_peek l hl0 g aq o v (xs (5 * k + 1)) (fun rv w => rv = some (.int kk) ∧ Rel w.1 w2 ∧ w.2.1 = v.2.1 ∧ (kk = 0 → w.2.2 ((0 : Int32).toNatClampNeg) = r.toInt64)) (hF _ _ (fun u1 h0 hr => ⟨r, rfl, by rw [h0], hr, rfl, fun _ => by simp [vp_updL]⟩) (fun u1 h0 hr => ⟨rfl, by rw [h0], hr, rfl, fun h9 => absurd (h9.symm.trans h0) (by decide)⟩))
  refine xl_callS (n := 3) (As := [.ref (g.2.1 0), .int (xs (5 * k + 1)), .ref o]) (rest := []) C hZ hAst hM ⟨kw_cw_peek, kw_860, kw_861, kw_0⟩ ⟨by decide +kernel, by decide +kernel, by decide +kernel⟩ rfl ⟨Nat.le_of_ble_eq_true rfl, Nat.le_of_ble_eq_true rfl⟩ hl.1 rfl (Nat.le_of_ble_eq_true rfl) hA hK hP hD hS ⟨by show 30 + 11 * k + 1 ≤ 601024; omega, by show 8205 + 56 * k + 6 ≤ 7293034; omega⟩ ld_law_528 (fun rv w H locs hPo hP2 hD2 hS2 => ?_)
  obtain ⟨rfl, hR1, hw2, hout⟩ := hPo
  have e1 := e1
  obtain ⟨wz, wq, wo⟩ := w
  obtain ⟨vz, vq, vo⟩ := v
  cases hw2
  have hP := hP2
  have hD := hD2
  have hS := hS2
  refine W.widen (k := (30 + 11 * k + 1)) (n := (8205 + 56 * k + 6)) (Nat.le_refl _) (Nat.le_refl _) ?_
  refine lv_istore hx hb ld_law_531 hl (by decide) rfl (fun ls hl => ?_)
  refine lv_aload_n hx hb ld_law_533 rfl (lv_at hl 3 rfl) ?_
  refine lv_aload_n hx hb ld_law_534 rfl (lv_at hl 1 rfl) ?_
  refine lv_iload hx hb ld_law_535 (lv_at hl 5 rfl) ?_
  refine lv_iconst (v := (1 : Int32)) hx hb ld_law_537 (by decide) ?_
  refine lv_iadd hx hb ld_law_538 ?_
  refine ll_sld (n := 5 * k + 1) hx hb hX hbl hbA hS (by rw [show (1 : Int32) = nI 1 from rfl, nI_add]) (by omega) hL ld_law_539 ?_
  refine xx_callV (cells1 := (30 + 11 * k + 1)) (slots1 := (8205 + 56 * k + 6)) (n := 1) (As := [.int (xs (5 * k + 1))]) (rest := []) C (ll_mq (v := (wz, wq, wo)) (qc_Model_peek l (ll_q g aq) (wz, wq, wo).2.1 (xs (5 * k + 1)) r w1 e1)) ⟨kw_993, kw_990, kw_991, kw_992, kw_9⟩ ⟨by decide +kernel, by decide +kernel, by decide +kernel⟩ rfl ⟨Nat.le_of_ble_eq_true rfl, Nat.le_of_ble_eq_true rfl⟩ 0 rfl rfl hl.1 rfl (Nat.le_of_ble_eq_true rfl) hA hK hP hD hS ⟨by show 30 + 11 * k + 1 + 0 ≤ 601024; omega, by show 8205 + 56 * k + 6 + 0 ≤ 7293034; omega⟩ rfl rfl rfl ld_law_540 (fun H locs hP hD hS => ?_)
  refine lv_istore hx hb ld_law_543 hl (by decide) rfl (fun ls hl => ?_)
  refine lv_aload_n hx hb ld_law_545 rfl (lv_at hl 4 rfl) ?_
  refine xx_callV (cells1 := (30 + 11 * k + 1)) (slots1 := (8205 + 56 * k + 6)) (n := 0) (As := []) (rest := []) C (ll_mq (v := ((wz, wq, wo).1, w1, (wz, wq, wo).2.2)) (qc_Model_thrown l (ll_q g aq) ((wz, wq, wo).1, w1, (wz, wq, wo).2.2).2.1 kk w2 e2)) ⟨kw_970, kw_967, kw_968, kw_969, kw_9⟩ ⟨by decide +kernel, by decide +kernel, by decide +kernel⟩ rfl ⟨Nat.le_of_ble_eq_true rfl, Nat.le_of_ble_eq_true rfl⟩ 0 rfl rfl hl.1 rfl (Nat.le_of_ble_eq_true rfl) hA hK hP hD hS ⟨by show 30 + 11 * k + 1 + 0 ≤ 601024; omega, by show 8205 + 56 * k + 6 + 0 ≤ 7293034; omega⟩ rfl rfl rfl ld_law_546 (fun H locs hP hD hS => ?_)
  refine lv_iload hx hb ld_law_549 (lv_at hl 1 rfl) ?_
  refine lv_icmp_eq (tgt := 556) hx hb ld_law_551 (by decide) (fun _ => ?_) (fun hc => absurd rfl hc)
  refine lv_iload hx hb ld_law_556 (lv_at hl 1 rfl) ?_
  refine lv_if_ne (tgt := 573) hx hb ld_law_558 (by decide) (fun hc => ?_) (fun hc => ?_)
  · refine lv_goto (tgt := 750) hx hb ld_law_573 (by decide) ?_
    exact hend (((wz, wq, wo).1, w1, (wz, wq, wo).2.2).1, w2, ((wz, wq, wo).1, w1, (wz, wq, wo).2.2).2.2) _ _ _ _ _ (by show 30 + 11 * k + 1 ≤ 30 + 11 * (k + 1); omega) (by show 8205 + 56 * k + 6 ≤ 8205 + 56 * (k + 1); omega) hR1 (lv_sub hl [2, 3, 4, 5, 6] rfl) hP hD hS
  · refine lv_aload_n hx hb ld_law_561 rfl (lv_at hl 5 rfl) ?_
    refine lv_iconst (v := (0 : Int32)) hx hb ld_law_562 (by decide) ?_
    refine va_lald hx hb hK hP 15 4 rfl rfl xl_in0 ld_law_563 ?_
    refine lv_iload hx hb ld_law_564 (lv_at hl 0 rfl) ?_
    refine lv_i2l hx hb ld_law_566 rfl ?_
    refine W.lcmp hx hb ld_law_567 ?_
    rw [show ((((wz, wq, wo).1, w1, (wz, wq, wo).2.2).1, w2, ((wz, wq, wo).1, w1, (wz, wq, wo).2.2).2.2) : ll_S).2.2 ((0 : Int32).toNatClampNeg) = r.toInt64 from hout hc]
    refine lv_if_eq (tgt := 573) hx hb ld_law_568 (by decide) (fun _ => ?_) (fun h9 => absurd (ll_cmp _) h9)
    refine lv_goto (tgt := 750) hx hb ld_law_573 (by decide) ?_
    exact hend (((wz, wq, wo).1, w1, (wz, wq, wo).2.2).1, w2, ((wz, wq, wo).1, w1, (wz, wq, wo).2.2).2.2) _ _ _ _ _ (by show 30 + 11 * k + 1 ≤ 30 + 11 * (k + 1); omega) (by show 8205 + 56 * k + 6 ≤ 8205 + 56 * (k + 1); omega) hR1 (lv_sub hl [2, 3, 4, 5, 6] rfl) hP hD hS
set_option maxRecDepth 100000 in
theorem kw_251 : Cond.code ky_Loader_isProtected kb_Loader_isProtected 2 (some .boolean) ∈ xx_tb := xx_in (List.mem_append_right _ (List.mem_of_getElem? (i := 251) (by rfl))) (by decide +kernel)
theorem kw_248 : Cond.methodLink "ModuleLoaderLaw" 88 ky_Loader_isProtected ∈ xx_tb := xx_in (List.mem_append_right _ (List.mem_of_getElem? (i := 248) (by decide +kernel))) (by decide +kernel)
theorem kw_249 : Cond.instanceMethod ky_Loader_isProtected ∈ xx_tb := xx_in (List.mem_append_right _ (List.mem_of_getElem? (i := 249) (by decide +kernel))) (by decide +kernel)
theorem kw_250 : Cond.selects "ModuleLoader" ky_Loader_isProtected ky_Loader_isProtected ∈ xx_tb := xx_in (List.mem_append_right _ (List.mem_of_getElem? (i := 250) (by decide +kernel))) (by decide +kernel)
set_option maxRecDepth 100000 in
theorem kw_974 : Cond.code ky_Model_isProtected kb_Model_isProtected 2 (some .boolean) ∈ xx_tb := xx_in (List.mem_append_right _ (List.mem_of_getElem? (i := 974) (by rfl))) (by decide +kernel)
theorem kw_971 : Cond.methodLink "ModuleLoaderLaw" 92 ky_Model_isProtected ∈ xx_tb := xx_in (List.mem_append_right _ (List.mem_of_getElem? (i := 971) (by decide +kernel))) (by decide +kernel)
theorem kw_972 : Cond.instanceMethod ky_Model_isProtected ∈ xx_tb := xx_in (List.mem_append_right _ (List.mem_of_getElem? (i := 972) (by decide +kernel))) (by decide +kernel)
theorem kw_973 : Cond.selects "ModuleLoaderModel" ky_Model_isProtected ky_Model_isProtected ∈ xx_tb := xx_in (List.mem_append_right _ (List.mem_of_getElem? (i := 973) (by decide +kernel))) (by decide +kernel)
set_option maxHeartbeats 4000000 in
set_option maxRecDepth 100000 in
theorem ll_case_isProtected {p : Program} {l : Launch} {e : Env} {s : State} {m : MethodId} {b L : Nat} {xs : Nat → Int32} {below : List Frame} {meth : Method} {c : Code} {Q : State → Prop} {g : xx_G} {aq : Nat → Nat} {o : Nat} {A : Nat → Prop} {k : Nat} {v : ll_S} {H : Heap} {locs : List Loc} {ls : Array Slot} {Rel : zz_S → qm_S → Prop} (hSim : ll_Sim Rel) (hl0 : l.stackTraces = false) (C : xx_C p s m #[Value.ref b] meth c code 7 kr_Law (some .boolean)) (hZ : xw_Z s) (hAst : ∀ (q : Nat) (x : Cell), s.heap[q]? = some x → x.vm.isStatics = true → ¬ A q) (hA : ∀ q, s.heap.size ≤ q → A q) (hK : va_K g.1 xx_cls (ll_T g) s) (hX : va_X b L xs s s.heap) (hbl : b < s.heap.size) (hbA : ¬ A b) (hL : L ≤ 2560) (hk : 5 * k + 5 ≤ L) (hR : Rel v.1 v.2.1) (hl : lv_has ls 7 [(0, .ref b), (1, .ref (g.2.1 0)), (2, .ref (aq 0)), (3, .ref o), (4, .int (nI (5 * k)))]) (hP : va_P g.1 xx_cls (ll_W g aq o v) H) (hD : va_D A (ll_W g aq o v)) (hS : va_S A s.heap H locs) (hend : ∀ (v1 : ll_S) (H : Heap) (locs : List Loc) (ls : Array Slot) (cs ss : Nat), cs ≤ 30 + 11 * (k + 1) → ss ≤ 8205 + 56 * (k + 1) → Rel v1.1 v1.2.1 → lv_has ls 7 [(0, .ref b), (1, .ref (g.2.1 0)), (2, .ref (aq 0)), (3, .ref o), (4, .int (nI (5 * k)))] → va_P g.1 xx_cls (ll_W g aq o v1) H → va_D A (ll_W g aq o v1) → va_S A s.heap H locs → W p l e room_1 s m #[Value.ref b] below meth c H locs cs ss Q (F0 m 750 ls [])) : W p l e room_1 s m #[Value.ref b] below meth c H locs (30 + 11 * k) (8205 + 56 * k) Q (F0 m 576 ls []) := by
  have hx := C.1
  have hb := C.2.1
  have hown := C.2.2.2.1
  have hts := C.2.2.2.2.1
  obtain ⟨r, u1, w1, e1, e2, hR1⟩ := hSim.2.2.2.2.2.1 v.1 v.2.1 (xs (5 * k + 1)) hR
  refine lv_aload_n hx hb ld_law_576 rfl (lv_at hl 1 rfl) ?_
  refine lv_aload_n hx hb ld_law_577 rfl (lv_at hl 0 rfl) ?_
  refine lv_iload hx hb ld_law_578 (lv_at hl 4 rfl) ?_
  refine lv_iconst (v := (1 : Int32)) hx hb ld_law_580 (by decide) ?_
  refine lv_iadd hx hb ld_law_581 ?_
  refine ll_sld (n := 5 * k + 1) hx hb hX hbl hbA hS (by rw [show (1 : Int32) = nI 1 from rfl, nI_add]) (by omega) hL ld_law_582 ?_
  refine xx_callV (cells1 := (30 + 11 * k)) (slots1 := (8205 + 56 * k)) (n := 1) (As := [.int (xs (5 * k + 1))]) (rest := []) C (ll_mz (v := v) (zc_Loader_isProtected l g v.1 (xs (5 * k + 1)) r u1 e1)) ⟨kw_251, kw_248, kw_249, kw_250, kw_1⟩ ⟨by decide +kernel, by decide +kernel, by decide +kernel⟩ rfl ⟨Nat.le_of_ble_eq_true rfl, Nat.le_of_ble_eq_true rfl⟩ 16 rfl rfl hl.1 rfl (Nat.le_of_ble_eq_true rfl) hA hK hP hD hS ⟨by show 30 + 11 * k + 0 ≤ 601024; omega, by show 8205 + 56 * k + 0 ≤ 7293034; omega⟩ rfl rfl rfl ld_law_583 (fun H locs hP hD hS => ?_)
  refine lv_aload_n hx hb ld_law_586 rfl (lv_at hl 2 rfl) ?_
  refine lv_aload_n hx hb ld_law_587 rfl (lv_at hl 0 rfl) ?_
  refine lv_iload hx hb ld_law_588 (lv_at hl 4 rfl) ?_
  refine lv_iconst (v := (1 : Int32)) hx hb ld_law_590 (by decide) ?_
  refine lv_iadd hx hb ld_law_591 ?_
  refine ll_sld (n := 5 * k + 1) hx hb hX hbl hbA hS (by rw [show (1 : Int32) = nI 1 from rfl, nI_add]) (by omega) hL ld_law_592 ?_
  refine xx_callV (cells1 := (30 + 11 * k)) (slots1 := (8205 + 56 * k)) (n := 1) (As := [.int (xs (5 * k + 1))]) (rest := [.int r]) C (ll_mq (v := (u1, v.2)) (qc_Model_isProtected l (ll_q g aq) (u1, v.2).2.1 (xs (5 * k + 1)) r w1 e2)) ⟨kw_974, kw_971, kw_972, kw_973, kw_9⟩ ⟨by decide +kernel, by decide +kernel, by decide +kernel⟩ rfl ⟨Nat.le_of_ble_eq_true rfl, Nat.le_of_ble_eq_true rfl⟩ 0 rfl rfl hl.1 rfl (Nat.le_of_ble_eq_true rfl) hA hK hP hD hS ⟨by show 30 + 11 * k + 0 + 0 ≤ 601024; omega, by show 8205 + 56 * k + 0 + 0 ≤ 7293034; omega⟩ rfl rfl rfl ld_law_593 (fun H locs hP hD hS => ?_)
  refine lv_icmp_eq (tgt := 750) hx hb ld_law_596 (by decide) (fun _ => ?_) (fun hc => absurd rfl hc)
  exact hend ((u1, v.2).1, w1, (u1, v.2).2.2) _ _ _ _ _ (by show 30 + 11 * k + 0 ≤ 30 + 11 * (k + 1); omega) (by show 8205 + 56 * k + 0 ≤ 8205 + 56 * (k + 1); omega) hR1 (lv_sub hl [0, 1, 2, 3, 4] rfl) hP hD hS
set_option maxRecDepth 100000 in
theorem kw_259 : Cond.code ky_Loader_register kb_Loader_register 2 (some .int) ∈ xx_tb := xx_in (List.mem_append_right _ (List.mem_of_getElem? (i := 259) (by rfl))) (by decide +kernel)
theorem kw_256 : Cond.methodLink "ModuleLoaderLaw" 93 ky_Loader_register ∈ xx_tb := xx_in (List.mem_append_right _ (List.mem_of_getElem? (i := 256) (by decide +kernel))) (by decide +kernel)
theorem kw_257 : Cond.instanceMethod ky_Loader_register ∈ xx_tb := xx_in (List.mem_append_right _ (List.mem_of_getElem? (i := 257) (by decide +kernel))) (by decide +kernel)
theorem kw_258 : Cond.selects "ModuleLoader" ky_Loader_register ky_Loader_register ∈ xx_tb := xx_in (List.mem_append_right _ (List.mem_of_getElem? (i := 258) (by decide +kernel))) (by decide +kernel)
set_option maxRecDepth 100000 in
theorem kw_1152 : Cond.code ky_Model_register kb_Model_register 2 (some .int) ∈ xx_tb := xx_in (List.mem_append_right _ (List.mem_of_getElem? (i := 1152) (by rfl))) (by decide +kernel)
theorem kw_1149 : Cond.methodLink "ModuleLoaderLaw" 96 ky_Model_register ∈ xx_tb := xx_in (List.mem_append_right _ (List.mem_of_getElem? (i := 1149) (by decide +kernel))) (by decide +kernel)
theorem kw_1150 : Cond.instanceMethod ky_Model_register ∈ xx_tb := xx_in (List.mem_append_right _ (List.mem_of_getElem? (i := 1150) (by decide +kernel))) (by decide +kernel)
theorem kw_1151 : Cond.selects "ModuleLoaderModel" ky_Model_register ky_Model_register ∈ xx_tb := xx_in (List.mem_append_right _ (List.mem_of_getElem? (i := 1151) (by decide +kernel))) (by decide +kernel)
set_option maxHeartbeats 4000000 in
set_option maxRecDepth 100000 in
theorem ll_case_register {p : Program} {l : Launch} {e : Env} {s : State} {m : MethodId} {b L : Nat} {xs : Nat → Int32} {below : List Frame} {meth : Method} {c : Code} {Q : State → Prop} {g : xx_G} {aq : Nat → Nat} {o : Nat} {A : Nat → Prop} {k : Nat} {v : ll_S} {H : Heap} {locs : List Loc} {ls : Array Slot} {Rel : zz_S → qm_S → Prop} (hSim : ll_Sim Rel) (hl0 : l.stackTraces = false) (C : xx_C p s m #[Value.ref b] meth c code 7 kr_Law (some .boolean)) (hZ : xw_Z s) (hAst : ∀ (q : Nat) (x : Cell), s.heap[q]? = some x → x.vm.isStatics = true → ¬ A q) (hA : ∀ q, s.heap.size ≤ q → A q) (hK : va_K g.1 xx_cls (ll_T g) s) (hX : va_X b L xs s s.heap) (hbl : b < s.heap.size) (hbA : ¬ A b) (hL : L ≤ 2560) (hk : 5 * k + 5 ≤ L) (hR : Rel v.1 v.2.1) (hl : lv_has ls 7 [(0, .ref b), (1, .ref (g.2.1 0)), (2, .ref (aq 0)), (3, .ref o), (4, .int (nI (5 * k)))]) (hP : va_P g.1 xx_cls (ll_W g aq o v) H) (hD : va_D A (ll_W g aq o v)) (hS : va_S A s.heap H locs) (hend : ∀ (v1 : ll_S) (H : Heap) (locs : List Loc) (ls : Array Slot) (cs ss : Nat), cs ≤ 30 + 11 * (k + 1) → ss ≤ 8205 + 56 * (k + 1) → Rel v1.1 v1.2.1 → lv_has ls 7 [(0, .ref b), (1, .ref (g.2.1 0)), (2, .ref (aq 0)), (3, .ref o), (4, .int (nI (5 * k)))] → va_P g.1 xx_cls (ll_W g aq o v1) H → va_D A (ll_W g aq o v1) → va_S A s.heap H locs → W p l e room_1 s m #[Value.ref b] below meth c H locs cs ss Q (F0 m 750 ls [])) : W p l e room_1 s m #[Value.ref b] below meth c H locs (30 + 11 * k) (8205 + 56 * k) Q (F0 m 601 ls []) := by
  have hx := C.1
  have hb := C.2.1
  have hown := C.2.2.2.1
  have hts := C.2.2.2.2.1
  obtain ⟨r, u1, w1, e1, e2, hR1⟩ := hSim.2.2.2.2.2.2.1 v.1 v.2.1 (xs (5 * k + 1)) hR
  refine lv_aload_n hx hb ld_law_601 rfl (lv_at hl 1 rfl) ?_
  refine lv_aload_n hx hb ld_law_602 rfl (lv_at hl 0 rfl) ?_
  refine lv_iload hx hb ld_law_603 (lv_at hl 4 rfl) ?_
  refine lv_iconst (v := (1 : Int32)) hx hb ld_law_605 (by decide) ?_
  refine lv_iadd hx hb ld_law_606 ?_
  refine ll_sld (n := 5 * k + 1) hx hb hX hbl hbA hS (by rw [show (1 : Int32) = nI 1 from rfl, nI_add]) (by omega) hL ld_law_607 ?_
  refine xx_callV (cells1 := (30 + 11 * k)) (slots1 := (8205 + 56 * k)) (n := 1) (As := [.int (xs (5 * k + 1))]) (rest := []) C (ll_mz (v := v) (zc_Loader_register l g v.1 (xs (5 * k + 1)) r u1 e1)) ⟨kw_259, kw_256, kw_257, kw_258, kw_1⟩ ⟨by decide +kernel, by decide +kernel, by decide +kernel⟩ rfl ⟨Nat.le_of_ble_eq_true rfl, Nat.le_of_ble_eq_true rfl⟩ 16 rfl rfl hl.1 rfl (Nat.le_of_ble_eq_true rfl) hA hK hP hD hS ⟨by show 30 + 11 * k + 0 ≤ 601024; omega, by show 8205 + 56 * k + 0 ≤ 7293034; omega⟩ rfl rfl rfl ld_law_608 (fun H locs hP hD hS => ?_)
  refine lv_aload_n hx hb ld_law_611 rfl (lv_at hl 2 rfl) ?_
  refine lv_aload_n hx hb ld_law_612 rfl (lv_at hl 0 rfl) ?_
  refine lv_iload hx hb ld_law_613 (lv_at hl 4 rfl) ?_
  refine lv_iconst (v := (1 : Int32)) hx hb ld_law_615 (by decide) ?_
  refine lv_iadd hx hb ld_law_616 ?_
  refine ll_sld (n := 5 * k + 1) hx hb hX hbl hbA hS (by rw [show (1 : Int32) = nI 1 from rfl, nI_add]) (by omega) hL ld_law_617 ?_
  refine xx_callV (cells1 := (30 + 11 * k)) (slots1 := (8205 + 56 * k)) (n := 1) (As := [.int (xs (5 * k + 1))]) (rest := [.int r]) C (ll_mq (v := (u1, v.2)) (qc_Model_register l (ll_q g aq) (u1, v.2).2.1 (xs (5 * k + 1)) r w1 e2)) ⟨kw_1152, kw_1149, kw_1150, kw_1151, kw_9⟩ ⟨by decide +kernel, by decide +kernel, by decide +kernel⟩ rfl ⟨Nat.le_of_ble_eq_true rfl, Nat.le_of_ble_eq_true rfl⟩ 0 rfl rfl hl.1 rfl (Nat.le_of_ble_eq_true rfl) hA hK hP hD hS ⟨by show 30 + 11 * k + 0 + 0 ≤ 601024; omega, by show 8205 + 56 * k + 0 + 0 ≤ 7293034; omega⟩ rfl rfl rfl ld_law_618 (fun H locs hP hD hS => ?_)
  refine lv_icmp_eq (tgt := 750) hx hb ld_law_621 (by decide) (fun _ => ?_) (fun hc => absurd rfl hc)
  exact hend ((u1, v.2).1, w1, (u1, v.2).2.2) _ _ _ _ _ (by show 30 + 11 * k + 0 ≤ 30 + 11 * (k + 1); omega) (by show 8205 + 56 * k + 0 ≤ 8205 + 56 * (k + 1); omega) hR1 (lv_sub hl [0, 1, 2, 3, 4] rfl) hP hD hS
set_option maxRecDepth 100000 in
theorem kw_267 : Cond.code ky_Loader_lookup kb_Loader_lookup 4 (some .int) ∈ xx_tb := xx_in (List.mem_append_right _ (List.mem_of_getElem? (i := 267) (by rfl))) (by decide +kernel)
theorem kw_264 : Cond.methodLink "ModuleLoaderLaw" 97 ky_Loader_lookup ∈ xx_tb := xx_in (List.mem_append_right _ (List.mem_of_getElem? (i := 264) (by decide +kernel))) (by decide +kernel)
theorem kw_265 : Cond.instanceMethod ky_Loader_lookup ∈ xx_tb := xx_in (List.mem_append_right _ (List.mem_of_getElem? (i := 265) (by decide +kernel))) (by decide +kernel)
theorem kw_266 : Cond.selects "ModuleLoader" ky_Loader_lookup ky_Loader_lookup ∈ xx_tb := xx_in (List.mem_append_right _ (List.mem_of_getElem? (i := 266) (by decide +kernel))) (by decide +kernel)
set_option maxRecDepth 100000 in
theorem kw_1156 : Cond.code ky_Model_lookup kb_Model_lookup 4 (some .int) ∈ xx_tb := xx_in (List.mem_append_right _ (List.mem_of_getElem? (i := 1156) (by rfl))) (by decide +kernel)
theorem kw_1153 : Cond.methodLink "ModuleLoaderLaw" 100 ky_Model_lookup ∈ xx_tb := xx_in (List.mem_append_right _ (List.mem_of_getElem? (i := 1153) (by decide +kernel))) (by decide +kernel)
theorem kw_1154 : Cond.instanceMethod ky_Model_lookup ∈ xx_tb := xx_in (List.mem_append_right _ (List.mem_of_getElem? (i := 1154) (by decide +kernel))) (by decide +kernel)
theorem kw_1155 : Cond.selects "ModuleLoaderModel" ky_Model_lookup ky_Model_lookup ∈ xx_tb := xx_in (List.mem_append_right _ (List.mem_of_getElem? (i := 1155) (by decide +kernel))) (by decide +kernel)
set_option maxHeartbeats 4000000 in
set_option maxRecDepth 100000 in
theorem ll_case_lookup {p : Program} {l : Launch} {e : Env} {s : State} {m : MethodId} {b L : Nat} {xs : Nat → Int32} {below : List Frame} {meth : Method} {c : Code} {Q : State → Prop} {g : xx_G} {aq : Nat → Nat} {o : Nat} {A : Nat → Prop} {k : Nat} {v : ll_S} {H : Heap} {locs : List Loc} {ls : Array Slot} {Rel : zz_S → qm_S → Prop} (hSim : ll_Sim Rel) (hl0 : l.stackTraces = false) (C : xx_C p s m #[Value.ref b] meth c code 7 kr_Law (some .boolean)) (hZ : xw_Z s) (hAst : ∀ (q : Nat) (x : Cell), s.heap[q]? = some x → x.vm.isStatics = true → ¬ A q) (hA : ∀ q, s.heap.size ≤ q → A q) (hK : va_K g.1 xx_cls (ll_T g) s) (hX : va_X b L xs s s.heap) (hbl : b < s.heap.size) (hbA : ¬ A b) (hL : L ≤ 2560) (hk : 5 * k + 5 ≤ L) (hR : Rel v.1 v.2.1) (hl : lv_has ls 7 [(0, .ref b), (1, .ref (g.2.1 0)), (2, .ref (aq 0)), (3, .ref o), (4, .int (nI (5 * k)))]) (hP : va_P g.1 xx_cls (ll_W g aq o v) H) (hD : va_D A (ll_W g aq o v)) (hS : va_S A s.heap H locs) (hend : ∀ (v1 : ll_S) (H : Heap) (locs : List Loc) (ls : Array Slot) (cs ss : Nat), cs ≤ 30 + 11 * (k + 1) → ss ≤ 8205 + 56 * (k + 1) → Rel v1.1 v1.2.1 → lv_has ls 7 [(0, .ref b), (1, .ref (g.2.1 0)), (2, .ref (aq 0)), (3, .ref o), (4, .int (nI (5 * k)))] → va_P g.1 xx_cls (ll_W g aq o v1) H → va_D A (ll_W g aq o v1) → va_S A s.heap H locs → W p l e room_1 s m #[Value.ref b] below meth c H locs cs ss Q (F0 m 750 ls [])) : W p l e room_1 s m #[Value.ref b] below meth c H locs (30 + 11 * k) (8205 + 56 * k) Q (F0 m 626 ls []) := by
  have hx := C.1
  have hb := C.2.1
  have hown := C.2.2.2.1
  have hts := C.2.2.2.2.1
  obtain ⟨r, u1, w1, e1, e2, hR1⟩ := hSim.2.2.2.2.2.2.2.1 v.1 v.2.1 (xs (5 * k + 1)) (xs (5 * k + 2)) hR
  refine lv_aload_n hx hb ld_law_626 rfl (lv_at hl 1 rfl) ?_
  refine lv_aload_n hx hb ld_law_627 rfl (lv_at hl 0 rfl) ?_
  refine lv_iload hx hb ld_law_628 (lv_at hl 4 rfl) ?_
  refine lv_iconst (v := (1 : Int32)) hx hb ld_law_630 (by decide) ?_
  refine lv_iadd hx hb ld_law_631 ?_
  refine ll_sld (n := 5 * k + 1) hx hb hX hbl hbA hS (by rw [show (1 : Int32) = nI 1 from rfl, nI_add]) (by omega) hL ld_law_632 ?_
  refine lv_aload_n hx hb ld_law_633 rfl (lv_at hl 0 rfl) ?_
  refine lv_iload hx hb ld_law_634 (lv_at hl 4 rfl) ?_
  refine lv_iconst (v := (2 : Int32)) hx hb ld_law_636 (by decide) ?_
  refine lv_iadd hx hb ld_law_637 ?_
  refine ll_sld (n := 5 * k + 2) hx hb hX hbl hbA hS (by rw [show (2 : Int32) = nI 2 from rfl, nI_add]) (by omega) hL ld_law_638 ?_
  refine xx_callV (cells1 := (30 + 11 * k)) (slots1 := (8205 + 56 * k)) (n := 2) (As := [.int (xs (5 * k + 1)), .int (xs (5 * k + 2))]) (rest := []) C (ll_mz (v := v) (zc_Loader_lookup l g v.1 (xs (5 * k + 1)) (xs (5 * k + 2)) r u1 e1)) ⟨kw_267, kw_264, kw_265, kw_266, kw_1⟩ ⟨by decide +kernel, by decide +kernel, by decide +kernel⟩ rfl ⟨Nat.le_of_ble_eq_true rfl, Nat.le_of_ble_eq_true rfl⟩ 16 rfl rfl hl.1 rfl (Nat.le_of_ble_eq_true rfl) hA hK hP hD hS ⟨by show 30 + 11 * k + 0 ≤ 601024; omega, by show 8205 + 56 * k + 0 ≤ 7293034; omega⟩ rfl rfl rfl ld_law_639 (fun H locs hP hD hS => ?_)
  refine lv_aload_n hx hb ld_law_642 rfl (lv_at hl 2 rfl) ?_
  refine lv_aload_n hx hb ld_law_643 rfl (lv_at hl 0 rfl) ?_
  refine lv_iload hx hb ld_law_644 (lv_at hl 4 rfl) ?_
  refine lv_iconst (v := (1 : Int32)) hx hb ld_law_646 (by decide) ?_
  refine lv_iadd hx hb ld_law_647 ?_
  refine ll_sld (n := 5 * k + 1) hx hb hX hbl hbA hS (by rw [show (1 : Int32) = nI 1 from rfl, nI_add]) (by omega) hL ld_law_648 ?_
  refine lv_aload_n hx hb ld_law_649 rfl (lv_at hl 0 rfl) ?_
  refine lv_iload hx hb ld_law_650 (lv_at hl 4 rfl) ?_
  refine lv_iconst (v := (2 : Int32)) hx hb ld_law_652 (by decide) ?_
  refine lv_iadd hx hb ld_law_653 ?_
  refine ll_sld (n := 5 * k + 2) hx hb hX hbl hbA hS (by rw [show (2 : Int32) = nI 2 from rfl, nI_add]) (by omega) hL ld_law_654 ?_
  refine xx_callV (cells1 := (30 + 11 * k)) (slots1 := (8205 + 56 * k)) (n := 2) (As := [.int (xs (5 * k + 1)), .int (xs (5 * k + 2))]) (rest := [.int r]) C (ll_mq (v := (u1, v.2)) (qc_Model_lookup l (ll_q g aq) (u1, v.2).2.1 (xs (5 * k + 1)) (xs (5 * k + 2)) r w1 e2)) ⟨kw_1156, kw_1153, kw_1154, kw_1155, kw_9⟩ ⟨by decide +kernel, by decide +kernel, by decide +kernel⟩ rfl ⟨Nat.le_of_ble_eq_true rfl, Nat.le_of_ble_eq_true rfl⟩ 0 rfl rfl hl.1 rfl (Nat.le_of_ble_eq_true rfl) hA hK hP hD hS ⟨by show 30 + 11 * k + 0 + 0 ≤ 601024; omega, by show 8205 + 56 * k + 0 + 0 ≤ 7293034; omega⟩ rfl rfl rfl ld_law_655 (fun H locs hP hD hS => ?_)
  refine lv_icmp_eq (tgt := 750) hx hb ld_law_658 (by decide) (fun _ => ?_) (fun hc => absurd rfl hc)
  exact hend ((u1, v.2).1, w1, (u1, v.2).2.2) _ _ _ _ _ (by show 30 + 11 * k + 0 ≤ 30 + 11 * (k + 1); omega) (by show 8205 + 56 * k + 0 ≤ 8205 + 56 * (k + 1); omega) hR1 (lv_sub hl [0, 1, 2, 3, 4] rfl) hP hD hS
set_option maxRecDepth 100000 in
theorem kw_275 : Cond.code ky_Loader_module kb_Loader_module 4 (some .int) ∈ xx_tb := xx_in (List.mem_append_right _ (List.mem_of_getElem? (i := 275) (by rfl))) (by decide +kernel)
theorem kw_272 : Cond.methodLink "ModuleLoaderLaw" 101 ky_Loader_module ∈ xx_tb := xx_in (List.mem_append_right _ (List.mem_of_getElem? (i := 272) (by decide +kernel))) (by decide +kernel)
theorem kw_273 : Cond.instanceMethod ky_Loader_module ∈ xx_tb := xx_in (List.mem_append_right _ (List.mem_of_getElem? (i := 273) (by decide +kernel))) (by decide +kernel)
theorem kw_274 : Cond.selects "ModuleLoader" ky_Loader_module ky_Loader_module ∈ xx_tb := xx_in (List.mem_append_right _ (List.mem_of_getElem? (i := 274) (by decide +kernel))) (by decide +kernel)
set_option maxRecDepth 100000 in
theorem kw_1160 : Cond.code ky_Model_module kb_Model_module 6 (some .int) ∈ xx_tb := xx_in (List.mem_append_right _ (List.mem_of_getElem? (i := 1160) (by rfl))) (by decide +kernel)
theorem kw_1157 : Cond.methodLink "ModuleLoaderLaw" 104 ky_Model_module ∈ xx_tb := xx_in (List.mem_append_right _ (List.mem_of_getElem? (i := 1157) (by decide +kernel))) (by decide +kernel)
theorem kw_1158 : Cond.instanceMethod ky_Model_module ∈ xx_tb := xx_in (List.mem_append_right _ (List.mem_of_getElem? (i := 1158) (by decide +kernel))) (by decide +kernel)
theorem kw_1159 : Cond.selects "ModuleLoaderModel" ky_Model_module ky_Model_module ∈ xx_tb := xx_in (List.mem_append_right _ (List.mem_of_getElem? (i := 1159) (by decide +kernel))) (by decide +kernel)
set_option maxHeartbeats 4000000 in
set_option maxRecDepth 100000 in
theorem ll_case_module {p : Program} {l : Launch} {e : Env} {s : State} {m : MethodId} {b L : Nat} {xs : Nat → Int32} {below : List Frame} {meth : Method} {c : Code} {Q : State → Prop} {g : xx_G} {aq : Nat → Nat} {o : Nat} {A : Nat → Prop} {k : Nat} {v : ll_S} {H : Heap} {locs : List Loc} {ls : Array Slot} {Rel : zz_S → qm_S → Prop} (hSim : ll_Sim Rel) (hl0 : l.stackTraces = false) (C : xx_C p s m #[Value.ref b] meth c code 7 kr_Law (some .boolean)) (hZ : xw_Z s) (hAst : ∀ (q : Nat) (x : Cell), s.heap[q]? = some x → x.vm.isStatics = true → ¬ A q) (hA : ∀ q, s.heap.size ≤ q → A q) (hK : va_K g.1 xx_cls (ll_T g) s) (hX : va_X b L xs s s.heap) (hbl : b < s.heap.size) (hbA : ¬ A b) (hL : L ≤ 2560) (hk : 5 * k + 5 ≤ L) (hR : Rel v.1 v.2.1) (hl : lv_has ls 7 [(0, .ref b), (1, .ref (g.2.1 0)), (2, .ref (aq 0)), (3, .ref o), (4, .int (nI (5 * k)))]) (hP : va_P g.1 xx_cls (ll_W g aq o v) H) (hD : va_D A (ll_W g aq o v)) (hS : va_S A s.heap H locs) (hend : ∀ (v1 : ll_S) (H : Heap) (locs : List Loc) (ls : Array Slot) (cs ss : Nat), cs ≤ 30 + 11 * (k + 1) → ss ≤ 8205 + 56 * (k + 1) → Rel v1.1 v1.2.1 → lv_has ls 7 [(0, .ref b), (1, .ref (g.2.1 0)), (2, .ref (aq 0)), (3, .ref o), (4, .int (nI (5 * k)))] → va_P g.1 xx_cls (ll_W g aq o v1) H → va_D A (ll_W g aq o v1) → va_S A s.heap H locs → W p l e room_1 s m #[Value.ref b] below meth c H locs cs ss Q (F0 m 750 ls [])) : W p l e room_1 s m #[Value.ref b] below meth c H locs (30 + 11 * k) (8205 + 56 * k) Q (F0 m 663 ls []) := by
  have hx := C.1
  have hb := C.2.1
  have hown := C.2.2.2.1
  have hts := C.2.2.2.2.1
  obtain ⟨r, u1, w1, e1, e2, hR1⟩ := hSim.2.2.2.2.2.2.2.2.1 v.1 v.2.1 (xs (5 * k + 1)) (xs (5 * k + 2)) hR
  refine lv_aload_n hx hb ld_law_663 rfl (lv_at hl 1 rfl) ?_
  refine lv_aload_n hx hb ld_law_664 rfl (lv_at hl 0 rfl) ?_
  refine lv_iload hx hb ld_law_665 (lv_at hl 4 rfl) ?_
  refine lv_iconst (v := (1 : Int32)) hx hb ld_law_667 (by decide) ?_
  refine lv_iadd hx hb ld_law_668 ?_
  refine ll_sld (n := 5 * k + 1) hx hb hX hbl hbA hS (by rw [show (1 : Int32) = nI 1 from rfl, nI_add]) (by omega) hL ld_law_669 ?_
  refine lv_aload_n hx hb ld_law_670 rfl (lv_at hl 0 rfl) ?_
  refine lv_iload hx hb ld_law_671 (lv_at hl 4 rfl) ?_
  refine lv_iconst (v := (2 : Int32)) hx hb ld_law_673 (by decide) ?_
  refine lv_iadd hx hb ld_law_674 ?_
  refine ll_sld (n := 5 * k + 2) hx hb hX hbl hbA hS (by rw [show (2 : Int32) = nI 2 from rfl, nI_add]) (by omega) hL ld_law_675 ?_
  refine xx_callV (cells1 := (30 + 11 * k)) (slots1 := (8205 + 56 * k)) (n := 2) (As := [.int (xs (5 * k + 1)), .int (xs (5 * k + 2))]) (rest := []) C (ll_mz (v := v) (zc_Loader_module l g v.1 (xs (5 * k + 1)) (xs (5 * k + 2)) r u1 e1)) ⟨kw_275, kw_272, kw_273, kw_274, kw_1⟩ ⟨by decide +kernel, by decide +kernel, by decide +kernel⟩ rfl ⟨Nat.le_of_ble_eq_true rfl, Nat.le_of_ble_eq_true rfl⟩ 16 rfl rfl hl.1 rfl (Nat.le_of_ble_eq_true rfl) hA hK hP hD hS ⟨by show 30 + 11 * k + 0 ≤ 601024; omega, by show 8205 + 56 * k + 0 ≤ 7293034; omega⟩ rfl rfl rfl ld_law_676 (fun H locs hP hD hS => ?_)
  refine lv_aload_n hx hb ld_law_679 rfl (lv_at hl 2 rfl) ?_
  refine lv_aload_n hx hb ld_law_680 rfl (lv_at hl 0 rfl) ?_
  refine lv_iload hx hb ld_law_681 (lv_at hl 4 rfl) ?_
  refine lv_iconst (v := (1 : Int32)) hx hb ld_law_683 (by decide) ?_
  refine lv_iadd hx hb ld_law_684 ?_
  refine ll_sld (n := 5 * k + 1) hx hb hX hbl hbA hS (by rw [show (1 : Int32) = nI 1 from rfl, nI_add]) (by omega) hL ld_law_685 ?_
  refine lv_aload_n hx hb ld_law_686 rfl (lv_at hl 0 rfl) ?_
  refine lv_iload hx hb ld_law_687 (lv_at hl 4 rfl) ?_
  refine lv_iconst (v := (2 : Int32)) hx hb ld_law_689 (by decide) ?_
  refine lv_iadd hx hb ld_law_690 ?_
  refine ll_sld (n := 5 * k + 2) hx hb hX hbl hbA hS (by rw [show (2 : Int32) = nI 2 from rfl, nI_add]) (by omega) hL ld_law_691 ?_
  refine xx_callV (cells1 := (30 + 11 * k)) (slots1 := (8205 + 56 * k)) (n := 2) (As := [.int (xs (5 * k + 1)), .int (xs (5 * k + 2))]) (rest := [.int r]) C (ll_mq (v := (u1, v.2)) (qc_Model_module l (ll_q g aq) (u1, v.2).2.1 (xs (5 * k + 1)) (xs (5 * k + 2)) r w1 e2)) ⟨kw_1160, kw_1157, kw_1158, kw_1159, kw_9⟩ ⟨by decide +kernel, by decide +kernel, by decide +kernel⟩ rfl ⟨Nat.le_of_ble_eq_true rfl, Nat.le_of_ble_eq_true rfl⟩ 0 rfl rfl hl.1 rfl (Nat.le_of_ble_eq_true rfl) hA hK hP hD hS ⟨by show 30 + 11 * k + 0 + 0 ≤ 601024; omega, by show 8205 + 56 * k + 0 + 0 ≤ 7293034; omega⟩ rfl rfl rfl ld_law_692 (fun H locs hP hD hS => ?_)
  refine lv_icmp_eq (tgt := 750) hx hb ld_law_695 (by decide) (fun _ => ?_) (fun hc => absurd rfl hc)
  exact hend ((u1, v.2).1, w1, (u1, v.2).2.2) _ _ _ _ _ (by show 30 + 11 * k + 0 ≤ 30 + 11 * (k + 1); omega) (by show 8205 + 56 * k + 0 ≤ 8205 + 56 * (k + 1); omega) hR1 (lv_sub hl [0, 1, 2, 3, 4] rfl) hP hD hS
set_option maxRecDepth 100000 in
theorem kw_295 : Cond.code ky_Loader_count kb_Loader_count 2 (some .int) ∈ xx_tb := xx_in (List.mem_append_right _ (List.mem_of_getElem? (i := 295) (by rfl))) (by decide +kernel)
theorem kw_292 : Cond.methodLink "ModuleLoaderLaw" 105 ky_Loader_count ∈ xx_tb := xx_in (List.mem_append_right _ (List.mem_of_getElem? (i := 292) (by decide +kernel))) (by decide +kernel)
theorem kw_293 : Cond.instanceMethod ky_Loader_count ∈ xx_tb := xx_in (List.mem_append_right _ (List.mem_of_getElem? (i := 293) (by decide +kernel))) (by decide +kernel)
theorem kw_294 : Cond.selects "ModuleLoader" ky_Loader_count ky_Loader_count ∈ xx_tb := xx_in (List.mem_append_right _ (List.mem_of_getElem? (i := 294) (by decide +kernel))) (by decide +kernel)
set_option maxRecDepth 100000 in
theorem kw_1164 : Cond.code ky_Model_count kb_Model_count 8 (some .int) ∈ xx_tb := xx_in (List.mem_append_right _ (List.mem_of_getElem? (i := 1164) (by rfl))) (by decide +kernel)
theorem kw_1161 : Cond.methodLink "ModuleLoaderLaw" 108 ky_Model_count ∈ xx_tb := xx_in (List.mem_append_right _ (List.mem_of_getElem? (i := 1161) (by decide +kernel))) (by decide +kernel)
theorem kw_1162 : Cond.instanceMethod ky_Model_count ∈ xx_tb := xx_in (List.mem_append_right _ (List.mem_of_getElem? (i := 1162) (by decide +kernel))) (by decide +kernel)
theorem kw_1163 : Cond.selects "ModuleLoaderModel" ky_Model_count ky_Model_count ∈ xx_tb := xx_in (List.mem_append_right _ (List.mem_of_getElem? (i := 1163) (by decide +kernel))) (by decide +kernel)
set_option maxHeartbeats 4000000 in
set_option maxRecDepth 100000 in
theorem ll_case_count {p : Program} {l : Launch} {e : Env} {s : State} {m : MethodId} {b L : Nat} {xs : Nat → Int32} {below : List Frame} {meth : Method} {c : Code} {Q : State → Prop} {g : xx_G} {aq : Nat → Nat} {o : Nat} {A : Nat → Prop} {k : Nat} {v : ll_S} {H : Heap} {locs : List Loc} {ls : Array Slot} {Rel : zz_S → qm_S → Prop} (hSim : ll_Sim Rel) (hl0 : l.stackTraces = false) (C : xx_C p s m #[Value.ref b] meth c code 7 kr_Law (some .boolean)) (hZ : xw_Z s) (hAst : ∀ (q : Nat) (x : Cell), s.heap[q]? = some x → x.vm.isStatics = true → ¬ A q) (hA : ∀ q, s.heap.size ≤ q → A q) (hK : va_K g.1 xx_cls (ll_T g) s) (hX : va_X b L xs s s.heap) (hbl : b < s.heap.size) (hbA : ¬ A b) (hL : L ≤ 2560) (hk : 5 * k + 5 ≤ L) (hR : Rel v.1 v.2.1) (hl : lv_has ls 7 [(0, .ref b), (1, .ref (g.2.1 0)), (2, .ref (aq 0)), (3, .ref o), (4, .int (nI (5 * k)))]) (hP : va_P g.1 xx_cls (ll_W g aq o v) H) (hD : va_D A (ll_W g aq o v)) (hS : va_S A s.heap H locs) (hend : ∀ (v1 : ll_S) (H : Heap) (locs : List Loc) (ls : Array Slot) (cs ss : Nat), cs ≤ 30 + 11 * (k + 1) → ss ≤ 8205 + 56 * (k + 1) → Rel v1.1 v1.2.1 → lv_has ls 7 [(0, .ref b), (1, .ref (g.2.1 0)), (2, .ref (aq 0)), (3, .ref o), (4, .int (nI (5 * k)))] → va_P g.1 xx_cls (ll_W g aq o v1) H → va_D A (ll_W g aq o v1) → va_S A s.heap H locs → W p l e room_1 s m #[Value.ref b] below meth c H locs cs ss Q (F0 m 750 ls [])) : W p l e room_1 s m #[Value.ref b] below meth c H locs (30 + 11 * k) (8205 + 56 * k) Q (F0 m 700 ls []) := by
  have hx := C.1
  have hb := C.2.1
  have hown := C.2.2.2.1
  have hts := C.2.2.2.2.1
  obtain ⟨r, u1, w1, e1, e2, hR1⟩ := hSim.2.2.2.2.2.2.2.2.2.1 v.1 v.2.1 (xs (5 * k + 1)) hR
  refine lv_aload_n hx hb ld_law_700 rfl (lv_at hl 1 rfl) ?_
  refine lv_aload_n hx hb ld_law_701 rfl (lv_at hl 0 rfl) ?_
  refine lv_iload hx hb ld_law_702 (lv_at hl 4 rfl) ?_
  refine lv_iconst (v := (1 : Int32)) hx hb ld_law_704 (by decide) ?_
  refine lv_iadd hx hb ld_law_705 ?_
  refine ll_sld (n := 5 * k + 1) hx hb hX hbl hbA hS (by rw [show (1 : Int32) = nI 1 from rfl, nI_add]) (by omega) hL ld_law_706 ?_
  refine xx_callV (cells1 := (30 + 11 * k)) (slots1 := (8205 + 56 * k)) (n := 1) (As := [.int (xs (5 * k + 1))]) (rest := []) C (ll_mz (v := v) (zc_Loader_count l g v.1 (xs (5 * k + 1)) r u1 e1)) ⟨kw_295, kw_292, kw_293, kw_294, kw_1⟩ ⟨by decide +kernel, by decide +kernel, by decide +kernel⟩ rfl ⟨Nat.le_of_ble_eq_true rfl, Nat.le_of_ble_eq_true rfl⟩ 16 rfl rfl hl.1 rfl (Nat.le_of_ble_eq_true rfl) hA hK hP hD hS ⟨by show 30 + 11 * k + 0 ≤ 601024; omega, by show 8205 + 56 * k + 0 ≤ 7293034; omega⟩ rfl rfl rfl ld_law_707 (fun H locs hP hD hS => ?_)
  refine lv_aload_n hx hb ld_law_710 rfl (lv_at hl 2 rfl) ?_
  refine lv_aload_n hx hb ld_law_711 rfl (lv_at hl 0 rfl) ?_
  refine lv_iload hx hb ld_law_712 (lv_at hl 4 rfl) ?_
  refine lv_iconst (v := (1 : Int32)) hx hb ld_law_714 (by decide) ?_
  refine lv_iadd hx hb ld_law_715 ?_
  refine ll_sld (n := 5 * k + 1) hx hb hX hbl hbA hS (by rw [show (1 : Int32) = nI 1 from rfl, nI_add]) (by omega) hL ld_law_716 ?_
  refine xx_callV (cells1 := (30 + 11 * k)) (slots1 := (8205 + 56 * k)) (n := 1) (As := [.int (xs (5 * k + 1))]) (rest := [.int r]) C (ll_mq (v := (u1, v.2)) (qc_Model_count l (ll_q g aq) (u1, v.2).2.1 (xs (5 * k + 1)) r w1 e2)) ⟨kw_1164, kw_1161, kw_1162, kw_1163, kw_9⟩ ⟨by decide +kernel, by decide +kernel, by decide +kernel⟩ rfl ⟨Nat.le_of_ble_eq_true rfl, Nat.le_of_ble_eq_true rfl⟩ 0 rfl rfl hl.1 rfl (Nat.le_of_ble_eq_true rfl) hA hK hP hD hS ⟨by show 30 + 11 * k + 0 + 0 ≤ 601024; omega, by show 8205 + 56 * k + 0 + 0 ≤ 7293034; omega⟩ rfl rfl rfl ld_law_717 (fun H locs hP hD hS => ?_)
  refine lv_icmp_eq (tgt := 750) hx hb ld_law_720 (by decide) (fun _ => ?_) (fun hc => absurd rfl hc)
  exact hend ((u1, v.2).1, w1, (u1, v.2).2.2) _ _ _ _ _ (by show 30 + 11 * k + 0 ≤ 30 + 11 * (k + 1); omega) (by show 8205 + 56 * k + 0 ≤ 8205 + 56 * (k + 1); omega) hR1 (lv_sub hl [0, 1, 2, 3, 4] rfl) hP hD hS
set_option maxRecDepth 100000 in
theorem kw_330 : Cond.code ky_Loader_at kb_Loader_at 3 (some .int) ∈ xx_tb := xx_in (List.mem_append_right _ (List.mem_of_getElem? (i := 330) (by rfl))) (by decide +kernel)
theorem kw_327 : Cond.methodLink "ModuleLoaderLaw" 109 ky_Loader_at ∈ xx_tb := xx_in (List.mem_append_right _ (List.mem_of_getElem? (i := 327) (by decide +kernel))) (by decide +kernel)
theorem kw_328 : Cond.instanceMethod ky_Loader_at ∈ xx_tb := xx_in (List.mem_append_right _ (List.mem_of_getElem? (i := 328) (by decide +kernel))) (by decide +kernel)
theorem kw_329 : Cond.selects "ModuleLoader" ky_Loader_at ky_Loader_at ∈ xx_tb := xx_in (List.mem_append_right _ (List.mem_of_getElem? (i := 329) (by decide +kernel))) (by decide +kernel)
set_option maxRecDepth 100000 in
theorem kw_1168 : Cond.code ky_Model_at kb_Model_at 6 (some .int) ∈ xx_tb := xx_in (List.mem_append_right _ (List.mem_of_getElem? (i := 1168) (by rfl))) (by decide +kernel)
theorem kw_1165 : Cond.methodLink "ModuleLoaderLaw" 112 ky_Model_at ∈ xx_tb := xx_in (List.mem_append_right _ (List.mem_of_getElem? (i := 1165) (by decide +kernel))) (by decide +kernel)
theorem kw_1166 : Cond.instanceMethod ky_Model_at ∈ xx_tb := xx_in (List.mem_append_right _ (List.mem_of_getElem? (i := 1166) (by decide +kernel))) (by decide +kernel)
theorem kw_1167 : Cond.selects "ModuleLoaderModel" ky_Model_at ky_Model_at ∈ xx_tb := xx_in (List.mem_append_right _ (List.mem_of_getElem? (i := 1167) (by decide +kernel))) (by decide +kernel)
set_option maxHeartbeats 4000000 in
set_option maxRecDepth 100000 in
theorem ll_case_at {p : Program} {l : Launch} {e : Env} {s : State} {m : MethodId} {b L : Nat} {xs : Nat → Int32} {below : List Frame} {meth : Method} {c : Code} {Q : State → Prop} {g : xx_G} {aq : Nat → Nat} {o : Nat} {A : Nat → Prop} {k : Nat} {v : ll_S} {H : Heap} {locs : List Loc} {ls : Array Slot} {Rel : zz_S → qm_S → Prop} (hSim : ll_Sim Rel) (hl0 : l.stackTraces = false) (C : xx_C p s m #[Value.ref b] meth c code 7 kr_Law (some .boolean)) (hZ : xw_Z s) (hAst : ∀ (q : Nat) (x : Cell), s.heap[q]? = some x → x.vm.isStatics = true → ¬ A q) (hA : ∀ q, s.heap.size ≤ q → A q) (hK : va_K g.1 xx_cls (ll_T g) s) (hX : va_X b L xs s s.heap) (hbl : b < s.heap.size) (hbA : ¬ A b) (hL : L ≤ 2560) (hk : 5 * k + 5 ≤ L) (hR : Rel v.1 v.2.1) (hl : lv_has ls 7 [(0, .ref b), (1, .ref (g.2.1 0)), (2, .ref (aq 0)), (3, .ref o), (4, .int (nI (5 * k)))]) (hP : va_P g.1 xx_cls (ll_W g aq o v) H) (hD : va_D A (ll_W g aq o v)) (hS : va_S A s.heap H locs) (hend : ∀ (v1 : ll_S) (H : Heap) (locs : List Loc) (ls : Array Slot) (cs ss : Nat), cs ≤ 30 + 11 * (k + 1) → ss ≤ 8205 + 56 * (k + 1) → Rel v1.1 v1.2.1 → lv_has ls 7 [(0, .ref b), (1, .ref (g.2.1 0)), (2, .ref (aq 0)), (3, .ref o), (4, .int (nI (5 * k)))] → va_P g.1 xx_cls (ll_W g aq o v1) H → va_D A (ll_W g aq o v1) → va_S A s.heap H locs → W p l e room_1 s m #[Value.ref b] below meth c H locs cs ss Q (F0 m 750 ls [])) : W p l e room_1 s m #[Value.ref b] below meth c H locs (30 + 11 * k) (8205 + 56 * k) Q (F0 m 725 ls []) := by
  have hx := C.1
  have hb := C.2.1
  have hown := C.2.2.2.1
  have hts := C.2.2.2.2.1
  obtain ⟨r, u1, w1, e1, e2, hR1⟩ := hSim.2.2.2.2.2.2.2.2.2.2.1 v.1 v.2.1 (xs (5 * k + 1)) hR
  refine lv_aload_n hx hb ld_law_725 rfl (lv_at hl 1 rfl) ?_
  refine lv_aload_n hx hb ld_law_726 rfl (lv_at hl 0 rfl) ?_
  refine lv_iload hx hb ld_law_727 (lv_at hl 4 rfl) ?_
  refine lv_iconst (v := (1 : Int32)) hx hb ld_law_729 (by decide) ?_
  refine lv_iadd hx hb ld_law_730 ?_
  refine ll_sld (n := 5 * k + 1) hx hb hX hbl hbA hS (by rw [show (1 : Int32) = nI 1 from rfl, nI_add]) (by omega) hL ld_law_731 ?_
  refine xx_callV (cells1 := (30 + 11 * k)) (slots1 := (8205 + 56 * k)) (n := 1) (As := [.int (xs (5 * k + 1))]) (rest := []) C (ll_mz (v := v) (zc_Loader_at l g v.1 (xs (5 * k + 1)) r u1 e1)) ⟨kw_330, kw_327, kw_328, kw_329, kw_1⟩ ⟨by decide +kernel, by decide +kernel, by decide +kernel⟩ rfl ⟨Nat.le_of_ble_eq_true rfl, Nat.le_of_ble_eq_true rfl⟩ 16 rfl rfl hl.1 rfl (Nat.le_of_ble_eq_true rfl) hA hK hP hD hS ⟨by show 30 + 11 * k + 0 ≤ 601024; omega, by show 8205 + 56 * k + 0 ≤ 7293034; omega⟩ rfl rfl rfl ld_law_732 (fun H locs hP hD hS => ?_)
  refine lv_aload_n hx hb ld_law_735 rfl (lv_at hl 2 rfl) ?_
  refine lv_aload_n hx hb ld_law_736 rfl (lv_at hl 0 rfl) ?_
  refine lv_iload hx hb ld_law_737 (lv_at hl 4 rfl) ?_
  refine lv_iconst (v := (1 : Int32)) hx hb ld_law_739 (by decide) ?_
  refine lv_iadd hx hb ld_law_740 ?_
  refine ll_sld (n := 5 * k + 1) hx hb hX hbl hbA hS (by rw [show (1 : Int32) = nI 1 from rfl, nI_add]) (by omega) hL ld_law_741 ?_
  refine xx_callV (cells1 := (30 + 11 * k)) (slots1 := (8205 + 56 * k)) (n := 1) (As := [.int (xs (5 * k + 1))]) (rest := [.int r]) C (ll_mq (v := (u1, v.2)) (qc_Model_at l (ll_q g aq) (u1, v.2).2.1 (xs (5 * k + 1)) r w1 e2)) ⟨kw_1168, kw_1165, kw_1166, kw_1167, kw_9⟩ ⟨by decide +kernel, by decide +kernel, by decide +kernel⟩ rfl ⟨Nat.le_of_ble_eq_true rfl, Nat.le_of_ble_eq_true rfl⟩ 0 rfl rfl hl.1 rfl (Nat.le_of_ble_eq_true rfl) hA hK hP hD hS ⟨by show 30 + 11 * k + 0 + 0 ≤ 601024; omega, by show 8205 + 56 * k + 0 + 0 ≤ 7293034; omega⟩ rfl rfl rfl ld_law_742 (fun H locs hP hD hS => ?_)
  refine lv_icmp_eq (tgt := 750) hx hb ld_law_745 (by decide) (fun _ => ?_) (fun hc => absurd rfl hc)
  exact hend ((u1, v.2).1, w1, (u1, v.2).2.2) _ _ _ _ _ (by show 30 + 11 * k + 0 ≤ 30 + 11 * (k + 1); omega) (by show 8205 + 56 * k + 0 ≤ 8205 + 56 * (k + 1); omega) hR1 (lv_sub hl [0, 1, 2, 3, 4] rfl) hP hD hS
