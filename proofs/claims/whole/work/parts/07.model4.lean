set_option maxRecDepth 100000 in
theorem kw_1016 : Cond.code ky_Model_addSymbol kb_Model_addSymbol 5 none ∈ xx_tb := xx_in (List.mem_append_right _ (List.mem_of_getElem? (i := 1016) (by rfl))) (by decide +kernel)
theorem kw_1013 : Cond.methodLink "ModuleLoaderModel" 89 ky_Model_addSymbol ∈ xx_tb := xx_in (List.mem_append_right _ (List.mem_of_getElem? (i := 1013) (by decide +kernel))) (by decide +kernel)
theorem kw_1015 : Cond.instanceMethod ky_Model_addSymbol ∈ xx_tb := xx_in (List.mem_append_right _ (List.mem_of_getElem? (i := 1015) (by decide +kernel))) (by decide +kernel)
theorem ks_Model_addSymbol : Cond.selects "ModuleLoaderModel" ky_Model_addSymbol ky_Model_addSymbol ∈ xx_tb := xx_in (List.mem_append_left _ (by decide +kernel)) (by decide +kernel)
set_option maxRecDepth 100000 in
theorem kw_1008 : Cond.code ky_Model_isName kb_Model_isName 3 (some .boolean) ∈ xx_tb := xx_in (List.mem_append_right _ (List.mem_of_getElem? (i := 1008) (by rfl))) (by decide +kernel)
theorem kw_1006 : Cond.methodLink "ModuleLoaderModel" 83 ky_Model_isName ∈ xx_tb := xx_in (List.mem_append_right _ (List.mem_of_getElem? (i := 1006) (by decide +kernel))) (by decide +kernel)
theorem kw_1007 : Cond.static ky_Model_isName ∈ xx_tb := xx_in (List.mem_append_right _ (List.mem_of_getElem? (i := 1007) (by decide +kernel))) (by decide +kernel)
set_option maxRecDepth 100000 in
theorem kw_1012 : Cond.code ky_Model_find kb_Model_find 3 (some .int) ∈ xx_tb := xx_in (List.mem_append_right _ (List.mem_of_getElem? (i := 1012) (by rfl))) (by decide +kernel)
theorem kw_1009 : Cond.methodLink "ModuleLoaderModel" 86 ky_Model_find ∈ xx_tb := xx_in (List.mem_append_right _ (List.mem_of_getElem? (i := 1009) (by decide +kernel))) (by decide +kernel)
theorem kw_1011 : Cond.instanceMethod ky_Model_find ∈ xx_tb := xx_in (List.mem_append_right _ (List.mem_of_getElem? (i := 1011) (by decide +kernel))) (by decide +kernel)
theorem ks_Model_find : Cond.selects "ModuleLoaderModel" ky_Model_find ky_Model_find ∈ xx_tb := xx_in (List.mem_append_left _ (by decide +kernel)) (by decide +kernel)
theorem qd_Model_symbol_0 : decode kb_Model_symbol 0 = .ok (.aload_n 0, 1) := by decide +kernel
theorem qd_Model_symbol_1 : decode kb_Model_symbol 1 = .ok (.iload_n 1, 1) := by decide +kernel
theorem qd_Model_symbol_2 : decode kb_Model_symbol 2 = .ok (.invokestatic 83, 3) := by decide +kernel
theorem qd_Model_symbol_5 : decode kb_Model_symbol 5 = .ok (.ifCond .ne (7), 3) := by decide +kernel
theorem qd_Model_symbol_8 : decode kb_Model_symbol 8 = .ok (.iconst 1, 1) := by decide +kernel
theorem qd_Model_symbol_9 : decode kb_Model_symbol 9 = .ok (.goto (25), 3) := by decide +kernel
theorem qd_Model_symbol_12 : decode kb_Model_symbol 12 = .ok (.aload_n 0, 1) := by decide +kernel
theorem qd_Model_symbol_13 : decode kb_Model_symbol 13 = .ok (.iload_n 1, 1) := by decide +kernel
theorem qd_Model_symbol_14 : decode kb_Model_symbol 14 = .ok (.invokevirtual 86, 3) := by decide +kernel
theorem qd_Model_symbol_17 : decode kb_Model_symbol 17 = .ok (.ifCond .ge (12), 3) := by decide +kernel
theorem qd_Model_symbol_20 : decode kb_Model_symbol 20 = .ok (.aload_n 0, 1) := by decide +kernel
theorem qd_Model_symbol_21 : decode kb_Model_symbol 21 = .ok (.getfield 80, 3) := by decide +kernel
theorem qd_Model_symbol_24 : decode kb_Model_symbol 24 = .ok (.bipush (40), 2) := by decide +kernel
theorem qd_Model_symbol_26 : decode kb_Model_symbol 26 = .ok (.if_icmp .ne (7), 3) := by decide +kernel
theorem qd_Model_symbol_29 : decode kb_Model_symbol 29 = .ok (.iconst 2, 1) := by decide +kernel
theorem qd_Model_symbol_30 : decode kb_Model_symbol 30 = .ok (.goto (4), 3) := by decide +kernel
theorem qd_Model_symbol_33 : decode kb_Model_symbol 33 = .ok (.iconst 0, 1) := by decide +kernel
theorem qd_Model_symbol_34 : decode kb_Model_symbol 34 = .ok (.putfield 57, 3) := by decide +kernel
theorem qd_Model_symbol_37 : decode kb_Model_symbol 37 = .ok (.aload_n 0, 1) := by decide +kernel
theorem qd_Model_symbol_38 : decode kb_Model_symbol 38 = .ok (.getfield 57, 3) := by decide +kernel
theorem qd_Model_symbol_41 : decode kb_Model_symbol 41 = .ok (.ifCond .ne (11), 3) := by decide +kernel
theorem qd_Model_symbol_44 : decode kb_Model_symbol 44 = .ok (.aload_n 0, 1) := by decide +kernel
theorem qd_Model_symbol_45 : decode kb_Model_symbol 45 = .ok (.iload_n 1, 1) := by decide +kernel
theorem qd_Model_symbol_46 : decode kb_Model_symbol 46 = .ok (.iload_n 2, 1) := by decide +kernel
theorem qd_Model_symbol_47 : decode kb_Model_symbol 47 = .ok (.iload_n 3, 1) := by decide +kernel
theorem qd_Model_symbol_48 : decode kb_Model_symbol 48 = .ok (.iconst (-1), 1) := by decide +kernel
theorem qd_Model_symbol_49 : decode kb_Model_symbol 49 = .ok (.invokevirtual 89, 3) := by decide +kernel
theorem qd_Model_symbol_52 : decode kb_Model_symbol 52 = .ok (.return_, 1) := by decide +kernel
def qf_Model_symbol_b52 (u : qm_S) : Option (qm_S) := some u
def qf_Model_symbol_b34 (u : qm_S) (x1 : Int32) (x2 : Int32) (x3 : Int32) (y1 : Int32) : Option (qm_S) := xx_nm (va_up u.1 0 y1, u.2) fun u1 => if (u1.1 0) = 0 then ((qf_Model_addSymbol u1 x1 x2 x3 (-1 : Int32)).bind fun u2 => qf_Model_symbol_b52 u2) else (qf_Model_symbol_b52 u1)
def qf_Model_symbol_b29 (u : qm_S) (x1 : Int32) (x2 : Int32) (x3 : Int32) : Option (qm_S) := qf_Model_symbol_b34 u x1 x2 x3 (2 : Int32)
def qf_Model_symbol (u : qm_S) (x1 : Int32) (x2 : Int32) (x3 : Int32) : Option (qm_S) := xx_b2 (qf_Model_isName u x1) fun v2 u1 => if v2 = 0 then (qf_Model_symbol_b34 u1 x1 x2 x3 (1 : Int32)) else (xx_b2 (qf_Model_find u1 x1) fun v4 u3 => if 0 ≤ v4 then (qf_Model_symbol_b29 u3 x1 x2 x3) else (if (u3.1 3) = (40 : Int32) then (qf_Model_symbol_b29 u3 x1 x2 x3) else (qf_Model_symbol_b34 u3 x1 x2 x3 (0 : Int32))))
set_option maxHeartbeats 4000000 in
set_option maxRecDepth 100000 in
theorem qw_Model_symbol_b52 {p : Program} {l : Launch} {e : Env} {s : State} {m : MethodId} {args : Array Value} {below : List Frame} {meth : Method} {c : Code} {A : Nat → Prop} {g : xx_G} {u9 : qm_S} (C : xx_C p s m args meth c kb_Model_symbol 4 kr_Model none) (hA : ∀ q, s.heap.size ≤ q → A q) (hK : va_K g.1 xx_cls (qm_T g) s) : ∀ (u : qm_S) (H : Heap) (locs : List Loc) (ls : Array Slot), qf_Model_symbol_b52 u = some u9 → lv_has ls 4 [] → va_P g.1 xx_cls (qm_W g u) H → va_D A (qm_W g u) → va_S A s.heap H locs → W p l e (xx_rm 1 24) s m args below meth c H locs 0 0 (MQ below (xx_Q g.1 (qm_T g) (qm_W g) none u9 A) args s 0 0 A) (F0 m 52 ls []) := by
  have hx := C.1
  have hb := C.2.1
  have hown := C.2.2.2.1
  have hts := C.2.2.2.2.1
  intro u H locs ls hF hl hP hD hS
  unfold qf_Model_symbol_b52 at hF
  exact xx_vret C hF hK hP hD hS qd_Model_symbol_52
set_option maxHeartbeats 4000000 in
set_option maxRecDepth 100000 in
theorem qw_Model_symbol_b34 {p : Program} {l : Launch} {e : Env} {s : State} {m : MethodId} {args : Array Value} {below : List Frame} {meth : Method} {c : Code} {A : Nat → Prop} {g : xx_G} {u9 : qm_S} (C : xx_C p s m args meth c kb_Model_symbol 4 kr_Model none) (hA : ∀ q, s.heap.size ≤ q → A q) (hK : va_K g.1 xx_cls (qm_T g) s) : ∀ (u : qm_S) (x1 : Int32) (x2 : Int32) (x3 : Int32) (y1 : Int32) (H : Heap) (locs : List Loc) (ls : Array Slot), qf_Model_symbol_b34 u x1 x2 x3 y1 = some u9 → lv_has ls 4 [(0, .ref (g.2.1 0)), (1, .int x1), (2, .int x2), (3, .int x3)] → va_P g.1 xx_cls (qm_W g u) H → va_D A (qm_W g u) → va_S A s.heap H locs → W p l e (xx_rm 1 24) s m args below meth c H locs 0 0 (MQ below (xx_Q g.1 (qm_T g) (qm_W g) none u9 A) args s 0 0 A) (F0 m 34 ls [.int y1, .ref (g.2.1 0)]) := by
  have hx := C.1
  have hb := C.2.1
  have hown := C.2.2.2.1
  have hts := C.2.2.2.2.1
  intro u x1 x2 x3 y1 H locs ls hF hl hP hD hS
  unfold qf_Model_symbol_b34 at hF
  obtain ⟨u1, eu1, hF⟩ := xx_nm_some hF
  refine xx_put (ws1 := qm_W g u1) C ki_Model kt_Model ko_Model kn_Model hK hP hD hS 0 rfl rfl 0 (by decide) kw_873 rfl rfl rfl rfl (Nat.le_of_ble_eq_true rfl) (by rw [eu1]; rfl) qd_Model_symbol_34 (fun H locs hP hD hS => ?_)
  refine lv_aload_n hx hb qd_Model_symbol_37 rfl (lv_at hl 0 rfl) ?_
  refine xx_get C ki_Model hK hP 0 rfl rfl 0 (by decide) kw_873 rfl rfl qd_Model_symbol_38 ?_
  refine lv_if_ne (tgt := 52) hx hb qd_Model_symbol_41 (by decide) (fun hc => ?_) (fun hc => ?_)
  · have hF := xx_in' hc hF
    exact qw_Model_symbol_b52 C hA hK  u1 _ _ _ hF (lv_sub hl [] rfl) hP hD hS
  · have hF := xx_ip hc hF
    refine lv_aload_n hx hb qd_Model_symbol_44 rfl (lv_at hl 0 rfl) ?_
    refine lv_iload_n hx hb qd_Model_symbol_45 rfl (lv_at hl 1 rfl) ?_
    refine lv_iload_n hx hb qd_Model_symbol_46 rfl (lv_at hl 2 rfl) ?_
    refine lv_iload_n hx hb qd_Model_symbol_47 rfl (lv_at hl 3 rfl) ?_
    refine lv_iconst (v := (-1 : Int32)) hx hb qd_Model_symbol_48 (by decide) ?_
    obtain ⟨u2, eu2, hF⟩ := xx_ob hF
    refine xx_callV (n := 4) (As := [.int x1, .int x2, .int x3, .int (-1 : Int32)]) (rest := []) C (qc_Model_addSymbol l g u1 x1 x2 x3 (-1 : Int32) u2 eu2) ⟨kw_1016, kw_1013, kw_1015, ks_Model_addSymbol, kw_9⟩ ⟨by decide +kernel, by decide +kernel, by decide +kernel⟩ rfl ⟨Nat.le_of_ble_eq_true rfl, Nat.le_of_ble_eq_true rfl⟩ 0 rfl rfl hl.1 rfl (Nat.le_of_ble_eq_true rfl) hA hK hP hD hS ⟨Nat.le_refl _, Nat.le_refl _⟩ rfl rfl rfl qd_Model_symbol_49 (fun H locs hP hD hS => ?_)
    exact qw_Model_symbol_b52 C hA hK  u2 _ _ _ hF (lv_sub hl [] rfl) hP hD hS
set_option maxHeartbeats 4000000 in
set_option maxRecDepth 100000 in
theorem qw_Model_symbol_b29 {p : Program} {l : Launch} {e : Env} {s : State} {m : MethodId} {args : Array Value} {below : List Frame} {meth : Method} {c : Code} {A : Nat → Prop} {g : xx_G} {u9 : qm_S} (C : xx_C p s m args meth c kb_Model_symbol 4 kr_Model none) (hA : ∀ q, s.heap.size ≤ q → A q) (hK : va_K g.1 xx_cls (qm_T g) s) : ∀ (u : qm_S) (x1 : Int32) (x2 : Int32) (x3 : Int32) (H : Heap) (locs : List Loc) (ls : Array Slot), qf_Model_symbol_b29 u x1 x2 x3 = some u9 → lv_has ls 4 [(0, .ref (g.2.1 0)), (1, .int x1), (2, .int x2), (3, .int x3)] → va_P g.1 xx_cls (qm_W g u) H → va_D A (qm_W g u) → va_S A s.heap H locs → W p l e (xx_rm 1 24) s m args below meth c H locs 0 0 (MQ below (xx_Q g.1 (qm_T g) (qm_W g) none u9 A) args s 0 0 A) (F0 m 29 ls [.ref (g.2.1 0)]) := by
  have hx := C.1
  have hb := C.2.1
  have hown := C.2.2.2.1
  have hts := C.2.2.2.2.1
  intro u x1 x2 x3 H locs ls hF hl hP hD hS
  unfold qf_Model_symbol_b29 at hF
  refine lv_iconst (v := (2 : Int32)) hx hb qd_Model_symbol_29 (by decide) ?_
  refine lv_goto (tgt := 34) hx hb qd_Model_symbol_30 (by decide) ?_
  exact qw_Model_symbol_b34 C hA hK  u x1 x2 x3 (2 : Int32) _ _ _ hF (lv_sub hl [0, 1, 2, 3] rfl) hP hD hS
set_option maxHeartbeats 4000000 in
set_option maxRecDepth 100000 in
theorem qc_Model_symbol (l : Launch) (g : xx_G) (u : qm_S) (x1 : Int32) (x2 : Int32) (x3 : Int32) (u9 : qm_S) (hF : qf_Model_symbol u x1 x2 x3 = some u9) : xx_M l g.1 (qm_T g) (qm_W g) ky_Model_symbol kb_Model_symbol 4 none (xx_rm 1 24) [.ref (g.2.1 0), .int x1, .int x2, .int x3] u none u9 := by
  refine xx_body (by decide) (Nat.le_of_ble_eq_true rfl) ?_
  intro p e s m args below meth c A ls C hin hK hl hA hP hD hS
  have hx := C.1
  have hb := C.2.1
  have hown := C.2.2.2.1
  have hts := C.2.2.2.2.1
  have hl : lv_has ls 4 [(0, .ref (g.2.1 0)), (1, .int x1), (2, .int x2), (3, .int x3)] := hl
  unfold qf_Model_symbol at hF
  refine lv_aload_n hx hb qd_Model_symbol_0 rfl (lv_at hl 0 rfl) ?_
  refine lv_iload_n hx hb qd_Model_symbol_1 rfl (lv_at hl 1 rfl) ?_
  obtain ⟨v2, u1, eu1, hF⟩ := xx_b2_some hF
  refine xx_callS (n := 1) (As := [.int x1]) (rest := [.ref (g.2.1 0)]) C (qc_Model_isName l g u x1 v2 u1 eu1) ⟨kw_1008, kw_1006, kw_1007, kw_9⟩ ⟨by decide +kernel, by decide +kernel, by decide +kernel⟩ rfl ⟨Nat.le_of_ble_eq_true rfl, Nat.le_of_ble_eq_true rfl⟩ hl.1 rfl (Nat.le_of_ble_eq_true rfl) hA hK hP hD hS ⟨Nat.le_refl _, Nat.le_refl _⟩ rfl rfl rfl qd_Model_symbol_2 (fun H locs hP hD hS => ?_)
  refine lv_if_ne (tgt := 12) hx hb qd_Model_symbol_5 (by decide) (fun hc => ?_) (fun hc => ?_)
  · have hF := xx_in' hc hF
    refine lv_aload_n hx hb qd_Model_symbol_12 rfl (lv_at hl 0 rfl) ?_
    refine lv_iload_n hx hb qd_Model_symbol_13 rfl (lv_at hl 1 rfl) ?_
    obtain ⟨v4, u3, eu3, hF⟩ := xx_b2_some hF
    refine xx_callV (n := 1) (As := [.int x1]) (rest := [.ref (g.2.1 0)]) C (qc_Model_find l g u1 x1 v4 u3 eu3) ⟨kw_1012, kw_1009, kw_1011, ks_Model_find, kw_9⟩ ⟨by decide +kernel, by decide +kernel, by decide +kernel⟩ rfl ⟨Nat.le_of_ble_eq_true rfl, Nat.le_of_ble_eq_true rfl⟩ 0 rfl rfl hl.1 rfl (Nat.le_of_ble_eq_true rfl) hA hK hP hD hS ⟨Nat.le_refl _, Nat.le_refl _⟩ rfl rfl rfl qd_Model_symbol_14 (fun H locs hP hD hS => ?_)
    refine lv_if_ge (tgt := 29) hx hb qd_Model_symbol_17 (by decide) (fun hc => ?_) (fun hc => ?_)
    · have hF := xx_ip hc hF
      exact qw_Model_symbol_b29 C hA hK  u3 x1 x2 x3 _ _ _ hF (lv_sub hl [0, 1, 2, 3] rfl) hP hD hS
    · have hF := xx_in' hc hF
      refine lv_aload_n hx hb qd_Model_symbol_20 rfl (lv_at hl 0 rfl) ?_
      refine xx_get C ki_Model hK hP 0 rfl rfl 3 (by decide) kw_876 rfl rfl qd_Model_symbol_21 ?_
      refine lv_bipush (v := (40 : Int32)) hx hb qd_Model_symbol_24 (by decide) ?_
      refine lv_icmp_ne (tgt := 33) hx hb qd_Model_symbol_26 (by decide) (fun hc => ?_) (fun hc => ?_)
      · have hF := xx_in' hc hF
        refine lv_iconst (v := (0 : Int32)) hx hb qd_Model_symbol_33 (by decide) ?_
        exact qw_Model_symbol_b34 C hA hK  u3 x1 x2 x3 (0 : Int32) _ _ _ hF (lv_sub hl [0, 1, 2, 3] rfl) hP hD hS
      · have hF := xx_ip hc hF
        exact qw_Model_symbol_b29 C hA hK  u3 x1 x2 x3 _ _ _ hF (lv_sub hl [0, 1, 2, 3] rfl) hP hD hS
  · have hF := xx_ip hc hF
    refine lv_iconst (v := (1 : Int32)) hx hb qd_Model_symbol_8 (by decide) ?_
    refine lv_goto (tgt := 34) hx hb qd_Model_symbol_9 (by decide) ?_
    exact qw_Model_symbol_b34 C hA hK  u1 x1 x2 x3 (1 : Int32) _ _ _ hF (lv_sub hl [0, 1, 2, 3] rfl) hP hD hS
theorem kw_896 : Cond.fieldLink "ModuleLoaderModel" 99 "ModuleLoaderModel" "imports" "I" ∈ xx_tb := xx_in (List.mem_append_right _ (List.mem_of_getElem? (i := 896) (by decide +kernel))) (by decide +kernel)
set_option maxRecDepth 100000 in
theorem kw_1056 : Cond.code ky_Model_importAt kb_Model_importAt 2 (some .int) ∈ xx_tb := xx_in (List.mem_append_right _ (List.mem_of_getElem? (i := 1056) (by rfl))) (by decide +kernel)
theorem kw_1053 : Cond.methodLink "ModuleLoaderModel" 102 ky_Model_importAt ∈ xx_tb := xx_in (List.mem_append_right _ (List.mem_of_getElem? (i := 1053) (by decide +kernel))) (by decide +kernel)
theorem kw_1055 : Cond.instanceMethod ky_Model_importAt ∈ xx_tb := xx_in (List.mem_append_right _ (List.mem_of_getElem? (i := 1055) (by decide +kernel))) (by decide +kernel)
theorem ks_Model_importAt : Cond.selects "ModuleLoaderModel" ky_Model_importAt ky_Model_importAt ∈ xx_tb := xx_in (List.mem_append_left _ (by decide +kernel)) (by decide +kernel)
theorem qd_Model_exportAt_0 : decode kb_Model_exportAt 0 = .ok (.aload_n 0, 1) := by decide +kernel
theorem qd_Model_exportAt_1 : decode kb_Model_exportAt 1 = .ok (.aload_n 0, 1) := by decide +kernel
theorem qd_Model_exportAt_2 : decode kb_Model_exportAt 2 = .ok (.getfield 99, 3) := by decide +kernel
theorem qd_Model_exportAt_5 : decode kb_Model_exportAt 5 = .ok (.invokevirtual 102, 3) := by decide +kernel
theorem qd_Model_exportAt_8 : decode kb_Model_exportAt 8 = .ok (.bipush (12), 2) := by decide +kernel
theorem qd_Model_exportAt_10 : decode kb_Model_exportAt 10 = .ok (.iload_n 1, 1) := by decide +kernel
theorem qd_Model_exportAt_11 : decode kb_Model_exportAt 11 = .ok (.imul, 1) := by decide +kernel
theorem qd_Model_exportAt_12 : decode kb_Model_exportAt 12 = .ok (.iadd, 1) := by decide +kernel
theorem qd_Model_exportAt_13 : decode kb_Model_exportAt 13 = .ok (.ireturn, 1) := by decide +kernel
def qf_Model_exportAt (u : qm_S) (x1 : Int32) : Option (Int32 × qm_S) := xx_b2 (qf_Model_importAt u (u.1 23)) fun v2 u1 => some ((v2 + ((12 : Int32) * x1)), u1)
set_option maxHeartbeats 4000000 in
set_option maxRecDepth 100000 in
theorem qc_Model_exportAt (l : Launch) (g : xx_G) (u : qm_S) (x1 : Int32) (r : Int32) (u9 : qm_S) (hF : qf_Model_exportAt u x1 = some (r, u9)) : xx_M l g.1 (qm_T g) (qm_W g) ky_Model_exportAt kb_Model_exportAt 2 (some .int) (xx_rm 1 21) [.ref (g.2.1 0), .int x1] u (some (.int r)) u9 := by
  refine xx_body (by decide) (Nat.le_of_ble_eq_true rfl) ?_
  intro p e s m args below meth c A ls C hin hK hl hA hP hD hS
  have hx := C.1
  have hb := C.2.1
  have hown := C.2.2.2.1
  have hts := C.2.2.2.2.1
  have hl : lv_has ls 2 [(0, .ref (g.2.1 0)), (1, .int x1)] := hl
  unfold qf_Model_exportAt at hF
  refine lv_aload_n hx hb qd_Model_exportAt_0 rfl (lv_at hl 0 rfl) ?_
  refine lv_aload_n hx hb qd_Model_exportAt_1 rfl (lv_at hl 0 rfl) ?_
  refine xx_get C ki_Model hK hP 0 rfl rfl 23 (by decide) kw_896 rfl rfl qd_Model_exportAt_2 ?_
  obtain ⟨v2, u1, eu1, hF⟩ := xx_b2_some hF
  refine xx_callV (n := 1) (As := [.int (u.1 23)]) (rest := []) C (qc_Model_importAt l g u (u.1 23) v2 u1 eu1) ⟨kw_1056, kw_1053, kw_1055, ks_Model_importAt, kw_9⟩ ⟨by decide +kernel, by decide +kernel, by decide +kernel⟩ rfl ⟨Nat.le_of_ble_eq_true rfl, Nat.le_of_ble_eq_true rfl⟩ 0 rfl rfl hl.1 rfl (Nat.le_of_ble_eq_true rfl) hA hK hP hD hS ⟨Nat.le_refl _, Nat.le_refl _⟩ rfl rfl rfl qd_Model_exportAt_5 (fun H locs hP hD hS => ?_)
  refine lv_bipush (v := (12 : Int32)) hx hb qd_Model_exportAt_8 (by decide) ?_
  refine lv_iload_n hx hb qd_Model_exportAt_10 rfl (lv_at hl 1 rfl) ?_
  refine lv_imul hx hb qd_Model_exportAt_11 ?_
  refine lv_iadd hx hb qd_Model_exportAt_12 ?_
  exact xx_iret C hF hK hP hD hS qd_Model_exportAt_13
set_option maxRecDepth 100000 in
theorem kw_1080 : Cond.code ky_Model_isRowFree kb_Model_isRowFree 4 (some .boolean) ∈ xx_tb := xx_in (List.mem_append_right _ (List.mem_of_getElem? (i := 1080) (by rfl))) (by decide +kernel)
theorem kw_1077 : Cond.methodLink "ModuleLoaderModel" 133 ky_Model_isRowFree ∈ xx_tb := xx_in (List.mem_append_right _ (List.mem_of_getElem? (i := 1077) (by decide +kernel))) (by decide +kernel)
theorem kw_1079 : Cond.instanceMethod ky_Model_isRowFree ∈ xx_tb := xx_in (List.mem_append_right _ (List.mem_of_getElem? (i := 1079) (by decide +kernel))) (by decide +kernel)
theorem ks_Model_isRowFree : Cond.selects "ModuleLoaderModel" ky_Model_isRowFree ky_Model_isRowFree ∈ xx_tb := xx_in (List.mem_append_left _ (by decide +kernel)) (by decide +kernel)
theorem qd_Model_room_0 : decode kb_Model_room 0 = .ok (.iconst 0, 1) := by decide +kernel
theorem qd_Model_room_1 : decode kb_Model_room 1 = .ok (.istore_n 2, 1) := by decide +kernel
theorem qd_Model_room_2 : decode kb_Model_room 2 = .ok (.iconst 0, 1) := by decide +kernel
theorem qd_Model_room_3 : decode kb_Model_room 3 = .ok (.istore_n 3, 1) := by decide +kernel
theorem qd_Model_room_4 : decode kb_Model_room 4 = .ok (.iload_n 3, 1) := by decide +kernel
theorem qd_Model_room_5 : decode kb_Model_room 5 = .ok (.sipush (208), 3) := by decide +kernel
theorem qd_Model_room_8 : decode kb_Model_room 8 = .ok (.if_icmp .ge (43), 3) := by decide +kernel
theorem qd_Model_room_11 : decode kb_Model_room 11 = .ok (.aload_n 0, 1) := by decide +kernel
theorem qd_Model_room_12 : decode kb_Model_room 12 = .ok (.iload_n 3, 1) := by decide +kernel
theorem qd_Model_room_13 : decode kb_Model_room 13 = .ok (.invokevirtual 133, 3) := by decide +kernel
theorem qd_Model_room_16 : decode kb_Model_room 16 = .ok (.ifCond .eq (9), 3) := by decide +kernel
theorem qd_Model_room_19 : decode kb_Model_room 19 = .ok (.iload_n 2, 1) := by decide +kernel
theorem qd_Model_room_20 : decode kb_Model_room 20 = .ok (.iconst 1, 1) := by decide +kernel
theorem qd_Model_room_21 : decode kb_Model_room 21 = .ok (.iadd, 1) := by decide +kernel
theorem qd_Model_room_22 : decode kb_Model_room 22 = .ok (.goto (4), 3) := by decide +kernel
theorem qd_Model_room_25 : decode kb_Model_room 25 = .ok (.iconst 0, 1) := by decide +kernel
theorem qd_Model_room_26 : decode kb_Model_room 26 = .ok (.istore_n 2, 1) := by decide +kernel
theorem qd_Model_room_27 : decode kb_Model_room 27 = .ok (.iload_n 2, 1) := by decide +kernel
theorem qd_Model_room_28 : decode kb_Model_room 28 = .ok (.iload_n 1, 1) := by decide +kernel
theorem qd_Model_room_29 : decode kb_Model_room 29 = .ok (.if_icmp .ne (16), 3) := by decide +kernel
theorem qd_Model_room_32 : decode kb_Model_room 32 = .ok (.sipush (512), 3) := by decide +kernel
theorem qd_Model_room_35 : decode kb_Model_room 35 = .ok (.bipush (16), 2) := by decide +kernel
theorem qd_Model_room_37 : decode kb_Model_room 37 = .ok (.iload_n 3, 1) := by decide +kernel
theorem qd_Model_room_38 : decode kb_Model_room 38 = .ok (.iload_n 1, 1) := by decide +kernel
theorem qd_Model_room_39 : decode kb_Model_room 39 = .ok (.isub, 1) := by decide +kernel
theorem qd_Model_room_40 : decode kb_Model_room 40 = .ok (.iconst 1, 1) := by decide +kernel
theorem qd_Model_room_41 : decode kb_Model_room 41 = .ok (.iadd, 1) := by decide +kernel
theorem qd_Model_room_42 : decode kb_Model_room 42 = .ok (.imul, 1) := by decide +kernel
theorem qd_Model_room_43 : decode kb_Model_room 43 = .ok (.iadd, 1) := by decide +kernel
theorem qd_Model_room_44 : decode kb_Model_room 44 = .ok (.ireturn, 1) := by decide +kernel
theorem qd_Model_room_45 : decode kb_Model_room 45 = .ok (.iinc 3 (1), 3) := by decide +kernel
theorem qd_Model_room_48 : decode kb_Model_room 48 = .ok (.goto (-44), 3) := by decide +kernel
theorem qd_Model_room_51 : decode kb_Model_room 51 = .ok (.iconst (-1), 1) := by decide +kernel
theorem qd_Model_room_52 : decode kb_Model_room 52 = .ok (.ireturn, 1) := by decide +kernel
def qf_Model_room_b26 (rec4 : qm_S → Int32 → Int32 → Int32 → Option (Int32 × qm_S)) (u : qm_S) (x1 : Int32) (x3 : Int32) (y0 : Int32) : Option (Int32 × qm_S) := if y0 = x1 then (some (((512 : Int32) + ((16 : Int32) * ((x3 - x1) + (1 : Int32)))), u)) else (xx_nm (x3 + (1 : Int32)) fun v1 => rec4 u x1 y0 v1)
def qf_Model_room_b4 : Nat → qm_S → Int32 → Int32 → Int32 → Option (Int32 × qm_S)
  | 0, _, _, _, _ => none
  | n + 1, u, x1, x2, x3 => if (208 : Int32) ≤ x3 then (some ((-1 : Int32), u)) else (xx_b2 (qf_Model_isRowFree u x3) fun v2 u1 => if v2 = 0 then (qf_Model_room_b26 (qf_Model_room_b4 n) u1 x1 x3 (0 : Int32)) else (qf_Model_room_b26 (qf_Model_room_b4 n) u1 x1 x3 (x2 + (1 : Int32))))
def qf_Model_room (u : qm_S) (x1 : Int32) : Option (Int32 × qm_S) := xx_nm (0 : Int32) fun v1 => xx_nm (0 : Int32) fun v2 => qf_Model_room_b4 xx_fu u x1 v1 v2
set_option maxHeartbeats 4000000 in
set_option maxRecDepth 100000 in
theorem qw_Model_room_b26 {p : Program} {l : Launch} {e : Env} {s : State} {m : MethodId} {args : Array Value} {below : List Frame} {meth : Method} {c : Code} {A : Nat → Prop} {g : xx_G} {r : Int32} {u9 : qm_S} (C : xx_C p s m args meth c kb_Model_room 4 kr_Model (some .int)) (hA : ∀ q, s.heap.size ≤ q → A q) (hK : va_K g.1 xx_cls (qm_T g) s) {rec4 : qm_S → Int32 → Int32 → Int32 → Option (Int32 × qm_S)} (hrec4 : ∀ (u : qm_S) (x1 : Int32) (x2 : Int32) (x3 : Int32) (H : Heap) (locs : List Loc) (ls : Array Slot), rec4 u x1 x2 x3 = some (r, u9) → lv_has ls 4 [(0, .ref (g.2.1 0)), (1, .int x1), (2, .int x2), (3, .int x3)] → va_P g.1 xx_cls (qm_W g u) H → va_D A (qm_W g u) → va_S A s.heap H locs → W p l e (xx_rm 1 23) s m args below meth c H locs 0 0 (MQ below (xx_Q g.1 (qm_T g) (qm_W g) (some (.int r)) u9 A) args s 0 0 A) (F0 m 4 ls [])) : ∀ (u : qm_S) (x1 : Int32) (x3 : Int32) (y0 : Int32) (H : Heap) (locs : List Loc) (ls : Array Slot), qf_Model_room_b26 rec4 u x1 x3 y0 = some (r, u9) → lv_has ls 4 [(0, .ref (g.2.1 0)), (1, .int x1), (3, .int x3)] → va_P g.1 xx_cls (qm_W g u) H → va_D A (qm_W g u) → va_S A s.heap H locs → W p l e (xx_rm 1 23) s m args below meth c H locs 0 0 (MQ below (xx_Q g.1 (qm_T g) (qm_W g) (some (.int r)) u9 A) args s 0 0 A) (F0 m 26 ls [.int y0]) := by
  have hx := C.1
  have hb := C.2.1
  have hown := C.2.2.2.1
  have hts := C.2.2.2.2.1
  intro u x1 x3 y0 H locs ls hF hl hP hD hS
  unfold qf_Model_room_b26 at hF
  refine lv_istore_n hx hb qd_Model_room_26 rfl hl (by decide) rfl (fun ls hl => ?_)
  refine lv_iload_n hx hb qd_Model_room_27 rfl (lv_at hl 0 rfl) ?_
  refine lv_iload_n hx hb qd_Model_room_28 rfl (lv_at hl 2 rfl) ?_
  refine lv_icmp_ne (tgt := 45) hx hb qd_Model_room_29 (by decide) (fun hc => ?_) (fun hc => ?_)
  · have hF := xx_in' hc hF
    obtain ⟨v1, ev1, hF⟩ := xx_nm_some hF
    refine lv_iinc (k := 3) (v := v1) hx hb qd_Model_room_45 hl rfl (by rw [ev1, xx_lit1]) (by decide) rfl (fun ls hl => ?_)
    refine lv_goto (tgt := 4) hx hb qd_Model_room_48 (by decide) ?_
    exact hrec4 u x1 y0 v1 _ _ _ hF (lv_sub hl [2, 3, 1, 0] rfl) hP hD hS
  · have hF := xx_ip hc hF
    refine lv_sipush (v := (512 : Int32)) hx hb qd_Model_room_32 (by decide) ?_
    refine lv_bipush (v := (16 : Int32)) hx hb qd_Model_room_35 (by decide) ?_
    refine lv_iload_n hx hb qd_Model_room_37 rfl (lv_at hl 3 rfl) ?_
    refine lv_iload_n hx hb qd_Model_room_38 rfl (lv_at hl 2 rfl) ?_
    refine lv_isub hx hb qd_Model_room_39 ?_
    refine lv_iconst (v := (1 : Int32)) hx hb qd_Model_room_40 (by decide) ?_
    refine lv_iadd hx hb qd_Model_room_41 ?_
    refine lv_imul hx hb qd_Model_room_42 ?_
    refine lv_iadd hx hb qd_Model_room_43 ?_
    exact xx_iret C hF hK hP hD hS qd_Model_room_44
set_option maxHeartbeats 4000000 in
set_option maxRecDepth 100000 in
theorem qw_Model_room_b4 {p : Program} {l : Launch} {e : Env} {s : State} {m : MethodId} {args : Array Value} {below : List Frame} {meth : Method} {c : Code} {A : Nat → Prop} {g : xx_G} {r : Int32} {u9 : qm_S} (C : xx_C p s m args meth c kb_Model_room 4 kr_Model (some .int)) (hA : ∀ q, s.heap.size ≤ q → A q) (hK : va_K g.1 xx_cls (qm_T g) s) : ∀ (n : Nat), ∀ (u : qm_S) (x1 : Int32) (x2 : Int32) (x3 : Int32) (H : Heap) (locs : List Loc) (ls : Array Slot), qf_Model_room_b4 n u x1 x2 x3 = some (r, u9) → lv_has ls 4 [(0, .ref (g.2.1 0)), (1, .int x1), (2, .int x2), (3, .int x3)] → va_P g.1 xx_cls (qm_W g u) H → va_D A (qm_W g u) → va_S A s.heap H locs → W p l e (xx_rm 1 23) s m args below meth c H locs 0 0 (MQ below (xx_Q g.1 (qm_T g) (qm_W g) (some (.int r)) u9 A) args s 0 0 A) (F0 m 4 ls []) := by
  have hx := C.1
  have hb := C.2.1
  have hown := C.2.2.2.1
  have hts := C.2.2.2.2.1
  intro n
  induction n with
  | zero =>
    intro u x1 x2 x3 H locs ls hF
    rw [qf_Model_room_b4] at hF
    cases hF
  | succ n ih =>
    intro u x1 x2 x3 H locs ls hF hl hP hD hS
    rw [qf_Model_room_b4] at hF
    refine lv_iload_n hx hb qd_Model_room_4 rfl (lv_at hl 3 rfl) ?_
    refine lv_sipush (v := (208 : Int32)) hx hb qd_Model_room_5 (by decide) ?_
    refine lv_icmp_ge (tgt := 51) hx hb qd_Model_room_8 (by decide) (fun hc => ?_) (fun hc => ?_)
    · have hF := xx_ip hc hF
      refine lv_iconst (v := (-1 : Int32)) hx hb qd_Model_room_51 (by decide) ?_
      exact xx_iret C hF hK hP hD hS qd_Model_room_52
    · have hF := xx_in' hc hF
      refine lv_aload_n hx hb qd_Model_room_11 rfl (lv_at hl 0 rfl) ?_
      refine lv_iload_n hx hb qd_Model_room_12 rfl (lv_at hl 3 rfl) ?_
      obtain ⟨v2, u1, eu1, hF⟩ := xx_b2_some hF
      refine xx_callV (n := 1) (As := [.int x3]) (rest := []) C (qc_Model_isRowFree l g u x3 v2 u1 eu1) ⟨kw_1080, kw_1077, kw_1079, ks_Model_isRowFree, kw_9⟩ ⟨by decide +kernel, by decide +kernel, by decide +kernel⟩ rfl ⟨Nat.le_of_ble_eq_true rfl, Nat.le_of_ble_eq_true rfl⟩ 0 rfl rfl hl.1 rfl (Nat.le_of_ble_eq_true rfl) hA hK hP hD hS ⟨Nat.le_refl _, Nat.le_refl _⟩ rfl rfl rfl qd_Model_room_13 (fun H locs hP hD hS => ?_)
      refine lv_if_eq (tgt := 25) hx hb qd_Model_room_16 (by decide) (fun hc => ?_) (fun hc => ?_)
      · have hF := xx_ip hc hF
        refine lv_iconst (v := (0 : Int32)) hx hb qd_Model_room_25 (by decide) ?_
        exact qw_Model_room_b26 C hA hK ih  u1 x1 x3 (0 : Int32) _ _ _ hF (lv_sub hl [0, 1, 3] rfl) hP hD hS
      · have hF := xx_in' hc hF
        refine lv_iload_n hx hb qd_Model_room_19 rfl (lv_at hl 2 rfl) ?_
        refine lv_iconst (v := (1 : Int32)) hx hb qd_Model_room_20 (by decide) ?_
        refine lv_iadd hx hb qd_Model_room_21 ?_
        refine lv_goto (tgt := 26) hx hb qd_Model_room_22 (by decide) ?_
        exact qw_Model_room_b26 C hA hK ih  u1 x1 x3 (x2 + (1 : Int32)) _ _ _ hF (lv_sub hl [0, 1, 3] rfl) hP hD hS
set_option maxHeartbeats 4000000 in
set_option maxRecDepth 100000 in
theorem qc_Model_room (l : Launch) (g : xx_G) (u : qm_S) (x1 : Int32) (r : Int32) (u9 : qm_S) (hF : qf_Model_room u x1 = some (r, u9)) : xx_M l g.1 (qm_T g) (qm_W g) ky_Model_room kb_Model_room 4 (some .int) (xx_rm 1 23) [.ref (g.2.1 0), .int x1] u (some (.int r)) u9 := by
  refine xx_body (by decide) (Nat.le_of_ble_eq_true rfl) ?_
  intro p e s m args below meth c A ls C hin hK hl hA hP hD hS
  have hx := C.1
  have hb := C.2.1
  have hown := C.2.2.2.1
  have hts := C.2.2.2.2.1
  have hl : lv_has ls 4 [(0, .ref (g.2.1 0)), (1, .int x1)] := hl
  unfold qf_Model_room at hF
  refine lv_iconst (v := (0 : Int32)) hx hb qd_Model_room_0 (by decide) ?_
  obtain ⟨v1, ev1, hF⟩ := xx_nm_some hF
  refine xx_topi ev1 ?_
  refine lv_istore_n hx hb qd_Model_room_1 rfl hl (by decide) rfl (fun ls hl => ?_)
  refine lv_iconst (v := (0 : Int32)) hx hb qd_Model_room_2 (by decide) ?_
  obtain ⟨v2, ev2, hF⟩ := xx_nm_some hF
  refine xx_topi ev2 ?_
  refine lv_istore_n hx hb qd_Model_room_3 rfl hl (by decide) rfl (fun ls hl => ?_)
  exact qw_Model_room_b4 C hA hK xx_fu u x1 v1 v2 _ _ _ hF (lv_sub hl [2, 3, 1, 0] rfl) hP hD hS
set_option maxRecDepth 100000 in
theorem kw_1040 : Cond.code ky_Model_tapeWord kb_Model_tapeWord 2 (some .int) ∈ xx_tb := xx_in (List.mem_append_right _ (List.mem_of_getElem? (i := 1040) (by rfl))) (by decide +kernel)
theorem kw_1037 : Cond.methodLink "ModuleLoaderModel" 111 ky_Model_tapeWord ∈ xx_tb := xx_in (List.mem_append_right _ (List.mem_of_getElem? (i := 1037) (by decide +kernel))) (by decide +kernel)
theorem kw_1039 : Cond.instanceMethod ky_Model_tapeWord ∈ xx_tb := xx_in (List.mem_append_right _ (List.mem_of_getElem? (i := 1039) (by decide +kernel))) (by decide +kernel)
theorem ks_Model_tapeWord : Cond.selects "ModuleLoaderModel" ky_Model_tapeWord ky_Model_tapeWord ∈ xx_tb := xx_in (List.mem_append_left _ (by decide +kernel)) (by decide +kernel)
set_option maxRecDepth 100000 in
theorem kw_1060 : Cond.code ky_Model_wrong kb_Model_wrong 3 (some .boolean) ∈ xx_tb := xx_in (List.mem_append_right _ (List.mem_of_getElem? (i := 1060) (by rfl))) (by decide +kernel)
theorem kw_1057 : Cond.methodLink "ModuleLoaderModel" 139 ky_Model_wrong ∈ xx_tb := xx_in (List.mem_append_right _ (List.mem_of_getElem? (i := 1057) (by decide +kernel))) (by decide +kernel)
theorem kw_1059 : Cond.instanceMethod ky_Model_wrong ∈ xx_tb := xx_in (List.mem_append_right _ (List.mem_of_getElem? (i := 1059) (by decide +kernel))) (by decide +kernel)
theorem ks_Model_wrong : Cond.selects "ModuleLoaderModel" ky_Model_wrong ky_Model_wrong ∈ xx_tb := xx_in (List.mem_append_left _ (by decide +kernel)) (by decide +kernel)
theorem qd_Model_importsWrong_0 : decode kb_Model_importsWrong 0 = .ok (.iconst 0, 1) := by decide +kernel
theorem qd_Model_importsWrong_1 : decode kb_Model_importsWrong 1 = .ok (.istore_n 1, 1) := by decide +kernel
theorem qd_Model_importsWrong_2 : decode kb_Model_importsWrong 2 = .ok (.iload_n 1, 1) := by decide +kernel
theorem qd_Model_importsWrong_3 : decode kb_Model_importsWrong 3 = .ok (.aload_n 0, 1) := by decide +kernel
theorem qd_Model_importsWrong_4 : decode kb_Model_importsWrong 4 = .ok (.getfield 99, 3) := by decide +kernel
theorem qd_Model_importsWrong_7 : decode kb_Model_importsWrong 7 = .ok (.if_icmp .ge (61), 3) := by decide +kernel
theorem qd_Model_importsWrong_10 : decode kb_Model_importsWrong 10 = .ok (.aload_n 0, 1) := by decide +kernel
theorem qd_Model_importsWrong_11 : decode kb_Model_importsWrong 11 = .ok (.aload_n 0, 1) := by decide +kernel
theorem qd_Model_importsWrong_12 : decode kb_Model_importsWrong 12 = .ok (.aload_n 0, 1) := by decide +kernel
theorem qd_Model_importsWrong_13 : decode kb_Model_importsWrong 13 = .ok (.iload_n 1, 1) := by decide +kernel
theorem qd_Model_importsWrong_14 : decode kb_Model_importsWrong 14 = .ok (.invokevirtual 102, 3) := by decide +kernel
theorem qd_Model_importsWrong_17 : decode kb_Model_importsWrong 17 = .ok (.invokevirtual 111, 3) := by decide +kernel
theorem qd_Model_importsWrong_20 : decode kb_Model_importsWrong 20 = .ok (.invokevirtual 86, 3) := by decide +kernel
theorem qd_Model_importsWrong_23 : decode kb_Model_importsWrong 23 = .ok (.istore_n 2, 1) := by decide +kernel
theorem qd_Model_importsWrong_24 : decode kb_Model_importsWrong 24 = .ok (.iload_n 2, 1) := by decide +kernel
theorem qd_Model_importsWrong_25 : decode kb_Model_importsWrong 25 = .ok (.ifCond .ge (10), 3) := by decide +kernel
theorem qd_Model_importsWrong_28 : decode kb_Model_importsWrong 28 = .ok (.aload_n 0, 1) := by decide +kernel
theorem qd_Model_importsWrong_29 : decode kb_Model_importsWrong 29 = .ok (.iconst 3, 1) := by decide +kernel
theorem qd_Model_importsWrong_30 : decode kb_Model_importsWrong 30 = .ok (.iload_n 1, 1) := by decide +kernel
theorem qd_Model_importsWrong_31 : decode kb_Model_importsWrong 31 = .ok (.invokevirtual 139, 3) := by decide +kernel
theorem qd_Model_importsWrong_34 : decode kb_Model_importsWrong 34 = .ok (.ireturn, 1) := by decide +kernel
theorem qd_Model_importsWrong_35 : decode kb_Model_importsWrong 35 = .ok (.aload_n 0, 1) := by decide +kernel
theorem qd_Model_importsWrong_36 : decode kb_Model_importsWrong 36 = .ok (.getfield 16, 3) := by decide +kernel
theorem qd_Model_importsWrong_39 : decode kb_Model_importsWrong 39 = .ok (.iload_n 2, 1) := by decide +kernel
theorem qd_Model_importsWrong_40 : decode kb_Model_importsWrong 40 = .ok (.iaload, 1) := by decide +kernel
theorem qd_Model_importsWrong_41 : decode kb_Model_importsWrong 41 = .ok (.aload_n 0, 1) := by decide +kernel
theorem qd_Model_importsWrong_42 : decode kb_Model_importsWrong 42 = .ok (.aload_n 0, 1) := by decide +kernel
theorem qd_Model_importsWrong_43 : decode kb_Model_importsWrong 43 = .ok (.iload_n 1, 1) := by decide +kernel
theorem qd_Model_importsWrong_44 : decode kb_Model_importsWrong 44 = .ok (.invokevirtual 102, 3) := by decide +kernel
theorem qd_Model_importsWrong_47 : decode kb_Model_importsWrong 47 = .ok (.iconst 4, 1) := by decide +kernel
theorem qd_Model_importsWrong_48 : decode kb_Model_importsWrong 48 = .ok (.iadd, 1) := by decide +kernel
theorem qd_Model_importsWrong_49 : decode kb_Model_importsWrong 49 = .ok (.invokevirtual 111, 3) := by decide +kernel
theorem qd_Model_importsWrong_52 : decode kb_Model_importsWrong 52 = .ok (.if_icmp .eq (10), 3) := by decide +kernel
theorem qd_Model_importsWrong_55 : decode kb_Model_importsWrong 55 = .ok (.aload_n 0, 1) := by decide +kernel
theorem qd_Model_importsWrong_56 : decode kb_Model_importsWrong 56 = .ok (.iconst 4, 1) := by decide +kernel
theorem qd_Model_importsWrong_57 : decode kb_Model_importsWrong 57 = .ok (.iload_n 1, 1) := by decide +kernel
theorem qd_Model_importsWrong_58 : decode kb_Model_importsWrong 58 = .ok (.invokevirtual 139, 3) := by decide +kernel
theorem qd_Model_importsWrong_61 : decode kb_Model_importsWrong 61 = .ok (.ireturn, 1) := by decide +kernel
theorem qd_Model_importsWrong_62 : decode kb_Model_importsWrong 62 = .ok (.iinc 1 (1), 3) := by decide +kernel
theorem qd_Model_importsWrong_65 : decode kb_Model_importsWrong 65 = .ok (.goto (-63), 3) := by decide +kernel
theorem qd_Model_importsWrong_68 : decode kb_Model_importsWrong 68 = .ok (.iconst 0, 1) := by decide +kernel
theorem qd_Model_importsWrong_69 : decode kb_Model_importsWrong 69 = .ok (.ireturn, 1) := by decide +kernel
def qf_Model_importsWrong_b2 : Nat → qm_S → Int32 → Option (Int32 × qm_S)
  | 0, _, _ => none
  | n + 1, u, x1 => if (u.1 23) ≤ x1 then (some (vp_nar .boolean (0 : Int32), u)) else (xx_b2 (qf_Model_importAt u x1) fun v2 u1 => xx_b2 (qf_Model_tapeWord u1 v2) fun v4 u3 => xx_b2 (qf_Model_find u3 v4) fun v6 u5 => if 0 ≤ v6 then ((xx_ag (u5.2 3) 40 v6).bind fun v7 => xx_b2 (qf_Model_importAt u5 x1) fun v9 u8 => xx_b2 (qf_Model_tapeWord u8 (v9 + (4 : Int32))) fun v11 u10 => if v7 = v11 then (xx_nm (x1 + (1 : Int32)) fun v12 => (qf_Model_importsWrong_b2 n) u10 v12) else (xx_b2 (qf_Model_wrong u10 (4 : Int32) x1) fun v14 u13 => some (vp_nar .boolean v14, u13))) else (xx_b2 (qf_Model_wrong u5 (3 : Int32) x1) fun v16 u15 => some (vp_nar .boolean v16, u15)))
def qf_Model_importsWrong (u : qm_S) : Option (Int32 × qm_S) := xx_nm (0 : Int32) fun v1 => qf_Model_importsWrong_b2 xx_fu u v1
set_option maxHeartbeats 4000000 in
set_option maxRecDepth 100000 in
theorem qw_Model_importsWrong_b2 {p : Program} {l : Launch} {e : Env} {s : State} {m : MethodId} {args : Array Value} {below : List Frame} {meth : Method} {c : Code} {A : Nat → Prop} {g : xx_G} {r : Int32} {u9 : qm_S} (C : xx_C p s m args meth c kb_Model_importsWrong 3 kr_Model (some .boolean)) (hA : ∀ q, s.heap.size ≤ q → A q) (hK : va_K g.1 xx_cls (qm_T g) s) : ∀ (n : Nat), ∀ (u : qm_S) (x1 : Int32) (H : Heap) (locs : List Loc) (ls : Array Slot), qf_Model_importsWrong_b2 n u x1 = some (r, u9) → lv_has ls 3 [(0, .ref (g.2.1 0)), (1, .int x1)] → va_P g.1 xx_cls (qm_W g u) H → va_D A (qm_W g u) → va_S A s.heap H locs → W p l e (xx_rm 1 22) s m args below meth c H locs 0 0 (MQ below (xx_Q g.1 (qm_T g) (qm_W g) (some (.int r)) u9 A) args s 0 0 A) (F0 m 2 ls []) := by
  have hx := C.1
  have hb := C.2.1
  have hown := C.2.2.2.1
  have hts := C.2.2.2.2.1
  intro n
  induction n with
  | zero =>
    intro u x1 H locs ls hF
    rw [qf_Model_importsWrong_b2] at hF
    cases hF
  | succ n ih =>
    intro u x1 H locs ls hF hl hP hD hS
    rw [qf_Model_importsWrong_b2] at hF
    refine lv_iload_n hx hb qd_Model_importsWrong_2 rfl (lv_at hl 1 rfl) ?_
    refine lv_aload_n hx hb qd_Model_importsWrong_3 rfl (lv_at hl 0 rfl) ?_
    refine xx_get C ki_Model hK hP 0 rfl rfl 23 (by decide) kw_896 rfl rfl qd_Model_importsWrong_4 ?_
    refine lv_icmp_ge (tgt := 68) hx hb qd_Model_importsWrong_7 (by decide) (fun hc => ?_) (fun hc => ?_)
    · have hF := xx_ip hc hF
      refine lv_iconst (v := (0 : Int32)) hx hb qd_Model_importsWrong_68 (by decide) ?_
      exact xx_zret C hF hK hP hD hS qd_Model_importsWrong_69
    · have hF := xx_in' hc hF
      refine lv_aload_n hx hb qd_Model_importsWrong_10 rfl (lv_at hl 0 rfl) ?_
      refine lv_aload_n hx hb qd_Model_importsWrong_11 rfl (lv_at hl 0 rfl) ?_
      refine lv_aload_n hx hb qd_Model_importsWrong_12 rfl (lv_at hl 0 rfl) ?_
      refine lv_iload_n hx hb qd_Model_importsWrong_13 rfl (lv_at hl 1 rfl) ?_
      obtain ⟨v2, u1, eu1, hF⟩ := xx_b2_some hF
      refine xx_callV (n := 1) (As := [.int x1]) (rest := [.ref (g.2.1 0), .ref (g.2.1 0)]) C (qc_Model_importAt l g u x1 v2 u1 eu1) ⟨kw_1056, kw_1053, kw_1055, ks_Model_importAt, kw_9⟩ ⟨by decide +kernel, by decide +kernel, by decide +kernel⟩ rfl ⟨Nat.le_of_ble_eq_true rfl, Nat.le_of_ble_eq_true rfl⟩ 0 rfl rfl hl.1 rfl (Nat.le_of_ble_eq_true rfl) hA hK hP hD hS ⟨Nat.le_refl _, Nat.le_refl _⟩ rfl rfl rfl qd_Model_importsWrong_14 (fun H locs hP hD hS => ?_)
      obtain ⟨v4, u3, eu3, hF⟩ := xx_b2_some hF
      refine xx_callV (n := 1) (As := [.int v2]) (rest := [.ref (g.2.1 0)]) C (qc_Model_tapeWord l g u1 v2 v4 u3 eu3) ⟨kw_1040, kw_1037, kw_1039, ks_Model_tapeWord, kw_9⟩ ⟨by decide +kernel, by decide +kernel, by decide +kernel⟩ rfl ⟨Nat.le_of_ble_eq_true rfl, Nat.le_of_ble_eq_true rfl⟩ 0 rfl rfl hl.1 rfl (Nat.le_of_ble_eq_true rfl) hA hK hP hD hS ⟨Nat.le_refl _, Nat.le_refl _⟩ rfl rfl rfl qd_Model_importsWrong_17 (fun H locs hP hD hS => ?_)
      obtain ⟨v6, u5, eu5, hF⟩ := xx_b2_some hF
      refine xx_callV (n := 1) (As := [.int v4]) (rest := []) C (qc_Model_find l g u3 v4 v6 u5 eu5) ⟨kw_1012, kw_1009, kw_1011, ks_Model_find, kw_9⟩ ⟨by decide +kernel, by decide +kernel, by decide +kernel⟩ rfl ⟨Nat.le_of_ble_eq_true rfl, Nat.le_of_ble_eq_true rfl⟩ 0 rfl rfl hl.1 rfl (Nat.le_of_ble_eq_true rfl) hA hK hP hD hS ⟨Nat.le_refl _, Nat.le_refl _⟩ rfl rfl rfl qd_Model_importsWrong_20 (fun H locs hP hD hS => ?_)
      refine lv_istore_n hx hb qd_Model_importsWrong_23 rfl hl (by decide) rfl (fun ls hl => ?_)
      refine lv_iload_n hx hb qd_Model_importsWrong_24 rfl (lv_at hl 0 rfl) ?_
      refine lv_if_ge (tgt := 35) hx hb qd_Model_importsWrong_25 (by decide) (fun hc => ?_) (fun hc => ?_)
      · have hF := xx_ip hc hF
        refine lv_aload_n hx hb qd_Model_importsWrong_35 rfl (lv_at hl 1 rfl) ?_
        refine xx_get C ki_Model hK hP 0 rfl rfl 5 (by decide) kw_878 rfl rfl qd_Model_importsWrong_36 ?_
        refine lv_iload_n hx hb qd_Model_importsWrong_39 rfl (lv_at hl 0 rfl) ?_
        obtain ⟨v7, ev7, hF⟩ := xx_ob hF
        refine xx_iald C hK hP 3 0 rfl rfl ev7 qd_Model_importsWrong_40 ?_
        refine lv_aload_n hx hb qd_Model_importsWrong_41 rfl (lv_at hl 1 rfl) ?_
        refine lv_aload_n hx hb qd_Model_importsWrong_42 rfl (lv_at hl 1 rfl) ?_
        refine lv_iload_n hx hb qd_Model_importsWrong_43 rfl (lv_at hl 2 rfl) ?_
        obtain ⟨v9, u8, eu8, hF⟩ := xx_b2_some hF
        refine xx_callV (n := 1) (As := [.int x1]) (rest := [.ref (g.2.1 0), .int v7]) C (qc_Model_importAt l g u5 x1 v9 u8 eu8) ⟨kw_1056, kw_1053, kw_1055, ks_Model_importAt, kw_9⟩ ⟨by decide +kernel, by decide +kernel, by decide +kernel⟩ rfl ⟨Nat.le_of_ble_eq_true rfl, Nat.le_of_ble_eq_true rfl⟩ 0 rfl rfl hl.1 rfl (Nat.le_of_ble_eq_true rfl) hA hK hP hD hS ⟨Nat.le_refl _, Nat.le_refl _⟩ rfl rfl rfl qd_Model_importsWrong_44 (fun H locs hP hD hS => ?_)
        refine lv_iconst (v := (4 : Int32)) hx hb qd_Model_importsWrong_47 (by decide) ?_
        refine lv_iadd hx hb qd_Model_importsWrong_48 ?_
        obtain ⟨v11, u10, eu10, hF⟩ := xx_b2_some hF
        refine xx_callV (n := 1) (As := [.int (v9 + (4 : Int32))]) (rest := [.int v7]) C (qc_Model_tapeWord l g u8 (v9 + (4 : Int32)) v11 u10 eu10) ⟨kw_1040, kw_1037, kw_1039, ks_Model_tapeWord, kw_9⟩ ⟨by decide +kernel, by decide +kernel, by decide +kernel⟩ rfl ⟨Nat.le_of_ble_eq_true rfl, Nat.le_of_ble_eq_true rfl⟩ 0 rfl rfl hl.1 rfl (Nat.le_of_ble_eq_true rfl) hA hK hP hD hS ⟨Nat.le_refl _, Nat.le_refl _⟩ rfl rfl rfl qd_Model_importsWrong_49 (fun H locs hP hD hS => ?_)
        refine lv_icmp_eq (tgt := 62) hx hb qd_Model_importsWrong_52 (by decide) (fun hc => ?_) (fun hc => ?_)
        · have hF := xx_ip hc hF
          obtain ⟨v12, ev12, hF⟩ := xx_nm_some hF
          refine lv_iinc (k := 2) (v := v12) hx hb qd_Model_importsWrong_62 hl rfl (by rw [ev12, xx_lit1]) (by decide) rfl (fun ls hl => ?_)
          refine lv_goto (tgt := 2) hx hb qd_Model_importsWrong_65 (by decide) ?_
          exact ih u10 v12 _ _ _ hF (lv_sub hl [2, 0] rfl) hP hD hS
        · have hF := xx_in' hc hF
          refine lv_aload_n hx hb qd_Model_importsWrong_55 rfl (lv_at hl 1 rfl) ?_
          refine lv_iconst (v := (4 : Int32)) hx hb qd_Model_importsWrong_56 (by decide) ?_
          refine lv_iload_n hx hb qd_Model_importsWrong_57 rfl (lv_at hl 2 rfl) ?_
          obtain ⟨v14, u13, eu13, hF⟩ := xx_b2_some hF
          refine xx_callV (n := 2) (As := [.int (4 : Int32), .int x1]) (rest := []) C (qc_Model_wrong l g u10 (4 : Int32) x1 v14 u13 eu13) ⟨kw_1060, kw_1057, kw_1059, ks_Model_wrong, kw_9⟩ ⟨by decide +kernel, by decide +kernel, by decide +kernel⟩ rfl ⟨Nat.le_of_ble_eq_true rfl, Nat.le_of_ble_eq_true rfl⟩ 0 rfl rfl hl.1 rfl (Nat.le_of_ble_eq_true rfl) hA hK hP hD hS ⟨Nat.le_refl _, Nat.le_refl _⟩ rfl rfl rfl qd_Model_importsWrong_58 (fun H locs hP hD hS => ?_)
          exact xx_zret C hF hK hP hD hS qd_Model_importsWrong_61
      · have hF := xx_in' hc hF
        refine lv_aload_n hx hb qd_Model_importsWrong_28 rfl (lv_at hl 1 rfl) ?_
        refine lv_iconst (v := (3 : Int32)) hx hb qd_Model_importsWrong_29 (by decide) ?_
        refine lv_iload_n hx hb qd_Model_importsWrong_30 rfl (lv_at hl 2 rfl) ?_
        obtain ⟨v16, u15, eu15, hF⟩ := xx_b2_some hF
        refine xx_callV (n := 2) (As := [.int (3 : Int32), .int x1]) (rest := []) C (qc_Model_wrong l g u5 (3 : Int32) x1 v16 u15 eu15) ⟨kw_1060, kw_1057, kw_1059, ks_Model_wrong, kw_9⟩ ⟨by decide +kernel, by decide +kernel, by decide +kernel⟩ rfl ⟨Nat.le_of_ble_eq_true rfl, Nat.le_of_ble_eq_true rfl⟩ 0 rfl rfl hl.1 rfl (Nat.le_of_ble_eq_true rfl) hA hK hP hD hS ⟨Nat.le_refl _, Nat.le_refl _⟩ rfl rfl rfl qd_Model_importsWrong_31 (fun H locs hP hD hS => ?_)
        exact xx_zret C hF hK hP hD hS qd_Model_importsWrong_34
set_option maxHeartbeats 4000000 in
set_option maxRecDepth 100000 in
theorem qc_Model_importsWrong (l : Launch) (g : xx_G) (u : qm_S) (r : Int32) (u9 : qm_S) (hF : qf_Model_importsWrong u = some (r, u9)) : xx_M l g.1 (qm_T g) (qm_W g) ky_Model_importsWrong kb_Model_importsWrong 3 (some .boolean) (xx_rm 1 22) [.ref (g.2.1 0)] u (some (.int r)) u9 := by
  refine xx_body (by decide) (Nat.le_of_ble_eq_true rfl) ?_
  intro p e s m args below meth c A ls C hin hK hl hA hP hD hS
  have hx := C.1
  have hb := C.2.1
  have hown := C.2.2.2.1
  have hts := C.2.2.2.2.1
  have hl : lv_has ls 3 [(0, .ref (g.2.1 0))] := hl
  unfold qf_Model_importsWrong at hF
  refine lv_iconst (v := (0 : Int32)) hx hb qd_Model_importsWrong_0 (by decide) ?_
  obtain ⟨v1, ev1, hF⟩ := xx_nm_some hF
  refine xx_topi ev1 ?_
  refine lv_istore_n hx hb qd_Model_importsWrong_1 rfl hl (by decide) rfl (fun ls hl => ?_)
  exact qw_Model_importsWrong_b2 C hA hK xx_fu u v1 _ _ _ hF (lv_sub hl [1, 0] rfl) hP hD hS
set_option maxRecDepth 100000 in
theorem kw_1109 : Cond.code ky_Model_isBelow kb_Model_isBelow 2 (some .boolean) ∈ xx_tb := xx_in (List.mem_append_right _ (List.mem_of_getElem? (i := 1109) (by rfl))) (by decide +kernel)
theorem kw_1107 : Cond.methodLink "ModuleLoaderModel" 217 ky_Model_isBelow ∈ xx_tb := xx_in (List.mem_append_right _ (List.mem_of_getElem? (i := 1107) (by decide +kernel))) (by decide +kernel)
theorem kw_1108 : Cond.static ky_Model_isBelow ∈ xx_tb := xx_in (List.mem_append_right _ (List.mem_of_getElem? (i := 1108) (by decide +kernel))) (by decide +kernel)
theorem qd_Model_isSo_0 : decode kb_Model_isSo 0 = .ok (.iload_n 0, 1) := by decide +kernel
theorem qd_Model_isSo_1 : decode kb_Model_isSo 1 = .ok (.iconst 2, 1) := by decide +kernel
theorem qd_Model_isSo_2 : decode kb_Model_isSo 2 = .ok (.if_icmp .ge (16), 3) := by decide +kernel
theorem qd_Model_isSo_5 : decode kb_Model_isSo 5 = .ok (.iload_n 1, 1) := by decide +kernel
theorem qd_Model_isSo_6 : decode kb_Model_isSo 6 = .ok (.iload_n 2, 1) := by decide +kernel
theorem qd_Model_isSo_7 : decode kb_Model_isSo 7 = .ok (.if_icmp .ne (7), 3) := by decide +kernel
theorem qd_Model_isSo_10 : decode kb_Model_isSo 10 = .ok (.iconst 1, 1) := by decide +kernel
theorem qd_Model_isSo_11 : decode kb_Model_isSo 11 = .ok (.goto (31), 3) := by decide +kernel
theorem qd_Model_isSo_14 : decode kb_Model_isSo 14 = .ok (.iconst 0, 1) := by decide +kernel
theorem qd_Model_isSo_15 : decode kb_Model_isSo 15 = .ok (.goto (27), 3) := by decide +kernel
theorem qd_Model_isSo_18 : decode kb_Model_isSo 18 = .ok (.iload_n 0, 1) := by decide +kernel
theorem qd_Model_isSo_19 : decode kb_Model_isSo 19 = .ok (.bipush (6), 2) := by decide +kernel
theorem qd_Model_isSo_21 : decode kb_Model_isSo 21 = .ok (.if_icmp .ge (16), 3) := by decide +kernel
theorem qd_Model_isSo_24 : decode kb_Model_isSo 24 = .ok (.iload_n 1, 1) := by decide +kernel
theorem qd_Model_isSo_25 : decode kb_Model_isSo 25 = .ok (.iload_n 2, 1) := by decide +kernel
theorem qd_Model_isSo_26 : decode kb_Model_isSo 26 = .ok (.if_icmp .ge (7), 3) := by decide +kernel
theorem qd_Model_isSo_29 : decode kb_Model_isSo 29 = .ok (.iconst 1, 1) := by decide +kernel
theorem qd_Model_isSo_30 : decode kb_Model_isSo 30 = .ok (.goto (12), 3) := by decide +kernel
theorem qd_Model_isSo_33 : decode kb_Model_isSo 33 = .ok (.iconst 0, 1) := by decide +kernel
theorem qd_Model_isSo_34 : decode kb_Model_isSo 34 = .ok (.goto (8), 3) := by decide +kernel
theorem qd_Model_isSo_37 : decode kb_Model_isSo 37 = .ok (.iload_n 1, 1) := by decide +kernel
theorem qd_Model_isSo_38 : decode kb_Model_isSo 38 = .ok (.iload_n 2, 1) := by decide +kernel
theorem qd_Model_isSo_39 : decode kb_Model_isSo 39 = .ok (.invokestatic 217, 3) := by decide +kernel
theorem qd_Model_isSo_42 : decode kb_Model_isSo 42 = .ok (.istore_n 3, 1) := by decide +kernel
theorem qd_Model_isSo_43 : decode kb_Model_isSo 43 = .ok (.iload_n 0, 1) := by decide +kernel
theorem qd_Model_isSo_44 : decode kb_Model_isSo 44 = .ok (.iconst 2, 1) := by decide +kernel
theorem qd_Model_isSo_45 : decode kb_Model_isSo 45 = .ok (.irem, 1) := by decide +kernel
theorem qd_Model_isSo_46 : decode kb_Model_isSo 46 = .ok (.ifCond .ne (7), 3) := by decide +kernel
theorem qd_Model_isSo_49 : decode kb_Model_isSo 49 = .ok (.iconst 1, 1) := by decide +kernel
theorem qd_Model_isSo_50 : decode kb_Model_isSo 50 = .ok (.goto (4), 3) := by decide +kernel
theorem qd_Model_isSo_53 : decode kb_Model_isSo 53 = .ok (.iconst 0, 1) := by decide +kernel
theorem qd_Model_isSo_54 : decode kb_Model_isSo 54 = .ok (.iload_n 3, 1) := by decide +kernel
theorem qd_Model_isSo_55 : decode kb_Model_isSo 55 = .ok (.if_icmp .ne (7), 3) := by decide +kernel
theorem qd_Model_isSo_58 : decode kb_Model_isSo 58 = .ok (.iconst 1, 1) := by decide +kernel
theorem qd_Model_isSo_59 : decode kb_Model_isSo 59 = .ok (.goto (4), 3) := by decide +kernel
theorem qd_Model_isSo_62 : decode kb_Model_isSo 62 = .ok (.iconst 0, 1) := by decide +kernel
theorem qd_Model_isSo_63 : decode kb_Model_isSo 63 = .ok (.ireturn, 1) := by decide +kernel
def qf_Model_isSo_b63 (u : qm_S) (y0 : Int32) : Option (Int32 × qm_S) := some (vp_nar .boolean y0, u)
def qf_Model_isSo_b54 (u : qm_S) (x3 : Int32) (y0 : Int32) : Option (Int32 × qm_S) := if y0 = x3 then (qf_Model_isSo_b63 u (1 : Int32)) else (qf_Model_isSo_b63 u (0 : Int32))
def qf_Model_isSo_b42 (u : qm_S) (x0 : Int32) (y0 : Int32) : Option (Int32 × qm_S) := if (x0 - x0 / (2 : Int32) * (2 : Int32)) = 0 then (qf_Model_isSo_b54 u y0 (1 : Int32)) else (qf_Model_isSo_b54 u y0 (0 : Int32))
def qf_Model_isSo (u : qm_S) (x0 : Int32) (x1 : Int32) (x2 : Int32) : Option (Int32 × qm_S) := if (2 : Int32) ≤ x0 then (if (6 : Int32) ≤ x0 then (xx_b2 (qf_Model_isBelow u x1 x2) fun v2 u1 => qf_Model_isSo_b42 u1 x0 v2) else (if x2 ≤ x1 then (qf_Model_isSo_b42 u x0 (0 : Int32)) else (qf_Model_isSo_b42 u x0 (1 : Int32)))) else (if x1 = x2 then (qf_Model_isSo_b42 u x0 (1 : Int32)) else (qf_Model_isSo_b42 u x0 (0 : Int32)))
set_option maxHeartbeats 4000000 in
set_option maxRecDepth 100000 in
theorem qw_Model_isSo_b63 {p : Program} {l : Launch} {e : Env} {s : State} {m : MethodId} {args : Array Value} {below : List Frame} {meth : Method} {c : Code} {A : Nat → Prop} {g : xx_G} {r : Int32} {u9 : qm_S} (C : xx_C p s m args meth c kb_Model_isSo 4 kr_Model (some .boolean)) (hA : ∀ q, s.heap.size ≤ q → A q) (hK : va_K g.1 xx_cls (qm_T g) s) : ∀ (u : qm_S) (y0 : Int32) (H : Heap) (locs : List Loc) (ls : Array Slot), qf_Model_isSo_b63 u y0 = some (r, u9) → lv_has ls 4 [] → va_P g.1 xx_cls (qm_W g u) H → va_D A (qm_W g u) → va_S A s.heap H locs → W p l e (xx_rm 1 21) s m args below meth c H locs 0 0 (MQ below (xx_Q g.1 (qm_T g) (qm_W g) (some (.int r)) u9 A) args s 0 0 A) (F0 m 63 ls [.int y0]) := by
  have hx := C.1
  have hb := C.2.1
  have hown := C.2.2.2.1
  have hts := C.2.2.2.2.1
  intro u y0 H locs ls hF hl hP hD hS
  unfold qf_Model_isSo_b63 at hF
  exact xx_zret C hF hK hP hD hS qd_Model_isSo_63
set_option maxHeartbeats 4000000 in
set_option maxRecDepth 100000 in
theorem qw_Model_isSo_b54 {p : Program} {l : Launch} {e : Env} {s : State} {m : MethodId} {args : Array Value} {below : List Frame} {meth : Method} {c : Code} {A : Nat → Prop} {g : xx_G} {r : Int32} {u9 : qm_S} (C : xx_C p s m args meth c kb_Model_isSo 4 kr_Model (some .boolean)) (hA : ∀ q, s.heap.size ≤ q → A q) (hK : va_K g.1 xx_cls (qm_T g) s) : ∀ (u : qm_S) (x3 : Int32) (y0 : Int32) (H : Heap) (locs : List Loc) (ls : Array Slot), qf_Model_isSo_b54 u x3 y0 = some (r, u9) → lv_has ls 4 [(3, .int x3)] → va_P g.1 xx_cls (qm_W g u) H → va_D A (qm_W g u) → va_S A s.heap H locs → W p l e (xx_rm 1 21) s m args below meth c H locs 0 0 (MQ below (xx_Q g.1 (qm_T g) (qm_W g) (some (.int r)) u9 A) args s 0 0 A) (F0 m 54 ls [.int y0]) := by
  have hx := C.1
  have hb := C.2.1
  have hown := C.2.2.2.1
  have hts := C.2.2.2.2.1
  intro u x3 y0 H locs ls hF hl hP hD hS
  unfold qf_Model_isSo_b54 at hF
  refine lv_iload_n hx hb qd_Model_isSo_54 rfl (lv_at hl 0 rfl) ?_
  refine lv_icmp_ne (tgt := 62) hx hb qd_Model_isSo_55 (by decide) (fun hc => ?_) (fun hc => ?_)
  · have hF := xx_in' hc hF
    refine lv_iconst (v := (0 : Int32)) hx hb qd_Model_isSo_62 (by decide) ?_
    exact qw_Model_isSo_b63 C hA hK  u (0 : Int32) _ _ _ hF (lv_sub hl [] rfl) hP hD hS
  · have hF := xx_ip hc hF
    refine lv_iconst (v := (1 : Int32)) hx hb qd_Model_isSo_58 (by decide) ?_
    refine lv_goto (tgt := 63) hx hb qd_Model_isSo_59 (by decide) ?_
    exact qw_Model_isSo_b63 C hA hK  u (1 : Int32) _ _ _ hF (lv_sub hl [] rfl) hP hD hS
set_option maxHeartbeats 4000000 in
set_option maxRecDepth 100000 in
theorem qw_Model_isSo_b42 {p : Program} {l : Launch} {e : Env} {s : State} {m : MethodId} {args : Array Value} {below : List Frame} {meth : Method} {c : Code} {A : Nat → Prop} {g : xx_G} {r : Int32} {u9 : qm_S} (C : xx_C p s m args meth c kb_Model_isSo 4 kr_Model (some .boolean)) (hA : ∀ q, s.heap.size ≤ q → A q) (hK : va_K g.1 xx_cls (qm_T g) s) : ∀ (u : qm_S) (x0 : Int32) (y0 : Int32) (H : Heap) (locs : List Loc) (ls : Array Slot), qf_Model_isSo_b42 u x0 y0 = some (r, u9) → lv_has ls 4 [(0, .int x0)] → va_P g.1 xx_cls (qm_W g u) H → va_D A (qm_W g u) → va_S A s.heap H locs → W p l e (xx_rm 1 21) s m args below meth c H locs 0 0 (MQ below (xx_Q g.1 (qm_T g) (qm_W g) (some (.int r)) u9 A) args s 0 0 A) (F0 m 42 ls [.int y0]) := by
  have hx := C.1
  have hb := C.2.1
  have hown := C.2.2.2.1
  have hts := C.2.2.2.2.1
  intro u x0 y0 H locs ls hF hl hP hD hS
  unfold qf_Model_isSo_b42 at hF
  refine lv_istore_n hx hb qd_Model_isSo_42 rfl hl (by decide) rfl (fun ls hl => ?_)
  refine lv_iload_n hx hb qd_Model_isSo_43 rfl (lv_at hl 1 rfl) ?_
  refine lv_iconst (v := (2 : Int32)) hx hb qd_Model_isSo_44 (by decide) ?_
  refine lv_irem hx hb qd_Model_isSo_45 (by decide) ?_
  refine lv_if_ne (tgt := 53) hx hb qd_Model_isSo_46 (by decide) (fun hc => ?_) (fun hc => ?_)
  · have hF := xx_in' hc hF
    refine lv_iconst (v := (0 : Int32)) hx hb qd_Model_isSo_53 (by decide) ?_
    exact qw_Model_isSo_b54 C hA hK  u y0 (0 : Int32) _ _ _ hF (lv_sub hl [0] rfl) hP hD hS
  · have hF := xx_ip hc hF
    refine lv_iconst (v := (1 : Int32)) hx hb qd_Model_isSo_49 (by decide) ?_
    refine lv_goto (tgt := 54) hx hb qd_Model_isSo_50 (by decide) ?_
    exact qw_Model_isSo_b54 C hA hK  u y0 (1 : Int32) _ _ _ hF (lv_sub hl [0] rfl) hP hD hS
set_option maxHeartbeats 4000000 in
set_option maxRecDepth 100000 in
theorem qc_Model_isSo (l : Launch) (g : xx_G) (u : qm_S) (x0 : Int32) (x1 : Int32) (x2 : Int32) (r : Int32) (u9 : qm_S) (hF : qf_Model_isSo u x0 x1 x2 = some (r, u9)) : xx_M l g.1 (qm_T g) (qm_W g) ky_Model_isSo kb_Model_isSo 4 (some .boolean) (xx_rm 1 21) [.int x0, .int x1, .int x2] u (some (.int r)) u9 := by
  refine xx_body (by decide) (Nat.le_of_ble_eq_true rfl) ?_
  intro p e s m args below meth c A ls C hin hK hl hA hP hD hS
  have hx := C.1
  have hb := C.2.1
  have hown := C.2.2.2.1
  have hts := C.2.2.2.2.1
  have hl : lv_has ls 4 [(0, .int x0), (1, .int x1), (2, .int x2)] := hl
  unfold qf_Model_isSo at hF
  refine lv_iload_n hx hb qd_Model_isSo_0 rfl (lv_at hl 0 rfl) ?_
  refine lv_iconst (v := (2 : Int32)) hx hb qd_Model_isSo_1 (by decide) ?_
  refine lv_icmp_ge (tgt := 18) hx hb qd_Model_isSo_2 (by decide) (fun hc => ?_) (fun hc => ?_)
  · have hF := xx_ip hc hF
    refine lv_iload_n hx hb qd_Model_isSo_18 rfl (lv_at hl 0 rfl) ?_
    refine lv_bipush (v := (6 : Int32)) hx hb qd_Model_isSo_19 (by decide) ?_
    refine lv_icmp_ge (tgt := 37) hx hb qd_Model_isSo_21 (by decide) (fun hc => ?_) (fun hc => ?_)
    · have hF := xx_ip hc hF
      refine lv_iload_n hx hb qd_Model_isSo_37 rfl (lv_at hl 1 rfl) ?_
      refine lv_iload_n hx hb qd_Model_isSo_38 rfl (lv_at hl 2 rfl) ?_
      obtain ⟨v2, u1, eu1, hF⟩ := xx_b2_some hF
      refine xx_callS (n := 2) (As := [.int x1, .int x2]) (rest := []) C (qc_Model_isBelow l g u x1 x2 v2 u1 eu1) ⟨kw_1109, kw_1107, kw_1108, kw_9⟩ ⟨by decide +kernel, by decide +kernel, by decide +kernel⟩ rfl ⟨Nat.le_of_ble_eq_true rfl, Nat.le_of_ble_eq_true rfl⟩ hl.1 rfl (Nat.le_of_ble_eq_true rfl) hA hK hP hD hS ⟨Nat.le_refl _, Nat.le_refl _⟩ rfl rfl rfl qd_Model_isSo_39 (fun H locs hP hD hS => ?_)
      exact qw_Model_isSo_b42 C hA hK  u1 x0 v2 _ _ _ hF (lv_sub hl [0] rfl) hP hD hS
    · have hF := xx_in' hc hF
      refine lv_iload_n hx hb qd_Model_isSo_24 rfl (lv_at hl 1 rfl) ?_
      refine lv_iload_n hx hb qd_Model_isSo_25 rfl (lv_at hl 2 rfl) ?_
      refine lv_icmp_ge (tgt := 33) hx hb qd_Model_isSo_26 (by decide) (fun hc => ?_) (fun hc => ?_)
      · have hF := xx_ip hc hF
        refine lv_iconst (v := (0 : Int32)) hx hb qd_Model_isSo_33 (by decide) ?_
        refine lv_goto (tgt := 42) hx hb qd_Model_isSo_34 (by decide) ?_
        exact qw_Model_isSo_b42 C hA hK  u x0 (0 : Int32) _ _ _ hF (lv_sub hl [0] rfl) hP hD hS
      · have hF := xx_in' hc hF
        refine lv_iconst (v := (1 : Int32)) hx hb qd_Model_isSo_29 (by decide) ?_
        refine lv_goto (tgt := 42) hx hb qd_Model_isSo_30 (by decide) ?_
        exact qw_Model_isSo_b42 C hA hK  u x0 (1 : Int32) _ _ _ hF (lv_sub hl [0] rfl) hP hD hS
  · have hF := xx_in' hc hF
    refine lv_iload_n hx hb qd_Model_isSo_5 rfl (lv_at hl 1 rfl) ?_
    refine lv_iload_n hx hb qd_Model_isSo_6 rfl (lv_at hl 2 rfl) ?_
    refine lv_icmp_ne (tgt := 14) hx hb qd_Model_isSo_7 (by decide) (fun hc => ?_) (fun hc => ?_)
    · have hF := xx_in' hc hF
      refine lv_iconst (v := (0 : Int32)) hx hb qd_Model_isSo_14 (by decide) ?_
      refine lv_goto (tgt := 42) hx hb qd_Model_isSo_15 (by decide) ?_
      exact qw_Model_isSo_b42 C hA hK  u x0 (0 : Int32) _ _ _ hF (lv_sub hl [0] rfl) hP hD hS
    · have hF := xx_ip hc hF
      refine lv_iconst (v := (1 : Int32)) hx hb qd_Model_isSo_10 (by decide) ?_
      refine lv_goto (tgt := 42) hx hb qd_Model_isSo_11 (by decide) ?_
      exact qw_Model_isSo_b42 C hA hK  u x0 (1 : Int32) _ _ _ hF (lv_sub hl [0] rfl) hP hD hS
theorem qd_Model_reckon_0 : decode kb_Model_reckon 0 = .ok (.iload_n 0, 1) := by decide +kernel
theorem qd_Model_reckon_1 : decode kb_Model_reckon 1 = .ok (.tableswitch (98) (0) (6) #[43, 47, 51, 62, 76, 80, 94], 43) := by decide +kernel
theorem qd_Model_reckon_44 : decode kb_Model_reckon 44 = .ok (.iload_n 1, 1) := by decide +kernel
theorem qd_Model_reckon_45 : decode kb_Model_reckon 45 = .ok (.iload_n 2, 1) := by decide +kernel
theorem qd_Model_reckon_46 : decode kb_Model_reckon 46 = .ok (.iadd, 1) := by decide +kernel
theorem qd_Model_reckon_47 : decode kb_Model_reckon 47 = .ok (.ireturn, 1) := by decide +kernel
theorem qd_Model_reckon_48 : decode kb_Model_reckon 48 = .ok (.iload_n 1, 1) := by decide +kernel
theorem qd_Model_reckon_49 : decode kb_Model_reckon 49 = .ok (.iload_n 2, 1) := by decide +kernel
theorem qd_Model_reckon_50 : decode kb_Model_reckon 50 = .ok (.ishl, 1) := by decide +kernel
theorem qd_Model_reckon_51 : decode kb_Model_reckon 51 = .ok (.ireturn, 1) := by decide +kernel
theorem qd_Model_reckon_52 : decode kb_Model_reckon 52 = .ok (.iload_n 1, 1) := by decide +kernel
theorem qd_Model_reckon_53 : decode kb_Model_reckon 53 = .ok (.iload_n 2, 1) := by decide +kernel
theorem qd_Model_reckon_54 : decode kb_Model_reckon 54 = .ok (.if_icmp .ge (7), 3) := by decide +kernel
theorem qd_Model_reckon_57 : decode kb_Model_reckon 57 = .ok (.iconst 1, 1) := by decide +kernel
theorem qd_Model_reckon_58 : decode kb_Model_reckon 58 = .ok (.goto (4), 3) := by decide +kernel
theorem qd_Model_reckon_61 : decode kb_Model_reckon 61 = .ok (.iconst 0, 1) := by decide +kernel
theorem qd_Model_reckon_62 : decode kb_Model_reckon 62 = .ok (.ireturn, 1) := by decide +kernel
theorem qd_Model_reckon_63 : decode kb_Model_reckon 63 = .ok (.iload_n 1, 1) := by decide +kernel
theorem qd_Model_reckon_64 : decode kb_Model_reckon 64 = .ok (.iload_n 2, 1) := by decide +kernel
theorem qd_Model_reckon_65 : decode kb_Model_reckon 65 = .ok (.invokestatic 217, 3) := by decide +kernel
theorem qd_Model_reckon_68 : decode kb_Model_reckon 68 = .ok (.ifCond .eq (7), 3) := by decide +kernel
theorem qd_Model_reckon_71 : decode kb_Model_reckon 71 = .ok (.iconst 1, 1) := by decide +kernel
theorem qd_Model_reckon_72 : decode kb_Model_reckon 72 = .ok (.goto (4), 3) := by decide +kernel
theorem qd_Model_reckon_75 : decode kb_Model_reckon 75 = .ok (.iconst 0, 1) := by decide +kernel
theorem qd_Model_reckon_76 : decode kb_Model_reckon 76 = .ok (.ireturn, 1) := by decide +kernel
theorem qd_Model_reckon_77 : decode kb_Model_reckon 77 = .ok (.iload_n 1, 1) := by decide +kernel
theorem qd_Model_reckon_78 : decode kb_Model_reckon 78 = .ok (.iload_n 2, 1) := by decide +kernel
theorem qd_Model_reckon_79 : decode kb_Model_reckon 79 = .ok (.ixor, 1) := by decide +kernel
theorem qd_Model_reckon_80 : decode kb_Model_reckon 80 = .ok (.ireturn, 1) := by decide +kernel
theorem qd_Model_reckon_81 : decode kb_Model_reckon 81 = .ok (.iload_n 3, 1) := by decide +kernel
theorem qd_Model_reckon_82 : decode kb_Model_reckon 82 = .ok (.ifCond .eq (9), 3) := by decide +kernel
theorem qd_Model_reckon_85 : decode kb_Model_reckon 85 = .ok (.iload_n 1, 1) := by decide +kernel
theorem qd_Model_reckon_86 : decode kb_Model_reckon 86 = .ok (.iload_n 2, 1) := by decide +kernel
theorem qd_Model_reckon_87 : decode kb_Model_reckon 87 = .ok (.ishr, 1) := by decide +kernel
theorem qd_Model_reckon_88 : decode kb_Model_reckon 88 = .ok (.goto (6), 3) := by decide +kernel
theorem qd_Model_reckon_91 : decode kb_Model_reckon 91 = .ok (.iload_n 1, 1) := by decide +kernel
theorem qd_Model_reckon_92 : decode kb_Model_reckon 92 = .ok (.iload_n 2, 1) := by decide +kernel
theorem qd_Model_reckon_93 : decode kb_Model_reckon 93 = .ok (.iushr, 1) := by decide +kernel
theorem qd_Model_reckon_94 : decode kb_Model_reckon 94 = .ok (.ireturn, 1) := by decide +kernel
theorem qd_Model_reckon_95 : decode kb_Model_reckon 95 = .ok (.iload_n 1, 1) := by decide +kernel
theorem qd_Model_reckon_96 : decode kb_Model_reckon 96 = .ok (.iload_n 2, 1) := by decide +kernel
theorem qd_Model_reckon_97 : decode kb_Model_reckon 97 = .ok (.ior, 1) := by decide +kernel
theorem qd_Model_reckon_98 : decode kb_Model_reckon 98 = .ok (.ireturn, 1) := by decide +kernel
theorem qd_Model_reckon_99 : decode kb_Model_reckon 99 = .ok (.iload_n 1, 1) := by decide +kernel
theorem qd_Model_reckon_100 : decode kb_Model_reckon 100 = .ok (.iload_n 2, 1) := by decide +kernel
theorem qd_Model_reckon_101 : decode kb_Model_reckon 101 = .ok (.iand, 1) := by decide +kernel
theorem qd_Model_reckon_102 : decode kb_Model_reckon 102 = .ok (.ireturn, 1) := by decide +kernel
def qf_Model_reckon_b62 (u : qm_S) (y0 : Int32) : Option (Int32 × qm_S) := some (y0, u)
def qf_Model_reckon_b76 (u : qm_S) (y0 : Int32) : Option (Int32 × qm_S) := some (y0, u)
def qf_Model_reckon_b94 (u : qm_S) (y0 : Int32) : Option (Int32 × qm_S) := some (y0, u)
def qf_Model_reckon (u : qm_S) (x0 : Int32) (x1 : Int32) (x2 : Int32) (x3 : Int32) : Option (Int32 × qm_S) := if x0 = 0 then (some ((x1 + x2), u)) else (if x0 = 1 then (some ((x1 <<< (x2 &&& 31)), u)) else (if x0 = 2 then (if x2 ≤ x1 then (qf_Model_reckon_b62 u (0 : Int32)) else (qf_Model_reckon_b62 u (1 : Int32))) else (if x0 = 3 then (xx_b2 (qf_Model_isBelow u x1 x2) fun v2 u1 => if v2 = 0 then (qf_Model_reckon_b76 u1 (0 : Int32)) else (qf_Model_reckon_b76 u1 (1 : Int32))) else (if x0 = 4 then (some ((x1 ^^^ x2), u)) else (if x0 = 5 then (if x3 = 0 then (qf_Model_reckon_b94 u (xx_ush x1 x2)) else (qf_Model_reckon_b94 u (x1 >>> (x2 &&& 31)))) else (if x0 = 6 then (some ((x1 ||| x2), u)) else (some ((x1 &&& x2), u))))))))
set_option maxHeartbeats 4000000 in
set_option maxRecDepth 100000 in
theorem qw_Model_reckon_b62 {p : Program} {l : Launch} {e : Env} {s : State} {m : MethodId} {args : Array Value} {below : List Frame} {meth : Method} {c : Code} {A : Nat → Prop} {g : xx_G} {r : Int32} {u9 : qm_S} (C : xx_C p s m args meth c kb_Model_reckon 4 kr_Model (some .int)) (hA : ∀ q, s.heap.size ≤ q → A q) (hK : va_K g.1 xx_cls (qm_T g) s) : ∀ (u : qm_S) (y0 : Int32) (H : Heap) (locs : List Loc) (ls : Array Slot), qf_Model_reckon_b62 u y0 = some (r, u9) → lv_has ls 4 [] → va_P g.1 xx_cls (qm_W g u) H → va_D A (qm_W g u) → va_S A s.heap H locs → W p l e (xx_rm 1 21) s m args below meth c H locs 0 0 (MQ below (xx_Q g.1 (qm_T g) (qm_W g) (some (.int r)) u9 A) args s 0 0 A) (F0 m 62 ls [.int y0]) := by
  have hx := C.1
  have hb := C.2.1
  have hown := C.2.2.2.1
  have hts := C.2.2.2.2.1
  intro u y0 H locs ls hF hl hP hD hS
  unfold qf_Model_reckon_b62 at hF
  exact xx_iret C hF hK hP hD hS qd_Model_reckon_62
set_option maxHeartbeats 4000000 in
set_option maxRecDepth 100000 in
theorem qw_Model_reckon_b76 {p : Program} {l : Launch} {e : Env} {s : State} {m : MethodId} {args : Array Value} {below : List Frame} {meth : Method} {c : Code} {A : Nat → Prop} {g : xx_G} {r : Int32} {u9 : qm_S} (C : xx_C p s m args meth c kb_Model_reckon 4 kr_Model (some .int)) (hA : ∀ q, s.heap.size ≤ q → A q) (hK : va_K g.1 xx_cls (qm_T g) s) : ∀ (u : qm_S) (y0 : Int32) (H : Heap) (locs : List Loc) (ls : Array Slot), qf_Model_reckon_b76 u y0 = some (r, u9) → lv_has ls 4 [] → va_P g.1 xx_cls (qm_W g u) H → va_D A (qm_W g u) → va_S A s.heap H locs → W p l e (xx_rm 1 21) s m args below meth c H locs 0 0 (MQ below (xx_Q g.1 (qm_T g) (qm_W g) (some (.int r)) u9 A) args s 0 0 A) (F0 m 76 ls [.int y0]) := by
  have hx := C.1
  have hb := C.2.1
  have hown := C.2.2.2.1
  have hts := C.2.2.2.2.1
  intro u y0 H locs ls hF hl hP hD hS
  unfold qf_Model_reckon_b76 at hF
  exact xx_iret C hF hK hP hD hS qd_Model_reckon_76
set_option maxHeartbeats 4000000 in
set_option maxRecDepth 100000 in
theorem qw_Model_reckon_b94 {p : Program} {l : Launch} {e : Env} {s : State} {m : MethodId} {args : Array Value} {below : List Frame} {meth : Method} {c : Code} {A : Nat → Prop} {g : xx_G} {r : Int32} {u9 : qm_S} (C : xx_C p s m args meth c kb_Model_reckon 4 kr_Model (some .int)) (hA : ∀ q, s.heap.size ≤ q → A q) (hK : va_K g.1 xx_cls (qm_T g) s) : ∀ (u : qm_S) (y0 : Int32) (H : Heap) (locs : List Loc) (ls : Array Slot), qf_Model_reckon_b94 u y0 = some (r, u9) → lv_has ls 4 [] → va_P g.1 xx_cls (qm_W g u) H → va_D A (qm_W g u) → va_S A s.heap H locs → W p l e (xx_rm 1 21) s m args below meth c H locs 0 0 (MQ below (xx_Q g.1 (qm_T g) (qm_W g) (some (.int r)) u9 A) args s 0 0 A) (F0 m 94 ls [.int y0]) := by
  have hx := C.1
  have hb := C.2.1
  have hown := C.2.2.2.1
  have hts := C.2.2.2.2.1
  intro u y0 H locs ls hF hl hP hD hS
  unfold qf_Model_reckon_b94 at hF
  exact xx_iret C hF hK hP hD hS qd_Model_reckon_94
set_option maxHeartbeats 4000000 in
set_option maxRecDepth 100000 in
theorem qc_Model_reckon (l : Launch) (g : xx_G) (u : qm_S) (x0 : Int32) (x1 : Int32) (x2 : Int32) (x3 : Int32) (r : Int32) (u9 : qm_S) (hF : qf_Model_reckon u x0 x1 x2 x3 = some (r, u9)) : xx_M l g.1 (qm_T g) (qm_W g) ky_Model_reckon kb_Model_reckon 4 (some .int) (xx_rm 1 21) [.int x0, .int x1, .int x2, .int x3] u (some (.int r)) u9 := by
  refine xx_body (by decide) (Nat.le_of_ble_eq_true rfl) ?_
  intro p e s m args below meth c A ls C hin hK hl hA hP hD hS
  have hx := C.1
  have hb := C.2.1
  have hown := C.2.2.2.1
  have hts := C.2.2.2.2.1
  have hl : lv_has ls 4 [(0, .int x0), (1, .int x1), (2, .int x2), (3, .int x3)] := hl
  unfold qf_Model_reckon at hF
  refine lv_iload_n hx hb qd_Model_reckon_0 rfl (lv_at hl 0 rfl) ?_
  by_cases hs0 : x0 = (0 : Int32)
  · have hF := xx_ip hs0 hF
    refine lv_tableIn (off := 43) (tgt := 44) hx hb qd_Model_reckon_1 (by rw [hs0]; decide) (by rw [hs0]; decide) (by rw [hs0]; rfl) (by decide) ?_
    refine lv_iload_n hx hb qd_Model_reckon_44 rfl (lv_at hl 1 rfl) ?_
    refine lv_iload_n hx hb qd_Model_reckon_45 rfl (lv_at hl 2 rfl) ?_
    refine lv_iadd hx hb qd_Model_reckon_46 ?_
    exact xx_iret C hF hK hP hD hS qd_Model_reckon_47
  · have hF := xx_in' hs0 hF
    by_cases hs1 : x0 = (1 : Int32)
    · have hF := xx_ip hs1 hF
      refine lv_tableIn (off := 47) (tgt := 48) hx hb qd_Model_reckon_1 (by rw [hs1]; decide) (by rw [hs1]; decide) (by rw [hs1]; rfl) (by decide) ?_
      refine lv_iload_n hx hb qd_Model_reckon_48 rfl (lv_at hl 1 rfl) ?_
      refine lv_iload_n hx hb qd_Model_reckon_49 rfl (lv_at hl 2 rfl) ?_
      refine lv_ishl hx hb qd_Model_reckon_50 ?_
      exact xx_iret C hF hK hP hD hS qd_Model_reckon_51
    · have hF := xx_in' hs1 hF
      by_cases hs2 : x0 = (2 : Int32)
      · have hF := xx_ip hs2 hF
        refine lv_tableIn (off := 51) (tgt := 52) hx hb qd_Model_reckon_1 (by rw [hs2]; decide) (by rw [hs2]; decide) (by rw [hs2]; rfl) (by decide) ?_
        refine lv_iload_n hx hb qd_Model_reckon_52 rfl (lv_at hl 1 rfl) ?_
        refine lv_iload_n hx hb qd_Model_reckon_53 rfl (lv_at hl 2 rfl) ?_
        refine lv_icmp_ge (tgt := 61) hx hb qd_Model_reckon_54 (by decide) (fun hc => ?_) (fun hc => ?_)
        · have hF := xx_ip hc hF
          refine lv_iconst (v := (0 : Int32)) hx hb qd_Model_reckon_61 (by decide) ?_
          exact qw_Model_reckon_b62 C hA hK  u (0 : Int32) _ _ _ hF (lv_sub hl [] rfl) hP hD hS
        · have hF := xx_in' hc hF
          refine lv_iconst (v := (1 : Int32)) hx hb qd_Model_reckon_57 (by decide) ?_
          refine lv_goto (tgt := 62) hx hb qd_Model_reckon_58 (by decide) ?_
          exact qw_Model_reckon_b62 C hA hK  u (1 : Int32) _ _ _ hF (lv_sub hl [] rfl) hP hD hS
      · have hF := xx_in' hs2 hF
        by_cases hs3 : x0 = (3 : Int32)
        · have hF := xx_ip hs3 hF
          refine lv_tableIn (off := 62) (tgt := 63) hx hb qd_Model_reckon_1 (by rw [hs3]; decide) (by rw [hs3]; decide) (by rw [hs3]; rfl) (by decide) ?_
          refine lv_iload_n hx hb qd_Model_reckon_63 rfl (lv_at hl 1 rfl) ?_
          refine lv_iload_n hx hb qd_Model_reckon_64 rfl (lv_at hl 2 rfl) ?_
          obtain ⟨v2, u1, eu1, hF⟩ := xx_b2_some hF
          refine xx_callS (n := 2) (As := [.int x1, .int x2]) (rest := []) C (qc_Model_isBelow l g u x1 x2 v2 u1 eu1) ⟨kw_1109, kw_1107, kw_1108, kw_9⟩ ⟨by decide +kernel, by decide +kernel, by decide +kernel⟩ rfl ⟨Nat.le_of_ble_eq_true rfl, Nat.le_of_ble_eq_true rfl⟩ hl.1 rfl (Nat.le_of_ble_eq_true rfl) hA hK hP hD hS ⟨Nat.le_refl _, Nat.le_refl _⟩ rfl rfl rfl qd_Model_reckon_65 (fun H locs hP hD hS => ?_)
          refine lv_if_eq (tgt := 75) hx hb qd_Model_reckon_68 (by decide) (fun hc => ?_) (fun hc => ?_)
          · have hF := xx_ip hc hF
            refine lv_iconst (v := (0 : Int32)) hx hb qd_Model_reckon_75 (by decide) ?_
            exact qw_Model_reckon_b76 C hA hK  u1 (0 : Int32) _ _ _ hF (lv_sub hl [] rfl) hP hD hS
          · have hF := xx_in' hc hF
            refine lv_iconst (v := (1 : Int32)) hx hb qd_Model_reckon_71 (by decide) ?_
            refine lv_goto (tgt := 76) hx hb qd_Model_reckon_72 (by decide) ?_
            exact qw_Model_reckon_b76 C hA hK  u1 (1 : Int32) _ _ _ hF (lv_sub hl [] rfl) hP hD hS
        · have hF := xx_in' hs3 hF
          by_cases hs4 : x0 = (4 : Int32)
          · have hF := xx_ip hs4 hF
            refine lv_tableIn (off := 76) (tgt := 77) hx hb qd_Model_reckon_1 (by rw [hs4]; decide) (by rw [hs4]; decide) (by rw [hs4]; rfl) (by decide) ?_
            refine lv_iload_n hx hb qd_Model_reckon_77 rfl (lv_at hl 1 rfl) ?_
            refine lv_iload_n hx hb qd_Model_reckon_78 rfl (lv_at hl 2 rfl) ?_
            refine lv_ixor hx hb qd_Model_reckon_79 ?_
            exact xx_iret C hF hK hP hD hS qd_Model_reckon_80
          · have hF := xx_in' hs4 hF
            by_cases hs5 : x0 = (5 : Int32)
            · have hF := xx_ip hs5 hF
              refine lv_tableIn (off := 80) (tgt := 81) hx hb qd_Model_reckon_1 (by rw [hs5]; decide) (by rw [hs5]; decide) (by rw [hs5]; rfl) (by decide) ?_
              refine lv_iload_n hx hb qd_Model_reckon_81 rfl (lv_at hl 3 rfl) ?_
              refine lv_if_eq (tgt := 91) hx hb qd_Model_reckon_82 (by decide) (fun hc => ?_) (fun hc => ?_)
              · have hF := xx_ip hc hF
                refine lv_iload_n hx hb qd_Model_reckon_91 rfl (lv_at hl 1 rfl) ?_
                refine lv_iload_n hx hb qd_Model_reckon_92 rfl (lv_at hl 2 rfl) ?_
                refine lv_iushr hx hb qd_Model_reckon_93 (xx_ush_eq x1 x2) ?_
                exact qw_Model_reckon_b94 C hA hK  u (xx_ush x1 x2) _ _ _ hF (lv_sub hl [] rfl) hP hD hS
              · have hF := xx_in' hc hF
                refine lv_iload_n hx hb qd_Model_reckon_85 rfl (lv_at hl 1 rfl) ?_
                refine lv_iload_n hx hb qd_Model_reckon_86 rfl (lv_at hl 2 rfl) ?_
                refine lv_ishr hx hb qd_Model_reckon_87 ?_
                refine lv_goto (tgt := 94) hx hb qd_Model_reckon_88 (by decide) ?_
                exact qw_Model_reckon_b94 C hA hK  u (x1 >>> (x2 &&& 31)) _ _ _ hF (lv_sub hl [] rfl) hP hD hS
            · have hF := xx_in' hs5 hF
              by_cases hs6 : x0 = (6 : Int32)
              · have hF := xx_ip hs6 hF
                refine lv_tableIn (off := 94) (tgt := 95) hx hb qd_Model_reckon_1 (by rw [hs6]; decide) (by rw [hs6]; decide) (by rw [hs6]; rfl) (by decide) ?_
                refine lv_iload_n hx hb qd_Model_reckon_95 rfl (lv_at hl 1 rfl) ?_
                refine lv_iload_n hx hb qd_Model_reckon_96 rfl (lv_at hl 2 rfl) ?_
                refine lv_ior hx hb qd_Model_reckon_97 ?_
                exact xx_iret C hF hK hP hD hS qd_Model_reckon_98
              · have hF := xx_in' hs6 hF
                refine lv_tableOut (tgt := 99) hx hb qd_Model_reckon_1 (by have h0 := lv_neT (a := 0) hs0 (by decide); have h1 := lv_neT (a := 1) hs1 (by decide); have h2 := lv_neT (a := 2) hs2 (by decide); have h3 := lv_neT (a := 3) hs3 (by decide); have h4 := lv_neT (a := 4) hs4 (by decide); have h5 := lv_neT (a := 5) hs5 (by decide); have h6 := lv_neT (a := 6) hs6 (by decide); omega) (by decide) ?_
                refine lv_iload_n hx hb qd_Model_reckon_99 rfl (lv_at hl 1 rfl) ?_
                refine lv_iload_n hx hb qd_Model_reckon_100 rfl (lv_at hl 2 rfl) ?_
                refine lv_iand hx hb qd_Model_reckon_101 ?_
                exact xx_iret C hF hK hP hD hS qd_Model_reckon_102
set_option maxRecDepth 100000 in
theorem kw_1117 : Cond.code ky_Model_access kb_Model_access 2 (some .int) ∈ xx_tb := xx_in (List.mem_append_right _ (List.mem_of_getElem? (i := 1117) (by rfl))) (by decide +kernel)
theorem kw_1115 : Cond.methodLink "ModuleLoaderModel" 220 ky_Model_access ∈ xx_tb := xx_in (List.mem_append_right _ (List.mem_of_getElem? (i := 1115) (by decide +kernel))) (by decide +kernel)
theorem kw_1116 : Cond.static ky_Model_access ∈ xx_tb := xx_in (List.mem_append_right _ (List.mem_of_getElem? (i := 1116) (by decide +kernel))) (by decide +kernel)
set_option maxRecDepth 100000 in
theorem kw_1121 : Cond.code ky_Model_byteAt kb_Model_byteAt 2 (some .int) ∈ xx_tb := xx_in (List.mem_append_right _ (List.mem_of_getElem? (i := 1121) (by rfl))) (by decide +kernel)
theorem kw_1118 : Cond.methodLink "ModuleLoaderModel" 224 ky_Model_byteAt ∈ xx_tb := xx_in (List.mem_append_right _ (List.mem_of_getElem? (i := 1118) (by decide +kernel))) (by decide +kernel)
theorem kw_1120 : Cond.instanceMethod ky_Model_byteAt ∈ xx_tb := xx_in (List.mem_append_right _ (List.mem_of_getElem? (i := 1120) (by decide +kernel))) (by decide +kernel)
theorem ks_Model_byteAt : Cond.selects "ModuleLoaderModel" ky_Model_byteAt ky_Model_byteAt ∈ xx_tb := xx_in (List.mem_append_left _ (by decide +kernel)) (by decide +kernel)
theorem qd_Model_fetch_0 : decode kb_Model_fetch 0 = .ok (.iload_n 1, 1) := by decide +kernel
theorem qd_Model_fetch_1 : decode kb_Model_fetch 1 = .ok (.iconst 3, 1) := by decide +kernel
theorem qd_Model_fetch_2 : decode kb_Model_fetch 2 = .ok (.if_icmp .eq (8), 3) := by decide +kernel
theorem qd_Model_fetch_5 : decode kb_Model_fetch 5 = .ok (.iload_n 1, 1) := by decide +kernel
theorem qd_Model_fetch_6 : decode kb_Model_fetch 6 = .ok (.iconst 5, 1) := by decide +kernel
theorem qd_Model_fetch_7 : decode kb_Model_fetch 7 = .ok (.if_icmp .le (5), 3) := by decide +kernel
theorem qd_Model_fetch_10 : decode kb_Model_fetch 10 = .ok (.iconst 3, 1) := by decide +kernel
theorem qd_Model_fetch_11 : decode kb_Model_fetch 11 = .ok (.ireturn, 1) := by decide +kernel
theorem qd_Model_fetch_12 : decode kb_Model_fetch 12 = .ok (.iconst 1, 1) := by decide +kernel
theorem qd_Model_fetch_13 : decode kb_Model_fetch 13 = .ok (.iload_n 1, 1) := by decide +kernel
theorem qd_Model_fetch_14 : decode kb_Model_fetch 14 = .ok (.iconst 4, 1) := by decide +kernel
theorem qd_Model_fetch_15 : decode kb_Model_fetch 15 = .ok (.irem, 1) := by decide +kernel
theorem qd_Model_fetch_16 : decode kb_Model_fetch 16 = .ok (.ishl, 1) := by decide +kernel
theorem qd_Model_fetch_17 : decode kb_Model_fetch 17 = .ok (.istore 4, 2) := by decide +kernel
theorem qd_Model_fetch_19 : decode kb_Model_fetch 19 = .ok (.iload_n 2, 1) := by decide +kernel
theorem qd_Model_fetch_20 : decode kb_Model_fetch 20 = .ok (.iload 4, 2) := by decide +kernel
theorem qd_Model_fetch_22 : decode kb_Model_fetch 22 = .ok (.invokestatic 220, 3) := by decide +kernel
theorem qd_Model_fetch_25 : decode kb_Model_fetch 25 = .ok (.istore 5, 2) := by decide +kernel
theorem qd_Model_fetch_27 : decode kb_Model_fetch 27 = .ok (.iload 5, 2) := by decide +kernel
theorem qd_Model_fetch_29 : decode kb_Model_fetch 29 = .ok (.ifCond .le (6), 3) := by decide +kernel
theorem qd_Model_fetch_32 : decode kb_Model_fetch 32 = .ok (.iload 5, 2) := by decide +kernel
theorem qd_Model_fetch_34 : decode kb_Model_fetch 34 = .ok (.ireturn, 1) := by decide +kernel
theorem qd_Model_fetch_35 : decode kb_Model_fetch 35 = .ok (.iload 4, 2) := by decide +kernel
theorem qd_Model_fetch_37 : decode kb_Model_fetch 37 = .ok (.iconst 4, 1) := by decide +kernel
theorem qd_Model_fetch_38 : decode kb_Model_fetch 38 = .ok (.if_icmp .ne (11), 3) := by decide +kernel
theorem qd_Model_fetch_41 : decode kb_Model_fetch 41 = .ok (.aload_n 0, 1) := by decide +kernel
theorem qd_Model_fetch_42 : decode kb_Model_fetch 42 = .ok (.iload_n 2, 1) := by decide +kernel
theorem qd_Model_fetch_43 : decode kb_Model_fetch 43 = .ok (.invokevirtual 76, 3) := by decide +kernel
theorem qd_Model_fetch_46 : decode kb_Model_fetch 46 = .ok (.goto (35), 3) := by decide +kernel
theorem qd_Model_fetch_49 : decode kb_Model_fetch 49 = .ok (.iload 4, 2) := by decide +kernel
theorem qd_Model_fetch_51 : decode kb_Model_fetch 51 = .ok (.iconst 2, 1) := by decide +kernel
theorem qd_Model_fetch_52 : decode kb_Model_fetch 52 = .ok (.if_icmp .ne (24), 3) := by decide +kernel
theorem qd_Model_fetch_55 : decode kb_Model_fetch 55 = .ok (.aload_n 0, 1) := by decide +kernel
theorem qd_Model_fetch_56 : decode kb_Model_fetch 56 = .ok (.getfield 7, 3) := by decide +kernel
theorem qd_Model_fetch_59 : decode kb_Model_fetch 59 = .ok (.iload_n 2, 1) := by decide +kernel
theorem qd_Model_fetch_60 : decode kb_Model_fetch 60 = .ok (.iaload, 1) := by decide +kernel
theorem qd_Model_fetch_61 : decode kb_Model_fetch 61 = .ok (.aload_n 0, 1) := by decide +kernel
theorem qd_Model_fetch_62 : decode kb_Model_fetch 62 = .ok (.getfield 7, 3) := by decide +kernel
theorem qd_Model_fetch_65 : decode kb_Model_fetch 65 = .ok (.iload_n 2, 1) := by decide +kernel
theorem qd_Model_fetch_66 : decode kb_Model_fetch 66 = .ok (.iconst 1, 1) := by decide +kernel
theorem qd_Model_fetch_67 : decode kb_Model_fetch 67 = .ok (.iadd, 1) := by decide +kernel
theorem qd_Model_fetch_68 : decode kb_Model_fetch 68 = .ok (.iaload, 1) := by decide +kernel
theorem qd_Model_fetch_69 : decode kb_Model_fetch 69 = .ok (.bipush (8), 2) := by decide +kernel
theorem qd_Model_fetch_71 : decode kb_Model_fetch 71 = .ok (.ishl, 1) := by decide +kernel
theorem qd_Model_fetch_72 : decode kb_Model_fetch 72 = .ok (.ior, 1) := by decide +kernel
theorem qd_Model_fetch_73 : decode kb_Model_fetch 73 = .ok (.goto (8), 3) := by decide +kernel
theorem qd_Model_fetch_76 : decode kb_Model_fetch 76 = .ok (.aload_n 0, 1) := by decide +kernel
theorem qd_Model_fetch_77 : decode kb_Model_fetch 77 = .ok (.iload_n 2, 1) := by decide +kernel
theorem qd_Model_fetch_78 : decode kb_Model_fetch 78 = .ok (.invokevirtual 224, 3) := by decide +kernel
theorem qd_Model_fetch_81 : decode kb_Model_fetch 81 = .ok (.istore 6, 2) := by decide +kernel
theorem qd_Model_fetch_83 : decode kb_Model_fetch 83 = .ok (.aload_n 0, 1) := by decide +kernel
theorem qd_Model_fetch_84 : decode kb_Model_fetch 84 = .ok (.getfield 54, 3) := by decide +kernel
theorem qd_Model_fetch_87 : decode kb_Model_fetch 87 = .ok (.iload_n 3, 1) := by decide +kernel
theorem qd_Model_fetch_88 : decode kb_Model_fetch 88 = .ok (.iload_n 1, 1) := by decide +kernel
theorem qd_Model_fetch_89 : decode kb_Model_fetch 89 = .ok (.ifCond .ne (9), 3) := by decide +kernel
theorem qd_Model_fetch_92 : decode kb_Model_fetch 92 = .ok (.iload 6, 2) := by decide +kernel
theorem qd_Model_fetch_94 : decode kb_Model_fetch 94 = .ok (.i2b, 1) := by decide +kernel
theorem qd_Model_fetch_95 : decode kb_Model_fetch 95 = .ok (.goto (16), 3) := by decide +kernel
theorem qd_Model_fetch_98 : decode kb_Model_fetch 98 = .ok (.iload_n 1, 1) := by decide +kernel
theorem qd_Model_fetch_99 : decode kb_Model_fetch 99 = .ok (.iconst 1, 1) := by decide +kernel
theorem qd_Model_fetch_100 : decode kb_Model_fetch 100 = .ok (.if_icmp .ne (9), 3) := by decide +kernel
theorem qd_Model_fetch_103 : decode kb_Model_fetch 103 = .ok (.iload 6, 2) := by decide +kernel
theorem qd_Model_fetch_105 : decode kb_Model_fetch 105 = .ok (.i2s, 1) := by decide +kernel
theorem qd_Model_fetch_106 : decode kb_Model_fetch 106 = .ok (.goto (5), 3) := by decide +kernel
theorem qd_Model_fetch_109 : decode kb_Model_fetch 109 = .ok (.iload 6, 2) := by decide +kernel
theorem qd_Model_fetch_111 : decode kb_Model_fetch 111 = .ok (.iastore, 1) := by decide +kernel
theorem qd_Model_fetch_112 : decode kb_Model_fetch 112 = .ok (.iconst 0, 1) := by decide +kernel
theorem qd_Model_fetch_113 : decode kb_Model_fetch 113 = .ok (.ireturn, 1) := by decide +kernel
def qf_Model_fetch_b10 (u : qm_S) : Option (Int32 × qm_S) := some ((3 : Int32), u)
def qf_Model_fetch_b111 (u : qm_S) (y1 : Int32) (y2 : Int32) : Option (Int32 × qm_S) := (xx_as (u.2 14) 32 y1 y2).bind fun f1 => xx_nm (u.1, va_up u.2 14 f1) fun u2 => some ((0 : Int32), u2)
def qf_Model_fetch_b81 (u : qm_S) (x1 : Int32) (x3 : Int32) (y0 : Int32) : Option (Int32 × qm_S) := if x1 = 0 then (qf_Model_fetch_b111 u x3 (y0.toInt8.toInt32)) else (if x1 = (1 : Int32) then (qf_Model_fetch_b111 u x3 (y0.toInt16.toInt32)) else (qf_Model_fetch_b111 u x3 y0))
def qf_Model_fetch (u : qm_S) (x1 : Int32) (x2 : Int32) (x3 : Int32) : Option (Int32 × qm_S) := if x1 = (3 : Int32) then (qf_Model_fetch_b10 u) else (if x1 ≤ (5 : Int32) then (xx_nm ((1 : Int32) <<< ((x1 - x1 / (4 : Int32) * (4 : Int32)) &&& 31)) fun v1 => xx_b2 (qf_Model_access u x2 v1) fun v3 u2 => if v3 ≤ 0 then (if v1 = (4 : Int32) then (xx_b2 (qf_Model_wordAt u2 x2) fun v9 u8 => qf_Model_fetch_b81 u8 x1 x3 v9) else (if v1 = (2 : Int32) then ((xx_ag (u2.2 1) 4096 x2).bind fun v6 => (xx_ag (u2.2 1) 4096 (x2 + (1 : Int32))).bind fun v7 => qf_Model_fetch_b81 u2 x1 x3 (v6 ||| (v7 <<< ((8 : Int32) &&& 31)))) else (xx_b2 (qf_Model_byteAt u2 x2) fun v5 u4 => qf_Model_fetch_b81 u4 x1 x3 v5))) else (some (v3, u2))) else (qf_Model_fetch_b10 u))
set_option maxHeartbeats 4000000 in
set_option maxRecDepth 100000 in
theorem qw_Model_fetch_b10 {p : Program} {l : Launch} {e : Env} {s : State} {m : MethodId} {args : Array Value} {below : List Frame} {meth : Method} {c : Code} {A : Nat → Prop} {g : xx_G} {r : Int32} {u9 : qm_S} (C : xx_C p s m args meth c kb_Model_fetch 7 kr_Model (some .int)) (hA : ∀ q, s.heap.size ≤ q → A q) (hK : va_K g.1 xx_cls (qm_T g) s) : ∀ (u : qm_S) (H : Heap) (locs : List Loc) (ls : Array Slot), qf_Model_fetch_b10 u = some (r, u9) → lv_has ls 7 [] → va_P g.1 xx_cls (qm_W g u) H → va_D A (qm_W g u) → va_S A s.heap H locs → W p l e (xx_rm 1 21) s m args below meth c H locs 0 0 (MQ below (xx_Q g.1 (qm_T g) (qm_W g) (some (.int r)) u9 A) args s 0 0 A) (F0 m 10 ls []) := by
  have hx := C.1
  have hb := C.2.1
  have hown := C.2.2.2.1
  have hts := C.2.2.2.2.1
  intro u H locs ls hF hl hP hD hS
  unfold qf_Model_fetch_b10 at hF
  refine lv_iconst (v := (3 : Int32)) hx hb qd_Model_fetch_10 (by decide) ?_
  exact xx_iret C hF hK hP hD hS qd_Model_fetch_11
set_option maxHeartbeats 4000000 in
set_option maxRecDepth 100000 in
theorem qw_Model_fetch_b111 {p : Program} {l : Launch} {e : Env} {s : State} {m : MethodId} {args : Array Value} {below : List Frame} {meth : Method} {c : Code} {A : Nat → Prop} {g : xx_G} {r : Int32} {u9 : qm_S} (C : xx_C p s m args meth c kb_Model_fetch 7 kr_Model (some .int)) (hA : ∀ q, s.heap.size ≤ q → A q) (hK : va_K g.1 xx_cls (qm_T g) s) : ∀ (u : qm_S) (y1 : Int32) (y2 : Int32) (H : Heap) (locs : List Loc) (ls : Array Slot), qf_Model_fetch_b111 u y1 y2 = some (r, u9) → lv_has ls 7 [] → va_P g.1 xx_cls (qm_W g u) H → va_D A (qm_W g u) → va_S A s.heap H locs → W p l e (xx_rm 1 21) s m args below meth c H locs 0 0 (MQ below (xx_Q g.1 (qm_T g) (qm_W g) (some (.int r)) u9 A) args s 0 0 A) (F0 m 111 ls [.int y2, .int y1, .ref (g.2.1 14)]) := by
  have hx := C.1
  have hb := C.2.1
  have hown := C.2.2.2.1
  have hts := C.2.2.2.2.1
  intro u y1 y2 H locs ls hF hl hP hD hS
  unfold qf_Model_fetch_b111 at hF
  obtain ⟨f1, ef1, hF⟩ := xx_ob hF
  obtain ⟨u2, eu2, hF⟩ := xx_nm_some hF
  refine xx_iast (ws1 := qm_W g u2) C hK hP hD hS 14 0 rfl rfl ef1 (by rw [eu2]; rfl) qd_Model_fetch_111 (fun H locs hP hD hS => ?_)
  refine lv_iconst (v := (0 : Int32)) hx hb qd_Model_fetch_112 (by decide) ?_
  exact xx_iret C hF hK hP hD hS qd_Model_fetch_113
set_option maxHeartbeats 4000000 in
set_option maxRecDepth 100000 in
theorem qw_Model_fetch_b81 {p : Program} {l : Launch} {e : Env} {s : State} {m : MethodId} {args : Array Value} {below : List Frame} {meth : Method} {c : Code} {A : Nat → Prop} {g : xx_G} {r : Int32} {u9 : qm_S} (C : xx_C p s m args meth c kb_Model_fetch 7 kr_Model (some .int)) (hA : ∀ q, s.heap.size ≤ q → A q) (hK : va_K g.1 xx_cls (qm_T g) s) : ∀ (u : qm_S) (x1 : Int32) (x3 : Int32) (y0 : Int32) (H : Heap) (locs : List Loc) (ls : Array Slot), qf_Model_fetch_b81 u x1 x3 y0 = some (r, u9) → lv_has ls 7 [(0, .ref (g.2.1 0)), (1, .int x1), (3, .int x3)] → va_P g.1 xx_cls (qm_W g u) H → va_D A (qm_W g u) → va_S A s.heap H locs → W p l e (xx_rm 1 21) s m args below meth c H locs 0 0 (MQ below (xx_Q g.1 (qm_T g) (qm_W g) (some (.int r)) u9 A) args s 0 0 A) (F0 m 81 ls [.int y0]) := by
  have hx := C.1
  have hb := C.2.1
  have hown := C.2.2.2.1
  have hts := C.2.2.2.2.1
  intro u x1 x3 y0 H locs ls hF hl hP hD hS
  unfold qf_Model_fetch_b81 at hF
  refine lv_istore hx hb qd_Model_fetch_81 hl (by decide) rfl (fun ls hl => ?_)
  refine lv_aload_n hx hb qd_Model_fetch_83 rfl (lv_at hl 1 rfl) ?_
  refine xx_get C ki_Model hK hP 0 rfl rfl 22 (by decide) kw_895 rfl rfl qd_Model_fetch_84 ?_
  refine lv_iload_n hx hb qd_Model_fetch_87 rfl (lv_at hl 3 rfl) ?_
  refine lv_iload_n hx hb qd_Model_fetch_88 rfl (lv_at hl 2 rfl) ?_
  refine lv_if_ne (tgt := 98) hx hb qd_Model_fetch_89 (by decide) (fun hc => ?_) (fun hc => ?_)
  · have hF := xx_in' hc hF
    refine lv_iload_n hx hb qd_Model_fetch_98 rfl (lv_at hl 2 rfl) ?_
    refine lv_iconst (v := (1 : Int32)) hx hb qd_Model_fetch_99 (by decide) ?_
    refine lv_icmp_ne (tgt := 109) hx hb qd_Model_fetch_100 (by decide) (fun hc => ?_) (fun hc => ?_)
    · have hF := xx_in' hc hF
      refine lv_iload hx hb qd_Model_fetch_109 (lv_at hl 0 rfl) ?_
      exact qw_Model_fetch_b111 C hA hK  u x3 y0 _ _ _ hF (lv_sub hl [] rfl) hP hD hS
    · have hF := xx_ip hc hF
      refine lv_iload hx hb qd_Model_fetch_103 (lv_at hl 0 rfl) ?_
      refine lv_i2s hx hb qd_Model_fetch_105 rfl ?_
      refine lv_goto (tgt := 111) hx hb qd_Model_fetch_106 (by decide) ?_
      exact qw_Model_fetch_b111 C hA hK  u x3 (y0.toInt16.toInt32) _ _ _ hF (lv_sub hl [] rfl) hP hD hS
  · have hF := xx_ip hc hF
    refine lv_iload hx hb qd_Model_fetch_92 (lv_at hl 0 rfl) ?_
    refine lv_i2b hx hb qd_Model_fetch_94 rfl ?_
    refine lv_goto (tgt := 111) hx hb qd_Model_fetch_95 (by decide) ?_
    exact qw_Model_fetch_b111 C hA hK  u x3 (y0.toInt8.toInt32) _ _ _ hF (lv_sub hl [] rfl) hP hD hS
set_option maxHeartbeats 4000000 in
set_option maxRecDepth 100000 in
theorem qc_Model_fetch (l : Launch) (g : xx_G) (u : qm_S) (x1 : Int32) (x2 : Int32) (x3 : Int32) (r : Int32) (u9 : qm_S) (hF : qf_Model_fetch u x1 x2 x3 = some (r, u9)) : xx_M l g.1 (qm_T g) (qm_W g) ky_Model_fetch kb_Model_fetch 7 (some .int) (xx_rm 1 21) [.ref (g.2.1 0), .int x1, .int x2, .int x3] u (some (.int r)) u9 := by
  refine xx_body (by decide) (Nat.le_of_ble_eq_true rfl) ?_
  intro p e s m args below meth c A ls C hin hK hl hA hP hD hS
  have hx := C.1
  have hb := C.2.1
  have hown := C.2.2.2.1
  have hts := C.2.2.2.2.1
  have hl : lv_has ls 7 [(0, .ref (g.2.1 0)), (1, .int x1), (2, .int x2), (3, .int x3)] := hl
  unfold qf_Model_fetch at hF
  refine lv_iload_n hx hb qd_Model_fetch_0 rfl (lv_at hl 1 rfl) ?_
  refine lv_iconst (v := (3 : Int32)) hx hb qd_Model_fetch_1 (by decide) ?_
  refine lv_icmp_eq (tgt := 10) hx hb qd_Model_fetch_2 (by decide) (fun hc => ?_) (fun hc => ?_)
  · have hF := xx_ip hc hF
    exact qw_Model_fetch_b10 C hA hK  u _ _ _ hF (lv_sub hl [] rfl) hP hD hS
  · have hF := xx_in' hc hF
    refine lv_iload_n hx hb qd_Model_fetch_5 rfl (lv_at hl 1 rfl) ?_
    refine lv_iconst (v := (5 : Int32)) hx hb qd_Model_fetch_6 (by decide) ?_
    refine lv_icmp_le (tgt := 12) hx hb qd_Model_fetch_7 (by decide) (fun hc => ?_) (fun hc => ?_)
    · have hF := xx_ip hc hF
      refine lv_iconst (v := (1 : Int32)) hx hb qd_Model_fetch_12 (by decide) ?_
      refine lv_iload_n hx hb qd_Model_fetch_13 rfl (lv_at hl 1 rfl) ?_
      refine lv_iconst (v := (4 : Int32)) hx hb qd_Model_fetch_14 (by decide) ?_
      refine lv_irem hx hb qd_Model_fetch_15 (by decide) ?_
      refine lv_ishl hx hb qd_Model_fetch_16 ?_
      obtain ⟨v1, ev1, hF⟩ := xx_nm_some hF
      refine xx_topi ev1 ?_
      refine lv_istore hx hb qd_Model_fetch_17 hl (by decide) rfl (fun ls hl => ?_)
      refine lv_iload_n hx hb qd_Model_fetch_19 rfl (lv_at hl 3 rfl) ?_
      refine lv_iload hx hb qd_Model_fetch_20 (lv_at hl 0 rfl) ?_
      obtain ⟨v3, u2, eu2, hF⟩ := xx_b2_some hF
      refine xx_callS (n := 2) (As := [.int x2, .int v1]) (rest := []) C (qc_Model_access l g u x2 v1 v3 u2 eu2) ⟨kw_1117, kw_1115, kw_1116, kw_9⟩ ⟨by decide +kernel, by decide +kernel, by decide +kernel⟩ rfl ⟨Nat.le_of_ble_eq_true rfl, Nat.le_of_ble_eq_true rfl⟩ hl.1 rfl (Nat.le_of_ble_eq_true rfl) hA hK hP hD hS ⟨Nat.le_refl _, Nat.le_refl _⟩ rfl rfl rfl qd_Model_fetch_22 (fun H locs hP hD hS => ?_)
      refine lv_istore hx hb qd_Model_fetch_25 hl (by decide) rfl (fun ls hl => ?_)
      refine lv_iload hx hb qd_Model_fetch_27 (lv_at hl 0 rfl) ?_
      refine lv_if_le (tgt := 35) hx hb qd_Model_fetch_29 (by decide) (fun hc => ?_) (fun hc => ?_)
      · have hF := xx_ip hc hF
        refine lv_iload hx hb qd_Model_fetch_35 (lv_at hl 1 rfl) ?_
        refine lv_iconst (v := (4 : Int32)) hx hb qd_Model_fetch_37 (by decide) ?_
        refine lv_icmp_ne (tgt := 49) hx hb qd_Model_fetch_38 (by decide) (fun hc => ?_) (fun hc => ?_)
        · have hF := xx_in' hc hF
          refine lv_iload hx hb qd_Model_fetch_49 (lv_at hl 1 rfl) ?_
          refine lv_iconst (v := (2 : Int32)) hx hb qd_Model_fetch_51 (by decide) ?_
          refine lv_icmp_ne (tgt := 76) hx hb qd_Model_fetch_52 (by decide) (fun hc => ?_) (fun hc => ?_)
          · have hF := xx_in' hc hF
            refine lv_aload_n hx hb qd_Model_fetch_76 rfl (lv_at hl 2 rfl) ?_
            refine lv_iload_n hx hb qd_Model_fetch_77 rfl (lv_at hl 4 rfl) ?_
            obtain ⟨v5, u4, eu4, hF⟩ := xx_b2_some hF
            refine xx_callV (n := 1) (As := [.int x2]) (rest := []) C (qc_Model_byteAt l g u2 x2 v5 u4 eu4) ⟨kw_1121, kw_1118, kw_1120, ks_Model_byteAt, kw_9⟩ ⟨by decide +kernel, by decide +kernel, by decide +kernel⟩ rfl ⟨Nat.le_of_ble_eq_true rfl, Nat.le_of_ble_eq_true rfl⟩ 0 rfl rfl hl.1 rfl (Nat.le_of_ble_eq_true rfl) hA hK hP hD hS ⟨Nat.le_refl _, Nat.le_refl _⟩ rfl rfl rfl qd_Model_fetch_78 (fun H locs hP hD hS => ?_)
            exact qw_Model_fetch_b81 C hA hK  u4 x1 x3 v5 _ _ _ hF (lv_sub hl [2, 3, 5] rfl) hP hD hS
          · have hF := xx_ip hc hF
            refine lv_aload_n hx hb qd_Model_fetch_55 rfl (lv_at hl 2 rfl) ?_
            refine xx_get C ki_Model hK hP 0 rfl rfl 1 (by decide) kw_874 rfl rfl qd_Model_fetch_56 ?_
            refine lv_iload_n hx hb qd_Model_fetch_59 rfl (lv_at hl 4 rfl) ?_
            obtain ⟨v6, ev6, hF⟩ := xx_ob hF
            refine xx_iald C hK hP 1 0 rfl rfl ev6 qd_Model_fetch_60 ?_
            refine lv_aload_n hx hb qd_Model_fetch_61 rfl (lv_at hl 2 rfl) ?_
            refine xx_get C ki_Model hK hP 0 rfl rfl 1 (by decide) kw_874 rfl rfl qd_Model_fetch_62 ?_
            refine lv_iload_n hx hb qd_Model_fetch_65 rfl (lv_at hl 4 rfl) ?_
            refine lv_iconst (v := (1 : Int32)) hx hb qd_Model_fetch_66 (by decide) ?_
            refine lv_iadd hx hb qd_Model_fetch_67 ?_
            obtain ⟨v7, ev7, hF⟩ := xx_ob hF
            refine xx_iald C hK hP 1 0 rfl rfl ev7 qd_Model_fetch_68 ?_
            refine lv_bipush (v := (8 : Int32)) hx hb qd_Model_fetch_69 (by decide) ?_
            refine lv_ishl hx hb qd_Model_fetch_71 ?_
            refine lv_ior hx hb qd_Model_fetch_72 ?_
            refine lv_goto (tgt := 81) hx hb qd_Model_fetch_73 (by decide) ?_
            exact qw_Model_fetch_b81 C hA hK  u2 x1 x3 (v6 ||| (v7 <<< ((8 : Int32) &&& 31))) _ _ _ hF (lv_sub hl [2, 3, 5] rfl) hP hD hS
        · have hF := xx_ip hc hF
          refine lv_aload_n hx hb qd_Model_fetch_41 rfl (lv_at hl 2 rfl) ?_
          refine lv_iload_n hx hb qd_Model_fetch_42 rfl (lv_at hl 4 rfl) ?_
          obtain ⟨v9, u8, eu8, hF⟩ := xx_b2_some hF
          refine xx_callV (n := 1) (As := [.int x2]) (rest := []) C (qc_Model_wordAt l g u2 x2 v9 u8 eu8) ⟨kw_997, kw_994, kw_996, ks_Model_wordAt, kw_9⟩ ⟨by decide +kernel, by decide +kernel, by decide +kernel⟩ rfl ⟨Nat.le_of_ble_eq_true rfl, Nat.le_of_ble_eq_true rfl⟩ 0 rfl rfl hl.1 rfl (Nat.le_of_ble_eq_true rfl) hA hK hP hD hS ⟨Nat.le_refl _, Nat.le_refl _⟩ rfl rfl rfl qd_Model_fetch_43 (fun H locs hP hD hS => ?_)
          refine lv_goto (tgt := 81) hx hb qd_Model_fetch_46 (by decide) ?_
          exact qw_Model_fetch_b81 C hA hK  u8 x1 x3 v9 _ _ _ hF (lv_sub hl [2, 3, 5] rfl) hP hD hS
      · have hF := xx_in' hc hF
        refine lv_iload hx hb qd_Model_fetch_32 (lv_at hl 0 rfl) ?_
        exact xx_iret C hF hK hP hD hS qd_Model_fetch_34
    · have hF := xx_in' hc hF
      exact qw_Model_fetch_b10 C hA hK  u _ _ _ hF (lv_sub hl [] rfl) hP hD hS
