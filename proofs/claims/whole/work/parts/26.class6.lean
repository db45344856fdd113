theorem kw_189 : Cond.fieldLink "ModuleLoader" 28 "ModuleLoader" "tape" "LModuleLoader$Tape;" ∈ xx_tb := xx_in (List.mem_append_right _ (List.mem_of_getElem? (i := 189) (by decide +kernel))) (by decide +kernel)
set_option maxRecDepth 100000 in
theorem kw_231 : Cond.code ky_Tape_append kb_Tape_append 4 (some .boolean) ∈ xx_tb := xx_in (List.mem_append_right _ (List.mem_of_getElem? (i := 231) (by rfl))) (by decide +kernel)
theorem kw_228 : Cond.methodLink "ModuleLoader" 108 ky_Tape_append ∈ xx_tb := xx_in (List.mem_append_right _ (List.mem_of_getElem? (i := 228) (by decide +kernel))) (by decide +kernel)
theorem kw_229 : Cond.instanceMethod ky_Tape_append ∈ xx_tb := xx_in (List.mem_append_right _ (List.mem_of_getElem? (i := 229) (by decide +kernel))) (by decide +kernel)
theorem kw_230 : Cond.selects "ModuleLoader$Tape" ky_Tape_append ky_Tape_append ∈ xx_tb := xx_in (List.mem_append_right _ (List.mem_of_getElem? (i := 230) (by decide +kernel))) (by decide +kernel)
set_option maxRecDepth 100000 in
theorem kw_239 : Cond.code ky_Tape_length kb_Tape_length 1 (some .int) ∈ xx_tb := xx_in (List.mem_append_right _ (List.mem_of_getElem? (i := 239) (by rfl))) (by decide +kernel)
theorem kw_236 : Cond.methodLink "ModuleLoader" 111 ky_Tape_length ∈ xx_tb := xx_in (List.mem_append_right _ (List.mem_of_getElem? (i := 236) (by decide +kernel))) (by decide +kernel)
theorem kw_237 : Cond.instanceMethod ky_Tape_length ∈ xx_tb := xx_in (List.mem_append_right _ (List.mem_of_getElem? (i := 237) (by decide +kernel))) (by decide +kernel)
theorem kw_238 : Cond.selects "ModuleLoader$Tape" ky_Tape_length ky_Tape_length ∈ xx_tb := xx_in (List.mem_append_right _ (List.mem_of_getElem? (i := 238) (by decide +kernel))) (by decide +kernel)
theorem zd_Loader_feed_0 : decode kb_Loader_feed 0 = .ok (.aload_n 0, 1) := by decide +kernel
theorem zd_Loader_feed_1 : decode kb_Loader_feed 1 = .ok (.getfield 28, 3) := by decide +kernel
theorem zd_Loader_feed_4 : decode kb_Loader_feed 4 = .ok (.iload_n 1, 1) := by decide +kernel
theorem zd_Loader_feed_5 : decode kb_Loader_feed 5 = .ok (.iconst 4, 1) := by decide +kernel
theorem zd_Loader_feed_6 : decode kb_Loader_feed 6 = .ok (.invokevirtual 108, 3) := by decide +kernel
theorem zd_Loader_feed_9 : decode kb_Loader_feed 9 = .ok (.ifCond .eq (13), 3) := by decide +kernel
theorem zd_Loader_feed_12 : decode kb_Loader_feed 12 = .ok (.aload_n 0, 1) := by decide +kernel
theorem zd_Loader_feed_13 : decode kb_Loader_feed 13 = .ok (.getfield 28, 3) := by decide +kernel
theorem zd_Loader_feed_16 : decode kb_Loader_feed 16 = .ok (.invokevirtual 111, 3) := by decide +kernel
theorem zd_Loader_feed_19 : decode kb_Loader_feed 19 = .ok (.goto (4), 3) := by decide +kernel
theorem zd_Loader_feed_22 : decode kb_Loader_feed 22 = .ok (.iconst (-1), 1) := by decide +kernel
theorem zd_Loader_feed_23 : decode kb_Loader_feed 23 = .ok (.ireturn, 1) := by decide +kernel
def zf_Loader_feed_b23 (u : zz_S) (y0 : Int32) : Option (Int32 × zz_S) := some (y0, u)
def zf_Loader_feed (u : zz_S) (x1 : Int32) : Option (Int32 × zz_S) := xx_b2 (zf_Tape_append u x1 (4 : Int32)) fun v2 u1 => if v2 = 0 then (zf_Loader_feed_b23 u1 (-1 : Int32)) else (xx_b2 (zf_Tape_length u1) fun v4 u3 => zf_Loader_feed_b23 u3 v4)
set_option maxHeartbeats 4000000 in
set_option maxRecDepth 100000 in
theorem zw_Loader_feed_b23 {p : Program} {l : Launch} {e : Env} {s : State} {m : MethodId} {args : Array Value} {below : List Frame} {meth : Method} {c : Code} {A : Nat → Prop} {g : xx_G} {r : Int32} {u9 : zz_S} (C : xx_C p s m args meth c kb_Loader_feed 2 kr_Loader (some .int)) (hA : ∀ q, s.heap.size ≤ q → A q) (hK : va_K g.1 xx_cls (zz_T g) s) : ∀ (u : zz_S) (y0 : Int32) (H : Heap) (locs : List Loc) (ls : Array Slot), zf_Loader_feed_b23 u y0 = some (r, u9) → lv_has ls 2 [] → va_P g.1 xx_cls (zz_W g u) H → va_D A (zz_W g u) → va_S A s.heap H locs → W p l e (xx_rm 2 46) s m args below meth c H locs 0 0 (MQ below (xx_Q g.1 (zz_T g) (zz_W g) (some (.int r)) u9 A) args s 0 0 A) (F0 m 23 ls [.int y0]) := by
  have hx := C.1
  have hb := C.2.1
  have hown := C.2.2.2.1
  have hts := C.2.2.2.2.1
  intro u y0 H locs ls hF hl hP hD hS
  unfold zf_Loader_feed_b23 at hF
  exact xx_iret C hF hK hP hD hS zd_Loader_feed_23
set_option maxHeartbeats 4000000 in
set_option maxRecDepth 100000 in
theorem zc_Loader_feed (l : Launch) (g : xx_G) (u : zz_S) (x1 : Int32) (r : Int32) (u9 : zz_S) (hF : zf_Loader_feed u x1 = some (r, u9)) : xx_M l g.1 (zz_T g) (zz_W g) ky_Loader_feed kb_Loader_feed 2 (some .int) (xx_rm 2 46) [.ref (g.2.1 0), .int x1] u (some (.int r)) u9 := by
  refine xx_body (by decide) (Nat.le_of_ble_eq_true rfl) ?_
  intro p e s m args below meth c A ls C hin hK hl hA hP hD hS
  have hx := C.1
  have hb := C.2.1
  have hown := C.2.2.2.1
  have hts := C.2.2.2.2.1
  have hl : lv_has ls 2 [(0, .ref (g.2.1 0)), (1, .int x1)] := hl
  unfold zf_Loader_feed at hF
  refine lv_aload_n hx hb zd_Loader_feed_0 rfl (lv_at hl 0 rfl) ?_
  refine xx_get C ki_Loader hK hP 0 rfl rfl 2 (by decide) kw_189 rfl rfl zd_Loader_feed_1 ?_
  refine lv_iload_n hx hb zd_Loader_feed_4 rfl (lv_at hl 1 rfl) ?_
  refine lv_iconst (v := (4 : Int32)) hx hb zd_Loader_feed_5 (by decide) ?_
  obtain ⟨v2, u1, eu1, hF⟩ := xx_b2_some hF
  refine xx_callV (n := 2) (As := [.int x1, .int (4 : Int32)]) (rest := []) C (zc_Tape_append l g u x1 (4 : Int32) v2 u1 eu1) ⟨kw_231, kw_228, kw_229, kw_230, kw_4⟩ ⟨by decide +kernel, by decide +kernel, by decide +kernel⟩ rfl ⟨Nat.le_of_ble_eq_true rfl, Nat.le_of_ble_eq_true rfl⟩ 6 rfl rfl hl.1 rfl (Nat.le_of_ble_eq_true rfl) hA hK hP hD hS ⟨Nat.le_refl _, Nat.le_refl _⟩ rfl rfl rfl zd_Loader_feed_6 (fun H locs hP hD hS => ?_)
  refine lv_if_eq (tgt := 22) hx hb zd_Loader_feed_9 (by decide) (fun hc => ?_) (fun hc => ?_)
  · have hF := xx_ip hc hF
    refine lv_iconst (v := (-1 : Int32)) hx hb zd_Loader_feed_22 (by decide) ?_
    exact zw_Loader_feed_b23 C hA hK  u1 (-1 : Int32) _ _ _ hF (lv_sub hl [] rfl) hP hD hS
  · have hF := xx_in' hc hF
    refine lv_aload_n hx hb zd_Loader_feed_12 rfl (lv_at hl 0 rfl) ?_
    refine xx_get C ki_Loader hK hP 0 rfl rfl 2 (by decide) kw_189 rfl rfl zd_Loader_feed_13 ?_
    obtain ⟨v4, u3, eu3, hF⟩ := xx_b2_some hF
    refine xx_callV (n := 0) (As := []) (rest := []) C (zc_Tape_length l g u1 v4 u3 eu3) ⟨kw_239, kw_236, kw_237, kw_238, kw_4⟩ ⟨by decide +kernel, by decide +kernel, by decide +kernel⟩ rfl ⟨Nat.le_of_ble_eq_true rfl, Nat.le_of_ble_eq_true rfl⟩ 6 rfl rfl hl.1 rfl (Nat.le_of_ble_eq_true rfl) hA hK hP hD hS ⟨Nat.le_refl _, Nat.le_refl _⟩ rfl rfl rfl zd_Loader_feed_16 (fun H locs hP hD hS => ?_)
    refine lv_goto (tgt := 23) hx hb zd_Loader_feed_19 (by decide) ?_
    exact zw_Loader_feed_b23 C hA hK  u3 v4 _ _ _ hF (lv_sub hl [] rfl) hP hD hS
theorem zd_Loader_feedByte_0 : decode kb_Loader_feedByte 0 = .ok (.aload_n 0, 1) := by decide +kernel
theorem zd_Loader_feedByte_1 : decode kb_Loader_feedByte 1 = .ok (.getfield 28, 3) := by decide +kernel
theorem zd_Loader_feedByte_4 : decode kb_Loader_feedByte 4 = .ok (.iload_n 1, 1) := by decide +kernel
theorem zd_Loader_feedByte_5 : decode kb_Loader_feedByte 5 = .ok (.iconst 1, 1) := by decide +kernel
theorem zd_Loader_feedByte_6 : decode kb_Loader_feedByte 6 = .ok (.invokevirtual 108, 3) := by decide +kernel
theorem zd_Loader_feedByte_9 : decode kb_Loader_feedByte 9 = .ok (.ifCond .eq (13), 3) := by decide +kernel
theorem zd_Loader_feedByte_12 : decode kb_Loader_feedByte 12 = .ok (.aload_n 0, 1) := by decide +kernel
theorem zd_Loader_feedByte_13 : decode kb_Loader_feedByte 13 = .ok (.getfield 28, 3) := by decide +kernel
theorem zd_Loader_feedByte_16 : decode kb_Loader_feedByte 16 = .ok (.invokevirtual 111, 3) := by decide +kernel
theorem zd_Loader_feedByte_19 : decode kb_Loader_feedByte 19 = .ok (.goto (4), 3) := by decide +kernel
theorem zd_Loader_feedByte_22 : decode kb_Loader_feedByte 22 = .ok (.iconst (-1), 1) := by decide +kernel
theorem zd_Loader_feedByte_23 : decode kb_Loader_feedByte 23 = .ok (.ireturn, 1) := by decide +kernel
def zf_Loader_feedByte_b23 (u : zz_S) (y0 : Int32) : Option (Int32 × zz_S) := some (y0, u)
def zf_Loader_feedByte (u : zz_S) (x1 : Int32) : Option (Int32 × zz_S) := xx_b2 (zf_Tape_append u x1 (1 : Int32)) fun v2 u1 => if v2 = 0 then (zf_Loader_feedByte_b23 u1 (-1 : Int32)) else (xx_b2 (zf_Tape_length u1) fun v4 u3 => zf_Loader_feedByte_b23 u3 v4)
set_option maxHeartbeats 4000000 in
set_option maxRecDepth 100000 in
theorem zw_Loader_feedByte_b23 {p : Program} {l : Launch} {e : Env} {s : State} {m : MethodId} {args : Array Value} {below : List Frame} {meth : Method} {c : Code} {A : Nat → Prop} {g : xx_G} {r : Int32} {u9 : zz_S} (C : xx_C p s m args meth c kb_Loader_feedByte 2 kr_Loader (some .int)) (hA : ∀ q, s.heap.size ≤ q → A q) (hK : va_K g.1 xx_cls (zz_T g) s) : ∀ (u : zz_S) (y0 : Int32) (H : Heap) (locs : List Loc) (ls : Array Slot), zf_Loader_feedByte_b23 u y0 = some (r, u9) → lv_has ls 2 [] → va_P g.1 xx_cls (zz_W g u) H → va_D A (zz_W g u) → va_S A s.heap H locs → W p l e (xx_rm 2 46) s m args below meth c H locs 0 0 (MQ below (xx_Q g.1 (zz_T g) (zz_W g) (some (.int r)) u9 A) args s 0 0 A) (F0 m 23 ls [.int y0]) := by
  have hx := C.1
  have hb := C.2.1
  have hown := C.2.2.2.1
  have hts := C.2.2.2.2.1
  intro u y0 H locs ls hF hl hP hD hS
  unfold zf_Loader_feedByte_b23 at hF
  exact xx_iret C hF hK hP hD hS zd_Loader_feedByte_23
set_option maxHeartbeats 4000000 in
set_option maxRecDepth 100000 in
theorem zc_Loader_feedByte (l : Launch) (g : xx_G) (u : zz_S) (x1 : Int32) (r : Int32) (u9 : zz_S) (hF : zf_Loader_feedByte u x1 = some (r, u9)) : xx_M l g.1 (zz_T g) (zz_W g) ky_Loader_feedByte kb_Loader_feedByte 2 (some .int) (xx_rm 2 46) [.ref (g.2.1 0), .int x1] u (some (.int r)) u9 := by
  refine xx_body (by decide) (Nat.le_of_ble_eq_true rfl) ?_
  intro p e s m args below meth c A ls C hin hK hl hA hP hD hS
  have hx := C.1
  have hb := C.2.1
  have hown := C.2.2.2.1
  have hts := C.2.2.2.2.1
  have hl : lv_has ls 2 [(0, .ref (g.2.1 0)), (1, .int x1)] := hl
  unfold zf_Loader_feedByte at hF
  refine lv_aload_n hx hb zd_Loader_feedByte_0 rfl (lv_at hl 0 rfl) ?_
  refine xx_get C ki_Loader hK hP 0 rfl rfl 2 (by decide) kw_189 rfl rfl zd_Loader_feedByte_1 ?_
  refine lv_iload_n hx hb zd_Loader_feedByte_4 rfl (lv_at hl 1 rfl) ?_
  refine lv_iconst (v := (1 : Int32)) hx hb zd_Loader_feedByte_5 (by decide) ?_
  obtain ⟨v2, u1, eu1, hF⟩ := xx_b2_some hF
  refine xx_callV (n := 2) (As := [.int x1, .int (1 : Int32)]) (rest := []) C (zc_Tape_append l g u x1 (1 : Int32) v2 u1 eu1) ⟨kw_231, kw_228, kw_229, kw_230, kw_4⟩ ⟨by decide +kernel, by decide +kernel, by decide +kernel⟩ rfl ⟨Nat.le_of_ble_eq_true rfl, Nat.le_of_ble_eq_true rfl⟩ 6 rfl rfl hl.1 rfl (Nat.le_of_ble_eq_true rfl) hA hK hP hD hS ⟨Nat.le_refl _, Nat.le_refl _⟩ rfl rfl rfl zd_Loader_feedByte_6 (fun H locs hP hD hS => ?_)
  refine lv_if_eq (tgt := 22) hx hb zd_Loader_feedByte_9 (by decide) (fun hc => ?_) (fun hc => ?_)
  · have hF := xx_ip hc hF
    refine lv_iconst (v := (-1 : Int32)) hx hb zd_Loader_feedByte_22 (by decide) ?_
    exact zw_Loader_feedByte_b23 C hA hK  u1 (-1 : Int32) _ _ _ hF (lv_sub hl [] rfl) hP hD hS
  · have hF := xx_in' hc hF
    refine lv_aload_n hx hb zd_Loader_feedByte_12 rfl (lv_at hl 0 rfl) ?_
    refine xx_get C ki_Loader hK hP 0 rfl rfl 2 (by decide) kw_189 rfl rfl zd_Loader_feedByte_13 ?_
    obtain ⟨v4, u3, eu3, hF⟩ := xx_b2_some hF
    refine xx_callV (n := 0) (As := []) (rest := []) C (zc_Tape_length l g u1 v4 u3 eu3) ⟨kw_239, kw_236, kw_237, kw_238, kw_4⟩ ⟨by decide +kernel, by decide +kernel, by decide +kernel⟩ rfl ⟨Nat.le_of_ble_eq_true rfl, Nat.le_of_ble_eq_true rfl⟩ 6 rfl rfl hl.1 rfl (Nat.le_of_ble_eq_true rfl) hA hK hP hD hS ⟨Nat.le_refl _, Nat.le_refl _⟩ rfl rfl rfl zd_Loader_feedByte_16 (fun H locs hP hD hS => ?_)
    refine lv_goto (tgt := 23) hx hb zd_Loader_feedByte_19 (by decide) ?_
    exact zw_Loader_feedByte_b23 C hA hK  u3 v4 _ _ _ hF (lv_sub hl [] rfl) hP hD hS
set_option maxRecDepth 100000 in
theorem kw_255 : Cond.code ky_Memory_isGuarded kb_Memory_isGuarded 2 (some .boolean) ∈ xx_tb := xx_in (List.mem_append_right _ (List.mem_of_getElem? (i := 255) (by rfl))) (by decide +kernel)
theorem kw_252 : Cond.methodLink "ModuleLoader" 181 ky_Memory_isGuarded ∈ xx_tb := xx_in (List.mem_append_right _ (List.mem_of_getElem? (i := 252) (by decide +kernel))) (by decide +kernel)
theorem kw_253 : Cond.instanceMethod ky_Memory_isGuarded ∈ xx_tb := xx_in (List.mem_append_right _ (List.mem_of_getElem? (i := 253) (by decide +kernel))) (by decide +kernel)
theorem kw_254 : Cond.selects "ModuleLoader$Memory" ky_Memory_isGuarded ky_Memory_isGuarded ∈ xx_tb := xx_in (List.mem_append_right _ (List.mem_of_getElem? (i := 254) (by decide +kernel))) (by decide +kernel)
theorem zd_Loader_isProtected_0 : decode kb_Loader_isProtected 0 = .ok (.aload_n 0, 1) := by decide +kernel
theorem zd_Loader_isProtected_1 : decode kb_Loader_isProtected 1 = .ok (.getfield 10, 3) := by decide +kernel
theorem zd_Loader_isProtected_4 : decode kb_Loader_isProtected 4 = .ok (.iload_n 1, 1) := by decide +kernel
theorem zd_Loader_isProtected_5 : decode kb_Loader_isProtected 5 = .ok (.invokevirtual 181, 3) := by decide +kernel
theorem zd_Loader_isProtected_8 : decode kb_Loader_isProtected 8 = .ok (.ireturn, 1) := by decide +kernel
def zf_Loader_isProtected (u : zz_S) (x1 : Int32) : Option (Int32 × zz_S) := xx_b2 (zf_Memory_isGuarded u x1) fun v2 u1 => some (vp_nar .boolean v2, u1)
set_option maxHeartbeats 4000000 in
set_option maxRecDepth 100000 in
theorem zc_Loader_isProtected (l : Launch) (g : xx_G) (u : zz_S) (x1 : Int32) (r : Int32) (u9 : zz_S) (hF : zf_Loader_isProtected u x1 = some (r, u9)) : xx_M l g.1 (zz_T g) (zz_W g) ky_Loader_isProtected kb_Loader_isProtected 2 (some .boolean) (xx_rm 2 42) [.ref (g.2.1 0), .int x1] u (some (.int r)) u9 := by
  refine xx_body (by decide) (Nat.le_of_ble_eq_true rfl) ?_
  intro p e s m args below meth c A ls C hin hK hl hA hP hD hS
  have hx := C.1
  have hb := C.2.1
  have hown := C.2.2.2.1
  have hts := C.2.2.2.2.1
  have hl : lv_has ls 2 [(0, .ref (g.2.1 0)), (1, .int x1)] := hl
  unfold zf_Loader_isProtected at hF
  refine lv_aload_n hx hb zd_Loader_isProtected_0 rfl (lv_at hl 0 rfl) ?_
  refine xx_get C ki_Loader hK hP 0 rfl rfl 0 (by decide) kw_187 rfl rfl zd_Loader_isProtected_1 ?_
  refine lv_iload_n hx hb zd_Loader_isProtected_4 rfl (lv_at hl 1 rfl) ?_
  obtain ⟨v2, u1, eu1, hF⟩ := xx_b2_some hF
  refine xx_callV (n := 1) (As := [.int x1]) (rest := []) C (zc_Memory_isGuarded l g u x1 v2 u1 eu1) ⟨kw_255, kw_252, kw_253, kw_254, kw_2⟩ ⟨by decide +kernel, by decide +kernel, by decide +kernel⟩ rfl ⟨Nat.le_of_ble_eq_true rfl, Nat.le_of_ble_eq_true rfl⟩ 1 rfl rfl hl.1 rfl (Nat.le_of_ble_eq_true rfl) hA hK hP hD hS ⟨Nat.le_refl _, Nat.le_refl _⟩ rfl rfl rfl zd_Loader_isProtected_5 (fun H locs hP hD hS => ?_)
  exact xx_zret C hF hK hP hD hS zd_Loader_isProtected_8
set_option maxRecDepth 100000 in
theorem kw_279 : Cond.code ky_ModuleTable_find kb_ModuleTable_find 3 (some (.object "ModuleLoader$LoadedModule")) ∈ xx_tb := xx_in (List.mem_append_right _ (List.mem_of_getElem? (i := 279) (by rfl))) (by decide +kernel)
theorem kw_276 : Cond.methodLink "ModuleLoader" 161 ky_ModuleTable_find ∈ xx_tb := xx_in (List.mem_append_right _ (List.mem_of_getElem? (i := 276) (by decide +kernel))) (by decide +kernel)
theorem kw_277 : Cond.instanceMethod ky_ModuleTable_find ∈ xx_tb := xx_in (List.mem_append_right _ (List.mem_of_getElem? (i := 277) (by decide +kernel))) (by decide +kernel)
theorem kw_278 : Cond.selects "ModuleLoader$ModuleTable" ky_ModuleTable_find ky_ModuleTable_find ∈ xx_tb := xx_in (List.mem_append_right _ (List.mem_of_getElem? (i := 278) (by decide +kernel))) (by decide +kernel)
theorem kw_678 : Cond.fieldLink "ModuleLoader" 129 "ModuleLoader$LoadedModule" "address" "I" ∈ xx_tb := xx_in (List.mem_append_right _ (List.mem_of_getElem? (i := 678) (by decide +kernel))) (by decide +kernel)
theorem kw_681 : Cond.fieldLink "ModuleLoader" 197 "ModuleLoader$LoadedModule" "size" "I" ∈ xx_tb := xx_in (List.mem_append_right _ (List.mem_of_getElem? (i := 681) (by decide +kernel))) (by decide +kernel)
theorem kw_683 : Cond.fieldLink "ModuleLoader" 200 "ModuleLoader$LoadedModule" "exports" "I" ∈ xx_tb := xx_in (List.mem_append_right _ (List.mem_of_getElem? (i := 683) (by decide +kernel))) (by decide +kernel)
set_option maxRecDepth 100000 in
theorem kw_283 : Cond.code ky_ModuleTable_howManyNeed kb_ModuleTable_howManyNeed 4 (some .int) ∈ xx_tb := xx_in (List.mem_append_right _ (List.mem_of_getElem? (i := 283) (by rfl))) (by decide +kernel)
theorem kw_280 : Cond.methodLink "ModuleLoader" 163 ky_ModuleTable_howManyNeed ∈ xx_tb := xx_in (List.mem_append_right _ (List.mem_of_getElem? (i := 280) (by decide +kernel))) (by decide +kernel)
theorem kw_281 : Cond.instanceMethod ky_ModuleTable_howManyNeed ∈ xx_tb := xx_in (List.mem_append_right _ (List.mem_of_getElem? (i := 281) (by decide +kernel))) (by decide +kernel)
theorem kw_282 : Cond.selects "ModuleLoader$ModuleTable" ky_ModuleTable_howManyNeed ky_ModuleTable_howManyNeed ∈ xx_tb := xx_in (List.mem_append_right _ (List.mem_of_getElem? (i := 282) (by decide +kernel))) (by decide +kernel)
set_option maxRecDepth 100000 in
theorem kw_291 : Cond.code ky_LoadedModule_neededCount kb_LoadedModule_neededCount 1 (some .int) ∈ xx_tb := xx_in (List.mem_append_right _ (List.mem_of_getElem? (i := 291) (by rfl))) (by decide +kernel)
theorem kw_288 : Cond.methodLink "ModuleLoader" 203 ky_LoadedModule_neededCount ∈ xx_tb := xx_in (List.mem_append_right _ (List.mem_of_getElem? (i := 288) (by decide +kernel))) (by decide +kernel)
theorem kw_289 : Cond.instanceMethod ky_LoadedModule_neededCount ∈ xx_tb := xx_in (List.mem_append_right _ (List.mem_of_getElem? (i := 289) (by decide +kernel))) (by decide +kernel)
theorem kw_290 : Cond.selects "ModuleLoader$LoadedModule" ky_LoadedModule_neededCount ky_LoadedModule_neededCount ∈ xx_tb := xx_in (List.mem_append_right _ (List.mem_of_getElem? (i := 290) (by decide +kernel))) (by decide +kernel)
theorem zd_Loader_module_0 : decode kb_Loader_module 0 = .ok (.aload_n 0, 1) := by decide +kernel
theorem zd_Loader_module_1 : decode kb_Loader_module 1 = .ok (.getfield 51, 3) := by decide +kernel
theorem zd_Loader_module_4 : decode kb_Loader_module 4 = .ok (.iload_n 1, 1) := by decide +kernel
theorem zd_Loader_module_5 : decode kb_Loader_module 5 = .ok (.invokevirtual 161, 3) := by decide +kernel
theorem zd_Loader_module_8 : decode kb_Loader_module 8 = .ok (.astore_n 3, 1) := by decide +kernel
theorem zd_Loader_module_9 : decode kb_Loader_module 9 = .ok (.aload_n 3, 1) := by decide +kernel
theorem zd_Loader_module_10 : decode kb_Loader_module 10 = .ok (.ifnonnull (5), 3) := by decide +kernel
theorem zd_Loader_module_13 : decode kb_Loader_module 13 = .ok (.iconst (-1), 1) := by decide +kernel
theorem zd_Loader_module_14 : decode kb_Loader_module 14 = .ok (.ireturn, 1) := by decide +kernel
theorem zd_Loader_module_15 : decode kb_Loader_module 15 = .ok (.iload_n 2, 1) := by decide +kernel
theorem zd_Loader_module_16 : decode kb_Loader_module 16 = .ok (.tableswitch (65) (0) (4) #[36, 41, 46, 51, 60], 36) := by decide +kernel
theorem zd_Loader_module_52 : decode kb_Loader_module 52 = .ok (.aload_n 3, 1) := by decide +kernel
theorem zd_Loader_module_53 : decode kb_Loader_module 53 = .ok (.getfield 129, 3) := by decide +kernel
theorem zd_Loader_module_56 : decode kb_Loader_module 56 = .ok (.ireturn, 1) := by decide +kernel
theorem zd_Loader_module_57 : decode kb_Loader_module 57 = .ok (.aload_n 3, 1) := by decide +kernel
theorem zd_Loader_module_58 : decode kb_Loader_module 58 = .ok (.getfield 197, 3) := by decide +kernel
theorem zd_Loader_module_61 : decode kb_Loader_module 61 = .ok (.ireturn, 1) := by decide +kernel
theorem zd_Loader_module_62 : decode kb_Loader_module 62 = .ok (.aload_n 3, 1) := by decide +kernel
theorem zd_Loader_module_63 : decode kb_Loader_module 63 = .ok (.getfield 200, 3) := by decide +kernel
theorem zd_Loader_module_66 : decode kb_Loader_module 66 = .ok (.ireturn, 1) := by decide +kernel
theorem zd_Loader_module_67 : decode kb_Loader_module 67 = .ok (.aload_n 0, 1) := by decide +kernel
theorem zd_Loader_module_68 : decode kb_Loader_module 68 = .ok (.getfield 51, 3) := by decide +kernel
theorem zd_Loader_module_71 : decode kb_Loader_module 71 = .ok (.aload_n 3, 1) := by decide +kernel
theorem zd_Loader_module_72 : decode kb_Loader_module 72 = .ok (.invokevirtual 163, 3) := by decide +kernel
theorem zd_Loader_module_75 : decode kb_Loader_module 75 = .ok (.ireturn, 1) := by decide +kernel
theorem zd_Loader_module_76 : decode kb_Loader_module 76 = .ok (.aload_n 3, 1) := by decide +kernel
theorem zd_Loader_module_77 : decode kb_Loader_module 77 = .ok (.invokevirtual 203, 3) := by decide +kernel
theorem zd_Loader_module_80 : decode kb_Loader_module 80 = .ok (.ireturn, 1) := by decide +kernel
theorem zd_Loader_module_81 : decode kb_Loader_module 81 = .ok (.iconst (-1), 1) := by decide +kernel
theorem zd_Loader_module_82 : decode kb_Loader_module 82 = .ok (.ireturn, 1) := by decide +kernel
def zf_Loader_module (u : zz_S) (x1 : Int32) (x2 : Int32) : Option (Int32 × zz_S) := xx_b2 (zf_ModuleTable_find u x1) fun v2 u1 => xx_on v2 (some ((-1 : Int32), u1)) (fun a3 => if x2 = 0 then ((zz_pi u1 a3 9 1).bind fun v4 => some (v4, u1)) else (if x2 = 1 then ((zz_pi u1 a3 9 2).bind fun v5 => some (v5, u1)) else (if x2 = 2 then ((zz_pi u1 a3 9 3).bind fun v6 => some (v6, u1)) else (if x2 = 3 then (xx_b2 (zf_ModuleTable_howManyNeed u1 v2) fun v8 u7 => some (v8, u7)) else (if x2 = 4 then ((zz_ok u1 a3 9).bind fun w9 => xx_b2 (zf_LoadedModule_neededCount u1 a3) fun v11 u10 => some (v11, u10)) else (some ((-1 : Int32), u1)))))))
set_option maxHeartbeats 4000000 in
set_option maxRecDepth 100000 in
theorem zc_Loader_module (l : Launch) (g : xx_G) (u : zz_S) (x1 : Int32) (x2 : Int32) (r : Int32) (u9 : zz_S) (hF : zf_Loader_module u x1 x2 = some (r, u9)) : xx_M l g.1 (zz_T g) (zz_W g) ky_Loader_module kb_Loader_module 4 (some .int) (xx_rm 2 45) [.ref (g.2.1 0), .int x1, .int x2] u (some (.int r)) u9 := by
  refine xx_body (by decide) (Nat.le_of_ble_eq_true rfl) ?_
  intro p e s m args below meth c A ls C hin hK hl hA hP hD hS
  have hx := C.1
  have hb := C.2.1
  have hown := C.2.2.2.1
  have hts := C.2.2.2.2.1
  have hl : lv_has ls 4 [(0, .ref (g.2.1 0)), (1, .int x1), (2, .int x2)] := hl
  unfold zf_Loader_module at hF
  refine lv_aload_n hx hb zd_Loader_module_0 rfl (lv_at hl 0 rfl) ?_
  refine xx_get C ki_Loader hK hP 0 rfl rfl 5 (by decide) kw_192 rfl rfl zd_Loader_module_1 ?_
  refine lv_iload_n hx hb zd_Loader_module_4 rfl (lv_at hl 1 rfl) ?_
  obtain ⟨v2, u1, eu1, hF⟩ := xx_b2_some hF
  refine xx_callV (n := 1) (As := [.int x1]) (rest := []) C (zc_ModuleTable_find l g u x1 v2 u1 eu1) ⟨kw_279, kw_276, kw_277, kw_278, kw_7⟩ ⟨by decide +kernel, by decide +kernel, by decide +kernel⟩ rfl ⟨Nat.le_of_ble_eq_true rfl, Nat.le_of_ble_eq_true rfl⟩ 11 rfl rfl hl.1 rfl (Nat.le_of_ble_eq_true rfl) hA hK hP hD hS ⟨Nat.le_refl _, Nat.le_refl _⟩ rfl rfl rfl zd_Loader_module_5 (fun H locs hP hD hS => ?_)
  refine xx_ast C zd_Loader_module_8 rfl hl (by decide) rfl (fun ls hl => ?_)
  refine xx_ald C zd_Loader_module_9 rfl (lv_at hl 0 rfl) ?_
  refine xx_ifnonnull (tgt := 15) C zd_Loader_module_10 (by decide) (fun en => ?_) (fun a3 ea3 => ?_)
  · have hF := xx_on_n en hF
    refine lv_iconst (v := (-1 : Int32)) hx hb zd_Loader_module_13 (by decide) ?_
    exact xx_iret C hF hK hP hD hS zd_Loader_module_14
  · have hF := xx_on_s ea3 hF
    refine lv_iload_n hx hb zd_Loader_module_15 rfl (lv_at hl 3 rfl) ?_
    by_cases hs0 : x2 = (0 : Int32)
    · have hF := xx_ip hs0 hF
      refine lv_tableIn (off := 36) (tgt := 52) hx hb zd_Loader_module_16 (by rw [hs0]; decide) (by rw [hs0]; decide) (by rw [hs0]; rfl) (by decide) ?_
      refine xx_ald C zd_Loader_module_52 rfl (lv_at hl 0 rfl) ?_
      rw [ea3]
      obtain ⟨v4, ev4, hF⟩ := xx_ob hF
      refine zz_get (a := a3) (u := u1) (ci := 9) C ki_LoadedModule hK hP rfl 1 (by decide) kw_678 rfl (zz_pi_some ev4) zd_Loader_module_53 ?_
      exact xx_iret C hF hK hP hD hS zd_Loader_module_56
    · have hF := xx_in' hs0 hF
      by_cases hs1 : x2 = (1 : Int32)
      · have hF := xx_ip hs1 hF
        refine lv_tableIn (off := 41) (tgt := 57) hx hb zd_Loader_module_16 (by rw [hs1]; decide) (by rw [hs1]; decide) (by rw [hs1]; rfl) (by decide) ?_
        refine xx_ald C zd_Loader_module_57 rfl (lv_at hl 0 rfl) ?_
        rw [ea3]
        obtain ⟨v5, ev5, hF⟩ := xx_ob hF
        refine zz_get (a := a3) (u := u1) (ci := 9) C ki_LoadedModule hK hP rfl 2 (by decide) kw_681 rfl (zz_pi_some ev5) zd_Loader_module_58 ?_
        exact xx_iret C hF hK hP hD hS zd_Loader_module_61
      · have hF := xx_in' hs1 hF
        by_cases hs2 : x2 = (2 : Int32)
        · have hF := xx_ip hs2 hF
          refine lv_tableIn (off := 46) (tgt := 62) hx hb zd_Loader_module_16 (by rw [hs2]; decide) (by rw [hs2]; decide) (by rw [hs2]; rfl) (by decide) ?_
          refine xx_ald C zd_Loader_module_62 rfl (lv_at hl 0 rfl) ?_
          rw [ea3]
          obtain ⟨v6, ev6, hF⟩ := xx_ob hF
          refine zz_get (a := a3) (u := u1) (ci := 9) C ki_LoadedModule hK hP rfl 3 (by decide) kw_683 rfl (zz_pi_some ev6) zd_Loader_module_63 ?_
          exact xx_iret C hF hK hP hD hS zd_Loader_module_66
        · have hF := xx_in' hs2 hF
          by_cases hs3 : x2 = (3 : Int32)
          · have hF := xx_ip hs3 hF
            refine lv_tableIn (off := 51) (tgt := 67) hx hb zd_Loader_module_16 (by rw [hs3]; decide) (by rw [hs3]; decide) (by rw [hs3]; rfl) (by decide) ?_
            refine lv_aload_n hx hb zd_Loader_module_67 rfl (lv_at hl 1 rfl) ?_
            refine xx_get C ki_Loader hK hP 0 rfl rfl 5 (by decide) kw_192 rfl rfl zd_Loader_module_68 ?_
            refine xx_ald C zd_Loader_module_71 rfl (lv_at hl 0 rfl) ?_
            obtain ⟨v8, u7, eu7, hF⟩ := xx_b2_some hF
            refine xx_callV (n := 1) (As := [(va_rf v2)]) (rest := []) C (zc_ModuleTable_howManyNeed l g u1 v2 v8 u7 eu7) ⟨kw_283, kw_280, kw_281, kw_282, kw_7⟩ ⟨by decide +kernel, by decide +kernel, by decide +kernel⟩ rfl ⟨Nat.le_of_ble_eq_true rfl, Nat.le_of_ble_eq_true rfl⟩ 11 rfl rfl hl.1 rfl (Nat.le_of_ble_eq_true rfl) hA hK hP hD hS ⟨Nat.le_refl _, Nat.le_refl _⟩ rfl rfl rfl zd_Loader_module_72 (fun H locs hP hD hS => ?_)
            exact xx_iret C hF hK hP hD hS zd_Loader_module_75
          · have hF := xx_in' hs3 hF
            by_cases hs4 : x2 = (4 : Int32)
            · have hF := xx_ip hs4 hF
              refine lv_tableIn (off := 60) (tgt := 76) hx hb zd_Loader_module_16 (by rw [hs4]; decide) (by rw [hs4]; decide) (by rw [hs4]; rfl) (by decide) ?_
              refine xx_ald C zd_Loader_module_76 rfl (lv_at hl 0 rfl) ?_
              rw [ea3]
              obtain ⟨w9, ew9, hF⟩ := xx_ob hF
              obtain ⟨v11, u10, eu10, hF⟩ := xx_b2_some hF
              refine zz_callP (ci := 9) (n := 0) (As := []) (rest := []) C (zc_LoadedModule_neededCount l g u1 a3 v11 u10 eu10) ⟨kw_291, kw_288, kw_289, kw_290, kw_18⟩ ⟨by decide +kernel, by decide +kernel, by decide +kernel⟩ rfl ⟨Nat.le_of_ble_eq_true rfl, Nat.le_of_ble_eq_true rfl⟩ ew9 rfl hl.1 rfl (Nat.le_of_ble_eq_true rfl) hA hK hP hD hS ⟨Nat.le_refl _, Nat.le_refl _⟩ rfl rfl rfl zd_Loader_module_77 (fun H locs hP hD hS => ?_)
              exact xx_iret C hF hK hP hD hS zd_Loader_module_80
            · have hF := xx_in' hs4 hF
              refine lv_tableOut (tgt := 81) hx hb zd_Loader_module_16 (by have h0 := lv_neT (a := 0) hs0 (by decide); have h1 := lv_neT (a := 1) hs1 (by decide); have h2 := lv_neT (a := 2) hs2 (by decide); have h3 := lv_neT (a := 3) hs3 (by decide); have h4 := lv_neT (a := 4) hs4 (by decide); omega) (by decide) ?_
              refine lv_iconst (v := (-1 : Int32)) hx hb zd_Loader_module_81 (by decide) ?_
              exact xx_iret C hF hK hP hD hS zd_Loader_module_82
theorem kw_190 : Cond.fieldLink "ModuleLoader" 37 "ModuleLoader" "file" "LModuleLoader$ModuleFile;" ∈ xx_tb := xx_in (List.mem_append_right _ (List.mem_of_getElem? (i := 190) (by decide +kernel))) (by decide +kernel)
theorem kw_91 : Cond.fieldLink "ModuleLoader" 244 "ModuleLoader$ModuleFile" "imports" "I" ∈ xx_tb := xx_in (List.mem_append_right _ (List.mem_of_getElem? (i := 91) (by decide +kernel))) (by decide +kernel)
set_option maxRecDepth 100000 in
theorem kw_535 : Cond.code ky_ModuleFile_importName kb_ModuleFile_importName 2 (some .int) ∈ xx_tb := xx_in (List.mem_append_right _ (List.mem_of_getElem? (i := 535) (by rfl))) (by decide +kernel)
theorem kw_585 : Cond.methodLink "ModuleLoader" 247 ky_ModuleFile_importName ∈ xx_tb := xx_in (List.mem_append_right _ (List.mem_of_getElem? (i := 585) (by decide +kernel))) (by decide +kernel)
theorem kw_533 : Cond.instanceMethod ky_ModuleFile_importName ∈ xx_tb := xx_in (List.mem_append_right _ (List.mem_of_getElem? (i := 533) (by decide +kernel))) (by decide +kernel)
theorem kw_534 : Cond.selects "ModuleLoader$ModuleFile" ky_ModuleFile_importName ky_ModuleFile_importName ∈ xx_tb := xx_in (List.mem_append_right _ (List.mem_of_getElem? (i := 534) (by decide +kernel))) (by decide +kernel)
theorem kw_5 : Cond.initialized "ModuleLoader$ModuleFile" ∈ xx_tb := xx_in (List.mem_append_right _ (List.mem_of_getElem? (i := 5) (by decide +kernel))) (by decide +kernel)
set_option maxRecDepth 100000 in
theorem kw_572 : Cond.code ky_Report_blame kb_Report_blame 3 none ∈ xx_tb := xx_in (List.mem_append_right _ (List.mem_of_getElem? (i := 572) (by rfl))) (by decide +kernel)
theorem kw_569 : Cond.methodLink "ModuleLoader" 167 ky_Report_blame ∈ xx_tb := xx_in (List.mem_append_right _ (List.mem_of_getElem? (i := 569) (by decide +kernel))) (by decide +kernel)
theorem kw_570 : Cond.instanceMethod ky_Report_blame ∈ xx_tb := xx_in (List.mem_append_right _ (List.mem_of_getElem? (i := 570) (by decide +kernel))) (by decide +kernel)
theorem kw_571 : Cond.selects "ModuleLoader$Report" ky_Report_blame ky_Report_blame ∈ xx_tb := xx_in (List.mem_append_right _ (List.mem_of_getElem? (i := 571) (by decide +kernel))) (by decide +kernel)
theorem kw_8 : Cond.initialized "ModuleLoader$Report" ∈ xx_tb := xx_in (List.mem_append_right _ (List.mem_of_getElem? (i := 8) (by decide +kernel))) (by decide +kernel)
set_option maxRecDepth 100000 in
theorem kw_589 : Cond.code ky_ModuleFile_importCheck kb_ModuleFile_importCheck 2 (some .int) ∈ xx_tb := xx_in (List.mem_append_right _ (List.mem_of_getElem? (i := 589) (by rfl))) (by decide +kernel)
theorem kw_586 : Cond.methodLink "ModuleLoader" 250 ky_ModuleFile_importCheck ∈ xx_tb := xx_in (List.mem_append_right _ (List.mem_of_getElem? (i := 586) (by decide +kernel))) (by decide +kernel)
theorem kw_587 : Cond.instanceMethod ky_ModuleFile_importCheck ∈ xx_tb := xx_in (List.mem_append_right _ (List.mem_of_getElem? (i := 587) (by decide +kernel))) (by decide +kernel)
theorem kw_588 : Cond.selects "ModuleLoader$ModuleFile" ky_ModuleFile_importCheck ky_ModuleFile_importCheck ∈ xx_tb := xx_in (List.mem_append_right _ (List.mem_of_getElem? (i := 588) (by decide +kernel))) (by decide +kernel)
theorem zd_Loader_checkImports_0 : decode kb_Loader_checkImports 0 = .ok (.iconst 0, 1) := by decide +kernel
theorem zd_Loader_checkImports_1 : decode kb_Loader_checkImports 1 = .ok (.istore_n 1, 1) := by decide +kernel
theorem zd_Loader_checkImports_2 : decode kb_Loader_checkImports 2 = .ok (.iload_n 1, 1) := by decide +kernel
theorem zd_Loader_checkImports_3 : decode kb_Loader_checkImports 3 = .ok (.aload_n 0, 1) := by decide +kernel
theorem zd_Loader_checkImports_4 : decode kb_Loader_checkImports 4 = .ok (.getfield 37, 3) := by decide +kernel
theorem zd_Loader_checkImports_7 : decode kb_Loader_checkImports 7 = .ok (.getfield 244, 3) := by decide +kernel
theorem zd_Loader_checkImports_10 : decode kb_Loader_checkImports 10 = .ok (.if_icmp .ge (64), 3) := by decide +kernel
theorem zd_Loader_checkImports_13 : decode kb_Loader_checkImports 13 = .ok (.aload_n 0, 1) := by decide +kernel
theorem zd_Loader_checkImports_14 : decode kb_Loader_checkImports 14 = .ok (.getfield 44, 3) := by decide +kernel
theorem zd_Loader_checkImports_17 : decode kb_Loader_checkImports 17 = .ok (.aload_n 0, 1) := by decide +kernel
theorem zd_Loader_checkImports_18 : decode kb_Loader_checkImports 18 = .ok (.getfield 37, 3) := by decide +kernel
theorem zd_Loader_checkImports_21 : decode kb_Loader_checkImports 21 = .ok (.iload_n 1, 1) := by decide +kernel
theorem zd_Loader_checkImports_22 : decode kb_Loader_checkImports 22 = .ok (.invokevirtual 247, 3) := by decide +kernel
theorem zd_Loader_checkImports_25 : decode kb_Loader_checkImports 25 = .ok (.invokevirtual 91, 3) := by decide +kernel
theorem zd_Loader_checkImports_28 : decode kb_Loader_checkImports 28 = .ok (.astore_n 2, 1) := by decide +kernel
theorem zd_Loader_checkImports_29 : decode kb_Loader_checkImports 29 = .ok (.aload_n 2, 1) := by decide +kernel
theorem zd_Loader_checkImports_30 : decode kb_Loader_checkImports 30 = .ok (.ifnonnull (13), 3) := by decide +kernel
theorem zd_Loader_checkImports_33 : decode kb_Loader_checkImports 33 = .ok (.aload_n 0, 1) := by decide +kernel
theorem zd_Loader_checkImports_34 : decode kb_Loader_checkImports 34 = .ok (.getfield 58, 3) := by decide +kernel
theorem zd_Loader_checkImports_37 : decode kb_Loader_checkImports 37 = .ok (.iconst 3, 1) := by decide +kernel
theorem zd_Loader_checkImports_38 : decode kb_Loader_checkImports 38 = .ok (.iload_n 1, 1) := by decide +kernel
theorem zd_Loader_checkImports_39 : decode kb_Loader_checkImports 39 = .ok (.invokevirtual 167, 3) := by decide +kernel
theorem zd_Loader_checkImports_42 : decode kb_Loader_checkImports 42 = .ok (.return_, 1) := by decide +kernel
theorem zd_Loader_checkImports_43 : decode kb_Loader_checkImports 43 = .ok (.aload_n 2, 1) := by decide +kernel
theorem zd_Loader_checkImports_44 : decode kb_Loader_checkImports 44 = .ok (.getfield 187, 3) := by decide +kernel
theorem zd_Loader_checkImports_47 : decode kb_Loader_checkImports 47 = .ok (.aload_n 0, 1) := by decide +kernel
theorem zd_Loader_checkImports_48 : decode kb_Loader_checkImports 48 = .ok (.getfield 37, 3) := by decide +kernel
theorem zd_Loader_checkImports_51 : decode kb_Loader_checkImports 51 = .ok (.iload_n 1, 1) := by decide +kernel
theorem zd_Loader_checkImports_52 : decode kb_Loader_checkImports 52 = .ok (.invokevirtual 250, 3) := by decide +kernel
theorem zd_Loader_checkImports_55 : decode kb_Loader_checkImports 55 = .ok (.if_icmp .eq (13), 3) := by decide +kernel
theorem zd_Loader_checkImports_58 : decode kb_Loader_checkImports 58 = .ok (.aload_n 0, 1) := by decide +kernel
theorem zd_Loader_checkImports_59 : decode kb_Loader_checkImports 59 = .ok (.getfield 58, 3) := by decide +kernel
theorem zd_Loader_checkImports_62 : decode kb_Loader_checkImports 62 = .ok (.iconst 4, 1) := by decide +kernel
theorem zd_Loader_checkImports_63 : decode kb_Loader_checkImports 63 = .ok (.iload_n 1, 1) := by decide +kernel
theorem zd_Loader_checkImports_64 : decode kb_Loader_checkImports 64 = .ok (.invokevirtual 167, 3) := by decide +kernel
theorem zd_Loader_checkImports_67 : decode kb_Loader_checkImports 67 = .ok (.return_, 1) := by decide +kernel
theorem zd_Loader_checkImports_68 : decode kb_Loader_checkImports 68 = .ok (.iinc 1 (1), 3) := by decide +kernel
theorem zd_Loader_checkImports_71 : decode kb_Loader_checkImports 71 = .ok (.goto (-69), 3) := by decide +kernel
theorem zd_Loader_checkImports_74 : decode kb_Loader_checkImports 74 = .ok (.return_, 1) := by decide +kernel
def zf_Loader_checkImports_b2 : Nat → zz_S → Int32 → Option (zz_S)
  | 0, _, _ => none
  | n + 1, u, x1 => if (u.1 6) ≤ x1 then (some u) else (xx_b2 (zf_ModuleFile_importName u x1) fun v2 u1 => xx_b2 (zf_SymbolTable_find u1 v2) fun v4 u3 => xx_on v4 ((zf_Report_blame u3 (3 : Int32) x1).bind fun u6 => some u6) (fun a5 => (zz_pi u3 a5 7 1).bind fun v7 => xx_b2 (zf_ModuleFile_importCheck u3 x1) fun v9 u8 => if v7 = v9 then (xx_nm (x1 + (1 : Int32)) fun v10 => (zf_Loader_checkImports_b2 n) u8 v10) else ((zf_Report_blame u8 (4 : Int32) x1).bind fun u11 => some u11)))
def zf_Loader_checkImports (u : zz_S) : Option (zz_S) := xx_nm (0 : Int32) fun v1 => zf_Loader_checkImports_b2 xx_fu u v1
set_option maxHeartbeats 4000000 in
set_option maxRecDepth 100000 in
theorem zw_Loader_checkImports_b2 {p : Program} {l : Launch} {e : Env} {s : State} {m : MethodId} {args : Array Value} {below : List Frame} {meth : Method} {c : Code} {A : Nat → Prop} {g : xx_G} {u9 : zz_S} (C : xx_C p s m args meth c kb_Loader_checkImports 3 kr_Loader none) (hA : ∀ q, s.heap.size ≤ q → A q) (hK : va_K g.1 xx_cls (zz_T g) s) : ∀ (n : Nat), ∀ (u : zz_S) (x1 : Int32) (H : Heap) (locs : List Loc) (ls : Array Slot), zf_Loader_checkImports_b2 n u x1 = some u9 → lv_has ls 3 [(0, .ref (g.2.1 0)), (1, .int x1)] → va_P g.1 xx_cls (zz_W g u) H → va_D A (zz_W g u) → va_S A s.heap H locs → W p l e (xx_rm 2 42) s m args below meth c H locs 0 0 (MQ below (xx_Q g.1 (zz_T g) (zz_W g) none u9 A) args s 0 0 A) (F0 m 2 ls []) := by
  have hx := C.1
  have hb := C.2.1
  have hown := C.2.2.2.1
  have hts := C.2.2.2.2.1
  intro n
  induction n with
  | zero =>
    intro u x1 H locs ls hF
    rw [zf_Loader_checkImports_b2] at hF
    cases hF
  | succ n ih =>
    intro u x1 H locs ls hF hl hP hD hS
    rw [zf_Loader_checkImports_b2] at hF
    refine lv_iload_n hx hb zd_Loader_checkImports_2 rfl (lv_at hl 1 rfl) ?_
    refine lv_aload_n hx hb zd_Loader_checkImports_3 rfl (lv_at hl 0 rfl) ?_
    refine xx_get C ki_Loader hK hP 0 rfl rfl 3 (by decide) kw_190 rfl rfl zd_Loader_checkImports_4 ?_
    refine xx_get C ki_ModuleFile hK hP 8 rfl rfl 1 (by decide) kw_91 rfl rfl zd_Loader_checkImports_7 ?_
    refine lv_icmp_ge (tgt := 74) hx hb zd_Loader_checkImports_10 (by decide) (fun hc => ?_) (fun hc => ?_)
    · have hF := xx_ip hc hF
      exact xx_vret C hF hK hP hD hS zd_Loader_checkImports_74
    · have hF := xx_in' hc hF
      refine lv_aload_n hx hb zd_Loader_checkImports_13 rfl (lv_at hl 0 rfl) ?_
      refine xx_get C ki_Loader hK hP 0 rfl rfl 4 (by decide) kw_191 rfl rfl zd_Loader_checkImports_14 ?_
      refine lv_aload_n hx hb zd_Loader_checkImports_17 rfl (lv_at hl 0 rfl) ?_
      refine xx_get C ki_Loader hK hP 0 rfl rfl 3 (by decide) kw_190 rfl rfl zd_Loader_checkImports_18 ?_
      refine lv_iload_n hx hb zd_Loader_checkImports_21 rfl (lv_at hl 1 rfl) ?_
      obtain ⟨v2, u1, eu1, hF⟩ := xx_b2_some hF
      refine xx_callV (n := 1) (As := [.int x1]) (rest := [.ref (g.2.1 9)]) C (zc_ModuleFile_importName l g u x1 v2 u1 eu1) ⟨kw_535, kw_585, kw_533, kw_534, kw_5⟩ ⟨by decide +kernel, by decide +kernel, by decide +kernel⟩ rfl ⟨Nat.le_of_ble_eq_true rfl, Nat.le_of_ble_eq_true rfl⟩ 8 rfl rfl hl.1 rfl (Nat.le_of_ble_eq_true rfl) hA hK hP hD hS ⟨Nat.le_refl _, Nat.le_refl _⟩ rfl rfl rfl zd_Loader_checkImports_22 (fun H locs hP hD hS => ?_)
      obtain ⟨v4, u3, eu3, hF⟩ := xx_b2_some hF
      refine xx_callV (n := 1) (As := [.int v2]) (rest := []) C (zc_SymbolTable_find l g u1 v2 v4 u3 eu3) ⟨kw_271, kw_268, kw_269, kw_270, kw_6⟩ ⟨by decide +kernel, by decide +kernel, by decide +kernel⟩ rfl ⟨Nat.le_of_ble_eq_true rfl, Nat.le_of_ble_eq_true rfl⟩ 9 rfl rfl hl.1 rfl (Nat.le_of_ble_eq_true rfl) hA hK hP hD hS ⟨Nat.le_refl _, Nat.le_refl _⟩ rfl rfl rfl zd_Loader_checkImports_25 (fun H locs hP hD hS => ?_)
      refine xx_ast C zd_Loader_checkImports_28 rfl hl (by decide) rfl (fun ls hl => ?_)
      refine xx_ald C zd_Loader_checkImports_29 rfl (lv_at hl 0 rfl) ?_
      refine xx_ifnonnull (tgt := 43) C zd_Loader_checkImports_30 (by decide) (fun en => ?_) (fun a5 ea5 => ?_)
      · have hF := xx_on_n en hF
        refine lv_aload_n hx hb zd_Loader_checkImports_33 rfl (lv_at hl 1 rfl) ?_
        refine xx_get C ki_Loader hK hP 0 rfl rfl 6 (by decide) kw_193 rfl rfl zd_Loader_checkImports_34 ?_
        refine lv_iconst (v := (3 : Int32)) hx hb zd_Loader_checkImports_37 (by decide) ?_
        refine lv_iload_n hx hb zd_Loader_checkImports_38 rfl (lv_at hl 2 rfl) ?_
        obtain ⟨u6, eu6, hF⟩ := xx_ob hF
        refine xx_callV (n := 2) (As := [.int (3 : Int32), .int x1]) (rest := []) C (zc_Report_blame l g u3 (3 : Int32) x1 u6 eu6) ⟨kw_572, kw_569, kw_570, kw_571, kw_8⟩ ⟨by decide +kernel, by decide +kernel, by decide +kernel⟩ rfl ⟨Nat.le_of_ble_eq_true rfl, Nat.le_of_ble_eq_true rfl⟩ 13 rfl rfl hl.1 rfl (Nat.le_of_ble_eq_true rfl) hA hK hP hD hS ⟨Nat.le_refl _, Nat.le_refl _⟩ rfl rfl rfl zd_Loader_checkImports_39 (fun H locs hP hD hS => ?_)
        exact xx_vret C hF hK hP hD hS zd_Loader_checkImports_42
      · have hF := xx_on_s ea5 hF
        refine xx_ald C zd_Loader_checkImports_43 rfl (lv_at hl 0 rfl) ?_
        rw [ea5]
        obtain ⟨v7, ev7, hF⟩ := xx_ob hF
        refine zz_get (a := a5) (u := u3) (ci := 7) C ki_Symbol hK hP rfl 1 (by decide) kw_465 rfl (zz_pi_some ev7) zd_Loader_checkImports_44 ?_
        refine lv_aload_n hx hb zd_Loader_checkImports_47 rfl (lv_at hl 1 rfl) ?_
        refine xx_get C ki_Loader hK hP 0 rfl rfl 3 (by decide) kw_190 rfl rfl zd_Loader_checkImports_48 ?_
        refine lv_iload_n hx hb zd_Loader_checkImports_51 rfl (lv_at hl 2 rfl) ?_
        obtain ⟨v9, u8, eu8, hF⟩ := xx_b2_some hF
        refine xx_callV (n := 1) (As := [.int x1]) (rest := [.int v7]) C (zc_ModuleFile_importCheck l g u3 x1 v9 u8 eu8) ⟨kw_589, kw_586, kw_587, kw_588, kw_5⟩ ⟨by decide +kernel, by decide +kernel, by decide +kernel⟩ rfl ⟨Nat.le_of_ble_eq_true rfl, Nat.le_of_ble_eq_true rfl⟩ 8 rfl rfl hl.1 rfl (Nat.le_of_ble_eq_true rfl) hA hK hP hD hS ⟨Nat.le_refl _, Nat.le_refl _⟩ rfl rfl rfl zd_Loader_checkImports_52 (fun H locs hP hD hS => ?_)
        refine lv_icmp_eq (tgt := 68) hx hb zd_Loader_checkImports_55 (by decide) (fun hc => ?_) (fun hc => ?_)
        · have hF := xx_ip hc hF
          obtain ⟨v10, ev10, hF⟩ := xx_nm_some hF
          refine lv_iinc (k := 2) (v := v10) hx hb zd_Loader_checkImports_68 hl rfl (by rw [ev10, xx_lit1]) (by decide) rfl (fun ls hl => ?_)
          refine lv_goto (tgt := 2) hx hb zd_Loader_checkImports_71 (by decide) ?_
          exact ih u8 v10 _ _ _ hF (lv_sub hl [2, 0] rfl) hP hD hS
        · have hF := xx_in' hc hF
          refine lv_aload_n hx hb zd_Loader_checkImports_58 rfl (lv_at hl 1 rfl) ?_
          refine xx_get C ki_Loader hK hP 0 rfl rfl 6 (by decide) kw_193 rfl rfl zd_Loader_checkImports_59 ?_
          refine lv_iconst (v := (4 : Int32)) hx hb zd_Loader_checkImports_62 (by decide) ?_
          refine lv_iload_n hx hb zd_Loader_checkImports_63 rfl (lv_at hl 2 rfl) ?_
          obtain ⟨u11, eu11, hF⟩ := xx_ob hF
          refine xx_callV (n := 2) (As := [.int (4 : Int32), .int x1]) (rest := []) C (zc_Report_blame l g u8 (4 : Int32) x1 u11 eu11) ⟨kw_572, kw_569, kw_570, kw_571, kw_8⟩ ⟨by decide +kernel, by decide +kernel, by decide +kernel⟩ rfl ⟨Nat.le_of_ble_eq_true rfl, Nat.le_of_ble_eq_true rfl⟩ 13 rfl rfl hl.1 rfl (Nat.le_of_ble_eq_true rfl) hA hK hP hD hS ⟨Nat.le_refl _, Nat.le_refl _⟩ rfl rfl rfl zd_Loader_checkImports_64 (fun H locs hP hD hS => ?_)
          exact xx_vret C hF hK hP hD hS zd_Loader_checkImports_67
set_option maxHeartbeats 4000000 in
set_option maxRecDepth 100000 in
theorem zc_Loader_checkImports (l : Launch) (g : xx_G) (u : zz_S) (u9 : zz_S) (hF : zf_Loader_checkImports u = some u9) : xx_M l g.1 (zz_T g) (zz_W g) ky_Loader_checkImports kb_Loader_checkImports 3 none (xx_rm 2 42) [.ref (g.2.1 0)] u none u9 := by
  refine xx_body (by decide) (Nat.le_of_ble_eq_true rfl) ?_
  intro p e s m args below meth c A ls C hin hK hl hA hP hD hS
  have hx := C.1
  have hb := C.2.1
  have hown := C.2.2.2.1
  have hts := C.2.2.2.2.1
  have hl : lv_has ls 3 [(0, .ref (g.2.1 0))] := hl
  unfold zf_Loader_checkImports at hF
  refine lv_iconst (v := (0 : Int32)) hx hb zd_Loader_checkImports_0 (by decide) ?_
  obtain ⟨v1, ev1, hF⟩ := xx_nm_some hF
  refine xx_topi ev1 ?_
  refine lv_istore_n hx hb zd_Loader_checkImports_1 rfl hl (by decide) rfl (fun ls hl => ?_)
  exact zw_Loader_checkImports_b2 C hA hK xx_fu u v1 _ _ _ hF (lv_sub hl [1, 0] rfl) hP hD hS
theorem kw_94 : Cond.fieldLink "ModuleLoader" 253 "ModuleLoader$ModuleFile" "exports" "I" ∈ xx_tb := xx_in (List.mem_append_right _ (List.mem_of_getElem? (i := 94) (by decide +kernel))) (by decide +kernel)
set_option maxRecDepth 100000 in
theorem kw_455 : Cond.code ky_SymbolTable_unused kb_SymbolTable_unused 1 (some .int) ∈ xx_tb := xx_in (List.mem_append_right _ (List.mem_of_getElem? (i := 455) (by rfl))) (by decide +kernel)
theorem kw_452 : Cond.methodLink "ModuleLoader" 95 ky_SymbolTable_unused ∈ xx_tb := xx_in (List.mem_append_right _ (List.mem_of_getElem? (i := 452) (by decide +kernel))) (by decide +kernel)
theorem kw_453 : Cond.instanceMethod ky_SymbolTable_unused ∈ xx_tb := xx_in (List.mem_append_right _ (List.mem_of_getElem? (i := 453) (by decide +kernel))) (by decide +kernel)
theorem kw_454 : Cond.selects "ModuleLoader$SymbolTable" ky_SymbolTable_unused ky_SymbolTable_unused ∈ xx_tb := xx_in (List.mem_append_right _ (List.mem_of_getElem? (i := 454) (by decide +kernel))) (by decide +kernel)
set_option maxRecDepth 100000 in
theorem kw_544 : Cond.code ky_ModuleFile_exportName kb_ModuleFile_exportName 2 (some .int) ∈ xx_tb := xx_in (List.mem_append_right _ (List.mem_of_getElem? (i := 544) (by rfl))) (by decide +kernel)
theorem kw_598 : Cond.methodLink "ModuleLoader" 254 ky_ModuleFile_exportName ∈ xx_tb := xx_in (List.mem_append_right _ (List.mem_of_getElem? (i := 598) (by decide +kernel))) (by decide +kernel)
theorem kw_542 : Cond.instanceMethod ky_ModuleFile_exportName ∈ xx_tb := xx_in (List.mem_append_right _ (List.mem_of_getElem? (i := 542) (by decide +kernel))) (by decide +kernel)
theorem kw_543 : Cond.selects "ModuleLoader$ModuleFile" ky_ModuleFile_exportName ky_ModuleFile_exportName ∈ xx_tb := xx_in (List.mem_append_right _ (List.mem_of_getElem? (i := 543) (by decide +kernel))) (by decide +kernel)
theorem zd_Loader_checkExports_0 : decode kb_Loader_checkExports 0 = .ok (.iconst 0, 1) := by decide +kernel
theorem zd_Loader_checkExports_1 : decode kb_Loader_checkExports 1 = .ok (.istore_n 1, 1) := by decide +kernel
theorem zd_Loader_checkExports_2 : decode kb_Loader_checkExports 2 = .ok (.iload_n 1, 1) := by decide +kernel
theorem zd_Loader_checkExports_3 : decode kb_Loader_checkExports 3 = .ok (.aload_n 0, 1) := by decide +kernel
theorem zd_Loader_checkExports_4 : decode kb_Loader_checkExports 4 = .ok (.getfield 37, 3) := by decide +kernel
theorem zd_Loader_checkExports_7 : decode kb_Loader_checkExports 7 = .ok (.getfield 253, 3) := by decide +kernel
theorem zd_Loader_checkExports_10 : decode kb_Loader_checkExports 10 = .ok (.if_icmp .ge (37), 3) := by decide +kernel
theorem zd_Loader_checkExports_13 : decode kb_Loader_checkExports 13 = .ok (.aload_n 0, 1) := by decide +kernel
theorem zd_Loader_checkExports_14 : decode kb_Loader_checkExports 14 = .ok (.getfield 44, 3) := by decide +kernel
theorem zd_Loader_checkExports_17 : decode kb_Loader_checkExports 17 = .ok (.aload_n 0, 1) := by decide +kernel
theorem zd_Loader_checkExports_18 : decode kb_Loader_checkExports 18 = .ok (.getfield 37, 3) := by decide +kernel
theorem zd_Loader_checkExports_21 : decode kb_Loader_checkExports 21 = .ok (.iload_n 1, 1) := by decide +kernel
theorem zd_Loader_checkExports_22 : decode kb_Loader_checkExports 22 = .ok (.invokevirtual 254, 3) := by decide +kernel
theorem zd_Loader_checkExports_25 : decode kb_Loader_checkExports 25 = .ok (.invokevirtual 91, 3) := by decide +kernel
theorem zd_Loader_checkExports_28 : decode kb_Loader_checkExports 28 = .ok (.ifnull (13), 3) := by decide +kernel
theorem zd_Loader_checkExports_31 : decode kb_Loader_checkExports 31 = .ok (.aload_n 0, 1) := by decide +kernel
theorem zd_Loader_checkExports_32 : decode kb_Loader_checkExports 32 = .ok (.getfield 58, 3) := by decide +kernel
theorem zd_Loader_checkExports_35 : decode kb_Loader_checkExports 35 = .ok (.iconst 5, 1) := by decide +kernel
theorem zd_Loader_checkExports_36 : decode kb_Loader_checkExports 36 = .ok (.iload_n 1, 1) := by decide +kernel
theorem zd_Loader_checkExports_37 : decode kb_Loader_checkExports 37 = .ok (.invokevirtual 167, 3) := by decide +kernel
theorem zd_Loader_checkExports_40 : decode kb_Loader_checkExports 40 = .ok (.return_, 1) := by decide +kernel
theorem zd_Loader_checkExports_41 : decode kb_Loader_checkExports 41 = .ok (.iinc 1 (1), 3) := by decide +kernel
theorem zd_Loader_checkExports_44 : decode kb_Loader_checkExports 44 = .ok (.goto (-42), 3) := by decide +kernel
theorem zd_Loader_checkExports_47 : decode kb_Loader_checkExports 47 = .ok (.aload_n 0, 1) := by decide +kernel
theorem zd_Loader_checkExports_48 : decode kb_Loader_checkExports 48 = .ok (.getfield 37, 3) := by decide +kernel
theorem zd_Loader_checkExports_51 : decode kb_Loader_checkExports 51 = .ok (.getfield 253, 3) := by decide +kernel
theorem zd_Loader_checkExports_54 : decode kb_Loader_checkExports 54 = .ok (.aload_n 0, 1) := by decide +kernel
theorem zd_Loader_checkExports_55 : decode kb_Loader_checkExports 55 = .ok (.getfield 44, 3) := by decide +kernel
theorem zd_Loader_checkExports_58 : decode kb_Loader_checkExports 58 = .ok (.invokevirtual 95, 3) := by decide +kernel
theorem zd_Loader_checkExports_61 : decode kb_Loader_checkExports 61 = .ok (.if_icmp .le (18), 3) := by decide +kernel
theorem zd_Loader_checkExports_64 : decode kb_Loader_checkExports 64 = .ok (.aload_n 0, 1) := by decide +kernel
theorem zd_Loader_checkExports_65 : decode kb_Loader_checkExports 65 = .ok (.getfield 58, 3) := by decide +kernel
theorem zd_Loader_checkExports_68 : decode kb_Loader_checkExports 68 = .ok (.iconst 5, 1) := by decide +kernel
theorem zd_Loader_checkExports_69 : decode kb_Loader_checkExports 69 = .ok (.aload_n 0, 1) := by decide +kernel
theorem zd_Loader_checkExports_70 : decode kb_Loader_checkExports 70 = .ok (.getfield 44, 3) := by decide +kernel
theorem zd_Loader_checkExports_73 : decode kb_Loader_checkExports 73 = .ok (.invokevirtual 95, 3) := by decide +kernel
theorem zd_Loader_checkExports_76 : decode kb_Loader_checkExports 76 = .ok (.invokevirtual 167, 3) := by decide +kernel
theorem zd_Loader_checkExports_79 : decode kb_Loader_checkExports 79 = .ok (.return_, 1) := by decide +kernel
def zf_Loader_checkExports_b79 (u : zz_S) : Option (zz_S) := some u
def zf_Loader_checkExports_b2 : Nat → zz_S → Int32 → Option (zz_S)
  | 0, _, _ => none
  | n + 1, u, x1 => if (u.1 7) ≤ x1 then (xx_b2 (zf_SymbolTable_unused u) fun v2 u1 => if (u.1 7) ≤ v2 then (zf_Loader_checkExports_b79 u1) else (xx_b2 (zf_SymbolTable_unused u1) fun v4 u3 => (zf_Report_blame u3 (5 : Int32) v4).bind fun u5 => zf_Loader_checkExports_b79 u5)) else (xx_b2 (zf_ModuleFile_exportName u x1) fun v7 u6 => xx_b2 (zf_SymbolTable_find u6 v7) fun v9 u8 => xx_on v9 (xx_nm (x1 + (1 : Int32)) fun v11 => (zf_Loader_checkExports_b2 n) u8 v11) (fun a10 => (zf_Report_blame u8 (5 : Int32) x1).bind fun u12 => some u12))
def zf_Loader_checkExports (u : zz_S) : Option (zz_S) := xx_nm (0 : Int32) fun v1 => zf_Loader_checkExports_b2 xx_fu u v1
set_option maxHeartbeats 4000000 in
set_option maxRecDepth 100000 in
theorem zw_Loader_checkExports_b79 {p : Program} {l : Launch} {e : Env} {s : State} {m : MethodId} {args : Array Value} {below : List Frame} {meth : Method} {c : Code} {A : Nat → Prop} {g : xx_G} {u9 : zz_S} (C : xx_C p s m args meth c kb_Loader_checkExports 2 kr_Loader none) (hA : ∀ q, s.heap.size ≤ q → A q) (hK : va_K g.1 xx_cls (zz_T g) s) : ∀ (u : zz_S) (H : Heap) (locs : List Loc) (ls : Array Slot), zf_Loader_checkExports_b79 u = some u9 → lv_has ls 2 [] → va_P g.1 xx_cls (zz_W g u) H → va_D A (zz_W g u) → va_S A s.heap H locs → W p l e (xx_rm 2 42) s m args below meth c H locs 0 0 (MQ below (xx_Q g.1 (zz_T g) (zz_W g) none u9 A) args s 0 0 A) (F0 m 79 ls []) := by
  have hx := C.1
  have hb := C.2.1
  have hown := C.2.2.2.1
  have hts := C.2.2.2.2.1
  intro u H locs ls hF hl hP hD hS
  unfold zf_Loader_checkExports_b79 at hF
  exact xx_vret C hF hK hP hD hS zd_Loader_checkExports_79
set_option maxHeartbeats 4000000 in
set_option maxRecDepth 100000 in
theorem zw_Loader_checkExports_b2 {p : Program} {l : Launch} {e : Env} {s : State} {m : MethodId} {args : Array Value} {below : List Frame} {meth : Method} {c : Code} {A : Nat → Prop} {g : xx_G} {u9 : zz_S} (C : xx_C p s m args meth c kb_Loader_checkExports 2 kr_Loader none) (hA : ∀ q, s.heap.size ≤ q → A q) (hK : va_K g.1 xx_cls (zz_T g) s) : ∀ (n : Nat), ∀ (u : zz_S) (x1 : Int32) (H : Heap) (locs : List Loc) (ls : Array Slot), zf_Loader_checkExports_b2 n u x1 = some u9 → lv_has ls 2 [(0, .ref (g.2.1 0)), (1, .int x1)] → va_P g.1 xx_cls (zz_W g u) H → va_D A (zz_W g u) → va_S A s.heap H locs → W p l e (xx_rm 2 42) s m args below meth c H locs 0 0 (MQ below (xx_Q g.1 (zz_T g) (zz_W g) none u9 A) args s 0 0 A) (F0 m 2 ls []) := by
  have hx := C.1
  have hb := C.2.1
  have hown := C.2.2.2.1
  have hts := C.2.2.2.2.1
  intro n
  induction n with
  | zero =>
    intro u x1 H locs ls hF
    rw [zf_Loader_checkExports_b2] at hF
    cases hF
  | succ n ih =>
    intro u x1 H locs ls hF hl hP hD hS
    rw [zf_Loader_checkExports_b2] at hF
    refine lv_iload_n hx hb zd_Loader_checkExports_2 rfl (lv_at hl 1 rfl) ?_
    refine lv_aload_n hx hb zd_Loader_checkExports_3 rfl (lv_at hl 0 rfl) ?_
    refine xx_get C ki_Loader hK hP 0 rfl rfl 3 (by decide) kw_190 rfl rfl zd_Loader_checkExports_4 ?_
    refine xx_get C ki_ModuleFile hK hP 8 rfl rfl 2 (by decide) kw_94 rfl rfl zd_Loader_checkExports_7 ?_
    refine lv_icmp_ge (tgt := 47) hx hb zd_Loader_checkExports_10 (by decide) (fun hc => ?_) (fun hc => ?_)
    · have hF := xx_ip hc hF
      refine lv_aload_n hx hb zd_Loader_checkExports_47 rfl (lv_at hl 0 rfl) ?_
      refine xx_get C ki_Loader hK hP 0 rfl rfl 3 (by decide) kw_190 rfl rfl zd_Loader_checkExports_48 ?_
      refine xx_get C ki_ModuleFile hK hP 8 rfl rfl 2 (by decide) kw_94 rfl rfl zd_Loader_checkExports_51 ?_
      refine lv_aload_n hx hb zd_Loader_checkExports_54 rfl (lv_at hl 0 rfl) ?_
      refine xx_get C ki_Loader hK hP 0 rfl rfl 4 (by decide) kw_191 rfl rfl zd_Loader_checkExports_55 ?_
      obtain ⟨v2, u1, eu1, hF⟩ := xx_b2_some hF
      refine xx_callV (n := 0) (As := []) (rest := [.int (u.1 7)]) C (zc_SymbolTable_unused l g u v2 u1 eu1) ⟨kw_455, kw_452, kw_453, kw_454, kw_6⟩ ⟨by decide +kernel, by decide +kernel, by decide +kernel⟩ rfl ⟨Nat.le_of_ble_eq_true rfl, Nat.le_of_ble_eq_true rfl⟩ 9 rfl rfl hl.1 rfl (Nat.le_of_ble_eq_true rfl) hA hK hP hD hS ⟨Nat.le_refl _, Nat.le_refl _⟩ rfl rfl rfl zd_Loader_checkExports_58 (fun H locs hP hD hS => ?_)
      refine lv_icmp_le (tgt := 79) hx hb zd_Loader_checkExports_61 (by decide) (fun hc => ?_) (fun hc => ?_)
      · have hF := xx_ip hc hF
        exact zw_Loader_checkExports_b79 C hA hK  u1 _ _ _ hF (lv_sub hl [] rfl) hP hD hS
      · have hF := xx_in' hc hF
        refine lv_aload_n hx hb zd_Loader_checkExports_64 rfl (lv_at hl 0 rfl) ?_
        refine xx_get C ki_Loader hK hP 0 rfl rfl 6 (by decide) kw_193 rfl rfl zd_Loader_checkExports_65 ?_
        refine lv_iconst (v := (5 : Int32)) hx hb zd_Loader_checkExports_68 (by decide) ?_
        refine lv_aload_n hx hb zd_Loader_checkExports_69 rfl (lv_at hl 0 rfl) ?_
        refine xx_get C ki_Loader hK hP 0 rfl rfl 4 (by decide) kw_191 rfl rfl zd_Loader_checkExports_70 ?_
        obtain ⟨v4, u3, eu3, hF⟩ := xx_b2_some hF
        refine xx_callV (n := 0) (As := []) (rest := [.int (5 : Int32), .ref (g.2.1 13)]) C (zc_SymbolTable_unused l g u1 v4 u3 eu3) ⟨kw_455, kw_452, kw_453, kw_454, kw_6⟩ ⟨by decide +kernel, by decide +kernel, by decide +kernel⟩ rfl ⟨Nat.le_of_ble_eq_true rfl, Nat.le_of_ble_eq_true rfl⟩ 9 rfl rfl hl.1 rfl (Nat.le_of_ble_eq_true rfl) hA hK hP hD hS ⟨Nat.le_refl _, Nat.le_refl _⟩ rfl rfl rfl zd_Loader_checkExports_73 (fun H locs hP hD hS => ?_)
        obtain ⟨u5, eu5, hF⟩ := xx_ob hF
        refine xx_callV (n := 2) (As := [.int (5 : Int32), .int v4]) (rest := []) C (zc_Report_blame l g u3 (5 : Int32) v4 u5 eu5) ⟨kw_572, kw_569, kw_570, kw_571, kw_8⟩ ⟨by decide +kernel, by decide +kernel, by decide +kernel⟩ rfl ⟨Nat.le_of_ble_eq_true rfl, Nat.le_of_ble_eq_true rfl⟩ 13 rfl rfl hl.1 rfl (Nat.le_of_ble_eq_true rfl) hA hK hP hD hS ⟨Nat.le_refl _, Nat.le_refl _⟩ rfl rfl rfl zd_Loader_checkExports_76 (fun H locs hP hD hS => ?_)
        exact zw_Loader_checkExports_b79 C hA hK  u5 _ _ _ hF (lv_sub hl [] rfl) hP hD hS
    · have hF := xx_in' hc hF
      refine lv_aload_n hx hb zd_Loader_checkExports_13 rfl (lv_at hl 0 rfl) ?_
      refine xx_get C ki_Loader hK hP 0 rfl rfl 4 (by decide) kw_191 rfl rfl zd_Loader_checkExports_14 ?_
      refine lv_aload_n hx hb zd_Loader_checkExports_17 rfl (lv_at hl 0 rfl) ?_
      refine xx_get C ki_Loader hK hP 0 rfl rfl 3 (by decide) kw_190 rfl rfl zd_Loader_checkExports_18 ?_
      refine lv_iload_n hx hb zd_Loader_checkExports_21 rfl (lv_at hl 1 rfl) ?_
      obtain ⟨v7, u6, eu6, hF⟩ := xx_b2_some hF
      refine xx_callV (n := 1) (As := [.int x1]) (rest := [.ref (g.2.1 9)]) C (zc_ModuleFile_exportName l g u x1 v7 u6 eu6) ⟨kw_544, kw_598, kw_542, kw_543, kw_5⟩ ⟨by decide +kernel, by decide +kernel, by decide +kernel⟩ rfl ⟨Nat.le_of_ble_eq_true rfl, Nat.le_of_ble_eq_true rfl⟩ 8 rfl rfl hl.1 rfl (Nat.le_of_ble_eq_true rfl) hA hK hP hD hS ⟨Nat.le_refl _, Nat.le_refl _⟩ rfl rfl rfl zd_Loader_checkExports_22 (fun H locs hP hD hS => ?_)
      obtain ⟨v9, u8, eu8, hF⟩ := xx_b2_some hF
      refine xx_callV (n := 1) (As := [.int v7]) (rest := []) C (zc_SymbolTable_find l g u6 v7 v9 u8 eu8) ⟨kw_271, kw_268, kw_269, kw_270, kw_6⟩ ⟨by decide +kernel, by decide +kernel, by decide +kernel⟩ rfl ⟨Nat.le_of_ble_eq_true rfl, Nat.le_of_ble_eq_true rfl⟩ 9 rfl rfl hl.1 rfl (Nat.le_of_ble_eq_true rfl) hA hK hP hD hS ⟨Nat.le_refl _, Nat.le_refl _⟩ rfl rfl rfl zd_Loader_checkExports_25 (fun H locs hP hD hS => ?_)
      refine xx_ifnull (tgt := 41) C zd_Loader_checkExports_28 (by decide) (fun en => ?_) (fun a10 ea10 => ?_)
      · have hF := xx_on_n en hF
        obtain ⟨v11, ev11, hF⟩ := xx_nm_some hF
        refine lv_iinc (k := 1) (v := v11) hx hb zd_Loader_checkExports_41 hl rfl (by rw [ev11, xx_lit1]) (by decide) rfl (fun ls hl => ?_)
        refine lv_goto (tgt := 2) hx hb zd_Loader_checkExports_44 (by decide) ?_
        exact ih u8 v11 _ _ _ hF (lv_sub hl [1, 0] rfl) hP hD hS
      · have hF := xx_on_s ea10 hF
        refine lv_aload_n hx hb zd_Loader_checkExports_31 rfl (lv_at hl 0 rfl) ?_
        refine xx_get C ki_Loader hK hP 0 rfl rfl 6 (by decide) kw_193 rfl rfl zd_Loader_checkExports_32 ?_
        refine lv_iconst (v := (5 : Int32)) hx hb zd_Loader_checkExports_35 (by decide) ?_
        refine lv_iload_n hx hb zd_Loader_checkExports_36 rfl (lv_at hl 1 rfl) ?_
        obtain ⟨u12, eu12, hF⟩ := xx_ob hF
        refine xx_callV (n := 2) (As := [.int (5 : Int32), .int x1]) (rest := []) C (zc_Report_blame l g u8 (5 : Int32) x1 u12 eu12) ⟨kw_572, kw_569, kw_570, kw_571, kw_8⟩ ⟨by decide +kernel, by decide +kernel, by decide +kernel⟩ rfl ⟨Nat.le_of_ble_eq_true rfl, Nat.le_of_ble_eq_true rfl⟩ 13 rfl rfl hl.1 rfl (Nat.le_of_ble_eq_true rfl) hA hK hP hD hS ⟨Nat.le_refl _, Nat.le_refl _⟩ rfl rfl rfl zd_Loader_checkExports_37 (fun H locs hP hD hS => ?_)
        exact xx_vret C hF hK hP hD hS zd_Loader_checkExports_40
set_option maxHeartbeats 4000000 in
set_option maxRecDepth 100000 in
theorem zc_Loader_checkExports (l : Launch) (g : xx_G) (u : zz_S) (u9 : zz_S) (hF : zf_Loader_checkExports u = some u9) : xx_M l g.1 (zz_T g) (zz_W g) ky_Loader_checkExports kb_Loader_checkExports 2 none (xx_rm 2 42) [.ref (g.2.1 0)] u none u9 := by
  refine xx_body (by decide) (Nat.le_of_ble_eq_true rfl) ?_
  intro p e s m args below meth c A ls C hin hK hl hA hP hD hS
  have hx := C.1
  have hb := C.2.1
  have hown := C.2.2.2.1
  have hts := C.2.2.2.2.1
  have hl : lv_has ls 2 [(0, .ref (g.2.1 0))] := hl
  unfold zf_Loader_checkExports at hF
  refine lv_iconst (v := (0 : Int32)) hx hb zd_Loader_checkExports_0 (by decide) ?_
  obtain ⟨v1, ev1, hF⟩ := xx_nm_some hF
  refine xx_topi ev1 ?_
  refine lv_istore_n hx hb zd_Loader_checkExports_1 rfl hl (by decide) rfl (fun ls hl => ?_)
  exact zw_Loader_checkExports_b2 C hA hK xx_fu u v1 _ _ _ hF (lv_sub hl [1, 0] rfl) hP hD hS
set_option maxRecDepth 100000 in
theorem kw_623 : Cond.code ky_ModuleFile_placeAddend kb_ModuleFile_placeAddend 2 (some .int) ∈ xx_tb := xx_in (List.mem_append_right _ (List.mem_of_getElem? (i := 623) (by rfl))) (by decide +kernel)
theorem kw_620 : Cond.methodLink "ModuleLoader" 279 ky_ModuleFile_placeAddend ∈ xx_tb := xx_in (List.mem_append_right _ (List.mem_of_getElem? (i := 620) (by decide +kernel))) (by decide +kernel)
theorem kw_621 : Cond.instanceMethod ky_ModuleFile_placeAddend ∈ xx_tb := xx_in (List.mem_append_right _ (List.mem_of_getElem? (i := 621) (by decide +kernel))) (by decide +kernel)
theorem kw_622 : Cond.selects "ModuleLoader$ModuleFile" ky_ModuleFile_placeAddend ky_ModuleFile_placeAddend ∈ xx_tb := xx_in (List.mem_append_right _ (List.mem_of_getElem? (i := 622) (by decide +kernel))) (by decide +kernel)
set_option maxRecDepth 100000 in
theorem kw_560 : Cond.code ky_ModuleFile_placeSource kb_ModuleFile_placeSource 2 (some .int) ∈ xx_tb := xx_in (List.mem_append_right _ (List.mem_of_getElem? (i := 560) (by rfl))) (by decide +kernel)
theorem kw_619 : Cond.methodLink "ModuleLoader" 276 ky_ModuleFile_placeSource ∈ xx_tb := xx_in (List.mem_append_right _ (List.mem_of_getElem? (i := 619) (by decide +kernel))) (by decide +kernel)
theorem kw_558 : Cond.instanceMethod ky_ModuleFile_placeSource ∈ xx_tb := xx_in (List.mem_append_right _ (List.mem_of_getElem? (i := 558) (by decide +kernel))) (by decide +kernel)
theorem kw_559 : Cond.selects "ModuleLoader$ModuleFile" ky_ModuleFile_placeSource ky_ModuleFile_placeSource ∈ xx_tb := xx_in (List.mem_append_right _ (List.mem_of_getElem? (i := 559) (by decide +kernel))) (by decide +kernel)
theorem zd_Loader_valueOf_0 : decode kb_Loader_valueOf 0 = .ok (.aload_n 0, 1) := by decide +kernel
theorem zd_Loader_valueOf_1 : decode kb_Loader_valueOf 1 = .ok (.getfield 37, 3) := by decide +kernel
theorem zd_Loader_valueOf_4 : decode kb_Loader_valueOf 4 = .ok (.iload_n 1, 1) := by decide +kernel
theorem zd_Loader_valueOf_5 : decode kb_Loader_valueOf 5 = .ok (.invokevirtual 276, 3) := by decide +kernel
theorem zd_Loader_valueOf_8 : decode kb_Loader_valueOf 8 = .ok (.istore_n 3, 1) := by decide +kernel
theorem zd_Loader_valueOf_9 : decode kb_Loader_valueOf 9 = .ok (.iload_n 3, 1) := by decide +kernel
theorem zd_Loader_valueOf_10 : decode kb_Loader_valueOf 10 = .ok (.iconst (-1), 1) := by decide +kernel
theorem zd_Loader_valueOf_11 : decode kb_Loader_valueOf 11 = .ok (.if_icmp .ne (14), 3) := by decide +kernel
theorem zd_Loader_valueOf_14 : decode kb_Loader_valueOf 14 = .ok (.iload_n 2, 1) := by decide +kernel
theorem zd_Loader_valueOf_15 : decode kb_Loader_valueOf 15 = .ok (.aload_n 0, 1) := by decide +kernel
theorem zd_Loader_valueOf_16 : decode kb_Loader_valueOf 16 = .ok (.getfield 37, 3) := by decide +kernel
theorem zd_Loader_valueOf_19 : decode kb_Loader_valueOf 19 = .ok (.iload_n 1, 1) := by decide +kernel
theorem zd_Loader_valueOf_20 : decode kb_Loader_valueOf 20 = .ok (.invokevirtual 279, 3) := by decide +kernel
theorem zd_Loader_valueOf_23 : decode kb_Loader_valueOf 23 = .ok (.iadd, 1) := by decide +kernel
theorem zd_Loader_valueOf_24 : decode kb_Loader_valueOf 24 = .ok (.ireturn, 1) := by decide +kernel
theorem zd_Loader_valueOf_25 : decode kb_Loader_valueOf 25 = .ok (.aload_n 0, 1) := by decide +kernel
theorem zd_Loader_valueOf_26 : decode kb_Loader_valueOf 26 = .ok (.getfield 44, 3) := by decide +kernel
theorem zd_Loader_valueOf_29 : decode kb_Loader_valueOf 29 = .ok (.aload_n 0, 1) := by decide +kernel
theorem zd_Loader_valueOf_30 : decode kb_Loader_valueOf 30 = .ok (.getfield 37, 3) := by decide +kernel
theorem zd_Loader_valueOf_33 : decode kb_Loader_valueOf 33 = .ok (.iload_n 3, 1) := by decide +kernel
theorem zd_Loader_valueOf_34 : decode kb_Loader_valueOf 34 = .ok (.invokevirtual 247, 3) := by decide +kernel
theorem zd_Loader_valueOf_37 : decode kb_Loader_valueOf 37 = .ok (.invokevirtual 91, 3) := by decide +kernel
theorem zd_Loader_valueOf_40 : decode kb_Loader_valueOf 40 = .ok (.astore 4, 2) := by decide +kernel
theorem zd_Loader_valueOf_42 : decode kb_Loader_valueOf 42 = .ok (.aload 4, 2) := by decide +kernel
theorem zd_Loader_valueOf_44 : decode kb_Loader_valueOf 44 = .ok (.ifnonnull (7), 3) := by decide +kernel
theorem zd_Loader_valueOf_47 : decode kb_Loader_valueOf 47 = .ok (.iconst 0, 1) := by decide +kernel
theorem zd_Loader_valueOf_48 : decode kb_Loader_valueOf 48 = .ok (.goto (8), 3) := by decide +kernel
theorem zd_Loader_valueOf_51 : decode kb_Loader_valueOf 51 = .ok (.aload 4, 2) := by decide +kernel
theorem zd_Loader_valueOf_53 : decode kb_Loader_valueOf 53 = .ok (.getfield 176, 3) := by decide +kernel
theorem zd_Loader_valueOf_56 : decode kb_Loader_valueOf 56 = .ok (.aload_n 0, 1) := by decide +kernel
theorem zd_Loader_valueOf_57 : decode kb_Loader_valueOf 57 = .ok (.getfield 37, 3) := by decide +kernel
theorem zd_Loader_valueOf_60 : decode kb_Loader_valueOf 60 = .ok (.iload_n 1, 1) := by decide +kernel
theorem zd_Loader_valueOf_61 : decode kb_Loader_valueOf 61 = .ok (.invokevirtual 279, 3) := by decide +kernel
theorem zd_Loader_valueOf_64 : decode kb_Loader_valueOf 64 = .ok (.iadd, 1) := by decide +kernel
theorem zd_Loader_valueOf_65 : decode kb_Loader_valueOf 65 = .ok (.ireturn, 1) := by decide +kernel
def zf_Loader_valueOf_b56 (u : zz_S) (x1 : Int32) (y0 : Int32) : Option (Int32 × zz_S) := xx_b2 (zf_ModuleFile_placeAddend u x1) fun v2 u1 => some ((y0 + v2), u1)
def zf_Loader_valueOf (u : zz_S) (x1 : Int32) (x2 : Int32) : Option (Int32 × zz_S) := xx_b2 (zf_ModuleFile_placeSource u x1) fun v2 u1 => if v2 = (-1 : Int32) then (xx_b2 (zf_ModuleFile_placeAddend u1 x1) fun v10 u9 => some ((x2 + v10), u9)) else (xx_b2 (zf_ModuleFile_importName u1 v2) fun v4 u3 => xx_b2 (zf_SymbolTable_find u3 v4) fun v6 u5 => xx_on v6 (zf_Loader_valueOf_b56 u5 x1 (0 : Int32)) (fun a7 => (zz_pi u5 a7 7 2).bind fun v8 => zf_Loader_valueOf_b56 u5 x1 v8))
set_option maxHeartbeats 4000000 in
set_option maxRecDepth 100000 in
theorem zw_Loader_valueOf_b56 {p : Program} {l : Launch} {e : Env} {s : State} {m : MethodId} {args : Array Value} {below : List Frame} {meth : Method} {c : Code} {A : Nat → Prop} {g : xx_G} {r : Int32} {u9 : zz_S} (C : xx_C p s m args meth c kb_Loader_valueOf 5 kr_Loader (some .int)) (hA : ∀ q, s.heap.size ≤ q → A q) (hK : va_K g.1 xx_cls (zz_T g) s) : ∀ (u : zz_S) (x1 : Int32) (y0 : Int32) (H : Heap) (locs : List Loc) (ls : Array Slot), zf_Loader_valueOf_b56 u x1 y0 = some (r, u9) → lv_has ls 5 [(0, .ref (g.2.1 0)), (1, .int x1)] → va_P g.1 xx_cls (zz_W g u) H → va_D A (zz_W g u) → va_S A s.heap H locs → W p l e (xx_rm 2 42) s m args below meth c H locs 0 0 (MQ below (xx_Q g.1 (zz_T g) (zz_W g) (some (.int r)) u9 A) args s 0 0 A) (F0 m 56 ls [.int y0]) := by
  have hx := C.1
  have hb := C.2.1
  have hown := C.2.2.2.1
  have hts := C.2.2.2.2.1
  intro u x1 y0 H locs ls hF hl hP hD hS
  unfold zf_Loader_valueOf_b56 at hF
  refine lv_aload_n hx hb zd_Loader_valueOf_56 rfl (lv_at hl 0 rfl) ?_
  refine xx_get C ki_Loader hK hP 0 rfl rfl 3 (by decide) kw_190 rfl rfl zd_Loader_valueOf_57 ?_
  refine lv_iload_n hx hb zd_Loader_valueOf_60 rfl (lv_at hl 1 rfl) ?_
  obtain ⟨v2, u1, eu1, hF⟩ := xx_b2_some hF
  refine xx_callV (n := 1) (As := [.int x1]) (rest := [.int y0]) C (zc_ModuleFile_placeAddend l g u x1 v2 u1 eu1) ⟨kw_623, kw_620, kw_621, kw_622, kw_5⟩ ⟨by decide +kernel, by decide +kernel, by decide +kernel⟩ rfl ⟨Nat.le_of_ble_eq_true rfl, Nat.le_of_ble_eq_true rfl⟩ 8 rfl rfl hl.1 rfl (Nat.le_of_ble_eq_true rfl) hA hK hP hD hS ⟨Nat.le_refl _, Nat.le_refl _⟩ rfl rfl rfl zd_Loader_valueOf_61 (fun H locs hP hD hS => ?_)
  refine lv_iadd hx hb zd_Loader_valueOf_64 ?_
  exact xx_iret C hF hK hP hD hS zd_Loader_valueOf_65
set_option maxHeartbeats 4000000 in
set_option maxRecDepth 100000 in
theorem zc_Loader_valueOf (l : Launch) (g : xx_G) (u : zz_S) (x1 : Int32) (x2 : Int32) (r : Int32) (u9 : zz_S) (hF : zf_Loader_valueOf u x1 x2 = some (r, u9)) : xx_M l g.1 (zz_T g) (zz_W g) ky_Loader_valueOf kb_Loader_valueOf 5 (some .int) (xx_rm 2 42) [.ref (g.2.1 0), .int x1, .int x2] u (some (.int r)) u9 := by
  refine xx_body (by decide) (Nat.le_of_ble_eq_true rfl) ?_
  intro p e s m args below meth c A ls C hin hK hl hA hP hD hS
  have hx := C.1
  have hb := C.2.1
  have hown := C.2.2.2.1
  have hts := C.2.2.2.2.1
  have hl : lv_has ls 5 [(0, .ref (g.2.1 0)), (1, .int x1), (2, .int x2)] := hl
  unfold zf_Loader_valueOf at hF
  refine lv_aload_n hx hb zd_Loader_valueOf_0 rfl (lv_at hl 0 rfl) ?_
  refine xx_get C ki_Loader hK hP 0 rfl rfl 3 (by decide) kw_190 rfl rfl zd_Loader_valueOf_1 ?_
  refine lv_iload_n hx hb zd_Loader_valueOf_4 rfl (lv_at hl 1 rfl) ?_
  obtain ⟨v2, u1, eu1, hF⟩ := xx_b2_some hF
  refine xx_callV (n := 1) (As := [.int x1]) (rest := []) C (zc_ModuleFile_placeSource l g u x1 v2 u1 eu1) ⟨kw_560, kw_619, kw_558, kw_559, kw_5⟩ ⟨by decide +kernel, by decide +kernel, by decide +kernel⟩ rfl ⟨Nat.le_of_ble_eq_true rfl, Nat.le_of_ble_eq_true rfl⟩ 8 rfl rfl hl.1 rfl (Nat.le_of_ble_eq_true rfl) hA hK hP hD hS ⟨Nat.le_refl _, Nat.le_refl _⟩ rfl rfl rfl zd_Loader_valueOf_5 (fun H locs hP hD hS => ?_)
  refine lv_istore_n hx hb zd_Loader_valueOf_8 rfl hl (by decide) rfl (fun ls hl => ?_)
  refine lv_iload_n hx hb zd_Loader_valueOf_9 rfl (lv_at hl 0 rfl) ?_
  refine lv_iconst (v := (-1 : Int32)) hx hb zd_Loader_valueOf_10 (by decide) ?_
  refine lv_icmp_ne (tgt := 25) hx hb zd_Loader_valueOf_11 (by decide) (fun hc => ?_) (fun hc => ?_)
  · have hF := xx_in' hc hF
    refine lv_aload_n hx hb zd_Loader_valueOf_25 rfl (lv_at hl 1 rfl) ?_
    refine xx_get C ki_Loader hK hP 0 rfl rfl 4 (by decide) kw_191 rfl rfl zd_Loader_valueOf_26 ?_
    refine lv_aload_n hx hb zd_Loader_valueOf_29 rfl (lv_at hl 1 rfl) ?_
    refine xx_get C ki_Loader hK hP 0 rfl rfl 3 (by decide) kw_190 rfl rfl zd_Loader_valueOf_30 ?_
    refine lv_iload_n hx hb zd_Loader_valueOf_33 rfl (lv_at hl 0 rfl) ?_
    obtain ⟨v4, u3, eu3, hF⟩ := xx_b2_some hF
    refine xx_callV (n := 1) (As := [.int v2]) (rest := [.ref (g.2.1 9)]) C (zc_ModuleFile_importName l g u1 v2 v4 u3 eu3) ⟨kw_535, kw_585, kw_533, kw_534, kw_5⟩ ⟨by decide +kernel, by decide +kernel, by decide +kernel⟩ rfl ⟨Nat.le_of_ble_eq_true rfl, Nat.le_of_ble_eq_true rfl⟩ 8 rfl rfl hl.1 rfl (Nat.le_of_ble_eq_true rfl) hA hK hP hD hS ⟨Nat.le_refl _, Nat.le_refl _⟩ rfl rfl rfl zd_Loader_valueOf_34 (fun H locs hP hD hS => ?_)
    obtain ⟨v6, u5, eu5, hF⟩ := xx_b2_some hF
    refine xx_callV (n := 1) (As := [.int v4]) (rest := []) C (zc_SymbolTable_find l g u3 v4 v6 u5 eu5) ⟨kw_271, kw_268, kw_269, kw_270, kw_6⟩ ⟨by decide +kernel, by decide +kernel, by decide +kernel⟩ rfl ⟨Nat.le_of_ble_eq_true rfl, Nat.le_of_ble_eq_true rfl⟩ 9 rfl rfl hl.1 rfl (Nat.le_of_ble_eq_true rfl) hA hK hP hD hS ⟨Nat.le_refl _, Nat.le_refl _⟩ rfl rfl rfl zd_Loader_valueOf_37 (fun H locs hP hD hS => ?_)
    refine xx_astW C zd_Loader_valueOf_40 hl (by decide) rfl (fun ls hl => ?_)
    refine xx_aldW C zd_Loader_valueOf_42 (lv_at hl 0 rfl) ?_
    refine xx_ifnonnull (tgt := 51) C zd_Loader_valueOf_44 (by decide) (fun en => ?_) (fun a7 ea7 => ?_)
    · have hF := xx_on_n en hF
      refine lv_iconst (v := (0 : Int32)) hx hb zd_Loader_valueOf_47 (by decide) ?_
      refine lv_goto (tgt := 56) hx hb zd_Loader_valueOf_48 (by decide) ?_
      exact zw_Loader_valueOf_b56 C hA hK  u5 x1 (0 : Int32) _ _ _ hF (lv_sub hl [2, 3] rfl) hP hD hS
    · have hF := xx_on_s ea7 hF
      refine xx_aldW C zd_Loader_valueOf_51 (lv_at hl 0 rfl) ?_
      rw [ea7]
      obtain ⟨v8, ev8, hF⟩ := xx_ob hF
      refine zz_get (a := a7) (u := u5) (ci := 7) C ki_Symbol hK hP rfl 2 (by decide) kw_467 rfl (zz_pi_some ev8) zd_Loader_valueOf_53 ?_
      exact zw_Loader_valueOf_b56 C hA hK  u5 x1 v8 _ _ _ hF (lv_sub hl [2, 3] rfl) hP hD hS
  · have hF := xx_ip hc hF
    refine lv_iload_n hx hb zd_Loader_valueOf_14 rfl (lv_at hl 3 rfl) ?_
    refine lv_aload_n hx hb zd_Loader_valueOf_15 rfl (lv_at hl 1 rfl) ?_
    refine xx_get C ki_Loader hK hP 0 rfl rfl 3 (by decide) kw_190 rfl rfl zd_Loader_valueOf_16 ?_
    refine lv_iload_n hx hb zd_Loader_valueOf_19 rfl (lv_at hl 2 rfl) ?_
    obtain ⟨v10, u9, eu9, hF⟩ := xx_b2_some hF
    refine xx_callV (n := 1) (As := [.int x1]) (rest := [.int x2]) C (zc_ModuleFile_placeAddend l g u1 x1 v10 u9 eu9) ⟨kw_623, kw_620, kw_621, kw_622, kw_5⟩ ⟨by decide +kernel, by decide +kernel, by decide +kernel⟩ rfl ⟨Nat.le_of_ble_eq_true rfl, Nat.le_of_ble_eq_true rfl⟩ 8 rfl rfl hl.1 rfl (Nat.le_of_ble_eq_true rfl) hA hK hP hD hS ⟨Nat.le_refl _, Nat.le_refl _⟩ rfl rfl rfl zd_Loader_valueOf_20 (fun H locs hP hD hS => ?_)
    refine lv_iadd hx hb zd_Loader_valueOf_23 ?_
    exact xx_iret C hF hK hP hD hS zd_Loader_valueOf_24
theorem kw_687 : Cond.fieldLink "ModuleLoader" 294 "ModuleLoader$LoadedModule" "guarded" "I" ∈ xx_tb := xx_in (List.mem_append_right _ (List.mem_of_getElem? (i := 687) (by decide +kernel))) (by decide +kernel)
set_option maxRecDepth 100000 in
theorem kw_841 : Cond.code ky_SymbolTable_removeOf kb_SymbolTable_removeOf 4 none ∈ xx_tb := xx_in (List.mem_append_right _ (List.mem_of_getElem? (i := 841) (by rfl))) (by decide +kernel)
theorem kw_838 : Cond.methodLink "ModuleLoader" 316 ky_SymbolTable_removeOf ∈ xx_tb := xx_in (List.mem_append_right _ (List.mem_of_getElem? (i := 838) (by decide +kernel))) (by decide +kernel)
theorem kw_839 : Cond.instanceMethod ky_SymbolTable_removeOf ∈ xx_tb := xx_in (List.mem_append_right _ (List.mem_of_getElem? (i := 839) (by decide +kernel))) (by decide +kernel)
theorem kw_840 : Cond.selects "ModuleLoader$SymbolTable" ky_SymbolTable_removeOf ky_SymbolTable_removeOf ∈ xx_tb := xx_in (List.mem_append_right _ (List.mem_of_getElem? (i := 840) (by decide +kernel))) (by decide +kernel)
set_option maxRecDepth 100000 in
theorem kw_845 : Cond.code ky_ModuleTable_remove kb_ModuleTable_remove 4 none ∈ xx_tb := xx_in (List.mem_append_right _ (List.mem_of_getElem? (i := 845) (by rfl))) (by decide +kernel)
theorem kw_842 : Cond.methodLink "ModuleLoader" 319 ky_ModuleTable_remove ∈ xx_tb := xx_in (List.mem_append_right _ (List.mem_of_getElem? (i := 842) (by decide +kernel))) (by decide +kernel)
theorem kw_843 : Cond.instanceMethod ky_ModuleTable_remove ∈ xx_tb := xx_in (List.mem_append_right _ (List.mem_of_getElem? (i := 843) (by decide +kernel))) (by decide +kernel)
theorem kw_844 : Cond.selects "ModuleLoader$ModuleTable" ky_ModuleTable_remove ky_ModuleTable_remove ∈ xx_tb := xx_in (List.mem_append_right _ (List.mem_of_getElem? (i := 844) (by decide +kernel))) (by decide +kernel)
theorem zd_Loader_takeOut_0 : decode kb_Loader_takeOut 0 = .ok (.aload_n 0, 1) := by decide +kernel
theorem zd_Loader_takeOut_1 : decode kb_Loader_takeOut 1 = .ok (.getfield 10, 3) := by decide +kernel
theorem zd_Loader_takeOut_4 : decode kb_Loader_takeOut 4 = .ok (.aload_n 1, 1) := by decide +kernel
theorem zd_Loader_takeOut_5 : decode kb_Loader_takeOut 5 = .ok (.getfield 129, 3) := by decide +kernel
theorem zd_Loader_takeOut_8 : decode kb_Loader_takeOut 8 = .ok (.aload_n 1, 1) := by decide +kernel
theorem zd_Loader_takeOut_9 : decode kb_Loader_takeOut 9 = .ok (.getfield 294, 3) := by decide +kernel
theorem zd_Loader_takeOut_12 : decode kb_Loader_takeOut 12 = .ok (.iconst 0, 1) := by decide +kernel
theorem zd_Loader_takeOut_13 : decode kb_Loader_takeOut 13 = .ok (.invokevirtual 80, 3) := by decide +kernel
theorem zd_Loader_takeOut_16 : decode kb_Loader_takeOut 16 = .ok (.aload_n 0, 1) := by decide +kernel
theorem zd_Loader_takeOut_17 : decode kb_Loader_takeOut 17 = .ok (.getfield 44, 3) := by decide +kernel
theorem zd_Loader_takeOut_20 : decode kb_Loader_takeOut 20 = .ok (.aload_n 1, 1) := by decide +kernel
theorem zd_Loader_takeOut_21 : decode kb_Loader_takeOut 21 = .ok (.invokevirtual 316, 3) := by decide +kernel
theorem zd_Loader_takeOut_24 : decode kb_Loader_takeOut 24 = .ok (.aload_n 0, 1) := by decide +kernel
theorem zd_Loader_takeOut_25 : decode kb_Loader_takeOut 25 = .ok (.getfield 51, 3) := by decide +kernel
theorem zd_Loader_takeOut_28 : decode kb_Loader_takeOut 28 = .ok (.aload_n 1, 1) := by decide +kernel
theorem zd_Loader_takeOut_29 : decode kb_Loader_takeOut 29 = .ok (.invokevirtual 319, 3) := by decide +kernel
theorem zd_Loader_takeOut_32 : decode kb_Loader_takeOut 32 = .ok (.return_, 1) := by decide +kernel
def zf_Loader_takeOut (u : zz_S) (x1 : Option Nat) : Option (zz_S) := xx_nn x1 fun a1 => (zz_pi u a1 9 1).bind fun v2 => xx_nn x1 fun a3 => (zz_pi u a3 9 5).bind fun v4 => (zf_Memory_guard u v2 v4 (0 : Int32)).bind fun u5 => (zf_SymbolTable_removeOf u5 x1).bind fun u6 => (zf_ModuleTable_remove u6 x1).bind fun u7 => some u7
set_option maxHeartbeats 4000000 in
set_option maxRecDepth 100000 in
theorem zc_Loader_takeOut (l : Launch) (g : xx_G) (u : zz_S) (x1 : Option Nat) (u9 : zz_S) (hF : zf_Loader_takeOut u x1 = some u9) : xx_M l g.1 (zz_T g) (zz_W g) ky_Loader_takeOut kb_Loader_takeOut 2 none (xx_rm 2 45) [.ref (g.2.1 0), (va_rf x1)] u none u9 := by
  refine xx_body (by decide) (by simp [lg_sl, xx_rfc, xx_ic, xx_rc]) ?_
  intro p e s m args below meth c A ls C hin hK hl hA hP hD hS
  have hx := C.1
  have hb := C.2.1
  have hown := C.2.2.2.1
  have hts := C.2.2.2.2.1
  have hl : lv_has ls 2 [(0, .ref (g.2.1 0)), (1, (va_rf x1))] := by simpa [lv_args, xx_rfc, xx_ic, xx_rc] using hl
  unfold zf_Loader_takeOut at hF
  refine lv_aload_n hx hb zd_Loader_takeOut_0 rfl (lv_at hl 0 rfl) ?_
  refine xx_get C ki_Loader hK hP 0 rfl rfl 0 (by decide) kw_187 rfl rfl zd_Loader_takeOut_1 ?_
  refine xx_ald C zd_Loader_takeOut_4 rfl (lv_at hl 1 rfl) ?_
  obtain ⟨a1, ea1, hF⟩ := xx_nn_some hF
  rw [ea1]
  obtain ⟨v2, ev2, hF⟩ := xx_ob hF
  refine zz_get (a := a1) (u := u) (ci := 9) C ki_LoadedModule hK hP rfl 1 (by decide) kw_678 rfl (zz_pi_some ev2) zd_Loader_takeOut_5 ?_
  refine xx_ald C zd_Loader_takeOut_8 rfl (lv_at hl 1 rfl) ?_
  obtain ⟨a3, ea3, hF⟩ := xx_nn_some hF
  rw [ea3]
  obtain ⟨v4, ev4, hF⟩ := xx_ob hF
  refine zz_get (a := a3) (u := u) (ci := 9) C ki_LoadedModule hK hP rfl 5 (by decide) kw_687 rfl (zz_pi_some ev4) zd_Loader_takeOut_9 ?_
  refine lv_iconst (v := (0 : Int32)) hx hb zd_Loader_takeOut_12 (by decide) ?_
  obtain ⟨u5, eu5, hF⟩ := xx_ob hF
  refine xx_callV (n := 3) (As := [.int v2, .int v4, .int (0 : Int32)]) (rest := []) C (zc_Memory_guard l g u v2 v4 (0 : Int32) u5 eu5) ⟨kw_219, kw_216, kw_217, kw_218, kw_2⟩ ⟨by decide +kernel, by decide +kernel, by decide +kernel⟩ rfl ⟨Nat.le_of_ble_eq_true rfl, Nat.le_of_ble_eq_true rfl⟩ 1 rfl rfl hl.1 rfl (Nat.le_of_ble_eq_true rfl) hA hK hP hD hS ⟨Nat.le_refl _, Nat.le_refl _⟩ rfl rfl rfl zd_Loader_takeOut_13 (fun H locs hP hD hS => ?_)
  refine lv_aload_n hx hb zd_Loader_takeOut_16 rfl (lv_at hl 0 rfl) ?_
  refine xx_get C ki_Loader hK hP 0 rfl rfl 4 (by decide) kw_191 rfl rfl zd_Loader_takeOut_17 ?_
  refine xx_ald C zd_Loader_takeOut_20 rfl (lv_at hl 1 rfl) ?_
  obtain ⟨u6, eu6, hF⟩ := xx_ob hF
  refine xx_callV (n := 1) (As := [(va_rf x1)]) (rest := []) C (zc_SymbolTable_removeOf l g u5 x1 u6 eu6) ⟨kw_841, kw_838, kw_839, kw_840, kw_6⟩ ⟨by decide +kernel, by decide +kernel, by decide +kernel⟩ rfl ⟨Nat.le_of_ble_eq_true rfl, Nat.le_of_ble_eq_true rfl⟩ 9 rfl rfl hl.1 rfl (Nat.le_of_ble_eq_true rfl) hA hK hP hD hS ⟨Nat.le_refl _, Nat.le_refl _⟩ rfl rfl rfl zd_Loader_takeOut_21 (fun H locs hP hD hS => ?_)
  refine lv_aload_n hx hb zd_Loader_takeOut_24 rfl (lv_at hl 0 rfl) ?_
  refine xx_get C ki_Loader hK hP 0 rfl rfl 5 (by decide) kw_192 rfl rfl zd_Loader_takeOut_25 ?_
  refine xx_ald C zd_Loader_takeOut_28 rfl (lv_at hl 1 rfl) ?_
  obtain ⟨u7, eu7, hF⟩ := xx_ob hF
  refine xx_callV (n := 1) (As := [(va_rf x1)]) (rest := []) C (zc_ModuleTable_remove l g u6 x1 u7 eu7) ⟨kw_845, kw_842, kw_843, kw_844, kw_7⟩ ⟨by decide +kernel, by decide +kernel, by decide +kernel⟩ rfl ⟨Nat.le_of_ble_eq_true rfl, Nat.le_of_ble_eq_true rfl⟩ 11 rfl rfl hl.1 rfl (Nat.le_of_ble_eq_true rfl) hA hK hP hD hS ⟨Nat.le_refl _, Nat.le_refl _⟩ rfl rfl rfl zd_Loader_takeOut_29 (fun H locs hP hD hS => ?_)
  exact xx_vret C hF hK hP hD hS zd_Loader_takeOut_32
set_option maxRecDepth 100000 in
theorem kw_787 : Cond.code ky_Machine_branchDistance kb_Machine_branchDistance 1 (some .int) ∈ xx_tb := xx_in (List.mem_append_right _ (List.mem_of_getElem? (i := 787) (by rfl))) (by decide +kernel)
theorem kw_785 : Cond.methodLink "ModuleLoader$Machine" 86 ky_Machine_branchDistance ∈ xx_tb := xx_in (List.mem_append_right _ (List.mem_of_getElem? (i := 785) (by decide +kernel))) (by decide +kernel)
theorem kw_786 : Cond.static ky_Machine_branchDistance ∈ xx_tb := xx_in (List.mem_append_right _ (List.mem_of_getElem? (i := 786) (by decide +kernel))) (by decide +kernel)
set_option maxRecDepth 100000 in
theorem kw_777 : Cond.code ky_Machine_secondOf kb_Machine_secondOf 2 (some .int) ∈ xx_tb := xx_in (List.mem_append_right _ (List.mem_of_getElem? (i := 777) (by rfl))) (by decide +kernel)
theorem kw_774 : Cond.methodLink "ModuleLoader$Machine" 79 ky_Machine_secondOf ∈ xx_tb := xx_in (List.mem_append_right _ (List.mem_of_getElem? (i := 774) (by decide +kernel))) (by decide +kernel)
theorem kw_776 : Cond.instanceMethod ky_Machine_secondOf ∈ xx_tb := xx_in (List.mem_append_right _ (List.mem_of_getElem? (i := 776) (by decide +kernel))) (by decide +kernel)
theorem ks_Machine_secondOf : Cond.selects "ModuleLoader$Machine" ky_Machine_secondOf ky_Machine_secondOf ∈ xx_tb := xx_in (List.mem_append_left _ (by decide +kernel)) (by decide +kernel)
set_option maxRecDepth 100000 in
theorem kw_780 : Cond.code ky_Machine_compares kb_Machine_compares 3 (some .boolean) ∈ xx_tb := xx_in (List.mem_append_right _ (List.mem_of_getElem? (i := 780) (by rfl))) (by decide +kernel)
theorem kw_778 : Cond.methodLink "ModuleLoader$Machine" 82 ky_Machine_compares ∈ xx_tb := xx_in (List.mem_append_right _ (List.mem_of_getElem? (i := 778) (by decide +kernel))) (by decide +kernel)
theorem kw_779 : Cond.static ky_Machine_compares ∈ xx_tb := xx_in (List.mem_append_right _ (List.mem_of_getElem? (i := 779) (by decide +kernel))) (by decide +kernel)
theorem zd_Machine_branch_0 : decode kb_Machine_branch 0 = .ok (.iload_n 1, 1) := by decide +kernel
theorem zd_Machine_branch_1 : decode kb_Machine_branch 1 = .ok (.invokestatic 73, 3) := by decide +kernel
theorem zd_Machine_branch_4 : decode kb_Machine_branch 4 = .ok (.istore_n 2, 1) := by decide +kernel
theorem zd_Machine_branch_5 : decode kb_Machine_branch 5 = .ok (.iload_n 2, 1) := by decide +kernel
theorem zd_Machine_branch_6 : decode kb_Machine_branch 6 = .ok (.iconst 2, 1) := by decide +kernel
theorem zd_Machine_branch_7 : decode kb_Machine_branch 7 = .ok (.if_icmp .eq (8), 3) := by decide +kernel
theorem zd_Machine_branch_10 : decode kb_Machine_branch 10 = .ok (.iload_n 2, 1) := by decide +kernel
theorem zd_Machine_branch_11 : decode kb_Machine_branch 11 = .ok (.iconst 3, 1) := by decide +kernel
theorem zd_Machine_branch_12 : decode kb_Machine_branch 12 = .ok (.if_icmp .ne (5), 3) := by decide +kernel
theorem zd_Machine_branch_15 : decode kb_Machine_branch 15 = .ok (.iconst 3, 1) := by decide +kernel
theorem zd_Machine_branch_16 : decode kb_Machine_branch 16 = .ok (.ireturn, 1) := by decide +kernel
theorem zd_Machine_branch_17 : decode kb_Machine_branch 17 = .ok (.iload_n 2, 1) := by decide +kernel
theorem zd_Machine_branch_18 : decode kb_Machine_branch 18 = .ok (.aload_n 0, 1) := by decide +kernel
theorem zd_Machine_branch_19 : decode kb_Machine_branch 19 = .ok (.iload_n 1, 1) := by decide +kernel
theorem zd_Machine_branch_20 : decode kb_Machine_branch 20 = .ok (.invokevirtual 76, 3) := by decide +kernel
theorem zd_Machine_branch_23 : decode kb_Machine_branch 23 = .ok (.aload_n 0, 1) := by decide +kernel
theorem zd_Machine_branch_24 : decode kb_Machine_branch 24 = .ok (.iload_n 1, 1) := by decide +kernel
theorem zd_Machine_branch_25 : decode kb_Machine_branch 25 = .ok (.invokevirtual 79, 3) := by decide +kernel
theorem zd_Machine_branch_28 : decode kb_Machine_branch 28 = .ok (.invokestatic 82, 3) := by decide +kernel
theorem zd_Machine_branch_31 : decode kb_Machine_branch 31 = .ok (.istore_n 3, 1) := by decide +kernel
theorem zd_Machine_branch_32 : decode kb_Machine_branch 32 = .ok (.iload_n 2, 1) := by decide +kernel
theorem zd_Machine_branch_33 : decode kb_Machine_branch 33 = .ok (.iconst 1, 1) := by decide +kernel
theorem zd_Machine_branch_34 : decode kb_Machine_branch 34 = .ok (.iand, 1) := by decide +kernel
theorem zd_Machine_branch_35 : decode kb_Machine_branch 35 = .ok (.ifCond .ne (7), 3) := by decide +kernel
theorem zd_Machine_branch_38 : decode kb_Machine_branch 38 = .ok (.iconst 1, 1) := by decide +kernel
theorem zd_Machine_branch_39 : decode kb_Machine_branch 39 = .ok (.goto (4), 3) := by decide +kernel
theorem zd_Machine_branch_42 : decode kb_Machine_branch 42 = .ok (.iconst 0, 1) := by decide +kernel
theorem zd_Machine_branch_43 : decode kb_Machine_branch 43 = .ok (.istore 4, 2) := by decide +kernel
theorem zd_Machine_branch_45 : decode kb_Machine_branch 45 = .ok (.aload_n 0, 1) := by decide +kernel
theorem zd_Machine_branch_46 : decode kb_Machine_branch 46 = .ok (.dup, 1) := by decide +kernel
theorem zd_Machine_branch_47 : decode kb_Machine_branch 47 = .ok (.getfield 25, 3) := by decide +kernel
theorem zd_Machine_branch_50 : decode kb_Machine_branch 50 = .ok (.iload_n 3, 1) := by decide +kernel
theorem zd_Machine_branch_51 : decode kb_Machine_branch 51 = .ok (.iload 4, 2) := by decide +kernel
theorem zd_Machine_branch_53 : decode kb_Machine_branch 53 = .ok (.if_icmp .ne (10), 3) := by decide +kernel
theorem zd_Machine_branch_56 : decode kb_Machine_branch 56 = .ok (.iload_n 1, 1) := by decide +kernel
theorem zd_Machine_branch_57 : decode kb_Machine_branch 57 = .ok (.invokestatic 86, 3) := by decide +kernel
theorem zd_Machine_branch_60 : decode kb_Machine_branch 60 = .ok (.goto (4), 3) := by decide +kernel
theorem zd_Machine_branch_63 : decode kb_Machine_branch 63 = .ok (.iconst 4, 1) := by decide +kernel
theorem zd_Machine_branch_64 : decode kb_Machine_branch 64 = .ok (.iadd, 1) := by decide +kernel
theorem zd_Machine_branch_65 : decode kb_Machine_branch 65 = .ok (.putfield 25, 3) := by decide +kernel
theorem zd_Machine_branch_68 : decode kb_Machine_branch 68 = .ok (.iconst 0, 1) := by decide +kernel
theorem zd_Machine_branch_69 : decode kb_Machine_branch 69 = .ok (.ireturn, 1) := by decide +kernel
def zf_Machine_branch_b15 (u : zz_S) : Option (Int32 × zz_S) := some ((3 : Int32), u)
def zf_Machine_branch_b64 (u : zz_S) (y1 : Int32) (y2 : Int32) : Option (Int32 × zz_S) := xx_nm (y1 + y2) fun v1 => xx_nm (va_up u.1 3 v1, u.2) fun u2 => some ((0 : Int32), u2)
def zf_Machine_branch_b43 (u : zz_S) (x1 : Int32) (x3 : Int32) (y0 : Int32) : Option (Int32 × zz_S) := if x3 = y0 then (xx_b2 (zf_Machine_branchDistance u x1) fun v2 u1 => zf_Machine_branch_b64 u1 (u.1 3) v2) else (zf_Machine_branch_b64 u (u.1 3) (4 : Int32))
def zf_Machine_branch (u : zz_S) (x1 : Int32) : Option (Int32 × zz_S) := xx_b2 (zf_Machine_kindOf u x1) fun v2 u1 => if v2 = (2 : Int32) then (zf_Machine_branch_b15 u1) else (if v2 = (3 : Int32) then (zf_Machine_branch_b15 u1) else (xx_b2 (zf_Machine_firstOf u1 x1) fun v4 u3 => xx_b2 (zf_Machine_secondOf u3 x1) fun v6 u5 => xx_b2 (zf_Machine_compares u5 v2 v4 v6) fun v8 u7 => if (v2 &&& (1 : Int32)) = 0 then (zf_Machine_branch_b43 u7 x1 v8 (1 : Int32)) else (zf_Machine_branch_b43 u7 x1 v8 (0 : Int32))))
set_option maxHeartbeats 4000000 in
set_option maxRecDepth 100000 in
theorem zw_Machine_branch_b15 {p : Program} {l : Launch} {e : Env} {s : State} {m : MethodId} {args : Array Value} {below : List Frame} {meth : Method} {c : Code} {A : Nat → Prop} {g : xx_G} {r : Int32} {u9 : zz_S} (C : xx_C p s m args meth c kb_Machine_branch 5 kr_Machine (some .int)) (hA : ∀ q, s.heap.size ≤ q → A q) (hK : va_K g.1 xx_cls (zz_T g) s) : ∀ (u : zz_S) (H : Heap) (locs : List Loc) (ls : Array Slot), zf_Machine_branch_b15 u = some (r, u9) → lv_has ls 5 [] → va_P g.1 xx_cls (zz_W g u) H → va_D A (zz_W g u) → va_S A s.heap H locs → W p l e (xx_rm 2 43) s m args below meth c H locs 0 0 (MQ below (xx_Q g.1 (zz_T g) (zz_W g) (some (.int r)) u9 A) args s 0 0 A) (F0 m 15 ls []) := by
  have hx := C.1
  have hb := C.2.1
  have hown := C.2.2.2.1
  have hts := C.2.2.2.2.1
  intro u H locs ls hF hl hP hD hS
  unfold zf_Machine_branch_b15 at hF
  refine lv_iconst (v := (3 : Int32)) hx hb zd_Machine_branch_15 (by decide) ?_
  exact xx_iret C hF hK hP hD hS zd_Machine_branch_16
set_option maxHeartbeats 4000000 in
set_option maxRecDepth 100000 in
theorem zw_Machine_branch_b64 {p : Program} {l : Launch} {e : Env} {s : State} {m : MethodId} {args : Array Value} {below : List Frame} {meth : Method} {c : Code} {A : Nat → Prop} {g : xx_G} {r : Int32} {u9 : zz_S} (C : xx_C p s m args meth c kb_Machine_branch 5 kr_Machine (some .int)) (hA : ∀ q, s.heap.size ≤ q → A q) (hK : va_K g.1 xx_cls (zz_T g) s) : ∀ (u : zz_S) (y1 : Int32) (y2 : Int32) (H : Heap) (locs : List Loc) (ls : Array Slot), zf_Machine_branch_b64 u y1 y2 = some (r, u9) → lv_has ls 5 [] → va_P g.1 xx_cls (zz_W g u) H → va_D A (zz_W g u) → va_S A s.heap H locs → W p l e (xx_rm 2 43) s m args below meth c H locs 0 0 (MQ below (xx_Q g.1 (zz_T g) (zz_W g) (some (.int r)) u9 A) args s 0 0 A) (F0 m 64 ls [.int y2, .int y1, .ref (g.2.1 4)]) := by
  have hx := C.1
  have hb := C.2.1
  have hown := C.2.2.2.1
  have hts := C.2.2.2.2.1
  intro u y1 y2 H locs ls hF hl hP hD hS
  unfold zf_Machine_branch_b64 at hF
  refine lv_iadd hx hb zd_Machine_branch_64 ?_
  obtain ⟨v1, ev1, hF⟩ := xx_nm_some hF
  refine xx_topi ev1 ?_
  obtain ⟨u2, eu2, hF⟩ := xx_nm_some hF
  refine xx_put (ws1 := zz_W g u2) C ki_Machine kt_Machine ko_Machine kn_Machine hK hP hD hS 4 rfl rfl 4 (by decide) kw_56 rfl rfl rfl rfl (Nat.le_of_ble_eq_true rfl) (by rw [eu2]; rfl) zd_Machine_branch_65 (fun H locs hP hD hS => ?_)
  refine lv_iconst (v := (0 : Int32)) hx hb zd_Machine_branch_68 (by decide) ?_
  exact xx_iret C hF hK hP hD hS zd_Machine_branch_69
set_option maxHeartbeats 4000000 in
set_option maxRecDepth 100000 in
theorem zw_Machine_branch_b43 {p : Program} {l : Launch} {e : Env} {s : State} {m : MethodId} {args : Array Value} {below : List Frame} {meth : Method} {c : Code} {A : Nat → Prop} {g : xx_G} {r : Int32} {u9 : zz_S} (C : xx_C p s m args meth c kb_Machine_branch 5 kr_Machine (some .int)) (hA : ∀ q, s.heap.size ≤ q → A q) (hK : va_K g.1 xx_cls (zz_T g) s) : ∀ (u : zz_S) (x1 : Int32) (x3 : Int32) (y0 : Int32) (H : Heap) (locs : List Loc) (ls : Array Slot), zf_Machine_branch_b43 u x1 x3 y0 = some (r, u9) → lv_has ls 5 [(0, .ref (g.2.1 4)), (1, .int x1), (3, .int x3)] → va_P g.1 xx_cls (zz_W g u) H → va_D A (zz_W g u) → va_S A s.heap H locs → W p l e (xx_rm 2 43) s m args below meth c H locs 0 0 (MQ below (xx_Q g.1 (zz_T g) (zz_W g) (some (.int r)) u9 A) args s 0 0 A) (F0 m 43 ls [.int y0]) := by
  have hx := C.1
  have hb := C.2.1
  have hown := C.2.2.2.1
  have hts := C.2.2.2.2.1
  intro u x1 x3 y0 H locs ls hF hl hP hD hS
  unfold zf_Machine_branch_b43 at hF
  refine lv_istore hx hb zd_Machine_branch_43 hl (by decide) rfl (fun ls hl => ?_)
  refine lv_aload_n hx hb zd_Machine_branch_45 rfl (lv_at hl 1 rfl) ?_
  refine lv_dup hx hb zd_Machine_branch_46 rfl ?_
  refine xx_get C ki_Machine hK hP 4 rfl rfl 4 (by decide) kw_56 rfl rfl zd_Machine_branch_47 ?_
  refine lv_iload_n hx hb zd_Machine_branch_50 rfl (lv_at hl 3 rfl) ?_
  refine lv_iload hx hb zd_Machine_branch_51 (lv_at hl 0 rfl) ?_
  refine lv_icmp_ne (tgt := 63) hx hb zd_Machine_branch_53 (by decide) (fun hc => ?_) (fun hc => ?_)
  · have hF := xx_in' hc hF
    refine lv_iconst (v := (4 : Int32)) hx hb zd_Machine_branch_63 (by decide) ?_
    exact zw_Machine_branch_b64 C hA hK  u (u.1 3) (4 : Int32) _ _ _ hF (lv_sub hl [] rfl) hP hD hS
  · have hF := xx_ip hc hF
    refine lv_iload_n hx hb zd_Machine_branch_56 rfl (lv_at hl 2 rfl) ?_
    obtain ⟨v2, u1, eu1, hF⟩ := xx_b2_some hF
    refine xx_callS (n := 1) (As := [.int x1]) (rest := [.int (u.1 3), .ref (g.2.1 4)]) C (zc_Machine_branchDistance l g u x1 v2 u1 eu1) ⟨kw_787, kw_785, kw_786, kw_3⟩ ⟨by decide +kernel, by decide +kernel, by decide +kernel⟩ rfl ⟨Nat.le_of_ble_eq_true rfl, Nat.le_of_ble_eq_true rfl⟩ hl.1 rfl (Nat.le_of_ble_eq_true rfl) hA hK hP hD hS ⟨Nat.le_refl _, Nat.le_refl _⟩ rfl rfl rfl zd_Machine_branch_57 (fun H locs hP hD hS => ?_)
    refine lv_goto (tgt := 64) hx hb zd_Machine_branch_60 (by decide) ?_
    exact zw_Machine_branch_b64 C hA hK  u1 (u.1 3) v2 _ _ _ hF (lv_sub hl [] rfl) hP hD hS
set_option maxHeartbeats 4000000 in
set_option maxRecDepth 100000 in
theorem zc_Machine_branch (l : Launch) (g : xx_G) (u : zz_S) (x1 : Int32) (r : Int32) (u9 : zz_S) (hF : zf_Machine_branch u x1 = some (r, u9)) : xx_M l g.1 (zz_T g) (zz_W g) ky_Machine_branch kb_Machine_branch 5 (some .int) (xx_rm 2 43) [.ref (g.2.1 4), .int x1] u (some (.int r)) u9 := by
  refine xx_body (by decide) (Nat.le_of_ble_eq_true rfl) ?_
  intro p e s m args below meth c A ls C hin hK hl hA hP hD hS
  have hx := C.1
  have hb := C.2.1
  have hown := C.2.2.2.1
  have hts := C.2.2.2.2.1
  have hl : lv_has ls 5 [(0, .ref (g.2.1 4)), (1, .int x1)] := hl
  unfold zf_Machine_branch at hF
  refine lv_iload_n hx hb zd_Machine_branch_0 rfl (lv_at hl 1 rfl) ?_
  obtain ⟨v2, u1, eu1, hF⟩ := xx_b2_some hF
  refine xx_callS (n := 1) (As := [.int x1]) (rest := []) C (zc_Machine_kindOf l g u x1 v2 u1 eu1) ⟨kw_765, kw_763, kw_764, kw_3⟩ ⟨by decide +kernel, by decide +kernel, by decide +kernel⟩ rfl ⟨Nat.le_of_ble_eq_true rfl, Nat.le_of_ble_eq_true rfl⟩ hl.1 rfl (Nat.le_of_ble_eq_true rfl) hA hK hP hD hS ⟨Nat.le_refl _, Nat.le_refl _⟩ rfl rfl rfl zd_Machine_branch_1 (fun H locs hP hD hS => ?_)
  refine lv_istore_n hx hb zd_Machine_branch_4 rfl hl (by decide) rfl (fun ls hl => ?_)
  refine lv_iload_n hx hb zd_Machine_branch_5 rfl (lv_at hl 0 rfl) ?_
  refine lv_iconst (v := (2 : Int32)) hx hb zd_Machine_branch_6 (by decide) ?_
  refine lv_icmp_eq (tgt := 15) hx hb zd_Machine_branch_7 (by decide) (fun hc => ?_) (fun hc => ?_)
  · have hF := xx_ip hc hF
    exact zw_Machine_branch_b15 C hA hK  u1 _ _ _ hF (lv_sub hl [] rfl) hP hD hS
  · have hF := xx_in' hc hF
    refine lv_iload_n hx hb zd_Machine_branch_10 rfl (lv_at hl 0 rfl) ?_
    refine lv_iconst (v := (3 : Int32)) hx hb zd_Machine_branch_11 (by decide) ?_
    refine lv_icmp_ne (tgt := 17) hx hb zd_Machine_branch_12 (by decide) (fun hc => ?_) (fun hc => ?_)
    · have hF := xx_in' hc hF
      refine lv_iload_n hx hb zd_Machine_branch_17 rfl (lv_at hl 0 rfl) ?_
      refine lv_aload_n hx hb zd_Machine_branch_18 rfl (lv_at hl 1 rfl) ?_
      refine lv_iload_n hx hb zd_Machine_branch_19 rfl (lv_at hl 2 rfl) ?_
      obtain ⟨v4, u3, eu3, hF⟩ := xx_b2_some hF
      refine xx_callV (n := 1) (As := [.int x1]) (rest := [.int v2]) C (zc_Machine_firstOf l g u1 x1 v4 u3 eu3) ⟨kw_769, kw_766, kw_768, ks_Machine_firstOf, kw_3⟩ ⟨by decide +kernel, by decide +kernel, by decide +kernel⟩ rfl ⟨Nat.le_of_ble_eq_true rfl, Nat.le_of_ble_eq_true rfl⟩ 4 rfl rfl hl.1 rfl (Nat.le_of_ble_eq_true rfl) hA hK hP hD hS ⟨Nat.le_refl _, Nat.le_refl _⟩ rfl rfl rfl zd_Machine_branch_20 (fun H locs hP hD hS => ?_)
      refine lv_aload_n hx hb zd_Machine_branch_23 rfl (lv_at hl 1 rfl) ?_
      refine lv_iload_n hx hb zd_Machine_branch_24 rfl (lv_at hl 2 rfl) ?_
      obtain ⟨v6, u5, eu5, hF⟩ := xx_b2_some hF
      refine xx_callV (n := 1) (As := [.int x1]) (rest := [.int v4, .int v2]) C (zc_Machine_secondOf l g u3 x1 v6 u5 eu5) ⟨kw_777, kw_774, kw_776, ks_Machine_secondOf, kw_3⟩ ⟨by decide +kernel, by decide +kernel, by decide +kernel⟩ rfl ⟨Nat.le_of_ble_eq_true rfl, Nat.le_of_ble_eq_true rfl⟩ 4 rfl rfl hl.1 rfl (Nat.le_of_ble_eq_true rfl) hA hK hP hD hS ⟨Nat.le_refl _, Nat.le_refl _⟩ rfl rfl rfl zd_Machine_branch_25 (fun H locs hP hD hS => ?_)
      obtain ⟨v8, u7, eu7, hF⟩ := xx_b2_some hF
      refine xx_callS (n := 3) (As := [.int v2, .int v4, .int v6]) (rest := []) C (zc_Machine_compares l g u5 v2 v4 v6 v8 u7 eu7) ⟨kw_780, kw_778, kw_779, kw_3⟩ ⟨by decide +kernel, by decide +kernel, by decide +kernel⟩ rfl ⟨Nat.le_of_ble_eq_true rfl, Nat.le_of_ble_eq_true rfl⟩ hl.1 rfl (Nat.le_of_ble_eq_true rfl) hA hK hP hD hS ⟨Nat.le_refl _, Nat.le_refl _⟩ rfl rfl rfl zd_Machine_branch_28 (fun H locs hP hD hS => ?_)
      refine lv_istore_n hx hb zd_Machine_branch_31 rfl hl (by decide) rfl (fun ls hl => ?_)
      refine lv_iload_n hx hb zd_Machine_branch_32 rfl (lv_at hl 1 rfl) ?_
      refine lv_iconst (v := (1 : Int32)) hx hb zd_Machine_branch_33 (by decide) ?_
      refine lv_iand hx hb zd_Machine_branch_34 ?_
      refine lv_if_ne (tgt := 42) hx hb zd_Machine_branch_35 (by decide) (fun hc => ?_) (fun hc => ?_)
      · have hF := xx_in' hc hF
        refine lv_iconst (v := (0 : Int32)) hx hb zd_Machine_branch_42 (by decide) ?_
        exact zw_Machine_branch_b43 C hA hK  u7 x1 v8 (0 : Int32) _ _ _ hF (lv_sub hl [2, 3, 0] rfl) hP hD hS
      · have hF := xx_ip hc hF
        refine lv_iconst (v := (1 : Int32)) hx hb zd_Machine_branch_38 (by decide) ?_
        refine lv_goto (tgt := 43) hx hb zd_Machine_branch_39 (by decide) ?_
        exact zw_Machine_branch_b43 C hA hK  u7 x1 v8 (1 : Int32) _ _ _ hF (lv_sub hl [2, 3, 0] rfl) hP hD hS
    · have hF := xx_ip hc hF
      exact zw_Machine_branch_b15 C hA hK  u1 _ _ _ hF (lv_sub hl [] rfl) hP hD hS
set_option maxRecDepth 100000 in
theorem kw_795 : Cond.code ky_Machine_trapOfAccess kb_Machine_trapOfAccess 3 (some .int) ∈ xx_tb := xx_in (List.mem_append_right _ (List.mem_of_getElem? (i := 795) (by rfl))) (by decide +kernel)
theorem kw_792 : Cond.methodLink "ModuleLoader$Machine" 94 ky_Machine_trapOfAccess ∈ xx_tb := xx_in (List.mem_append_right _ (List.mem_of_getElem? (i := 792) (by decide +kernel))) (by decide +kernel)
theorem kw_794 : Cond.instanceMethod ky_Machine_trapOfAccess ∈ xx_tb := xx_in (List.mem_append_right _ (List.mem_of_getElem? (i := 794) (by decide +kernel))) (by decide +kernel)
theorem ks_Machine_trapOfAccess : Cond.selects "ModuleLoader$Machine" ky_Machine_trapOfAccess ky_Machine_trapOfAccess ∈ xx_tb := xx_in (List.mem_append_left _ (by decide +kernel)) (by decide +kernel)
set_option maxRecDepth 100000 in
theorem kw_799 : Cond.code ky_Memory_partAt kb_Memory_partAt 3 (some .int) ∈ xx_tb := xx_in (List.mem_append_right _ (List.mem_of_getElem? (i := 799) (by rfl))) (by decide +kernel)
theorem kw_796 : Cond.methodLink "ModuleLoader$Machine" 98 ky_Memory_partAt ∈ xx_tb := xx_in (List.mem_append_right _ (List.mem_of_getElem? (i := 796) (by decide +kernel))) (by decide +kernel)
theorem kw_797 : Cond.instanceMethod ky_Memory_partAt ∈ xx_tb := xx_in (List.mem_append_right _ (List.mem_of_getElem? (i := 797) (by decide +kernel))) (by decide +kernel)
theorem kw_798 : Cond.selects "ModuleLoader$Memory" ky_Memory_partAt ky_Memory_partAt ∈ xx_tb := xx_in (List.mem_append_right _ (List.mem_of_getElem? (i := 798) (by decide +kernel))) (by decide +kernel)
theorem zd_Machine_readMemory_0 : decode kb_Machine_readMemory 0 = .ok (.iload_n 1, 1) := by decide +kernel
theorem zd_Machine_readMemory_1 : decode kb_Machine_readMemory 1 = .ok (.invokestatic 73, 3) := by decide +kernel
theorem zd_Machine_readMemory_4 : decode kb_Machine_readMemory 4 = .ok (.istore_n 2, 1) := by decide +kernel
theorem zd_Machine_readMemory_5 : decode kb_Machine_readMemory 5 = .ok (.iload_n 2, 1) := by decide +kernel
theorem zd_Machine_readMemory_6 : decode kb_Machine_readMemory 6 = .ok (.iconst 3, 1) := by decide +kernel
theorem zd_Machine_readMemory_7 : decode kb_Machine_readMemory 7 = .ok (.if_icmp .eq (8), 3) := by decide +kernel
theorem zd_Machine_readMemory_10 : decode kb_Machine_readMemory 10 = .ok (.iload_n 2, 1) := by decide +kernel
theorem zd_Machine_readMemory_11 : decode kb_Machine_readMemory 11 = .ok (.iconst 5, 1) := by decide +kernel
theorem zd_Machine_readMemory_12 : decode kb_Machine_readMemory 12 = .ok (.if_icmp .le (5), 3) := by decide +kernel
theorem zd_Machine_readMemory_15 : decode kb_Machine_readMemory 15 = .ok (.iconst 3, 1) := by decide +kernel
theorem zd_Machine_readMemory_16 : decode kb_Machine_readMemory 16 = .ok (.ireturn, 1) := by decide +kernel
theorem zd_Machine_readMemory_17 : decode kb_Machine_readMemory 17 = .ok (.iconst 1, 1) := by decide +kernel
theorem zd_Machine_readMemory_18 : decode kb_Machine_readMemory 18 = .ok (.iload_n 2, 1) := by decide +kernel
theorem zd_Machine_readMemory_19 : decode kb_Machine_readMemory 19 = .ok (.iconst 3, 1) := by decide +kernel
theorem zd_Machine_readMemory_20 : decode kb_Machine_readMemory 20 = .ok (.iand, 1) := by decide +kernel
theorem zd_Machine_readMemory_21 : decode kb_Machine_readMemory 21 = .ok (.ishl, 1) := by decide +kernel
theorem zd_Machine_readMemory_22 : decode kb_Machine_readMemory 22 = .ok (.istore_n 3, 1) := by decide +kernel
theorem zd_Machine_readMemory_23 : decode kb_Machine_readMemory 23 = .ok (.aload_n 0, 1) := by decide +kernel
theorem zd_Machine_readMemory_24 : decode kb_Machine_readMemory 24 = .ok (.iload_n 1, 1) := by decide +kernel
theorem zd_Machine_readMemory_25 : decode kb_Machine_readMemory 25 = .ok (.invokevirtual 76, 3) := by decide +kernel
theorem zd_Machine_readMemory_28 : decode kb_Machine_readMemory 28 = .ok (.iload_n 1, 1) := by decide +kernel
theorem zd_Machine_readMemory_29 : decode kb_Machine_readMemory 29 = .ok (.bipush (20), 2) := by decide +kernel
theorem zd_Machine_readMemory_31 : decode kb_Machine_readMemory 31 = .ok (.ishr, 1) := by decide +kernel
theorem zd_Machine_readMemory_32 : decode kb_Machine_readMemory 32 = .ok (.iadd, 1) := by decide +kernel
theorem zd_Machine_readMemory_33 : decode kb_Machine_readMemory 33 = .ok (.istore 4, 2) := by decide +kernel
theorem zd_Machine_readMemory_35 : decode kb_Machine_readMemory 35 = .ok (.aload_n 0, 1) := by decide +kernel
theorem zd_Machine_readMemory_36 : decode kb_Machine_readMemory 36 = .ok (.iload 4, 2) := by decide +kernel
theorem zd_Machine_readMemory_38 : decode kb_Machine_readMemory 38 = .ok (.iload_n 3, 1) := by decide +kernel
theorem zd_Machine_readMemory_39 : decode kb_Machine_readMemory 39 = .ok (.invokevirtual 94, 3) := by decide +kernel
theorem zd_Machine_readMemory_42 : decode kb_Machine_readMemory 42 = .ok (.istore 5, 2) := by decide +kernel
theorem zd_Machine_readMemory_44 : decode kb_Machine_readMemory 44 = .ok (.iload 5, 2) := by decide +kernel
theorem zd_Machine_readMemory_46 : decode kb_Machine_readMemory 46 = .ok (.ifCond .eq (6), 3) := by decide +kernel
theorem zd_Machine_readMemory_49 : decode kb_Machine_readMemory 49 = .ok (.iload 5, 2) := by decide +kernel
theorem zd_Machine_readMemory_51 : decode kb_Machine_readMemory 51 = .ok (.ireturn, 1) := by decide +kernel
theorem zd_Machine_readMemory_52 : decode kb_Machine_readMemory 52 = .ok (.aload_n 0, 1) := by decide +kernel
theorem zd_Machine_readMemory_53 : decode kb_Machine_readMemory 53 = .ok (.getfield 7, 3) := by decide +kernel
theorem zd_Machine_readMemory_56 : decode kb_Machine_readMemory 56 = .ok (.iload 4, 2) := by decide +kernel
theorem zd_Machine_readMemory_58 : decode kb_Machine_readMemory 58 = .ok (.iload_n 3, 1) := by decide +kernel
theorem zd_Machine_readMemory_59 : decode kb_Machine_readMemory 59 = .ok (.invokevirtual 98, 3) := by decide +kernel
theorem zd_Machine_readMemory_62 : decode kb_Machine_readMemory 62 = .ok (.istore 6, 2) := by decide +kernel
theorem zd_Machine_readMemory_64 : decode kb_Machine_readMemory 64 = .ok (.iload_n 2, 1) := by decide +kernel
theorem zd_Machine_readMemory_65 : decode kb_Machine_readMemory 65 = .ok (.iconst 4, 1) := by decide +kernel
theorem zd_Machine_readMemory_66 : decode kb_Machine_readMemory 66 = .ok (.if_icmp .ge (13), 3) := by decide +kernel
theorem zd_Machine_readMemory_69 : decode kb_Machine_readMemory 69 = .ok (.bipush (32), 2) := by decide +kernel
theorem zd_Machine_readMemory_71 : decode kb_Machine_readMemory 71 = .ok (.bipush (8), 2) := by decide +kernel
theorem zd_Machine_readMemory_73 : decode kb_Machine_readMemory 73 = .ok (.iload_n 3, 1) := by decide +kernel
theorem zd_Machine_readMemory_74 : decode kb_Machine_readMemory 74 = .ok (.imul, 1) := by decide +kernel
theorem zd_Machine_readMemory_75 : decode kb_Machine_readMemory 75 = .ok (.isub, 1) := by decide +kernel
theorem zd_Machine_readMemory_76 : decode kb_Machine_readMemory 76 = .ok (.goto (4), 3) := by decide +kernel
theorem zd_Machine_readMemory_79 : decode kb_Machine_readMemory 79 = .ok (.iconst 0, 1) := by decide +kernel
theorem zd_Machine_readMemory_80 : decode kb_Machine_readMemory 80 = .ok (.istore 7, 2) := by decide +kernel
theorem zd_Machine_readMemory_82 : decode kb_Machine_readMemory 82 = .ok (.aload_n 0, 1) := by decide +kernel
theorem zd_Machine_readMemory_83 : decode kb_Machine_readMemory 83 = .ok (.iload_n 1, 1) := by decide +kernel
theorem zd_Machine_readMemory_84 : decode kb_Machine_readMemory 84 = .ok (.iload 6, 2) := by decide +kernel
theorem zd_Machine_readMemory_86 : decode kb_Machine_readMemory 86 = .ok (.iload 7, 2) := by decide +kernel
theorem zd_Machine_readMemory_88 : decode kb_Machine_readMemory 88 = .ok (.ishl, 1) := by decide +kernel
theorem zd_Machine_readMemory_89 : decode kb_Machine_readMemory 89 = .ok (.iload 7, 2) := by decide +kernel
theorem zd_Machine_readMemory_91 : decode kb_Machine_readMemory 91 = .ok (.ishr, 1) := by decide +kernel
theorem zd_Machine_readMemory_92 : decode kb_Machine_readMemory 92 = .ok (.aload_n 0, 1) := by decide +kernel
theorem zd_Machine_readMemory_93 : decode kb_Machine_readMemory 93 = .ok (.getfield 25, 3) := by decide +kernel
theorem zd_Machine_readMemory_96 : decode kb_Machine_readMemory 96 = .ok (.iconst 4, 1) := by decide +kernel
theorem zd_Machine_readMemory_97 : decode kb_Machine_readMemory 97 = .ok (.iadd, 1) := by decide +kernel
theorem zd_Machine_readMemory_98 : decode kb_Machine_readMemory 98 = .ok (.invokevirtual 47, 3) := by decide +kernel
theorem zd_Machine_readMemory_101 : decode kb_Machine_readMemory 101 = .ok (.ireturn, 1) := by decide +kernel
def zf_Machine_readMemory_b15 (u : zz_S) : Option (Int32 × zz_S) := some ((3 : Int32), u)
def zf_Machine_readMemory_b80 (u : zz_S) (x1 : Int32) (x6 : Int32) (y0 : Int32) : Option (Int32 × zz_S) := xx_b2 (zf_Machine_finish u x1 ((x6 <<< (y0 &&& 31)) >>> (y0 &&& 31)) ((u.1 3) + (4 : Int32))) fun v2 u1 => some (v2, u1)
def zf_Machine_readMemory (u : zz_S) (x1 : Int32) : Option (Int32 × zz_S) := xx_b2 (zf_Machine_kindOf u x1) fun v2 u1 => if v2 = (3 : Int32) then (zf_Machine_readMemory_b15 u1) else (if v2 ≤ (5 : Int32) then (xx_nm ((1 : Int32) <<< ((v2 &&& (3 : Int32)) &&& 31)) fun v3 => xx_b2 (zf_Machine_firstOf u1 x1) fun v5 u4 => xx_nm (v5 + (x1 >>> ((20 : Int32) &&& 31))) fun v6 => xx_b2 (zf_Machine_trapOfAccess u4 v6 v3) fun v8 u7 => if v8 = 0 then (xx_b2 (zf_Memory_partAt u7 v6 v3) fun v10 u9 => if (4 : Int32) ≤ v2 then (zf_Machine_readMemory_b80 u9 x1 v10 (0 : Int32)) else (zf_Machine_readMemory_b80 u9 x1 v10 ((32 : Int32) - ((8 : Int32) * v3)))) else (some (v8, u7))) else (zf_Machine_readMemory_b15 u1))
set_option maxHeartbeats 4000000 in
set_option maxRecDepth 100000 in
theorem zw_Machine_readMemory_b15 {p : Program} {l : Launch} {e : Env} {s : State} {m : MethodId} {args : Array Value} {below : List Frame} {meth : Method} {c : Code} {A : Nat → Prop} {g : xx_G} {r : Int32} {u9 : zz_S} (C : xx_C p s m args meth c kb_Machine_readMemory 8 kr_Machine (some .int)) (hA : ∀ q, s.heap.size ≤ q → A q) (hK : va_K g.1 xx_cls (zz_T g) s) : ∀ (u : zz_S) (H : Heap) (locs : List Loc) (ls : Array Slot), zf_Machine_readMemory_b15 u = some (r, u9) → lv_has ls 8 [] → va_P g.1 xx_cls (zz_W g u) H → va_D A (zz_W g u) → va_S A s.heap H locs → W p l e (xx_rm 2 43) s m args below meth c H locs 0 0 (MQ below (xx_Q g.1 (zz_T g) (zz_W g) (some (.int r)) u9 A) args s 0 0 A) (F0 m 15 ls []) := by
  have hx := C.1
  have hb := C.2.1
  have hown := C.2.2.2.1
  have hts := C.2.2.2.2.1
  intro u H locs ls hF hl hP hD hS
  unfold zf_Machine_readMemory_b15 at hF
  refine lv_iconst (v := (3 : Int32)) hx hb zd_Machine_readMemory_15 (by decide) ?_
  exact xx_iret C hF hK hP hD hS zd_Machine_readMemory_16
set_option maxHeartbeats 4000000 in
set_option maxRecDepth 100000 in
theorem zw_Machine_readMemory_b80 {p : Program} {l : Launch} {e : Env} {s : State} {m : MethodId} {args : Array Value} {below : List Frame} {meth : Method} {c : Code} {A : Nat → Prop} {g : xx_G} {r : Int32} {u9 : zz_S} (C : xx_C p s m args meth c kb_Machine_readMemory 8 kr_Machine (some .int)) (hA : ∀ q, s.heap.size ≤ q → A q) (hK : va_K g.1 xx_cls (zz_T g) s) : ∀ (u : zz_S) (x1 : Int32) (x6 : Int32) (y0 : Int32) (H : Heap) (locs : List Loc) (ls : Array Slot), zf_Machine_readMemory_b80 u x1 x6 y0 = some (r, u9) → lv_has ls 8 [(0, .ref (g.2.1 4)), (1, .int x1), (6, .int x6)] → va_P g.1 xx_cls (zz_W g u) H → va_D A (zz_W g u) → va_S A s.heap H locs → W p l e (xx_rm 2 43) s m args below meth c H locs 0 0 (MQ below (xx_Q g.1 (zz_T g) (zz_W g) (some (.int r)) u9 A) args s 0 0 A) (F0 m 80 ls [.int y0]) := by
  have hx := C.1
  have hb := C.2.1
  have hown := C.2.2.2.1
  have hts := C.2.2.2.2.1
  intro u x1 x6 y0 H locs ls hF hl hP hD hS
  unfold zf_Machine_readMemory_b80 at hF
  refine lv_istore hx hb zd_Machine_readMemory_80 hl (by decide) rfl (fun ls hl => ?_)
  refine lv_aload_n hx hb zd_Machine_readMemory_82 rfl (lv_at hl 1 rfl) ?_
  refine lv_iload_n hx hb zd_Machine_readMemory_83 rfl (lv_at hl 2 rfl) ?_
  refine lv_iload hx hb zd_Machine_readMemory_84 (lv_at hl 3 rfl) ?_
  refine lv_iload hx hb zd_Machine_readMemory_86 (lv_at hl 0 rfl) ?_
  refine lv_ishl hx hb zd_Machine_readMemory_88 ?_
  refine lv_iload hx hb zd_Machine_readMemory_89 (lv_at hl 0 rfl) ?_
  refine lv_ishr hx hb zd_Machine_readMemory_91 ?_
  refine lv_aload_n hx hb zd_Machine_readMemory_92 rfl (lv_at hl 1 rfl) ?_
  refine xx_get C ki_Machine hK hP 4 rfl rfl 4 (by decide) kw_56 rfl rfl zd_Machine_readMemory_93 ?_
  refine lv_iconst (v := (4 : Int32)) hx hb zd_Machine_readMemory_96 (by decide) ?_
  refine lv_iadd hx hb zd_Machine_readMemory_97 ?_
  obtain ⟨v2, u1, eu1, hF⟩ := xx_b2_some hF
  refine xx_callV (n := 3) (As := [.int x1, .int ((x6 <<< (y0 &&& 31)) >>> (y0 &&& 31)), .int ((u.1 3) + (4 : Int32))]) (rest := []) C (zc_Machine_finish l g u x1 ((x6 <<< (y0 &&& 31)) >>> (y0 &&& 31)) ((u.1 3) + (4 : Int32)) v2 u1 eu1) ⟨kw_754, kw_751, kw_753, ks_Machine_finish, kw_3⟩ ⟨by decide +kernel, by decide +kernel, by decide +kernel⟩ rfl ⟨Nat.le_of_ble_eq_true rfl, Nat.le_of_ble_eq_true rfl⟩ 4 rfl rfl hl.1 rfl (Nat.le_of_ble_eq_true rfl) hA hK hP hD hS ⟨Nat.le_refl _, Nat.le_refl _⟩ rfl rfl rfl zd_Machine_readMemory_98 (fun H locs hP hD hS => ?_)
  exact xx_iret C hF hK hP hD hS zd_Machine_readMemory_101
set_option maxHeartbeats 4000000 in
set_option maxRecDepth 100000 in
theorem zc_Machine_readMemory (l : Launch) (g : xx_G) (u : zz_S) (x1 : Int32) (r : Int32) (u9 : zz_S) (hF : zf_Machine_readMemory u x1 = some (r, u9)) : xx_M l g.1 (zz_T g) (zz_W g) ky_Machine_readMemory kb_Machine_readMemory 8 (some .int) (xx_rm 2 43) [.ref (g.2.1 4), .int x1] u (some (.int r)) u9 := by
  refine xx_body (by decide) (Nat.le_of_ble_eq_true rfl) ?_
  intro p e s m args below meth c A ls C hin hK hl hA hP hD hS
  have hx := C.1
  have hb := C.2.1
  have hown := C.2.2.2.1
  have hts := C.2.2.2.2.1
  have hl : lv_has ls 8 [(0, .ref (g.2.1 4)), (1, .int x1)] := hl
  unfold zf_Machine_readMemory at hF
  refine lv_iload_n hx hb zd_Machine_readMemory_0 rfl (lv_at hl 1 rfl) ?_
  obtain ⟨v2, u1, eu1, hF⟩ := xx_b2_some hF
  refine xx_callS (n := 1) (As := [.int x1]) (rest := []) C (zc_Machine_kindOf l g u x1 v2 u1 eu1) ⟨kw_765, kw_763, kw_764, kw_3⟩ ⟨by decide +kernel, by decide +kernel, by decide +kernel⟩ rfl ⟨Nat.le_of_ble_eq_true rfl, Nat.le_of_ble_eq_true rfl⟩ hl.1 rfl (Nat.le_of_ble_eq_true rfl) hA hK hP hD hS ⟨Nat.le_refl _, Nat.le_refl _⟩ rfl rfl rfl zd_Machine_readMemory_1 (fun H locs hP hD hS => ?_)
  refine lv_istore_n hx hb zd_Machine_readMemory_4 rfl hl (by decide) rfl (fun ls hl => ?_)
  refine lv_iload_n hx hb zd_Machine_readMemory_5 rfl (lv_at hl 0 rfl) ?_
  refine lv_iconst (v := (3 : Int32)) hx hb zd_Machine_readMemory_6 (by decide) ?_
  refine lv_icmp_eq (tgt := 15) hx hb zd_Machine_readMemory_7 (by decide) (fun hc => ?_) (fun hc => ?_)
  · have hF := xx_ip hc hF
    exact zw_Machine_readMemory_b15 C hA hK  u1 _ _ _ hF (lv_sub hl [] rfl) hP hD hS
  · have hF := xx_in' hc hF
    refine lv_iload_n hx hb zd_Machine_readMemory_10 rfl (lv_at hl 0 rfl) ?_
    refine lv_iconst (v := (5 : Int32)) hx hb zd_Machine_readMemory_11 (by decide) ?_
    refine lv_icmp_le (tgt := 17) hx hb zd_Machine_readMemory_12 (by decide) (fun hc => ?_) (fun hc => ?_)
    · have hF := xx_ip hc hF
      refine lv_iconst (v := (1 : Int32)) hx hb zd_Machine_readMemory_17 (by decide) ?_
      refine lv_iload_n hx hb zd_Machine_readMemory_18 rfl (lv_at hl 0 rfl) ?_
      refine lv_iconst (v := (3 : Int32)) hx hb zd_Machine_readMemory_19 (by decide) ?_
      refine lv_iand hx hb zd_Machine_readMemory_20 ?_
      refine lv_ishl hx hb zd_Machine_readMemory_21 ?_
      obtain ⟨v3, ev3, hF⟩ := xx_nm_some hF
      refine xx_topi ev3 ?_
      refine lv_istore_n hx hb zd_Machine_readMemory_22 rfl hl (by decide) rfl (fun ls hl => ?_)
      refine lv_aload_n hx hb zd_Machine_readMemory_23 rfl (lv_at hl 2 rfl) ?_
      refine lv_iload_n hx hb zd_Machine_readMemory_24 rfl (lv_at hl 3 rfl) ?_
      obtain ⟨v5, u4, eu4, hF⟩ := xx_b2_some hF
      refine xx_callV (n := 1) (As := [.int x1]) (rest := []) C (zc_Machine_firstOf l g u1 x1 v5 u4 eu4) ⟨kw_769, kw_766, kw_768, ks_Machine_firstOf, kw_3⟩ ⟨by decide +kernel, by decide +kernel, by decide +kernel⟩ rfl ⟨Nat.le_of_ble_eq_true rfl, Nat.le_of_ble_eq_true rfl⟩ 4 rfl rfl hl.1 rfl (Nat.le_of_ble_eq_true rfl) hA hK hP hD hS ⟨Nat.le_refl _, Nat.le_refl _⟩ rfl rfl rfl zd_Machine_readMemory_25 (fun H locs hP hD hS => ?_)
      refine lv_iload_n hx hb zd_Machine_readMemory_28 rfl (lv_at hl 3 rfl) ?_
      refine lv_bipush (v := (20 : Int32)) hx hb zd_Machine_readMemory_29 (by decide) ?_
      refine lv_ishr hx hb zd_Machine_readMemory_31 ?_
      refine lv_iadd hx hb zd_Machine_readMemory_32 ?_
      obtain ⟨v6, ev6, hF⟩ := xx_nm_some hF
      refine xx_topi ev6 ?_
      refine lv_istore hx hb zd_Machine_readMemory_33 hl (by decide) rfl (fun ls hl => ?_)
      refine lv_aload_n hx hb zd_Machine_readMemory_35 rfl (lv_at hl 3 rfl) ?_
      refine lv_iload hx hb zd_Machine_readMemory_36 (lv_at hl 0 rfl) ?_
      refine lv_iload_n hx hb zd_Machine_readMemory_38 rfl (lv_at hl 1 rfl) ?_
      obtain ⟨v8, u7, eu7, hF⟩ := xx_b2_some hF
      refine xx_callV (n := 2) (As := [.int v6, .int v3]) (rest := []) C (zc_Machine_trapOfAccess l g u4 v6 v3 v8 u7 eu7) ⟨kw_795, kw_792, kw_794, ks_Machine_trapOfAccess, kw_3⟩ ⟨by decide +kernel, by decide +kernel, by decide +kernel⟩ rfl ⟨Nat.le_of_ble_eq_true rfl, Nat.le_of_ble_eq_true rfl⟩ 4 rfl rfl hl.1 rfl (Nat.le_of_ble_eq_true rfl) hA hK hP hD hS ⟨Nat.le_refl _, Nat.le_refl _⟩ rfl rfl rfl zd_Machine_readMemory_39 (fun H locs hP hD hS => ?_)
      refine lv_istore hx hb zd_Machine_readMemory_42 hl (by decide) rfl (fun ls hl => ?_)
      refine lv_iload hx hb zd_Machine_readMemory_44 (lv_at hl 0 rfl) ?_
      refine lv_if_eq (tgt := 52) hx hb zd_Machine_readMemory_46 (by decide) (fun hc => ?_) (fun hc => ?_)
      · have hF := xx_ip hc hF
        refine lv_aload_n hx hb zd_Machine_readMemory_52 rfl (lv_at hl 4 rfl) ?_
        refine xx_get C ki_Machine hK hP 4 rfl rfl 2 (by decide) kw_54 rfl rfl zd_Machine_readMemory_53 ?_
        refine lv_iload hx hb zd_Machine_readMemory_56 (lv_at hl 1 rfl) ?_
        refine lv_iload_n hx hb zd_Machine_readMemory_58 rfl (lv_at hl 2 rfl) ?_
        obtain ⟨v10, u9, eu9, hF⟩ := xx_b2_some hF
        refine xx_callV (n := 2) (As := [.int v6, .int v3]) (rest := []) C (zc_Memory_partAt l g u7 v6 v3 v10 u9 eu9) ⟨kw_799, kw_796, kw_797, kw_798, kw_2⟩ ⟨by decide +kernel, by decide +kernel, by decide +kernel⟩ rfl ⟨Nat.le_of_ble_eq_true rfl, Nat.le_of_ble_eq_true rfl⟩ 1 rfl rfl hl.1 rfl (Nat.le_of_ble_eq_true rfl) hA hK hP hD hS ⟨Nat.le_refl _, Nat.le_refl _⟩ rfl rfl rfl zd_Machine_readMemory_59 (fun H locs hP hD hS => ?_)
        refine lv_istore hx hb zd_Machine_readMemory_62 hl (by decide) rfl (fun ls hl => ?_)
        refine lv_iload_n hx hb zd_Machine_readMemory_64 rfl (lv_at hl 4 rfl) ?_
        refine lv_iconst (v := (4 : Int32)) hx hb zd_Machine_readMemory_65 (by decide) ?_
        refine lv_icmp_ge (tgt := 79) hx hb zd_Machine_readMemory_66 (by decide) (fun hc => ?_) (fun hc => ?_)
        · have hF := xx_ip hc hF
          refine lv_iconst (v := (0 : Int32)) hx hb zd_Machine_readMemory_79 (by decide) ?_
          exact zw_Machine_readMemory_b80 C hA hK  u9 x1 v10 (0 : Int32) _ _ _ hF (lv_sub hl [5, 6, 0] rfl) hP hD hS
        · have hF := xx_in' hc hF
          refine lv_bipush (v := (32 : Int32)) hx hb zd_Machine_readMemory_69 (by decide) ?_
          refine lv_bipush (v := (8 : Int32)) hx hb zd_Machine_readMemory_71 (by decide) ?_
          refine lv_iload_n hx hb zd_Machine_readMemory_73 rfl (lv_at hl 3 rfl) ?_
          refine lv_imul hx hb zd_Machine_readMemory_74 ?_
          refine lv_isub hx hb zd_Machine_readMemory_75 ?_
          refine lv_goto (tgt := 80) hx hb zd_Machine_readMemory_76 (by decide) ?_
          exact zw_Machine_readMemory_b80 C hA hK  u9 x1 v10 ((32 : Int32) - ((8 : Int32) * v3)) _ _ _ hF (lv_sub hl [5, 6, 0] rfl) hP hD hS
      · have hF := xx_in' hc hF
        refine lv_iload hx hb zd_Machine_readMemory_49 (lv_at hl 0 rfl) ?_
        exact xx_iret C hF hK hP hD hS zd_Machine_readMemory_51
    · have hF := xx_in' hc hF
      exact zw_Machine_readMemory_b15 C hA hK  u1 _ _ _ hF (lv_sub hl [] rfl) hP hD hS
