theorem kw_220 : Cond.methodLink "ModuleLoader$Memory" 17 ky_Memory_holds ∈ xx_tb := xx_in (List.mem_append_right _ (List.mem_of_getElem? (i := 220) (by decide +kernel))) (by decide +kernel)
theorem kw_35 : Cond.fieldLink "ModuleLoader$Memory" 9 "ModuleLoader$Memory" "words" "[I" ∈ xx_tb := xx_in (List.mem_append_right _ (List.mem_of_getElem? (i := 35) (by decide +kernel))) (by decide +kernel)
theorem zd_Memory_wordAt_0 : decode kb_Memory_wordAt 0 = .ok (.aload_n 0, 1) := by decide +kernel
theorem zd_Memory_wordAt_1 : decode kb_Memory_wordAt 1 = .ok (.iload_n 1, 1) := by decide +kernel
theorem zd_Memory_wordAt_2 : decode kb_Memory_wordAt 2 = .ok (.invokevirtual 17, 3) := by decide +kernel
theorem zd_Memory_wordAt_5 : decode kb_Memory_wordAt 5 = .ok (.ifCond .eq (14), 3) := by decide +kernel
theorem zd_Memory_wordAt_8 : decode kb_Memory_wordAt 8 = .ok (.aload_n 0, 1) := by decide +kernel
theorem zd_Memory_wordAt_9 : decode kb_Memory_wordAt 9 = .ok (.getfield 9, 3) := by decide +kernel
theorem zd_Memory_wordAt_12 : decode kb_Memory_wordAt 12 = .ok (.iload_n 1, 1) := by decide +kernel
theorem zd_Memory_wordAt_13 : decode kb_Memory_wordAt 13 = .ok (.iconst 2, 1) := by decide +kernel
theorem zd_Memory_wordAt_14 : decode kb_Memory_wordAt 14 = .ok (.ishr, 1) := by decide +kernel
theorem zd_Memory_wordAt_15 : decode kb_Memory_wordAt 15 = .ok (.iaload, 1) := by decide +kernel
theorem zd_Memory_wordAt_16 : decode kb_Memory_wordAt 16 = .ok (.goto (4), 3) := by decide +kernel
theorem zd_Memory_wordAt_19 : decode kb_Memory_wordAt 19 = .ok (.iconst 0, 1) := by decide +kernel
theorem zd_Memory_wordAt_20 : decode kb_Memory_wordAt 20 = .ok (.ireturn, 1) := by decide +kernel
def zf_Memory_wordAt_b20 (u : zz_S) (y0 : Int32) : Option (Int32 × zz_S) := some (y0, u)
def zf_Memory_wordAt (u : zz_S) (x1 : Int32) : Option (Int32 × zz_S) := xx_b2 (zf_Memory_holds u x1) fun v2 u1 => if v2 = 0 then (zf_Memory_wordAt_b20 u1 (0 : Int32)) else ((xx_ag (u1.2.1 0) 1024 (x1 >>> ((2 : Int32) &&& 31))).bind fun v3 => zf_Memory_wordAt_b20 u1 v3)
set_option maxHeartbeats 4000000 in
set_option maxRecDepth 100000 in
theorem zw_Memory_wordAt_b20 {p : Program} {l : Launch} {e : Env} {s : State} {m : MethodId} {args : Array Value} {below : List Frame} {meth : Method} {c : Code} {A : Nat → Prop} {g : xx_G} {r : Int32} {u9 : zz_S} (C : xx_C p s m args meth c kb_Memory_wordAt 2 kr_Memory (some .int)) (hA : ∀ q, s.heap.size ≤ q → A q) (hK : va_K g.1 xx_cls (zz_T g) s) : ∀ (u : zz_S) (y0 : Int32) (H : Heap) (locs : List Loc) (ls : Array Slot), zf_Memory_wordAt_b20 u y0 = some (r, u9) → lv_has ls 2 [] → va_P g.1 xx_cls (zz_W g u) H → va_D A (zz_W g u) → va_S A s.heap H locs → W p l e (xx_rm 1 21) s m args below meth c H locs 0 0 (MQ below (xx_Q g.1 (zz_T g) (zz_W g) (some (.int r)) u9 A) args s 0 0 A) (F0 m 20 ls [.int y0]) := by
  have hx := C.1
  have hb := C.2.1
  have hown := C.2.2.2.1
  have hts := C.2.2.2.2.1
  intro u y0 H locs ls hF hl hP hD hS
  unfold zf_Memory_wordAt_b20 at hF
  exact xx_iret C hF hK hP hD hS zd_Memory_wordAt_20
set_option maxHeartbeats 4000000 in
set_option maxRecDepth 100000 in
theorem zc_Memory_wordAt (l : Launch) (g : xx_G) (u : zz_S) (x1 : Int32) (r : Int32) (u9 : zz_S) (hF : zf_Memory_wordAt u x1 = some (r, u9)) : xx_M l g.1 (zz_T g) (zz_W g) ky_Memory_wordAt kb_Memory_wordAt 2 (some .int) (xx_rm 1 21) [.ref (g.2.1 1), .int x1] u (some (.int r)) u9 := by
  refine xx_body (by decide) (Nat.le_of_ble_eq_true rfl) ?_
  intro p e s m args below meth c A ls C hin hK hl hA hP hD hS
  have hx := C.1
  have hb := C.2.1
  have hown := C.2.2.2.1
  have hts := C.2.2.2.2.1
  have hl : lv_has ls 2 [(0, .ref (g.2.1 1)), (1, .int x1)] := hl
  unfold zf_Memory_wordAt at hF
  refine lv_aload_n hx hb zd_Memory_wordAt_0 rfl (lv_at hl 0 rfl) ?_
  refine lv_iload_n hx hb zd_Memory_wordAt_1 rfl (lv_at hl 1 rfl) ?_
  obtain ⟨v2, u1, eu1, hF⟩ := xx_b2_some hF
  refine xx_callV (n := 1) (As := [.int x1]) (rest := []) C (zc_Memory_holds l g u x1 v2 u1 eu1) ⟨kw_223, kw_220, kw_221, kw_222, kw_2⟩ ⟨by decide +kernel, by decide +kernel, by decide +kernel⟩ rfl ⟨Nat.le_of_ble_eq_true rfl, Nat.le_of_ble_eq_true rfl⟩ 1 rfl rfl hl.1 rfl (Nat.le_of_ble_eq_true rfl) hA hK hP hD hS ⟨Nat.le_refl _, Nat.le_refl _⟩ rfl rfl rfl zd_Memory_wordAt_2 (fun H locs hP hD hS => ?_)
  refine lv_if_eq (tgt := 19) hx hb zd_Memory_wordAt_5 (by decide) (fun hc => ?_) (fun hc => ?_)
  · have hF := xx_ip hc hF
    refine lv_iconst (v := (0 : Int32)) hx hb zd_Memory_wordAt_19 (by decide) ?_
    exact zw_Memory_wordAt_b20 C hA hK  u1 (0 : Int32) _ _ _ hF (lv_sub hl [] rfl) hP hD hS
  · have hF := xx_in' hc hF
    refine lv_aload_n hx hb zd_Memory_wordAt_8 rfl (lv_at hl 0 rfl) ?_
    refine xx_get C ki_Memory hK hP 1 rfl rfl 0 (by decide) kw_35 rfl rfl zd_Memory_wordAt_9 ?_
    refine lv_iload_n hx hb zd_Memory_wordAt_12 rfl (lv_at hl 1 rfl) ?_
    refine lv_iconst (v := (2 : Int32)) hx hb zd_Memory_wordAt_13 (by decide) ?_
    refine lv_ishr hx hb zd_Memory_wordAt_14 ?_
    obtain ⟨v3, ev3, hF⟩ := xx_ob hF
    refine xx_iald C hK hP 2 0 rfl rfl ev3 zd_Memory_wordAt_15 ?_
    refine lv_goto (tgt := 20) hx hb zd_Memory_wordAt_16 (by decide) ?_
    exact zw_Memory_wordAt_b20 C hA hK  u1 v3 _ _ _ hF (lv_sub hl [] rfl) hP hD hS
theorem zd_Memory_putWord_0 : decode kb_Memory_putWord 0 = .ok (.aload_n 0, 1) := by decide +kernel
theorem zd_Memory_putWord_1 : decode kb_Memory_putWord 1 = .ok (.iload_n 1, 1) := by decide +kernel
theorem zd_Memory_putWord_2 : decode kb_Memory_putWord 2 = .ok (.invokevirtual 17, 3) := by decide +kernel
theorem zd_Memory_putWord_5 : decode kb_Memory_putWord 5 = .ok (.ifCond .eq (12), 3) := by decide +kernel
theorem zd_Memory_putWord_8 : decode kb_Memory_putWord 8 = .ok (.aload_n 0, 1) := by decide +kernel
theorem zd_Memory_putWord_9 : decode kb_Memory_putWord 9 = .ok (.getfield 9, 3) := by decide +kernel
theorem zd_Memory_putWord_12 : decode kb_Memory_putWord 12 = .ok (.iload_n 1, 1) := by decide +kernel
theorem zd_Memory_putWord_13 : decode kb_Memory_putWord 13 = .ok (.iconst 2, 1) := by decide +kernel
theorem zd_Memory_putWord_14 : decode kb_Memory_putWord 14 = .ok (.ishr, 1) := by decide +kernel
theorem zd_Memory_putWord_15 : decode kb_Memory_putWord 15 = .ok (.iload_n 2, 1) := by decide +kernel
theorem zd_Memory_putWord_16 : decode kb_Memory_putWord 16 = .ok (.iastore, 1) := by decide +kernel
theorem zd_Memory_putWord_17 : decode kb_Memory_putWord 17 = .ok (.return_, 1) := by decide +kernel
def zf_Memory_putWord_b17 (u : zz_S) : Option (zz_S) := some u
def zf_Memory_putWord (u : zz_S) (x1 : Int32) (x2 : Int32) : Option (zz_S) := xx_b2 (zf_Memory_holds u x1) fun v2 u1 => if v2 = 0 then (zf_Memory_putWord_b17 u1) else ((xx_as (u1.2.1 0) 1024 (x1 >>> ((2 : Int32) &&& 31)) x2).bind fun f3 => xx_nm (u1.1, va_up u1.2.1 0 f3, u1.2.2) fun u4 => zf_Memory_putWord_b17 u4)
set_option maxHeartbeats 4000000 in
set_option maxRecDepth 100000 in
theorem zw_Memory_putWord_b17 {p : Program} {l : Launch} {e : Env} {s : State} {m : MethodId} {args : Array Value} {below : List Frame} {meth : Method} {c : Code} {A : Nat → Prop} {g : xx_G} {u9 : zz_S} (C : xx_C p s m args meth c kb_Memory_putWord 3 kr_Memory none) (hA : ∀ q, s.heap.size ≤ q → A q) (hK : va_K g.1 xx_cls (zz_T g) s) : ∀ (u : zz_S) (H : Heap) (locs : List Loc) (ls : Array Slot), zf_Memory_putWord_b17 u = some u9 → lv_has ls 3 [] → va_P g.1 xx_cls (zz_W g u) H → va_D A (zz_W g u) → va_S A s.heap H locs → W p l e (xx_rm 1 21) s m args below meth c H locs 0 0 (MQ below (xx_Q g.1 (zz_T g) (zz_W g) none u9 A) args s 0 0 A) (F0 m 17 ls []) := by
  have hx := C.1
  have hb := C.2.1
  have hown := C.2.2.2.1
  have hts := C.2.2.2.2.1
  intro u H locs ls hF hl hP hD hS
  unfold zf_Memory_putWord_b17 at hF
  exact xx_vret C hF hK hP hD hS zd_Memory_putWord_17
set_option maxHeartbeats 4000000 in
set_option maxRecDepth 100000 in
theorem zc_Memory_putWord (l : Launch) (g : xx_G) (u : zz_S) (x1 : Int32) (x2 : Int32) (u9 : zz_S) (hF : zf_Memory_putWord u x1 x2 = some u9) : xx_M l g.1 (zz_T g) (zz_W g) ky_Memory_putWord kb_Memory_putWord 3 none (xx_rm 1 21) [.ref (g.2.1 1), .int x1, .int x2] u none u9 := by
  refine xx_body (by decide) (Nat.le_of_ble_eq_true rfl) ?_
  intro p e s m args below meth c A ls C hin hK hl hA hP hD hS
  have hx := C.1
  have hb := C.2.1
  have hown := C.2.2.2.1
  have hts := C.2.2.2.2.1
  have hl : lv_has ls 3 [(0, .ref (g.2.1 1)), (1, .int x1), (2, .int x2)] := hl
  unfold zf_Memory_putWord at hF
  refine lv_aload_n hx hb zd_Memory_putWord_0 rfl (lv_at hl 0 rfl) ?_
  refine lv_iload_n hx hb zd_Memory_putWord_1 rfl (lv_at hl 1 rfl) ?_
  obtain ⟨v2, u1, eu1, hF⟩ := xx_b2_some hF
  refine xx_callV (n := 1) (As := [.int x1]) (rest := []) C (zc_Memory_holds l g u x1 v2 u1 eu1) ⟨kw_223, kw_220, kw_221, kw_222, kw_2⟩ ⟨by decide +kernel, by decide +kernel, by decide +kernel⟩ rfl ⟨Nat.le_of_ble_eq_true rfl, Nat.le_of_ble_eq_true rfl⟩ 1 rfl rfl hl.1 rfl (Nat.le_of_ble_eq_true rfl) hA hK hP hD hS ⟨Nat.le_refl _, Nat.le_refl _⟩ rfl rfl rfl zd_Memory_putWord_2 (fun H locs hP hD hS => ?_)
  refine lv_if_eq (tgt := 17) hx hb zd_Memory_putWord_5 (by decide) (fun hc => ?_) (fun hc => ?_)
  · have hF := xx_ip hc hF
    exact zw_Memory_putWord_b17 C hA hK  u1 _ _ _ hF (lv_sub hl [] rfl) hP hD hS
  · have hF := xx_in' hc hF
    refine lv_aload_n hx hb zd_Memory_putWord_8 rfl (lv_at hl 0 rfl) ?_
    refine xx_get C ki_Memory hK hP 1 rfl rfl 0 (by decide) kw_35 rfl rfl zd_Memory_putWord_9 ?_
    refine lv_iload_n hx hb zd_Memory_putWord_12 rfl (lv_at hl 1 rfl) ?_
    refine lv_iconst (v := (2 : Int32)) hx hb zd_Memory_putWord_13 (by decide) ?_
    refine lv_ishr hx hb zd_Memory_putWord_14 ?_
    refine lv_iload_n hx hb zd_Memory_putWord_15 rfl (lv_at hl 2 rfl) ?_
    obtain ⟨f3, ef3, hF⟩ := xx_ob hF
    obtain ⟨u4, eu4, hF⟩ := xx_nm_some hF
    refine xx_iast (ws1 := zz_W g u4) C hK hP hD hS 2 0 rfl rfl ef3 (by rw [eu4]; rfl) zd_Memory_putWord_16 (fun H locs hP hD hS => ?_)
    exact zw_Memory_putWord_b17 C hA hK  u4 _ _ _ hF (lv_sub hl [] rfl) hP hD hS
set_option maxRecDepth 100000 in
theorem kw_802 : Cond.code ky_Memory_shiftOf kb_Memory_shiftOf 1 (some .int) ∈ xx_tb := xx_in (List.mem_append_right _ (List.mem_of_getElem? (i := 802) (by rfl))) (by decide +kernel)
theorem kw_800 : Cond.methodLink "ModuleLoader$Memory" 21 ky_Memory_shiftOf ∈ xx_tb := xx_in (List.mem_append_right _ (List.mem_of_getElem? (i := 800) (by decide +kernel))) (by decide +kernel)
theorem kw_801 : Cond.static ky_Memory_shiftOf ∈ xx_tb := xx_in (List.mem_append_right _ (List.mem_of_getElem? (i := 801) (by decide +kernel))) (by decide +kernel)
set_option maxRecDepth 100000 in
theorem kw_805 : Cond.code ky_Memory_maskOf kb_Memory_maskOf 1 (some .int) ∈ xx_tb := xx_in (List.mem_append_right _ (List.mem_of_getElem? (i := 805) (by rfl))) (by decide +kernel)
theorem kw_803 : Cond.methodLink "ModuleLoader$Memory" 25 ky_Memory_maskOf ∈ xx_tb := xx_in (List.mem_append_right _ (List.mem_of_getElem? (i := 803) (by decide +kernel))) (by decide +kernel)
theorem kw_804 : Cond.static ky_Memory_maskOf ∈ xx_tb := xx_in (List.mem_append_right _ (List.mem_of_getElem? (i := 804) (by decide +kernel))) (by decide +kernel)
theorem zd_Memory_partAt_0 : decode kb_Memory_partAt 0 = .ok (.aload_n 0, 1) := by decide +kernel
theorem zd_Memory_partAt_1 : decode kb_Memory_partAt 1 = .ok (.iload_n 1, 1) := by decide +kernel
theorem zd_Memory_partAt_2 : decode kb_Memory_partAt 2 = .ok (.invokevirtual 17, 3) := by decide +kernel
theorem zd_Memory_partAt_5 : decode kb_Memory_partAt 5 = .ok (.ifCond .eq (24), 3) := by decide +kernel
theorem zd_Memory_partAt_8 : decode kb_Memory_partAt 8 = .ok (.aload_n 0, 1) := by decide +kernel
theorem zd_Memory_partAt_9 : decode kb_Memory_partAt 9 = .ok (.getfield 9, 3) := by decide +kernel
theorem zd_Memory_partAt_12 : decode kb_Memory_partAt 12 = .ok (.iload_n 1, 1) := by decide +kernel
theorem zd_Memory_partAt_13 : decode kb_Memory_partAt 13 = .ok (.iconst 2, 1) := by decide +kernel
theorem zd_Memory_partAt_14 : decode kb_Memory_partAt 14 = .ok (.ishr, 1) := by decide +kernel
theorem zd_Memory_partAt_15 : decode kb_Memory_partAt 15 = .ok (.iaload, 1) := by decide +kernel
theorem zd_Memory_partAt_16 : decode kb_Memory_partAt 16 = .ok (.iload_n 1, 1) := by decide +kernel
theorem zd_Memory_partAt_17 : decode kb_Memory_partAt 17 = .ok (.invokestatic 21, 3) := by decide +kernel
theorem zd_Memory_partAt_20 : decode kb_Memory_partAt 20 = .ok (.iushr, 1) := by decide +kernel
theorem zd_Memory_partAt_21 : decode kb_Memory_partAt 21 = .ok (.iload_n 2, 1) := by decide +kernel
theorem zd_Memory_partAt_22 : decode kb_Memory_partAt 22 = .ok (.invokestatic 25, 3) := by decide +kernel
theorem zd_Memory_partAt_25 : decode kb_Memory_partAt 25 = .ok (.iand, 1) := by decide +kernel
theorem zd_Memory_partAt_26 : decode kb_Memory_partAt 26 = .ok (.goto (4), 3) := by decide +kernel
theorem zd_Memory_partAt_29 : decode kb_Memory_partAt 29 = .ok (.iconst 0, 1) := by decide +kernel
theorem zd_Memory_partAt_30 : decode kb_Memory_partAt 30 = .ok (.ireturn, 1) := by decide +kernel
def zf_Memory_partAt_b30 (u : zz_S) (y0 : Int32) : Option (Int32 × zz_S) := some (y0, u)
def zf_Memory_partAt (u : zz_S) (x1 : Int32) (x2 : Int32) : Option (Int32 × zz_S) := xx_b2 (zf_Memory_holds u x1) fun v2 u1 => if v2 = 0 then (zf_Memory_partAt_b30 u1 (0 : Int32)) else ((xx_ag (u1.2.1 0) 1024 (x1 >>> ((2 : Int32) &&& 31))).bind fun v3 => xx_b2 (zf_Memory_shiftOf u1 x1) fun v5 u4 => xx_b2 (zf_Memory_maskOf u4 x2) fun v7 u6 => zf_Memory_partAt_b30 u6 ((xx_ush v3 v5) &&& v7))
set_option maxHeartbeats 4000000 in
set_option maxRecDepth 100000 in
theorem zw_Memory_partAt_b30 {p : Program} {l : Launch} {e : Env} {s : State} {m : MethodId} {args : Array Value} {below : List Frame} {meth : Method} {c : Code} {A : Nat → Prop} {g : xx_G} {r : Int32} {u9 : zz_S} (C : xx_C p s m args meth c kb_Memory_partAt 3 kr_Memory (some .int)) (hA : ∀ q, s.heap.size ≤ q → A q) (hK : va_K g.1 xx_cls (zz_T g) s) : ∀ (u : zz_S) (y0 : Int32) (H : Heap) (locs : List Loc) (ls : Array Slot), zf_Memory_partAt_b30 u y0 = some (r, u9) → lv_has ls 3 [] → va_P g.1 xx_cls (zz_W g u) H → va_D A (zz_W g u) → va_S A s.heap H locs → W p l e (xx_rm 1 21) s m args below meth c H locs 0 0 (MQ below (xx_Q g.1 (zz_T g) (zz_W g) (some (.int r)) u9 A) args s 0 0 A) (F0 m 30 ls [.int y0]) := by
  have hx := C.1
  have hb := C.2.1
  have hown := C.2.2.2.1
  have hts := C.2.2.2.2.1
  intro u y0 H locs ls hF hl hP hD hS
  unfold zf_Memory_partAt_b30 at hF
  exact xx_iret C hF hK hP hD hS zd_Memory_partAt_30
set_option maxHeartbeats 4000000 in
set_option maxRecDepth 100000 in
theorem zc_Memory_partAt (l : Launch) (g : xx_G) (u : zz_S) (x1 : Int32) (x2 : Int32) (r : Int32) (u9 : zz_S) (hF : zf_Memory_partAt u x1 x2 = some (r, u9)) : xx_M l g.1 (zz_T g) (zz_W g) ky_Memory_partAt kb_Memory_partAt 3 (some .int) (xx_rm 1 21) [.ref (g.2.1 1), .int x1, .int x2] u (some (.int r)) u9 := by
  refine xx_body (by decide) (Nat.le_of_ble_eq_true rfl) ?_
  intro p e s m args below meth c A ls C hin hK hl hA hP hD hS
  have hx := C.1
  have hb := C.2.1
  have hown := C.2.2.2.1
  have hts := C.2.2.2.2.1
  have hl : lv_has ls 3 [(0, .ref (g.2.1 1)), (1, .int x1), (2, .int x2)] := hl
  unfold zf_Memory_partAt at hF
  refine lv_aload_n hx hb zd_Memory_partAt_0 rfl (lv_at hl 0 rfl) ?_
  refine lv_iload_n hx hb zd_Memory_partAt_1 rfl (lv_at hl 1 rfl) ?_
  obtain ⟨v2, u1, eu1, hF⟩ := xx_b2_some hF
  refine xx_callV (n := 1) (As := [.int x1]) (rest := []) C (zc_Memory_holds l g u x1 v2 u1 eu1) ⟨kw_223, kw_220, kw_221, kw_222, kw_2⟩ ⟨by decide +kernel, by decide +kernel, by decide +kernel⟩ rfl ⟨Nat.le_of_ble_eq_true rfl, Nat.le_of_ble_eq_true rfl⟩ 1 rfl rfl hl.1 rfl (Nat.le_of_ble_eq_true rfl) hA hK hP hD hS ⟨Nat.le_refl _, Nat.le_refl _⟩ rfl rfl rfl zd_Memory_partAt_2 (fun H locs hP hD hS => ?_)
  refine lv_if_eq (tgt := 29) hx hb zd_Memory_partAt_5 (by decide) (fun hc => ?_) (fun hc => ?_)
  · have hF := xx_ip hc hF
    refine lv_iconst (v := (0 : Int32)) hx hb zd_Memory_partAt_29 (by decide) ?_
    exact zw_Memory_partAt_b30 C hA hK  u1 (0 : Int32) _ _ _ hF (lv_sub hl [] rfl) hP hD hS
  · have hF := xx_in' hc hF
    refine lv_aload_n hx hb zd_Memory_partAt_8 rfl (lv_at hl 0 rfl) ?_
    refine xx_get C ki_Memory hK hP 1 rfl rfl 0 (by decide) kw_35 rfl rfl zd_Memory_partAt_9 ?_
    refine lv_iload_n hx hb zd_Memory_partAt_12 rfl (lv_at hl 1 rfl) ?_
    refine lv_iconst (v := (2 : Int32)) hx hb zd_Memory_partAt_13 (by decide) ?_
    refine lv_ishr hx hb zd_Memory_partAt_14 ?_
    obtain ⟨v3, ev3, hF⟩ := xx_ob hF
    refine xx_iald C hK hP 2 0 rfl rfl ev3 zd_Memory_partAt_15 ?_
    refine lv_iload_n hx hb zd_Memory_partAt_16 rfl (lv_at hl 1 rfl) ?_
    obtain ⟨v5, u4, eu4, hF⟩ := xx_b2_some hF
    refine xx_callS (n := 1) (As := [.int x1]) (rest := [.int v3]) C (zc_Memory_shiftOf l g u1 x1 v5 u4 eu4) ⟨kw_802, kw_800, kw_801, kw_2⟩ ⟨by decide +kernel, by decide +kernel, by decide +kernel⟩ rfl ⟨Nat.le_of_ble_eq_true rfl, Nat.le_of_ble_eq_true rfl⟩ hl.1 rfl (Nat.le_of_ble_eq_true rfl) hA hK hP hD hS ⟨Nat.le_refl _, Nat.le_refl _⟩ rfl rfl rfl zd_Memory_partAt_17 (fun H locs hP hD hS => ?_)
    refine lv_iushr hx hb zd_Memory_partAt_20 (xx_ush_eq v3 v5) ?_
    refine lv_iload_n hx hb zd_Memory_partAt_21 rfl (lv_at hl 2 rfl) ?_
    obtain ⟨v7, u6, eu6, hF⟩ := xx_b2_some hF
    refine xx_callS (n := 1) (As := [.int x2]) (rest := [.int (xx_ush v3 v5)]) C (zc_Memory_maskOf l g u4 x2 v7 u6 eu6) ⟨kw_805, kw_803, kw_804, kw_2⟩ ⟨by decide +kernel, by decide +kernel, by decide +kernel⟩ rfl ⟨Nat.le_of_ble_eq_true rfl, Nat.le_of_ble_eq_true rfl⟩ hl.1 rfl (Nat.le_of_ble_eq_true rfl) hA hK hP hD hS ⟨Nat.le_refl _, Nat.le_refl _⟩ rfl rfl rfl zd_Memory_partAt_22 (fun H locs hP hD hS => ?_)
    refine lv_iand hx hb zd_Memory_partAt_25 ?_
    refine lv_goto (tgt := 30) hx hb zd_Memory_partAt_26 (by decide) ?_
    exact zw_Memory_partAt_b30 C hA hK  u6 ((xx_ush v3 v5) &&& v7) _ _ _ hF (lv_sub hl [] rfl) hP hD hS
theorem zd_Memory_putPart_0 : decode kb_Memory_putPart 0 = .ok (.aload_n 0, 1) := by decide +kernel
theorem zd_Memory_putPart_1 : decode kb_Memory_putPart 1 = .ok (.iload_n 1, 1) := by decide +kernel
theorem zd_Memory_putPart_2 : decode kb_Memory_putPart 2 = .ok (.invokevirtual 17, 3) := by decide +kernel
theorem zd_Memory_putPart_5 : decode kb_Memory_putPart 5 = .ok (.ifCond .ne (4), 3) := by decide +kernel
theorem zd_Memory_putPart_8 : decode kb_Memory_putPart 8 = .ok (.return_, 1) := by decide +kernel
theorem zd_Memory_putPart_9 : decode kb_Memory_putPart 9 = .ok (.iload_n 1, 1) := by decide +kernel
theorem zd_Memory_putPart_10 : decode kb_Memory_putPart 10 = .ok (.invokestatic 21, 3) := by decide +kernel
theorem zd_Memory_putPart_13 : decode kb_Memory_putPart 13 = .ok (.istore 4, 2) := by decide +kernel
theorem zd_Memory_putPart_15 : decode kb_Memory_putPart 15 = .ok (.iload_n 2, 1) := by decide +kernel
theorem zd_Memory_putPart_16 : decode kb_Memory_putPart 16 = .ok (.invokestatic 25, 3) := by decide +kernel
theorem zd_Memory_putPart_19 : decode kb_Memory_putPart 19 = .ok (.iload 4, 2) := by decide +kernel
theorem zd_Memory_putPart_21 : decode kb_Memory_putPart 21 = .ok (.ishl, 1) := by decide +kernel
theorem zd_Memory_putPart_22 : decode kb_Memory_putPart 22 = .ok (.istore 5, 2) := by decide +kernel
theorem zd_Memory_putPart_24 : decode kb_Memory_putPart 24 = .ok (.aload_n 0, 1) := by decide +kernel
theorem zd_Memory_putPart_25 : decode kb_Memory_putPart 25 = .ok (.getfield 9, 3) := by decide +kernel
theorem zd_Memory_putPart_28 : decode kb_Memory_putPart 28 = .ok (.iload_n 1, 1) := by decide +kernel
theorem zd_Memory_putPart_29 : decode kb_Memory_putPart 29 = .ok (.iconst 2, 1) := by decide +kernel
theorem zd_Memory_putPart_30 : decode kb_Memory_putPart 30 = .ok (.ishr, 1) := by decide +kernel
theorem zd_Memory_putPart_31 : decode kb_Memory_putPart 31 = .ok (.aload_n 0, 1) := by decide +kernel
theorem zd_Memory_putPart_32 : decode kb_Memory_putPart 32 = .ok (.getfield 9, 3) := by decide +kernel
theorem zd_Memory_putPart_35 : decode kb_Memory_putPart 35 = .ok (.iload_n 1, 1) := by decide +kernel
theorem zd_Memory_putPart_36 : decode kb_Memory_putPart 36 = .ok (.iconst 2, 1) := by decide +kernel
theorem zd_Memory_putPart_37 : decode kb_Memory_putPart 37 = .ok (.ishr, 1) := by decide +kernel
theorem zd_Memory_putPart_38 : decode kb_Memory_putPart 38 = .ok (.iaload, 1) := by decide +kernel
theorem zd_Memory_putPart_39 : decode kb_Memory_putPart 39 = .ok (.iload 5, 2) := by decide +kernel
theorem zd_Memory_putPart_41 : decode kb_Memory_putPart 41 = .ok (.iconst (-1), 1) := by decide +kernel
theorem zd_Memory_putPart_42 : decode kb_Memory_putPart 42 = .ok (.ixor, 1) := by decide +kernel
theorem zd_Memory_putPart_43 : decode kb_Memory_putPart 43 = .ok (.iand, 1) := by decide +kernel
theorem zd_Memory_putPart_44 : decode kb_Memory_putPart 44 = .ok (.iload_n 3, 1) := by decide +kernel
theorem zd_Memory_putPart_45 : decode kb_Memory_putPart 45 = .ok (.iload 4, 2) := by decide +kernel
theorem zd_Memory_putPart_47 : decode kb_Memory_putPart 47 = .ok (.ishl, 1) := by decide +kernel
theorem zd_Memory_putPart_48 : decode kb_Memory_putPart 48 = .ok (.iload 5, 2) := by decide +kernel
theorem zd_Memory_putPart_50 : decode kb_Memory_putPart 50 = .ok (.iand, 1) := by decide +kernel
theorem zd_Memory_putPart_51 : decode kb_Memory_putPart 51 = .ok (.ior, 1) := by decide +kernel
theorem zd_Memory_putPart_52 : decode kb_Memory_putPart 52 = .ok (.iastore, 1) := by decide +kernel
theorem zd_Memory_putPart_53 : decode kb_Memory_putPart 53 = .ok (.return_, 1) := by decide +kernel
def zf_Memory_putPart (u : zz_S) (x1 : Int32) (x2 : Int32) (x3 : Int32) : Option (zz_S) := xx_b2 (zf_Memory_holds u x1) fun v2 u1 => if v2 = 0 then (some u1) else (xx_b2 (zf_Memory_shiftOf u1 x1) fun v4 u3 => xx_b2 (zf_Memory_maskOf u3 x2) fun v6 u5 => xx_nm (v6 <<< (v4 &&& 31)) fun v7 => (xx_ag (u5.2.1 0) 1024 (x1 >>> ((2 : Int32) &&& 31))).bind fun v8 => (xx_as (u5.2.1 0) 1024 (x1 >>> ((2 : Int32) &&& 31)) ((v8 &&& (v7 ^^^ (-1 : Int32))) ||| ((x3 <<< (v4 &&& 31)) &&& v7))).bind fun f9 => xx_nm (u5.1, va_up u5.2.1 0 f9, u5.2.2) fun u10 => some u10)
set_option maxHeartbeats 4000000 in
set_option maxRecDepth 100000 in
theorem zc_Memory_putPart (l : Launch) (g : xx_G) (u : zz_S) (x1 : Int32) (x2 : Int32) (x3 : Int32) (u9 : zz_S) (hF : zf_Memory_putPart u x1 x2 x3 = some u9) : xx_M l g.1 (zz_T g) (zz_W g) ky_Memory_putPart kb_Memory_putPart 6 none (xx_rm 1 21) [.ref (g.2.1 1), .int x1, .int x2, .int x3] u none u9 := by
  refine xx_body (by decide) (Nat.le_of_ble_eq_true rfl) ?_
  intro p e s m args below meth c A ls C hin hK hl hA hP hD hS
  have hx := C.1
  have hb := C.2.1
  have hown := C.2.2.2.1
  have hts := C.2.2.2.2.1
  have hl : lv_has ls 6 [(0, .ref (g.2.1 1)), (1, .int x1), (2, .int x2), (3, .int x3)] := hl
  unfold zf_Memory_putPart at hF
  refine lv_aload_n hx hb zd_Memory_putPart_0 rfl (lv_at hl 0 rfl) ?_
  refine lv_iload_n hx hb zd_Memory_putPart_1 rfl (lv_at hl 1 rfl) ?_
  obtain ⟨v2, u1, eu1, hF⟩ := xx_b2_some hF
  refine xx_callV (n := 1) (As := [.int x1]) (rest := []) C (zc_Memory_holds l g u x1 v2 u1 eu1) ⟨kw_223, kw_220, kw_221, kw_222, kw_2⟩ ⟨by decide +kernel, by decide +kernel, by decide +kernel⟩ rfl ⟨Nat.le_of_ble_eq_true rfl, Nat.le_of_ble_eq_true rfl⟩ 1 rfl rfl hl.1 rfl (Nat.le_of_ble_eq_true rfl) hA hK hP hD hS ⟨Nat.le_refl _, Nat.le_refl _⟩ rfl rfl rfl zd_Memory_putPart_2 (fun H locs hP hD hS => ?_)
  refine lv_if_ne (tgt := 9) hx hb zd_Memory_putPart_5 (by decide) (fun hc => ?_) (fun hc => ?_)
  · have hF := xx_in' hc hF
    refine lv_iload_n hx hb zd_Memory_putPart_9 rfl (lv_at hl 1 rfl) ?_
    obtain ⟨v4, u3, eu3, hF⟩ := xx_b2_some hF
    refine xx_callS (n := 1) (As := [.int x1]) (rest := []) C (zc_Memory_shiftOf l g u1 x1 v4 u3 eu3) ⟨kw_802, kw_800, kw_801, kw_2⟩ ⟨by decide +kernel, by decide +kernel, by decide +kernel⟩ rfl ⟨Nat.le_of_ble_eq_true rfl, Nat.le_of_ble_eq_true rfl⟩ hl.1 rfl (Nat.le_of_ble_eq_true rfl) hA hK hP hD hS ⟨Nat.le_refl _, Nat.le_refl _⟩ rfl rfl rfl zd_Memory_putPart_10 (fun H locs hP hD hS => ?_)
    refine lv_istore hx hb zd_Memory_putPart_13 hl (by decide) rfl (fun ls hl => ?_)
    refine lv_iload_n hx hb zd_Memory_putPart_15 rfl (lv_at hl 3 rfl) ?_
    obtain ⟨v6, u5, eu5, hF⟩ := xx_b2_some hF
    refine xx_callS (n := 1) (As := [.int x2]) (rest := []) C (zc_Memory_maskOf l g u3 x2 v6 u5 eu5) ⟨kw_805, kw_803, kw_804, kw_2⟩ ⟨by decide +kernel, by decide +kernel, by decide +kernel⟩ rfl ⟨Nat.le_of_ble_eq_true rfl, Nat.le_of_ble_eq_true rfl⟩ hl.1 rfl (Nat.le_of_ble_eq_true rfl) hA hK hP hD hS ⟨Nat.le_refl _, Nat.le_refl _⟩ rfl rfl rfl zd_Memory_putPart_16 (fun H locs hP hD hS => ?_)
    refine lv_iload hx hb zd_Memory_putPart_19 (lv_at hl 0 rfl) ?_
    refine lv_ishl hx hb zd_Memory_putPart_21 ?_
    obtain ⟨v7, ev7, hF⟩ := xx_nm_some hF
    refine xx_topi ev7 ?_
    refine lv_istore hx hb zd_Memory_putPart_22 hl (by decide) rfl (fun ls hl => ?_)
    refine lv_aload_n hx hb zd_Memory_putPart_24 rfl (lv_at hl 2 rfl) ?_
    refine xx_get C ki_Memory hK hP 1 rfl rfl 0 (by decide) kw_35 rfl rfl zd_Memory_putPart_25 ?_
    refine lv_iload_n hx hb zd_Memory_putPart_28 rfl (lv_at hl 3 rfl) ?_
    refine lv_iconst (v := (2 : Int32)) hx hb zd_Memory_putPart_29 (by decide) ?_
    refine lv_ishr hx hb zd_Memory_putPart_30 ?_
    refine lv_aload_n hx hb zd_Memory_putPart_31 rfl (lv_at hl 2 rfl) ?_
    refine xx_get C ki_Memory hK hP 1 rfl rfl 0 (by decide) kw_35 rfl rfl zd_Memory_putPart_32 ?_
    refine lv_iload_n hx hb zd_Memory_putPart_35 rfl (lv_at hl 3 rfl) ?_
    refine lv_iconst (v := (2 : Int32)) hx hb zd_Memory_putPart_36 (by decide) ?_
    refine lv_ishr hx hb zd_Memory_putPart_37 ?_
    obtain ⟨v8, ev8, hF⟩ := xx_ob hF
    refine xx_iald C hK hP 2 0 rfl rfl ev8 zd_Memory_putPart_38 ?_
    refine lv_iload hx hb zd_Memory_putPart_39 (lv_at hl 0 rfl) ?_
    refine lv_iconst (v := (-1 : Int32)) hx hb zd_Memory_putPart_41 (by decide) ?_
    refine lv_ixor hx hb zd_Memory_putPart_42 ?_
    refine lv_iand hx hb zd_Memory_putPart_43 ?_
    refine lv_iload_n hx hb zd_Memory_putPart_44 rfl (lv_at hl 5 rfl) ?_
    refine lv_iload hx hb zd_Memory_putPart_45 (lv_at hl 1 rfl) ?_
    refine lv_ishl hx hb zd_Memory_putPart_47 ?_
    refine lv_iload hx hb zd_Memory_putPart_48 (lv_at hl 0 rfl) ?_
    refine lv_iand hx hb zd_Memory_putPart_50 ?_
    refine lv_ior hx hb zd_Memory_putPart_51 ?_
    obtain ⟨f9, ef9, hF⟩ := xx_ob hF
    obtain ⟨u10, eu10, hF⟩ := xx_nm_some hF
    refine xx_iast (ws1 := zz_W g u10) C hK hP hD hS 2 0 rfl rfl ef9 (by rw [eu10]; rfl) zd_Memory_putPart_52 (fun H locs hP hD hS => ?_)
    exact xx_vret C hF hK hP hD hS zd_Memory_putPart_53
  · have hF := xx_ip hc hF
    exact xx_vret C hF hK hP hD hS zd_Memory_putPart_8
theorem kw_36 : Cond.fieldLink "ModuleLoader$Memory" 13 "ModuleLoader$Memory" "guardedWords" "[Z" ∈ xx_tb := xx_in (List.mem_append_right _ (List.mem_of_getElem? (i := 36) (by decide +kernel))) (by decide +kernel)
theorem zd_Memory_isGuarded_0 : decode kb_Memory_isGuarded 0 = .ok (.aload_n 0, 1) := by decide +kernel
theorem zd_Memory_isGuarded_1 : decode kb_Memory_isGuarded 1 = .ok (.iload_n 1, 1) := by decide +kernel
theorem zd_Memory_isGuarded_2 : decode kb_Memory_isGuarded 2 = .ok (.invokevirtual 17, 3) := by decide +kernel
theorem zd_Memory_isGuarded_5 : decode kb_Memory_isGuarded 5 = .ok (.ifCond .eq (18), 3) := by decide +kernel
theorem zd_Memory_isGuarded_8 : decode kb_Memory_isGuarded 8 = .ok (.aload_n 0, 1) := by decide +kernel
theorem zd_Memory_isGuarded_9 : decode kb_Memory_isGuarded 9 = .ok (.getfield 13, 3) := by decide +kernel
theorem zd_Memory_isGuarded_12 : decode kb_Memory_isGuarded 12 = .ok (.iload_n 1, 1) := by decide +kernel
theorem zd_Memory_isGuarded_13 : decode kb_Memory_isGuarded 13 = .ok (.iconst 2, 1) := by decide +kernel
theorem zd_Memory_isGuarded_14 : decode kb_Memory_isGuarded 14 = .ok (.ishr, 1) := by decide +kernel
theorem zd_Memory_isGuarded_15 : decode kb_Memory_isGuarded 15 = .ok (.baload, 1) := by decide +kernel
theorem zd_Memory_isGuarded_16 : decode kb_Memory_isGuarded 16 = .ok (.ifCond .eq (7), 3) := by decide +kernel
theorem zd_Memory_isGuarded_19 : decode kb_Memory_isGuarded 19 = .ok (.iconst 1, 1) := by decide +kernel
theorem zd_Memory_isGuarded_20 : decode kb_Memory_isGuarded 20 = .ok (.goto (4), 3) := by decide +kernel
theorem zd_Memory_isGuarded_23 : decode kb_Memory_isGuarded 23 = .ok (.iconst 0, 1) := by decide +kernel
theorem zd_Memory_isGuarded_24 : decode kb_Memory_isGuarded 24 = .ok (.ireturn, 1) := by decide +kernel
def zf_Memory_isGuarded_b24 (u : zz_S) (y0 : Int32) : Option (Int32 × zz_S) := some (vp_nar .boolean y0, u)
def zf_Memory_isGuarded_b23 (u : zz_S) : Option (Int32 × zz_S) := zf_Memory_isGuarded_b24 u (0 : Int32)
def zf_Memory_isGuarded (u : zz_S) (x1 : Int32) : Option (Int32 × zz_S) := xx_b2 (zf_Memory_holds u x1) fun v2 u1 => if v2 = 0 then (zf_Memory_isGuarded_b23 u1) else ((xx_ag (u1.2.1 1) 1024 (x1 >>> ((2 : Int32) &&& 31))).bind fun v3 => if v3 = 0 then (zf_Memory_isGuarded_b23 u1) else (zf_Memory_isGuarded_b24 u1 (1 : Int32)))
set_option maxHeartbeats 4000000 in
set_option maxRecDepth 100000 in
theorem zw_Memory_isGuarded_b24 {p : Program} {l : Launch} {e : Env} {s : State} {m : MethodId} {args : Array Value} {below : List Frame} {meth : Method} {c : Code} {A : Nat → Prop} {g : xx_G} {r : Int32} {u9 : zz_S} (C : xx_C p s m args meth c kb_Memory_isGuarded 2 kr_Memory (some .boolean)) (hA : ∀ q, s.heap.size ≤ q → A q) (hK : va_K g.1 xx_cls (zz_T g) s) : ∀ (u : zz_S) (y0 : Int32) (H : Heap) (locs : List Loc) (ls : Array Slot), zf_Memory_isGuarded_b24 u y0 = some (r, u9) → lv_has ls 2 [] → va_P g.1 xx_cls (zz_W g u) H → va_D A (zz_W g u) → va_S A s.heap H locs → W p l e (xx_rm 1 21) s m args below meth c H locs 0 0 (MQ below (xx_Q g.1 (zz_T g) (zz_W g) (some (.int r)) u9 A) args s 0 0 A) (F0 m 24 ls [.int y0]) := by
  have hx := C.1
  have hb := C.2.1
  have hown := C.2.2.2.1
  have hts := C.2.2.2.2.1
  intro u y0 H locs ls hF hl hP hD hS
  unfold zf_Memory_isGuarded_b24 at hF
  exact xx_zret C hF hK hP hD hS zd_Memory_isGuarded_24
set_option maxHeartbeats 4000000 in
set_option maxRecDepth 100000 in
theorem zw_Memory_isGuarded_b23 {p : Program} {l : Launch} {e : Env} {s : State} {m : MethodId} {args : Array Value} {below : List Frame} {meth : Method} {c : Code} {A : Nat → Prop} {g : xx_G} {r : Int32} {u9 : zz_S} (C : xx_C p s m args meth c kb_Memory_isGuarded 2 kr_Memory (some .boolean)) (hA : ∀ q, s.heap.size ≤ q → A q) (hK : va_K g.1 xx_cls (zz_T g) s) : ∀ (u : zz_S) (H : Heap) (locs : List Loc) (ls : Array Slot), zf_Memory_isGuarded_b23 u = some (r, u9) → lv_has ls 2 [] → va_P g.1 xx_cls (zz_W g u) H → va_D A (zz_W g u) → va_S A s.heap H locs → W p l e (xx_rm 1 21) s m args below meth c H locs 0 0 (MQ below (xx_Q g.1 (zz_T g) (zz_W g) (some (.int r)) u9 A) args s 0 0 A) (F0 m 23 ls []) := by
  have hx := C.1
  have hb := C.2.1
  have hown := C.2.2.2.1
  have hts := C.2.2.2.2.1
  intro u H locs ls hF hl hP hD hS
  unfold zf_Memory_isGuarded_b23 at hF
  refine lv_iconst (v := (0 : Int32)) hx hb zd_Memory_isGuarded_23 (by decide) ?_
  exact zw_Memory_isGuarded_b24 C hA hK  u (0 : Int32) _ _ _ hF (lv_sub hl [] rfl) hP hD hS
set_option maxHeartbeats 4000000 in
set_option maxRecDepth 100000 in
theorem zc_Memory_isGuarded (l : Launch) (g : xx_G) (u : zz_S) (x1 : Int32) (r : Int32) (u9 : zz_S) (hF : zf_Memory_isGuarded u x1 = some (r, u9)) : xx_M l g.1 (zz_T g) (zz_W g) ky_Memory_isGuarded kb_Memory_isGuarded 2 (some .boolean) (xx_rm 1 21) [.ref (g.2.1 1), .int x1] u (some (.int r)) u9 := by
  refine xx_body (by decide) (Nat.le_of_ble_eq_true rfl) ?_
  intro p e s m args below meth c A ls C hin hK hl hA hP hD hS
  have hx := C.1
  have hb := C.2.1
  have hown := C.2.2.2.1
  have hts := C.2.2.2.2.1
  have hl : lv_has ls 2 [(0, .ref (g.2.1 1)), (1, .int x1)] := hl
  unfold zf_Memory_isGuarded at hF
  refine lv_aload_n hx hb zd_Memory_isGuarded_0 rfl (lv_at hl 0 rfl) ?_
  refine lv_iload_n hx hb zd_Memory_isGuarded_1 rfl (lv_at hl 1 rfl) ?_
  obtain ⟨v2, u1, eu1, hF⟩ := xx_b2_some hF
  refine xx_callV (n := 1) (As := [.int x1]) (rest := []) C (zc_Memory_holds l g u x1 v2 u1 eu1) ⟨kw_223, kw_220, kw_221, kw_222, kw_2⟩ ⟨by decide +kernel, by decide +kernel, by decide +kernel⟩ rfl ⟨Nat.le_of_ble_eq_true rfl, Nat.le_of_ble_eq_true rfl⟩ 1 rfl rfl hl.1 rfl (Nat.le_of_ble_eq_true rfl) hA hK hP hD hS ⟨Nat.le_refl _, Nat.le_refl _⟩ rfl rfl rfl zd_Memory_isGuarded_2 (fun H locs hP hD hS => ?_)
  refine lv_if_eq (tgt := 23) hx hb zd_Memory_isGuarded_5 (by decide) (fun hc => ?_) (fun hc => ?_)
  · have hF := xx_ip hc hF
    exact zw_Memory_isGuarded_b23 C hA hK  u1 _ _ _ hF (lv_sub hl [] rfl) hP hD hS
  · have hF := xx_in' hc hF
    refine lv_aload_n hx hb zd_Memory_isGuarded_8 rfl (lv_at hl 0 rfl) ?_
    refine xx_get C ki_Memory hK hP 1 rfl rfl 1 (by decide) kw_36 rfl rfl zd_Memory_isGuarded_9 ?_
    refine lv_iload_n hx hb zd_Memory_isGuarded_12 rfl (lv_at hl 1 rfl) ?_
    refine lv_iconst (v := (2 : Int32)) hx hb zd_Memory_isGuarded_13 (by decide) ?_
    refine lv_ishr hx hb zd_Memory_isGuarded_14 ?_
    obtain ⟨v3, ev3, hF⟩ := xx_ob hF
    refine xx_zald C hK hP 3 1 rfl rfl ev3 zd_Memory_isGuarded_15 ?_
    refine lv_if_eq (tgt := 23) hx hb zd_Memory_isGuarded_16 (by decide) (fun hc => ?_) (fun hc => ?_)
    · have hF := xx_ip hc hF
      exact zw_Memory_isGuarded_b23 C hA hK  u1 _ _ _ hF (lv_sub hl [] rfl) hP hD hS
    · have hF := xx_in' hc hF
      refine lv_iconst (v := (1 : Int32)) hx hb zd_Memory_isGuarded_19 (by decide) ?_
      refine lv_goto (tgt := 24) hx hb zd_Memory_isGuarded_20 (by decide) ?_
      exact zw_Memory_isGuarded_b24 C hA hK  u1 (1 : Int32) _ _ _ hF (lv_sub hl [] rfl) hP hD hS
theorem xx_lit4 : Int32.ofInt (4) = (4 : Int32) := by decide
theorem zd_Memory_guard_0 : decode kb_Memory_guard 0 = .ok (.iconst 0, 1) := by decide +kernel
theorem zd_Memory_guard_1 : decode kb_Memory_guard 1 = .ok (.istore 4, 2) := by decide +kernel
theorem zd_Memory_guard_3 : decode kb_Memory_guard 3 = .ok (.iload 4, 2) := by decide +kernel
theorem zd_Memory_guard_5 : decode kb_Memory_guard 5 = .ok (.iload_n 2, 1) := by decide +kernel
theorem zd_Memory_guard_6 : decode kb_Memory_guard 6 = .ok (.if_icmp .ge (32), 3) := by decide +kernel
theorem zd_Memory_guard_9 : decode kb_Memory_guard 9 = .ok (.aload_n 0, 1) := by decide +kernel
theorem zd_Memory_guard_10 : decode kb_Memory_guard 10 = .ok (.iload_n 1, 1) := by decide +kernel
theorem zd_Memory_guard_11 : decode kb_Memory_guard 11 = .ok (.iload 4, 2) := by decide +kernel
theorem zd_Memory_guard_13 : decode kb_Memory_guard 13 = .ok (.iadd, 1) := by decide +kernel
theorem zd_Memory_guard_14 : decode kb_Memory_guard 14 = .ok (.invokevirtual 17, 3) := by decide +kernel
theorem zd_Memory_guard_17 : decode kb_Memory_guard 17 = .ok (.ifCond .eq (15), 3) := by decide +kernel
theorem zd_Memory_guard_20 : decode kb_Memory_guard 20 = .ok (.aload_n 0, 1) := by decide +kernel
theorem zd_Memory_guard_21 : decode kb_Memory_guard 21 = .ok (.getfield 13, 3) := by decide +kernel
theorem zd_Memory_guard_24 : decode kb_Memory_guard 24 = .ok (.iload_n 1, 1) := by decide +kernel
theorem zd_Memory_guard_25 : decode kb_Memory_guard 25 = .ok (.iload 4, 2) := by decide +kernel
theorem zd_Memory_guard_27 : decode kb_Memory_guard 27 = .ok (.iadd, 1) := by decide +kernel
theorem zd_Memory_guard_28 : decode kb_Memory_guard 28 = .ok (.iconst 2, 1) := by decide +kernel
theorem zd_Memory_guard_29 : decode kb_Memory_guard 29 = .ok (.ishr, 1) := by decide +kernel
theorem zd_Memory_guard_30 : decode kb_Memory_guard 30 = .ok (.iload_n 3, 1) := by decide +kernel
theorem zd_Memory_guard_31 : decode kb_Memory_guard 31 = .ok (.bastore, 1) := by decide +kernel
theorem zd_Memory_guard_32 : decode kb_Memory_guard 32 = .ok (.iinc 4 (4), 3) := by decide +kernel
theorem zd_Memory_guard_35 : decode kb_Memory_guard 35 = .ok (.goto (-32), 3) := by decide +kernel
theorem zd_Memory_guard_38 : decode kb_Memory_guard 38 = .ok (.return_, 1) := by decide +kernel
def zf_Memory_guard_b32 (rec3 : zz_S → Int32 → Int32 → Int32 → Int32 → Option (zz_S)) (u : zz_S) (x1 : Int32) (x2 : Int32) (x3 : Int32) (x4 : Int32) : Option (zz_S) := xx_nm (x4 + (4 : Int32)) fun v1 => rec3 u x1 x2 x3 v1
def zf_Memory_guard_b3 : Nat → zz_S → Int32 → Int32 → Int32 → Int32 → Option (zz_S)
  | 0, _, _, _, _, _ => none
  | n + 1, u, x1, x2, x3, x4 => if x2 ≤ x4 then (some u) else (xx_b2 (zf_Memory_holds u (x1 + x4)) fun v2 u1 => if v2 = 0 then (zf_Memory_guard_b32 (zf_Memory_guard_b3 n) u1 x1 x2 x3 x4) else ((xx_as (u1.2.1 1) 1024 ((x1 + x4) >>> ((2 : Int32) &&& 31)) (vp_nar .boolean x3)).bind fun f3 => xx_nm (u1.1, va_up u1.2.1 1 f3, u1.2.2) fun u4 => zf_Memory_guard_b32 (zf_Memory_guard_b3 n) u4 x1 x2 x3 x4))
def zf_Memory_guard (u : zz_S) (x1 : Int32) (x2 : Int32) (x3 : Int32) : Option (zz_S) := xx_nm (0 : Int32) fun v1 => zf_Memory_guard_b3 xx_fu u x1 x2 x3 v1
set_option maxHeartbeats 4000000 in
set_option maxRecDepth 100000 in
theorem zw_Memory_guard_b32 {p : Program} {l : Launch} {e : Env} {s : State} {m : MethodId} {args : Array Value} {below : List Frame} {meth : Method} {c : Code} {A : Nat → Prop} {g : xx_G} {u9 : zz_S} (C : xx_C p s m args meth c kb_Memory_guard 5 kr_Memory none) (hA : ∀ q, s.heap.size ≤ q → A q) (hK : va_K g.1 xx_cls (zz_T g) s) {rec3 : zz_S → Int32 → Int32 → Int32 → Int32 → Option (zz_S)} (hrec3 : ∀ (u : zz_S) (x1 : Int32) (x2 : Int32) (x3 : Int32) (x4 : Int32) (H : Heap) (locs : List Loc) (ls : Array Slot), rec3 u x1 x2 x3 x4 = some u9 → lv_has ls 5 [(0, .ref (g.2.1 1)), (1, .int x1), (2, .int x2), (3, .int x3), (4, .int x4)] → va_P g.1 xx_cls (zz_W g u) H → va_D A (zz_W g u) → va_S A s.heap H locs → W p l e (xx_rm 1 21) s m args below meth c H locs 0 0 (MQ below (xx_Q g.1 (zz_T g) (zz_W g) none u9 A) args s 0 0 A) (F0 m 3 ls [])) : ∀ (u : zz_S) (x1 : Int32) (x2 : Int32) (x3 : Int32) (x4 : Int32) (H : Heap) (locs : List Loc) (ls : Array Slot), zf_Memory_guard_b32 rec3 u x1 x2 x3 x4 = some u9 → lv_has ls 5 [(0, .ref (g.2.1 1)), (1, .int x1), (2, .int x2), (3, .int x3), (4, .int x4)] → va_P g.1 xx_cls (zz_W g u) H → va_D A (zz_W g u) → va_S A s.heap H locs → W p l e (xx_rm 1 21) s m args below meth c H locs 0 0 (MQ below (xx_Q g.1 (zz_T g) (zz_W g) none u9 A) args s 0 0 A) (F0 m 32 ls []) := by
  have hx := C.1
  have hb := C.2.1
  have hown := C.2.2.2.1
  have hts := C.2.2.2.2.1
  intro u x1 x2 x3 x4 H locs ls hF hl hP hD hS
  unfold zf_Memory_guard_b32 at hF
  obtain ⟨v1, ev1, hF⟩ := xx_nm_some hF
  refine lv_iinc (k := 4) (v := v1) hx hb zd_Memory_guard_32 hl rfl (by rw [ev1, xx_lit4]) (by decide) rfl (fun ls hl => ?_)
  refine lv_goto (tgt := 3) hx hb zd_Memory_guard_35 (by decide) ?_
  exact hrec3 u x1 x2 x3 v1 _ _ _ hF (lv_sub hl [1, 2, 3, 4, 0] rfl) hP hD hS
set_option maxHeartbeats 4000000 in
set_option maxRecDepth 100000 in
theorem zw_Memory_guard_b3 {p : Program} {l : Launch} {e : Env} {s : State} {m : MethodId} {args : Array Value} {below : List Frame} {meth : Method} {c : Code} {A : Nat → Prop} {g : xx_G} {u9 : zz_S} (C : xx_C p s m args meth c kb_Memory_guard 5 kr_Memory none) (hA : ∀ q, s.heap.size ≤ q → A q) (hK : va_K g.1 xx_cls (zz_T g) s) : ∀ (n : Nat), ∀ (u : zz_S) (x1 : Int32) (x2 : Int32) (x3 : Int32) (x4 : Int32) (H : Heap) (locs : List Loc) (ls : Array Slot), zf_Memory_guard_b3 n u x1 x2 x3 x4 = some u9 → lv_has ls 5 [(0, .ref (g.2.1 1)), (1, .int x1), (2, .int x2), (3, .int x3), (4, .int x4)] → va_P g.1 xx_cls (zz_W g u) H → va_D A (zz_W g u) → va_S A s.heap H locs → W p l e (xx_rm 1 21) s m args below meth c H locs 0 0 (MQ below (xx_Q g.1 (zz_T g) (zz_W g) none u9 A) args s 0 0 A) (F0 m 3 ls []) := by
  have hx := C.1
  have hb := C.2.1
  have hown := C.2.2.2.1
  have hts := C.2.2.2.2.1
  intro n
  induction n with
  | zero =>
    intro u x1 x2 x3 x4 H locs ls hF
    rw [zf_Memory_guard_b3] at hF
    cases hF
  | succ n ih =>
    intro u x1 x2 x3 x4 H locs ls hF hl hP hD hS
    rw [zf_Memory_guard_b3] at hF
    refine lv_iload hx hb zd_Memory_guard_3 (lv_at hl 4 rfl) ?_
    refine lv_iload_n hx hb zd_Memory_guard_5 rfl (lv_at hl 2 rfl) ?_
    refine lv_icmp_ge (tgt := 38) hx hb zd_Memory_guard_6 (by decide) (fun hc => ?_) (fun hc => ?_)
    · have hF := xx_ip hc hF
      exact xx_vret C hF hK hP hD hS zd_Memory_guard_38
    · have hF := xx_in' hc hF
      refine lv_aload_n hx hb zd_Memory_guard_9 rfl (lv_at hl 0 rfl) ?_
      refine lv_iload_n hx hb zd_Memory_guard_10 rfl (lv_at hl 1 rfl) ?_
      refine lv_iload hx hb zd_Memory_guard_11 (lv_at hl 4 rfl) ?_
      refine lv_iadd hx hb zd_Memory_guard_13 ?_
      obtain ⟨v2, u1, eu1, hF⟩ := xx_b2_some hF
      refine xx_callV (n := 1) (As := [.int (x1 + x4)]) (rest := []) C (zc_Memory_holds l g u (x1 + x4) v2 u1 eu1) ⟨kw_223, kw_220, kw_221, kw_222, kw_2⟩ ⟨by decide +kernel, by decide +kernel, by decide +kernel⟩ rfl ⟨Nat.le_of_ble_eq_true rfl, Nat.le_of_ble_eq_true rfl⟩ 1 rfl rfl hl.1 rfl (Nat.le_of_ble_eq_true rfl) hA hK hP hD hS ⟨Nat.le_refl _, Nat.le_refl _⟩ rfl rfl rfl zd_Memory_guard_14 (fun H locs hP hD hS => ?_)
      refine lv_if_eq (tgt := 32) hx hb zd_Memory_guard_17 (by decide) (fun hc => ?_) (fun hc => ?_)
      · have hF := xx_ip hc hF
        exact zw_Memory_guard_b32 C hA hK ih  u1 x1 x2 x3 x4 _ _ _ hF (lv_sub hl [0, 1, 2, 3, 4] rfl) hP hD hS
      · have hF := xx_in' hc hF
        refine lv_aload_n hx hb zd_Memory_guard_20 rfl (lv_at hl 0 rfl) ?_
        refine xx_get C ki_Memory hK hP 1 rfl rfl 1 (by decide) kw_36 rfl rfl zd_Memory_guard_21 ?_
        refine lv_iload_n hx hb zd_Memory_guard_24 rfl (lv_at hl 1 rfl) ?_
        refine lv_iload hx hb zd_Memory_guard_25 (lv_at hl 4 rfl) ?_
        refine lv_iadd hx hb zd_Memory_guard_27 ?_
        refine lv_iconst (v := (2 : Int32)) hx hb zd_Memory_guard_28 (by decide) ?_
        refine lv_ishr hx hb zd_Memory_guard_29 ?_
        refine lv_iload_n hx hb zd_Memory_guard_30 rfl (lv_at hl 3 rfl) ?_
        obtain ⟨f3, ef3, hF⟩ := xx_ob hF
        obtain ⟨u4, eu4, hF⟩ := xx_nm_some hF
        refine xx_zast (ws1 := zz_W g u4) C hK hP hD hS 3 1 rfl rfl ef3 (by rw [eu4]; rfl) zd_Memory_guard_31 (fun H locs hP hD hS => ?_)
        exact zw_Memory_guard_b32 C hA hK ih  u4 x1 x2 x3 x4 _ _ _ hF (lv_sub hl [0, 1, 2, 3, 4] rfl) hP hD hS
set_option maxHeartbeats 4000000 in
set_option maxRecDepth 100000 in
theorem zc_Memory_guard (l : Launch) (g : xx_G) (u : zz_S) (x1 : Int32) (x2 : Int32) (x3 : Int32) (u9 : zz_S) (hF : zf_Memory_guard u x1 x2 x3 = some u9) : xx_M l g.1 (zz_T g) (zz_W g) ky_Memory_guard kb_Memory_guard 5 none (xx_rm 1 21) [.ref (g.2.1 1), .int x1, .int x2, .int x3] u none u9 := by
  refine xx_body (by decide) (Nat.le_of_ble_eq_true rfl) ?_
  intro p e s m args below meth c A ls C hin hK hl hA hP hD hS
  have hx := C.1
  have hb := C.2.1
  have hown := C.2.2.2.1
  have hts := C.2.2.2.2.1
  have hl : lv_has ls 5 [(0, .ref (g.2.1 1)), (1, .int x1), (2, .int x2), (3, .int x3)] := hl
  unfold zf_Memory_guard at hF
  refine lv_iconst (v := (0 : Int32)) hx hb zd_Memory_guard_0 (by decide) ?_
  obtain ⟨v1, ev1, hF⟩ := xx_nm_some hF
  refine xx_topi ev1 ?_
  refine lv_istore hx hb zd_Memory_guard_1 hl (by decide) rfl (fun ls hl => ?_)
  exact zw_Memory_guard_b3 C hA hK xx_fu u x1 x2 x3 v1 _ _ _ hF (lv_sub hl [1, 2, 3, 4, 0] rfl) hP hD hS
set_option maxRecDepth 100000 in
theorem kw_630 : Cond.code ky_Mender_isDistance kb_Mender_isDistance 1 (some .boolean) ∈ xx_tb := xx_in (List.mem_append_right _ (List.mem_of_getElem? (i := 630) (by rfl))) (by decide +kernel)
theorem kw_628 : Cond.methodLink "ModuleLoader$Mender" 9 ky_Mender_isDistance ∈ xx_tb := xx_in (List.mem_append_right _ (List.mem_of_getElem? (i := 628) (by decide +kernel))) (by decide +kernel)
theorem kw_629 : Cond.static ky_Mender_isDistance ∈ xx_tb := xx_in (List.mem_append_right _ (List.mem_of_getElem? (i := 629) (by decide +kernel))) (by decide +kernel)
theorem kw_17 : Cond.initialized "ModuleLoader$Mender" ∈ xx_tb := xx_in (List.mem_append_right _ (List.mem_of_getElem? (i := 17) (by decide +kernel))) (by decide +kernel)
theorem kw_631 : Cond.constant "ModuleLoader$Mender" 13 (1048576 : Int32) ∈ xx_tb := xx_in (List.mem_append_right _ (List.mem_of_getElem? (i := 631) (by decide +kernel))) (by decide +kernel)
theorem zd_Mender_reaches_0 : decode kb_Mender_reaches 0 = .ok (.iload_n 0, 1) := by decide +kernel
theorem zd_Mender_reaches_1 : decode kb_Mender_reaches 1 = .ok (.invokestatic 9, 3) := by decide +kernel
theorem zd_Mender_reaches_4 : decode kb_Mender_reaches 4 = .ok (.ifCond .ne (5), 3) := by decide +kernel
theorem zd_Mender_reaches_7 : decode kb_Mender_reaches 7 = .ok (.iconst 1, 1) := by decide +kernel
theorem zd_Mender_reaches_8 : decode kb_Mender_reaches 8 = .ok (.ireturn, 1) := by decide +kernel
theorem zd_Mender_reaches_9 : decode kb_Mender_reaches 9 = .ok (.iload_n 0, 1) := by decide +kernel
theorem zd_Mender_reaches_10 : decode kb_Mender_reaches 10 = .ok (.iconst 4, 1) := by decide +kernel
theorem zd_Mender_reaches_11 : decode kb_Mender_reaches 11 = .ok (.if_icmp .ne (8), 3) := by decide +kernel
theorem zd_Mender_reaches_14 : decode kb_Mender_reaches 14 = .ok (.ldc 13, 2) := by decide +kernel
theorem zd_Mender_reaches_16 : decode kb_Mender_reaches 16 = .ok (.goto (6), 3) := by decide +kernel
theorem zd_Mender_reaches_19 : decode kb_Mender_reaches 19 = .ok (.sipush (4096), 3) := by decide +kernel
theorem zd_Mender_reaches_22 : decode kb_Mender_reaches 22 = .ok (.istore_n 2, 1) := by decide +kernel
theorem zd_Mender_reaches_23 : decode kb_Mender_reaches 23 = .ok (.iload_n 1, 1) := by decide +kernel
theorem zd_Mender_reaches_24 : decode kb_Mender_reaches 24 = .ok (.iconst 1, 1) := by decide +kernel
theorem zd_Mender_reaches_25 : decode kb_Mender_reaches 25 = .ok (.iand, 1) := by decide +kernel
theorem zd_Mender_reaches_26 : decode kb_Mender_reaches 26 = .ok (.ifCond .ne (18), 3) := by decide +kernel
theorem zd_Mender_reaches_29 : decode kb_Mender_reaches 29 = .ok (.iload_n 1, 1) := by decide +kernel
theorem zd_Mender_reaches_30 : decode kb_Mender_reaches 30 = .ok (.iload_n 2, 1) := by decide +kernel
theorem zd_Mender_reaches_31 : decode kb_Mender_reaches 31 = .ok (.ineg, 1) := by decide +kernel
theorem zd_Mender_reaches_32 : decode kb_Mender_reaches 32 = .ok (.if_icmp .lt (12), 3) := by decide +kernel
theorem zd_Mender_reaches_35 : decode kb_Mender_reaches 35 = .ok (.iload_n 1, 1) := by decide +kernel
theorem zd_Mender_reaches_36 : decode kb_Mender_reaches 36 = .ok (.iload_n 2, 1) := by decide +kernel
theorem zd_Mender_reaches_37 : decode kb_Mender_reaches 37 = .ok (.if_icmp .ge (7), 3) := by decide +kernel
theorem zd_Mender_reaches_40 : decode kb_Mender_reaches 40 = .ok (.iconst 1, 1) := by decide +kernel
theorem zd_Mender_reaches_41 : decode kb_Mender_reaches 41 = .ok (.goto (4), 3) := by decide +kernel
theorem zd_Mender_reaches_44 : decode kb_Mender_reaches 44 = .ok (.iconst 0, 1) := by decide +kernel
theorem zd_Mender_reaches_45 : decode kb_Mender_reaches 45 = .ok (.ireturn, 1) := by decide +kernel
def zf_Mender_reaches_b45 (u : zz_S) (y0 : Int32) : Option (Int32 × zz_S) := some (vp_nar .boolean y0, u)
def zf_Mender_reaches_b44 (u : zz_S) : Option (Int32 × zz_S) := zf_Mender_reaches_b45 u (0 : Int32)
def zf_Mender_reaches_b22 (u : zz_S) (x1 : Int32) (y0 : Int32) : Option (Int32 × zz_S) := if (x1 &&& (1 : Int32)) = 0 then (if x1 < (-y0) then (zf_Mender_reaches_b44 u) else (if y0 ≤ x1 then (zf_Mender_reaches_b44 u) else (zf_Mender_reaches_b45 u (1 : Int32)))) else (zf_Mender_reaches_b44 u)
def zf_Mender_reaches (u : zz_S) (x0 : Int32) (x1 : Int32) : Option (Int32 × zz_S) := xx_b2 (zf_Mender_isDistance u x0) fun v2 u1 => if v2 = 0 then (some (vp_nar .boolean (1 : Int32), u1)) else (if x0 = (4 : Int32) then (zf_Mender_reaches_b22 u1 x1 (1048576 : Int32)) else (zf_Mender_reaches_b22 u1 x1 (4096 : Int32)))
set_option maxHeartbeats 4000000 in
set_option maxRecDepth 100000 in
theorem zw_Mender_reaches_b45 {p : Program} {l : Launch} {e : Env} {s : State} {m : MethodId} {args : Array Value} {below : List Frame} {meth : Method} {c : Code} {A : Nat → Prop} {g : xx_G} {r : Int32} {u9 : zz_S} (C : xx_C p s m args meth c kb_Mender_reaches 3 kr_Mender (some .boolean)) (hA : ∀ q, s.heap.size ≤ q → A q) (hK : va_K g.1 xx_cls (zz_T g) s) : ∀ (u : zz_S) (y0 : Int32) (H : Heap) (locs : List Loc) (ls : Array Slot), zf_Mender_reaches_b45 u y0 = some (r, u9) → lv_has ls 3 [] → va_P g.1 xx_cls (zz_W g u) H → va_D A (zz_W g u) → va_S A s.heap H locs → W p l e (xx_rm 1 20) s m args below meth c H locs 0 0 (MQ below (xx_Q g.1 (zz_T g) (zz_W g) (some (.int r)) u9 A) args s 0 0 A) (F0 m 45 ls [.int y0]) := by
  have hx := C.1
  have hb := C.2.1
  have hown := C.2.2.2.1
  have hts := C.2.2.2.2.1
  intro u y0 H locs ls hF hl hP hD hS
  unfold zf_Mender_reaches_b45 at hF
  exact xx_zret C hF hK hP hD hS zd_Mender_reaches_45
set_option maxHeartbeats 4000000 in
set_option maxRecDepth 100000 in
theorem zw_Mender_reaches_b44 {p : Program} {l : Launch} {e : Env} {s : State} {m : MethodId} {args : Array Value} {below : List Frame} {meth : Method} {c : Code} {A : Nat → Prop} {g : xx_G} {r : Int32} {u9 : zz_S} (C : xx_C p s m args meth c kb_Mender_reaches 3 kr_Mender (some .boolean)) (hA : ∀ q, s.heap.size ≤ q → A q) (hK : va_K g.1 xx_cls (zz_T g) s) : ∀ (u : zz_S) (H : Heap) (locs : List Loc) (ls : Array Slot), zf_Mender_reaches_b44 u = some (r, u9) → lv_has ls 3 [] → va_P g.1 xx_cls (zz_W g u) H → va_D A (zz_W g u) → va_S A s.heap H locs → W p l e (xx_rm 1 20) s m args below meth c H locs 0 0 (MQ below (xx_Q g.1 (zz_T g) (zz_W g) (some (.int r)) u9 A) args s 0 0 A) (F0 m 44 ls []) := by
  have hx := C.1
  have hb := C.2.1
  have hown := C.2.2.2.1
  have hts := C.2.2.2.2.1
  intro u H locs ls hF hl hP hD hS
  unfold zf_Mender_reaches_b44 at hF
  refine lv_iconst (v := (0 : Int32)) hx hb zd_Mender_reaches_44 (by decide) ?_
  exact zw_Mender_reaches_b45 C hA hK  u (0 : Int32) _ _ _ hF (lv_sub hl [] rfl) hP hD hS
set_option maxHeartbeats 4000000 in
set_option maxRecDepth 100000 in
theorem zw_Mender_reaches_b22 {p : Program} {l : Launch} {e : Env} {s : State} {m : MethodId} {args : Array Value} {below : List Frame} {meth : Method} {c : Code} {A : Nat → Prop} {g : xx_G} {r : Int32} {u9 : zz_S} (C : xx_C p s m args meth c kb_Mender_reaches 3 kr_Mender (some .boolean)) (hA : ∀ q, s.heap.size ≤ q → A q) (hK : va_K g.1 xx_cls (zz_T g) s) : ∀ (u : zz_S) (x1 : Int32) (y0 : Int32) (H : Heap) (locs : List Loc) (ls : Array Slot), zf_Mender_reaches_b22 u x1 y0 = some (r, u9) → lv_has ls 3 [(1, .int x1)] → va_P g.1 xx_cls (zz_W g u) H → va_D A (zz_W g u) → va_S A s.heap H locs → W p l e (xx_rm 1 20) s m args below meth c H locs 0 0 (MQ below (xx_Q g.1 (zz_T g) (zz_W g) (some (.int r)) u9 A) args s 0 0 A) (F0 m 22 ls [.int y0]) := by
  have hx := C.1
  have hb := C.2.1
  have hown := C.2.2.2.1
  have hts := C.2.2.2.2.1
  intro u x1 y0 H locs ls hF hl hP hD hS
  unfold zf_Mender_reaches_b22 at hF
  refine lv_istore_n hx hb zd_Mender_reaches_22 rfl hl (by decide) rfl (fun ls hl => ?_)
  refine lv_iload_n hx hb zd_Mender_reaches_23 rfl (lv_at hl 1 rfl) ?_
  refine lv_iconst (v := (1 : Int32)) hx hb zd_Mender_reaches_24 (by decide) ?_
  refine lv_iand hx hb zd_Mender_reaches_25 ?_
  refine lv_if_ne (tgt := 44) hx hb zd_Mender_reaches_26 (by decide) (fun hc => ?_) (fun hc => ?_)
  · have hF := xx_in' hc hF
    exact zw_Mender_reaches_b44 C hA hK  u _ _ _ hF (lv_sub hl [] rfl) hP hD hS
  · have hF := xx_ip hc hF
    refine lv_iload_n hx hb zd_Mender_reaches_29 rfl (lv_at hl 1 rfl) ?_
    refine lv_iload_n hx hb zd_Mender_reaches_30 rfl (lv_at hl 0 rfl) ?_
    refine lv_ineg hx hb zd_Mender_reaches_31 ?_
    refine lv_icmp_lt (tgt := 44) hx hb zd_Mender_reaches_32 (by decide) (fun hc => ?_) (fun hc => ?_)
    · have hF := xx_ip hc hF
      exact zw_Mender_reaches_b44 C hA hK  u _ _ _ hF (lv_sub hl [] rfl) hP hD hS
    · have hF := xx_in' hc hF
      refine lv_iload_n hx hb zd_Mender_reaches_35 rfl (lv_at hl 1 rfl) ?_
      refine lv_iload_n hx hb zd_Mender_reaches_36 rfl (lv_at hl 0 rfl) ?_
      refine lv_icmp_ge (tgt := 44) hx hb zd_Mender_reaches_37 (by decide) (fun hc => ?_) (fun hc => ?_)
      · have hF := xx_ip hc hF
        exact zw_Mender_reaches_b44 C hA hK  u _ _ _ hF (lv_sub hl [] rfl) hP hD hS
      · have hF := xx_in' hc hF
        refine lv_iconst (v := (1 : Int32)) hx hb zd_Mender_reaches_40 (by decide) ?_
        refine lv_goto (tgt := 45) hx hb zd_Mender_reaches_41 (by decide) ?_
        exact zw_Mender_reaches_b45 C hA hK  u (1 : Int32) _ _ _ hF (lv_sub hl [] rfl) hP hD hS
set_option maxHeartbeats 4000000 in
set_option maxRecDepth 100000 in
theorem zc_Mender_reaches (l : Launch) (g : xx_G) (u : zz_S) (x0 : Int32) (x1 : Int32) (r : Int32) (u9 : zz_S) (hF : zf_Mender_reaches u x0 x1 = some (r, u9)) : xx_M l g.1 (zz_T g) (zz_W g) ky_Mender_reaches kb_Mender_reaches 3 (some .boolean) (xx_rm 1 20) [.int x0, .int x1] u (some (.int r)) u9 := by
  refine xx_body (by decide) (Nat.le_of_ble_eq_true rfl) ?_
  intro p e s m args below meth c A ls C hin hK hl hA hP hD hS
  have hx := C.1
  have hb := C.2.1
  have hown := C.2.2.2.1
  have hts := C.2.2.2.2.1
  have hl : lv_has ls 3 [(0, .int x0), (1, .int x1)] := hl
  unfold zf_Mender_reaches at hF
  refine lv_iload_n hx hb zd_Mender_reaches_0 rfl (lv_at hl 0 rfl) ?_
  obtain ⟨v2, u1, eu1, hF⟩ := xx_b2_some hF
  refine xx_callS (n := 1) (As := [.int x0]) (rest := []) C (zc_Mender_isDistance l g u x0 v2 u1 eu1) ⟨kw_630, kw_628, kw_629, kw_17⟩ ⟨by decide +kernel, by decide +kernel, by decide +kernel⟩ rfl ⟨Nat.le_of_ble_eq_true rfl, Nat.le_of_ble_eq_true rfl⟩ hl.1 rfl (Nat.le_of_ble_eq_true rfl) hA hK hP hD hS ⟨Nat.le_refl _, Nat.le_refl _⟩ rfl rfl rfl zd_Mender_reaches_1 (fun H locs hP hD hS => ?_)
  refine lv_if_ne (tgt := 9) hx hb zd_Mender_reaches_4 (by decide) (fun hc => ?_) (fun hc => ?_)
  · have hF := xx_in' hc hF
    refine lv_iload_n hx hb zd_Mender_reaches_9 rfl (lv_at hl 0 rfl) ?_
    refine lv_iconst (v := (4 : Int32)) hx hb zd_Mender_reaches_10 (by decide) ?_
    refine lv_icmp_ne (tgt := 19) hx hb zd_Mender_reaches_11 (by decide) (fun hc => ?_) (fun hc => ?_)
    · have hF := xx_in' hc hF
      refine lv_sipush (v := (4096 : Int32)) hx hb zd_Mender_reaches_19 (by decide) ?_
      exact zw_Mender_reaches_b22 C hA hK  u1 x1 (4096 : Int32) _ _ _ hF (lv_sub hl [1] rfl) hP hD hS
    · have hF := xx_ip hc hF
      refine lv_ldc (v := (1048576 : Int32)) hx hb hown (hts _ kw_631) zd_Mender_reaches_14 ?_
      refine lv_goto (tgt := 22) hx hb zd_Mender_reaches_16 (by decide) ?_
      exact zw_Mender_reaches_b22 C hA hK  u1 x1 (1048576 : Int32) _ _ _ hF (lv_sub hl [1] rfl) hP hD hS
  · have hF := xx_ip hc hF
    refine lv_iconst (v := (1 : Int32)) hx hb zd_Mender_reaches_7 (by decide) ?_
    exact xx_zret C hF hK hP hD hS zd_Mender_reaches_8
set_option maxRecDepth 100000 in
theorem kw_655 : Cond.code ky_Mender_bits kb_Mender_bits 3 (some .int) ∈ xx_tb := xx_in (List.mem_append_right _ (List.mem_of_getElem? (i := 655) (by rfl))) (by decide +kernel)
theorem kw_653 : Cond.methodLink "ModuleLoader$Mender" 26 ky_Mender_bits ∈ xx_tb := xx_in (List.mem_append_right _ (List.mem_of_getElem? (i := 653) (by decide +kernel))) (by decide +kernel)
theorem kw_654 : Cond.static ky_Mender_bits ∈ xx_tb := xx_in (List.mem_append_right _ (List.mem_of_getElem? (i := 654) (by decide +kernel))) (by decide +kernel)
theorem zd_Mender_asInStore_0 : decode kb_Mender_asInStore 0 = .ok (.iload_n 0, 1) := by decide +kernel
theorem zd_Mender_asInStore_1 : decode kb_Mender_asInStore 1 = .ok (.iconst 5, 1) := by decide +kernel
theorem zd_Mender_asInStore_2 : decode kb_Mender_asInStore 2 = .ok (.bipush (7), 2) := by decide +kernel
theorem zd_Mender_asInStore_4 : decode kb_Mender_asInStore 4 = .ok (.invokestatic 26, 3) := by decide +kernel
theorem zd_Mender_asInStore_7 : decode kb_Mender_asInStore 7 = .ok (.bipush (25), 2) := by decide +kernel
theorem zd_Mender_asInStore_9 : decode kb_Mender_asInStore 9 = .ok (.ishl, 1) := by decide +kernel
theorem zd_Mender_asInStore_10 : decode kb_Mender_asInStore 10 = .ok (.iload_n 0, 1) := by decide +kernel
theorem zd_Mender_asInStore_11 : decode kb_Mender_asInStore 11 = .ok (.iconst 0, 1) := by decide +kernel
theorem zd_Mender_asInStore_12 : decode kb_Mender_asInStore 12 = .ok (.iconst 5, 1) := by decide +kernel
theorem zd_Mender_asInStore_13 : decode kb_Mender_asInStore 13 = .ok (.invokestatic 26, 3) := by decide +kernel
theorem zd_Mender_asInStore_16 : decode kb_Mender_asInStore 16 = .ok (.bipush (7), 2) := by decide +kernel
theorem zd_Mender_asInStore_18 : decode kb_Mender_asInStore 18 = .ok (.ishl, 1) := by decide +kernel
theorem zd_Mender_asInStore_19 : decode kb_Mender_asInStore 19 = .ok (.ior, 1) := by decide +kernel
theorem zd_Mender_asInStore_20 : decode kb_Mender_asInStore 20 = .ok (.ireturn, 1) := by decide +kernel
def zf_Mender_asInStore (u : zz_S) (x0 : Int32) : Option (Int32 × zz_S) := xx_b2 (zf_Mender_bits u x0 (5 : Int32) (7 : Int32)) fun v2 u1 => xx_b2 (zf_Mender_bits u1 x0 (0 : Int32) (5 : Int32)) fun v4 u3 => some (((v2 <<< ((25 : Int32) &&& 31)) ||| (v4 <<< ((7 : Int32) &&& 31))), u3)
set_option maxHeartbeats 4000000 in
set_option maxRecDepth 100000 in
theorem zc_Mender_asInStore (l : Launch) (g : xx_G) (u : zz_S) (x0 : Int32) (r : Int32) (u9 : zz_S) (hF : zf_Mender_asInStore u x0 = some (r, u9)) : xx_M l g.1 (zz_T g) (zz_W g) ky_Mender_asInStore kb_Mender_asInStore 1 (some .int) (xx_rm 1 22) [.int x0] u (some (.int r)) u9 := by
  refine xx_body (by decide) (Nat.le_of_ble_eq_true rfl) ?_
  intro p e s m args below meth c A ls C hin hK hl hA hP hD hS
  have hx := C.1
  have hb := C.2.1
  have hown := C.2.2.2.1
  have hts := C.2.2.2.2.1
  have hl : lv_has ls 1 [(0, .int x0)] := hl
  unfold zf_Mender_asInStore at hF
  refine lv_iload_n hx hb zd_Mender_asInStore_0 rfl (lv_at hl 0 rfl) ?_
  refine lv_iconst (v := (5 : Int32)) hx hb zd_Mender_asInStore_1 (by decide) ?_
  refine lv_bipush (v := (7 : Int32)) hx hb zd_Mender_asInStore_2 (by decide) ?_
  obtain ⟨v2, u1, eu1, hF⟩ := xx_b2_some hF
  refine xx_callS (n := 3) (As := [.int x0, .int (5 : Int32), .int (7 : Int32)]) (rest := []) C (zc_Mender_bits l g u x0 (5 : Int32) (7 : Int32) v2 u1 eu1) ⟨kw_655, kw_653, kw_654, kw_17⟩ ⟨by decide +kernel, by decide +kernel, by decide +kernel⟩ rfl ⟨Nat.le_of_ble_eq_true rfl, Nat.le_of_ble_eq_true rfl⟩ hl.1 rfl (Nat.le_of_ble_eq_true rfl) hA hK hP hD hS ⟨Nat.le_refl _, Nat.le_refl _⟩ rfl rfl rfl zd_Mender_asInStore_4 (fun H locs hP hD hS => ?_)
  refine lv_bipush (v := (25 : Int32)) hx hb zd_Mender_asInStore_7 (by decide) ?_
  refine lv_ishl hx hb zd_Mender_asInStore_9 ?_
  refine lv_iload_n hx hb zd_Mender_asInStore_10 rfl (lv_at hl 0 rfl) ?_
  refine lv_iconst (v := (0 : Int32)) hx hb zd_Mender_asInStore_11 (by decide) ?_
  refine lv_iconst (v := (5 : Int32)) hx hb zd_Mender_asInStore_12 (by decide) ?_
  obtain ⟨v4, u3, eu3, hF⟩ := xx_b2_some hF
  refine xx_callS (n := 3) (As := [.int x0, .int (0 : Int32), .int (5 : Int32)]) (rest := [.int (v2 <<< ((25 : Int32) &&& 31))]) C (zc_Mender_bits l g u1 x0 (0 : Int32) (5 : Int32) v4 u3 eu3) ⟨kw_655, kw_653, kw_654, kw_17⟩ ⟨by decide +kernel, by decide +kernel, by decide +kernel⟩ rfl ⟨Nat.le_of_ble_eq_true rfl, Nat.le_of_ble_eq_true rfl⟩ hl.1 rfl (Nat.le_of_ble_eq_true rfl) hA hK hP hD hS ⟨Nat.le_refl _, Nat.le_refl _⟩ rfl rfl rfl zd_Mender_asInStore_13 (fun H locs hP hD hS => ?_)
  refine lv_bipush (v := (7 : Int32)) hx hb zd_Mender_asInStore_16 (by decide) ?_
  refine lv_ishl hx hb zd_Mender_asInStore_18 ?_
  refine lv_ior hx hb zd_Mender_asInStore_19 ?_
  exact xx_iret C hF hK hP hD hS zd_Mender_asInStore_20
theorem zd_Mender_asInJump_0 : decode kb_Mender_asInJump 0 = .ok (.iload_n 0, 1) := by decide +kernel
theorem zd_Mender_asInJump_1 : decode kb_Mender_asInJump 1 = .ok (.bipush (20), 2) := by decide +kernel
theorem zd_Mender_asInJump_3 : decode kb_Mender_asInJump 3 = .ok (.iconst 1, 1) := by decide +kernel
theorem zd_Mender_asInJump_4 : decode kb_Mender_asInJump 4 = .ok (.invokestatic 26, 3) := by decide +kernel
theorem zd_Mender_asInJump_7 : decode kb_Mender_asInJump 7 = .ok (.bipush (31), 2) := by decide +kernel
theorem zd_Mender_asInJump_9 : decode kb_Mender_asInJump 9 = .ok (.ishl, 1) := by decide +kernel
theorem zd_Mender_asInJump_10 : decode kb_Mender_asInJump 10 = .ok (.iload_n 0, 1) := by decide +kernel
theorem zd_Mender_asInJump_11 : decode kb_Mender_asInJump 11 = .ok (.iconst 1, 1) := by decide +kernel
theorem zd_Mender_asInJump_12 : decode kb_Mender_asInJump 12 = .ok (.bipush (10), 2) := by decide +kernel
theorem zd_Mender_asInJump_14 : decode kb_Mender_asInJump 14 = .ok (.invokestatic 26, 3) := by decide +kernel
theorem zd_Mender_asInJump_17 : decode kb_Mender_asInJump 17 = .ok (.bipush (21), 2) := by decide +kernel
theorem zd_Mender_asInJump_19 : decode kb_Mender_asInJump 19 = .ok (.ishl, 1) := by decide +kernel
theorem zd_Mender_asInJump_20 : decode kb_Mender_asInJump 20 = .ok (.ior, 1) := by decide +kernel
theorem zd_Mender_asInJump_21 : decode kb_Mender_asInJump 21 = .ok (.iload_n 0, 1) := by decide +kernel
theorem zd_Mender_asInJump_22 : decode kb_Mender_asInJump 22 = .ok (.bipush (11), 2) := by decide +kernel
theorem zd_Mender_asInJump_24 : decode kb_Mender_asInJump 24 = .ok (.iconst 1, 1) := by decide +kernel
theorem zd_Mender_asInJump_25 : decode kb_Mender_asInJump 25 = .ok (.invokestatic 26, 3) := by decide +kernel
theorem zd_Mender_asInJump_28 : decode kb_Mender_asInJump 28 = .ok (.bipush (20), 2) := by decide +kernel
theorem zd_Mender_asInJump_30 : decode kb_Mender_asInJump 30 = .ok (.ishl, 1) := by decide +kernel
theorem zd_Mender_asInJump_31 : decode kb_Mender_asInJump 31 = .ok (.ior, 1) := by decide +kernel
theorem zd_Mender_asInJump_32 : decode kb_Mender_asInJump 32 = .ok (.iload_n 0, 1) := by decide +kernel
theorem zd_Mender_asInJump_33 : decode kb_Mender_asInJump 33 = .ok (.bipush (12), 2) := by decide +kernel
theorem zd_Mender_asInJump_35 : decode kb_Mender_asInJump 35 = .ok (.bipush (8), 2) := by decide +kernel
theorem zd_Mender_asInJump_37 : decode kb_Mender_asInJump 37 = .ok (.invokestatic 26, 3) := by decide +kernel
theorem zd_Mender_asInJump_40 : decode kb_Mender_asInJump 40 = .ok (.bipush (12), 2) := by decide +kernel
theorem zd_Mender_asInJump_42 : decode kb_Mender_asInJump 42 = .ok (.ishl, 1) := by decide +kernel
theorem zd_Mender_asInJump_43 : decode kb_Mender_asInJump 43 = .ok (.ior, 1) := by decide +kernel
theorem zd_Mender_asInJump_44 : decode kb_Mender_asInJump 44 = .ok (.ireturn, 1) := by decide +kernel
def zf_Mender_asInJump (u : zz_S) (x0 : Int32) : Option (Int32 × zz_S) := xx_b2 (zf_Mender_bits u x0 (20 : Int32) (1 : Int32)) fun v2 u1 => xx_b2 (zf_Mender_bits u1 x0 (1 : Int32) (10 : Int32)) fun v4 u3 => xx_b2 (zf_Mender_bits u3 x0 (11 : Int32) (1 : Int32)) fun v6 u5 => xx_b2 (zf_Mender_bits u5 x0 (12 : Int32) (8 : Int32)) fun v8 u7 => some (((((v2 <<< ((31 : Int32) &&& 31)) ||| (v4 <<< ((21 : Int32) &&& 31))) ||| (v6 <<< ((20 : Int32) &&& 31))) ||| (v8 <<< ((12 : Int32) &&& 31))), u7)
set_option maxHeartbeats 4000000 in
set_option maxRecDepth 100000 in
theorem zc_Mender_asInJump (l : Launch) (g : xx_G) (u : zz_S) (x0 : Int32) (r : Int32) (u9 : zz_S) (hF : zf_Mender_asInJump u x0 = some (r, u9)) : xx_M l g.1 (zz_T g) (zz_W g) ky_Mender_asInJump kb_Mender_asInJump 1 (some .int) (xx_rm 1 22) [.int x0] u (some (.int r)) u9 := by
  refine xx_body (by decide) (Nat.le_of_ble_eq_true rfl) ?_
  intro p e s m args below meth c A ls C hin hK hl hA hP hD hS
  have hx := C.1
  have hb := C.2.1
  have hown := C.2.2.2.1
  have hts := C.2.2.2.2.1
  have hl : lv_has ls 1 [(0, .int x0)] := hl
  unfold zf_Mender_asInJump at hF
  refine lv_iload_n hx hb zd_Mender_asInJump_0 rfl (lv_at hl 0 rfl) ?_
  refine lv_bipush (v := (20 : Int32)) hx hb zd_Mender_asInJump_1 (by decide) ?_
  refine lv_iconst (v := (1 : Int32)) hx hb zd_Mender_asInJump_3 (by decide) ?_
  obtain ⟨v2, u1, eu1, hF⟩ := xx_b2_some hF
  refine xx_callS (n := 3) (As := [.int x0, .int (20 : Int32), .int (1 : Int32)]) (rest := []) C (zc_Mender_bits l g u x0 (20 : Int32) (1 : Int32) v2 u1 eu1) ⟨kw_655, kw_653, kw_654, kw_17⟩ ⟨by decide +kernel, by decide +kernel, by decide +kernel⟩ rfl ⟨Nat.le_of_ble_eq_true rfl, Nat.le_of_ble_eq_true rfl⟩ hl.1 rfl (Nat.le_of_ble_eq_true rfl) hA hK hP hD hS ⟨Nat.le_refl _, Nat.le_refl _⟩ rfl rfl rfl zd_Mender_asInJump_4 (fun H locs hP hD hS => ?_)
  refine lv_bipush (v := (31 : Int32)) hx hb zd_Mender_asInJump_7 (by decide) ?_
  refine lv_ishl hx hb zd_Mender_asInJump_9 ?_
  refine lv_iload_n hx hb zd_Mender_asInJump_10 rfl (lv_at hl 0 rfl) ?_
  refine lv_iconst (v := (1 : Int32)) hx hb zd_Mender_asInJump_11 (by decide) ?_
  refine lv_bipush (v := (10 : Int32)) hx hb zd_Mender_asInJump_12 (by decide) ?_
  obtain ⟨v4, u3, eu3, hF⟩ := xx_b2_some hF
  refine xx_callS (n := 3) (As := [.int x0, .int (1 : Int32), .int (10 : Int32)]) (rest := [.int (v2 <<< ((31 : Int32) &&& 31))]) C (zc_Mender_bits l g u1 x0 (1 : Int32) (10 : Int32) v4 u3 eu3) ⟨kw_655, kw_653, kw_654, kw_17⟩ ⟨by decide +kernel, by decide +kernel, by decide +kernel⟩ rfl ⟨Nat.le_of_ble_eq_true rfl, Nat.le_of_ble_eq_true rfl⟩ hl.1 rfl (Nat.le_of_ble_eq_true rfl) hA hK hP hD hS ⟨Nat.le_refl _, Nat.le_refl _⟩ rfl rfl rfl zd_Mender_asInJump_14 (fun H locs hP hD hS => ?_)
  refine lv_bipush (v := (21 : Int32)) hx hb zd_Mender_asInJump_17 (by decide) ?_
  refine lv_ishl hx hb zd_Mender_asInJump_19 ?_
  refine lv_ior hx hb zd_Mender_asInJump_20 ?_
  refine lv_iload_n hx hb zd_Mender_asInJump_21 rfl (lv_at hl 0 rfl) ?_
  refine lv_bipush (v := (11 : Int32)) hx hb zd_Mender_asInJump_22 (by decide) ?_
  refine lv_iconst (v := (1 : Int32)) hx hb zd_Mender_asInJump_24 (by decide) ?_
  obtain ⟨v6, u5, eu5, hF⟩ := xx_b2_some hF
  refine xx_callS (n := 3) (As := [.int x0, .int (11 : Int32), .int (1 : Int32)]) (rest := [.int ((v2 <<< ((31 : Int32) &&& 31)) ||| (v4 <<< ((21 : Int32) &&& 31)))]) C (zc_Mender_bits l g u3 x0 (11 : Int32) (1 : Int32) v6 u5 eu5) ⟨kw_655, kw_653, kw_654, kw_17⟩ ⟨by decide +kernel, by decide +kernel, by decide +kernel⟩ rfl ⟨Nat.le_of_ble_eq_true rfl, Nat.le_of_ble_eq_true rfl⟩ hl.1 rfl (Nat.le_of_ble_eq_true rfl) hA hK hP hD hS ⟨Nat.le_refl _, Nat.le_refl _⟩ rfl rfl rfl zd_Mender_asInJump_25 (fun H locs hP hD hS => ?_)
  refine lv_bipush (v := (20 : Int32)) hx hb zd_Mender_asInJump_28 (by decide) ?_
  refine lv_ishl hx hb zd_Mender_asInJump_30 ?_
  refine lv_ior hx hb zd_Mender_asInJump_31 ?_
  refine lv_iload_n hx hb zd_Mender_asInJump_32 rfl (lv_at hl 0 rfl) ?_
  refine lv_bipush (v := (12 : Int32)) hx hb zd_Mender_asInJump_33 (by decide) ?_
  refine lv_bipush (v := (8 : Int32)) hx hb zd_Mender_asInJump_35 (by decide) ?_
  obtain ⟨v8, u7, eu7, hF⟩ := xx_b2_some hF
  refine xx_callS (n := 3) (As := [.int x0, .int (12 : Int32), .int (8 : Int32)]) (rest := [.int (((v2 <<< ((31 : Int32) &&& 31)) ||| (v4 <<< ((21 : Int32) &&& 31))) ||| (v6 <<< ((20 : Int32) &&& 31)))]) C (zc_Mender_bits l g u5 x0 (12 : Int32) (8 : Int32) v8 u7 eu7) ⟨kw_655, kw_653, kw_654, kw_17⟩ ⟨by decide +kernel, by decide +kernel, by decide +kernel⟩ rfl ⟨Nat.le_of_ble_eq_true rfl, Nat.le_of_ble_eq_true rfl⟩ hl.1 rfl (Nat.le_of_ble_eq_true rfl) hA hK hP hD hS ⟨Nat.le_refl _, Nat.le_refl _⟩ rfl rfl rfl zd_Mender_asInJump_37 (fun H locs hP hD hS => ?_)
  refine lv_bipush (v := (12 : Int32)) hx hb zd_Mender_asInJump_40 (by decide) ?_
  refine lv_ishl hx hb zd_Mender_asInJump_42 ?_
  refine lv_ior hx hb zd_Mender_asInJump_43 ?_
  exact xx_iret C hF hK hP hD hS zd_Mender_asInJump_44
theorem zd_Mender_asInBranch_0 : decode kb_Mender_asInBranch 0 = .ok (.iload_n 0, 1) := by decide +kernel
theorem zd_Mender_asInBranch_1 : decode kb_Mender_asInBranch 1 = .ok (.bipush (12), 2) := by decide +kernel
theorem zd_Mender_asInBranch_3 : decode kb_Mender_asInBranch 3 = .ok (.iconst 1, 1) := by decide +kernel
theorem zd_Mender_asInBranch_4 : decode kb_Mender_asInBranch 4 = .ok (.invokestatic 26, 3) := by decide +kernel
theorem zd_Mender_asInBranch_7 : decode kb_Mender_asInBranch 7 = .ok (.bipush (31), 2) := by decide +kernel
theorem zd_Mender_asInBranch_9 : decode kb_Mender_asInBranch 9 = .ok (.ishl, 1) := by decide +kernel
theorem zd_Mender_asInBranch_10 : decode kb_Mender_asInBranch 10 = .ok (.iload_n 0, 1) := by decide +kernel
theorem zd_Mender_asInBranch_11 : decode kb_Mender_asInBranch 11 = .ok (.iconst 5, 1) := by decide +kernel
theorem zd_Mender_asInBranch_12 : decode kb_Mender_asInBranch 12 = .ok (.bipush (6), 2) := by decide +kernel
theorem zd_Mender_asInBranch_14 : decode kb_Mender_asInBranch 14 = .ok (.invokestatic 26, 3) := by decide +kernel
theorem zd_Mender_asInBranch_17 : decode kb_Mender_asInBranch 17 = .ok (.bipush (25), 2) := by decide +kernel
theorem zd_Mender_asInBranch_19 : decode kb_Mender_asInBranch 19 = .ok (.ishl, 1) := by decide +kernel
theorem zd_Mender_asInBranch_20 : decode kb_Mender_asInBranch 20 = .ok (.ior, 1) := by decide +kernel
theorem zd_Mender_asInBranch_21 : decode kb_Mender_asInBranch 21 = .ok (.iload_n 0, 1) := by decide +kernel
theorem zd_Mender_asInBranch_22 : decode kb_Mender_asInBranch 22 = .ok (.iconst 1, 1) := by decide +kernel
theorem zd_Mender_asInBranch_23 : decode kb_Mender_asInBranch 23 = .ok (.iconst 4, 1) := by decide +kernel
theorem zd_Mender_asInBranch_24 : decode kb_Mender_asInBranch 24 = .ok (.invokestatic 26, 3) := by decide +kernel
theorem zd_Mender_asInBranch_27 : decode kb_Mender_asInBranch 27 = .ok (.bipush (8), 2) := by decide +kernel
theorem zd_Mender_asInBranch_29 : decode kb_Mender_asInBranch 29 = .ok (.ishl, 1) := by decide +kernel
theorem zd_Mender_asInBranch_30 : decode kb_Mender_asInBranch 30 = .ok (.ior, 1) := by decide +kernel
theorem zd_Mender_asInBranch_31 : decode kb_Mender_asInBranch 31 = .ok (.iload_n 0, 1) := by decide +kernel
theorem zd_Mender_asInBranch_32 : decode kb_Mender_asInBranch 32 = .ok (.bipush (11), 2) := by decide +kernel
theorem zd_Mender_asInBranch_34 : decode kb_Mender_asInBranch 34 = .ok (.iconst 1, 1) := by decide +kernel
theorem zd_Mender_asInBranch_35 : decode kb_Mender_asInBranch 35 = .ok (.invokestatic 26, 3) := by decide +kernel
theorem zd_Mender_asInBranch_38 : decode kb_Mender_asInBranch 38 = .ok (.bipush (7), 2) := by decide +kernel
theorem zd_Mender_asInBranch_40 : decode kb_Mender_asInBranch 40 = .ok (.ishl, 1) := by decide +kernel
theorem zd_Mender_asInBranch_41 : decode kb_Mender_asInBranch 41 = .ok (.ior, 1) := by decide +kernel
theorem zd_Mender_asInBranch_42 : decode kb_Mender_asInBranch 42 = .ok (.ireturn, 1) := by decide +kernel
def zf_Mender_asInBranch (u : zz_S) (x0 : Int32) : Option (Int32 × zz_S) := xx_b2 (zf_Mender_bits u x0 (12 : Int32) (1 : Int32)) fun v2 u1 => xx_b2 (zf_Mender_bits u1 x0 (5 : Int32) (6 : Int32)) fun v4 u3 => xx_b2 (zf_Mender_bits u3 x0 (1 : Int32) (4 : Int32)) fun v6 u5 => xx_b2 (zf_Mender_bits u5 x0 (11 : Int32) (1 : Int32)) fun v8 u7 => some (((((v2 <<< ((31 : Int32) &&& 31)) ||| (v4 <<< ((25 : Int32) &&& 31))) ||| (v6 <<< ((8 : Int32) &&& 31))) ||| (v8 <<< ((7 : Int32) &&& 31))), u7)
set_option maxHeartbeats 4000000 in
set_option maxRecDepth 100000 in
theorem zc_Mender_asInBranch (l : Launch) (g : xx_G) (u : zz_S) (x0 : Int32) (r : Int32) (u9 : zz_S) (hF : zf_Mender_asInBranch u x0 = some (r, u9)) : xx_M l g.1 (zz_T g) (zz_W g) ky_Mender_asInBranch kb_Mender_asInBranch 1 (some .int) (xx_rm 1 22) [.int x0] u (some (.int r)) u9 := by
  refine xx_body (by decide) (Nat.le_of_ble_eq_true rfl) ?_
  intro p e s m args below meth c A ls C hin hK hl hA hP hD hS
  have hx := C.1
  have hb := C.2.1
  have hown := C.2.2.2.1
  have hts := C.2.2.2.2.1
  have hl : lv_has ls 1 [(0, .int x0)] := hl
  unfold zf_Mender_asInBranch at hF
  refine lv_iload_n hx hb zd_Mender_asInBranch_0 rfl (lv_at hl 0 rfl) ?_
  refine lv_bipush (v := (12 : Int32)) hx hb zd_Mender_asInBranch_1 (by decide) ?_
  refine lv_iconst (v := (1 : Int32)) hx hb zd_Mender_asInBranch_3 (by decide) ?_
  obtain ⟨v2, u1, eu1, hF⟩ := xx_b2_some hF
  refine xx_callS (n := 3) (As := [.int x0, .int (12 : Int32), .int (1 : Int32)]) (rest := []) C (zc_Mender_bits l g u x0 (12 : Int32) (1 : Int32) v2 u1 eu1) ⟨kw_655, kw_653, kw_654, kw_17⟩ ⟨by decide +kernel, by decide +kernel, by decide +kernel⟩ rfl ⟨Nat.le_of_ble_eq_true rfl, Nat.le_of_ble_eq_true rfl⟩ hl.1 rfl (Nat.le_of_ble_eq_true rfl) hA hK hP hD hS ⟨Nat.le_refl _, Nat.le_refl _⟩ rfl rfl rfl zd_Mender_asInBranch_4 (fun H locs hP hD hS => ?_)
  refine lv_bipush (v := (31 : Int32)) hx hb zd_Mender_asInBranch_7 (by decide) ?_
  refine lv_ishl hx hb zd_Mender_asInBranch_9 ?_
  refine lv_iload_n hx hb zd_Mender_asInBranch_10 rfl (lv_at hl 0 rfl) ?_
  refine lv_iconst (v := (5 : Int32)) hx hb zd_Mender_asInBranch_11 (by decide) ?_
  refine lv_bipush (v := (6 : Int32)) hx hb zd_Mender_asInBranch_12 (by decide) ?_
  obtain ⟨v4, u3, eu3, hF⟩ := xx_b2_some hF
  refine xx_callS (n := 3) (As := [.int x0, .int (5 : Int32), .int (6 : Int32)]) (rest := [.int (v2 <<< ((31 : Int32) &&& 31))]) C (zc_Mender_bits l g u1 x0 (5 : Int32) (6 : Int32) v4 u3 eu3) ⟨kw_655, kw_653, kw_654, kw_17⟩ ⟨by decide +kernel, by decide +kernel, by decide +kernel⟩ rfl ⟨Nat.le_of_ble_eq_true rfl, Nat.le_of_ble_eq_true rfl⟩ hl.1 rfl (Nat.le_of_ble_eq_true rfl) hA hK hP hD hS ⟨Nat.le_refl _, Nat.le_refl _⟩ rfl rfl rfl zd_Mender_asInBranch_14 (fun H locs hP hD hS => ?_)
  refine lv_bipush (v := (25 : Int32)) hx hb zd_Mender_asInBranch_17 (by decide) ?_
  refine lv_ishl hx hb zd_Mender_asInBranch_19 ?_
  refine lv_ior hx hb zd_Mender_asInBranch_20 ?_
  refine lv_iload_n hx hb zd_Mender_asInBranch_21 rfl (lv_at hl 0 rfl) ?_
  refine lv_iconst (v := (1 : Int32)) hx hb zd_Mender_asInBranch_22 (by decide) ?_
  refine lv_iconst (v := (4 : Int32)) hx hb zd_Mender_asInBranch_23 (by decide) ?_
  obtain ⟨v6, u5, eu5, hF⟩ := xx_b2_some hF
  refine xx_callS (n := 3) (As := [.int x0, .int (1 : Int32), .int (4 : Int32)]) (rest := [.int ((v2 <<< ((31 : Int32) &&& 31)) ||| (v4 <<< ((25 : Int32) &&& 31)))]) C (zc_Mender_bits l g u3 x0 (1 : Int32) (4 : Int32) v6 u5 eu5) ⟨kw_655, kw_653, kw_654, kw_17⟩ ⟨by decide +kernel, by decide +kernel, by decide +kernel⟩ rfl ⟨Nat.le_of_ble_eq_true rfl, Nat.le_of_ble_eq_true rfl⟩ hl.1 rfl (Nat.le_of_ble_eq_true rfl) hA hK hP hD hS ⟨Nat.le_refl _, Nat.le_refl _⟩ rfl rfl rfl zd_Mender_asInBranch_24 (fun H locs hP hD hS => ?_)
  refine lv_bipush (v := (8 : Int32)) hx hb zd_Mender_asInBranch_27 (by decide) ?_
  refine lv_ishl hx hb zd_Mender_asInBranch_29 ?_
  refine lv_ior hx hb zd_Mender_asInBranch_30 ?_
  refine lv_iload_n hx hb zd_Mender_asInBranch_31 rfl (lv_at hl 0 rfl) ?_
  refine lv_bipush (v := (11 : Int32)) hx hb zd_Mender_asInBranch_32 (by decide) ?_
  refine lv_iconst (v := (1 : Int32)) hx hb zd_Mender_asInBranch_34 (by decide) ?_
  obtain ⟨v8, u7, eu7, hF⟩ := xx_b2_some hF
  refine xx_callS (n := 3) (As := [.int x0, .int (11 : Int32), .int (1 : Int32)]) (rest := [.int (((v2 <<< ((31 : Int32) &&& 31)) ||| (v4 <<< ((25 : Int32) &&& 31))) ||| (v6 <<< ((8 : Int32) &&& 31)))]) C (zc_Mender_bits l g u5 x0 (11 : Int32) (1 : Int32) v8 u7 eu7) ⟨kw_655, kw_653, kw_654, kw_17⟩ ⟨by decide +kernel, by decide +kernel, by decide +kernel⟩ rfl ⟨Nat.le_of_ble_eq_true rfl, Nat.le_of_ble_eq_true rfl⟩ hl.1 rfl (Nat.le_of_ble_eq_true rfl) hA hK hP hD hS ⟨Nat.le_refl _, Nat.le_refl _⟩ rfl rfl rfl zd_Mender_asInBranch_35 (fun H locs hP hD hS => ?_)
  refine lv_bipush (v := (7 : Int32)) hx hb zd_Mender_asInBranch_38 (by decide) ?_
  refine lv_ishl hx hb zd_Mender_asInBranch_40 ?_
  refine lv_ior hx hb zd_Mender_asInBranch_41 ?_
  exact xx_iret C hF hK hP hD hS zd_Mender_asInBranch_42
theorem kw_103 : Cond.fieldLink "ModuleLoader$ModuleFile" 9 "ModuleLoader$ModuleFile" "tape" "LModuleLoader$Tape;" ∈ xx_tb := xx_in (List.mem_append_right _ (List.mem_of_getElem? (i := 103) (by decide +kernel))) (by decide +kernel)
set_option maxRecDepth 100000 in
theorem kw_510 : Cond.code ky_Tape_wordAt kb_Tape_wordAt 2 (some .int) ∈ xx_tb := xx_in (List.mem_append_right _ (List.mem_of_getElem? (i := 510) (by rfl))) (by decide +kernel)
theorem kw_507 : Cond.methodLink "ModuleLoader$ModuleFile" 21 ky_Tape_wordAt ∈ xx_tb := xx_in (List.mem_append_right _ (List.mem_of_getElem? (i := 507) (by decide +kernel))) (by decide +kernel)
theorem kw_508 : Cond.instanceMethod ky_Tape_wordAt ∈ xx_tb := xx_in (List.mem_append_right _ (List.mem_of_getElem? (i := 508) (by decide +kernel))) (by decide +kernel)
theorem kw_509 : Cond.selects "ModuleLoader$Tape" ky_Tape_wordAt ky_Tape_wordAt ∈ xx_tb := xx_in (List.mem_append_right _ (List.mem_of_getElem? (i := 509) (by decide +kernel))) (by decide +kernel)
theorem kw_4 : Cond.initialized "ModuleLoader$Tape" ∈ xx_tb := xx_in (List.mem_append_right _ (List.mem_of_getElem? (i := 4) (by decide +kernel))) (by decide +kernel)
theorem kw_88 : Cond.fieldLink "ModuleLoader$ModuleFile" 33 "ModuleLoader$ModuleFile" "size" "I" ∈ xx_tb := xx_in (List.mem_append_right _ (List.mem_of_getElem? (i := 88) (by decide +kernel))) (by decide +kernel)
theorem kw_90 : Cond.fieldLink "ModuleLoader$ModuleFile" 40 "ModuleLoader$ModuleFile" "imports" "I" ∈ xx_tb := xx_in (List.mem_append_right _ (List.mem_of_getElem? (i := 90) (by decide +kernel))) (by decide +kernel)
theorem kw_93 : Cond.fieldLink "ModuleLoader$ModuleFile" 46 "ModuleLoader$ModuleFile" "exports" "I" ∈ xx_tb := xx_in (List.mem_append_right _ (List.mem_of_getElem? (i := 93) (by decide +kernel))) (by decide +kernel)
theorem kw_95 : Cond.fieldLink "ModuleLoader$ModuleFile" 52 "ModuleLoader$ModuleFile" "places" "I" ∈ xx_tb := xx_in (List.mem_append_right _ (List.mem_of_getElem? (i := 95) (by decide +kernel))) (by decide +kernel)
theorem kw_97 : Cond.fieldLink "ModuleLoader$ModuleFile" 64 "ModuleLoader$ModuleFile" "init" "I" ∈ xx_tb := xx_in (List.mem_append_right _ (List.mem_of_getElem? (i := 97) (by decide +kernel))) (by decide +kernel)
theorem kw_100 : Cond.fieldLink "ModuleLoader$ModuleFile" 67 "ModuleLoader$ModuleFile" "exit" "I" ∈ xx_tb := xx_in (List.mem_append_right _ (List.mem_of_getElem? (i := 100) (by decide +kernel))) (by decide +kernel)
theorem kw_102 : Cond.fieldLink "ModuleLoader$ModuleFile" 70 "ModuleLoader$ModuleFile" "guarded" "I" ∈ xx_tb := xx_in (List.mem_append_right _ (List.mem_of_getElem? (i := 102) (by decide +kernel))) (by decide +kernel)
theorem zd_ModuleFile_readHeader_0 : decode kb_ModuleFile_readHeader 0 = .ok (.aload_n 0, 1) := by decide +kernel
theorem zd_ModuleFile_readHeader_1 : decode kb_ModuleFile_readHeader 1 = .ok (.aload_n 0, 1) := by decide +kernel
theorem zd_ModuleFile_readHeader_2 : decode kb_ModuleFile_readHeader 2 = .ok (.getfield 9, 3) := by decide +kernel
theorem zd_ModuleFile_readHeader_5 : decode kb_ModuleFile_readHeader 5 = .ok (.iconst 1, 1) := by decide +kernel
theorem zd_ModuleFile_readHeader_6 : decode kb_ModuleFile_readHeader 6 = .ok (.invokevirtual 21, 3) := by decide +kernel
theorem zd_ModuleFile_readHeader_9 : decode kb_ModuleFile_readHeader 9 = .ok (.putfield 33, 3) := by decide +kernel
theorem zd_ModuleFile_readHeader_12 : decode kb_ModuleFile_readHeader 12 = .ok (.aload_n 0, 1) := by decide +kernel
theorem zd_ModuleFile_readHeader_13 : decode kb_ModuleFile_readHeader 13 = .ok (.aload_n 0, 1) := by decide +kernel
theorem zd_ModuleFile_readHeader_14 : decode kb_ModuleFile_readHeader 14 = .ok (.getfield 9, 3) := by decide +kernel
theorem zd_ModuleFile_readHeader_17 : decode kb_ModuleFile_readHeader 17 = .ok (.iconst 2, 1) := by decide +kernel
theorem zd_ModuleFile_readHeader_18 : decode kb_ModuleFile_readHeader 18 = .ok (.invokevirtual 21, 3) := by decide +kernel
theorem zd_ModuleFile_readHeader_21 : decode kb_ModuleFile_readHeader 21 = .ok (.putfield 40, 3) := by decide +kernel
theorem zd_ModuleFile_readHeader_24 : decode kb_ModuleFile_readHeader 24 = .ok (.aload_n 0, 1) := by decide +kernel
theorem zd_ModuleFile_readHeader_25 : decode kb_ModuleFile_readHeader 25 = .ok (.aload_n 0, 1) := by decide +kernel
theorem zd_ModuleFile_readHeader_26 : decode kb_ModuleFile_readHeader 26 = .ok (.getfield 9, 3) := by decide +kernel
theorem zd_ModuleFile_readHeader_29 : decode kb_ModuleFile_readHeader 29 = .ok (.iconst 3, 1) := by decide +kernel
theorem zd_ModuleFile_readHeader_30 : decode kb_ModuleFile_readHeader 30 = .ok (.invokevirtual 21, 3) := by decide +kernel
theorem zd_ModuleFile_readHeader_33 : decode kb_ModuleFile_readHeader 33 = .ok (.putfield 46, 3) := by decide +kernel
theorem zd_ModuleFile_readHeader_36 : decode kb_ModuleFile_readHeader 36 = .ok (.aload_n 0, 1) := by decide +kernel
theorem zd_ModuleFile_readHeader_37 : decode kb_ModuleFile_readHeader 37 = .ok (.aload_n 0, 1) := by decide +kernel
theorem zd_ModuleFile_readHeader_38 : decode kb_ModuleFile_readHeader 38 = .ok (.getfield 9, 3) := by decide +kernel
theorem zd_ModuleFile_readHeader_41 : decode kb_ModuleFile_readHeader 41 = .ok (.iconst 4, 1) := by decide +kernel
theorem zd_ModuleFile_readHeader_42 : decode kb_ModuleFile_readHeader 42 = .ok (.invokevirtual 21, 3) := by decide +kernel
theorem zd_ModuleFile_readHeader_45 : decode kb_ModuleFile_readHeader 45 = .ok (.putfield 52, 3) := by decide +kernel
theorem zd_ModuleFile_readHeader_48 : decode kb_ModuleFile_readHeader 48 = .ok (.aload_n 0, 1) := by decide +kernel
theorem zd_ModuleFile_readHeader_49 : decode kb_ModuleFile_readHeader 49 = .ok (.aload_n 0, 1) := by decide +kernel
theorem zd_ModuleFile_readHeader_50 : decode kb_ModuleFile_readHeader 50 = .ok (.getfield 9, 3) := by decide +kernel
theorem zd_ModuleFile_readHeader_53 : decode kb_ModuleFile_readHeader 53 = .ok (.iconst 5, 1) := by decide +kernel
theorem zd_ModuleFile_readHeader_54 : decode kb_ModuleFile_readHeader 54 = .ok (.invokevirtual 21, 3) := by decide +kernel
theorem zd_ModuleFile_readHeader_57 : decode kb_ModuleFile_readHeader 57 = .ok (.putfield 64, 3) := by decide +kernel
theorem zd_ModuleFile_readHeader_60 : decode kb_ModuleFile_readHeader 60 = .ok (.aload_n 0, 1) := by decide +kernel
theorem zd_ModuleFile_readHeader_61 : decode kb_ModuleFile_readHeader 61 = .ok (.aload_n 0, 1) := by decide +kernel
theorem zd_ModuleFile_readHeader_62 : decode kb_ModuleFile_readHeader 62 = .ok (.getfield 9, 3) := by decide +kernel
theorem zd_ModuleFile_readHeader_65 : decode kb_ModuleFile_readHeader 65 = .ok (.bipush (6), 2) := by decide +kernel
theorem zd_ModuleFile_readHeader_67 : decode kb_ModuleFile_readHeader 67 = .ok (.invokevirtual 21, 3) := by decide +kernel
theorem zd_ModuleFile_readHeader_70 : decode kb_ModuleFile_readHeader 70 = .ok (.putfield 67, 3) := by decide +kernel
theorem zd_ModuleFile_readHeader_73 : decode kb_ModuleFile_readHeader 73 = .ok (.aload_n 0, 1) := by decide +kernel
theorem zd_ModuleFile_readHeader_74 : decode kb_ModuleFile_readHeader 74 = .ok (.aload_n 0, 1) := by decide +kernel
theorem zd_ModuleFile_readHeader_75 : decode kb_ModuleFile_readHeader 75 = .ok (.getfield 9, 3) := by decide +kernel
theorem zd_ModuleFile_readHeader_78 : decode kb_ModuleFile_readHeader 78 = .ok (.bipush (7), 2) := by decide +kernel
theorem zd_ModuleFile_readHeader_80 : decode kb_ModuleFile_readHeader 80 = .ok (.invokevirtual 21, 3) := by decide +kernel
theorem zd_ModuleFile_readHeader_83 : decode kb_ModuleFile_readHeader 83 = .ok (.putfield 70, 3) := by decide +kernel
theorem zd_ModuleFile_readHeader_86 : decode kb_ModuleFile_readHeader 86 = .ok (.return_, 1) := by decide +kernel
def zf_ModuleFile_readHeader (u : zz_S) : Option (zz_S) := xx_b2 (zf_Tape_wordAt u (1 : Int32)) fun v2 u1 => xx_nm (va_up u1.1 5 v2, u1.2) fun u3 => xx_b2 (zf_Tape_wordAt u3 (2 : Int32)) fun v5 u4 => xx_nm (va_up u4.1 6 v5, u4.2) fun u6 => xx_b2 (zf_Tape_wordAt u6 (3 : Int32)) fun v8 u7 => xx_nm (va_up u7.1 7 v8, u7.2) fun u9 => xx_b2 (zf_Tape_wordAt u9 (4 : Int32)) fun v11 u10 => xx_nm (va_up u10.1 8 v11, u10.2) fun u12 => xx_b2 (zf_Tape_wordAt u12 (5 : Int32)) fun v14 u13 => xx_nm (va_up u13.1 9 v14, u13.2) fun u15 => xx_b2 (zf_Tape_wordAt u15 (6 : Int32)) fun v17 u16 => xx_nm (va_up u16.1 10 v17, u16.2) fun u18 => xx_b2 (zf_Tape_wordAt u18 (7 : Int32)) fun v20 u19 => xx_nm (va_up u19.1 11 v20, u19.2) fun u21 => some u21
set_option maxHeartbeats 4000000 in
set_option maxRecDepth 100000 in
theorem zc_ModuleFile_readHeader (l : Launch) (g : xx_G) (u : zz_S) (u9 : zz_S) (hF : zf_ModuleFile_readHeader u = some u9) : xx_M l g.1 (zz_T g) (zz_W g) ky_ModuleFile_readHeader kb_ModuleFile_readHeader 1 none (xx_rm 1 21) [.ref (g.2.1 8)] u none u9 := by
  refine xx_body (by decide) (Nat.le_of_ble_eq_true rfl) ?_
  intro p e s m args below meth c A ls C hin hK hl hA hP hD hS
  have hx := C.1
  have hb := C.2.1
  have hown := C.2.2.2.1
  have hts := C.2.2.2.2.1
  have hl : lv_has ls 1 [(0, .ref (g.2.1 8))] := hl
  unfold zf_ModuleFile_readHeader at hF
  refine lv_aload_n hx hb zd_ModuleFile_readHeader_0 rfl (lv_at hl 0 rfl) ?_
  refine lv_aload_n hx hb zd_ModuleFile_readHeader_1 rfl (lv_at hl 0 rfl) ?_
  refine xx_get C ki_ModuleFile hK hP 8 rfl rfl 7 (by decide) kw_103 rfl rfl zd_ModuleFile_readHeader_2 ?_
  refine lv_iconst (v := (1 : Int32)) hx hb zd_ModuleFile_readHeader_5 (by decide) ?_
  obtain ⟨v2, u1, eu1, hF⟩ := xx_b2_some hF
  refine xx_callV (n := 1) (As := [.int (1 : Int32)]) (rest := [.ref (g.2.1 8)]) C (zc_Tape_wordAt l g u (1 : Int32) v2 u1 eu1) ⟨kw_510, kw_507, kw_508, kw_509, kw_4⟩ ⟨by decide +kernel, by decide +kernel, by decide +kernel⟩ rfl ⟨Nat.le_of_ble_eq_true rfl, Nat.le_of_ble_eq_true rfl⟩ 6 rfl rfl hl.1 rfl (Nat.le_of_ble_eq_true rfl) hA hK hP hD hS ⟨Nat.le_refl _, Nat.le_refl _⟩ rfl rfl rfl zd_ModuleFile_readHeader_6 (fun H locs hP hD hS => ?_)
  obtain ⟨u3, eu3, hF⟩ := xx_nm_some hF
  refine xx_put (ws1 := zz_W g u3) C ki_ModuleFile kt_ModuleFile ko_ModuleFile kn_ModuleFile hK hP hD hS 8 rfl rfl 0 (by decide) kw_88 rfl rfl rfl rfl (Nat.le_of_ble_eq_true rfl) (by rw [eu3]; rfl) zd_ModuleFile_readHeader_9 (fun H locs hP hD hS => ?_)
  refine lv_aload_n hx hb zd_ModuleFile_readHeader_12 rfl (lv_at hl 0 rfl) ?_
  refine lv_aload_n hx hb zd_ModuleFile_readHeader_13 rfl (lv_at hl 0 rfl) ?_
  refine xx_get C ki_ModuleFile hK hP 8 rfl rfl 7 (by decide) kw_103 rfl rfl zd_ModuleFile_readHeader_14 ?_
  refine lv_iconst (v := (2 : Int32)) hx hb zd_ModuleFile_readHeader_17 (by decide) ?_
  obtain ⟨v5, u4, eu4, hF⟩ := xx_b2_some hF
  refine xx_callV (n := 1) (As := [.int (2 : Int32)]) (rest := [.ref (g.2.1 8)]) C (zc_Tape_wordAt l g u3 (2 : Int32) v5 u4 eu4) ⟨kw_510, kw_507, kw_508, kw_509, kw_4⟩ ⟨by decide +kernel, by decide +kernel, by decide +kernel⟩ rfl ⟨Nat.le_of_ble_eq_true rfl, Nat.le_of_ble_eq_true rfl⟩ 6 rfl rfl hl.1 rfl (Nat.le_of_ble_eq_true rfl) hA hK hP hD hS ⟨Nat.le_refl _, Nat.le_refl _⟩ rfl rfl rfl zd_ModuleFile_readHeader_18 (fun H locs hP hD hS => ?_)
  obtain ⟨u6, eu6, hF⟩ := xx_nm_some hF
  refine xx_put (ws1 := zz_W g u6) C ki_ModuleFile kt_ModuleFile ko_ModuleFile kn_ModuleFile hK hP hD hS 8 rfl rfl 1 (by decide) kw_90 rfl rfl rfl rfl (Nat.le_of_ble_eq_true rfl) (by rw [eu6]; rfl) zd_ModuleFile_readHeader_21 (fun H locs hP hD hS => ?_)
  refine lv_aload_n hx hb zd_ModuleFile_readHeader_24 rfl (lv_at hl 0 rfl) ?_
  refine lv_aload_n hx hb zd_ModuleFile_readHeader_25 rfl (lv_at hl 0 rfl) ?_
  refine xx_get C ki_ModuleFile hK hP 8 rfl rfl 7 (by decide) kw_103 rfl rfl zd_ModuleFile_readHeader_26 ?_
  refine lv_iconst (v := (3 : Int32)) hx hb zd_ModuleFile_readHeader_29 (by decide) ?_
  obtain ⟨v8, u7, eu7, hF⟩ := xx_b2_some hF
  refine xx_callV (n := 1) (As := [.int (3 : Int32)]) (rest := [.ref (g.2.1 8)]) C (zc_Tape_wordAt l g u6 (3 : Int32) v8 u7 eu7) ⟨kw_510, kw_507, kw_508, kw_509, kw_4⟩ ⟨by decide +kernel, by decide +kernel, by decide +kernel⟩ rfl ⟨Nat.le_of_ble_eq_true rfl, Nat.le_of_ble_eq_true rfl⟩ 6 rfl rfl hl.1 rfl (Nat.le_of_ble_eq_true rfl) hA hK hP hD hS ⟨Nat.le_refl _, Nat.le_refl _⟩ rfl rfl rfl zd_ModuleFile_readHeader_30 (fun H locs hP hD hS => ?_)
  obtain ⟨u9, eu9, hF⟩ := xx_nm_some hF
  refine xx_put (ws1 := zz_W g u9) C ki_ModuleFile kt_ModuleFile ko_ModuleFile kn_ModuleFile hK hP hD hS 8 rfl rfl 2 (by decide) kw_93 rfl rfl rfl rfl (Nat.le_of_ble_eq_true rfl) (by rw [eu9]; rfl) zd_ModuleFile_readHeader_33 (fun H locs hP hD hS => ?_)
  refine lv_aload_n hx hb zd_ModuleFile_readHeader_36 rfl (lv_at hl 0 rfl) ?_
  refine lv_aload_n hx hb zd_ModuleFile_readHeader_37 rfl (lv_at hl 0 rfl) ?_
  refine xx_get C ki_ModuleFile hK hP 8 rfl rfl 7 (by decide) kw_103 rfl rfl zd_ModuleFile_readHeader_38 ?_
  refine lv_iconst (v := (4 : Int32)) hx hb zd_ModuleFile_readHeader_41 (by decide) ?_
  obtain ⟨v11, u10, eu10, hF⟩ := xx_b2_some hF
  refine xx_callV (n := 1) (As := [.int (4 : Int32)]) (rest := [.ref (g.2.1 8)]) C (zc_Tape_wordAt l g u9 (4 : Int32) v11 u10 eu10) ⟨kw_510, kw_507, kw_508, kw_509, kw_4⟩ ⟨by decide +kernel, by decide +kernel, by decide +kernel⟩ rfl ⟨Nat.le_of_ble_eq_true rfl, Nat.le_of_ble_eq_true rfl⟩ 6 rfl rfl hl.1 rfl (Nat.le_of_ble_eq_true rfl) hA hK hP hD hS ⟨Nat.le_refl _, Nat.le_refl _⟩ rfl rfl rfl zd_ModuleFile_readHeader_42 (fun H locs hP hD hS => ?_)
  obtain ⟨u12, eu12, hF⟩ := xx_nm_some hF
  refine xx_put (ws1 := zz_W g u12) C ki_ModuleFile kt_ModuleFile ko_ModuleFile kn_ModuleFile hK hP hD hS 8 rfl rfl 3 (by decide) kw_95 rfl rfl rfl rfl (Nat.le_of_ble_eq_true rfl) (by rw [eu12]; rfl) zd_ModuleFile_readHeader_45 (fun H locs hP hD hS => ?_)
  refine lv_aload_n hx hb zd_ModuleFile_readHeader_48 rfl (lv_at hl 0 rfl) ?_
  refine lv_aload_n hx hb zd_ModuleFile_readHeader_49 rfl (lv_at hl 0 rfl) ?_
  refine xx_get C ki_ModuleFile hK hP 8 rfl rfl 7 (by decide) kw_103 rfl rfl zd_ModuleFile_readHeader_50 ?_
  refine lv_iconst (v := (5 : Int32)) hx hb zd_ModuleFile_readHeader_53 (by decide) ?_
  obtain ⟨v14, u13, eu13, hF⟩ := xx_b2_some hF
  refine xx_callV (n := 1) (As := [.int (5 : Int32)]) (rest := [.ref (g.2.1 8)]) C (zc_Tape_wordAt l g u12 (5 : Int32) v14 u13 eu13) ⟨kw_510, kw_507, kw_508, kw_509, kw_4⟩ ⟨by decide +kernel, by decide +kernel, by decide +kernel⟩ rfl ⟨Nat.le_of_ble_eq_true rfl, Nat.le_of_ble_eq_true rfl⟩ 6 rfl rfl hl.1 rfl (Nat.le_of_ble_eq_true rfl) hA hK hP hD hS ⟨Nat.le_refl _, Nat.le_refl _⟩ rfl rfl rfl zd_ModuleFile_readHeader_54 (fun H locs hP hD hS => ?_)
  obtain ⟨u15, eu15, hF⟩ := xx_nm_some hF
  refine xx_put (ws1 := zz_W g u15) C ki_ModuleFile kt_ModuleFile ko_ModuleFile kn_ModuleFile hK hP hD hS 8 rfl rfl 4 (by decide) kw_97 rfl rfl rfl rfl (Nat.le_of_ble_eq_true rfl) (by rw [eu15]; rfl) zd_ModuleFile_readHeader_57 (fun H locs hP hD hS => ?_)
  refine lv_aload_n hx hb zd_ModuleFile_readHeader_60 rfl (lv_at hl 0 rfl) ?_
  refine lv_aload_n hx hb zd_ModuleFile_readHeader_61 rfl (lv_at hl 0 rfl) ?_
  refine xx_get C ki_ModuleFile hK hP 8 rfl rfl 7 (by decide) kw_103 rfl rfl zd_ModuleFile_readHeader_62 ?_
  refine lv_bipush (v := (6 : Int32)) hx hb zd_ModuleFile_readHeader_65 (by decide) ?_
  obtain ⟨v17, u16, eu16, hF⟩ := xx_b2_some hF
  refine xx_callV (n := 1) (As := [.int (6 : Int32)]) (rest := [.ref (g.2.1 8)]) C (zc_Tape_wordAt l g u15 (6 : Int32) v17 u16 eu16) ⟨kw_510, kw_507, kw_508, kw_509, kw_4⟩ ⟨by decide +kernel, by decide +kernel, by decide +kernel⟩ rfl ⟨Nat.le_of_ble_eq_true rfl, Nat.le_of_ble_eq_true rfl⟩ 6 rfl rfl hl.1 rfl (Nat.le_of_ble_eq_true rfl) hA hK hP hD hS ⟨Nat.le_refl _, Nat.le_refl _⟩ rfl rfl rfl zd_ModuleFile_readHeader_67 (fun H locs hP hD hS => ?_)
  obtain ⟨u18, eu18, hF⟩ := xx_nm_some hF
  refine xx_put (ws1 := zz_W g u18) C ki_ModuleFile kt_ModuleFile ko_ModuleFile kn_ModuleFile hK hP hD hS 8 rfl rfl 5 (by decide) kw_100 rfl rfl rfl rfl (Nat.le_of_ble_eq_true rfl) (by rw [eu18]; rfl) zd_ModuleFile_readHeader_70 (fun H locs hP hD hS => ?_)
  refine lv_aload_n hx hb zd_ModuleFile_readHeader_73 rfl (lv_at hl 0 rfl) ?_
  refine lv_aload_n hx hb zd_ModuleFile_readHeader_74 rfl (lv_at hl 0 rfl) ?_
  refine xx_get C ki_ModuleFile hK hP 8 rfl rfl 7 (by decide) kw_103 rfl rfl zd_ModuleFile_readHeader_75 ?_
  refine lv_bipush (v := (7 : Int32)) hx hb zd_ModuleFile_readHeader_78 (by decide) ?_
  obtain ⟨v20, u19, eu19, hF⟩ := xx_b2_some hF
  refine xx_callV (n := 1) (As := [.int (7 : Int32)]) (rest := [.ref (g.2.1 8)]) C (zc_Tape_wordAt l g u18 (7 : Int32) v20 u19 eu19) ⟨kw_510, kw_507, kw_508, kw_509, kw_4⟩ ⟨by decide +kernel, by decide +kernel, by decide +kernel⟩ rfl ⟨Nat.le_of_ble_eq_true rfl, Nat.le_of_ble_eq_true rfl⟩ 6 rfl rfl hl.1 rfl (Nat.le_of_ble_eq_true rfl) hA hK hP hD hS ⟨Nat.le_refl _, Nat.le_refl _⟩ rfl rfl rfl zd_ModuleFile_readHeader_80 (fun H locs hP hD hS => ?_)
  obtain ⟨u21, eu21, hF⟩ := xx_nm_some hF
  refine xx_put (ws1 := zz_W g u21) C ki_ModuleFile kt_ModuleFile ko_ModuleFile kn_ModuleFile hK hP hD hS 8 rfl rfl 6 (by decide) kw_102 rfl rfl rfl rfl (Nat.le_of_ble_eq_true rfl) (by rw [eu21]; rfl) zd_ModuleFile_readHeader_83 (fun H locs hP hD hS => ?_)
  exact xx_vret C hF hK hP hD hS zd_ModuleFile_readHeader_86
