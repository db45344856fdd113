theorem zd_Memory_shiftOf_0 : decode kb_Memory_shiftOf 0 = .ok (.bipush (8), 2) := by decide +kernel
theorem zd_Memory_shiftOf_2 : decode kb_Memory_shiftOf 2 = .ok (.iload_n 0, 1) := by decide +kernel
theorem zd_Memory_shiftOf_3 : decode kb_Memory_shiftOf 3 = .ok (.iconst 3, 1) := by decide +kernel
theorem zd_Memory_shiftOf_4 : decode kb_Memory_shiftOf 4 = .ok (.iand, 1) := by decide +kernel
theorem zd_Memory_shiftOf_5 : decode kb_Memory_shiftOf 5 = .ok (.imul, 1) := by decide +kernel
theorem zd_Memory_shiftOf_6 : decode kb_Memory_shiftOf 6 = .ok (.ireturn, 1) := by decide +kernel
def zf_Memory_shiftOf (u : zz_S) (x0 : Int32) : Option (Int32 × zz_S) := some (((8 : Int32) * (x0 &&& (3 : Int32))), u)
set_option maxHeartbeats 4000000 in
set_option maxRecDepth 100000 in
theorem zc_Memory_shiftOf (l : Launch) (g : xx_G) (u : zz_S) (x0 : Int32) (r : Int32) (u9 : zz_S) (hF : zf_Memory_shiftOf u x0 = some (r, u9)) : xx_M l g.1 (zz_T g) (zz_W g) ky_Memory_shiftOf kb_Memory_shiftOf 1 (some .int) (xx_rm 0 0) [.int x0] u (some (.int r)) u9 := by
  refine xx_body (by decide) (Nat.le_of_ble_eq_true rfl) ?_
  intro p e s m args below meth c A ls C hin hK hl hA hP hD hS
  have hx := C.1
  have hb := C.2.1
  have hown := C.2.2.2.1
  have hts := C.2.2.2.2.1
  have hl : lv_has ls 1 [(0, .int x0)] := hl
  unfold zf_Memory_shiftOf at hF
  refine lv_bipush (v := (8 : Int32)) hx hb zd_Memory_shiftOf_0 (by decide) ?_
  refine lv_iload_n hx hb zd_Memory_shiftOf_2 rfl (lv_at hl 0 rfl) ?_
  refine lv_iconst (v := (3 : Int32)) hx hb zd_Memory_shiftOf_3 (by decide) ?_
  refine lv_iand hx hb zd_Memory_shiftOf_4 ?_
  refine lv_imul hx hb zd_Memory_shiftOf_5 ?_
  exact xx_iret C hF hK hP hD hS zd_Memory_shiftOf_6
theorem zd_Memory_maskOf_0 : decode kb_Memory_maskOf 0 = .ok (.iload_n 0, 1) := by decide +kernel
theorem zd_Memory_maskOf_1 : decode kb_Memory_maskOf 1 = .ok (.iconst 4, 1) := by decide +kernel
theorem zd_Memory_maskOf_2 : decode kb_Memory_maskOf 2 = .ok (.if_icmp .ne (7), 3) := by decide +kernel
theorem zd_Memory_maskOf_5 : decode kb_Memory_maskOf 5 = .ok (.iconst (-1), 1) := by decide +kernel
theorem zd_Memory_maskOf_6 : decode kb_Memory_maskOf 6 = .ok (.goto (11), 3) := by decide +kernel
theorem zd_Memory_maskOf_9 : decode kb_Memory_maskOf 9 = .ok (.iconst 1, 1) := by decide +kernel
theorem zd_Memory_maskOf_10 : decode kb_Memory_maskOf 10 = .ok (.bipush (8), 2) := by decide +kernel
theorem zd_Memory_maskOf_12 : decode kb_Memory_maskOf 12 = .ok (.iload_n 0, 1) := by decide +kernel
theorem zd_Memory_maskOf_13 : decode kb_Memory_maskOf 13 = .ok (.imul, 1) := by decide +kernel
theorem zd_Memory_maskOf_14 : decode kb_Memory_maskOf 14 = .ok (.ishl, 1) := by decide +kernel
theorem zd_Memory_maskOf_15 : decode kb_Memory_maskOf 15 = .ok (.iconst 1, 1) := by decide +kernel
theorem zd_Memory_maskOf_16 : decode kb_Memory_maskOf 16 = .ok (.isub, 1) := by decide +kernel
theorem zd_Memory_maskOf_17 : decode kb_Memory_maskOf 17 = .ok (.ireturn, 1) := by decide +kernel
def zf_Memory_maskOf_b17 (u : zz_S) (y0 : Int32) : Option (Int32 × zz_S) := some (y0, u)
def zf_Memory_maskOf (u : zz_S) (x0 : Int32) : Option (Int32 × zz_S) := if x0 = (4 : Int32) then (zf_Memory_maskOf_b17 u (-1 : Int32)) else (zf_Memory_maskOf_b17 u (((1 : Int32) <<< (((8 : Int32) * x0) &&& 31)) - (1 : Int32)))
set_option maxHeartbeats 4000000 in
set_option maxRecDepth 100000 in
theorem zw_Memory_maskOf_b17 {p : Program} {l : Launch} {e : Env} {s : State} {m : MethodId} {args : Array Value} {below : List Frame} {meth : Method} {c : Code} {A : Nat → Prop} {g : xx_G} {r : Int32} {u9 : zz_S} (C : xx_C p s m args meth c kb_Memory_maskOf 1 kr_Memory (some .int)) (hA : ∀ q, s.heap.size ≤ q → A q) (hK : va_K g.1 xx_cls (zz_T g) s) : ∀ (u : zz_S) (y0 : Int32) (H : Heap) (locs : List Loc) (ls : Array Slot), zf_Memory_maskOf_b17 u y0 = some (r, u9) → lv_has ls 1 [] → va_P g.1 xx_cls (zz_W g u) H → va_D A (zz_W g u) → va_S A s.heap H locs → W p l e (xx_rm 0 0) s m args below meth c H locs 0 0 (MQ below (xx_Q g.1 (zz_T g) (zz_W g) (some (.int r)) u9 A) args s 0 0 A) (F0 m 17 ls [.int y0]) := by
  have hx := C.1
  have hb := C.2.1
  have hown := C.2.2.2.1
  have hts := C.2.2.2.2.1
  intro u y0 H locs ls hF hl hP hD hS
  unfold zf_Memory_maskOf_b17 at hF
  exact xx_iret C hF hK hP hD hS zd_Memory_maskOf_17
set_option maxHeartbeats 4000000 in
set_option maxRecDepth 100000 in
theorem zc_Memory_maskOf (l : Launch) (g : xx_G) (u : zz_S) (x0 : Int32) (r : Int32) (u9 : zz_S) (hF : zf_Memory_maskOf u x0 = some (r, u9)) : xx_M l g.1 (zz_T g) (zz_W g) ky_Memory_maskOf kb_Memory_maskOf 1 (some .int) (xx_rm 0 0) [.int x0] u (some (.int r)) u9 := by
  refine xx_body (by decide) (Nat.le_of_ble_eq_true rfl) ?_
  intro p e s m args below meth c A ls C hin hK hl hA hP hD hS
  have hx := C.1
  have hb := C.2.1
  have hown := C.2.2.2.1
  have hts := C.2.2.2.2.1
  have hl : lv_has ls 1 [(0, .int x0)] := hl
  unfold zf_Memory_maskOf at hF
  refine lv_iload_n hx hb zd_Memory_maskOf_0 rfl (lv_at hl 0 rfl) ?_
  refine lv_iconst (v := (4 : Int32)) hx hb zd_Memory_maskOf_1 (by decide) ?_
  refine lv_icmp_ne (tgt := 9) hx hb zd_Memory_maskOf_2 (by decide) (fun hc => ?_) (fun hc => ?_)
  · have hF := xx_in' hc hF
    refine lv_iconst (v := (1 : Int32)) hx hb zd_Memory_maskOf_9 (by decide) ?_
    refine lv_bipush (v := (8 : Int32)) hx hb zd_Memory_maskOf_10 (by decide) ?_
    refine lv_iload_n hx hb zd_Memory_maskOf_12 rfl (lv_at hl 0 rfl) ?_
    refine lv_imul hx hb zd_Memory_maskOf_13 ?_
    refine lv_ishl hx hb zd_Memory_maskOf_14 ?_
    refine lv_iconst (v := (1 : Int32)) hx hb zd_Memory_maskOf_15 (by decide) ?_
    refine lv_isub hx hb zd_Memory_maskOf_16 ?_
    exact zw_Memory_maskOf_b17 C hA hK  u (((1 : Int32) <<< (((8 : Int32) * x0) &&& 31)) - (1 : Int32)) _ _ _ hF (lv_sub hl [] rfl) hP hD hS
  · have hF := xx_ip hc hF
    refine lv_iconst (v := (-1 : Int32)) hx hb zd_Memory_maskOf_5 (by decide) ?_
    refine lv_goto (tgt := 17) hx hb zd_Memory_maskOf_6 (by decide) ?_
    exact zw_Memory_maskOf_b17 C hA hK  u (-1 : Int32) _ _ _ hF (lv_sub hl [] rfl) hP hD hS
theorem zd_Mender_isDistance_0 : decode kb_Mender_isDistance 0 = .ok (.iload_n 0, 1) := by decide +kernel
theorem zd_Mender_isDistance_1 : decode kb_Mender_isDistance 1 = .ok (.iconst 4, 1) := by decide +kernel
theorem zd_Mender_isDistance_2 : decode kb_Mender_isDistance 2 = .ok (.if_icmp .eq (8), 3) := by decide +kernel
theorem zd_Mender_isDistance_5 : decode kb_Mender_isDistance 5 = .ok (.iload_n 0, 1) := by decide +kernel
theorem zd_Mender_isDistance_6 : decode kb_Mender_isDistance 6 = .ok (.iconst 5, 1) := by decide +kernel
theorem zd_Mender_isDistance_7 : decode kb_Mender_isDistance 7 = .ok (.if_icmp .ne (7), 3) := by decide +kernel
theorem zd_Mender_isDistance_10 : decode kb_Mender_isDistance 10 = .ok (.iconst 1, 1) := by decide +kernel
theorem zd_Mender_isDistance_11 : decode kb_Mender_isDistance 11 = .ok (.goto (4), 3) := by decide +kernel
theorem zd_Mender_isDistance_14 : decode kb_Mender_isDistance 14 = .ok (.iconst 0, 1) := by decide +kernel
theorem zd_Mender_isDistance_15 : decode kb_Mender_isDistance 15 = .ok (.ireturn, 1) := by decide +kernel
def zf_Mender_isDistance_b15 (u : zz_S) (y0 : Int32) : Option (Int32 × zz_S) := some (vp_nar .boolean y0, u)
def zf_Mender_isDistance_b10 (u : zz_S) : Option (Int32 × zz_S) := zf_Mender_isDistance_b15 u (1 : Int32)
def zf_Mender_isDistance (u : zz_S) (x0 : Int32) : Option (Int32 × zz_S) := if x0 = (4 : Int32) then (zf_Mender_isDistance_b10 u) else (if x0 = (5 : Int32) then (zf_Mender_isDistance_b10 u) else (zf_Mender_isDistance_b15 u (0 : Int32)))
set_option maxHeartbeats 4000000 in
set_option maxRecDepth 100000 in
theorem zw_Mender_isDistance_b15 {p : Program} {l : Launch} {e : Env} {s : State} {m : MethodId} {args : Array Value} {below : List Frame} {meth : Method} {c : Code} {A : Nat → Prop} {g : xx_G} {r : Int32} {u9 : zz_S} (C : xx_C p s m args meth c kb_Mender_isDistance 1 kr_Mender (some .boolean)) (hA : ∀ q, s.heap.size ≤ q → A q) (hK : va_K g.1 xx_cls (zz_T g) s) : ∀ (u : zz_S) (y0 : Int32) (H : Heap) (locs : List Loc) (ls : Array Slot), zf_Mender_isDistance_b15 u y0 = some (r, u9) → lv_has ls 1 [] → va_P g.1 xx_cls (zz_W g u) H → va_D A (zz_W g u) → va_S A s.heap H locs → W p l e (xx_rm 0 0) s m args below meth c H locs 0 0 (MQ below (xx_Q g.1 (zz_T g) (zz_W g) (some (.int r)) u9 A) args s 0 0 A) (F0 m 15 ls [.int y0]) := by
  have hx := C.1
  have hb := C.2.1
  have hown := C.2.2.2.1
  have hts := C.2.2.2.2.1
  intro u y0 H locs ls hF hl hP hD hS
  unfold zf_Mender_isDistance_b15 at hF
  exact xx_zret C hF hK hP hD hS zd_Mender_isDistance_15
set_option maxHeartbeats 4000000 in
set_option maxRecDepth 100000 in
theorem zw_Mender_isDistance_b10 {p : Program} {l : Launch} {e : Env} {s : State} {m : MethodId} {args : Array Value} {below : List Frame} {meth : Method} {c : Code} {A : Nat → Prop} {g : xx_G} {r : Int32} {u9 : zz_S} (C : xx_C p s m args meth c kb_Mender_isDistance 1 kr_Mender (some .boolean)) (hA : ∀ q, s.heap.size ≤ q → A q) (hK : va_K g.1 xx_cls (zz_T g) s) : ∀ (u : zz_S) (H : Heap) (locs : List Loc) (ls : Array Slot), zf_Mender_isDistance_b10 u = some (r, u9) → lv_has ls 1 [] → va_P g.1 xx_cls (zz_W g u) H → va_D A (zz_W g u) → va_S A s.heap H locs → W p l e (xx_rm 0 0) s m args below meth c H locs 0 0 (MQ below (xx_Q g.1 (zz_T g) (zz_W g) (some (.int r)) u9 A) args s 0 0 A) (F0 m 10 ls []) := by
  have hx := C.1
  have hb := C.2.1
  have hown := C.2.2.2.1
  have hts := C.2.2.2.2.1
  intro u H locs ls hF hl hP hD hS
  unfold zf_Mender_isDistance_b10 at hF
  refine lv_iconst (v := (1 : Int32)) hx hb zd_Mender_isDistance_10 (by decide) ?_
  refine lv_goto (tgt := 15) hx hb zd_Mender_isDistance_11 (by decide) ?_
  exact zw_Mender_isDistance_b15 C hA hK  u (1 : Int32) _ _ _ hF (lv_sub hl [] rfl) hP hD hS
set_option maxHeartbeats 4000000 in
set_option maxRecDepth 100000 in
theorem zc_Mender_isDistance (l : Launch) (g : xx_G) (u : zz_S) (x0 : Int32) (r : Int32) (u9 : zz_S) (hF : zf_Mender_isDistance u x0 = some (r, u9)) : xx_M l g.1 (zz_T g) (zz_W g) ky_Mender_isDistance kb_Mender_isDistance 1 (some .boolean) (xx_rm 0 0) [.int x0] u (some (.int r)) u9 := by
  refine xx_body (by decide) (Nat.le_of_ble_eq_true rfl) ?_
  intro p e s m args below meth c A ls C hin hK hl hA hP hD hS
  have hx := C.1
  have hb := C.2.1
  have hown := C.2.2.2.1
  have hts := C.2.2.2.2.1
  have hl : lv_has ls 1 [(0, .int x0)] := hl
  unfold zf_Mender_isDistance at hF
  refine lv_iload_n hx hb zd_Mender_isDistance_0 rfl (lv_at hl 0 rfl) ?_
  refine lv_iconst (v := (4 : Int32)) hx hb zd_Mender_isDistance_1 (by decide) ?_
  refine lv_icmp_eq (tgt := 10) hx hb zd_Mender_isDistance_2 (by decide) (fun hc => ?_) (fun hc => ?_)
  · have hF := xx_ip hc hF
    exact zw_Mender_isDistance_b10 C hA hK  u _ _ _ hF (lv_sub hl [] rfl) hP hD hS
  · have hF := xx_in' hc hF
    refine lv_iload_n hx hb zd_Mender_isDistance_5 rfl (lv_at hl 0 rfl) ?_
    refine lv_iconst (v := (5 : Int32)) hx hb zd_Mender_isDistance_6 (by decide) ?_
    refine lv_icmp_ne (tgt := 14) hx hb zd_Mender_isDistance_7 (by decide) (fun hc => ?_) (fun hc => ?_)
    · have hF := xx_in' hc hF
      refine lv_iconst (v := (0 : Int32)) hx hb zd_Mender_isDistance_14 (by decide) ?_
      exact zw_Mender_isDistance_b15 C hA hK  u (0 : Int32) _ _ _ hF (lv_sub hl [] rfl) hP hD hS
    · have hF := xx_ip hc hF
      exact zw_Mender_isDistance_b10 C hA hK  u _ _ _ hF (lv_sub hl [] rfl) hP hD hS
theorem zd_Mender_bits_0 : decode kb_Mender_bits 0 = .ok (.iload_n 0, 1) := by decide +kernel
theorem zd_Mender_bits_1 : decode kb_Mender_bits 1 = .ok (.iload_n 1, 1) := by decide +kernel
theorem zd_Mender_bits_2 : decode kb_Mender_bits 2 = .ok (.iushr, 1) := by decide +kernel
theorem zd_Mender_bits_3 : decode kb_Mender_bits 3 = .ok (.iconst 1, 1) := by decide +kernel
theorem zd_Mender_bits_4 : decode kb_Mender_bits 4 = .ok (.iload_n 2, 1) := by decide +kernel
theorem zd_Mender_bits_5 : decode kb_Mender_bits 5 = .ok (.ishl, 1) := by decide +kernel
theorem zd_Mender_bits_6 : decode kb_Mender_bits 6 = .ok (.iconst 1, 1) := by decide +kernel
theorem zd_Mender_bits_7 : decode kb_Mender_bits 7 = .ok (.isub, 1) := by decide +kernel
theorem zd_Mender_bits_8 : decode kb_Mender_bits 8 = .ok (.iand, 1) := by decide +kernel
theorem zd_Mender_bits_9 : decode kb_Mender_bits 9 = .ok (.ireturn, 1) := by decide +kernel
def zf_Mender_bits (u : zz_S) (x0 : Int32) (x1 : Int32) (x2 : Int32) : Option (Int32 × zz_S) := some (((xx_ush x0 x1) &&& (((1 : Int32) <<< (x2 &&& 31)) - (1 : Int32))), u)
set_option maxHeartbeats 4000000 in
set_option maxRecDepth 100000 in
theorem zc_Mender_bits (l : Launch) (g : xx_G) (u : zz_S) (x0 : Int32) (x1 : Int32) (x2 : Int32) (r : Int32) (u9 : zz_S) (hF : zf_Mender_bits u x0 x1 x2 = some (r, u9)) : xx_M l g.1 (zz_T g) (zz_W g) ky_Mender_bits kb_Mender_bits 3 (some .int) (xx_rm 0 0) [.int x0, .int x1, .int x2] u (some (.int r)) u9 := by
  refine xx_body (by decide) (Nat.le_of_ble_eq_true rfl) ?_
  intro p e s m args below meth c A ls C hin hK hl hA hP hD hS
  have hx := C.1
  have hb := C.2.1
  have hown := C.2.2.2.1
  have hts := C.2.2.2.2.1
  have hl : lv_has ls 3 [(0, .int x0), (1, .int x1), (2, .int x2)] := hl
  unfold zf_Mender_bits at hF
  refine lv_iload_n hx hb zd_Mender_bits_0 rfl (lv_at hl 0 rfl) ?_
  refine lv_iload_n hx hb zd_Mender_bits_1 rfl (lv_at hl 1 rfl) ?_
  refine lv_iushr hx hb zd_Mender_bits_2 (xx_ush_eq x0 x1) ?_
  refine lv_iconst (v := (1 : Int32)) hx hb zd_Mender_bits_3 (by decide) ?_
  refine lv_iload_n hx hb zd_Mender_bits_4 rfl (lv_at hl 2 rfl) ?_
  refine lv_ishl hx hb zd_Mender_bits_5 ?_
  refine lv_iconst (v := (1 : Int32)) hx hb zd_Mender_bits_6 (by decide) ?_
  refine lv_isub hx hb zd_Mender_bits_7 ?_
  refine lv_iand hx hb zd_Mender_bits_8 ?_
  exact xx_iret C hF hK hP hD hS zd_Mender_bits_9
theorem zd_ModuleFile_isUpTo_0 : decode kb_ModuleFile_isUpTo 0 = .ok (.iload_n 0, 1) := by decide +kernel
theorem zd_ModuleFile_isUpTo_1 : decode kb_ModuleFile_isUpTo 1 = .ok (.ifCond .lt (12), 3) := by decide +kernel
theorem zd_ModuleFile_isUpTo_4 : decode kb_ModuleFile_isUpTo 4 = .ok (.iload_n 0, 1) := by decide +kernel
theorem zd_ModuleFile_isUpTo_5 : decode kb_ModuleFile_isUpTo 5 = .ok (.iload_n 1, 1) := by decide +kernel
theorem zd_ModuleFile_isUpTo_6 : decode kb_ModuleFile_isUpTo 6 = .ok (.if_icmp .gt (7), 3) := by decide +kernel
theorem zd_ModuleFile_isUpTo_9 : decode kb_ModuleFile_isUpTo 9 = .ok (.iconst 1, 1) := by decide +kernel
theorem zd_ModuleFile_isUpTo_10 : decode kb_ModuleFile_isUpTo 10 = .ok (.goto (4), 3) := by decide +kernel
theorem zd_ModuleFile_isUpTo_13 : decode kb_ModuleFile_isUpTo 13 = .ok (.iconst 0, 1) := by decide +kernel
theorem zd_ModuleFile_isUpTo_14 : decode kb_ModuleFile_isUpTo 14 = .ok (.ireturn, 1) := by decide +kernel
def zf_ModuleFile_isUpTo_b14 (u : zz_S) (y0 : Int32) : Option (Int32 × zz_S) := some (vp_nar .boolean y0, u)
def zf_ModuleFile_isUpTo_b13 (u : zz_S) : Option (Int32 × zz_S) := zf_ModuleFile_isUpTo_b14 u (0 : Int32)
def zf_ModuleFile_isUpTo (u : zz_S) (x0 : Int32) (x1 : Int32) : Option (Int32 × zz_S) := if x0 < 0 then (zf_ModuleFile_isUpTo_b13 u) else (if x1 < x0 then (zf_ModuleFile_isUpTo_b13 u) else (zf_ModuleFile_isUpTo_b14 u (1 : Int32)))
set_option maxHeartbeats 4000000 in
set_option maxRecDepth 100000 in
theorem zw_ModuleFile_isUpTo_b14 {p : Program} {l : Launch} {e : Env} {s : State} {m : MethodId} {args : Array Value} {below : List Frame} {meth : Method} {c : Code} {A : Nat → Prop} {g : xx_G} {r : Int32} {u9 : zz_S} (C : xx_C p s m args meth c kb_ModuleFile_isUpTo 2 kr_ModuleFile (some .boolean)) (hA : ∀ q, s.heap.size ≤ q → A q) (hK : va_K g.1 xx_cls (zz_T g) s) : ∀ (u : zz_S) (y0 : Int32) (H : Heap) (locs : List Loc) (ls : Array Slot), zf_ModuleFile_isUpTo_b14 u y0 = some (r, u9) → lv_has ls 2 [] → va_P g.1 xx_cls (zz_W g u) H → va_D A (zz_W g u) → va_S A s.heap H locs → W p l e (xx_rm 0 0) s m args below meth c H locs 0 0 (MQ below (xx_Q g.1 (zz_T g) (zz_W g) (some (.int r)) u9 A) args s 0 0 A) (F0 m 14 ls [.int y0]) := by
  have hx := C.1
  have hb := C.2.1
  have hown := C.2.2.2.1
  have hts := C.2.2.2.2.1
  intro u y0 H locs ls hF hl hP hD hS
  unfold zf_ModuleFile_isUpTo_b14 at hF
  exact xx_zret C hF hK hP hD hS zd_ModuleFile_isUpTo_14
set_option maxHeartbeats 4000000 in
set_option maxRecDepth 100000 in
theorem zw_ModuleFile_isUpTo_b13 {p : Program} {l : Launch} {e : Env} {s : State} {m : MethodId} {args : Array Value} {below : List Frame} {meth : Method} {c : Code} {A : Nat → Prop} {g : xx_G} {r : Int32} {u9 : zz_S} (C : xx_C p s m args meth c kb_ModuleFile_isUpTo 2 kr_ModuleFile (some .boolean)) (hA : ∀ q, s.heap.size ≤ q → A q) (hK : va_K g.1 xx_cls (zz_T g) s) : ∀ (u : zz_S) (H : Heap) (locs : List Loc) (ls : Array Slot), zf_ModuleFile_isUpTo_b13 u = some (r, u9) → lv_has ls 2 [] → va_P g.1 xx_cls (zz_W g u) H → va_D A (zz_W g u) → va_S A s.heap H locs → W p l e (xx_rm 0 0) s m args below meth c H locs 0 0 (MQ below (xx_Q g.1 (zz_T g) (zz_W g) (some (.int r)) u9 A) args s 0 0 A) (F0 m 13 ls []) := by
  have hx := C.1
  have hb := C.2.1
  have hown := C.2.2.2.1
  have hts := C.2.2.2.2.1
  intro u H locs ls hF hl hP hD hS
  unfold zf_ModuleFile_isUpTo_b13 at hF
  refine lv_iconst (v := (0 : Int32)) hx hb zd_ModuleFile_isUpTo_13 (by decide) ?_
  exact zw_ModuleFile_isUpTo_b14 C hA hK  u (0 : Int32) _ _ _ hF (lv_sub hl [] rfl) hP hD hS
set_option maxHeartbeats 4000000 in
set_option maxRecDepth 100000 in
theorem zc_ModuleFile_isUpTo (l : Launch) (g : xx_G) (u : zz_S) (x0 : Int32) (x1 : Int32) (r : Int32) (u9 : zz_S) (hF : zf_ModuleFile_isUpTo u x0 x1 = some (r, u9)) : xx_M l g.1 (zz_T g) (zz_W g) ky_ModuleFile_isUpTo kb_ModuleFile_isUpTo 2 (some .boolean) (xx_rm 0 0) [.int x0, .int x1] u (some (.int r)) u9 := by
  refine xx_body (by decide) (Nat.le_of_ble_eq_true rfl) ?_
  intro p e s m args below meth c A ls C hin hK hl hA hP hD hS
  have hx := C.1
  have hb := C.2.1
  have hown := C.2.2.2.1
  have hts := C.2.2.2.2.1
  have hl : lv_has ls 2 [(0, .int x0), (1, .int x1)] := hl
  unfold zf_ModuleFile_isUpTo at hF
  refine lv_iload_n hx hb zd_ModuleFile_isUpTo_0 rfl (lv_at hl 0 rfl) ?_
  refine lv_if_lt (tgt := 13) hx hb zd_ModuleFile_isUpTo_1 (by decide) (fun hc => ?_) (fun hc => ?_)
  · have hF := xx_ip hc hF
    exact zw_ModuleFile_isUpTo_b13 C hA hK  u _ _ _ hF (lv_sub hl [] rfl) hP hD hS
  · have hF := xx_in' hc hF
    refine lv_iload_n hx hb zd_ModuleFile_isUpTo_4 rfl (lv_at hl 0 rfl) ?_
    refine lv_iload_n hx hb zd_ModuleFile_isUpTo_5 rfl (lv_at hl 1 rfl) ?_
    refine lv_icmp_gt (tgt := 13) hx hb zd_ModuleFile_isUpTo_6 (by decide) (fun hc => ?_) (fun hc => ?_)
    · have hF := xx_ip hc hF
      exact zw_ModuleFile_isUpTo_b13 C hA hK  u _ _ _ hF (lv_sub hl [] rfl) hP hD hS
    · have hF := xx_in' hc hF
      refine lv_iconst (v := (1 : Int32)) hx hb zd_ModuleFile_isUpTo_9 (by decide) ?_
      refine lv_goto (tgt := 14) hx hb zd_ModuleFile_isUpTo_10 (by decide) ?_
      exact zw_ModuleFile_isUpTo_b14 C hA hK  u (1 : Int32) _ _ _ hF (lv_sub hl [] rfl) hP hD hS
theorem zd_ModuleTable_rowsFor_0 : decode kb_ModuleTable_rowsFor 0 = .ok (.iload_n 0, 1) := by decide +kernel
theorem zd_ModuleTable_rowsFor_1 : decode kb_ModuleTable_rowsFor 1 = .ok (.bipush (16), 2) := by decide +kernel
theorem zd_ModuleTable_rowsFor_3 : decode kb_ModuleTable_rowsFor 3 = .ok (.iadd, 1) := by decide +kernel
theorem zd_ModuleTable_rowsFor_4 : decode kb_ModuleTable_rowsFor 4 = .ok (.iconst 1, 1) := by decide +kernel
theorem zd_ModuleTable_rowsFor_5 : decode kb_ModuleTable_rowsFor 5 = .ok (.isub, 1) := by decide +kernel
theorem zd_ModuleTable_rowsFor_6 : decode kb_ModuleTable_rowsFor 6 = .ok (.bipush (16), 2) := by decide +kernel
theorem zd_ModuleTable_rowsFor_8 : decode kb_ModuleTable_rowsFor 8 = .ok (.idiv, 1) := by decide +kernel
theorem zd_ModuleTable_rowsFor_9 : decode kb_ModuleTable_rowsFor 9 = .ok (.ireturn, 1) := by decide +kernel
def zf_ModuleTable_rowsFor (u : zz_S) (x0 : Int32) : Option (Int32 × zz_S) := some ((((x0 + (16 : Int32)) - (1 : Int32)) / (16 : Int32)), u)
set_option maxHeartbeats 4000000 in
set_option maxRecDepth 100000 in
theorem zc_ModuleTable_rowsFor (l : Launch) (g : xx_G) (u : zz_S) (x0 : Int32) (r : Int32) (u9 : zz_S) (hF : zf_ModuleTable_rowsFor u x0 = some (r, u9)) : xx_M l g.1 (zz_T g) (zz_W g) ky_ModuleTable_rowsFor kb_ModuleTable_rowsFor 1 (some .int) (xx_rm 0 0) [.int x0] u (some (.int r)) u9 := by
  refine xx_body (by decide) (Nat.le_of_ble_eq_true rfl) ?_
  intro p e s m args below meth c A ls C hin hK hl hA hP hD hS
  have hx := C.1
  have hb := C.2.1
  have hown := C.2.2.2.1
  have hts := C.2.2.2.2.1
  have hl : lv_has ls 1 [(0, .int x0)] := hl
  unfold zf_ModuleTable_rowsFor at hF
  refine lv_iload_n hx hb zd_ModuleTable_rowsFor_0 rfl (lv_at hl 0 rfl) ?_
  refine lv_bipush (v := (16 : Int32)) hx hb zd_ModuleTable_rowsFor_1 (by decide) ?_
  refine lv_iadd hx hb zd_ModuleTable_rowsFor_3 ?_
  refine lv_iconst (v := (1 : Int32)) hx hb zd_ModuleTable_rowsFor_4 (by decide) ?_
  refine lv_isub hx hb zd_ModuleTable_rowsFor_5 ?_
  refine lv_bipush (v := (16 : Int32)) hx hb zd_ModuleTable_rowsFor_6 (by decide) ?_
  refine lv_idiv hx hb zd_ModuleTable_rowsFor_8 (by decide) ?_
  exact xx_iret C hF hK hP hD hS zd_ModuleTable_rowsFor_9
theorem kw_154 : Cond.fieldLink "ModuleLoader$ModuleTable" 17 "ModuleLoader$ModuleTable" "used" "I" ∈ xx_tb := xx_in (List.mem_append_right _ (List.mem_of_getElem? (i := 154) (by decide +kernel))) (by decide +kernel)
theorem zd_ModuleTable_size_0 : decode kb_ModuleTable_size 0 = .ok (.aload_n 0, 1) := by decide +kernel
theorem zd_ModuleTable_size_1 : decode kb_ModuleTable_size 1 = .ok (.getfield 17, 3) := by decide +kernel
theorem zd_ModuleTable_size_4 : decode kb_ModuleTable_size 4 = .ok (.ireturn, 1) := by decide +kernel
def zf_ModuleTable_size (u : zz_S) : Option (Int32 × zz_S) := some ((u.1 16), u)
set_option maxHeartbeats 4000000 in
set_option maxRecDepth 100000 in
theorem zc_ModuleTable_size (l : Launch) (g : xx_G) (u : zz_S) (r : Int32) (u9 : zz_S) (hF : zf_ModuleTable_size u = some (r, u9)) : xx_M l g.1 (zz_T g) (zz_W g) ky_ModuleTable_size kb_ModuleTable_size 1 (some .int) (xx_rm 0 0) [.ref (g.2.1 11)] u (some (.int r)) u9 := by
  refine xx_body (by decide) (Nat.le_of_ble_eq_true rfl) ?_
  intro p e s m args below meth c A ls C hin hK hl hA hP hD hS
  have hx := C.1
  have hb := C.2.1
  have hown := C.2.2.2.1
  have hts := C.2.2.2.2.1
  have hl : lv_has ls 1 [(0, .ref (g.2.1 11))] := hl
  unfold zf_ModuleTable_size at hF
  refine lv_aload_n hx hb zd_ModuleTable_size_0 rfl (lv_at hl 0 rfl) ?_
  refine xx_get C ki_ModuleTable hK hP 11 rfl rfl 1 (by decide) kw_154 rfl rfl zd_ModuleTable_size_1 ?_
  exact xx_iret C hF hK hP hD hS zd_ModuleTable_size_4
theorem zd_ModuleTable_isFull_0 : decode kb_ModuleTable_isFull 0 = .ok (.aload_n 0, 1) := by decide +kernel
theorem zd_ModuleTable_isFull_1 : decode kb_ModuleTable_isFull 1 = .ok (.getfield 17, 3) := by decide +kernel
theorem zd_ModuleTable_isFull_4 : decode kb_ModuleTable_isFull 4 = .ok (.bipush (12), 2) := by decide +kernel
theorem zd_ModuleTable_isFull_6 : decode kb_ModuleTable_isFull 6 = .ok (.if_icmp .ne (7), 3) := by decide +kernel
theorem zd_ModuleTable_isFull_9 : decode kb_ModuleTable_isFull 9 = .ok (.iconst 1, 1) := by decide +kernel
theorem zd_ModuleTable_isFull_10 : decode kb_ModuleTable_isFull 10 = .ok (.goto (4), 3) := by decide +kernel
theorem zd_ModuleTable_isFull_13 : decode kb_ModuleTable_isFull 13 = .ok (.iconst 0, 1) := by decide +kernel
theorem zd_ModuleTable_isFull_14 : decode kb_ModuleTable_isFull 14 = .ok (.ireturn, 1) := by decide +kernel
def zf_ModuleTable_isFull_b14 (u : zz_S) (y0 : Int32) : Option (Int32 × zz_S) := some (vp_nar .boolean y0, u)
def zf_ModuleTable_isFull (u : zz_S) : Option (Int32 × zz_S) := if (u.1 16) = (12 : Int32) then (zf_ModuleTable_isFull_b14 u (1 : Int32)) else (zf_ModuleTable_isFull_b14 u (0 : Int32))
set_option maxHeartbeats 4000000 in
set_option maxRecDepth 100000 in
theorem zw_ModuleTable_isFull_b14 {p : Program} {l : Launch} {e : Env} {s : State} {m : MethodId} {args : Array Value} {below : List Frame} {meth : Method} {c : Code} {A : Nat → Prop} {g : xx_G} {r : Int32} {u9 : zz_S} (C : xx_C p s m args meth c kb_ModuleTable_isFull 1 kr_ModuleTable (some .boolean)) (hA : ∀ q, s.heap.size ≤ q → A q) (hK : va_K g.1 xx_cls (zz_T g) s) : ∀ (u : zz_S) (y0 : Int32) (H : Heap) (locs : List Loc) (ls : Array Slot), zf_ModuleTable_isFull_b14 u y0 = some (r, u9) → lv_has ls 1 [] → va_P g.1 xx_cls (zz_W g u) H → va_D A (zz_W g u) → va_S A s.heap H locs → W p l e (xx_rm 0 0) s m args below meth c H locs 0 0 (MQ below (xx_Q g.1 (zz_T g) (zz_W g) (some (.int r)) u9 A) args s 0 0 A) (F0 m 14 ls [.int y0]) := by
  have hx := C.1
  have hb := C.2.1
  have hown := C.2.2.2.1
  have hts := C.2.2.2.2.1
  intro u y0 H locs ls hF hl hP hD hS
  unfold zf_ModuleTable_isFull_b14 at hF
  exact xx_zret C hF hK hP hD hS zd_ModuleTable_isFull_14
set_option maxHeartbeats 4000000 in
set_option maxRecDepth 100000 in
theorem zc_ModuleTable_isFull (l : Launch) (g : xx_G) (u : zz_S) (r : Int32) (u9 : zz_S) (hF : zf_ModuleTable_isFull u = some (r, u9)) : xx_M l g.1 (zz_T g) (zz_W g) ky_ModuleTable_isFull kb_ModuleTable_isFull 1 (some .boolean) (xx_rm 0 0) [.ref (g.2.1 11)] u (some (.int r)) u9 := by
  refine xx_body (by decide) (Nat.le_of_ble_eq_true rfl) ?_
  intro p e s m args below meth c A ls C hin hK hl hA hP hD hS
  have hx := C.1
  have hb := C.2.1
  have hown := C.2.2.2.1
  have hts := C.2.2.2.2.1
  have hl : lv_has ls 1 [(0, .ref (g.2.1 11))] := hl
  unfold zf_ModuleTable_isFull at hF
  refine lv_aload_n hx hb zd_ModuleTable_isFull_0 rfl (lv_at hl 0 rfl) ?_
  refine xx_get C ki_ModuleTable hK hP 11 rfl rfl 1 (by decide) kw_154 rfl rfl zd_ModuleTable_isFull_1 ?_
  refine lv_bipush (v := (12 : Int32)) hx hb zd_ModuleTable_isFull_4 (by decide) ?_
  refine lv_icmp_ne (tgt := 13) hx hb zd_ModuleTable_isFull_6 (by decide) (fun hc => ?_) (fun hc => ?_)
  · have hF := xx_in' hc hF
    refine lv_iconst (v := (0 : Int32)) hx hb zd_ModuleTable_isFull_13 (by decide) ?_
    exact zw_ModuleTable_isFull_b14 C hA hK  u (0 : Int32) _ _ _ hF (lv_sub hl [] rfl) hP hD hS
  · have hF := xx_ip hc hF
    refine lv_iconst (v := (1 : Int32)) hx hb zd_ModuleTable_isFull_9 (by decide) ?_
    refine lv_goto (tgt := 14) hx hb zd_ModuleTable_isFull_10 (by decide) ?_
    exact zw_ModuleTable_isFull_b14 C hA hK  u (1 : Int32) _ _ _ hF (lv_sub hl [] rfl) hP hD hS
theorem kw_153 : Cond.fieldLink "ModuleLoader$ModuleTable" 13 "ModuleLoader$ModuleTable" "entries" "[LModuleLoader$LoadedModule;" ∈ xx_tb := xx_in (List.mem_append_right _ (List.mem_of_getElem? (i := 153) (by decide +kernel))) (by decide +kernel)
theorem zd_ModuleTable_get_0 : decode kb_ModuleTable_get 0 = .ok (.iload_n 1, 1) := by decide +kernel
theorem zd_ModuleTable_get_1 : decode kb_ModuleTable_get 1 = .ok (.ifCond .lt (20), 3) := by decide +kernel
theorem zd_ModuleTable_get_4 : decode kb_ModuleTable_get 4 = .ok (.iload_n 1, 1) := by decide +kernel
theorem zd_ModuleTable_get_5 : decode kb_ModuleTable_get 5 = .ok (.aload_n 0, 1) := by decide +kernel
theorem zd_ModuleTable_get_6 : decode kb_ModuleTable_get 6 = .ok (.getfield 17, 3) := by decide +kernel
theorem zd_ModuleTable_get_9 : decode kb_ModuleTable_get 9 = .ok (.if_icmp .ge (12), 3) := by decide +kernel
theorem zd_ModuleTable_get_12 : decode kb_ModuleTable_get 12 = .ok (.aload_n 0, 1) := by decide +kernel
theorem zd_ModuleTable_get_13 : decode kb_ModuleTable_get 13 = .ok (.getfield 13, 3) := by decide +kernel
theorem zd_ModuleTable_get_16 : decode kb_ModuleTable_get 16 = .ok (.iload_n 1, 1) := by decide +kernel
theorem zd_ModuleTable_get_17 : decode kb_ModuleTable_get 17 = .ok (.aaload, 1) := by decide +kernel
theorem zd_ModuleTable_get_18 : decode kb_ModuleTable_get 18 = .ok (.goto (4), 3) := by decide +kernel
theorem zd_ModuleTable_get_21 : decode kb_ModuleTable_get 21 = .ok (.aconst_null, 1) := by decide +kernel
theorem zd_ModuleTable_get_22 : decode kb_ModuleTable_get 22 = .ok (.areturn, 1) := by decide +kernel
def zf_ModuleTable_get_b22 (u : zz_S) (y0 : Option Nat) : Option (Option Nat × zz_S) := some (y0, u)
def zf_ModuleTable_get_b21 (u : zz_S) : Option (Option Nat × zz_S) := zf_ModuleTable_get_b22 u none
def zf_ModuleTable_get (u : zz_S) (x1 : Int32) : Option (Option Nat × zz_S) := if x1 < 0 then (zf_ModuleTable_get_b21 u) else (if (u.1 16) ≤ x1 then (zf_ModuleTable_get_b21 u) else ((xx_ag (u.2.2.1 1) 12 x1).bind fun v1 => zf_ModuleTable_get_b22 u v1))
set_option maxHeartbeats 4000000 in
set_option maxRecDepth 100000 in
theorem zw_ModuleTable_get_b22 {p : Program} {l : Launch} {e : Env} {s : State} {m : MethodId} {args : Array Value} {below : List Frame} {meth : Method} {c : Code} {A : Nat → Prop} {g : xx_G} {r : Option Nat} {u9 : zz_S} (C : xx_C p s m args meth c kb_ModuleTable_get 2 kr_ModuleTable (some (.object "ModuleLoader$LoadedModule"))) (hA : ∀ q, s.heap.size ≤ q → A q) (hK : va_K g.1 xx_cls (zz_T g) s) : ∀ (u : zz_S) (y0 : Option Nat) (H : Heap) (locs : List Loc) (ls : Array Slot), zf_ModuleTable_get_b22 u y0 = some (r, u9) → lv_has ls 2 [] → va_P g.1 xx_cls (zz_W g u) H → va_D A (zz_W g u) → va_S A s.heap H locs → W p l e (xx_rm 0 0) s m args below meth c H locs 0 0 (MQ below (xx_Q g.1 (zz_T g) (zz_W g) (some (va_rf r)) u9 A) args s 0 0 A) (F0 m 22 ls [(va_rf y0)]) := by
  have hx := C.1
  have hb := C.2.1
  have hown := C.2.2.2.1
  have hts := C.2.2.2.2.1
  intro u y0 H locs ls hF hl hP hD hS
  unfold zf_ModuleTable_get_b22 at hF
  exact xx_qret (x := y0) C hF hK hP hD hS zd_ModuleTable_get_22
set_option maxHeartbeats 4000000 in
set_option maxRecDepth 100000 in
theorem zw_ModuleTable_get_b21 {p : Program} {l : Launch} {e : Env} {s : State} {m : MethodId} {args : Array Value} {below : List Frame} {meth : Method} {c : Code} {A : Nat → Prop} {g : xx_G} {r : Option Nat} {u9 : zz_S} (C : xx_C p s m args meth c kb_ModuleTable_get 2 kr_ModuleTable (some (.object "ModuleLoader$LoadedModule"))) (hA : ∀ q, s.heap.size ≤ q → A q) (hK : va_K g.1 xx_cls (zz_T g) s) : ∀ (u : zz_S) (H : Heap) (locs : List Loc) (ls : Array Slot), zf_ModuleTable_get_b21 u = some (r, u9) → lv_has ls 2 [] → va_P g.1 xx_cls (zz_W g u) H → va_D A (zz_W g u) → va_S A s.heap H locs → W p l e (xx_rm 0 0) s m args below meth c H locs 0 0 (MQ below (xx_Q g.1 (zz_T g) (zz_W g) (some (va_rf r)) u9 A) args s 0 0 A) (F0 m 21 ls []) := by
  have hx := C.1
  have hb := C.2.1
  have hown := C.2.2.2.1
  have hts := C.2.2.2.2.1
  intro u H locs ls hF hl hP hD hS
  unfold zf_ModuleTable_get_b21 at hF
  refine lv_null hx hb zd_ModuleTable_get_21 ?_
  exact zw_ModuleTable_get_b22 C hA hK  u none _ _ _ hF (lv_sub hl [] rfl) hP hD hS
set_option maxHeartbeats 4000000 in
set_option maxRecDepth 100000 in
theorem zc_ModuleTable_get (l : Launch) (g : xx_G) (u : zz_S) (x1 : Int32) (r : Option Nat) (u9 : zz_S) (hF : zf_ModuleTable_get u x1 = some (r, u9)) : xx_M l g.1 (zz_T g) (zz_W g) ky_ModuleTable_get kb_ModuleTable_get 2 (some (.object "ModuleLoader$LoadedModule")) (xx_rm 0 0) [.ref (g.2.1 11), .int x1] u (some (va_rf r)) u9 := by
  refine xx_body (by decide) (Nat.le_of_ble_eq_true rfl) ?_
  intro p e s m args below meth c A ls C hin hK hl hA hP hD hS
  have hx := C.1
  have hb := C.2.1
  have hown := C.2.2.2.1
  have hts := C.2.2.2.2.1
  have hl : lv_has ls 2 [(0, .ref (g.2.1 11)), (1, .int x1)] := hl
  unfold zf_ModuleTable_get at hF
  refine lv_iload_n hx hb zd_ModuleTable_get_0 rfl (lv_at hl 1 rfl) ?_
  refine lv_if_lt (tgt := 21) hx hb zd_ModuleTable_get_1 (by decide) (fun hc => ?_) (fun hc => ?_)
  · have hF := xx_ip hc hF
    exact zw_ModuleTable_get_b21 C hA hK  u _ _ _ hF (lv_sub hl [] rfl) hP hD hS
  · have hF := xx_in' hc hF
    refine lv_iload_n hx hb zd_ModuleTable_get_4 rfl (lv_at hl 1 rfl) ?_
    refine lv_aload_n hx hb zd_ModuleTable_get_5 rfl (lv_at hl 0 rfl) ?_
    refine xx_get C ki_ModuleTable hK hP 11 rfl rfl 1 (by decide) kw_154 rfl rfl zd_ModuleTable_get_6 ?_
    refine lv_icmp_ge (tgt := 21) hx hb zd_ModuleTable_get_9 (by decide) (fun hc => ?_) (fun hc => ?_)
    · have hF := xx_ip hc hF
      exact zw_ModuleTable_get_b21 C hA hK  u _ _ _ hF (lv_sub hl [] rfl) hP hD hS
    · have hF := xx_in' hc hF
      refine lv_aload_n hx hb zd_ModuleTable_get_12 rfl (lv_at hl 0 rfl) ?_
      refine xx_get C ki_ModuleTable hK hP 11 rfl rfl 0 (by decide) kw_153 rfl rfl zd_ModuleTable_get_13 ?_
      refine lv_iload_n hx hb zd_ModuleTable_get_16 rfl (lv_at hl 1 rfl) ?_
      obtain ⟨v1, ev1, hF⟩ := xx_ob hF
      refine xx_qald C hK hP 12 3 rfl rfl ev1 zd_ModuleTable_get_17 ?_
      refine lv_goto (tgt := 22) hx hb zd_ModuleTable_get_18 (by decide) ?_
      exact zw_ModuleTable_get_b22 C hA hK  u v1 _ _ _ hF (lv_sub hl [] rfl) hP hD hS
theorem kw_675 : Cond.fieldLink "ModuleLoader$ModuleTable" 21 "ModuleLoader$LoadedModule" "name" "I" ∈ xx_tb := xx_in (List.mem_append_right _ (List.mem_of_getElem? (i := 675) (by decide +kernel))) (by decide +kernel)
theorem zd_ModuleTable_find_0 : decode kb_ModuleTable_find 0 = .ok (.iconst 0, 1) := by decide +kernel
theorem zd_ModuleTable_find_1 : decode kb_ModuleTable_find 1 = .ok (.istore_n 2, 1) := by decide +kernel
theorem zd_ModuleTable_find_2 : decode kb_ModuleTable_find 2 = .ok (.iload_n 2, 1) := by decide +kernel
theorem zd_ModuleTable_find_3 : decode kb_ModuleTable_find 3 = .ok (.aload_n 0, 1) := by decide +kernel
theorem zd_ModuleTable_find_4 : decode kb_ModuleTable_find 4 = .ok (.getfield 17, 3) := by decide +kernel
theorem zd_ModuleTable_find_7 : decode kb_ModuleTable_find 7 = .ok (.if_icmp .ge (38), 3) := by decide +kernel
theorem zd_ModuleTable_find_10 : decode kb_ModuleTable_find 10 = .ok (.aload_n 0, 1) := by decide +kernel
theorem zd_ModuleTable_find_11 : decode kb_ModuleTable_find 11 = .ok (.getfield 13, 3) := by decide +kernel
theorem zd_ModuleTable_find_14 : decode kb_ModuleTable_find 14 = .ok (.iload_n 2, 1) := by decide +kernel
theorem zd_ModuleTable_find_15 : decode kb_ModuleTable_find 15 = .ok (.aaload, 1) := by decide +kernel
theorem zd_ModuleTable_find_16 : decode kb_ModuleTable_find 16 = .ok (.ifnull (23), 3) := by decide +kernel
theorem zd_ModuleTable_find_19 : decode kb_ModuleTable_find 19 = .ok (.aload_n 0, 1) := by decide +kernel
theorem zd_ModuleTable_find_20 : decode kb_ModuleTable_find 20 = .ok (.getfield 13, 3) := by decide +kernel
theorem zd_ModuleTable_find_23 : decode kb_ModuleTable_find 23 = .ok (.iload_n 2, 1) := by decide +kernel
theorem zd_ModuleTable_find_24 : decode kb_ModuleTable_find 24 = .ok (.aaload, 1) := by decide +kernel
theorem zd_ModuleTable_find_25 : decode kb_ModuleTable_find 25 = .ok (.getfield 21, 3) := by decide +kernel
theorem zd_ModuleTable_find_28 : decode kb_ModuleTable_find 28 = .ok (.iload_n 1, 1) := by decide +kernel
theorem zd_ModuleTable_find_29 : decode kb_ModuleTable_find 29 = .ok (.if_icmp .ne (10), 3) := by decide +kernel
theorem zd_ModuleTable_find_32 : decode kb_ModuleTable_find 32 = .ok (.aload_n 0, 1) := by decide +kernel
theorem zd_ModuleTable_find_33 : decode kb_ModuleTable_find 33 = .ok (.getfield 13, 3) := by decide +kernel
theorem zd_ModuleTable_find_36 : decode kb_ModuleTable_find 36 = .ok (.iload_n 2, 1) := by decide +kernel
theorem zd_ModuleTable_find_37 : decode kb_ModuleTable_find 37 = .ok (.aaload, 1) := by decide +kernel
theorem zd_ModuleTable_find_38 : decode kb_ModuleTable_find 38 = .ok (.areturn, 1) := by decide +kernel
theorem zd_ModuleTable_find_39 : decode kb_ModuleTable_find 39 = .ok (.iinc 2 (1), 3) := by decide +kernel
theorem zd_ModuleTable_find_42 : decode kb_ModuleTable_find 42 = .ok (.goto (-40), 3) := by decide +kernel
theorem zd_ModuleTable_find_45 : decode kb_ModuleTable_find 45 = .ok (.aconst_null, 1) := by decide +kernel
theorem zd_ModuleTable_find_46 : decode kb_ModuleTable_find 46 = .ok (.areturn, 1) := by decide +kernel
def zf_ModuleTable_find_b39 (rec2 : zz_S → Int32 → Int32 → Option (Option Nat × zz_S)) (u : zz_S) (x1 : Int32) (x2 : Int32) : Option (Option Nat × zz_S) := xx_nm (x2 + (1 : Int32)) fun v1 => rec2 u x1 v1
def zf_ModuleTable_find_b2 : Nat → zz_S → Int32 → Int32 → Option (Option Nat × zz_S)
  | 0, _, _, _ => none
  | n + 1, u, x1, x2 => if (u.1 16) ≤ x2 then (some (none, u)) else ((xx_ag (u.2.2.1 1) 12 x2).bind fun v1 => xx_on v1 (zf_ModuleTable_find_b39 (zf_ModuleTable_find_b2 n) u x1 x2) (fun a2 => (xx_ag (u.2.2.1 1) 12 x2).bind fun v3 => xx_nn v3 fun a4 => (zz_pi u a4 9 0).bind fun v5 => if v5 = x1 then ((xx_ag (u.2.2.1 1) 12 x2).bind fun v6 => some (v6, u)) else (zf_ModuleTable_find_b39 (zf_ModuleTable_find_b2 n) u x1 x2)))
def zf_ModuleTable_find (u : zz_S) (x1 : Int32) : Option (Option Nat × zz_S) := xx_nm (0 : Int32) fun v1 => zf_ModuleTable_find_b2 xx_fu u x1 v1
set_option maxHeartbeats 4000000 in
set_option maxRecDepth 100000 in
theorem zw_ModuleTable_find_b39 {p : Program} {l : Launch} {e : Env} {s : State} {m : MethodId} {args : Array Value} {below : List Frame} {meth : Method} {c : Code} {A : Nat → Prop} {g : xx_G} {r : Option Nat} {u9 : zz_S} (C : xx_C p s m args meth c kb_ModuleTable_find 3 kr_ModuleTable (some (.object "ModuleLoader$LoadedModule"))) (hA : ∀ q, s.heap.size ≤ q → A q) (hK : va_K g.1 xx_cls (zz_T g) s) {rec2 : zz_S → Int32 → Int32 → Option (Option Nat × zz_S)} (hrec2 : ∀ (u : zz_S) (x1 : Int32) (x2 : Int32) (H : Heap) (locs : List Loc) (ls : Array Slot), rec2 u x1 x2 = some (r, u9) → lv_has ls 3 [(0, .ref (g.2.1 11)), (1, .int x1), (2, .int x2)] → va_P g.1 xx_cls (zz_W g u) H → va_D A (zz_W g u) → va_S A s.heap H locs → W p l e (xx_rm 0 0) s m args below meth c H locs 0 0 (MQ below (xx_Q g.1 (zz_T g) (zz_W g) (some (va_rf r)) u9 A) args s 0 0 A) (F0 m 2 ls [])) : ∀ (u : zz_S) (x1 : Int32) (x2 : Int32) (H : Heap) (locs : List Loc) (ls : Array Slot), zf_ModuleTable_find_b39 rec2 u x1 x2 = some (r, u9) → lv_has ls 3 [(0, .ref (g.2.1 11)), (1, .int x1), (2, .int x2)] → va_P g.1 xx_cls (zz_W g u) H → va_D A (zz_W g u) → va_S A s.heap H locs → W p l e (xx_rm 0 0) s m args below meth c H locs 0 0 (MQ below (xx_Q g.1 (zz_T g) (zz_W g) (some (va_rf r)) u9 A) args s 0 0 A) (F0 m 39 ls []) := by
  have hx := C.1
  have hb := C.2.1
  have hown := C.2.2.2.1
  have hts := C.2.2.2.2.1
  intro u x1 x2 H locs ls hF hl hP hD hS
  unfold zf_ModuleTable_find_b39 at hF
  obtain ⟨v1, ev1, hF⟩ := xx_nm_some hF
  refine lv_iinc (k := 2) (v := v1) hx hb zd_ModuleTable_find_39 hl rfl (by rw [ev1, xx_lit1]) (by decide) rfl (fun ls hl => ?_)
  refine lv_goto (tgt := 2) hx hb zd_ModuleTable_find_42 (by decide) ?_
  exact hrec2 u x1 v1 _ _ _ hF (lv_sub hl [1, 2, 0] rfl) hP hD hS
set_option maxHeartbeats 4000000 in
set_option maxRecDepth 100000 in
theorem zw_ModuleTable_find_b2 {p : Program} {l : Launch} {e : Env} {s : State} {m : MethodId} {args : Array Value} {below : List Frame} {meth : Method} {c : Code} {A : Nat → Prop} {g : xx_G} {r : Option Nat} {u9 : zz_S} (C : xx_C p s m args meth c kb_ModuleTable_find 3 kr_ModuleTable (some (.object "ModuleLoader$LoadedModule"))) (hA : ∀ q, s.heap.size ≤ q → A q) (hK : va_K g.1 xx_cls (zz_T g) s) : ∀ (n : Nat), ∀ (u : zz_S) (x1 : Int32) (x2 : Int32) (H : Heap) (locs : List Loc) (ls : Array Slot), zf_ModuleTable_find_b2 n u x1 x2 = some (r, u9) → lv_has ls 3 [(0, .ref (g.2.1 11)), (1, .int x1), (2, .int x2)] → va_P g.1 xx_cls (zz_W g u) H → va_D A (zz_W g u) → va_S A s.heap H locs → W p l e (xx_rm 0 0) s m args below meth c H locs 0 0 (MQ below (xx_Q g.1 (zz_T g) (zz_W g) (some (va_rf r)) u9 A) args s 0 0 A) (F0 m 2 ls []) := by
  have hx := C.1
  have hb := C.2.1
  have hown := C.2.2.2.1
  have hts := C.2.2.2.2.1
  intro n
  induction n with
  | zero =>
    intro u x1 x2 H locs ls hF
    rw [zf_ModuleTable_find_b2] at hF
    cases hF
  | succ n ih =>
    intro u x1 x2 H locs ls hF hl hP hD hS
    rw [zf_ModuleTable_find_b2] at hF
    refine lv_iload_n hx hb zd_ModuleTable_find_2 rfl (lv_at hl 2 rfl) ?_
    refine lv_aload_n hx hb zd_ModuleTable_find_3 rfl (lv_at hl 0 rfl) ?_
    refine xx_get C ki_ModuleTable hK hP 11 rfl rfl 1 (by decide) kw_154 rfl rfl zd_ModuleTable_find_4 ?_
    refine lv_icmp_ge (tgt := 45) hx hb zd_ModuleTable_find_7 (by decide) (fun hc => ?_) (fun hc => ?_)
    · have hF := xx_ip hc hF
      refine lv_null hx hb zd_ModuleTable_find_45 ?_
      exact xx_qret (x := none) C hF hK hP hD hS zd_ModuleTable_find_46
    · have hF := xx_in' hc hF
      refine lv_aload_n hx hb zd_ModuleTable_find_10 rfl (lv_at hl 0 rfl) ?_
      refine xx_get C ki_ModuleTable hK hP 11 rfl rfl 0 (by decide) kw_153 rfl rfl zd_ModuleTable_find_11 ?_
      refine lv_iload_n hx hb zd_ModuleTable_find_14 rfl (lv_at hl 2 rfl) ?_
      obtain ⟨v1, ev1, hF⟩ := xx_ob hF
      refine xx_qald C hK hP 12 3 rfl rfl ev1 zd_ModuleTable_find_15 ?_
      refine xx_ifnull (tgt := 39) C zd_ModuleTable_find_16 (by decide) (fun en => ?_) (fun a2 ea2 => ?_)
      · have hF := xx_on_n en hF
        exact zw_ModuleTable_find_b39 C hA hK ih  u x1 x2 _ _ _ hF (lv_sub hl [0, 1, 2] rfl) hP hD hS
      · have hF := xx_on_s ea2 hF
        refine lv_aload_n hx hb zd_ModuleTable_find_19 rfl (lv_at hl 0 rfl) ?_
        refine xx_get C ki_ModuleTable hK hP 11 rfl rfl 0 (by decide) kw_153 rfl rfl zd_ModuleTable_find_20 ?_
        refine lv_iload_n hx hb zd_ModuleTable_find_23 rfl (lv_at hl 2 rfl) ?_
        obtain ⟨v3, ev3, hF⟩ := xx_ob hF
        refine xx_qald C hK hP 12 3 rfl rfl ev3 zd_ModuleTable_find_24 ?_
        obtain ⟨a4, ea4, hF⟩ := xx_nn_some hF
        rw [ea4]
        obtain ⟨v5, ev5, hF⟩ := xx_ob hF
        refine zz_get (a := a4) (u := u) (ci := 9) C ki_LoadedModule hK hP rfl 0 (by decide) kw_675 rfl (zz_pi_some ev5) zd_ModuleTable_find_25 ?_
        refine lv_iload_n hx hb zd_ModuleTable_find_28 rfl (lv_at hl 1 rfl) ?_
        refine lv_icmp_ne (tgt := 39) hx hb zd_ModuleTable_find_29 (by decide) (fun hc => ?_) (fun hc => ?_)
        · have hF := xx_in' hc hF
          exact zw_ModuleTable_find_b39 C hA hK ih  u x1 x2 _ _ _ hF (lv_sub hl [0, 1, 2] rfl) hP hD hS
        · have hF := xx_ip hc hF
          refine lv_aload_n hx hb zd_ModuleTable_find_32 rfl (lv_at hl 0 rfl) ?_
          refine xx_get C ki_ModuleTable hK hP 11 rfl rfl 0 (by decide) kw_153 rfl rfl zd_ModuleTable_find_33 ?_
          refine lv_iload_n hx hb zd_ModuleTable_find_36 rfl (lv_at hl 2 rfl) ?_
          obtain ⟨v6, ev6, hF⟩ := xx_ob hF
          refine xx_qald C hK hP 12 3 rfl rfl ev6 zd_ModuleTable_find_37 ?_
          exact xx_qret (x := v6) C hF hK hP hD hS zd_ModuleTable_find_38
set_option maxHeartbeats 4000000 in
set_option maxRecDepth 100000 in
theorem zc_ModuleTable_find (l : Launch) (g : xx_G) (u : zz_S) (x1 : Int32) (r : Option Nat) (u9 : zz_S) (hF : zf_ModuleTable_find u x1 = some (r, u9)) : xx_M l g.1 (zz_T g) (zz_W g) ky_ModuleTable_find kb_ModuleTable_find 3 (some (.object "ModuleLoader$LoadedModule")) (xx_rm 0 0) [.ref (g.2.1 11), .int x1] u (some (va_rf r)) u9 := by
  refine xx_body (by decide) (Nat.le_of_ble_eq_true rfl) ?_
  intro p e s m args below meth c A ls C hin hK hl hA hP hD hS
  have hx := C.1
  have hb := C.2.1
  have hown := C.2.2.2.1
  have hts := C.2.2.2.2.1
  have hl : lv_has ls 3 [(0, .ref (g.2.1 11)), (1, .int x1)] := hl
  unfold zf_ModuleTable_find at hF
  refine lv_iconst (v := (0 : Int32)) hx hb zd_ModuleTable_find_0 (by decide) ?_
  obtain ⟨v1, ev1, hF⟩ := xx_nm_some hF
  refine xx_topi ev1 ?_
  refine lv_istore_n hx hb zd_ModuleTable_find_1 rfl hl (by decide) rfl (fun ls hl => ?_)
  exact zw_ModuleTable_find_b2 C hA hK xx_fu u x1 v1 _ _ _ hF (lv_sub hl [1, 2, 0] rfl) hP hD hS
theorem zd_ModuleTable_remove_0 : decode kb_ModuleTable_remove 0 = .ok (.iconst 0, 1) := by decide +kernel
theorem zd_ModuleTable_remove_1 : decode kb_ModuleTable_remove 1 = .ok (.istore_n 2, 1) := by decide +kernel
theorem zd_ModuleTable_remove_2 : decode kb_ModuleTable_remove 2 = .ok (.iconst 0, 1) := by decide +kernel
theorem zd_ModuleTable_remove_3 : decode kb_ModuleTable_remove 3 = .ok (.istore_n 3, 1) := by decide +kernel
theorem zd_ModuleTable_remove_4 : decode kb_ModuleTable_remove 4 = .ok (.iload_n 3, 1) := by decide +kernel
theorem zd_ModuleTable_remove_5 : decode kb_ModuleTable_remove 5 = .ok (.aload_n 0, 1) := by decide +kernel
theorem zd_ModuleTable_remove_6 : decode kb_ModuleTable_remove 6 = .ok (.getfield 17, 3) := by decide +kernel
theorem zd_ModuleTable_remove_9 : decode kb_ModuleTable_remove 9 = .ok (.if_icmp .ge (34), 3) := by decide +kernel
theorem zd_ModuleTable_remove_12 : decode kb_ModuleTable_remove 12 = .ok (.aload_n 0, 1) := by decide +kernel
theorem zd_ModuleTable_remove_13 : decode kb_ModuleTable_remove 13 = .ok (.getfield 13, 3) := by decide +kernel
theorem zd_ModuleTable_remove_16 : decode kb_ModuleTable_remove 16 = .ok (.iload_n 3, 1) := by decide +kernel
theorem zd_ModuleTable_remove_17 : decode kb_ModuleTable_remove 17 = .ok (.aaload, 1) := by decide +kernel
theorem zd_ModuleTable_remove_18 : decode kb_ModuleTable_remove 18 = .ok (.aload_n 1, 1) := by decide +kernel
theorem zd_ModuleTable_remove_19 : decode kb_ModuleTable_remove 19 = .ok (.if_acmp .eq (18), 3) := by decide +kernel
theorem zd_ModuleTable_remove_22 : decode kb_ModuleTable_remove 22 = .ok (.aload_n 0, 1) := by decide +kernel
theorem zd_ModuleTable_remove_23 : decode kb_ModuleTable_remove 23 = .ok (.getfield 13, 3) := by decide +kernel
theorem zd_ModuleTable_remove_26 : decode kb_ModuleTable_remove 26 = .ok (.iload_n 2, 1) := by decide +kernel
theorem zd_ModuleTable_remove_27 : decode kb_ModuleTable_remove 27 = .ok (.aload_n 0, 1) := by decide +kernel
theorem zd_ModuleTable_remove_28 : decode kb_ModuleTable_remove 28 = .ok (.getfield 13, 3) := by decide +kernel
theorem zd_ModuleTable_remove_31 : decode kb_ModuleTable_remove 31 = .ok (.iload_n 3, 1) := by decide +kernel
theorem zd_ModuleTable_remove_32 : decode kb_ModuleTable_remove 32 = .ok (.aaload, 1) := by decide +kernel
theorem zd_ModuleTable_remove_33 : decode kb_ModuleTable_remove 33 = .ok (.aastore, 1) := by decide +kernel
theorem zd_ModuleTable_remove_34 : decode kb_ModuleTable_remove 34 = .ok (.iinc 2 (1), 3) := by decide +kernel
theorem zd_ModuleTable_remove_37 : decode kb_ModuleTable_remove 37 = .ok (.iinc 3 (1), 3) := by decide +kernel
theorem zd_ModuleTable_remove_40 : decode kb_ModuleTable_remove 40 = .ok (.goto (-36), 3) := by decide +kernel
theorem zd_ModuleTable_remove_43 : decode kb_ModuleTable_remove 43 = .ok (.aload_n 0, 1) := by decide +kernel
theorem zd_ModuleTable_remove_44 : decode kb_ModuleTable_remove 44 = .ok (.iload_n 2, 1) := by decide +kernel
theorem zd_ModuleTable_remove_45 : decode kb_ModuleTable_remove 45 = .ok (.putfield 17, 3) := by decide +kernel
theorem zd_ModuleTable_remove_48 : decode kb_ModuleTable_remove 48 = .ok (.return_, 1) := by decide +kernel
def zf_ModuleTable_remove_b37 (rec4 : zz_S → Option Nat → Int32 → Int32 → Option (zz_S)) (u : zz_S) (x1 : Option Nat) (x2 : Int32) (x3 : Int32) : Option (zz_S) := xx_nm (x3 + (1 : Int32)) fun v1 => rec4 u x1 x2 v1
def zf_ModuleTable_remove_b4 : Nat → zz_S → Option Nat → Int32 → Int32 → Option (zz_S)
  | 0, _, _, _, _ => none
  | n + 1, u, x1, x2, x3 => if (u.1 16) ≤ x3 then (xx_nm (va_up u.1 16 x2, u.2) fun u1 => some u1) else ((xx_ag (u.2.2.1 1) 12 x3).bind fun v2 => if v2 = x1 then (zf_ModuleTable_remove_b37 (zf_ModuleTable_remove_b4 n) u x1 x2 x3) else ((xx_ag (u.2.2.1 1) 12 x3).bind fun v3 => xx_nn v3 fun a4 => (zz_as u 1 12 9 x2 a4).bind fun u5 => xx_nm (x2 + (1 : Int32)) fun v6 => zf_ModuleTable_remove_b37 (zf_ModuleTable_remove_b4 n) u5 x1 v6 x3))
def zf_ModuleTable_remove (u : zz_S) (x1 : Option Nat) : Option (zz_S) := xx_nm (0 : Int32) fun v1 => xx_nm (0 : Int32) fun v2 => zf_ModuleTable_remove_b4 xx_fu u x1 v1 v2
set_option maxHeartbeats 4000000 in
set_option maxRecDepth 100000 in
theorem zw_ModuleTable_remove_b37 {p : Program} {l : Launch} {e : Env} {s : State} {m : MethodId} {args : Array Value} {below : List Frame} {meth : Method} {c : Code} {A : Nat → Prop} {g : xx_G} {u9 : zz_S} (C : xx_C p s m args meth c kb_ModuleTable_remove 4 kr_ModuleTable none) (hA : ∀ q, s.heap.size ≤ q → A q) (hK : va_K g.1 xx_cls (zz_T g) s) {rec4 : zz_S → Option Nat → Int32 → Int32 → Option (zz_S)} (hrec4 : ∀ (u : zz_S) (x1 : Option Nat) (x2 : Int32) (x3 : Int32) (H : Heap) (locs : List Loc) (ls : Array Slot), rec4 u x1 x2 x3 = some u9 → lv_has ls 4 [(0, .ref (g.2.1 11)), (1, (va_rf x1)), (2, .int x2), (3, .int x3)] → va_P g.1 xx_cls (zz_W g u) H → va_D A (zz_W g u) → va_S A s.heap H locs → W p l e (xx_rm 0 0) s m args below meth c H locs 0 0 (MQ below (xx_Q g.1 (zz_T g) (zz_W g) none u9 A) args s 0 0 A) (F0 m 4 ls [])) : ∀ (u : zz_S) (x1 : Option Nat) (x2 : Int32) (x3 : Int32) (H : Heap) (locs : List Loc) (ls : Array Slot), zf_ModuleTable_remove_b37 rec4 u x1 x2 x3 = some u9 → lv_has ls 4 [(0, .ref (g.2.1 11)), (1, (va_rf x1)), (2, .int x2), (3, .int x3)] → va_P g.1 xx_cls (zz_W g u) H → va_D A (zz_W g u) → va_S A s.heap H locs → W p l e (xx_rm 0 0) s m args below meth c H locs 0 0 (MQ below (xx_Q g.1 (zz_T g) (zz_W g) none u9 A) args s 0 0 A) (F0 m 37 ls []) := by
  have hx := C.1
  have hb := C.2.1
  have hown := C.2.2.2.1
  have hts := C.2.2.2.2.1
  intro u x1 x2 x3 H locs ls hF hl hP hD hS
  unfold zf_ModuleTable_remove_b37 at hF
  obtain ⟨v1, ev1, hF⟩ := xx_nm_some hF
  refine lv_iinc (k := 3) (v := v1) hx hb zd_ModuleTable_remove_37 hl rfl (by rw [ev1, xx_lit1]) (by decide) rfl (fun ls hl => ?_)
  refine lv_goto (tgt := 4) hx hb zd_ModuleTable_remove_40 (by decide) ?_
  exact hrec4 u x1 x2 v1 _ _ _ hF (lv_sub hl [1, 2, 3, 0] rfl) hP hD hS
set_option maxHeartbeats 4000000 in
set_option maxRecDepth 100000 in
theorem zw_ModuleTable_remove_b4 {p : Program} {l : Launch} {e : Env} {s : State} {m : MethodId} {args : Array Value} {below : List Frame} {meth : Method} {c : Code} {A : Nat → Prop} {g : xx_G} {u9 : zz_S} (C : xx_C p s m args meth c kb_ModuleTable_remove 4 kr_ModuleTable none) (hA : ∀ q, s.heap.size ≤ q → A q) (hK : va_K g.1 xx_cls (zz_T g) s) : ∀ (n : Nat), ∀ (u : zz_S) (x1 : Option Nat) (x2 : Int32) (x3 : Int32) (H : Heap) (locs : List Loc) (ls : Array Slot), zf_ModuleTable_remove_b4 n u x1 x2 x3 = some u9 → lv_has ls 4 [(0, .ref (g.2.1 11)), (1, (va_rf x1)), (2, .int x2), (3, .int x3)] → va_P g.1 xx_cls (zz_W g u) H → va_D A (zz_W g u) → va_S A s.heap H locs → W p l e (xx_rm 0 0) s m args below meth c H locs 0 0 (MQ below (xx_Q g.1 (zz_T g) (zz_W g) none u9 A) args s 0 0 A) (F0 m 4 ls []) := by
  have hx := C.1
  have hb := C.2.1
  have hown := C.2.2.2.1
  have hts := C.2.2.2.2.1
  intro n
  induction n with
  | zero =>
    intro u x1 x2 x3 H locs ls hF
    rw [zf_ModuleTable_remove_b4] at hF
    cases hF
  | succ n ih =>
    intro u x1 x2 x3 H locs ls hF hl hP hD hS
    rw [zf_ModuleTable_remove_b4] at hF
    refine lv_iload_n hx hb zd_ModuleTable_remove_4 rfl (lv_at hl 3 rfl) ?_
    refine lv_aload_n hx hb zd_ModuleTable_remove_5 rfl (lv_at hl 0 rfl) ?_
    refine xx_get C ki_ModuleTable hK hP 11 rfl rfl 1 (by decide) kw_154 rfl rfl zd_ModuleTable_remove_6 ?_
    refine lv_icmp_ge (tgt := 43) hx hb zd_ModuleTable_remove_9 (by decide) (fun hc => ?_) (fun hc => ?_)
    · have hF := xx_ip hc hF
      refine lv_aload_n hx hb zd_ModuleTable_remove_43 rfl (lv_at hl 0 rfl) ?_
      refine lv_iload_n hx hb zd_ModuleTable_remove_44 rfl (lv_at hl 2 rfl) ?_
      obtain ⟨u1, eu1, hF⟩ := xx_nm_some hF
      refine xx_put (ws1 := zz_W g u1) C ki_ModuleTable kt_ModuleTable ko_ModuleTable kn_ModuleTable hK hP hD hS 11 rfl rfl 1 (by decide) kw_154 rfl rfl rfl rfl (Nat.le_of_ble_eq_true rfl) (by rw [eu1]; rfl) zd_ModuleTable_remove_45 (fun H locs hP hD hS => ?_)
      exact xx_vret C hF hK hP hD hS zd_ModuleTable_remove_48
    · have hF := xx_in' hc hF
      refine lv_aload_n hx hb zd_ModuleTable_remove_12 rfl (lv_at hl 0 rfl) ?_
      refine xx_get C ki_ModuleTable hK hP 11 rfl rfl 0 (by decide) kw_153 rfl rfl zd_ModuleTable_remove_13 ?_
      refine lv_iload_n hx hb zd_ModuleTable_remove_16 rfl (lv_at hl 3 rfl) ?_
      obtain ⟨v2, ev2, hF⟩ := xx_ob hF
      refine xx_qald C hK hP 12 3 rfl rfl ev2 zd_ModuleTable_remove_17 ?_
      refine xx_ald C zd_ModuleTable_remove_18 rfl (lv_at hl 1 rfl) ?_
      refine lv_acmp_eq (rx := v2) (ry := x1) (tgt := 37) hx hb zd_ModuleTable_remove_19 (by decide) (fun hc => ?_) (fun hc => ?_)
      · have hF := xx_ip hc hF
        exact zw_ModuleTable_remove_b37 C hA hK ih  u x1 x2 x3 _ _ _ hF (lv_sub hl [0, 1, 2, 3] rfl) hP hD hS
      · have hF := xx_in' hc hF
        refine lv_aload_n hx hb zd_ModuleTable_remove_22 rfl (lv_at hl 0 rfl) ?_
        refine xx_get C ki_ModuleTable hK hP 11 rfl rfl 0 (by decide) kw_153 rfl rfl zd_ModuleTable_remove_23 ?_
        refine lv_iload_n hx hb zd_ModuleTable_remove_26 rfl (lv_at hl 2 rfl) ?_
        refine lv_aload_n hx hb zd_ModuleTable_remove_27 rfl (lv_at hl 0 rfl) ?_
        refine xx_get C ki_ModuleTable hK hP 11 rfl rfl 0 (by decide) kw_153 rfl rfl zd_ModuleTable_remove_28 ?_
        refine lv_iload_n hx hb zd_ModuleTable_remove_31 rfl (lv_at hl 3 rfl) ?_
        obtain ⟨v3, ev3, hF⟩ := xx_ob hF
        refine xx_qald C hK hP 12 3 rfl rfl ev3 zd_ModuleTable_remove_32 ?_
        obtain ⟨a4, ea4, hF⟩ := xx_nn_some hF
        rw [ea4]
        obtain ⟨u5, eu5, hF⟩ := xx_ob hF
        refine zz_qast (u := u) (u1 := u5) (a := a4) C hK hP hD hS 12 3 1 9 rfl rfl rfl eu5 (fun _ => rfl) zd_ModuleTable_remove_33 (fun H locs hP hD hS => ?_)
        obtain ⟨v6, ev6, hF⟩ := xx_nm_some hF
        refine lv_iinc (lv' := [(2, .int v6), (0, .ref (g.2.1 11)), (1, (va_rf x1)), (3, .int x3)]) (k := 2) (v := v6) hx hb zd_ModuleTable_remove_34 hl rfl (by rw [ev6, xx_lit1]) (by decide) (by simp [xx_rfc, xx_ic, xx_rc]) (fun ls hl => ?_)
        exact zw_ModuleTable_remove_b37 C hA hK ih  u5 x1 v6 x3 _ _ _ hF (lv_sub hl [1, 2, 0, 3] rfl) hP hD hS
set_option maxHeartbeats 4000000 in
set_option maxRecDepth 100000 in
theorem zc_ModuleTable_remove (l : Launch) (g : xx_G) (u : zz_S) (x1 : Option Nat) (u9 : zz_S) (hF : zf_ModuleTable_remove u x1 = some u9) : xx_M l g.1 (zz_T g) (zz_W g) ky_ModuleTable_remove kb_ModuleTable_remove 4 none (xx_rm 0 0) [.ref (g.2.1 11), (va_rf x1)] u none u9 := by
  refine xx_body (by decide) (by simp [lg_sl, xx_rfc, xx_ic, xx_rc]) ?_
  intro p e s m args below meth c A ls C hin hK hl hA hP hD hS
  have hx := C.1
  have hb := C.2.1
  have hown := C.2.2.2.1
  have hts := C.2.2.2.2.1
  have hl : lv_has ls 4 [(0, .ref (g.2.1 11)), (1, (va_rf x1))] := by simpa [lv_args, xx_rfc, xx_ic, xx_rc] using hl
  unfold zf_ModuleTable_remove at hF
  refine lv_iconst (v := (0 : Int32)) hx hb zd_ModuleTable_remove_0 (by decide) ?_
  obtain ⟨v1, ev1, hF⟩ := xx_nm_some hF
  refine xx_topi ev1 ?_
  refine lv_istore_n (lv' := [(2, .int v1), (0, .ref (g.2.1 11)), (1, (va_rf x1))]) hx hb zd_ModuleTable_remove_1 rfl hl (by decide) (by simp [xx_rfc, xx_ic, xx_rc]) (fun ls hl => ?_)
  refine lv_iconst (v := (0 : Int32)) hx hb zd_ModuleTable_remove_2 (by decide) ?_
  obtain ⟨v2, ev2, hF⟩ := xx_nm_some hF
  refine xx_topi ev2 ?_
  refine lv_istore_n hx hb zd_ModuleTable_remove_3 rfl hl (by decide) rfl (fun ls hl => ?_)
  exact zw_ModuleTable_remove_b4 C hA hK xx_fu u x1 v1 v2 _ _ _ hF (lv_sub hl [2, 3, 1, 0] rfl) hP hD hS
theorem kw_166 : Cond.fieldLink "ModuleLoader$Report" 15 "ModuleLoader$Report" "number" "I" ∈ xx_tb := xx_in (List.mem_append_right _ (List.mem_of_getElem? (i := 166) (by decide +kernel))) (by decide +kernel)
theorem kw_168 : Cond.fieldLink "ModuleLoader$Report" 9 "ModuleLoader$Report" "which" "I" ∈ xx_tb := xx_in (List.mem_append_right _ (List.mem_of_getElem? (i := 168) (by decide +kernel))) (by decide +kernel)
theorem kw_170 : Cond.fieldLink "ModuleLoader$Report" 18 "ModuleLoader$Report" "trap" "I" ∈ xx_tb := xx_in (List.mem_append_right _ (List.mem_of_getElem? (i := 170) (by decide +kernel))) (by decide +kernel)
theorem kw_172 : Cond.fieldLink "ModuleLoader$Report" 21 "ModuleLoader$Report" "steps" "I" ∈ xx_tb := xx_in (List.mem_append_right _ (List.mem_of_getElem? (i := 172) (by decide +kernel))) (by decide +kernel)
theorem kw_174 : Cond.fieldLink "ModuleLoader$Report" 24 "ModuleLoader$Report" "answer" "I" ∈ xx_tb := xx_in (List.mem_append_right _ (List.mem_of_getElem? (i := 174) (by decide +kernel))) (by decide +kernel)
theorem zd_Report_clear_0 : decode kb_Report_clear 0 = .ok (.aload_n 0, 1) := by decide +kernel
theorem zd_Report_clear_1 : decode kb_Report_clear 1 = .ok (.iconst 0, 1) := by decide +kernel
theorem zd_Report_clear_2 : decode kb_Report_clear 2 = .ok (.putfield 15, 3) := by decide +kernel
theorem zd_Report_clear_5 : decode kb_Report_clear 5 = .ok (.aload_n 0, 1) := by decide +kernel
theorem zd_Report_clear_6 : decode kb_Report_clear 6 = .ok (.iconst (-1), 1) := by decide +kernel
theorem zd_Report_clear_7 : decode kb_Report_clear 7 = .ok (.putfield 9, 3) := by decide +kernel
theorem zd_Report_clear_10 : decode kb_Report_clear 10 = .ok (.aload_n 0, 1) := by decide +kernel
theorem zd_Report_clear_11 : decode kb_Report_clear 11 = .ok (.iconst 0, 1) := by decide +kernel
theorem zd_Report_clear_12 : decode kb_Report_clear 12 = .ok (.putfield 18, 3) := by decide +kernel
theorem zd_Report_clear_15 : decode kb_Report_clear 15 = .ok (.aload_n 0, 1) := by decide +kernel
theorem zd_Report_clear_16 : decode kb_Report_clear 16 = .ok (.iconst 0, 1) := by decide +kernel
theorem zd_Report_clear_17 : decode kb_Report_clear 17 = .ok (.putfield 21, 3) := by decide +kernel
theorem zd_Report_clear_20 : decode kb_Report_clear 20 = .ok (.aload_n 0, 1) := by decide +kernel
theorem zd_Report_clear_21 : decode kb_Report_clear 21 = .ok (.iconst 0, 1) := by decide +kernel
theorem zd_Report_clear_22 : decode kb_Report_clear 22 = .ok (.putfield 24, 3) := by decide +kernel
theorem zd_Report_clear_25 : decode kb_Report_clear 25 = .ok (.return_, 1) := by decide +kernel
def zf_Report_clear (u : zz_S) : Option (zz_S) := xx_nm (va_up u.1 17 (0 : Int32), u.2) fun u1 => xx_nm (va_up u1.1 18 (-1 : Int32), u1.2) fun u2 => xx_nm (va_up u2.1 19 (0 : Int32), u2.2) fun u3 => xx_nm (va_up u3.1 20 (0 : Int32), u3.2) fun u4 => xx_nm (va_up u4.1 21 (0 : Int32), u4.2) fun u5 => some u5
set_option maxHeartbeats 4000000 in
set_option maxRecDepth 100000 in
theorem zc_Report_clear (l : Launch) (g : xx_G) (u : zz_S) (u9 : zz_S) (hF : zf_Report_clear u = some u9) : xx_M l g.1 (zz_T g) (zz_W g) ky_Report_clear kb_Report_clear 1 none (xx_rm 0 0) [.ref (g.2.1 13)] u none u9 := by
  refine xx_body (by decide) (Nat.le_of_ble_eq_true rfl) ?_
  intro p e s m args below meth c A ls C hin hK hl hA hP hD hS
  have hx := C.1
  have hb := C.2.1
  have hown := C.2.2.2.1
  have hts := C.2.2.2.2.1
  have hl : lv_has ls 1 [(0, .ref (g.2.1 13))] := hl
  unfold zf_Report_clear at hF
  refine lv_aload_n hx hb zd_Report_clear_0 rfl (lv_at hl 0 rfl) ?_
  refine lv_iconst (v := (0 : Int32)) hx hb zd_Report_clear_1 (by decide) ?_
  obtain ⟨u1, eu1, hF⟩ := xx_nm_some hF
  refine xx_put (ws1 := zz_W g u1) C ki_Report kt_Report ko_Report kn_Report hK hP hD hS 13 rfl rfl 0 (by decide) kw_166 rfl rfl rfl rfl (Nat.le_of_ble_eq_true rfl) (by rw [eu1]; rfl) zd_Report_clear_2 (fun H locs hP hD hS => ?_)
  refine lv_aload_n hx hb zd_Report_clear_5 rfl (lv_at hl 0 rfl) ?_
  refine lv_iconst (v := (-1 : Int32)) hx hb zd_Report_clear_6 (by decide) ?_
  obtain ⟨u2, eu2, hF⟩ := xx_nm_some hF
  refine xx_put (ws1 := zz_W g u2) C ki_Report kt_Report ko_Report kn_Report hK hP hD hS 13 rfl rfl 1 (by decide) kw_168 rfl rfl rfl rfl (Nat.le_of_ble_eq_true rfl) (by rw [eu2]; rfl) zd_Report_clear_7 (fun H locs hP hD hS => ?_)
  refine lv_aload_n hx hb zd_Report_clear_10 rfl (lv_at hl 0 rfl) ?_
  refine lv_iconst (v := (0 : Int32)) hx hb zd_Report_clear_11 (by decide) ?_
  obtain ⟨u3, eu3, hF⟩ := xx_nm_some hF
  refine xx_put (ws1 := zz_W g u3) C ki_Report kt_Report ko_Report kn_Report hK hP hD hS 13 rfl rfl 2 (by decide) kw_170 rfl rfl rfl rfl (Nat.le_of_ble_eq_true rfl) (by rw [eu3]; rfl) zd_Report_clear_12 (fun H locs hP hD hS => ?_)
  refine lv_aload_n hx hb zd_Report_clear_15 rfl (lv_at hl 0 rfl) ?_
  refine lv_iconst (v := (0 : Int32)) hx hb zd_Report_clear_16 (by decide) ?_
  obtain ⟨u4, eu4, hF⟩ := xx_nm_some hF
  refine xx_put (ws1 := zz_W g u4) C ki_Report kt_Report ko_Report kn_Report hK hP hD hS 13 rfl rfl 3 (by decide) kw_172 rfl rfl rfl rfl (Nat.le_of_ble_eq_true rfl) (by rw [eu4]; rfl) zd_Report_clear_17 (fun H locs hP hD hS => ?_)
  refine lv_aload_n hx hb zd_Report_clear_20 rfl (lv_at hl 0 rfl) ?_
  refine lv_iconst (v := (0 : Int32)) hx hb zd_Report_clear_21 (by decide) ?_
  obtain ⟨u5, eu5, hF⟩ := xx_nm_some hF
  refine xx_put (ws1 := zz_W g u5) C ki_Report kt_Report ko_Report kn_Report hK hP hD hS 13 rfl rfl 4 (by decide) kw_174 rfl rfl rfl rfl (Nat.le_of_ble_eq_true rfl) (by rw [eu5]; rfl) zd_Report_clear_22 (fun H locs hP hD hS => ?_)
  exact xx_vret C hF hK hP hD hS zd_Report_clear_25
theorem zd_Report_blame_0 : decode kb_Report_blame 0 = .ok (.aload_n 0, 1) := by decide +kernel
theorem zd_Report_blame_1 : decode kb_Report_blame 1 = .ok (.iload_n 1, 1) := by decide +kernel
theorem zd_Report_blame_2 : decode kb_Report_blame 2 = .ok (.putfield 15, 3) := by decide +kernel
theorem zd_Report_blame_5 : decode kb_Report_blame 5 = .ok (.aload_n 0, 1) := by decide +kernel
theorem zd_Report_blame_6 : decode kb_Report_blame 6 = .ok (.iload_n 2, 1) := by decide +kernel
theorem zd_Report_blame_7 : decode kb_Report_blame 7 = .ok (.putfield 9, 3) := by decide +kernel
theorem zd_Report_blame_10 : decode kb_Report_blame 10 = .ok (.return_, 1) := by decide +kernel
def zf_Report_blame (u : zz_S) (x1 : Int32) (x2 : Int32) : Option (zz_S) := xx_nm (va_up u.1 17 x1, u.2) fun u1 => xx_nm (va_up u1.1 18 x2, u1.2) fun u2 => some u2
set_option maxHeartbeats 4000000 in
set_option maxRecDepth 100000 in
theorem zc_Report_blame (l : Launch) (g : xx_G) (u : zz_S) (x1 : Int32) (x2 : Int32) (u9 : zz_S) (hF : zf_Report_blame u x1 x2 = some u9) : xx_M l g.1 (zz_T g) (zz_W g) ky_Report_blame kb_Report_blame 3 none (xx_rm 0 0) [.ref (g.2.1 13), .int x1, .int x2] u none u9 := by
  refine xx_body (by decide) (Nat.le_of_ble_eq_true rfl) ?_
  intro p e s m args below meth c A ls C hin hK hl hA hP hD hS
  have hx := C.1
  have hb := C.2.1
  have hown := C.2.2.2.1
  have hts := C.2.2.2.2.1
  have hl : lv_has ls 3 [(0, .ref (g.2.1 13)), (1, .int x1), (2, .int x2)] := hl
  unfold zf_Report_blame at hF
  refine lv_aload_n hx hb zd_Report_blame_0 rfl (lv_at hl 0 rfl) ?_
  refine lv_iload_n hx hb zd_Report_blame_1 rfl (lv_at hl 1 rfl) ?_
  obtain ⟨u1, eu1, hF⟩ := xx_nm_some hF
  refine xx_put (ws1 := zz_W g u1) C ki_Report kt_Report ko_Report kn_Report hK hP hD hS 13 rfl rfl 0 (by decide) kw_166 rfl rfl rfl rfl (Nat.le_of_ble_eq_true rfl) (by rw [eu1]; rfl) zd_Report_blame_2 (fun H locs hP hD hS => ?_)
  refine lv_aload_n hx hb zd_Report_blame_5 rfl (lv_at hl 0 rfl) ?_
  refine lv_iload_n hx hb zd_Report_blame_6 rfl (lv_at hl 2 rfl) ?_
  obtain ⟨u2, eu2, hF⟩ := xx_nm_some hF
  refine xx_put (ws1 := zz_W g u2) C ki_Report kt_Report ko_Report kn_Report hK hP hD hS 13 rfl rfl 1 (by decide) kw_168 rfl rfl rfl rfl (Nat.le_of_ble_eq_true rfl) (by rw [eu2]; rfl) zd_Report_blame_7 (fun H locs hP hD hS => ?_)
  exact xx_vret C hF hK hP hD hS zd_Report_blame_10
theorem zd_Report_hasFault_0 : decode kb_Report_hasFault 0 = .ok (.aload_n 0, 1) := by decide +kernel
theorem zd_Report_hasFault_1 : decode kb_Report_hasFault 1 = .ok (.getfield 15, 3) := by decide +kernel
theorem zd_Report_hasFault_4 : decode kb_Report_hasFault 4 = .ok (.ifCond .eq (7), 3) := by decide +kernel
theorem zd_Report_hasFault_7 : decode kb_Report_hasFault 7 = .ok (.iconst 1, 1) := by decide +kernel
theorem zd_Report_hasFault_8 : decode kb_Report_hasFault 8 = .ok (.goto (4), 3) := by decide +kernel
theorem zd_Report_hasFault_11 : decode kb_Report_hasFault 11 = .ok (.iconst 0, 1) := by decide +kernel
theorem zd_Report_hasFault_12 : decode kb_Report_hasFault 12 = .ok (.ireturn, 1) := by decide +kernel
def zf_Report_hasFault_b12 (u : zz_S) (y0 : Int32) : Option (Int32 × zz_S) := some (vp_nar .boolean y0, u)
def zf_Report_hasFault (u : zz_S) : Option (Int32 × zz_S) := if (u.1 17) = 0 then (zf_Report_hasFault_b12 u (0 : Int32)) else (zf_Report_hasFault_b12 u (1 : Int32))
set_option maxHeartbeats 4000000 in
set_option maxRecDepth 100000 in
theorem zw_Report_hasFault_b12 {p : Program} {l : Launch} {e : Env} {s : State} {m : MethodId} {args : Array Value} {below : List Frame} {meth : Method} {c : Code} {A : Nat → Prop} {g : xx_G} {r : Int32} {u9 : zz_S} (C : xx_C p s m args meth c kb_Report_hasFault 1 kr_Report (some .boolean)) (hA : ∀ q, s.heap.size ≤ q → A q) (hK : va_K g.1 xx_cls (zz_T g) s) : ∀ (u : zz_S) (y0 : Int32) (H : Heap) (locs : List Loc) (ls : Array Slot), zf_Report_hasFault_b12 u y0 = some (r, u9) → lv_has ls 1 [] → va_P g.1 xx_cls (zz_W g u) H → va_D A (zz_W g u) → va_S A s.heap H locs → W p l e (xx_rm 0 0) s m args below meth c H locs 0 0 (MQ below (xx_Q g.1 (zz_T g) (zz_W g) (some (.int r)) u9 A) args s 0 0 A) (F0 m 12 ls [.int y0]) := by
  have hx := C.1
  have hb := C.2.1
  have hown := C.2.2.2.1
  have hts := C.2.2.2.2.1
  intro u y0 H locs ls hF hl hP hD hS
  unfold zf_Report_hasFault_b12 at hF
  exact xx_zret C hF hK hP hD hS zd_Report_hasFault_12
set_option maxHeartbeats 4000000 in
set_option maxRecDepth 100000 in
theorem zc_Report_hasFault (l : Launch) (g : xx_G) (u : zz_S) (r : Int32) (u9 : zz_S) (hF : zf_Report_hasFault u = some (r, u9)) : xx_M l g.1 (zz_T g) (zz_W g) ky_Report_hasFault kb_Report_hasFault 1 (some .boolean) (xx_rm 0 0) [.ref (g.2.1 13)] u (some (.int r)) u9 := by
  refine xx_body (by decide) (Nat.le_of_ble_eq_true rfl) ?_
  intro p e s m args below meth c A ls C hin hK hl hA hP hD hS
  have hx := C.1
  have hb := C.2.1
  have hown := C.2.2.2.1
  have hts := C.2.2.2.2.1
  have hl : lv_has ls 1 [(0, .ref (g.2.1 13))] := hl
  unfold zf_Report_hasFault at hF
  refine lv_aload_n hx hb zd_Report_hasFault_0 rfl (lv_at hl 0 rfl) ?_
  refine xx_get C ki_Report hK hP 13 rfl rfl 0 (by decide) kw_166 rfl rfl zd_Report_hasFault_1 ?_
  refine lv_if_eq (tgt := 11) hx hb zd_Report_hasFault_4 (by decide) (fun hc => ?_) (fun hc => ?_)
  · have hF := xx_ip hc hF
    refine lv_iconst (v := (0 : Int32)) hx hb zd_Report_hasFault_11 (by decide) ?_
    exact zw_Report_hasFault_b12 C hA hK  u (0 : Int32) _ _ _ hF (lv_sub hl [] rfl) hP hD hS
  · have hF := xx_in' hc hF
    refine lv_iconst (v := (1 : Int32)) hx hb zd_Report_hasFault_7 (by decide) ?_
    refine lv_goto (tgt := 12) hx hb zd_Report_hasFault_8 (by decide) ?_
    exact zw_Report_hasFault_b12 C hA hK  u (1 : Int32) _ _ _ hF (lv_sub hl [] rfl) hP hD hS
theorem kw_139 : Cond.fieldLink "ModuleLoader$SymbolTable" 15 "ModuleLoader$SymbolTable" "used" "I" ∈ xx_tb := xx_in (List.mem_append_right _ (List.mem_of_getElem? (i := 139) (by decide +kernel))) (by decide +kernel)
theorem zd_SymbolTable_size_0 : decode kb_SymbolTable_size 0 = .ok (.aload_n 0, 1) := by decide +kernel
theorem zd_SymbolTable_size_1 : decode kb_SymbolTable_size 1 = .ok (.getfield 15, 3) := by decide +kernel
theorem zd_SymbolTable_size_4 : decode kb_SymbolTable_size 4 = .ok (.ireturn, 1) := by decide +kernel
def zf_SymbolTable_size (u : zz_S) : Option (Int32 × zz_S) := some ((u.1 15), u)
set_option maxHeartbeats 4000000 in
set_option maxRecDepth 100000 in
theorem zc_SymbolTable_size (l : Launch) (g : xx_G) (u : zz_S) (r : Int32) (u9 : zz_S) (hF : zf_SymbolTable_size u = some (r, u9)) : xx_M l g.1 (zz_T g) (zz_W g) ky_SymbolTable_size kb_SymbolTable_size 1 (some .int) (xx_rm 0 0) [.ref (g.2.1 9)] u (some (.int r)) u9 := by
  refine xx_body (by decide) (Nat.le_of_ble_eq_true rfl) ?_
  intro p e s m args below meth c A ls C hin hK hl hA hP hD hS
  have hx := C.1
  have hb := C.2.1
  have hown := C.2.2.2.1
  have hts := C.2.2.2.2.1
  have hl : lv_has ls 1 [(0, .ref (g.2.1 9))] := hl
  unfold zf_SymbolTable_size at hF
  refine lv_aload_n hx hb zd_SymbolTable_size_0 rfl (lv_at hl 0 rfl) ?_
  refine xx_get C ki_SymbolTable hK hP 9 rfl rfl 1 (by decide) kw_139 rfl rfl zd_SymbolTable_size_1 ?_
  exact xx_iret C hF hK hP hD hS zd_SymbolTable_size_4
theorem zd_SymbolTable_unused_0 : decode kb_SymbolTable_unused 0 = .ok (.bipush (40), 2) := by decide +kernel
theorem zd_SymbolTable_unused_2 : decode kb_SymbolTable_unused 2 = .ok (.aload_n 0, 1) := by decide +kernel
theorem zd_SymbolTable_unused_3 : decode kb_SymbolTable_unused 3 = .ok (.getfield 15, 3) := by decide +kernel
theorem zd_SymbolTable_unused_6 : decode kb_SymbolTable_unused 6 = .ok (.isub, 1) := by decide +kernel
theorem zd_SymbolTable_unused_7 : decode kb_SymbolTable_unused 7 = .ok (.ireturn, 1) := by decide +kernel
def zf_SymbolTable_unused (u : zz_S) : Option (Int32 × zz_S) := some (((40 : Int32) - (u.1 15)), u)
set_option maxHeartbeats 4000000 in
set_option maxRecDepth 100000 in
theorem zc_SymbolTable_unused (l : Launch) (g : xx_G) (u : zz_S) (r : Int32) (u9 : zz_S) (hF : zf_SymbolTable_unused u = some (r, u9)) : xx_M l g.1 (zz_T g) (zz_W g) ky_SymbolTable_unused kb_SymbolTable_unused 1 (some .int) (xx_rm 0 0) [.ref (g.2.1 9)] u (some (.int r)) u9 := by
  refine xx_body (by decide) (Nat.le_of_ble_eq_true rfl) ?_
  intro p e s m args below meth c A ls C hin hK hl hA hP hD hS
  have hx := C.1
  have hb := C.2.1
  have hown := C.2.2.2.1
  have hts := C.2.2.2.2.1
  have hl : lv_has ls 1 [(0, .ref (g.2.1 9))] := hl
  unfold zf_SymbolTable_unused at hF
  refine lv_bipush (v := (40 : Int32)) hx hb zd_SymbolTable_unused_0 (by decide) ?_
  refine lv_aload_n hx hb zd_SymbolTable_unused_2 rfl (lv_at hl 0 rfl) ?_
  refine xx_get C ki_SymbolTable hK hP 9 rfl rfl 1 (by decide) kw_139 rfl rfl zd_SymbolTable_unused_3 ?_
  refine lv_isub hx hb zd_SymbolTable_unused_6 ?_
  exact xx_iret C hF hK hP hD hS zd_SymbolTable_unused_7
theorem kw_138 : Cond.fieldLink "ModuleLoader$SymbolTable" 11 "ModuleLoader$SymbolTable" "entries" "[LModuleLoader$Symbol;" ∈ xx_tb := xx_in (List.mem_append_right _ (List.mem_of_getElem? (i := 138) (by decide +kernel))) (by decide +kernel)
theorem kw_463 : Cond.fieldLink "ModuleLoader$SymbolTable" 19 "ModuleLoader$Symbol" "name" "I" ∈ xx_tb := xx_in (List.mem_append_right _ (List.mem_of_getElem? (i := 463) (by decide +kernel))) (by decide +kernel)
theorem zd_SymbolTable_find_0 : decode kb_SymbolTable_find 0 = .ok (.iconst 0, 1) := by decide +kernel
theorem zd_SymbolTable_find_1 : decode kb_SymbolTable_find 1 = .ok (.istore_n 2, 1) := by decide +kernel
theorem zd_SymbolTable_find_2 : decode kb_SymbolTable_find 2 = .ok (.iload_n 2, 1) := by decide +kernel
theorem zd_SymbolTable_find_3 : decode kb_SymbolTable_find 3 = .ok (.aload_n 0, 1) := by decide +kernel
theorem zd_SymbolTable_find_4 : decode kb_SymbolTable_find 4 = .ok (.getfield 15, 3) := by decide +kernel
theorem zd_SymbolTable_find_7 : decode kb_SymbolTable_find 7 = .ok (.if_icmp .ge (38), 3) := by decide +kernel
theorem zd_SymbolTable_find_10 : decode kb_SymbolTable_find 10 = .ok (.aload_n 0, 1) := by decide +kernel
theorem zd_SymbolTable_find_11 : decode kb_SymbolTable_find 11 = .ok (.getfield 11, 3) := by decide +kernel
theorem zd_SymbolTable_find_14 : decode kb_SymbolTable_find 14 = .ok (.iload_n 2, 1) := by decide +kernel
theorem zd_SymbolTable_find_15 : decode kb_SymbolTable_find 15 = .ok (.aaload, 1) := by decide +kernel
theorem zd_SymbolTable_find_16 : decode kb_SymbolTable_find 16 = .ok (.ifnull (23), 3) := by decide +kernel
theorem zd_SymbolTable_find_19 : decode kb_SymbolTable_find 19 = .ok (.aload_n 0, 1) := by decide +kernel
theorem zd_SymbolTable_find_20 : decode kb_SymbolTable_find 20 = .ok (.getfield 11, 3) := by decide +kernel
theorem zd_SymbolTable_find_23 : decode kb_SymbolTable_find 23 = .ok (.iload_n 2, 1) := by decide +kernel
theorem zd_SymbolTable_find_24 : decode kb_SymbolTable_find 24 = .ok (.aaload, 1) := by decide +kernel
theorem zd_SymbolTable_find_25 : decode kb_SymbolTable_find 25 = .ok (.getfield 19, 3) := by decide +kernel
theorem zd_SymbolTable_find_28 : decode kb_SymbolTable_find 28 = .ok (.iload_n 1, 1) := by decide +kernel
theorem zd_SymbolTable_find_29 : decode kb_SymbolTable_find 29 = .ok (.if_icmp .ne (10), 3) := by decide +kernel
theorem zd_SymbolTable_find_32 : decode kb_SymbolTable_find 32 = .ok (.aload_n 0, 1) := by decide +kernel
theorem zd_SymbolTable_find_33 : decode kb_SymbolTable_find 33 = .ok (.getfield 11, 3) := by decide +kernel
theorem zd_SymbolTable_find_36 : decode kb_SymbolTable_find 36 = .ok (.iload_n 2, 1) := by decide +kernel
theorem zd_SymbolTable_find_37 : decode kb_SymbolTable_find 37 = .ok (.aaload, 1) := by decide +kernel
theorem zd_SymbolTable_find_38 : decode kb_SymbolTable_find 38 = .ok (.areturn, 1) := by decide +kernel
theorem zd_SymbolTable_find_39 : decode kb_SymbolTable_find 39 = .ok (.iinc 2 (1), 3) := by decide +kernel
theorem zd_SymbolTable_find_42 : decode kb_SymbolTable_find 42 = .ok (.goto (-40), 3) := by decide +kernel
theorem zd_SymbolTable_find_45 : decode kb_SymbolTable_find 45 = .ok (.aconst_null, 1) := by decide +kernel
theorem zd_SymbolTable_find_46 : decode kb_SymbolTable_find 46 = .ok (.areturn, 1) := by decide +kernel
def zf_SymbolTable_find_b39 (rec2 : zz_S → Int32 → Int32 → Option (Option Nat × zz_S)) (u : zz_S) (x1 : Int32) (x2 : Int32) : Option (Option Nat × zz_S) := xx_nm (x2 + (1 : Int32)) fun v1 => rec2 u x1 v1
def zf_SymbolTable_find_b2 : Nat → zz_S → Int32 → Int32 → Option (Option Nat × zz_S)
  | 0, _, _, _ => none
  | n + 1, u, x1, x2 => if (u.1 15) ≤ x2 then (some (none, u)) else ((xx_ag (u.2.2.1 0) 40 x2).bind fun v1 => xx_on v1 (zf_SymbolTable_find_b39 (zf_SymbolTable_find_b2 n) u x1 x2) (fun a2 => (xx_ag (u.2.2.1 0) 40 x2).bind fun v3 => xx_nn v3 fun a4 => (zz_pi u a4 7 0).bind fun v5 => if v5 = x1 then ((xx_ag (u.2.2.1 0) 40 x2).bind fun v6 => some (v6, u)) else (zf_SymbolTable_find_b39 (zf_SymbolTable_find_b2 n) u x1 x2)))
def zf_SymbolTable_find (u : zz_S) (x1 : Int32) : Option (Option Nat × zz_S) := xx_nm (0 : Int32) fun v1 => zf_SymbolTable_find_b2 xx_fu u x1 v1
set_option maxHeartbeats 4000000 in
set_option maxRecDepth 100000 in
theorem zw_SymbolTable_find_b39 {p : Program} {l : Launch} {e : Env} {s : State} {m : MethodId} {args : Array Value} {below : List Frame} {meth : Method} {c : Code} {A : Nat → Prop} {g : xx_G} {r : Option Nat} {u9 : zz_S} (C : xx_C p s m args meth c kb_SymbolTable_find 3 kr_SymbolTable (some (.object "ModuleLoader$Symbol"))) (hA : ∀ q, s.heap.size ≤ q → A q) (hK : va_K g.1 xx_cls (zz_T g) s) {rec2 : zz_S → Int32 → Int32 → Option (Option Nat × zz_S)} (hrec2 : ∀ (u : zz_S) (x1 : Int32) (x2 : Int32) (H : Heap) (locs : List Loc) (ls : Array Slot), rec2 u x1 x2 = some (r, u9) → lv_has ls 3 [(0, .ref (g.2.1 9)), (1, .int x1), (2, .int x2)] → va_P g.1 xx_cls (zz_W g u) H → va_D A (zz_W g u) → va_S A s.heap H locs → W p l e (xx_rm 0 0) s m args below meth c H locs 0 0 (MQ below (xx_Q g.1 (zz_T g) (zz_W g) (some (va_rf r)) u9 A) args s 0 0 A) (F0 m 2 ls [])) : ∀ (u : zz_S) (x1 : Int32) (x2 : Int32) (H : Heap) (locs : List Loc) (ls : Array Slot), zf_SymbolTable_find_b39 rec2 u x1 x2 = some (r, u9) → lv_has ls 3 [(0, .ref (g.2.1 9)), (1, .int x1), (2, .int x2)] → va_P g.1 xx_cls (zz_W g u) H → va_D A (zz_W g u) → va_S A s.heap H locs → W p l e (xx_rm 0 0) s m args below meth c H locs 0 0 (MQ below (xx_Q g.1 (zz_T g) (zz_W g) (some (va_rf r)) u9 A) args s 0 0 A) (F0 m 39 ls []) := by
  have hx := C.1
  have hb := C.2.1
  have hown := C.2.2.2.1
  have hts := C.2.2.2.2.1
  intro u x1 x2 H locs ls hF hl hP hD hS
  unfold zf_SymbolTable_find_b39 at hF
  obtain ⟨v1, ev1, hF⟩ := xx_nm_some hF
  refine lv_iinc (k := 2) (v := v1) hx hb zd_SymbolTable_find_39 hl rfl (by rw [ev1, xx_lit1]) (by decide) rfl (fun ls hl => ?_)
  refine lv_goto (tgt := 2) hx hb zd_SymbolTable_find_42 (by decide) ?_
  exact hrec2 u x1 v1 _ _ _ hF (lv_sub hl [1, 2, 0] rfl) hP hD hS
set_option maxHeartbeats 4000000 in
set_option maxRecDepth 100000 in
theorem zw_SymbolTable_find_b2 {p : Program} {l : Launch} {e : Env} {s : State} {m : MethodId} {args : Array Value} {below : List Frame} {meth : Method} {c : Code} {A : Nat → Prop} {g : xx_G} {r : Option Nat} {u9 : zz_S} (C : xx_C p s m args meth c kb_SymbolTable_find 3 kr_SymbolTable (some (.object "ModuleLoader$Symbol"))) (hA : ∀ q, s.heap.size ≤ q → A q) (hK : va_K g.1 xx_cls (zz_T g) s) : ∀ (n : Nat), ∀ (u : zz_S) (x1 : Int32) (x2 : Int32) (H : Heap) (locs : List Loc) (ls : Array Slot), zf_SymbolTable_find_b2 n u x1 x2 = some (r, u9) → lv_has ls 3 [(0, .ref (g.2.1 9)), (1, .int x1), (2, .int x2)] → va_P g.1 xx_cls (zz_W g u) H → va_D A (zz_W g u) → va_S A s.heap H locs → W p l e (xx_rm 0 0) s m args below meth c H locs 0 0 (MQ below (xx_Q g.1 (zz_T g) (zz_W g) (some (va_rf r)) u9 A) args s 0 0 A) (F0 m 2 ls []) := by
  have hx := C.1
  have hb := C.2.1
  have hown := C.2.2.2.1
  have hts := C.2.2.2.2.1
  intro n
  induction n with
  | zero =>
    intro u x1 x2 H locs ls hF
    rw [zf_SymbolTable_find_b2] at hF
    cases hF
  | succ n ih =>
    intro u x1 x2 H locs ls hF hl hP hD hS
    rw [zf_SymbolTable_find_b2] at hF
    refine lv_iload_n hx hb zd_SymbolTable_find_2 rfl (lv_at hl 2 rfl) ?_
    refine lv_aload_n hx hb zd_SymbolTable_find_3 rfl (lv_at hl 0 rfl) ?_
    refine xx_get C ki_SymbolTable hK hP 9 rfl rfl 1 (by decide) kw_139 rfl rfl zd_SymbolTable_find_4 ?_
    refine lv_icmp_ge (tgt := 45) hx hb zd_SymbolTable_find_7 (by decide) (fun hc => ?_) (fun hc => ?_)
    · have hF := xx_ip hc hF
      refine lv_null hx hb zd_SymbolTable_find_45 ?_
      exact xx_qret (x := none) C hF hK hP hD hS zd_SymbolTable_find_46
    · have hF := xx_in' hc hF
      refine lv_aload_n hx hb zd_SymbolTable_find_10 rfl (lv_at hl 0 rfl) ?_
      refine xx_get C ki_SymbolTable hK hP 9 rfl rfl 0 (by decide) kw_138 rfl rfl zd_SymbolTable_find_11 ?_
      refine lv_iload_n hx hb zd_SymbolTable_find_14 rfl (lv_at hl 2 rfl) ?_
      obtain ⟨v1, ev1, hF⟩ := xx_ob hF
      refine xx_qald C hK hP 10 2 rfl rfl ev1 zd_SymbolTable_find_15 ?_
      refine xx_ifnull (tgt := 39) C zd_SymbolTable_find_16 (by decide) (fun en => ?_) (fun a2 ea2 => ?_)
      · have hF := xx_on_n en hF
        exact zw_SymbolTable_find_b39 C hA hK ih  u x1 x2 _ _ _ hF (lv_sub hl [0, 1, 2] rfl) hP hD hS
      · have hF := xx_on_s ea2 hF
        refine lv_aload_n hx hb zd_SymbolTable_find_19 rfl (lv_at hl 0 rfl) ?_
        refine xx_get C ki_SymbolTable hK hP 9 rfl rfl 0 (by decide) kw_138 rfl rfl zd_SymbolTable_find_20 ?_
        refine lv_iload_n hx hb zd_SymbolTable_find_23 rfl (lv_at hl 2 rfl) ?_
        obtain ⟨v3, ev3, hF⟩ := xx_ob hF
        refine xx_qald C hK hP 10 2 rfl rfl ev3 zd_SymbolTable_find_24 ?_
        obtain ⟨a4, ea4, hF⟩ := xx_nn_some hF
        rw [ea4]
        obtain ⟨v5, ev5, hF⟩ := xx_ob hF
        refine zz_get (a := a4) (u := u) (ci := 7) C ki_Symbol hK hP rfl 0 (by decide) kw_463 rfl (zz_pi_some ev5) zd_SymbolTable_find_25 ?_
        refine lv_iload_n hx hb zd_SymbolTable_find_28 rfl (lv_at hl 1 rfl) ?_
        refine lv_icmp_ne (tgt := 39) hx hb zd_SymbolTable_find_29 (by decide) (fun hc => ?_) (fun hc => ?_)
        · have hF := xx_in' hc hF
          exact zw_SymbolTable_find_b39 C hA hK ih  u x1 x2 _ _ _ hF (lv_sub hl [0, 1, 2] rfl) hP hD hS
        · have hF := xx_ip hc hF
          refine lv_aload_n hx hb zd_SymbolTable_find_32 rfl (lv_at hl 0 rfl) ?_
          refine xx_get C ki_SymbolTable hK hP 9 rfl rfl 0 (by decide) kw_138 rfl rfl zd_SymbolTable_find_33 ?_
          refine lv_iload_n hx hb zd_SymbolTable_find_36 rfl (lv_at hl 2 rfl) ?_
          obtain ⟨v6, ev6, hF⟩ := xx_ob hF
          refine xx_qald C hK hP 10 2 rfl rfl ev6 zd_SymbolTable_find_37 ?_
          exact xx_qret (x := v6) C hF hK hP hD hS zd_SymbolTable_find_38
set_option maxHeartbeats 4000000 in
set_option maxRecDepth 100000 in
theorem zc_SymbolTable_find (l : Launch) (g : xx_G) (u : zz_S) (x1 : Int32) (r : Option Nat) (u9 : zz_S) (hF : zf_SymbolTable_find u x1 = some (r, u9)) : xx_M l g.1 (zz_T g) (zz_W g) ky_SymbolTable_find kb_SymbolTable_find 3 (some (.object "ModuleLoader$Symbol")) (xx_rm 0 0) [.ref (g.2.1 9), .int x1] u (some (va_rf r)) u9 := by
  refine xx_body (by decide) (Nat.le_of_ble_eq_true rfl) ?_
  intro p e s m args below meth c A ls C hin hK hl hA hP hD hS
  have hx := C.1
  have hb := C.2.1
  have hown := C.2.2.2.1
  have hts := C.2.2.2.2.1
  have hl : lv_has ls 3 [(0, .ref (g.2.1 9)), (1, .int x1)] := hl
  unfold zf_SymbolTable_find at hF
  refine lv_iconst (v := (0 : Int32)) hx hb zd_SymbolTable_find_0 (by decide) ?_
  obtain ⟨v1, ev1, hF⟩ := xx_nm_some hF
  refine xx_topi ev1 ?_
  refine lv_istore_n hx hb zd_SymbolTable_find_1 rfl hl (by decide) rfl (fun ls hl => ?_)
  exact zw_SymbolTable_find_b2 C hA hK xx_fu u x1 v1 _ _ _ hF (lv_sub hl [1, 2, 0] rfl) hP hD hS
theorem zd_SymbolTable_add_0 : decode kb_SymbolTable_add 0 = .ok (.aload_n 0, 1) := by decide +kernel
theorem zd_SymbolTable_add_1 : decode kb_SymbolTable_add 1 = .ok (.getfield 15, 3) := by decide +kernel
theorem zd_SymbolTable_add_4 : decode kb_SymbolTable_add 4 = .ok (.bipush (40), 2) := by decide +kernel
theorem zd_SymbolTable_add_6 : decode kb_SymbolTable_add 6 = .ok (.if_icmp .ge (23), 3) := by decide +kernel
theorem zd_SymbolTable_add_9 : decode kb_SymbolTable_add 9 = .ok (.aload_n 0, 1) := by decide +kernel
theorem zd_SymbolTable_add_10 : decode kb_SymbolTable_add 10 = .ok (.getfield 11, 3) := by decide +kernel
theorem zd_SymbolTable_add_13 : decode kb_SymbolTable_add 13 = .ok (.aload_n 0, 1) := by decide +kernel
theorem zd_SymbolTable_add_14 : decode kb_SymbolTable_add 14 = .ok (.getfield 15, 3) := by decide +kernel
theorem zd_SymbolTable_add_17 : decode kb_SymbolTable_add 17 = .ok (.aload_n 1, 1) := by decide +kernel
theorem zd_SymbolTable_add_18 : decode kb_SymbolTable_add 18 = .ok (.aastore, 1) := by decide +kernel
theorem zd_SymbolTable_add_19 : decode kb_SymbolTable_add 19 = .ok (.aload_n 0, 1) := by decide +kernel
theorem zd_SymbolTable_add_20 : decode kb_SymbolTable_add 20 = .ok (.dup, 1) := by decide +kernel
theorem zd_SymbolTable_add_21 : decode kb_SymbolTable_add 21 = .ok (.getfield 15, 3) := by decide +kernel
theorem zd_SymbolTable_add_24 : decode kb_SymbolTable_add 24 = .ok (.iconst 1, 1) := by decide +kernel
theorem zd_SymbolTable_add_25 : decode kb_SymbolTable_add 25 = .ok (.iadd, 1) := by decide +kernel
theorem zd_SymbolTable_add_26 : decode kb_SymbolTable_add 26 = .ok (.putfield 15, 3) := by decide +kernel
theorem zd_SymbolTable_add_29 : decode kb_SymbolTable_add 29 = .ok (.return_, 1) := by decide +kernel
def zf_SymbolTable_add_b29 (u : zz_S) : Option (zz_S) := some u
def zf_SymbolTable_add (u : zz_S) (x1 : Option Nat) : Option (zz_S) := if (40 : Int32) ≤ (u.1 15) then (zf_SymbolTable_add_b29 u) else (xx_nn x1 fun a1 => (zz_as u 0 40 7 (u.1 15) a1).bind fun u2 => xx_nm ((u2.1 15) + (1 : Int32)) fun v3 => xx_nm (va_up u2.1 15 v3, u2.2) fun u4 => zf_SymbolTable_add_b29 u4)
set_option maxHeartbeats 4000000 in
set_option maxRecDepth 100000 in
theorem zw_SymbolTable_add_b29 {p : Program} {l : Launch} {e : Env} {s : State} {m : MethodId} {args : Array Value} {below : List Frame} {meth : Method} {c : Code} {A : Nat → Prop} {g : xx_G} {u9 : zz_S} (C : xx_C p s m args meth c kb_SymbolTable_add 2 kr_SymbolTable none) (hA : ∀ q, s.heap.size ≤ q → A q) (hK : va_K g.1 xx_cls (zz_T g) s) : ∀ (u : zz_S) (H : Heap) (locs : List Loc) (ls : Array Slot), zf_SymbolTable_add_b29 u = some u9 → lv_has ls 2 [] → va_P g.1 xx_cls (zz_W g u) H → va_D A (zz_W g u) → va_S A s.heap H locs → W p l e (xx_rm 0 0) s m args below meth c H locs 0 0 (MQ below (xx_Q g.1 (zz_T g) (zz_W g) none u9 A) args s 0 0 A) (F0 m 29 ls []) := by
  have hx := C.1
  have hb := C.2.1
  have hown := C.2.2.2.1
  have hts := C.2.2.2.2.1
  intro u H locs ls hF hl hP hD hS
  unfold zf_SymbolTable_add_b29 at hF
  exact xx_vret C hF hK hP hD hS zd_SymbolTable_add_29
set_option maxHeartbeats 4000000 in
set_option maxRecDepth 100000 in
theorem zc_SymbolTable_add (l : Launch) (g : xx_G) (u : zz_S) (x1 : Option Nat) (u9 : zz_S) (hF : zf_SymbolTable_add u x1 = some u9) : xx_M l g.1 (zz_T g) (zz_W g) ky_SymbolTable_add kb_SymbolTable_add 2 none (xx_rm 0 0) [.ref (g.2.1 9), (va_rf x1)] u none u9 := by
  refine xx_body (by decide) (by simp [lg_sl, xx_rfc, xx_ic, xx_rc]) ?_
  intro p e s m args below meth c A ls C hin hK hl hA hP hD hS
  have hx := C.1
  have hb := C.2.1
  have hown := C.2.2.2.1
  have hts := C.2.2.2.2.1
  have hl : lv_has ls 2 [(0, .ref (g.2.1 9)), (1, (va_rf x1))] := by simpa [lv_args, xx_rfc, xx_ic, xx_rc] using hl
  unfold zf_SymbolTable_add at hF
  refine lv_aload_n hx hb zd_SymbolTable_add_0 rfl (lv_at hl 0 rfl) ?_
  refine xx_get C ki_SymbolTable hK hP 9 rfl rfl 1 (by decide) kw_139 rfl rfl zd_SymbolTable_add_1 ?_
  refine lv_bipush (v := (40 : Int32)) hx hb zd_SymbolTable_add_4 (by decide) ?_
  refine lv_icmp_ge (tgt := 29) hx hb zd_SymbolTable_add_6 (by decide) (fun hc => ?_) (fun hc => ?_)
  · have hF := xx_ip hc hF
    exact zw_SymbolTable_add_b29 C hA hK  u _ _ _ hF (lv_sub hl [] rfl) hP hD hS
  · have hF := xx_in' hc hF
    refine lv_aload_n hx hb zd_SymbolTable_add_9 rfl (lv_at hl 0 rfl) ?_
    refine xx_get C ki_SymbolTable hK hP 9 rfl rfl 0 (by decide) kw_138 rfl rfl zd_SymbolTable_add_10 ?_
    refine lv_aload_n hx hb zd_SymbolTable_add_13 rfl (lv_at hl 0 rfl) ?_
    refine xx_get C ki_SymbolTable hK hP 9 rfl rfl 1 (by decide) kw_139 rfl rfl zd_SymbolTable_add_14 ?_
    refine xx_ald C zd_SymbolTable_add_17 rfl (lv_at hl 1 rfl) ?_
    obtain ⟨a1, ea1, hF⟩ := xx_nn_some hF
    rw [ea1]
    obtain ⟨u2, eu2, hF⟩ := xx_ob hF
    refine zz_qast (u := u) (u1 := u2) (a := a1) C hK hP hD hS 10 2 0 7 rfl rfl rfl eu2 (fun _ => rfl) zd_SymbolTable_add_18 (fun H locs hP hD hS => ?_)
    refine lv_aload_n hx hb zd_SymbolTable_add_19 rfl (lv_at hl 0 rfl) ?_
    refine lv_dup hx hb zd_SymbolTable_add_20 rfl ?_
    refine xx_get C ki_SymbolTable hK hP 9 rfl rfl 1 (by decide) kw_139 rfl rfl zd_SymbolTable_add_21 ?_
    refine lv_iconst (v := (1 : Int32)) hx hb zd_SymbolTable_add_24 (by decide) ?_
    refine lv_iadd hx hb zd_SymbolTable_add_25 ?_
    obtain ⟨v3, ev3, hF⟩ := xx_nm_some hF
    refine xx_topi ev3 ?_
    obtain ⟨u4, eu4, hF⟩ := xx_nm_some hF
    refine xx_put (ws1 := zz_W g u4) C ki_SymbolTable kt_SymbolTable ko_SymbolTable kn_SymbolTable hK hP hD hS 9 rfl rfl 1 (by decide) kw_139 rfl rfl rfl rfl (Nat.le_of_ble_eq_true rfl) (by rw [eu4]; rfl) zd_SymbolTable_add_26 (fun H locs hP hD hS => ?_)
    exact zw_SymbolTable_add_b29 C hA hK  u4 _ _ _ hF (lv_sub hl [] rfl) hP hD hS
theorem kw_469 : Cond.fieldLink "ModuleLoader$SymbolTable" 22 "ModuleLoader$Symbol" "owner" "LModuleLoader$LoadedModule;" ∈ xx_tb := xx_in (List.mem_append_right _ (List.mem_of_getElem? (i := 469) (by decide +kernel))) (by decide +kernel)
theorem zd_SymbolTable_removeOf_0 : decode kb_SymbolTable_removeOf 0 = .ok (.iconst 0, 1) := by decide +kernel
theorem zd_SymbolTable_removeOf_1 : decode kb_SymbolTable_removeOf 1 = .ok (.istore_n 2, 1) := by decide +kernel
theorem zd_SymbolTable_removeOf_2 : decode kb_SymbolTable_removeOf 2 = .ok (.iconst 0, 1) := by decide +kernel
theorem zd_SymbolTable_removeOf_3 : decode kb_SymbolTable_removeOf 3 = .ok (.istore_n 3, 1) := by decide +kernel
theorem zd_SymbolTable_removeOf_4 : decode kb_SymbolTable_removeOf 4 = .ok (.iload_n 3, 1) := by decide +kernel
theorem zd_SymbolTable_removeOf_5 : decode kb_SymbolTable_removeOf 5 = .ok (.aload_n 0, 1) := by decide +kernel
theorem zd_SymbolTable_removeOf_6 : decode kb_SymbolTable_removeOf 6 = .ok (.getfield 15, 3) := by decide +kernel
theorem zd_SymbolTable_removeOf_9 : decode kb_SymbolTable_removeOf 9 = .ok (.if_icmp .ge (46), 3) := by decide +kernel
theorem zd_SymbolTable_removeOf_12 : decode kb_SymbolTable_removeOf 12 = .ok (.aload_n 0, 1) := by decide +kernel
theorem zd_SymbolTable_removeOf_13 : decode kb_SymbolTable_removeOf 13 = .ok (.getfield 11, 3) := by decide +kernel
theorem zd_SymbolTable_removeOf_16 : decode kb_SymbolTable_removeOf 16 = .ok (.iload_n 3, 1) := by decide +kernel
theorem zd_SymbolTable_removeOf_17 : decode kb_SymbolTable_removeOf 17 = .ok (.aaload, 1) := by decide +kernel
theorem zd_SymbolTable_removeOf_18 : decode kb_SymbolTable_removeOf 18 = .ok (.ifnull (31), 3) := by decide +kernel
theorem zd_SymbolTable_removeOf_21 : decode kb_SymbolTable_removeOf 21 = .ok (.aload_n 0, 1) := by decide +kernel
theorem zd_SymbolTable_removeOf_22 : decode kb_SymbolTable_removeOf 22 = .ok (.getfield 11, 3) := by decide +kernel
theorem zd_SymbolTable_removeOf_25 : decode kb_SymbolTable_removeOf 25 = .ok (.iload_n 3, 1) := by decide +kernel
theorem zd_SymbolTable_removeOf_26 : decode kb_SymbolTable_removeOf 26 = .ok (.aaload, 1) := by decide +kernel
theorem zd_SymbolTable_removeOf_27 : decode kb_SymbolTable_removeOf 27 = .ok (.getfield 22, 3) := by decide +kernel
theorem zd_SymbolTable_removeOf_30 : decode kb_SymbolTable_removeOf 30 = .ok (.aload_n 1, 1) := by decide +kernel
theorem zd_SymbolTable_removeOf_31 : decode kb_SymbolTable_removeOf 31 = .ok (.if_acmp .eq (18), 3) := by decide +kernel
theorem zd_SymbolTable_removeOf_34 : decode kb_SymbolTable_removeOf 34 = .ok (.aload_n 0, 1) := by decide +kernel
theorem zd_SymbolTable_removeOf_35 : decode kb_SymbolTable_removeOf 35 = .ok (.getfield 11, 3) := by decide +kernel
theorem zd_SymbolTable_removeOf_38 : decode kb_SymbolTable_removeOf 38 = .ok (.iload_n 2, 1) := by decide +kernel
theorem zd_SymbolTable_removeOf_39 : decode kb_SymbolTable_removeOf 39 = .ok (.aload_n 0, 1) := by decide +kernel
theorem zd_SymbolTable_removeOf_40 : decode kb_SymbolTable_removeOf 40 = .ok (.getfield 11, 3) := by decide +kernel
theorem zd_SymbolTable_removeOf_43 : decode kb_SymbolTable_removeOf 43 = .ok (.iload_n 3, 1) := by decide +kernel
theorem zd_SymbolTable_removeOf_44 : decode kb_SymbolTable_removeOf 44 = .ok (.aaload, 1) := by decide +kernel
theorem zd_SymbolTable_removeOf_45 : decode kb_SymbolTable_removeOf 45 = .ok (.aastore, 1) := by decide +kernel
theorem zd_SymbolTable_removeOf_46 : decode kb_SymbolTable_removeOf 46 = .ok (.iinc 2 (1), 3) := by decide +kernel
theorem zd_SymbolTable_removeOf_49 : decode kb_SymbolTable_removeOf 49 = .ok (.iinc 3 (1), 3) := by decide +kernel
theorem zd_SymbolTable_removeOf_52 : decode kb_SymbolTable_removeOf 52 = .ok (.goto (-48), 3) := by decide +kernel
theorem zd_SymbolTable_removeOf_55 : decode kb_SymbolTable_removeOf 55 = .ok (.aload_n 0, 1) := by decide +kernel
theorem zd_SymbolTable_removeOf_56 : decode kb_SymbolTable_removeOf 56 = .ok (.iload_n 2, 1) := by decide +kernel
theorem zd_SymbolTable_removeOf_57 : decode kb_SymbolTable_removeOf 57 = .ok (.putfield 15, 3) := by decide +kernel
theorem zd_SymbolTable_removeOf_60 : decode kb_SymbolTable_removeOf 60 = .ok (.return_, 1) := by decide +kernel
def zf_SymbolTable_removeOf_b49 (rec4 : zz_S → Option Nat → Int32 → Int32 → Option (zz_S)) (u : zz_S) (x1 : Option Nat) (x2 : Int32) (x3 : Int32) : Option (zz_S) := xx_nm (x3 + (1 : Int32)) fun v1 => rec4 u x1 x2 v1
def zf_SymbolTable_removeOf_b4 : Nat → zz_S → Option Nat → Int32 → Int32 → Option (zz_S)
  | 0, _, _, _, _ => none
  | n + 1, u, x1, x2, x3 => if (u.1 15) ≤ x3 then (xx_nm (va_up u.1 15 x2, u.2) fun u1 => some u1) else ((xx_ag (u.2.2.1 0) 40 x3).bind fun v2 => xx_on v2 (zf_SymbolTable_removeOf_b49 (zf_SymbolTable_removeOf_b4 n) u x1 x2 x3) (fun a3 => (xx_ag (u.2.2.1 0) 40 x3).bind fun v4 => xx_nn v4 fun a5 => (zz_pq u a5 7 3).bind fun v6 => if v6 = x1 then (zf_SymbolTable_removeOf_b49 (zf_SymbolTable_removeOf_b4 n) u x1 x2 x3) else ((xx_ag (u.2.2.1 0) 40 x3).bind fun v7 => xx_nn v7 fun a8 => (zz_as u 0 40 7 x2 a8).bind fun u9 => xx_nm (x2 + (1 : Int32)) fun v10 => zf_SymbolTable_removeOf_b49 (zf_SymbolTable_removeOf_b4 n) u9 x1 v10 x3)))
def zf_SymbolTable_removeOf (u : zz_S) (x1 : Option Nat) : Option (zz_S) := xx_nm (0 : Int32) fun v1 => xx_nm (0 : Int32) fun v2 => zf_SymbolTable_removeOf_b4 xx_fu u x1 v1 v2
set_option maxHeartbeats 4000000 in
set_option maxRecDepth 100000 in
theorem zw_SymbolTable_removeOf_b49 {p : Program} {l : Launch} {e : Env} {s : State} {m : MethodId} {args : Array Value} {below : List Frame} {meth : Method} {c : Code} {A : Nat → Prop} {g : xx_G} {u9 : zz_S} (C : xx_C p s m args meth c kb_SymbolTable_removeOf 4 kr_SymbolTable none) (hA : ∀ q, s.heap.size ≤ q → A q) (hK : va_K g.1 xx_cls (zz_T g) s) {rec4 : zz_S → Option Nat → Int32 → Int32 → Option (zz_S)} (hrec4 : ∀ (u : zz_S) (x1 : Option Nat) (x2 : Int32) (x3 : Int32) (H : Heap) (locs : List Loc) (ls : Array Slot), rec4 u x1 x2 x3 = some u9 → lv_has ls 4 [(0, .ref (g.2.1 9)), (1, (va_rf x1)), (2, .int x2), (3, .int x3)] → va_P g.1 xx_cls (zz_W g u) H → va_D A (zz_W g u) → va_S A s.heap H locs → W p l e (xx_rm 0 0) s m args below meth c H locs 0 0 (MQ below (xx_Q g.1 (zz_T g) (zz_W g) none u9 A) args s 0 0 A) (F0 m 4 ls [])) : ∀ (u : zz_S) (x1 : Option Nat) (x2 : Int32) (x3 : Int32) (H : Heap) (locs : List Loc) (ls : Array Slot), zf_SymbolTable_removeOf_b49 rec4 u x1 x2 x3 = some u9 → lv_has ls 4 [(0, .ref (g.2.1 9)), (1, (va_rf x1)), (2, .int x2), (3, .int x3)] → va_P g.1 xx_cls (zz_W g u) H → va_D A (zz_W g u) → va_S A s.heap H locs → W p l e (xx_rm 0 0) s m args below meth c H locs 0 0 (MQ below (xx_Q g.1 (zz_T g) (zz_W g) none u9 A) args s 0 0 A) (F0 m 49 ls []) := by
  have hx := C.1
  have hb := C.2.1
  have hown := C.2.2.2.1
  have hts := C.2.2.2.2.1
  intro u x1 x2 x3 H locs ls hF hl hP hD hS
  unfold zf_SymbolTable_removeOf_b49 at hF
  obtain ⟨v1, ev1, hF⟩ := xx_nm_some hF
  refine lv_iinc (k := 3) (v := v1) hx hb zd_SymbolTable_removeOf_49 hl rfl (by rw [ev1, xx_lit1]) (by decide) rfl (fun ls hl => ?_)
  refine lv_goto (tgt := 4) hx hb zd_SymbolTable_removeOf_52 (by decide) ?_
  exact hrec4 u x1 x2 v1 _ _ _ hF (lv_sub hl [1, 2, 3, 0] rfl) hP hD hS
set_option maxHeartbeats 4000000 in
set_option maxRecDepth 100000 in
theorem zw_SymbolTable_removeOf_b4 {p : Program} {l : Launch} {e : Env} {s : State} {m : MethodId} {args : Array Value} {below : List Frame} {meth : Method} {c : Code} {A : Nat → Prop} {g : xx_G} {u9 : zz_S} (C : xx_C p s m args meth c kb_SymbolTable_removeOf 4 kr_SymbolTable none) (hA : ∀ q, s.heap.size ≤ q → A q) (hK : va_K g.1 xx_cls (zz_T g) s) : ∀ (n : Nat), ∀ (u : zz_S) (x1 : Option Nat) (x2 : Int32) (x3 : Int32) (H : Heap) (locs : List Loc) (ls : Array Slot), zf_SymbolTable_removeOf_b4 n u x1 x2 x3 = some u9 → lv_has ls 4 [(0, .ref (g.2.1 9)), (1, (va_rf x1)), (2, .int x2), (3, .int x3)] → va_P g.1 xx_cls (zz_W g u) H → va_D A (zz_W g u) → va_S A s.heap H locs → W p l e (xx_rm 0 0) s m args below meth c H locs 0 0 (MQ below (xx_Q g.1 (zz_T g) (zz_W g) none u9 A) args s 0 0 A) (F0 m 4 ls []) := by
  have hx := C.1
  have hb := C.2.1
  have hown := C.2.2.2.1
  have hts := C.2.2.2.2.1
  intro n
  induction n with
  | zero =>
    intro u x1 x2 x3 H locs ls hF
    rw [zf_SymbolTable_removeOf_b4] at hF
    cases hF
  | succ n ih =>
    intro u x1 x2 x3 H locs ls hF hl hP hD hS
    rw [zf_SymbolTable_removeOf_b4] at hF
    refine lv_iload_n hx hb zd_SymbolTable_removeOf_4 rfl (lv_at hl 3 rfl) ?_
    refine lv_aload_n hx hb zd_SymbolTable_removeOf_5 rfl (lv_at hl 0 rfl) ?_
    refine xx_get C ki_SymbolTable hK hP 9 rfl rfl 1 (by decide) kw_139 rfl rfl zd_SymbolTable_removeOf_6 ?_
    refine lv_icmp_ge (tgt := 55) hx hb zd_SymbolTable_removeOf_9 (by decide) (fun hc => ?_) (fun hc => ?_)
    · have hF := xx_ip hc hF
      refine lv_aload_n hx hb zd_SymbolTable_removeOf_55 rfl (lv_at hl 0 rfl) ?_
      refine lv_iload_n hx hb zd_SymbolTable_removeOf_56 rfl (lv_at hl 2 rfl) ?_
      obtain ⟨u1, eu1, hF⟩ := xx_nm_some hF
      refine xx_put (ws1 := zz_W g u1) C ki_SymbolTable kt_SymbolTable ko_SymbolTable kn_SymbolTable hK hP hD hS 9 rfl rfl 1 (by decide) kw_139 rfl rfl rfl rfl (Nat.le_of_ble_eq_true rfl) (by rw [eu1]; rfl) zd_SymbolTable_removeOf_57 (fun H locs hP hD hS => ?_)
      exact xx_vret C hF hK hP hD hS zd_SymbolTable_removeOf_60
    · have hF := xx_in' hc hF
      refine lv_aload_n hx hb zd_SymbolTable_removeOf_12 rfl (lv_at hl 0 rfl) ?_
      refine xx_get C ki_SymbolTable hK hP 9 rfl rfl 0 (by decide) kw_138 rfl rfl zd_SymbolTable_removeOf_13 ?_
      refine lv_iload_n hx hb zd_SymbolTable_removeOf_16 rfl (lv_at hl 3 rfl) ?_
      obtain ⟨v2, ev2, hF⟩ := xx_ob hF
      refine xx_qald C hK hP 10 2 rfl rfl ev2 zd_SymbolTable_removeOf_17 ?_
      refine xx_ifnull (tgt := 49) C zd_SymbolTable_removeOf_18 (by decide) (fun en => ?_) (fun a3 ea3 => ?_)
      · have hF := xx_on_n en hF
        exact zw_SymbolTable_removeOf_b49 C hA hK ih  u x1 x2 x3 _ _ _ hF (lv_sub hl [0, 1, 2, 3] rfl) hP hD hS
      · have hF := xx_on_s ea3 hF
        refine lv_aload_n hx hb zd_SymbolTable_removeOf_21 rfl (lv_at hl 0 rfl) ?_
        refine xx_get C ki_SymbolTable hK hP 9 rfl rfl 0 (by decide) kw_138 rfl rfl zd_SymbolTable_removeOf_22 ?_
        refine lv_iload_n hx hb zd_SymbolTable_removeOf_25 rfl (lv_at hl 3 rfl) ?_
        obtain ⟨v4, ev4, hF⟩ := xx_ob hF
        refine xx_qald C hK hP 10 2 rfl rfl ev4 zd_SymbolTable_removeOf_26 ?_
        obtain ⟨a5, ea5, hF⟩ := xx_nn_some hF
        rw [ea5]
        obtain ⟨v6, ev6, hF⟩ := xx_ob hF
        refine zz_get (a := a5) (u := u) (ci := 7) C ki_Symbol hK hP rfl 3 (by decide) kw_469 rfl (zz_pq_some ev6) zd_SymbolTable_removeOf_27 ?_
        refine xx_ald C zd_SymbolTable_removeOf_30 rfl (lv_at hl 1 rfl) ?_
        refine lv_acmp_eq (rx := v6) (ry := x1) (tgt := 49) hx hb zd_SymbolTable_removeOf_31 (by decide) (fun hc => ?_) (fun hc => ?_)
        · have hF := xx_ip hc hF
          exact zw_SymbolTable_removeOf_b49 C hA hK ih  u x1 x2 x3 _ _ _ hF (lv_sub hl [0, 1, 2, 3] rfl) hP hD hS
        · have hF := xx_in' hc hF
          refine lv_aload_n hx hb zd_SymbolTable_removeOf_34 rfl (lv_at hl 0 rfl) ?_
          refine xx_get C ki_SymbolTable hK hP 9 rfl rfl 0 (by decide) kw_138 rfl rfl zd_SymbolTable_removeOf_35 ?_
          refine lv_iload_n hx hb zd_SymbolTable_removeOf_38 rfl (lv_at hl 2 rfl) ?_
          refine lv_aload_n hx hb zd_SymbolTable_removeOf_39 rfl (lv_at hl 0 rfl) ?_
          refine xx_get C ki_SymbolTable hK hP 9 rfl rfl 0 (by decide) kw_138 rfl rfl zd_SymbolTable_removeOf_40 ?_
          refine lv_iload_n hx hb zd_SymbolTable_removeOf_43 rfl (lv_at hl 3 rfl) ?_
          obtain ⟨v7, ev7, hF⟩ := xx_ob hF
          refine xx_qald C hK hP 10 2 rfl rfl ev7 zd_SymbolTable_removeOf_44 ?_
          obtain ⟨a8, ea8, hF⟩ := xx_nn_some hF
          rw [ea8]
          obtain ⟨u9, eu9, hF⟩ := xx_ob hF
          refine zz_qast (u := u) (u1 := u9) (a := a8) C hK hP hD hS 10 2 0 7 rfl rfl rfl eu9 (fun _ => rfl) zd_SymbolTable_removeOf_45 (fun H locs hP hD hS => ?_)
          obtain ⟨v10, ev10, hF⟩ := xx_nm_some hF
          refine lv_iinc (lv' := [(2, .int v10), (0, .ref (g.2.1 9)), (1, (va_rf x1)), (3, .int x3)]) (k := 2) (v := v10) hx hb zd_SymbolTable_removeOf_46 hl rfl (by rw [ev10, xx_lit1]) (by decide) (by simp [xx_rfc, xx_ic, xx_rc]) (fun ls hl => ?_)
          exact zw_SymbolTable_removeOf_b49 C hA hK ih  u9 x1 v10 x3 _ _ _ hF (lv_sub hl [1, 2, 0, 3] rfl) hP hD hS
set_option maxHeartbeats 4000000 in
set_option maxRecDepth 100000 in
theorem zc_SymbolTable_removeOf (l : Launch) (g : xx_G) (u : zz_S) (x1 : Option Nat) (u9 : zz_S) (hF : zf_SymbolTable_removeOf u x1 = some u9) : xx_M l g.1 (zz_T g) (zz_W g) ky_SymbolTable_removeOf kb_SymbolTable_removeOf 4 none (xx_rm 0 0) [.ref (g.2.1 9), (va_rf x1)] u none u9 := by
  refine xx_body (by decide) (by simp [lg_sl, xx_rfc, xx_ic, xx_rc]) ?_
  intro p e s m args below meth c A ls C hin hK hl hA hP hD hS
  have hx := C.1
  have hb := C.2.1
  have hown := C.2.2.2.1
  have hts := C.2.2.2.2.1
  have hl : lv_has ls 4 [(0, .ref (g.2.1 9)), (1, (va_rf x1))] := by simpa [lv_args, xx_rfc, xx_ic, xx_rc] using hl
  unfold zf_SymbolTable_removeOf at hF
  refine lv_iconst (v := (0 : Int32)) hx hb zd_SymbolTable_removeOf_0 (by decide) ?_
  obtain ⟨v1, ev1, hF⟩ := xx_nm_some hF
  refine xx_topi ev1 ?_
  refine lv_istore_n (lv' := [(2, .int v1), (0, .ref (g.2.1 9)), (1, (va_rf x1))]) hx hb zd_SymbolTable_removeOf_1 rfl hl (by decide) (by simp [xx_rfc, xx_ic, xx_rc]) (fun ls hl => ?_)
  refine lv_iconst (v := (0 : Int32)) hx hb zd_SymbolTable_removeOf_2 (by decide) ?_
  obtain ⟨v2, ev2, hF⟩ := xx_nm_some hF
  refine xx_topi ev2 ?_
  refine lv_istore_n hx hb zd_SymbolTable_removeOf_3 rfl hl (by decide) rfl (fun ls hl => ?_)
  exact zw_SymbolTable_removeOf_b4 C hA hK xx_fu u x1 v1 v2 _ _ _ hF (lv_sub hl [2, 3, 1, 0] rfl) hP hD hS
