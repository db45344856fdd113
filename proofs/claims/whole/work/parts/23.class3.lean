theorem kw_75 : Cond.fieldLink "ModuleLoader$Tape" 13 "ModuleLoader$Tape" "used" "I" ∈ xx_tb := xx_in (List.mem_append_right _ (List.mem_of_getElem? (i := 75) (by decide +kernel))) (by decide +kernel)
theorem zd_Tape_length_0 : decode kb_Tape_length 0 = .ok (.aload_n 0, 1) := by decide +kernel
theorem zd_Tape_length_1 : decode kb_Tape_length 1 = .ok (.getfield 13, 3) := by decide +kernel
theorem zd_Tape_length_4 : decode kb_Tape_length 4 = .ok (.ireturn, 1) := by decide +kernel
def zf_Tape_length (u : zz_S) : Option (Int32 × zz_S) := some ((u.1 4), u)
set_option maxHeartbeats 4000000 in
set_option maxRecDepth 100000 in
theorem zc_Tape_length (l : Launch) (g : xx_G) (u : zz_S) (r : Int32) (u9 : zz_S) (hF : zf_Tape_length u = some (r, u9)) : xx_M l g.1 (zz_T g) (zz_W g) ky_Tape_length kb_Tape_length 1 (some .int) (xx_rm 0 0) [.ref (g.2.1 6)] u (some (.int r)) u9 := by
  refine xx_body (by decide) (Nat.le_of_ble_eq_true rfl) ?_
  intro p e s m args below meth c A ls C hin hK hl hA hP hD hS
  have hx := C.1
  have hb := C.2.1
  have hown := C.2.2.2.1
  have hts := C.2.2.2.2.1
  have hl : lv_has ls 1 [(0, .ref (g.2.1 6))] := hl
  unfold zf_Tape_length at hF
  refine lv_aload_n hx hb zd_Tape_length_0 rfl (lv_at hl 0 rfl) ?_
  refine xx_get C ki_Tape hK hP 6 rfl rfl 1 (by decide) kw_75 rfl rfl zd_Tape_length_1 ?_
  exact xx_iret C hF hK hP hD hS zd_Tape_length_4
theorem zd_Tape_clear_0 : decode kb_Tape_clear 0 = .ok (.aload_n 0, 1) := by decide +kernel
theorem zd_Tape_clear_1 : decode kb_Tape_clear 1 = .ok (.iconst 0, 1) := by decide +kernel
theorem zd_Tape_clear_2 : decode kb_Tape_clear 2 = .ok (.putfield 13, 3) := by decide +kernel
theorem zd_Tape_clear_5 : decode kb_Tape_clear 5 = .ok (.return_, 1) := by decide +kernel
def zf_Tape_clear (u : zz_S) : Option (zz_S) := xx_nm (va_up u.1 4 (0 : Int32), u.2) fun u1 => some u1
set_option maxHeartbeats 4000000 in
set_option maxRecDepth 100000 in
theorem zc_Tape_clear (l : Launch) (g : xx_G) (u : zz_S) (u9 : zz_S) (hF : zf_Tape_clear u = some u9) : xx_M l g.1 (zz_T g) (zz_W g) ky_Tape_clear kb_Tape_clear 1 none (xx_rm 0 0) [.ref (g.2.1 6)] u none u9 := by
  refine xx_body (by decide) (Nat.le_of_ble_eq_true rfl) ?_
  intro p e s m args below meth c A ls C hin hK hl hA hP hD hS
  have hx := C.1
  have hb := C.2.1
  have hown := C.2.2.2.1
  have hts := C.2.2.2.2.1
  have hl : lv_has ls 1 [(0, .ref (g.2.1 6))] := hl
  unfold zf_Tape_clear at hF
  refine lv_aload_n hx hb zd_Tape_clear_0 rfl (lv_at hl 0 rfl) ?_
  refine lv_iconst (v := (0 : Int32)) hx hb zd_Tape_clear_1 (by decide) ?_
  obtain ⟨u1, eu1, hF⟩ := xx_nm_some hF
  refine xx_put (ws1 := zz_W g u1) C ki_Tape kt_Tape ko_Tape kn_Tape hK hP hD hS 6 rfl rfl 1 (by decide) kw_75 rfl rfl rfl rfl (Nat.le_of_ble_eq_true rfl) (by rw [eu1]; rfl) zd_Tape_clear_2 (fun H locs hP hD hS => ?_)
  exact xx_vret C hF hK hP hD hS zd_Tape_clear_5
theorem kw_74 : Cond.fieldLink "ModuleLoader$Tape" 9 "ModuleLoader$Tape" "words" "[I" ∈ xx_tb := xx_in (List.mem_append_right _ (List.mem_of_getElem? (i := 74) (by decide +kernel))) (by decide +kernel)
theorem zd_Tape_appendByte_0 : decode kb_Tape_appendByte 0 = .ok (.aload_n 0, 1) := by decide +kernel
theorem zd_Tape_appendByte_1 : decode kb_Tape_appendByte 1 = .ok (.getfield 13, 3) := by decide +kernel
theorem zd_Tape_appendByte_4 : decode kb_Tape_appendByte 4 = .ok (.iconst 2, 1) := by decide +kernel
theorem zd_Tape_appendByte_5 : decode kb_Tape_appendByte 5 = .ok (.ishr, 1) := by decide +kernel
theorem zd_Tape_appendByte_6 : decode kb_Tape_appendByte 6 = .ok (.istore_n 2, 1) := by decide +kernel
theorem zd_Tape_appendByte_7 : decode kb_Tape_appendByte 7 = .ok (.iload_n 2, 1) := by decide +kernel
theorem zd_Tape_appendByte_8 : decode kb_Tape_appendByte 8 = .ok (.aload_n 0, 1) := by decide +kernel
theorem zd_Tape_appendByte_9 : decode kb_Tape_appendByte 9 = .ok (.getfield 9, 3) := by decide +kernel
theorem zd_Tape_appendByte_12 : decode kb_Tape_appendByte 12 = .ok (.arraylength, 1) := by decide +kernel
theorem zd_Tape_appendByte_13 : decode kb_Tape_appendByte 13 = .ok (.if_icmp .lt (4), 3) := by decide +kernel
theorem zd_Tape_appendByte_16 : decode kb_Tape_appendByte 16 = .ok (.return_, 1) := by decide +kernel
theorem zd_Tape_appendByte_17 : decode kb_Tape_appendByte 17 = .ok (.bipush (8), 2) := by decide +kernel
theorem zd_Tape_appendByte_19 : decode kb_Tape_appendByte 19 = .ok (.aload_n 0, 1) := by decide +kernel
theorem zd_Tape_appendByte_20 : decode kb_Tape_appendByte 20 = .ok (.getfield 13, 3) := by decide +kernel
theorem zd_Tape_appendByte_23 : decode kb_Tape_appendByte 23 = .ok (.iconst 3, 1) := by decide +kernel
theorem zd_Tape_appendByte_24 : decode kb_Tape_appendByte 24 = .ok (.iand, 1) := by decide +kernel
theorem zd_Tape_appendByte_25 : decode kb_Tape_appendByte 25 = .ok (.imul, 1) := by decide +kernel
theorem zd_Tape_appendByte_26 : decode kb_Tape_appendByte 26 = .ok (.istore_n 3, 1) := by decide +kernel
theorem zd_Tape_appendByte_27 : decode kb_Tape_appendByte 27 = .ok (.aload_n 0, 1) := by decide +kernel
theorem zd_Tape_appendByte_28 : decode kb_Tape_appendByte 28 = .ok (.getfield 9, 3) := by decide +kernel
theorem zd_Tape_appendByte_31 : decode kb_Tape_appendByte 31 = .ok (.iload_n 2, 1) := by decide +kernel
theorem zd_Tape_appendByte_32 : decode kb_Tape_appendByte 32 = .ok (.iload_n 3, 1) := by decide +kernel
theorem zd_Tape_appendByte_33 : decode kb_Tape_appendByte 33 = .ok (.ifCond .ne (7), 3) := by decide +kernel
theorem zd_Tape_appendByte_36 : decode kb_Tape_appendByte 36 = .ok (.iload_n 1, 1) := by decide +kernel
theorem zd_Tape_appendByte_37 : decode kb_Tape_appendByte 37 = .ok (.goto (13), 3) := by decide +kernel
theorem zd_Tape_appendByte_40 : decode kb_Tape_appendByte 40 = .ok (.aload_n 0, 1) := by decide +kernel
theorem zd_Tape_appendByte_41 : decode kb_Tape_appendByte 41 = .ok (.getfield 9, 3) := by decide +kernel
theorem zd_Tape_appendByte_44 : decode kb_Tape_appendByte 44 = .ok (.iload_n 2, 1) := by decide +kernel
theorem zd_Tape_appendByte_45 : decode kb_Tape_appendByte 45 = .ok (.iaload, 1) := by decide +kernel
theorem zd_Tape_appendByte_46 : decode kb_Tape_appendByte 46 = .ok (.iload_n 1, 1) := by decide +kernel
theorem zd_Tape_appendByte_47 : decode kb_Tape_appendByte 47 = .ok (.iload_n 3, 1) := by decide +kernel
theorem zd_Tape_appendByte_48 : decode kb_Tape_appendByte 48 = .ok (.ishl, 1) := by decide +kernel
theorem zd_Tape_appendByte_49 : decode kb_Tape_appendByte 49 = .ok (.ior, 1) := by decide +kernel
theorem zd_Tape_appendByte_50 : decode kb_Tape_appendByte 50 = .ok (.iastore, 1) := by decide +kernel
theorem zd_Tape_appendByte_51 : decode kb_Tape_appendByte 51 = .ok (.aload_n 0, 1) := by decide +kernel
theorem zd_Tape_appendByte_52 : decode kb_Tape_appendByte 52 = .ok (.dup, 1) := by decide +kernel
theorem zd_Tape_appendByte_53 : decode kb_Tape_appendByte 53 = .ok (.getfield 13, 3) := by decide +kernel
theorem zd_Tape_appendByte_56 : decode kb_Tape_appendByte 56 = .ok (.iconst 1, 1) := by decide +kernel
theorem zd_Tape_appendByte_57 : decode kb_Tape_appendByte 57 = .ok (.iadd, 1) := by decide +kernel
theorem zd_Tape_appendByte_58 : decode kb_Tape_appendByte 58 = .ok (.putfield 13, 3) := by decide +kernel
theorem zd_Tape_appendByte_61 : decode kb_Tape_appendByte 61 = .ok (.return_, 1) := by decide +kernel
def zf_Tape_appendByte_b50 (u : zz_S) (y1 : Int32) (y2 : Int32) : Option (zz_S) := (xx_as (u.2.1 3) 300 y1 y2).bind fun f1 => xx_nm (u.1, va_up u.2.1 3 f1, u.2.2) fun u2 => xx_nm ((u2.1 4) + (1 : Int32)) fun v3 => xx_nm (va_up u2.1 4 v3, u2.2) fun u4 => some u4
def zf_Tape_appendByte (u : zz_S) (x1 : Int32) : Option (zz_S) := xx_nm ((u.1 4) >>> ((2 : Int32) &&& 31)) fun v1 => if v1 < (300 : Int32) then (xx_nm ((8 : Int32) * ((u.1 4) &&& (3 : Int32))) fun v2 => if v2 = 0 then (zf_Tape_appendByte_b50 u v1 x1) else ((xx_ag (u.2.1 3) 300 v1).bind fun v3 => zf_Tape_appendByte_b50 u v1 (v3 ||| (x1 <<< (v2 &&& 31))))) else (some u)
set_option maxHeartbeats 4000000 in
set_option maxRecDepth 100000 in
theorem zw_Tape_appendByte_b50 {p : Program} {l : Launch} {e : Env} {s : State} {m : MethodId} {args : Array Value} {below : List Frame} {meth : Method} {c : Code} {A : Nat → Prop} {g : xx_G} {u9 : zz_S} (C : xx_C p s m args meth c kb_Tape_appendByte 4 kr_Tape none) (hA : ∀ q, s.heap.size ≤ q → A q) (hK : va_K g.1 xx_cls (zz_T g) s) : ∀ (u : zz_S) (y1 : Int32) (y2 : Int32) (H : Heap) (locs : List Loc) (ls : Array Slot), zf_Tape_appendByte_b50 u y1 y2 = some u9 → lv_has ls 4 [(0, .ref (g.2.1 6))] → va_P g.1 xx_cls (zz_W g u) H → va_D A (zz_W g u) → va_S A s.heap H locs → W p l e (xx_rm 0 0) s m args below meth c H locs 0 0 (MQ below (xx_Q g.1 (zz_T g) (zz_W g) none u9 A) args s 0 0 A) (F0 m 50 ls [.int y2, .int y1, .ref (g.2.1 7)]) := by
  have hx := C.1
  have hb := C.2.1
  have hown := C.2.2.2.1
  have hts := C.2.2.2.2.1
  intro u y1 y2 H locs ls hF hl hP hD hS
  unfold zf_Tape_appendByte_b50 at hF
  obtain ⟨f1, ef1, hF⟩ := xx_ob hF
  obtain ⟨u2, eu2, hF⟩ := xx_nm_some hF
  refine xx_iast (ws1 := zz_W g u2) C hK hP hD hS 7 0 rfl rfl ef1 (by rw [eu2]; rfl) zd_Tape_appendByte_50 (fun H locs hP hD hS => ?_)
  refine lv_aload_n hx hb zd_Tape_appendByte_51 rfl (lv_at hl 0 rfl) ?_
  refine lv_dup hx hb zd_Tape_appendByte_52 rfl ?_
  refine xx_get C ki_Tape hK hP 6 rfl rfl 1 (by decide) kw_75 rfl rfl zd_Tape_appendByte_53 ?_
  refine lv_iconst (v := (1 : Int32)) hx hb zd_Tape_appendByte_56 (by decide) ?_
  refine lv_iadd hx hb zd_Tape_appendByte_57 ?_
  obtain ⟨v3, ev3, hF⟩ := xx_nm_some hF
  refine xx_topi ev3 ?_
  obtain ⟨u4, eu4, hF⟩ := xx_nm_some hF
  refine xx_put (ws1 := zz_W g u4) C ki_Tape kt_Tape ko_Tape kn_Tape hK hP hD hS 6 rfl rfl 1 (by decide) kw_75 rfl rfl rfl rfl (Nat.le_of_ble_eq_true rfl) (by rw [eu4]; rfl) zd_Tape_appendByte_58 (fun H locs hP hD hS => ?_)
  exact xx_vret C hF hK hP hD hS zd_Tape_appendByte_61
set_option maxHeartbeats 4000000 in
set_option maxRecDepth 100000 in
theorem zc_Tape_appendByte (l : Launch) (g : xx_G) (u : zz_S) (x1 : Int32) (u9 : zz_S) (hF : zf_Tape_appendByte u x1 = some u9) : xx_M l g.1 (zz_T g) (zz_W g) ky_Tape_appendByte kb_Tape_appendByte 4 none (xx_rm 0 0) [.ref (g.2.1 6), .int x1] u none u9 := by
  refine xx_body (by decide) (Nat.le_of_ble_eq_true rfl) ?_
  intro p e s m args below meth c A ls C hin hK hl hA hP hD hS
  have hx := C.1
  have hb := C.2.1
  have hown := C.2.2.2.1
  have hts := C.2.2.2.2.1
  have hl : lv_has ls 4 [(0, .ref (g.2.1 6)), (1, .int x1)] := hl
  unfold zf_Tape_appendByte at hF
  refine lv_aload_n hx hb zd_Tape_appendByte_0 rfl (lv_at hl 0 rfl) ?_
  refine xx_get C ki_Tape hK hP 6 rfl rfl 1 (by decide) kw_75 rfl rfl zd_Tape_appendByte_1 ?_
  refine lv_iconst (v := (2 : Int32)) hx hb zd_Tape_appendByte_4 (by decide) ?_
  refine lv_ishr hx hb zd_Tape_appendByte_5 ?_
  obtain ⟨v1, ev1, hF⟩ := xx_nm_some hF
  refine xx_topi ev1 ?_
  refine lv_istore_n hx hb zd_Tape_appendByte_6 rfl hl (by decide) rfl (fun ls hl => ?_)
  refine lv_iload_n hx hb zd_Tape_appendByte_7 rfl (lv_at hl 0 rfl) ?_
  refine lv_aload_n hx hb zd_Tape_appendByte_8 rfl (lv_at hl 1 rfl) ?_
  refine xx_get C ki_Tape hK hP 6 rfl rfl 0 (by decide) kw_74 rfl rfl zd_Tape_appendByte_9 ?_
  refine xx_alen (v := (300 : Int32)) C hK hP 7 0 rfl rfl rfl zd_Tape_appendByte_12 ?_
  refine lv_icmp_lt (tgt := 17) hx hb zd_Tape_appendByte_13 (by decide) (fun hc => ?_) (fun hc => ?_)
  · have hF := xx_ip hc hF
    refine lv_bipush (v := (8 : Int32)) hx hb zd_Tape_appendByte_17 (by decide) ?_
    refine lv_aload_n hx hb zd_Tape_appendByte_19 rfl (lv_at hl 1 rfl) ?_
    refine xx_get C ki_Tape hK hP 6 rfl rfl 1 (by decide) kw_75 rfl rfl zd_Tape_appendByte_20 ?_
    refine lv_iconst (v := (3 : Int32)) hx hb zd_Tape_appendByte_23 (by decide) ?_
    refine lv_iand hx hb zd_Tape_appendByte_24 ?_
    refine lv_imul hx hb zd_Tape_appendByte_25 ?_
    obtain ⟨v2, ev2, hF⟩ := xx_nm_some hF
    refine xx_topi ev2 ?_
    refine lv_istore_n hx hb zd_Tape_appendByte_26 rfl hl (by decide) rfl (fun ls hl => ?_)
    refine lv_aload_n hx hb zd_Tape_appendByte_27 rfl (lv_at hl 2 rfl) ?_
    refine xx_get C ki_Tape hK hP 6 rfl rfl 0 (by decide) kw_74 rfl rfl zd_Tape_appendByte_28 ?_
    refine lv_iload_n hx hb zd_Tape_appendByte_31 rfl (lv_at hl 1 rfl) ?_
    refine lv_iload_n hx hb zd_Tape_appendByte_32 rfl (lv_at hl 0 rfl) ?_
    refine lv_if_ne (tgt := 40) hx hb zd_Tape_appendByte_33 (by decide) (fun hc => ?_) (fun hc => ?_)
    · have hF := xx_in' hc hF
      refine lv_aload_n hx hb zd_Tape_appendByte_40 rfl (lv_at hl 2 rfl) ?_
      refine xx_get C ki_Tape hK hP 6 rfl rfl 0 (by decide) kw_74 rfl rfl zd_Tape_appendByte_41 ?_
      refine lv_iload_n hx hb zd_Tape_appendByte_44 rfl (lv_at hl 1 rfl) ?_
      obtain ⟨v3, ev3, hF⟩ := xx_ob hF
      refine xx_iald C hK hP 7 0 rfl rfl ev3 zd_Tape_appendByte_45 ?_
      refine lv_iload_n hx hb zd_Tape_appendByte_46 rfl (lv_at hl 3 rfl) ?_
      refine lv_iload_n hx hb zd_Tape_appendByte_47 rfl (lv_at hl 0 rfl) ?_
      refine lv_ishl hx hb zd_Tape_appendByte_48 ?_
      refine lv_ior hx hb zd_Tape_appendByte_49 ?_
      exact zw_Tape_appendByte_b50 C hA hK  u v1 (v3 ||| (x1 <<< (v2 &&& 31))) _ _ _ hF (lv_sub hl [2] rfl) hP hD hS
    · have hF := xx_ip hc hF
      refine lv_iload_n hx hb zd_Tape_appendByte_36 rfl (lv_at hl 3 rfl) ?_
      refine lv_goto (tgt := 50) hx hb zd_Tape_appendByte_37 (by decide) ?_
      exact zw_Tape_appendByte_b50 C hA hK  u v1 x1 _ _ _ hF (lv_sub hl [2] rfl) hP hD hS
  · have hF := xx_in' hc hF
    exact xx_vret C hF hK hP hD hS zd_Tape_appendByte_16
theorem zd_Tape_wordAt_0 : decode kb_Tape_wordAt 0 = .ok (.iload_n 1, 1) := by decide +kernel
theorem zd_Tape_wordAt_1 : decode kb_Tape_wordAt 1 = .ok (.ifCond .lt (21), 3) := by decide +kernel
theorem zd_Tape_wordAt_4 : decode kb_Tape_wordAt 4 = .ok (.iload_n 1, 1) := by decide +kernel
theorem zd_Tape_wordAt_5 : decode kb_Tape_wordAt 5 = .ok (.aload_n 0, 1) := by decide +kernel
theorem zd_Tape_wordAt_6 : decode kb_Tape_wordAt 6 = .ok (.getfield 9, 3) := by decide +kernel
theorem zd_Tape_wordAt_9 : decode kb_Tape_wordAt 9 = .ok (.arraylength, 1) := by decide +kernel
theorem zd_Tape_wordAt_10 : decode kb_Tape_wordAt 10 = .ok (.if_icmp .ge (12), 3) := by decide +kernel
theorem zd_Tape_wordAt_13 : decode kb_Tape_wordAt 13 = .ok (.aload_n 0, 1) := by decide +kernel
theorem zd_Tape_wordAt_14 : decode kb_Tape_wordAt 14 = .ok (.getfield 9, 3) := by decide +kernel
theorem zd_Tape_wordAt_17 : decode kb_Tape_wordAt 17 = .ok (.iload_n 1, 1) := by decide +kernel
theorem zd_Tape_wordAt_18 : decode kb_Tape_wordAt 18 = .ok (.iaload, 1) := by decide +kernel
theorem zd_Tape_wordAt_19 : decode kb_Tape_wordAt 19 = .ok (.goto (4), 3) := by decide +kernel
theorem zd_Tape_wordAt_22 : decode kb_Tape_wordAt 22 = .ok (.iconst 0, 1) := by decide +kernel
theorem zd_Tape_wordAt_23 : decode kb_Tape_wordAt 23 = .ok (.ireturn, 1) := by decide +kernel
def zf_Tape_wordAt_b23 (u : zz_S) (y0 : Int32) : Option (Int32 × zz_S) := some (y0, u)
def zf_Tape_wordAt_b22 (u : zz_S) : Option (Int32 × zz_S) := zf_Tape_wordAt_b23 u (0 : Int32)
def zf_Tape_wordAt (u : zz_S) (x1 : Int32) : Option (Int32 × zz_S) := if x1 < 0 then (zf_Tape_wordAt_b22 u) else (if (300 : Int32) ≤ x1 then (zf_Tape_wordAt_b22 u) else ((xx_ag (u.2.1 3) 300 x1).bind fun v1 => zf_Tape_wordAt_b23 u v1))
set_option maxHeartbeats 4000000 in
set_option maxRecDepth 100000 in
theorem zw_Tape_wordAt_b23 {p : Program} {l : Launch} {e : Env} {s : State} {m : MethodId} {args : Array Value} {below : List Frame} {meth : Method} {c : Code} {A : Nat → Prop} {g : xx_G} {r : Int32} {u9 : zz_S} (C : xx_C p s m args meth c kb_Tape_wordAt 2 kr_Tape (some .int)) (hA : ∀ q, s.heap.size ≤ q → A q) (hK : va_K g.1 xx_cls (zz_T g) s) : ∀ (u : zz_S) (y0 : Int32) (H : Heap) (locs : List Loc) (ls : Array Slot), zf_Tape_wordAt_b23 u y0 = some (r, u9) → lv_has ls 2 [] → va_P g.1 xx_cls (zz_W g u) H → va_D A (zz_W g u) → va_S A s.heap H locs → W p l e (xx_rm 0 0) s m args below meth c H locs 0 0 (MQ below (xx_Q g.1 (zz_T g) (zz_W g) (some (.int r)) u9 A) args s 0 0 A) (F0 m 23 ls [.int y0]) := by
  have hx := C.1
  have hb := C.2.1
  have hown := C.2.2.2.1
  have hts := C.2.2.2.2.1
  intro u y0 H locs ls hF hl hP hD hS
  unfold zf_Tape_wordAt_b23 at hF
  exact xx_iret C hF hK hP hD hS zd_Tape_wordAt_23
set_option maxHeartbeats 4000000 in
set_option maxRecDepth 100000 in
theorem zw_Tape_wordAt_b22 {p : Program} {l : Launch} {e : Env} {s : State} {m : MethodId} {args : Array Value} {below : List Frame} {meth : Method} {c : Code} {A : Nat → Prop} {g : xx_G} {r : Int32} {u9 : zz_S} (C : xx_C p s m args meth c kb_Tape_wordAt 2 kr_Tape (some .int)) (hA : ∀ q, s.heap.size ≤ q → A q) (hK : va_K g.1 xx_cls (zz_T g) s) : ∀ (u : zz_S) (H : Heap) (locs : List Loc) (ls : Array Slot), zf_Tape_wordAt_b22 u = some (r, u9) → lv_has ls 2 [] → va_P g.1 xx_cls (zz_W g u) H → va_D A (zz_W g u) → va_S A s.heap H locs → W p l e (xx_rm 0 0) s m args below meth c H locs 0 0 (MQ below (xx_Q g.1 (zz_T g) (zz_W g) (some (.int r)) u9 A) args s 0 0 A) (F0 m 22 ls []) := by
  have hx := C.1
  have hb := C.2.1
  have hown := C.2.2.2.1
  have hts := C.2.2.2.2.1
  intro u H locs ls hF hl hP hD hS
  unfold zf_Tape_wordAt_b22 at hF
  refine lv_iconst (v := (0 : Int32)) hx hb zd_Tape_wordAt_22 (by decide) ?_
  exact zw_Tape_wordAt_b23 C hA hK  u (0 : Int32) _ _ _ hF (lv_sub hl [] rfl) hP hD hS
set_option maxHeartbeats 4000000 in
set_option maxRecDepth 100000 in
theorem zc_Tape_wordAt (l : Launch) (g : xx_G) (u : zz_S) (x1 : Int32) (r : Int32) (u9 : zz_S) (hF : zf_Tape_wordAt u x1 = some (r, u9)) : xx_M l g.1 (zz_T g) (zz_W g) ky_Tape_wordAt kb_Tape_wordAt 2 (some .int) (xx_rm 0 0) [.ref (g.2.1 6), .int x1] u (some (.int r)) u9 := by
  refine xx_body (by decide) (Nat.le_of_ble_eq_true rfl) ?_
  intro p e s m args below meth c A ls C hin hK hl hA hP hD hS
  have hx := C.1
  have hb := C.2.1
  have hown := C.2.2.2.1
  have hts := C.2.2.2.2.1
  have hl : lv_has ls 2 [(0, .ref (g.2.1 6)), (1, .int x1)] := hl
  unfold zf_Tape_wordAt at hF
  refine lv_iload_n hx hb zd_Tape_wordAt_0 rfl (lv_at hl 1 rfl) ?_
  refine lv_if_lt (tgt := 22) hx hb zd_Tape_wordAt_1 (by decide) (fun hc => ?_) (fun hc => ?_)
  · have hF := xx_ip hc hF
    exact zw_Tape_wordAt_b22 C hA hK  u _ _ _ hF (lv_sub hl [] rfl) hP hD hS
  · have hF := xx_in' hc hF
    refine lv_iload_n hx hb zd_Tape_wordAt_4 rfl (lv_at hl 1 rfl) ?_
    refine lv_aload_n hx hb zd_Tape_wordAt_5 rfl (lv_at hl 0 rfl) ?_
    refine xx_get C ki_Tape hK hP 6 rfl rfl 0 (by decide) kw_74 rfl rfl zd_Tape_wordAt_6 ?_
    refine xx_alen (v := (300 : Int32)) C hK hP 7 0 rfl rfl rfl zd_Tape_wordAt_9 ?_
    refine lv_icmp_ge (tgt := 22) hx hb zd_Tape_wordAt_10 (by decide) (fun hc => ?_) (fun hc => ?_)
    · have hF := xx_ip hc hF
      exact zw_Tape_wordAt_b22 C hA hK  u _ _ _ hF (lv_sub hl [] rfl) hP hD hS
    · have hF := xx_in' hc hF
      refine lv_aload_n hx hb zd_Tape_wordAt_13 rfl (lv_at hl 0 rfl) ?_
      refine xx_get C ki_Tape hK hP 6 rfl rfl 0 (by decide) kw_74 rfl rfl zd_Tape_wordAt_14 ?_
      refine lv_iload_n hx hb zd_Tape_wordAt_17 rfl (lv_at hl 1 rfl) ?_
      obtain ⟨v1, ev1, hF⟩ := xx_ob hF
      refine xx_iald C hK hP 7 0 rfl rfl ev1 zd_Tape_wordAt_18 ?_
      refine lv_goto (tgt := 23) hx hb zd_Tape_wordAt_19 (by decide) ?_
      exact zw_Tape_wordAt_b23 C hA hK  u v1 _ _ _ hF (lv_sub hl [] rfl) hP hD hS
theorem zd_Arrays_fill_0 : decode kb_Arrays_fill 0 = .ok (.iconst 0, 1) := by decide +kernel
theorem zd_Arrays_fill_1 : decode kb_Arrays_fill 1 = .ok (.istore_n 2, 1) := by decide +kernel
theorem zd_Arrays_fill_2 : decode kb_Arrays_fill 2 = .ok (.aload_n 0, 1) := by decide +kernel
theorem zd_Arrays_fill_3 : decode kb_Arrays_fill 3 = .ok (.arraylength, 1) := by decide +kernel
theorem zd_Arrays_fill_4 : decode kb_Arrays_fill 4 = .ok (.istore_n 3, 1) := by decide +kernel
theorem zd_Arrays_fill_5 : decode kb_Arrays_fill 5 = .ok (.iload_n 2, 1) := by decide +kernel
theorem zd_Arrays_fill_6 : decode kb_Arrays_fill 6 = .ok (.iload_n 3, 1) := by decide +kernel
theorem zd_Arrays_fill_7 : decode kb_Arrays_fill 7 = .ok (.if_icmp .ge (13), 3) := by decide +kernel
theorem zd_Arrays_fill_10 : decode kb_Arrays_fill 10 = .ok (.aload_n 0, 1) := by decide +kernel
theorem zd_Arrays_fill_11 : decode kb_Arrays_fill 11 = .ok (.iload_n 2, 1) := by decide +kernel
theorem zd_Arrays_fill_12 : decode kb_Arrays_fill 12 = .ok (.iload_n 1, 1) := by decide +kernel
theorem zd_Arrays_fill_13 : decode kb_Arrays_fill 13 = .ok (.iastore, 1) := by decide +kernel
theorem zd_Arrays_fill_14 : decode kb_Arrays_fill 14 = .ok (.iinc 2 (1), 3) := by decide +kernel
theorem zd_Arrays_fill_17 : decode kb_Arrays_fill 17 = .ok (.goto (-12), 3) := by decide +kernel
theorem zd_Arrays_fill_20 : decode kb_Arrays_fill 20 = .ok (.return_, 1) := by decide +kernel
def zf_Arrays_fill_b5 : Nat → zz_S → Int32 → Int32 → Int32 → Option (zz_S)
  | 0, _, _, _, _ => none
  | n + 1, u, x1, x2, x3 => if x3 ≤ x2 then (some u) else ((xx_as (u.2.1 2) 32 x2 x1).bind fun f1 => xx_nm (u.1, va_up u.2.1 2 f1, u.2.2) fun u2 => xx_nm (x2 + (1 : Int32)) fun v3 => (zf_Arrays_fill_b5 n) u2 x1 v3 x3)
def zf_Arrays_fill (u : zz_S) (x1 : Int32) : Option (zz_S) := xx_nm (0 : Int32) fun v1 => xx_nm (32 : Int32) fun v2 => zf_Arrays_fill_b5 xx_fu u x1 v1 v2
set_option maxHeartbeats 4000000 in
set_option maxRecDepth 100000 in
theorem zw_Arrays_fill_b5 {p : Program} {l : Launch} {e : Env} {s : State} {m : MethodId} {args : Array Value} {below : List Frame} {meth : Method} {c : Code} {A : Nat → Prop} {g : xx_G} {u9 : zz_S} (C : xx_C p s m args meth c kb_Arrays_fill 4 kr_Arrays none) (hA : ∀ q, s.heap.size ≤ q → A q) (hK : va_K g.1 xx_cls (zz_T g) s) : ∀ (n : Nat), ∀ (u : zz_S) (x1 : Int32) (x2 : Int32) (x3 : Int32) (H : Heap) (locs : List Loc) (ls : Array Slot), zf_Arrays_fill_b5 n u x1 x2 x3 = some u9 → lv_has ls 4 [(0, .ref (g.2.1 5)), (1, .int x1), (2, .int x2), (3, .int x3)] → va_P g.1 xx_cls (zz_W g u) H → va_D A (zz_W g u) → va_S A s.heap H locs → W p l e (xx_rm 0 0) s m args below meth c H locs 0 0 (MQ below (xx_Q g.1 (zz_T g) (zz_W g) none u9 A) args s 0 0 A) (F0 m 5 ls []) := by
  have hx := C.1
  have hb := C.2.1
  have hown := C.2.2.2.1
  have hts := C.2.2.2.2.1
  intro n
  induction n with
  | zero =>
    intro u x1 x2 x3 H locs ls hF
    rw [zf_Arrays_fill_b5] at hF
    cases hF
  | succ n ih =>
    intro u x1 x2 x3 H locs ls hF hl hP hD hS
    rw [zf_Arrays_fill_b5] at hF
    refine lv_iload_n hx hb zd_Arrays_fill_5 rfl (lv_at hl 2 rfl) ?_
    refine lv_iload_n hx hb zd_Arrays_fill_6 rfl (lv_at hl 3 rfl) ?_
    refine lv_icmp_ge (tgt := 20) hx hb zd_Arrays_fill_7 (by decide) (fun hc => ?_) (fun hc => ?_)
    · have hF := xx_ip hc hF
      exact xx_vret C hF hK hP hD hS zd_Arrays_fill_20
    · have hF := xx_in' hc hF
      refine lv_aload_n hx hb zd_Arrays_fill_10 rfl (lv_at hl 0 rfl) ?_
      refine lv_iload_n hx hb zd_Arrays_fill_11 rfl (lv_at hl 2 rfl) ?_
      refine lv_iload_n hx hb zd_Arrays_fill_12 rfl (lv_at hl 1 rfl) ?_
      obtain ⟨f1, ef1, hF⟩ := xx_ob hF
      obtain ⟨u2, eu2, hF⟩ := xx_nm_some hF
      refine xx_iast (ws1 := zz_W g u2) C hK hP hD hS 5 0 rfl rfl ef1 (by rw [eu2]; rfl) zd_Arrays_fill_13 (fun H locs hP hD hS => ?_)
      obtain ⟨v3, ev3, hF⟩ := xx_nm_some hF
      refine lv_iinc (k := 2) (v := v3) hx hb zd_Arrays_fill_14 hl rfl (by rw [ev3, xx_lit1]) (by decide) rfl (fun ls hl => ?_)
      refine lv_goto (tgt := 5) hx hb zd_Arrays_fill_17 (by decide) ?_
      exact ih u2 x1 v3 x3 _ _ _ hF (lv_sub hl [1, 2, 0, 3] rfl) hP hD hS
set_option maxHeartbeats 4000000 in
set_option maxRecDepth 100000 in
theorem zc_Arrays_fill (l : Launch) (g : xx_G) (u : zz_S) (x1 : Int32) (u9 : zz_S) (hF : zf_Arrays_fill u x1 = some u9) : xx_M l g.1 (zz_T g) (zz_W g) ky_Arrays_fill kb_Arrays_fill 4 none (xx_rm 0 0) [.ref (g.2.1 5), .int x1] u none u9 := by
  refine xx_body (by decide) (Nat.le_of_ble_eq_true rfl) ?_
  intro p e s m args below meth c A ls C hin hK hl hA hP hD hS
  have hx := C.1
  have hb := C.2.1
  have hown := C.2.2.2.1
  have hts := C.2.2.2.2.1
  have hl : lv_has ls 4 [(0, .ref (g.2.1 5)), (1, .int x1)] := hl
  unfold zf_Arrays_fill at hF
  refine lv_iconst (v := (0 : Int32)) hx hb zd_Arrays_fill_0 (by decide) ?_
  obtain ⟨v1, ev1, hF⟩ := xx_nm_some hF
  refine xx_topi ev1 ?_
  refine lv_istore_n hx hb zd_Arrays_fill_1 rfl hl (by decide) rfl (fun ls hl => ?_)
  refine lv_aload_n hx hb zd_Arrays_fill_2 rfl (lv_at hl 1 rfl) ?_
  refine xx_alen (v := (32 : Int32)) C hK hP 5 0 rfl rfl rfl zd_Arrays_fill_3 ?_
  obtain ⟨v2, ev2, hF⟩ := xx_nm_some hF
  refine xx_topi ev2 ?_
  refine lv_istore_n hx hb zd_Arrays_fill_4 rfl hl (by decide) rfl (fun ls hl => ?_)
  exact zw_Arrays_fill_b5 C hA hK xx_fu u x1 v1 v2 _ _ _ hF (lv_sub hl [2, 3, 1, 0] rfl) hP hD hS
theorem kw_188 : Cond.fieldLink "ModuleLoader" 21 "ModuleLoader" "machine" "LModuleLoader$Machine;" ∈ xx_tb := xx_in (List.mem_append_right _ (List.mem_of_getElem? (i := 188) (by decide +kernel))) (by decide +kernel)
set_option maxRecDepth 100000 in
theorem kw_263 : Cond.code ky_Machine_registerAfterRun kb_Machine_registerAfterRun 2 (some .int) ∈ xx_tb := xx_in (List.mem_append_right _ (List.mem_of_getElem? (i := 263) (by rfl))) (by decide +kernel)
theorem kw_260 : Cond.methodLink "ModuleLoader" 184 ky_Machine_registerAfterRun ∈ xx_tb := xx_in (List.mem_append_right _ (List.mem_of_getElem? (i := 260) (by decide +kernel))) (by decide +kernel)
theorem kw_261 : Cond.instanceMethod ky_Machine_registerAfterRun ∈ xx_tb := xx_in (List.mem_append_right _ (List.mem_of_getElem? (i := 261) (by decide +kernel))) (by decide +kernel)
theorem kw_262 : Cond.selects "ModuleLoader$Machine" ky_Machine_registerAfterRun ky_Machine_registerAfterRun ∈ xx_tb := xx_in (List.mem_append_right _ (List.mem_of_getElem? (i := 262) (by decide +kernel))) (by decide +kernel)
theorem kw_3 : Cond.initialized "ModuleLoader$Machine" ∈ xx_tb := xx_in (List.mem_append_right _ (List.mem_of_getElem? (i := 3) (by decide +kernel))) (by decide +kernel)
theorem zd_Loader_register_0 : decode kb_Loader_register 0 = .ok (.aload_n 0, 1) := by decide +kernel
theorem zd_Loader_register_1 : decode kb_Loader_register 1 = .ok (.getfield 21, 3) := by decide +kernel
theorem zd_Loader_register_4 : decode kb_Loader_register 4 = .ok (.iload_n 1, 1) := by decide +kernel
theorem zd_Loader_register_5 : decode kb_Loader_register 5 = .ok (.invokevirtual 184, 3) := by decide +kernel
theorem zd_Loader_register_8 : decode kb_Loader_register 8 = .ok (.ireturn, 1) := by decide +kernel
def zf_Loader_register (u : zz_S) (x1 : Int32) : Option (Int32 × zz_S) := xx_b2 (zf_Machine_registerAfterRun u x1) fun v2 u1 => some (v2, u1)
set_option maxHeartbeats 4000000 in
set_option maxRecDepth 100000 in
theorem zc_Loader_register (l : Launch) (g : xx_G) (u : zz_S) (x1 : Int32) (r : Int32) (u9 : zz_S) (hF : zf_Loader_register u x1 = some (r, u9)) : xx_M l g.1 (zz_T g) (zz_W g) ky_Loader_register kb_Loader_register 2 (some .int) (xx_rm 1 21) [.ref (g.2.1 0), .int x1] u (some (.int r)) u9 := by
  refine xx_body (by decide) (Nat.le_of_ble_eq_true rfl) ?_
  intro p e s m args below meth c A ls C hin hK hl hA hP hD hS
  have hx := C.1
  have hb := C.2.1
  have hown := C.2.2.2.1
  have hts := C.2.2.2.2.1
  have hl : lv_has ls 2 [(0, .ref (g.2.1 0)), (1, .int x1)] := hl
  unfold zf_Loader_register at hF
  refine lv_aload_n hx hb zd_Loader_register_0 rfl (lv_at hl 0 rfl) ?_
  refine xx_get C ki_Loader hK hP 0 rfl rfl 1 (by decide) kw_188 rfl rfl zd_Loader_register_1 ?_
  refine lv_iload_n hx hb zd_Loader_register_4 rfl (lv_at hl 1 rfl) ?_
  obtain ⟨v2, u1, eu1, hF⟩ := xx_b2_some hF
  refine xx_callV (n := 1) (As := [.int x1]) (rest := []) C (zc_Machine_registerAfterRun l g u x1 v2 u1 eu1) ⟨kw_263, kw_260, kw_261, kw_262, kw_3⟩ ⟨by decide +kernel, by decide +kernel, by decide +kernel⟩ rfl ⟨Nat.le_of_ble_eq_true rfl, Nat.le_of_ble_eq_true rfl⟩ 4 rfl rfl hl.1 rfl (Nat.le_of_ble_eq_true rfl) hA hK hP hD hS ⟨Nat.le_refl _, Nat.le_refl _⟩ rfl rfl rfl zd_Loader_register_5 (fun H locs hP hD hS => ?_)
  exact xx_iret C hF hK hP hD hS zd_Loader_register_8
theorem kw_191 : Cond.fieldLink "ModuleLoader" 44 "ModuleLoader" "symbols" "LModuleLoader$SymbolTable;" ∈ xx_tb := xx_in (List.mem_append_right _ (List.mem_of_getElem? (i := 191) (by decide +kernel))) (by decide +kernel)
set_option maxRecDepth 100000 in
theorem kw_271 : Cond.code ky_SymbolTable_find kb_SymbolTable_find 3 (some (.object "ModuleLoader$Symbol")) ∈ xx_tb := xx_in (List.mem_append_right _ (List.mem_of_getElem? (i := 271) (by rfl))) (by decide +kernel)
theorem kw_268 : Cond.methodLink "ModuleLoader" 91 ky_SymbolTable_find ∈ xx_tb := xx_in (List.mem_append_right _ (List.mem_of_getElem? (i := 268) (by decide +kernel))) (by decide +kernel)
theorem kw_269 : Cond.instanceMethod ky_SymbolTable_find ∈ xx_tb := xx_in (List.mem_append_right _ (List.mem_of_getElem? (i := 269) (by decide +kernel))) (by decide +kernel)
theorem kw_270 : Cond.selects "ModuleLoader$SymbolTable" ky_SymbolTable_find ky_SymbolTable_find ∈ xx_tb := xx_in (List.mem_append_right _ (List.mem_of_getElem? (i := 270) (by decide +kernel))) (by decide +kernel)
theorem kw_6 : Cond.initialized "ModuleLoader$SymbolTable" ∈ xx_tb := xx_in (List.mem_append_right _ (List.mem_of_getElem? (i := 6) (by decide +kernel))) (by decide +kernel)
theorem kw_467 : Cond.fieldLink "ModuleLoader" 176 "ModuleLoader$Symbol" "address" "I" ∈ xx_tb := xx_in (List.mem_append_right _ (List.mem_of_getElem? (i := 467) (by decide +kernel))) (by decide +kernel)
theorem kw_465 : Cond.fieldLink "ModuleLoader" 187 "ModuleLoader$Symbol" "check" "I" ∈ xx_tb := xx_in (List.mem_append_right _ (List.mem_of_getElem? (i := 465) (by decide +kernel))) (by decide +kernel)
theorem kw_470 : Cond.fieldLink "ModuleLoader" 190 "ModuleLoader$Symbol" "owner" "LModuleLoader$LoadedModule;" ∈ xx_tb := xx_in (List.mem_append_right _ (List.mem_of_getElem? (i := 470) (by decide +kernel))) (by decide +kernel)
theorem kw_676 : Cond.fieldLink "ModuleLoader" 194 "ModuleLoader$LoadedModule" "name" "I" ∈ xx_tb := xx_in (List.mem_append_right _ (List.mem_of_getElem? (i := 676) (by decide +kernel))) (by decide +kernel)
theorem zd_Loader_lookup_0 : decode kb_Loader_lookup 0 = .ok (.aload_n 0, 1) := by decide +kernel
theorem zd_Loader_lookup_1 : decode kb_Loader_lookup 1 = .ok (.getfield 44, 3) := by decide +kernel
theorem zd_Loader_lookup_4 : decode kb_Loader_lookup 4 = .ok (.iload_n 1, 1) := by decide +kernel
theorem zd_Loader_lookup_5 : decode kb_Loader_lookup 5 = .ok (.invokevirtual 91, 3) := by decide +kernel
theorem zd_Loader_lookup_8 : decode kb_Loader_lookup 8 = .ok (.astore_n 3, 1) := by decide +kernel
theorem zd_Loader_lookup_9 : decode kb_Loader_lookup 9 = .ok (.aload_n 3, 1) := by decide +kernel
theorem zd_Loader_lookup_10 : decode kb_Loader_lookup 10 = .ok (.ifnonnull (5), 3) := by decide +kernel
theorem zd_Loader_lookup_13 : decode kb_Loader_lookup 13 = .ok (.iconst (-1), 1) := by decide +kernel
theorem zd_Loader_lookup_14 : decode kb_Loader_lookup 14 = .ok (.ireturn, 1) := by decide +kernel
theorem zd_Loader_lookup_15 : decode kb_Loader_lookup 15 = .ok (.iload_n 2, 1) := by decide +kernel
theorem zd_Loader_lookup_16 : decode kb_Loader_lookup 16 = .ok (.tableswitch (57) (0) (2) #[28, 33, 38], 28) := by decide +kernel
theorem zd_Loader_lookup_44 : decode kb_Loader_lookup 44 = .ok (.aload_n 3, 1) := by decide +kernel
theorem zd_Loader_lookup_45 : decode kb_Loader_lookup 45 = .ok (.getfield 176, 3) := by decide +kernel
theorem zd_Loader_lookup_48 : decode kb_Loader_lookup 48 = .ok (.ireturn, 1) := by decide +kernel
theorem zd_Loader_lookup_49 : decode kb_Loader_lookup 49 = .ok (.aload_n 3, 1) := by decide +kernel
theorem zd_Loader_lookup_50 : decode kb_Loader_lookup 50 = .ok (.getfield 187, 3) := by decide +kernel
theorem zd_Loader_lookup_53 : decode kb_Loader_lookup 53 = .ok (.ireturn, 1) := by decide +kernel
theorem zd_Loader_lookup_54 : decode kb_Loader_lookup 54 = .ok (.aload_n 3, 1) := by decide +kernel
theorem zd_Loader_lookup_55 : decode kb_Loader_lookup 55 = .ok (.getfield 190, 3) := by decide +kernel
theorem zd_Loader_lookup_58 : decode kb_Loader_lookup 58 = .ok (.ifnonnull (7), 3) := by decide +kernel
theorem zd_Loader_lookup_61 : decode kb_Loader_lookup 61 = .ok (.iconst 0, 1) := by decide +kernel
theorem zd_Loader_lookup_62 : decode kb_Loader_lookup 62 = .ok (.goto (10), 3) := by decide +kernel
theorem zd_Loader_lookup_65 : decode kb_Loader_lookup 65 = .ok (.aload_n 3, 1) := by decide +kernel
theorem zd_Loader_lookup_66 : decode kb_Loader_lookup 66 = .ok (.getfield 190, 3) := by decide +kernel
theorem zd_Loader_lookup_69 : decode kb_Loader_lookup 69 = .ok (.getfield 194, 3) := by decide +kernel
theorem zd_Loader_lookup_72 : decode kb_Loader_lookup 72 = .ok (.ireturn, 1) := by decide +kernel
theorem zd_Loader_lookup_73 : decode kb_Loader_lookup 73 = .ok (.iconst (-1), 1) := by decide +kernel
theorem zd_Loader_lookup_74 : decode kb_Loader_lookup 74 = .ok (.ireturn, 1) := by decide +kernel
def zf_Loader_lookup_b72 (u : zz_S) (y0 : Int32) : Option (Int32 × zz_S) := some (y0, u)
def zf_Loader_lookup (u : zz_S) (x1 : Int32) (x2 : Int32) : Option (Int32 × zz_S) := xx_b2 (zf_SymbolTable_find u x1) fun v2 u1 => xx_on v2 (some ((-1 : Int32), u1)) (fun a3 => if x2 = 0 then ((zz_pi u1 a3 7 2).bind fun v4 => some (v4, u1)) else (if x2 = 1 then ((zz_pi u1 a3 7 1).bind fun v5 => some (v5, u1)) else (if x2 = 2 then ((zz_pq u1 a3 7 3).bind fun v6 => xx_on v6 (zf_Loader_lookup_b72 u1 (0 : Int32)) (fun a7 => (zz_pq u1 a3 7 3).bind fun v8 => xx_nn v8 fun a9 => (zz_pi u1 a9 9 0).bind fun v10 => zf_Loader_lookup_b72 u1 v10)) else (some ((-1 : Int32), u1)))))
set_option maxHeartbeats 4000000 in
set_option maxRecDepth 100000 in
theorem zw_Loader_lookup_b72 {p : Program} {l : Launch} {e : Env} {s : State} {m : MethodId} {args : Array Value} {below : List Frame} {meth : Method} {c : Code} {A : Nat → Prop} {g : xx_G} {r : Int32} {u9 : zz_S} (C : xx_C p s m args meth c kb_Loader_lookup 4 kr_Loader (some .int)) (hA : ∀ q, s.heap.size ≤ q → A q) (hK : va_K g.1 xx_cls (zz_T g) s) : ∀ (u : zz_S) (y0 : Int32) (H : Heap) (locs : List Loc) (ls : Array Slot), zf_Loader_lookup_b72 u y0 = some (r, u9) → lv_has ls 4 [] → va_P g.1 xx_cls (zz_W g u) H → va_D A (zz_W g u) → va_S A s.heap H locs → W p l e (xx_rm 1 22) s m args below meth c H locs 0 0 (MQ below (xx_Q g.1 (zz_T g) (zz_W g) (some (.int r)) u9 A) args s 0 0 A) (F0 m 72 ls [.int y0]) := by
  have hx := C.1
  have hb := C.2.1
  have hown := C.2.2.2.1
  have hts := C.2.2.2.2.1
  intro u y0 H locs ls hF hl hP hD hS
  unfold zf_Loader_lookup_b72 at hF
  exact xx_iret C hF hK hP hD hS zd_Loader_lookup_72
set_option maxHeartbeats 4000000 in
set_option maxRecDepth 100000 in
theorem zc_Loader_lookup (l : Launch) (g : xx_G) (u : zz_S) (x1 : Int32) (x2 : Int32) (r : Int32) (u9 : zz_S) (hF : zf_Loader_lookup u x1 x2 = some (r, u9)) : xx_M l g.1 (zz_T g) (zz_W g) ky_Loader_lookup kb_Loader_lookup 4 (some .int) (xx_rm 1 22) [.ref (g.2.1 0), .int x1, .int x2] u (some (.int r)) u9 := by
  refine xx_body (by decide) (Nat.le_of_ble_eq_true rfl) ?_
  intro p e s m args below meth c A ls C hin hK hl hA hP hD hS
  have hx := C.1
  have hb := C.2.1
  have hown := C.2.2.2.1
  have hts := C.2.2.2.2.1
  have hl : lv_has ls 4 [(0, .ref (g.2.1 0)), (1, .int x1), (2, .int x2)] := hl
  unfold zf_Loader_lookup at hF
  refine lv_aload_n hx hb zd_Loader_lookup_0 rfl (lv_at hl 0 rfl) ?_
  refine xx_get C ki_Loader hK hP 0 rfl rfl 4 (by decide) kw_191 rfl rfl zd_Loader_lookup_1 ?_
  refine lv_iload_n hx hb zd_Loader_lookup_4 rfl (lv_at hl 1 rfl) ?_
  obtain ⟨v2, u1, eu1, hF⟩ := xx_b2_some hF
  refine xx_callV (n := 1) (As := [.int x1]) (rest := []) C (zc_SymbolTable_find l g u x1 v2 u1 eu1) ⟨kw_271, kw_268, kw_269, kw_270, kw_6⟩ ⟨by decide +kernel, by decide +kernel, by decide +kernel⟩ rfl ⟨Nat.le_of_ble_eq_true rfl, Nat.le_of_ble_eq_true rfl⟩ 9 rfl rfl hl.1 rfl (Nat.le_of_ble_eq_true rfl) hA hK hP hD hS ⟨Nat.le_refl _, Nat.le_refl _⟩ rfl rfl rfl zd_Loader_lookup_5 (fun H locs hP hD hS => ?_)
  refine xx_ast C zd_Loader_lookup_8 rfl hl (by decide) rfl (fun ls hl => ?_)
  refine xx_ald C zd_Loader_lookup_9 rfl (lv_at hl 0 rfl) ?_
  refine xx_ifnonnull (tgt := 15) C zd_Loader_lookup_10 (by decide) (fun en => ?_) (fun a3 ea3 => ?_)
  · have hF := xx_on_n en hF
    refine lv_iconst (v := (-1 : Int32)) hx hb zd_Loader_lookup_13 (by decide) ?_
    exact xx_iret C hF hK hP hD hS zd_Loader_lookup_14
  · have hF := xx_on_s ea3 hF
    refine lv_iload_n hx hb zd_Loader_lookup_15 rfl (lv_at hl 3 rfl) ?_
    by_cases hs0 : x2 = (0 : Int32)
    · have hF := xx_ip hs0 hF
      refine lv_tableIn (off := 28) (tgt := 44) hx hb zd_Loader_lookup_16 (by rw [hs0]; decide) (by rw [hs0]; decide) (by rw [hs0]; rfl) (by decide) ?_
      refine xx_ald C zd_Loader_lookup_44 rfl (lv_at hl 0 rfl) ?_
      rw [ea3]
      obtain ⟨v4, ev4, hF⟩ := xx_ob hF
      refine zz_get (a := a3) (u := u1) (ci := 7) C ki_Symbol hK hP rfl 2 (by decide) kw_467 rfl (zz_pi_some ev4) zd_Loader_lookup_45 ?_
      exact xx_iret C hF hK hP hD hS zd_Loader_lookup_48
    · have hF := xx_in' hs0 hF
      by_cases hs1 : x2 = (1 : Int32)
      · have hF := xx_ip hs1 hF
        refine lv_tableIn (off := 33) (tgt := 49) hx hb zd_Loader_lookup_16 (by rw [hs1]; decide) (by rw [hs1]; decide) (by rw [hs1]; rfl) (by decide) ?_
        refine xx_ald C zd_Loader_lookup_49 rfl (lv_at hl 0 rfl) ?_
        rw [ea3]
        obtain ⟨v5, ev5, hF⟩ := xx_ob hF
        refine zz_get (a := a3) (u := u1) (ci := 7) C ki_Symbol hK hP rfl 1 (by decide) kw_465 rfl (zz_pi_some ev5) zd_Loader_lookup_50 ?_
        exact xx_iret C hF hK hP hD hS zd_Loader_lookup_53
      · have hF := xx_in' hs1 hF
        by_cases hs2 : x2 = (2 : Int32)
        · have hF := xx_ip hs2 hF
          refine lv_tableIn (off := 38) (tgt := 54) hx hb zd_Loader_lookup_16 (by rw [hs2]; decide) (by rw [hs2]; decide) (by rw [hs2]; rfl) (by decide) ?_
          refine xx_ald C zd_Loader_lookup_54 rfl (lv_at hl 0 rfl) ?_
          rw [ea3]
          obtain ⟨v6, ev6, hF⟩ := xx_ob hF
          refine zz_get (a := a3) (u := u1) (ci := 7) C ki_Symbol hK hP rfl 3 (by decide) kw_470 rfl (zz_pq_some ev6) zd_Loader_lookup_55 ?_
          refine xx_ifnonnull (tgt := 65) C zd_Loader_lookup_58 (by decide) (fun en => ?_) (fun a7 ea7 => ?_)
          · have hF := xx_on_n en hF
            refine lv_iconst (v := (0 : Int32)) hx hb zd_Loader_lookup_61 (by decide) ?_
            refine lv_goto (tgt := 72) hx hb zd_Loader_lookup_62 (by decide) ?_
            exact zw_Loader_lookup_b72 C hA hK  u1 (0 : Int32) _ _ _ hF (lv_sub hl [] rfl) hP hD hS
          · have hF := xx_on_s ea7 hF
            refine xx_ald C zd_Loader_lookup_65 rfl (lv_at hl 0 rfl) ?_
            rw [ea3]
            obtain ⟨v8, ev8, hF⟩ := xx_ob hF
            refine zz_get (a := a3) (u := u1) (ci := 7) C ki_Symbol hK hP rfl 3 (by decide) kw_470 rfl (zz_pq_some ev8) zd_Loader_lookup_66 ?_
            obtain ⟨a9, ea9, hF⟩ := xx_nn_some hF
            rw [ea9]
            obtain ⟨v10, ev10, hF⟩ := xx_ob hF
            refine zz_get (a := a9) (u := u1) (ci := 9) C ki_LoadedModule hK hP rfl 0 (by decide) kw_676 rfl (zz_pi_some ev10) zd_Loader_lookup_69 ?_
            exact zw_Loader_lookup_b72 C hA hK  u1 v10 _ _ _ hF (lv_sub hl [] rfl) hP hD hS
        · have hF := xx_in' hs2 hF
          refine lv_tableOut (tgt := 73) hx hb zd_Loader_lookup_16 (by have h0 := lv_neT (a := 0) hs0 (by decide); have h1 := lv_neT (a := 1) hs1 (by decide); have h2 := lv_neT (a := 2) hs2 (by decide); omega) (by decide) ?_
          refine lv_iconst (v := (-1 : Int32)) hx hb zd_Loader_lookup_73 (by decide) ?_
          exact xx_iret C hF hK hP hD hS zd_Loader_lookup_74
theorem kw_192 : Cond.fieldLink "ModuleLoader" 51 "ModuleLoader" "modules" "LModuleLoader$ModuleTable;" ∈ xx_tb := xx_in (List.mem_append_right _ (List.mem_of_getElem? (i := 192) (by decide +kernel))) (by decide +kernel)
set_option maxRecDepth 100000 in
theorem kw_315 : Cond.code ky_ModuleTable_get kb_ModuleTable_get 2 (some (.object "ModuleLoader$LoadedModule")) ∈ xx_tb := xx_in (List.mem_append_right _ (List.mem_of_getElem? (i := 315) (by rfl))) (by decide +kernel)
theorem kw_331 : Cond.methodLink "ModuleLoader" 215 ky_ModuleTable_get ∈ xx_tb := xx_in (List.mem_append_right _ (List.mem_of_getElem? (i := 331) (by decide +kernel))) (by decide +kernel)
theorem kw_313 : Cond.instanceMethod ky_ModuleTable_get ∈ xx_tb := xx_in (List.mem_append_right _ (List.mem_of_getElem? (i := 313) (by decide +kernel))) (by decide +kernel)
theorem kw_314 : Cond.selects "ModuleLoader$ModuleTable" ky_ModuleTable_get ky_ModuleTable_get ∈ xx_tb := xx_in (List.mem_append_right _ (List.mem_of_getElem? (i := 314) (by decide +kernel))) (by decide +kernel)
theorem kw_7 : Cond.initialized "ModuleLoader$ModuleTable" ∈ xx_tb := xx_in (List.mem_append_right _ (List.mem_of_getElem? (i := 7) (by decide +kernel))) (by decide +kernel)
theorem zd_Loader_at_0 : decode kb_Loader_at 0 = .ok (.aload_n 0, 1) := by decide +kernel
theorem zd_Loader_at_1 : decode kb_Loader_at 1 = .ok (.getfield 51, 3) := by decide +kernel
theorem zd_Loader_at_4 : decode kb_Loader_at 4 = .ok (.iload_n 1, 1) := by decide +kernel
theorem zd_Loader_at_5 : decode kb_Loader_at 5 = .ok (.invokevirtual 215, 3) := by decide +kernel
theorem zd_Loader_at_8 : decode kb_Loader_at 8 = .ok (.astore_n 2, 1) := by decide +kernel
theorem zd_Loader_at_9 : decode kb_Loader_at 9 = .ok (.aload_n 2, 1) := by decide +kernel
theorem zd_Loader_at_10 : decode kb_Loader_at 10 = .ok (.ifnonnull (7), 3) := by decide +kernel
theorem zd_Loader_at_13 : decode kb_Loader_at 13 = .ok (.iconst (-1), 1) := by decide +kernel
theorem zd_Loader_at_14 : decode kb_Loader_at 14 = .ok (.goto (7), 3) := by decide +kernel
theorem zd_Loader_at_17 : decode kb_Loader_at 17 = .ok (.aload_n 2, 1) := by decide +kernel
theorem zd_Loader_at_18 : decode kb_Loader_at 18 = .ok (.getfield 194, 3) := by decide +kernel
theorem zd_Loader_at_21 : decode kb_Loader_at 21 = .ok (.ireturn, 1) := by decide +kernel
def zf_Loader_at_b21 (u : zz_S) (y0 : Int32) : Option (Int32 × zz_S) := some (y0, u)
def zf_Loader_at (u : zz_S) (x1 : Int32) : Option (Int32 × zz_S) := xx_b2 (zf_ModuleTable_get u x1) fun v2 u1 => xx_on v2 (zf_Loader_at_b21 u1 (-1 : Int32)) (fun a3 => (zz_pi u1 a3 9 0).bind fun v4 => zf_Loader_at_b21 u1 v4)
set_option maxHeartbeats 4000000 in
set_option maxRecDepth 100000 in
theorem zw_Loader_at_b21 {p : Program} {l : Launch} {e : Env} {s : State} {m : MethodId} {args : Array Value} {below : List Frame} {meth : Method} {c : Code} {A : Nat → Prop} {g : xx_G} {r : Int32} {u9 : zz_S} (C : xx_C p s m args meth c kb_Loader_at 3 kr_Loader (some .int)) (hA : ∀ q, s.heap.size ≤ q → A q) (hK : va_K g.1 xx_cls (zz_T g) s) : ∀ (u : zz_S) (y0 : Int32) (H : Heap) (locs : List Loc) (ls : Array Slot), zf_Loader_at_b21 u y0 = some (r, u9) → lv_has ls 3 [] → va_P g.1 xx_cls (zz_W g u) H → va_D A (zz_W g u) → va_S A s.heap H locs → W p l e (xx_rm 1 21) s m args below meth c H locs 0 0 (MQ below (xx_Q g.1 (zz_T g) (zz_W g) (some (.int r)) u9 A) args s 0 0 A) (F0 m 21 ls [.int y0]) := by
  have hx := C.1
  have hb := C.2.1
  have hown := C.2.2.2.1
  have hts := C.2.2.2.2.1
  intro u y0 H locs ls hF hl hP hD hS
  unfold zf_Loader_at_b21 at hF
  exact xx_iret C hF hK hP hD hS zd_Loader_at_21
set_option maxHeartbeats 4000000 in
set_option maxRecDepth 100000 in
theorem zc_Loader_at (l : Launch) (g : xx_G) (u : zz_S) (x1 : Int32) (r : Int32) (u9 : zz_S) (hF : zf_Loader_at u x1 = some (r, u9)) : xx_M l g.1 (zz_T g) (zz_W g) ky_Loader_at kb_Loader_at 3 (some .int) (xx_rm 1 21) [.ref (g.2.1 0), .int x1] u (some (.int r)) u9 := by
  refine xx_body (by decide) (Nat.le_of_ble_eq_true rfl) ?_
  intro p e s m args below meth c A ls C hin hK hl hA hP hD hS
  have hx := C.1
  have hb := C.2.1
  have hown := C.2.2.2.1
  have hts := C.2.2.2.2.1
  have hl : lv_has ls 3 [(0, .ref (g.2.1 0)), (1, .int x1)] := hl
  unfold zf_Loader_at at hF
  refine lv_aload_n hx hb zd_Loader_at_0 rfl (lv_at hl 0 rfl) ?_
  refine xx_get C ki_Loader hK hP 0 rfl rfl 5 (by decide) kw_192 rfl rfl zd_Loader_at_1 ?_
  refine lv_iload_n hx hb zd_Loader_at_4 rfl (lv_at hl 1 rfl) ?_
  obtain ⟨v2, u1, eu1, hF⟩ := xx_b2_some hF
  refine xx_callV (n := 1) (As := [.int x1]) (rest := []) C (zc_ModuleTable_get l g u x1 v2 u1 eu1) ⟨kw_315, kw_331, kw_313, kw_314, kw_7⟩ ⟨by decide +kernel, by decide +kernel, by decide +kernel⟩ rfl ⟨Nat.le_of_ble_eq_true rfl, Nat.le_of_ble_eq_true rfl⟩ 11 rfl rfl hl.1 rfl (Nat.le_of_ble_eq_true rfl) hA hK hP hD hS ⟨Nat.le_refl _, Nat.le_refl _⟩ rfl rfl rfl zd_Loader_at_5 (fun H locs hP hD hS => ?_)
  refine xx_ast C zd_Loader_at_8 rfl hl (by decide) rfl (fun ls hl => ?_)
  refine xx_ald C zd_Loader_at_9 rfl (lv_at hl 0 rfl) ?_
  refine xx_ifnonnull (tgt := 17) C zd_Loader_at_10 (by decide) (fun en => ?_) (fun a3 ea3 => ?_)
  · have hF := xx_on_n en hF
    refine lv_iconst (v := (-1 : Int32)) hx hb zd_Loader_at_13 (by decide) ?_
    refine lv_goto (tgt := 21) hx hb zd_Loader_at_14 (by decide) ?_
    exact zw_Loader_at_b21 C hA hK  u1 (-1 : Int32) _ _ _ hF (lv_sub hl [] rfl) hP hD hS
  · have hF := xx_on_s ea3 hF
    refine xx_ald C zd_Loader_at_17 rfl (lv_at hl 0 rfl) ?_
    rw [ea3]
    obtain ⟨v4, ev4, hF⟩ := xx_ob hF
    refine zz_get (a := a3) (u := u1) (ci := 9) C ki_LoadedModule hK hP rfl 0 (by decide) kw_676 rfl (zz_pi_some ev4) zd_Loader_at_18 ?_
    exact zw_Loader_at_b21 C hA hK  u1 v4 _ _ _ hF (lv_sub hl [] rfl) hP hD hS
set_option maxRecDepth 100000 in
theorem kw_287 : Cond.code ky_LoadedModule_needs kb_LoadedModule_needs 3 (some .boolean) ∈ xx_tb := xx_in (List.mem_append_right _ (List.mem_of_getElem? (i := 287) (by rfl))) (by decide +kernel)
theorem kw_719 : Cond.methodLink "ModuleLoader$LoadedModule" 53 ky_LoadedModule_needs ∈ xx_tb := xx_in (List.mem_append_right _ (List.mem_of_getElem? (i := 719) (by decide +kernel))) (by decide +kernel)
theorem kw_285 : Cond.instanceMethod ky_LoadedModule_needs ∈ xx_tb := xx_in (List.mem_append_right _ (List.mem_of_getElem? (i := 285) (by decide +kernel))) (by decide +kernel)
theorem kw_286 : Cond.selects "ModuleLoader$LoadedModule" ky_LoadedModule_needs ky_LoadedModule_needs ∈ xx_tb := xx_in (List.mem_append_right _ (List.mem_of_getElem? (i := 286) (by decide +kernel))) (by decide +kernel)
theorem kw_18 : Cond.initialized "ModuleLoader$LoadedModule" ∈ xx_tb := xx_in (List.mem_append_right _ (List.mem_of_getElem? (i := 18) (by decide +kernel))) (by decide +kernel)
theorem zd_LoadedModule_need_0 : decode kb_LoadedModule_need 0 = .ok (.aload_n 1, 1) := by decide +kernel
theorem zd_LoadedModule_need_1 : decode kb_LoadedModule_need 1 = .ok (.ifnull (43), 3) := by decide +kernel
theorem zd_LoadedModule_need_4 : decode kb_LoadedModule_need 4 = .ok (.aload_n 0, 1) := by decide +kernel
theorem zd_LoadedModule_need_5 : decode kb_LoadedModule_need 5 = .ok (.aload_n 1, 1) := by decide +kernel
theorem zd_LoadedModule_need_6 : decode kb_LoadedModule_need 6 = .ok (.invokevirtual 53, 3) := by decide +kernel
theorem zd_LoadedModule_need_9 : decode kb_LoadedModule_need 9 = .ok (.ifCond .ne (35), 3) := by decide +kernel
theorem zd_LoadedModule_need_12 : decode kb_LoadedModule_need 12 = .ok (.aload_n 0, 1) := by decide +kernel
theorem zd_LoadedModule_need_13 : decode kb_LoadedModule_need 13 = .ok (.getfield 50, 3) := by decide +kernel
theorem zd_LoadedModule_need_16 : decode kb_LoadedModule_need 16 = .ok (.aload_n 0, 1) := by decide +kernel
theorem zd_LoadedModule_need_17 : decode kb_LoadedModule_need 17 = .ok (.getfield 46, 3) := by decide +kernel
theorem zd_LoadedModule_need_20 : decode kb_LoadedModule_need 20 = .ok (.arraylength, 1) := by decide +kernel
theorem zd_LoadedModule_need_21 : decode kb_LoadedModule_need 21 = .ok (.if_icmp .ge (23), 3) := by decide +kernel
theorem zd_LoadedModule_need_24 : decode kb_LoadedModule_need 24 = .ok (.aload_n 0, 1) := by decide +kernel
theorem zd_LoadedModule_need_25 : decode kb_LoadedModule_need 25 = .ok (.getfield 46, 3) := by decide +kernel
theorem zd_LoadedModule_need_28 : decode kb_LoadedModule_need 28 = .ok (.aload_n 0, 1) := by decide +kernel
theorem zd_LoadedModule_need_29 : decode kb_LoadedModule_need 29 = .ok (.getfield 50, 3) := by decide +kernel
theorem zd_LoadedModule_need_32 : decode kb_LoadedModule_need 32 = .ok (.aload_n 1, 1) := by decide +kernel
theorem zd_LoadedModule_need_33 : decode kb_LoadedModule_need 33 = .ok (.aastore, 1) := by decide +kernel
theorem zd_LoadedModule_need_34 : decode kb_LoadedModule_need 34 = .ok (.aload_n 0, 1) := by decide +kernel
theorem zd_LoadedModule_need_35 : decode kb_LoadedModule_need 35 = .ok (.dup, 1) := by decide +kernel
theorem zd_LoadedModule_need_36 : decode kb_LoadedModule_need 36 = .ok (.getfield 50, 3) := by decide +kernel
theorem zd_LoadedModule_need_39 : decode kb_LoadedModule_need 39 = .ok (.iconst 1, 1) := by decide +kernel
theorem zd_LoadedModule_need_40 : decode kb_LoadedModule_need 40 = .ok (.iadd, 1) := by decide +kernel
theorem zd_LoadedModule_need_41 : decode kb_LoadedModule_need 41 = .ok (.putfield 50, 3) := by decide +kernel
theorem zd_LoadedModule_need_44 : decode kb_LoadedModule_need 44 = .ok (.return_, 1) := by decide +kernel
def zf_LoadedModule_need_b44 (u : zz_S) : Option (zz_S) := some u
def zf_LoadedModule_need (u : zz_S) (x0 : Nat) (x1 : Option Nat) : Option (zz_S) := xx_on x1 (zf_LoadedModule_need_b44 u) (fun a1 => (zz_ok u x0 9).bind fun w2 => xx_b2 (zf_LoadedModule_needs u x0 x1) fun v4 u3 => if v4 = 0 then ((zz_pi u3 x0 9 9).bind fun v5 => (zz_pr u3 x0 9 8).bind fun v6 => (zz_nl u3 v6).bind fun v7 => if v7 ≤ v5 then (zf_LoadedModule_need_b44 u3) else ((zz_pr u3 x0 9 8).bind fun v8 => (zz_pi u3 x0 9 9).bind fun v9 => (zz_ns u3 v8 v9 a1).bind fun u10 => (zz_pi u10 x0 9 9).bind fun v11 => xx_nm (v11 + (1 : Int32)) fun v12 => (zz_pw u10 x0 9 9 (.int v12)).bind fun u13 => zf_LoadedModule_need_b44 u13)) else (zf_LoadedModule_need_b44 u3))
set_option maxHeartbeats 4000000 in
set_option maxRecDepth 100000 in
theorem zw_LoadedModule_need_b44 {p : Program} {l : Launch} {e : Env} {s : State} {m : MethodId} {args : Array Value} {below : List Frame} {meth : Method} {c : Code} {A : Nat → Prop} {g : xx_G} {u9 : zz_S} (C : xx_C p s m args meth c kb_LoadedModule_need 2 kr_LoadedModule none) (hA : ∀ q, s.heap.size ≤ q → A q) (hK : va_K g.1 xx_cls (zz_T g) s) : ∀ (u : zz_S) (H : Heap) (locs : List Loc) (ls : Array Slot), zf_LoadedModule_need_b44 u = some u9 → lv_has ls 2 [] → va_P g.1 xx_cls (zz_W g u) H → va_D A (zz_W g u) → va_S A s.heap H locs → W p l e (xx_rm 1 22) s m args below meth c H locs 0 0 (MQ below (xx_Q g.1 (zz_T g) (zz_W g) none u9 A) args s 0 0 A) (F0 m 44 ls []) := by
  have hx := C.1
  have hb := C.2.1
  have hown := C.2.2.2.1
  have hts := C.2.2.2.2.1
  intro u H locs ls hF hl hP hD hS
  unfold zf_LoadedModule_need_b44 at hF
  exact xx_vret C hF hK hP hD hS zd_LoadedModule_need_44
set_option maxHeartbeats 4000000 in
set_option maxRecDepth 100000 in
theorem zc_LoadedModule_need (l : Launch) (g : xx_G) (u : zz_S) (x0 : Nat) (x1 : Option Nat) (u9 : zz_S) (hF : zf_LoadedModule_need u x0 x1 = some u9) : xx_M l g.1 (zz_T g) (zz_W g) ky_LoadedModule_need kb_LoadedModule_need 2 none (xx_rm 1 22) [.ref x0, (va_rf x1)] u none u9 := by
  refine xx_body (by decide) (by simp [lg_sl, xx_rfc, xx_ic, xx_rc]) ?_
  intro p e s m args below meth c A ls C hin hK hl hA hP hD hS
  have hx := C.1
  have hb := C.2.1
  have hown := C.2.2.2.1
  have hts := C.2.2.2.2.1
  have hl : lv_has ls 2 [(0, .ref x0), (1, (va_rf x1))] := by simpa [lv_args, xx_rfc, xx_ic, xx_rc] using hl
  unfold zf_LoadedModule_need at hF
  refine xx_ald C zd_LoadedModule_need_0 rfl (lv_at hl 1 rfl) ?_
  refine xx_ifnull (tgt := 44) C zd_LoadedModule_need_1 (by decide) (fun en => ?_) (fun a1 ea1 => ?_)
  · have hF := xx_on_n en hF
    exact zw_LoadedModule_need_b44 C hA hK  u _ _ _ hF (lv_sub hl [] rfl) hP hD hS
  · have hF := xx_on_s ea1 hF
    refine lv_aload_n hx hb zd_LoadedModule_need_4 rfl (lv_at hl 0 rfl) ?_
    refine xx_ald C zd_LoadedModule_need_5 rfl (lv_at hl 1 rfl) ?_
    obtain ⟨w2, ew2, hF⟩ := xx_ob hF
    obtain ⟨v4, u3, eu3, hF⟩ := xx_b2_some hF
    refine zz_callP (ci := 9) (n := 1) (As := [(va_rf x1)]) (rest := []) C (zc_LoadedModule_needs l g u x0 x1 v4 u3 eu3) ⟨kw_287, kw_719, kw_285, kw_286, kw_18⟩ ⟨by decide +kernel, by decide +kernel, by decide +kernel⟩ rfl ⟨Nat.le_of_ble_eq_true rfl, Nat.le_of_ble_eq_true rfl⟩ ew2 rfl hl.1 rfl (Nat.le_of_ble_eq_true rfl) hA hK hP hD hS ⟨Nat.le_refl _, Nat.le_refl _⟩ rfl rfl rfl zd_LoadedModule_need_6 (fun H locs hP hD hS => ?_)
    refine lv_if_ne (tgt := 44) hx hb zd_LoadedModule_need_9 (by decide) (fun hc => ?_) (fun hc => ?_)
    · have hF := xx_in' hc hF
      exact zw_LoadedModule_need_b44 C hA hK  u3 _ _ _ hF (lv_sub hl [] rfl) hP hD hS
    · have hF := xx_ip hc hF
      refine lv_aload_n hx hb zd_LoadedModule_need_12 rfl (lv_at hl 0 rfl) ?_
      obtain ⟨v5, ev5, hF⟩ := xx_ob hF
      refine zz_get (a := x0) (u := u3) (ci := 9) C ki_LoadedModule hK hP rfl 9 (by decide) kw_693 rfl (zz_pi_some ev5) zd_LoadedModule_need_13 ?_
      refine lv_aload_n hx hb zd_LoadedModule_need_16 rfl (lv_at hl 0 rfl) ?_
      obtain ⟨v6, ev6, hF⟩ := xx_ob hF
      refine zz_get (a := x0) (u := u3) (ci := 9) C ki_LoadedModule hK hP rfl 8 (by decide) kw_692 rfl (zz_pr_some ev6) zd_LoadedModule_need_17 ?_
      obtain ⟨v7, ev7, hF⟩ := xx_ob hF
      refine zz_nlen C hK hP ev7 zd_LoadedModule_need_20 ?_
      refine lv_icmp_ge (tgt := 44) hx hb zd_LoadedModule_need_21 (by decide) (fun hc => ?_) (fun hc => ?_)
      · have hF := xx_ip hc hF
        exact zw_LoadedModule_need_b44 C hA hK  u3 _ _ _ hF (lv_sub hl [] rfl) hP hD hS
      · have hF := xx_in' hc hF
        refine lv_aload_n hx hb zd_LoadedModule_need_24 rfl (lv_at hl 0 rfl) ?_
        obtain ⟨v8, ev8, hF⟩ := xx_ob hF
        refine zz_get (a := x0) (u := u3) (ci := 9) C ki_LoadedModule hK hP rfl 8 (by decide) kw_692 rfl (zz_pr_some ev8) zd_LoadedModule_need_25 ?_
        refine lv_aload_n hx hb zd_LoadedModule_need_28 rfl (lv_at hl 0 rfl) ?_
        obtain ⟨v9, ev9, hF⟩ := xx_ob hF
        refine zz_get (a := x0) (u := u3) (ci := 9) C ki_LoadedModule hK hP rfl 9 (by decide) kw_693 rfl (zz_pi_some ev9) zd_LoadedModule_need_29 ?_
        refine xx_ald C zd_LoadedModule_need_32 rfl (lv_at hl 1 rfl) ?_
        rw [ea1]
        obtain ⟨u10, eu10, hF⟩ := xx_ob hF
        refine zz_nast (u := u3) (u1 := u10) (a := a1) C hK hP hD hS eu10 zd_LoadedModule_need_33 (fun H locs hP hD hS => ?_)
        refine lv_aload_n hx hb zd_LoadedModule_need_34 rfl (lv_at hl 0 rfl) ?_
        refine lv_dup hx hb zd_LoadedModule_need_35 rfl ?_
        obtain ⟨v11, ev11, hF⟩ := xx_ob hF
        refine zz_get (a := x0) (u := u10) (ci := 9) C ki_LoadedModule hK hP rfl 9 (by decide) kw_693 rfl (zz_pi_some ev11) zd_LoadedModule_need_36 ?_
        refine lv_iconst (v := (1 : Int32)) hx hb zd_LoadedModule_need_39 (by decide) ?_
        refine lv_iadd hx hb zd_LoadedModule_need_40 ?_
        obtain ⟨v12, ev12, hF⟩ := xx_nm_some hF
        refine xx_topi ev12 ?_
        obtain ⟨u13, eu13, hF⟩ := xx_ob hF
        refine zz_put (u := u10) (u1 := u13) (ci := 9) C ki_LoadedModule kt_LoadedModule ko_LoadedModule kn_LoadedModule hK hP hD hS rfl 9 (by decide) kw_693 rfl rfl rfl rfl eu13 zd_LoadedModule_need_41 (fun H locs hP hD hS => ?_)
        exact zw_LoadedModule_need_b44 C hA hK  u13 _ _ _ hF (lv_sub hl [] rfl) hP hD hS
set_option maxRecDepth 100000 in
theorem kw_765 : Cond.code ky_Machine_kindOf kb_Machine_kindOf 1 (some .int) ∈ xx_tb := xx_in (List.mem_append_right _ (List.mem_of_getElem? (i := 765) (by rfl))) (by decide +kernel)
theorem kw_763 : Cond.methodLink "ModuleLoader$Machine" 73 ky_Machine_kindOf ∈ xx_tb := xx_in (List.mem_append_right _ (List.mem_of_getElem? (i := 763) (by decide +kernel))) (by decide +kernel)
theorem kw_764 : Cond.static ky_Machine_kindOf ∈ xx_tb := xx_in (List.mem_append_right _ (List.mem_of_getElem? (i := 764) (by decide +kernel))) (by decide +kernel)
set_option maxRecDepth 100000 in
theorem kw_769 : Cond.code ky_Machine_firstOf kb_Machine_firstOf 2 (some .int) ∈ xx_tb := xx_in (List.mem_append_right _ (List.mem_of_getElem? (i := 769) (by rfl))) (by decide +kernel)
theorem kw_766 : Cond.methodLink "ModuleLoader$Machine" 76 ky_Machine_firstOf ∈ xx_tb := xx_in (List.mem_append_right _ (List.mem_of_getElem? (i := 766) (by decide +kernel))) (by decide +kernel)
theorem kw_768 : Cond.instanceMethod ky_Machine_firstOf ∈ xx_tb := xx_in (List.mem_append_right _ (List.mem_of_getElem? (i := 768) (by decide +kernel))) (by decide +kernel)
theorem ks_Machine_firstOf : Cond.selects "ModuleLoader$Machine" ky_Machine_firstOf ky_Machine_firstOf ∈ xx_tb := xx_in (List.mem_append_left _ (by decide +kernel)) (by decide +kernel)
set_option maxRecDepth 100000 in
theorem kw_754 : Cond.code ky_Machine_finish kb_Machine_finish 5 (some .int) ∈ xx_tb := xx_in (List.mem_append_right _ (List.mem_of_getElem? (i := 754) (by rfl))) (by decide +kernel)
theorem kw_751 : Cond.methodLink "ModuleLoader$Machine" 47 ky_Machine_finish ∈ xx_tb := xx_in (List.mem_append_right _ (List.mem_of_getElem? (i := 751) (by decide +kernel))) (by decide +kernel)
theorem kw_753 : Cond.instanceMethod ky_Machine_finish ∈ xx_tb := xx_in (List.mem_append_right _ (List.mem_of_getElem? (i := 753) (by decide +kernel))) (by decide +kernel)
theorem ks_Machine_finish : Cond.selects "ModuleLoader$Machine" ky_Machine_finish ky_Machine_finish ∈ xx_tb := xx_in (List.mem_append_left _ (by decide +kernel)) (by decide +kernel)
theorem zd_Machine_jumpToRegister_0 : decode kb_Machine_jumpToRegister 0 = .ok (.iload_n 1, 1) := by decide +kernel
theorem zd_Machine_jumpToRegister_1 : decode kb_Machine_jumpToRegister 1 = .ok (.invokestatic 73, 3) := by decide +kernel
theorem zd_Machine_jumpToRegister_4 : decode kb_Machine_jumpToRegister 4 = .ok (.ifCond .eq (5), 3) := by decide +kernel
theorem zd_Machine_jumpToRegister_7 : decode kb_Machine_jumpToRegister 7 = .ok (.iconst 3, 1) := by decide +kernel
theorem zd_Machine_jumpToRegister_8 : decode kb_Machine_jumpToRegister 8 = .ok (.ireturn, 1) := by decide +kernel
theorem zd_Machine_jumpToRegister_9 : decode kb_Machine_jumpToRegister 9 = .ok (.aload_n 0, 1) := by decide +kernel
theorem zd_Machine_jumpToRegister_10 : decode kb_Machine_jumpToRegister 10 = .ok (.iload_n 1, 1) := by decide +kernel
theorem zd_Machine_jumpToRegister_11 : decode kb_Machine_jumpToRegister 11 = .ok (.aload_n 0, 1) := by decide +kernel
theorem zd_Machine_jumpToRegister_12 : decode kb_Machine_jumpToRegister 12 = .ok (.getfield 25, 3) := by decide +kernel
theorem zd_Machine_jumpToRegister_15 : decode kb_Machine_jumpToRegister 15 = .ok (.iconst 4, 1) := by decide +kernel
theorem zd_Machine_jumpToRegister_16 : decode kb_Machine_jumpToRegister 16 = .ok (.iadd, 1) := by decide +kernel
theorem zd_Machine_jumpToRegister_17 : decode kb_Machine_jumpToRegister 17 = .ok (.aload_n 0, 1) := by decide +kernel
theorem zd_Machine_jumpToRegister_18 : decode kb_Machine_jumpToRegister 18 = .ok (.iload_n 1, 1) := by decide +kernel
theorem zd_Machine_jumpToRegister_19 : decode kb_Machine_jumpToRegister 19 = .ok (.invokevirtual 76, 3) := by decide +kernel
theorem zd_Machine_jumpToRegister_22 : decode kb_Machine_jumpToRegister 22 = .ok (.iload_n 1, 1) := by decide +kernel
theorem zd_Machine_jumpToRegister_23 : decode kb_Machine_jumpToRegister 23 = .ok (.bipush (20), 2) := by decide +kernel
theorem zd_Machine_jumpToRegister_25 : decode kb_Machine_jumpToRegister 25 = .ok (.ishr, 1) := by decide +kernel
theorem zd_Machine_jumpToRegister_26 : decode kb_Machine_jumpToRegister 26 = .ok (.iadd, 1) := by decide +kernel
theorem zd_Machine_jumpToRegister_27 : decode kb_Machine_jumpToRegister 27 = .ok (.bipush (-2), 2) := by decide +kernel
theorem zd_Machine_jumpToRegister_29 : decode kb_Machine_jumpToRegister 29 = .ok (.iand, 1) := by decide +kernel
theorem zd_Machine_jumpToRegister_30 : decode kb_Machine_jumpToRegister 30 = .ok (.invokevirtual 47, 3) := by decide +kernel
theorem zd_Machine_jumpToRegister_33 : decode kb_Machine_jumpToRegister 33 = .ok (.ireturn, 1) := by decide +kernel
def zf_Machine_jumpToRegister (u : zz_S) (x1 : Int32) : Option (Int32 × zz_S) := xx_b2 (zf_Machine_kindOf u x1) fun v2 u1 => if v2 = 0 then (xx_b2 (zf_Machine_firstOf u1 x1) fun v4 u3 => xx_b2 (zf_Machine_finish u3 x1 ((u1.1 3) + (4 : Int32)) ((v4 + (x1 >>> ((20 : Int32) &&& 31))) &&& (-2 : Int32))) fun v6 u5 => some (v6, u5)) else (some ((3 : Int32), u1))
set_option maxHeartbeats 4000000 in
set_option maxRecDepth 100000 in
theorem zc_Machine_jumpToRegister (l : Launch) (g : xx_G) (u : zz_S) (x1 : Int32) (r : Int32) (u9 : zz_S) (hF : zf_Machine_jumpToRegister u x1 = some (r, u9)) : xx_M l g.1 (zz_T g) (zz_W g) ky_Machine_jumpToRegister kb_Machine_jumpToRegister 2 (some .int) (xx_rm 1 24) [.ref (g.2.1 4), .int x1] u (some (.int r)) u9 := by
  refine xx_body (by decide) (Nat.le_of_ble_eq_true rfl) ?_
  intro p e s m args below meth c A ls C hin hK hl hA hP hD hS
  have hx := C.1
  have hb := C.2.1
  have hown := C.2.2.2.1
  have hts := C.2.2.2.2.1
  have hl : lv_has ls 2 [(0, .ref (g.2.1 4)), (1, .int x1)] := hl
  unfold zf_Machine_jumpToRegister at hF
  refine lv_iload_n hx hb zd_Machine_jumpToRegister_0 rfl (lv_at hl 1 rfl) ?_
  obtain ⟨v2, u1, eu1, hF⟩ := xx_b2_some hF
  refine xx_callS (n := 1) (As := [.int x1]) (rest := []) C (zc_Machine_kindOf l g u x1 v2 u1 eu1) ⟨kw_765, kw_763, kw_764, kw_3⟩ ⟨by decide +kernel, by decide +kernel, by decide +kernel⟩ rfl ⟨Nat.le_of_ble_eq_true rfl, Nat.le_of_ble_eq_true rfl⟩ hl.1 rfl (Nat.le_of_ble_eq_true rfl) hA hK hP hD hS ⟨Nat.le_refl _, Nat.le_refl _⟩ rfl rfl rfl zd_Machine_jumpToRegister_1 (fun H locs hP hD hS => ?_)
  refine lv_if_eq (tgt := 9) hx hb zd_Machine_jumpToRegister_4 (by decide) (fun hc => ?_) (fun hc => ?_)
  · have hF := xx_ip hc hF
    refine lv_aload_n hx hb zd_Machine_jumpToRegister_9 rfl (lv_at hl 0 rfl) ?_
    refine lv_iload_n hx hb zd_Machine_jumpToRegister_10 rfl (lv_at hl 1 rfl) ?_
    refine lv_aload_n hx hb zd_Machine_jumpToRegister_11 rfl (lv_at hl 0 rfl) ?_
    refine xx_get C ki_Machine hK hP 4 rfl rfl 4 (by decide) kw_56 rfl rfl zd_Machine_jumpToRegister_12 ?_
    refine lv_iconst (v := (4 : Int32)) hx hb zd_Machine_jumpToRegister_15 (by decide) ?_
    refine lv_iadd hx hb zd_Machine_jumpToRegister_16 ?_
    refine lv_aload_n hx hb zd_Machine_jumpToRegister_17 rfl (lv_at hl 0 rfl) ?_
    refine lv_iload_n hx hb zd_Machine_jumpToRegister_18 rfl (lv_at hl 1 rfl) ?_
    obtain ⟨v4, u3, eu3, hF⟩ := xx_b2_some hF
    refine xx_callV (n := 1) (As := [.int x1]) (rest := [.int ((u1.1 3) + (4 : Int32)), .int x1, .ref (g.2.1 4)]) C (zc_Machine_firstOf l g u1 x1 v4 u3 eu3) ⟨kw_769, kw_766, kw_768, ks_Machine_firstOf, kw_3⟩ ⟨by decide +kernel, by decide +kernel, by decide +kernel⟩ rfl ⟨Nat.le_of_ble_eq_true rfl, Nat.le_of_ble_eq_true rfl⟩ 4 rfl rfl hl.1 rfl (Nat.le_of_ble_eq_true rfl) hA hK hP hD hS ⟨Nat.le_refl _, Nat.le_refl _⟩ rfl rfl rfl zd_Machine_jumpToRegister_19 (fun H locs hP hD hS => ?_)
    refine lv_iload_n hx hb zd_Machine_jumpToRegister_22 rfl (lv_at hl 1 rfl) ?_
    refine lv_bipush (v := (20 : Int32)) hx hb zd_Machine_jumpToRegister_23 (by decide) ?_
    refine lv_ishr hx hb zd_Machine_jumpToRegister_25 ?_
    refine lv_iadd hx hb zd_Machine_jumpToRegister_26 ?_
    refine lv_bipush (v := (-2 : Int32)) hx hb zd_Machine_jumpToRegister_27 (by decide) ?_
    refine lv_iand hx hb zd_Machine_jumpToRegister_29 ?_
    obtain ⟨v6, u5, eu5, hF⟩ := xx_b2_some hF
    refine xx_callV (n := 3) (As := [.int x1, .int ((u1.1 3) + (4 : Int32)), .int ((v4 + (x1 >>> ((20 : Int32) &&& 31))) &&& (-2 : Int32))]) (rest := []) C (zc_Machine_finish l g u3 x1 ((u1.1 3) + (4 : Int32)) ((v4 + (x1 >>> ((20 : Int32) &&& 31))) &&& (-2 : Int32)) v6 u5 eu5) ⟨kw_754, kw_751, kw_753, ks_Machine_finish, kw_3⟩ ⟨by decide +kernel, by decide +kernel, by decide +kernel⟩ rfl ⟨Nat.le_of_ble_eq_true rfl, Nat.le_of_ble_eq_true rfl⟩ 4 rfl rfl hl.1 rfl (Nat.le_of_ble_eq_true rfl) hA hK hP hD hS ⟨Nat.le_refl _, Nat.le_refl _⟩ rfl rfl rfl zd_Machine_jumpToRegister_30 (fun H locs hP hD hS => ?_)
    exact xx_iret C hF hK hP hD hS zd_Machine_jumpToRegister_33
  · have hF := xx_in' hc hF
    refine lv_iconst (v := (3 : Int32)) hx hb zd_Machine_jumpToRegister_7 (by decide) ?_
    exact xx_iret C hF hK hP hD hS zd_Machine_jumpToRegister_8
set_option maxRecDepth 100000 in
theorem kw_783 : Cond.code ky_Machine_isBelow kb_Machine_isBelow 2 (some .boolean) ∈ xx_tb := xx_in (List.mem_append_right _ (List.mem_of_getElem? (i := 783) (by rfl))) (by decide +kernel)
theorem kw_781 : Cond.methodLink "ModuleLoader$Machine" 89 ky_Machine_isBelow ∈ xx_tb := xx_in (List.mem_append_right _ (List.mem_of_getElem? (i := 781) (by decide +kernel))) (by decide +kernel)
theorem kw_782 : Cond.static ky_Machine_isBelow ∈ xx_tb := xx_in (List.mem_append_right _ (List.mem_of_getElem? (i := 782) (by decide +kernel))) (by decide +kernel)
theorem zd_Machine_compares_0 : decode kb_Machine_compares 0 = .ok (.iload_n 0, 1) := by decide +kernel
theorem zd_Machine_compares_1 : decode kb_Machine_compares 1 = .ok (.iconst 1, 1) := by decide +kernel
theorem zd_Machine_compares_2 : decode kb_Machine_compares 2 = .ok (.ishr, 1) := by decide +kernel
theorem zd_Machine_compares_3 : decode kb_Machine_compares 3 = .ok (.lookupswitch (47) #[(0, 25), (2, 36)], 25) := by decide +kernel
theorem zd_Machine_compares_28 : decode kb_Machine_compares 28 = .ok (.iload_n 1, 1) := by decide +kernel
theorem zd_Machine_compares_29 : decode kb_Machine_compares 29 = .ok (.iload_n 2, 1) := by decide +kernel
theorem zd_Machine_compares_30 : decode kb_Machine_compares 30 = .ok (.if_icmp .ne (7), 3) := by decide +kernel
theorem zd_Machine_compares_33 : decode kb_Machine_compares 33 = .ok (.iconst 1, 1) := by decide +kernel
theorem zd_Machine_compares_34 : decode kb_Machine_compares 34 = .ok (.goto (4), 3) := by decide +kernel
theorem zd_Machine_compares_37 : decode kb_Machine_compares 37 = .ok (.iconst 0, 1) := by decide +kernel
theorem zd_Machine_compares_38 : decode kb_Machine_compares 38 = .ok (.ireturn, 1) := by decide +kernel
theorem zd_Machine_compares_39 : decode kb_Machine_compares 39 = .ok (.iload_n 1, 1) := by decide +kernel
theorem zd_Machine_compares_40 : decode kb_Machine_compares 40 = .ok (.iload_n 2, 1) := by decide +kernel
theorem zd_Machine_compares_41 : decode kb_Machine_compares 41 = .ok (.if_icmp .ge (7), 3) := by decide +kernel
theorem zd_Machine_compares_44 : decode kb_Machine_compares 44 = .ok (.iconst 1, 1) := by decide +kernel
theorem zd_Machine_compares_45 : decode kb_Machine_compares 45 = .ok (.goto (4), 3) := by decide +kernel
theorem zd_Machine_compares_48 : decode kb_Machine_compares 48 = .ok (.iconst 0, 1) := by decide +kernel
theorem zd_Machine_compares_49 : decode kb_Machine_compares 49 = .ok (.ireturn, 1) := by decide +kernel
theorem zd_Machine_compares_50 : decode kb_Machine_compares 50 = .ok (.iload_n 1, 1) := by decide +kernel
theorem zd_Machine_compares_51 : decode kb_Machine_compares 51 = .ok (.iload_n 2, 1) := by decide +kernel
theorem zd_Machine_compares_52 : decode kb_Machine_compares 52 = .ok (.invokestatic 89, 3) := by decide +kernel
theorem zd_Machine_compares_55 : decode kb_Machine_compares 55 = .ok (.ireturn, 1) := by decide +kernel
def zf_Machine_compares_b38 (u : zz_S) (y0 : Int32) : Option (Int32 × zz_S) := some (vp_nar .boolean y0, u)
def zf_Machine_compares_b49 (u : zz_S) (y0 : Int32) : Option (Int32 × zz_S) := some (vp_nar .boolean y0, u)
def zf_Machine_compares (u : zz_S) (x0 : Int32) (x1 : Int32) (x2 : Int32) : Option (Int32 × zz_S) := xx_nm (x0 >>> ((1 : Int32) &&& 31)) fun v1 => if v1 = 0 then (if x1 = x2 then (zf_Machine_compares_b38 u (1 : Int32)) else (zf_Machine_compares_b38 u (0 : Int32))) else (if v1 = 2 then (if x2 ≤ x1 then (zf_Machine_compares_b49 u (0 : Int32)) else (zf_Machine_compares_b49 u (1 : Int32))) else (xx_b2 (zf_Machine_isBelow u x1 x2) fun v3 u2 => some (vp_nar .boolean v3, u2)))
set_option maxHeartbeats 4000000 in
set_option maxRecDepth 100000 in
theorem zw_Machine_compares_b38 {p : Program} {l : Launch} {e : Env} {s : State} {m : MethodId} {args : Array Value} {below : List Frame} {meth : Method} {c : Code} {A : Nat → Prop} {g : xx_G} {r : Int32} {u9 : zz_S} (C : xx_C p s m args meth c kb_Machine_compares 3 kr_Machine (some .boolean)) (hA : ∀ q, s.heap.size ≤ q → A q) (hK : va_K g.1 xx_cls (zz_T g) s) : ∀ (u : zz_S) (y0 : Int32) (H : Heap) (locs : List Loc) (ls : Array Slot), zf_Machine_compares_b38 u y0 = some (r, u9) → lv_has ls 3 [] → va_P g.1 xx_cls (zz_W g u) H → va_D A (zz_W g u) → va_S A s.heap H locs → W p l e (xx_rm 1 21) s m args below meth c H locs 0 0 (MQ below (xx_Q g.1 (zz_T g) (zz_W g) (some (.int r)) u9 A) args s 0 0 A) (F0 m 38 ls [.int y0]) := by
  have hx := C.1
  have hb := C.2.1
  have hown := C.2.2.2.1
  have hts := C.2.2.2.2.1
  intro u y0 H locs ls hF hl hP hD hS
  unfold zf_Machine_compares_b38 at hF
  exact xx_zret C hF hK hP hD hS zd_Machine_compares_38
set_option maxHeartbeats 4000000 in
set_option maxRecDepth 100000 in
theorem zw_Machine_compares_b49 {p : Program} {l : Launch} {e : Env} {s : State} {m : MethodId} {args : Array Value} {below : List Frame} {meth : Method} {c : Code} {A : Nat → Prop} {g : xx_G} {r : Int32} {u9 : zz_S} (C : xx_C p s m args meth c kb_Machine_compares 3 kr_Machine (some .boolean)) (hA : ∀ q, s.heap.size ≤ q → A q) (hK : va_K g.1 xx_cls (zz_T g) s) : ∀ (u : zz_S) (y0 : Int32) (H : Heap) (locs : List Loc) (ls : Array Slot), zf_Machine_compares_b49 u y0 = some (r, u9) → lv_has ls 3 [] → va_P g.1 xx_cls (zz_W g u) H → va_D A (zz_W g u) → va_S A s.heap H locs → W p l e (xx_rm 1 21) s m args below meth c H locs 0 0 (MQ below (xx_Q g.1 (zz_T g) (zz_W g) (some (.int r)) u9 A) args s 0 0 A) (F0 m 49 ls [.int y0]) := by
  have hx := C.1
  have hb := C.2.1
  have hown := C.2.2.2.1
  have hts := C.2.2.2.2.1
  intro u y0 H locs ls hF hl hP hD hS
  unfold zf_Machine_compares_b49 at hF
  exact xx_zret C hF hK hP hD hS zd_Machine_compares_49
set_option maxHeartbeats 4000000 in
set_option maxRecDepth 100000 in
theorem zc_Machine_compares (l : Launch) (g : xx_G) (u : zz_S) (x0 : Int32) (x1 : Int32) (x2 : Int32) (r : Int32) (u9 : zz_S) (hF : zf_Machine_compares u x0 x1 x2 = some (r, u9)) : xx_M l g.1 (zz_T g) (zz_W g) ky_Machine_compares kb_Machine_compares 3 (some .boolean) (xx_rm 1 21) [.int x0, .int x1, .int x2] u (some (.int r)) u9 := by
  refine xx_body (by decide) (Nat.le_of_ble_eq_true rfl) ?_
  intro p e s m args below meth c A ls C hin hK hl hA hP hD hS
  have hx := C.1
  have hb := C.2.1
  have hown := C.2.2.2.1
  have hts := C.2.2.2.2.1
  have hl : lv_has ls 3 [(0, .int x0), (1, .int x1), (2, .int x2)] := hl
  unfold zf_Machine_compares at hF
  refine lv_iload_n hx hb zd_Machine_compares_0 rfl (lv_at hl 0 rfl) ?_
  refine lv_iconst (v := (1 : Int32)) hx hb zd_Machine_compares_1 (by decide) ?_
  refine lv_ishr hx hb zd_Machine_compares_2 ?_
  obtain ⟨v1, ev1, hF⟩ := xx_nm_some hF
  refine xx_topi ev1 ?_
  by_cases hs0 : v1 = (0 : Int32)
  · have hF := xx_ip hs0 hF
    refine lv_lookup (off := 25) (tgt := 28) hx hb zd_Machine_compares_3 (by decide) (by rw [hs0]; decide) (by decide) ?_
    refine lv_iload_n hx hb zd_Machine_compares_28 rfl (lv_at hl 1 rfl) ?_
    refine lv_iload_n hx hb zd_Machine_compares_29 rfl (lv_at hl 2 rfl) ?_
    refine lv_icmp_ne (tgt := 37) hx hb zd_Machine_compares_30 (by decide) (fun hc => ?_) (fun hc => ?_)
    · have hF := xx_in' hc hF
      refine lv_iconst (v := (0 : Int32)) hx hb zd_Machine_compares_37 (by decide) ?_
      exact zw_Machine_compares_b38 C hA hK  u (0 : Int32) _ _ _ hF (lv_sub hl [] rfl) hP hD hS
    · have hF := xx_ip hc hF
      refine lv_iconst (v := (1 : Int32)) hx hb zd_Machine_compares_33 (by decide) ?_
      refine lv_goto (tgt := 38) hx hb zd_Machine_compares_34 (by decide) ?_
      exact zw_Machine_compares_b38 C hA hK  u (1 : Int32) _ _ _ hF (lv_sub hl [] rfl) hP hD hS
  · have hF := xx_in' hs0 hF
    by_cases hs1 : v1 = (2 : Int32)
    · have hF := xx_ip hs1 hF
      refine lv_lookup (off := 36) (tgt := 39) hx hb zd_Machine_compares_3 (by decide) (by rw [hs1]; decide) (by decide) ?_
      refine lv_iload_n hx hb zd_Machine_compares_39 rfl (lv_at hl 1 rfl) ?_
      refine lv_iload_n hx hb zd_Machine_compares_40 rfl (lv_at hl 2 rfl) ?_
      refine lv_icmp_ge (tgt := 48) hx hb zd_Machine_compares_41 (by decide) (fun hc => ?_) (fun hc => ?_)
      · have hF := xx_ip hc hF
        refine lv_iconst (v := (0 : Int32)) hx hb zd_Machine_compares_48 (by decide) ?_
        exact zw_Machine_compares_b49 C hA hK  u (0 : Int32) _ _ _ hF (lv_sub hl [] rfl) hP hD hS
      · have hF := xx_in' hc hF
        refine lv_iconst (v := (1 : Int32)) hx hb zd_Machine_compares_44 (by decide) ?_
        refine lv_goto (tgt := 49) hx hb zd_Machine_compares_45 (by decide) ?_
        exact zw_Machine_compares_b49 C hA hK  u (1 : Int32) _ _ _ hF (lv_sub hl [] rfl) hP hD hS
    · have hF := xx_in' hs1 hF
      refine lv_lookup (off := 47) (tgt := 50) hx hb zd_Machine_compares_3 (by decide) (by show Op.lookupswitch.offset [(0, 25), (2, 36)] (47) _ = _; rw [lv_osw hs0 (by decide), lv_osw hs1 (by decide)]; rfl) (by decide) ?_
      refine lv_iload_n hx hb zd_Machine_compares_50 rfl (lv_at hl 1 rfl) ?_
      refine lv_iload_n hx hb zd_Machine_compares_51 rfl (lv_at hl 2 rfl) ?_
      obtain ⟨v3, u2, eu2, hF⟩ := xx_b2_some hF
      refine xx_callS (n := 2) (As := [.int x1, .int x2]) (rest := []) C (zc_Machine_isBelow l g u x1 x2 v3 u2 eu2) ⟨kw_783, kw_781, kw_782, kw_3⟩ ⟨by decide +kernel, by decide +kernel, by decide +kernel⟩ rfl ⟨Nat.le_of_ble_eq_true rfl, Nat.le_of_ble_eq_true rfl⟩ hl.1 rfl (Nat.le_of_ble_eq_true rfl) hA hK hP hD hS ⟨Nat.le_refl _, Nat.le_refl _⟩ rfl rfl rfl zd_Machine_compares_52 (fun H locs hP hD hS => ?_)
      exact xx_zret C hF hK hP hD hS zd_Machine_compares_55
theorem kw_54 : Cond.fieldLink "ModuleLoader$Machine" 7 "ModuleLoader$Machine" "memory" "LModuleLoader$Memory;" ∈ xx_tb := xx_in (List.mem_append_right _ (List.mem_of_getElem? (i := 54) (by decide +kernel))) (by decide +kernel)
set_option maxRecDepth 100000 in
theorem kw_223 : Cond.code ky_Memory_holds kb_Memory_holds 2 (some .boolean) ∈ xx_tb := xx_in (List.mem_append_right _ (List.mem_of_getElem? (i := 223) (by rfl))) (by decide +kernel)
theorem kw_749 : Cond.methodLink "ModuleLoader$Machine" 39 ky_Memory_holds ∈ xx_tb := xx_in (List.mem_append_right _ (List.mem_of_getElem? (i := 749) (by decide +kernel))) (by decide +kernel)
theorem kw_221 : Cond.instanceMethod ky_Memory_holds ∈ xx_tb := xx_in (List.mem_append_right _ (List.mem_of_getElem? (i := 221) (by decide +kernel))) (by decide +kernel)
theorem kw_222 : Cond.selects "ModuleLoader$Memory" ky_Memory_holds ky_Memory_holds ∈ xx_tb := xx_in (List.mem_append_right _ (List.mem_of_getElem? (i := 222) (by decide +kernel))) (by decide +kernel)
theorem kw_2 : Cond.initialized "ModuleLoader$Memory" ∈ xx_tb := xx_in (List.mem_append_right _ (List.mem_of_getElem? (i := 2) (by decide +kernel))) (by decide +kernel)
theorem zd_Machine_trapOfAccess_0 : decode kb_Machine_trapOfAccess 0 = .ok (.iload_n 1, 1) := by decide +kernel
theorem zd_Machine_trapOfAccess_1 : decode kb_Machine_trapOfAccess 1 = .ok (.iload_n 2, 1) := by decide +kernel
theorem zd_Machine_trapOfAccess_2 : decode kb_Machine_trapOfAccess 2 = .ok (.iconst 1, 1) := by decide +kernel
theorem zd_Machine_trapOfAccess_3 : decode kb_Machine_trapOfAccess 3 = .ok (.isub, 1) := by decide +kernel
theorem zd_Machine_trapOfAccess_4 : decode kb_Machine_trapOfAccess 4 = .ok (.iand, 1) := by decide +kernel
theorem zd_Machine_trapOfAccess_5 : decode kb_Machine_trapOfAccess 5 = .ok (.ifCond .eq (5), 3) := by decide +kernel
theorem zd_Machine_trapOfAccess_8 : decode kb_Machine_trapOfAccess 8 = .ok (.iconst 4, 1) := by decide +kernel
theorem zd_Machine_trapOfAccess_9 : decode kb_Machine_trapOfAccess 9 = .ok (.ireturn, 1) := by decide +kernel
theorem zd_Machine_trapOfAccess_10 : decode kb_Machine_trapOfAccess 10 = .ok (.aload_n 0, 1) := by decide +kernel
theorem zd_Machine_trapOfAccess_11 : decode kb_Machine_trapOfAccess 11 = .ok (.getfield 7, 3) := by decide +kernel
theorem zd_Machine_trapOfAccess_14 : decode kb_Machine_trapOfAccess 14 = .ok (.iload_n 1, 1) := by decide +kernel
theorem zd_Machine_trapOfAccess_15 : decode kb_Machine_trapOfAccess 15 = .ok (.invokevirtual 39, 3) := by decide +kernel
theorem zd_Machine_trapOfAccess_18 : decode kb_Machine_trapOfAccess 18 = .ok (.ifCond .eq (7), 3) := by decide +kernel
theorem zd_Machine_trapOfAccess_21 : decode kb_Machine_trapOfAccess 21 = .ok (.iconst 0, 1) := by decide +kernel
theorem zd_Machine_trapOfAccess_22 : decode kb_Machine_trapOfAccess 22 = .ok (.goto (4), 3) := by decide +kernel
theorem zd_Machine_trapOfAccess_25 : decode kb_Machine_trapOfAccess 25 = .ok (.iconst 5, 1) := by decide +kernel
theorem zd_Machine_trapOfAccess_26 : decode kb_Machine_trapOfAccess 26 = .ok (.ireturn, 1) := by decide +kernel
def zf_Machine_trapOfAccess_b26 (u : zz_S) (y0 : Int32) : Option (Int32 × zz_S) := some (y0, u)
def zf_Machine_trapOfAccess (u : zz_S) (x1 : Int32) (x2 : Int32) : Option (Int32 × zz_S) := if (x1 &&& (x2 - (1 : Int32))) = 0 then (xx_b2 (zf_Memory_holds u x1) fun v2 u1 => if v2 = 0 then (zf_Machine_trapOfAccess_b26 u1 (5 : Int32)) else (zf_Machine_trapOfAccess_b26 u1 (0 : Int32))) else (some ((4 : Int32), u))
set_option maxHeartbeats 4000000 in
set_option maxRecDepth 100000 in
theorem zw_Machine_trapOfAccess_b26 {p : Program} {l : Launch} {e : Env} {s : State} {m : MethodId} {args : Array Value} {below : List Frame} {meth : Method} {c : Code} {A : Nat → Prop} {g : xx_G} {r : Int32} {u9 : zz_S} (C : xx_C p s m args meth c kb_Machine_trapOfAccess 3 kr_Machine (some .int)) (hA : ∀ q, s.heap.size ≤ q → A q) (hK : va_K g.1 xx_cls (zz_T g) s) : ∀ (u : zz_S) (y0 : Int32) (H : Heap) (locs : List Loc) (ls : Array Slot), zf_Machine_trapOfAccess_b26 u y0 = some (r, u9) → lv_has ls 3 [] → va_P g.1 xx_cls (zz_W g u) H → va_D A (zz_W g u) → va_S A s.heap H locs → W p l e (xx_rm 1 21) s m args below meth c H locs 0 0 (MQ below (xx_Q g.1 (zz_T g) (zz_W g) (some (.int r)) u9 A) args s 0 0 A) (F0 m 26 ls [.int y0]) := by
  have hx := C.1
  have hb := C.2.1
  have hown := C.2.2.2.1
  have hts := C.2.2.2.2.1
  intro u y0 H locs ls hF hl hP hD hS
  unfold zf_Machine_trapOfAccess_b26 at hF
  exact xx_iret C hF hK hP hD hS zd_Machine_trapOfAccess_26
set_option maxHeartbeats 4000000 in
set_option maxRecDepth 100000 in
theorem zc_Machine_trapOfAccess (l : Launch) (g : xx_G) (u : zz_S) (x1 : Int32) (x2 : Int32) (r : Int32) (u9 : zz_S) (hF : zf_Machine_trapOfAccess u x1 x2 = some (r, u9)) : xx_M l g.1 (zz_T g) (zz_W g) ky_Machine_trapOfAccess kb_Machine_trapOfAccess 3 (some .int) (xx_rm 1 21) [.ref (g.2.1 4), .int x1, .int x2] u (some (.int r)) u9 := by
  refine xx_body (by decide) (Nat.le_of_ble_eq_true rfl) ?_
  intro p e s m args below meth c A ls C hin hK hl hA hP hD hS
  have hx := C.1
  have hb := C.2.1
  have hown := C.2.2.2.1
  have hts := C.2.2.2.2.1
  have hl : lv_has ls 3 [(0, .ref (g.2.1 4)), (1, .int x1), (2, .int x2)] := hl
  unfold zf_Machine_trapOfAccess at hF
  refine lv_iload_n hx hb zd_Machine_trapOfAccess_0 rfl (lv_at hl 1 rfl) ?_
  refine lv_iload_n hx hb zd_Machine_trapOfAccess_1 rfl (lv_at hl 2 rfl) ?_
  refine lv_iconst (v := (1 : Int32)) hx hb zd_Machine_trapOfAccess_2 (by decide) ?_
  refine lv_isub hx hb zd_Machine_trapOfAccess_3 ?_
  refine lv_iand hx hb zd_Machine_trapOfAccess_4 ?_
  refine lv_if_eq (tgt := 10) hx hb zd_Machine_trapOfAccess_5 (by decide) (fun hc => ?_) (fun hc => ?_)
  · have hF := xx_ip hc hF
    refine lv_aload_n hx hb zd_Machine_trapOfAccess_10 rfl (lv_at hl 0 rfl) ?_
    refine xx_get C ki_Machine hK hP 4 rfl rfl 2 (by decide) kw_54 rfl rfl zd_Machine_trapOfAccess_11 ?_
    refine lv_iload_n hx hb zd_Machine_trapOfAccess_14 rfl (lv_at hl 1 rfl) ?_
    obtain ⟨v2, u1, eu1, hF⟩ := xx_b2_some hF
    refine xx_callV (n := 1) (As := [.int x1]) (rest := []) C (zc_Memory_holds l g u x1 v2 u1 eu1) ⟨kw_223, kw_749, kw_221, kw_222, kw_2⟩ ⟨by decide +kernel, by decide +kernel, by decide +kernel⟩ rfl ⟨Nat.le_of_ble_eq_true rfl, Nat.le_of_ble_eq_true rfl⟩ 1 rfl rfl hl.1 rfl (Nat.le_of_ble_eq_true rfl) hA hK hP hD hS ⟨Nat.le_refl _, Nat.le_refl _⟩ rfl rfl rfl zd_Machine_trapOfAccess_15 (fun H locs hP hD hS => ?_)
    refine lv_if_eq (tgt := 25) hx hb zd_Machine_trapOfAccess_18 (by decide) (fun hc => ?_) (fun hc => ?_)
    · have hF := xx_ip hc hF
      refine lv_iconst (v := (5 : Int32)) hx hb zd_Machine_trapOfAccess_25 (by decide) ?_
      exact zw_Machine_trapOfAccess_b26 C hA hK  u1 (5 : Int32) _ _ _ hF (lv_sub hl [] rfl) hP hD hS
    · have hF := xx_in' hc hF
      refine lv_iconst (v := (0 : Int32)) hx hb zd_Machine_trapOfAccess_21 (by decide) ?_
      refine lv_goto (tgt := 26) hx hb zd_Machine_trapOfAccess_22 (by decide) ?_
      exact zw_Machine_trapOfAccess_b26 C hA hK  u1 (0 : Int32) _ _ _ hF (lv_sub hl [] rfl) hP hD hS
  · have hF := xx_in' hc hF
    refine lv_iconst (v := (4 : Int32)) hx hb zd_Machine_trapOfAccess_8 (by decide) ?_
    exact xx_iret C hF hK hP hD hS zd_Machine_trapOfAccess_9
theorem zd_Machine_computed_0 : decode kb_Machine_computed 0 = .ok (.iload_n 0, 1) := by decide +kernel
theorem zd_Machine_computed_1 : decode kb_Machine_computed 1 = .ok (.tableswitch (117) (0) (6) #[43, 57, 64, 75, 89, 93, 113], 43) := by decide +kernel
theorem zd_Machine_computed_44 : decode kb_Machine_computed 44 = .ok (.iload_n 1, 1) := by decide +kernel
theorem zd_Machine_computed_45 : decode kb_Machine_computed 45 = .ok (.ifCond .eq (9), 3) := by decide +kernel
theorem zd_Machine_computed_48 : decode kb_Machine_computed 48 = .ok (.iload_n 2, 1) := by decide +kernel
theorem zd_Machine_computed_49 : decode kb_Machine_computed 49 = .ok (.iload_n 3, 1) := by decide +kernel
theorem zd_Machine_computed_50 : decode kb_Machine_computed 50 = .ok (.isub, 1) := by decide +kernel
theorem zd_Machine_computed_51 : decode kb_Machine_computed 51 = .ok (.goto (6), 3) := by decide +kernel
theorem zd_Machine_computed_54 : decode kb_Machine_computed 54 = .ok (.iload_n 2, 1) := by decide +kernel
theorem zd_Machine_computed_55 : decode kb_Machine_computed 55 = .ok (.iload_n 3, 1) := by decide +kernel
theorem zd_Machine_computed_56 : decode kb_Machine_computed 56 = .ok (.iadd, 1) := by decide +kernel
theorem zd_Machine_computed_57 : decode kb_Machine_computed 57 = .ok (.ireturn, 1) := by decide +kernel
theorem zd_Machine_computed_58 : decode kb_Machine_computed 58 = .ok (.iload_n 2, 1) := by decide +kernel
theorem zd_Machine_computed_59 : decode kb_Machine_computed 59 = .ok (.iload_n 3, 1) := by decide +kernel
theorem zd_Machine_computed_60 : decode kb_Machine_computed 60 = .ok (.bipush (31), 2) := by decide +kernel
theorem zd_Machine_computed_62 : decode kb_Machine_computed 62 = .ok (.iand, 1) := by decide +kernel
theorem zd_Machine_computed_63 : decode kb_Machine_computed 63 = .ok (.ishl, 1) := by decide +kernel
theorem zd_Machine_computed_64 : decode kb_Machine_computed 64 = .ok (.ireturn, 1) := by decide +kernel
theorem zd_Machine_computed_65 : decode kb_Machine_computed 65 = .ok (.iload_n 2, 1) := by decide +kernel
theorem zd_Machine_computed_66 : decode kb_Machine_computed 66 = .ok (.iload_n 3, 1) := by decide +kernel
theorem zd_Machine_computed_67 : decode kb_Machine_computed 67 = .ok (.if_icmp .ge (7), 3) := by decide +kernel
theorem zd_Machine_computed_70 : decode kb_Machine_computed 70 = .ok (.iconst 1, 1) := by decide +kernel
theorem zd_Machine_computed_71 : decode kb_Machine_computed 71 = .ok (.goto (4), 3) := by decide +kernel
theorem zd_Machine_computed_74 : decode kb_Machine_computed 74 = .ok (.iconst 0, 1) := by decide +kernel
theorem zd_Machine_computed_75 : decode kb_Machine_computed 75 = .ok (.ireturn, 1) := by decide +kernel
theorem zd_Machine_computed_76 : decode kb_Machine_computed 76 = .ok (.iload_n 2, 1) := by decide +kernel
theorem zd_Machine_computed_77 : decode kb_Machine_computed 77 = .ok (.iload_n 3, 1) := by decide +kernel
theorem zd_Machine_computed_78 : decode kb_Machine_computed 78 = .ok (.invokestatic 89, 3) := by decide +kernel
theorem zd_Machine_computed_81 : decode kb_Machine_computed 81 = .ok (.ifCond .eq (7), 3) := by decide +kernel
theorem zd_Machine_computed_84 : decode kb_Machine_computed 84 = .ok (.iconst 1, 1) := by decide +kernel
theorem zd_Machine_computed_85 : decode kb_Machine_computed 85 = .ok (.goto (4), 3) := by decide +kernel
theorem zd_Machine_computed_88 : decode kb_Machine_computed 88 = .ok (.iconst 0, 1) := by decide +kernel
theorem zd_Machine_computed_89 : decode kb_Machine_computed 89 = .ok (.ireturn, 1) := by decide +kernel
theorem zd_Machine_computed_90 : decode kb_Machine_computed 90 = .ok (.iload_n 2, 1) := by decide +kernel
theorem zd_Machine_computed_91 : decode kb_Machine_computed 91 = .ok (.iload_n 3, 1) := by decide +kernel
theorem zd_Machine_computed_92 : decode kb_Machine_computed 92 = .ok (.ixor, 1) := by decide +kernel
theorem zd_Machine_computed_93 : decode kb_Machine_computed 93 = .ok (.ireturn, 1) := by decide +kernel
theorem zd_Machine_computed_94 : decode kb_Machine_computed 94 = .ok (.iload_n 1, 1) := by decide +kernel
theorem zd_Machine_computed_95 : decode kb_Machine_computed 95 = .ok (.ifCond .eq (12), 3) := by decide +kernel
theorem zd_Machine_computed_98 : decode kb_Machine_computed 98 = .ok (.iload_n 2, 1) := by decide +kernel
theorem zd_Machine_computed_99 : decode kb_Machine_computed 99 = .ok (.iload_n 3, 1) := by decide +kernel
theorem zd_Machine_computed_100 : decode kb_Machine_computed 100 = .ok (.bipush (31), 2) := by decide +kernel
theorem zd_Machine_computed_102 : decode kb_Machine_computed 102 = .ok (.iand, 1) := by decide +kernel
theorem zd_Machine_computed_103 : decode kb_Machine_computed 103 = .ok (.ishr, 1) := by decide +kernel
theorem zd_Machine_computed_104 : decode kb_Machine_computed 104 = .ok (.goto (9), 3) := by decide +kernel
theorem zd_Machine_computed_107 : decode kb_Machine_computed 107 = .ok (.iload_n 2, 1) := by decide +kernel
theorem zd_Machine_computed_108 : decode kb_Machine_computed 108 = .ok (.iload_n 3, 1) := by decide +kernel
theorem zd_Machine_computed_109 : decode kb_Machine_computed 109 = .ok (.bipush (31), 2) := by decide +kernel
theorem zd_Machine_computed_111 : decode kb_Machine_computed 111 = .ok (.iand, 1) := by decide +kernel
theorem zd_Machine_computed_112 : decode kb_Machine_computed 112 = .ok (.iushr, 1) := by decide +kernel
theorem zd_Machine_computed_113 : decode kb_Machine_computed 113 = .ok (.ireturn, 1) := by decide +kernel
theorem zd_Machine_computed_114 : decode kb_Machine_computed 114 = .ok (.iload_n 2, 1) := by decide +kernel
theorem zd_Machine_computed_115 : decode kb_Machine_computed 115 = .ok (.iload_n 3, 1) := by decide +kernel
theorem zd_Machine_computed_116 : decode kb_Machine_computed 116 = .ok (.ior, 1) := by decide +kernel
theorem zd_Machine_computed_117 : decode kb_Machine_computed 117 = .ok (.ireturn, 1) := by decide +kernel
theorem zd_Machine_computed_118 : decode kb_Machine_computed 118 = .ok (.iload_n 2, 1) := by decide +kernel
theorem zd_Machine_computed_119 : decode kb_Machine_computed 119 = .ok (.iload_n 3, 1) := by decide +kernel
theorem zd_Machine_computed_120 : decode kb_Machine_computed 120 = .ok (.iand, 1) := by decide +kernel
theorem zd_Machine_computed_121 : decode kb_Machine_computed 121 = .ok (.ireturn, 1) := by decide +kernel
def zf_Machine_computed_b57 (u : zz_S) (y0 : Int32) : Option (Int32 × zz_S) := some (y0, u)
def zf_Machine_computed_b75 (u : zz_S) (y0 : Int32) : Option (Int32 × zz_S) := some (y0, u)
def zf_Machine_computed_b89 (u : zz_S) (y0 : Int32) : Option (Int32 × zz_S) := some (y0, u)
def zf_Machine_computed_b113 (u : zz_S) (y0 : Int32) : Option (Int32 × zz_S) := some (y0, u)
def zf_Machine_computed (u : zz_S) (x0 : Int32) (x1 : Int32) (x2 : Int32) (x3 : Int32) : Option (Int32 × zz_S) := if x0 = 0 then (if x1 = 0 then (zf_Machine_computed_b57 u (x2 + x3)) else (zf_Machine_computed_b57 u (x2 - x3))) else (if x0 = 1 then (some ((x2 <<< ((x3 &&& (31 : Int32)) &&& 31)), u)) else (if x0 = 2 then (if x3 ≤ x2 then (zf_Machine_computed_b75 u (0 : Int32)) else (zf_Machine_computed_b75 u (1 : Int32))) else (if x0 = 3 then (xx_b2 (zf_Machine_isBelow u x2 x3) fun v2 u1 => if v2 = 0 then (zf_Machine_computed_b89 u1 (0 : Int32)) else (zf_Machine_computed_b89 u1 (1 : Int32))) else (if x0 = 4 then (some ((x2 ^^^ x3), u)) else (if x0 = 5 then (if x1 = 0 then (zf_Machine_computed_b113 u (xx_ush x2 (x3 &&& (31 : Int32)))) else (zf_Machine_computed_b113 u (x2 >>> ((x3 &&& (31 : Int32)) &&& 31)))) else (if x0 = 6 then (some ((x2 ||| x3), u)) else (some ((x2 &&& x3), u))))))))
set_option maxHeartbeats 4000000 in
set_option maxRecDepth 100000 in
theorem zw_Machine_computed_b57 {p : Program} {l : Launch} {e : Env} {s : State} {m : MethodId} {args : Array Value} {below : List Frame} {meth : Method} {c : Code} {A : Nat → Prop} {g : xx_G} {r : Int32} {u9 : zz_S} (C : xx_C p s m args meth c kb_Machine_computed 4 kr_Machine (some .int)) (hA : ∀ q, s.heap.size ≤ q → A q) (hK : va_K g.1 xx_cls (zz_T g) s) : ∀ (u : zz_S) (y0 : Int32) (H : Heap) (locs : List Loc) (ls : Array Slot), zf_Machine_computed_b57 u y0 = some (r, u9) → lv_has ls 4 [] → va_P g.1 xx_cls (zz_W g u) H → va_D A (zz_W g u) → va_S A s.heap H locs → W p l e (xx_rm 1 21) s m args below meth c H locs 0 0 (MQ below (xx_Q g.1 (zz_T g) (zz_W g) (some (.int r)) u9 A) args s 0 0 A) (F0 m 57 ls [.int y0]) := by
  have hx := C.1
  have hb := C.2.1
  have hown := C.2.2.2.1
  have hts := C.2.2.2.2.1
  intro u y0 H locs ls hF hl hP hD hS
  unfold zf_Machine_computed_b57 at hF
  exact xx_iret C hF hK hP hD hS zd_Machine_computed_57
set_option maxHeartbeats 4000000 in
set_option maxRecDepth 100000 in
theorem zw_Machine_computed_b75 {p : Program} {l : Launch} {e : Env} {s : State} {m : MethodId} {args : Array Value} {below : List Frame} {meth : Method} {c : Code} {A : Nat → Prop} {g : xx_G} {r : Int32} {u9 : zz_S} (C : xx_C p s m args meth c kb_Machine_computed 4 kr_Machine (some .int)) (hA : ∀ q, s.heap.size ≤ q → A q) (hK : va_K g.1 xx_cls (zz_T g) s) : ∀ (u : zz_S) (y0 : Int32) (H : Heap) (locs : List Loc) (ls : Array Slot), zf_Machine_computed_b75 u y0 = some (r, u9) → lv_has ls 4 [] → va_P g.1 xx_cls (zz_W g u) H → va_D A (zz_W g u) → va_S A s.heap H locs → W p l e (xx_rm 1 21) s m args below meth c H locs 0 0 (MQ below (xx_Q g.1 (zz_T g) (zz_W g) (some (.int r)) u9 A) args s 0 0 A) (F0 m 75 ls [.int y0]) := by
  have hx := C.1
  have hb := C.2.1
  have hown := C.2.2.2.1
  have hts := C.2.2.2.2.1
  intro u y0 H locs ls hF hl hP hD hS
  unfold zf_Machine_computed_b75 at hF
  exact xx_iret C hF hK hP hD hS zd_Machine_computed_75
set_option maxHeartbeats 4000000 in
set_option maxRecDepth 100000 in
theorem zw_Machine_computed_b89 {p : Program} {l : Launch} {e : Env} {s : State} {m : MethodId} {args : Array Value} {below : List Frame} {meth : Method} {c : Code} {A : Nat → Prop} {g : xx_G} {r : Int32} {u9 : zz_S} (C : xx_C p s m args meth c kb_Machine_computed 4 kr_Machine (some .int)) (hA : ∀ q, s.heap.size ≤ q → A q) (hK : va_K g.1 xx_cls (zz_T g) s) : ∀ (u : zz_S) (y0 : Int32) (H : Heap) (locs : List Loc) (ls : Array Slot), zf_Machine_computed_b89 u y0 = some (r, u9) → lv_has ls 4 [] → va_P g.1 xx_cls (zz_W g u) H → va_D A (zz_W g u) → va_S A s.heap H locs → W p l e (xx_rm 1 21) s m args below meth c H locs 0 0 (MQ below (xx_Q g.1 (zz_T g) (zz_W g) (some (.int r)) u9 A) args s 0 0 A) (F0 m 89 ls [.int y0]) := by
  have hx := C.1
  have hb := C.2.1
  have hown := C.2.2.2.1
  have hts := C.2.2.2.2.1
  intro u y0 H locs ls hF hl hP hD hS
  unfold zf_Machine_computed_b89 at hF
  exact xx_iret C hF hK hP hD hS zd_Machine_computed_89
set_option maxHeartbeats 4000000 in
set_option maxRecDepth 100000 in
theorem zw_Machine_computed_b113 {p : Program} {l : Launch} {e : Env} {s : State} {m : MethodId} {args : Array Value} {below : List Frame} {meth : Method} {c : Code} {A : Nat → Prop} {g : xx_G} {r : Int32} {u9 : zz_S} (C : xx_C p s m args meth c kb_Machine_computed 4 kr_Machine (some .int)) (hA : ∀ q, s.heap.size ≤ q → A q) (hK : va_K g.1 xx_cls (zz_T g) s) : ∀ (u : zz_S) (y0 : Int32) (H : Heap) (locs : List Loc) (ls : Array Slot), zf_Machine_computed_b113 u y0 = some (r, u9) → lv_has ls 4 [] → va_P g.1 xx_cls (zz_W g u) H → va_D A (zz_W g u) → va_S A s.heap H locs → W p l e (xx_rm 1 21) s m args below meth c H locs 0 0 (MQ below (xx_Q g.1 (zz_T g) (zz_W g) (some (.int r)) u9 A) args s 0 0 A) (F0 m 113 ls [.int y0]) := by
  have hx := C.1
  have hb := C.2.1
  have hown := C.2.2.2.1
  have hts := C.2.2.2.2.1
  intro u y0 H locs ls hF hl hP hD hS
  unfold zf_Machine_computed_b113 at hF
  exact xx_iret C hF hK hP hD hS zd_Machine_computed_113
set_option maxHeartbeats 4000000 in
set_option maxRecDepth 100000 in
theorem zc_Machine_computed (l : Launch) (g : xx_G) (u : zz_S) (x0 : Int32) (x1 : Int32) (x2 : Int32) (x3 : Int32) (r : Int32) (u9 : zz_S) (hF : zf_Machine_computed u x0 x1 x2 x3 = some (r, u9)) : xx_M l g.1 (zz_T g) (zz_W g) ky_Machine_computed kb_Machine_computed 4 (some .int) (xx_rm 1 21) [.int x0, .int x1, .int x2, .int x3] u (some (.int r)) u9 := by
  refine xx_body (by decide) (Nat.le_of_ble_eq_true rfl) ?_
  intro p e s m args below meth c A ls C hin hK hl hA hP hD hS
  have hx := C.1
  have hb := C.2.1
  have hown := C.2.2.2.1
  have hts := C.2.2.2.2.1
  have hl : lv_has ls 4 [(0, .int x0), (1, .int x1), (2, .int x2), (3, .int x3)] := hl
  unfold zf_Machine_computed at hF
  refine lv_iload_n hx hb zd_Machine_computed_0 rfl (lv_at hl 0 rfl) ?_
  by_cases hs0 : x0 = (0 : Int32)
  · have hF := xx_ip hs0 hF
    refine lv_tableIn (off := 43) (tgt := 44) hx hb zd_Machine_computed_1 (by rw [hs0]; decide) (by rw [hs0]; decide) (by rw [hs0]; rfl) (by decide) ?_
    refine lv_iload_n hx hb zd_Machine_computed_44 rfl (lv_at hl 1 rfl) ?_
    refine lv_if_eq (tgt := 54) hx hb zd_Machine_computed_45 (by decide) (fun hc => ?_) (fun hc => ?_)
    · have hF := xx_ip hc hF
      refine lv_iload_n hx hb zd_Machine_computed_54 rfl (lv_at hl 2 rfl) ?_
      refine lv_iload_n hx hb zd_Machine_computed_55 rfl (lv_at hl 3 rfl) ?_
      refine lv_iadd hx hb zd_Machine_computed_56 ?_
      exact zw_Machine_computed_b57 C hA hK  u (x2 + x3) _ _ _ hF (lv_sub hl [] rfl) hP hD hS
    · have hF := xx_in' hc hF
      refine lv_iload_n hx hb zd_Machine_computed_48 rfl (lv_at hl 2 rfl) ?_
      refine lv_iload_n hx hb zd_Machine_computed_49 rfl (lv_at hl 3 rfl) ?_
      refine lv_isub hx hb zd_Machine_computed_50 ?_
      refine lv_goto (tgt := 57) hx hb zd_Machine_computed_51 (by decide) ?_
      exact zw_Machine_computed_b57 C hA hK  u (x2 - x3) _ _ _ hF (lv_sub hl [] rfl) hP hD hS
  · have hF := xx_in' hs0 hF
    by_cases hs1 : x0 = (1 : Int32)
    · have hF := xx_ip hs1 hF
      refine lv_tableIn (off := 57) (tgt := 58) hx hb zd_Machine_computed_1 (by rw [hs1]; decide) (by rw [hs1]; decide) (by rw [hs1]; rfl) (by decide) ?_
      refine lv_iload_n hx hb zd_Machine_computed_58 rfl (lv_at hl 2 rfl) ?_
      refine lv_iload_n hx hb zd_Machine_computed_59 rfl (lv_at hl 3 rfl) ?_
      refine lv_bipush (v := (31 : Int32)) hx hb zd_Machine_computed_60 (by decide) ?_
      refine lv_iand hx hb zd_Machine_computed_62 ?_
      refine lv_ishl hx hb zd_Machine_computed_63 ?_
      exact xx_iret C hF hK hP hD hS zd_Machine_computed_64
    · have hF := xx_in' hs1 hF
      by_cases hs2 : x0 = (2 : Int32)
      · have hF := xx_ip hs2 hF
        refine lv_tableIn (off := 64) (tgt := 65) hx hb zd_Machine_computed_1 (by rw [hs2]; decide) (by rw [hs2]; decide) (by rw [hs2]; rfl) (by decide) ?_
        refine lv_iload_n hx hb zd_Machine_computed_65 rfl (lv_at hl 2 rfl) ?_
        refine lv_iload_n hx hb zd_Machine_computed_66 rfl (lv_at hl 3 rfl) ?_
        refine lv_icmp_ge (tgt := 74) hx hb zd_Machine_computed_67 (by decide) (fun hc => ?_) (fun hc => ?_)
        · have hF := xx_ip hc hF
          refine lv_iconst (v := (0 : Int32)) hx hb zd_Machine_computed_74 (by decide) ?_
          exact zw_Machine_computed_b75 C hA hK  u (0 : Int32) _ _ _ hF (lv_sub hl [] rfl) hP hD hS
        · have hF := xx_in' hc hF
          refine lv_iconst (v := (1 : Int32)) hx hb zd_Machine_computed_70 (by decide) ?_
          refine lv_goto (tgt := 75) hx hb zd_Machine_computed_71 (by decide) ?_
          exact zw_Machine_computed_b75 C hA hK  u (1 : Int32) _ _ _ hF (lv_sub hl [] rfl) hP hD hS
      · have hF := xx_in' hs2 hF
        by_cases hs3 : x0 = (3 : Int32)
        · have hF := xx_ip hs3 hF
          refine lv_tableIn (off := 75) (tgt := 76) hx hb zd_Machine_computed_1 (by rw [hs3]; decide) (by rw [hs3]; decide) (by rw [hs3]; rfl) (by decide) ?_
          refine lv_iload_n hx hb zd_Machine_computed_76 rfl (lv_at hl 2 rfl) ?_
          refine lv_iload_n hx hb zd_Machine_computed_77 rfl (lv_at hl 3 rfl) ?_
          obtain ⟨v2, u1, eu1, hF⟩ := xx_b2_some hF
          refine xx_callS (n := 2) (As := [.int x2, .int x3]) (rest := []) C (zc_Machine_isBelow l g u x2 x3 v2 u1 eu1) ⟨kw_783, kw_781, kw_782, kw_3⟩ ⟨by decide +kernel, by decide +kernel, by decide +kernel⟩ rfl ⟨Nat.le_of_ble_eq_true rfl, Nat.le_of_ble_eq_true rfl⟩ hl.1 rfl (Nat.le_of_ble_eq_true rfl) hA hK hP hD hS ⟨Nat.le_refl _, Nat.le_refl _⟩ rfl rfl rfl zd_Machine_computed_78 (fun H locs hP hD hS => ?_)
          refine lv_if_eq (tgt := 88) hx hb zd_Machine_computed_81 (by decide) (fun hc => ?_) (fun hc => ?_)
          · have hF := xx_ip hc hF
            refine lv_iconst (v := (0 : Int32)) hx hb zd_Machine_computed_88 (by decide) ?_
            exact zw_Machine_computed_b89 C hA hK  u1 (0 : Int32) _ _ _ hF (lv_sub hl [] rfl) hP hD hS
          · have hF := xx_in' hc hF
            refine lv_iconst (v := (1 : Int32)) hx hb zd_Machine_computed_84 (by decide) ?_
            refine lv_goto (tgt := 89) hx hb zd_Machine_computed_85 (by decide) ?_
            exact zw_Machine_computed_b89 C hA hK  u1 (1 : Int32) _ _ _ hF (lv_sub hl [] rfl) hP hD hS
        · have hF := xx_in' hs3 hF
          by_cases hs4 : x0 = (4 : Int32)
          · have hF := xx_ip hs4 hF
            refine lv_tableIn (off := 89) (tgt := 90) hx hb zd_Machine_computed_1 (by rw [hs4]; decide) (by rw [hs4]; decide) (by rw [hs4]; rfl) (by decide) ?_
            refine lv_iload_n hx hb zd_Machine_computed_90 rfl (lv_at hl 2 rfl) ?_
            refine lv_iload_n hx hb zd_Machine_computed_91 rfl (lv_at hl 3 rfl) ?_
            refine lv_ixor hx hb zd_Machine_computed_92 ?_
            exact xx_iret C hF hK hP hD hS zd_Machine_computed_93
          · have hF := xx_in' hs4 hF
            by_cases hs5 : x0 = (5 : Int32)
            · have hF := xx_ip hs5 hF
              refine lv_tableIn (off := 93) (tgt := 94) hx hb zd_Machine_computed_1 (by rw [hs5]; decide) (by rw [hs5]; decide) (by rw [hs5]; rfl) (by decide) ?_
              refine lv_iload_n hx hb zd_Machine_computed_94 rfl (lv_at hl 1 rfl) ?_
              refine lv_if_eq (tgt := 107) hx hb zd_Machine_computed_95 (by decide) (fun hc => ?_) (fun hc => ?_)
              · have hF := xx_ip hc hF
                refine lv_iload_n hx hb zd_Machine_computed_107 rfl (lv_at hl 2 rfl) ?_
                refine lv_iload_n hx hb zd_Machine_computed_108 rfl (lv_at hl 3 rfl) ?_
                refine lv_bipush (v := (31 : Int32)) hx hb zd_Machine_computed_109 (by decide) ?_
                refine lv_iand hx hb zd_Machine_computed_111 ?_
                refine lv_iushr hx hb zd_Machine_computed_112 (xx_ush_eq x2 (x3 &&& (31 : Int32))) ?_
                exact zw_Machine_computed_b113 C hA hK  u (xx_ush x2 (x3 &&& (31 : Int32))) _ _ _ hF (lv_sub hl [] rfl) hP hD hS
              · have hF := xx_in' hc hF
                refine lv_iload_n hx hb zd_Machine_computed_98 rfl (lv_at hl 2 rfl) ?_
                refine lv_iload_n hx hb zd_Machine_computed_99 rfl (lv_at hl 3 rfl) ?_
                refine lv_bipush (v := (31 : Int32)) hx hb zd_Machine_computed_100 (by decide) ?_
                refine lv_iand hx hb zd_Machine_computed_102 ?_
                refine lv_ishr hx hb zd_Machine_computed_103 ?_
                refine lv_goto (tgt := 113) hx hb zd_Machine_computed_104 (by decide) ?_
                exact zw_Machine_computed_b113 C hA hK  u (x2 >>> ((x3 &&& (31 : Int32)) &&& 31)) _ _ _ hF (lv_sub hl [] rfl) hP hD hS
            · have hF := xx_in' hs5 hF
              by_cases hs6 : x0 = (6 : Int32)
              · have hF := xx_ip hs6 hF
                refine lv_tableIn (off := 113) (tgt := 114) hx hb zd_Machine_computed_1 (by rw [hs6]; decide) (by rw [hs6]; decide) (by rw [hs6]; rfl) (by decide) ?_
                refine lv_iload_n hx hb zd_Machine_computed_114 rfl (lv_at hl 2 rfl) ?_
                refine lv_iload_n hx hb zd_Machine_computed_115 rfl (lv_at hl 3 rfl) ?_
                refine lv_ior hx hb zd_Machine_computed_116 ?_
                exact xx_iret C hF hK hP hD hS zd_Machine_computed_117
              · have hF := xx_in' hs6 hF
                refine lv_tableOut (tgt := 118) hx hb zd_Machine_computed_1 (by have h0 := lv_neT (a := 0) hs0 (by decide); have h1 := lv_neT (a := 1) hs1 (by decide); have h2 := lv_neT (a := 2) hs2 (by decide); have h3 := lv_neT (a := 3) hs3 (by decide); have h4 := lv_neT (a := 4) hs4 (by decide); have h5 := lv_neT (a := 5) hs5 (by decide); have h6 := lv_neT (a := 6) hs6 (by decide); omega) (by decide) ?_
                refine lv_iload_n hx hb zd_Machine_computed_118 rfl (lv_at hl 2 rfl) ?_
                refine lv_iload_n hx hb zd_Machine_computed_119 rfl (lv_at hl 3 rfl) ?_
                refine lv_iand hx hb zd_Machine_computed_120 ?_
                exact xx_iret C hF hK hP hD hS zd_Machine_computed_121
