theorem kw_873 : Cond.fieldLink "ModuleLoaderModel" 57 "ModuleLoaderModel" "thrown" "I" ∈ xx_tb := xx_in (List.mem_append_right _ (List.mem_of_getElem? (i := 873) (by decide +kernel))) (by decide +kernel)
theorem qd_Model_thrown_0 : decode kb_Model_thrown 0 = .ok (.aload_n 0, 1) := by decide +kernel
theorem qd_Model_thrown_1 : decode kb_Model_thrown 1 = .ok (.getfield 57, 3) := by decide +kernel
theorem qd_Model_thrown_4 : decode kb_Model_thrown 4 = .ok (.ireturn, 1) := by decide +kernel
def qf_Model_thrown (u : qm_S) : Option (Int32 × qm_S) := some ((u.1 0), u)
set_option maxHeartbeats 4000000 in
set_option maxRecDepth 100000 in
theorem qc_Model_thrown (l : Launch) (g : xx_G) (u : qm_S) (r : Int32) (u9 : qm_S) (hF : qf_Model_thrown u = some (r, u9)) : xx_M l g.1 (qm_T g) (qm_W g) ky_Model_thrown kb_Model_thrown 1 (some .int) (xx_rm 0 0) [.ref (g.2.1 0)] u (some (.int r)) u9 := by
  refine xx_body (by decide) (Nat.le_of_ble_eq_true rfl) ?_
  intro p e s m args below meth c A ls C hin hK hl hA hP hD hS
  have hx := C.1
  have hb := C.2.1
  have hown := C.2.2.2.1
  have hts := C.2.2.2.2.1
  have hl : lv_has ls 1 [(0, .ref (g.2.1 0))] := hl
  unfold qf_Model_thrown at hF
  refine lv_aload_n hx hb qd_Model_thrown_0 rfl (lv_at hl 0 rfl) ?_
  refine xx_get C ki_Model hK hP 0 rfl rfl 0 (by decide) kw_873 rfl rfl qd_Model_thrown_1 ?_
  exact xx_iret C hF hK hP hD hS qd_Model_thrown_4
theorem kw_874 : Cond.fieldLink "ModuleLoaderModel" 7 "ModuleLoaderModel" "memory" "[I" ∈ xx_tb := xx_in (List.mem_append_right _ (List.mem_of_getElem? (i := 874) (by decide +kernel))) (by decide +kernel)
theorem qd_Model_byteAt_0 : decode kb_Model_byteAt 0 = .ok (.aload_n 0, 1) := by decide +kernel
theorem qd_Model_byteAt_1 : decode kb_Model_byteAt 1 = .ok (.getfield 7, 3) := by decide +kernel
theorem qd_Model_byteAt_4 : decode kb_Model_byteAt 4 = .ok (.iload_n 1, 1) := by decide +kernel
theorem qd_Model_byteAt_5 : decode kb_Model_byteAt 5 = .ok (.iaload, 1) := by decide +kernel
theorem qd_Model_byteAt_6 : decode kb_Model_byteAt 6 = .ok (.ireturn, 1) := by decide +kernel
def qf_Model_byteAt (u : qm_S) (x1 : Int32) : Option (Int32 × qm_S) := (xx_ag (u.2 1) 4096 x1).bind fun v1 => some (v1, u)
set_option maxHeartbeats 4000000 in
set_option maxRecDepth 100000 in
theorem qc_Model_byteAt (l : Launch) (g : xx_G) (u : qm_S) (x1 : Int32) (r : Int32) (u9 : qm_S) (hF : qf_Model_byteAt u x1 = some (r, u9)) : xx_M l g.1 (qm_T g) (qm_W g) ky_Model_byteAt kb_Model_byteAt 2 (some .int) (xx_rm 0 0) [.ref (g.2.1 0), .int x1] u (some (.int r)) u9 := by
  refine xx_body (by decide) (Nat.le_of_ble_eq_true rfl) ?_
  intro p e s m args below meth c A ls C hin hK hl hA hP hD hS
  have hx := C.1
  have hb := C.2.1
  have hown := C.2.2.2.1
  have hts := C.2.2.2.2.1
  have hl : lv_has ls 2 [(0, .ref (g.2.1 0)), (1, .int x1)] := hl
  unfold qf_Model_byteAt at hF
  refine lv_aload_n hx hb qd_Model_byteAt_0 rfl (lv_at hl 0 rfl) ?_
  refine xx_get C ki_Model hK hP 0 rfl rfl 1 (by decide) kw_874 rfl rfl qd_Model_byteAt_1 ?_
  refine lv_iload_n hx hb qd_Model_byteAt_4 rfl (lv_at hl 1 rfl) ?_
  obtain ⟨v1, ev1, hF⟩ := xx_ob hF
  refine xx_iald C hK hP 1 0 rfl rfl ev1 qd_Model_byteAt_5 ?_
  exact xx_iret C hF hK hP hD hS qd_Model_byteAt_6
theorem qd_Model_wordAt_0 : decode kb_Model_wordAt 0 = .ok (.aload_n 0, 1) := by decide +kernel
theorem qd_Model_wordAt_1 : decode kb_Model_wordAt 1 = .ok (.getfield 7, 3) := by decide +kernel
theorem qd_Model_wordAt_4 : decode kb_Model_wordAt 4 = .ok (.iload_n 1, 1) := by decide +kernel
theorem qd_Model_wordAt_5 : decode kb_Model_wordAt 5 = .ok (.iaload, 1) := by decide +kernel
theorem qd_Model_wordAt_6 : decode kb_Model_wordAt 6 = .ok (.aload_n 0, 1) := by decide +kernel
theorem qd_Model_wordAt_7 : decode kb_Model_wordAt 7 = .ok (.getfield 7, 3) := by decide +kernel
theorem qd_Model_wordAt_10 : decode kb_Model_wordAt 10 = .ok (.iload_n 1, 1) := by decide +kernel
theorem qd_Model_wordAt_11 : decode kb_Model_wordAt 11 = .ok (.iconst 1, 1) := by decide +kernel
theorem qd_Model_wordAt_12 : decode kb_Model_wordAt 12 = .ok (.iadd, 1) := by decide +kernel
theorem qd_Model_wordAt_13 : decode kb_Model_wordAt 13 = .ok (.iaload, 1) := by decide +kernel
theorem qd_Model_wordAt_14 : decode kb_Model_wordAt 14 = .ok (.bipush (8), 2) := by decide +kernel
theorem qd_Model_wordAt_16 : decode kb_Model_wordAt 16 = .ok (.ishl, 1) := by decide +kernel
theorem qd_Model_wordAt_17 : decode kb_Model_wordAt 17 = .ok (.ior, 1) := by decide +kernel
theorem qd_Model_wordAt_18 : decode kb_Model_wordAt 18 = .ok (.aload_n 0, 1) := by decide +kernel
theorem qd_Model_wordAt_19 : decode kb_Model_wordAt 19 = .ok (.getfield 7, 3) := by decide +kernel
theorem qd_Model_wordAt_22 : decode kb_Model_wordAt 22 = .ok (.iload_n 1, 1) := by decide +kernel
theorem qd_Model_wordAt_23 : decode kb_Model_wordAt 23 = .ok (.iconst 2, 1) := by decide +kernel
theorem qd_Model_wordAt_24 : decode kb_Model_wordAt 24 = .ok (.iadd, 1) := by decide +kernel
theorem qd_Model_wordAt_25 : decode kb_Model_wordAt 25 = .ok (.iaload, 1) := by decide +kernel
theorem qd_Model_wordAt_26 : decode kb_Model_wordAt 26 = .ok (.bipush (16), 2) := by decide +kernel
theorem qd_Model_wordAt_28 : decode kb_Model_wordAt 28 = .ok (.ishl, 1) := by decide +kernel
theorem qd_Model_wordAt_29 : decode kb_Model_wordAt 29 = .ok (.ior, 1) := by decide +kernel
theorem qd_Model_wordAt_30 : decode kb_Model_wordAt 30 = .ok (.aload_n 0, 1) := by decide +kernel
theorem qd_Model_wordAt_31 : decode kb_Model_wordAt 31 = .ok (.getfield 7, 3) := by decide +kernel
theorem qd_Model_wordAt_34 : decode kb_Model_wordAt 34 = .ok (.iload_n 1, 1) := by decide +kernel
theorem qd_Model_wordAt_35 : decode kb_Model_wordAt 35 = .ok (.iconst 3, 1) := by decide +kernel
theorem qd_Model_wordAt_36 : decode kb_Model_wordAt 36 = .ok (.iadd, 1) := by decide +kernel
theorem qd_Model_wordAt_37 : decode kb_Model_wordAt 37 = .ok (.iaload, 1) := by decide +kernel
theorem qd_Model_wordAt_38 : decode kb_Model_wordAt 38 = .ok (.bipush (24), 2) := by decide +kernel
theorem qd_Model_wordAt_40 : decode kb_Model_wordAt 40 = .ok (.ishl, 1) := by decide +kernel
theorem qd_Model_wordAt_41 : decode kb_Model_wordAt 41 = .ok (.ior, 1) := by decide +kernel
theorem qd_Model_wordAt_42 : decode kb_Model_wordAt 42 = .ok (.ireturn, 1) := by decide +kernel
def qf_Model_wordAt (u : qm_S) (x1 : Int32) : Option (Int32 × qm_S) := (xx_ag (u.2 1) 4096 x1).bind fun v1 => (xx_ag (u.2 1) 4096 (x1 + (1 : Int32))).bind fun v2 => (xx_ag (u.2 1) 4096 (x1 + (2 : Int32))).bind fun v3 => (xx_ag (u.2 1) 4096 (x1 + (3 : Int32))).bind fun v4 => some ((((v1 ||| (v2 <<< ((8 : Int32) &&& 31))) ||| (v3 <<< ((16 : Int32) &&& 31))) ||| (v4 <<< ((24 : Int32) &&& 31))), u)
set_option maxHeartbeats 4000000 in
set_option maxRecDepth 100000 in
theorem qc_Model_wordAt (l : Launch) (g : xx_G) (u : qm_S) (x1 : Int32) (r : Int32) (u9 : qm_S) (hF : qf_Model_wordAt u x1 = some (r, u9)) : xx_M l g.1 (qm_T g) (qm_W g) ky_Model_wordAt kb_Model_wordAt 2 (some .int) (xx_rm 0 0) [.ref (g.2.1 0), .int x1] u (some (.int r)) u9 := by
  refine xx_body (by decide) (Nat.le_of_ble_eq_true rfl) ?_
  intro p e s m args below meth c A ls C hin hK hl hA hP hD hS
  have hx := C.1
  have hb := C.2.1
  have hown := C.2.2.2.1
  have hts := C.2.2.2.2.1
  have hl : lv_has ls 2 [(0, .ref (g.2.1 0)), (1, .int x1)] := hl
  unfold qf_Model_wordAt at hF
  refine lv_aload_n hx hb qd_Model_wordAt_0 rfl (lv_at hl 0 rfl) ?_
  refine xx_get C ki_Model hK hP 0 rfl rfl 1 (by decide) kw_874 rfl rfl qd_Model_wordAt_1 ?_
  refine lv_iload_n hx hb qd_Model_wordAt_4 rfl (lv_at hl 1 rfl) ?_
  obtain ⟨v1, ev1, hF⟩ := xx_ob hF
  refine xx_iald C hK hP 1 0 rfl rfl ev1 qd_Model_wordAt_5 ?_
  refine lv_aload_n hx hb qd_Model_wordAt_6 rfl (lv_at hl 0 rfl) ?_
  refine xx_get C ki_Model hK hP 0 rfl rfl 1 (by decide) kw_874 rfl rfl qd_Model_wordAt_7 ?_
  refine lv_iload_n hx hb qd_Model_wordAt_10 rfl (lv_at hl 1 rfl) ?_
  refine lv_iconst (v := (1 : Int32)) hx hb qd_Model_wordAt_11 (by decide) ?_
  refine lv_iadd hx hb qd_Model_wordAt_12 ?_
  obtain ⟨v2, ev2, hF⟩ := xx_ob hF
  refine xx_iald C hK hP 1 0 rfl rfl ev2 qd_Model_wordAt_13 ?_
  refine lv_bipush (v := (8 : Int32)) hx hb qd_Model_wordAt_14 (by decide) ?_
  refine lv_ishl hx hb qd_Model_wordAt_16 ?_
  refine lv_ior hx hb qd_Model_wordAt_17 ?_
  refine lv_aload_n hx hb qd_Model_wordAt_18 rfl (lv_at hl 0 rfl) ?_
  refine xx_get C ki_Model hK hP 0 rfl rfl 1 (by decide) kw_874 rfl rfl qd_Model_wordAt_19 ?_
  refine lv_iload_n hx hb qd_Model_wordAt_22 rfl (lv_at hl 1 rfl) ?_
  refine lv_iconst (v := (2 : Int32)) hx hb qd_Model_wordAt_23 (by decide) ?_
  refine lv_iadd hx hb qd_Model_wordAt_24 ?_
  obtain ⟨v3, ev3, hF⟩ := xx_ob hF
  refine xx_iald C hK hP 1 0 rfl rfl ev3 qd_Model_wordAt_25 ?_
  refine lv_bipush (v := (16 : Int32)) hx hb qd_Model_wordAt_26 (by decide) ?_
  refine lv_ishl hx hb qd_Model_wordAt_28 ?_
  refine lv_ior hx hb qd_Model_wordAt_29 ?_
  refine lv_aload_n hx hb qd_Model_wordAt_30 rfl (lv_at hl 0 rfl) ?_
  refine xx_get C ki_Model hK hP 0 rfl rfl 1 (by decide) kw_874 rfl rfl qd_Model_wordAt_31 ?_
  refine lv_iload_n hx hb qd_Model_wordAt_34 rfl (lv_at hl 1 rfl) ?_
  refine lv_iconst (v := (3 : Int32)) hx hb qd_Model_wordAt_35 (by decide) ?_
  refine lv_iadd hx hb qd_Model_wordAt_36 ?_
  obtain ⟨v4, ev4, hF⟩ := xx_ob hF
  refine xx_iald C hK hP 1 0 rfl rfl ev4 qd_Model_wordAt_37 ?_
  refine lv_bipush (v := (24 : Int32)) hx hb qd_Model_wordAt_38 (by decide) ?_
  refine lv_ishl hx hb qd_Model_wordAt_40 ?_
  refine lv_ior hx hb qd_Model_wordAt_41 ?_
  exact xx_iret C hF hK hP hD hS qd_Model_wordAt_42
theorem xx_lit1 : Int32.ofInt (1) = (1 : Int32) := by decide
theorem qd_Model_put_0 : decode kb_Model_put 0 = .ok (.iconst 0, 1) := by decide +kernel
theorem qd_Model_put_1 : decode kb_Model_put 1 = .ok (.istore 4, 2) := by decide +kernel
theorem qd_Model_put_3 : decode kb_Model_put 3 = .ok (.iload 4, 2) := by decide +kernel
theorem qd_Model_put_5 : decode kb_Model_put 5 = .ok (.iload_n 3, 1) := by decide +kernel
theorem qd_Model_put_6 : decode kb_Model_put 6 = .ok (.if_icmp .ge (29), 3) := by decide +kernel
theorem qd_Model_put_9 : decode kb_Model_put 9 = .ok (.aload_n 0, 1) := by decide +kernel
theorem qd_Model_put_10 : decode kb_Model_put 10 = .ok (.getfield 7, 3) := by decide +kernel
theorem qd_Model_put_13 : decode kb_Model_put 13 = .ok (.iload_n 1, 1) := by decide +kernel
theorem qd_Model_put_14 : decode kb_Model_put 14 = .ok (.iload 4, 2) := by decide +kernel
theorem qd_Model_put_16 : decode kb_Model_put 16 = .ok (.iadd, 1) := by decide +kernel
theorem qd_Model_put_17 : decode kb_Model_put 17 = .ok (.iload_n 2, 1) := by decide +kernel
theorem qd_Model_put_18 : decode kb_Model_put 18 = .ok (.bipush (8), 2) := by decide +kernel
theorem qd_Model_put_20 : decode kb_Model_put 20 = .ok (.iload 4, 2) := by decide +kernel
theorem qd_Model_put_22 : decode kb_Model_put 22 = .ok (.imul, 1) := by decide +kernel
theorem qd_Model_put_23 : decode kb_Model_put 23 = .ok (.ishr, 1) := by decide +kernel
theorem qd_Model_put_24 : decode kb_Model_put 24 = .ok (.sipush (255), 3) := by decide +kernel
theorem qd_Model_put_27 : decode kb_Model_put 27 = .ok (.iand, 1) := by decide +kernel
theorem qd_Model_put_28 : decode kb_Model_put 28 = .ok (.iastore, 1) := by decide +kernel
theorem qd_Model_put_29 : decode kb_Model_put 29 = .ok (.iinc 4 (1), 3) := by decide +kernel
theorem qd_Model_put_32 : decode kb_Model_put 32 = .ok (.goto (-29), 3) := by decide +kernel
theorem qd_Model_put_35 : decode kb_Model_put 35 = .ok (.return_, 1) := by decide +kernel
def qf_Model_put_b3 : Nat → qm_S → Int32 → Int32 → Int32 → Int32 → Option (qm_S)
  | 0, _, _, _, _, _ => none
  | n + 1, u, x1, x2, x3, x4 => if x3 ≤ x4 then (some u) else ((xx_as (u.2 1) 4096 (x1 + x4) ((x2 >>> (((8 : Int32) * x4) &&& 31)) &&& (255 : Int32))).bind fun f1 => xx_nm (u.1, va_up u.2 1 f1) fun u2 => xx_nm (x4 + (1 : Int32)) fun v3 => (qf_Model_put_b3 n) u2 x1 x2 x3 v3)
def qf_Model_put (u : qm_S) (x1 : Int32) (x2 : Int32) (x3 : Int32) : Option (qm_S) := xx_nm (0 : Int32) fun v1 => qf_Model_put_b3 xx_fu u x1 x2 x3 v1
set_option maxHeartbeats 4000000 in
set_option maxRecDepth 100000 in
theorem qw_Model_put_b3 {p : Program} {l : Launch} {e : Env} {s : State} {m : MethodId} {args : Array Value} {below : List Frame} {meth : Method} {c : Code} {A : Nat → Prop} {g : xx_G} {u9 : qm_S} (C : xx_C p s m args meth c kb_Model_put 5 kr_Model none) (hA : ∀ q, s.heap.size ≤ q → A q) (hK : va_K g.1 xx_cls (qm_T g) s) : ∀ (n : Nat), ∀ (u : qm_S) (x1 : Int32) (x2 : Int32) (x3 : Int32) (x4 : Int32) (H : Heap) (locs : List Loc) (ls : Array Slot), qf_Model_put_b3 n u x1 x2 x3 x4 = some u9 → lv_has ls 5 [(0, .ref (g.2.1 0)), (1, .int x1), (2, .int x2), (3, .int x3), (4, .int x4)] → va_P g.1 xx_cls (qm_W g u) H → va_D A (qm_W g u) → va_S A s.heap H locs → W p l e (xx_rm 0 0) s m args below meth c H locs 0 0 (MQ below (xx_Q g.1 (qm_T g) (qm_W g) none u9 A) args s 0 0 A) (F0 m 3 ls []) := by
  have hx := C.1
  have hb := C.2.1
  have hown := C.2.2.2.1
  have hts := C.2.2.2.2.1
  intro n
  induction n with
  | zero =>
    intro u x1 x2 x3 x4 H locs ls hF
    rw [qf_Model_put_b3] at hF
    cases hF
  | succ n ih =>
    intro u x1 x2 x3 x4 H locs ls hF hl hP hD hS
    rw [qf_Model_put_b3] at hF
    refine lv_iload hx hb qd_Model_put_3 (lv_at hl 4 rfl) ?_
    refine lv_iload_n hx hb qd_Model_put_5 rfl (lv_at hl 3 rfl) ?_
    refine lv_icmp_ge (tgt := 35) hx hb qd_Model_put_6 (by decide) (fun hc => ?_) (fun hc => ?_)
    · have hF := xx_ip hc hF
      exact xx_vret C hF hK hP hD hS qd_Model_put_35
    · have hF := xx_in' hc hF
      refine lv_aload_n hx hb qd_Model_put_9 rfl (lv_at hl 0 rfl) ?_
      refine xx_get C ki_Model hK hP 0 rfl rfl 1 (by decide) kw_874 rfl rfl qd_Model_put_10 ?_
      refine lv_iload_n hx hb qd_Model_put_13 rfl (lv_at hl 1 rfl) ?_
      refine lv_iload hx hb qd_Model_put_14 (lv_at hl 4 rfl) ?_
      refine lv_iadd hx hb qd_Model_put_16 ?_
      refine lv_iload_n hx hb qd_Model_put_17 rfl (lv_at hl 2 rfl) ?_
      refine lv_bipush (v := (8 : Int32)) hx hb qd_Model_put_18 (by decide) ?_
      refine lv_iload hx hb qd_Model_put_20 (lv_at hl 4 rfl) ?_
      refine lv_imul hx hb qd_Model_put_22 ?_
      refine lv_ishr hx hb qd_Model_put_23 ?_
      refine lv_sipush (v := (255 : Int32)) hx hb qd_Model_put_24 (by decide) ?_
      refine lv_iand hx hb qd_Model_put_27 ?_
      obtain ⟨f1, ef1, hF⟩ := xx_ob hF
      obtain ⟨u2, eu2, hF⟩ := xx_nm_some hF
      refine xx_iast (ws1 := qm_W g u2) C hK hP hD hS 1 0 rfl rfl ef1 (by rw [eu2]; rfl) qd_Model_put_28 (fun H locs hP hD hS => ?_)
      obtain ⟨v3, ev3, hF⟩ := xx_nm_some hF
      refine lv_iinc (k := 4) (v := v3) hx hb qd_Model_put_29 hl rfl (by rw [ev3, xx_lit1]) (by decide) rfl (fun ls hl => ?_)
      refine lv_goto (tgt := 3) hx hb qd_Model_put_32 (by decide) ?_
      exact ih u2 x1 x2 x3 v3 _ _ _ hF (lv_sub hl [1, 2, 3, 4, 0] rfl) hP hD hS
set_option maxHeartbeats 4000000 in
set_option maxRecDepth 100000 in
theorem qc_Model_put (l : Launch) (g : xx_G) (u : qm_S) (x1 : Int32) (x2 : Int32) (x3 : Int32) (u9 : qm_S) (hF : qf_Model_put u x1 x2 x3 = some u9) : xx_M l g.1 (qm_T g) (qm_W g) ky_Model_put kb_Model_put 5 none (xx_rm 0 0) [.ref (g.2.1 0), .int x1, .int x2, .int x3] u none u9 := by
  refine xx_body (by decide) (Nat.le_of_ble_eq_true rfl) ?_
  intro p e s m args below meth c A ls C hin hK hl hA hP hD hS
  have hx := C.1
  have hb := C.2.1
  have hown := C.2.2.2.1
  have hts := C.2.2.2.2.1
  have hl : lv_has ls 5 [(0, .ref (g.2.1 0)), (1, .int x1), (2, .int x2), (3, .int x3)] := hl
  unfold qf_Model_put at hF
  refine lv_iconst (v := (0 : Int32)) hx hb qd_Model_put_0 (by decide) ?_
  obtain ⟨v1, ev1, hF⟩ := xx_nm_some hF
  refine xx_topi ev1 ?_
  refine lv_istore hx hb qd_Model_put_1 hl (by decide) rfl (fun ls hl => ?_)
  exact qw_Model_put_b3 C hA hK xx_fu u x1 x2 x3 v1 _ _ _ hF (lv_sub hl [1, 2, 3, 4, 0] rfl) hP hD hS
theorem kw_881 : Cond.fieldLink "ModuleLoaderModel" 25 "ModuleLoaderModel" "isModule" "[Z" ∈ xx_tb := xx_in (List.mem_append_right _ (List.mem_of_getElem? (i := 881) (by decide +kernel))) (by decide +kernel)
theorem kw_883 : Cond.fieldLink "ModuleLoaderModel" 32 "ModuleLoaderModel" "base" "[I" ∈ xx_tb := xx_in (List.mem_append_right _ (List.mem_of_getElem? (i := 883) (by decide +kernel))) (by decide +kernel)
theorem kw_885 : Cond.fieldLink "ModuleLoaderModel" 38 "ModuleLoaderModel" "guard" "[I" ∈ xx_tb := xx_in (List.mem_append_right _ (List.mem_of_getElem? (i := 885) (by decide +kernel))) (by decide +kernel)
theorem kw_875 : Cond.fieldLink "ModuleLoaderModel" 60 "ModuleLoaderModel" "sealed" "Z" ∈ xx_tb := xx_in (List.mem_append_right _ (List.mem_of_getElem? (i := 875) (by decide +kernel))) (by decide +kernel)
theorem qd_Model_guarded_0 : decode kb_Model_guarded 0 = .ok (.iload_n 1, 1) := by decide +kernel
theorem qd_Model_guarded_1 : decode kb_Model_guarded 1 = .ok (.ifCond .lt (10), 3) := by decide +kernel
theorem qd_Model_guarded_4 : decode kb_Model_guarded 4 = .ok (.iload_n 1, 1) := by decide +kernel
theorem qd_Model_guarded_5 : decode kb_Model_guarded 5 = .ok (.sipush (4096), 3) := by decide +kernel
theorem qd_Model_guarded_8 : decode kb_Model_guarded 8 = .ok (.if_icmp .lt (5), 3) := by decide +kernel
theorem qd_Model_guarded_11 : decode kb_Model_guarded 11 = .ok (.iconst 0, 1) := by decide +kernel
theorem qd_Model_guarded_12 : decode kb_Model_guarded 12 = .ok (.ireturn, 1) := by decide +kernel
theorem qd_Model_guarded_13 : decode kb_Model_guarded 13 = .ok (.iload_n 1, 1) := by decide +kernel
theorem qd_Model_guarded_14 : decode kb_Model_guarded 14 = .ok (.sipush (512), 3) := by decide +kernel
theorem qd_Model_guarded_17 : decode kb_Model_guarded 17 = .ok (.if_icmp .ge (8), 3) := by decide +kernel
theorem qd_Model_guarded_20 : decode kb_Model_guarded 20 = .ok (.aload_n 0, 1) := by decide +kernel
theorem qd_Model_guarded_21 : decode kb_Model_guarded 21 = .ok (.getfield 60, 3) := by decide +kernel
theorem qd_Model_guarded_24 : decode kb_Model_guarded 24 = .ok (.ireturn, 1) := by decide +kernel
theorem qd_Model_guarded_25 : decode kb_Model_guarded 25 = .ok (.iconst 0, 1) := by decide +kernel
theorem qd_Model_guarded_26 : decode kb_Model_guarded 26 = .ok (.istore_n 2, 1) := by decide +kernel
theorem qd_Model_guarded_27 : decode kb_Model_guarded 27 = .ok (.iconst 0, 1) := by decide +kernel
theorem qd_Model_guarded_28 : decode kb_Model_guarded 28 = .ok (.istore_n 3, 1) := by decide +kernel
theorem qd_Model_guarded_29 : decode kb_Model_guarded 29 = .ok (.iload_n 3, 1) := by decide +kernel
theorem qd_Model_guarded_30 : decode kb_Model_guarded 30 = .ok (.bipush (12), 2) := by decide +kernel
theorem qd_Model_guarded_32 : decode kb_Model_guarded 32 = .ok (.if_icmp .ge (55), 3) := by decide +kernel
theorem qd_Model_guarded_35 : decode kb_Model_guarded 35 = .ok (.iload_n 2, 1) := by decide +kernel
theorem qd_Model_guarded_36 : decode kb_Model_guarded 36 = .ok (.ifCond .ne (39), 3) := by decide +kernel
theorem qd_Model_guarded_39 : decode kb_Model_guarded 39 = .ok (.aload_n 0, 1) := by decide +kernel
theorem qd_Model_guarded_40 : decode kb_Model_guarded 40 = .ok (.getfield 25, 3) := by decide +kernel
theorem qd_Model_guarded_43 : decode kb_Model_guarded 43 = .ok (.iload_n 3, 1) := by decide +kernel
theorem qd_Model_guarded_44 : decode kb_Model_guarded 44 = .ok (.baload, 1) := by decide +kernel
theorem qd_Model_guarded_45 : decode kb_Model_guarded 45 = .ok (.ifCond .eq (34), 3) := by decide +kernel
theorem qd_Model_guarded_48 : decode kb_Model_guarded 48 = .ok (.iload_n 1, 1) := by decide +kernel
theorem qd_Model_guarded_49 : decode kb_Model_guarded 49 = .ok (.aload_n 0, 1) := by decide +kernel
theorem qd_Model_guarded_50 : decode kb_Model_guarded 50 = .ok (.getfield 32, 3) := by decide +kernel
theorem qd_Model_guarded_53 : decode kb_Model_guarded 53 = .ok (.iload_n 3, 1) := by decide +kernel
theorem qd_Model_guarded_54 : decode kb_Model_guarded 54 = .ok (.iaload, 1) := by decide +kernel
theorem qd_Model_guarded_55 : decode kb_Model_guarded 55 = .ok (.if_icmp .lt (24), 3) := by decide +kernel
theorem qd_Model_guarded_58 : decode kb_Model_guarded 58 = .ok (.iload_n 1, 1) := by decide +kernel
theorem qd_Model_guarded_59 : decode kb_Model_guarded 59 = .ok (.aload_n 0, 1) := by decide +kernel
theorem qd_Model_guarded_60 : decode kb_Model_guarded 60 = .ok (.getfield 32, 3) := by decide +kernel
theorem qd_Model_guarded_63 : decode kb_Model_guarded 63 = .ok (.iload_n 3, 1) := by decide +kernel
theorem qd_Model_guarded_64 : decode kb_Model_guarded 64 = .ok (.iaload, 1) := by decide +kernel
theorem qd_Model_guarded_65 : decode kb_Model_guarded 65 = .ok (.aload_n 0, 1) := by decide +kernel
theorem qd_Model_guarded_66 : decode kb_Model_guarded 66 = .ok (.getfield 38, 3) := by decide +kernel
theorem qd_Model_guarded_69 : decode kb_Model_guarded 69 = .ok (.iload_n 3, 1) := by decide +kernel
theorem qd_Model_guarded_70 : decode kb_Model_guarded 70 = .ok (.iaload, 1) := by decide +kernel
theorem qd_Model_guarded_71 : decode kb_Model_guarded 71 = .ok (.iadd, 1) := by decide +kernel
theorem qd_Model_guarded_72 : decode kb_Model_guarded 72 = .ok (.if_icmp .ge (7), 3) := by decide +kernel
theorem qd_Model_guarded_75 : decode kb_Model_guarded 75 = .ok (.iconst 1, 1) := by decide +kernel
theorem qd_Model_guarded_76 : decode kb_Model_guarded 76 = .ok (.goto (4), 3) := by decide +kernel
theorem qd_Model_guarded_79 : decode kb_Model_guarded 79 = .ok (.iconst 0, 1) := by decide +kernel
theorem qd_Model_guarded_80 : decode kb_Model_guarded 80 = .ok (.istore_n 2, 1) := by decide +kernel
theorem qd_Model_guarded_81 : decode kb_Model_guarded 81 = .ok (.iinc 3 (1), 3) := by decide +kernel
theorem qd_Model_guarded_84 : decode kb_Model_guarded 84 = .ok (.goto (-55), 3) := by decide +kernel
theorem qd_Model_guarded_87 : decode kb_Model_guarded 87 = .ok (.iload_n 2, 1) := by decide +kernel
theorem qd_Model_guarded_88 : decode kb_Model_guarded 88 = .ok (.ireturn, 1) := by decide +kernel
def qf_Model_guarded_b11 (u : qm_S) : Option (Int32 × qm_S) := some (vp_nar .boolean (0 : Int32), u)
def qf_Model_guarded_b80 (rec29 : qm_S → Int32 → Int32 → Int32 → Option (Int32 × qm_S)) (u : qm_S) (x1 : Int32) (x3 : Int32) (y0 : Int32) : Option (Int32 × qm_S) := xx_nm (x3 + (1 : Int32)) fun v1 => rec29 u x1 y0 v1
def qf_Model_guarded_b75 (rec29 : qm_S → Int32 → Int32 → Int32 → Option (Int32 × qm_S)) (u : qm_S) (x1 : Int32) (x3 : Int32) : Option (Int32 × qm_S) := qf_Model_guarded_b80 rec29 u x1 x3 (1 : Int32)
def qf_Model_guarded_b79 (rec29 : qm_S → Int32 → Int32 → Int32 → Option (Int32 × qm_S)) (u : qm_S) (x1 : Int32) (x3 : Int32) : Option (Int32 × qm_S) := qf_Model_guarded_b80 rec29 u x1 x3 (0 : Int32)
def qf_Model_guarded_b29 : Nat → qm_S → Int32 → Int32 → Int32 → Option (Int32 × qm_S)
  | 0, _, _, _, _ => none
  | n + 1, u, x1, x2, x3 => if (12 : Int32) ≤ x3 then (some (vp_nar .boolean x2, u)) else (if x2 = 0 then ((xx_ag (u.2 6) 12 x3).bind fun v1 => if v1 = 0 then (qf_Model_guarded_b79 (qf_Model_guarded_b29 n) u x1 x3) else ((xx_ag (u.2 8) 12 x3).bind fun v2 => if x1 < v2 then (qf_Model_guarded_b79 (qf_Model_guarded_b29 n) u x1 x3) else ((xx_ag (u.2 8) 12 x3).bind fun v3 => (xx_ag (u.2 10) 12 x3).bind fun v4 => if (v3 + v4) ≤ x1 then (qf_Model_guarded_b79 (qf_Model_guarded_b29 n) u x1 x3) else (qf_Model_guarded_b75 (qf_Model_guarded_b29 n) u x1 x3)))) else (qf_Model_guarded_b75 (qf_Model_guarded_b29 n) u x1 x3))
def qf_Model_guarded (u : qm_S) (x1 : Int32) : Option (Int32 × qm_S) := if x1 < 0 then (qf_Model_guarded_b11 u) else (if x1 < (4096 : Int32) then (if (512 : Int32) ≤ x1 then (xx_nm (0 : Int32) fun v1 => xx_nm (0 : Int32) fun v2 => qf_Model_guarded_b29 xx_fu u x1 v1 v2) else (some (vp_nar .boolean (u.1 2), u))) else (qf_Model_guarded_b11 u))
set_option maxHeartbeats 4000000 in
set_option maxRecDepth 100000 in
theorem qw_Model_guarded_b11 {p : Program} {l : Launch} {e : Env} {s : State} {m : MethodId} {args : Array Value} {below : List Frame} {meth : Method} {c : Code} {A : Nat → Prop} {g : xx_G} {r : Int32} {u9 : qm_S} (C : xx_C p s m args meth c kb_Model_guarded 4 kr_Model (some .boolean)) (hA : ∀ q, s.heap.size ≤ q → A q) (hK : va_K g.1 xx_cls (qm_T g) s) : ∀ (u : qm_S) (H : Heap) (locs : List Loc) (ls : Array Slot), qf_Model_guarded_b11 u = some (r, u9) → lv_has ls 4 [] → va_P g.1 xx_cls (qm_W g u) H → va_D A (qm_W g u) → va_S A s.heap H locs → W p l e (xx_rm 0 0) s m args below meth c H locs 0 0 (MQ below (xx_Q g.1 (qm_T g) (qm_W g) (some (.int r)) u9 A) args s 0 0 A) (F0 m 11 ls []) := by
  have hx := C.1
  have hb := C.2.1
  have hown := C.2.2.2.1
  have hts := C.2.2.2.2.1
  intro u H locs ls hF hl hP hD hS
  unfold qf_Model_guarded_b11 at hF
  refine lv_iconst (v := (0 : Int32)) hx hb qd_Model_guarded_11 (by decide) ?_
  exact xx_zret C hF hK hP hD hS qd_Model_guarded_12
set_option maxHeartbeats 4000000 in
set_option maxRecDepth 100000 in
theorem qw_Model_guarded_b80 {p : Program} {l : Launch} {e : Env} {s : State} {m : MethodId} {args : Array Value} {below : List Frame} {meth : Method} {c : Code} {A : Nat → Prop} {g : xx_G} {r : Int32} {u9 : qm_S} (C : xx_C p s m args meth c kb_Model_guarded 4 kr_Model (some .boolean)) (hA : ∀ q, s.heap.size ≤ q → A q) (hK : va_K g.1 xx_cls (qm_T g) s) {rec29 : qm_S → Int32 → Int32 → Int32 → Option (Int32 × qm_S)} (hrec29 : ∀ (u : qm_S) (x1 : Int32) (x2 : Int32) (x3 : Int32) (H : Heap) (locs : List Loc) (ls : Array Slot), rec29 u x1 x2 x3 = some (r, u9) → lv_has ls 4 [(0, .ref (g.2.1 0)), (1, .int x1), (2, .int x2), (3, .int x3)] → va_P g.1 xx_cls (qm_W g u) H → va_D A (qm_W g u) → va_S A s.heap H locs → W p l e (xx_rm 0 0) s m args below meth c H locs 0 0 (MQ below (xx_Q g.1 (qm_T g) (qm_W g) (some (.int r)) u9 A) args s 0 0 A) (F0 m 29 ls [])) : ∀ (u : qm_S) (x1 : Int32) (x3 : Int32) (y0 : Int32) (H : Heap) (locs : List Loc) (ls : Array Slot), qf_Model_guarded_b80 rec29 u x1 x3 y0 = some (r, u9) → lv_has ls 4 [(0, .ref (g.2.1 0)), (1, .int x1), (3, .int x3)] → va_P g.1 xx_cls (qm_W g u) H → va_D A (qm_W g u) → va_S A s.heap H locs → W p l e (xx_rm 0 0) s m args below meth c H locs 0 0 (MQ below (xx_Q g.1 (qm_T g) (qm_W g) (some (.int r)) u9 A) args s 0 0 A) (F0 m 80 ls [.int y0]) := by
  have hx := C.1
  have hb := C.2.1
  have hown := C.2.2.2.1
  have hts := C.2.2.2.2.1
  intro u x1 x3 y0 H locs ls hF hl hP hD hS
  unfold qf_Model_guarded_b80 at hF
  refine lv_istore_n hx hb qd_Model_guarded_80 rfl hl (by decide) rfl (fun ls hl => ?_)
  obtain ⟨v1, ev1, hF⟩ := xx_nm_some hF
  refine lv_iinc (k := 3) (v := v1) hx hb qd_Model_guarded_81 hl rfl (by rw [ev1, xx_lit1]) (by decide) rfl (fun ls hl => ?_)
  refine lv_goto (tgt := 29) hx hb qd_Model_guarded_84 (by decide) ?_
  exact hrec29 u x1 y0 v1 _ _ _ hF (lv_sub hl [2, 3, 1, 0] rfl) hP hD hS
set_option maxHeartbeats 4000000 in
set_option maxRecDepth 100000 in
theorem qw_Model_guarded_b75 {p : Program} {l : Launch} {e : Env} {s : State} {m : MethodId} {args : Array Value} {below : List Frame} {meth : Method} {c : Code} {A : Nat → Prop} {g : xx_G} {r : Int32} {u9 : qm_S} (C : xx_C p s m args meth c kb_Model_guarded 4 kr_Model (some .boolean)) (hA : ∀ q, s.heap.size ≤ q → A q) (hK : va_K g.1 xx_cls (qm_T g) s) {rec29 : qm_S → Int32 → Int32 → Int32 → Option (Int32 × qm_S)} (hrec29 : ∀ (u : qm_S) (x1 : Int32) (x2 : Int32) (x3 : Int32) (H : Heap) (locs : List Loc) (ls : Array Slot), rec29 u x1 x2 x3 = some (r, u9) → lv_has ls 4 [(0, .ref (g.2.1 0)), (1, .int x1), (2, .int x2), (3, .int x3)] → va_P g.1 xx_cls (qm_W g u) H → va_D A (qm_W g u) → va_S A s.heap H locs → W p l e (xx_rm 0 0) s m args below meth c H locs 0 0 (MQ below (xx_Q g.1 (qm_T g) (qm_W g) (some (.int r)) u9 A) args s 0 0 A) (F0 m 29 ls [])) : ∀ (u : qm_S) (x1 : Int32) (x3 : Int32) (H : Heap) (locs : List Loc) (ls : Array Slot), qf_Model_guarded_b75 rec29 u x1 x3 = some (r, u9) → lv_has ls 4 [(0, .ref (g.2.1 0)), (1, .int x1), (3, .int x3)] → va_P g.1 xx_cls (qm_W g u) H → va_D A (qm_W g u) → va_S A s.heap H locs → W p l e (xx_rm 0 0) s m args below meth c H locs 0 0 (MQ below (xx_Q g.1 (qm_T g) (qm_W g) (some (.int r)) u9 A) args s 0 0 A) (F0 m 75 ls []) := by
  have hx := C.1
  have hb := C.2.1
  have hown := C.2.2.2.1
  have hts := C.2.2.2.2.1
  intro u x1 x3 H locs ls hF hl hP hD hS
  unfold qf_Model_guarded_b75 at hF
  refine lv_iconst (v := (1 : Int32)) hx hb qd_Model_guarded_75 (by decide) ?_
  refine lv_goto (tgt := 80) hx hb qd_Model_guarded_76 (by decide) ?_
  exact qw_Model_guarded_b80 C hA hK hrec29  u x1 x3 (1 : Int32) _ _ _ hF (lv_sub hl [0, 1, 2] rfl) hP hD hS
set_option maxHeartbeats 4000000 in
set_option maxRecDepth 100000 in
theorem qw_Model_guarded_b79 {p : Program} {l : Launch} {e : Env} {s : State} {m : MethodId} {args : Array Value} {below : List Frame} {meth : Method} {c : Code} {A : Nat → Prop} {g : xx_G} {r : Int32} {u9 : qm_S} (C : xx_C p s m args meth c kb_Model_guarded 4 kr_Model (some .boolean)) (hA : ∀ q, s.heap.size ≤ q → A q) (hK : va_K g.1 xx_cls (qm_T g) s) {rec29 : qm_S → Int32 → Int32 → Int32 → Option (Int32 × qm_S)} (hrec29 : ∀ (u : qm_S) (x1 : Int32) (x2 : Int32) (x3 : Int32) (H : Heap) (locs : List Loc) (ls : Array Slot), rec29 u x1 x2 x3 = some (r, u9) → lv_has ls 4 [(0, .ref (g.2.1 0)), (1, .int x1), (2, .int x2), (3, .int x3)] → va_P g.1 xx_cls (qm_W g u) H → va_D A (qm_W g u) → va_S A s.heap H locs → W p l e (xx_rm 0 0) s m args below meth c H locs 0 0 (MQ below (xx_Q g.1 (qm_T g) (qm_W g) (some (.int r)) u9 A) args s 0 0 A) (F0 m 29 ls [])) : ∀ (u : qm_S) (x1 : Int32) (x3 : Int32) (H : Heap) (locs : List Loc) (ls : Array Slot), qf_Model_guarded_b79 rec29 u x1 x3 = some (r, u9) → lv_has ls 4 [(0, .ref (g.2.1 0)), (1, .int x1), (3, .int x3)] → va_P g.1 xx_cls (qm_W g u) H → va_D A (qm_W g u) → va_S A s.heap H locs → W p l e (xx_rm 0 0) s m args below meth c H locs 0 0 (MQ below (xx_Q g.1 (qm_T g) (qm_W g) (some (.int r)) u9 A) args s 0 0 A) (F0 m 79 ls []) := by
  have hx := C.1
  have hb := C.2.1
  have hown := C.2.2.2.1
  have hts := C.2.2.2.2.1
  intro u x1 x3 H locs ls hF hl hP hD hS
  unfold qf_Model_guarded_b79 at hF
  refine lv_iconst (v := (0 : Int32)) hx hb qd_Model_guarded_79 (by decide) ?_
  exact qw_Model_guarded_b80 C hA hK hrec29  u x1 x3 (0 : Int32) _ _ _ hF (lv_sub hl [0, 1, 2] rfl) hP hD hS
set_option maxHeartbeats 4000000 in
set_option maxRecDepth 100000 in
theorem qw_Model_guarded_b29 {p : Program} {l : Launch} {e : Env} {s : State} {m : MethodId} {args : Array Value} {below : List Frame} {meth : Method} {c : Code} {A : Nat → Prop} {g : xx_G} {r : Int32} {u9 : qm_S} (C : xx_C p s m args meth c kb_Model_guarded 4 kr_Model (some .boolean)) (hA : ∀ q, s.heap.size ≤ q → A q) (hK : va_K g.1 xx_cls (qm_T g) s) : ∀ (n : Nat), ∀ (u : qm_S) (x1 : Int32) (x2 : Int32) (x3 : Int32) (H : Heap) (locs : List Loc) (ls : Array Slot), qf_Model_guarded_b29 n u x1 x2 x3 = some (r, u9) → lv_has ls 4 [(0, .ref (g.2.1 0)), (1, .int x1), (2, .int x2), (3, .int x3)] → va_P g.1 xx_cls (qm_W g u) H → va_D A (qm_W g u) → va_S A s.heap H locs → W p l e (xx_rm 0 0) s m args below meth c H locs 0 0 (MQ below (xx_Q g.1 (qm_T g) (qm_W g) (some (.int r)) u9 A) args s 0 0 A) (F0 m 29 ls []) := by
  have hx := C.1
  have hb := C.2.1
  have hown := C.2.2.2.1
  have hts := C.2.2.2.2.1
  intro n
  induction n with
  | zero =>
    intro u x1 x2 x3 H locs ls hF
    rw [qf_Model_guarded_b29] at hF
    cases hF
  | succ n ih =>
    intro u x1 x2 x3 H locs ls hF hl hP hD hS
    rw [qf_Model_guarded_b29] at hF
    refine lv_iload_n hx hb qd_Model_guarded_29 rfl (lv_at hl 3 rfl) ?_
    refine lv_bipush (v := (12 : Int32)) hx hb qd_Model_guarded_30 (by decide) ?_
    refine lv_icmp_ge (tgt := 87) hx hb qd_Model_guarded_32 (by decide) (fun hc => ?_) (fun hc => ?_)
    · have hF := xx_ip hc hF
      refine lv_iload_n hx hb qd_Model_guarded_87 rfl (lv_at hl 2 rfl) ?_
      exact xx_zret C hF hK hP hD hS qd_Model_guarded_88
    · have hF := xx_in' hc hF
      refine lv_iload_n hx hb qd_Model_guarded_35 rfl (lv_at hl 2 rfl) ?_
      refine lv_if_ne (tgt := 75) hx hb qd_Model_guarded_36 (by decide) (fun hc => ?_) (fun hc => ?_)
      · have hF := xx_in' hc hF
        exact qw_Model_guarded_b75 C hA hK ih  u x1 x3 _ _ _ hF (lv_sub hl [0, 1, 3] rfl) hP hD hS
      · have hF := xx_ip hc hF
        refine lv_aload_n hx hb qd_Model_guarded_39 rfl (lv_at hl 0 rfl) ?_
        refine xx_get C ki_Model hK hP 0 rfl rfl 8 (by decide) kw_881 rfl rfl qd_Model_guarded_40 ?_
        refine lv_iload_n hx hb qd_Model_guarded_43 rfl (lv_at hl 3 rfl) ?_
        obtain ⟨v1, ev1, hF⟩ := xx_ob hF
        refine xx_zald C hK hP 6 1 rfl rfl ev1 qd_Model_guarded_44 ?_
        refine lv_if_eq (tgt := 79) hx hb qd_Model_guarded_45 (by decide) (fun hc => ?_) (fun hc => ?_)
        · have hF := xx_ip hc hF
          exact qw_Model_guarded_b79 C hA hK ih  u x1 x3 _ _ _ hF (lv_sub hl [0, 1, 3] rfl) hP hD hS
        · have hF := xx_in' hc hF
          refine lv_iload_n hx hb qd_Model_guarded_48 rfl (lv_at hl 1 rfl) ?_
          refine lv_aload_n hx hb qd_Model_guarded_49 rfl (lv_at hl 0 rfl) ?_
          refine xx_get C ki_Model hK hP 0 rfl rfl 10 (by decide) kw_883 rfl rfl qd_Model_guarded_50 ?_
          refine lv_iload_n hx hb qd_Model_guarded_53 rfl (lv_at hl 3 rfl) ?_
          obtain ⟨v2, ev2, hF⟩ := xx_ob hF
          refine xx_iald C hK hP 8 0 rfl rfl ev2 qd_Model_guarded_54 ?_
          refine lv_icmp_lt (tgt := 79) hx hb qd_Model_guarded_55 (by decide) (fun hc => ?_) (fun hc => ?_)
          · have hF := xx_ip hc hF
            exact qw_Model_guarded_b79 C hA hK ih  u x1 x3 _ _ _ hF (lv_sub hl [0, 1, 3] rfl) hP hD hS
          · have hF := xx_in' hc hF
            refine lv_iload_n hx hb qd_Model_guarded_58 rfl (lv_at hl 1 rfl) ?_
            refine lv_aload_n hx hb qd_Model_guarded_59 rfl (lv_at hl 0 rfl) ?_
            refine xx_get C ki_Model hK hP 0 rfl rfl 10 (by decide) kw_883 rfl rfl qd_Model_guarded_60 ?_
            refine lv_iload_n hx hb qd_Model_guarded_63 rfl (lv_at hl 3 rfl) ?_
            obtain ⟨v3, ev3, hF⟩ := xx_ob hF
            refine xx_iald C hK hP 8 0 rfl rfl ev3 qd_Model_guarded_64 ?_
            refine lv_aload_n hx hb qd_Model_guarded_65 rfl (lv_at hl 0 rfl) ?_
            refine xx_get C ki_Model hK hP 0 rfl rfl 12 (by decide) kw_885 rfl rfl qd_Model_guarded_66 ?_
            refine lv_iload_n hx hb qd_Model_guarded_69 rfl (lv_at hl 3 rfl) ?_
            obtain ⟨v4, ev4, hF⟩ := xx_ob hF
            refine xx_iald C hK hP 10 0 rfl rfl ev4 qd_Model_guarded_70 ?_
            refine lv_iadd hx hb qd_Model_guarded_71 ?_
            refine lv_icmp_ge (tgt := 79) hx hb qd_Model_guarded_72 (by decide) (fun hc => ?_) (fun hc => ?_)
            · have hF := xx_ip hc hF
              exact qw_Model_guarded_b79 C hA hK ih  u x1 x3 _ _ _ hF (lv_sub hl [0, 1, 3] rfl) hP hD hS
            · have hF := xx_in' hc hF
              exact qw_Model_guarded_b75 C hA hK ih  u x1 x3 _ _ _ hF (lv_sub hl [0, 1, 3] rfl) hP hD hS
set_option maxHeartbeats 4000000 in
set_option maxRecDepth 100000 in
theorem qc_Model_guarded (l : Launch) (g : xx_G) (u : qm_S) (x1 : Int32) (r : Int32) (u9 : qm_S) (hF : qf_Model_guarded u x1 = some (r, u9)) : xx_M l g.1 (qm_T g) (qm_W g) ky_Model_guarded kb_Model_guarded 4 (some .boolean) (xx_rm 0 0) [.ref (g.2.1 0), .int x1] u (some (.int r)) u9 := by
  refine xx_body (by decide) (Nat.le_of_ble_eq_true rfl) ?_
  intro p e s m args below meth c A ls C hin hK hl hA hP hD hS
  have hx := C.1
  have hb := C.2.1
  have hown := C.2.2.2.1
  have hts := C.2.2.2.2.1
  have hl : lv_has ls 4 [(0, .ref (g.2.1 0)), (1, .int x1)] := hl
  unfold qf_Model_guarded at hF
  refine lv_iload_n hx hb qd_Model_guarded_0 rfl (lv_at hl 1 rfl) ?_
  refine lv_if_lt (tgt := 11) hx hb qd_Model_guarded_1 (by decide) (fun hc => ?_) (fun hc => ?_)
  · have hF := xx_ip hc hF
    exact qw_Model_guarded_b11 C hA hK  u _ _ _ hF (lv_sub hl [] rfl) hP hD hS
  · have hF := xx_in' hc hF
    refine lv_iload_n hx hb qd_Model_guarded_4 rfl (lv_at hl 1 rfl) ?_
    refine lv_sipush (v := (4096 : Int32)) hx hb qd_Model_guarded_5 (by decide) ?_
    refine lv_icmp_lt (tgt := 13) hx hb qd_Model_guarded_8 (by decide) (fun hc => ?_) (fun hc => ?_)
    · have hF := xx_ip hc hF
      refine lv_iload_n hx hb qd_Model_guarded_13 rfl (lv_at hl 1 rfl) ?_
      refine lv_sipush (v := (512 : Int32)) hx hb qd_Model_guarded_14 (by decide) ?_
      refine lv_icmp_ge (tgt := 25) hx hb qd_Model_guarded_17 (by decide) (fun hc => ?_) (fun hc => ?_)
      · have hF := xx_ip hc hF
        refine lv_iconst (v := (0 : Int32)) hx hb qd_Model_guarded_25 (by decide) ?_
        obtain ⟨v1, ev1, hF⟩ := xx_nm_some hF
        refine xx_topi ev1 ?_
        refine lv_istore_n hx hb qd_Model_guarded_26 rfl hl (by decide) rfl (fun ls hl => ?_)
        refine lv_iconst (v := (0 : Int32)) hx hb qd_Model_guarded_27 (by decide) ?_
        obtain ⟨v2, ev2, hF⟩ := xx_nm_some hF
        refine xx_topi ev2 ?_
        refine lv_istore_n hx hb qd_Model_guarded_28 rfl hl (by decide) rfl (fun ls hl => ?_)
        exact qw_Model_guarded_b29 C hA hK xx_fu u x1 v1 v2 _ _ _ hF (lv_sub hl [2, 3, 1, 0] rfl) hP hD hS
      · have hF := xx_in' hc hF
        refine lv_aload_n hx hb qd_Model_guarded_20 rfl (lv_at hl 0 rfl) ?_
        refine xx_get C ki_Model hK hP 0 rfl rfl 2 (by decide) kw_875 rfl rfl qd_Model_guarded_21 ?_
        exact xx_zret C hF hK hP hD hS qd_Model_guarded_24
    · have hF := xx_in' hc hF
      exact qw_Model_guarded_b11 C hA hK  u _ _ _ hF (lv_sub hl [] rfl) hP hD hS
theorem qd_Model_isWord_0 : decode kb_Model_isWord 0 = .ok (.iload_n 0, 1) := by decide +kernel
theorem qd_Model_isWord_1 : decode kb_Model_isWord 1 = .ok (.ifCond .lt (18), 3) := by decide +kernel
theorem qd_Model_isWord_4 : decode kb_Model_isWord 4 = .ok (.iload_n 0, 1) := by decide +kernel
theorem qd_Model_isWord_5 : decode kb_Model_isWord 5 = .ok (.iload_n 1, 1) := by decide +kernel
theorem qd_Model_isWord_6 : decode kb_Model_isWord 6 = .ok (.if_icmp .ge (13), 3) := by decide +kernel
theorem qd_Model_isWord_9 : decode kb_Model_isWord 9 = .ok (.iload_n 0, 1) := by decide +kernel
theorem qd_Model_isWord_10 : decode kb_Model_isWord 10 = .ok (.iconst 4, 1) := by decide +kernel
theorem qd_Model_isWord_11 : decode kb_Model_isWord 11 = .ok (.irem, 1) := by decide +kernel
theorem qd_Model_isWord_12 : decode kb_Model_isWord 12 = .ok (.ifCond .ne (7), 3) := by decide +kernel
theorem qd_Model_isWord_15 : decode kb_Model_isWord 15 = .ok (.iconst 1, 1) := by decide +kernel
theorem qd_Model_isWord_16 : decode kb_Model_isWord 16 = .ok (.goto (4), 3) := by decide +kernel
theorem qd_Model_isWord_19 : decode kb_Model_isWord 19 = .ok (.iconst 0, 1) := by decide +kernel
theorem qd_Model_isWord_20 : decode kb_Model_isWord 20 = .ok (.ireturn, 1) := by decide +kernel
def qf_Model_isWord_b20 (u : qm_S) (y0 : Int32) : Option (Int32 × qm_S) := some (vp_nar .boolean y0, u)
def qf_Model_isWord_b19 (u : qm_S) : Option (Int32 × qm_S) := qf_Model_isWord_b20 u (0 : Int32)
def qf_Model_isWord (u : qm_S) (x0 : Int32) (x1 : Int32) : Option (Int32 × qm_S) := if x0 < 0 then (qf_Model_isWord_b19 u) else (if x1 ≤ x0 then (qf_Model_isWord_b19 u) else (if (x0 - x0 / (4 : Int32) * (4 : Int32)) = 0 then (qf_Model_isWord_b20 u (1 : Int32)) else (qf_Model_isWord_b19 u)))
set_option maxHeartbeats 4000000 in
set_option maxRecDepth 100000 in
theorem qw_Model_isWord_b20 {p : Program} {l : Launch} {e : Env} {s : State} {m : MethodId} {args : Array Value} {below : List Frame} {meth : Method} {c : Code} {A : Nat → Prop} {g : xx_G} {r : Int32} {u9 : qm_S} (C : xx_C p s m args meth c kb_Model_isWord 2 kr_Model (some .boolean)) (hA : ∀ q, s.heap.size ≤ q → A q) (hK : va_K g.1 xx_cls (qm_T g) s) : ∀ (u : qm_S) (y0 : Int32) (H : Heap) (locs : List Loc) (ls : Array Slot), qf_Model_isWord_b20 u y0 = some (r, u9) → lv_has ls 2 [] → va_P g.1 xx_cls (qm_W g u) H → va_D A (qm_W g u) → va_S A s.heap H locs → W p l e (xx_rm 0 0) s m args below meth c H locs 0 0 (MQ below (xx_Q g.1 (qm_T g) (qm_W g) (some (.int r)) u9 A) args s 0 0 A) (F0 m 20 ls [.int y0]) := by
  have hx := C.1
  have hb := C.2.1
  have hown := C.2.2.2.1
  have hts := C.2.2.2.2.1
  intro u y0 H locs ls hF hl hP hD hS
  unfold qf_Model_isWord_b20 at hF
  exact xx_zret C hF hK hP hD hS qd_Model_isWord_20
set_option maxHeartbeats 4000000 in
set_option maxRecDepth 100000 in
theorem qw_Model_isWord_b19 {p : Program} {l : Launch} {e : Env} {s : State} {m : MethodId} {args : Array Value} {below : List Frame} {meth : Method} {c : Code} {A : Nat → Prop} {g : xx_G} {r : Int32} {u9 : qm_S} (C : xx_C p s m args meth c kb_Model_isWord 2 kr_Model (some .boolean)) (hA : ∀ q, s.heap.size ≤ q → A q) (hK : va_K g.1 xx_cls (qm_T g) s) : ∀ (u : qm_S) (H : Heap) (locs : List Loc) (ls : Array Slot), qf_Model_isWord_b19 u = some (r, u9) → lv_has ls 2 [] → va_P g.1 xx_cls (qm_W g u) H → va_D A (qm_W g u) → va_S A s.heap H locs → W p l e (xx_rm 0 0) s m args below meth c H locs 0 0 (MQ below (xx_Q g.1 (qm_T g) (qm_W g) (some (.int r)) u9 A) args s 0 0 A) (F0 m 19 ls []) := by
  have hx := C.1
  have hb := C.2.1
  have hown := C.2.2.2.1
  have hts := C.2.2.2.2.1
  intro u H locs ls hF hl hP hD hS
  unfold qf_Model_isWord_b19 at hF
  refine lv_iconst (v := (0 : Int32)) hx hb qd_Model_isWord_19 (by decide) ?_
  exact qw_Model_isWord_b20 C hA hK  u (0 : Int32) _ _ _ hF (lv_sub hl [] rfl) hP hD hS
set_option maxHeartbeats 4000000 in
set_option maxRecDepth 100000 in
theorem qc_Model_isWord (l : Launch) (g : xx_G) (u : qm_S) (x0 : Int32) (x1 : Int32) (r : Int32) (u9 : qm_S) (hF : qf_Model_isWord u x0 x1 = some (r, u9)) : xx_M l g.1 (qm_T g) (qm_W g) ky_Model_isWord kb_Model_isWord 2 (some .boolean) (xx_rm 0 0) [.int x0, .int x1] u (some (.int r)) u9 := by
  refine xx_body (by decide) (Nat.le_of_ble_eq_true rfl) ?_
  intro p e s m args below meth c A ls C hin hK hl hA hP hD hS
  have hx := C.1
  have hb := C.2.1
  have hown := C.2.2.2.1
  have hts := C.2.2.2.2.1
  have hl : lv_has ls 2 [(0, .int x0), (1, .int x1)] := hl
  unfold qf_Model_isWord at hF
  refine lv_iload_n hx hb qd_Model_isWord_0 rfl (lv_at hl 0 rfl) ?_
  refine lv_if_lt (tgt := 19) hx hb qd_Model_isWord_1 (by decide) (fun hc => ?_) (fun hc => ?_)
  · have hF := xx_ip hc hF
    exact qw_Model_isWord_b19 C hA hK  u _ _ _ hF (lv_sub hl [] rfl) hP hD hS
  · have hF := xx_in' hc hF
    refine lv_iload_n hx hb qd_Model_isWord_4 rfl (lv_at hl 0 rfl) ?_
    refine lv_iload_n hx hb qd_Model_isWord_5 rfl (lv_at hl 1 rfl) ?_
    refine lv_icmp_ge (tgt := 19) hx hb qd_Model_isWord_6 (by decide) (fun hc => ?_) (fun hc => ?_)
    · have hF := xx_ip hc hF
      exact qw_Model_isWord_b19 C hA hK  u _ _ _ hF (lv_sub hl [] rfl) hP hD hS
    · have hF := xx_in' hc hF
      refine lv_iload_n hx hb qd_Model_isWord_9 rfl (lv_at hl 0 rfl) ?_
      refine lv_iconst (v := (4 : Int32)) hx hb qd_Model_isWord_10 (by decide) ?_
      refine lv_irem hx hb qd_Model_isWord_11 (by decide) ?_
      refine lv_if_ne (tgt := 19) hx hb qd_Model_isWord_12 (by decide) (fun hc => ?_) (fun hc => ?_)
      · have hF := xx_in' hc hF
        exact qw_Model_isWord_b19 C hA hK  u _ _ _ hF (lv_sub hl [] rfl) hP hD hS
      · have hF := xx_ip hc hF
        refine lv_iconst (v := (1 : Int32)) hx hb qd_Model_isWord_15 (by decide) ?_
        refine lv_goto (tgt := 20) hx hb qd_Model_isWord_16 (by decide) ?_
        exact qw_Model_isWord_b20 C hA hK  u (1 : Int32) _ _ _ hF (lv_sub hl [] rfl) hP hD hS
theorem qd_Model_seal_0 : decode kb_Model_seal 0 = .ok (.aload_n 0, 1) := by decide +kernel
theorem qd_Model_seal_1 : decode kb_Model_seal 1 = .ok (.iconst 0, 1) := by decide +kernel
theorem qd_Model_seal_2 : decode kb_Model_seal 2 = .ok (.putfield 57, 3) := by decide +kernel
theorem qd_Model_seal_5 : decode kb_Model_seal 5 = .ok (.aload_n 0, 1) := by decide +kernel
theorem qd_Model_seal_6 : decode kb_Model_seal 6 = .ok (.getfield 60, 3) := by decide +kernel
theorem qd_Model_seal_9 : decode kb_Model_seal 9 = .ok (.istore_n 1, 1) := by decide +kernel
theorem qd_Model_seal_10 : decode kb_Model_seal 10 = .ok (.aload_n 0, 1) := by decide +kernel
theorem qd_Model_seal_11 : decode kb_Model_seal 11 = .ok (.iconst 1, 1) := by decide +kernel
theorem qd_Model_seal_12 : decode kb_Model_seal 12 = .ok (.putfield 60, 3) := by decide +kernel
theorem qd_Model_seal_15 : decode kb_Model_seal 15 = .ok (.iload_n 1, 1) := by decide +kernel
theorem qd_Model_seal_16 : decode kb_Model_seal 16 = .ok (.ifCond .ne (7), 3) := by decide +kernel
theorem qd_Model_seal_19 : decode kb_Model_seal 19 = .ok (.iconst 1, 1) := by decide +kernel
theorem qd_Model_seal_20 : decode kb_Model_seal 20 = .ok (.goto (4), 3) := by decide +kernel
theorem qd_Model_seal_23 : decode kb_Model_seal 23 = .ok (.iconst 0, 1) := by decide +kernel
theorem qd_Model_seal_24 : decode kb_Model_seal 24 = .ok (.ireturn, 1) := by decide +kernel
def qf_Model_seal_b24 (u : qm_S) (y0 : Int32) : Option (Int32 × qm_S) := some (vp_nar .boolean y0, u)
def qf_Model_seal (u : qm_S) : Option (Int32 × qm_S) := xx_nm (va_up u.1 0 (0 : Int32), u.2) fun u1 => xx_nm (u1.1 2) fun v2 => xx_nm (va_up u1.1 2 (1 : Int32), u1.2) fun u3 => if v2 = 0 then (qf_Model_seal_b24 u3 (1 : Int32)) else (qf_Model_seal_b24 u3 (0 : Int32))
set_option maxHeartbeats 4000000 in
set_option maxRecDepth 100000 in
theorem qw_Model_seal_b24 {p : Program} {l : Launch} {e : Env} {s : State} {m : MethodId} {args : Array Value} {below : List Frame} {meth : Method} {c : Code} {A : Nat → Prop} {g : xx_G} {r : Int32} {u9 : qm_S} (C : xx_C p s m args meth c kb_Model_seal 2 kr_Model (some .boolean)) (hA : ∀ q, s.heap.size ≤ q → A q) (hK : va_K g.1 xx_cls (qm_T g) s) : ∀ (u : qm_S) (y0 : Int32) (H : Heap) (locs : List Loc) (ls : Array Slot), qf_Model_seal_b24 u y0 = some (r, u9) → lv_has ls 2 [] → va_P g.1 xx_cls (qm_W g u) H → va_D A (qm_W g u) → va_S A s.heap H locs → W p l e (xx_rm 0 0) s m args below meth c H locs 0 0 (MQ below (xx_Q g.1 (qm_T g) (qm_W g) (some (.int r)) u9 A) args s 0 0 A) (F0 m 24 ls [.int y0]) := by
  have hx := C.1
  have hb := C.2.1
  have hown := C.2.2.2.1
  have hts := C.2.2.2.2.1
  intro u y0 H locs ls hF hl hP hD hS
  unfold qf_Model_seal_b24 at hF
  exact xx_zret C hF hK hP hD hS qd_Model_seal_24
set_option maxHeartbeats 4000000 in
set_option maxRecDepth 100000 in
theorem qc_Model_seal (l : Launch) (g : xx_G) (u : qm_S) (r : Int32) (u9 : qm_S) (hF : qf_Model_seal u = some (r, u9)) : xx_M l g.1 (qm_T g) (qm_W g) ky_Model_seal kb_Model_seal 2 (some .boolean) (xx_rm 0 0) [.ref (g.2.1 0)] u (some (.int r)) u9 := by
  refine xx_body (by decide) (Nat.le_of_ble_eq_true rfl) ?_
  intro p e s m args below meth c A ls C hin hK hl hA hP hD hS
  have hx := C.1
  have hb := C.2.1
  have hown := C.2.2.2.1
  have hts := C.2.2.2.2.1
  have hl : lv_has ls 2 [(0, .ref (g.2.1 0))] := hl
  unfold qf_Model_seal at hF
  refine lv_aload_n hx hb qd_Model_seal_0 rfl (lv_at hl 0 rfl) ?_
  refine lv_iconst (v := (0 : Int32)) hx hb qd_Model_seal_1 (by decide) ?_
  obtain ⟨u1, eu1, hF⟩ := xx_nm_some hF
  refine xx_put (ws1 := qm_W g u1) C ki_Model kt_Model ko_Model kn_Model hK hP hD hS 0 rfl rfl 0 (by decide) kw_873 rfl rfl rfl rfl (Nat.le_of_ble_eq_true rfl) (by rw [eu1]; rfl) qd_Model_seal_2 (fun H locs hP hD hS => ?_)
  refine lv_aload_n hx hb qd_Model_seal_5 rfl (lv_at hl 0 rfl) ?_
  refine xx_get C ki_Model hK hP 0 rfl rfl 2 (by decide) kw_875 rfl rfl qd_Model_seal_6 ?_
  obtain ⟨v2, ev2, hF⟩ := xx_nm_some hF
  refine xx_topi ev2 ?_
  refine lv_istore_n hx hb qd_Model_seal_9 rfl hl (by decide) rfl (fun ls hl => ?_)
  refine lv_aload_n hx hb qd_Model_seal_10 rfl (lv_at hl 1 rfl) ?_
  refine lv_iconst (v := (1 : Int32)) hx hb qd_Model_seal_11 (by decide) ?_
  obtain ⟨u3, eu3, hF⟩ := xx_nm_some hF
  refine xx_put (ws1 := qm_W g u3) C ki_Model kt_Model ko_Model kn_Model hK hP hD hS 0 rfl rfl 2 (by decide) kw_875 rfl rfl rfl rfl (Nat.le_of_ble_eq_true rfl) (by rw [eu3]; rfl) qd_Model_seal_12 (fun H locs hP hD hS => ?_)
  refine lv_iload_n hx hb qd_Model_seal_15 rfl (lv_at hl 0 rfl) ?_
  refine lv_if_ne (tgt := 23) hx hb qd_Model_seal_16 (by decide) (fun hc => ?_) (fun hc => ?_)
  · have hF := xx_in' hc hF
    refine lv_iconst (v := (0 : Int32)) hx hb qd_Model_seal_23 (by decide) ?_
    exact qw_Model_seal_b24 C hA hK  u3 (0 : Int32) _ _ _ hF (lv_sub hl [] rfl) hP hD hS
  · have hF := xx_ip hc hF
    refine lv_iconst (v := (1 : Int32)) hx hb qd_Model_seal_19 (by decide) ?_
    refine lv_goto (tgt := 24) hx hb qd_Model_seal_20 (by decide) ?_
    exact qw_Model_seal_b24 C hA hK  u3 (1 : Int32) _ _ _ hF (lv_sub hl [] rfl) hP hD hS
theorem xx_lit8 : Int32.ofInt (8) = (8 : Int32) := by decide
theorem qd_Model_isName_0 : decode kb_Model_isName 0 = .ok (.iconst 1, 1) := by decide +kernel
theorem qd_Model_isName_1 : decode kb_Model_isName 1 = .ok (.istore_n 1, 1) := by decide +kernel
theorem qd_Model_isName_2 : decode kb_Model_isName 2 = .ok (.iconst 0, 1) := by decide +kernel
theorem qd_Model_isName_3 : decode kb_Model_isName 3 = .ok (.istore_n 2, 1) := by decide +kernel
theorem qd_Model_isName_4 : decode kb_Model_isName 4 = .ok (.iload_n 2, 1) := by decide +kernel
theorem qd_Model_isName_5 : decode kb_Model_isName 5 = .ok (.bipush (32), 2) := by decide +kernel
theorem qd_Model_isName_7 : decode kb_Model_isName 7 = .ok (.if_icmp .ge (43), 3) := by decide +kernel
theorem qd_Model_isName_10 : decode kb_Model_isName 10 = .ok (.iload_n 1, 1) := by decide +kernel
theorem qd_Model_isName_11 : decode kb_Model_isName 11 = .ok (.ifCond .eq (31), 3) := by decide +kernel
theorem qd_Model_isName_14 : decode kb_Model_isName 14 = .ok (.iload_n 0, 1) := by decide +kernel
theorem qd_Model_isName_15 : decode kb_Model_isName 15 = .ok (.iload_n 2, 1) := by decide +kernel
theorem qd_Model_isName_16 : decode kb_Model_isName 16 = .ok (.ishr, 1) := by decide +kernel
theorem qd_Model_isName_17 : decode kb_Model_isName 17 = .ok (.sipush (255), 3) := by decide +kernel
theorem qd_Model_isName_20 : decode kb_Model_isName 20 = .ok (.iand, 1) := by decide +kernel
theorem qd_Model_isName_21 : decode kb_Model_isName 21 = .ok (.bipush (97), 2) := by decide +kernel
theorem qd_Model_isName_23 : decode kb_Model_isName 23 = .ok (.if_icmp .lt (19), 3) := by decide +kernel
theorem qd_Model_isName_26 : decode kb_Model_isName 26 = .ok (.iload_n 0, 1) := by decide +kernel
theorem qd_Model_isName_27 : decode kb_Model_isName 27 = .ok (.iload_n 2, 1) := by decide +kernel
theorem qd_Model_isName_28 : decode kb_Model_isName 28 = .ok (.ishr, 1) := by decide +kernel
theorem qd_Model_isName_29 : decode kb_Model_isName 29 = .ok (.sipush (255), 3) := by decide +kernel
theorem qd_Model_isName_32 : decode kb_Model_isName 32 = .ok (.iand, 1) := by decide +kernel
theorem qd_Model_isName_33 : decode kb_Model_isName 33 = .ok (.bipush (122), 2) := by decide +kernel
theorem qd_Model_isName_35 : decode kb_Model_isName 35 = .ok (.if_icmp .gt (7), 3) := by decide +kernel
theorem qd_Model_isName_38 : decode kb_Model_isName 38 = .ok (.iconst 1, 1) := by decide +kernel
theorem qd_Model_isName_39 : decode kb_Model_isName 39 = .ok (.goto (4), 3) := by decide +kernel
theorem qd_Model_isName_42 : decode kb_Model_isName 42 = .ok (.iconst 0, 1) := by decide +kernel
theorem qd_Model_isName_43 : decode kb_Model_isName 43 = .ok (.istore_n 1, 1) := by decide +kernel
theorem qd_Model_isName_44 : decode kb_Model_isName 44 = .ok (.iinc 2 (8), 3) := by decide +kernel
theorem qd_Model_isName_47 : decode kb_Model_isName 47 = .ok (.goto (-43), 3) := by decide +kernel
theorem qd_Model_isName_50 : decode kb_Model_isName 50 = .ok (.iload_n 1, 1) := by decide +kernel
theorem qd_Model_isName_51 : decode kb_Model_isName 51 = .ok (.ireturn, 1) := by decide +kernel
def qf_Model_isName_b43 (rec4 : qm_S → Int32 → Int32 → Int32 → Option (Int32 × qm_S)) (u : qm_S) (x0 : Int32) (x2 : Int32) (y0 : Int32) : Option (Int32 × qm_S) := xx_nm (x2 + (8 : Int32)) fun v1 => rec4 u x0 y0 v1
def qf_Model_isName_b42 (rec4 : qm_S → Int32 → Int32 → Int32 → Option (Int32 × qm_S)) (u : qm_S) (x0 : Int32) (x2 : Int32) : Option (Int32 × qm_S) := qf_Model_isName_b43 rec4 u x0 x2 (0 : Int32)
def qf_Model_isName_b4 : Nat → qm_S → Int32 → Int32 → Int32 → Option (Int32 × qm_S)
  | 0, _, _, _, _ => none
  | n + 1, u, x0, x1, x2 => if (32 : Int32) ≤ x2 then (some (vp_nar .boolean x1, u)) else (if x1 = 0 then (qf_Model_isName_b42 (qf_Model_isName_b4 n) u x0 x2) else (if ((x0 >>> (x2 &&& 31)) &&& (255 : Int32)) < (97 : Int32) then (qf_Model_isName_b42 (qf_Model_isName_b4 n) u x0 x2) else (if (122 : Int32) < ((x0 >>> (x2 &&& 31)) &&& (255 : Int32)) then (qf_Model_isName_b42 (qf_Model_isName_b4 n) u x0 x2) else (qf_Model_isName_b43 (qf_Model_isName_b4 n) u x0 x2 (1 : Int32)))))
def qf_Model_isName (u : qm_S) (x0 : Int32) : Option (Int32 × qm_S) := xx_nm (1 : Int32) fun v1 => xx_nm (0 : Int32) fun v2 => qf_Model_isName_b4 xx_fu u x0 v1 v2
set_option maxHeartbeats 4000000 in
set_option maxRecDepth 100000 in
theorem qw_Model_isName_b43 {p : Program} {l : Launch} {e : Env} {s : State} {m : MethodId} {args : Array Value} {below : List Frame} {meth : Method} {c : Code} {A : Nat → Prop} {g : xx_G} {r : Int32} {u9 : qm_S} (C : xx_C p s m args meth c kb_Model_isName 3 kr_Model (some .boolean)) (hA : ∀ q, s.heap.size ≤ q → A q) (hK : va_K g.1 xx_cls (qm_T g) s) {rec4 : qm_S → Int32 → Int32 → Int32 → Option (Int32 × qm_S)} (hrec4 : ∀ (u : qm_S) (x0 : Int32) (x1 : Int32) (x2 : Int32) (H : Heap) (locs : List Loc) (ls : Array Slot), rec4 u x0 x1 x2 = some (r, u9) → lv_has ls 3 [(0, .int x0), (1, .int x1), (2, .int x2)] → va_P g.1 xx_cls (qm_W g u) H → va_D A (qm_W g u) → va_S A s.heap H locs → W p l e (xx_rm 0 0) s m args below meth c H locs 0 0 (MQ below (xx_Q g.1 (qm_T g) (qm_W g) (some (.int r)) u9 A) args s 0 0 A) (F0 m 4 ls [])) : ∀ (u : qm_S) (x0 : Int32) (x2 : Int32) (y0 : Int32) (H : Heap) (locs : List Loc) (ls : Array Slot), qf_Model_isName_b43 rec4 u x0 x2 y0 = some (r, u9) → lv_has ls 3 [(0, .int x0), (2, .int x2)] → va_P g.1 xx_cls (qm_W g u) H → va_D A (qm_W g u) → va_S A s.heap H locs → W p l e (xx_rm 0 0) s m args below meth c H locs 0 0 (MQ below (xx_Q g.1 (qm_T g) (qm_W g) (some (.int r)) u9 A) args s 0 0 A) (F0 m 43 ls [.int y0]) := by
  have hx := C.1
  have hb := C.2.1
  have hown := C.2.2.2.1
  have hts := C.2.2.2.2.1
  intro u x0 x2 y0 H locs ls hF hl hP hD hS
  unfold qf_Model_isName_b43 at hF
  refine lv_istore_n hx hb qd_Model_isName_43 rfl hl (by decide) rfl (fun ls hl => ?_)
  obtain ⟨v1, ev1, hF⟩ := xx_nm_some hF
  refine lv_iinc (k := 2) (v := v1) hx hb qd_Model_isName_44 hl rfl (by rw [ev1, xx_lit8]) (by decide) rfl (fun ls hl => ?_)
  refine lv_goto (tgt := 4) hx hb qd_Model_isName_47 (by decide) ?_
  exact hrec4 u x0 y0 v1 _ _ _ hF (lv_sub hl [2, 1, 0] rfl) hP hD hS
set_option maxHeartbeats 4000000 in
set_option maxRecDepth 100000 in
theorem qw_Model_isName_b42 {p : Program} {l : Launch} {e : Env} {s : State} {m : MethodId} {args : Array Value} {below : List Frame} {meth : Method} {c : Code} {A : Nat → Prop} {g : xx_G} {r : Int32} {u9 : qm_S} (C : xx_C p s m args meth c kb_Model_isName 3 kr_Model (some .boolean)) (hA : ∀ q, s.heap.size ≤ q → A q) (hK : va_K g.1 xx_cls (qm_T g) s) {rec4 : qm_S → Int32 → Int32 → Int32 → Option (Int32 × qm_S)} (hrec4 : ∀ (u : qm_S) (x0 : Int32) (x1 : Int32) (x2 : Int32) (H : Heap) (locs : List Loc) (ls : Array Slot), rec4 u x0 x1 x2 = some (r, u9) → lv_has ls 3 [(0, .int x0), (1, .int x1), (2, .int x2)] → va_P g.1 xx_cls (qm_W g u) H → va_D A (qm_W g u) → va_S A s.heap H locs → W p l e (xx_rm 0 0) s m args below meth c H locs 0 0 (MQ below (xx_Q g.1 (qm_T g) (qm_W g) (some (.int r)) u9 A) args s 0 0 A) (F0 m 4 ls [])) : ∀ (u : qm_S) (x0 : Int32) (x2 : Int32) (H : Heap) (locs : List Loc) (ls : Array Slot), qf_Model_isName_b42 rec4 u x0 x2 = some (r, u9) → lv_has ls 3 [(0, .int x0), (2, .int x2)] → va_P g.1 xx_cls (qm_W g u) H → va_D A (qm_W g u) → va_S A s.heap H locs → W p l e (xx_rm 0 0) s m args below meth c H locs 0 0 (MQ below (xx_Q g.1 (qm_T g) (qm_W g) (some (.int r)) u9 A) args s 0 0 A) (F0 m 42 ls []) := by
  have hx := C.1
  have hb := C.2.1
  have hown := C.2.2.2.1
  have hts := C.2.2.2.2.1
  intro u x0 x2 H locs ls hF hl hP hD hS
  unfold qf_Model_isName_b42 at hF
  refine lv_iconst (v := (0 : Int32)) hx hb qd_Model_isName_42 (by decide) ?_
  exact qw_Model_isName_b43 C hA hK hrec4  u x0 x2 (0 : Int32) _ _ _ hF (lv_sub hl [0, 1] rfl) hP hD hS
set_option maxHeartbeats 4000000 in
set_option maxRecDepth 100000 in
theorem qw_Model_isName_b4 {p : Program} {l : Launch} {e : Env} {s : State} {m : MethodId} {args : Array Value} {below : List Frame} {meth : Method} {c : Code} {A : Nat → Prop} {g : xx_G} {r : Int32} {u9 : qm_S} (C : xx_C p s m args meth c kb_Model_isName 3 kr_Model (some .boolean)) (hA : ∀ q, s.heap.size ≤ q → A q) (hK : va_K g.1 xx_cls (qm_T g) s) : ∀ (n : Nat), ∀ (u : qm_S) (x0 : Int32) (x1 : Int32) (x2 : Int32) (H : Heap) (locs : List Loc) (ls : Array Slot), qf_Model_isName_b4 n u x0 x1 x2 = some (r, u9) → lv_has ls 3 [(0, .int x0), (1, .int x1), (2, .int x2)] → va_P g.1 xx_cls (qm_W g u) H → va_D A (qm_W g u) → va_S A s.heap H locs → W p l e (xx_rm 0 0) s m args below meth c H locs 0 0 (MQ below (xx_Q g.1 (qm_T g) (qm_W g) (some (.int r)) u9 A) args s 0 0 A) (F0 m 4 ls []) := by
  have hx := C.1
  have hb := C.2.1
  have hown := C.2.2.2.1
  have hts := C.2.2.2.2.1
  intro n
  induction n with
  | zero =>
    intro u x0 x1 x2 H locs ls hF
    rw [qf_Model_isName_b4] at hF
    cases hF
  | succ n ih =>
    intro u x0 x1 x2 H locs ls hF hl hP hD hS
    rw [qf_Model_isName_b4] at hF
    refine lv_iload_n hx hb qd_Model_isName_4 rfl (lv_at hl 2 rfl) ?_
    refine lv_bipush (v := (32 : Int32)) hx hb qd_Model_isName_5 (by decide) ?_
    refine lv_icmp_ge (tgt := 50) hx hb qd_Model_isName_7 (by decide) (fun hc => ?_) (fun hc => ?_)
    · have hF := xx_ip hc hF
      refine lv_iload_n hx hb qd_Model_isName_50 rfl (lv_at hl 1 rfl) ?_
      exact xx_zret C hF hK hP hD hS qd_Model_isName_51
    · have hF := xx_in' hc hF
      refine lv_iload_n hx hb qd_Model_isName_10 rfl (lv_at hl 1 rfl) ?_
      refine lv_if_eq (tgt := 42) hx hb qd_Model_isName_11 (by decide) (fun hc => ?_) (fun hc => ?_)
      · have hF := xx_ip hc hF
        exact qw_Model_isName_b42 C hA hK ih  u x0 x2 _ _ _ hF (lv_sub hl [0, 2] rfl) hP hD hS
      · have hF := xx_in' hc hF
        refine lv_iload_n hx hb qd_Model_isName_14 rfl (lv_at hl 0 rfl) ?_
        refine lv_iload_n hx hb qd_Model_isName_15 rfl (lv_at hl 2 rfl) ?_
        refine lv_ishr hx hb qd_Model_isName_16 ?_
        refine lv_sipush (v := (255 : Int32)) hx hb qd_Model_isName_17 (by decide) ?_
        refine lv_iand hx hb qd_Model_isName_20 ?_
        refine lv_bipush (v := (97 : Int32)) hx hb qd_Model_isName_21 (by decide) ?_
        refine lv_icmp_lt (tgt := 42) hx hb qd_Model_isName_23 (by decide) (fun hc => ?_) (fun hc => ?_)
        · have hF := xx_ip hc hF
          exact qw_Model_isName_b42 C hA hK ih  u x0 x2 _ _ _ hF (lv_sub hl [0, 2] rfl) hP hD hS
        · have hF := xx_in' hc hF
          refine lv_iload_n hx hb qd_Model_isName_26 rfl (lv_at hl 0 rfl) ?_
          refine lv_iload_n hx hb qd_Model_isName_27 rfl (lv_at hl 2 rfl) ?_
          refine lv_ishr hx hb qd_Model_isName_28 ?_
          refine lv_sipush (v := (255 : Int32)) hx hb qd_Model_isName_29 (by decide) ?_
          refine lv_iand hx hb qd_Model_isName_32 ?_
          refine lv_bipush (v := (122 : Int32)) hx hb qd_Model_isName_33 (by decide) ?_
          refine lv_icmp_gt (tgt := 42) hx hb qd_Model_isName_35 (by decide) (fun hc => ?_) (fun hc => ?_)
          · have hF := xx_ip hc hF
            exact qw_Model_isName_b42 C hA hK ih  u x0 x2 _ _ _ hF (lv_sub hl [0, 2] rfl) hP hD hS
          · have hF := xx_in' hc hF
            refine lv_iconst (v := (1 : Int32)) hx hb qd_Model_isName_38 (by decide) ?_
            refine lv_goto (tgt := 43) hx hb qd_Model_isName_39 (by decide) ?_
            exact qw_Model_isName_b43 C hA hK ih  u x0 x2 (1 : Int32) _ _ _ hF (lv_sub hl [0, 2] rfl) hP hD hS
set_option maxHeartbeats 4000000 in
set_option maxRecDepth 100000 in
theorem qc_Model_isName (l : Launch) (g : xx_G) (u : qm_S) (x0 : Int32) (r : Int32) (u9 : qm_S) (hF : qf_Model_isName u x0 = some (r, u9)) : xx_M l g.1 (qm_T g) (qm_W g) ky_Model_isName kb_Model_isName 3 (some .boolean) (xx_rm 0 0) [.int x0] u (some (.int r)) u9 := by
  refine xx_body (by decide) (Nat.le_of_ble_eq_true rfl) ?_
  intro p e s m args below meth c A ls C hin hK hl hA hP hD hS
  have hx := C.1
  have hb := C.2.1
  have hown := C.2.2.2.1
  have hts := C.2.2.2.2.1
  have hl : lv_has ls 3 [(0, .int x0)] := hl
  unfold qf_Model_isName at hF
  refine lv_iconst (v := (1 : Int32)) hx hb qd_Model_isName_0 (by decide) ?_
  obtain ⟨v1, ev1, hF⟩ := xx_nm_some hF
  refine xx_topi ev1 ?_
  refine lv_istore_n hx hb qd_Model_isName_1 rfl hl (by decide) rfl (fun ls hl => ?_)
  refine lv_iconst (v := (0 : Int32)) hx hb qd_Model_isName_2 (by decide) ?_
  obtain ⟨v2, ev2, hF⟩ := xx_nm_some hF
  refine xx_topi ev2 ?_
  refine lv_istore_n hx hb qd_Model_isName_3 rfl hl (by decide) rfl (fun ls hl => ?_)
  exact qw_Model_isName_b4 C hA hK xx_fu u x0 v1 v2 _ _ _ hF (lv_sub hl [2, 1, 0] rfl) hP hD hS
theorem kw_876 : Cond.fieldLink "ModuleLoaderModel" 80 "ModuleLoaderModel" "symbols" "I" ∈ xx_tb := xx_in (List.mem_append_right _ (List.mem_of_getElem? (i := 876) (by decide +kernel))) (by decide +kernel)
theorem kw_877 : Cond.fieldLink "ModuleLoaderModel" 13 "ModuleLoaderModel" "symbolName" "[I" ∈ xx_tb := xx_in (List.mem_append_right _ (List.mem_of_getElem? (i := 877) (by decide +kernel))) (by decide +kernel)
theorem qd_Model_find_0 : decode kb_Model_find 0 = .ok (.iconst 0, 1) := by decide +kernel
theorem qd_Model_find_1 : decode kb_Model_find 1 = .ok (.istore_n 2, 1) := by decide +kernel
theorem qd_Model_find_2 : decode kb_Model_find 2 = .ok (.iload_n 2, 1) := by decide +kernel
theorem qd_Model_find_3 : decode kb_Model_find 3 = .ok (.aload_n 0, 1) := by decide +kernel
theorem qd_Model_find_4 : decode kb_Model_find 4 = .ok (.getfield 80, 3) := by decide +kernel
theorem qd_Model_find_7 : decode kb_Model_find 7 = .ok (.if_icmp .ge (19), 3) := by decide +kernel
theorem qd_Model_find_10 : decode kb_Model_find 10 = .ok (.aload_n 0, 1) := by decide +kernel
theorem qd_Model_find_11 : decode kb_Model_find 11 = .ok (.getfield 13, 3) := by decide +kernel
theorem qd_Model_find_14 : decode kb_Model_find 14 = .ok (.iload_n 2, 1) := by decide +kernel
theorem qd_Model_find_15 : decode kb_Model_find 15 = .ok (.iaload, 1) := by decide +kernel
theorem qd_Model_find_16 : decode kb_Model_find 16 = .ok (.iload_n 1, 1) := by decide +kernel
theorem qd_Model_find_17 : decode kb_Model_find 17 = .ok (.if_icmp .eq (9), 3) := by decide +kernel
theorem qd_Model_find_20 : decode kb_Model_find 20 = .ok (.iinc 2 (1), 3) := by decide +kernel
theorem qd_Model_find_23 : decode kb_Model_find 23 = .ok (.goto (-21), 3) := by decide +kernel
theorem qd_Model_find_26 : decode kb_Model_find 26 = .ok (.iload_n 2, 1) := by decide +kernel
theorem qd_Model_find_27 : decode kb_Model_find 27 = .ok (.aload_n 0, 1) := by decide +kernel
theorem qd_Model_find_28 : decode kb_Model_find 28 = .ok (.getfield 80, 3) := by decide +kernel
theorem qd_Model_find_31 : decode kb_Model_find 31 = .ok (.if_icmp .ge (7), 3) := by decide +kernel
theorem qd_Model_find_34 : decode kb_Model_find 34 = .ok (.iload_n 2, 1) := by decide +kernel
theorem qd_Model_find_35 : decode kb_Model_find 35 = .ok (.goto (4), 3) := by decide +kernel
theorem qd_Model_find_38 : decode kb_Model_find 38 = .ok (.iconst (-1), 1) := by decide +kernel
theorem qd_Model_find_39 : decode kb_Model_find 39 = .ok (.ireturn, 1) := by decide +kernel
def qf_Model_find_b39 (u : qm_S) (y0 : Int32) : Option (Int32 × qm_S) := some (y0, u)
def qf_Model_find_b26 (u : qm_S) (x2 : Int32) : Option (Int32 × qm_S) := if (u.1 3) ≤ x2 then (qf_Model_find_b39 u (-1 : Int32)) else (qf_Model_find_b39 u x2)
def qf_Model_find_b2 : Nat → qm_S → Int32 → Int32 → Option (Int32 × qm_S)
  | 0, _, _, _ => none
  | n + 1, u, x1, x2 => if (u.1 3) ≤ x2 then (qf_Model_find_b26 u x2) else ((xx_ag (u.2 2) 40 x2).bind fun v1 => if v1 = x1 then (qf_Model_find_b26 u x2) else (xx_nm (x2 + (1 : Int32)) fun v2 => (qf_Model_find_b2 n) u x1 v2))
def qf_Model_find (u : qm_S) (x1 : Int32) : Option (Int32 × qm_S) := xx_nm (0 : Int32) fun v1 => qf_Model_find_b2 xx_fu u x1 v1
set_option maxHeartbeats 4000000 in
set_option maxRecDepth 100000 in
theorem qw_Model_find_b39 {p : Program} {l : Launch} {e : Env} {s : State} {m : MethodId} {args : Array Value} {below : List Frame} {meth : Method} {c : Code} {A : Nat → Prop} {g : xx_G} {r : Int32} {u9 : qm_S} (C : xx_C p s m args meth c kb_Model_find 3 kr_Model (some .int)) (hA : ∀ q, s.heap.size ≤ q → A q) (hK : va_K g.1 xx_cls (qm_T g) s) : ∀ (u : qm_S) (y0 : Int32) (H : Heap) (locs : List Loc) (ls : Array Slot), qf_Model_find_b39 u y0 = some (r, u9) → lv_has ls 3 [] → va_P g.1 xx_cls (qm_W g u) H → va_D A (qm_W g u) → va_S A s.heap H locs → W p l e (xx_rm 0 0) s m args below meth c H locs 0 0 (MQ below (xx_Q g.1 (qm_T g) (qm_W g) (some (.int r)) u9 A) args s 0 0 A) (F0 m 39 ls [.int y0]) := by
  have hx := C.1
  have hb := C.2.1
  have hown := C.2.2.2.1
  have hts := C.2.2.2.2.1
  intro u y0 H locs ls hF hl hP hD hS
  unfold qf_Model_find_b39 at hF
  exact xx_iret C hF hK hP hD hS qd_Model_find_39
set_option maxHeartbeats 4000000 in
set_option maxRecDepth 100000 in
theorem qw_Model_find_b26 {p : Program} {l : Launch} {e : Env} {s : State} {m : MethodId} {args : Array Value} {below : List Frame} {meth : Method} {c : Code} {A : Nat → Prop} {g : xx_G} {r : Int32} {u9 : qm_S} (C : xx_C p s m args meth c kb_Model_find 3 kr_Model (some .int)) (hA : ∀ q, s.heap.size ≤ q → A q) (hK : va_K g.1 xx_cls (qm_T g) s) : ∀ (u : qm_S) (x2 : Int32) (H : Heap) (locs : List Loc) (ls : Array Slot), qf_Model_find_b26 u x2 = some (r, u9) → lv_has ls 3 [(0, .ref (g.2.1 0)), (2, .int x2)] → va_P g.1 xx_cls (qm_W g u) H → va_D A (qm_W g u) → va_S A s.heap H locs → W p l e (xx_rm 0 0) s m args below meth c H locs 0 0 (MQ below (xx_Q g.1 (qm_T g) (qm_W g) (some (.int r)) u9 A) args s 0 0 A) (F0 m 26 ls []) := by
  have hx := C.1
  have hb := C.2.1
  have hown := C.2.2.2.1
  have hts := C.2.2.2.2.1
  intro u x2 H locs ls hF hl hP hD hS
  unfold qf_Model_find_b26 at hF
  refine lv_iload_n hx hb qd_Model_find_26 rfl (lv_at hl 1 rfl) ?_
  refine lv_aload_n hx hb qd_Model_find_27 rfl (lv_at hl 0 rfl) ?_
  refine xx_get C ki_Model hK hP 0 rfl rfl 3 (by decide) kw_876 rfl rfl qd_Model_find_28 ?_
  refine lv_icmp_ge (tgt := 38) hx hb qd_Model_find_31 (by decide) (fun hc => ?_) (fun hc => ?_)
  · have hF := xx_ip hc hF
    refine lv_iconst (v := (-1 : Int32)) hx hb qd_Model_find_38 (by decide) ?_
    exact qw_Model_find_b39 C hA hK  u (-1 : Int32) _ _ _ hF (lv_sub hl [] rfl) hP hD hS
  · have hF := xx_in' hc hF
    refine lv_iload_n hx hb qd_Model_find_34 rfl (lv_at hl 1 rfl) ?_
    refine lv_goto (tgt := 39) hx hb qd_Model_find_35 (by decide) ?_
    exact qw_Model_find_b39 C hA hK  u x2 _ _ _ hF (lv_sub hl [] rfl) hP hD hS
set_option maxHeartbeats 4000000 in
set_option maxRecDepth 100000 in
theorem qw_Model_find_b2 {p : Program} {l : Launch} {e : Env} {s : State} {m : MethodId} {args : Array Value} {below : List Frame} {meth : Method} {c : Code} {A : Nat → Prop} {g : xx_G} {r : Int32} {u9 : qm_S} (C : xx_C p s m args meth c kb_Model_find 3 kr_Model (some .int)) (hA : ∀ q, s.heap.size ≤ q → A q) (hK : va_K g.1 xx_cls (qm_T g) s) : ∀ (n : Nat), ∀ (u : qm_S) (x1 : Int32) (x2 : Int32) (H : Heap) (locs : List Loc) (ls : Array Slot), qf_Model_find_b2 n u x1 x2 = some (r, u9) → lv_has ls 3 [(0, .ref (g.2.1 0)), (1, .int x1), (2, .int x2)] → va_P g.1 xx_cls (qm_W g u) H → va_D A (qm_W g u) → va_S A s.heap H locs → W p l e (xx_rm 0 0) s m args below meth c H locs 0 0 (MQ below (xx_Q g.1 (qm_T g) (qm_W g) (some (.int r)) u9 A) args s 0 0 A) (F0 m 2 ls []) := by
  have hx := C.1
  have hb := C.2.1
  have hown := C.2.2.2.1
  have hts := C.2.2.2.2.1
  intro n
  induction n with
  | zero =>
    intro u x1 x2 H locs ls hF
    rw [qf_Model_find_b2] at hF
    cases hF
  | succ n ih =>
    intro u x1 x2 H locs ls hF hl hP hD hS
    rw [qf_Model_find_b2] at hF
    refine lv_iload_n hx hb qd_Model_find_2 rfl (lv_at hl 2 rfl) ?_
    refine lv_aload_n hx hb qd_Model_find_3 rfl (lv_at hl 0 rfl) ?_
    refine xx_get C ki_Model hK hP 0 rfl rfl 3 (by decide) kw_876 rfl rfl qd_Model_find_4 ?_
    refine lv_icmp_ge (tgt := 26) hx hb qd_Model_find_7 (by decide) (fun hc => ?_) (fun hc => ?_)
    · have hF := xx_ip hc hF
      exact qw_Model_find_b26 C hA hK  u x2 _ _ _ hF (lv_sub hl [0, 2] rfl) hP hD hS
    · have hF := xx_in' hc hF
      refine lv_aload_n hx hb qd_Model_find_10 rfl (lv_at hl 0 rfl) ?_
      refine xx_get C ki_Model hK hP 0 rfl rfl 4 (by decide) kw_877 rfl rfl qd_Model_find_11 ?_
      refine lv_iload_n hx hb qd_Model_find_14 rfl (lv_at hl 2 rfl) ?_
      obtain ⟨v1, ev1, hF⟩ := xx_ob hF
      refine xx_iald C hK hP 2 0 rfl rfl ev1 qd_Model_find_15 ?_
      refine lv_iload_n hx hb qd_Model_find_16 rfl (lv_at hl 1 rfl) ?_
      refine lv_icmp_eq (tgt := 26) hx hb qd_Model_find_17 (by decide) (fun hc => ?_) (fun hc => ?_)
      · have hF := xx_ip hc hF
        exact qw_Model_find_b26 C hA hK  u x2 _ _ _ hF (lv_sub hl [0, 2] rfl) hP hD hS
      · have hF := xx_in' hc hF
        obtain ⟨v2, ev2, hF⟩ := xx_nm_some hF
        refine lv_iinc (k := 2) (v := v2) hx hb qd_Model_find_20 hl rfl (by rw [ev2, xx_lit1]) (by decide) rfl (fun ls hl => ?_)
        refine lv_goto (tgt := 2) hx hb qd_Model_find_23 (by decide) ?_
        exact ih u x1 v2 _ _ _ hF (lv_sub hl [1, 2, 0] rfl) hP hD hS
set_option maxHeartbeats 4000000 in
set_option maxRecDepth 100000 in
theorem qc_Model_find (l : Launch) (g : xx_G) (u : qm_S) (x1 : Int32) (r : Int32) (u9 : qm_S) (hF : qf_Model_find u x1 = some (r, u9)) : xx_M l g.1 (qm_T g) (qm_W g) ky_Model_find kb_Model_find 3 (some .int) (xx_rm 0 0) [.ref (g.2.1 0), .int x1] u (some (.int r)) u9 := by
  refine xx_body (by decide) (Nat.le_of_ble_eq_true rfl) ?_
  intro p e s m args below meth c A ls C hin hK hl hA hP hD hS
  have hx := C.1
  have hb := C.2.1
  have hown := C.2.2.2.1
  have hts := C.2.2.2.2.1
  have hl : lv_has ls 3 [(0, .ref (g.2.1 0)), (1, .int x1)] := hl
  unfold qf_Model_find at hF
  refine lv_iconst (v := (0 : Int32)) hx hb qd_Model_find_0 (by decide) ?_
  obtain ⟨v1, ev1, hF⟩ := xx_nm_some hF
  refine xx_topi ev1 ?_
  refine lv_istore_n hx hb qd_Model_find_1 rfl hl (by decide) rfl (fun ls hl => ?_)
  exact qw_Model_find_b2 C hA hK xx_fu u x1 v1 _ _ _ hF (lv_sub hl [1, 2, 0] rfl) hP hD hS
theorem kw_882 : Cond.fieldLink "ModuleLoaderModel" 29 "ModuleLoaderModel" "moduleName" "[I" ∈ xx_tb := xx_in (List.mem_append_right _ (List.mem_of_getElem? (i := 882) (by decide +kernel))) (by decide +kernel)
theorem qd_Model_numberOf_0 : decode kb_Model_numberOf 0 = .ok (.iconst 0, 1) := by decide +kernel
theorem qd_Model_numberOf_1 : decode kb_Model_numberOf 1 = .ok (.istore_n 2, 1) := by decide +kernel
theorem qd_Model_numberOf_2 : decode kb_Model_numberOf 2 = .ok (.iload_n 2, 1) := by decide +kernel
theorem qd_Model_numberOf_3 : decode kb_Model_numberOf 3 = .ok (.bipush (12), 2) := by decide +kernel
theorem qd_Model_numberOf_5 : decode kb_Model_numberOf 5 = .ok (.if_icmp .ge (28), 3) := by decide +kernel
theorem qd_Model_numberOf_8 : decode kb_Model_numberOf 8 = .ok (.aload_n 0, 1) := by decide +kernel
theorem qd_Model_numberOf_9 : decode kb_Model_numberOf 9 = .ok (.getfield 25, 3) := by decide +kernel
theorem qd_Model_numberOf_12 : decode kb_Model_numberOf 12 = .ok (.iload_n 2, 1) := by decide +kernel
theorem qd_Model_numberOf_13 : decode kb_Model_numberOf 13 = .ok (.baload, 1) := by decide +kernel
theorem qd_Model_numberOf_14 : decode kb_Model_numberOf 14 = .ok (.ifCond .eq (13), 3) := by decide +kernel
theorem qd_Model_numberOf_17 : decode kb_Model_numberOf 17 = .ok (.aload_n 0, 1) := by decide +kernel
theorem qd_Model_numberOf_18 : decode kb_Model_numberOf 18 = .ok (.getfield 29, 3) := by decide +kernel
theorem qd_Model_numberOf_21 : decode kb_Model_numberOf 21 = .ok (.iload_n 2, 1) := by decide +kernel
theorem qd_Model_numberOf_22 : decode kb_Model_numberOf 22 = .ok (.iaload, 1) := by decide +kernel
theorem qd_Model_numberOf_23 : decode kb_Model_numberOf 23 = .ok (.iload_n 1, 1) := by decide +kernel
theorem qd_Model_numberOf_24 : decode kb_Model_numberOf 24 = .ok (.if_icmp .eq (9), 3) := by decide +kernel
theorem qd_Model_numberOf_27 : decode kb_Model_numberOf 27 = .ok (.iinc 2 (1), 3) := by decide +kernel
theorem qd_Model_numberOf_30 : decode kb_Model_numberOf 30 = .ok (.goto (-28), 3) := by decide +kernel
theorem qd_Model_numberOf_33 : decode kb_Model_numberOf 33 = .ok (.iload_n 2, 1) := by decide +kernel
theorem qd_Model_numberOf_34 : decode kb_Model_numberOf 34 = .ok (.bipush (12), 2) := by decide +kernel
theorem qd_Model_numberOf_36 : decode kb_Model_numberOf 36 = .ok (.if_icmp .ge (7), 3) := by decide +kernel
theorem qd_Model_numberOf_39 : decode kb_Model_numberOf 39 = .ok (.iload_n 2, 1) := by decide +kernel
theorem qd_Model_numberOf_40 : decode kb_Model_numberOf 40 = .ok (.goto (4), 3) := by decide +kernel
theorem qd_Model_numberOf_43 : decode kb_Model_numberOf 43 = .ok (.iconst (-1), 1) := by decide +kernel
theorem qd_Model_numberOf_44 : decode kb_Model_numberOf 44 = .ok (.ireturn, 1) := by decide +kernel
def qf_Model_numberOf_b27 (rec2 : qm_S → Int32 → Int32 → Option (Int32 × qm_S)) (u : qm_S) (x1 : Int32) (x2 : Int32) : Option (Int32 × qm_S) := xx_nm (x2 + (1 : Int32)) fun v1 => rec2 u x1 v1
def qf_Model_numberOf_b44 (u : qm_S) (y0 : Int32) : Option (Int32 × qm_S) := some (y0, u)
def qf_Model_numberOf_b33 (u : qm_S) (x2 : Int32) : Option (Int32 × qm_S) := if (12 : Int32) ≤ x2 then (qf_Model_numberOf_b44 u (-1 : Int32)) else (qf_Model_numberOf_b44 u x2)
def qf_Model_numberOf_b2 : Nat → qm_S → Int32 → Int32 → Option (Int32 × qm_S)
  | 0, _, _, _ => none
  | n + 1, u, x1, x2 => if (12 : Int32) ≤ x2 then (qf_Model_numberOf_b33 u x2) else ((xx_ag (u.2 6) 12 x2).bind fun v1 => if v1 = 0 then (qf_Model_numberOf_b27 (qf_Model_numberOf_b2 n) u x1 x2) else ((xx_ag (u.2 7) 12 x2).bind fun v2 => if v2 = x1 then (qf_Model_numberOf_b33 u x2) else (qf_Model_numberOf_b27 (qf_Model_numberOf_b2 n) u x1 x2)))
def qf_Model_numberOf (u : qm_S) (x1 : Int32) : Option (Int32 × qm_S) := xx_nm (0 : Int32) fun v1 => qf_Model_numberOf_b2 xx_fu u x1 v1
set_option maxHeartbeats 4000000 in
set_option maxRecDepth 100000 in
theorem qw_Model_numberOf_b27 {p : Program} {l : Launch} {e : Env} {s : State} {m : MethodId} {args : Array Value} {below : List Frame} {meth : Method} {c : Code} {A : Nat → Prop} {g : xx_G} {r : Int32} {u9 : qm_S} (C : xx_C p s m args meth c kb_Model_numberOf 3 kr_Model (some .int)) (hA : ∀ q, s.heap.size ≤ q → A q) (hK : va_K g.1 xx_cls (qm_T g) s) {rec2 : qm_S → Int32 → Int32 → Option (Int32 × qm_S)} (hrec2 : ∀ (u : qm_S) (x1 : Int32) (x2 : Int32) (H : Heap) (locs : List Loc) (ls : Array Slot), rec2 u x1 x2 = some (r, u9) → lv_has ls 3 [(0, .ref (g.2.1 0)), (1, .int x1), (2, .int x2)] → va_P g.1 xx_cls (qm_W g u) H → va_D A (qm_W g u) → va_S A s.heap H locs → W p l e (xx_rm 0 0) s m args below meth c H locs 0 0 (MQ below (xx_Q g.1 (qm_T g) (qm_W g) (some (.int r)) u9 A) args s 0 0 A) (F0 m 2 ls [])) : ∀ (u : qm_S) (x1 : Int32) (x2 : Int32) (H : Heap) (locs : List Loc) (ls : Array Slot), qf_Model_numberOf_b27 rec2 u x1 x2 = some (r, u9) → lv_has ls 3 [(0, .ref (g.2.1 0)), (1, .int x1), (2, .int x2)] → va_P g.1 xx_cls (qm_W g u) H → va_D A (qm_W g u) → va_S A s.heap H locs → W p l e (xx_rm 0 0) s m args below meth c H locs 0 0 (MQ below (xx_Q g.1 (qm_T g) (qm_W g) (some (.int r)) u9 A) args s 0 0 A) (F0 m 27 ls []) := by
  have hx := C.1
  have hb := C.2.1
  have hown := C.2.2.2.1
  have hts := C.2.2.2.2.1
  intro u x1 x2 H locs ls hF hl hP hD hS
  unfold qf_Model_numberOf_b27 at hF
  obtain ⟨v1, ev1, hF⟩ := xx_nm_some hF
  refine lv_iinc (k := 2) (v := v1) hx hb qd_Model_numberOf_27 hl rfl (by rw [ev1, xx_lit1]) (by decide) rfl (fun ls hl => ?_)
  refine lv_goto (tgt := 2) hx hb qd_Model_numberOf_30 (by decide) ?_
  exact hrec2 u x1 v1 _ _ _ hF (lv_sub hl [1, 2, 0] rfl) hP hD hS
set_option maxHeartbeats 4000000 in
set_option maxRecDepth 100000 in
theorem qw_Model_numberOf_b44 {p : Program} {l : Launch} {e : Env} {s : State} {m : MethodId} {args : Array Value} {below : List Frame} {meth : Method} {c : Code} {A : Nat → Prop} {g : xx_G} {r : Int32} {u9 : qm_S} (C : xx_C p s m args meth c kb_Model_numberOf 3 kr_Model (some .int)) (hA : ∀ q, s.heap.size ≤ q → A q) (hK : va_K g.1 xx_cls (qm_T g) s) : ∀ (u : qm_S) (y0 : Int32) (H : Heap) (locs : List Loc) (ls : Array Slot), qf_Model_numberOf_b44 u y0 = some (r, u9) → lv_has ls 3 [] → va_P g.1 xx_cls (qm_W g u) H → va_D A (qm_W g u) → va_S A s.heap H locs → W p l e (xx_rm 0 0) s m args below meth c H locs 0 0 (MQ below (xx_Q g.1 (qm_T g) (qm_W g) (some (.int r)) u9 A) args s 0 0 A) (F0 m 44 ls [.int y0]) := by
  have hx := C.1
  have hb := C.2.1
  have hown := C.2.2.2.1
  have hts := C.2.2.2.2.1
  intro u y0 H locs ls hF hl hP hD hS
  unfold qf_Model_numberOf_b44 at hF
  exact xx_iret C hF hK hP hD hS qd_Model_numberOf_44
set_option maxHeartbeats 4000000 in
set_option maxRecDepth 100000 in
theorem qw_Model_numberOf_b33 {p : Program} {l : Launch} {e : Env} {s : State} {m : MethodId} {args : Array Value} {below : List Frame} {meth : Method} {c : Code} {A : Nat → Prop} {g : xx_G} {r : Int32} {u9 : qm_S} (C : xx_C p s m args meth c kb_Model_numberOf 3 kr_Model (some .int)) (hA : ∀ q, s.heap.size ≤ q → A q) (hK : va_K g.1 xx_cls (qm_T g) s) : ∀ (u : qm_S) (x2 : Int32) (H : Heap) (locs : List Loc) (ls : Array Slot), qf_Model_numberOf_b33 u x2 = some (r, u9) → lv_has ls 3 [(2, .int x2)] → va_P g.1 xx_cls (qm_W g u) H → va_D A (qm_W g u) → va_S A s.heap H locs → W p l e (xx_rm 0 0) s m args below meth c H locs 0 0 (MQ below (xx_Q g.1 (qm_T g) (qm_W g) (some (.int r)) u9 A) args s 0 0 A) (F0 m 33 ls []) := by
  have hx := C.1
  have hb := C.2.1
  have hown := C.2.2.2.1
  have hts := C.2.2.2.2.1
  intro u x2 H locs ls hF hl hP hD hS
  unfold qf_Model_numberOf_b33 at hF
  refine lv_iload_n hx hb qd_Model_numberOf_33 rfl (lv_at hl 0 rfl) ?_
  refine lv_bipush (v := (12 : Int32)) hx hb qd_Model_numberOf_34 (by decide) ?_
  refine lv_icmp_ge (tgt := 43) hx hb qd_Model_numberOf_36 (by decide) (fun hc => ?_) (fun hc => ?_)
  · have hF := xx_ip hc hF
    refine lv_iconst (v := (-1 : Int32)) hx hb qd_Model_numberOf_43 (by decide) ?_
    exact qw_Model_numberOf_b44 C hA hK  u (-1 : Int32) _ _ _ hF (lv_sub hl [] rfl) hP hD hS
  · have hF := xx_in' hc hF
    refine lv_iload_n hx hb qd_Model_numberOf_39 rfl (lv_at hl 0 rfl) ?_
    refine lv_goto (tgt := 44) hx hb qd_Model_numberOf_40 (by decide) ?_
    exact qw_Model_numberOf_b44 C hA hK  u x2 _ _ _ hF (lv_sub hl [] rfl) hP hD hS
set_option maxHeartbeats 4000000 in
set_option maxRecDepth 100000 in
theorem qw_Model_numberOf_b2 {p : Program} {l : Launch} {e : Env} {s : State} {m : MethodId} {args : Array Value} {below : List Frame} {meth : Method} {c : Code} {A : Nat → Prop} {g : xx_G} {r : Int32} {u9 : qm_S} (C : xx_C p s m args meth c kb_Model_numberOf 3 kr_Model (some .int)) (hA : ∀ q, s.heap.size ≤ q → A q) (hK : va_K g.1 xx_cls (qm_T g) s) : ∀ (n : Nat), ∀ (u : qm_S) (x1 : Int32) (x2 : Int32) (H : Heap) (locs : List Loc) (ls : Array Slot), qf_Model_numberOf_b2 n u x1 x2 = some (r, u9) → lv_has ls 3 [(0, .ref (g.2.1 0)), (1, .int x1), (2, .int x2)] → va_P g.1 xx_cls (qm_W g u) H → va_D A (qm_W g u) → va_S A s.heap H locs → W p l e (xx_rm 0 0) s m args below meth c H locs 0 0 (MQ below (xx_Q g.1 (qm_T g) (qm_W g) (some (.int r)) u9 A) args s 0 0 A) (F0 m 2 ls []) := by
  have hx := C.1
  have hb := C.2.1
  have hown := C.2.2.2.1
  have hts := C.2.2.2.2.1
  intro n
  induction n with
  | zero =>
    intro u x1 x2 H locs ls hF
    rw [qf_Model_numberOf_b2] at hF
    cases hF
  | succ n ih =>
    intro u x1 x2 H locs ls hF hl hP hD hS
    rw [qf_Model_numberOf_b2] at hF
    refine lv_iload_n hx hb qd_Model_numberOf_2 rfl (lv_at hl 2 rfl) ?_
    refine lv_bipush (v := (12 : Int32)) hx hb qd_Model_numberOf_3 (by decide) ?_
    refine lv_icmp_ge (tgt := 33) hx hb qd_Model_numberOf_5 (by decide) (fun hc => ?_) (fun hc => ?_)
    · have hF := xx_ip hc hF
      exact qw_Model_numberOf_b33 C hA hK  u x2 _ _ _ hF (lv_sub hl [2] rfl) hP hD hS
    · have hF := xx_in' hc hF
      refine lv_aload_n hx hb qd_Model_numberOf_8 rfl (lv_at hl 0 rfl) ?_
      refine xx_get C ki_Model hK hP 0 rfl rfl 8 (by decide) kw_881 rfl rfl qd_Model_numberOf_9 ?_
      refine lv_iload_n hx hb qd_Model_numberOf_12 rfl (lv_at hl 2 rfl) ?_
      obtain ⟨v1, ev1, hF⟩ := xx_ob hF
      refine xx_zald C hK hP 6 1 rfl rfl ev1 qd_Model_numberOf_13 ?_
      refine lv_if_eq (tgt := 27) hx hb qd_Model_numberOf_14 (by decide) (fun hc => ?_) (fun hc => ?_)
      · have hF := xx_ip hc hF
        exact qw_Model_numberOf_b27 C hA hK ih  u x1 x2 _ _ _ hF (lv_sub hl [0, 1, 2] rfl) hP hD hS
      · have hF := xx_in' hc hF
        refine lv_aload_n hx hb qd_Model_numberOf_17 rfl (lv_at hl 0 rfl) ?_
        refine xx_get C ki_Model hK hP 0 rfl rfl 9 (by decide) kw_882 rfl rfl qd_Model_numberOf_18 ?_
        refine lv_iload_n hx hb qd_Model_numberOf_21 rfl (lv_at hl 2 rfl) ?_
        obtain ⟨v2, ev2, hF⟩ := xx_ob hF
        refine xx_iald C hK hP 7 0 rfl rfl ev2 qd_Model_numberOf_22 ?_
        refine lv_iload_n hx hb qd_Model_numberOf_23 rfl (lv_at hl 1 rfl) ?_
        refine lv_icmp_eq (tgt := 33) hx hb qd_Model_numberOf_24 (by decide) (fun hc => ?_) (fun hc => ?_)
        · have hF := xx_ip hc hF
          exact qw_Model_numberOf_b33 C hA hK  u x2 _ _ _ hF (lv_sub hl [2] rfl) hP hD hS
        · have hF := xx_in' hc hF
          exact qw_Model_numberOf_b27 C hA hK ih  u x1 x2 _ _ _ hF (lv_sub hl [0, 1, 2] rfl) hP hD hS
set_option maxHeartbeats 4000000 in
set_option maxRecDepth 100000 in
theorem qc_Model_numberOf (l : Launch) (g : xx_G) (u : qm_S) (x1 : Int32) (r : Int32) (u9 : qm_S) (hF : qf_Model_numberOf u x1 = some (r, u9)) : xx_M l g.1 (qm_T g) (qm_W g) ky_Model_numberOf kb_Model_numberOf 3 (some .int) (xx_rm 0 0) [.ref (g.2.1 0), .int x1] u (some (.int r)) u9 := by
  refine xx_body (by decide) (Nat.le_of_ble_eq_true rfl) ?_
  intro p e s m args below meth c A ls C hin hK hl hA hP hD hS
  have hx := C.1
  have hb := C.2.1
  have hown := C.2.2.2.1
  have hts := C.2.2.2.2.1
  have hl : lv_has ls 3 [(0, .ref (g.2.1 0)), (1, .int x1)] := hl
  unfold qf_Model_numberOf at hF
  refine lv_iconst (v := (0 : Int32)) hx hb qd_Model_numberOf_0 (by decide) ?_
  obtain ⟨v1, ev1, hF⟩ := xx_nm_some hF
  refine xx_topi ev1 ?_
  refine lv_istore_n hx hb qd_Model_numberOf_1 rfl hl (by decide) rfl (fun ls hl => ?_)
  exact qw_Model_numberOf_b2 C hA hK xx_fu u x1 v1 _ _ _ hF (lv_sub hl [1, 2, 0] rfl) hP hD hS
theorem kw_878 : Cond.fieldLink "ModuleLoaderModel" 16 "ModuleLoaderModel" "symbolCheck" "[I" ∈ xx_tb := xx_in (List.mem_append_right _ (List.mem_of_getElem? (i := 878) (by decide +kernel))) (by decide +kernel)
theorem kw_879 : Cond.fieldLink "ModuleLoaderModel" 19 "ModuleLoaderModel" "symbolAt" "[I" ∈ xx_tb := xx_in (List.mem_append_right _ (List.mem_of_getElem? (i := 879) (by decide +kernel))) (by decide +kernel)
theorem kw_880 : Cond.fieldLink "ModuleLoaderModel" 22 "ModuleLoaderModel" "symbolOf" "[I" ∈ xx_tb := xx_in (List.mem_append_right _ (List.mem_of_getElem? (i := 880) (by decide +kernel))) (by decide +kernel)
theorem qd_Model_addSymbol_0 : decode kb_Model_addSymbol 0 = .ok (.aload_n 0, 1) := by decide +kernel
theorem qd_Model_addSymbol_1 : decode kb_Model_addSymbol 1 = .ok (.getfield 13, 3) := by decide +kernel
theorem qd_Model_addSymbol_4 : decode kb_Model_addSymbol 4 = .ok (.aload_n 0, 1) := by decide +kernel
theorem qd_Model_addSymbol_5 : decode kb_Model_addSymbol 5 = .ok (.getfield 80, 3) := by decide +kernel
theorem qd_Model_addSymbol_8 : decode kb_Model_addSymbol 8 = .ok (.iload_n 1, 1) := by decide +kernel
theorem qd_Model_addSymbol_9 : decode kb_Model_addSymbol 9 = .ok (.iastore, 1) := by decide +kernel
theorem qd_Model_addSymbol_10 : decode kb_Model_addSymbol 10 = .ok (.aload_n 0, 1) := by decide +kernel
theorem qd_Model_addSymbol_11 : decode kb_Model_addSymbol 11 = .ok (.getfield 16, 3) := by decide +kernel
theorem qd_Model_addSymbol_14 : decode kb_Model_addSymbol 14 = .ok (.aload_n 0, 1) := by decide +kernel
theorem qd_Model_addSymbol_15 : decode kb_Model_addSymbol 15 = .ok (.getfield 80, 3) := by decide +kernel
theorem qd_Model_addSymbol_18 : decode kb_Model_addSymbol 18 = .ok (.iload_n 2, 1) := by decide +kernel
theorem qd_Model_addSymbol_19 : decode kb_Model_addSymbol 19 = .ok (.iastore, 1) := by decide +kernel
theorem qd_Model_addSymbol_20 : decode kb_Model_addSymbol 20 = .ok (.aload_n 0, 1) := by decide +kernel
theorem qd_Model_addSymbol_21 : decode kb_Model_addSymbol 21 = .ok (.getfield 19, 3) := by decide +kernel
theorem qd_Model_addSymbol_24 : decode kb_Model_addSymbol 24 = .ok (.aload_n 0, 1) := by decide +kernel
theorem qd_Model_addSymbol_25 : decode kb_Model_addSymbol 25 = .ok (.getfield 80, 3) := by decide +kernel
theorem qd_Model_addSymbol_28 : decode kb_Model_addSymbol 28 = .ok (.iload_n 3, 1) := by decide +kernel
theorem qd_Model_addSymbol_29 : decode kb_Model_addSymbol 29 = .ok (.iastore, 1) := by decide +kernel
theorem qd_Model_addSymbol_30 : decode kb_Model_addSymbol 30 = .ok (.aload_n 0, 1) := by decide +kernel
theorem qd_Model_addSymbol_31 : decode kb_Model_addSymbol 31 = .ok (.getfield 22, 3) := by decide +kernel
theorem qd_Model_addSymbol_34 : decode kb_Model_addSymbol 34 = .ok (.aload_n 0, 1) := by decide +kernel
theorem qd_Model_addSymbol_35 : decode kb_Model_addSymbol 35 = .ok (.getfield 80, 3) := by decide +kernel
theorem qd_Model_addSymbol_38 : decode kb_Model_addSymbol 38 = .ok (.iload 4, 2) := by decide +kernel
theorem qd_Model_addSymbol_40 : decode kb_Model_addSymbol 40 = .ok (.iastore, 1) := by decide +kernel
theorem qd_Model_addSymbol_41 : decode kb_Model_addSymbol 41 = .ok (.aload_n 0, 1) := by decide +kernel
theorem qd_Model_addSymbol_42 : decode kb_Model_addSymbol 42 = .ok (.dup, 1) := by decide +kernel
theorem qd_Model_addSymbol_43 : decode kb_Model_addSymbol 43 = .ok (.getfield 80, 3) := by decide +kernel
theorem qd_Model_addSymbol_46 : decode kb_Model_addSymbol 46 = .ok (.iconst 1, 1) := by decide +kernel
theorem qd_Model_addSymbol_47 : decode kb_Model_addSymbol 47 = .ok (.iadd, 1) := by decide +kernel
theorem qd_Model_addSymbol_48 : decode kb_Model_addSymbol 48 = .ok (.putfield 80, 3) := by decide +kernel
theorem qd_Model_addSymbol_51 : decode kb_Model_addSymbol 51 = .ok (.return_, 1) := by decide +kernel
def qf_Model_addSymbol (u : qm_S) (x1 : Int32) (x2 : Int32) (x3 : Int32) (x4 : Int32) : Option (qm_S) := (xx_as (u.2 2) 40 (u.1 3) x1).bind fun f1 => xx_nm (u.1, va_up u.2 2 f1) fun u2 => (xx_as (u2.2 3) 40 (u2.1 3) x2).bind fun f3 => xx_nm (u2.1, va_up u2.2 3 f3) fun u4 => (xx_as (u4.2 4) 40 (u4.1 3) x3).bind fun f5 => xx_nm (u4.1, va_up u4.2 4 f5) fun u6 => (xx_as (u6.2 5) 40 (u6.1 3) x4).bind fun f7 => xx_nm (u6.1, va_up u6.2 5 f7) fun u8 => xx_nm ((u8.1 3) + (1 : Int32)) fun v9 => xx_nm (va_up u8.1 3 v9, u8.2) fun u10 => some u10
set_option maxHeartbeats 4000000 in
set_option maxRecDepth 100000 in
theorem qc_Model_addSymbol (l : Launch) (g : xx_G) (u : qm_S) (x1 : Int32) (x2 : Int32) (x3 : Int32) (x4 : Int32) (u9 : qm_S) (hF : qf_Model_addSymbol u x1 x2 x3 x4 = some u9) : xx_M l g.1 (qm_T g) (qm_W g) ky_Model_addSymbol kb_Model_addSymbol 5 none (xx_rm 0 0) [.ref (g.2.1 0), .int x1, .int x2, .int x3, .int x4] u none u9 := by
  refine xx_body (by decide) (Nat.le_of_ble_eq_true rfl) ?_
  intro p e s m args below meth c A ls C hin hK hl hA hP hD hS
  have hx := C.1
  have hb := C.2.1
  have hown := C.2.2.2.1
  have hts := C.2.2.2.2.1
  have hl : lv_has ls 5 [(0, .ref (g.2.1 0)), (1, .int x1), (2, .int x2), (3, .int x3), (4, .int x4)] := hl
  unfold qf_Model_addSymbol at hF
  refine lv_aload_n hx hb qd_Model_addSymbol_0 rfl (lv_at hl 0 rfl) ?_
  refine xx_get C ki_Model hK hP 0 rfl rfl 4 (by decide) kw_877 rfl rfl qd_Model_addSymbol_1 ?_
  refine lv_aload_n hx hb qd_Model_addSymbol_4 rfl (lv_at hl 0 rfl) ?_
  refine xx_get C ki_Model hK hP 0 rfl rfl 3 (by decide) kw_876 rfl rfl qd_Model_addSymbol_5 ?_
  refine lv_iload_n hx hb qd_Model_addSymbol_8 rfl (lv_at hl 1 rfl) ?_
  obtain ⟨f1, ef1, hF⟩ := xx_ob hF
  obtain ⟨u2, eu2, hF⟩ := xx_nm_some hF
  refine xx_iast (ws1 := qm_W g u2) C hK hP hD hS 2 0 rfl rfl ef1 (by rw [eu2]; rfl) qd_Model_addSymbol_9 (fun H locs hP hD hS => ?_)
  refine lv_aload_n hx hb qd_Model_addSymbol_10 rfl (lv_at hl 0 rfl) ?_
  refine xx_get C ki_Model hK hP 0 rfl rfl 5 (by decide) kw_878 rfl rfl qd_Model_addSymbol_11 ?_
  refine lv_aload_n hx hb qd_Model_addSymbol_14 rfl (lv_at hl 0 rfl) ?_
  refine xx_get C ki_Model hK hP 0 rfl rfl 3 (by decide) kw_876 rfl rfl qd_Model_addSymbol_15 ?_
  refine lv_iload_n hx hb qd_Model_addSymbol_18 rfl (lv_at hl 2 rfl) ?_
  obtain ⟨f3, ef3, hF⟩ := xx_ob hF
  obtain ⟨u4, eu4, hF⟩ := xx_nm_some hF
  refine xx_iast (ws1 := qm_W g u4) C hK hP hD hS 3 0 rfl rfl ef3 (by rw [eu4]; rfl) qd_Model_addSymbol_19 (fun H locs hP hD hS => ?_)
  refine lv_aload_n hx hb qd_Model_addSymbol_20 rfl (lv_at hl 0 rfl) ?_
  refine xx_get C ki_Model hK hP 0 rfl rfl 6 (by decide) kw_879 rfl rfl qd_Model_addSymbol_21 ?_
  refine lv_aload_n hx hb qd_Model_addSymbol_24 rfl (lv_at hl 0 rfl) ?_
  refine xx_get C ki_Model hK hP 0 rfl rfl 3 (by decide) kw_876 rfl rfl qd_Model_addSymbol_25 ?_
  refine lv_iload_n hx hb qd_Model_addSymbol_28 rfl (lv_at hl 3 rfl) ?_
  obtain ⟨f5, ef5, hF⟩ := xx_ob hF
  obtain ⟨u6, eu6, hF⟩ := xx_nm_some hF
  refine xx_iast (ws1 := qm_W g u6) C hK hP hD hS 4 0 rfl rfl ef5 (by rw [eu6]; rfl) qd_Model_addSymbol_29 (fun H locs hP hD hS => ?_)
  refine lv_aload_n hx hb qd_Model_addSymbol_30 rfl (lv_at hl 0 rfl) ?_
  refine xx_get C ki_Model hK hP 0 rfl rfl 7 (by decide) kw_880 rfl rfl qd_Model_addSymbol_31 ?_
  refine lv_aload_n hx hb qd_Model_addSymbol_34 rfl (lv_at hl 0 rfl) ?_
  refine xx_get C ki_Model hK hP 0 rfl rfl 3 (by decide) kw_876 rfl rfl qd_Model_addSymbol_35 ?_
  refine lv_iload hx hb qd_Model_addSymbol_38 (lv_at hl 4 rfl) ?_
  obtain ⟨f7, ef7, hF⟩ := xx_ob hF
  obtain ⟨u8, eu8, hF⟩ := xx_nm_some hF
  refine xx_iast (ws1 := qm_W g u8) C hK hP hD hS 5 0 rfl rfl ef7 (by rw [eu8]; rfl) qd_Model_addSymbol_40 (fun H locs hP hD hS => ?_)
  refine lv_aload_n hx hb qd_Model_addSymbol_41 rfl (lv_at hl 0 rfl) ?_
  refine lv_dup hx hb qd_Model_addSymbol_42 rfl ?_
  refine xx_get C ki_Model hK hP 0 rfl rfl 3 (by decide) kw_876 rfl rfl qd_Model_addSymbol_43 ?_
  refine lv_iconst (v := (1 : Int32)) hx hb qd_Model_addSymbol_46 (by decide) ?_
  refine lv_iadd hx hb qd_Model_addSymbol_47 ?_
  obtain ⟨v9, ev9, hF⟩ := xx_nm_some hF
  refine xx_topi ev9 ?_
  obtain ⟨u10, eu10, hF⟩ := xx_nm_some hF
  refine xx_put (ws1 := qm_W g u10) C ki_Model kt_Model ko_Model kn_Model hK hP hD hS 0 rfl rfl 3 (by decide) kw_876 rfl rfl rfl rfl (Nat.le_of_ble_eq_true rfl) (by rw [eu10]; rfl) qd_Model_addSymbol_48 (fun H locs hP hD hS => ?_)
  exact xx_vret C hF hK hP hD hS qd_Model_addSymbol_51
