theorem kw_873 : Cond.fieldLink "ModuleLoaderModel" 57 "ModuleLoaderModel" "thrown" "I" ∈ xx_tb := xx_in (List.mem_append_right _ (List.mem_of_getElem? (i := 873) (by decide +kernel))) (by decide +kernel)
theorem qd_Model_thrown_0 : decode kb_Model_thrown 0 = .ok (.aload_n 0, 1) := by decide +kernel
theorem qd_Model_thrown_1 : decode kb_Model_thrown 1 = .ok (.getfield 57, 3) := by decide +kernel
theorem qd_Model_thrown_4 : decode kb_Model_thrown 4 = .ok (.ireturn, 1) := by decide +kernel
def qf_Model_thrown (u : qm_S) : Option (Int32 × qm_S) := some ((u.1 0), u)
set_option maxHeartbeats 4000000 in
set_option maxRecDepth 100000 in
theorem qc_Model_thrown (l : Launch) (g : xx_G) (u : qm_S) (r : Int32) (u9 : qm_S) (hF : qf_Model_thrown u = some (r, u9)) : xx_M l g.1 (qm_T g) (qm_W g) ky_Model_thrown kb_Model_thrown 1 (some .int) (xx_rm 0 0) [.ref (g.2.1 0)] u (some (.int r)) u9 := by
  refine xx_body (by decide) (Nat.le_of_ble_eq_true rfl) ?_
  intro p e s m args below meth c A ls C hin hK hl hA hP hD hS
  have hx := C.1
  have hb := C.2.1
  have hown := C.2.2.2.1
  have hts := C.2.2.2.2.1
  have hl : lv_has ls 1 [(0, .ref (g.2.1 0))] := hl
  unfold qf_Model_thrown at hF
  refine lv_aload_n hx hb qd_Model_thrown_0 rfl (lv_at hl 0 rfl) ?_
  refine xx_get C ki_Model hK hP 0 rfl rfl 0 (by decide) kw_873 rfl rfl qd_Model_thrown_1 ?_
  exact xx_iret C hF hK hP hD hS qd_Model_thrown_4
theorem kw_874 : Cond.fieldLink "ModuleLoaderModel" 7 "ModuleLoaderModel" "memory" "[I" ∈ xx_tb := xx_in (List.mem_append_right _ (List.mem_of_getElem? (i := 874) (by decide +kernel))) (by decide +kernel)
theorem qd_Model_byteAt_0 : decode kb_Model_byteAt 0 = .ok (.aload_n 0, 1) := by decide +kernel
theorem qd_Model_byteAt_1 : decode kb_Model_byteAt 1 = .ok (.getfield 7, 3) := by decide +kernel
theorem qd_Model_byteAt_4 : decode kb_Model_byteAt 4 = .ok (.iload_n 1, 1) := by decide +kernel
theorem qd_Model_byteAt_5 : decode kb_Model_byteAt 5 = .ok (.iaload, 1) := by decide +kernel
theorem qd_Model_byteAt_6 : decode kb_Model_byteAt 6 = .ok (.ireturn, 1) := by decide +kernel
def qf_Model_byteAt (u : qm_S) (x1 : Int32) : Option (Int32 × qm_S) := (xx_ag (u.2 1) 4096 x1).bind fun v1 => some (v1, u)
set_option maxHeartbeats 4000000 in
set_option maxRecDepth 100000 in
theorem qc_Model_byteAt (l : Launch) (g : xx_G) (u : qm_S) (x1 : Int32) (r : Int32) (u9 : qm_S) (hF : qf_Model_byteAt u x1 = some (r, u9)) : xx_M l g.1 (qm_T g) (qm_W g) ky_Model_byteAt kb_Model_byteAt 2 (some .int) (xx_rm 0 0) [.ref (g.2.1 0), .int x1] u (some (.int r)) u9 := by
  refine xx_body (by decide) (Nat.le_of_ble_eq_true rfl) ?_
  intro p e s m args below meth c A ls C hin hK hl hA hP hD hS
  have hx := C.1
  have hb := C.2.1
  have hown := C.2.2.2.1
  have hts := C.2.2.2.2.1
  have hl : lv_has ls 2 [(0, .ref (g.2.1 0)), (1, .int x1)] := hl
  unfold qf_Model_byteAt at hF
  refine lv_aload_n hx hb qd_Model_byteAt_0 rfl (lv_at hl 0 rfl) ?_
  refine xx_get C ki_Model hK hP 0 rfl rfl 1 (by decide) kw_874 rfl rfl qd_Model_byteAt_1 ?_
  refine lv_iload_n hx hb qd_Model_byteAt_4 rfl (lv_at hl 1 rfl) ?_
  obtain ⟨v1, ev1, hF⟩ := xx_ob hF
  refine xx_iald C hK hP 1 0 rfl rfl ev1 qd_Model_byteAt_5 ?_
  exact xx_iret C hF hK hP hD hS qd_Model_byteAt_6
theorem qd_Model_wordAt_0 : decode kb_Model_wordAt 0 = .ok (.aload_n 0, 1) := by decide +kernel
theorem qd_Model_wordAt_1 : decode kb_Model_wordAt 1 = .ok (.getfield 7, 3) := by decide +kernel
theorem qd_Model_wordAt_4 : decode kb_Model_wordAt 4 = .ok (.iload_n 1, 1) := by decide +kernel
theorem qd_Model_wordAt_5 : decode kb_Model_wordAt 5 = .ok (.iaload, 1) := by decide +kernel
theorem qd_Model_wordAt_6 : decode kb_Model_wordAt 6 = .ok (.aload_n 0, 1) := by decide +kernel
theorem qd_Model_wordAt_7 : decode kb_Model_wordAt 7 = .ok (.getfield 7, 3) := by decide +kernel
theorem qd_Model_wordAt_10 : decode kb_Model_wordAt 10 = .ok (.iload_n 1, 1) := by decide +kernel
theorem qd_Model_wordAt_11 : decode kb_Model_wordAt 11 = .ok (.iconst 1, 1) := by decide +kernel
theorem qd_Model_wordAt_12 : decode kb_Model_wordAt 12 = .ok (.iadd, 1) := by decide +kernel
theorem qd_Model_wordAt_13 : decode kb_Model_wordAt 13 = .ok (.iaload, 1) := by decide +kernel
theorem qd_Model_wordAt_14 : decode kb_Model_wordAt 14 = .ok (.bipush (8), 2) := by decide +kernel
theorem qd_Model_wordAt_16 : decode kb_Model_wordAt 16 = .ok (.ishl, 1) := by decide +kernel
theorem qd_Model_wordAt_17 : decode kb_Model_wordAt 17 = .ok (.ior, 1) := by decide +kernel
theorem qd_Model_wordAt_18 : decode kb_Model_wordAt 18 = .ok (.aload_n 0, 1) := by decide +kernel
theorem qd_Model_wordAt_19 : decode kb_Model_wordAt 19 = .ok (.getfield 7, 3) := by decide +kernel
theorem qd_Model_wordAt_22 : decode kb_Model_wordAt 22 = .ok (.iload_n 1, 1) := by decide +kernel
theorem qd_Model_wordAt_23 : decode kb_Model_wordAt 23 = .ok (.iconst 2, 1) := by decide +kernel
theorem qd_Model_wordAt_24 : decode kb_Model_wordAt 24 = .ok (.iadd, 1) := by decide +kernel
theorem qd_Model_wordAt_25 : decode kb_Model_wordAt 25 = .ok (.iaload, 1) := by decide +kernel
theorem qd_Model_wordAt_26 : decode kb_Model_wordAt 26 = .ok (.bipush (16), 2) := by decide +kernel
theorem qd_Model_wordAt_28 : decode kb_Model_wordAt 28 = .ok (.ishl, 1) := by decide +kernel
theorem qd_Model_wordAt_29 : decode kb_Model_wordAt 29 = .ok (.ior, 1) := by decide +kernel
theorem qd_Model_wordAt_30 : decode kb_Model_wordAt 30 = .ok (.aload_n 0, 1) := by decide +kernel
theorem qd_Model_wordAt_31 : decode kb_Model_wordAt 31 = .ok (.getfield 7, 3) := by decide +kernel
theorem qd_Model_wordAt_34 : decode kb_Model_wordAt 34 = .ok (.iload_n 1, 1) := by decide +kernel
theorem qd_Model_wordAt_35 : decode kb_Model_wordAt 35 = .ok (.iconst 3, 1) := by decide +kernel
theorem qd_Model_wordAt_36 : decode kb_Model_wordAt 36 = .ok (.iadd, 1) := by decide +kernel
theorem qd_Model_wordAt_37 : decode kb_Model_wordAt 37 = .ok (.iaload, 1) := by decide +kernel
theorem qd_Model_wordAt_38 : decode kb_Model_wordAt 38 = .ok (.bipush (24), 2) := by decide +kernel
theorem qd_Model_wordAt_40 : decode kb_Model_wordAt 40 = .ok (.ishl, 1) := by decide +kernel
theorem qd_Model_wordAt_41 : decode kb_Model_wordAt 41 = .ok (.ior, 1) := by decide +kernel
theorem qd_Model_wordAt_42 : decode kb_Model_wordAt 42 = .ok (.ireturn, 1) := by decide +kernel
def qf_Model_wordAt (u : qm_S) (x1 : Int32) : Option (Int32 × qm_S) := (xx_ag (u.2 1) 4096 x1).bind fun v1 => (xx_ag (u.2 1) 4096 (x1 + (1 : Int32))).bind fun v2 => (xx_ag (u.2 1) 4096 (x1 + (2 : Int32))).bind fun v3 => (xx_ag (u.2 1) 4096 (x1 + (3 : Int32))).bind fun v4 => some ((((v1 ||| (v2 <<< ((8 : Int32) &&& 31))) ||| (v3 <<< ((16 : Int32) &&& 31))) ||| (v4 <<< ((24 : Int32) &&& 31))), u)
set_option maxHeartbeats 4000000 in
set_option maxRecDepth 100000 in
theorem qc_Model_wordAt (l : Launch) (g : xx_G) (u : qm_S) (x1 : Int32) (r : Int32) (u9 : qm_S) (hF : qf_Model_wordAt u x1 = some (r, u9)) : xx_M l g.1 (qm_T g) (qm_W g) ky_Model_wordAt kb_Model_wordAt 2 (some .int) (xx_rm 0 0) [.ref (g.2.1 0), .int x1] u (some (.int r)) u9 := by
  refine xx_body (by decide) (Nat.le_of_ble_eq_true rfl) ?_
  intro p e s m args below meth c A ls C hin hK hl hA hP hD hS
  have hx := C.1
  have hb := C.2.1
  have hown := C.2.2.2.1
  have hts := C.2.2.2.2.1
  have hl : lv_has ls 2 [(0, .ref (g.2.1 0)), (1, .int x1)] := hl
  unfold qf_Model_wordAt at hF
  refine lv_aload_n hx hb qd_Model_wordAt_0 rfl (lv_at hl 0 rfl) ?_
  refine xx_get C ki_Model hK hP 0 rfl rfl 1 (by decide) kw_874 rfl rfl qd_Model_wordAt_1 ?_
  refine lv_iload_n hx hb qd_Model_wordAt_4 rfl (lv_at hl 1 rfl) ?_
  obtain ⟨v1, ev1, hF⟩ := xx_ob hF
  refine xx_iald C hK hP 1 0 rfl rfl ev1 qd_Model_wordAt_5 ?_
  refine lv_aload_n hx hb qd_Model_wordAt_6 rfl (lv_at hl 0 rfl) ?_
  refine xx_get C ki_Model hK hP 0 rfl rfl 1 (by decide) kw_874 rfl rfl qd_Model_wordAt_7 ?_
  refine lv_iload_n hx hb qd_Model_wordAt_10 rfl (lv_at hl 1 rfl) ?_
  refine lv_iconst (v := (1 : Int32)) hx hb qd_Model_wordAt_11 (by decide) ?_
  refine lv_iadd hx hb qd_Model_wordAt_12 ?_
  obtain ⟨v2, ev2, hF⟩ := xx_ob hF
  refine xx_iald C hK hP 1 0 rfl rfl ev2 qd_Model_wordAt_13 ?_
  refine lv_bipush (v := (8 : Int32)) hx hb qd_Model_wordAt_14 (by decide) ?_
  refine lv_ishl hx hb qd_Model_wordAt_16 ?_
  refine lv_ior hx hb qd_Model_wordAt_17 ?_
  refine lv_aload_n hx hb qd_Model_wordAt_18 rfl (lv_at hl 0 rfl) ?_
  refine xx_get C ki_Model hK hP 0 rfl rfl 1 (by decide) kw_874 rfl rfl qd_Model_wordAt_19 ?_
  refine lv_iload_n hx hb qd_Model_wordAt_22 rfl (lv_at hl 1 rfl) ?_
  refine lv_iconst (v := (2 : Int32)) hx hb qd_Model_wordAt_23 (by decide) ?_
  refine lv_iadd hx hb qd_Model_wordAt_24 ?_
  obtain ⟨v3, ev3, hF⟩ := xx_ob hF
  refine xx_iald C hK hP 1 0 rfl rfl ev3 qd_Model_wordAt_25 ?_
  refine lv_bipush (v := (16 : Int32)) hx hb qd_Model_wordAt_26 (by decide) ?_
  refine lv_ishl hx hb qd_Model_wordAt_28 ?_
  refine lv_ior hx hb qd_Model_wordAt_29 ?_
  refine lv_aload_n hx hb qd_Model_wordAt_30 rfl (lv_at hl 0 rfl) ?_
  refine xx_get C ki_Model hK hP 0 rfl rfl 1 (by decide) kw_874 rfl rfl qd_Model_wordAt_31 ?_
  refine lv_iload_n hx hb qd_Model_wordAt_34 rfl (lv_at hl 1 rfl) ?_
  refine lv_iconst (v := (3 : Int32)) hx hb qd_Model_wordAt_35 (by decide) ?_
  refine lv_iadd hx hb qd_Model_wordAt_36 ?_
  obtain ⟨v4, ev4, hF⟩ := xx_ob hF
  refine xx_iald C hK hP 1 0 rfl rfl ev4 qd_Model_wordAt_37 ?_
  refine lv_bipush (v := (24 : Int32)) hx hb qd_Model_wordAt_38 (by decide) ?_
  refine lv_ishl hx hb qd_Model_wordAt_40 ?_
  refine lv_ior hx hb qd_Model_wordAt_41 ?_
  exact xx_iret C hF hK hP hD hS qd_Model_wordAt_42
theorem xx_lit1 : Int32.ofInt (1) = (1 : Int32) := by decide
theorem qd_Model_put_0 : decode kb_Model_put 0 = .ok (.iconst 0, 1) := by decide +kernel
theorem qd_Model_put_1 : decode kb_Model_put 1 = .ok (.istore 4, 2) := by decide +kernel
theorem qd_Model_put_3 : decode kb_Model_put 3 = .ok (.iload 4, 2) := by decide +kernel
theorem qd_Model_put_5 : decode kb_Model_put 5 = .ok (.iload_n 3, 1) := by decide +kernel
theorem qd_Model_put_6 : decode kb_Model_put 6 = .ok (.if_icmp .ge (29), 3) := by decide +kernel
theorem qd_Model_put_9 : decode kb_Model_put 9 = .ok (.aload_n 0, 1) := by decide +kernel
theorem qd_Model_put_10 : decode kb_Model_put 10 = .ok (.getfield 7, 3) := by decide +kernel
theorem qd_Model_put_13 : decode kb_Model_put 13 = .ok (.iload_n 1, 1) := by decide +kernel
theorem qd_Model_put_14 : decode kb_Model_put 14 = .ok (.iload 4, 2) := by decide +kernel
theorem qd_Model_put_16 : decode kb_Model_put 16 = .ok (.iadd, 1) := by decide +kernel
theorem qd_Model_put_17 : decode kb_Model_put 17 = .ok (.iload_n 2, 1) := by decide +kernel
theorem qd_Model_put_18 : decode kb_Model_put 18 = .ok (.bipush (8), 2) := by decide +kernel
theorem qd_Model_put_20 : decode kb_Model_put 20 = .ok (.iload 4, 2) := by decide +kernel
theorem qd_Model_put_22 : decode kb_Model_put 22 = .ok (.imul, 1) := by decide +kernel
theorem qd_Model_put_23 : decode kb_Model_put 23 = .ok (.ishr, 1) := by decide +kernel
theorem qd_Model_put_24 : decode kb_Model_put 24 = .ok (.sipush (255), 3) := by decide +kernel
theorem qd_Model_put_27 : decode kb_Model_put 27 = .ok (.iand, 1) := by decide +kernel
theorem qd_Model_put_28 : decode kb_Model_put 28 = .ok (.iastore, 1) := by decide +kernel
theorem qd_Model_put_29 : decode kb_Model_put 29 = .ok (.iinc 4 (1), 3) := by decide +kernel
theorem qd_Model_put_32 : decode kb_Model_put 32 = .ok (.goto (-29), 3) := by decide +kernel
theorem qd_Model_put_35 : decode kb_Model_put 35 = .ok (.return_, 1) := by decide +kernel
def qf_Model_put_b3 : Nat → qm_S → Int32 → Int32 → Int32 → Int32 → Option (qm_S)
  | 0, _, _, _, _, _ => none
  | n + 1, u, x1, x2, x3, x4 => if x3 ≤ x4 then (some u) else ((xx_as (u.2 1) 4096 (x1 + x4) ((x2 >>> (((8 : Int32) * x4) &&& 31)) &&& (255 : Int32))).bind fun f1 => xx_nm (u.1, va_up u.2 1 f1) fun u2 => xx_nm (x4 + (1 : Int32)) fun v3 => (qf_Model_put_b3 n) u2 x1 x2 x3 v3)
def qf_Model_put (u : qm_S) (x1 x2 x3 : Int32) : Option (qm_S) := xx_nm (0 : Int32) fun v1 => qf_Model_put_b3 xx_fu u x1 x2 x3 v1
set_option maxHeartbeats 4000000 in
set_option maxRecDepth 100000 in
theorem qw_Model_put_b3 {p : Program} {l : Launch} {e : Env} {s : State} {m : MethodId} {args : Array Value} {below : List Frame} {meth : Method} {c : Code} {A : Nat → Prop} {g : xx_G} {u9 : qm_S} (C : xx_C p s m args meth c kb_Model_put 5 kr_Model none) (hA : ∀ q, s.heap.size ≤ q → A q) (hK : va_K g.1 xx_cls (qm_T g) s) : ∀ (n : Nat), ∀ (u : qm_S) (x1 x2 x3 x4 : Int32) (H : Heap) (locs : List Loc) (ls : Array Slot), qf_Model_put_b3 n u x1 x2 x3 x4 = some u9 → lv_has ls 5 [(0, .ref (g.2.1 0)), (1, .int x1), (2, .int x2), (3, .int x3), (4, .int x4)] → va_P g.1 xx_cls (qm_W g u) H → va_D A (qm_W g u) → va_S A s.heap H locs → W p l e (xx_rm 0 0) s m args below meth c H locs 0 0 (MQ below (xx_Q g.1 (qm_T g) (qm_W g) none u9 A) args s 0 0 A) (F0 m 3 ls []) := by
  have hx := C.1
  have hb := C.2.1
  have hown := C.2.2.2.1
  have hts := C.2.2.2.2.1
  intro n
  induction n with
  | zero =>
    intro u x1 x2 x3 x4 H locs ls hF
    rw [qf_Model_put_b3] at hF
    cases hF
  | succ n ih =>
    intro u x1 x2 x3 x4 H locs ls hF hl hP hD hS
    rw [qf_Model_put_b3] at hF
    refine lv_iload hx hb qd_Model_put_3 (lv_at hl 4 rfl) ?_
    refine lv_iload_n hx hb qd_Model_put_5 rfl (lv_at hl 3 rfl) ?_
    refine lv_icmp_ge (tgt := 35) hx hb qd_Model_put_6 (by decide) (fun hc => ?_) (fun hc => ?_)
    · have hF := xx_ip hc hF
      exact xx_vret C hF hK hP hD hS qd_Model_put_35
    · have hF := xx_in' hc hF
      refine lv_aload_n hx hb qd_Model_put_9 rfl (lv_at hl 0 rfl) ?_
      refine xx_get C ki_Model hK hP 0 rfl rfl 1 (by decide) kw_874 rfl rfl qd_Model_put_10 ?_
      refine lv_iload_n hx hb qd_Model_put_13 rfl (lv_at hl 1 rfl) ?_
      refine lv_iload hx hb qd_Model_put_14 (lv_at hl 4 rfl) ?_
      refine lv_iadd hx hb qd_Model_put_16 ?_
      refine lv_iload_n hx hb qd_Model_put_17 rfl (lv_at hl 2 rfl) ?_
      refine lv_bipush (v := (8 : Int32)) hx hb qd_Model_put_18 (by decide) ?_
      refine lv_iload hx hb qd_Model_put_20 (lv_at hl 4 rfl) ?_
      refine lv_imul hx hb qd_Model_put_22 ?_
      refine lv_ishr hx hb qd_Model_put_23 ?_
      refine lv_sipush (v := (255 : Int32)) hx hb qd_Model_put_24 (by decide) ?_
      refine lv_iand hx hb qd_Model_put_27 ?_
      obtain ⟨f1, ef1, hF⟩ := xx_ob hF
      obtain ⟨u2, eu2, hF⟩ := xx_nm_some hF
      refine xx_iast (ws1 := qm_W g u2) C hK hP hD hS 1 0 rfl rfl ef1 (by rw [eu2]; rfl) qd_Model_put_28 (fun H locs hP hD hS => ?_)
      obtain ⟨v3, ev3, hF⟩ := xx_nm_some hF
      refine lv_iinc (k := 4) (v := v3) hx hb qd_Model_put_29 hl rfl (by rw [ev3, xx_lit1]) (by decide) rfl (fun ls hl => ?_)
      refine lv_goto (tgt := 3) hx hb qd_Model_put_32 (by decide) ?_
      exact ih u2 x1 x2 x3 v3 _ _ _ hF (lv_sub hl [1, 2, 3, 4, 0] rfl) hP hD hS
set_option maxHeartbeats 4000000 in
set_option maxRecDepth 100000 in
theorem qc_Model_put (l : Launch) (g : xx_G) (u : qm_S) (x1 x2 x3 : Int32) (u9 : qm_S) (hF : qf_Model_put u x1 x2 x3 = some u9) : xx_M l g.1 (qm_T g) (qm_W g) ky_Model_put kb_Model_put 5 none (xx_rm 0 0) [.ref (g.2.1 0), .int x1, .int x2, .int x3] u none u9 := by
  refine xx_body (by decide) (Nat.le_of_ble_eq_true rfl) ?_
  intro p e s m args below meth c A ls C hin hK hl hA hP hD hS
  have hx := C.1
  have hb := C.2.1
  have hown := C.2.2.2.1
  have hts := C.2.2.2.2.1
  have hl : lv_has ls 5 [(0, .ref (g.2.1 0)), (1, .int x1), (2, .int x2), (3, .int x3)] := hl
  unfold qf_Model_put at hF
  refine lv_iconst (v := (0 : Int32)) hx hb qd_Model_put_0 (by decide) ?_
  obtain ⟨v1, ev1, hF⟩ := xx_nm_some hF
  refine xx_topi ev1 ?_
  refine lv_istore hx hb qd_Model_put_1 hl (by decide) rfl (fun ls hl => ?_)
  exact qw_Model_put_b3 C hA hK xx_fu u x1 x2 x3 v1 _ _ _ hF (lv_sub hl [1, 2, 3, 4, 0] rfl) hP hD hS
theorem kw_875 : Cond.fieldLink "ModuleLoaderModel" 60 "ModuleLoaderModel" "sealed" "Z" ∈ xx_tb := xx_in (List.mem_append_right _ (List.mem_of_getElem? (i := 875) (by decide +kernel))) (by decide +kernel)
theorem qd_Model_seal_0 : decode kb_Model_seal 0 = .ok (.aload_n 0, 1) := by decide +kernel
theorem qd_Model_seal_1 : decode kb_Model_seal 1 = .ok (.iconst 0, 1) := by decide +kernel
theorem qd_Model_seal_2 : decode kb_Model_seal 2 = .ok (.putfield 57, 3) := by decide +kernel
theorem qd_Model_seal_5 : decode kb_Model_seal 5 = .ok (.aload_n 0, 1) := by decide +kernel
theorem qd_Model_seal_6 : decode kb_Model_seal 6 = .ok (.getfield 60, 3) := by decide +kernel
theorem qd_Model_seal_9 : decode kb_Model_seal 9 = .ok (.istore_n 1, 1) := by decide +kernel
theorem qd_Model_seal_10 : decode kb_Model_seal 10 = .ok (.aload_n 0, 1) := by decide +kernel
theorem qd_Model_seal_11 : decode kb_Model_seal 11 = .ok (.iconst 1, 1) := by decide +kernel
theorem qd_Model_seal_12 : decode kb_Model_seal 12 = .ok (.putfield 60, 3) := by decide +kernel
theorem qd_Model_seal_15 : decode kb_Model_seal 15 = .ok (.iload_n 1, 1) := by decide +kernel
theorem qd_Model_seal_16 : decode kb_Model_seal 16 = .ok (.ifCond .ne (7), 3) := by decide +kernel
theorem qd_Model_seal_19 : decode kb_Model_seal 19 = .ok (.iconst 1, 1) := by decide +kernel
theorem qd_Model_seal_20 : decode kb_Model_seal 20 = .ok (.goto (4), 3) := by decide +kernel
theorem qd_Model_seal_23 : decode kb_Model_seal 23 = .ok (.iconst 0, 1) := by decide +kernel
theorem qd_Model_seal_24 : decode kb_Model_seal 24 = .ok (.ireturn, 1) := by decide +kernel
def qf_Model_seal_b24 (u : qm_S) (y0 : Int32) : Option (Int32 × qm_S) := some (vp_nar .boolean y0, u)
def qf_Model_seal (u : qm_S) : Option (Int32 × qm_S) := xx_nm (va_up u.1 0 (0 : Int32), u.2) fun u1 => xx_nm (u1.1 2) fun v2 => xx_nm (va_up u1.1 2 (1 : Int32), u1.2) fun u3 => if v2 = 0 then (qf_Model_seal_b24 u3 (1 : Int32)) else (qf_Model_seal_b24 u3 (0 : Int32))
set_option maxHeartbeats 4000000 in
set_option maxRecDepth 100000 in
theorem qw_Model_seal_b24 {p : Program} {l : Launch} {e : Env} {s : State} {m : MethodId} {args : Array Value} {below : List Frame} {meth : Method} {c : Code} {A : Nat → Prop} {g : xx_G} {r : Int32} {u9 : qm_S} (C : xx_C p s m args meth c kb_Model_seal 2 kr_Model (some .boolean)) (hA : ∀ q, s.heap.size ≤ q → A q) (hK : va_K g.1 xx_cls (qm_T g) s) : ∀ (u : qm_S) (y0 : Int32) (H : Heap) (locs : List Loc) (ls : Array Slot), qf_Model_seal_b24 u y0 = some (r, u9) → lv_has ls 2 [] → va_P g.1 xx_cls (qm_W g u) H → va_D A (qm_W g u) → va_S A s.heap H locs → W p l e (xx_rm 0 0) s m args below meth c H locs 0 0 (MQ below (xx_Q g.1 (qm_T g) (qm_W g) (some (.int r)) u9 A) args s 0 0 A) (F0 m 24 ls [.int y0]) := by
  have hx := C.1
  have hb := C.2.1
  have hown := C.2.2.2.1
  have hts := C.2.2.2.2.1
  intro u y0 H locs ls hF hl hP hD hS
  unfold qf_Model_seal_b24 at hF
  exact xx_zret C hF hK hP hD hS qd_Model_seal_24
set_option maxHeartbeats 4000000 in
set_option maxRecDepth 100000 in
theorem qc_Model_seal (l : Launch) (g : xx_G) (u : qm_S) (r : Int32) (u9 : qm_S) (hF : qf_Model_seal u = some (r, u9)) : xx_M l g.1 (qm_T g) (qm_W g) ky_Model_seal kb_Model_seal 2 (some .boolean) (xx_rm 0 0) [.ref (g.2.1 0)] u (some (.int r)) u9 := by
  refine xx_body (by decide) (Nat.le_of_ble_eq_true rfl) ?_
  intro p e s m args below meth c A ls C hin hK hl hA hP hD hS
  have hx := C.1
  have hb := C.2.1
  have hown := C.2.2.2.1
  have hts := C.2.2.2.2.1
  have hl : lv_has ls 2 [(0, .ref (g.2.1 0))] := hl
  unfold qf_Model_seal at hF
  refine lv_aload_n hx hb qd_Model_seal_0 rfl (lv_at hl 0 rfl) ?_
  refine lv_iconst (v := (0 : Int32)) hx hb qd_Model_seal_1 (by decide) ?_
  obtain ⟨u1, eu1, hF⟩ := xx_nm_some hF
  refine xx_put (ws1 := qm_W g u1) C ki_Model kt_Model ko_Model kn_Model hK hP hD hS 0 rfl rfl 0 (by decide) kw_873 rfl rfl rfl rfl (Nat.le_of_ble_eq_true rfl) (by rw [eu1]; rfl) qd_Model_seal_2 (fun H locs hP hD hS => ?_)
  refine lv_aload_n hx hb qd_Model_seal_5 rfl (lv_at hl 0 rfl) ?_
  refine xx_get C ki_Model hK hP 0 rfl rfl 2 (by decide) kw_875 rfl rfl qd_Model_seal_6 ?_
  obtain ⟨v2, ev2, hF⟩ := xx_nm_some hF
  refine xx_topi ev2 ?_
  refine lv_istore_n hx hb qd_Model_seal_9 rfl hl (by decide) rfl (fun ls hl => ?_)
  refine lv_aload_n hx hb qd_Model_seal_10 rfl (lv_at hl 1 rfl) ?_
  refine lv_iconst (v := (1 : Int32)) hx hb qd_Model_seal_11 (by decide) ?_
  obtain ⟨u3, eu3, hF⟩ := xx_nm_some hF
  refine xx_put (ws1 := qm_W g u3) C ki_Model kt_Model ko_Model kn_Model hK hP hD hS 0 rfl rfl 2 (by decide) kw_875 rfl rfl rfl rfl (Nat.le_of_ble_eq_true rfl) (by rw [eu3]; rfl) qd_Model_seal_12 (fun H locs hP hD hS => ?_)
  refine lv_iload_n hx hb qd_Model_seal_15 rfl (lv_at hl 0 rfl) ?_
  refine lv_if_ne (tgt := 23) hx hb qd_Model_seal_16 (by decide) (fun hc => ?_) (fun hc => ?_)
  · have hF := xx_in' hc hF
    refine lv_iconst (v := (0 : Int32)) hx hb qd_Model_seal_23 (by decide) ?_
    exact qw_Model_seal_b24 C hA hK  u3 (0 : Int32) _ _ _ hF (lv_sub hl [] rfl) hP hD hS
  · have hF := xx_ip hc hF
    refine lv_iconst (v := (1 : Int32)) hx hb qd_Model_seal_19 (by decide) ?_
    refine lv_goto (tgt := 24) hx hb qd_Model_seal_20 (by decide) ?_
    exact qw_Model_seal_b24 C hA hK  u3 (1 : Int32) _ _ _ hF (lv_sub hl [] rfl) hP hD hS
theorem xx_lit8 : Int32.ofInt (8) = (8 : Int32) := by decide
theorem qd_Model_isName_0 : decode kb_Model_isName 0 = .ok (.iconst 1, 1) := by decide +kernel
theorem qd_Model_isName_1 : decode kb_Model_isName 1 = .ok (.istore_n 1, 1) := by decide +kernel
theorem qd_Model_isName_2 : decode kb_Model_isName 2 = .ok (.iconst 0, 1) := by decide +kernel
theorem qd_Model_isName_3 : decode kb_Model_isName 3 = .ok (.istore_n 2, 1) := by decide +kernel
theorem qd_Model_isName_4 : decode kb_Model_isName 4 = .ok (.iload_n 2, 1) := by decide +kernel
theorem qd_Model_isName_5 : decode kb_Model_isName 5 = .ok (.bipush (32), 2) := by decide +kernel
theorem qd_Model_isName_7 : decode kb_Model_isName 7 = .ok (.if_icmp .ge (43), 3) := by decide +kernel
theorem qd_Model_isName_10 : decode kb_Model_isName 10 = .ok (.iload_n 1, 1) := by decide +kernel
theorem qd_Model_isName_11 : decode kb_Model_isName 11 = .ok (.ifCond .eq (31), 3) := by decide +kernel
theorem qd_Model_isName_14 : decode kb_Model_isName 14 = .ok (.iload_n 0, 1) := by decide +kernel
theorem qd_Model_isName_15 : decode kb_Model_isName 15 = .ok (.iload_n 2, 1) := by decide +kernel
theorem qd_Model_isName_16 : decode kb_Model_isName 16 = .ok (.ishr, 1) := by decide +kernel
theorem qd_Model_isName_17 : decode kb_Model_isName 17 = .ok (.sipush (255), 3) := by decide +kernel
theorem qd_Model_isName_20 : decode kb_Model_isName 20 = .ok (.iand, 1) := by decide +kernel
theorem qd_Model_isName_21 : decode kb_Model_isName 21 = .ok (.bipush (97), 2) := by decide +kernel
theorem qd_Model_isName_23 : decode kb_Model_isName 23 = .ok (.if_icmp .lt (19), 3) := by decide +kernel
theorem qd_Model_isName_26 : decode kb_Model_isName 26 = .ok (.iload_n 0, 1) := by decide +kernel
theorem qd_Model_isName_27 : decode kb_Model_isName 27 = .ok (.iload_n 2, 1) := by decide +kernel
theorem qd_Model_isName_28 : decode kb_Model_isName 28 = .ok (.ishr, 1) := by decide +kernel
theorem qd_Model_isName_29 : decode kb_Model_isName 29 = .ok (.sipush (255), 3) := by decide +kernel
theorem qd_Model_isName_32 : decode kb_Model_isName 32 = .ok (.iand, 1) := by decide +kernel
theorem qd_Model_isName_33 : decode kb_Model_isName 33 = .ok (.bipush (122), 2) := by decide +kernel
theorem qd_Model_isName_35 : decode kb_Model_isName 35 = .ok (.if_icmp .gt (7), 3) := by decide +kernel
theorem qd_Model_isName_38 : decode kb_Model_isName 38 = .ok (.iconst 1, 1) := by decide +kernel
theorem qd_Model_isName_39 : decode kb_Model_isName 39 = .ok (.goto (4), 3) := by decide +kernel
theorem qd_Model_isName_42 : decode kb_Model_isName 42 = .ok (.iconst 0, 1) := by decide +kernel
theorem qd_Model_isName_43 : decode kb_Model_isName 43 = .ok (.istore_n 1, 1) := by decide +kernel
theorem qd_Model_isName_44 : decode kb_Model_isName 44 = .ok (.iinc 2 (8), 3) := by decide +kernel
theorem qd_Model_isName_47 : decode kb_Model_isName 47 = .ok (.goto (-43), 3) := by decide +kernel
theorem qd_Model_isName_50 : decode kb_Model_isName 50 = .ok (.iload_n 1, 1) := by decide +kernel
theorem qd_Model_isName_51 : decode kb_Model_isName 51 = .ok (.ireturn, 1) := by decide +kernel
def qf_Model_isName_b43 (rec4 : qm_S → Int32 → Int32 → Int32 → Option (Int32 × qm_S)) (u : qm_S) (x0 x2 y0 : Int32) : Option (Int32 × qm_S) := xx_nm (x2 + (8 : Int32)) fun v1 => rec4 u x0 y0 v1
def qf_Model_isName_b42 (rec4 : qm_S → Int32 → Int32 → Int32 → Option (Int32 × qm_S)) (u : qm_S) (x0 x2 : Int32) : Option (Int32 × qm_S) := qf_Model_isName_b43 rec4 u x0 x2 (0 : Int32)
def qf_Model_isName_b4 : Nat → qm_S → Int32 → Int32 → Int32 → Option (Int32 × qm_S)
  | 0, _, _, _, _ => none
  | n + 1, u, x0, x1, x2 => if (32 : Int32) ≤ x2 then (some (vp_nar .boolean x1, u)) else (if x1 = 0 then (qf_Model_isName_b42 (qf_Model_isName_b4 n) u x0 x2) else (if ((x0 >>> (x2 &&& 31)) &&& (255 : Int32)) < (97 : Int32) then (qf_Model_isName_b42 (qf_Model_isName_b4 n) u x0 x2) else (if (122 : Int32) < ((x0 >>> (x2 &&& 31)) &&& (255 : Int32)) then (qf_Model_isName_b42 (qf_Model_isName_b4 n) u x0 x2) else (qf_Model_isName_b43 (qf_Model_isName_b4 n) u x0 x2 (1 : Int32)))))
def qf_Model_isName (u : qm_S) (x0 : Int32) : Option (Int32 × qm_S) := xx_nm (1 : Int32) fun v1 => xx_nm (0 : Int32) fun v2 => qf_Model_isName_b4 xx_fu u x0 v1 v2
set_option maxHeartbeats 4000000 in
set_option maxRecDepth 100000 in
theorem qw_Model_isName_b43 {p : Program} {l : Launch} {e : Env} {s : State} {m : MethodId} {args : Array Value} {below : List Frame} {meth : Method} {c : Code} {A : Nat → Prop} {g : xx_G} {r : Int32} {u9 : qm_S} (C : xx_C p s m args meth c kb_Model_isName 3 kr_Model (some .boolean)) (hA : ∀ q, s.heap.size ≤ q → A q) (hK : va_K g.1 xx_cls (qm_T g) s) {rec4 : qm_S → Int32 → Int32 → Int32 → Option (Int32 × qm_S)} (hrec4 : ∀ (u : qm_S) (x0 x1 x2 : Int32) (H : Heap) (locs : List Loc) (ls : Array Slot), rec4 u x0 x1 x2 = some (r, u9) → lv_has ls 3 [(0, .int x0), (1, .int x1), (2, .int x2)] → va_P g.1 xx_cls (qm_W g u) H → va_D A (qm_W g u) → va_S A s.heap H locs → W p l e (xx_rm 0 0) s m args below meth c H locs 0 0 (MQ below (xx_Q g.1 (qm_T g) (qm_W g) (some (.int r)) u9 A) args s 0 0 A) (F0 m 4 ls [])) : ∀ (u : qm_S) (x0 x2 y0 : Int32) (H : Heap) (locs : List Loc) (ls : Array Slot), qf_Model_isName_b43 rec4 u x0 x2 y0 = some (r, u9) → lv_has ls 3 [(0, .int x0), (2, .int x2)] → va_P g.1 xx_cls (qm_W g u) H → va_D A (qm_W g u) → va_S A s.heap H locs → W p l e (xx_rm 0 0) s m args below meth c H locs 0 0 (MQ below (xx_Q g.1 (qm_T g) (qm_W g) (some (.int r)) u9 A) args s 0 0 A) (F0 m 43 ls [.int y0]) := by
  have hx := C.1
  have hb := C.2.1
  have hown := C.2.2.2.1
  have hts := C.2.2.2.2.1
  intro u x0 x2 y0 H locs ls hF hl hP hD hS
  unfold qf_Model_isName_b43 at hF
  refine lv_istore_n hx hb qd_Model_isName_43 rfl hl (by decide) rfl (fun ls hl => ?_)
  obtain ⟨v1, ev1, hF⟩ := xx_nm_some hF
  refine lv_iinc (k := 2) (v := v1) hx hb qd_Model_isName_44 hl rfl (by rw [ev1, xx_lit8]) (by decide) rfl (fun ls hl => ?_)
  refine lv_goto (tgt := 4) hx hb qd_Model_isName_47 (by decide) ?_
  exact hrec4 u x0 y0 v1 _ _ _ hF (lv_sub hl [2, 1, 0] rfl) hP hD hS
set_option maxHeartbeats 4000000 in
set_option maxRecDepth 100000 in
theorem qw_Model_isName_b42 {p : Program} {l : Launch} {e : Env} {s : State} {m : MethodId} {args : Array Value} {below : List Frame} {meth : Method} {c : Code} {A : Nat → Prop} {g : xx_G} {r : Int32} {u9 : qm_S} (C : xx_C p s m args meth c kb_Model_isName 3 kr_Model (some .boolean)) (hA : ∀ q, s.heap.size ≤ q → A q) (hK : va_K g.1 xx_cls (qm_T g) s) {rec4 : qm_S → Int32 → Int32 → Int32 → Option (Int32 × qm_S)} (hrec4 : ∀ (u : qm_S) (x0 x1 x2 : Int32) (H : Heap) (locs : List Loc) (ls : Array Slot), rec4 u x0 x1 x2 = some (r, u9) → lv_has ls 3 [(0, .int x0), (1, .int x1), (2, .int x2)] → va_P g.1 xx_cls (qm_W g u) H → va_D A (qm_W g u) → va_S A s.heap H locs → W p l e (xx_rm 0 0) s m args below meth c H locs 0 0 (MQ below (xx_Q g.1 (qm_T g) (qm_W g) (some (.int r)) u9 A) args s 0 0 A) (F0 m 4 ls [])) : ∀ (u : qm_S) (x0 x2 : Int32) (H : Heap) (locs : List Loc) (ls : Array Slot), qf_Model_isName_b42 rec4 u x0 x2 = some (r, u9) → lv_has ls 3 [(0, .int x0), (2, .int x2)] → va_P g.1 xx_cls (qm_W g u) H → va_D A (qm_W g u) → va_S A s.heap H locs → W p l e (xx_rm 0 0) s m args below meth c H locs 0 0 (MQ below (xx_Q g.1 (qm_T g) (qm_W g) (some (.int r)) u9 A) args s 0 0 A) (F0 m 42 ls []) := by
  have hx := C.1
  have hb := C.2.1
  have hown := C.2.2.2.1
  have hts := C.2.2.2.2.1
  intro u x0 x2 H locs ls hF hl hP hD hS
  unfold qf_Model_isName_b42 at hF
  refine lv_iconst (v := (0 : Int32)) hx hb qd_Model_isName_42 (by decide) ?_
  exact qw_Model_isName_b43 C hA hK hrec4  u x0 x2 (0 : Int32) _ _ _ hF (lv_sub hl [0, 1] rfl) hP hD hS
set_option maxHeartbeats 4000000 in
set_option maxRecDepth 100000 in
theorem qw_Model_isName_b4 {p : Program} {l : Launch} {e : Env} {s : State} {m : MethodId} {args : Array Value} {below : List Frame} {meth : Method} {c : Code} {A : Nat → Prop} {g : xx_G} {r : Int32} {u9 : qm_S} (C : xx_C p s m args meth c kb_Model_isName 3 kr_Model (some .boolean)) (hA : ∀ q, s.heap.size ≤ q → A q) (hK : va_K g.1 xx_cls (qm_T g) s) : ∀ (n : Nat), ∀ (u : qm_S) (x0 x1 x2 : Int32) (H : Heap) (locs : List Loc) (ls : Array Slot), qf_Model_isName_b4 n u x0 x1 x2 = some (r, u9) → lv_has ls 3 [(0, .int x0), (1, .int x1), (2, .int x2)] → va_P g.1 xx_cls (qm_W g u) H → va_D A (qm_W g u) → va_S A s.heap H locs → W p l e (xx_rm 0 0) s m args below meth c H locs 0 0 (MQ below (xx_Q g.1 (qm_T g) (qm_W g) (some (.int r)) u9 A) args s 0 0 A) (F0 m 4 ls []) := by
  have hx := C.1
  have hb := C.2.1
  have hown := C.2.2.2.1
  have hts := C.2.2.2.2.1
  intro n
  induction n with
  | zero =>
    intro u x0 x1 x2 H locs ls hF
    rw [qf_Model_isName_b4] at hF
    cases hF
  | succ n ih =>
    intro u x0 x1 x2 H locs ls hF hl hP hD hS
    rw [qf_Model_isName_b4] at hF
    refine lv_iload_n hx hb qd_Model_isName_4 rfl (lv_at hl 2 rfl) ?_
    refine lv_bipush (v := (32 : Int32)) hx hb qd_Model_isName_5 (by decide) ?_
    refine lv_icmp_ge (tgt := 50) hx hb qd_Model_isName_7 (by decide) (fun hc => ?_) (fun hc => ?_)
    · have hF := xx_ip hc hF
      refine lv_iload_n hx hb qd_Model_isName_50 rfl (lv_at hl 1 rfl) ?_
      exact xx_zret C hF hK hP hD hS qd_Model_isName_51
    · have hF := xx_in' hc hF
      refine lv_iload_n hx hb qd_Model_isName_10 rfl (lv_at hl 1 rfl) ?_
      refine lv_if_eq (tgt := 42) hx hb qd_Model_isName_11 (by decide) (fun hc => ?_) (fun hc => ?_)
      · have hF := xx_ip hc hF
        exact qw_Model_isName_b42 C hA hK ih  u x0 x2 _ _ _ hF (lv_sub hl [0, 2] rfl) hP hD hS
      · have hF := xx_in' hc hF
        refine lv_iload_n hx hb qd_Model_isName_14 rfl (lv_at hl 0 rfl) ?_
        refine lv_iload_n hx hb qd_Model_isName_15 rfl (lv_at hl 2 rfl) ?_
        refine lv_ishr hx hb qd_Model_isName_16 ?_
        refine lv_sipush (v := (255 : Int32)) hx hb qd_Model_isName_17 (by decide) ?_
        refine lv_iand hx hb qd_Model_isName_20 ?_
        refine lv_bipush (v := (97 : Int32)) hx hb qd_Model_isName_21 (by decide) ?_
        refine lv_icmp_lt (tgt := 42) hx hb qd_Model_isName_23 (by decide) (fun hc => ?_) (fun hc => ?_)
        · have hF := xx_ip hc hF
          exact qw_Model_isName_b42 C hA hK ih  u x0 x2 _ _ _ hF (lv_sub hl [0, 2] rfl) hP hD hS
        · have hF := xx_in' hc hF
          refine lv_iload_n hx hb qd_Model_isName_26 rfl (lv_at hl 0 rfl) ?_
          refine lv_iload_n hx hb qd_Model_isName_27 rfl (lv_at hl 2 rfl) ?_
          refine lv_ishr hx hb qd_Model_isName_28 ?_
          refine lv_sipush (v := (255 : Int32)) hx hb qd_Model_isName_29 (by decide) ?_
          refine lv_iand hx hb qd_Model_isName_32 ?_
          refine lv_bipush (v := (122 : Int32)) hx hb qd_Model_isName_33 (by decide) ?_
          refine lv_icmp_gt (tgt := 42) hx hb qd_Model_isName_35 (by decide) (fun hc => ?_) (fun hc => ?_)
          · have hF := xx_ip hc hF
            exact qw_Model_isName_b42 C hA hK ih  u x0 x2 _ _ _ hF (lv_sub hl [0, 2] rfl) hP hD hS
          · have hF := xx_in' hc hF
            refine lv_iconst (v := (1 : Int32)) hx hb qd_Model_isName_38 (by decide) ?_
            refine lv_goto (tgt := 43) hx hb qd_Model_isName_39 (by decide) ?_
            exact qw_Model_isName_b43 C hA hK ih  u x0 x2 (1 : Int32) _ _ _ hF (lv_sub hl [0, 2] rfl) hP hD hS
set_option maxHeartbeats 4000000 in
set_option maxRecDepth 100000 in
theorem qc_Model_isName (l : Launch) (g : xx_G) (u : qm_S) (x0 : Int32) (r : Int32) (u9 : qm_S) (hF : qf_Model_isName u x0 = some (r, u9)) : xx_M l g.1 (qm_T g) (qm_W g) ky_Model_isName kb_Model_isName 3 (some .boolean) (xx_rm 0 0) [.int x0] u (some (.int r)) u9 := by
  refine xx_body (by decide) (Nat.le_of_ble_eq_true rfl) ?_
  intro p e s m args below meth c A ls C hin hK hl hA hP hD hS
  have hx := C.1
  have hb := C.2.1
  have hown := C.2.2.2.1
  have hts := C.2.2.2.2.1
  have hl : lv_has ls 3 [(0, .int x0)] := hl
  unfold qf_Model_isName at hF
  refine lv_iconst (v := (1 : Int32)) hx hb qd_Model_isName_0 (by decide) ?_
  obtain ⟨v1, ev1, hF⟩ := xx_nm_some hF
  refine xx_topi ev1 ?_
  refine lv_istore_n hx hb qd_Model_isName_1 rfl hl (by decide) rfl (fun ls hl => ?_)
  refine lv_iconst (v := (0 : Int32)) hx hb qd_Model_isName_2 (by decide) ?_
  obtain ⟨v2, ev2, hF⟩ := xx_nm_some hF
  refine xx_topi ev2 ?_
  refine lv_istore_n hx hb qd_Model_isName_3 rfl hl (by decide) rfl (fun ls hl => ?_)
  exact qw_Model_isName_b4 C hA hK xx_fu u x0 v1 v2 _ _ _ hF (lv_sub hl [2, 1, 0] rfl) hP hD hS
theorem kw_888 : Cond.fieldLink "ModuleLoaderModel" 93 "ModuleLoaderModel" "taped" "I" ∈ xx_tb := xx_in (List.mem_append_right _ (List.mem_of_getElem? (i := 888) (by decide +kernel))) (by decide +kernel)
theorem kw_889 : Cond.fieldLink "ModuleLoaderModel" 47 "ModuleLoaderModel" "tape" "[I" ∈ xx_tb := xx_in (List.mem_append_right _ (List.mem_of_getElem? (i := 889) (by decide +kernel))) (by decide +kernel)
theorem qd_Model_feedByte_0 : decode kb_Model_feedByte 0 = .ok (.aload_n 0, 1) := by decide +kernel
theorem qd_Model_feedByte_1 : decode kb_Model_feedByte 1 = .ok (.iconst 0, 1) := by decide +kernel
theorem qd_Model_feedByte_2 : decode kb_Model_feedByte 2 = .ok (.putfield 57, 3) := by decide +kernel
theorem qd_Model_feedByte_5 : decode kb_Model_feedByte 5 = .ok (.aload_n 0, 1) := by decide +kernel
theorem qd_Model_feedByte_6 : decode kb_Model_feedByte 6 = .ok (.getfield 93, 3) := by decide +kernel
theorem qd_Model_feedByte_9 : decode kb_Model_feedByte 9 = .ok (.sipush (1200), 3) := by decide +kernel
theorem qd_Model_feedByte_12 : decode kb_Model_feedByte 12 = .ok (.if_icmp .ne (5), 3) := by decide +kernel
theorem qd_Model_feedByte_15 : decode kb_Model_feedByte 15 = .ok (.iconst (-1), 1) := by decide +kernel
theorem qd_Model_feedByte_16 : decode kb_Model_feedByte 16 = .ok (.ireturn, 1) := by decide +kernel
theorem qd_Model_feedByte_17 : decode kb_Model_feedByte 17 = .ok (.aload_n 0, 1) := by decide +kernel
theorem qd_Model_feedByte_18 : decode kb_Model_feedByte 18 = .ok (.getfield 47, 3) := by decide +kernel
theorem qd_Model_feedByte_21 : decode kb_Model_feedByte 21 = .ok (.aload_n 0, 1) := by decide +kernel
theorem qd_Model_feedByte_22 : decode kb_Model_feedByte 22 = .ok (.getfield 93, 3) := by decide +kernel
theorem qd_Model_feedByte_25 : decode kb_Model_feedByte 25 = .ok (.iload_n 1, 1) := by decide +kernel
theorem qd_Model_feedByte_26 : decode kb_Model_feedByte 26 = .ok (.sipush (255), 3) := by decide +kernel
theorem qd_Model_feedByte_29 : decode kb_Model_feedByte 29 = .ok (.iand, 1) := by decide +kernel
theorem qd_Model_feedByte_30 : decode kb_Model_feedByte 30 = .ok (.iastore, 1) := by decide +kernel
theorem qd_Model_feedByte_31 : decode kb_Model_feedByte 31 = .ok (.aload_n 0, 1) := by decide +kernel
theorem qd_Model_feedByte_32 : decode kb_Model_feedByte 32 = .ok (.dup, 1) := by decide +kernel
theorem qd_Model_feedByte_33 : decode kb_Model_feedByte 33 = .ok (.getfield 93, 3) := by decide +kernel
theorem qd_Model_feedByte_36 : decode kb_Model_feedByte 36 = .ok (.iconst 1, 1) := by decide +kernel
theorem qd_Model_feedByte_37 : decode kb_Model_feedByte 37 = .ok (.iadd, 1) := by decide +kernel
theorem qd_Model_feedByte_38 : decode kb_Model_feedByte 38 = .ok (.putfield 93, 3) := by decide +kernel
theorem qd_Model_feedByte_41 : decode kb_Model_feedByte 41 = .ok (.aload_n 0, 1) := by decide +kernel
theorem qd_Model_feedByte_42 : decode kb_Model_feedByte 42 = .ok (.getfield 93, 3) := by decide +kernel
theorem qd_Model_feedByte_45 : decode kb_Model_feedByte 45 = .ok (.ireturn, 1) := by decide +kernel
def qf_Model_feedByte (u : qm_S) (x1 : Int32) : Option (Int32 × qm_S) := xx_nm (va_up u.1 0 (0 : Int32), u.2) fun u1 => if (u1.1 15) = (1200 : Int32) then (some ((-1 : Int32), u1)) else ((xx_as (u1.2 13) 1200 (u1.1 15) (x1 &&& (255 : Int32))).bind fun f2 => xx_nm (u1.1, va_up u1.2 13 f2) fun u3 => xx_nm ((u3.1 15) + (1 : Int32)) fun v4 => xx_nm (va_up u3.1 15 v4, u3.2) fun u5 => some ((u5.1 15), u5))
set_option maxHeartbeats 4000000 in
set_option maxRecDepth 100000 in
theorem qc_Model_feedByte (l : Launch) (g : xx_G) (u : qm_S) (x1 : Int32) (r : Int32) (u9 : qm_S) (hF : qf_Model_feedByte u x1 = some (r, u9)) : xx_M l g.1 (qm_T g) (qm_W g) ky_Model_feedByte kb_Model_feedByte 2 (some .int) (xx_rm 0 0) [.ref (g.2.1 0), .int x1] u (some (.int r)) u9 := by
  refine xx_body (by decide) (Nat.le_of_ble_eq_true rfl) ?_
  intro p e s m args below meth c A ls C hin hK hl hA hP hD hS
  have hx := C.1
  have hb := C.2.1
  have hown := C.2.2.2.1
  have hts := C.2.2.2.2.1
  have hl : lv_has ls 2 [(0, .ref (g.2.1 0)), (1, .int x1)] := hl
  unfold qf_Model_feedByte at hF
  refine lv_aload_n hx hb qd_Model_feedByte_0 rfl (lv_at hl 0 rfl) ?_
  refine lv_iconst (v := (0 : Int32)) hx hb qd_Model_feedByte_1 (by decide) ?_
  obtain ⟨u1, eu1, hF⟩ := xx_nm_some hF
  refine xx_put (ws1 := qm_W g u1) C ki_Model kt_Model ko_Model kn_Model hK hP hD hS 0 rfl rfl 0 (by decide) kw_873 rfl rfl rfl rfl (Nat.le_of_ble_eq_true rfl) (by rw [eu1]; rfl) qd_Model_feedByte_2 (fun H locs hP hD hS => ?_)
  refine lv_aload_n hx hb qd_Model_feedByte_5 rfl (lv_at hl 0 rfl) ?_
  refine xx_get C ki_Model hK hP 0 rfl rfl 15 (by decide) kw_888 rfl rfl qd_Model_feedByte_6 ?_
  refine lv_sipush (v := (1200 : Int32)) hx hb qd_Model_feedByte_9 (by decide) ?_
  refine lv_icmp_ne (tgt := 17) hx hb qd_Model_feedByte_12 (by decide) (fun hc => ?_) (fun hc => ?_)
  · have hF := xx_in' hc hF
    refine lv_aload_n hx hb qd_Model_feedByte_17 rfl (lv_at hl 0 rfl) ?_
    refine xx_get C ki_Model hK hP 0 rfl rfl 16 (by decide) kw_889 rfl rfl qd_Model_feedByte_18 ?_
    refine lv_aload_n hx hb qd_Model_feedByte_21 rfl (lv_at hl 0 rfl) ?_
    refine xx_get C ki_Model hK hP 0 rfl rfl 15 (by decide) kw_888 rfl rfl qd_Model_feedByte_22 ?_
    refine lv_iload_n hx hb qd_Model_feedByte_25 rfl (lv_at hl 1 rfl) ?_
    refine lv_sipush (v := (255 : Int32)) hx hb qd_Model_feedByte_26 (by decide) ?_
    refine lv_iand hx hb qd_Model_feedByte_29 ?_
    obtain ⟨f2, ef2, hF⟩ := xx_ob hF
    obtain ⟨u3, eu3, hF⟩ := xx_nm_some hF
    refine xx_iast (ws1 := qm_W g u3) C hK hP hD hS 13 0 rfl rfl ef2 (by rw [eu3]; rfl) qd_Model_feedByte_30 (fun H locs hP hD hS => ?_)
    refine lv_aload_n hx hb qd_Model_feedByte_31 rfl (lv_at hl 0 rfl) ?_
    refine lv_dup hx hb qd_Model_feedByte_32 rfl ?_
    refine xx_get C ki_Model hK hP 0 rfl rfl 15 (by decide) kw_888 rfl rfl qd_Model_feedByte_33 ?_
    refine lv_iconst (v := (1 : Int32)) hx hb qd_Model_feedByte_36 (by decide) ?_
    refine lv_iadd hx hb qd_Model_feedByte_37 ?_
    obtain ⟨v4, ev4, hF⟩ := xx_nm_some hF
    refine xx_topi ev4 ?_
    obtain ⟨u5, eu5, hF⟩ := xx_nm_some hF
    refine xx_put (ws1 := qm_W g u5) C ki_Model kt_Model ko_Model kn_Model hK hP hD hS 0 rfl rfl 15 (by decide) kw_888 rfl rfl rfl rfl (Nat.le_of_ble_eq_true rfl) (by rw [eu5]; rfl) qd_Model_feedByte_38 (fun H locs hP hD hS => ?_)
    refine lv_aload_n hx hb qd_Model_feedByte_41 rfl (lv_at hl 0 rfl) ?_
    refine xx_get C ki_Model hK hP 0 rfl rfl 15 (by decide) kw_888 rfl rfl qd_Model_feedByte_42 ?_
    exact xx_iret C hF hK hP hD hS qd_Model_feedByte_45
  · have hF := xx_ip hc hF
    refine lv_iconst (v := (-1 : Int32)) hx hb qd_Model_feedByte_15 (by decide) ?_
    exact xx_iret C hF hK hP hD hS qd_Model_feedByte_16
