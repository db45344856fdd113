theorem kw_897 : Cond.fieldLink "ModuleLoaderModel" 105 "ModuleLoaderModel" "exports" "I" ∈ xx_tb := xx_in (List.mem_append_right _ (List.mem_of_getElem? (i := 897) (by decide +kernel))) (by decide +kernel)
set_option maxRecDepth 100000 in
theorem kw_1052 : Cond.code ky_Model_exportAt kb_Model_exportAt 2 (some .int) ∈ xx_tb := xx_in (List.mem_append_right _ (List.mem_of_getElem? (i := 1052) (by rfl))) (by decide +kernel)
theorem kw_1049 : Cond.methodLink "ModuleLoaderModel" 108 ky_Model_exportAt ∈ xx_tb := xx_in (List.mem_append_right _ (List.mem_of_getElem? (i := 1049) (by decide +kernel))) (by decide +kernel)
theorem kw_1051 : Cond.instanceMethod ky_Model_exportAt ∈ xx_tb := xx_in (List.mem_append_right _ (List.mem_of_getElem? (i := 1051) (by decide +kernel))) (by decide +kernel)
theorem ks_Model_exportAt : Cond.selects "ModuleLoaderModel" ky_Model_exportAt ky_Model_exportAt ∈ xx_tb := xx_in (List.mem_append_left _ (by decide +kernel)) (by decide +kernel)
theorem qd_Model_placeAt_0 : decode kb_Model_placeAt 0 = .ok (.aload_n 0, 1) := by decide +kernel
theorem qd_Model_placeAt_1 : decode kb_Model_placeAt 1 = .ok (.aload_n 0, 1) := by decide +kernel
theorem qd_Model_placeAt_2 : decode kb_Model_placeAt 2 = .ok (.getfield 105, 3) := by decide +kernel
theorem qd_Model_placeAt_5 : decode kb_Model_placeAt 5 = .ok (.invokevirtual 108, 3) := by decide +kernel
theorem qd_Model_placeAt_8 : decode kb_Model_placeAt 8 = .ok (.bipush (16), 2) := by decide +kernel
theorem qd_Model_placeAt_10 : decode kb_Model_placeAt 10 = .ok (.iload_n 1, 1) := by decide +kernel
theorem qd_Model_placeAt_11 : decode kb_Model_placeAt 11 = .ok (.imul, 1) := by decide +kernel
theorem qd_Model_placeAt_12 : decode kb_Model_placeAt 12 = .ok (.iadd, 1) := by decide +kernel
theorem qd_Model_placeAt_13 : decode kb_Model_placeAt 13 = .ok (.ireturn, 1) := by decide +kernel
def qf_Model_placeAt (u : qm_S) (x1 : Int32) : Option (Int32 × qm_S) := xx_b2 (qf_Model_exportAt u (u.1 24)) fun v2 u1 => some ((v2 + ((16 : Int32) * x1)), u1)
set_option maxHeartbeats 4000000 in
set_option maxRecDepth 100000 in
theorem qc_Model_placeAt (l : Launch) (g : xx_G) (u : qm_S) (x1 : Int32) (r : Int32) (u9 : qm_S) (hF : qf_Model_placeAt u x1 = some (r, u9)) : xx_M l g.1 (qm_T g) (qm_W g) ky_Model_placeAt kb_Model_placeAt 2 (some .int) (xx_rm 2 42) [.ref (g.2.1 0), .int x1] u (some (.int r)) u9 := by
  refine xx_body (by decide) (Nat.le_of_ble_eq_true rfl) ?_
  intro p e s m args below meth c A ls C hin hK hl hA hP hD hS
  have hx := C.1
  have hb := C.2.1
  have hown := C.2.2.2.1
  have hts := C.2.2.2.2.1
  have hl : lv_has ls 2 [(0, .ref (g.2.1 0)), (1, .int x1)] := hl
  unfold qf_Model_placeAt at hF
  refine lv_aload_n hx hb qd_Model_placeAt_0 rfl (lv_at hl 0 rfl) ?_
  refine lv_aload_n hx hb qd_Model_placeAt_1 rfl (lv_at hl 0 rfl) ?_
  refine xx_get C ki_Model hK hP 0 rfl rfl 24 (by decide) kw_897 rfl rfl qd_Model_placeAt_2 ?_
  obtain ⟨v2, u1, eu1, hF⟩ := xx_b2_some hF
  refine xx_callV (n := 1) (As := [.int (u.1 24)]) (rest := []) C (qc_Model_exportAt l g u (u.1 24) v2 u1 eu1) ⟨kw_1052, kw_1049, kw_1051, ks_Model_exportAt, kw_9⟩ ⟨by decide +kernel, by decide +kernel, by decide +kernel⟩ rfl ⟨Nat.le_of_ble_eq_true rfl, Nat.le_of_ble_eq_true rfl⟩ 0 rfl rfl hl.1 rfl (Nat.le_of_ble_eq_true rfl) hA hK hP hD hS ⟨Nat.le_refl _, Nat.le_refl _⟩ rfl rfl rfl qd_Model_placeAt_5 (fun H locs hP hD hS => ?_)
  refine lv_bipush (v := (16 : Int32)) hx hb qd_Model_placeAt_8 (by decide) ?_
  refine lv_iload_n hx hb qd_Model_placeAt_10 rfl (lv_at hl 1 rfl) ?_
  refine lv_imul hx hb qd_Model_placeAt_11 ?_
  refine lv_iadd hx hb qd_Model_placeAt_12 ?_
  exact xx_iret C hF hK hP hD hS qd_Model_placeAt_13
theorem qd_Model_exportsWrong_0 : decode kb_Model_exportsWrong 0 = .ok (.iconst 0, 1) := by decide +kernel
theorem qd_Model_exportsWrong_1 : decode kb_Model_exportsWrong 1 = .ok (.istore_n 1, 1) := by decide +kernel
theorem qd_Model_exportsWrong_2 : decode kb_Model_exportsWrong 2 = .ok (.iload_n 1, 1) := by decide +kernel
theorem qd_Model_exportsWrong_3 : decode kb_Model_exportsWrong 3 = .ok (.aload_n 0, 1) := by decide +kernel
theorem qd_Model_exportsWrong_4 : decode kb_Model_exportsWrong 4 = .ok (.getfield 105, 3) := by decide +kernel
theorem qd_Model_exportsWrong_7 : decode kb_Model_exportsWrong 7 = .ok (.if_icmp .ge (32), 3) := by decide +kernel
theorem qd_Model_exportsWrong_10 : decode kb_Model_exportsWrong 10 = .ok (.aload_n 0, 1) := by decide +kernel
theorem qd_Model_exportsWrong_11 : decode kb_Model_exportsWrong 11 = .ok (.aload_n 0, 1) := by decide +kernel
theorem qd_Model_exportsWrong_12 : decode kb_Model_exportsWrong 12 = .ok (.aload_n 0, 1) := by decide +kernel
theorem qd_Model_exportsWrong_13 : decode kb_Model_exportsWrong 13 = .ok (.iload_n 1, 1) := by decide +kernel
theorem qd_Model_exportsWrong_14 : decode kb_Model_exportsWrong 14 = .ok (.invokevirtual 108, 3) := by decide +kernel
theorem qd_Model_exportsWrong_17 : decode kb_Model_exportsWrong 17 = .ok (.invokevirtual 111, 3) := by decide +kernel
theorem qd_Model_exportsWrong_20 : decode kb_Model_exportsWrong 20 = .ok (.invokevirtual 86, 3) := by decide +kernel
theorem qd_Model_exportsWrong_23 : decode kb_Model_exportsWrong 23 = .ok (.ifCond .lt (10), 3) := by decide +kernel
theorem qd_Model_exportsWrong_26 : decode kb_Model_exportsWrong 26 = .ok (.aload_n 0, 1) := by decide +kernel
theorem qd_Model_exportsWrong_27 : decode kb_Model_exportsWrong 27 = .ok (.iconst 5, 1) := by decide +kernel
theorem qd_Model_exportsWrong_28 : decode kb_Model_exportsWrong 28 = .ok (.iload_n 1, 1) := by decide +kernel
theorem qd_Model_exportsWrong_29 : decode kb_Model_exportsWrong 29 = .ok (.invokevirtual 139, 3) := by decide +kernel
theorem qd_Model_exportsWrong_32 : decode kb_Model_exportsWrong 32 = .ok (.ireturn, 1) := by decide +kernel
theorem qd_Model_exportsWrong_33 : decode kb_Model_exportsWrong 33 = .ok (.iinc 1 (1), 3) := by decide +kernel
theorem qd_Model_exportsWrong_36 : decode kb_Model_exportsWrong 36 = .ok (.goto (-34), 3) := by decide +kernel
theorem qd_Model_exportsWrong_39 : decode kb_Model_exportsWrong 39 = .ok (.aload_n 0, 1) := by decide +kernel
theorem qd_Model_exportsWrong_40 : decode kb_Model_exportsWrong 40 = .ok (.getfield 80, 3) := by decide +kernel
theorem qd_Model_exportsWrong_43 : decode kb_Model_exportsWrong 43 = .ok (.aload_n 0, 1) := by decide +kernel
theorem qd_Model_exportsWrong_44 : decode kb_Model_exportsWrong 44 = .ok (.getfield 105, 3) := by decide +kernel
theorem qd_Model_exportsWrong_47 : decode kb_Model_exportsWrong 47 = .ok (.iadd, 1) := by decide +kernel
theorem qd_Model_exportsWrong_48 : decode kb_Model_exportsWrong 48 = .ok (.bipush (40), 2) := by decide +kernel
theorem qd_Model_exportsWrong_50 : decode kb_Model_exportsWrong 50 = .ok (.if_icmp .le (22), 3) := by decide +kernel
theorem qd_Model_exportsWrong_53 : decode kb_Model_exportsWrong 53 = .ok (.aload_n 0, 1) := by decide +kernel
theorem qd_Model_exportsWrong_54 : decode kb_Model_exportsWrong 54 = .ok (.iconst 5, 1) := by decide +kernel
theorem qd_Model_exportsWrong_55 : decode kb_Model_exportsWrong 55 = .ok (.bipush (40), 2) := by decide +kernel
theorem qd_Model_exportsWrong_57 : decode kb_Model_exportsWrong 57 = .ok (.aload_n 0, 1) := by decide +kernel
theorem qd_Model_exportsWrong_58 : decode kb_Model_exportsWrong 58 = .ok (.getfield 80, 3) := by decide +kernel
theorem qd_Model_exportsWrong_61 : decode kb_Model_exportsWrong 61 = .ok (.isub, 1) := by decide +kernel
theorem qd_Model_exportsWrong_62 : decode kb_Model_exportsWrong 62 = .ok (.invokevirtual 139, 3) := by decide +kernel
theorem qd_Model_exportsWrong_65 : decode kb_Model_exportsWrong 65 = .ok (.ifCond .eq (7), 3) := by decide +kernel
theorem qd_Model_exportsWrong_68 : decode kb_Model_exportsWrong 68 = .ok (.iconst 1, 1) := by decide +kernel
theorem qd_Model_exportsWrong_69 : decode kb_Model_exportsWrong 69 = .ok (.goto (4), 3) := by decide +kernel
theorem qd_Model_exportsWrong_72 : decode kb_Model_exportsWrong 72 = .ok (.iconst 0, 1) := by decide +kernel
theorem qd_Model_exportsWrong_73 : decode kb_Model_exportsWrong 73 = .ok (.ireturn, 1) := by decide +kernel
def qf_Model_exportsWrong_b73 (u : qm_S) (y0 : Int32) : Option (Int32 × qm_S) := some (vp_nar .boolean y0, u)
def qf_Model_exportsWrong_b72 (u : qm_S) : Option (Int32 × qm_S) := qf_Model_exportsWrong_b73 u (0 : Int32)
def qf_Model_exportsWrong_b2 : Nat → qm_S → Int32 → Option (Int32 × qm_S)
  | 0, _, _ => none
  | n + 1, u, x1 => if (u.1 24) ≤ x1 then (if ((u.1 3) + (u.1 24)) ≤ (40 : Int32) then (qf_Model_exportsWrong_b72 u) else (xx_b2 (qf_Model_wrong u (5 : Int32) ((40 : Int32) - (u.1 3))) fun v2 u1 => if v2 = 0 then (qf_Model_exportsWrong_b72 u1) else (qf_Model_exportsWrong_b73 u1 (1 : Int32)))) else (xx_b2 (qf_Model_exportAt u x1) fun v4 u3 => xx_b2 (qf_Model_tapeWord u3 v4) fun v6 u5 => xx_b2 (qf_Model_find u5 v6) fun v8 u7 => if v8 < 0 then (xx_nm (x1 + (1 : Int32)) fun v9 => (qf_Model_exportsWrong_b2 n) u7 v9) else (xx_b2 (qf_Model_wrong u7 (5 : Int32) x1) fun v11 u10 => some (vp_nar .boolean v11, u10)))
def qf_Model_exportsWrong (u : qm_S) : Option (Int32 × qm_S) := xx_nm (0 : Int32) fun v1 => qf_Model_exportsWrong_b2 xx_fu u v1
set_option maxHeartbeats 4000000 in
set_option maxRecDepth 100000 in
theorem qw_Model_exportsWrong_b73 {p : Program} {l : Launch} {e : Env} {s : State} {m : MethodId} {args : Array Value} {below : List Frame} {meth : Method} {c : Code} {A : Nat → Prop} {g : xx_G} {r : Int32} {u9 : qm_S} (C : xx_C p s m args meth c kb_Model_exportsWrong 2 kr_Model (some .boolean)) (hA : ∀ q, s.heap.size ≤ q → A q) (hK : va_K g.1 xx_cls (qm_T g) s) : ∀ (u : qm_S) (y0 : Int32) (H : Heap) (locs : List Loc) (ls : Array Slot), qf_Model_exportsWrong_b73 u y0 = some (r, u9) → lv_has ls 2 [] → va_P g.1 xx_cls (qm_W g u) H → va_D A (qm_W g u) → va_S A s.heap H locs → W p l e (xx_rm 2 42) s m args below meth c H locs 0 0 (MQ below (xx_Q g.1 (qm_T g) (qm_W g) (some (.int r)) u9 A) args s 0 0 A) (F0 m 73 ls [.int y0]) := by
  have hx := C.1
  have hb := C.2.1
  have hown := C.2.2.2.1
  have hts := C.2.2.2.2.1
  intro u y0 H locs ls hF hl hP hD hS
  unfold qf_Model_exportsWrong_b73 at hF
  exact xx_zret C hF hK hP hD hS qd_Model_exportsWrong_73
set_option maxHeartbeats 4000000 in
set_option maxRecDepth 100000 in
theorem qw_Model_exportsWrong_b72 {p : Program} {l : Launch} {e : Env} {s : State} {m : MethodId} {args : Array Value} {below : List Frame} {meth : Method} {c : Code} {A : Nat → Prop} {g : xx_G} {r : Int32} {u9 : qm_S} (C : xx_C p s m args meth c kb_Model_exportsWrong 2 kr_Model (some .boolean)) (hA : ∀ q, s.heap.size ≤ q → A q) (hK : va_K g.1 xx_cls (qm_T g) s) : ∀ (u : qm_S) (H : Heap) (locs : List Loc) (ls : Array Slot), qf_Model_exportsWrong_b72 u = some (r, u9) → lv_has ls 2 [] → va_P g.1 xx_cls (qm_W g u) H → va_D A (qm_W g u) → va_S A s.heap H locs → W p l e (xx_rm 2 42) s m args below meth c H locs 0 0 (MQ below (xx_Q g.1 (qm_T g) (qm_W g) (some (.int r)) u9 A) args s 0 0 A) (F0 m 72 ls []) := by
  have hx := C.1
  have hb := C.2.1
  have hown := C.2.2.2.1
  have hts := C.2.2.2.2.1
  intro u H locs ls hF hl hP hD hS
  unfold qf_Model_exportsWrong_b72 at hF
  refine lv_iconst (v := (0 : Int32)) hx hb qd_Model_exportsWrong_72 (by decide) ?_
  exact qw_Model_exportsWrong_b73 C hA hK  u (0 : Int32) _ _ _ hF (lv_sub hl [] rfl) hP hD hS
set_option maxHeartbeats 4000000 in
set_option maxRecDepth 100000 in
theorem qw_Model_exportsWrong_b2 {p : Program} {l : Launch} {e : Env} {s : State} {m : MethodId} {args : Array Value} {below : List Frame} {meth : Method} {c : Code} {A : Nat → Prop} {g : xx_G} {r : Int32} {u9 : qm_S} (C : xx_C p s m args meth c kb_Model_exportsWrong 2 kr_Model (some .boolean)) (hA : ∀ q, s.heap.size ≤ q → A q) (hK : va_K g.1 xx_cls (qm_T g) s) : ∀ (n : Nat), ∀ (u : qm_S) (x1 : Int32) (H : Heap) (locs : List Loc) (ls : Array Slot), qf_Model_exportsWrong_b2 n u x1 = some (r, u9) → lv_has ls 2 [(0, .ref (g.2.1 0)), (1, .int x1)] → va_P g.1 xx_cls (qm_W g u) H → va_D A (qm_W g u) → va_S A s.heap H locs → W p l e (xx_rm 2 42) s m args below meth c H locs 0 0 (MQ below (xx_Q g.1 (qm_T g) (qm_W g) (some (.int r)) u9 A) args s 0 0 A) (F0 m 2 ls []) := by
  have hx := C.1
  have hb := C.2.1
  have hown := C.2.2.2.1
  have hts := C.2.2.2.2.1
  intro n
  induction n with
  | zero =>
    intro u x1 H locs ls hF
    rw [qf_Model_exportsWrong_b2] at hF
    cases hF
  | succ n ih =>
    intro u x1 H locs ls hF hl hP hD hS
    rw [qf_Model_exportsWrong_b2] at hF
    refine lv_iload_n hx hb qd_Model_exportsWrong_2 rfl (lv_at hl 1 rfl) ?_
    refine lv_aload_n hx hb qd_Model_exportsWrong_3 rfl (lv_at hl 0 rfl) ?_
    refine xx_get C ki_Model hK hP 0 rfl rfl 24 (by decide) kw_897 rfl rfl qd_Model_exportsWrong_4 ?_
    refine lv_icmp_ge (tgt := 39) hx hb qd_Model_exportsWrong_7 (by decide) (fun hc => ?_) (fun hc => ?_)
    · have hF := xx_ip hc hF
      refine lv_aload_n hx hb qd_Model_exportsWrong_39 rfl (lv_at hl 0 rfl) ?_
      refine xx_get C ki_Model hK hP 0 rfl rfl 3 (by decide) kw_876 rfl rfl qd_Model_exportsWrong_40 ?_
      refine lv_aload_n hx hb qd_Model_exportsWrong_43 rfl (lv_at hl 0 rfl) ?_
      refine xx_get C ki_Model hK hP 0 rfl rfl 24 (by decide) kw_897 rfl rfl qd_Model_exportsWrong_44 ?_
      refine lv_iadd hx hb qd_Model_exportsWrong_47 ?_
      refine lv_bipush (v := (40 : Int32)) hx hb qd_Model_exportsWrong_48 (by decide) ?_
      refine lv_icmp_le (tgt := 72) hx hb qd_Model_exportsWrong_50 (by decide) (fun hc => ?_) (fun hc => ?_)
      · have hF := xx_ip hc hF
        exact qw_Model_exportsWrong_b72 C hA hK  u _ _ _ hF (lv_sub hl [] rfl) hP hD hS
      · have hF := xx_in' hc hF
        refine lv_aload_n hx hb qd_Model_exportsWrong_53 rfl (lv_at hl 0 rfl) ?_
        refine lv_iconst (v := (5 : Int32)) hx hb qd_Model_exportsWrong_54 (by decide) ?_
        refine lv_bipush (v := (40 : Int32)) hx hb qd_Model_exportsWrong_55 (by decide) ?_
        refine lv_aload_n hx hb qd_Model_exportsWrong_57 rfl (lv_at hl 0 rfl) ?_
        refine xx_get C ki_Model hK hP 0 rfl rfl 3 (by decide) kw_876 rfl rfl qd_Model_exportsWrong_58 ?_
        refine lv_isub hx hb qd_Model_exportsWrong_61 ?_
        obtain ⟨v2, u1, eu1, hF⟩ := xx_b2_some hF
        refine xx_callV (n := 2) (As := [.int (5 : Int32), .int ((40 : Int32) - (u.1 3))]) (rest := []) C (qc_Model_wrong l g u (5 : Int32) ((40 : Int32) - (u.1 3)) v2 u1 eu1) ⟨kw_1060, kw_1057, kw_1059, ks_Model_wrong, kw_9⟩ ⟨by decide +kernel, by decide +kernel, by decide +kernel⟩ rfl ⟨Nat.le_of_ble_eq_true rfl, Nat.le_of_ble_eq_true rfl⟩ 0 rfl rfl hl.1 rfl (Nat.le_of_ble_eq_true rfl) hA hK hP hD hS ⟨Nat.le_refl _, Nat.le_refl _⟩ rfl rfl rfl qd_Model_exportsWrong_62 (fun H locs hP hD hS => ?_)
        refine lv_if_eq (tgt := 72) hx hb qd_Model_exportsWrong_65 (by decide) (fun hc => ?_) (fun hc => ?_)
        · have hF := xx_ip hc hF
          exact qw_Model_exportsWrong_b72 C hA hK  u1 _ _ _ hF (lv_sub hl [] rfl) hP hD hS
        · have hF := xx_in' hc hF
          refine lv_iconst (v := (1 : Int32)) hx hb qd_Model_exportsWrong_68 (by decide) ?_
          refine lv_goto (tgt := 73) hx hb qd_Model_exportsWrong_69 (by decide) ?_
          exact qw_Model_exportsWrong_b73 C hA hK  u1 (1 : Int32) _ _ _ hF (lv_sub hl [] rfl) hP hD hS
    · have hF := xx_in' hc hF
      refine lv_aload_n hx hb qd_Model_exportsWrong_10 rfl (lv_at hl 0 rfl) ?_
      refine lv_aload_n hx hb qd_Model_exportsWrong_11 rfl (lv_at hl 0 rfl) ?_
      refine lv_aload_n hx hb qd_Model_exportsWrong_12 rfl (lv_at hl 0 rfl) ?_
      refine lv_iload_n hx hb qd_Model_exportsWrong_13 rfl (lv_at hl 1 rfl) ?_
      obtain ⟨v4, u3, eu3, hF⟩ := xx_b2_some hF
      refine xx_callV (n := 1) (As := [.int x1]) (rest := [.ref (g.2.1 0), .ref (g.2.1 0)]) C (qc_Model_exportAt l g u x1 v4 u3 eu3) ⟨kw_1052, kw_1049, kw_1051, ks_Model_exportAt, kw_9⟩ ⟨by decide +kernel, by decide +kernel, by decide +kernel⟩ rfl ⟨Nat.le_of_ble_eq_true rfl, Nat.le_of_ble_eq_true rfl⟩ 0 rfl rfl hl.1 rfl (Nat.le_of_ble_eq_true rfl) hA hK hP hD hS ⟨Nat.le_refl _, Nat.le_refl _⟩ rfl rfl rfl qd_Model_exportsWrong_14 (fun H locs hP hD hS => ?_)
      obtain ⟨v6, u5, eu5, hF⟩ := xx_b2_some hF
      refine xx_callV (n := 1) (As := [.int v4]) (rest := [.ref (g.2.1 0)]) C (qc_Model_tapeWord l g u3 v4 v6 u5 eu5) ⟨kw_1040, kw_1037, kw_1039, ks_Model_tapeWord, kw_9⟩ ⟨by decide +kernel, by decide +kernel, by decide +kernel⟩ rfl ⟨Nat.le_of_ble_eq_true rfl, Nat.le_of_ble_eq_true rfl⟩ 0 rfl rfl hl.1 rfl (Nat.le_of_ble_eq_true rfl) hA hK hP hD hS ⟨Nat.le_refl _, Nat.le_refl _⟩ rfl rfl rfl qd_Model_exportsWrong_17 (fun H locs hP hD hS => ?_)
      obtain ⟨v8, u7, eu7, hF⟩ := xx_b2_some hF
      refine xx_callV (n := 1) (As := [.int v6]) (rest := []) C (qc_Model_find l g u5 v6 v8 u7 eu7) ⟨kw_1012, kw_1009, kw_1011, ks_Model_find, kw_9⟩ ⟨by decide +kernel, by decide +kernel, by decide +kernel⟩ rfl ⟨Nat.le_of_ble_eq_true rfl, Nat.le_of_ble_eq_true rfl⟩ 0 rfl rfl hl.1 rfl (Nat.le_of_ble_eq_true rfl) hA hK hP hD hS ⟨Nat.le_refl _, Nat.le_refl _⟩ rfl rfl rfl qd_Model_exportsWrong_20 (fun H locs hP hD hS => ?_)
      refine lv_if_lt (tgt := 33) hx hb qd_Model_exportsWrong_23 (by decide) (fun hc => ?_) (fun hc => ?_)
      · have hF := xx_ip hc hF
        obtain ⟨v9, ev9, hF⟩ := xx_nm_some hF
        refine lv_iinc (k := 1) (v := v9) hx hb qd_Model_exportsWrong_33 hl rfl (by rw [ev9, xx_lit1]) (by decide) rfl (fun ls hl => ?_)
        refine lv_goto (tgt := 2) hx hb qd_Model_exportsWrong_36 (by decide) ?_
        exact ih u7 v9 _ _ _ hF (lv_sub hl [1, 0] rfl) hP hD hS
      · have hF := xx_in' hc hF
        refine lv_aload_n hx hb qd_Model_exportsWrong_26 rfl (lv_at hl 0 rfl) ?_
        refine lv_iconst (v := (5 : Int32)) hx hb qd_Model_exportsWrong_27 (by decide) ?_
        refine lv_iload_n hx hb qd_Model_exportsWrong_28 rfl (lv_at hl 1 rfl) ?_
        obtain ⟨v11, u10, eu10, hF⟩ := xx_b2_some hF
        refine xx_callV (n := 2) (As := [.int (5 : Int32), .int x1]) (rest := []) C (qc_Model_wrong l g u7 (5 : Int32) x1 v11 u10 eu10) ⟨kw_1060, kw_1057, kw_1059, ks_Model_wrong, kw_9⟩ ⟨by decide +kernel, by decide +kernel, by decide +kernel⟩ rfl ⟨Nat.le_of_ble_eq_true rfl, Nat.le_of_ble_eq_true rfl⟩ 0 rfl rfl hl.1 rfl (Nat.le_of_ble_eq_true rfl) hA hK hP hD hS ⟨Nat.le_refl _, Nat.le_refl _⟩ rfl rfl rfl qd_Model_exportsWrong_29 (fun H locs hP hD hS => ?_)
        exact xx_zret C hF hK hP hD hS qd_Model_exportsWrong_32
set_option maxHeartbeats 4000000 in
set_option maxRecDepth 100000 in
theorem qc_Model_exportsWrong (l : Launch) (g : xx_G) (u : qm_S) (r : Int32) (u9 : qm_S) (hF : qf_Model_exportsWrong u = some (r, u9)) : xx_M l g.1 (qm_T g) (qm_W g) ky_Model_exportsWrong kb_Model_exportsWrong 2 (some .boolean) (xx_rm 2 42) [.ref (g.2.1 0)] u (some (.int r)) u9 := by
  refine xx_body (by decide) (Nat.le_of_ble_eq_true rfl) ?_
  intro p e s m args below meth c A ls C hin hK hl hA hP hD hS
  have hx := C.1
  have hb := C.2.1
  have hown := C.2.2.2.1
  have hts := C.2.2.2.2.1
  have hl : lv_has ls 2 [(0, .ref (g.2.1 0))] := hl
  unfold qf_Model_exportsWrong at hF
  refine lv_iconst (v := (0 : Int32)) hx hb qd_Model_exportsWrong_0 (by decide) ?_
  obtain ⟨v1, ev1, hF⟩ := xx_nm_some hF
  refine xx_topi ev1 ?_
  refine lv_istore_n hx hb qd_Model_exportsWrong_1 rfl hl (by decide) rfl (fun ls hl => ?_)
  exact qw_Model_exportsWrong_b2 C hA hK xx_fu u v1 _ _ _ hF (lv_sub hl [1, 0] rfl) hP hD hS
theorem kw_903 : Cond.fieldLink "ModuleLoaderModel" 191 "ModuleLoaderModel" "pc" "I" ∈ xx_tb := xx_in (List.mem_append_right _ (List.mem_of_getElem? (i := 903) (by decide +kernel))) (by decide +kernel)
set_option maxRecDepth 100000 in
theorem kw_1128 : Cond.code ky_Model_reckon kb_Model_reckon 4 (some .int) ∈ xx_tb := xx_in (List.mem_append_right _ (List.mem_of_getElem? (i := 1128) (by rfl))) (by decide +kernel)
theorem kw_1126 : Cond.methodLink "ModuleLoaderModel" 212 ky_Model_reckon ∈ xx_tb := xx_in (List.mem_append_right _ (List.mem_of_getElem? (i := 1126) (by decide +kernel))) (by decide +kernel)
theorem kw_1127 : Cond.static ky_Model_reckon ∈ xx_tb := xx_in (List.mem_append_right _ (List.mem_of_getElem? (i := 1127) (by decide +kernel))) (by decide +kernel)
set_option maxRecDepth 100000 in
theorem kw_1103 : Cond.code ky_Model_bits kb_Model_bits 3 (some .int) ∈ xx_tb := xx_in (List.mem_append_right _ (List.mem_of_getElem? (i := 1103) (by rfl))) (by decide +kernel)
theorem kw_1101 : Cond.methodLink "ModuleLoaderModel" 198 ky_Model_bits ∈ xx_tb := xx_in (List.mem_append_right _ (List.mem_of_getElem? (i := 1101) (by decide +kernel))) (by decide +kernel)
theorem kw_1102 : Cond.static ky_Model_bits ∈ xx_tb := xx_in (List.mem_append_right _ (List.mem_of_getElem? (i := 1102) (by decide +kernel))) (by decide +kernel)
set_option maxRecDepth 100000 in
theorem kw_1114 : Cond.code ky_Model_fetch kb_Model_fetch 7 (some .int) ∈ xx_tb := xx_in (List.mem_append_right _ (List.mem_of_getElem? (i := 1114) (by rfl))) (by decide +kernel)
theorem kw_1111 : Cond.methodLink "ModuleLoaderModel" 206 ky_Model_fetch ∈ xx_tb := xx_in (List.mem_append_right _ (List.mem_of_getElem? (i := 1111) (by decide +kernel))) (by decide +kernel)
theorem kw_1113 : Cond.instanceMethod ky_Model_fetch ∈ xx_tb := xx_in (List.mem_append_right _ (List.mem_of_getElem? (i := 1113) (by decide +kernel))) (by decide +kernel)
theorem ks_Model_fetch : Cond.selects "ModuleLoaderModel" ky_Model_fetch ky_Model_fetch ∈ xx_tb := xx_in (List.mem_append_left _ (by decide +kernel)) (by decide +kernel)
set_option maxRecDepth 100000 in
theorem kw_1125 : Cond.code ky_Model_store kb_Model_store 7 (some .int) ∈ xx_tb := xx_in (List.mem_append_right _ (List.mem_of_getElem? (i := 1125) (by rfl))) (by decide +kernel)
theorem kw_1122 : Cond.methodLink "ModuleLoaderModel" 209 ky_Model_store ∈ xx_tb := xx_in (List.mem_append_right _ (List.mem_of_getElem? (i := 1122) (by decide +kernel))) (by decide +kernel)
theorem kw_1124 : Cond.instanceMethod ky_Model_store ∈ xx_tb := xx_in (List.mem_append_right _ (List.mem_of_getElem? (i := 1124) (by decide +kernel))) (by decide +kernel)
theorem ks_Model_store : Cond.selects "ModuleLoaderModel" ky_Model_store ky_Model_store ∈ xx_tb := xx_in (List.mem_append_left _ (by decide +kernel)) (by decide +kernel)
set_option maxRecDepth 100000 in
theorem kw_1106 : Cond.code ky_Model_isSo kb_Model_isSo 4 (some .boolean) ∈ xx_tb := xx_in (List.mem_append_right _ (List.mem_of_getElem? (i := 1106) (by rfl))) (by decide +kernel)
theorem kw_1104 : Cond.methodLink "ModuleLoaderModel" 202 ky_Model_isSo ∈ xx_tb := xx_in (List.mem_append_right _ (List.mem_of_getElem? (i := 1104) (by decide +kernel))) (by decide +kernel)
theorem kw_1105 : Cond.static ky_Model_isSo ∈ xx_tb := xx_in (List.mem_append_right _ (List.mem_of_getElem? (i := 1105) (by decide +kernel))) (by decide +kernel)
theorem qd_Model_step_0 : decode kb_Model_step 0 = .ok (.aload_n 0, 1) := by decide +kernel
theorem qd_Model_step_1 : decode kb_Model_step 1 = .ok (.getfield 191, 3) := by decide +kernel
theorem qd_Model_step_4 : decode kb_Model_step 4 = .ok (.iconst 4, 1) := by decide +kernel
theorem qd_Model_step_5 : decode kb_Model_step 5 = .ok (.irem, 1) := by decide +kernel
theorem qd_Model_step_6 : decode kb_Model_step 6 = .ok (.ifCond .eq (5), 3) := by decide +kernel
theorem qd_Model_step_9 : decode kb_Model_step 9 = .ok (.iconst 1, 1) := by decide +kernel
theorem qd_Model_step_10 : decode kb_Model_step 10 = .ok (.ireturn, 1) := by decide +kernel
theorem qd_Model_step_11 : decode kb_Model_step 11 = .ok (.aload_n 0, 1) := by decide +kernel
theorem qd_Model_step_12 : decode kb_Model_step 12 = .ok (.getfield 191, 3) := by decide +kernel
theorem qd_Model_step_15 : decode kb_Model_step 15 = .ok (.ifCond .lt (13), 3) := by decide +kernel
theorem qd_Model_step_18 : decode kb_Model_step 18 = .ok (.aload_n 0, 1) := by decide +kernel
theorem qd_Model_step_19 : decode kb_Model_step 19 = .ok (.getfield 191, 3) := by decide +kernel
theorem qd_Model_step_22 : decode kb_Model_step 22 = .ok (.sipush (4096), 3) := by decide +kernel
theorem qd_Model_step_25 : decode kb_Model_step 25 = .ok (.if_icmp .lt (5), 3) := by decide +kernel
theorem qd_Model_step_28 : decode kb_Model_step 28 = .ok (.iconst 2, 1) := by decide +kernel
theorem qd_Model_step_29 : decode kb_Model_step 29 = .ok (.ireturn, 1) := by decide +kernel
theorem qd_Model_step_30 : decode kb_Model_step 30 = .ok (.aload_n 0, 1) := by decide +kernel
theorem qd_Model_step_31 : decode kb_Model_step 31 = .ok (.aload_n 0, 1) := by decide +kernel
theorem qd_Model_step_32 : decode kb_Model_step 32 = .ok (.getfield 191, 3) := by decide +kernel
theorem qd_Model_step_35 : decode kb_Model_step 35 = .ok (.invokevirtual 76, 3) := by decide +kernel
theorem qd_Model_step_38 : decode kb_Model_step 38 = .ok (.istore_n 1, 1) := by decide +kernel
theorem qd_Model_step_39 : decode kb_Model_step 39 = .ok (.iload_n 1, 1) := by decide +kernel
theorem qd_Model_step_40 : decode kb_Model_step 40 = .ok (.bipush (7), 2) := by decide +kernel
theorem qd_Model_step_42 : decode kb_Model_step 42 = .ok (.iconst 5, 1) := by decide +kernel
theorem qd_Model_step_43 : decode kb_Model_step 43 = .ok (.invokestatic 198, 3) := by decide +kernel
theorem qd_Model_step_46 : decode kb_Model_step 46 = .ok (.istore_n 2, 1) := by decide +kernel
theorem qd_Model_step_47 : decode kb_Model_step 47 = .ok (.aload_n 0, 1) := by decide +kernel
theorem qd_Model_step_48 : decode kb_Model_step 48 = .ok (.getfield 54, 3) := by decide +kernel
theorem qd_Model_step_51 : decode kb_Model_step 51 = .ok (.iload_n 1, 1) := by decide +kernel
theorem qd_Model_step_52 : decode kb_Model_step 52 = .ok (.bipush (15), 2) := by decide +kernel
theorem qd_Model_step_54 : decode kb_Model_step 54 = .ok (.iconst 5, 1) := by decide +kernel
theorem qd_Model_step_55 : decode kb_Model_step 55 = .ok (.invokestatic 198, 3) := by decide +kernel
theorem qd_Model_step_58 : decode kb_Model_step 58 = .ok (.iaload, 1) := by decide +kernel
theorem qd_Model_step_59 : decode kb_Model_step 59 = .ok (.istore_n 3, 1) := by decide +kernel
theorem qd_Model_step_60 : decode kb_Model_step 60 = .ok (.aload_n 0, 1) := by decide +kernel
theorem qd_Model_step_61 : decode kb_Model_step 61 = .ok (.getfield 54, 3) := by decide +kernel
theorem qd_Model_step_64 : decode kb_Model_step 64 = .ok (.iload_n 1, 1) := by decide +kernel
theorem qd_Model_step_65 : decode kb_Model_step 65 = .ok (.bipush (20), 2) := by decide +kernel
theorem qd_Model_step_67 : decode kb_Model_step 67 = .ok (.iconst 5, 1) := by decide +kernel
theorem qd_Model_step_68 : decode kb_Model_step 68 = .ok (.invokestatic 198, 3) := by decide +kernel
theorem qd_Model_step_71 : decode kb_Model_step 71 = .ok (.iaload, 1) := by decide +kernel
theorem qd_Model_step_72 : decode kb_Model_step 72 = .ok (.istore 4, 2) := by decide +kernel
theorem qd_Model_step_74 : decode kb_Model_step 74 = .ok (.iload_n 1, 1) := by decide +kernel
theorem qd_Model_step_75 : decode kb_Model_step 75 = .ok (.bipush (12), 2) := by decide +kernel
theorem qd_Model_step_77 : decode kb_Model_step 77 = .ok (.iconst 3, 1) := by decide +kernel
theorem qd_Model_step_78 : decode kb_Model_step 78 = .ok (.invokestatic 198, 3) := by decide +kernel
theorem qd_Model_step_81 : decode kb_Model_step 81 = .ok (.istore 5, 2) := by decide +kernel
theorem qd_Model_step_83 : decode kb_Model_step 83 = .ok (.iload_n 1, 1) := by decide +kernel
theorem qd_Model_step_84 : decode kb_Model_step 84 = .ok (.bipush (20), 2) := by decide +kernel
theorem qd_Model_step_86 : decode kb_Model_step 86 = .ok (.ishr, 1) := by decide +kernel
theorem qd_Model_step_87 : decode kb_Model_step 87 = .ok (.istore 6, 2) := by decide +kernel
theorem qd_Model_step_89 : decode kb_Model_step 89 = .ok (.aload_n 0, 1) := by decide +kernel
theorem qd_Model_step_90 : decode kb_Model_step 90 = .ok (.getfield 191, 3) := by decide +kernel
theorem qd_Model_step_93 : decode kb_Model_step 93 = .ok (.iconst 4, 1) := by decide +kernel
theorem qd_Model_step_94 : decode kb_Model_step 94 = .ok (.iadd, 1) := by decide +kernel
theorem qd_Model_step_95 : decode kb_Model_step 95 = .ok (.istore 7, 2) := by decide +kernel
theorem qd_Model_step_97 : decode kb_Model_step 97 = .ok (.iload_n 1, 1) := by decide +kernel
theorem qd_Model_step_98 : decode kb_Model_step 98 = .ok (.bipush (127), 2) := by decide +kernel
theorem qd_Model_step_100 : decode kb_Model_step 100 = .ok (.iand, 1) := by decide +kernel
theorem qd_Model_step_101 : decode kb_Model_step 101 = .ok (.lookupswitch (502) #[(3, 276), (19, 325), (23, 97), (35, 297), (51, 421), (55, 83), (99, 202), (103, 175), (111, 116)], 83) := by decide +kernel
theorem qd_Model_step_184 : decode kb_Model_step 184 = .ok (.aload_n 0, 1) := by decide +kernel
theorem qd_Model_step_185 : decode kb_Model_step 185 = .ok (.getfield 54, 3) := by decide +kernel
theorem qd_Model_step_188 : decode kb_Model_step 188 = .ok (.iload_n 2, 1) := by decide +kernel
theorem qd_Model_step_189 : decode kb_Model_step 189 = .ok (.iload_n 1, 1) := by decide +kernel
theorem qd_Model_step_190 : decode kb_Model_step 190 = .ok (.sipush (-4096), 3) := by decide +kernel
theorem qd_Model_step_193 : decode kb_Model_step 193 = .ok (.iand, 1) := by decide +kernel
theorem qd_Model_step_194 : decode kb_Model_step 194 = .ok (.iastore, 1) := by decide +kernel
theorem qd_Model_step_195 : decode kb_Model_step 195 = .ok (.goto (410), 3) := by decide +kernel
theorem qd_Model_step_198 : decode kb_Model_step 198 = .ok (.aload_n 0, 1) := by decide +kernel
theorem qd_Model_step_199 : decode kb_Model_step 199 = .ok (.getfield 54, 3) := by decide +kernel
theorem qd_Model_step_202 : decode kb_Model_step 202 = .ok (.iload_n 2, 1) := by decide +kernel
theorem qd_Model_step_203 : decode kb_Model_step 203 = .ok (.aload_n 0, 1) := by decide +kernel
theorem qd_Model_step_204 : decode kb_Model_step 204 = .ok (.getfield 191, 3) := by decide +kernel
theorem qd_Model_step_207 : decode kb_Model_step 207 = .ok (.iload_n 1, 1) := by decide +kernel
theorem qd_Model_step_208 : decode kb_Model_step 208 = .ok (.sipush (-4096), 3) := by decide +kernel
theorem qd_Model_step_211 : decode kb_Model_step 211 = .ok (.iand, 1) := by decide +kernel
theorem qd_Model_step_212 : decode kb_Model_step 212 = .ok (.iadd, 1) := by decide +kernel
theorem qd_Model_step_213 : decode kb_Model_step 213 = .ok (.iastore, 1) := by decide +kernel
theorem qd_Model_step_214 : decode kb_Model_step 214 = .ok (.goto (391), 3) := by decide +kernel
theorem qd_Model_step_217 : decode kb_Model_step 217 = .ok (.aload_n 0, 1) := by decide +kernel
theorem qd_Model_step_218 : decode kb_Model_step 218 = .ok (.getfield 54, 3) := by decide +kernel
theorem qd_Model_step_221 : decode kb_Model_step 221 = .ok (.iload_n 2, 1) := by decide +kernel
theorem qd_Model_step_222 : decode kb_Model_step 222 = .ok (.iload 7, 2) := by decide +kernel
theorem qd_Model_step_224 : decode kb_Model_step 224 = .ok (.iastore, 1) := by decide +kernel
theorem qd_Model_step_225 : decode kb_Model_step 225 = .ok (.aload_n 0, 1) := by decide +kernel
theorem qd_Model_step_226 : decode kb_Model_step 226 = .ok (.getfield 191, 3) := by decide +kernel
theorem qd_Model_step_229 : decode kb_Model_step 229 = .ok (.iload_n 1, 1) := by decide +kernel
theorem qd_Model_step_230 : decode kb_Model_step 230 = .ok (.bipush (31), 2) := by decide +kernel
theorem qd_Model_step_232 : decode kb_Model_step 232 = .ok (.ishr, 1) := by decide +kernel
theorem qd_Model_step_233 : decode kb_Model_step 233 = .ok (.bipush (20), 2) := by decide +kernel
theorem qd_Model_step_235 : decode kb_Model_step 235 = .ok (.ishl, 1) := by decide +kernel
theorem qd_Model_step_236 : decode kb_Model_step 236 = .ok (.iload_n 1, 1) := by decide +kernel
theorem qd_Model_step_237 : decode kb_Model_step 237 = .ok (.bipush (12), 2) := by decide +kernel
theorem qd_Model_step_239 : decode kb_Model_step 239 = .ok (.bipush (8), 2) := by decide +kernel
theorem qd_Model_step_241 : decode kb_Model_step 241 = .ok (.invokestatic 198, 3) := by decide +kernel
theorem qd_Model_step_244 : decode kb_Model_step 244 = .ok (.bipush (12), 2) := by decide +kernel
theorem qd_Model_step_246 : decode kb_Model_step 246 = .ok (.ishl, 1) := by decide +kernel
theorem qd_Model_step_247 : decode kb_Model_step 247 = .ok (.ior, 1) := by decide +kernel
theorem qd_Model_step_248 : decode kb_Model_step 248 = .ok (.iload_n 1, 1) := by decide +kernel
theorem qd_Model_step_249 : decode kb_Model_step 249 = .ok (.bipush (20), 2) := by decide +kernel
theorem qd_Model_step_251 : decode kb_Model_step 251 = .ok (.iconst 1, 1) := by decide +kernel
theorem qd_Model_step_252 : decode kb_Model_step 252 = .ok (.invokestatic 198, 3) := by decide +kernel
theorem qd_Model_step_255 : decode kb_Model_step 255 = .ok (.bipush (11), 2) := by decide +kernel
theorem qd_Model_step_257 : decode kb_Model_step 257 = .ok (.ishl, 1) := by decide +kernel
theorem qd_Model_step_258 : decode kb_Model_step 258 = .ok (.ior, 1) := by decide +kernel
theorem qd_Model_step_259 : decode kb_Model_step 259 = .ok (.iload_n 1, 1) := by decide +kernel
theorem qd_Model_step_260 : decode kb_Model_step 260 = .ok (.bipush (21), 2) := by decide +kernel
theorem qd_Model_step_262 : decode kb_Model_step 262 = .ok (.bipush (10), 2) := by decide +kernel
theorem qd_Model_step_264 : decode kb_Model_step 264 = .ok (.invokestatic 198, 3) := by decide +kernel
theorem qd_Model_step_267 : decode kb_Model_step 267 = .ok (.iconst 1, 1) := by decide +kernel
theorem qd_Model_step_268 : decode kb_Model_step 268 = .ok (.ishl, 1) := by decide +kernel
theorem qd_Model_step_269 : decode kb_Model_step 269 = .ok (.ior, 1) := by decide +kernel
theorem qd_Model_step_270 : decode kb_Model_step 270 = .ok (.iadd, 1) := by decide +kernel
theorem qd_Model_step_271 : decode kb_Model_step 271 = .ok (.istore 7, 2) := by decide +kernel
theorem qd_Model_step_273 : decode kb_Model_step 273 = .ok (.goto (332), 3) := by decide +kernel
theorem qd_Model_step_276 : decode kb_Model_step 276 = .ok (.iload 5, 2) := by decide +kernel
theorem qd_Model_step_278 : decode kb_Model_step 278 = .ok (.ifCond .eq (5), 3) := by decide +kernel
theorem qd_Model_step_281 : decode kb_Model_step 281 = .ok (.iconst 3, 1) := by decide +kernel
theorem qd_Model_step_282 : decode kb_Model_step 282 = .ok (.ireturn, 1) := by decide +kernel
theorem qd_Model_step_283 : decode kb_Model_step 283 = .ok (.aload_n 0, 1) := by decide +kernel
theorem qd_Model_step_284 : decode kb_Model_step 284 = .ok (.getfield 54, 3) := by decide +kernel
theorem qd_Model_step_287 : decode kb_Model_step 287 = .ok (.iload_n 2, 1) := by decide +kernel
theorem qd_Model_step_288 : decode kb_Model_step 288 = .ok (.iload 7, 2) := by decide +kernel
theorem qd_Model_step_290 : decode kb_Model_step 290 = .ok (.iastore, 1) := by decide +kernel
theorem qd_Model_step_291 : decode kb_Model_step 291 = .ok (.iload_n 3, 1) := by decide +kernel
theorem qd_Model_step_292 : decode kb_Model_step 292 = .ok (.iload 6, 2) := by decide +kernel
theorem qd_Model_step_294 : decode kb_Model_step 294 = .ok (.iadd, 1) := by decide +kernel
theorem qd_Model_step_295 : decode kb_Model_step 295 = .ok (.bipush (-2), 2) := by decide +kernel
theorem qd_Model_step_297 : decode kb_Model_step 297 = .ok (.iand, 1) := by decide +kernel
theorem qd_Model_step_298 : decode kb_Model_step 298 = .ok (.istore 7, 2) := by decide +kernel
theorem qd_Model_step_300 : decode kb_Model_step 300 = .ok (.goto (305), 3) := by decide +kernel
theorem qd_Model_step_303 : decode kb_Model_step 303 = .ok (.iload 5, 2) := by decide +kernel
theorem qd_Model_step_305 : decode kb_Model_step 305 = .ok (.iconst 2, 1) := by decide +kernel
theorem qd_Model_step_306 : decode kb_Model_step 306 = .ok (.if_icmp .eq (9), 3) := by decide +kernel
theorem qd_Model_step_309 : decode kb_Model_step 309 = .ok (.iload 5, 2) := by decide +kernel
theorem qd_Model_step_311 : decode kb_Model_step 311 = .ok (.iconst 3, 1) := by decide +kernel
theorem qd_Model_step_312 : decode kb_Model_step 312 = .ok (.if_icmp .ne (5), 3) := by decide +kernel
theorem qd_Model_step_315 : decode kb_Model_step 315 = .ok (.iconst 3, 1) := by decide +kernel
theorem qd_Model_step_316 : decode kb_Model_step 316 = .ok (.ireturn, 1) := by decide +kernel
theorem qd_Model_step_317 : decode kb_Model_step 317 = .ok (.iload 5, 2) := by decide +kernel
theorem qd_Model_step_319 : decode kb_Model_step 319 = .ok (.iload_n 3, 1) := by decide +kernel
theorem qd_Model_step_320 : decode kb_Model_step 320 = .ok (.iload 4, 2) := by decide +kernel
theorem qd_Model_step_322 : decode kb_Model_step 322 = .ok (.invokestatic 202, 3) := by decide +kernel
theorem qd_Model_step_325 : decode kb_Model_step 325 = .ok (.ifCond .eq (280), 3) := by decide +kernel
theorem qd_Model_step_328 : decode kb_Model_step 328 = .ok (.aload_n 0, 1) := by decide +kernel
theorem qd_Model_step_329 : decode kb_Model_step 329 = .ok (.getfield 191, 3) := by decide +kernel
theorem qd_Model_step_332 : decode kb_Model_step 332 = .ok (.iload_n 1, 1) := by decide +kernel
theorem qd_Model_step_333 : decode kb_Model_step 333 = .ok (.bipush (31), 2) := by decide +kernel
theorem qd_Model_step_335 : decode kb_Model_step 335 = .ok (.ishr, 1) := by decide +kernel
theorem qd_Model_step_336 : decode kb_Model_step 336 = .ok (.bipush (12), 2) := by decide +kernel
theorem qd_Model_step_338 : decode kb_Model_step 338 = .ok (.ishl, 1) := by decide +kernel
theorem qd_Model_step_339 : decode kb_Model_step 339 = .ok (.iload_n 1, 1) := by decide +kernel
theorem qd_Model_step_340 : decode kb_Model_step 340 = .ok (.bipush (7), 2) := by decide +kernel
theorem qd_Model_step_342 : decode kb_Model_step 342 = .ok (.iconst 1, 1) := by decide +kernel
theorem qd_Model_step_343 : decode kb_Model_step 343 = .ok (.invokestatic 198, 3) := by decide +kernel
theorem qd_Model_step_346 : decode kb_Model_step 346 = .ok (.bipush (11), 2) := by decide +kernel
theorem qd_Model_step_348 : decode kb_Model_step 348 = .ok (.ishl, 1) := by decide +kernel
theorem qd_Model_step_349 : decode kb_Model_step 349 = .ok (.ior, 1) := by decide +kernel
theorem qd_Model_step_350 : decode kb_Model_step 350 = .ok (.iload_n 1, 1) := by decide +kernel
theorem qd_Model_step_351 : decode kb_Model_step 351 = .ok (.bipush (25), 2) := by decide +kernel
theorem qd_Model_step_353 : decode kb_Model_step 353 = .ok (.bipush (6), 2) := by decide +kernel
theorem qd_Model_step_355 : decode kb_Model_step 355 = .ok (.invokestatic 198, 3) := by decide +kernel
theorem qd_Model_step_358 : decode kb_Model_step 358 = .ok (.iconst 5, 1) := by decide +kernel
theorem qd_Model_step_359 : decode kb_Model_step 359 = .ok (.ishl, 1) := by decide +kernel
theorem qd_Model_step_360 : decode kb_Model_step 360 = .ok (.ior, 1) := by decide +kernel
theorem qd_Model_step_361 : decode kb_Model_step 361 = .ok (.iload_n 1, 1) := by decide +kernel
theorem qd_Model_step_362 : decode kb_Model_step 362 = .ok (.bipush (8), 2) := by decide +kernel
theorem qd_Model_step_364 : decode kb_Model_step 364 = .ok (.iconst 4, 1) := by decide +kernel
theorem qd_Model_step_365 : decode kb_Model_step 365 = .ok (.invokestatic 198, 3) := by decide +kernel
theorem qd_Model_step_368 : decode kb_Model_step 368 = .ok (.iconst 1, 1) := by decide +kernel
theorem qd_Model_step_369 : decode kb_Model_step 369 = .ok (.ishl, 1) := by decide +kernel
theorem qd_Model_step_370 : decode kb_Model_step 370 = .ok (.ior, 1) := by decide +kernel
theorem qd_Model_step_371 : decode kb_Model_step 371 = .ok (.iadd, 1) := by decide +kernel
theorem qd_Model_step_372 : decode kb_Model_step 372 = .ok (.istore 7, 2) := by decide +kernel
theorem qd_Model_step_374 : decode kb_Model_step 374 = .ok (.goto (231), 3) := by decide +kernel
theorem qd_Model_step_377 : decode kb_Model_step 377 = .ok (.aload_n 0, 1) := by decide +kernel
theorem qd_Model_step_378 : decode kb_Model_step 378 = .ok (.iload 5, 2) := by decide +kernel
theorem qd_Model_step_380 : decode kb_Model_step 380 = .ok (.iload_n 3, 1) := by decide +kernel
theorem qd_Model_step_381 : decode kb_Model_step 381 = .ok (.iload 6, 2) := by decide +kernel
theorem qd_Model_step_383 : decode kb_Model_step 383 = .ok (.iadd, 1) := by decide +kernel
theorem qd_Model_step_384 : decode kb_Model_step 384 = .ok (.iload_n 2, 1) := by decide +kernel
theorem qd_Model_step_385 : decode kb_Model_step 385 = .ok (.invokevirtual 206, 3) := by decide +kernel
theorem qd_Model_step_388 : decode kb_Model_step 388 = .ok (.istore 8, 2) := by decide +kernel
theorem qd_Model_step_390 : decode kb_Model_step 390 = .ok (.iload 8, 2) := by decide +kernel
theorem qd_Model_step_392 : decode kb_Model_step 392 = .ok (.ifCond .le (213), 3) := by decide +kernel
theorem qd_Model_step_395 : decode kb_Model_step 395 = .ok (.iload 8, 2) := by decide +kernel
theorem qd_Model_step_397 : decode kb_Model_step 397 = .ok (.ireturn, 1) := by decide +kernel
theorem qd_Model_step_398 : decode kb_Model_step 398 = .ok (.aload_n 0, 1) := by decide +kernel
theorem qd_Model_step_399 : decode kb_Model_step 399 = .ok (.iload 5, 2) := by decide +kernel
theorem qd_Model_step_401 : decode kb_Model_step 401 = .ok (.iload_n 3, 1) := by decide +kernel
theorem qd_Model_step_402 : decode kb_Model_step 402 = .ok (.iload_n 1, 1) := by decide +kernel
theorem qd_Model_step_403 : decode kb_Model_step 403 = .ok (.bipush (25), 2) := by decide +kernel
theorem qd_Model_step_405 : decode kb_Model_step 405 = .ok (.ishr, 1) := by decide +kernel
theorem qd_Model_step_406 : decode kb_Model_step 406 = .ok (.iconst 5, 1) := by decide +kernel
theorem qd_Model_step_407 : decode kb_Model_step 407 = .ok (.ishl, 1) := by decide +kernel
theorem qd_Model_step_408 : decode kb_Model_step 408 = .ok (.iload_n 2, 1) := by decide +kernel
theorem qd_Model_step_409 : decode kb_Model_step 409 = .ok (.ior, 1) := by decide +kernel
theorem qd_Model_step_410 : decode kb_Model_step 410 = .ok (.iadd, 1) := by decide +kernel
theorem qd_Model_step_411 : decode kb_Model_step 411 = .ok (.iload 4, 2) := by decide +kernel
theorem qd_Model_step_413 : decode kb_Model_step 413 = .ok (.invokevirtual 209, 3) := by decide +kernel
theorem qd_Model_step_416 : decode kb_Model_step 416 = .ok (.istore 9, 2) := by decide +kernel
theorem qd_Model_step_418 : decode kb_Model_step 418 = .ok (.iload 9, 2) := by decide +kernel
theorem qd_Model_step_420 : decode kb_Model_step 420 = .ok (.ifCond .le (185), 3) := by decide +kernel
theorem qd_Model_step_423 : decode kb_Model_step 423 = .ok (.iload 9, 2) := by decide +kernel
theorem qd_Model_step_425 : decode kb_Model_step 425 = .ok (.ireturn, 1) := by decide +kernel
theorem qd_Model_step_426 : decode kb_Model_step 426 = .ok (.iload 5, 2) := by decide +kernel
theorem qd_Model_step_428 : decode kb_Model_step 428 = .ok (.iconst 1, 1) := by decide +kernel
theorem qd_Model_step_429 : decode kb_Model_step 429 = .ok (.if_icmp .ne (10), 3) := by decide +kernel
theorem qd_Model_step_432 : decode kb_Model_step 432 = .ok (.iload_n 1, 1) := by decide +kernel
theorem qd_Model_step_433 : decode kb_Model_step 433 = .ok (.bipush (25), 2) := by decide +kernel
theorem qd_Model_step_435 : decode kb_Model_step 435 = .ok (.iushr, 1) := by decide +kernel
theorem qd_Model_step_436 : decode kb_Model_step 436 = .ok (.ifCond .ne (25), 3) := by decide +kernel
theorem qd_Model_step_439 : decode kb_Model_step 439 = .ok (.iload 5, 2) := by decide +kernel
theorem qd_Model_step_441 : decode kb_Model_step 441 = .ok (.iconst 5, 1) := by decide +kernel
theorem qd_Model_step_442 : decode kb_Model_step 442 = .ok (.if_icmp .ne (21), 3) := by decide +kernel
theorem qd_Model_step_445 : decode kb_Model_step 445 = .ok (.iload_n 1, 1) := by decide +kernel
theorem qd_Model_step_446 : decode kb_Model_step 446 = .ok (.bipush (25), 2) := by decide +kernel
theorem qd_Model_step_448 : decode kb_Model_step 448 = .ok (.iushr, 1) := by decide +kernel
theorem qd_Model_step_449 : decode kb_Model_step 449 = .ok (.ifCond .eq (14), 3) := by decide +kernel
theorem qd_Model_step_452 : decode kb_Model_step 452 = .ok (.iload_n 1, 1) := by decide +kernel
theorem qd_Model_step_453 : decode kb_Model_step 453 = .ok (.bipush (25), 2) := by decide +kernel
theorem qd_Model_step_455 : decode kb_Model_step 455 = .ok (.iushr, 1) := by decide +kernel
theorem qd_Model_step_456 : decode kb_Model_step 456 = .ok (.bipush (32), 2) := by decide +kernel
theorem qd_Model_step_458 : decode kb_Model_step 458 = .ok (.if_icmp .eq (5), 3) := by decide +kernel
theorem qd_Model_step_461 : decode kb_Model_step 461 = .ok (.iconst 3, 1) := by decide +kernel
theorem qd_Model_step_462 : decode kb_Model_step 462 = .ok (.ireturn, 1) := by decide +kernel
theorem qd_Model_step_463 : decode kb_Model_step 463 = .ok (.aload_n 0, 1) := by decide +kernel
theorem qd_Model_step_464 : decode kb_Model_step 464 = .ok (.getfield 54, 3) := by decide +kernel
theorem qd_Model_step_467 : decode kb_Model_step 467 = .ok (.iload_n 2, 1) := by decide +kernel
theorem qd_Model_step_468 : decode kb_Model_step 468 = .ok (.iload 5, 2) := by decide +kernel
theorem qd_Model_step_470 : decode kb_Model_step 470 = .ok (.iload_n 3, 1) := by decide +kernel
theorem qd_Model_step_471 : decode kb_Model_step 471 = .ok (.iload 5, 2) := by decide +kernel
theorem qd_Model_step_473 : decode kb_Model_step 473 = .ok (.iconst 1, 1) := by decide +kernel
theorem qd_Model_step_474 : decode kb_Model_step 474 = .ok (.if_icmp .eq (9), 3) := by decide +kernel
theorem qd_Model_step_477 : decode kb_Model_step 477 = .ok (.iload 5, 2) := by decide +kernel
theorem qd_Model_step_479 : decode kb_Model_step 479 = .ok (.iconst 5, 1) := by decide +kernel
theorem qd_Model_step_480 : decode kb_Model_step 480 = .ok (.if_icmp .ne (13), 3) := by decide +kernel
theorem qd_Model_step_483 : decode kb_Model_step 483 = .ok (.iload_n 1, 1) := by decide +kernel
theorem qd_Model_step_484 : decode kb_Model_step 484 = .ok (.bipush (20), 2) := by decide +kernel
theorem qd_Model_step_486 : decode kb_Model_step 486 = .ok (.iconst 5, 1) := by decide +kernel
theorem qd_Model_step_487 : decode kb_Model_step 487 = .ok (.invokestatic 198, 3) := by decide +kernel
theorem qd_Model_step_490 : decode kb_Model_step 490 = .ok (.goto (5), 3) := by decide +kernel
theorem qd_Model_step_493 : decode kb_Model_step 493 = .ok (.iload 6, 2) := by decide +kernel
theorem qd_Model_step_495 : decode kb_Model_step 495 = .ok (.iload 5, 2) := by decide +kernel
theorem qd_Model_step_497 : decode kb_Model_step 497 = .ok (.iconst 5, 1) := by decide +kernel
theorem qd_Model_step_498 : decode kb_Model_step 498 = .ok (.if_icmp .ne (16), 3) := by decide +kernel
theorem qd_Model_step_501 : decode kb_Model_step 501 = .ok (.iload_n 1, 1) := by decide +kernel
theorem qd_Model_step_502 : decode kb_Model_step 502 = .ok (.bipush (25), 2) := by decide +kernel
theorem qd_Model_step_504 : decode kb_Model_step 504 = .ok (.iushr, 1) := by decide +kernel
theorem qd_Model_step_505 : decode kb_Model_step 505 = .ok (.bipush (32), 2) := by decide +kernel
theorem qd_Model_step_507 : decode kb_Model_step 507 = .ok (.if_icmp .ne (7), 3) := by decide +kernel
theorem qd_Model_step_510 : decode kb_Model_step 510 = .ok (.iconst 1, 1) := by decide +kernel
theorem qd_Model_step_511 : decode kb_Model_step 511 = .ok (.goto (4), 3) := by decide +kernel
theorem qd_Model_step_514 : decode kb_Model_step 514 = .ok (.iconst 0, 1) := by decide +kernel
theorem qd_Model_step_515 : decode kb_Model_step 515 = .ok (.invokestatic 212, 3) := by decide +kernel
theorem qd_Model_step_518 : decode kb_Model_step 518 = .ok (.iastore, 1) := by decide +kernel
theorem qd_Model_step_519 : decode kb_Model_step 519 = .ok (.goto (86), 3) := by decide +kernel
theorem qd_Model_step_522 : decode kb_Model_step 522 = .ok (.iload_n 1, 1) := by decide +kernel
theorem qd_Model_step_523 : decode kb_Model_step 523 = .ok (.bipush (25), 2) := by decide +kernel
theorem qd_Model_step_525 : decode kb_Model_step 525 = .ok (.iushr, 1) := by decide +kernel
theorem qd_Model_step_526 : decode kb_Model_step 526 = .ok (.ifCond .eq (25), 3) := by decide +kernel
theorem qd_Model_step_529 : decode kb_Model_step 529 = .ok (.iload_n 1, 1) := by decide +kernel
theorem qd_Model_step_530 : decode kb_Model_step 530 = .ok (.bipush (25), 2) := by decide +kernel
theorem qd_Model_step_532 : decode kb_Model_step 532 = .ok (.iushr, 1) := by decide +kernel
theorem qd_Model_step_533 : decode kb_Model_step 533 = .ok (.bipush (32), 2) := by decide +kernel
theorem qd_Model_step_535 : decode kb_Model_step 535 = .ok (.if_icmp .ne (14), 3) := by decide +kernel
theorem qd_Model_step_538 : decode kb_Model_step 538 = .ok (.iload 5, 2) := by decide +kernel
theorem qd_Model_step_540 : decode kb_Model_step 540 = .ok (.ifCond .eq (11), 3) := by decide +kernel
theorem qd_Model_step_543 : decode kb_Model_step 543 = .ok (.iload 5, 2) := by decide +kernel
theorem qd_Model_step_545 : decode kb_Model_step 545 = .ok (.iconst 5, 1) := by decide +kernel
theorem qd_Model_step_546 : decode kb_Model_step 546 = .ok (.if_icmp .eq (5), 3) := by decide +kernel
theorem qd_Model_step_549 : decode kb_Model_step 549 = .ok (.iconst 3, 1) := by decide +kernel
theorem qd_Model_step_550 : decode kb_Model_step 550 = .ok (.ireturn, 1) := by decide +kernel
theorem qd_Model_step_551 : decode kb_Model_step 551 = .ok (.aload_n 0, 1) := by decide +kernel
theorem qd_Model_step_552 : decode kb_Model_step 552 = .ok (.getfield 54, 3) := by decide +kernel
theorem qd_Model_step_555 : decode kb_Model_step 555 = .ok (.iload_n 2, 1) := by decide +kernel
theorem qd_Model_step_556 : decode kb_Model_step 556 = .ok (.iload 5, 2) := by decide +kernel
theorem qd_Model_step_558 : decode kb_Model_step 558 = .ok (.ifCond .ne (19), 3) := by decide +kernel
theorem qd_Model_step_561 : decode kb_Model_step 561 = .ok (.iload_n 1, 1) := by decide +kernel
theorem qd_Model_step_562 : decode kb_Model_step 562 = .ok (.bipush (25), 2) := by decide +kernel
theorem qd_Model_step_564 : decode kb_Model_step 564 = .ok (.iushr, 1) := by decide +kernel
theorem qd_Model_step_565 : decode kb_Model_step 565 = .ok (.bipush (32), 2) := by decide +kernel
theorem qd_Model_step_567 : decode kb_Model_step 567 = .ok (.if_icmp .ne (10), 3) := by decide +kernel
theorem qd_Model_step_570 : decode kb_Model_step 570 = .ok (.iload_n 3, 1) := by decide +kernel
theorem qd_Model_step_571 : decode kb_Model_step 571 = .ok (.iload 4, 2) := by decide +kernel
theorem qd_Model_step_573 : decode kb_Model_step 573 = .ok (.isub, 1) := by decide +kernel
theorem qd_Model_step_574 : decode kb_Model_step 574 = .ok (.goto (25), 3) := by decide +kernel
theorem qd_Model_step_577 : decode kb_Model_step 577 = .ok (.iload 5, 2) := by decide +kernel
theorem qd_Model_step_579 : decode kb_Model_step 579 = .ok (.iload_n 3, 1) := by decide +kernel
theorem qd_Model_step_580 : decode kb_Model_step 580 = .ok (.iload 4, 2) := by decide +kernel
theorem qd_Model_step_582 : decode kb_Model_step 582 = .ok (.iload_n 1, 1) := by decide +kernel
theorem qd_Model_step_583 : decode kb_Model_step 583 = .ok (.bipush (25), 2) := by decide +kernel
theorem qd_Model_step_585 : decode kb_Model_step 585 = .ok (.iushr, 1) := by decide +kernel
theorem qd_Model_step_586 : decode kb_Model_step 586 = .ok (.bipush (32), 2) := by decide +kernel
theorem qd_Model_step_588 : decode kb_Model_step 588 = .ok (.if_icmp .ne (7), 3) := by decide +kernel
theorem qd_Model_step_591 : decode kb_Model_step 591 = .ok (.iconst 1, 1) := by decide +kernel
theorem qd_Model_step_592 : decode kb_Model_step 592 = .ok (.goto (4), 3) := by decide +kernel
theorem qd_Model_step_595 : decode kb_Model_step 595 = .ok (.iconst 0, 1) := by decide +kernel
theorem qd_Model_step_596 : decode kb_Model_step 596 = .ok (.invokestatic 212, 3) := by decide +kernel
theorem qd_Model_step_599 : decode kb_Model_step 599 = .ok (.iastore, 1) := by decide +kernel
theorem qd_Model_step_600 : decode kb_Model_step 600 = .ok (.goto (5), 3) := by decide +kernel
theorem qd_Model_step_603 : decode kb_Model_step 603 = .ok (.iconst 3, 1) := by decide +kernel
theorem qd_Model_step_604 : decode kb_Model_step 604 = .ok (.ireturn, 1) := by decide +kernel
theorem qd_Model_step_605 : decode kb_Model_step 605 = .ok (.aload_n 0, 1) := by decide +kernel
theorem qd_Model_step_606 : decode kb_Model_step 606 = .ok (.iload 7, 2) := by decide +kernel
theorem qd_Model_step_608 : decode kb_Model_step 608 = .ok (.putfield 191, 3) := by decide +kernel
theorem qd_Model_step_611 : decode kb_Model_step 611 = .ok (.iconst 0, 1) := by decide +kernel
theorem qd_Model_step_612 : decode kb_Model_step 612 = .ok (.ireturn, 1) := by decide +kernel
def qf_Model_step_b28 (u : qm_S) : Option (Int32 × qm_S) := some ((2 : Int32), u)
def qf_Model_step_b315 (u : qm_S) : Option (Int32 × qm_S) := some ((3 : Int32), u)
def qf_Model_step_b461 (u : qm_S) : Option (Int32 × qm_S) := some ((3 : Int32), u)
def qf_Model_step_b605 (u : qm_S) (x7 : Int32) : Option (Int32 × qm_S) := xx_nm (va_up u.1 30 x7, u.2) fun u1 => some ((0 : Int32), u1)
def qf_Model_step_b515 (u : qm_S) (x7 : Int32) (y1 : Int32) (y2 : Int32) (y3 : Int32) (y4 : Int32) (y5 : Int32) : Option (Int32 × qm_S) := xx_b2 (qf_Model_reckon u y2 y3 y4 y5) fun v2 u1 => (xx_as (u1.2 14) 32 y1 v2).bind fun f3 => xx_nm (u1.1, va_up u1.2 14 f3) fun u4 => qf_Model_step_b605 u4 x7
def qf_Model_step_b514 (u : qm_S) (x7 : Int32) (y1 : Int32) (y2 : Int32) (y3 : Int32) (y4 : Int32) : Option (Int32 × qm_S) := qf_Model_step_b515 u x7 y1 y2 y3 y4 (0 : Int32)
def qf_Model_step_b495 (u : qm_S) (x1 : Int32) (x5 : Int32) (x7 : Int32) (y1 : Int32) (y2 : Int32) (y3 : Int32) (y4 : Int32) : Option (Int32 × qm_S) := if x5 = (5 : Int32) then (if (xx_ush x1 (25 : Int32)) = (32 : Int32) then (qf_Model_step_b515 u x7 y1 y2 y3 y4 (1 : Int32)) else (qf_Model_step_b514 u x7 y1 y2 y3 y4)) else (qf_Model_step_b514 u x7 y1 y2 y3 y4)
def qf_Model_step_b483 (u : qm_S) (x1 : Int32) (x5 : Int32) (x7 : Int32) (y1 : Int32) (y2 : Int32) (y3 : Int32) : Option (Int32 × qm_S) := xx_b2 (qf_Model_bits u x1 (20 : Int32) (5 : Int32)) fun v2 u1 => qf_Model_step_b495 u1 x1 x5 x7 y1 y2 y3 v2
def qf_Model_step_b463 (u : qm_S) (x1 : Int32) (x2 : Int32) (x3 : Int32) (x5 : Int32) (x6 : Int32) (x7 : Int32) : Option (Int32 × qm_S) := if x5 = (1 : Int32) then (qf_Model_step_b483 u x1 x5 x7 x2 x5 x3) else (if x5 = (5 : Int32) then (qf_Model_step_b483 u x1 x5 x7 x2 x5 x3) else (qf_Model_step_b495 u x1 x5 x7 x2 x5 x3 x6))
def qf_Model_step_b439 (u : qm_S) (x1 : Int32) (x2 : Int32) (x3 : Int32) (x5 : Int32) (x6 : Int32) (x7 : Int32) : Option (Int32 × qm_S) := if x5 = (5 : Int32) then (if (xx_ush x1 (25 : Int32)) = 0 then (qf_Model_step_b463 u x1 x2 x3 x5 x6 x7) else (if (xx_ush x1 (25 : Int32)) = (32 : Int32) then (qf_Model_step_b463 u x1 x2 x3 x5 x6 x7) else (qf_Model_step_b461 u))) else (qf_Model_step_b463 u x1 x2 x3 x5 x6 x7)
def qf_Model_step_b549 (u : qm_S) : Option (Int32 × qm_S) := some ((3 : Int32), u)
def qf_Model_step_b599 (u : qm_S) (x7 : Int32) (y1 : Int32) (y2 : Int32) : Option (Int32 × qm_S) := (xx_as (u.2 14) 32 y1 y2).bind fun f1 => xx_nm (u.1, va_up u.2 14 f1) fun u2 => qf_Model_step_b605 u2 x7
def qf_Model_step_b596 (u : qm_S) (x7 : Int32) (y1 : Int32) (y2 : Int32) (y3 : Int32) (y4 : Int32) (y5 : Int32) : Option (Int32 × qm_S) := xx_b2 (qf_Model_reckon u y2 y3 y4 y5) fun v2 u1 => qf_Model_step_b599 u1 x7 y1 v2
def qf_Model_step_b577 (u : qm_S) (x1 : Int32) (x3 : Int32) (x4 : Int32) (x5 : Int32) (x7 : Int32) (y1 : Int32) : Option (Int32 × qm_S) := if (xx_ush x1 (25 : Int32)) = (32 : Int32) then (qf_Model_step_b596 u x7 y1 x5 x3 x4 (1 : Int32)) else (qf_Model_step_b596 u x7 y1 x5 x3 x4 (0 : Int32))
def qf_Model_step_b551 (u : qm_S) (x1 : Int32) (x2 : Int32) (x3 : Int32) (x4 : Int32) (x5 : Int32) (x7 : Int32) : Option (Int32 × qm_S) := if x5 = 0 then (if (xx_ush x1 (25 : Int32)) = (32 : Int32) then (qf_Model_step_b599 u x7 x2 (x3 - x4)) else (qf_Model_step_b577 u x1 x3 x4 x5 x7 x2)) else (qf_Model_step_b577 u x1 x3 x4 x5 x7 x2)
def qf_Model_step (u : qm_S) : Option (Int32 × qm_S) := if ((u.1 30) - (u.1 30) / (4 : Int32) * (4 : Int32)) = 0 then (if (u.1 30) < 0 then (qf_Model_step_b28 u) else (if (u.1 30) < (4096 : Int32) then (xx_b2 (qf_Model_wordAt u (u.1 30)) fun v2 u1 => xx_b2 (qf_Model_bits u1 v2 (7 : Int32) (5 : Int32)) fun v4 u3 => xx_b2 (qf_Model_bits u3 v2 (15 : Int32) (5 : Int32)) fun v6 u5 => (xx_ag (u5.2 14) 32 v6).bind fun v7 => xx_b2 (qf_Model_bits u5 v2 (20 : Int32) (5 : Int32)) fun v9 u8 => (xx_ag (u8.2 14) 32 v9).bind fun v10 => xx_b2 (qf_Model_bits u8 v2 (12 : Int32) (3 : Int32)) fun v12 u11 => xx_nm (v2 >>> ((20 : Int32) &&& 31)) fun v13 => xx_nm ((u11.1 30) + (4 : Int32)) fun v14 => xx_nm (v2 &&& (127 : Int32)) fun v15 => if v15 = 3 then (xx_b2 (qf_Model_fetch u11 v12 (v7 + v13) v4) fun v17 u16 => if v17 ≤ 0 then (qf_Model_step_b605 u16 v14) else (some (v17, u16))) else (if v15 = 19 then (if v12 = (1 : Int32) then (if (xx_ush v2 (25 : Int32)) = 0 then (qf_Model_step_b439 u11 v2 v4 v7 v12 v13 v14) else (qf_Model_step_b461 u11)) else (qf_Model_step_b439 u11 v2 v4 v7 v12 v13 v14)) else (if v15 = 23 then ((xx_as (u11.2 14) 32 v4 ((u11.1 30) + (v2 &&& (-4096 : Int32)))).bind fun f18 => xx_nm (u11.1, va_up u11.2 14 f18) fun u19 => qf_Model_step_b605 u19 v14) else (if v15 = 35 then (xx_b2 (qf_Model_store u11 v12 (v7 + (((v2 >>> ((25 : Int32) &&& 31)) <<< ((5 : Int32) &&& 31)) ||| v4)) v10) fun v21 u20 => if v21 ≤ 0 then (qf_Model_step_b605 u20 v14) else (some (v21, u20))) else (if v15 = 51 then (if (xx_ush v2 (25 : Int32)) = 0 then (qf_Model_step_b551 u11 v2 v4 v7 v10 v12 v14) else (if (xx_ush v2 (25 : Int32)) = (32 : Int32) then (if v12 = 0 then (qf_Model_step_b551 u11 v2 v4 v7 v10 v12 v14) else (if v12 = (5 : Int32) then (qf_Model_step_b551 u11 v2 v4 v7 v10 v12 v14) else (qf_Model_step_b549 u11))) else (qf_Model_step_b549 u11))) else (if v15 = 55 then ((xx_as (u11.2 14) 32 v4 (v2 &&& (-4096 : Int32))).bind fun f22 => xx_nm (u11.1, va_up u11.2 14 f22) fun u23 => qf_Model_step_b605 u23 v14) else (if v15 = 99 then (if v12 = (2 : Int32) then (qf_Model_step_b315 u11) else (if v12 = (3 : Int32) then (qf_Model_step_b315 u11) else (xx_b2 (qf_Model_isSo u11 v12 v7 v10) fun v25 u24 => if v25 = 0 then (qf_Model_step_b605 u24 v14) else (xx_b2 (qf_Model_bits u24 v2 (7 : Int32) (1 : Int32)) fun v27 u26 => xx_b2 (qf_Model_bits u26 v2 (25 : Int32) (6 : Int32)) fun v29 u28 => xx_b2 (qf_Model_bits u28 v2 (8 : Int32) (4 : Int32)) fun v31 u30 => xx_nm ((u24.1 30) + (((((v2 >>> ((31 : Int32) &&& 31)) <<< ((12 : Int32) &&& 31)) ||| (v27 <<< ((11 : Int32) &&& 31))) ||| (v29 <<< ((5 : Int32) &&& 31))) ||| (v31 <<< ((1 : Int32) &&& 31)))) fun v32 => qf_Model_step_b605 u30 v32)))) else (if v15 = 103 then (if v12 = 0 then ((xx_as (u11.2 14) 32 v4 v14).bind fun f33 => xx_nm (u11.1, va_up u11.2 14 f33) fun u34 => xx_nm ((v7 + v13) &&& (-2 : Int32)) fun v35 => qf_Model_step_b605 u34 v35) else (some ((3 : Int32), u11))) else (if v15 = 111 then ((xx_as (u11.2 14) 32 v4 v14).bind fun f36 => xx_nm (u11.1, va_up u11.2 14 f36) fun u37 => xx_b2 (qf_Model_bits u37 v2 (12 : Int32) (8 : Int32)) fun v39 u38 => xx_b2 (qf_Model_bits u38 v2 (20 : Int32) (1 : Int32)) fun v41 u40 => xx_b2 (qf_Model_bits u40 v2 (21 : Int32) (10 : Int32)) fun v43 u42 => xx_nm ((u37.1 30) + (((((v2 >>> ((31 : Int32) &&& 31)) <<< ((20 : Int32) &&& 31)) ||| (v39 <<< ((12 : Int32) &&& 31))) ||| (v41 <<< ((11 : Int32) &&& 31))) ||| (v43 <<< ((1 : Int32) &&& 31)))) fun v44 => qf_Model_step_b605 u42 v44) else (some ((3 : Int32), u11))))))))))) else (qf_Model_step_b28 u))) else (some ((1 : Int32), u))
set_option maxHeartbeats 4000000 in
set_option maxRecDepth 100000 in
theorem qw_Model_step_b28 {p : Program} {l : Launch} {e : Env} {s : State} {m : MethodId} {args : Array Value} {below : List Frame} {meth : Method} {c : Code} {A : Nat → Prop} {g : xx_G} {r : Int32} {u9 : qm_S} (C : xx_C p s m args meth c kb_Model_step 10 kr_Model (some .int)) (hA : ∀ q, s.heap.size ≤ q → A q) (hK : va_K g.1 xx_cls (qm_T g) s) : ∀ (u : qm_S) (H : Heap) (locs : List Loc) (ls : Array Slot), qf_Model_step_b28 u = some (r, u9) → lv_has ls 10 [] → va_P g.1 xx_cls (qm_W g u) H → va_D A (qm_W g u) → va_S A s.heap H locs → W p l e (xx_rm 2 50) s m args below meth c H locs 0 0 (MQ below (xx_Q g.1 (qm_T g) (qm_W g) (some (.int r)) u9 A) args s 0 0 A) (F0 m 28 ls []) := by
  have hx := C.1
  have hb := C.2.1
  have hown := C.2.2.2.1
  have hts := C.2.2.2.2.1
  intro u H locs ls hF hl hP hD hS
  unfold qf_Model_step_b28 at hF
  refine lv_iconst (v := (2 : Int32)) hx hb qd_Model_step_28 (by decide) ?_
  exact xx_iret C hF hK hP hD hS qd_Model_step_29
set_option maxHeartbeats 4000000 in
set_option maxRecDepth 100000 in
theorem qw_Model_step_b315 {p : Program} {l : Launch} {e : Env} {s : State} {m : MethodId} {args : Array Value} {below : List Frame} {meth : Method} {c : Code} {A : Nat → Prop} {g : xx_G} {r : Int32} {u9 : qm_S} (C : xx_C p s m args meth c kb_Model_step 10 kr_Model (some .int)) (hA : ∀ q, s.heap.size ≤ q → A q) (hK : va_K g.1 xx_cls (qm_T g) s) : ∀ (u : qm_S) (H : Heap) (locs : List Loc) (ls : Array Slot), qf_Model_step_b315 u = some (r, u9) → lv_has ls 10 [] → va_P g.1 xx_cls (qm_W g u) H → va_D A (qm_W g u) → va_S A s.heap H locs → W p l e (xx_rm 2 50) s m args below meth c H locs 0 0 (MQ below (xx_Q g.1 (qm_T g) (qm_W g) (some (.int r)) u9 A) args s 0 0 A) (F0 m 315 ls []) := by
  have hx := C.1
  have hb := C.2.1
  have hown := C.2.2.2.1
  have hts := C.2.2.2.2.1
  intro u H locs ls hF hl hP hD hS
  unfold qf_Model_step_b315 at hF
  refine lv_iconst (v := (3 : Int32)) hx hb qd_Model_step_315 (by decide) ?_
  exact xx_iret C hF hK hP hD hS qd_Model_step_316
set_option maxHeartbeats 4000000 in
set_option maxRecDepth 100000 in
theorem qw_Model_step_b461 {p : Program} {l : Launch} {e : Env} {s : State} {m : MethodId} {args : Array Value} {below : List Frame} {meth : Method} {c : Code} {A : Nat → Prop} {g : xx_G} {r : Int32} {u9 : qm_S} (C : xx_C p s m args meth c kb_Model_step 10 kr_Model (some .int)) (hA : ∀ q, s.heap.size ≤ q → A q) (hK : va_K g.1 xx_cls (qm_T g) s) : ∀ (u : qm_S) (H : Heap) (locs : List Loc) (ls : Array Slot), qf_Model_step_b461 u = some (r, u9) → lv_has ls 10 [] → va_P g.1 xx_cls (qm_W g u) H → va_D A (qm_W g u) → va_S A s.heap H locs → W p l e (xx_rm 2 50) s m args below meth c H locs 0 0 (MQ below (xx_Q g.1 (qm_T g) (qm_W g) (some (.int r)) u9 A) args s 0 0 A) (F0 m 461 ls []) := by
  have hx := C.1
  have hb := C.2.1
  have hown := C.2.2.2.1
  have hts := C.2.2.2.2.1
  intro u H locs ls hF hl hP hD hS
  unfold qf_Model_step_b461 at hF
  refine lv_iconst (v := (3 : Int32)) hx hb qd_Model_step_461 (by decide) ?_
  exact xx_iret C hF hK hP hD hS qd_Model_step_462
set_option maxHeartbeats 4000000 in
set_option maxRecDepth 100000 in
theorem qw_Model_step_b605 {p : Program} {l : Launch} {e : Env} {s : State} {m : MethodId} {args : Array Value} {below : List Frame} {meth : Method} {c : Code} {A : Nat → Prop} {g : xx_G} {r : Int32} {u9 : qm_S} (C : xx_C p s m args meth c kb_Model_step 10 kr_Model (some .int)) (hA : ∀ q, s.heap.size ≤ q → A q) (hK : va_K g.1 xx_cls (qm_T g) s) : ∀ (u : qm_S) (x7 : Int32) (H : Heap) (locs : List Loc) (ls : Array Slot), qf_Model_step_b605 u x7 = some (r, u9) → lv_has ls 10 [(0, .ref (g.2.1 0)), (7, .int x7)] → va_P g.1 xx_cls (qm_W g u) H → va_D A (qm_W g u) → va_S A s.heap H locs → W p l e (xx_rm 2 50) s m args below meth c H locs 0 0 (MQ below (xx_Q g.1 (qm_T g) (qm_W g) (some (.int r)) u9 A) args s 0 0 A) (F0 m 605 ls []) := by
  have hx := C.1
  have hb := C.2.1
  have hown := C.2.2.2.1
  have hts := C.2.2.2.2.1
  intro u x7 H locs ls hF hl hP hD hS
  unfold qf_Model_step_b605 at hF
  refine lv_aload_n hx hb qd_Model_step_605 rfl (lv_at hl 0 rfl) ?_
  refine lv_iload hx hb qd_Model_step_606 (lv_at hl 1 rfl) ?_
  obtain ⟨u1, eu1, hF⟩ := xx_nm_some hF
  refine xx_put (ws1 := qm_W g u1) C ki_Model kt_Model ko_Model kn_Model hK hP hD hS 0 rfl rfl 30 (by decide) kw_903 rfl rfl rfl rfl (Nat.le_of_ble_eq_true rfl) (by rw [eu1]; rfl) qd_Model_step_608 (fun H locs hP hD hS => ?_)
  refine lv_iconst (v := (0 : Int32)) hx hb qd_Model_step_611 (by decide) ?_
  exact xx_iret C hF hK hP hD hS qd_Model_step_612
set_option maxHeartbeats 4000000 in
set_option maxRecDepth 100000 in
theorem qw_Model_step_b515 {p : Program} {l : Launch} {e : Env} {s : State} {m : MethodId} {args : Array Value} {below : List Frame} {meth : Method} {c : Code} {A : Nat → Prop} {g : xx_G} {r : Int32} {u9 : qm_S} (C : xx_C p s m args meth c kb_Model_step 10 kr_Model (some .int)) (hA : ∀ q, s.heap.size ≤ q → A q) (hK : va_K g.1 xx_cls (qm_T g) s) : ∀ (u : qm_S) (x7 : Int32) (y1 : Int32) (y2 : Int32) (y3 : Int32) (y4 : Int32) (y5 : Int32) (H : Heap) (locs : List Loc) (ls : Array Slot), qf_Model_step_b515 u x7 y1 y2 y3 y4 y5 = some (r, u9) → lv_has ls 10 [(0, .ref (g.2.1 0)), (7, .int x7)] → va_P g.1 xx_cls (qm_W g u) H → va_D A (qm_W g u) → va_S A s.heap H locs → W p l e (xx_rm 2 50) s m args below meth c H locs 0 0 (MQ below (xx_Q g.1 (qm_T g) (qm_W g) (some (.int r)) u9 A) args s 0 0 A) (F0 m 515 ls [.int y5, .int y4, .int y3, .int y2, .int y1, .ref (g.2.1 14)]) := by
  have hx := C.1
  have hb := C.2.1
  have hown := C.2.2.2.1
  have hts := C.2.2.2.2.1
  intro u x7 y1 y2 y3 y4 y5 H locs ls hF hl hP hD hS
  unfold qf_Model_step_b515 at hF
  obtain ⟨v2, u1, eu1, hF⟩ := xx_b2_some hF
  refine xx_callS (n := 4) (As := [.int y2, .int y3, .int y4, .int y5]) (rest := [.int y1, .ref (g.2.1 14)]) C (qc_Model_reckon l g u y2 y3 y4 y5 v2 u1 eu1) ⟨kw_1128, kw_1126, kw_1127, kw_9⟩ ⟨by decide +kernel, by decide +kernel, by decide +kernel⟩ rfl ⟨Nat.le_of_ble_eq_true rfl, Nat.le_of_ble_eq_true rfl⟩ hl.1 rfl (Nat.le_of_ble_eq_true rfl) hA hK hP hD hS ⟨Nat.le_refl _, Nat.le_refl _⟩ rfl rfl rfl qd_Model_step_515 (fun H locs hP hD hS => ?_)
  obtain ⟨f3, ef3, hF⟩ := xx_ob hF
  obtain ⟨u4, eu4, hF⟩ := xx_nm_some hF
  refine xx_iast (ws1 := qm_W g u4) C hK hP hD hS 14 0 rfl rfl ef3 (by rw [eu4]; rfl) qd_Model_step_518 (fun H locs hP hD hS => ?_)
  refine lv_goto (tgt := 605) hx hb qd_Model_step_519 (by decide) ?_
  exact qw_Model_step_b605 C hA hK  u4 x7 _ _ _ hF (lv_sub hl [0, 1] rfl) hP hD hS
set_option maxHeartbeats 4000000 in
set_option maxRecDepth 100000 in
theorem qw_Model_step_b514 {p : Program} {l : Launch} {e : Env} {s : State} {m : MethodId} {args : Array Value} {below : List Frame} {meth : Method} {c : Code} {A : Nat → Prop} {g : xx_G} {r : Int32} {u9 : qm_S} (C : xx_C p s m args meth c kb_Model_step 10 kr_Model (some .int)) (hA : ∀ q, s.heap.size ≤ q → A q) (hK : va_K g.1 xx_cls (qm_T g) s) : ∀ (u : qm_S) (x7 : Int32) (y1 : Int32) (y2 : Int32) (y3 : Int32) (y4 : Int32) (H : Heap) (locs : List Loc) (ls : Array Slot), qf_Model_step_b514 u x7 y1 y2 y3 y4 = some (r, u9) → lv_has ls 10 [(0, .ref (g.2.1 0)), (7, .int x7)] → va_P g.1 xx_cls (qm_W g u) H → va_D A (qm_W g u) → va_S A s.heap H locs → W p l e (xx_rm 2 50) s m args below meth c H locs 0 0 (MQ below (xx_Q g.1 (qm_T g) (qm_W g) (some (.int r)) u9 A) args s 0 0 A) (F0 m 514 ls [.int y4, .int y3, .int y2, .int y1, .ref (g.2.1 14)]) := by
  have hx := C.1
  have hb := C.2.1
  have hown := C.2.2.2.1
  have hts := C.2.2.2.2.1
  intro u x7 y1 y2 y3 y4 H locs ls hF hl hP hD hS
  unfold qf_Model_step_b514 at hF
  refine lv_iconst (v := (0 : Int32)) hx hb qd_Model_step_514 (by decide) ?_
  exact qw_Model_step_b515 C hA hK  u x7 y1 y2 y3 y4 (0 : Int32) _ _ _ hF (lv_sub hl [0, 1] rfl) hP hD hS
set_option maxHeartbeats 4000000 in
set_option maxRecDepth 100000 in
theorem qw_Model_step_b495 {p : Program} {l : Launch} {e : Env} {s : State} {m : MethodId} {args : Array Value} {below : List Frame} {meth : Method} {c : Code} {A : Nat → Prop} {g : xx_G} {r : Int32} {u9 : qm_S} (C : xx_C p s m args meth c kb_Model_step 10 kr_Model (some .int)) (hA : ∀ q, s.heap.size ≤ q → A q) (hK : va_K g.1 xx_cls (qm_T g) s) : ∀ (u : qm_S) (x1 : Int32) (x5 : Int32) (x7 : Int32) (y1 : Int32) (y2 : Int32) (y3 : Int32) (y4 : Int32) (H : Heap) (locs : List Loc) (ls : Array Slot), qf_Model_step_b495 u x1 x5 x7 y1 y2 y3 y4 = some (r, u9) → lv_has ls 10 [(0, .ref (g.2.1 0)), (1, .int x1), (5, .int x5), (7, .int x7)] → va_P g.1 xx_cls (qm_W g u) H → va_D A (qm_W g u) → va_S A s.heap H locs → W p l e (xx_rm 2 50) s m args below meth c H locs 0 0 (MQ below (xx_Q g.1 (qm_T g) (qm_W g) (some (.int r)) u9 A) args s 0 0 A) (F0 m 495 ls [.int y4, .int y3, .int y2, .int y1, .ref (g.2.1 14)]) := by
  have hx := C.1
  have hb := C.2.1
  have hown := C.2.2.2.1
  have hts := C.2.2.2.2.1
  intro u x1 x5 x7 y1 y2 y3 y4 H locs ls hF hl hP hD hS
  unfold qf_Model_step_b495 at hF
  refine lv_iload hx hb qd_Model_step_495 (lv_at hl 2 rfl) ?_
  refine lv_iconst (v := (5 : Int32)) hx hb qd_Model_step_497 (by decide) ?_
  refine lv_icmp_ne (tgt := 514) hx hb qd_Model_step_498 (by decide) (fun hc => ?_) (fun hc => ?_)
  · have hF := xx_in' hc hF
    exact qw_Model_step_b514 C hA hK  u x7 y1 y2 y3 y4 _ _ _ hF (lv_sub hl [0, 3] rfl) hP hD hS
  · have hF := xx_ip hc hF
    refine lv_iload_n hx hb qd_Model_step_501 rfl (lv_at hl 1 rfl) ?_
    refine lv_bipush (v := (25 : Int32)) hx hb qd_Model_step_502 (by decide) ?_
    refine lv_iushr hx hb qd_Model_step_504 (xx_ush_eq x1 (25 : Int32)) ?_
    refine lv_bipush (v := (32 : Int32)) hx hb qd_Model_step_505 (by decide) ?_
    refine lv_icmp_ne (tgt := 514) hx hb qd_Model_step_507 (by decide) (fun hc => ?_) (fun hc => ?_)
    · have hF := xx_in' hc hF
      exact qw_Model_step_b514 C hA hK  u x7 y1 y2 y3 y4 _ _ _ hF (lv_sub hl [0, 3] rfl) hP hD hS
    · have hF := xx_ip hc hF
      refine lv_iconst (v := (1 : Int32)) hx hb qd_Model_step_510 (by decide) ?_
      refine lv_goto (tgt := 515) hx hb qd_Model_step_511 (by decide) ?_
      exact qw_Model_step_b515 C hA hK  u x7 y1 y2 y3 y4 (1 : Int32) _ _ _ hF (lv_sub hl [0, 3] rfl) hP hD hS
set_option maxHeartbeats 4000000 in
set_option maxRecDepth 100000 in
theorem qw_Model_step_b483 {p : Program} {l : Launch} {e : Env} {s : State} {m : MethodId} {args : Array Value} {below : List Frame} {meth : Method} {c : Code} {A : Nat → Prop} {g : xx_G} {r : Int32} {u9 : qm_S} (C : xx_C p s m args meth c kb_Model_step 10 kr_Model (some .int)) (hA : ∀ q, s.heap.size ≤ q → A q) (hK : va_K g.1 xx_cls (qm_T g) s) : ∀ (u : qm_S) (x1 : Int32) (x5 : Int32) (x7 : Int32) (y1 : Int32) (y2 : Int32) (y3 : Int32) (H : Heap) (locs : List Loc) (ls : Array Slot), qf_Model_step_b483 u x1 x5 x7 y1 y2 y3 = some (r, u9) → lv_has ls 10 [(0, .ref (g.2.1 0)), (1, .int x1), (5, .int x5), (7, .int x7)] → va_P g.1 xx_cls (qm_W g u) H → va_D A (qm_W g u) → va_S A s.heap H locs → W p l e (xx_rm 2 50) s m args below meth c H locs 0 0 (MQ below (xx_Q g.1 (qm_T g) (qm_W g) (some (.int r)) u9 A) args s 0 0 A) (F0 m 483 ls [.int y3, .int y2, .int y1, .ref (g.2.1 14)]) := by
  have hx := C.1
  have hb := C.2.1
  have hown := C.2.2.2.1
  have hts := C.2.2.2.2.1
  intro u x1 x5 x7 y1 y2 y3 H locs ls hF hl hP hD hS
  unfold qf_Model_step_b483 at hF
  refine lv_iload_n hx hb qd_Model_step_483 rfl (lv_at hl 1 rfl) ?_
  refine lv_bipush (v := (20 : Int32)) hx hb qd_Model_step_484 (by decide) ?_
  refine lv_iconst (v := (5 : Int32)) hx hb qd_Model_step_486 (by decide) ?_
  obtain ⟨v2, u1, eu1, hF⟩ := xx_b2_some hF
  refine xx_callS (n := 3) (As := [.int x1, .int (20 : Int32), .int (5 : Int32)]) (rest := [.int y3, .int y2, .int y1, .ref (g.2.1 14)]) C (qc_Model_bits l g u x1 (20 : Int32) (5 : Int32) v2 u1 eu1) ⟨kw_1103, kw_1101, kw_1102, kw_9⟩ ⟨by decide +kernel, by decide +kernel, by decide +kernel⟩ rfl ⟨Nat.le_of_ble_eq_true rfl, Nat.le_of_ble_eq_true rfl⟩ hl.1 rfl (Nat.le_of_ble_eq_true rfl) hA hK hP hD hS ⟨Nat.le_refl _, Nat.le_refl _⟩ rfl rfl rfl qd_Model_step_487 (fun H locs hP hD hS => ?_)
  refine lv_goto (tgt := 495) hx hb qd_Model_step_490 (by decide) ?_
  exact qw_Model_step_b495 C hA hK  u1 x1 x5 x7 y1 y2 y3 v2 _ _ _ hF (lv_sub hl [0, 1, 2, 3] rfl) hP hD hS
set_option maxHeartbeats 4000000 in
set_option maxRecDepth 100000 in
theorem qw_Model_step_b463 {p : Program} {l : Launch} {e : Env} {s : State} {m : MethodId} {args : Array Value} {below : List Frame} {meth : Method} {c : Code} {A : Nat → Prop} {g : xx_G} {r : Int32} {u9 : qm_S} (C : xx_C p s m args meth c kb_Model_step 10 kr_Model (some .int)) (hA : ∀ q, s.heap.size ≤ q → A q) (hK : va_K g.1 xx_cls (qm_T g) s) : ∀ (u : qm_S) (x1 : Int32) (x2 : Int32) (x3 : Int32) (x5 : Int32) (x6 : Int32) (x7 : Int32) (H : Heap) (locs : List Loc) (ls : Array Slot), qf_Model_step_b463 u x1 x2 x3 x5 x6 x7 = some (r, u9) → lv_has ls 10 [(0, .ref (g.2.1 0)), (1, .int x1), (2, .int x2), (3, .int x3), (5, .int x5), (6, .int x6), (7, .int x7)] → va_P g.1 xx_cls (qm_W g u) H → va_D A (qm_W g u) → va_S A s.heap H locs → W p l e (xx_rm 2 50) s m args below meth c H locs 0 0 (MQ below (xx_Q g.1 (qm_T g) (qm_W g) (some (.int r)) u9 A) args s 0 0 A) (F0 m 463 ls []) := by
  have hx := C.1
  have hb := C.2.1
  have hown := C.2.2.2.1
  have hts := C.2.2.2.2.1
  intro u x1 x2 x3 x5 x6 x7 H locs ls hF hl hP hD hS
  unfold qf_Model_step_b463 at hF
  refine lv_aload_n hx hb qd_Model_step_463 rfl (lv_at hl 0 rfl) ?_
  refine xx_get C ki_Model hK hP 0 rfl rfl 22 (by decide) kw_895 rfl rfl qd_Model_step_464 ?_
  refine lv_iload_n hx hb qd_Model_step_467 rfl (lv_at hl 2 rfl) ?_
  refine lv_iload hx hb qd_Model_step_468 (lv_at hl 4 rfl) ?_
  refine lv_iload_n hx hb qd_Model_step_470 rfl (lv_at hl 3 rfl) ?_
  refine lv_iload hx hb qd_Model_step_471 (lv_at hl 4 rfl) ?_
  refine lv_iconst (v := (1 : Int32)) hx hb qd_Model_step_473 (by decide) ?_
  refine lv_icmp_eq (tgt := 483) hx hb qd_Model_step_474 (by decide) (fun hc => ?_) (fun hc => ?_)
  · have hF := xx_ip hc hF
    exact qw_Model_step_b483 C hA hK  u x1 x5 x7 x2 x5 x3 _ _ _ hF (lv_sub hl [0, 1, 4, 6] rfl) hP hD hS
  · have hF := xx_in' hc hF
    refine lv_iload hx hb qd_Model_step_477 (lv_at hl 4 rfl) ?_
    refine lv_iconst (v := (5 : Int32)) hx hb qd_Model_step_479 (by decide) ?_
    refine lv_icmp_ne (tgt := 493) hx hb qd_Model_step_480 (by decide) (fun hc => ?_) (fun hc => ?_)
    · have hF := xx_in' hc hF
      refine lv_iload hx hb qd_Model_step_493 (lv_at hl 5 rfl) ?_
      exact qw_Model_step_b495 C hA hK  u x1 x5 x7 x2 x5 x3 x6 _ _ _ hF (lv_sub hl [0, 1, 4, 6] rfl) hP hD hS
    · have hF := xx_ip hc hF
      exact qw_Model_step_b483 C hA hK  u x1 x5 x7 x2 x5 x3 _ _ _ hF (lv_sub hl [0, 1, 4, 6] rfl) hP hD hS
set_option maxHeartbeats 4000000 in
set_option maxRecDepth 100000 in
theorem qw_Model_step_b439 {p : Program} {l : Launch} {e : Env} {s : State} {m : MethodId} {args : Array Value} {below : List Frame} {meth : Method} {c : Code} {A : Nat → Prop} {g : xx_G} {r : Int32} {u9 : qm_S} (C : xx_C p s m args meth c kb_Model_step 10 kr_Model (some .int)) (hA : ∀ q, s.heap.size ≤ q → A q) (hK : va_K g.1 xx_cls (qm_T g) s) : ∀ (u : qm_S) (x1 : Int32) (x2 : Int32) (x3 : Int32) (x5 : Int32) (x6 : Int32) (x7 : Int32) (H : Heap) (locs : List Loc) (ls : Array Slot), qf_Model_step_b439 u x1 x2 x3 x5 x6 x7 = some (r, u9) → lv_has ls 10 [(0, .ref (g.2.1 0)), (1, .int x1), (2, .int x2), (3, .int x3), (5, .int x5), (6, .int x6), (7, .int x7)] → va_P g.1 xx_cls (qm_W g u) H → va_D A (qm_W g u) → va_S A s.heap H locs → W p l e (xx_rm 2 50) s m args below meth c H locs 0 0 (MQ below (xx_Q g.1 (qm_T g) (qm_W g) (some (.int r)) u9 A) args s 0 0 A) (F0 m 439 ls []) := by
  have hx := C.1
  have hb := C.2.1
  have hown := C.2.2.2.1
  have hts := C.2.2.2.2.1
  intro u x1 x2 x3 x5 x6 x7 H locs ls hF hl hP hD hS
  unfold qf_Model_step_b439 at hF
  refine lv_iload hx hb qd_Model_step_439 (lv_at hl 4 rfl) ?_
  refine lv_iconst (v := (5 : Int32)) hx hb qd_Model_step_441 (by decide) ?_
  refine lv_icmp_ne (tgt := 463) hx hb qd_Model_step_442 (by decide) (fun hc => ?_) (fun hc => ?_)
  · have hF := xx_in' hc hF
    exact qw_Model_step_b463 C hA hK  u x1 x2 x3 x5 x6 x7 _ _ _ hF (lv_sub hl [0, 1, 2, 3, 4, 5, 6] rfl) hP hD hS
  · have hF := xx_ip hc hF
    refine lv_iload_n hx hb qd_Model_step_445 rfl (lv_at hl 1 rfl) ?_
    refine lv_bipush (v := (25 : Int32)) hx hb qd_Model_step_446 (by decide) ?_
    refine lv_iushr hx hb qd_Model_step_448 (xx_ush_eq x1 (25 : Int32)) ?_
    refine lv_if_eq (tgt := 463) hx hb qd_Model_step_449 (by decide) (fun hc => ?_) (fun hc => ?_)
    · have hF := xx_ip hc hF
      exact qw_Model_step_b463 C hA hK  u x1 x2 x3 x5 x6 x7 _ _ _ hF (lv_sub hl [0, 1, 2, 3, 4, 5, 6] rfl) hP hD hS
    · have hF := xx_in' hc hF
      refine lv_iload_n hx hb qd_Model_step_452 rfl (lv_at hl 1 rfl) ?_
      refine lv_bipush (v := (25 : Int32)) hx hb qd_Model_step_453 (by decide) ?_
      refine lv_iushr hx hb qd_Model_step_455 (xx_ush_eq x1 (25 : Int32)) ?_
      refine lv_bipush (v := (32 : Int32)) hx hb qd_Model_step_456 (by decide) ?_
      refine lv_icmp_eq (tgt := 463) hx hb qd_Model_step_458 (by decide) (fun hc => ?_) (fun hc => ?_)
      · have hF := xx_ip hc hF
        exact qw_Model_step_b463 C hA hK  u x1 x2 x3 x5 x6 x7 _ _ _ hF (lv_sub hl [0, 1, 2, 3, 4, 5, 6] rfl) hP hD hS
      · have hF := xx_in' hc hF
        exact qw_Model_step_b461 C hA hK  u _ _ _ hF (lv_sub hl [] rfl) hP hD hS
set_option maxHeartbeats 4000000 in
set_option maxRecDepth 100000 in
theorem qw_Model_step_b549 {p : Program} {l : Launch} {e : Env} {s : State} {m : MethodId} {args : Array Value} {below : List Frame} {meth : Method} {c : Code} {A : Nat → Prop} {g : xx_G} {r : Int32} {u9 : qm_S} (C : xx_C p s m args meth c kb_Model_step 10 kr_Model (some .int)) (hA : ∀ q, s.heap.size ≤ q → A q) (hK : va_K g.1 xx_cls (qm_T g) s) : ∀ (u : qm_S) (H : Heap) (locs : List Loc) (ls : Array Slot), qf_Model_step_b549 u = some (r, u9) → lv_has ls 10 [] → va_P g.1 xx_cls (qm_W g u) H → va_D A (qm_W g u) → va_S A s.heap H locs → W p l e (xx_rm 2 50) s m args below meth c H locs 0 0 (MQ below (xx_Q g.1 (qm_T g) (qm_W g) (some (.int r)) u9 A) args s 0 0 A) (F0 m 549 ls []) := by
  have hx := C.1
  have hb := C.2.1
  have hown := C.2.2.2.1
  have hts := C.2.2.2.2.1
  intro u H locs ls hF hl hP hD hS
  unfold qf_Model_step_b549 at hF
  refine lv_iconst (v := (3 : Int32)) hx hb qd_Model_step_549 (by decide) ?_
  exact xx_iret C hF hK hP hD hS qd_Model_step_550
set_option maxHeartbeats 4000000 in
set_option maxRecDepth 100000 in
theorem qw_Model_step_b599 {p : Program} {l : Launch} {e : Env} {s : State} {m : MethodId} {args : Array Value} {below : List Frame} {meth : Method} {c : Code} {A : Nat → Prop} {g : xx_G} {r : Int32} {u9 : qm_S} (C : xx_C p s m args meth c kb_Model_step 10 kr_Model (some .int)) (hA : ∀ q, s.heap.size ≤ q → A q) (hK : va_K g.1 xx_cls (qm_T g) s) : ∀ (u : qm_S) (x7 : Int32) (y1 : Int32) (y2 : Int32) (H : Heap) (locs : List Loc) (ls : Array Slot), qf_Model_step_b599 u x7 y1 y2 = some (r, u9) → lv_has ls 10 [(0, .ref (g.2.1 0)), (7, .int x7)] → va_P g.1 xx_cls (qm_W g u) H → va_D A (qm_W g u) → va_S A s.heap H locs → W p l e (xx_rm 2 50) s m args below meth c H locs 0 0 (MQ below (xx_Q g.1 (qm_T g) (qm_W g) (some (.int r)) u9 A) args s 0 0 A) (F0 m 599 ls [.int y2, .int y1, .ref (g.2.1 14)]) := by
  have hx := C.1
  have hb := C.2.1
  have hown := C.2.2.2.1
  have hts := C.2.2.2.2.1
  intro u x7 y1 y2 H locs ls hF hl hP hD hS
  unfold qf_Model_step_b599 at hF
  obtain ⟨f1, ef1, hF⟩ := xx_ob hF
  obtain ⟨u2, eu2, hF⟩ := xx_nm_some hF
  refine xx_iast (ws1 := qm_W g u2) C hK hP hD hS 14 0 rfl rfl ef1 (by rw [eu2]; rfl) qd_Model_step_599 (fun H locs hP hD hS => ?_)
  refine lv_goto (tgt := 605) hx hb qd_Model_step_600 (by decide) ?_
  exact qw_Model_step_b605 C hA hK  u2 x7 _ _ _ hF (lv_sub hl [0, 1] rfl) hP hD hS
set_option maxHeartbeats 4000000 in
set_option maxRecDepth 100000 in
theorem qw_Model_step_b596 {p : Program} {l : Launch} {e : Env} {s : State} {m : MethodId} {args : Array Value} {below : List Frame} {meth : Method} {c : Code} {A : Nat → Prop} {g : xx_G} {r : Int32} {u9 : qm_S} (C : xx_C p s m args meth c kb_Model_step 10 kr_Model (some .int)) (hA : ∀ q, s.heap.size ≤ q → A q) (hK : va_K g.1 xx_cls (qm_T g) s) : ∀ (u : qm_S) (x7 : Int32) (y1 : Int32) (y2 : Int32) (y3 : Int32) (y4 : Int32) (y5 : Int32) (H : Heap) (locs : List Loc) (ls : Array Slot), qf_Model_step_b596 u x7 y1 y2 y3 y4 y5 = some (r, u9) → lv_has ls 10 [(0, .ref (g.2.1 0)), (7, .int x7)] → va_P g.1 xx_cls (qm_W g u) H → va_D A (qm_W g u) → va_S A s.heap H locs → W p l e (xx_rm 2 50) s m args below meth c H locs 0 0 (MQ below (xx_Q g.1 (qm_T g) (qm_W g) (some (.int r)) u9 A) args s 0 0 A) (F0 m 596 ls [.int y5, .int y4, .int y3, .int y2, .int y1, .ref (g.2.1 14)]) := by
  have hx := C.1
  have hb := C.2.1
  have hown := C.2.2.2.1
  have hts := C.2.2.2.2.1
  intro u x7 y1 y2 y3 y4 y5 H locs ls hF hl hP hD hS
  unfold qf_Model_step_b596 at hF
  obtain ⟨v2, u1, eu1, hF⟩ := xx_b2_some hF
  refine xx_callS (n := 4) (As := [.int y2, .int y3, .int y4, .int y5]) (rest := [.int y1, .ref (g.2.1 14)]) C (qc_Model_reckon l g u y2 y3 y4 y5 v2 u1 eu1) ⟨kw_1128, kw_1126, kw_1127, kw_9⟩ ⟨by decide +kernel, by decide +kernel, by decide +kernel⟩ rfl ⟨Nat.le_of_ble_eq_true rfl, Nat.le_of_ble_eq_true rfl⟩ hl.1 rfl (Nat.le_of_ble_eq_true rfl) hA hK hP hD hS ⟨Nat.le_refl _, Nat.le_refl _⟩ rfl rfl rfl qd_Model_step_596 (fun H locs hP hD hS => ?_)
  exact qw_Model_step_b599 C hA hK  u1 x7 y1 v2 _ _ _ hF (lv_sub hl [0, 1] rfl) hP hD hS
set_option maxHeartbeats 4000000 in
set_option maxRecDepth 100000 in
theorem qw_Model_step_b577 {p : Program} {l : Launch} {e : Env} {s : State} {m : MethodId} {args : Array Value} {below : List Frame} {meth : Method} {c : Code} {A : Nat → Prop} {g : xx_G} {r : Int32} {u9 : qm_S} (C : xx_C p s m args meth c kb_Model_step 10 kr_Model (some .int)) (hA : ∀ q, s.heap.size ≤ q → A q) (hK : va_K g.1 xx_cls (qm_T g) s) : ∀ (u : qm_S) (x1 : Int32) (x3 : Int32) (x4 : Int32) (x5 : Int32) (x7 : Int32) (y1 : Int32) (H : Heap) (locs : List Loc) (ls : Array Slot), qf_Model_step_b577 u x1 x3 x4 x5 x7 y1 = some (r, u9) → lv_has ls 10 [(0, .ref (g.2.1 0)), (1, .int x1), (3, .int x3), (4, .int x4), (5, .int x5), (7, .int x7)] → va_P g.1 xx_cls (qm_W g u) H → va_D A (qm_W g u) → va_S A s.heap H locs → W p l e (xx_rm 2 50) s m args below meth c H locs 0 0 (MQ below (xx_Q g.1 (qm_T g) (qm_W g) (some (.int r)) u9 A) args s 0 0 A) (F0 m 577 ls [.int y1, .ref (g.2.1 14)]) := by
  have hx := C.1
  have hb := C.2.1
  have hown := C.2.2.2.1
  have hts := C.2.2.2.2.1
  intro u x1 x3 x4 x5 x7 y1 H locs ls hF hl hP hD hS
  unfold qf_Model_step_b577 at hF
  refine lv_iload hx hb qd_Model_step_577 (lv_at hl 4 rfl) ?_
  refine lv_iload_n hx hb qd_Model_step_579 rfl (lv_at hl 2 rfl) ?_
  refine lv_iload hx hb qd_Model_step_580 (lv_at hl 3 rfl) ?_
  refine lv_iload_n hx hb qd_Model_step_582 rfl (lv_at hl 1 rfl) ?_
  refine lv_bipush (v := (25 : Int32)) hx hb qd_Model_step_583 (by decide) ?_
  refine lv_iushr hx hb qd_Model_step_585 (xx_ush_eq x1 (25 : Int32)) ?_
  refine lv_bipush (v := (32 : Int32)) hx hb qd_Model_step_586 (by decide) ?_
  refine lv_icmp_ne (tgt := 595) hx hb qd_Model_step_588 (by decide) (fun hc => ?_) (fun hc => ?_)
  · have hF := xx_in' hc hF
    refine lv_iconst (v := (0 : Int32)) hx hb qd_Model_step_595 (by decide) ?_
    exact qw_Model_step_b596 C hA hK  u x7 y1 x5 x3 x4 (0 : Int32) _ _ _ hF (lv_sub hl [0, 5] rfl) hP hD hS
  · have hF := xx_ip hc hF
    refine lv_iconst (v := (1 : Int32)) hx hb qd_Model_step_591 (by decide) ?_
    refine lv_goto (tgt := 596) hx hb qd_Model_step_592 (by decide) ?_
    exact qw_Model_step_b596 C hA hK  u x7 y1 x5 x3 x4 (1 : Int32) _ _ _ hF (lv_sub hl [0, 5] rfl) hP hD hS
set_option maxHeartbeats 4000000 in
set_option maxRecDepth 100000 in
theorem qw_Model_step_b551 {p : Program} {l : Launch} {e : Env} {s : State} {m : MethodId} {args : Array Value} {below : List Frame} {meth : Method} {c : Code} {A : Nat → Prop} {g : xx_G} {r : Int32} {u9 : qm_S} (C : xx_C p s m args meth c kb_Model_step 10 kr_Model (some .int)) (hA : ∀ q, s.heap.size ≤ q → A q) (hK : va_K g.1 xx_cls (qm_T g) s) : ∀ (u : qm_S) (x1 : Int32) (x2 : Int32) (x3 : Int32) (x4 : Int32) (x5 : Int32) (x7 : Int32) (H : Heap) (locs : List Loc) (ls : Array Slot), qf_Model_step_b551 u x1 x2 x3 x4 x5 x7 = some (r, u9) → lv_has ls 10 [(0, .ref (g.2.1 0)), (1, .int x1), (2, .int x2), (3, .int x3), (4, .int x4), (5, .int x5), (7, .int x7)] → va_P g.1 xx_cls (qm_W g u) H → va_D A (qm_W g u) → va_S A s.heap H locs → W p l e (xx_rm 2 50) s m args below meth c H locs 0 0 (MQ below (xx_Q g.1 (qm_T g) (qm_W g) (some (.int r)) u9 A) args s 0 0 A) (F0 m 551 ls []) := by
  have hx := C.1
  have hb := C.2.1
  have hown := C.2.2.2.1
  have hts := C.2.2.2.2.1
  intro u x1 x2 x3 x4 x5 x7 H locs ls hF hl hP hD hS
  unfold qf_Model_step_b551 at hF
  refine lv_aload_n hx hb qd_Model_step_551 rfl (lv_at hl 0 rfl) ?_
  refine xx_get C ki_Model hK hP 0 rfl rfl 22 (by decide) kw_895 rfl rfl qd_Model_step_552 ?_
  refine lv_iload_n hx hb qd_Model_step_555 rfl (lv_at hl 2 rfl) ?_
  refine lv_iload hx hb qd_Model_step_556 (lv_at hl 5 rfl) ?_
  refine lv_if_ne (tgt := 577) hx hb qd_Model_step_558 (by decide) (fun hc => ?_) (fun hc => ?_)
  · have hF := xx_in' hc hF
    exact qw_Model_step_b577 C hA hK  u x1 x3 x4 x5 x7 x2 _ _ _ hF (lv_sub hl [0, 1, 3, 4, 5, 6] rfl) hP hD hS
  · have hF := xx_ip hc hF
    refine lv_iload_n hx hb qd_Model_step_561 rfl (lv_at hl 1 rfl) ?_
    refine lv_bipush (v := (25 : Int32)) hx hb qd_Model_step_562 (by decide) ?_
    refine lv_iushr hx hb qd_Model_step_564 (xx_ush_eq x1 (25 : Int32)) ?_
    refine lv_bipush (v := (32 : Int32)) hx hb qd_Model_step_565 (by decide) ?_
    refine lv_icmp_ne (tgt := 577) hx hb qd_Model_step_567 (by decide) (fun hc => ?_) (fun hc => ?_)
    · have hF := xx_in' hc hF
      exact qw_Model_step_b577 C hA hK  u x1 x3 x4 x5 x7 x2 _ _ _ hF (lv_sub hl [0, 1, 3, 4, 5, 6] rfl) hP hD hS
    · have hF := xx_ip hc hF
      refine lv_iload_n hx hb qd_Model_step_570 rfl (lv_at hl 3 rfl) ?_
      refine lv_iload hx hb qd_Model_step_571 (lv_at hl 4 rfl) ?_
      refine lv_isub hx hb qd_Model_step_573 ?_
      refine lv_goto (tgt := 599) hx hb qd_Model_step_574 (by decide) ?_
      exact qw_Model_step_b599 C hA hK  u x7 x2 (x3 - x4) _ _ _ hF (lv_sub hl [0, 6] rfl) hP hD hS
set_option maxHeartbeats 4000000 in
set_option maxRecDepth 100000 in
theorem qc_Model_step (l : Launch) (g : xx_G) (u : qm_S) (r : Int32) (u9 : qm_S) (hF : qf_Model_step u = some (r, u9)) : xx_M l g.1 (qm_T g) (qm_W g) ky_Model_step kb_Model_step 10 (some .int) (xx_rm 2 50) [.ref (g.2.1 0)] u (some (.int r)) u9 := by
  refine xx_body (by decide) (Nat.le_of_ble_eq_true rfl) ?_
  intro p e s m args below meth c A ls C hin hK hl hA hP hD hS
  have hx := C.1
  have hb := C.2.1
  have hown := C.2.2.2.1
  have hts := C.2.2.2.2.1
  have hl : lv_has ls 10 [(0, .ref (g.2.1 0))] := hl
  unfold qf_Model_step at hF
  refine lv_aload_n hx hb qd_Model_step_0 rfl (lv_at hl 0 rfl) ?_
  refine xx_get C ki_Model hK hP 0 rfl rfl 30 (by decide) kw_903 rfl rfl qd_Model_step_1 ?_
  refine lv_iconst (v := (4 : Int32)) hx hb qd_Model_step_4 (by decide) ?_
  refine lv_irem hx hb qd_Model_step_5 (by decide) ?_
  refine lv_if_eq (tgt := 11) hx hb qd_Model_step_6 (by decide) (fun hc => ?_) (fun hc => ?_)
  · have hF := xx_ip hc hF
    refine lv_aload_n hx hb qd_Model_step_11 rfl (lv_at hl 0 rfl) ?_
    refine xx_get C ki_Model hK hP 0 rfl rfl 30 (by decide) kw_903 rfl rfl qd_Model_step_12 ?_
    refine lv_if_lt (tgt := 28) hx hb qd_Model_step_15 (by decide) (fun hc => ?_) (fun hc => ?_)
    · have hF := xx_ip hc hF
      exact qw_Model_step_b28 C hA hK  u _ _ _ hF (lv_sub hl [] rfl) hP hD hS
    · have hF := xx_in' hc hF
      refine lv_aload_n hx hb qd_Model_step_18 rfl (lv_at hl 0 rfl) ?_
      refine xx_get C ki_Model hK hP 0 rfl rfl 30 (by decide) kw_903 rfl rfl qd_Model_step_19 ?_
      refine lv_sipush (v := (4096 : Int32)) hx hb qd_Model_step_22 (by decide) ?_
      refine lv_icmp_lt (tgt := 30) hx hb qd_Model_step_25 (by decide) (fun hc => ?_) (fun hc => ?_)
      · have hF := xx_ip hc hF
        refine lv_aload_n hx hb qd_Model_step_30 rfl (lv_at hl 0 rfl) ?_
        refine lv_aload_n hx hb qd_Model_step_31 rfl (lv_at hl 0 rfl) ?_
        refine xx_get C ki_Model hK hP 0 rfl rfl 30 (by decide) kw_903 rfl rfl qd_Model_step_32 ?_
        obtain ⟨v2, u1, eu1, hF⟩ := xx_b2_some hF
        refine xx_callV (n := 1) (As := [.int (u.1 30)]) (rest := []) C (qc_Model_wordAt l g u (u.1 30) v2 u1 eu1) ⟨kw_997, kw_994, kw_996, ks_Model_wordAt, kw_9⟩ ⟨by decide +kernel, by decide +kernel, by decide +kernel⟩ rfl ⟨Nat.le_of_ble_eq_true rfl, Nat.le_of_ble_eq_true rfl⟩ 0 rfl rfl hl.1 rfl (Nat.le_of_ble_eq_true rfl) hA hK hP hD hS ⟨Nat.le_refl _, Nat.le_refl _⟩ rfl rfl rfl qd_Model_step_35 (fun H locs hP hD hS => ?_)
        refine lv_istore_n hx hb qd_Model_step_38 rfl hl (by decide) rfl (fun ls hl => ?_)
        refine lv_iload_n hx hb qd_Model_step_39 rfl (lv_at hl 0 rfl) ?_
        refine lv_bipush (v := (7 : Int32)) hx hb qd_Model_step_40 (by decide) ?_
        refine lv_iconst (v := (5 : Int32)) hx hb qd_Model_step_42 (by decide) ?_
        obtain ⟨v4, u3, eu3, hF⟩ := xx_b2_some hF
        refine xx_callS (n := 3) (As := [.int v2, .int (7 : Int32), .int (5 : Int32)]) (rest := []) C (qc_Model_bits l g u1 v2 (7 : Int32) (5 : Int32) v4 u3 eu3) ⟨kw_1103, kw_1101, kw_1102, kw_9⟩ ⟨by decide +kernel, by decide +kernel, by decide +kernel⟩ rfl ⟨Nat.le_of_ble_eq_true rfl, Nat.le_of_ble_eq_true rfl⟩ hl.1 rfl (Nat.le_of_ble_eq_true rfl) hA hK hP hD hS ⟨Nat.le_refl _, Nat.le_refl _⟩ rfl rfl rfl qd_Model_step_43 (fun H locs hP hD hS => ?_)
        refine lv_istore_n hx hb qd_Model_step_46 rfl hl (by decide) rfl (fun ls hl => ?_)
        refine lv_aload_n hx hb qd_Model_step_47 rfl (lv_at hl 2 rfl) ?_
        refine xx_get C ki_Model hK hP 0 rfl rfl 22 (by decide) kw_895 rfl rfl qd_Model_step_48 ?_
        refine lv_iload_n hx hb qd_Model_step_51 rfl (lv_at hl 1 rfl) ?_
        refine lv_bipush (v := (15 : Int32)) hx hb qd_Model_step_52 (by decide) ?_
        refine lv_iconst (v := (5 : Int32)) hx hb qd_Model_step_54 (by decide) ?_
        obtain ⟨v6, u5, eu5, hF⟩ := xx_b2_some hF
        refine xx_callS (n := 3) (As := [.int v2, .int (15 : Int32), .int (5 : Int32)]) (rest := [.ref (g.2.1 14)]) C (qc_Model_bits l g u3 v2 (15 : Int32) (5 : Int32) v6 u5 eu5) ⟨kw_1103, kw_1101, kw_1102, kw_9⟩ ⟨by decide +kernel, by decide +kernel, by decide +kernel⟩ rfl ⟨Nat.le_of_ble_eq_true rfl, Nat.le_of_ble_eq_true rfl⟩ hl.1 rfl (Nat.le_of_ble_eq_true rfl) hA hK hP hD hS ⟨Nat.le_refl _, Nat.le_refl _⟩ rfl rfl rfl qd_Model_step_55 (fun H locs hP hD hS => ?_)
        obtain ⟨v7, ev7, hF⟩ := xx_ob hF
        refine xx_iald C hK hP 14 0 rfl rfl ev7 qd_Model_step_58 ?_
        refine lv_istore_n hx hb qd_Model_step_59 rfl hl (by decide) rfl (fun ls hl => ?_)
        refine lv_aload_n hx hb qd_Model_step_60 rfl (lv_at hl 3 rfl) ?_
        refine xx_get C ki_Model hK hP 0 rfl rfl 22 (by decide) kw_895 rfl rfl qd_Model_step_61 ?_
        refine lv_iload_n hx hb qd_Model_step_64 rfl (lv_at hl 2 rfl) ?_
        refine lv_bipush (v := (20 : Int32)) hx hb qd_Model_step_65 (by decide) ?_
        refine lv_iconst (v := (5 : Int32)) hx hb qd_Model_step_67 (by decide) ?_
        obtain ⟨v9, u8, eu8, hF⟩ := xx_b2_some hF
        refine xx_callS (n := 3) (As := [.int v2, .int (20 : Int32), .int (5 : Int32)]) (rest := [.ref (g.2.1 14)]) C (qc_Model_bits l g u5 v2 (20 : Int32) (5 : Int32) v9 u8 eu8) ⟨kw_1103, kw_1101, kw_1102, kw_9⟩ ⟨by decide +kernel, by decide +kernel, by decide +kernel⟩ rfl ⟨Nat.le_of_ble_eq_true rfl, Nat.le_of_ble_eq_true rfl⟩ hl.1 rfl (Nat.le_of_ble_eq_true rfl) hA hK hP hD hS ⟨Nat.le_refl _, Nat.le_refl _⟩ rfl rfl rfl qd_Model_step_68 (fun H locs hP hD hS => ?_)
        obtain ⟨v10, ev10, hF⟩ := xx_ob hF
        refine xx_iald C hK hP 14 0 rfl rfl ev10 qd_Model_step_71 ?_
        refine lv_istore hx hb qd_Model_step_72 hl (by decide) rfl (fun ls hl => ?_)
        refine lv_iload_n hx hb qd_Model_step_74 rfl (lv_at hl 3 rfl) ?_
        refine lv_bipush (v := (12 : Int32)) hx hb qd_Model_step_75 (by decide) ?_
        refine lv_iconst (v := (3 : Int32)) hx hb qd_Model_step_77 (by decide) ?_
        obtain ⟨v12, u11, eu11, hF⟩ := xx_b2_some hF
        refine xx_callS (n := 3) (As := [.int v2, .int (12 : Int32), .int (3 : Int32)]) (rest := []) C (qc_Model_bits l g u8 v2 (12 : Int32) (3 : Int32) v12 u11 eu11) ⟨kw_1103, kw_1101, kw_1102, kw_9⟩ ⟨by decide +kernel, by decide +kernel, by decide +kernel⟩ rfl ⟨Nat.le_of_ble_eq_true rfl, Nat.le_of_ble_eq_true rfl⟩ hl.1 rfl (Nat.le_of_ble_eq_true rfl) hA hK hP hD hS ⟨Nat.le_refl _, Nat.le_refl _⟩ rfl rfl rfl qd_Model_step_78 (fun H locs hP hD hS => ?_)
        refine lv_istore hx hb qd_Model_step_81 hl (by decide) rfl (fun ls hl => ?_)
        refine lv_iload_n hx hb qd_Model_step_83 rfl (lv_at hl 4 rfl) ?_
        refine lv_bipush (v := (20 : Int32)) hx hb qd_Model_step_84 (by decide) ?_
        refine lv_ishr hx hb qd_Model_step_86 ?_
        obtain ⟨v13, ev13, hF⟩ := xx_nm_some hF
        refine xx_topi ev13 ?_
        refine lv_istore hx hb qd_Model_step_87 hl (by decide) rfl (fun ls hl => ?_)
        refine lv_aload_n hx hb qd_Model_step_89 rfl (lv_at hl 6 rfl) ?_
        refine xx_get C ki_Model hK hP 0 rfl rfl 30 (by decide) kw_903 rfl rfl qd_Model_step_90 ?_
        refine lv_iconst (v := (4 : Int32)) hx hb qd_Model_step_93 (by decide) ?_
        refine lv_iadd hx hb qd_Model_step_94 ?_
        obtain ⟨v14, ev14, hF⟩ := xx_nm_some hF
        refine xx_topi ev14 ?_
        refine lv_istore hx hb qd_Model_step_95 hl (by decide) rfl (fun ls hl => ?_)
        refine lv_iload_n hx hb qd_Model_step_97 rfl (lv_at hl 6 rfl) ?_
        refine lv_bipush (v := (127 : Int32)) hx hb qd_Model_step_98 (by decide) ?_
        refine lv_iand hx hb qd_Model_step_100 ?_
        obtain ⟨v15, ev15, hF⟩ := xx_nm_some hF
        refine xx_topi ev15 ?_
        by_cases hs0 : v15 = (3 : Int32)
        · have hF := xx_ip hs0 hF
          refine lv_lookup (off := 276) (tgt := 377) hx hb qd_Model_step_101 (by decide) (by rw [hs0]; decide) (by decide) ?_
          refine lv_aload_n hx hb qd_Model_step_377 rfl (lv_at hl 7 rfl) ?_
          refine lv_iload hx hb qd_Model_step_378 (lv_at hl 2 rfl) ?_
          refine lv_iload_n hx hb qd_Model_step_380 rfl (lv_at hl 4 rfl) ?_
          refine lv_iload hx hb qd_Model_step_381 (lv_at hl 1 rfl) ?_
          refine lv_iadd hx hb qd_Model_step_383 ?_
          refine lv_iload_n hx hb qd_Model_step_384 rfl (lv_at hl 5 rfl) ?_
          obtain ⟨v17, u16, eu16, hF⟩ := xx_b2_some hF
          refine xx_callV (n := 3) (As := [.int v12, .int (v7 + v13), .int v4]) (rest := []) C (qc_Model_fetch l g u11 v12 (v7 + v13) v4 v17 u16 eu16) ⟨kw_1114, kw_1111, kw_1113, ks_Model_fetch, kw_9⟩ ⟨by decide +kernel, by decide +kernel, by decide +kernel⟩ rfl ⟨Nat.le_of_ble_eq_true rfl, Nat.le_of_ble_eq_true rfl⟩ 0 rfl rfl hl.1 rfl (Nat.le_of_ble_eq_true rfl) hA hK hP hD hS ⟨Nat.le_refl _, Nat.le_refl _⟩ rfl rfl rfl qd_Model_step_385 (fun H locs hP hD hS => ?_)
          refine lv_istore hx hb qd_Model_step_388 hl (by decide) rfl (fun ls hl => ?_)
          refine lv_iload hx hb qd_Model_step_390 (lv_at hl 0 rfl) ?_
          refine lv_if_le (tgt := 605) hx hb qd_Model_step_392 (by decide) (fun hc => ?_) (fun hc => ?_)
          · have hF := xx_ip hc hF
            exact qw_Model_step_b605 C hA hK  u16 v14 _ _ _ hF (lv_sub hl [8, 1] rfl) hP hD hS
          · have hF := xx_in' hc hF
            refine lv_iload hx hb qd_Model_step_395 (lv_at hl 0 rfl) ?_
            exact xx_iret C hF hK hP hD hS qd_Model_step_397
        · have hF := xx_in' hs0 hF
          by_cases hs1 : v15 = (19 : Int32)
          · have hF := xx_ip hs1 hF
            refine lv_lookup (off := 325) (tgt := 426) hx hb qd_Model_step_101 (by decide) (by rw [hs1]; decide) (by decide) ?_
            refine lv_iload hx hb qd_Model_step_426 (lv_at hl 2 rfl) ?_
            refine lv_iconst (v := (1 : Int32)) hx hb qd_Model_step_428 (by decide) ?_
            refine lv_icmp_ne (tgt := 439) hx hb qd_Model_step_429 (by decide) (fun hc => ?_) (fun hc => ?_)
            · have hF := xx_in' hc hF
              exact qw_Model_step_b439 C hA hK  u11 v2 v4 v7 v12 v13 v14 _ _ _ hF (lv_sub hl [7, 6, 5, 4, 2, 1, 0] rfl) hP hD hS
            · have hF := xx_ip hc hF
              refine lv_iload_n hx hb qd_Model_step_432 rfl (lv_at hl 6 rfl) ?_
              refine lv_bipush (v := (25 : Int32)) hx hb qd_Model_step_433 (by decide) ?_
              refine lv_iushr hx hb qd_Model_step_435 (xx_ush_eq v2 (25 : Int32)) ?_
              refine lv_if_ne (tgt := 461) hx hb qd_Model_step_436 (by decide) (fun hc => ?_) (fun hc => ?_)
              · have hF := xx_in' hc hF
                exact qw_Model_step_b461 C hA hK  u11 _ _ _ hF (lv_sub hl [] rfl) hP hD hS
              · have hF := xx_ip hc hF
                exact qw_Model_step_b439 C hA hK  u11 v2 v4 v7 v12 v13 v14 _ _ _ hF (lv_sub hl [7, 6, 5, 4, 2, 1, 0] rfl) hP hD hS
          · have hF := xx_in' hs1 hF
            by_cases hs2 : v15 = (23 : Int32)
            · have hF := xx_ip hs2 hF
              refine lv_lookup (off := 97) (tgt := 198) hx hb qd_Model_step_101 (by decide) (by rw [hs2]; decide) (by decide) ?_
              refine lv_aload_n hx hb qd_Model_step_198 rfl (lv_at hl 7 rfl) ?_
              refine xx_get C ki_Model hK hP 0 rfl rfl 22 (by decide) kw_895 rfl rfl qd_Model_step_199 ?_
              refine lv_iload_n hx hb qd_Model_step_202 rfl (lv_at hl 5 rfl) ?_
              refine lv_aload_n hx hb qd_Model_step_203 rfl (lv_at hl 7 rfl) ?_
              refine xx_get C ki_Model hK hP 0 rfl rfl 30 (by decide) kw_903 rfl rfl qd_Model_step_204 ?_
              refine lv_iload_n hx hb qd_Model_step_207 rfl (lv_at hl 6 rfl) ?_
              refine lv_sipush (v := (-4096 : Int32)) hx hb qd_Model_step_208 (by decide) ?_
              refine lv_iand hx hb qd_Model_step_211 ?_
              refine lv_iadd hx hb qd_Model_step_212 ?_
              obtain ⟨f18, ef18, hF⟩ := xx_ob hF
              obtain ⟨u19, eu19, hF⟩ := xx_nm_some hF
              refine xx_iast (ws1 := qm_W g u19) C hK hP hD hS 14 0 rfl rfl ef18 (by rw [eu19]; rfl) qd_Model_step_213 (fun H locs hP hD hS => ?_)
              refine lv_goto (tgt := 605) hx hb qd_Model_step_214 (by decide) ?_
              exact qw_Model_step_b605 C hA hK  u19 v14 _ _ _ hF (lv_sub hl [7, 0] rfl) hP hD hS
            · have hF := xx_in' hs2 hF
              by_cases hs3 : v15 = (35 : Int32)
              · have hF := xx_ip hs3 hF
                refine lv_lookup (off := 297) (tgt := 398) hx hb qd_Model_step_101 (by decide) (by rw [hs3]; decide) (by decide) ?_
                refine lv_aload_n hx hb qd_Model_step_398 rfl (lv_at hl 7 rfl) ?_
                refine lv_iload hx hb qd_Model_step_399 (lv_at hl 2 rfl) ?_
                refine lv_iload_n hx hb qd_Model_step_401 rfl (lv_at hl 4 rfl) ?_
                refine lv_iload_n hx hb qd_Model_step_402 rfl (lv_at hl 6 rfl) ?_
                refine lv_bipush (v := (25 : Int32)) hx hb qd_Model_step_403 (by decide) ?_
                refine lv_ishr hx hb qd_Model_step_405 ?_
                refine lv_iconst (v := (5 : Int32)) hx hb qd_Model_step_406 (by decide) ?_
                refine lv_ishl hx hb qd_Model_step_407 ?_
                refine lv_iload_n hx hb qd_Model_step_408 rfl (lv_at hl 5 rfl) ?_
                refine lv_ior hx hb qd_Model_step_409 ?_
                refine lv_iadd hx hb qd_Model_step_410 ?_
                refine lv_iload hx hb qd_Model_step_411 (lv_at hl 3 rfl) ?_
                obtain ⟨v21, u20, eu20, hF⟩ := xx_b2_some hF
                refine xx_callV (n := 3) (As := [.int v12, .int (v7 + (((v2 >>> ((25 : Int32) &&& 31)) <<< ((5 : Int32) &&& 31)) ||| v4)), .int v10]) (rest := []) C (qc_Model_store l g u11 v12 (v7 + (((v2 >>> ((25 : Int32) &&& 31)) <<< ((5 : Int32) &&& 31)) ||| v4)) v10 v21 u20 eu20) ⟨kw_1125, kw_1122, kw_1124, ks_Model_store, kw_9⟩ ⟨by decide +kernel, by decide +kernel, by decide +kernel⟩ rfl ⟨Nat.le_of_ble_eq_true rfl, Nat.le_of_ble_eq_true rfl⟩ 0 rfl rfl hl.1 rfl (Nat.le_of_ble_eq_true rfl) hA hK hP hD hS ⟨Nat.le_refl _, Nat.le_refl _⟩ rfl rfl rfl qd_Model_step_413 (fun H locs hP hD hS => ?_)
                refine lv_istore hx hb qd_Model_step_416 hl (by decide) rfl (fun ls hl => ?_)
                refine lv_iload hx hb qd_Model_step_418 (lv_at hl 0 rfl) ?_
                refine lv_if_le (tgt := 605) hx hb qd_Model_step_420 (by decide) (fun hc => ?_) (fun hc => ?_)
                · have hF := xx_ip hc hF
                  exact qw_Model_step_b605 C hA hK  u20 v14 _ _ _ hF (lv_sub hl [8, 1] rfl) hP hD hS
                · have hF := xx_in' hc hF
                  refine lv_iload hx hb qd_Model_step_423 (lv_at hl 0 rfl) ?_
                  exact xx_iret C hF hK hP hD hS qd_Model_step_425
              · have hF := xx_in' hs3 hF
                by_cases hs4 : v15 = (51 : Int32)
                · have hF := xx_ip hs4 hF
                  refine lv_lookup (off := 421) (tgt := 522) hx hb qd_Model_step_101 (by decide) (by rw [hs4]; decide) (by decide) ?_
                  refine lv_iload_n hx hb qd_Model_step_522 rfl (lv_at hl 6 rfl) ?_
                  refine lv_bipush (v := (25 : Int32)) hx hb qd_Model_step_523 (by decide) ?_
                  refine lv_iushr hx hb qd_Model_step_525 (xx_ush_eq v2 (25 : Int32)) ?_
                  refine lv_if_eq (tgt := 551) hx hb qd_Model_step_526 (by decide) (fun hc => ?_) (fun hc => ?_)
                  · have hF := xx_ip hc hF
                    exact qw_Model_step_b551 C hA hK  u11 v2 v4 v7 v10 v12 v14 _ _ _ hF (lv_sub hl [7, 6, 5, 4, 3, 2, 0] rfl) hP hD hS
                  · have hF := xx_in' hc hF
                    refine lv_iload_n hx hb qd_Model_step_529 rfl (lv_at hl 6 rfl) ?_
                    refine lv_bipush (v := (25 : Int32)) hx hb qd_Model_step_530 (by decide) ?_
                    refine lv_iushr hx hb qd_Model_step_532 (xx_ush_eq v2 (25 : Int32)) ?_
                    refine lv_bipush (v := (32 : Int32)) hx hb qd_Model_step_533 (by decide) ?_
                    refine lv_icmp_ne (tgt := 549) hx hb qd_Model_step_535 (by decide) (fun hc => ?_) (fun hc => ?_)
                    · have hF := xx_in' hc hF
                      exact qw_Model_step_b549 C hA hK  u11 _ _ _ hF (lv_sub hl [] rfl) hP hD hS
                    · have hF := xx_ip hc hF
                      refine lv_iload hx hb qd_Model_step_538 (lv_at hl 2 rfl) ?_
                      refine lv_if_eq (tgt := 551) hx hb qd_Model_step_540 (by decide) (fun hc => ?_) (fun hc => ?_)
                      · have hF := xx_ip hc hF
                        exact qw_Model_step_b551 C hA hK  u11 v2 v4 v7 v10 v12 v14 _ _ _ hF (lv_sub hl [7, 6, 5, 4, 3, 2, 0] rfl) hP hD hS
                      · have hF := xx_in' hc hF
                        refine lv_iload hx hb qd_Model_step_543 (lv_at hl 2 rfl) ?_
                        refine lv_iconst (v := (5 : Int32)) hx hb qd_Model_step_545 (by decide) ?_
                        refine lv_icmp_eq (tgt := 551) hx hb qd_Model_step_546 (by decide) (fun hc => ?_) (fun hc => ?_)
                        · have hF := xx_ip hc hF
                          exact qw_Model_step_b551 C hA hK  u11 v2 v4 v7 v10 v12 v14 _ _ _ hF (lv_sub hl [7, 6, 5, 4, 3, 2, 0] rfl) hP hD hS
                        · have hF := xx_in' hc hF
                          exact qw_Model_step_b549 C hA hK  u11 _ _ _ hF (lv_sub hl [] rfl) hP hD hS
                · have hF := xx_in' hs4 hF
                  by_cases hs5 : v15 = (55 : Int32)
                  · have hF := xx_ip hs5 hF
                    refine lv_lookup (off := 83) (tgt := 184) hx hb qd_Model_step_101 (by decide) (by rw [hs5]; decide) (by decide) ?_
                    refine lv_aload_n hx hb qd_Model_step_184 rfl (lv_at hl 7 rfl) ?_
                    refine xx_get C ki_Model hK hP 0 rfl rfl 22 (by decide) kw_895 rfl rfl qd_Model_step_185 ?_
                    refine lv_iload_n hx hb qd_Model_step_188 rfl (lv_at hl 5 rfl) ?_
                    refine lv_iload_n hx hb qd_Model_step_189 rfl (lv_at hl 6 rfl) ?_
                    refine lv_sipush (v := (-4096 : Int32)) hx hb qd_Model_step_190 (by decide) ?_
                    refine lv_iand hx hb qd_Model_step_193 ?_
                    obtain ⟨f22, ef22, hF⟩ := xx_ob hF
                    obtain ⟨u23, eu23, hF⟩ := xx_nm_some hF
                    refine xx_iast (ws1 := qm_W g u23) C hK hP hD hS 14 0 rfl rfl ef22 (by rw [eu23]; rfl) qd_Model_step_194 (fun H locs hP hD hS => ?_)
                    refine lv_goto (tgt := 605) hx hb qd_Model_step_195 (by decide) ?_
                    exact qw_Model_step_b605 C hA hK  u23 v14 _ _ _ hF (lv_sub hl [7, 0] rfl) hP hD hS
                  · have hF := xx_in' hs5 hF
                    by_cases hs6 : v15 = (99 : Int32)
                    · have hF := xx_ip hs6 hF
                      refine lv_lookup (off := 202) (tgt := 303) hx hb qd_Model_step_101 (by decide) (by rw [hs6]; decide) (by decide) ?_
                      refine lv_iload hx hb qd_Model_step_303 (lv_at hl 2 rfl) ?_
                      refine lv_iconst (v := (2 : Int32)) hx hb qd_Model_step_305 (by decide) ?_
                      refine lv_icmp_eq (tgt := 315) hx hb qd_Model_step_306 (by decide) (fun hc => ?_) (fun hc => ?_)
                      · have hF := xx_ip hc hF
                        exact qw_Model_step_b315 C hA hK  u11 _ _ _ hF (lv_sub hl [] rfl) hP hD hS
                      · have hF := xx_in' hc hF
                        refine lv_iload hx hb qd_Model_step_309 (lv_at hl 2 rfl) ?_
                        refine lv_iconst (v := (3 : Int32)) hx hb qd_Model_step_311 (by decide) ?_
                        refine lv_icmp_ne (tgt := 317) hx hb qd_Model_step_312 (by decide) (fun hc => ?_) (fun hc => ?_)
                        · have hF := xx_in' hc hF
                          refine lv_iload hx hb qd_Model_step_317 (lv_at hl 2 rfl) ?_
                          refine lv_iload_n hx hb qd_Model_step_319 rfl (lv_at hl 4 rfl) ?_
                          refine lv_iload hx hb qd_Model_step_320 (lv_at hl 3 rfl) ?_
                          obtain ⟨v25, u24, eu24, hF⟩ := xx_b2_some hF
                          refine xx_callS (n := 3) (As := [.int v12, .int v7, .int v10]) (rest := []) C (qc_Model_isSo l g u11 v12 v7 v10 v25 u24 eu24) ⟨kw_1106, kw_1104, kw_1105, kw_9⟩ ⟨by decide +kernel, by decide +kernel, by decide +kernel⟩ rfl ⟨Nat.le_of_ble_eq_true rfl, Nat.le_of_ble_eq_true rfl⟩ hl.1 rfl (Nat.le_of_ble_eq_true rfl) hA hK hP hD hS ⟨Nat.le_refl _, Nat.le_refl _⟩ rfl rfl rfl qd_Model_step_322 (fun H locs hP hD hS => ?_)
                          refine lv_if_eq (tgt := 605) hx hb qd_Model_step_325 (by decide) (fun hc => ?_) (fun hc => ?_)
                          · have hF := xx_ip hc hF
                            exact qw_Model_step_b605 C hA hK  u24 v14 _ _ _ hF (lv_sub hl [7, 0] rfl) hP hD hS
                          · have hF := xx_in' hc hF
                            refine lv_aload_n hx hb qd_Model_step_328 rfl (lv_at hl 7 rfl) ?_
                            refine xx_get C ki_Model hK hP 0 rfl rfl 30 (by decide) kw_903 rfl rfl qd_Model_step_329 ?_
                            refine lv_iload_n hx hb qd_Model_step_332 rfl (lv_at hl 6 rfl) ?_
                            refine lv_bipush (v := (31 : Int32)) hx hb qd_Model_step_333 (by decide) ?_
                            refine lv_ishr hx hb qd_Model_step_335 ?_
                            refine lv_bipush (v := (12 : Int32)) hx hb qd_Model_step_336 (by decide) ?_
                            refine lv_ishl hx hb qd_Model_step_338 ?_
                            refine lv_iload_n hx hb qd_Model_step_339 rfl (lv_at hl 6 rfl) ?_
                            refine lv_bipush (v := (7 : Int32)) hx hb qd_Model_step_340 (by decide) ?_
                            refine lv_iconst (v := (1 : Int32)) hx hb qd_Model_step_342 (by decide) ?_
                            obtain ⟨v27, u26, eu26, hF⟩ := xx_b2_some hF
                            refine xx_callS (n := 3) (As := [.int v2, .int (7 : Int32), .int (1 : Int32)]) (rest := [.int ((v2 >>> ((31 : Int32) &&& 31)) <<< ((12 : Int32) &&& 31)), .int (u24.1 30)]) C (qc_Model_bits l g u24 v2 (7 : Int32) (1 : Int32) v27 u26 eu26) ⟨kw_1103, kw_1101, kw_1102, kw_9⟩ ⟨by decide +kernel, by decide +kernel, by decide +kernel⟩ rfl ⟨Nat.le_of_ble_eq_true rfl, Nat.le_of_ble_eq_true rfl⟩ hl.1 rfl (Nat.le_of_ble_eq_true rfl) hA hK hP hD hS ⟨Nat.le_refl _, Nat.le_refl _⟩ rfl rfl rfl qd_Model_step_343 (fun H locs hP hD hS => ?_)
                            refine lv_bipush (v := (11 : Int32)) hx hb qd_Model_step_346 (by decide) ?_
                            refine lv_ishl hx hb qd_Model_step_348 ?_
                            refine lv_ior hx hb qd_Model_step_349 ?_
                            refine lv_iload_n hx hb qd_Model_step_350 rfl (lv_at hl 6 rfl) ?_
                            refine lv_bipush (v := (25 : Int32)) hx hb qd_Model_step_351 (by decide) ?_
                            refine lv_bipush (v := (6 : Int32)) hx hb qd_Model_step_353 (by decide) ?_
                            obtain ⟨v29, u28, eu28, hF⟩ := xx_b2_some hF
                            refine xx_callS (n := 3) (As := [.int v2, .int (25 : Int32), .int (6 : Int32)]) (rest := [.int (((v2 >>> ((31 : Int32) &&& 31)) <<< ((12 : Int32) &&& 31)) ||| (v27 <<< ((11 : Int32) &&& 31))), .int (u24.1 30)]) C (qc_Model_bits l g u26 v2 (25 : Int32) (6 : Int32) v29 u28 eu28) ⟨kw_1103, kw_1101, kw_1102, kw_9⟩ ⟨by decide +kernel, by decide +kernel, by decide +kernel⟩ rfl ⟨Nat.le_of_ble_eq_true rfl, Nat.le_of_ble_eq_true rfl⟩ hl.1 rfl (Nat.le_of_ble_eq_true rfl) hA hK hP hD hS ⟨Nat.le_refl _, Nat.le_refl _⟩ rfl rfl rfl qd_Model_step_355 (fun H locs hP hD hS => ?_)
                            refine lv_iconst (v := (5 : Int32)) hx hb qd_Model_step_358 (by decide) ?_
                            refine lv_ishl hx hb qd_Model_step_359 ?_
                            refine lv_ior hx hb qd_Model_step_360 ?_
                            refine lv_iload_n hx hb qd_Model_step_361 rfl (lv_at hl 6 rfl) ?_
                            refine lv_bipush (v := (8 : Int32)) hx hb qd_Model_step_362 (by decide) ?_
                            refine lv_iconst (v := (4 : Int32)) hx hb qd_Model_step_364 (by decide) ?_
                            obtain ⟨v31, u30, eu30, hF⟩ := xx_b2_some hF
                            refine xx_callS (n := 3) (As := [.int v2, .int (8 : Int32), .int (4 : Int32)]) (rest := [.int ((((v2 >>> ((31 : Int32) &&& 31)) <<< ((12 : Int32) &&& 31)) ||| (v27 <<< ((11 : Int32) &&& 31))) ||| (v29 <<< ((5 : Int32) &&& 31))), .int (u24.1 30)]) C (qc_Model_bits l g u28 v2 (8 : Int32) (4 : Int32) v31 u30 eu30) ⟨kw_1103, kw_1101, kw_1102, kw_9⟩ ⟨by decide +kernel, by decide +kernel, by decide +kernel⟩ rfl ⟨Nat.le_of_ble_eq_true rfl, Nat.le_of_ble_eq_true rfl⟩ hl.1 rfl (Nat.le_of_ble_eq_true rfl) hA hK hP hD hS ⟨Nat.le_refl _, Nat.le_refl _⟩ rfl rfl rfl qd_Model_step_365 (fun H locs hP hD hS => ?_)
                            refine lv_iconst (v := (1 : Int32)) hx hb qd_Model_step_368 (by decide) ?_
                            refine lv_ishl hx hb qd_Model_step_369 ?_
                            refine lv_ior hx hb qd_Model_step_370 ?_
                            refine lv_iadd hx hb qd_Model_step_371 ?_
                            obtain ⟨v32, ev32, hF⟩ := xx_nm_some hF
                            refine xx_topi ev32 ?_
                            refine lv_istore hx hb qd_Model_step_372 hl (by decide) rfl (fun ls hl => ?_)
                            refine lv_goto (tgt := 605) hx hb qd_Model_step_374 (by decide) ?_
                            exact qw_Model_step_b605 C hA hK  u30 v32 _ _ _ hF (lv_sub hl [7, 0] rfl) hP hD hS
                        · have hF := xx_ip hc hF
                          exact qw_Model_step_b315 C hA hK  u11 _ _ _ hF (lv_sub hl [] rfl) hP hD hS
                    · have hF := xx_in' hs6 hF
                      by_cases hs7 : v15 = (103 : Int32)
                      · have hF := xx_ip hs7 hF
                        refine lv_lookup (off := 175) (tgt := 276) hx hb qd_Model_step_101 (by decide) (by rw [hs7]; decide) (by decide) ?_
                        refine lv_iload hx hb qd_Model_step_276 (lv_at hl 2 rfl) ?_
                        refine lv_if_eq (tgt := 283) hx hb qd_Model_step_278 (by decide) (fun hc => ?_) (fun hc => ?_)
                        · have hF := xx_ip hc hF
                          refine lv_aload_n hx hb qd_Model_step_283 rfl (lv_at hl 7 rfl) ?_
                          refine xx_get C ki_Model hK hP 0 rfl rfl 22 (by decide) kw_895 rfl rfl qd_Model_step_284 ?_
                          refine lv_iload_n hx hb qd_Model_step_287 rfl (lv_at hl 5 rfl) ?_
                          refine lv_iload hx hb qd_Model_step_288 (lv_at hl 0 rfl) ?_
                          obtain ⟨f33, ef33, hF⟩ := xx_ob hF
                          obtain ⟨u34, eu34, hF⟩ := xx_nm_some hF
                          refine xx_iast (ws1 := qm_W g u34) C hK hP hD hS 14 0 rfl rfl ef33 (by rw [eu34]; rfl) qd_Model_step_290 (fun H locs hP hD hS => ?_)
                          refine lv_iload_n hx hb qd_Model_step_291 rfl (lv_at hl 4 rfl) ?_
                          refine lv_iload hx hb qd_Model_step_292 (lv_at hl 1 rfl) ?_
                          refine lv_iadd hx hb qd_Model_step_294 ?_
                          refine lv_bipush (v := (-2 : Int32)) hx hb qd_Model_step_295 (by decide) ?_
                          refine lv_iand hx hb qd_Model_step_297 ?_
                          obtain ⟨v35, ev35, hF⟩ := xx_nm_some hF
                          refine xx_topi ev35 ?_
                          refine lv_istore hx hb qd_Model_step_298 hl (by decide) rfl (fun ls hl => ?_)
                          refine lv_goto (tgt := 605) hx hb qd_Model_step_300 (by decide) ?_
                          exact qw_Model_step_b605 C hA hK  u34 v35 _ _ _ hF (lv_sub hl [7, 0] rfl) hP hD hS
                        · have hF := xx_in' hc hF
                          refine lv_iconst (v := (3 : Int32)) hx hb qd_Model_step_281 (by decide) ?_
                          exact xx_iret C hF hK hP hD hS qd_Model_step_282
                      · have hF := xx_in' hs7 hF
                        by_cases hs8 : v15 = (111 : Int32)
                        · have hF := xx_ip hs8 hF
                          refine lv_lookup (off := 116) (tgt := 217) hx hb qd_Model_step_101 (by decide) (by rw [hs8]; decide) (by decide) ?_
                          refine lv_aload_n hx hb qd_Model_step_217 rfl (lv_at hl 7 rfl) ?_
                          refine xx_get C ki_Model hK hP 0 rfl rfl 22 (by decide) kw_895 rfl rfl qd_Model_step_218 ?_
                          refine lv_iload_n hx hb qd_Model_step_221 rfl (lv_at hl 5 rfl) ?_
                          refine lv_iload hx hb qd_Model_step_222 (lv_at hl 0 rfl) ?_
                          obtain ⟨f36, ef36, hF⟩ := xx_ob hF
                          obtain ⟨u37, eu37, hF⟩ := xx_nm_some hF
                          refine xx_iast (ws1 := qm_W g u37) C hK hP hD hS 14 0 rfl rfl ef36 (by rw [eu37]; rfl) qd_Model_step_224 (fun H locs hP hD hS => ?_)
                          refine lv_aload_n hx hb qd_Model_step_225 rfl (lv_at hl 7 rfl) ?_
                          refine xx_get C ki_Model hK hP 0 rfl rfl 30 (by decide) kw_903 rfl rfl qd_Model_step_226 ?_
                          refine lv_iload_n hx hb qd_Model_step_229 rfl (lv_at hl 6 rfl) ?_
                          refine lv_bipush (v := (31 : Int32)) hx hb qd_Model_step_230 (by decide) ?_
                          refine lv_ishr hx hb qd_Model_step_232 ?_
                          refine lv_bipush (v := (20 : Int32)) hx hb qd_Model_step_233 (by decide) ?_
                          refine lv_ishl hx hb qd_Model_step_235 ?_
                          refine lv_iload_n hx hb qd_Model_step_236 rfl (lv_at hl 6 rfl) ?_
                          refine lv_bipush (v := (12 : Int32)) hx hb qd_Model_step_237 (by decide) ?_
                          refine lv_bipush (v := (8 : Int32)) hx hb qd_Model_step_239 (by decide) ?_
                          obtain ⟨v39, u38, eu38, hF⟩ := xx_b2_some hF
                          refine xx_callS (n := 3) (As := [.int v2, .int (12 : Int32), .int (8 : Int32)]) (rest := [.int ((v2 >>> ((31 : Int32) &&& 31)) <<< ((20 : Int32) &&& 31)), .int (u37.1 30)]) C (qc_Model_bits l g u37 v2 (12 : Int32) (8 : Int32) v39 u38 eu38) ⟨kw_1103, kw_1101, kw_1102, kw_9⟩ ⟨by decide +kernel, by decide +kernel, by decide +kernel⟩ rfl ⟨Nat.le_of_ble_eq_true rfl, Nat.le_of_ble_eq_true rfl⟩ hl.1 rfl (Nat.le_of_ble_eq_true rfl) hA hK hP hD hS ⟨Nat.le_refl _, Nat.le_refl _⟩ rfl rfl rfl qd_Model_step_241 (fun H locs hP hD hS => ?_)
                          refine lv_bipush (v := (12 : Int32)) hx hb qd_Model_step_244 (by decide) ?_
                          refine lv_ishl hx hb qd_Model_step_246 ?_
                          refine lv_ior hx hb qd_Model_step_247 ?_
                          refine lv_iload_n hx hb qd_Model_step_248 rfl (lv_at hl 6 rfl) ?_
                          refine lv_bipush (v := (20 : Int32)) hx hb qd_Model_step_249 (by decide) ?_
                          refine lv_iconst (v := (1 : Int32)) hx hb qd_Model_step_251 (by decide) ?_
                          obtain ⟨v41, u40, eu40, hF⟩ := xx_b2_some hF
                          refine xx_callS (n := 3) (As := [.int v2, .int (20 : Int32), .int (1 : Int32)]) (rest := [.int (((v2 >>> ((31 : Int32) &&& 31)) <<< ((20 : Int32) &&& 31)) ||| (v39 <<< ((12 : Int32) &&& 31))), .int (u37.1 30)]) C (qc_Model_bits l g u38 v2 (20 : Int32) (1 : Int32) v41 u40 eu40) ⟨kw_1103, kw_1101, kw_1102, kw_9⟩ ⟨by decide +kernel, by decide +kernel, by decide +kernel⟩ rfl ⟨Nat.le_of_ble_eq_true rfl, Nat.le_of_ble_eq_true rfl⟩ hl.1 rfl (Nat.le_of_ble_eq_true rfl) hA hK hP hD hS ⟨Nat.le_refl _, Nat.le_refl _⟩ rfl rfl rfl qd_Model_step_252 (fun H locs hP hD hS => ?_)
                          refine lv_bipush (v := (11 : Int32)) hx hb qd_Model_step_255 (by decide) ?_
                          refine lv_ishl hx hb qd_Model_step_257 ?_
                          refine lv_ior hx hb qd_Model_step_258 ?_
                          refine lv_iload_n hx hb qd_Model_step_259 rfl (lv_at hl 6 rfl) ?_
                          refine lv_bipush (v := (21 : Int32)) hx hb qd_Model_step_260 (by decide) ?_
                          refine lv_bipush (v := (10 : Int32)) hx hb qd_Model_step_262 (by decide) ?_
                          obtain ⟨v43, u42, eu42, hF⟩ := xx_b2_some hF
                          refine xx_callS (n := 3) (As := [.int v2, .int (21 : Int32), .int (10 : Int32)]) (rest := [.int ((((v2 >>> ((31 : Int32) &&& 31)) <<< ((20 : Int32) &&& 31)) ||| (v39 <<< ((12 : Int32) &&& 31))) ||| (v41 <<< ((11 : Int32) &&& 31))), .int (u37.1 30)]) C (qc_Model_bits l g u40 v2 (21 : Int32) (10 : Int32) v43 u42 eu42) ⟨kw_1103, kw_1101, kw_1102, kw_9⟩ ⟨by decide +kernel, by decide +kernel, by decide +kernel⟩ rfl ⟨Nat.le_of_ble_eq_true rfl, Nat.le_of_ble_eq_true rfl⟩ hl.1 rfl (Nat.le_of_ble_eq_true rfl) hA hK hP hD hS ⟨Nat.le_refl _, Nat.le_refl _⟩ rfl rfl rfl qd_Model_step_264 (fun H locs hP hD hS => ?_)
                          refine lv_iconst (v := (1 : Int32)) hx hb qd_Model_step_267 (by decide) ?_
                          refine lv_ishl hx hb qd_Model_step_268 ?_
                          refine lv_ior hx hb qd_Model_step_269 ?_
                          refine lv_iadd hx hb qd_Model_step_270 ?_
                          obtain ⟨v44, ev44, hF⟩ := xx_nm_some hF
                          refine xx_topi ev44 ?_
                          refine lv_istore hx hb qd_Model_step_271 hl (by decide) rfl (fun ls hl => ?_)
                          refine lv_goto (tgt := 605) hx hb qd_Model_step_273 (by decide) ?_
                          exact qw_Model_step_b605 C hA hK  u42 v44 _ _ _ hF (lv_sub hl [7, 0] rfl) hP hD hS
                        · have hF := xx_in' hs8 hF
                          refine lv_lookup (off := 502) (tgt := 603) hx hb qd_Model_step_101 (by decide) (by show Op.lookupswitch.offset [(3, 276), (19, 325), (23, 97), (35, 297), (51, 421), (55, 83), (99, 202), (103, 175), (111, 116)] (502) _ = _; rw [lv_osw hs0 (by decide), lv_osw hs1 (by decide), lv_osw hs2 (by decide), lv_osw hs3 (by decide), lv_osw hs4 (by decide), lv_osw hs5 (by decide), lv_osw hs6 (by decide), lv_osw hs7 (by decide), lv_osw hs8 (by decide)]; rfl) (by decide) ?_
                          refine lv_iconst (v := (3 : Int32)) hx hb qd_Model_step_603 (by decide) ?_
                          exact xx_iret C hF hK hP hD hS qd_Model_step_604
      · have hF := xx_in' hc hF
        exact qw_Model_step_b28 C hA hK  u _ _ _ hF (lv_sub hl [] rfl) hP hD hS
  · have hF := xx_in' hc hF
    refine lv_iconst (v := (1 : Int32)) hx hb qd_Model_step_9 (by decide) ?_
    exact xx_iret C hF hK hP hD hS qd_Model_step_10
