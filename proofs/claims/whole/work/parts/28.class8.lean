theorem kw_532 : Cond.methodLink "ModuleLoader$ModuleFile" 84 ky_ModuleFile_importName ∈ xx_tb := xx_in (List.mem_append_right _ (List.mem_of_getElem? (i := 532) (by decide +kernel))) (by decide +kernel)
set_option maxRecDepth 100000 in
theorem kw_436 : Cond.code ky_Loader_isName kb_Loader_isName 3 (some .boolean) ∈ xx_tb := xx_in (List.mem_append_right _ (List.mem_of_getElem? (i := 436) (by rfl))) (by decide +kernel)
theorem kw_435 : Cond.static ky_Loader_isName ∈ xx_tb := xx_in (List.mem_append_right _ (List.mem_of_getElem? (i := 435) (by decide +kernel))) (by decide +kernel)
theorem zd_ModuleFile_importsHold_0 : decode kb_ModuleFile_importsHold 0 = .ok (.iconst 0, 1) := by decide +kernel
theorem zd_ModuleFile_importsHold_1 : decode kb_ModuleFile_importsHold 1 = .ok (.istore_n 1, 1) := by decide +kernel
theorem zd_ModuleFile_importsHold_2 : decode kb_ModuleFile_importsHold 2 = .ok (.iload_n 1, 1) := by decide +kernel
theorem zd_ModuleFile_importsHold_3 : decode kb_ModuleFile_importsHold 3 = .ok (.aload_n 0, 1) := by decide +kernel
theorem zd_ModuleFile_importsHold_4 : decode kb_ModuleFile_importsHold 4 = .ok (.getfield 40, 3) := by decide +kernel
theorem zd_ModuleFile_importsHold_7 : decode kb_ModuleFile_importsHold 7 = .ok (.if_icmp .ge (22), 3) := by decide +kernel
theorem zd_ModuleFile_importsHold_10 : decode kb_ModuleFile_importsHold 10 = .ok (.aload_n 0, 1) := by decide +kernel
theorem zd_ModuleFile_importsHold_11 : decode kb_ModuleFile_importsHold 11 = .ok (.iload_n 1, 1) := by decide +kernel
theorem zd_ModuleFile_importsHold_12 : decode kb_ModuleFile_importsHold 12 = .ok (.invokevirtual 84, 3) := by decide +kernel
theorem zd_ModuleFile_importsHold_15 : decode kb_ModuleFile_importsHold 15 = .ok (.invokestatic 87, 3) := by decide +kernel
theorem zd_ModuleFile_importsHold_18 : decode kb_ModuleFile_importsHold 18 = .ok (.ifCond .ne (5), 3) := by decide +kernel
theorem zd_ModuleFile_importsHold_21 : decode kb_ModuleFile_importsHold 21 = .ok (.iconst 0, 1) := by decide +kernel
theorem zd_ModuleFile_importsHold_22 : decode kb_ModuleFile_importsHold 22 = .ok (.ireturn, 1) := by decide +kernel
theorem zd_ModuleFile_importsHold_23 : decode kb_ModuleFile_importsHold 23 = .ok (.iinc 1 (1), 3) := by decide +kernel
theorem zd_ModuleFile_importsHold_26 : decode kb_ModuleFile_importsHold 26 = .ok (.goto (-24), 3) := by decide +kernel
theorem zd_ModuleFile_importsHold_29 : decode kb_ModuleFile_importsHold 29 = .ok (.iconst 1, 1) := by decide +kernel
theorem zd_ModuleFile_importsHold_30 : decode kb_ModuleFile_importsHold 30 = .ok (.ireturn, 1) := by decide +kernel
def zf_ModuleFile_importsHold_b2 : Nat → zz_S → Int32 → Option (Int32 × zz_S)
  | 0, _, _ => none
  | n + 1, u, x1 => if (u.1 6) ≤ x1 then (some (vp_nar .boolean (1 : Int32), u)) else (xx_b2 (zf_ModuleFile_importName u x1) fun v2 u1 => xx_b2 (zf_Loader_isName u1 v2) fun v4 u3 => if v4 = 0 then (some (vp_nar .boolean (0 : Int32), u3)) else (xx_nm (x1 + (1 : Int32)) fun v5 => (zf_ModuleFile_importsHold_b2 n) u3 v5))
def zf_ModuleFile_importsHold (u : zz_S) : Option (Int32 × zz_S) := xx_nm (0 : Int32) fun v1 => zf_ModuleFile_importsHold_b2 xx_fu u v1
set_option maxHeartbeats 4000000 in
set_option maxRecDepth 100000 in
theorem zw_ModuleFile_importsHold_b2 {p : Program} {l : Launch} {e : Env} {s : State} {m : MethodId} {args : Array Value} {below : List Frame} {meth : Method} {c : Code} {A : Nat → Prop} {g : xx_G} {r : Int32} {u9 : zz_S} (C : xx_C p s m args meth c kb_ModuleFile_importsHold 2 kr_ModuleFile (some .boolean)) (hA : ∀ q, s.heap.size ≤ q → A q) (hK : va_K g.1 xx_cls (zz_T g) s) : ∀ (n : Nat), ∀ (u : zz_S) (x1 : Int32) (H : Heap) (locs : List Loc) (ls : Array Slot), zf_ModuleFile_importsHold_b2 n u x1 = some (r, u9) → lv_has ls 2 [(0, .ref (g.2.1 8)), (1, .int x1)] → va_P g.1 xx_cls (zz_W g u) H → va_D A (zz_W g u) → va_S A s.heap H locs → W p l e (xx_rm 2 42) s m args below meth c H locs 0 0 (MQ below (xx_Q g.1 (zz_T g) (zz_W g) (some (.int r)) u9 A) args s 0 0 A) (F0 m 2 ls []) := by
  have hx := C.1
  have hb := C.2.1
  have hown := C.2.2.2.1
  have hts := C.2.2.2.2.1
  intro n
  induction n with
  | zero =>
    intro u x1 H locs ls hF
    rw [zf_ModuleFile_importsHold_b2] at hF
    cases hF
  | succ n ih =>
    intro u x1 H locs ls hF hl hP hD hS
    rw [zf_ModuleFile_importsHold_b2] at hF
    refine lv_iload_n hx hb zd_ModuleFile_importsHold_2 rfl (lv_at hl 1 rfl) ?_
    refine lv_aload_n hx hb zd_ModuleFile_importsHold_3 rfl (lv_at hl 0 rfl) ?_
    refine xx_get C ki_ModuleFile hK hP 8 rfl rfl 1 (by decide) kw_90 rfl rfl zd_ModuleFile_importsHold_4 ?_
    refine lv_icmp_ge (tgt := 29) hx hb zd_ModuleFile_importsHold_7 (by decide) (fun hc => ?_) (fun hc => ?_)
    · have hF := xx_ip hc hF
      refine lv_iconst (v := (1 : Int32)) hx hb zd_ModuleFile_importsHold_29 (by decide) ?_
      exact xx_zret C hF hK hP hD hS zd_ModuleFile_importsHold_30
    · have hF := xx_in' hc hF
      refine lv_aload_n hx hb zd_ModuleFile_importsHold_10 rfl (lv_at hl 0 rfl) ?_
      refine lv_iload_n hx hb zd_ModuleFile_importsHold_11 rfl (lv_at hl 1 rfl) ?_
      obtain ⟨v2, u1, eu1, hF⟩ := xx_b2_some hF
      refine xx_callV (n := 1) (As := [.int x1]) (rest := []) C (zc_ModuleFile_importName l g u x1 v2 u1 eu1) ⟨kw_535, kw_532, kw_533, kw_534, kw_5⟩ ⟨by decide +kernel, by decide +kernel, by decide +kernel⟩ rfl ⟨Nat.le_of_ble_eq_true rfl, Nat.le_of_ble_eq_true rfl⟩ 8 rfl rfl hl.1 rfl (Nat.le_of_ble_eq_true rfl) hA hK hP hD hS ⟨Nat.le_refl _, Nat.le_refl _⟩ rfl rfl rfl zd_ModuleFile_importsHold_12 (fun H locs hP hD hS => ?_)
      obtain ⟨v4, u3, eu3, hF⟩ := xx_b2_some hF
      refine xx_callSN (n := 1) (As := [.int v2]) (rest := []) C (zc_Loader_isName l g u1 v2 v4 u3 eu3) ⟨kw_436, C.2.2.2.2.2.2.2.1, kw_435, kw_1⟩ ⟨by decide +kernel, by decide +kernel, by decide +kernel⟩ rfl ⟨Nat.le_of_ble_eq_true rfl, Nat.le_of_ble_eq_true rfl⟩ hl.1 rfl (Nat.le_of_ble_eq_true rfl) hA hK hP hD hS ⟨Nat.le_refl _, Nat.le_refl _⟩ rfl rfl rfl zd_ModuleFile_importsHold_15 (fun H locs hP hD hS => ?_)
      refine lv_if_ne (tgt := 23) hx hb zd_ModuleFile_importsHold_18 (by decide) (fun hc => ?_) (fun hc => ?_)
      · have hF := xx_in' hc hF
        obtain ⟨v5, ev5, hF⟩ := xx_nm_some hF
        refine lv_iinc (k := 1) (v := v5) hx hb zd_ModuleFile_importsHold_23 hl rfl (by rw [ev5, xx_lit1]) (by decide) rfl (fun ls hl => ?_)
        refine lv_goto (tgt := 2) hx hb zd_ModuleFile_importsHold_26 (by decide) ?_
        exact ih u3 v5 _ _ _ hF (lv_sub hl [1, 0] rfl) hP hD hS
      · have hF := xx_ip hc hF
        refine lv_iconst (v := (0 : Int32)) hx hb zd_ModuleFile_importsHold_21 (by decide) ?_
        exact xx_zret C hF hK hP hD hS zd_ModuleFile_importsHold_22
set_option maxHeartbeats 4000000 in
set_option maxRecDepth 100000 in
theorem zc_ModuleFile_importsHold (l : Launch) (g : xx_G) (u : zz_S) (r : Int32) (u9 : zz_S) (hF : zf_ModuleFile_importsHold u = some (r, u9)) : xx_M l g.1 (zz_T g) (zz_W g) ky_ModuleFile_importsHold kb_ModuleFile_importsHold 2 (some .boolean) (xx_rm 2 42) [.ref (g.2.1 8)] u (some (.int r)) u9 := by
  refine xx_body (by decide) (Nat.le_of_ble_eq_true rfl) ?_
  intro p e s m args below meth c A ls C hin hK hl hA hP hD hS
  have hx := C.1
  have hb := C.2.1
  have hown := C.2.2.2.1
  have hts := C.2.2.2.2.1
  have hl : lv_has ls 2 [(0, .ref (g.2.1 8))] := hl
  unfold zf_ModuleFile_importsHold at hF
  refine lv_iconst (v := (0 : Int32)) hx hb zd_ModuleFile_importsHold_0 (by decide) ?_
  obtain ⟨v1, ev1, hF⟩ := xx_nm_some hF
  refine xx_topi ev1 ?_
  refine lv_istore_n hx hb zd_ModuleFile_importsHold_1 rfl hl (by decide) rfl (fun ls hl => ?_)
  exact zw_ModuleFile_importsHold_b2 C hA hK xx_fu u v1 _ _ _ hF (lv_sub hl [1, 0] rfl) hP hD hS
theorem kw_541 : Cond.methodLink "ModuleLoader$ModuleFile" 90 ky_ModuleFile_exportName ∈ xx_tb := xx_in (List.mem_append_right _ (List.mem_of_getElem? (i := 541) (by decide +kernel))) (by decide +kernel)
theorem zd_ModuleFile_isExportedBefore_0 : decode kb_ModuleFile_isExportedBefore 0 = .ok (.iconst 0, 1) := by decide +kernel
theorem zd_ModuleFile_isExportedBefore_1 : decode kb_ModuleFile_isExportedBefore 1 = .ok (.istore_n 2, 1) := by decide +kernel
theorem zd_ModuleFile_isExportedBefore_2 : decode kb_ModuleFile_isExportedBefore 2 = .ok (.iload_n 2, 1) := by decide +kernel
theorem zd_ModuleFile_isExportedBefore_3 : decode kb_ModuleFile_isExportedBefore 3 = .ok (.iload_n 1, 1) := by decide +kernel
theorem zd_ModuleFile_isExportedBefore_4 : decode kb_ModuleFile_isExportedBefore 4 = .ok (.if_icmp .ge (24), 3) := by decide +kernel
theorem zd_ModuleFile_isExportedBefore_7 : decode kb_ModuleFile_isExportedBefore 7 = .ok (.aload_n 0, 1) := by decide +kernel
theorem zd_ModuleFile_isExportedBefore_8 : decode kb_ModuleFile_isExportedBefore 8 = .ok (.iload_n 2, 1) := by decide +kernel
theorem zd_ModuleFile_isExportedBefore_9 : decode kb_ModuleFile_isExportedBefore 9 = .ok (.invokevirtual 90, 3) := by decide +kernel
theorem zd_ModuleFile_isExportedBefore_12 : decode kb_ModuleFile_isExportedBefore 12 = .ok (.aload_n 0, 1) := by decide +kernel
theorem zd_ModuleFile_isExportedBefore_13 : decode kb_ModuleFile_isExportedBefore 13 = .ok (.iload_n 1, 1) := by decide +kernel
theorem zd_ModuleFile_isExportedBefore_14 : decode kb_ModuleFile_isExportedBefore 14 = .ok (.invokevirtual 90, 3) := by decide +kernel
theorem zd_ModuleFile_isExportedBefore_17 : decode kb_ModuleFile_isExportedBefore 17 = .ok (.if_icmp .ne (5), 3) := by decide +kernel
theorem zd_ModuleFile_isExportedBefore_20 : decode kb_ModuleFile_isExportedBefore 20 = .ok (.iconst 1, 1) := by decide +kernel
theorem zd_ModuleFile_isExportedBefore_21 : decode kb_ModuleFile_isExportedBefore 21 = .ok (.ireturn, 1) := by decide +kernel
theorem zd_ModuleFile_isExportedBefore_22 : decode kb_ModuleFile_isExportedBefore 22 = .ok (.iinc 2 (1), 3) := by decide +kernel
theorem zd_ModuleFile_isExportedBefore_25 : decode kb_ModuleFile_isExportedBefore 25 = .ok (.goto (-23), 3) := by decide +kernel
theorem zd_ModuleFile_isExportedBefore_28 : decode kb_ModuleFile_isExportedBefore 28 = .ok (.iconst 0, 1) := by decide +kernel
theorem zd_ModuleFile_isExportedBefore_29 : decode kb_ModuleFile_isExportedBefore 29 = .ok (.ireturn, 1) := by decide +kernel
def zf_ModuleFile_isExportedBefore_b2 : Nat → zz_S → Int32 → Int32 → Option (Int32 × zz_S)
  | 0, _, _, _ => none
  | n + 1, u, x1, x2 => if x1 ≤ x2 then (some (vp_nar .boolean (0 : Int32), u)) else (xx_b2 (zf_ModuleFile_exportName u x2) fun v2 u1 => xx_b2 (zf_ModuleFile_exportName u1 x1) fun v4 u3 => if v2 = v4 then (some (vp_nar .boolean (1 : Int32), u3)) else (xx_nm (x2 + (1 : Int32)) fun v5 => (zf_ModuleFile_isExportedBefore_b2 n) u3 x1 v5))
def zf_ModuleFile_isExportedBefore (u : zz_S) (x1 : Int32) : Option (Int32 × zz_S) := xx_nm (0 : Int32) fun v1 => zf_ModuleFile_isExportedBefore_b2 xx_fu u x1 v1
set_option maxHeartbeats 4000000 in
set_option maxRecDepth 100000 in
theorem zw_ModuleFile_isExportedBefore_b2 {p : Program} {l : Launch} {e : Env} {s : State} {m : MethodId} {args : Array Value} {below : List Frame} {meth : Method} {c : Code} {A : Nat → Prop} {g : xx_G} {r : Int32} {u9 : zz_S} (C : xx_C p s m args meth c kb_ModuleFile_isExportedBefore 3 kr_ModuleFile (some .boolean)) (hA : ∀ q, s.heap.size ≤ q → A q) (hK : va_K g.1 xx_cls (zz_T g) s) : ∀ (n : Nat), ∀ (u : zz_S) (x1 : Int32) (x2 : Int32) (H : Heap) (locs : List Loc) (ls : Array Slot), zf_ModuleFile_isExportedBefore_b2 n u x1 x2 = some (r, u9) → lv_has ls 3 [(0, .ref (g.2.1 8)), (1, .int x1), (2, .int x2)] → va_P g.1 xx_cls (zz_W g u) H → va_D A (zz_W g u) → va_S A s.heap H locs → W p l e (xx_rm 2 42) s m args below meth c H locs 0 0 (MQ below (xx_Q g.1 (zz_T g) (zz_W g) (some (.int r)) u9 A) args s 0 0 A) (F0 m 2 ls []) := by
  have hx := C.1
  have hb := C.2.1
  have hown := C.2.2.2.1
  have hts := C.2.2.2.2.1
  intro n
  induction n with
  | zero =>
    intro u x1 x2 H locs ls hF
    rw [zf_ModuleFile_isExportedBefore_b2] at hF
    cases hF
  | succ n ih =>
    intro u x1 x2 H locs ls hF hl hP hD hS
    rw [zf_ModuleFile_isExportedBefore_b2] at hF
    refine lv_iload_n hx hb zd_ModuleFile_isExportedBefore_2 rfl (lv_at hl 2 rfl) ?_
    refine lv_iload_n hx hb zd_ModuleFile_isExportedBefore_3 rfl (lv_at hl 1 rfl) ?_
    refine lv_icmp_ge (tgt := 28) hx hb zd_ModuleFile_isExportedBefore_4 (by decide) (fun hc => ?_) (fun hc => ?_)
    · have hF := xx_ip hc hF
      refine lv_iconst (v := (0 : Int32)) hx hb zd_ModuleFile_isExportedBefore_28 (by decide) ?_
      exact xx_zret C hF hK hP hD hS zd_ModuleFile_isExportedBefore_29
    · have hF := xx_in' hc hF
      refine lv_aload_n hx hb zd_ModuleFile_isExportedBefore_7 rfl (lv_at hl 0 rfl) ?_
      refine lv_iload_n hx hb zd_ModuleFile_isExportedBefore_8 rfl (lv_at hl 2 rfl) ?_
      obtain ⟨v2, u1, eu1, hF⟩ := xx_b2_some hF
      refine xx_callV (n := 1) (As := [.int x2]) (rest := []) C (zc_ModuleFile_exportName l g u x2 v2 u1 eu1) ⟨kw_544, kw_541, kw_542, kw_543, kw_5⟩ ⟨by decide +kernel, by decide +kernel, by decide +kernel⟩ rfl ⟨Nat.le_of_ble_eq_true rfl, Nat.le_of_ble_eq_true rfl⟩ 8 rfl rfl hl.1 rfl (Nat.le_of_ble_eq_true rfl) hA hK hP hD hS ⟨Nat.le_refl _, Nat.le_refl _⟩ rfl rfl rfl zd_ModuleFile_isExportedBefore_9 (fun H locs hP hD hS => ?_)
      refine lv_aload_n hx hb zd_ModuleFile_isExportedBefore_12 rfl (lv_at hl 0 rfl) ?_
      refine lv_iload_n hx hb zd_ModuleFile_isExportedBefore_13 rfl (lv_at hl 1 rfl) ?_
      obtain ⟨v4, u3, eu3, hF⟩ := xx_b2_some hF
      refine xx_callV (n := 1) (As := [.int x1]) (rest := [.int v2]) C (zc_ModuleFile_exportName l g u1 x1 v4 u3 eu3) ⟨kw_544, kw_541, kw_542, kw_543, kw_5⟩ ⟨by decide +kernel, by decide +kernel, by decide +kernel⟩ rfl ⟨Nat.le_of_ble_eq_true rfl, Nat.le_of_ble_eq_true rfl⟩ 8 rfl rfl hl.1 rfl (Nat.le_of_ble_eq_true rfl) hA hK hP hD hS ⟨Nat.le_refl _, Nat.le_refl _⟩ rfl rfl rfl zd_ModuleFile_isExportedBefore_14 (fun H locs hP hD hS => ?_)
      refine lv_icmp_ne (tgt := 22) hx hb zd_ModuleFile_isExportedBefore_17 (by decide) (fun hc => ?_) (fun hc => ?_)
      · have hF := xx_in' hc hF
        obtain ⟨v5, ev5, hF⟩ := xx_nm_some hF
        refine lv_iinc (k := 2) (v := v5) hx hb zd_ModuleFile_isExportedBefore_22 hl rfl (by rw [ev5, xx_lit1]) (by decide) rfl (fun ls hl => ?_)
        refine lv_goto (tgt := 2) hx hb zd_ModuleFile_isExportedBefore_25 (by decide) ?_
        exact ih u3 x1 v5 _ _ _ hF (lv_sub hl [1, 2, 0] rfl) hP hD hS
      · have hF := xx_ip hc hF
        refine lv_iconst (v := (1 : Int32)) hx hb zd_ModuleFile_isExportedBefore_20 (by decide) ?_
        exact xx_zret C hF hK hP hD hS zd_ModuleFile_isExportedBefore_21
set_option maxHeartbeats 4000000 in
set_option maxRecDepth 100000 in
theorem zc_ModuleFile_isExportedBefore (l : Launch) (g : xx_G) (u : zz_S) (x1 : Int32) (r : Int32) (u9 : zz_S) (hF : zf_ModuleFile_isExportedBefore u x1 = some (r, u9)) : xx_M l g.1 (zz_T g) (zz_W g) ky_ModuleFile_isExportedBefore kb_ModuleFile_isExportedBefore 3 (some .boolean) (xx_rm 2 42) [.ref (g.2.1 8), .int x1] u (some (.int r)) u9 := by
  refine xx_body (by decide) (Nat.le_of_ble_eq_true rfl) ?_
  intro p e s m args below meth c A ls C hin hK hl hA hP hD hS
  have hx := C.1
  have hb := C.2.1
  have hown := C.2.2.2.1
  have hts := C.2.2.2.2.1
  have hl : lv_has ls 3 [(0, .ref (g.2.1 8)), (1, .int x1)] := hl
  unfold zf_ModuleFile_isExportedBefore at hF
  refine lv_iconst (v := (0 : Int32)) hx hb zd_ModuleFile_isExportedBefore_0 (by decide) ?_
  obtain ⟨v1, ev1, hF⟩ := xx_nm_some hF
  refine xx_topi ev1 ?_
  refine lv_istore_n hx hb zd_ModuleFile_isExportedBefore_1 rfl hl (by decide) rfl (fun ls hl => ?_)
  exact zw_ModuleFile_isExportedBefore_b2 C hA hK xx_fu u x1 v1 _ _ _ hF (lv_sub hl [1, 2, 0] rfl) hP hD hS
set_option maxRecDepth 100000 in
theorem kw_564 : Cond.code ky_ModuleFile_placeKind kb_ModuleFile_placeKind 2 (some .int) ∈ xx_tb := xx_in (List.mem_append_right _ (List.mem_of_getElem? (i := 564) (by rfl))) (by decide +kernel)
theorem kw_561 : Cond.methodLink "ModuleLoader$ModuleFile" 102 ky_ModuleFile_placeKind ∈ xx_tb := xx_in (List.mem_append_right _ (List.mem_of_getElem? (i := 561) (by decide +kernel))) (by decide +kernel)
theorem kw_562 : Cond.instanceMethod ky_ModuleFile_placeKind ∈ xx_tb := xx_in (List.mem_append_right _ (List.mem_of_getElem? (i := 562) (by decide +kernel))) (by decide +kernel)
theorem kw_563 : Cond.selects "ModuleLoader$ModuleFile" ky_ModuleFile_placeKind ky_ModuleFile_placeKind ∈ xx_tb := xx_in (List.mem_append_right _ (List.mem_of_getElem? (i := 563) (by decide +kernel))) (by decide +kernel)
set_option maxRecDepth 100000 in
theorem kw_568 : Cond.code ky_ModuleFile_placeOffset kb_ModuleFile_placeOffset 2 (some .int) ∈ xx_tb := xx_in (List.mem_append_right _ (List.mem_of_getElem? (i := 568) (by rfl))) (by decide +kernel)
theorem kw_565 : Cond.methodLink "ModuleLoader$ModuleFile" 107 ky_ModuleFile_placeOffset ∈ xx_tb := xx_in (List.mem_append_right _ (List.mem_of_getElem? (i := 565) (by decide +kernel))) (by decide +kernel)
theorem kw_566 : Cond.instanceMethod ky_ModuleFile_placeOffset ∈ xx_tb := xx_in (List.mem_append_right _ (List.mem_of_getElem? (i := 566) (by decide +kernel))) (by decide +kernel)
theorem kw_567 : Cond.selects "ModuleLoader$ModuleFile" ky_ModuleFile_placeOffset ky_ModuleFile_placeOffset ∈ xx_tb := xx_in (List.mem_append_right _ (List.mem_of_getElem? (i := 567) (by decide +kernel))) (by decide +kernel)
theorem kw_557 : Cond.methodLink "ModuleLoader$ModuleFile" 99 ky_ModuleFile_placeSource ∈ xx_tb := xx_in (List.mem_append_right _ (List.mem_of_getElem? (i := 557) (by decide +kernel))) (by decide +kernel)
theorem zd_ModuleFile_placesHold_0 : decode kb_ModuleFile_placesHold 0 = .ok (.iconst 0, 1) := by decide +kernel
theorem zd_ModuleFile_placesHold_1 : decode kb_ModuleFile_placesHold 1 = .ok (.istore_n 1, 1) := by decide +kernel
theorem zd_ModuleFile_placesHold_2 : decode kb_ModuleFile_placesHold 2 = .ok (.iload_n 1, 1) := by decide +kernel
theorem zd_ModuleFile_placesHold_3 : decode kb_ModuleFile_placesHold 3 = .ok (.aload_n 0, 1) := by decide +kernel
theorem zd_ModuleFile_placesHold_4 : decode kb_ModuleFile_placesHold 4 = .ok (.getfield 52, 3) := by decide +kernel
theorem zd_ModuleFile_placesHold_7 : decode kb_ModuleFile_placesHold 7 = .ok (.if_icmp .ge (71), 3) := by decide +kernel
theorem zd_ModuleFile_placesHold_10 : decode kb_ModuleFile_placesHold 10 = .ok (.aload_n 0, 1) := by decide +kernel
theorem zd_ModuleFile_placesHold_11 : decode kb_ModuleFile_placesHold 11 = .ok (.iload_n 1, 1) := by decide +kernel
theorem zd_ModuleFile_placesHold_12 : decode kb_ModuleFile_placesHold 12 = .ok (.invokevirtual 99, 3) := by decide +kernel
theorem zd_ModuleFile_placesHold_15 : decode kb_ModuleFile_placesHold 15 = .ok (.iconst (-1), 1) := by decide +kernel
theorem zd_ModuleFile_placesHold_16 : decode kb_ModuleFile_placesHold 16 = .ok (.if_icmp .eq (20), 3) := by decide +kernel
theorem zd_ModuleFile_placesHold_19 : decode kb_ModuleFile_placesHold 19 = .ok (.aload_n 0, 1) := by decide +kernel
theorem zd_ModuleFile_placesHold_20 : decode kb_ModuleFile_placesHold 20 = .ok (.iload_n 1, 1) := by decide +kernel
theorem zd_ModuleFile_placesHold_21 : decode kb_ModuleFile_placesHold 21 = .ok (.invokevirtual 99, 3) := by decide +kernel
theorem zd_ModuleFile_placesHold_24 : decode kb_ModuleFile_placesHold 24 = .ok (.aload_n 0, 1) := by decide +kernel
theorem zd_ModuleFile_placesHold_25 : decode kb_ModuleFile_placesHold 25 = .ok (.getfield 40, 3) := by decide +kernel
theorem zd_ModuleFile_placesHold_28 : decode kb_ModuleFile_placesHold 28 = .ok (.iconst 1, 1) := by decide +kernel
theorem zd_ModuleFile_placesHold_29 : decode kb_ModuleFile_placesHold 29 = .ok (.isub, 1) := by decide +kernel
theorem zd_ModuleFile_placesHold_30 : decode kb_ModuleFile_placesHold 30 = .ok (.invokestatic 73, 3) := by decide +kernel
theorem zd_ModuleFile_placesHold_33 : decode kb_ModuleFile_placesHold 33 = .ok (.ifCond .eq (7), 3) := by decide +kernel
theorem zd_ModuleFile_placesHold_36 : decode kb_ModuleFile_placesHold 36 = .ok (.iconst 1, 1) := by decide +kernel
theorem zd_ModuleFile_placesHold_37 : decode kb_ModuleFile_placesHold 37 = .ok (.goto (4), 3) := by decide +kernel
theorem zd_ModuleFile_placesHold_40 : decode kb_ModuleFile_placesHold 40 = .ok (.iconst 0, 1) := by decide +kernel
theorem zd_ModuleFile_placesHold_41 : decode kb_ModuleFile_placesHold 41 = .ok (.istore_n 2, 1) := by decide +kernel
theorem zd_ModuleFile_placesHold_42 : decode kb_ModuleFile_placesHold 42 = .ok (.aload_n 0, 1) := by decide +kernel
theorem zd_ModuleFile_placesHold_43 : decode kb_ModuleFile_placesHold 43 = .ok (.iload_n 1, 1) := by decide +kernel
theorem zd_ModuleFile_placesHold_44 : decode kb_ModuleFile_placesHold 44 = .ok (.invokevirtual 102, 3) := by decide +kernel
theorem zd_ModuleFile_placesHold_47 : decode kb_ModuleFile_placesHold 47 = .ok (.iconst 5, 1) := by decide +kernel
theorem zd_ModuleFile_placesHold_48 : decode kb_ModuleFile_placesHold 48 = .ok (.invokestatic 73, 3) := by decide +kernel
theorem zd_ModuleFile_placesHold_51 : decode kb_ModuleFile_placesHold 51 = .ok (.ifCond .eq (19), 3) := by decide +kernel
theorem zd_ModuleFile_placesHold_54 : decode kb_ModuleFile_placesHold 54 = .ok (.aload_n 0, 1) := by decide +kernel
theorem zd_ModuleFile_placesHold_55 : decode kb_ModuleFile_placesHold 55 = .ok (.aload_n 0, 1) := by decide +kernel
theorem zd_ModuleFile_placesHold_56 : decode kb_ModuleFile_placesHold 56 = .ok (.iload_n 1, 1) := by decide +kernel
theorem zd_ModuleFile_placesHold_57 : decode kb_ModuleFile_placesHold 57 = .ok (.invokevirtual 107, 3) := by decide +kernel
theorem zd_ModuleFile_placesHold_60 : decode kb_ModuleFile_placesHold 60 = .ok (.invokevirtual 77, 3) := by decide +kernel
theorem zd_ModuleFile_placesHold_63 : decode kb_ModuleFile_placesHold 63 = .ok (.ifCond .eq (7), 3) := by decide +kernel
theorem zd_ModuleFile_placesHold_66 : decode kb_ModuleFile_placesHold 66 = .ok (.iload_n 2, 1) := by decide +kernel
theorem zd_ModuleFile_placesHold_67 : decode kb_ModuleFile_placesHold 67 = .ok (.ifCond .ne (5), 3) := by decide +kernel
theorem zd_ModuleFile_placesHold_70 : decode kb_ModuleFile_placesHold 70 = .ok (.iconst 0, 1) := by decide +kernel
theorem zd_ModuleFile_placesHold_71 : decode kb_ModuleFile_placesHold 71 = .ok (.ireturn, 1) := by decide +kernel
theorem zd_ModuleFile_placesHold_72 : decode kb_ModuleFile_placesHold 72 = .ok (.iinc 1 (1), 3) := by decide +kernel
theorem zd_ModuleFile_placesHold_75 : decode kb_ModuleFile_placesHold 75 = .ok (.goto (-73), 3) := by decide +kernel
theorem zd_ModuleFile_placesHold_78 : decode kb_ModuleFile_placesHold 78 = .ok (.iconst 1, 1) := by decide +kernel
theorem zd_ModuleFile_placesHold_79 : decode kb_ModuleFile_placesHold 79 = .ok (.ireturn, 1) := by decide +kernel
def zf_ModuleFile_placesHold_b70 (u : zz_S) : Option (Int32 × zz_S) := some (vp_nar .boolean (0 : Int32), u)
def zf_ModuleFile_placesHold_b41 (rec2 : zz_S → Int32 → Option (Int32 × zz_S)) (u : zz_S) (x1 : Int32) (y0 : Int32) : Option (Int32 × zz_S) := xx_b2 (zf_ModuleFile_placeKind u x1) fun v2 u1 => xx_b2 (zf_ModuleFile_isUpTo u1 v2 (5 : Int32)) fun v4 u3 => if v4 = 0 then (zf_ModuleFile_placesHold_b70 u3) else (xx_b2 (zf_ModuleFile_placeOffset u3 x1) fun v6 u5 => xx_b2 (zf_ModuleFile_isOffset u5 v6) fun v8 u7 => if v8 = 0 then (zf_ModuleFile_placesHold_b70 u7) else (if y0 = 0 then (zf_ModuleFile_placesHold_b70 u7) else (xx_nm (x1 + (1 : Int32)) fun v9 => rec2 u7 v9)))
def zf_ModuleFile_placesHold_b36 (rec2 : zz_S → Int32 → Option (Int32 × zz_S)) (u : zz_S) (x1 : Int32) : Option (Int32 × zz_S) := zf_ModuleFile_placesHold_b41 rec2 u x1 (1 : Int32)
def zf_ModuleFile_placesHold_b2 : Nat → zz_S → Int32 → Option (Int32 × zz_S)
  | 0, _, _ => none
  | n + 1, u, x1 => if (u.1 8) ≤ x1 then (some (vp_nar .boolean (1 : Int32), u)) else (xx_b2 (zf_ModuleFile_placeSource u x1) fun v2 u1 => if v2 = (-1 : Int32) then (zf_ModuleFile_placesHold_b36 (zf_ModuleFile_placesHold_b2 n) u1 x1) else (xx_b2 (zf_ModuleFile_placeSource u1 x1) fun v4 u3 => xx_b2 (zf_ModuleFile_isUpTo u3 v4 ((u3.1 6) - (1 : Int32))) fun v6 u5 => if v6 = 0 then (zf_ModuleFile_placesHold_b41 (zf_ModuleFile_placesHold_b2 n) u5 x1 (0 : Int32)) else (zf_ModuleFile_placesHold_b36 (zf_ModuleFile_placesHold_b2 n) u5 x1)))
def zf_ModuleFile_placesHold (u : zz_S) : Option (Int32 × zz_S) := xx_nm (0 : Int32) fun v1 => zf_ModuleFile_placesHold_b2 xx_fu u v1
set_option maxHeartbeats 4000000 in
set_option maxRecDepth 100000 in
theorem zw_ModuleFile_placesHold_b70 {p : Program} {l : Launch} {e : Env} {s : State} {m : MethodId} {args : Array Value} {below : List Frame} {meth : Method} {c : Code} {A : Nat → Prop} {g : xx_G} {r : Int32} {u9 : zz_S} (C : xx_C p s m args meth c kb_ModuleFile_placesHold 3 kr_ModuleFile (some .boolean)) (hA : ∀ q, s.heap.size ≤ q → A q) (hK : va_K g.1 xx_cls (zz_T g) s) : ∀ (u : zz_S) (H : Heap) (locs : List Loc) (ls : Array Slot), zf_ModuleFile_placesHold_b70 u = some (r, u9) → lv_has ls 3 [] → va_P g.1 xx_cls (zz_W g u) H → va_D A (zz_W g u) → va_S A s.heap H locs → W p l e (xx_rm 2 42) s m args below meth c H locs 0 0 (MQ below (xx_Q g.1 (zz_T g) (zz_W g) (some (.int r)) u9 A) args s 0 0 A) (F0 m 70 ls []) := by
  have hx := C.1
  have hb := C.2.1
  have hown := C.2.2.2.1
  have hts := C.2.2.2.2.1
  intro u H locs ls hF hl hP hD hS
  unfold zf_ModuleFile_placesHold_b70 at hF
  refine lv_iconst (v := (0 : Int32)) hx hb zd_ModuleFile_placesHold_70 (by decide) ?_
  exact xx_zret C hF hK hP hD hS zd_ModuleFile_placesHold_71
set_option maxHeartbeats 4000000 in
set_option maxRecDepth 100000 in
theorem zw_ModuleFile_placesHold_b41 {p : Program} {l : Launch} {e : Env} {s : State} {m : MethodId} {args : Array Value} {below : List Frame} {meth : Method} {c : Code} {A : Nat → Prop} {g : xx_G} {r : Int32} {u9 : zz_S} (C : xx_C p s m args meth c kb_ModuleFile_placesHold 3 kr_ModuleFile (some .boolean)) (hA : ∀ q, s.heap.size ≤ q → A q) (hK : va_K g.1 xx_cls (zz_T g) s) {rec2 : zz_S → Int32 → Option (Int32 × zz_S)} (hrec2 : ∀ (u : zz_S) (x1 : Int32) (H : Heap) (locs : List Loc) (ls : Array Slot), rec2 u x1 = some (r, u9) → lv_has ls 3 [(0, .ref (g.2.1 8)), (1, .int x1)] → va_P g.1 xx_cls (zz_W g u) H → va_D A (zz_W g u) → va_S A s.heap H locs → W p l e (xx_rm 2 42) s m args below meth c H locs 0 0 (MQ below (xx_Q g.1 (zz_T g) (zz_W g) (some (.int r)) u9 A) args s 0 0 A) (F0 m 2 ls [])) : ∀ (u : zz_S) (x1 : Int32) (y0 : Int32) (H : Heap) (locs : List Loc) (ls : Array Slot), zf_ModuleFile_placesHold_b41 rec2 u x1 y0 = some (r, u9) → lv_has ls 3 [(0, .ref (g.2.1 8)), (1, .int x1)] → va_P g.1 xx_cls (zz_W g u) H → va_D A (zz_W g u) → va_S A s.heap H locs → W p l e (xx_rm 2 42) s m args below meth c H locs 0 0 (MQ below (xx_Q g.1 (zz_T g) (zz_W g) (some (.int r)) u9 A) args s 0 0 A) (F0 m 41 ls [.int y0]) := by
  have hx := C.1
  have hb := C.2.1
  have hown := C.2.2.2.1
  have hts := C.2.2.2.2.1
  intro u x1 y0 H locs ls hF hl hP hD hS
  unfold zf_ModuleFile_placesHold_b41 at hF
  refine lv_istore_n hx hb zd_ModuleFile_placesHold_41 rfl hl (by decide) rfl (fun ls hl => ?_)
  refine lv_aload_n hx hb zd_ModuleFile_placesHold_42 rfl (lv_at hl 1 rfl) ?_
  refine lv_iload_n hx hb zd_ModuleFile_placesHold_43 rfl (lv_at hl 2 rfl) ?_
  obtain ⟨v2, u1, eu1, hF⟩ := xx_b2_some hF
  refine xx_callV (n := 1) (As := [.int x1]) (rest := []) C (zc_ModuleFile_placeKind l g u x1 v2 u1 eu1) ⟨kw_564, kw_561, kw_562, kw_563, kw_5⟩ ⟨by decide +kernel, by decide +kernel, by decide +kernel⟩ rfl ⟨Nat.le_of_ble_eq_true rfl, Nat.le_of_ble_eq_true rfl⟩ 8 rfl rfl hl.1 rfl (Nat.le_of_ble_eq_true rfl) hA hK hP hD hS ⟨Nat.le_refl _, Nat.le_refl _⟩ rfl rfl rfl zd_ModuleFile_placesHold_44 (fun H locs hP hD hS => ?_)
  refine lv_iconst (v := (5 : Int32)) hx hb zd_ModuleFile_placesHold_47 (by decide) ?_
  obtain ⟨v4, u3, eu3, hF⟩ := xx_b2_some hF
  refine xx_callS (n := 2) (As := [.int v2, .int (5 : Int32)]) (rest := []) C (zc_ModuleFile_isUpTo l g u1 v2 (5 : Int32) v4 u3 eu3) ⟨kw_522, kw_520, kw_521, kw_5⟩ ⟨by decide +kernel, by decide +kernel, by decide +kernel⟩ rfl ⟨Nat.le_of_ble_eq_true rfl, Nat.le_of_ble_eq_true rfl⟩ hl.1 rfl (Nat.le_of_ble_eq_true rfl) hA hK hP hD hS ⟨Nat.le_refl _, Nat.le_refl _⟩ rfl rfl rfl zd_ModuleFile_placesHold_48 (fun H locs hP hD hS => ?_)
  refine lv_if_eq (tgt := 70) hx hb zd_ModuleFile_placesHold_51 (by decide) (fun hc => ?_) (fun hc => ?_)
  · have hF := xx_ip hc hF
    exact zw_ModuleFile_placesHold_b70 C hA hK  u3 _ _ _ hF (lv_sub hl [] rfl) hP hD hS
  · have hF := xx_in' hc hF
    refine lv_aload_n hx hb zd_ModuleFile_placesHold_54 rfl (lv_at hl 1 rfl) ?_
    refine lv_aload_n hx hb zd_ModuleFile_placesHold_55 rfl (lv_at hl 1 rfl) ?_
    refine lv_iload_n hx hb zd_ModuleFile_placesHold_56 rfl (lv_at hl 2 rfl) ?_
    obtain ⟨v6, u5, eu5, hF⟩ := xx_b2_some hF
    refine xx_callV (n := 1) (As := [.int x1]) (rest := [.ref (g.2.1 8)]) C (zc_ModuleFile_placeOffset l g u3 x1 v6 u5 eu5) ⟨kw_568, kw_565, kw_566, kw_567, kw_5⟩ ⟨by decide +kernel, by decide +kernel, by decide +kernel⟩ rfl ⟨Nat.le_of_ble_eq_true rfl, Nat.le_of_ble_eq_true rfl⟩ 8 rfl rfl hl.1 rfl (Nat.le_of_ble_eq_true rfl) hA hK hP hD hS ⟨Nat.le_refl _, Nat.le_refl _⟩ rfl rfl rfl zd_ModuleFile_placesHold_57 (fun H locs hP hD hS => ?_)
    obtain ⟨v8, u7, eu7, hF⟩ := xx_b2_some hF
    refine xx_callV (n := 1) (As := [.int v6]) (rest := []) C (zc_ModuleFile_isOffset l g u5 v6 v8 u7 eu7) ⟨kw_526, kw_523, kw_525, ks_ModuleFile_isOffset, kw_5⟩ ⟨by decide +kernel, by decide +kernel, by decide +kernel⟩ rfl ⟨Nat.le_of_ble_eq_true rfl, Nat.le_of_ble_eq_true rfl⟩ 8 rfl rfl hl.1 rfl (Nat.le_of_ble_eq_true rfl) hA hK hP hD hS ⟨Nat.le_refl _, Nat.le_refl _⟩ rfl rfl rfl zd_ModuleFile_placesHold_60 (fun H locs hP hD hS => ?_)
    refine lv_if_eq (tgt := 70) hx hb zd_ModuleFile_placesHold_63 (by decide) (fun hc => ?_) (fun hc => ?_)
    · have hF := xx_ip hc hF
      exact zw_ModuleFile_placesHold_b70 C hA hK  u7 _ _ _ hF (lv_sub hl [] rfl) hP hD hS
    · have hF := xx_in' hc hF
      refine lv_iload_n hx hb zd_ModuleFile_placesHold_66 rfl (lv_at hl 0 rfl) ?_
      refine lv_if_ne (tgt := 72) hx hb zd_ModuleFile_placesHold_67 (by decide) (fun hc => ?_) (fun hc => ?_)
      · have hF := xx_in' hc hF
        obtain ⟨v9, ev9, hF⟩ := xx_nm_some hF
        refine lv_iinc (k := 2) (v := v9) hx hb zd_ModuleFile_placesHold_72 hl rfl (by rw [ev9, xx_lit1]) (by decide) rfl (fun ls hl => ?_)
        refine lv_goto (tgt := 2) hx hb zd_ModuleFile_placesHold_75 (by decide) ?_
        exact hrec2 u7 v9 _ _ _ hF (lv_sub hl [2, 0] rfl) hP hD hS
      · have hF := xx_ip hc hF
        exact zw_ModuleFile_placesHold_b70 C hA hK  u7 _ _ _ hF (lv_sub hl [] rfl) hP hD hS
set_option maxHeartbeats 4000000 in
set_option maxRecDepth 100000 in
theorem zw_ModuleFile_placesHold_b36 {p : Program} {l : Launch} {e : Env} {s : State} {m : MethodId} {args : Array Value} {below : List Frame} {meth : Method} {c : Code} {A : Nat → Prop} {g : xx_G} {r : Int32} {u9 : zz_S} (C : xx_C p s m args meth c kb_ModuleFile_placesHold 3 kr_ModuleFile (some .boolean)) (hA : ∀ q, s.heap.size ≤ q → A q) (hK : va_K g.1 xx_cls (zz_T g) s) {rec2 : zz_S → Int32 → Option (Int32 × zz_S)} (hrec2 : ∀ (u : zz_S) (x1 : Int32) (H : Heap) (locs : List Loc) (ls : Array Slot), rec2 u x1 = some (r, u9) → lv_has ls 3 [(0, .ref (g.2.1 8)), (1, .int x1)] → va_P g.1 xx_cls (zz_W g u) H → va_D A (zz_W g u) → va_S A s.heap H locs → W p l e (xx_rm 2 42) s m args below meth c H locs 0 0 (MQ below (xx_Q g.1 (zz_T g) (zz_W g) (some (.int r)) u9 A) args s 0 0 A) (F0 m 2 ls [])) : ∀ (u : zz_S) (x1 : Int32) (H : Heap) (locs : List Loc) (ls : Array Slot), zf_ModuleFile_placesHold_b36 rec2 u x1 = some (r, u9) → lv_has ls 3 [(0, .ref (g.2.1 8)), (1, .int x1)] → va_P g.1 xx_cls (zz_W g u) H → va_D A (zz_W g u) → va_S A s.heap H locs → W p l e (xx_rm 2 42) s m args below meth c H locs 0 0 (MQ below (xx_Q g.1 (zz_T g) (zz_W g) (some (.int r)) u9 A) args s 0 0 A) (F0 m 36 ls []) := by
  have hx := C.1
  have hb := C.2.1
  have hown := C.2.2.2.1
  have hts := C.2.2.2.2.1
  intro u x1 H locs ls hF hl hP hD hS
  unfold zf_ModuleFile_placesHold_b36 at hF
  refine lv_iconst (v := (1 : Int32)) hx hb zd_ModuleFile_placesHold_36 (by decide) ?_
  refine lv_goto (tgt := 41) hx hb zd_ModuleFile_placesHold_37 (by decide) ?_
  exact zw_ModuleFile_placesHold_b41 C hA hK hrec2  u x1 (1 : Int32) _ _ _ hF (lv_sub hl [0, 1] rfl) hP hD hS
set_option maxHeartbeats 4000000 in
set_option maxRecDepth 100000 in
theorem zw_ModuleFile_placesHold_b2 {p : Program} {l : Launch} {e : Env} {s : State} {m : MethodId} {args : Array Value} {below : List Frame} {meth : Method} {c : Code} {A : Nat → Prop} {g : xx_G} {r : Int32} {u9 : zz_S} (C : xx_C p s m args meth c kb_ModuleFile_placesHold 3 kr_ModuleFile (some .boolean)) (hA : ∀ q, s.heap.size ≤ q → A q) (hK : va_K g.1 xx_cls (zz_T g) s) : ∀ (n : Nat), ∀ (u : zz_S) (x1 : Int32) (H : Heap) (locs : List Loc) (ls : Array Slot), zf_ModuleFile_placesHold_b2 n u x1 = some (r, u9) → lv_has ls 3 [(0, .ref (g.2.1 8)), (1, .int x1)] → va_P g.1 xx_cls (zz_W g u) H → va_D A (zz_W g u) → va_S A s.heap H locs → W p l e (xx_rm 2 42) s m args below meth c H locs 0 0 (MQ below (xx_Q g.1 (zz_T g) (zz_W g) (some (.int r)) u9 A) args s 0 0 A) (F0 m 2 ls []) := by
  have hx := C.1
  have hb := C.2.1
  have hown := C.2.2.2.1
  have hts := C.2.2.2.2.1
  intro n
  induction n with
  | zero =>
    intro u x1 H locs ls hF
    rw [zf_ModuleFile_placesHold_b2] at hF
    cases hF
  | succ n ih =>
    intro u x1 H locs ls hF hl hP hD hS
    rw [zf_ModuleFile_placesHold_b2] at hF
    refine lv_iload_n hx hb zd_ModuleFile_placesHold_2 rfl (lv_at hl 1 rfl) ?_
    refine lv_aload_n hx hb zd_ModuleFile_placesHold_3 rfl (lv_at hl 0 rfl) ?_
    refine xx_get C ki_ModuleFile hK hP 8 rfl rfl 3 (by decide) kw_95 rfl rfl zd_ModuleFile_placesHold_4 ?_
    refine lv_icmp_ge (tgt := 78) hx hb zd_ModuleFile_placesHold_7 (by decide) (fun hc => ?_) (fun hc => ?_)
    · have hF := xx_ip hc hF
      refine lv_iconst (v := (1 : Int32)) hx hb zd_ModuleFile_placesHold_78 (by decide) ?_
      exact xx_zret C hF hK hP hD hS zd_ModuleFile_placesHold_79
    · have hF := xx_in' hc hF
      refine lv_aload_n hx hb zd_ModuleFile_placesHold_10 rfl (lv_at hl 0 rfl) ?_
      refine lv_iload_n hx hb zd_ModuleFile_placesHold_11 rfl (lv_at hl 1 rfl) ?_
      obtain ⟨v2, u1, eu1, hF⟩ := xx_b2_some hF
      refine xx_callV (n := 1) (As := [.int x1]) (rest := []) C (zc_ModuleFile_placeSource l g u x1 v2 u1 eu1) ⟨kw_560, kw_557, kw_558, kw_559, kw_5⟩ ⟨by decide +kernel, by decide +kernel, by decide +kernel⟩ rfl ⟨Nat.le_of_ble_eq_true rfl, Nat.le_of_ble_eq_true rfl⟩ 8 rfl rfl hl.1 rfl (Nat.le_of_ble_eq_true rfl) hA hK hP hD hS ⟨Nat.le_refl _, Nat.le_refl _⟩ rfl rfl rfl zd_ModuleFile_placesHold_12 (fun H locs hP hD hS => ?_)
      refine lv_iconst (v := (-1 : Int32)) hx hb zd_ModuleFile_placesHold_15 (by decide) ?_
      refine lv_icmp_eq (tgt := 36) hx hb zd_ModuleFile_placesHold_16 (by decide) (fun hc => ?_) (fun hc => ?_)
      · have hF := xx_ip hc hF
        exact zw_ModuleFile_placesHold_b36 C hA hK ih  u1 x1 _ _ _ hF (lv_sub hl [0, 1] rfl) hP hD hS
      · have hF := xx_in' hc hF
        refine lv_aload_n hx hb zd_ModuleFile_placesHold_19 rfl (lv_at hl 0 rfl) ?_
        refine lv_iload_n hx hb zd_ModuleFile_placesHold_20 rfl (lv_at hl 1 rfl) ?_
        obtain ⟨v4, u3, eu3, hF⟩ := xx_b2_some hF
        refine xx_callV (n := 1) (As := [.int x1]) (rest := []) C (zc_ModuleFile_placeSource l g u1 x1 v4 u3 eu3) ⟨kw_560, kw_557, kw_558, kw_559, kw_5⟩ ⟨by decide +kernel, by decide +kernel, by decide +kernel⟩ rfl ⟨Nat.le_of_ble_eq_true rfl, Nat.le_of_ble_eq_true rfl⟩ 8 rfl rfl hl.1 rfl (Nat.le_of_ble_eq_true rfl) hA hK hP hD hS ⟨Nat.le_refl _, Nat.le_refl _⟩ rfl rfl rfl zd_ModuleFile_placesHold_21 (fun H locs hP hD hS => ?_)
        refine lv_aload_n hx hb zd_ModuleFile_placesHold_24 rfl (lv_at hl 0 rfl) ?_
        refine xx_get C ki_ModuleFile hK hP 8 rfl rfl 1 (by decide) kw_90 rfl rfl zd_ModuleFile_placesHold_25 ?_
        refine lv_iconst (v := (1 : Int32)) hx hb zd_ModuleFile_placesHold_28 (by decide) ?_
        refine lv_isub hx hb zd_ModuleFile_placesHold_29 ?_
        obtain ⟨v6, u5, eu5, hF⟩ := xx_b2_some hF
        refine xx_callS (n := 2) (As := [.int v4, .int ((u3.1 6) - (1 : Int32))]) (rest := []) C (zc_ModuleFile_isUpTo l g u3 v4 ((u3.1 6) - (1 : Int32)) v6 u5 eu5) ⟨kw_522, kw_520, kw_521, kw_5⟩ ⟨by decide +kernel, by decide +kernel, by decide +kernel⟩ rfl ⟨Nat.le_of_ble_eq_true rfl, Nat.le_of_ble_eq_true rfl⟩ hl.1 rfl (Nat.le_of_ble_eq_true rfl) hA hK hP hD hS ⟨Nat.le_refl _, Nat.le_refl _⟩ rfl rfl rfl zd_ModuleFile_placesHold_30 (fun H locs hP hD hS => ?_)
        refine lv_if_eq (tgt := 40) hx hb zd_ModuleFile_placesHold_33 (by decide) (fun hc => ?_) (fun hc => ?_)
        · have hF := xx_ip hc hF
          refine lv_iconst (v := (0 : Int32)) hx hb zd_ModuleFile_placesHold_40 (by decide) ?_
          exact zw_ModuleFile_placesHold_b41 C hA hK ih  u5 x1 (0 : Int32) _ _ _ hF (lv_sub hl [0, 1] rfl) hP hD hS
        · have hF := xx_in' hc hF
          exact zw_ModuleFile_placesHold_b36 C hA hK ih  u5 x1 _ _ _ hF (lv_sub hl [0, 1] rfl) hP hD hS
set_option maxHeartbeats 4000000 in
set_option maxRecDepth 100000 in
theorem zc_ModuleFile_placesHold (l : Launch) (g : xx_G) (u : zz_S) (r : Int32) (u9 : zz_S) (hF : zf_ModuleFile_placesHold u = some (r, u9)) : xx_M l g.1 (zz_T g) (zz_W g) ky_ModuleFile_placesHold kb_ModuleFile_placesHold 3 (some .boolean) (xx_rm 2 42) [.ref (g.2.1 8)] u (some (.int r)) u9 := by
  refine xx_body (by decide) (Nat.le_of_ble_eq_true rfl) ?_
  intro p e s m args below meth c A ls C hin hK hl hA hP hD hS
  have hx := C.1
  have hb := C.2.1
  have hown := C.2.2.2.1
  have hts := C.2.2.2.2.1
  have hl : lv_has ls 3 [(0, .ref (g.2.1 8))] := hl
  unfold zf_ModuleFile_placesHold at hF
  refine lv_iconst (v := (0 : Int32)) hx hb zd_ModuleFile_placesHold_0 (by decide) ?_
  obtain ⟨v1, ev1, hF⟩ := xx_nm_some hF
  refine xx_topi ev1 ?_
  refine lv_istore_n hx hb zd_ModuleFile_placesHold_1 rfl hl (by decide) rfl (fun ls hl => ?_)
  exact zw_ModuleFile_placesHold_b2 C hA hK xx_fu u v1 _ _ _ hF (lv_sub hl [1, 0] rfl) hP hD hS
set_option maxRecDepth 100000 in
theorem kw_319 : Cond.code ky_ModuleTable_gapStart kb_ModuleTable_gapStart 3 (some .int) ∈ xx_tb := xx_in (List.mem_append_right _ (List.mem_of_getElem? (i := 319) (by rfl))) (by decide +kernel)
theorem kw_316 : Cond.methodLink "ModuleLoader$ModuleTable" 45 ky_ModuleTable_gapStart ∈ xx_tb := xx_in (List.mem_append_right _ (List.mem_of_getElem? (i := 316) (by decide +kernel))) (by decide +kernel)
theorem kw_318 : Cond.instanceMethod ky_ModuleTable_gapStart ∈ xx_tb := xx_in (List.mem_append_right _ (List.mem_of_getElem? (i := 318) (by decide +kernel))) (by decide +kernel)
theorem ks_ModuleTable_gapStart : Cond.selects "ModuleLoader$ModuleTable" ky_ModuleTable_gapStart ky_ModuleTable_gapStart ∈ xx_tb := xx_in (List.mem_append_left _ (by decide +kernel)) (by decide +kernel)
theorem kw_689 : Cond.fieldLink "ModuleLoader$ModuleTable" 42 "ModuleLoader$LoadedModule" "firstRow" "I" ∈ xx_tb := xx_in (List.mem_append_right _ (List.mem_of_getElem? (i := 689) (by decide +kernel))) (by decide +kernel)
theorem zd_ModuleTable_gapRows_0 : decode kb_ModuleTable_gapRows 0 = .ok (.aload_n 0, 1) := by decide +kernel
theorem zd_ModuleTable_gapRows_1 : decode kb_ModuleTable_gapRows 1 = .ok (.iload_n 1, 1) := by decide +kernel
theorem zd_ModuleTable_gapRows_2 : decode kb_ModuleTable_gapRows 2 = .ok (.iconst 1, 1) := by decide +kernel
theorem zd_ModuleTable_gapRows_3 : decode kb_ModuleTable_gapRows 3 = .ok (.iadd, 1) := by decide +kernel
theorem zd_ModuleTable_gapRows_4 : decode kb_ModuleTable_gapRows 4 = .ok (.invokevirtual 35, 3) := by decide +kernel
theorem zd_ModuleTable_gapRows_7 : decode kb_ModuleTable_gapRows 7 = .ok (.astore_n 2, 1) := by decide +kernel
theorem zd_ModuleTable_gapRows_8 : decode kb_ModuleTable_gapRows 8 = .ok (.aload_n 2, 1) := by decide +kernel
theorem zd_ModuleTable_gapRows_9 : decode kb_ModuleTable_gapRows 9 = .ok (.ifnonnull (9), 3) := by decide +kernel
theorem zd_ModuleTable_gapRows_12 : decode kb_ModuleTable_gapRows 12 = .ok (.sipush (208), 3) := by decide +kernel
theorem zd_ModuleTable_gapRows_15 : decode kb_ModuleTable_gapRows 15 = .ok (.goto (7), 3) := by decide +kernel
theorem zd_ModuleTable_gapRows_18 : decode kb_ModuleTable_gapRows 18 = .ok (.aload_n 2, 1) := by decide +kernel
theorem zd_ModuleTable_gapRows_19 : decode kb_ModuleTable_gapRows 19 = .ok (.getfield 42, 3) := by decide +kernel
theorem zd_ModuleTable_gapRows_22 : decode kb_ModuleTable_gapRows 22 = .ok (.aload_n 0, 1) := by decide +kernel
theorem zd_ModuleTable_gapRows_23 : decode kb_ModuleTable_gapRows 23 = .ok (.iload_n 1, 1) := by decide +kernel
theorem zd_ModuleTable_gapRows_24 : decode kb_ModuleTable_gapRows 24 = .ok (.invokevirtual 45, 3) := by decide +kernel
theorem zd_ModuleTable_gapRows_27 : decode kb_ModuleTable_gapRows 27 = .ok (.isub, 1) := by decide +kernel
theorem zd_ModuleTable_gapRows_28 : decode kb_ModuleTable_gapRows 28 = .ok (.ireturn, 1) := by decide +kernel
def zf_ModuleTable_gapRows_b22 (u : zz_S) (x1 : Int32) (y0 : Int32) : Option (Int32 × zz_S) := xx_b2 (zf_ModuleTable_gapStart u x1) fun v2 u1 => some ((y0 - v2), u1)
def zf_ModuleTable_gapRows (u : zz_S) (x1 : Int32) : Option (Int32 × zz_S) := xx_b2 (zf_ModuleTable_get u (x1 + (1 : Int32))) fun v2 u1 => xx_on v2 (zf_ModuleTable_gapRows_b22 u1 x1 (208 : Int32)) (fun a3 => (zz_pi u1 a3 9 6).bind fun v4 => zf_ModuleTable_gapRows_b22 u1 x1 v4)
set_option maxHeartbeats 4000000 in
set_option maxRecDepth 100000 in
theorem zw_ModuleTable_gapRows_b22 {p : Program} {l : Launch} {e : Env} {s : State} {m : MethodId} {args : Array Value} {below : List Frame} {meth : Method} {c : Code} {A : Nat → Prop} {g : xx_G} {r : Int32} {u9 : zz_S} (C : xx_C p s m args meth c kb_ModuleTable_gapRows 3 kr_ModuleTable (some .int)) (hA : ∀ q, s.heap.size ≤ q → A q) (hK : va_K g.1 xx_cls (zz_T g) s) : ∀ (u : zz_S) (x1 : Int32) (y0 : Int32) (H : Heap) (locs : List Loc) (ls : Array Slot), zf_ModuleTable_gapRows_b22 u x1 y0 = some (r, u9) → lv_has ls 3 [(0, .ref (g.2.1 11)), (1, .int x1)] → va_P g.1 xx_cls (zz_W g u) H → va_D A (zz_W g u) → va_S A s.heap H locs → W p l e (xx_rm 2 43) s m args below meth c H locs 0 0 (MQ below (xx_Q g.1 (zz_T g) (zz_W g) (some (.int r)) u9 A) args s 0 0 A) (F0 m 22 ls [.int y0]) := by
  have hx := C.1
  have hb := C.2.1
  have hown := C.2.2.2.1
  have hts := C.2.2.2.2.1
  intro u x1 y0 H locs ls hF hl hP hD hS
  unfold zf_ModuleTable_gapRows_b22 at hF
  refine lv_aload_n hx hb zd_ModuleTable_gapRows_22 rfl (lv_at hl 0 rfl) ?_
  refine lv_iload_n hx hb zd_ModuleTable_gapRows_23 rfl (lv_at hl 1 rfl) ?_
  obtain ⟨v2, u1, eu1, hF⟩ := xx_b2_some hF
  refine xx_callV (n := 1) (As := [.int x1]) (rest := [.int y0]) C (zc_ModuleTable_gapStart l g u x1 v2 u1 eu1) ⟨kw_319, kw_316, kw_318, ks_ModuleTable_gapStart, kw_7⟩ ⟨by decide +kernel, by decide +kernel, by decide +kernel⟩ rfl ⟨Nat.le_of_ble_eq_true rfl, Nat.le_of_ble_eq_true rfl⟩ 11 rfl rfl hl.1 rfl (Nat.le_of_ble_eq_true rfl) hA hK hP hD hS ⟨Nat.le_refl _, Nat.le_refl _⟩ rfl rfl rfl zd_ModuleTable_gapRows_24 (fun H locs hP hD hS => ?_)
  refine lv_isub hx hb zd_ModuleTable_gapRows_27 ?_
  exact xx_iret C hF hK hP hD hS zd_ModuleTable_gapRows_28
set_option maxHeartbeats 4000000 in
set_option maxRecDepth 100000 in
theorem zc_ModuleTable_gapRows (l : Launch) (g : xx_G) (u : zz_S) (x1 : Int32) (r : Int32) (u9 : zz_S) (hF : zf_ModuleTable_gapRows u x1 = some (r, u9)) : xx_M l g.1 (zz_T g) (zz_W g) ky_ModuleTable_gapRows kb_ModuleTable_gapRows 3 (some .int) (xx_rm 2 43) [.ref (g.2.1 11), .int x1] u (some (.int r)) u9 := by
  refine xx_body (by decide) (Nat.le_of_ble_eq_true rfl) ?_
  intro p e s m args below meth c A ls C hin hK hl hA hP hD hS
  have hx := C.1
  have hb := C.2.1
  have hown := C.2.2.2.1
  have hts := C.2.2.2.2.1
  have hl : lv_has ls 3 [(0, .ref (g.2.1 11)), (1, .int x1)] := hl
  unfold zf_ModuleTable_gapRows at hF
  refine lv_aload_n hx hb zd_ModuleTable_gapRows_0 rfl (lv_at hl 0 rfl) ?_
  refine lv_iload_n hx hb zd_ModuleTable_gapRows_1 rfl (lv_at hl 1 rfl) ?_
  refine lv_iconst (v := (1 : Int32)) hx hb zd_ModuleTable_gapRows_2 (by decide) ?_
  refine lv_iadd hx hb zd_ModuleTable_gapRows_3 ?_
  obtain ⟨v2, u1, eu1, hF⟩ := xx_b2_some hF
  refine xx_callV (n := 1) (As := [.int (x1 + (1 : Int32))]) (rest := []) C (zc_ModuleTable_get l g u (x1 + (1 : Int32)) v2 u1 eu1) ⟨kw_315, kw_312, kw_313, kw_314, kw_7⟩ ⟨by decide +kernel, by decide +kernel, by decide +kernel⟩ rfl ⟨Nat.le_of_ble_eq_true rfl, Nat.le_of_ble_eq_true rfl⟩ 11 rfl rfl hl.1 rfl (Nat.le_of_ble_eq_true rfl) hA hK hP hD hS ⟨Nat.le_refl _, Nat.le_refl _⟩ rfl rfl rfl zd_ModuleTable_gapRows_4 (fun H locs hP hD hS => ?_)
  refine xx_ast C zd_ModuleTable_gapRows_7 rfl hl (by decide) rfl (fun ls hl => ?_)
  refine xx_ald C zd_ModuleTable_gapRows_8 rfl (lv_at hl 0 rfl) ?_
  refine xx_ifnonnull (tgt := 18) C zd_ModuleTable_gapRows_9 (by decide) (fun en => ?_) (fun a3 ea3 => ?_)
  · have hF := xx_on_n en hF
    refine lv_sipush (v := (208 : Int32)) hx hb zd_ModuleTable_gapRows_12 (by decide) ?_
    refine lv_goto (tgt := 22) hx hb zd_ModuleTable_gapRows_15 (by decide) ?_
    exact zw_ModuleTable_gapRows_b22 C hA hK  u1 x1 (208 : Int32) _ _ _ hF (lv_sub hl [1, 2] rfl) hP hD hS
  · have hF := xx_on_s ea3 hF
    refine xx_ald C zd_ModuleTable_gapRows_18 rfl (lv_at hl 0 rfl) ?_
    rw [ea3]
    obtain ⟨v4, ev4, hF⟩ := xx_ob hF
    refine zz_get (a := a3) (u := u1) (ci := 9) C ki_LoadedModule hK hP rfl 6 (by decide) kw_689 rfl (zz_pi_some ev4) zd_ModuleTable_gapRows_19 ?_
    exact zw_ModuleTable_gapRows_b22 C hA hK  u1 x1 v4 _ _ _ hF (lv_sub hl [1, 2] rfl) hP hD hS
theorem kw_577 : Cond.methodLink "ModuleLoader" 235 ky_ModuleTable_isFull ∈ xx_tb := xx_in (List.mem_append_right _ (List.mem_of_getElem? (i := 577) (by decide +kernel))) (by decide +kernel)
set_option maxRecDepth 100000 in
theorem kw_584 : Cond.code ky_Loader_checkImports kb_Loader_checkImports 3 none ∈ xx_tb := xx_in (List.mem_append_right _ (List.mem_of_getElem? (i := 584) (by rfl))) (by decide +kernel)
theorem kw_581 : Cond.methodLink "ModuleLoader" 238 ky_Loader_checkImports ∈ xx_tb := xx_in (List.mem_append_right _ (List.mem_of_getElem? (i := 581) (by decide +kernel))) (by decide +kernel)
theorem kw_583 : Cond.instanceMethod ky_Loader_checkImports ∈ xx_tb := xx_in (List.mem_append_right _ (List.mem_of_getElem? (i := 583) (by decide +kernel))) (by decide +kernel)
theorem ks_Loader_checkImports : Cond.selects "ModuleLoader" ky_Loader_checkImports ky_Loader_checkImports ∈ xx_tb := xx_in (List.mem_append_left _ (by decide +kernel)) (by decide +kernel)
set_option maxRecDepth 100000 in
theorem kw_593 : Cond.code ky_Report_hasFault kb_Report_hasFault 1 (some .boolean) ∈ xx_tb := xx_in (List.mem_append_right _ (List.mem_of_getElem? (i := 593) (by rfl))) (by decide +kernel)
theorem kw_590 : Cond.methodLink "ModuleLoader" 142 ky_Report_hasFault ∈ xx_tb := xx_in (List.mem_append_right _ (List.mem_of_getElem? (i := 590) (by decide +kernel))) (by decide +kernel)
theorem kw_591 : Cond.instanceMethod ky_Report_hasFault ∈ xx_tb := xx_in (List.mem_append_right _ (List.mem_of_getElem? (i := 591) (by decide +kernel))) (by decide +kernel)
theorem kw_592 : Cond.selects "ModuleLoader$Report" ky_Report_hasFault ky_Report_hasFault ∈ xx_tb := xx_in (List.mem_append_right _ (List.mem_of_getElem? (i := 592) (by decide +kernel))) (by decide +kernel)
set_option maxRecDepth 100000 in
theorem kw_597 : Cond.code ky_Loader_checkExports kb_Loader_checkExports 2 none ∈ xx_tb := xx_in (List.mem_append_right _ (List.mem_of_getElem? (i := 597) (by rfl))) (by decide +kernel)
theorem kw_594 : Cond.methodLink "ModuleLoader" 241 ky_Loader_checkExports ∈ xx_tb := xx_in (List.mem_append_right _ (List.mem_of_getElem? (i := 594) (by decide +kernel))) (by decide +kernel)
theorem kw_596 : Cond.instanceMethod ky_Loader_checkExports ∈ xx_tb := xx_in (List.mem_append_right _ (List.mem_of_getElem? (i := 596) (by decide +kernel))) (by decide +kernel)
theorem ks_Loader_checkExports : Cond.selects "ModuleLoader" ky_Loader_checkExports ky_Loader_checkExports ∈ xx_tb := xx_in (List.mem_append_left _ (by decide +kernel)) (by decide +kernel)
theorem zd_Loader_checkNames_0 : decode kb_Loader_checkNames 0 = .ok (.aload_n 0, 1) := by decide +kernel
theorem zd_Loader_checkNames_1 : decode kb_Loader_checkNames 1 = .ok (.getfield 51, 3) := by decide +kernel
theorem zd_Loader_checkNames_4 : decode kb_Loader_checkNames 4 = .ok (.iload_n 1, 1) := by decide +kernel
theorem zd_Loader_checkNames_5 : decode kb_Loader_checkNames 5 = .ok (.invokevirtual 161, 3) := by decide +kernel
theorem zd_Loader_checkNames_8 : decode kb_Loader_checkNames 8 = .ok (.ifnonnull (13), 3) := by decide +kernel
theorem zd_Loader_checkNames_11 : decode kb_Loader_checkNames 11 = .ok (.aload_n 0, 1) := by decide +kernel
theorem zd_Loader_checkNames_12 : decode kb_Loader_checkNames 12 = .ok (.getfield 51, 3) := by decide +kernel
theorem zd_Loader_checkNames_15 : decode kb_Loader_checkNames 15 = .ok (.invokevirtual 235, 3) := by decide +kernel
theorem zd_Loader_checkNames_18 : decode kb_Loader_checkNames 18 = .ok (.ifCond .eq (13), 3) := by decide +kernel
theorem zd_Loader_checkNames_21 : decode kb_Loader_checkNames 21 = .ok (.aload_n 0, 1) := by decide +kernel
theorem zd_Loader_checkNames_22 : decode kb_Loader_checkNames 22 = .ok (.getfield 58, 3) := by decide +kernel
theorem zd_Loader_checkNames_25 : decode kb_Loader_checkNames 25 = .ok (.iconst 2, 1) := by decide +kernel
theorem zd_Loader_checkNames_26 : decode kb_Loader_checkNames 26 = .ok (.iconst (-1), 1) := by decide +kernel
theorem zd_Loader_checkNames_27 : decode kb_Loader_checkNames 27 = .ok (.invokevirtual 167, 3) := by decide +kernel
theorem zd_Loader_checkNames_30 : decode kb_Loader_checkNames 30 = .ok (.return_, 1) := by decide +kernel
theorem zd_Loader_checkNames_31 : decode kb_Loader_checkNames 31 = .ok (.aload_n 0, 1) := by decide +kernel
theorem zd_Loader_checkNames_32 : decode kb_Loader_checkNames 32 = .ok (.invokevirtual 238, 3) := by decide +kernel
theorem zd_Loader_checkNames_35 : decode kb_Loader_checkNames 35 = .ok (.aload_n 0, 1) := by decide +kernel
theorem zd_Loader_checkNames_36 : decode kb_Loader_checkNames 36 = .ok (.getfield 58, 3) := by decide +kernel
theorem zd_Loader_checkNames_39 : decode kb_Loader_checkNames 39 = .ok (.invokevirtual 142, 3) := by decide +kernel
theorem zd_Loader_checkNames_42 : decode kb_Loader_checkNames 42 = .ok (.ifCond .ne (7), 3) := by decide +kernel
theorem zd_Loader_checkNames_45 : decode kb_Loader_checkNames 45 = .ok (.aload_n 0, 1) := by decide +kernel
theorem zd_Loader_checkNames_46 : decode kb_Loader_checkNames 46 = .ok (.invokevirtual 241, 3) := by decide +kernel
theorem zd_Loader_checkNames_49 : decode kb_Loader_checkNames 49 = .ok (.return_, 1) := by decide +kernel
def zf_Loader_checkNames_b21 (u : zz_S) : Option (zz_S) := (zf_Report_blame u (2 : Int32) (-1 : Int32)).bind fun u1 => some u1
def zf_Loader_checkNames_b49 (u : zz_S) : Option (zz_S) := some u
def zf_Loader_checkNames (u : zz_S) (x1 : Int32) : Option (zz_S) := xx_b2 (zf_ModuleTable_find u x1) fun v2 u1 => xx_on v2 (xx_b2 (zf_ModuleTable_isFull u1) fun v5 u4 => if v5 = 0 then ((zf_Loader_checkImports u4).bind fun u6 => xx_b2 (zf_Report_hasFault u6) fun v8 u7 => if v8 = 0 then ((zf_Loader_checkExports u7).bind fun u9 => zf_Loader_checkNames_b49 u9) else (zf_Loader_checkNames_b49 u7)) else (zf_Loader_checkNames_b21 u4)) (fun a3 => zf_Loader_checkNames_b21 u1)
set_option maxHeartbeats 4000000 in
set_option maxRecDepth 100000 in
theorem zw_Loader_checkNames_b21 {p : Program} {l : Launch} {e : Env} {s : State} {m : MethodId} {args : Array Value} {below : List Frame} {meth : Method} {c : Code} {A : Nat → Prop} {g : xx_G} {u9 : zz_S} (C : xx_C p s m args meth c kb_Loader_checkNames 2 kr_Loader none) (hA : ∀ q, s.heap.size ≤ q → A q) (hK : va_K g.1 xx_cls (zz_T g) s) : ∀ (u : zz_S) (H : Heap) (locs : List Loc) (ls : Array Slot), zf_Loader_checkNames_b21 u = some u9 → lv_has ls 2 [(0, .ref (g.2.1 0))] → va_P g.1 xx_cls (zz_W g u) H → va_D A (zz_W g u) → va_S A s.heap H locs → W p l e (xx_rm 3 64) s m args below meth c H locs 0 0 (MQ below (xx_Q g.1 (zz_T g) (zz_W g) none u9 A) args s 0 0 A) (F0 m 21 ls []) := by
  have hx := C.1
  have hb := C.2.1
  have hown := C.2.2.2.1
  have hts := C.2.2.2.2.1
  intro u H locs ls hF hl hP hD hS
  unfold zf_Loader_checkNames_b21 at hF
  refine lv_aload_n hx hb zd_Loader_checkNames_21 rfl (lv_at hl 0 rfl) ?_
  refine xx_get C ki_Loader hK hP 0 rfl rfl 6 (by decide) kw_193 rfl rfl zd_Loader_checkNames_22 ?_
  refine lv_iconst (v := (2 : Int32)) hx hb zd_Loader_checkNames_25 (by decide) ?_
  refine lv_iconst (v := (-1 : Int32)) hx hb zd_Loader_checkNames_26 (by decide) ?_
  obtain ⟨u1, eu1, hF⟩ := xx_ob hF
  refine xx_callV (n := 2) (As := [.int (2 : Int32), .int (-1 : Int32)]) (rest := []) C (zc_Report_blame l g u (2 : Int32) (-1 : Int32) u1 eu1) ⟨kw_572, kw_569, kw_570, kw_571, kw_8⟩ ⟨by decide +kernel, by decide +kernel, by decide +kernel⟩ rfl ⟨Nat.le_of_ble_eq_true rfl, Nat.le_of_ble_eq_true rfl⟩ 13 rfl rfl hl.1 rfl (Nat.le_of_ble_eq_true rfl) hA hK hP hD hS ⟨Nat.le_refl _, Nat.le_refl _⟩ rfl rfl rfl zd_Loader_checkNames_27 (fun H locs hP hD hS => ?_)
  exact xx_vret C hF hK hP hD hS zd_Loader_checkNames_30
set_option maxHeartbeats 4000000 in
set_option maxRecDepth 100000 in
theorem zw_Loader_checkNames_b49 {p : Program} {l : Launch} {e : Env} {s : State} {m : MethodId} {args : Array Value} {below : List Frame} {meth : Method} {c : Code} {A : Nat → Prop} {g : xx_G} {u9 : zz_S} (C : xx_C p s m args meth c kb_Loader_checkNames 2 kr_Loader none) (hA : ∀ q, s.heap.size ≤ q → A q) (hK : va_K g.1 xx_cls (zz_T g) s) : ∀ (u : zz_S) (H : Heap) (locs : List Loc) (ls : Array Slot), zf_Loader_checkNames_b49 u = some u9 → lv_has ls 2 [] → va_P g.1 xx_cls (zz_W g u) H → va_D A (zz_W g u) → va_S A s.heap H locs → W p l e (xx_rm 3 64) s m args below meth c H locs 0 0 (MQ below (xx_Q g.1 (zz_T g) (zz_W g) none u9 A) args s 0 0 A) (F0 m 49 ls []) := by
  have hx := C.1
  have hb := C.2.1
  have hown := C.2.2.2.1
  have hts := C.2.2.2.2.1
  intro u H locs ls hF hl hP hD hS
  unfold zf_Loader_checkNames_b49 at hF
  exact xx_vret C hF hK hP hD hS zd_Loader_checkNames_49
set_option maxHeartbeats 4000000 in
set_option maxRecDepth 100000 in
theorem zc_Loader_checkNames (l : Launch) (g : xx_G) (u : zz_S) (x1 : Int32) (u9 : zz_S) (hF : zf_Loader_checkNames u x1 = some u9) : xx_M l g.1 (zz_T g) (zz_W g) ky_Loader_checkNames kb_Loader_checkNames 2 none (xx_rm 3 64) [.ref (g.2.1 0), .int x1] u none u9 := by
  refine xx_body (by decide) (Nat.le_of_ble_eq_true rfl) ?_
  intro p e s m args below meth c A ls C hin hK hl hA hP hD hS
  have hx := C.1
  have hb := C.2.1
  have hown := C.2.2.2.1
  have hts := C.2.2.2.2.1
  have hl : lv_has ls 2 [(0, .ref (g.2.1 0)), (1, .int x1)] := hl
  unfold zf_Loader_checkNames at hF
  refine lv_aload_n hx hb zd_Loader_checkNames_0 rfl (lv_at hl 0 rfl) ?_
  refine xx_get C ki_Loader hK hP 0 rfl rfl 5 (by decide) kw_192 rfl rfl zd_Loader_checkNames_1 ?_
  refine lv_iload_n hx hb zd_Loader_checkNames_4 rfl (lv_at hl 1 rfl) ?_
  obtain ⟨v2, u1, eu1, hF⟩ := xx_b2_some hF
  refine xx_callV (n := 1) (As := [.int x1]) (rest := []) C (zc_ModuleTable_find l g u x1 v2 u1 eu1) ⟨kw_279, kw_276, kw_277, kw_278, kw_7⟩ ⟨by decide +kernel, by decide +kernel, by decide +kernel⟩ rfl ⟨Nat.le_of_ble_eq_true rfl, Nat.le_of_ble_eq_true rfl⟩ 11 rfl rfl hl.1 rfl (Nat.le_of_ble_eq_true rfl) hA hK hP hD hS ⟨Nat.le_refl _, Nat.le_refl _⟩ rfl rfl rfl zd_Loader_checkNames_5 (fun H locs hP hD hS => ?_)
  refine xx_ifnonnull (tgt := 21) C zd_Loader_checkNames_8 (by decide) (fun en => ?_) (fun a3 ea3 => ?_)
  · have hF := xx_on_n en hF
    refine lv_aload_n hx hb zd_Loader_checkNames_11 rfl (lv_at hl 0 rfl) ?_
    refine xx_get C ki_Loader hK hP 0 rfl rfl 5 (by decide) kw_192 rfl rfl zd_Loader_checkNames_12 ?_
    obtain ⟨v5, u4, eu4, hF⟩ := xx_b2_some hF
    refine xx_callV (n := 0) (As := []) (rest := []) C (zc_ModuleTable_isFull l g u1 v5 u4 eu4) ⟨kw_580, kw_577, kw_578, kw_579, kw_7⟩ ⟨by decide +kernel, by decide +kernel, by decide +kernel⟩ rfl ⟨Nat.le_of_ble_eq_true rfl, Nat.le_of_ble_eq_true rfl⟩ 11 rfl rfl hl.1 rfl (Nat.le_of_ble_eq_true rfl) hA hK hP hD hS ⟨Nat.le_refl _, Nat.le_refl _⟩ rfl rfl rfl zd_Loader_checkNames_15 (fun H locs hP hD hS => ?_)
    refine lv_if_eq (tgt := 31) hx hb zd_Loader_checkNames_18 (by decide) (fun hc => ?_) (fun hc => ?_)
    · have hF := xx_ip hc hF
      refine lv_aload_n hx hb zd_Loader_checkNames_31 rfl (lv_at hl 0 rfl) ?_
      obtain ⟨u6, eu6, hF⟩ := xx_ob hF
      refine xx_callV (n := 0) (As := []) (rest := []) C (zc_Loader_checkImports l g u4 u6 eu6) ⟨kw_584, kw_581, kw_583, ks_Loader_checkImports, kw_1⟩ ⟨by decide +kernel, by decide +kernel, by decide +kernel⟩ rfl ⟨Nat.le_of_ble_eq_true rfl, Nat.le_of_ble_eq_true rfl⟩ 0 rfl rfl hl.1 rfl (Nat.le_of_ble_eq_true rfl) hA hK hP hD hS ⟨Nat.le_refl _, Nat.le_refl _⟩ rfl rfl rfl zd_Loader_checkNames_32 (fun H locs hP hD hS => ?_)
      refine lv_aload_n hx hb zd_Loader_checkNames_35 rfl (lv_at hl 0 rfl) ?_
      refine xx_get C ki_Loader hK hP 0 rfl rfl 6 (by decide) kw_193 rfl rfl zd_Loader_checkNames_36 ?_
      obtain ⟨v8, u7, eu7, hF⟩ := xx_b2_some hF
      refine xx_callV (n := 0) (As := []) (rest := []) C (zc_Report_hasFault l g u6 v8 u7 eu7) ⟨kw_593, kw_590, kw_591, kw_592, kw_8⟩ ⟨by decide +kernel, by decide +kernel, by decide +kernel⟩ rfl ⟨Nat.le_of_ble_eq_true rfl, Nat.le_of_ble_eq_true rfl⟩ 13 rfl rfl hl.1 rfl (Nat.le_of_ble_eq_true rfl) hA hK hP hD hS ⟨Nat.le_refl _, Nat.le_refl _⟩ rfl rfl rfl zd_Loader_checkNames_39 (fun H locs hP hD hS => ?_)
      refine lv_if_ne (tgt := 49) hx hb zd_Loader_checkNames_42 (by decide) (fun hc => ?_) (fun hc => ?_)
      · have hF := xx_in' hc hF
        exact zw_Loader_checkNames_b49 C hA hK  u7 _ _ _ hF (lv_sub hl [] rfl) hP hD hS
      · have hF := xx_ip hc hF
        refine lv_aload_n hx hb zd_Loader_checkNames_45 rfl (lv_at hl 0 rfl) ?_
        obtain ⟨u9, eu9, hF⟩ := xx_ob hF
        refine xx_callV (n := 0) (As := []) (rest := []) C (zc_Loader_checkExports l g u7 u9 eu9) ⟨kw_597, kw_594, kw_596, ks_Loader_checkExports, kw_1⟩ ⟨by decide +kernel, by decide +kernel, by decide +kernel⟩ rfl ⟨Nat.le_of_ble_eq_true rfl, Nat.le_of_ble_eq_true rfl⟩ 0 rfl rfl hl.1 rfl (Nat.le_of_ble_eq_true rfl) hA hK hP hD hS ⟨Nat.le_refl _, Nat.le_refl _⟩ rfl rfl rfl zd_Loader_checkNames_46 (fun H locs hP hD hS => ?_)
        exact zw_Loader_checkNames_b49 C hA hK  u9 _ _ _ hF (lv_sub hl [] rfl) hP hD hS
    · have hF := xx_in' hc hF
      exact zw_Loader_checkNames_b21 C hA hK  u4 _ _ _ hF (lv_sub hl [0] rfl) hP hD hS
  · have hF := xx_on_s ea3 hF
    exact zw_Loader_checkNames_b21 C hA hK  u1 _ _ _ hF (lv_sub hl [0] rfl) hP hD hS
set_option maxRecDepth 100000 in
theorem kw_618 : Cond.code ky_Loader_valueOf kb_Loader_valueOf 5 (some .int) ∈ xx_tb := xx_in (List.mem_append_right _ (List.mem_of_getElem? (i := 618) (by rfl))) (by decide +kernel)
theorem kw_615 : Cond.methodLink "ModuleLoader" 282 ky_Loader_valueOf ∈ xx_tb := xx_in (List.mem_append_right _ (List.mem_of_getElem? (i := 615) (by decide +kernel))) (by decide +kernel)
theorem kw_617 : Cond.instanceMethod ky_Loader_valueOf ∈ xx_tb := xx_in (List.mem_append_right _ (List.mem_of_getElem? (i := 617) (by decide +kernel))) (by decide +kernel)
theorem ks_Loader_valueOf : Cond.selects "ModuleLoader" ky_Loader_valueOf ky_Loader_valueOf ∈ xx_tb := xx_in (List.mem_append_left _ (by decide +kernel)) (by decide +kernel)
theorem kw_624 : Cond.methodLink "ModuleLoader" 285 ky_ModuleFile_placeOffset ∈ xx_tb := xx_in (List.mem_append_right _ (List.mem_of_getElem? (i := 624) (by decide +kernel))) (by decide +kernel)
theorem zd_Loader_distanceOf_0 : decode kb_Loader_distanceOf 0 = .ok (.aload_n 0, 1) := by decide +kernel
theorem zd_Loader_distanceOf_1 : decode kb_Loader_distanceOf 1 = .ok (.iload_n 1, 1) := by decide +kernel
theorem zd_Loader_distanceOf_2 : decode kb_Loader_distanceOf 2 = .ok (.iload_n 2, 1) := by decide +kernel
theorem zd_Loader_distanceOf_3 : decode kb_Loader_distanceOf 3 = .ok (.invokevirtual 282, 3) := by decide +kernel
theorem zd_Loader_distanceOf_6 : decode kb_Loader_distanceOf 6 = .ok (.iload_n 2, 1) := by decide +kernel
theorem zd_Loader_distanceOf_7 : decode kb_Loader_distanceOf 7 = .ok (.aload_n 0, 1) := by decide +kernel
theorem zd_Loader_distanceOf_8 : decode kb_Loader_distanceOf 8 = .ok (.getfield 37, 3) := by decide +kernel
theorem zd_Loader_distanceOf_11 : decode kb_Loader_distanceOf 11 = .ok (.iload_n 1, 1) := by decide +kernel
theorem zd_Loader_distanceOf_12 : decode kb_Loader_distanceOf 12 = .ok (.invokevirtual 285, 3) := by decide +kernel
theorem zd_Loader_distanceOf_15 : decode kb_Loader_distanceOf 15 = .ok (.iadd, 1) := by decide +kernel
theorem zd_Loader_distanceOf_16 : decode kb_Loader_distanceOf 16 = .ok (.isub, 1) := by decide +kernel
theorem zd_Loader_distanceOf_17 : decode kb_Loader_distanceOf 17 = .ok (.ireturn, 1) := by decide +kernel
def zf_Loader_distanceOf (u : zz_S) (x1 : Int32) (x2 : Int32) : Option (Int32 × zz_S) := xx_b2 (zf_Loader_valueOf u x1 x2) fun v2 u1 => xx_b2 (zf_ModuleFile_placeOffset u1 x1) fun v4 u3 => some ((v2 - (x2 + v4)), u3)
set_option maxHeartbeats 4000000 in
set_option maxRecDepth 100000 in
theorem zc_Loader_distanceOf (l : Launch) (g : xx_G) (u : zz_S) (x1 : Int32) (x2 : Int32) (r : Int32) (u9 : zz_S) (hF : zf_Loader_distanceOf u x1 x2 = some (r, u9)) : xx_M l g.1 (zz_T g) (zz_W g) ky_Loader_distanceOf kb_Loader_distanceOf 3 (some .int) (xx_rm 3 66) [.ref (g.2.1 0), .int x1, .int x2] u (some (.int r)) u9 := by
  refine xx_body (by decide) (Nat.le_of_ble_eq_true rfl) ?_
  intro p e s m args below meth c A ls C hin hK hl hA hP hD hS
  have hx := C.1
  have hb := C.2.1
  have hown := C.2.2.2.1
  have hts := C.2.2.2.2.1
  have hl : lv_has ls 3 [(0, .ref (g.2.1 0)), (1, .int x1), (2, .int x2)] := hl
  unfold zf_Loader_distanceOf at hF
  refine lv_aload_n hx hb zd_Loader_distanceOf_0 rfl (lv_at hl 0 rfl) ?_
  refine lv_iload_n hx hb zd_Loader_distanceOf_1 rfl (lv_at hl 1 rfl) ?_
  refine lv_iload_n hx hb zd_Loader_distanceOf_2 rfl (lv_at hl 2 rfl) ?_
  obtain ⟨v2, u1, eu1, hF⟩ := xx_b2_some hF
  refine xx_callV (n := 2) (As := [.int x1, .int x2]) (rest := []) C (zc_Loader_valueOf l g u x1 x2 v2 u1 eu1) ⟨kw_618, kw_615, kw_617, ks_Loader_valueOf, kw_1⟩ ⟨by decide +kernel, by decide +kernel, by decide +kernel⟩ rfl ⟨Nat.le_of_ble_eq_true rfl, Nat.le_of_ble_eq_true rfl⟩ 0 rfl rfl hl.1 rfl (Nat.le_of_ble_eq_true rfl) hA hK hP hD hS ⟨Nat.le_refl _, Nat.le_refl _⟩ rfl rfl rfl zd_Loader_distanceOf_3 (fun H locs hP hD hS => ?_)
  refine lv_iload_n hx hb zd_Loader_distanceOf_6 rfl (lv_at hl 2 rfl) ?_
  refine lv_aload_n hx hb zd_Loader_distanceOf_7 rfl (lv_at hl 0 rfl) ?_
  refine xx_get C ki_Loader hK hP 0 rfl rfl 3 (by decide) kw_190 rfl rfl zd_Loader_distanceOf_8 ?_
  refine lv_iload_n hx hb zd_Loader_distanceOf_11 rfl (lv_at hl 1 rfl) ?_
  obtain ⟨v4, u3, eu3, hF⟩ := xx_b2_some hF
  refine xx_callV (n := 1) (As := [.int x1]) (rest := [.int x2, .int v2]) C (zc_ModuleFile_placeOffset l g u1 x1 v4 u3 eu3) ⟨kw_568, kw_624, kw_566, kw_567, kw_5⟩ ⟨by decide +kernel, by decide +kernel, by decide +kernel⟩ rfl ⟨Nat.le_of_ble_eq_true rfl, Nat.le_of_ble_eq_true rfl⟩ 8 rfl rfl hl.1 rfl (Nat.le_of_ble_eq_true rfl) hA hK hP hD hS ⟨Nat.le_refl _, Nat.le_refl _⟩ rfl rfl rfl zd_Loader_distanceOf_12 (fun H locs hP hD hS => ?_)
  refine lv_iadd hx hb zd_Loader_distanceOf_15 ?_
  refine lv_isub hx hb zd_Loader_distanceOf_16 ?_
  exact xx_iret C hF hK hP hD hS zd_Loader_distanceOf_17
set_option maxRecDepth 100000 in
theorem kw_837 : Cond.code ky_Loader_takeOut kb_Loader_takeOut 2 none ∈ xx_tb := xx_in (List.mem_append_right _ (List.mem_of_getElem? (i := 837) (by rfl))) (by decide +kernel)
theorem kw_834 : Cond.methodLink "ModuleLoader" 173 ky_Loader_takeOut ∈ xx_tb := xx_in (List.mem_append_right _ (List.mem_of_getElem? (i := 834) (by decide +kernel))) (by decide +kernel)
theorem kw_836 : Cond.instanceMethod ky_Loader_takeOut ∈ xx_tb := xx_in (List.mem_append_right _ (List.mem_of_getElem? (i := 836) (by decide +kernel))) (by decide +kernel)
theorem ks_Loader_takeOut : Cond.selects "ModuleLoader" ky_Loader_takeOut ky_Loader_takeOut ∈ xx_tb := xx_in (List.mem_append_left _ (by decide +kernel)) (by decide +kernel)
theorem zd_Loader_judgeInit_0 : decode kb_Loader_judgeInit 0 = .ok (.aload_n 0, 1) := by decide +kernel
theorem zd_Loader_judgeInit_1 : decode kb_Loader_judgeInit 1 = .ok (.getfield 58, 3) := by decide +kernel
theorem zd_Loader_judgeInit_4 : decode kb_Loader_judgeInit 4 = .ok (.invokevirtual 142, 3) := by decide +kernel
theorem zd_Loader_judgeInit_7 : decode kb_Loader_judgeInit 7 = .ok (.ifCond .ne (23), 3) := by decide +kernel
theorem zd_Loader_judgeInit_10 : decode kb_Loader_judgeInit 10 = .ok (.aload_n 0, 1) := by decide +kernel
theorem zd_Loader_judgeInit_11 : decode kb_Loader_judgeInit 11 = .ok (.getfield 58, 3) := by decide +kernel
theorem zd_Loader_judgeInit_14 : decode kb_Loader_judgeInit 14 = .ok (.getfield 158, 3) := by decide +kernel
theorem zd_Loader_judgeInit_17 : decode kb_Loader_judgeInit 17 = .ok (.ifCond .eq (13), 3) := by decide +kernel
theorem zd_Loader_judgeInit_20 : decode kb_Loader_judgeInit 20 = .ok (.aload_n 0, 1) := by decide +kernel
theorem zd_Loader_judgeInit_21 : decode kb_Loader_judgeInit 21 = .ok (.getfield 58, 3) := by decide +kernel
theorem zd_Loader_judgeInit_24 : decode kb_Loader_judgeInit 24 = .ok (.bipush (10), 2) := by decide +kernel
theorem zd_Loader_judgeInit_26 : decode kb_Loader_judgeInit 26 = .ok (.iconst (-1), 1) := by decide +kernel
theorem zd_Loader_judgeInit_27 : decode kb_Loader_judgeInit 27 = .ok (.invokevirtual 167, 3) := by decide +kernel
theorem zd_Loader_judgeInit_30 : decode kb_Loader_judgeInit 30 = .ok (.aload_n 0, 1) := by decide +kernel
theorem zd_Loader_judgeInit_31 : decode kb_Loader_judgeInit 31 = .ok (.getfield 58, 3) := by decide +kernel
theorem zd_Loader_judgeInit_34 : decode kb_Loader_judgeInit 34 = .ok (.invokevirtual 142, 3) := by decide +kernel
theorem zd_Loader_judgeInit_37 : decode kb_Loader_judgeInit 37 = .ok (.ifCond .eq (8), 3) := by decide +kernel
theorem zd_Loader_judgeInit_40 : decode kb_Loader_judgeInit 40 = .ok (.aload_n 0, 1) := by decide +kernel
theorem zd_Loader_judgeInit_41 : decode kb_Loader_judgeInit 41 = .ok (.aload_n 1, 1) := by decide +kernel
theorem zd_Loader_judgeInit_42 : decode kb_Loader_judgeInit 42 = .ok (.invokevirtual 173, 3) := by decide +kernel
theorem zd_Loader_judgeInit_45 : decode kb_Loader_judgeInit 45 = .ok (.return_, 1) := by decide +kernel
def zf_Loader_judgeInit_b45 (u : zz_S) : Option (zz_S) := some u
def zf_Loader_judgeInit_b30 (u : zz_S) (x1 : Option Nat) : Option (zz_S) := xx_b2 (zf_Report_hasFault u) fun v2 u1 => if v2 = 0 then (zf_Loader_judgeInit_b45 u1) else ((zf_Loader_takeOut u1 x1).bind fun u3 => zf_Loader_judgeInit_b45 u3)
def zf_Loader_judgeInit (u : zz_S) (x1 : Option Nat) : Option (zz_S) := xx_b2 (zf_Report_hasFault u) fun v2 u1 => if v2 = 0 then (if (u1.1 21) = 0 then (zf_Loader_judgeInit_b30 u1 x1) else ((zf_Report_blame u1 (10 : Int32) (-1 : Int32)).bind fun u3 => zf_Loader_judgeInit_b30 u3 x1)) else (zf_Loader_judgeInit_b30 u1 x1)
set_option maxHeartbeats 4000000 in
set_option maxRecDepth 100000 in
theorem zw_Loader_judgeInit_b45 {p : Program} {l : Launch} {e : Env} {s : State} {m : MethodId} {args : Array Value} {below : List Frame} {meth : Method} {c : Code} {A : Nat → Prop} {g : xx_G} {u9 : zz_S} (C : xx_C p s m args meth c kb_Loader_judgeInit 2 kr_Loader none) (hA : ∀ q, s.heap.size ≤ q → A q) (hK : va_K g.1 xx_cls (zz_T g) s) : ∀ (u : zz_S) (H : Heap) (locs : List Loc) (ls : Array Slot), zf_Loader_judgeInit_b45 u = some u9 → lv_has ls 2 [] → va_P g.1 xx_cls (zz_W g u) H → va_D A (zz_W g u) → va_S A s.heap H locs → W p l e (xx_rm 3 66) s m args below meth c H locs 0 0 (MQ below (xx_Q g.1 (zz_T g) (zz_W g) none u9 A) args s 0 0 A) (F0 m 45 ls []) := by
  have hx := C.1
  have hb := C.2.1
  have hown := C.2.2.2.1
  have hts := C.2.2.2.2.1
  intro u H locs ls hF hl hP hD hS
  unfold zf_Loader_judgeInit_b45 at hF
  exact xx_vret C hF hK hP hD hS zd_Loader_judgeInit_45
set_option maxHeartbeats 4000000 in
set_option maxRecDepth 100000 in
theorem zw_Loader_judgeInit_b30 {p : Program} {l : Launch} {e : Env} {s : State} {m : MethodId} {args : Array Value} {below : List Frame} {meth : Method} {c : Code} {A : Nat → Prop} {g : xx_G} {u9 : zz_S} (C : xx_C p s m args meth c kb_Loader_judgeInit 2 kr_Loader none) (hA : ∀ q, s.heap.size ≤ q → A q) (hK : va_K g.1 xx_cls (zz_T g) s) : ∀ (u : zz_S) (x1 : Option Nat) (H : Heap) (locs : List Loc) (ls : Array Slot), zf_Loader_judgeInit_b30 u x1 = some u9 → lv_has ls 2 [(0, .ref (g.2.1 0)), (1, (va_rf x1))] → va_P g.1 xx_cls (zz_W g u) H → va_D A (zz_W g u) → va_S A s.heap H locs → W p l e (xx_rm 3 66) s m args below meth c H locs 0 0 (MQ below (xx_Q g.1 (zz_T g) (zz_W g) none u9 A) args s 0 0 A) (F0 m 30 ls []) := by
  have hx := C.1
  have hb := C.2.1
  have hown := C.2.2.2.1
  have hts := C.2.2.2.2.1
  intro u x1 H locs ls hF hl hP hD hS
  unfold zf_Loader_judgeInit_b30 at hF
  refine lv_aload_n hx hb zd_Loader_judgeInit_30 rfl (lv_at hl 0 rfl) ?_
  refine xx_get C ki_Loader hK hP 0 rfl rfl 6 (by decide) kw_193 rfl rfl zd_Loader_judgeInit_31 ?_
  obtain ⟨v2, u1, eu1, hF⟩ := xx_b2_some hF
  refine xx_callV (n := 0) (As := []) (rest := []) C (zc_Report_hasFault l g u v2 u1 eu1) ⟨kw_593, kw_590, kw_591, kw_592, kw_8⟩ ⟨by decide +kernel, by decide +kernel, by decide +kernel⟩ rfl ⟨Nat.le_of_ble_eq_true rfl, Nat.le_of_ble_eq_true rfl⟩ 13 rfl rfl hl.1 rfl (Nat.le_of_ble_eq_true rfl) hA hK hP hD hS ⟨Nat.le_refl _, Nat.le_refl _⟩ rfl rfl rfl zd_Loader_judgeInit_34 (fun H locs hP hD hS => ?_)
  refine lv_if_eq (tgt := 45) hx hb zd_Loader_judgeInit_37 (by decide) (fun hc => ?_) (fun hc => ?_)
  · have hF := xx_ip hc hF
    exact zw_Loader_judgeInit_b45 C hA hK  u1 _ _ _ hF (lv_sub hl [] rfl) hP hD hS
  · have hF := xx_in' hc hF
    refine lv_aload_n hx hb zd_Loader_judgeInit_40 rfl (lv_at hl 0 rfl) ?_
    refine xx_ald C zd_Loader_judgeInit_41 rfl (lv_at hl 1 rfl) ?_
    obtain ⟨u3, eu3, hF⟩ := xx_ob hF
    refine xx_callV (n := 1) (As := [(va_rf x1)]) (rest := []) C (zc_Loader_takeOut l g u1 x1 u3 eu3) ⟨kw_837, kw_834, kw_836, ks_Loader_takeOut, kw_1⟩ ⟨by decide +kernel, by decide +kernel, by decide +kernel⟩ rfl ⟨Nat.le_of_ble_eq_true rfl, Nat.le_of_ble_eq_true rfl⟩ 0 rfl rfl hl.1 rfl (Nat.le_of_ble_eq_true rfl) hA hK hP hD hS ⟨Nat.le_refl _, Nat.le_refl _⟩ rfl rfl rfl zd_Loader_judgeInit_42 (fun H locs hP hD hS => ?_)
    exact zw_Loader_judgeInit_b45 C hA hK  u3 _ _ _ hF (lv_sub hl [] rfl) hP hD hS
set_option maxHeartbeats 4000000 in
set_option maxRecDepth 100000 in
theorem zc_Loader_judgeInit (l : Launch) (g : xx_G) (u : zz_S) (x1 : Option Nat) (u9 : zz_S) (hF : zf_Loader_judgeInit u x1 = some u9) : xx_M l g.1 (zz_T g) (zz_W g) ky_Loader_judgeInit kb_Loader_judgeInit 2 none (xx_rm 3 66) [.ref (g.2.1 0), (va_rf x1)] u none u9 := by
  refine xx_body (by decide) (by simp [lg_sl, xx_rfc, xx_ic, xx_rc]) ?_
  intro p e s m args below meth c A ls C hin hK hl hA hP hD hS
  have hx := C.1
  have hb := C.2.1
  have hown := C.2.2.2.1
  have hts := C.2.2.2.2.1
  have hl : lv_has ls 2 [(0, .ref (g.2.1 0)), (1, (va_rf x1))] := by simpa [lv_args, xx_rfc, xx_ic, xx_rc] using hl
  unfold zf_Loader_judgeInit at hF
  refine lv_aload_n hx hb zd_Loader_judgeInit_0 rfl (lv_at hl 0 rfl) ?_
  refine xx_get C ki_Loader hK hP 0 rfl rfl 6 (by decide) kw_193 rfl rfl zd_Loader_judgeInit_1 ?_
  obtain ⟨v2, u1, eu1, hF⟩ := xx_b2_some hF
  refine xx_callV (n := 0) (As := []) (rest := []) C (zc_Report_hasFault l g u v2 u1 eu1) ⟨kw_593, kw_590, kw_591, kw_592, kw_8⟩ ⟨by decide +kernel, by decide +kernel, by decide +kernel⟩ rfl ⟨Nat.le_of_ble_eq_true rfl, Nat.le_of_ble_eq_true rfl⟩ 13 rfl rfl hl.1 rfl (Nat.le_of_ble_eq_true rfl) hA hK hP hD hS ⟨Nat.le_refl _, Nat.le_refl _⟩ rfl rfl rfl zd_Loader_judgeInit_4 (fun H locs hP hD hS => ?_)
  refine lv_if_ne (tgt := 30) hx hb zd_Loader_judgeInit_7 (by decide) (fun hc => ?_) (fun hc => ?_)
  · have hF := xx_in' hc hF
    exact zw_Loader_judgeInit_b30 C hA hK  u1 x1 _ _ _ hF (lv_sub hl [0, 1] rfl) hP hD hS
  · have hF := xx_ip hc hF
    refine lv_aload_n hx hb zd_Loader_judgeInit_10 rfl (lv_at hl 0 rfl) ?_
    refine xx_get C ki_Loader hK hP 0 rfl rfl 6 (by decide) kw_193 rfl rfl zd_Loader_judgeInit_11 ?_
    refine xx_get C ki_Report hK hP 13 rfl rfl 4 (by decide) kw_175 rfl rfl zd_Loader_judgeInit_14 ?_
    refine lv_if_eq (tgt := 30) hx hb zd_Loader_judgeInit_17 (by decide) (fun hc => ?_) (fun hc => ?_)
    · have hF := xx_ip hc hF
      exact zw_Loader_judgeInit_b30 C hA hK  u1 x1 _ _ _ hF (lv_sub hl [0, 1] rfl) hP hD hS
    · have hF := xx_in' hc hF
      refine lv_aload_n hx hb zd_Loader_judgeInit_20 rfl (lv_at hl 0 rfl) ?_
      refine xx_get C ki_Loader hK hP 0 rfl rfl 6 (by decide) kw_193 rfl rfl zd_Loader_judgeInit_21 ?_
      refine lv_bipush (v := (10 : Int32)) hx hb zd_Loader_judgeInit_24 (by decide) ?_
      refine lv_iconst (v := (-1 : Int32)) hx hb zd_Loader_judgeInit_26 (by decide) ?_
      obtain ⟨u3, eu3, hF⟩ := xx_ob hF
      refine xx_callV (n := 2) (As := [.int (10 : Int32), .int (-1 : Int32)]) (rest := []) C (zc_Report_blame l g u1 (10 : Int32) (-1 : Int32) u3 eu3) ⟨kw_572, kw_569, kw_570, kw_571, kw_8⟩ ⟨by decide +kernel, by decide +kernel, by decide +kernel⟩ rfl ⟨Nat.le_of_ble_eq_true rfl, Nat.le_of_ble_eq_true rfl⟩ 13 rfl rfl hl.1 rfl (Nat.le_of_ble_eq_true rfl) hA hK hP hD hS ⟨Nat.le_refl _, Nat.le_refl _⟩ rfl rfl rfl zd_Loader_judgeInit_27 (fun H locs hP hD hS => ?_)
      exact zw_Loader_judgeInit_b30 C hA hK  u3 x1 _ _ _ hF (lv_sub hl [0, 1] rfl) hP hD hS
set_option maxRecDepth 100000 in
theorem kw_644 : Cond.code ky_Memory_wordAt kb_Memory_wordAt 2 (some .int) ∈ xx_tb := xx_in (List.mem_append_right _ (List.mem_of_getElem? (i := 644) (by rfl))) (by decide +kernel)
theorem kw_750 : Cond.methodLink "ModuleLoader$Machine" 43 ky_Memory_wordAt ∈ xx_tb := xx_in (List.mem_append_right _ (List.mem_of_getElem? (i := 750) (by decide +kernel))) (by decide +kernel)
theorem kw_642 : Cond.instanceMethod ky_Memory_wordAt ∈ xx_tb := xx_in (List.mem_append_right _ (List.mem_of_getElem? (i := 642) (by decide +kernel))) (by decide +kernel)
theorem kw_643 : Cond.selects "ModuleLoader$Memory" ky_Memory_wordAt ky_Memory_wordAt ∈ xx_tb := xx_in (List.mem_append_right _ (List.mem_of_getElem? (i := 643) (by decide +kernel))) (by decide +kernel)
set_option maxRecDepth 100000 in
theorem kw_791 : Cond.code ky_Machine_readMemory kb_Machine_readMemory 8 (some .int) ∈ xx_tb := xx_in (List.mem_append_right _ (List.mem_of_getElem? (i := 791) (by rfl))) (by decide +kernel)
theorem kw_788 : Cond.methodLink "ModuleLoader$Machine" 60 ky_Machine_readMemory ∈ xx_tb := xx_in (List.mem_append_right _ (List.mem_of_getElem? (i := 788) (by decide +kernel))) (by decide +kernel)
theorem kw_790 : Cond.instanceMethod ky_Machine_readMemory ∈ xx_tb := xx_in (List.mem_append_right _ (List.mem_of_getElem? (i := 790) (by decide +kernel))) (by decide +kernel)
theorem ks_Machine_readMemory : Cond.selects "ModuleLoader$Machine" ky_Machine_readMemory ky_Machine_readMemory ∈ xx_tb := xx_in (List.mem_append_left _ (by decide +kernel)) (by decide +kernel)
set_option maxRecDepth 100000 in
theorem kw_818 : Cond.code ky_Machine_computeWithImmediate kb_Machine_computeWithImmediate 5 (some .int) ∈ xx_tb := xx_in (List.mem_append_right _ (List.mem_of_getElem? (i := 818) (by rfl))) (by decide +kernel)
theorem kw_815 : Cond.methodLink "ModuleLoader$Machine" 66 ky_Machine_computeWithImmediate ∈ xx_tb := xx_in (List.mem_append_right _ (List.mem_of_getElem? (i := 815) (by decide +kernel))) (by decide +kernel)
theorem kw_817 : Cond.instanceMethod ky_Machine_computeWithImmediate ∈ xx_tb := xx_in (List.mem_append_right _ (List.mem_of_getElem? (i := 817) (by decide +kernel))) (by decide +kernel)
theorem ks_Machine_computeWithImmediate : Cond.selects "ModuleLoader$Machine" ky_Machine_computeWithImmediate ky_Machine_computeWithImmediate ∈ xx_tb := xx_in (List.mem_append_left _ (by decide +kernel)) (by decide +kernel)
set_option maxRecDepth 100000 in
theorem kw_809 : Cond.code ky_Machine_writeMemory kb_Machine_writeMemory 6 (some .int) ∈ xx_tb := xx_in (List.mem_append_right _ (List.mem_of_getElem? (i := 809) (by rfl))) (by decide +kernel)
theorem kw_806 : Cond.methodLink "ModuleLoader$Machine" 63 ky_Machine_writeMemory ∈ xx_tb := xx_in (List.mem_append_right _ (List.mem_of_getElem? (i := 806) (by decide +kernel))) (by decide +kernel)
theorem kw_808 : Cond.instanceMethod ky_Machine_writeMemory ∈ xx_tb := xx_in (List.mem_append_right _ (List.mem_of_getElem? (i := 808) (by decide +kernel))) (by decide +kernel)
theorem ks_Machine_writeMemory : Cond.selects "ModuleLoader$Machine" ky_Machine_writeMemory ky_Machine_writeMemory ∈ xx_tb := xx_in (List.mem_append_left _ (by decide +kernel)) (by decide +kernel)
set_option maxRecDepth 100000 in
theorem kw_825 : Cond.code ky_Machine_computeWithRegister kb_Machine_computeWithRegister 4 (some .int) ∈ xx_tb := xx_in (List.mem_append_right _ (List.mem_of_getElem? (i := 825) (by rfl))) (by decide +kernel)
theorem kw_822 : Cond.methodLink "ModuleLoader$Machine" 69 ky_Machine_computeWithRegister ∈ xx_tb := xx_in (List.mem_append_right _ (List.mem_of_getElem? (i := 822) (by decide +kernel))) (by decide +kernel)
theorem kw_824 : Cond.instanceMethod ky_Machine_computeWithRegister ∈ xx_tb := xx_in (List.mem_append_right _ (List.mem_of_getElem? (i := 824) (by decide +kernel))) (by decide +kernel)
theorem ks_Machine_computeWithRegister : Cond.selects "ModuleLoader$Machine" ky_Machine_computeWithRegister ky_Machine_computeWithRegister ∈ xx_tb := xx_in (List.mem_append_left _ (by decide +kernel)) (by decide +kernel)
set_option maxRecDepth 100000 in
theorem kw_773 : Cond.code ky_Machine_branch kb_Machine_branch 5 (some .int) ∈ xx_tb := xx_in (List.mem_append_right _ (List.mem_of_getElem? (i := 773) (by rfl))) (by decide +kernel)
theorem kw_770 : Cond.methodLink "ModuleLoader$Machine" 57 ky_Machine_branch ∈ xx_tb := xx_in (List.mem_append_right _ (List.mem_of_getElem? (i := 770) (by decide +kernel))) (by decide +kernel)
theorem kw_772 : Cond.instanceMethod ky_Machine_branch ∈ xx_tb := xx_in (List.mem_append_right _ (List.mem_of_getElem? (i := 772) (by decide +kernel))) (by decide +kernel)
theorem ks_Machine_branch : Cond.selects "ModuleLoader$Machine" ky_Machine_branch ky_Machine_branch ∈ xx_tb := xx_in (List.mem_append_left _ (by decide +kernel)) (by decide +kernel)
set_option maxRecDepth 100000 in
theorem kw_762 : Cond.code ky_Machine_jumpToRegister kb_Machine_jumpToRegister 2 (some .int) ∈ xx_tb := xx_in (List.mem_append_right _ (List.mem_of_getElem? (i := 762) (by rfl))) (by decide +kernel)
theorem kw_759 : Cond.methodLink "ModuleLoader$Machine" 54 ky_Machine_jumpToRegister ∈ xx_tb := xx_in (List.mem_append_right _ (List.mem_of_getElem? (i := 759) (by decide +kernel))) (by decide +kernel)
theorem kw_761 : Cond.instanceMethod ky_Machine_jumpToRegister ∈ xx_tb := xx_in (List.mem_append_right _ (List.mem_of_getElem? (i := 761) (by decide +kernel))) (by decide +kernel)
theorem ks_Machine_jumpToRegister : Cond.selects "ModuleLoader$Machine" ky_Machine_jumpToRegister ky_Machine_jumpToRegister ∈ xx_tb := xx_in (List.mem_append_left _ (by decide +kernel)) (by decide +kernel)
set_option maxRecDepth 100000 in
theorem kw_757 : Cond.code ky_Machine_jumpDistance kb_Machine_jumpDistance 1 (some .int) ∈ xx_tb := xx_in (List.mem_append_right _ (List.mem_of_getElem? (i := 757) (by rfl))) (by decide +kernel)
theorem kw_755 : Cond.methodLink "ModuleLoader$Machine" 51 ky_Machine_jumpDistance ∈ xx_tb := xx_in (List.mem_append_right _ (List.mem_of_getElem? (i := 755) (by decide +kernel))) (by decide +kernel)
theorem kw_756 : Cond.static ky_Machine_jumpDistance ∈ xx_tb := xx_in (List.mem_append_right _ (List.mem_of_getElem? (i := 756) (by decide +kernel))) (by decide +kernel)
theorem zd_Machine_step_0 : decode kb_Machine_step 0 = .ok (.aload_n 0, 1) := by decide +kernel
theorem zd_Machine_step_1 : decode kb_Machine_step 1 = .ok (.getfield 25, 3) := by decide +kernel
theorem zd_Machine_step_4 : decode kb_Machine_step 4 = .ok (.iconst 3, 1) := by decide +kernel
theorem zd_Machine_step_5 : decode kb_Machine_step 5 = .ok (.iand, 1) := by decide +kernel
theorem zd_Machine_step_6 : decode kb_Machine_step 6 = .ok (.ifCond .eq (5), 3) := by decide +kernel
theorem zd_Machine_step_9 : decode kb_Machine_step 9 = .ok (.iconst 1, 1) := by decide +kernel
theorem zd_Machine_step_10 : decode kb_Machine_step 10 = .ok (.ireturn, 1) := by decide +kernel
theorem zd_Machine_step_11 : decode kb_Machine_step 11 = .ok (.aload_n 0, 1) := by decide +kernel
theorem zd_Machine_step_12 : decode kb_Machine_step 12 = .ok (.getfield 7, 3) := by decide +kernel
theorem zd_Machine_step_15 : decode kb_Machine_step 15 = .ok (.aload_n 0, 1) := by decide +kernel
theorem zd_Machine_step_16 : decode kb_Machine_step 16 = .ok (.getfield 25, 3) := by decide +kernel
theorem zd_Machine_step_19 : decode kb_Machine_step 19 = .ok (.invokevirtual 39, 3) := by decide +kernel
theorem zd_Machine_step_22 : decode kb_Machine_step 22 = .ok (.ifCond .ne (5), 3) := by decide +kernel
theorem zd_Machine_step_25 : decode kb_Machine_step 25 = .ok (.iconst 2, 1) := by decide +kernel
theorem zd_Machine_step_26 : decode kb_Machine_step 26 = .ok (.ireturn, 1) := by decide +kernel
theorem zd_Machine_step_27 : decode kb_Machine_step 27 = .ok (.aload_n 0, 1) := by decide +kernel
theorem zd_Machine_step_28 : decode kb_Machine_step 28 = .ok (.getfield 7, 3) := by decide +kernel
theorem zd_Machine_step_31 : decode kb_Machine_step 31 = .ok (.aload_n 0, 1) := by decide +kernel
theorem zd_Machine_step_32 : decode kb_Machine_step 32 = .ok (.getfield 25, 3) := by decide +kernel
theorem zd_Machine_step_35 : decode kb_Machine_step 35 = .ok (.invokevirtual 43, 3) := by decide +kernel
theorem zd_Machine_step_38 : decode kb_Machine_step 38 = .ok (.istore_n 1, 1) := by decide +kernel
theorem zd_Machine_step_39 : decode kb_Machine_step 39 = .ok (.iload_n 1, 1) := by decide +kernel
theorem zd_Machine_step_40 : decode kb_Machine_step 40 = .ok (.bipush (127), 2) := by decide +kernel
theorem zd_Machine_step_42 : decode kb_Machine_step 42 = .ok (.iand, 1) := by decide +kernel
theorem zd_Machine_step_43 : decode kb_Machine_step 43 = .ok (.lookupswitch (177) #[(3, 153), (19, 165), (23, 98), (35, 159), (51, 171), (55, 81), (99, 147), (103, 141), (111, 120)], 81) := by decide +kernel
theorem zd_Machine_step_124 : decode kb_Machine_step 124 = .ok (.aload_n 0, 1) := by decide +kernel
theorem zd_Machine_step_125 : decode kb_Machine_step 125 = .ok (.iload_n 1, 1) := by decide +kernel
theorem zd_Machine_step_126 : decode kb_Machine_step 126 = .ok (.iload_n 1, 1) := by decide +kernel
theorem zd_Machine_step_127 : decode kb_Machine_step 127 = .ok (.sipush (-4096), 3) := by decide +kernel
theorem zd_Machine_step_130 : decode kb_Machine_step 130 = .ok (.iand, 1) := by decide +kernel
theorem zd_Machine_step_131 : decode kb_Machine_step 131 = .ok (.aload_n 0, 1) := by decide +kernel
theorem zd_Machine_step_132 : decode kb_Machine_step 132 = .ok (.getfield 25, 3) := by decide +kernel
theorem zd_Machine_step_135 : decode kb_Machine_step 135 = .ok (.iconst 4, 1) := by decide +kernel
theorem zd_Machine_step_136 : decode kb_Machine_step 136 = .ok (.iadd, 1) := by decide +kernel
theorem zd_Machine_step_137 : decode kb_Machine_step 137 = .ok (.invokevirtual 47, 3) := by decide +kernel
theorem zd_Machine_step_140 : decode kb_Machine_step 140 = .ok (.ireturn, 1) := by decide +kernel
theorem zd_Machine_step_141 : decode kb_Machine_step 141 = .ok (.aload_n 0, 1) := by decide +kernel
theorem zd_Machine_step_142 : decode kb_Machine_step 142 = .ok (.iload_n 1, 1) := by decide +kernel
theorem zd_Machine_step_143 : decode kb_Machine_step 143 = .ok (.aload_n 0, 1) := by decide +kernel
theorem zd_Machine_step_144 : decode kb_Machine_step 144 = .ok (.getfield 25, 3) := by decide +kernel
theorem zd_Machine_step_147 : decode kb_Machine_step 147 = .ok (.iload_n 1, 1) := by decide +kernel
theorem zd_Machine_step_148 : decode kb_Machine_step 148 = .ok (.sipush (-4096), 3) := by decide +kernel
theorem zd_Machine_step_151 : decode kb_Machine_step 151 = .ok (.iand, 1) := by decide +kernel
theorem zd_Machine_step_152 : decode kb_Machine_step 152 = .ok (.iadd, 1) := by decide +kernel
theorem zd_Machine_step_153 : decode kb_Machine_step 153 = .ok (.aload_n 0, 1) := by decide +kernel
theorem zd_Machine_step_154 : decode kb_Machine_step 154 = .ok (.getfield 25, 3) := by decide +kernel
theorem zd_Machine_step_157 : decode kb_Machine_step 157 = .ok (.iconst 4, 1) := by decide +kernel
theorem zd_Machine_step_158 : decode kb_Machine_step 158 = .ok (.iadd, 1) := by decide +kernel
theorem zd_Machine_step_159 : decode kb_Machine_step 159 = .ok (.invokevirtual 47, 3) := by decide +kernel
theorem zd_Machine_step_162 : decode kb_Machine_step 162 = .ok (.ireturn, 1) := by decide +kernel
theorem zd_Machine_step_163 : decode kb_Machine_step 163 = .ok (.aload_n 0, 1) := by decide +kernel
theorem zd_Machine_step_164 : decode kb_Machine_step 164 = .ok (.iload_n 1, 1) := by decide +kernel
theorem zd_Machine_step_165 : decode kb_Machine_step 165 = .ok (.aload_n 0, 1) := by decide +kernel
theorem zd_Machine_step_166 : decode kb_Machine_step 166 = .ok (.getfield 25, 3) := by decide +kernel
theorem zd_Machine_step_169 : decode kb_Machine_step 169 = .ok (.iconst 4, 1) := by decide +kernel
theorem zd_Machine_step_170 : decode kb_Machine_step 170 = .ok (.iadd, 1) := by decide +kernel
theorem zd_Machine_step_171 : decode kb_Machine_step 171 = .ok (.aload_n 0, 1) := by decide +kernel
theorem zd_Machine_step_172 : decode kb_Machine_step 172 = .ok (.getfield 25, 3) := by decide +kernel
theorem zd_Machine_step_175 : decode kb_Machine_step 175 = .ok (.iload_n 1, 1) := by decide +kernel
theorem zd_Machine_step_176 : decode kb_Machine_step 176 = .ok (.invokestatic 51, 3) := by decide +kernel
theorem zd_Machine_step_179 : decode kb_Machine_step 179 = .ok (.iadd, 1) := by decide +kernel
theorem zd_Machine_step_180 : decode kb_Machine_step 180 = .ok (.invokevirtual 47, 3) := by decide +kernel
theorem zd_Machine_step_183 : decode kb_Machine_step 183 = .ok (.ireturn, 1) := by decide +kernel
theorem zd_Machine_step_184 : decode kb_Machine_step 184 = .ok (.aload_n 0, 1) := by decide +kernel
theorem zd_Machine_step_185 : decode kb_Machine_step 185 = .ok (.iload_n 1, 1) := by decide +kernel
theorem zd_Machine_step_186 : decode kb_Machine_step 186 = .ok (.invokevirtual 54, 3) := by decide +kernel
theorem zd_Machine_step_189 : decode kb_Machine_step 189 = .ok (.ireturn, 1) := by decide +kernel
theorem zd_Machine_step_190 : decode kb_Machine_step 190 = .ok (.aload_n 0, 1) := by decide +kernel
theorem zd_Machine_step_191 : decode kb_Machine_step 191 = .ok (.iload_n 1, 1) := by decide +kernel
theorem zd_Machine_step_192 : decode kb_Machine_step 192 = .ok (.invokevirtual 57, 3) := by decide +kernel
theorem zd_Machine_step_195 : decode kb_Machine_step 195 = .ok (.ireturn, 1) := by decide +kernel
theorem zd_Machine_step_196 : decode kb_Machine_step 196 = .ok (.aload_n 0, 1) := by decide +kernel
theorem zd_Machine_step_197 : decode kb_Machine_step 197 = .ok (.iload_n 1, 1) := by decide +kernel
theorem zd_Machine_step_198 : decode kb_Machine_step 198 = .ok (.invokevirtual 60, 3) := by decide +kernel
theorem zd_Machine_step_201 : decode kb_Machine_step 201 = .ok (.ireturn, 1) := by decide +kernel
theorem zd_Machine_step_202 : decode kb_Machine_step 202 = .ok (.aload_n 0, 1) := by decide +kernel
theorem zd_Machine_step_203 : decode kb_Machine_step 203 = .ok (.iload_n 1, 1) := by decide +kernel
theorem zd_Machine_step_204 : decode kb_Machine_step 204 = .ok (.invokevirtual 63, 3) := by decide +kernel
theorem zd_Machine_step_207 : decode kb_Machine_step 207 = .ok (.ireturn, 1) := by decide +kernel
theorem zd_Machine_step_208 : decode kb_Machine_step 208 = .ok (.aload_n 0, 1) := by decide +kernel
theorem zd_Machine_step_209 : decode kb_Machine_step 209 = .ok (.iload_n 1, 1) := by decide +kernel
theorem zd_Machine_step_210 : decode kb_Machine_step 210 = .ok (.invokevirtual 66, 3) := by decide +kernel
theorem zd_Machine_step_213 : decode kb_Machine_step 213 = .ok (.ireturn, 1) := by decide +kernel
theorem zd_Machine_step_214 : decode kb_Machine_step 214 = .ok (.aload_n 0, 1) := by decide +kernel
theorem zd_Machine_step_215 : decode kb_Machine_step 215 = .ok (.iload_n 1, 1) := by decide +kernel
theorem zd_Machine_step_216 : decode kb_Machine_step 216 = .ok (.invokevirtual 69, 3) := by decide +kernel
theorem zd_Machine_step_219 : decode kb_Machine_step 219 = .ok (.ireturn, 1) := by decide +kernel
theorem zd_Machine_step_220 : decode kb_Machine_step 220 = .ok (.iconst 3, 1) := by decide +kernel
theorem zd_Machine_step_221 : decode kb_Machine_step 221 = .ok (.ireturn, 1) := by decide +kernel
def zf_Machine_step (u : zz_S) : Option (Int32 × zz_S) := if ((u.1 3) &&& (3 : Int32)) = 0 then (xx_b2 (zf_Memory_holds u (u.1 3)) fun v2 u1 => if v2 = 0 then (some ((2 : Int32), u1)) else (xx_b2 (zf_Memory_wordAt u1 (u1.1 3)) fun v4 u3 => xx_nm (v4 &&& (127 : Int32)) fun v5 => if v5 = 3 then (xx_b2 (zf_Machine_readMemory u3 v4) fun v7 u6 => some (v7, u6)) else (if v5 = 19 then (xx_b2 (zf_Machine_computeWithImmediate u3 v4) fun v9 u8 => some (v9, u8)) else (if v5 = 23 then (xx_b2 (zf_Machine_finish u3 v4 ((u3.1 3) + (v4 &&& (-4096 : Int32))) ((u3.1 3) + (4 : Int32))) fun v11 u10 => some (v11, u10)) else (if v5 = 35 then (xx_b2 (zf_Machine_writeMemory u3 v4) fun v13 u12 => some (v13, u12)) else (if v5 = 51 then (xx_b2 (zf_Machine_computeWithRegister u3 v4) fun v15 u14 => some (v15, u14)) else (if v5 = 55 then (xx_b2 (zf_Machine_finish u3 v4 (v4 &&& (-4096 : Int32)) ((u3.1 3) + (4 : Int32))) fun v17 u16 => some (v17, u16)) else (if v5 = 99 then (xx_b2 (zf_Machine_branch u3 v4) fun v19 u18 => some (v19, u18)) else (if v5 = 103 then (xx_b2 (zf_Machine_jumpToRegister u3 v4) fun v21 u20 => some (v21, u20)) else (if v5 = 111 then (xx_b2 (zf_Machine_jumpDistance u3 v4) fun v23 u22 => xx_b2 (zf_Machine_finish u22 v4 ((u3.1 3) + (4 : Int32)) ((u3.1 3) + v23)) fun v25 u24 => some (v25, u24)) else (some ((3 : Int32), u3)))))))))))) else (some ((1 : Int32), u))
set_option maxHeartbeats 4000000 in
set_option maxRecDepth 100000 in
theorem zc_Machine_step (l : Launch) (g : xx_G) (u : zz_S) (r : Int32) (u9 : zz_S) (hF : zf_Machine_step u = some (r, u9)) : xx_M l g.1 (zz_T g) (zz_W g) ky_Machine_step kb_Machine_step 2 (some .int) (xx_rm 3 71) [.ref (g.2.1 4)] u (some (.int r)) u9 := by
  refine xx_body (by decide) (Nat.le_of_ble_eq_true rfl) ?_
  intro p e s m args below meth c A ls C hin hK hl hA hP hD hS
  have hx := C.1
  have hb := C.2.1
  have hown := C.2.2.2.1
  have hts := C.2.2.2.2.1
  have hl : lv_has ls 2 [(0, .ref (g.2.1 4))] := hl
  unfold zf_Machine_step at hF
  refine lv_aload_n hx hb zd_Machine_step_0 rfl (lv_at hl 0 rfl) ?_
  refine xx_get C ki_Machine hK hP 4 rfl rfl 4 (by decide) kw_56 rfl rfl zd_Machine_step_1 ?_
  refine lv_iconst (v := (3 : Int32)) hx hb zd_Machine_step_4 (by decide) ?_
  refine lv_iand hx hb zd_Machine_step_5 ?_
  refine lv_if_eq (tgt := 11) hx hb zd_Machine_step_6 (by decide) (fun hc => ?_) (fun hc => ?_)
  · have hF := xx_ip hc hF
    refine lv_aload_n hx hb zd_Machine_step_11 rfl (lv_at hl 0 rfl) ?_
    refine xx_get C ki_Machine hK hP 4 rfl rfl 2 (by decide) kw_54 rfl rfl zd_Machine_step_12 ?_
    refine lv_aload_n hx hb zd_Machine_step_15 rfl (lv_at hl 0 rfl) ?_
    refine xx_get C ki_Machine hK hP 4 rfl rfl 4 (by decide) kw_56 rfl rfl zd_Machine_step_16 ?_
    obtain ⟨v2, u1, eu1, hF⟩ := xx_b2_some hF
    refine xx_callV (n := 1) (As := [.int (u.1 3)]) (rest := []) C (zc_Memory_holds l g u (u.1 3) v2 u1 eu1) ⟨kw_223, kw_749, kw_221, kw_222, kw_2⟩ ⟨by decide +kernel, by decide +kernel, by decide +kernel⟩ rfl ⟨Nat.le_of_ble_eq_true rfl, Nat.le_of_ble_eq_true rfl⟩ 1 rfl rfl hl.1 rfl (Nat.le_of_ble_eq_true rfl) hA hK hP hD hS ⟨Nat.le_refl _, Nat.le_refl _⟩ rfl rfl rfl zd_Machine_step_19 (fun H locs hP hD hS => ?_)
    refine lv_if_ne (tgt := 27) hx hb zd_Machine_step_22 (by decide) (fun hc => ?_) (fun hc => ?_)
    · have hF := xx_in' hc hF
      refine lv_aload_n hx hb zd_Machine_step_27 rfl (lv_at hl 0 rfl) ?_
      refine xx_get C ki_Machine hK hP 4 rfl rfl 2 (by decide) kw_54 rfl rfl zd_Machine_step_28 ?_
      refine lv_aload_n hx hb zd_Machine_step_31 rfl (lv_at hl 0 rfl) ?_
      refine xx_get C ki_Machine hK hP 4 rfl rfl 4 (by decide) kw_56 rfl rfl zd_Machine_step_32 ?_
      obtain ⟨v4, u3, eu3, hF⟩ := xx_b2_some hF
      refine xx_callV (n := 1) (As := [.int (u1.1 3)]) (rest := []) C (zc_Memory_wordAt l g u1 (u1.1 3) v4 u3 eu3) ⟨kw_644, kw_750, kw_642, kw_643, kw_2⟩ ⟨by decide +kernel, by decide +kernel, by decide +kernel⟩ rfl ⟨Nat.le_of_ble_eq_true rfl, Nat.le_of_ble_eq_true rfl⟩ 1 rfl rfl hl.1 rfl (Nat.le_of_ble_eq_true rfl) hA hK hP hD hS ⟨Nat.le_refl _, Nat.le_refl _⟩ rfl rfl rfl zd_Machine_step_35 (fun H locs hP hD hS => ?_)
      refine lv_istore_n hx hb zd_Machine_step_38 rfl hl (by decide) rfl (fun ls hl => ?_)
      refine lv_iload_n hx hb zd_Machine_step_39 rfl (lv_at hl 0 rfl) ?_
      refine lv_bipush (v := (127 : Int32)) hx hb zd_Machine_step_40 (by decide) ?_
      refine lv_iand hx hb zd_Machine_step_42 ?_
      obtain ⟨v5, ev5, hF⟩ := xx_nm_some hF
      refine xx_topi ev5 ?_
      by_cases hs0 : v5 = (3 : Int32)
      · have hF := xx_ip hs0 hF
        refine lv_lookup (off := 153) (tgt := 196) hx hb zd_Machine_step_43 (by decide) (by rw [hs0]; decide) (by decide) ?_
        refine lv_aload_n hx hb zd_Machine_step_196 rfl (lv_at hl 1 rfl) ?_
        refine lv_iload_n hx hb zd_Machine_step_197 rfl (lv_at hl 0 rfl) ?_
        obtain ⟨v7, u6, eu6, hF⟩ := xx_b2_some hF
        refine xx_callV (n := 1) (As := [.int v4]) (rest := []) C (zc_Machine_readMemory l g u3 v4 v7 u6 eu6) ⟨kw_791, kw_788, kw_790, ks_Machine_readMemory, kw_3⟩ ⟨by decide +kernel, by decide +kernel, by decide +kernel⟩ rfl ⟨Nat.le_of_ble_eq_true rfl, Nat.le_of_ble_eq_true rfl⟩ 4 rfl rfl hl.1 rfl (Nat.le_of_ble_eq_true rfl) hA hK hP hD hS ⟨Nat.le_refl _, Nat.le_refl _⟩ rfl rfl rfl zd_Machine_step_198 (fun H locs hP hD hS => ?_)
        exact xx_iret C hF hK hP hD hS zd_Machine_step_201
      · have hF := xx_in' hs0 hF
        by_cases hs1 : v5 = (19 : Int32)
        · have hF := xx_ip hs1 hF
          refine lv_lookup (off := 165) (tgt := 208) hx hb zd_Machine_step_43 (by decide) (by rw [hs1]; decide) (by decide) ?_
          refine lv_aload_n hx hb zd_Machine_step_208 rfl (lv_at hl 1 rfl) ?_
          refine lv_iload_n hx hb zd_Machine_step_209 rfl (lv_at hl 0 rfl) ?_
          obtain ⟨v9, u8, eu8, hF⟩ := xx_b2_some hF
          refine xx_callV (n := 1) (As := [.int v4]) (rest := []) C (zc_Machine_computeWithImmediate l g u3 v4 v9 u8 eu8) ⟨kw_818, kw_815, kw_817, ks_Machine_computeWithImmediate, kw_3⟩ ⟨by decide +kernel, by decide +kernel, by decide +kernel⟩ rfl ⟨Nat.le_of_ble_eq_true rfl, Nat.le_of_ble_eq_true rfl⟩ 4 rfl rfl hl.1 rfl (Nat.le_of_ble_eq_true rfl) hA hK hP hD hS ⟨Nat.le_refl _, Nat.le_refl _⟩ rfl rfl rfl zd_Machine_step_210 (fun H locs hP hD hS => ?_)
          exact xx_iret C hF hK hP hD hS zd_Machine_step_213
        · have hF := xx_in' hs1 hF
          by_cases hs2 : v5 = (23 : Int32)
          · have hF := xx_ip hs2 hF
            refine lv_lookup (off := 98) (tgt := 141) hx hb zd_Machine_step_43 (by decide) (by rw [hs2]; decide) (by decide) ?_
            refine lv_aload_n hx hb zd_Machine_step_141 rfl (lv_at hl 1 rfl) ?_
            refine lv_iload_n hx hb zd_Machine_step_142 rfl (lv_at hl 0 rfl) ?_
            refine lv_aload_n hx hb zd_Machine_step_143 rfl (lv_at hl 1 rfl) ?_
            refine xx_get C ki_Machine hK hP 4 rfl rfl 4 (by decide) kw_56 rfl rfl zd_Machine_step_144 ?_
            refine lv_iload_n hx hb zd_Machine_step_147 rfl (lv_at hl 0 rfl) ?_
            refine lv_sipush (v := (-4096 : Int32)) hx hb zd_Machine_step_148 (by decide) ?_
            refine lv_iand hx hb zd_Machine_step_151 ?_
            refine lv_iadd hx hb zd_Machine_step_152 ?_
            refine lv_aload_n hx hb zd_Machine_step_153 rfl (lv_at hl 1 rfl) ?_
            refine xx_get C ki_Machine hK hP 4 rfl rfl 4 (by decide) kw_56 rfl rfl zd_Machine_step_154 ?_
            refine lv_iconst (v := (4 : Int32)) hx hb zd_Machine_step_157 (by decide) ?_
            refine lv_iadd hx hb zd_Machine_step_158 ?_
            obtain ⟨v11, u10, eu10, hF⟩ := xx_b2_some hF
            refine xx_callV (n := 3) (As := [.int v4, .int ((u3.1 3) + (v4 &&& (-4096 : Int32))), .int ((u3.1 3) + (4 : Int32))]) (rest := []) C (zc_Machine_finish l g u3 v4 ((u3.1 3) + (v4 &&& (-4096 : Int32))) ((u3.1 3) + (4 : Int32)) v11 u10 eu10) ⟨kw_754, kw_751, kw_753, ks_Machine_finish, kw_3⟩ ⟨by decide +kernel, by decide +kernel, by decide +kernel⟩ rfl ⟨Nat.le_of_ble_eq_true rfl, Nat.le_of_ble_eq_true rfl⟩ 4 rfl rfl hl.1 rfl (Nat.le_of_ble_eq_true rfl) hA hK hP hD hS ⟨Nat.le_refl _, Nat.le_refl _⟩ rfl rfl rfl zd_Machine_step_159 (fun H locs hP hD hS => ?_)
            exact xx_iret C hF hK hP hD hS zd_Machine_step_162
          · have hF := xx_in' hs2 hF
            by_cases hs3 : v5 = (35 : Int32)
            · have hF := xx_ip hs3 hF
              refine lv_lookup (off := 159) (tgt := 202) hx hb zd_Machine_step_43 (by decide) (by rw [hs3]; decide) (by decide) ?_
              refine lv_aload_n hx hb zd_Machine_step_202 rfl (lv_at hl 1 rfl) ?_
              refine lv_iload_n hx hb zd_Machine_step_203 rfl (lv_at hl 0 rfl) ?_
              obtain ⟨v13, u12, eu12, hF⟩ := xx_b2_some hF
              refine xx_callV (n := 1) (As := [.int v4]) (rest := []) C (zc_Machine_writeMemory l g u3 v4 v13 u12 eu12) ⟨kw_809, kw_806, kw_808, ks_Machine_writeMemory, kw_3⟩ ⟨by decide +kernel, by decide +kernel, by decide +kernel⟩ rfl ⟨Nat.le_of_ble_eq_true rfl, Nat.le_of_ble_eq_true rfl⟩ 4 rfl rfl hl.1 rfl (Nat.le_of_ble_eq_true rfl) hA hK hP hD hS ⟨Nat.le_refl _, Nat.le_refl _⟩ rfl rfl rfl zd_Machine_step_204 (fun H locs hP hD hS => ?_)
              exact xx_iret C hF hK hP hD hS zd_Machine_step_207
            · have hF := xx_in' hs3 hF
              by_cases hs4 : v5 = (51 : Int32)
              · have hF := xx_ip hs4 hF
                refine lv_lookup (off := 171) (tgt := 214) hx hb zd_Machine_step_43 (by decide) (by rw [hs4]; decide) (by decide) ?_
                refine lv_aload_n hx hb zd_Machine_step_214 rfl (lv_at hl 1 rfl) ?_
                refine lv_iload_n hx hb zd_Machine_step_215 rfl (lv_at hl 0 rfl) ?_
                obtain ⟨v15, u14, eu14, hF⟩ := xx_b2_some hF
                refine xx_callV (n := 1) (As := [.int v4]) (rest := []) C (zc_Machine_computeWithRegister l g u3 v4 v15 u14 eu14) ⟨kw_825, kw_822, kw_824, ks_Machine_computeWithRegister, kw_3⟩ ⟨by decide +kernel, by decide +kernel, by decide +kernel⟩ rfl ⟨Nat.le_of_ble_eq_true rfl, Nat.le_of_ble_eq_true rfl⟩ 4 rfl rfl hl.1 rfl (Nat.le_of_ble_eq_true rfl) hA hK hP hD hS ⟨Nat.le_refl _, Nat.le_refl _⟩ rfl rfl rfl zd_Machine_step_216 (fun H locs hP hD hS => ?_)
                exact xx_iret C hF hK hP hD hS zd_Machine_step_219
              · have hF := xx_in' hs4 hF
                by_cases hs5 : v5 = (55 : Int32)
                · have hF := xx_ip hs5 hF
                  refine lv_lookup (off := 81) (tgt := 124) hx hb zd_Machine_step_43 (by decide) (by rw [hs5]; decide) (by decide) ?_
                  refine lv_aload_n hx hb zd_Machine_step_124 rfl (lv_at hl 1 rfl) ?_
                  refine lv_iload_n hx hb zd_Machine_step_125 rfl (lv_at hl 0 rfl) ?_
                  refine lv_iload_n hx hb zd_Machine_step_126 rfl (lv_at hl 0 rfl) ?_
                  refine lv_sipush (v := (-4096 : Int32)) hx hb zd_Machine_step_127 (by decide) ?_
                  refine lv_iand hx hb zd_Machine_step_130 ?_
                  refine lv_aload_n hx hb zd_Machine_step_131 rfl (lv_at hl 1 rfl) ?_
                  refine xx_get C ki_Machine hK hP 4 rfl rfl 4 (by decide) kw_56 rfl rfl zd_Machine_step_132 ?_
                  refine lv_iconst (v := (4 : Int32)) hx hb zd_Machine_step_135 (by decide) ?_
                  refine lv_iadd hx hb zd_Machine_step_136 ?_
                  obtain ⟨v17, u16, eu16, hF⟩ := xx_b2_some hF
                  refine xx_callV (n := 3) (As := [.int v4, .int (v4 &&& (-4096 : Int32)), .int ((u3.1 3) + (4 : Int32))]) (rest := []) C (zc_Machine_finish l g u3 v4 (v4 &&& (-4096 : Int32)) ((u3.1 3) + (4 : Int32)) v17 u16 eu16) ⟨kw_754, kw_751, kw_753, ks_Machine_finish, kw_3⟩ ⟨by decide +kernel, by decide +kernel, by decide +kernel⟩ rfl ⟨Nat.le_of_ble_eq_true rfl, Nat.le_of_ble_eq_true rfl⟩ 4 rfl rfl hl.1 rfl (Nat.le_of_ble_eq_true rfl) hA hK hP hD hS ⟨Nat.le_refl _, Nat.le_refl _⟩ rfl rfl rfl zd_Machine_step_137 (fun H locs hP hD hS => ?_)
                  exact xx_iret C hF hK hP hD hS zd_Machine_step_140
                · have hF := xx_in' hs5 hF
                  by_cases hs6 : v5 = (99 : Int32)
                  · have hF := xx_ip hs6 hF
                    refine lv_lookup (off := 147) (tgt := 190) hx hb zd_Machine_step_43 (by decide) (by rw [hs6]; decide) (by decide) ?_
                    refine lv_aload_n hx hb zd_Machine_step_190 rfl (lv_at hl 1 rfl) ?_
                    refine lv_iload_n hx hb zd_Machine_step_191 rfl (lv_at hl 0 rfl) ?_
                    obtain ⟨v19, u18, eu18, hF⟩ := xx_b2_some hF
                    refine xx_callV (n := 1) (As := [.int v4]) (rest := []) C (zc_Machine_branch l g u3 v4 v19 u18 eu18) ⟨kw_773, kw_770, kw_772, ks_Machine_branch, kw_3⟩ ⟨by decide +kernel, by decide +kernel, by decide +kernel⟩ rfl ⟨Nat.le_of_ble_eq_true rfl, Nat.le_of_ble_eq_true rfl⟩ 4 rfl rfl hl.1 rfl (Nat.le_of_ble_eq_true rfl) hA hK hP hD hS ⟨Nat.le_refl _, Nat.le_refl _⟩ rfl rfl rfl zd_Machine_step_192 (fun H locs hP hD hS => ?_)
                    exact xx_iret C hF hK hP hD hS zd_Machine_step_195
                  · have hF := xx_in' hs6 hF
                    by_cases hs7 : v5 = (103 : Int32)
                    · have hF := xx_ip hs7 hF
                      refine lv_lookup (off := 141) (tgt := 184) hx hb zd_Machine_step_43 (by decide) (by rw [hs7]; decide) (by decide) ?_
                      refine lv_aload_n hx hb zd_Machine_step_184 rfl (lv_at hl 1 rfl) ?_
                      refine lv_iload_n hx hb zd_Machine_step_185 rfl (lv_at hl 0 rfl) ?_
                      obtain ⟨v21, u20, eu20, hF⟩ := xx_b2_some hF
                      refine xx_callV (n := 1) (As := [.int v4]) (rest := []) C (zc_Machine_jumpToRegister l g u3 v4 v21 u20 eu20) ⟨kw_762, kw_759, kw_761, ks_Machine_jumpToRegister, kw_3⟩ ⟨by decide +kernel, by decide +kernel, by decide +kernel⟩ rfl ⟨Nat.le_of_ble_eq_true rfl, Nat.le_of_ble_eq_true rfl⟩ 4 rfl rfl hl.1 rfl (Nat.le_of_ble_eq_true rfl) hA hK hP hD hS ⟨Nat.le_refl _, Nat.le_refl _⟩ rfl rfl rfl zd_Machine_step_186 (fun H locs hP hD hS => ?_)
                      exact xx_iret C hF hK hP hD hS zd_Machine_step_189
                    · have hF := xx_in' hs7 hF
                      by_cases hs8 : v5 = (111 : Int32)
                      · have hF := xx_ip hs8 hF
                        refine lv_lookup (off := 120) (tgt := 163) hx hb zd_Machine_step_43 (by decide) (by rw [hs8]; decide) (by decide) ?_
                        refine lv_aload_n hx hb zd_Machine_step_163 rfl (lv_at hl 1 rfl) ?_
                        refine lv_iload_n hx hb zd_Machine_step_164 rfl (lv_at hl 0 rfl) ?_
                        refine lv_aload_n hx hb zd_Machine_step_165 rfl (lv_at hl 1 rfl) ?_
                        refine xx_get C ki_Machine hK hP 4 rfl rfl 4 (by decide) kw_56 rfl rfl zd_Machine_step_166 ?_
                        refine lv_iconst (v := (4 : Int32)) hx hb zd_Machine_step_169 (by decide) ?_
                        refine lv_iadd hx hb zd_Machine_step_170 ?_
                        refine lv_aload_n hx hb zd_Machine_step_171 rfl (lv_at hl 1 rfl) ?_
                        refine xx_get C ki_Machine hK hP 4 rfl rfl 4 (by decide) kw_56 rfl rfl zd_Machine_step_172 ?_
                        refine lv_iload_n hx hb zd_Machine_step_175 rfl (lv_at hl 0 rfl) ?_
                        obtain ⟨v23, u22, eu22, hF⟩ := xx_b2_some hF
                        refine xx_callS (n := 1) (As := [.int v4]) (rest := [.int (u3.1 3), .int ((u3.1 3) + (4 : Int32)), .int v4, .ref (g.2.1 4)]) C (zc_Machine_jumpDistance l g u3 v4 v23 u22 eu22) ⟨kw_757, kw_755, kw_756, kw_3⟩ ⟨by decide +kernel, by decide +kernel, by decide +kernel⟩ rfl ⟨Nat.le_of_ble_eq_true rfl, Nat.le_of_ble_eq_true rfl⟩ hl.1 rfl (Nat.le_of_ble_eq_true rfl) hA hK hP hD hS ⟨Nat.le_refl _, Nat.le_refl _⟩ rfl rfl rfl zd_Machine_step_176 (fun H locs hP hD hS => ?_)
                        refine lv_iadd hx hb zd_Machine_step_179 ?_
                        obtain ⟨v25, u24, eu24, hF⟩ := xx_b2_some hF
                        refine xx_callV (n := 3) (As := [.int v4, .int ((u3.1 3) + (4 : Int32)), .int ((u3.1 3) + v23)]) (rest := []) C (zc_Machine_finish l g u22 v4 ((u3.1 3) + (4 : Int32)) ((u3.1 3) + v23) v25 u24 eu24) ⟨kw_754, kw_751, kw_753, ks_Machine_finish, kw_3⟩ ⟨by decide +kernel, by decide +kernel, by decide +kernel⟩ rfl ⟨Nat.le_of_ble_eq_true rfl, Nat.le_of_ble_eq_true rfl⟩ 4 rfl rfl hl.1 rfl (Nat.le_of_ble_eq_true rfl) hA hK hP hD hS ⟨Nat.le_refl _, Nat.le_refl _⟩ rfl rfl rfl zd_Machine_step_180 (fun H locs hP hD hS => ?_)
                        exact xx_iret C hF hK hP hD hS zd_Machine_step_183
                      · have hF := xx_in' hs8 hF
                        refine lv_lookup (off := 177) (tgt := 220) hx hb zd_Machine_step_43 (by decide) (by show Op.lookupswitch.offset [(3, 153), (19, 165), (23, 98), (35, 159), (51, 171), (55, 81), (99, 147), (103, 141), (111, 120)] (177) _ = _; rw [lv_osw hs0 (by decide), lv_osw hs1 (by decide), lv_osw hs2 (by decide), lv_osw hs3 (by decide), lv_osw hs4 (by decide), lv_osw hs5 (by decide), lv_osw hs6 (by decide), lv_osw hs7 (by decide), lv_osw hs8 (by decide)]; rfl) (by decide) ?_
                        refine lv_iconst (v := (3 : Int32)) hx hb zd_Machine_step_220 (by decide) ?_
                        exact xx_iret C hF hK hP hD hS zd_Machine_step_221
    · have hF := xx_ip hc hF
      refine lv_iconst (v := (2 : Int32)) hx hb zd_Machine_step_25 (by decide) ?_
      exact xx_iret C hF hK hP hD hS zd_Machine_step_26
  · have hF := xx_in' hc hF
    refine lv_iconst (v := (1 : Int32)) hx hb zd_Machine_step_9 (by decide) ?_
    exact xx_iret C hF hK hP hD hS zd_Machine_step_10
