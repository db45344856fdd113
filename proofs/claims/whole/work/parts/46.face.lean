theorem kw_341 : Cond.methodLink "ModuleLoader" 66 ky_Loader_isWordBelow ∈ xx_tb := xx_in (List.mem_append_right _ (List.mem_of_getElem? (i := 341) (by decide +kernel))) (by decide +kernel)
theorem kx_75_d : ∀ w ∈ Bundle.ownAtoms0 "ModuleLoader" 75 "java/lang/IllegalStateException" xw_names, w ∈ xw_zs ∨ w = .castable "java/lang/IllegalStateException" "java/lang/IllegalStateException" ∨ (∃ x ∈ xw_ds, w = .declares x) ∨ (w ∈ lw_tbl ∧ (w.onTables && w.keeps) = true) := by decide +kernel
theorem kw_408 : Cond.instantiable "java/lang/IllegalStateException" 6 ∈ xx_tb := xx_in (List.mem_append_right _ (List.mem_of_getElem? (i := 408) (by decide +kernel))) (by decide +kernel)
theorem kx_75 {args : Array Value} {s : State} (hts : ∀ w ∈ xx_tb, w.before args s = true) (hZ : xw_Z s) : ∀ w ∈ Bundle.ownAtoms0 "ModuleLoader" 75 "java/lang/IllegalStateException" xw_names, w ∈ xw_zs ∨ (w.onTables = true ∧ w.before args s = true) := xw_pay hts hZ (hts _ kw_408) kx_75_d
theorem kw_407 : Cond.classLink "ModuleLoader" 73 "java/lang/IllegalStateException" ∈ xx_tb := xx_in (List.mem_append_right _ (List.mem_of_getElem? (i := 407) (by decide +kernel))) (by decide +kernel)
theorem kw_14 : Cond.initialized "java/lang/IllegalStateException" ∈ xx_tb := xx_in (List.mem_append_right _ (List.mem_of_getElem? (i := 14) (by decide +kernel))) (by decide +kernel)
theorem kx_72_d : ∀ w ∈ Bundle.ownAtoms0 "ModuleLoader" 72 "java/lang/IndexOutOfBoundsException" xw_names, w ∈ xw_zs ∨ w = .castable "java/lang/IndexOutOfBoundsException" "java/lang/IndexOutOfBoundsException" ∨ (∃ x ∈ xw_ds, w = .declares x) ∨ (w ∈ lw_tbl ∧ (w.onTables && w.keeps) = true) := by decide +kernel
theorem kw_345 : Cond.instantiable "java/lang/IndexOutOfBoundsException" 6 ∈ xx_tb := xx_in (List.mem_append_right _ (List.mem_of_getElem? (i := 345) (by decide +kernel))) (by decide +kernel)
theorem kx_72 {args : Array Value} {s : State} (hts : ∀ w ∈ xx_tb, w.before args s = true) (hZ : xw_Z s) : ∀ w ∈ Bundle.ownAtoms0 "ModuleLoader" 72 "java/lang/IndexOutOfBoundsException" xw_names, w ∈ xw_zs ∨ (w.onTables = true ∧ w.before args s = true) := xw_pay hts hZ (hts _ kw_345) kx_72_d
theorem kw_344 : Cond.classLink "ModuleLoader" 70 "java/lang/IndexOutOfBoundsException" ∈ xx_tb := xx_in (List.mem_append_right _ (List.mem_of_getElem? (i := 344) (by decide +kernel))) (by decide +kernel)
theorem kw_13 : Cond.initialized "java/lang/IndexOutOfBoundsException" ∈ xx_tb := xx_in (List.mem_append_right _ (List.mem_of_getElem? (i := 13) (by decide +kernel))) (by decide +kernel)
theorem zd_Loader_poke_0 : decode kb_Loader_poke 0 = .ok (.iload_n 1, 1) := by decide +kernel
theorem zd_Loader_poke_1 : decode kb_Loader_poke 1 = .ok (.sipush (512), 3) := by decide +kernel
theorem zd_Loader_poke_4 : decode kb_Loader_poke 4 = .ok (.invokestatic 66, 3) := by decide +kernel
theorem zd_Loader_poke_7 : decode kb_Loader_poke 7 = .ok (.ifCond .ne (11), 3) := by decide +kernel
theorem zd_Loader_poke_10 : decode kb_Loader_poke 10 = .ok (.new 70, 3) := by decide +kernel
theorem zd_Loader_poke_13 : decode kb_Loader_poke 13 = .ok (.dup, 1) := by decide +kernel
theorem zd_Loader_poke_14 : decode kb_Loader_poke 14 = .ok (.invokespecial 72, 3) := by decide +kernel
theorem zd_Loader_poke_17 : decode kb_Loader_poke 17 = .ok (.athrow, 1) := by decide +kernel
theorem zd_Loader_poke_18 : decode kb_Loader_poke 18 = .ok (.aload_n 0, 1) := by decide +kernel
theorem zd_Loader_poke_19 : decode kb_Loader_poke 19 = .ok (.getfield 62, 3) := by decide +kernel
theorem zd_Loader_poke_22 : decode kb_Loader_poke 22 = .ok (.ifCond .eq (11), 3) := by decide +kernel
theorem zd_Loader_poke_25 : decode kb_Loader_poke 25 = .ok (.new 73, 3) := by decide +kernel
theorem zd_Loader_poke_28 : decode kb_Loader_poke 28 = .ok (.dup, 1) := by decide +kernel
theorem zd_Loader_poke_29 : decode kb_Loader_poke 29 = .ok (.invokespecial 75, 3) := by decide +kernel
theorem zd_Loader_poke_32 : decode kb_Loader_poke 32 = .ok (.athrow, 1) := by decide +kernel
theorem zd_Loader_poke_33 : decode kb_Loader_poke 33 = .ok (.aload_n 0, 1) := by decide +kernel
theorem zd_Loader_poke_34 : decode kb_Loader_poke 34 = .ok (.getfield 10, 3) := by decide +kernel
theorem zd_Loader_poke_37 : decode kb_Loader_poke 37 = .ok (.iload_n 1, 1) := by decide +kernel
theorem zd_Loader_poke_38 : decode kb_Loader_poke 38 = .ok (.iload_n 2, 1) := by decide +kernel
theorem zd_Loader_poke_39 : decode kb_Loader_poke 39 = .ok (.invokevirtual 76, 3) := by decide +kernel
theorem zd_Loader_poke_42 : decode kb_Loader_poke 42 = .ok (.return_, 1) := by decide +kernel
def zp_Loader_poke (Po : Option Value → zz_S → Prop) (Px : String → zz_S → Prop) (u : zz_S) (x1 : Int32) (x2 : Int32) : Prop := xw_2 (zf_Loader_isWordBelow u x1 (512 : Int32)) fun v2 u1 => (v2 = 0 → (Px "java/lang/IndexOutOfBoundsException" u1)) ∧ (¬ v2 = 0 → (((u1.1 0) = 0 → (xw_b (zf_Memory_putWord u1 x1 x2) fun u3 => Po none u3)) ∧ (¬ (u1.1 0) = 0 → (Px "java/lang/IllegalStateException" u1))))
set_option maxHeartbeats 4000000 in
set_option maxRecDepth 100000 in
theorem zc_Loader_poke (l : Launch) (hl0 : l.stackTraces = false) (g : xx_G) (u : zz_S) (x1 : Int32) (x2 : Int32) (Po : Option Value → zz_S → Prop) (Px : String → zz_S → Prop) (hF : zp_Loader_poke Po Px u x1 x2) : xw_M l g.1 (zz_T g) (zz_W g) ky_Loader_poke kb_Loader_poke 3 none (xx_rmc 6 90 1 6) [.ref (g.2.1 0), .int x1, .int x2] u Po Px := by
  refine xw_body (by decide) (Nat.le_of_ble_eq_true rfl) ?_
  intro p e s m args below meth c A ls C CW hin hK hl hA hP hD hS
  have hx := C.1
  have hb := C.2.1
  have hown := C.2.2.2.1
  have hts := C.2.2.2.2.1
  have hl : lv_has ls 3 [(0, .ref (g.2.1 0)), (1, .int x1), (2, .int x2)] := hl
  unfold zp_Loader_poke at hF
  refine lv_iload_n hx hb zd_Loader_poke_0 rfl (lv_at hl 1 rfl) ?_
  refine lv_sipush (v := (512 : Int32)) hx hb zd_Loader_poke_1 (by decide) ?_
  obtain ⟨v2, u1, eu1, hF⟩ := hF
  refine xx_callS (cells1 := 0) (slots1 := 0) (n := 2) (As := [.int x1, .int (512 : Int32)]) (rest := []) C (zc_Loader_isWordBelow l g u x1 (512 : Int32) v2 u1 eu1) ⟨kw_343, kw_341, kw_342, kw_1⟩ ⟨by decide +kernel, by decide +kernel, by decide +kernel⟩ rfl ⟨Nat.le_of_ble_eq_true rfl, Nat.le_of_ble_eq_true rfl⟩ hl.1 rfl (Nat.le_of_ble_eq_true rfl) hA hK hP hD hS ⟨by decide, by decide⟩ rfl rfl rfl zd_Loader_poke_4 (fun H locs hP hD hS => ?_)
  refine lv_if_ne (tgt := 18) hx hb zd_Loader_poke_7 (by decide) (fun hc => ?_) (fun hc => ?_)
  · have hF := hF.2 hc
    refine lv_aload_n hx hb zd_Loader_poke_18 rfl (lv_at hl 0 rfl) ?_
    refine xx_get C ki_Loader hK hP 0 rfl rfl 7 (by decide) kw_194 rfl rfl zd_Loader_poke_19 ?_
    refine lv_if_eq (tgt := 33) hx hb zd_Loader_poke_22 (by decide) (fun hc => ?_) (fun hc => ?_)
    · have hF := hF.1 hc
      refine lv_aload_n hx hb zd_Loader_poke_33 rfl (lv_at hl 0 rfl) ?_
      refine xx_get C ki_Loader hK hP 0 rfl rfl 0 (by decide) kw_187 rfl rfl zd_Loader_poke_34 ?_
      refine lv_iload_n hx hb zd_Loader_poke_37 rfl (lv_at hl 1 rfl) ?_
      refine lv_iload_n hx hb zd_Loader_poke_38 rfl (lv_at hl 2 rfl) ?_
      obtain ⟨u3, eu3, hF⟩ := hF
      refine xx_callV (cells1 := 0) (slots1 := 0) (n := 2) (As := [.int x1, .int x2]) (rest := []) C (zc_Memory_putWord l g u1 x1 x2 u3 eu3) ⟨kw_425, kw_422, kw_423, kw_424, kw_2⟩ ⟨by decide +kernel, by decide +kernel, by decide +kernel⟩ rfl ⟨Nat.le_of_ble_eq_true rfl, Nat.le_of_ble_eq_true rfl⟩ 1 rfl rfl hl.1 rfl (Nat.le_of_ble_eq_true rfl) hA hK hP hD hS ⟨by decide, by decide⟩ rfl rfl rfl zd_Loader_poke_39 (fun H locs hP hD hS => ?_)
      exact xw_vret C (by decide) (by decide) hF hK hP hD hS zd_Loader_poke_42
    · have hF := hF.2 hc
      exact xw_throw C CW hl0 (cls := "java/lang/IllegalStateException") (names := xw_names) (by decide +kernel) (by decide +kernel) kw_407 kw_14 (kx_75 hts CW.2.2) hK hP hD hS hl.1 hF zd_Loader_poke_25 zd_Loader_poke_28 zd_Loader_poke_29 zd_Loader_poke_32 (by decide) (by decide) (by decide) (by decide) (by decide) (by decide)
  · have hF := hF.1 hc
    exact xw_throw C CW hl0 (cls := "java/lang/IndexOutOfBoundsException") (names := xw_names) (by decide +kernel) (by decide +kernel) kw_344 kw_13 (kx_72 hts CW.2.2) hK hP hD hS hl.1 hF zd_Loader_poke_10 zd_Loader_poke_13 zd_Loader_poke_14 zd_Loader_poke_17 (by decide) (by decide) (by decide) (by decide) (by decide) (by decide)
theorem zd_Loader_peek_0 : decode kb_Loader_peek 0 = .ok (.iload_n 1, 1) := by decide +kernel
theorem zd_Loader_peek_1 : decode kb_Loader_peek 1 = .ok (.sipush (4096), 3) := by decide +kernel
theorem zd_Loader_peek_4 : decode kb_Loader_peek 4 = .ok (.invokestatic 66, 3) := by decide +kernel
theorem zd_Loader_peek_7 : decode kb_Loader_peek 7 = .ok (.ifCond .ne (11), 3) := by decide +kernel
theorem zd_Loader_peek_10 : decode kb_Loader_peek 10 = .ok (.new 70, 3) := by decide +kernel
theorem zd_Loader_peek_13 : decode kb_Loader_peek 13 = .ok (.dup, 1) := by decide +kernel
theorem zd_Loader_peek_14 : decode kb_Loader_peek 14 = .ok (.invokespecial 72, 3) := by decide +kernel
theorem zd_Loader_peek_17 : decode kb_Loader_peek 17 = .ok (.athrow, 1) := by decide +kernel
theorem zd_Loader_peek_18 : decode kb_Loader_peek 18 = .ok (.aload_n 0, 1) := by decide +kernel
theorem zd_Loader_peek_19 : decode kb_Loader_peek 19 = .ok (.getfield 10, 3) := by decide +kernel
theorem zd_Loader_peek_22 : decode kb_Loader_peek 22 = .ok (.iload_n 1, 1) := by decide +kernel
theorem zd_Loader_peek_23 : decode kb_Loader_peek 23 = .ok (.invokevirtual 177, 3) := by decide +kernel
theorem zd_Loader_peek_26 : decode kb_Loader_peek 26 = .ok (.ireturn, 1) := by decide +kernel
def zp_Loader_peek (Po : Option Value → zz_S → Prop) (Px : String → zz_S → Prop) (u : zz_S) (x1 : Int32) : Prop := xw_2 (zf_Loader_isWordBelow u x1 (4096 : Int32)) fun v2 u1 => (v2 = 0 → (Px "java/lang/IndexOutOfBoundsException" u1)) ∧ (¬ v2 = 0 → (xw_2 (zf_Memory_wordAt u1 x1) fun v4 u3 => Po (some (.int v4)) u3))
set_option maxHeartbeats 4000000 in
set_option maxRecDepth 100000 in
theorem zc_Loader_peek (l : Launch) (hl0 : l.stackTraces = false) (g : xx_G) (u : zz_S) (x1 : Int32) (Po : Option Value → zz_S → Prop) (Px : String → zz_S → Prop) (hF : zp_Loader_peek Po Px u x1) : xw_M l g.1 (zz_T g) (zz_W g) ky_Loader_peek kb_Loader_peek 2 (some .int) (xx_rmc 6 90 1 6) [.ref (g.2.1 0), .int x1] u Po Px := by
  refine xw_body (by decide) (Nat.le_of_ble_eq_true rfl) ?_
  intro p e s m args below meth c A ls C CW hin hK hl hA hP hD hS
  have hx := C.1
  have hb := C.2.1
  have hown := C.2.2.2.1
  have hts := C.2.2.2.2.1
  have hl : lv_has ls 2 [(0, .ref (g.2.1 0)), (1, .int x1)] := hl
  unfold zp_Loader_peek at hF
  refine lv_iload_n hx hb zd_Loader_peek_0 rfl (lv_at hl 1 rfl) ?_
  refine lv_sipush (v := (4096 : Int32)) hx hb zd_Loader_peek_1 (by decide) ?_
  obtain ⟨v2, u1, eu1, hF⟩ := hF
  refine xx_callS (cells1 := 0) (slots1 := 0) (n := 2) (As := [.int x1, .int (4096 : Int32)]) (rest := []) C (zc_Loader_isWordBelow l g u x1 (4096 : Int32) v2 u1 eu1) ⟨kw_343, kw_341, kw_342, kw_1⟩ ⟨by decide +kernel, by decide +kernel, by decide +kernel⟩ rfl ⟨Nat.le_of_ble_eq_true rfl, Nat.le_of_ble_eq_true rfl⟩ hl.1 rfl (Nat.le_of_ble_eq_true rfl) hA hK hP hD hS ⟨by decide, by decide⟩ rfl rfl rfl zd_Loader_peek_4 (fun H locs hP hD hS => ?_)
  refine lv_if_ne (tgt := 18) hx hb zd_Loader_peek_7 (by decide) (fun hc => ?_) (fun hc => ?_)
  · have hF := hF.2 hc
    refine lv_aload_n hx hb zd_Loader_peek_18 rfl (lv_at hl 0 rfl) ?_
    refine xx_get C ki_Loader hK hP 0 rfl rfl 0 (by decide) kw_187 rfl rfl zd_Loader_peek_19 ?_
    refine lv_iload_n hx hb zd_Loader_peek_22 rfl (lv_at hl 1 rfl) ?_
    obtain ⟨v4, u3, eu3, hF⟩ := hF
    refine xx_callV (cells1 := 0) (slots1 := 0) (n := 1) (As := [.int x1]) (rest := []) C (zc_Memory_wordAt l g u1 x1 v4 u3 eu3) ⟨kw_644, kw_641, kw_642, kw_643, kw_2⟩ ⟨by decide +kernel, by decide +kernel, by decide +kernel⟩ rfl ⟨Nat.le_of_ble_eq_true rfl, Nat.le_of_ble_eq_true rfl⟩ 1 rfl rfl hl.1 rfl (Nat.le_of_ble_eq_true rfl) hA hK hP hD hS ⟨by decide, by decide⟩ rfl rfl rfl zd_Loader_peek_23 (fun H locs hP hD hS => ?_)
    exact xw_iret C (by decide) (by decide) hF hK hP hD hS zd_Loader_peek_26
  · have hF := hF.1 hc
    exact xw_throw C CW hl0 (cls := "java/lang/IndexOutOfBoundsException") (names := xw_names) (by decide +kernel) (by decide +kernel) kw_344 kw_13 (kx_72 hts CW.2.2) hK hP hD hS hl.1 hF zd_Loader_peek_10 zd_Loader_peek_13 zd_Loader_peek_14 zd_Loader_peek_17 (by decide) (by decide) (by decide) (by decide) (by decide) (by decide)
theorem kw_434 : Cond.methodLink "ModuleLoader" 84 ky_Loader_isName ∈ xx_tb := xx_in (List.mem_append_right _ (List.mem_of_getElem? (i := 434) (by decide +kernel))) (by decide +kernel)
theorem kx_90_d : ∀ w ∈ Bundle.ownAtoms0 "ModuleLoader" 90 "java/lang/IllegalArgumentException" xw_names, w ∈ xw_zs ∨ w = .castable "java/lang/IllegalArgumentException" "java/lang/IllegalArgumentException" ∨ (∃ x ∈ xw_ds, w = .declares x) ∨ (w ∈ lw_tbl ∧ (w.onTables && w.keeps) = true) := by decide +kernel
theorem kw_438 : Cond.instantiable "java/lang/IllegalArgumentException" 6 ∈ xx_tb := xx_in (List.mem_append_right _ (List.mem_of_getElem? (i := 438) (by decide +kernel))) (by decide +kernel)
theorem kx_90 {args : Array Value} {s : State} (hts : ∀ w ∈ xx_tb, w.before args s = true) (hZ : xw_Z s) : ∀ w ∈ Bundle.ownAtoms0 "ModuleLoader" 90 "java/lang/IllegalArgumentException" xw_names, w ∈ xw_zs ∨ (w.onTables = true ∧ w.before args s = true) := xw_pay hts hZ (hts _ kw_438) kx_90_d
theorem kw_437 : Cond.classLink "ModuleLoader" 88 "java/lang/IllegalArgumentException" ∈ xx_tb := xx_in (List.mem_append_right _ (List.mem_of_getElem? (i := 437) (by decide +kernel))) (by decide +kernel)
theorem kw_15 : Cond.initialized "java/lang/IllegalArgumentException" ∈ xx_tb := xx_in (List.mem_append_right _ (List.mem_of_getElem? (i := 15) (by decide +kernel))) (by decide +kernel)
theorem zd_Loader_symbol_0 : decode kb_Loader_symbol 0 = .ok (.iload_n 1, 1) := by decide +kernel
theorem zd_Loader_symbol_1 : decode kb_Loader_symbol 1 = .ok (.invokestatic 84, 3) := by decide +kernel
theorem zd_Loader_symbol_4 : decode kb_Loader_symbol 4 = .ok (.ifCond .ne (11), 3) := by decide +kernel
theorem zd_Loader_symbol_7 : decode kb_Loader_symbol 7 = .ok (.new 88, 3) := by decide +kernel
theorem zd_Loader_symbol_10 : decode kb_Loader_symbol 10 = .ok (.dup, 1) := by decide +kernel
theorem zd_Loader_symbol_11 : decode kb_Loader_symbol 11 = .ok (.invokespecial 90, 3) := by decide +kernel
theorem zd_Loader_symbol_14 : decode kb_Loader_symbol 14 = .ok (.athrow, 1) := by decide +kernel
theorem zd_Loader_symbol_15 : decode kb_Loader_symbol 15 = .ok (.aload_n 0, 1) := by decide +kernel
theorem zd_Loader_symbol_16 : decode kb_Loader_symbol 16 = .ok (.getfield 44, 3) := by decide +kernel
theorem zd_Loader_symbol_19 : decode kb_Loader_symbol 19 = .ok (.iload_n 1, 1) := by decide +kernel
theorem zd_Loader_symbol_20 : decode kb_Loader_symbol 20 = .ok (.invokevirtual 91, 3) := by decide +kernel
theorem zd_Loader_symbol_23 : decode kb_Loader_symbol 23 = .ok (.ifnonnull (13), 3) := by decide +kernel
theorem zd_Loader_symbol_26 : decode kb_Loader_symbol 26 = .ok (.aload_n 0, 1) := by decide +kernel
theorem zd_Loader_symbol_27 : decode kb_Loader_symbol 27 = .ok (.getfield 44, 3) := by decide +kernel
theorem zd_Loader_symbol_30 : decode kb_Loader_symbol 30 = .ok (.invokevirtual 95, 3) := by decide +kernel
theorem zd_Loader_symbol_33 : decode kb_Loader_symbol 33 = .ok (.ifCond .ne (11), 3) := by decide +kernel
theorem zd_Loader_symbol_36 : decode kb_Loader_symbol 36 = .ok (.new 73, 3) := by decide +kernel
theorem zd_Loader_symbol_39 : decode kb_Loader_symbol 39 = .ok (.dup, 1) := by decide +kernel
theorem zd_Loader_symbol_40 : decode kb_Loader_symbol 40 = .ok (.invokespecial 75, 3) := by decide +kernel
theorem zd_Loader_symbol_43 : decode kb_Loader_symbol 43 = .ok (.athrow, 1) := by decide +kernel
theorem zd_Loader_symbol_44 : decode kb_Loader_symbol 44 = .ok (.aload_n 0, 1) := by decide +kernel
theorem zd_Loader_symbol_45 : decode kb_Loader_symbol 45 = .ok (.getfield 44, 3) := by decide +kernel
theorem zd_Loader_symbol_48 : decode kb_Loader_symbol 48 = .ok (.new 99, 3) := by decide +kernel
theorem zd_Loader_symbol_51 : decode kb_Loader_symbol 51 = .ok (.dup, 1) := by decide +kernel
theorem zd_Loader_symbol_52 : decode kb_Loader_symbol 52 = .ok (.iload_n 1, 1) := by decide +kernel
theorem zd_Loader_symbol_53 : decode kb_Loader_symbol 53 = .ok (.iload_n 2, 1) := by decide +kernel
theorem zd_Loader_symbol_54 : decode kb_Loader_symbol 54 = .ok (.iload_n 3, 1) := by decide +kernel
theorem zd_Loader_symbol_55 : decode kb_Loader_symbol 55 = .ok (.aconst_null, 1) := by decide +kernel
theorem zd_Loader_symbol_56 : decode kb_Loader_symbol 56 = .ok (.invokespecial 101, 3) := by decide +kernel
theorem zd_Loader_symbol_59 : decode kb_Loader_symbol 59 = .ok (.invokevirtual 104, 3) := by decide +kernel
theorem zd_Loader_symbol_62 : decode kb_Loader_symbol 62 = .ok (.return_, 1) := by decide +kernel
def zp_Loader_symbol_b36 (Po : Option Value → zz_S → Prop) (Px : String → zz_S → Prop) (u : zz_S) : Prop := Px "java/lang/IllegalStateException" u
def zp_Loader_symbol (Po : Option Value → zz_S → Prop) (Px : String → zz_S → Prop) (u : zz_S) (x1 : Int32) (x2 : Int32) (x3 : Int32) : Prop := xw_2 (zf_Loader_isName u x1) fun v2 u1 => (v2 = 0 → (Px "java/lang/IllegalArgumentException" u1)) ∧ (¬ v2 = 0 → (xw_2 (zf_SymbolTable_find u1 x1) fun v4 u3 => (v4 = none → (xw_2 (zf_SymbolTable_unused u3) fun v7 u6 => (v7 = 0 → (zp_Loader_symbol_b36 Po Px u6)) ∧ (¬ v7 = 0 → (zz_wn u6 fun a8 => xw_n (zz_more u6 a8 (7, [.int 0, .int 0, .int 0, .null])) fun u9 => xw_b (zf_Symbol_init u9 a8 x1 x2 x3 none) fun u10 => xw_b (zf_SymbolTable_add u10 (some a8)) fun u11 => Po none u11)))) ∧ (∀ a5 : Nat, v4 = some a5 → (zp_Loader_symbol_b36 Po Px u3))))
set_option maxHeartbeats 4000000 in
set_option maxRecDepth 100000 in
theorem zv_Loader_symbol_b36 {p : Program} {l : Launch} {e : Env} {s : State} {m : MethodId} {args : Array Value} {below : List Frame} {meth : Method} {c : Code} {A : Nat → Prop} {g : xx_G} {Po : Option Value → zz_S → Prop} {Px : String → zz_S → Prop} (C : xx_C p s m args meth c kb_Loader_symbol 4 kr_Loader none) (CW : xw_C s c A) (hl0 : l.stackTraces = false) (hin : ky_Loader_symbol.name = "<init>" → meth.name = "<init>") (hA : ∀ q, s.heap.size ≤ q → A q) (hK : va_K g.1 xx_cls (zz_T g) s) : ∀ (u : zz_S) (H : Heap) (locs : List Loc) (ls : Array Slot), zp_Loader_symbol_b36 Po Px u → lv_has ls 4 [] → va_P g.1 xx_cls (zz_W g u) H → va_D A (zz_W g u) → va_S A s.heap H locs → W p l e (xx_rmc 6 90 1 6) s m args below meth c H locs 0 0 (xw_MQ g.1 (zz_T g) (zz_W g) Po Px A below args s 1 6) (F0 m 36 ls []) := by
  have hx := C.1
  have hb := C.2.1
  have hown := C.2.2.2.1
  have hts := C.2.2.2.2.1
  intro u H locs ls hF hl hP hD hS
  unfold zp_Loader_symbol_b36 at hF
  exact xw_throw C CW hl0 (cls := "java/lang/IllegalStateException") (names := xw_names) (by decide +kernel) (by decide +kernel) kw_407 kw_14 (kx_75 hts CW.2.2) hK hP hD hS hl.1 hF zd_Loader_symbol_36 zd_Loader_symbol_39 zd_Loader_symbol_40 zd_Loader_symbol_43 (by decide) (by decide) (by decide) (by decide) (by decide) (by decide)
set_option maxHeartbeats 4000000 in
set_option maxRecDepth 100000 in
theorem zc_Loader_symbol (l : Launch) (hl0 : l.stackTraces = false) (g : xx_G) (u : zz_S) (x1 : Int32) (x2 : Int32) (x3 : Int32) (Po : Option Value → zz_S → Prop) (Px : String → zz_S → Prop) (hF : zp_Loader_symbol Po Px u x1 x2 x3) : xw_M l g.1 (zz_T g) (zz_W g) ky_Loader_symbol kb_Loader_symbol 4 none (xx_rmc 6 90 1 6) [.ref (g.2.1 0), .int x1, .int x2, .int x3] u Po Px := by
  refine xw_body (by decide) (Nat.le_of_ble_eq_true rfl) ?_
  intro p e s m args below meth c A ls C CW hin hK hl hA hP hD hS
  have hx := C.1
  have hb := C.2.1
  have hown := C.2.2.2.1
  have hts := C.2.2.2.2.1
  have hl : lv_has ls 4 [(0, .ref (g.2.1 0)), (1, .int x1), (2, .int x2), (3, .int x3)] := hl
  unfold zp_Loader_symbol at hF
  refine lv_iload_n hx hb zd_Loader_symbol_0 rfl (lv_at hl 1 rfl) ?_
  obtain ⟨v2, u1, eu1, hF⟩ := hF
  refine xx_callS (cells1 := 0) (slots1 := 0) (n := 1) (As := [.int x1]) (rest := []) C (zc_Loader_isName l g u x1 v2 u1 eu1) ⟨kw_436, kw_434, kw_435, kw_1⟩ ⟨by decide +kernel, by decide +kernel, by decide +kernel⟩ rfl ⟨Nat.le_of_ble_eq_true rfl, Nat.le_of_ble_eq_true rfl⟩ hl.1 rfl (Nat.le_of_ble_eq_true rfl) hA hK hP hD hS ⟨by decide, by decide⟩ rfl rfl rfl zd_Loader_symbol_1 (fun H locs hP hD hS => ?_)
  refine lv_if_ne (tgt := 15) hx hb zd_Loader_symbol_4 (by decide) (fun hc => ?_) (fun hc => ?_)
  · have hF := hF.2 hc
    refine lv_aload_n hx hb zd_Loader_symbol_15 rfl (lv_at hl 0 rfl) ?_
    refine xx_get C ki_Loader hK hP 0 rfl rfl 4 (by decide) kw_191 rfl rfl zd_Loader_symbol_16 ?_
    refine lv_iload_n hx hb zd_Loader_symbol_19 rfl (lv_at hl 1 rfl) ?_
    obtain ⟨v4, u3, eu3, hF⟩ := hF
    refine xx_callV (cells1 := 0) (slots1 := 0) (n := 1) (As := [.int x1]) (rest := []) C (zc_SymbolTable_find l g u1 x1 v4 u3 eu3) ⟨kw_271, kw_268, kw_269, kw_270, kw_6⟩ ⟨by decide +kernel, by decide +kernel, by decide +kernel⟩ rfl ⟨Nat.le_of_ble_eq_true rfl, Nat.le_of_ble_eq_true rfl⟩ 9 rfl rfl hl.1 rfl (Nat.le_of_ble_eq_true rfl) hA hK hP hD hS ⟨by decide, by decide⟩ rfl rfl rfl zd_Loader_symbol_20 (fun H locs hP hD hS => ?_)
    refine xx_ifnonnull (tgt := 36) C zd_Loader_symbol_23 (by decide) (fun en => ?_) (fun a5 ea5 => ?_)
    · have hF := hF.1 en
      refine lv_aload_n hx hb zd_Loader_symbol_26 rfl (lv_at hl 0 rfl) ?_
      refine xx_get C ki_Loader hK hP 0 rfl rfl 4 (by decide) kw_191 rfl rfl zd_Loader_symbol_27 ?_
      obtain ⟨v7, u6, eu6, hF⟩ := hF
      refine xx_callV (cells1 := 0) (slots1 := 0) (n := 0) (As := []) (rest := []) C (zc_SymbolTable_unused l g u3 v7 u6 eu6) ⟨kw_455, kw_452, kw_453, kw_454, kw_6⟩ ⟨by decide +kernel, by decide +kernel, by decide +kernel⟩ rfl ⟨Nat.le_of_ble_eq_true rfl, Nat.le_of_ble_eq_true rfl⟩ 9 rfl rfl hl.1 rfl (Nat.le_of_ble_eq_true rfl) hA hK hP hD hS ⟨by decide, by decide⟩ rfl rfl rfl zd_Loader_symbol_30 (fun H locs hP hD hS => ?_)
      refine lv_if_ne (tgt := 44) hx hb zd_Loader_symbol_33 (by decide) (fun hc => ?_) (fun hc => ?_)
      · have hF := hF.2 hc
        refine lv_aload_n hx hb zd_Loader_symbol_44 rfl (lv_at hl 0 rfl) ?_
        refine xx_get C ki_Loader hK hP 0 rfl rfl 4 (by decide) kw_191 rfl rfl zd_Loader_symbol_45 ?_
        refine zz_new (u := u6) (ci := 7) (fs := [.int 0, .int 0, .int 0, .null]) (cells1 := 1) (slots1 := 4) C ki_Symbol kt_Symbol ko_Symbol ⟨kw_456, kw_457, kw_16⟩ hK hP hD hS hA rfl kd_Symbol (by decide) (by decide) rfl rfl zd_Loader_symbol_48 (fun a8 H hq hP hD hS => ?_)
        have hF := hF a8 hq
        obtain ⟨u9, eu9, hF⟩ := xw_n_some hF
        rw [← eu9] at hP hD
        refine lv_dup hx hb zd_Loader_symbol_51 rfl ?_
        refine lv_iload_n hx hb zd_Loader_symbol_52 rfl (lv_at hl 1 rfl) ?_
        refine lv_iload_n hx hb zd_Loader_symbol_53 rfl (lv_at hl 2 rfl) ?_
        refine lv_iload_n hx hb zd_Loader_symbol_54 rfl (lv_at hl 3 rfl) ?_
        refine lv_null hx hb zd_Loader_symbol_55 ?_
        obtain ⟨u10, eu10, hF⟩ := hF
        refine xx_callI (cells1 := 1) (slots1 := 4) (n := 4) (As := [.int x1, .int x2, .int x3, (va_rf none)]) (rest := [.ref a8, .ref (g.2.1 9)]) C (zc_Symbol_init l g u9 a8 x1 x2 x3 none u10 eu10) ⟨kw_460, kw_458, kw_459, kw_16⟩ rfl ⟨by decide +kernel, by decide +kernel, by decide +kernel⟩ rfl ⟨Nat.le_of_ble_eq_true rfl, Nat.le_of_ble_eq_true rfl⟩ hl.1 rfl (Nat.le_of_ble_eq_true rfl) hA hK hP hD hS ⟨by decide, by decide⟩ rfl rfl zd_Loader_symbol_56 (fun H locs hP hD hS => ?_)
        obtain ⟨u11, eu11, hF⟩ := hF
        refine xx_callV (cells1 := 1) (slots1 := 4) (n := 1) (As := [.ref a8]) (rest := []) C (zc_SymbolTable_add l g u10 (some a8) u11 eu11) ⟨kw_483, kw_480, kw_481, kw_482, kw_6⟩ ⟨by decide +kernel, by decide +kernel, by decide +kernel⟩ rfl ⟨Nat.le_of_ble_eq_true rfl, Nat.le_of_ble_eq_true rfl⟩ 9 rfl rfl hl.1 rfl (Nat.le_of_ble_eq_true rfl) hA hK hP hD hS ⟨by decide, by decide⟩ rfl rfl rfl zd_Loader_symbol_59 (fun H locs hP hD hS => ?_)
        exact xw_vret C (by decide) (by decide) hF hK hP hD hS zd_Loader_symbol_62
      · have hF := hF.1 hc
        exact zv_Loader_symbol_b36 C CW hl0 hin hA hK u6 _ _ _ hF (lv_sub hl [] rfl) hP hD hS
    · have hF := hF.2 a5 ea5
      exact zv_Loader_symbol_b36 C CW hl0 hin hA hK u3 _ _ _ hF (lv_sub hl [] rfl) hP hD hS
  · have hF := hF.1 hc
    exact xw_throw C CW hl0 (cls := "java/lang/IllegalArgumentException") (names := xw_names) (by decide +kernel) (by decide +kernel) kw_437 kw_15 (kx_90 hts CW.2.2) hK hP hD hS hl.1 hF zd_Loader_symbol_7 zd_Loader_symbol_10 zd_Loader_symbol_11 zd_Loader_symbol_14 (by decide) (by decide) (by decide) (by decide) (by decide) (by decide)
set_option maxRecDepth 100000 in
theorem kw_493 : Cond.code ky_Loader_isFuel kb_Loader_isFuel 1 (some .boolean) ∈ xx_tb := xx_in (List.mem_append_right _ (List.mem_of_getElem? (i := 493) (by rfl))) (by decide +kernel)
theorem kw_491 : Cond.methodLink "ModuleLoader" 114 ky_Loader_isFuel ∈ xx_tb := xx_in (List.mem_append_right _ (List.mem_of_getElem? (i := 491) (by decide +kernel))) (by decide +kernel)
theorem kw_492 : Cond.static ky_Loader_isFuel ∈ xx_tb := xx_in (List.mem_append_right _ (List.mem_of_getElem? (i := 492) (by decide +kernel))) (by decide +kernel)
set_option maxRecDepth 100000 in
theorem kw_497 : Cond.code ky_Report_clear kb_Report_clear 1 none ∈ xx_tb := xx_in (List.mem_append_right _ (List.mem_of_getElem? (i := 497) (by rfl))) (by decide +kernel)
theorem kw_494 : Cond.methodLink "ModuleLoader" 117 ky_Report_clear ∈ xx_tb := xx_in (List.mem_append_right _ (List.mem_of_getElem? (i := 494) (by decide +kernel))) (by decide +kernel)
theorem kw_495 : Cond.instanceMethod ky_Report_clear ∈ xx_tb := xx_in (List.mem_append_right _ (List.mem_of_getElem? (i := 495) (by decide +kernel))) (by decide +kernel)
theorem kw_496 : Cond.selects "ModuleLoader$Report" ky_Report_clear ky_Report_clear ∈ xx_tb := xx_in (List.mem_append_right _ (List.mem_of_getElem? (i := 496) (by decide +kernel))) (by decide +kernel)
theorem kw_685 : Cond.fieldLink "ModuleLoader" 170 "ModuleLoader$LoadedModule" "exit" "I" ∈ xx_tb := xx_in (List.mem_append_right _ (List.mem_of_getElem? (i := 685) (by decide +kernel))) (by decide +kernel)
set_option maxRecDepth 100000 in
theorem kw_737 : Cond.code ky_Loader_execute kb_Loader_execute 5 none ∈ xx_tb := xx_in (List.mem_append_right _ (List.mem_of_getElem? (i := 737) (by rfl))) (by decide +kernel)
theorem kw_734 : Cond.methodLink "ModuleLoader" 134 ky_Loader_execute ∈ xx_tb := xx_in (List.mem_append_right _ (List.mem_of_getElem? (i := 734) (by decide +kernel))) (by decide +kernel)
theorem kw_736 : Cond.instanceMethod ky_Loader_execute ∈ xx_tb := xx_in (List.mem_append_right _ (List.mem_of_getElem? (i := 736) (by decide +kernel))) (by decide +kernel)
theorem ks_Loader_execute : Cond.selects "ModuleLoader" ky_Loader_execute ky_Loader_execute ∈ xx_tb := xx_in (List.mem_append_left _ (by decide +kernel)) (by decide +kernel)
theorem zd_Loader_unload_0 : decode kb_Loader_unload 0 = .ok (.aload_n 0, 1) := by decide +kernel
theorem zd_Loader_unload_1 : decode kb_Loader_unload 1 = .ok (.getfield 51, 3) := by decide +kernel
theorem zd_Loader_unload_4 : decode kb_Loader_unload 4 = .ok (.iload_n 1, 1) := by decide +kernel
theorem zd_Loader_unload_5 : decode kb_Loader_unload 5 = .ok (.invokevirtual 161, 3) := by decide +kernel
theorem zd_Loader_unload_8 : decode kb_Loader_unload 8 = .ok (.astore_n 3, 1) := by decide +kernel
theorem zd_Loader_unload_9 : decode kb_Loader_unload 9 = .ok (.aload_n 3, 1) := by decide +kernel
theorem zd_Loader_unload_10 : decode kb_Loader_unload 10 = .ok (.ifnull (10), 3) := by decide +kernel
theorem zd_Loader_unload_13 : decode kb_Loader_unload 13 = .ok (.iload_n 2, 1) := by decide +kernel
theorem zd_Loader_unload_14 : decode kb_Loader_unload 14 = .ok (.invokestatic 114, 3) := by decide +kernel
theorem zd_Loader_unload_17 : decode kb_Loader_unload 17 = .ok (.ifCond .ne (11), 3) := by decide +kernel
theorem zd_Loader_unload_20 : decode kb_Loader_unload 20 = .ok (.new 88, 3) := by decide +kernel
theorem zd_Loader_unload_23 : decode kb_Loader_unload 23 = .ok (.dup, 1) := by decide +kernel
theorem zd_Loader_unload_24 : decode kb_Loader_unload 24 = .ok (.invokespecial 90, 3) := by decide +kernel
theorem zd_Loader_unload_27 : decode kb_Loader_unload 27 = .ok (.athrow, 1) := by decide +kernel
theorem zd_Loader_unload_28 : decode kb_Loader_unload 28 = .ok (.aload_n 0, 1) := by decide +kernel
theorem zd_Loader_unload_29 : decode kb_Loader_unload 29 = .ok (.getfield 58, 3) := by decide +kernel
theorem zd_Loader_unload_32 : decode kb_Loader_unload 32 = .ok (.invokevirtual 117, 3) := by decide +kernel
theorem zd_Loader_unload_35 : decode kb_Loader_unload 35 = .ok (.aload_n 0, 1) := by decide +kernel
theorem zd_Loader_unload_36 : decode kb_Loader_unload 36 = .ok (.getfield 51, 3) := by decide +kernel
theorem zd_Loader_unload_39 : decode kb_Loader_unload 39 = .ok (.aload_n 3, 1) := by decide +kernel
theorem zd_Loader_unload_40 : decode kb_Loader_unload 40 = .ok (.invokevirtual 163, 3) := by decide +kernel
theorem zd_Loader_unload_43 : decode kb_Loader_unload 43 = .ok (.ifCond .le (16), 3) := by decide +kernel
theorem zd_Loader_unload_46 : decode kb_Loader_unload 46 = .ok (.aload_n 0, 1) := by decide +kernel
theorem zd_Loader_unload_47 : decode kb_Loader_unload 47 = .ok (.getfield 58, 3) := by decide +kernel
theorem zd_Loader_unload_50 : decode kb_Loader_unload 50 = .ok (.bipush (11), 2) := by decide +kernel
theorem zd_Loader_unload_52 : decode kb_Loader_unload 52 = .ok (.iconst (-1), 1) := by decide +kernel
theorem zd_Loader_unload_53 : decode kb_Loader_unload 53 = .ok (.invokevirtual 167, 3) := by decide +kernel
theorem zd_Loader_unload_56 : decode kb_Loader_unload 56 = .ok (.goto (27), 3) := by decide +kernel
theorem zd_Loader_unload_59 : decode kb_Loader_unload 59 = .ok (.aload_n 3, 1) := by decide +kernel
theorem zd_Loader_unload_60 : decode kb_Loader_unload 60 = .ok (.getfield 170, 3) := by decide +kernel
theorem zd_Loader_unload_63 : decode kb_Loader_unload 63 = .ok (.iconst (-1), 1) := by decide +kernel
theorem zd_Loader_unload_64 : decode kb_Loader_unload 64 = .ok (.if_icmp .eq (19), 3) := by decide +kernel
theorem zd_Loader_unload_67 : decode kb_Loader_unload 67 = .ok (.aload_n 0, 1) := by decide +kernel
theorem zd_Loader_unload_68 : decode kb_Loader_unload 68 = .ok (.aload_n 3, 1) := by decide +kernel
theorem zd_Loader_unload_69 : decode kb_Loader_unload 69 = .ok (.getfield 129, 3) := by decide +kernel
theorem zd_Loader_unload_72 : decode kb_Loader_unload 72 = .ok (.aload_n 3, 1) := by decide +kernel
theorem zd_Loader_unload_73 : decode kb_Loader_unload 73 = .ok (.getfield 170, 3) := by decide +kernel
theorem zd_Loader_unload_76 : decode kb_Loader_unload 76 = .ok (.iadd, 1) := by decide +kernel
theorem zd_Loader_unload_77 : decode kb_Loader_unload 77 = .ok (.iconst 0, 1) := by decide +kernel
theorem zd_Loader_unload_78 : decode kb_Loader_unload 78 = .ok (.iconst 0, 1) := by decide +kernel
theorem zd_Loader_unload_79 : decode kb_Loader_unload 79 = .ok (.iload_n 2, 1) := by decide +kernel
theorem zd_Loader_unload_80 : decode kb_Loader_unload 80 = .ok (.invokevirtual 134, 3) := by decide +kernel
theorem zd_Loader_unload_83 : decode kb_Loader_unload 83 = .ok (.aload_n 0, 1) := by decide +kernel
theorem zd_Loader_unload_84 : decode kb_Loader_unload 84 = .ok (.getfield 58, 3) := by decide +kernel
theorem zd_Loader_unload_87 : decode kb_Loader_unload 87 = .ok (.invokevirtual 142, 3) := by decide +kernel
theorem zd_Loader_unload_90 : decode kb_Loader_unload 90 = .ok (.ifCond .eq (11), 3) := by decide +kernel
theorem zd_Loader_unload_93 : decode kb_Loader_unload 93 = .ok (.new 73, 3) := by decide +kernel
theorem zd_Loader_unload_96 : decode kb_Loader_unload 96 = .ok (.dup, 1) := by decide +kernel
theorem zd_Loader_unload_97 : decode kb_Loader_unload 97 = .ok (.invokespecial 75, 3) := by decide +kernel
theorem zd_Loader_unload_100 : decode kb_Loader_unload 100 = .ok (.athrow, 1) := by decide +kernel
theorem zd_Loader_unload_101 : decode kb_Loader_unload 101 = .ok (.aload_n 0, 1) := by decide +kernel
theorem zd_Loader_unload_102 : decode kb_Loader_unload 102 = .ok (.aload_n 3, 1) := by decide +kernel
theorem zd_Loader_unload_103 : decode kb_Loader_unload 103 = .ok (.invokevirtual 173, 3) := by decide +kernel
theorem zd_Loader_unload_106 : decode kb_Loader_unload 106 = .ok (.return_, 1) := by decide +kernel
def zp_Loader_unload_b20 (Po : Option Value → zz_S → Prop) (Px : String → zz_S → Prop) (u : zz_S) : Prop := Px "java/lang/IllegalArgumentException" u
def zp_Loader_unload_b83 (Po : Option Value → zz_S → Prop) (Px : String → zz_S → Prop) (u : zz_S) (x3 : Option Nat) : Prop := xw_2 (zf_Report_hasFault u) fun v2 u1 => (v2 = 0 → (xw_b (zf_Loader_takeOut u1 x3) fun u3 => Po none u3)) ∧ (¬ v2 = 0 → (Px "java/lang/IllegalStateException" u1))
def zp_Loader_unload (Po : Option Value → zz_S → Prop) (Px : String → zz_S → Prop) (u : zz_S) (x1 : Int32) (x2 : Int32) : Prop := xw_2 (zf_ModuleTable_find u x1) fun v2 u1 => (v2 = none → (zp_Loader_unload_b20 Po Px u1)) ∧ (∀ a3 : Nat, v2 = some a3 → (xw_2 (zf_Loader_isFuel u1 x2) fun v5 u4 => (v5 = 0 → (zp_Loader_unload_b20 Po Px u4)) ∧ (¬ v5 = 0 → (xw_b (zf_Report_clear u4) fun u6 => xw_2 (zf_ModuleTable_howManyNeed u6 v2) fun v8 u7 => (v8 ≤ 0 → (xw_b (zz_pi u7 a3 9 4) fun v9 => (v9 = (-1 : Int32) → (zp_Loader_unload_b83 Po Px u7 v2)) ∧ (¬ v9 = (-1 : Int32) → (xw_b (zz_pi u7 a3 9 1) fun v10 => xw_b (zz_pi u7 a3 9 4) fun v11 => xw_b (zf_Loader_execute u7 (v10 + v11) (0 : Int32) (0 : Int32) x2) fun u12 => zp_Loader_unload_b83 Po Px u12 v2)))) ∧ (¬ v8 ≤ 0 → (xw_b (zf_Report_blame u7 (11 : Int32) (-1 : Int32)) fun u13 => zp_Loader_unload_b83 Po Px u13 v2))))))
set_option maxHeartbeats 4000000 in
set_option maxRecDepth 100000 in
theorem zv_Loader_unload_b20 {p : Program} {l : Launch} {e : Env} {s : State} {m : MethodId} {args : Array Value} {below : List Frame} {meth : Method} {c : Code} {A : Nat → Prop} {g : xx_G} {Po : Option Value → zz_S → Prop} {Px : String → zz_S → Prop} (C : xx_C p s m args meth c kb_Loader_unload 4 kr_Loader none) (CW : xw_C s c A) (hl0 : l.stackTraces = false) (hin : ky_Loader_unload.name = "<init>" → meth.name = "<init>") (hA : ∀ q, s.heap.size ≤ q → A q) (hK : va_K g.1 xx_cls (zz_T g) s) : ∀ (u : zz_S) (H : Heap) (locs : List Loc) (ls : Array Slot), zp_Loader_unload_b20 Po Px u → lv_has ls 4 [] → va_P g.1 xx_cls (zz_W g u) H → va_D A (zz_W g u) → va_S A s.heap H locs → W p l e (xx_rmc 6 140 1 6) s m args below meth c H locs 0 0 (xw_MQ g.1 (zz_T g) (zz_W g) Po Px A below args s 1 6) (F0 m 20 ls []) := by
  have hx := C.1
  have hb := C.2.1
  have hown := C.2.2.2.1
  have hts := C.2.2.2.2.1
  intro u H locs ls hF hl hP hD hS
  unfold zp_Loader_unload_b20 at hF
  exact xw_throw C CW hl0 (cls := "java/lang/IllegalArgumentException") (names := xw_names) (by decide +kernel) (by decide +kernel) kw_437 kw_15 (kx_90 hts CW.2.2) hK hP hD hS hl.1 hF zd_Loader_unload_20 zd_Loader_unload_23 zd_Loader_unload_24 zd_Loader_unload_27 (by decide) (by decide) (by decide) (by decide) (by decide) (by decide)
set_option maxHeartbeats 4000000 in
set_option maxRecDepth 100000 in
theorem zv_Loader_unload_b83 {p : Program} {l : Launch} {e : Env} {s : State} {m : MethodId} {args : Array Value} {below : List Frame} {meth : Method} {c : Code} {A : Nat → Prop} {g : xx_G} {Po : Option Value → zz_S → Prop} {Px : String → zz_S → Prop} (C : xx_C p s m args meth c kb_Loader_unload 4 kr_Loader none) (CW : xw_C s c A) (hl0 : l.stackTraces = false) (hin : ky_Loader_unload.name = "<init>" → meth.name = "<init>") (hA : ∀ q, s.heap.size ≤ q → A q) (hK : va_K g.1 xx_cls (zz_T g) s) : ∀ (u : zz_S) (x3 : Option Nat) (H : Heap) (locs : List Loc) (ls : Array Slot), zp_Loader_unload_b83 Po Px u x3 → lv_has ls 4 [(0, .ref (g.2.1 0)), (3, (va_rf x3))] → va_P g.1 xx_cls (zz_W g u) H → va_D A (zz_W g u) → va_S A s.heap H locs → W p l e (xx_rmc 6 140 1 6) s m args below meth c H locs 0 0 (xw_MQ g.1 (zz_T g) (zz_W g) Po Px A below args s 1 6) (F0 m 83 ls []) := by
  have hx := C.1
  have hb := C.2.1
  have hown := C.2.2.2.1
  have hts := C.2.2.2.2.1
  intro u x3 H locs ls hF hl hP hD hS
  unfold zp_Loader_unload_b83 at hF
  refine lv_aload_n hx hb zd_Loader_unload_83 rfl (lv_at hl 0 rfl) ?_
  refine xx_get C ki_Loader hK hP 0 rfl rfl 6 (by decide) kw_193 rfl rfl zd_Loader_unload_84 ?_
  obtain ⟨v2, u1, eu1, hF⟩ := hF
  refine xx_callV (cells1 := 0) (slots1 := 0) (n := 0) (As := []) (rest := []) C (zc_Report_hasFault l g u v2 u1 eu1) ⟨kw_593, kw_590, kw_591, kw_592, kw_8⟩ ⟨by decide +kernel, by decide +kernel, by decide +kernel⟩ rfl ⟨Nat.le_of_ble_eq_true rfl, Nat.le_of_ble_eq_true rfl⟩ 13 rfl rfl hl.1 rfl (Nat.le_of_ble_eq_true rfl) hA hK hP hD hS ⟨by decide, by decide⟩ rfl rfl rfl zd_Loader_unload_87 (fun H locs hP hD hS => ?_)
  refine lv_if_eq (tgt := 101) hx hb zd_Loader_unload_90 (by decide) (fun hc => ?_) (fun hc => ?_)
  · have hF := hF.1 hc
    refine lv_aload_n hx hb zd_Loader_unload_101 rfl (lv_at hl 0 rfl) ?_
    refine xx_ald C zd_Loader_unload_102 rfl (lv_at hl 1 rfl) ?_
    obtain ⟨u3, eu3, hF⟩ := hF
    refine xx_callV (cells1 := 0) (slots1 := 0) (n := 1) (As := [(va_rf x3)]) (rest := []) C (zc_Loader_takeOut l g u1 x3 u3 eu3) ⟨kw_837, kw_834, kw_836, ks_Loader_takeOut, kw_1⟩ ⟨by decide +kernel, by decide +kernel, by decide +kernel⟩ rfl ⟨Nat.le_of_ble_eq_true rfl, Nat.le_of_ble_eq_true rfl⟩ 0 rfl rfl hl.1 rfl (Nat.le_of_ble_eq_true rfl) hA hK hP hD hS ⟨by decide, by decide⟩ rfl rfl rfl zd_Loader_unload_103 (fun H locs hP hD hS => ?_)
    exact xw_vret C (by decide) (by decide) hF hK hP hD hS zd_Loader_unload_106
  · have hF := hF.2 hc
    exact xw_throw C CW hl0 (cls := "java/lang/IllegalStateException") (names := xw_names) (by decide +kernel) (by decide +kernel) kw_407 kw_14 (kx_75 hts CW.2.2) hK hP hD hS hl.1 hF zd_Loader_unload_93 zd_Loader_unload_96 zd_Loader_unload_97 zd_Loader_unload_100 (by decide) (by decide) (by decide) (by decide) (by decide) (by decide)
set_option maxHeartbeats 4000000 in
set_option maxRecDepth 100000 in
theorem zc_Loader_unload (l : Launch) (hl0 : l.stackTraces = false) (g : xx_G) (u : zz_S) (x1 : Int32) (x2 : Int32) (Po : Option Value → zz_S → Prop) (Px : String → zz_S → Prop) (hF : zp_Loader_unload Po Px u x1 x2) : xw_M l g.1 (zz_T g) (zz_W g) ky_Loader_unload kb_Loader_unload 4 none (xx_rmc 6 140 1 6) [.ref (g.2.1 0), .int x1, .int x2] u Po Px := by
  refine xw_body (by decide) (Nat.le_of_ble_eq_true rfl) ?_
  intro p e s m args below meth c A ls C CW hin hK hl hA hP hD hS
  have hx := C.1
  have hb := C.2.1
  have hown := C.2.2.2.1
  have hts := C.2.2.2.2.1
  have hl : lv_has ls 4 [(0, .ref (g.2.1 0)), (1, .int x1), (2, .int x2)] := hl
  unfold zp_Loader_unload at hF
  refine lv_aload_n hx hb zd_Loader_unload_0 rfl (lv_at hl 0 rfl) ?_
  refine xx_get C ki_Loader hK hP 0 rfl rfl 5 (by decide) kw_192 rfl rfl zd_Loader_unload_1 ?_
  refine lv_iload_n hx hb zd_Loader_unload_4 rfl (lv_at hl 1 rfl) ?_
  obtain ⟨v2, u1, eu1, hF⟩ := hF
  refine xx_callV (cells1 := 0) (slots1 := 0) (n := 1) (As := [.int x1]) (rest := []) C (zc_ModuleTable_find l g u x1 v2 u1 eu1) ⟨kw_279, kw_276, kw_277, kw_278, kw_7⟩ ⟨by decide +kernel, by decide +kernel, by decide +kernel⟩ rfl ⟨Nat.le_of_ble_eq_true rfl, Nat.le_of_ble_eq_true rfl⟩ 11 rfl rfl hl.1 rfl (Nat.le_of_ble_eq_true rfl) hA hK hP hD hS ⟨by decide, by decide⟩ rfl rfl rfl zd_Loader_unload_5 (fun H locs hP hD hS => ?_)
  refine xx_ast C zd_Loader_unload_8 rfl hl (by decide) rfl (fun ls hl => ?_)
  refine xx_ald C zd_Loader_unload_9 rfl (lv_at hl 0 rfl) ?_
  refine xx_ifnull (tgt := 20) C zd_Loader_unload_10 (by decide) (fun en => ?_) (fun a3 ea3 => ?_)
  · have hF := hF.1 en
    exact zv_Loader_unload_b20 C CW hl0 hin hA hK u1 _ _ _ hF (lv_sub hl [] rfl) hP hD hS
  · have hF := hF.2 a3 ea3
    refine lv_iload_n hx hb zd_Loader_unload_13 rfl (lv_at hl 3 rfl) ?_
    obtain ⟨v5, u4, eu4, hF⟩ := hF
    refine xx_callS (cells1 := 0) (slots1 := 0) (n := 1) (As := [.int x2]) (rest := []) C (zc_Loader_isFuel l g u1 x2 v5 u4 eu4) ⟨kw_493, kw_491, kw_492, kw_1⟩ ⟨by decide +kernel, by decide +kernel, by decide +kernel⟩ rfl ⟨Nat.le_of_ble_eq_true rfl, Nat.le_of_ble_eq_true rfl⟩ hl.1 rfl (Nat.le_of_ble_eq_true rfl) hA hK hP hD hS ⟨by decide, by decide⟩ rfl rfl rfl zd_Loader_unload_14 (fun H locs hP hD hS => ?_)
    refine lv_if_ne (tgt := 28) hx hb zd_Loader_unload_17 (by decide) (fun hc => ?_) (fun hc => ?_)
    · have hF := hF.2 hc
      refine lv_aload_n hx hb zd_Loader_unload_28 rfl (lv_at hl 1 rfl) ?_
      refine xx_get C ki_Loader hK hP 0 rfl rfl 6 (by decide) kw_193 rfl rfl zd_Loader_unload_29 ?_
      obtain ⟨u6, eu6, hF⟩ := hF
      refine xx_callV (cells1 := 0) (slots1 := 0) (n := 0) (As := []) (rest := []) C (zc_Report_clear l g u4 u6 eu6) ⟨kw_497, kw_494, kw_495, kw_496, kw_8⟩ ⟨by decide +kernel, by decide +kernel, by decide +kernel⟩ rfl ⟨Nat.le_of_ble_eq_true rfl, Nat.le_of_ble_eq_true rfl⟩ 13 rfl rfl hl.1 rfl (Nat.le_of_ble_eq_true rfl) hA hK hP hD hS ⟨by decide, by decide⟩ rfl rfl rfl zd_Loader_unload_32 (fun H locs hP hD hS => ?_)
      refine lv_aload_n hx hb zd_Loader_unload_35 rfl (lv_at hl 1 rfl) ?_
      refine xx_get C ki_Loader hK hP 0 rfl rfl 5 (by decide) kw_192 rfl rfl zd_Loader_unload_36 ?_
      refine xx_ald C zd_Loader_unload_39 rfl (lv_at hl 0 rfl) ?_
      obtain ⟨v8, u7, eu7, hF⟩ := hF
      refine xx_callV (cells1 := 0) (slots1 := 0) (n := 1) (As := [(va_rf v2)]) (rest := []) C (zc_ModuleTable_howManyNeed l g u6 v2 v8 u7 eu7) ⟨kw_283, kw_280, kw_281, kw_282, kw_7⟩ ⟨by decide +kernel, by decide +kernel, by decide +kernel⟩ rfl ⟨Nat.le_of_ble_eq_true rfl, Nat.le_of_ble_eq_true rfl⟩ 11 rfl rfl hl.1 rfl (Nat.le_of_ble_eq_true rfl) hA hK hP hD hS ⟨by decide, by decide⟩ rfl rfl rfl zd_Loader_unload_40 (fun H locs hP hD hS => ?_)
      refine lv_if_le (tgt := 59) hx hb zd_Loader_unload_43 (by decide) (fun hc => ?_) (fun hc => ?_)
      · have hF := hF.1 hc
        refine xx_ald C zd_Loader_unload_59 rfl (lv_at hl 0 rfl) ?_
        rw [ea3]
        obtain ⟨v9, ev9, hF⟩ := hF
        refine zz_get (a := a3) (u := u7) (ci := 9) C ki_LoadedModule hK hP rfl 4 (by decide) kw_685 rfl (zz_pi_some ev9) zd_Loader_unload_60 ?_
        refine lv_iconst (v := (-1 : Int32)) hx hb zd_Loader_unload_63 (by decide) ?_
        refine lv_icmp_eq (tgt := 83) hx hb zd_Loader_unload_64 (by decide) (fun hc => ?_) (fun hc => ?_)
        · have hF := hF.1 hc
          exact zv_Loader_unload_b83 C CW hl0 hin hA hK u7 v2 _ _ _ hF (lv_sub hl [1, 0] rfl) hP hD hS
        · have hF := hF.2 hc
          refine lv_aload_n hx hb zd_Loader_unload_67 rfl (lv_at hl 1 rfl) ?_
          refine xx_ald C zd_Loader_unload_68 rfl (lv_at hl 0 rfl) ?_
          rw [ea3]
          obtain ⟨v10, ev10, hF⟩ := hF
          refine zz_get (a := a3) (u := u7) (ci := 9) C ki_LoadedModule hK hP rfl 1 (by decide) kw_678 rfl (zz_pi_some ev10) zd_Loader_unload_69 ?_
          refine xx_ald C zd_Loader_unload_72 rfl (lv_at hl 0 rfl) ?_
          rw [ea3]
          obtain ⟨v11, ev11, hF⟩ := hF
          refine zz_get (a := a3) (u := u7) (ci := 9) C ki_LoadedModule hK hP rfl 4 (by decide) kw_685 rfl (zz_pi_some ev11) zd_Loader_unload_73 ?_
          refine lv_iadd hx hb zd_Loader_unload_76 ?_
          refine lv_iconst (v := (0 : Int32)) hx hb zd_Loader_unload_77 (by decide) ?_
          refine lv_iconst (v := (0 : Int32)) hx hb zd_Loader_unload_78 (by decide) ?_
          refine lv_iload_n hx hb zd_Loader_unload_79 rfl (lv_at hl 3 rfl) ?_
          obtain ⟨u12, eu12, hF⟩ := hF
          refine xx_callV (cells1 := 0) (slots1 := 0) (n := 4) (As := [.int (v10 + v11), .int (0 : Int32), .int (0 : Int32), .int x2]) (rest := []) C (zc_Loader_execute l g u7 (v10 + v11) (0 : Int32) (0 : Int32) x2 u12 eu12) ⟨kw_737, kw_734, kw_736, ks_Loader_execute, kw_1⟩ ⟨by decide +kernel, by decide +kernel, by decide +kernel⟩ rfl ⟨Nat.le_of_ble_eq_true rfl, Nat.le_of_ble_eq_true rfl⟩ 0 rfl rfl hl.1 rfl (Nat.le_of_ble_eq_true rfl) hA hK hP hD hS ⟨by decide, by decide⟩ rfl rfl rfl zd_Loader_unload_80 (fun H locs hP hD hS => ?_)
          exact zv_Loader_unload_b83 C CW hl0 hin hA hK u12 v2 _ _ _ hF (lv_sub hl [1, 0] rfl) hP hD hS
      · have hF := hF.2 hc
        refine lv_aload_n hx hb zd_Loader_unload_46 rfl (lv_at hl 1 rfl) ?_
        refine xx_get C ki_Loader hK hP 0 rfl rfl 6 (by decide) kw_193 rfl rfl zd_Loader_unload_47 ?_
        refine lv_bipush (v := (11 : Int32)) hx hb zd_Loader_unload_50 (by decide) ?_
        refine lv_iconst (v := (-1 : Int32)) hx hb zd_Loader_unload_52 (by decide) ?_
        obtain ⟨u13, eu13, hF⟩ := hF
        refine xx_callV (cells1 := 0) (slots1 := 0) (n := 2) (As := [.int (11 : Int32), .int (-1 : Int32)]) (rest := []) C (zc_Report_blame l g u7 (11 : Int32) (-1 : Int32) u13 eu13) ⟨kw_572, kw_569, kw_570, kw_571, kw_8⟩ ⟨by decide +kernel, by decide +kernel, by decide +kernel⟩ rfl ⟨Nat.le_of_ble_eq_true rfl, Nat.le_of_ble_eq_true rfl⟩ 13 rfl rfl hl.1 rfl (Nat.le_of_ble_eq_true rfl) hA hK hP hD hS ⟨by decide, by decide⟩ rfl rfl rfl zd_Loader_unload_53 (fun H locs hP hD hS => ?_)
        refine lv_goto (tgt := 83) hx hb zd_Loader_unload_56 (by decide) ?_
        exact zv_Loader_unload_b83 C CW hl0 hin hA hK u13 v2 _ _ _ hF (lv_sub hl [1, 0] rfl) hP hD hS
    · have hF := hF.1 hc
      exact zv_Loader_unload_b20 C CW hl0 hin hA hK u4 _ _ _ hF (lv_sub hl [] rfl) hP hD hS
theorem zd_Loader_call_0 : decode kb_Loader_call 0 = .ok (.aload_n 0, 1) := by decide +kernel
theorem zd_Loader_call_1 : decode kb_Loader_call 1 = .ok (.getfield 44, 3) := by decide +kernel
theorem zd_Loader_call_4 : decode kb_Loader_call 4 = .ok (.iload_n 1, 1) := by decide +kernel
theorem zd_Loader_call_5 : decode kb_Loader_call 5 = .ok (.invokevirtual 91, 3) := by decide +kernel
theorem zd_Loader_call_8 : decode kb_Loader_call 8 = .ok (.astore 5, 2) := by decide +kernel
theorem zd_Loader_call_10 : decode kb_Loader_call 10 = .ok (.aload 5, 2) := by decide +kernel
theorem zd_Loader_call_12 : decode kb_Loader_call 12 = .ok (.ifnull (11), 3) := by decide +kernel
theorem zd_Loader_call_15 : decode kb_Loader_call 15 = .ok (.iload 4, 2) := by decide +kernel
theorem zd_Loader_call_17 : decode kb_Loader_call 17 = .ok (.invokestatic 114, 3) := by decide +kernel
theorem zd_Loader_call_20 : decode kb_Loader_call 20 = .ok (.ifCond .ne (11), 3) := by decide +kernel
theorem zd_Loader_call_23 : decode kb_Loader_call 23 = .ok (.new 88, 3) := by decide +kernel
theorem zd_Loader_call_26 : decode kb_Loader_call 26 = .ok (.dup, 1) := by decide +kernel
theorem zd_Loader_call_27 : decode kb_Loader_call 27 = .ok (.invokespecial 90, 3) := by decide +kernel
theorem zd_Loader_call_30 : decode kb_Loader_call 30 = .ok (.athrow, 1) := by decide +kernel
theorem zd_Loader_call_31 : decode kb_Loader_call 31 = .ok (.aload_n 0, 1) := by decide +kernel
theorem zd_Loader_call_32 : decode kb_Loader_call 32 = .ok (.getfield 58, 3) := by decide +kernel
theorem zd_Loader_call_35 : decode kb_Loader_call 35 = .ok (.invokevirtual 117, 3) := by decide +kernel
theorem zd_Loader_call_38 : decode kb_Loader_call 38 = .ok (.aload_n 0, 1) := by decide +kernel
theorem zd_Loader_call_39 : decode kb_Loader_call 39 = .ok (.aload 5, 2) := by decide +kernel
theorem zd_Loader_call_41 : decode kb_Loader_call 41 = .ok (.getfield 176, 3) := by decide +kernel
theorem zd_Loader_call_44 : decode kb_Loader_call 44 = .ok (.iload_n 2, 1) := by decide +kernel
theorem zd_Loader_call_45 : decode kb_Loader_call 45 = .ok (.iload_n 3, 1) := by decide +kernel
theorem zd_Loader_call_46 : decode kb_Loader_call 46 = .ok (.iload 4, 2) := by decide +kernel
theorem zd_Loader_call_48 : decode kb_Loader_call 48 = .ok (.invokevirtual 134, 3) := by decide +kernel
theorem zd_Loader_call_51 : decode kb_Loader_call 51 = .ok (.aload_n 0, 1) := by decide +kernel
theorem zd_Loader_call_52 : decode kb_Loader_call 52 = .ok (.getfield 58, 3) := by decide +kernel
theorem zd_Loader_call_55 : decode kb_Loader_call 55 = .ok (.invokevirtual 142, 3) := by decide +kernel
theorem zd_Loader_call_58 : decode kb_Loader_call 58 = .ok (.ifCond .eq (11), 3) := by decide +kernel
theorem zd_Loader_call_61 : decode kb_Loader_call 61 = .ok (.new 73, 3) := by decide +kernel
theorem zd_Loader_call_64 : decode kb_Loader_call 64 = .ok (.dup, 1) := by decide +kernel
theorem zd_Loader_call_65 : decode kb_Loader_call 65 = .ok (.invokespecial 75, 3) := by decide +kernel
theorem zd_Loader_call_68 : decode kb_Loader_call 68 = .ok (.athrow, 1) := by decide +kernel
theorem zd_Loader_call_69 : decode kb_Loader_call 69 = .ok (.aload_n 0, 1) := by decide +kernel
theorem zd_Loader_call_70 : decode kb_Loader_call 70 = .ok (.getfield 58, 3) := by decide +kernel
theorem zd_Loader_call_73 : decode kb_Loader_call 73 = .ok (.getfield 158, 3) := by decide +kernel
theorem zd_Loader_call_76 : decode kb_Loader_call 76 = .ok (.ireturn, 1) := by decide +kernel
def zp_Loader_call_b23 (Po : Option Value → zz_S → Prop) (Px : String → zz_S → Prop) (u : zz_S) : Prop := Px "java/lang/IllegalArgumentException" u
def zp_Loader_call (Po : Option Value → zz_S → Prop) (Px : String → zz_S → Prop) (u : zz_S) (x1 : Int32) (x2 : Int32) (x3 : Int32) (x4 : Int32) : Prop := xw_2 (zf_SymbolTable_find u x1) fun v2 u1 => (v2 = none → (zp_Loader_call_b23 Po Px u1)) ∧ (∀ a3 : Nat, v2 = some a3 → (xw_2 (zf_Loader_isFuel u1 x4) fun v5 u4 => (v5 = 0 → (zp_Loader_call_b23 Po Px u4)) ∧ (¬ v5 = 0 → (xw_b (zf_Report_clear u4) fun u6 => xw_b (zz_pi u6 a3 7 2) fun v7 => xw_b (zf_Loader_execute u6 v7 x2 x3 x4) fun u8 => xw_2 (zf_Report_hasFault u8) fun v10 u9 => (v10 = 0 → (Po (some (.int (u9.1 21))) u9)) ∧ (¬ v10 = 0 → (Px "java/lang/IllegalStateException" u9))))))
set_option maxHeartbeats 4000000 in
set_option maxRecDepth 100000 in
theorem zv_Loader_call_b23 {p : Program} {l : Launch} {e : Env} {s : State} {m : MethodId} {args : Array Value} {below : List Frame} {meth : Method} {c : Code} {A : Nat → Prop} {g : xx_G} {Po : Option Value → zz_S → Prop} {Px : String → zz_S → Prop} (C : xx_C p s m args meth c kb_Loader_call 6 kr_Loader (some .int)) (CW : xw_C s c A) (hl0 : l.stackTraces = false) (hin : ky_Loader_call.name = "<init>" → meth.name = "<init>") (hA : ∀ q, s.heap.size ≤ q → A q) (hK : va_K g.1 xx_cls (zz_T g) s) : ∀ (u : zz_S) (H : Heap) (locs : List Loc) (ls : Array Slot), zp_Loader_call_b23 Po Px u → lv_has ls 6 [] → va_P g.1 xx_cls (zz_W g u) H → va_D A (zz_W g u) → va_S A s.heap H locs → W p l e (xx_rmc 6 140 1 6) s m args below meth c H locs 0 0 (xw_MQ g.1 (zz_T g) (zz_W g) Po Px A below args s 1 6) (F0 m 23 ls []) := by
  have hx := C.1
  have hb := C.2.1
  have hown := C.2.2.2.1
  have hts := C.2.2.2.2.1
  intro u H locs ls hF hl hP hD hS
  unfold zp_Loader_call_b23 at hF
  exact xw_throw C CW hl0 (cls := "java/lang/IllegalArgumentException") (names := xw_names) (by decide +kernel) (by decide +kernel) kw_437 kw_15 (kx_90 hts CW.2.2) hK hP hD hS hl.1 hF zd_Loader_call_23 zd_Loader_call_26 zd_Loader_call_27 zd_Loader_call_30 (by decide) (by decide) (by decide) (by decide) (by decide) (by decide)
set_option maxHeartbeats 4000000 in
set_option maxRecDepth 100000 in
theorem zc_Loader_call (l : Launch) (hl0 : l.stackTraces = false) (g : xx_G) (u : zz_S) (x1 : Int32) (x2 : Int32) (x3 : Int32) (x4 : Int32) (Po : Option Value → zz_S → Prop) (Px : String → zz_S → Prop) (hF : zp_Loader_call Po Px u x1 x2 x3 x4) : xw_M l g.1 (zz_T g) (zz_W g) ky_Loader_call kb_Loader_call 6 (some .int) (xx_rmc 6 140 1 6) [.ref (g.2.1 0), .int x1, .int x2, .int x3, .int x4] u Po Px := by
  refine xw_body (by decide) (Nat.le_of_ble_eq_true rfl) ?_
  intro p e s m args below meth c A ls C CW hin hK hl hA hP hD hS
  have hx := C.1
  have hb := C.2.1
  have hown := C.2.2.2.1
  have hts := C.2.2.2.2.1
  have hl : lv_has ls 6 [(0, .ref (g.2.1 0)), (1, .int x1), (2, .int x2), (3, .int x3), (4, .int x4)] := hl
  unfold zp_Loader_call at hF
  refine lv_aload_n hx hb zd_Loader_call_0 rfl (lv_at hl 0 rfl) ?_
  refine xx_get C ki_Loader hK hP 0 rfl rfl 4 (by decide) kw_191 rfl rfl zd_Loader_call_1 ?_
  refine lv_iload_n hx hb zd_Loader_call_4 rfl (lv_at hl 1 rfl) ?_
  obtain ⟨v2, u1, eu1, hF⟩ := hF
  refine xx_callV (cells1 := 0) (slots1 := 0) (n := 1) (As := [.int x1]) (rest := []) C (zc_SymbolTable_find l g u x1 v2 u1 eu1) ⟨kw_271, kw_268, kw_269, kw_270, kw_6⟩ ⟨by decide +kernel, by decide +kernel, by decide +kernel⟩ rfl ⟨Nat.le_of_ble_eq_true rfl, Nat.le_of_ble_eq_true rfl⟩ 9 rfl rfl hl.1 rfl (Nat.le_of_ble_eq_true rfl) hA hK hP hD hS ⟨by decide, by decide⟩ rfl rfl rfl zd_Loader_call_5 (fun H locs hP hD hS => ?_)
  refine xx_astW C zd_Loader_call_8 hl (by decide) rfl (fun ls hl => ?_)
  refine xx_aldW C zd_Loader_call_10 (lv_at hl 0 rfl) ?_
  refine xx_ifnull (tgt := 23) C zd_Loader_call_12 (by decide) (fun en => ?_) (fun a3 ea3 => ?_)
  · have hF := hF.1 en
    exact zv_Loader_call_b23 C CW hl0 hin hA hK u1 _ _ _ hF (lv_sub hl [] rfl) hP hD hS
  · have hF := hF.2 a3 ea3
    refine lv_iload hx hb zd_Loader_call_15 (lv_at hl 5 rfl) ?_
    obtain ⟨v5, u4, eu4, hF⟩ := hF
    refine xx_callS (cells1 := 0) (slots1 := 0) (n := 1) (As := [.int x4]) (rest := []) C (zc_Loader_isFuel l g u1 x4 v5 u4 eu4) ⟨kw_493, kw_491, kw_492, kw_1⟩ ⟨by decide +kernel, by decide +kernel, by decide +kernel⟩ rfl ⟨Nat.le_of_ble_eq_true rfl, Nat.le_of_ble_eq_true rfl⟩ hl.1 rfl (Nat.le_of_ble_eq_true rfl) hA hK hP hD hS ⟨by decide, by decide⟩ rfl rfl rfl zd_Loader_call_17 (fun H locs hP hD hS => ?_)
    refine lv_if_ne (tgt := 31) hx hb zd_Loader_call_20 (by decide) (fun hc => ?_) (fun hc => ?_)
    · have hF := hF.2 hc
      refine lv_aload_n hx hb zd_Loader_call_31 rfl (lv_at hl 1 rfl) ?_
      refine xx_get C ki_Loader hK hP 0 rfl rfl 6 (by decide) kw_193 rfl rfl zd_Loader_call_32 ?_
      obtain ⟨u6, eu6, hF⟩ := hF
      refine xx_callV (cells1 := 0) (slots1 := 0) (n := 0) (As := []) (rest := []) C (zc_Report_clear l g u4 u6 eu6) ⟨kw_497, kw_494, kw_495, kw_496, kw_8⟩ ⟨by decide +kernel, by decide +kernel, by decide +kernel⟩ rfl ⟨Nat.le_of_ble_eq_true rfl, Nat.le_of_ble_eq_true rfl⟩ 13 rfl rfl hl.1 rfl (Nat.le_of_ble_eq_true rfl) hA hK hP hD hS ⟨by decide, by decide⟩ rfl rfl rfl zd_Loader_call_35 (fun H locs hP hD hS => ?_)
      refine lv_aload_n hx hb zd_Loader_call_38 rfl (lv_at hl 1 rfl) ?_
      refine xx_aldW C zd_Loader_call_39 (lv_at hl 0 rfl) ?_
      rw [ea3]
      obtain ⟨v7, ev7, hF⟩ := hF
      refine zz_get (a := a3) (u := u6) (ci := 7) C ki_Symbol hK hP rfl 2 (by decide) kw_467 rfl (zz_pi_some ev7) zd_Loader_call_41 ?_
      refine lv_iload_n hx hb zd_Loader_call_44 rfl (lv_at hl 3 rfl) ?_
      refine lv_iload_n hx hb zd_Loader_call_45 rfl (lv_at hl 4 rfl) ?_
      refine lv_iload hx hb zd_Loader_call_46 (lv_at hl 5 rfl) ?_
      obtain ⟨u8, eu8, hF⟩ := hF
      refine xx_callV (cells1 := 0) (slots1 := 0) (n := 4) (As := [.int v7, .int x2, .int x3, .int x4]) (rest := []) C (zc_Loader_execute l g u6 v7 x2 x3 x4 u8 eu8) ⟨kw_737, kw_734, kw_736, ks_Loader_execute, kw_1⟩ ⟨by decide +kernel, by decide +kernel, by decide +kernel⟩ rfl ⟨Nat.le_of_ble_eq_true rfl, Nat.le_of_ble_eq_true rfl⟩ 0 rfl rfl hl.1 rfl (Nat.le_of_ble_eq_true rfl) hA hK hP hD hS ⟨by decide, by decide⟩ rfl rfl rfl zd_Loader_call_48 (fun H locs hP hD hS => ?_)
      refine lv_aload_n hx hb zd_Loader_call_51 rfl (lv_at hl 1 rfl) ?_
      refine xx_get C ki_Loader hK hP 0 rfl rfl 6 (by decide) kw_193 rfl rfl zd_Loader_call_52 ?_
      obtain ⟨v10, u9, eu9, hF⟩ := hF
      refine xx_callV (cells1 := 0) (slots1 := 0) (n := 0) (As := []) (rest := []) C (zc_Report_hasFault l g u8 v10 u9 eu9) ⟨kw_593, kw_590, kw_591, kw_592, kw_8⟩ ⟨by decide +kernel, by decide +kernel, by decide +kernel⟩ rfl ⟨Nat.le_of_ble_eq_true rfl, Nat.le_of_ble_eq_true rfl⟩ 13 rfl rfl hl.1 rfl (Nat.le_of_ble_eq_true rfl) hA hK hP hD hS ⟨by decide, by decide⟩ rfl rfl rfl zd_Loader_call_55 (fun H locs hP hD hS => ?_)
      refine lv_if_eq (tgt := 69) hx hb zd_Loader_call_58 (by decide) (fun hc => ?_) (fun hc => ?_)
      · have hF := hF.1 hc
        refine lv_aload_n hx hb zd_Loader_call_69 rfl (lv_at hl 1 rfl) ?_
        refine xx_get C ki_Loader hK hP 0 rfl rfl 6 (by decide) kw_193 rfl rfl zd_Loader_call_70 ?_
        refine xx_get C ki_Report hK hP 13 rfl rfl 4 (by decide) kw_175 rfl rfl zd_Loader_call_73 ?_
        exact xw_iret C (by decide) (by decide) hF hK hP hD hS zd_Loader_call_76
      · have hF := hF.2 hc
        exact xw_throw C CW hl0 (cls := "java/lang/IllegalStateException") (names := xw_names) (by decide +kernel) (by decide +kernel) kw_407 kw_14 (kx_75 hts CW.2.2) hK hP hD hS hl.1 hF zd_Loader_call_61 zd_Loader_call_64 zd_Loader_call_65 zd_Loader_call_68 (by decide) (by decide) (by decide) (by decide) (by decide) (by decide)
    · have hF := hF.1 hc
      exact zv_Loader_call_b23 C CW hl0 hin hA hK u4 _ _ _ hF (lv_sub hl [] rfl) hP hD hS
set_option maxRecDepth 100000 in
theorem kw_501 : Cond.code ky_Loader_bringIn kb_Loader_bringIn 3 (some (.object "ModuleLoader$LoadedModule")) ∈ xx_tb := xx_in (List.mem_append_right _ (List.mem_of_getElem? (i := 501) (by rfl))) (by decide +kernel)
theorem kw_498 : Cond.methodLink "ModuleLoader" 120 ky_Loader_bringIn ∈ xx_tb := xx_in (List.mem_append_right _ (List.mem_of_getElem? (i := 498) (by decide +kernel))) (by decide +kernel)
theorem kw_500 : Cond.instanceMethod ky_Loader_bringIn ∈ xx_tb := xx_in (List.mem_append_right _ (List.mem_of_getElem? (i := 500) (by decide +kernel))) (by decide +kernel)
theorem ks_Loader_bringIn : Cond.selects "ModuleLoader" ky_Loader_bringIn ky_Loader_bringIn ∈ xx_tb := xx_in (List.mem_append_left _ (by decide +kernel)) (by decide +kernel)
set_option maxRecDepth 100000 in
theorem kw_733 : Cond.code ky_Tape_clear kb_Tape_clear 1 none ∈ xx_tb := xx_in (List.mem_append_right _ (List.mem_of_getElem? (i := 733) (by rfl))) (by decide +kernel)
theorem kw_730 : Cond.methodLink "ModuleLoader" 124 ky_Tape_clear ∈ xx_tb := xx_in (List.mem_append_right _ (List.mem_of_getElem? (i := 730) (by decide +kernel))) (by decide +kernel)
theorem kw_731 : Cond.instanceMethod ky_Tape_clear ∈ xx_tb := xx_in (List.mem_append_right _ (List.mem_of_getElem? (i := 731) (by decide +kernel))) (by decide +kernel)
theorem kw_732 : Cond.selects "ModuleLoader$Tape" ky_Tape_clear ky_Tape_clear ∈ xx_tb := xx_in (List.mem_append_right _ (List.mem_of_getElem? (i := 732) (by decide +kernel))) (by decide +kernel)
theorem kw_98 : Cond.fieldLink "ModuleLoader" 125 "ModuleLoader$ModuleFile" "init" "I" ∈ xx_tb := xx_in (List.mem_append_right _ (List.mem_of_getElem? (i := 98) (by decide +kernel))) (by decide +kernel)
set_option maxRecDepth 100000 in
theorem kw_833 : Cond.code ky_Loader_judgeInit kb_Loader_judgeInit 2 none ∈ xx_tb := xx_in (List.mem_append_right _ (List.mem_of_getElem? (i := 833) (by rfl))) (by decide +kernel)
theorem kw_830 : Cond.methodLink "ModuleLoader" 138 ky_Loader_judgeInit ∈ xx_tb := xx_in (List.mem_append_right _ (List.mem_of_getElem? (i := 830) (by decide +kernel))) (by decide +kernel)
theorem kw_832 : Cond.instanceMethod ky_Loader_judgeInit ∈ xx_tb := xx_in (List.mem_append_right _ (List.mem_of_getElem? (i := 832) (by decide +kernel))) (by decide +kernel)
theorem ks_Loader_judgeInit : Cond.selects "ModuleLoader" ky_Loader_judgeInit ky_Loader_judgeInit ∈ xx_tb := xx_in (List.mem_append_left _ (by decide +kernel)) (by decide +kernel)
theorem zd_Loader_load_0 : decode kb_Loader_load 0 = .ok (.iload_n 1, 1) := by decide +kernel
theorem zd_Loader_load_1 : decode kb_Loader_load 1 = .ok (.invokestatic 84, 3) := by decide +kernel
theorem zd_Loader_load_4 : decode kb_Loader_load 4 = .ok (.ifCond .eq (10), 3) := by decide +kernel
theorem zd_Loader_load_7 : decode kb_Loader_load 7 = .ok (.iload_n 2, 1) := by decide +kernel
theorem zd_Loader_load_8 : decode kb_Loader_load 8 = .ok (.invokestatic 114, 3) := by decide +kernel
theorem zd_Loader_load_11 : decode kb_Loader_load 11 = .ok (.ifCond .ne (11), 3) := by decide +kernel
theorem zd_Loader_load_14 : decode kb_Loader_load 14 = .ok (.new 88, 3) := by decide +kernel
theorem zd_Loader_load_17 : decode kb_Loader_load 17 = .ok (.dup, 1) := by decide +kernel
theorem zd_Loader_load_18 : decode kb_Loader_load 18 = .ok (.invokespecial 90, 3) := by decide +kernel
theorem zd_Loader_load_21 : decode kb_Loader_load 21 = .ok (.athrow, 1) := by decide +kernel
theorem zd_Loader_load_22 : decode kb_Loader_load 22 = .ok (.aload_n 0, 1) := by decide +kernel
theorem zd_Loader_load_23 : decode kb_Loader_load 23 = .ok (.getfield 58, 3) := by decide +kernel
theorem zd_Loader_load_26 : decode kb_Loader_load 26 = .ok (.invokevirtual 117, 3) := by decide +kernel
theorem zd_Loader_load_29 : decode kb_Loader_load 29 = .ok (.aload_n 0, 1) := by decide +kernel
theorem zd_Loader_load_30 : decode kb_Loader_load 30 = .ok (.iload_n 1, 1) := by decide +kernel
theorem zd_Loader_load_31 : decode kb_Loader_load 31 = .ok (.invokevirtual 120, 3) := by decide +kernel
theorem zd_Loader_load_34 : decode kb_Loader_load 34 = .ok (.astore_n 3, 1) := by decide +kernel
theorem zd_Loader_load_35 : decode kb_Loader_load 35 = .ok (.aload_n 0, 1) := by decide +kernel
theorem zd_Loader_load_36 : decode kb_Loader_load 36 = .ok (.getfield 28, 3) := by decide +kernel
theorem zd_Loader_load_39 : decode kb_Loader_load 39 = .ok (.invokevirtual 124, 3) := by decide +kernel
theorem zd_Loader_load_42 : decode kb_Loader_load 42 = .ok (.aload_n 3, 1) := by decide +kernel
theorem zd_Loader_load_43 : decode kb_Loader_load 43 = .ok (.ifnull (38), 3) := by decide +kernel
theorem zd_Loader_load_46 : decode kb_Loader_load 46 = .ok (.aload_n 0, 1) := by decide +kernel
theorem zd_Loader_load_47 : decode kb_Loader_load 47 = .ok (.getfield 37, 3) := by decide +kernel
theorem zd_Loader_load_50 : decode kb_Loader_load 50 = .ok (.getfield 125, 3) := by decide +kernel
theorem zd_Loader_load_53 : decode kb_Loader_load 53 = .ok (.iconst (-1), 1) := by decide +kernel
theorem zd_Loader_load_54 : decode kb_Loader_load 54 = .ok (.if_icmp .eq (27), 3) := by decide +kernel
theorem zd_Loader_load_57 : decode kb_Loader_load 57 = .ok (.aload_n 0, 1) := by decide +kernel
theorem zd_Loader_load_58 : decode kb_Loader_load 58 = .ok (.aload_n 3, 1) := by decide +kernel
theorem zd_Loader_load_59 : decode kb_Loader_load 59 = .ok (.getfield 129, 3) := by decide +kernel
theorem zd_Loader_load_62 : decode kb_Loader_load 62 = .ok (.aload_n 0, 1) := by decide +kernel
theorem zd_Loader_load_63 : decode kb_Loader_load 63 = .ok (.getfield 37, 3) := by decide +kernel
theorem zd_Loader_load_66 : decode kb_Loader_load 66 = .ok (.getfield 125, 3) := by decide +kernel
theorem zd_Loader_load_69 : decode kb_Loader_load 69 = .ok (.iadd, 1) := by decide +kernel
theorem zd_Loader_load_70 : decode kb_Loader_load 70 = .ok (.iconst 0, 1) := by decide +kernel
theorem zd_Loader_load_71 : decode kb_Loader_load 71 = .ok (.iconst 0, 1) := by decide +kernel
theorem zd_Loader_load_72 : decode kb_Loader_load 72 = .ok (.iload_n 2, 1) := by decide +kernel
theorem zd_Loader_load_73 : decode kb_Loader_load 73 = .ok (.invokevirtual 134, 3) := by decide +kernel
theorem zd_Loader_load_76 : decode kb_Loader_load 76 = .ok (.aload_n 0, 1) := by decide +kernel
theorem zd_Loader_load_77 : decode kb_Loader_load 77 = .ok (.aload_n 3, 1) := by decide +kernel
theorem zd_Loader_load_78 : decode kb_Loader_load 78 = .ok (.invokevirtual 138, 3) := by decide +kernel
theorem zd_Loader_load_81 : decode kb_Loader_load 81 = .ok (.aload_n 3, 1) := by decide +kernel
theorem zd_Loader_load_82 : decode kb_Loader_load 82 = .ok (.ifnull (13), 3) := by decide +kernel
theorem zd_Loader_load_85 : decode kb_Loader_load 85 = .ok (.aload_n 0, 1) := by decide +kernel
theorem zd_Loader_load_86 : decode kb_Loader_load 86 = .ok (.getfield 58, 3) := by decide +kernel
theorem zd_Loader_load_89 : decode kb_Loader_load 89 = .ok (.invokevirtual 142, 3) := by decide +kernel
theorem zd_Loader_load_92 : decode kb_Loader_load 92 = .ok (.ifCond .eq (11), 3) := by decide +kernel
theorem zd_Loader_load_95 : decode kb_Loader_load 95 = .ok (.new 73, 3) := by decide +kernel
theorem zd_Loader_load_98 : decode kb_Loader_load 98 = .ok (.dup, 1) := by decide +kernel
theorem zd_Loader_load_99 : decode kb_Loader_load 99 = .ok (.invokespecial 75, 3) := by decide +kernel
theorem zd_Loader_load_102 : decode kb_Loader_load 102 = .ok (.athrow, 1) := by decide +kernel
theorem zd_Loader_load_103 : decode kb_Loader_load 103 = .ok (.aload_n 3, 1) := by decide +kernel
theorem zd_Loader_load_104 : decode kb_Loader_load 104 = .ok (.getfield 129, 3) := by decide +kernel
theorem zd_Loader_load_107 : decode kb_Loader_load 107 = .ok (.ireturn, 1) := by decide +kernel
def zp_Loader_load_b14 (Po : Option Value → zz_S → Prop) (Px : String → zz_S → Prop) (u : zz_S) : Prop := Px "java/lang/IllegalArgumentException" u
def zp_Loader_load_b95 (Po : Option Value → zz_S → Prop) (Px : String → zz_S → Prop) (u : zz_S) : Prop := Px "java/lang/IllegalStateException" u
def zp_Loader_load_b81 (Po : Option Value → zz_S → Prop) (Px : String → zz_S → Prop) (u : zz_S) (x3 : Option Nat) : Prop := (x3 = none → (zp_Loader_load_b95 Po Px u)) ∧ (∀ a1 : Nat, x3 = some a1 → (xw_2 (zf_Report_hasFault u) fun v3 u2 => (v3 = 0 → (xw_b (zz_pi u2 a1 9 1) fun v4 => Po (some (.int v4)) u2)) ∧ (¬ v3 = 0 → (zp_Loader_load_b95 Po Px u2))))
def zp_Loader_load (Po : Option Value → zz_S → Prop) (Px : String → zz_S → Prop) (u : zz_S) (x1 : Int32) (x2 : Int32) : Prop := xw_2 (zf_Loader_isName u x1) fun v2 u1 => (v2 = 0 → (zp_Loader_load_b14 Po Px u1)) ∧ (¬ v2 = 0 → (xw_2 (zf_Loader_isFuel u1 x2) fun v4 u3 => (v4 = 0 → (zp_Loader_load_b14 Po Px u3)) ∧ (¬ v4 = 0 → (xw_b (zf_Report_clear u3) fun u5 => xw_cq (fun Po => zp_Loader_bringIn Po (fun _ _ => False) u5 x1) fun v7 u6 => xw_b (zf_Tape_clear u6) fun u8 => (v7 = none → (zp_Loader_load_b81 Po Px u8 v7)) ∧ (∀ a9 : Nat, v7 = some a9 → (((u8.1 9) = (-1 : Int32) → (zp_Loader_load_b81 Po Px u8 v7)) ∧ (¬ (u8.1 9) = (-1 : Int32) → (xw_b (zz_pi u8 a9 9 1) fun v10 => xw_b (zf_Loader_execute u8 (v10 + (u8.1 9)) (0 : Int32) (0 : Int32) x2) fun u11 => xw_b (zf_Loader_judgeInit u11 v7) fun u12 => zp_Loader_load_b81 Po Px u12 v7))))))))
set_option maxHeartbeats 4000000 in
set_option maxRecDepth 100000 in
theorem zv_Loader_load_b14 {p : Program} {l : Launch} {e : Env} {s : State} {m : MethodId} {args : Array Value} {below : List Frame} {meth : Method} {c : Code} {A : Nat → Prop} {g : xx_G} {Po : Option Value → zz_S → Prop} {Px : String → zz_S → Prop} (C : xx_C p s m args meth c kb_Loader_load 4 kr_Loader (some .int)) (CW : xw_C s c A) (hl0 : l.stackTraces = false) (hin : ky_Loader_load.name = "<init>" → meth.name = "<init>") (hA : ∀ q, s.heap.size ≤ q → A q) (hK : va_K g.1 xx_cls (zz_T g) s) : ∀ (u : zz_S) (H : Heap) (locs : List Loc) (ls : Array Slot), zp_Loader_load_b14 Po Px u → lv_has ls 4 [] → va_P g.1 xx_cls (zz_W g u) H → va_D A (zz_W g u) → va_S A s.heap H locs → W p l e (xx_rmc 6 140 11 56) s m args below meth c H locs 0 0 (xw_MQ g.1 (zz_T g) (zz_W g) Po Px A below args s 11 56) (F0 m 14 ls []) := by
  have hx := C.1
  have hb := C.2.1
  have hown := C.2.2.2.1
  have hts := C.2.2.2.2.1
  intro u H locs ls hF hl hP hD hS
  unfold zp_Loader_load_b14 at hF
  exact xw_throw C CW hl0 (cls := "java/lang/IllegalArgumentException") (names := xw_names) (by decide +kernel) (by decide +kernel) kw_437 kw_15 (kx_90 hts CW.2.2) hK hP hD hS hl.1 hF zd_Loader_load_14 zd_Loader_load_17 zd_Loader_load_18 zd_Loader_load_21 (by decide) (by decide) (by decide) (by decide) (by decide) (by decide)
set_option maxHeartbeats 4000000 in
set_option maxRecDepth 100000 in
theorem zv_Loader_load_b95 {p : Program} {l : Launch} {e : Env} {s : State} {m : MethodId} {args : Array Value} {below : List Frame} {meth : Method} {c : Code} {A : Nat → Prop} {g : xx_G} {Po : Option Value → zz_S → Prop} {Px : String → zz_S → Prop} (C : xx_C p s m args meth c kb_Loader_load 4 kr_Loader (some .int)) (CW : xw_C s c A) (hl0 : l.stackTraces = false) (hin : ky_Loader_load.name = "<init>" → meth.name = "<init>") (hA : ∀ q, s.heap.size ≤ q → A q) (hK : va_K g.1 xx_cls (zz_T g) s) : ∀ (u : zz_S) (H : Heap) (locs : List Loc) (ls : Array Slot), zp_Loader_load_b95 Po Px u → lv_has ls 4 [] → va_P g.1 xx_cls (zz_W g u) H → va_D A (zz_W g u) → va_S A s.heap H locs → W p l e (xx_rmc 6 140 11 56) s m args below meth c H locs 10 50 (xw_MQ g.1 (zz_T g) (zz_W g) Po Px A below args s 11 56) (F0 m 95 ls []) := by
  have hx := C.1
  have hb := C.2.1
  have hown := C.2.2.2.1
  have hts := C.2.2.2.2.1
  intro u H locs ls hF hl hP hD hS
  unfold zp_Loader_load_b95 at hF
  exact xw_throw C CW hl0 (cls := "java/lang/IllegalStateException") (names := xw_names) (by decide +kernel) (by decide +kernel) kw_407 kw_14 (kx_75 hts CW.2.2) hK hP hD hS hl.1 hF zd_Loader_load_95 zd_Loader_load_98 zd_Loader_load_99 zd_Loader_load_102 (by decide) (by decide) (by decide) (by decide) (by decide) (by decide)
set_option maxHeartbeats 4000000 in
set_option maxRecDepth 100000 in
theorem zv_Loader_load_b81 {p : Program} {l : Launch} {e : Env} {s : State} {m : MethodId} {args : Array Value} {below : List Frame} {meth : Method} {c : Code} {A : Nat → Prop} {g : xx_G} {Po : Option Value → zz_S → Prop} {Px : String → zz_S → Prop} (C : xx_C p s m args meth c kb_Loader_load 4 kr_Loader (some .int)) (CW : xw_C s c A) (hl0 : l.stackTraces = false) (hin : ky_Loader_load.name = "<init>" → meth.name = "<init>") (hA : ∀ q, s.heap.size ≤ q → A q) (hK : va_K g.1 xx_cls (zz_T g) s) : ∀ (u : zz_S) (x3 : Option Nat) (H : Heap) (locs : List Loc) (ls : Array Slot), zp_Loader_load_b81 Po Px u x3 → lv_has ls 4 [(0, .ref (g.2.1 0)), (3, (va_rf x3))] → va_P g.1 xx_cls (zz_W g u) H → va_D A (zz_W g u) → va_S A s.heap H locs → W p l e (xx_rmc 6 140 11 56) s m args below meth c H locs 10 50 (xw_MQ g.1 (zz_T g) (zz_W g) Po Px A below args s 11 56) (F0 m 81 ls []) := by
  have hx := C.1
  have hb := C.2.1
  have hown := C.2.2.2.1
  have hts := C.2.2.2.2.1
  intro u x3 H locs ls hF hl hP hD hS
  unfold zp_Loader_load_b81 at hF
  refine xx_ald C zd_Loader_load_81 rfl (lv_at hl 1 rfl) ?_
  refine xx_ifnull (tgt := 95) C zd_Loader_load_82 (by decide) (fun en => ?_) (fun a1 ea1 => ?_)
  · have hF := hF.1 en
    exact zv_Loader_load_b95 C CW hl0 hin hA hK u _ _ _ hF (lv_sub hl [] rfl) hP hD hS
  · have hF := hF.2 a1 ea1
    refine lv_aload_n hx hb zd_Loader_load_85 rfl (lv_at hl 0 rfl) ?_
    refine xx_get C ki_Loader hK hP 0 rfl rfl 6 (by decide) kw_193 rfl rfl zd_Loader_load_86 ?_
    obtain ⟨v3, u2, eu2, hF⟩ := hF
    refine xx_callV (cells1 := 10) (slots1 := 50) (n := 0) (As := []) (rest := []) C (zc_Report_hasFault l g u v3 u2 eu2) ⟨kw_593, kw_590, kw_591, kw_592, kw_8⟩ ⟨by decide +kernel, by decide +kernel, by decide +kernel⟩ rfl ⟨Nat.le_of_ble_eq_true rfl, Nat.le_of_ble_eq_true rfl⟩ 13 rfl rfl hl.1 rfl (Nat.le_of_ble_eq_true rfl) hA hK hP hD hS ⟨by decide, by decide⟩ rfl rfl rfl zd_Loader_load_89 (fun H locs hP hD hS => ?_)
    refine lv_if_eq (tgt := 103) hx hb zd_Loader_load_92 (by decide) (fun hc => ?_) (fun hc => ?_)
    · have hF := hF.1 hc
      refine xx_ald C zd_Loader_load_103 rfl (lv_at hl 1 rfl) ?_
      rw [ea1]
      obtain ⟨v4, ev4, hF⟩ := hF
      refine zz_get (a := a1) (u := u2) (ci := 9) C ki_LoadedModule hK hP rfl 1 (by decide) kw_678 rfl (zz_pi_some ev4) zd_Loader_load_104 ?_
      exact xw_iret C (by decide) (by decide) hF hK hP hD hS zd_Loader_load_107
    · have hF := hF.2 hc
      exact zv_Loader_load_b95 C CW hl0 hin hA hK u2 _ _ _ hF (lv_sub hl [] rfl) hP hD hS
set_option maxHeartbeats 4000000 in
set_option maxRecDepth 100000 in
theorem zc_Loader_load (l : Launch) (hl0 : l.stackTraces = false) (g : xx_G) (u : zz_S) (x1 : Int32) (x2 : Int32) (Po : Option Value → zz_S → Prop) (Px : String → zz_S → Prop) (hF : zp_Loader_load Po Px u x1 x2) : xw_M l g.1 (zz_T g) (zz_W g) ky_Loader_load kb_Loader_load 4 (some .int) (xx_rmc 6 140 11 56) [.ref (g.2.1 0), .int x1, .int x2] u Po Px := by
  refine xw_body (by decide) (Nat.le_of_ble_eq_true rfl) ?_
  intro p e s m args below meth c A ls C CW hin hK hl hA hP hD hS
  have hx := C.1
  have hb := C.2.1
  have hown := C.2.2.2.1
  have hts := C.2.2.2.2.1
  have hl : lv_has ls 4 [(0, .ref (g.2.1 0)), (1, .int x1), (2, .int x2)] := hl
  unfold zp_Loader_load at hF
  refine lv_iload_n hx hb zd_Loader_load_0 rfl (lv_at hl 1 rfl) ?_
  obtain ⟨v2, u1, eu1, hF⟩ := hF
  refine xx_callS (cells1 := 0) (slots1 := 0) (n := 1) (As := [.int x1]) (rest := []) C (zc_Loader_isName l g u x1 v2 u1 eu1) ⟨kw_436, kw_434, kw_435, kw_1⟩ ⟨by decide +kernel, by decide +kernel, by decide +kernel⟩ rfl ⟨Nat.le_of_ble_eq_true rfl, Nat.le_of_ble_eq_true rfl⟩ hl.1 rfl (Nat.le_of_ble_eq_true rfl) hA hK hP hD hS ⟨by decide, by decide⟩ rfl rfl rfl zd_Loader_load_1 (fun H locs hP hD hS => ?_)
  refine lv_if_eq (tgt := 14) hx hb zd_Loader_load_4 (by decide) (fun hc => ?_) (fun hc => ?_)
  · have hF := hF.1 hc
    exact zv_Loader_load_b14 C CW hl0 hin hA hK u1 _ _ _ hF (lv_sub hl [] rfl) hP hD hS
  · have hF := hF.2 hc
    refine lv_iload_n hx hb zd_Loader_load_7 rfl (lv_at hl 2 rfl) ?_
    obtain ⟨v4, u3, eu3, hF⟩ := hF
    refine xx_callS (cells1 := 0) (slots1 := 0) (n := 1) (As := [.int x2]) (rest := []) C (zc_Loader_isFuel l g u1 x2 v4 u3 eu3) ⟨kw_493, kw_491, kw_492, kw_1⟩ ⟨by decide +kernel, by decide +kernel, by decide +kernel⟩ rfl ⟨Nat.le_of_ble_eq_true rfl, Nat.le_of_ble_eq_true rfl⟩ hl.1 rfl (Nat.le_of_ble_eq_true rfl) hA hK hP hD hS ⟨by decide, by decide⟩ rfl rfl rfl zd_Loader_load_8 (fun H locs hP hD hS => ?_)
    refine lv_if_ne (tgt := 22) hx hb zd_Loader_load_11 (by decide) (fun hc => ?_) (fun hc => ?_)
    · have hF := hF.2 hc
      refine lv_aload_n hx hb zd_Loader_load_22 rfl (lv_at hl 0 rfl) ?_
      refine xx_get C ki_Loader hK hP 0 rfl rfl 6 (by decide) kw_193 rfl rfl zd_Loader_load_23 ?_
      obtain ⟨u5, eu5, hF⟩ := hF
      refine xx_callV (cells1 := 0) (slots1 := 0) (n := 0) (As := []) (rest := []) C (zc_Report_clear l g u3 u5 eu5) ⟨kw_497, kw_494, kw_495, kw_496, kw_8⟩ ⟨by decide +kernel, by decide +kernel, by decide +kernel⟩ rfl ⟨Nat.le_of_ble_eq_true rfl, Nat.le_of_ble_eq_true rfl⟩ 13 rfl rfl hl.1 rfl (Nat.le_of_ble_eq_true rfl) hA hK hP hD hS ⟨by decide, by decide⟩ rfl rfl rfl zd_Loader_load_26 (fun H locs hP hD hS => ?_)
      refine lv_aload_n hx hb zd_Loader_load_29 rfl (lv_at hl 0 rfl) ?_
      refine lv_iload_n hx hb zd_Loader_load_30 rfl (lv_at hl 1 rfl) ?_
      have hF := xw_cq_e hF
      refine xw_callR (n := 1) (As := [.int x1]) (rest := []) C CW (zc_Loader_bringIn l g u5 x1 _ _ hF) ⟨kw_501, kw_498, kw_500, ks_Loader_bringIn, kw_1⟩ ⟨by decide +kernel, by decide +kernel, by decide +kernel⟩ rfl ⟨Nat.le_of_ble_eq_true rfl, Nat.le_of_ble_eq_true rfl⟩ 0 rfl rfl hl.1 rfl (Nat.le_of_ble_eq_true rfl) hA hK hP hD hS ⟨by decide, by decide⟩ zd_Loader_load_31 (fun rv u6 H locs hPo hP hD hS => ?_)
      obtain ⟨v7, rfl, hF⟩ := hPo
      refine xx_ast C zd_Loader_load_34 rfl hl (by decide) rfl (fun ls hl => ?_)
      refine lv_aload_n hx hb zd_Loader_load_35 rfl (lv_at hl 1 rfl) ?_
      refine xx_get C ki_Loader hK hP 0 rfl rfl 2 (by decide) kw_189 rfl rfl zd_Loader_load_36 ?_
      obtain ⟨u8, eu8, hF⟩ := hF
      refine xx_callV (cells1 := 10) (slots1 := 50) (n := 0) (As := []) (rest := []) C (zc_Tape_clear l g u6 u8 eu8) ⟨kw_733, kw_730, kw_731, kw_732, kw_4⟩ ⟨by decide +kernel, by decide +kernel, by decide +kernel⟩ rfl ⟨Nat.le_of_ble_eq_true rfl, Nat.le_of_ble_eq_true rfl⟩ 6 rfl rfl hl.1 rfl (Nat.le_of_ble_eq_true rfl) hA hK hP hD hS ⟨by decide, by decide⟩ rfl rfl rfl zd_Loader_load_39 (fun H locs hP hD hS => ?_)
      refine xx_ald C zd_Loader_load_42 rfl (lv_at hl 0 rfl) ?_
      refine xx_ifnull (tgt := 81) C zd_Loader_load_43 (by decide) (fun en => ?_) (fun a9 ea9 => ?_)
      · have hF := hF.1 en
        exact zv_Loader_load_b81 C CW hl0 hin hA hK u8 v7 _ _ _ hF (lv_sub hl [1, 0] rfl) hP hD hS
      · have hF := hF.2 a9 ea9
        refine lv_aload_n hx hb zd_Loader_load_46 rfl (lv_at hl 1 rfl) ?_
        refine xx_get C ki_Loader hK hP 0 rfl rfl 3 (by decide) kw_190 rfl rfl zd_Loader_load_47 ?_
        refine xx_get C ki_ModuleFile hK hP 8 rfl rfl 4 (by decide) kw_98 rfl rfl zd_Loader_load_50 ?_
        refine lv_iconst (v := (-1 : Int32)) hx hb zd_Loader_load_53 (by decide) ?_
        refine lv_icmp_eq (tgt := 81) hx hb zd_Loader_load_54 (by decide) (fun hc => ?_) (fun hc => ?_)
        · have hF := hF.1 hc
          exact zv_Loader_load_b81 C CW hl0 hin hA hK u8 v7 _ _ _ hF (lv_sub hl [1, 0] rfl) hP hD hS
        · have hF := hF.2 hc
          refine lv_aload_n hx hb zd_Loader_load_57 rfl (lv_at hl 1 rfl) ?_
          refine xx_ald C zd_Loader_load_58 rfl (lv_at hl 0 rfl) ?_
          rw [ea9]
          obtain ⟨v10, ev10, hF⟩ := hF
          refine zz_get (a := a9) (u := u8) (ci := 9) C ki_LoadedModule hK hP rfl 1 (by decide) kw_678 rfl (zz_pi_some ev10) zd_Loader_load_59 ?_
          refine lv_aload_n hx hb zd_Loader_load_62 rfl (lv_at hl 1 rfl) ?_
          refine xx_get C ki_Loader hK hP 0 rfl rfl 3 (by decide) kw_190 rfl rfl zd_Loader_load_63 ?_
          refine xx_get C ki_ModuleFile hK hP 8 rfl rfl 4 (by decide) kw_98 rfl rfl zd_Loader_load_66 ?_
          refine lv_iadd hx hb zd_Loader_load_69 ?_
          refine lv_iconst (v := (0 : Int32)) hx hb zd_Loader_load_70 (by decide) ?_
          refine lv_iconst (v := (0 : Int32)) hx hb zd_Loader_load_71 (by decide) ?_
          refine lv_iload_n hx hb zd_Loader_load_72 rfl (lv_at hl 3 rfl) ?_
          obtain ⟨u11, eu11, hF⟩ := hF
          refine xx_callV (cells1 := 10) (slots1 := 50) (n := 4) (As := [.int (v10 + (u8.1 9)), .int (0 : Int32), .int (0 : Int32), .int x2]) (rest := []) C (zc_Loader_execute l g u8 (v10 + (u8.1 9)) (0 : Int32) (0 : Int32) x2 u11 eu11) ⟨kw_737, kw_734, kw_736, ks_Loader_execute, kw_1⟩ ⟨by decide +kernel, by decide +kernel, by decide +kernel⟩ rfl ⟨Nat.le_of_ble_eq_true rfl, Nat.le_of_ble_eq_true rfl⟩ 0 rfl rfl hl.1 rfl (Nat.le_of_ble_eq_true rfl) hA hK hP hD hS ⟨by decide, by decide⟩ rfl rfl rfl zd_Loader_load_73 (fun H locs hP hD hS => ?_)
          refine lv_aload_n hx hb zd_Loader_load_76 rfl (lv_at hl 1 rfl) ?_
          refine xx_ald C zd_Loader_load_77 rfl (lv_at hl 0 rfl) ?_
          obtain ⟨u12, eu12, hF⟩ := hF
          refine xx_callV (cells1 := 10) (slots1 := 50) (n := 1) (As := [(va_rf v7)]) (rest := []) C (zc_Loader_judgeInit l g u11 v7 u12 eu12) ⟨kw_833, kw_830, kw_832, ks_Loader_judgeInit, kw_1⟩ ⟨by decide +kernel, by decide +kernel, by decide +kernel⟩ rfl ⟨Nat.le_of_ble_eq_true rfl, Nat.le_of_ble_eq_true rfl⟩ 0 rfl rfl hl.1 rfl (Nat.le_of_ble_eq_true rfl) hA hK hP hD hS ⟨by decide, by decide⟩ rfl rfl rfl zd_Loader_load_78 (fun H locs hP hD hS => ?_)
          exact zv_Loader_load_b81 C CW hl0 hin hA hK u12 v7 _ _ _ hF (lv_sub hl [1, 0] rfl) hP hD hS
    · have hF := hF.1 hc
      exact zv_Loader_load_b14 C CW hl0 hin hA hK u3 _ _ _ hF (lv_sub hl [] rfl) hP hD hS
