set_option maxRecDepth 100000 in
theorem kw_343 : Cond.code ky_Loader_isWordBelow kb_Loader_isWordBelow 2 (some .boolean) ∈ xx_tb := xx_in (List.mem_append_right _ (List.mem_of_getElem? (i := 343) (by rfl))) (by decide +kernel)
theorem kw_342 : Cond.static ky_Loader_isWordBelow ∈ xx_tb := xx_in (List.mem_append_right _ (List.mem_of_getElem? (i := 342) (by decide +kernel))) (by decide +kernel)
theorem kw_1 : Cond.initialized "ModuleLoader" ∈ xx_tb := xx_in (List.mem_append_right _ (List.mem_of_getElem? (i := 1) (by decide +kernel))) (by decide +kernel)
theorem zd_ModuleFile_isOffset_0 : decode kb_ModuleFile_isOffset 0 = .ok (.iload_n 1, 1) := by decide +kernel
theorem zd_ModuleFile_isOffset_1 : decode kb_ModuleFile_isOffset 1 = .ok (.aload_n 0, 1) := by decide +kernel
theorem zd_ModuleFile_isOffset_2 : decode kb_ModuleFile_isOffset 2 = .ok (.getfield 33, 3) := by decide +kernel
theorem zd_ModuleFile_isOffset_5 : decode kb_ModuleFile_isOffset 5 = .ok (.invokestatic 81, 3) := by decide +kernel
theorem zd_ModuleFile_isOffset_8 : decode kb_ModuleFile_isOffset 8 = .ok (.ireturn, 1) := by decide +kernel
def zf_ModuleFile_isOffset (u : zz_S) (x1 : Int32) : Option (Int32 × zz_S) := xx_b2 (zf_Loader_isWordBelow u x1 (u.1 5)) fun v2 u1 => some (vp_nar .boolean v2, u1)
set_option maxHeartbeats 4000000 in
set_option maxRecDepth 100000 in
theorem zc_ModuleFile_isOffset (l : Launch) (g : xx_G) (u : zz_S) (x1 : Int32) (r : Int32) (u9 : zz_S) (hF : zf_ModuleFile_isOffset u x1 = some (r, u9)) : xx_M l g.1 (zz_T g) (zz_W g) ky_ModuleFile_isOffset kb_ModuleFile_isOffset 2 (some .boolean) (xx_rm 1 21) [.ref (g.2.1 8), .int x1] u (some (.int r)) u9 := by
  refine xx_body (by decide) (Nat.le_of_ble_eq_true rfl) ?_
  intro p e s m args below meth c A ls C hin hK hl hA hP hD hS
  have hx := C.1
  have hb := C.2.1
  have hown := C.2.2.2.1
  have hts := C.2.2.2.2.1
  have hl : lv_has ls 2 [(0, .ref (g.2.1 8)), (1, .int x1)] := hl
  unfold zf_ModuleFile_isOffset at hF
  refine lv_iload_n hx hb zd_ModuleFile_isOffset_0 rfl (lv_at hl 1 rfl) ?_
  refine lv_aload_n hx hb zd_ModuleFile_isOffset_1 rfl (lv_at hl 0 rfl) ?_
  refine xx_get C ki_ModuleFile hK hP 8 rfl rfl 0 (by decide) kw_88 rfl rfl zd_ModuleFile_isOffset_2 ?_
  obtain ⟨v2, u1, eu1, hF⟩ := xx_b2_some hF
  refine xx_callSN (n := 2) (As := [.int x1, .int (u.1 5)]) (rest := []) C (zc_Loader_isWordBelow l g u x1 (u.1 5) v2 u1 eu1) ⟨kw_343, C.2.2.2.2.2.2.2.2, kw_342, kw_1⟩ ⟨by decide +kernel, by decide +kernel, by decide +kernel⟩ rfl ⟨Nat.le_of_ble_eq_true rfl, Nat.le_of_ble_eq_true rfl⟩ hl.1 rfl (Nat.le_of_ble_eq_true rfl) hA hK hP hD hS ⟨Nat.le_refl _, Nat.le_refl _⟩ rfl rfl rfl zd_ModuleFile_isOffset_5 (fun H locs hP hD hS => ?_)
  exact xx_zret C hF hK hP hD hS zd_ModuleFile_isOffset_8
theorem zd_ModuleFile_imageWord_0 : decode kb_ModuleFile_imageWord 0 = .ok (.aload_n 0, 1) := by decide +kernel
theorem zd_ModuleFile_imageWord_1 : decode kb_ModuleFile_imageWord 1 = .ok (.getfield 9, 3) := by decide +kernel
theorem zd_ModuleFile_imageWord_4 : decode kb_ModuleFile_imageWord 4 = .ok (.bipush (8), 2) := by decide +kernel
theorem zd_ModuleFile_imageWord_6 : decode kb_ModuleFile_imageWord 6 = .ok (.iload_n 1, 1) := by decide +kernel
theorem zd_ModuleFile_imageWord_7 : decode kb_ModuleFile_imageWord 7 = .ok (.iconst 4, 1) := by decide +kernel
theorem zd_ModuleFile_imageWord_8 : decode kb_ModuleFile_imageWord 8 = .ok (.idiv, 1) := by decide +kernel
theorem zd_ModuleFile_imageWord_9 : decode kb_ModuleFile_imageWord 9 = .ok (.iadd, 1) := by decide +kernel
theorem zd_ModuleFile_imageWord_10 : decode kb_ModuleFile_imageWord 10 = .ok (.invokevirtual 21, 3) := by decide +kernel
theorem zd_ModuleFile_imageWord_13 : decode kb_ModuleFile_imageWord 13 = .ok (.ireturn, 1) := by decide +kernel
def zf_ModuleFile_imageWord (u : zz_S) (x1 : Int32) : Option (Int32 × zz_S) := xx_b2 (zf_Tape_wordAt u ((8 : Int32) + (x1 / (4 : Int32)))) fun v2 u1 => some (v2, u1)
set_option maxHeartbeats 4000000 in
set_option maxRecDepth 100000 in
theorem zc_ModuleFile_imageWord (l : Launch) (g : xx_G) (u : zz_S) (x1 : Int32) (r : Int32) (u9 : zz_S) (hF : zf_ModuleFile_imageWord u x1 = some (r, u9)) : xx_M l g.1 (zz_T g) (zz_W g) ky_ModuleFile_imageWord kb_ModuleFile_imageWord 2 (some .int) (xx_rm 1 21) [.ref (g.2.1 8), .int x1] u (some (.int r)) u9 := by
  refine xx_body (by decide) (Nat.le_of_ble_eq_true rfl) ?_
  intro p e s m args below meth c A ls C hin hK hl hA hP hD hS
  have hx := C.1
  have hb := C.2.1
  have hown := C.2.2.2.1
  have hts := C.2.2.2.2.1
  have hl : lv_has ls 2 [(0, .ref (g.2.1 8)), (1, .int x1)] := hl
  unfold zf_ModuleFile_imageWord at hF
  refine lv_aload_n hx hb zd_ModuleFile_imageWord_0 rfl (lv_at hl 0 rfl) ?_
  refine xx_get C ki_ModuleFile hK hP 8 rfl rfl 7 (by decide) kw_103 rfl rfl zd_ModuleFile_imageWord_1 ?_
  refine lv_bipush (v := (8 : Int32)) hx hb zd_ModuleFile_imageWord_4 (by decide) ?_
  refine lv_iload_n hx hb zd_ModuleFile_imageWord_6 rfl (lv_at hl 1 rfl) ?_
  refine lv_iconst (v := (4 : Int32)) hx hb zd_ModuleFile_imageWord_7 (by decide) ?_
  refine lv_idiv hx hb zd_ModuleFile_imageWord_8 (by decide) ?_
  refine lv_iadd hx hb zd_ModuleFile_imageWord_9 ?_
  obtain ⟨v2, u1, eu1, hF⟩ := xx_b2_some hF
  refine xx_callV (n := 1) (As := [.int ((8 : Int32) + (x1 / (4 : Int32)))]) (rest := []) C (zc_Tape_wordAt l g u ((8 : Int32) + (x1 / (4 : Int32))) v2 u1 eu1) ⟨kw_510, kw_507, kw_508, kw_509, kw_4⟩ ⟨by decide +kernel, by decide +kernel, by decide +kernel⟩ rfl ⟨Nat.le_of_ble_eq_true rfl, Nat.le_of_ble_eq_true rfl⟩ 6 rfl rfl hl.1 rfl (Nat.le_of_ble_eq_true rfl) hA hK hP hD hS ⟨Nat.le_refl _, Nat.le_refl _⟩ rfl rfl rfl zd_ModuleFile_imageWord_10 (fun H locs hP hD hS => ?_)
  exact xx_iret C hF hK hP hD hS zd_ModuleFile_imageWord_13
theorem kw_104 : Cond.fieldLink "ModuleLoader$ModuleFile" 37 "ModuleLoader$ModuleFile" "importsStart" "I" ∈ xx_tb := xx_in (List.mem_append_right _ (List.mem_of_getElem? (i := 104) (by decide +kernel))) (by decide +kernel)
theorem zd_ModuleFile_importName_0 : decode kb_ModuleFile_importName 0 = .ok (.aload_n 0, 1) := by decide +kernel
theorem zd_ModuleFile_importName_1 : decode kb_ModuleFile_importName 1 = .ok (.getfield 9, 3) := by decide +kernel
theorem zd_ModuleFile_importName_4 : decode kb_ModuleFile_importName 4 = .ok (.aload_n 0, 1) := by decide +kernel
theorem zd_ModuleFile_importName_5 : decode kb_ModuleFile_importName 5 = .ok (.getfield 37, 3) := by decide +kernel
theorem zd_ModuleFile_importName_8 : decode kb_ModuleFile_importName 8 = .ok (.iconst 2, 1) := by decide +kernel
theorem zd_ModuleFile_importName_9 : decode kb_ModuleFile_importName 9 = .ok (.iload_n 1, 1) := by decide +kernel
theorem zd_ModuleFile_importName_10 : decode kb_ModuleFile_importName 10 = .ok (.imul, 1) := by decide +kernel
theorem zd_ModuleFile_importName_11 : decode kb_ModuleFile_importName 11 = .ok (.iadd, 1) := by decide +kernel
theorem zd_ModuleFile_importName_12 : decode kb_ModuleFile_importName 12 = .ok (.invokevirtual 21, 3) := by decide +kernel
theorem zd_ModuleFile_importName_15 : decode kb_ModuleFile_importName 15 = .ok (.ireturn, 1) := by decide +kernel
def zf_ModuleFile_importName (u : zz_S) (x1 : Int32) : Option (Int32 × zz_S) := xx_b2 (zf_Tape_wordAt u ((u.1 12) + ((2 : Int32) * x1))) fun v2 u1 => some (v2, u1)
set_option maxHeartbeats 4000000 in
set_option maxRecDepth 100000 in
theorem zc_ModuleFile_importName (l : Launch) (g : xx_G) (u : zz_S) (x1 : Int32) (r : Int32) (u9 : zz_S) (hF : zf_ModuleFile_importName u x1 = some (r, u9)) : xx_M l g.1 (zz_T g) (zz_W g) ky_ModuleFile_importName kb_ModuleFile_importName 2 (some .int) (xx_rm 1 21) [.ref (g.2.1 8), .int x1] u (some (.int r)) u9 := by
  refine xx_body (by decide) (Nat.le_of_ble_eq_true rfl) ?_
  intro p e s m args below meth c A ls C hin hK hl hA hP hD hS
  have hx := C.1
  have hb := C.2.1
  have hown := C.2.2.2.1
  have hts := C.2.2.2.2.1
  have hl : lv_has ls 2 [(0, .ref (g.2.1 8)), (1, .int x1)] := hl
  unfold zf_ModuleFile_importName at hF
  refine lv_aload_n hx hb zd_ModuleFile_importName_0 rfl (lv_at hl 0 rfl) ?_
  refine xx_get C ki_ModuleFile hK hP 8 rfl rfl 7 (by decide) kw_103 rfl rfl zd_ModuleFile_importName_1 ?_
  refine lv_aload_n hx hb zd_ModuleFile_importName_4 rfl (lv_at hl 0 rfl) ?_
  refine xx_get C ki_ModuleFile hK hP 8 rfl rfl 8 (by decide) kw_104 rfl rfl zd_ModuleFile_importName_5 ?_
  refine lv_iconst (v := (2 : Int32)) hx hb zd_ModuleFile_importName_8 (by decide) ?_
  refine lv_iload_n hx hb zd_ModuleFile_importName_9 rfl (lv_at hl 1 rfl) ?_
  refine lv_imul hx hb zd_ModuleFile_importName_10 ?_
  refine lv_iadd hx hb zd_ModuleFile_importName_11 ?_
  obtain ⟨v2, u1, eu1, hF⟩ := xx_b2_some hF
  refine xx_callV (n := 1) (As := [.int ((u.1 12) + ((2 : Int32) * x1))]) (rest := []) C (zc_Tape_wordAt l g u ((u.1 12) + ((2 : Int32) * x1)) v2 u1 eu1) ⟨kw_510, kw_507, kw_508, kw_509, kw_4⟩ ⟨by decide +kernel, by decide +kernel, by decide +kernel⟩ rfl ⟨Nat.le_of_ble_eq_true rfl, Nat.le_of_ble_eq_true rfl⟩ 6 rfl rfl hl.1 rfl (Nat.le_of_ble_eq_true rfl) hA hK hP hD hS ⟨Nat.le_refl _, Nat.le_refl _⟩ rfl rfl rfl zd_ModuleFile_importName_12 (fun H locs hP hD hS => ?_)
  exact xx_iret C hF hK hP hD hS zd_ModuleFile_importName_15
theorem zd_ModuleFile_importCheck_0 : decode kb_ModuleFile_importCheck 0 = .ok (.aload_n 0, 1) := by decide +kernel
theorem zd_ModuleFile_importCheck_1 : decode kb_ModuleFile_importCheck 1 = .ok (.getfield 9, 3) := by decide +kernel
theorem zd_ModuleFile_importCheck_4 : decode kb_ModuleFile_importCheck 4 = .ok (.aload_n 0, 1) := by decide +kernel
theorem zd_ModuleFile_importCheck_5 : decode kb_ModuleFile_importCheck 5 = .ok (.getfield 37, 3) := by decide +kernel
theorem zd_ModuleFile_importCheck_8 : decode kb_ModuleFile_importCheck 8 = .ok (.iconst 2, 1) := by decide +kernel
theorem zd_ModuleFile_importCheck_9 : decode kb_ModuleFile_importCheck 9 = .ok (.iload_n 1, 1) := by decide +kernel
theorem zd_ModuleFile_importCheck_10 : decode kb_ModuleFile_importCheck 10 = .ok (.imul, 1) := by decide +kernel
theorem zd_ModuleFile_importCheck_11 : decode kb_ModuleFile_importCheck 11 = .ok (.iadd, 1) := by decide +kernel
theorem zd_ModuleFile_importCheck_12 : decode kb_ModuleFile_importCheck 12 = .ok (.iconst 1, 1) := by decide +kernel
theorem zd_ModuleFile_importCheck_13 : decode kb_ModuleFile_importCheck 13 = .ok (.iadd, 1) := by decide +kernel
theorem zd_ModuleFile_importCheck_14 : decode kb_ModuleFile_importCheck 14 = .ok (.invokevirtual 21, 3) := by decide +kernel
theorem zd_ModuleFile_importCheck_17 : decode kb_ModuleFile_importCheck 17 = .ok (.ireturn, 1) := by decide +kernel
def zf_ModuleFile_importCheck (u : zz_S) (x1 : Int32) : Option (Int32 × zz_S) := xx_b2 (zf_Tape_wordAt u (((u.1 12) + ((2 : Int32) * x1)) + (1 : Int32))) fun v2 u1 => some (v2, u1)
set_option maxHeartbeats 4000000 in
set_option maxRecDepth 100000 in
theorem zc_ModuleFile_importCheck (l : Launch) (g : xx_G) (u : zz_S) (x1 : Int32) (r : Int32) (u9 : zz_S) (hF : zf_ModuleFile_importCheck u x1 = some (r, u9)) : xx_M l g.1 (zz_T g) (zz_W g) ky_ModuleFile_importCheck kb_ModuleFile_importCheck 2 (some .int) (xx_rm 1 21) [.ref (g.2.1 8), .int x1] u (some (.int r)) u9 := by
  refine xx_body (by decide) (Nat.le_of_ble_eq_true rfl) ?_
  intro p e s m args below meth c A ls C hin hK hl hA hP hD hS
  have hx := C.1
  have hb := C.2.1
  have hown := C.2.2.2.1
  have hts := C.2.2.2.2.1
  have hl : lv_has ls 2 [(0, .ref (g.2.1 8)), (1, .int x1)] := hl
  unfold zf_ModuleFile_importCheck at hF
  refine lv_aload_n hx hb zd_ModuleFile_importCheck_0 rfl (lv_at hl 0 rfl) ?_
  refine xx_get C ki_ModuleFile hK hP 8 rfl rfl 7 (by decide) kw_103 rfl rfl zd_ModuleFile_importCheck_1 ?_
  refine lv_aload_n hx hb zd_ModuleFile_importCheck_4 rfl (lv_at hl 0 rfl) ?_
  refine xx_get C ki_ModuleFile hK hP 8 rfl rfl 8 (by decide) kw_104 rfl rfl zd_ModuleFile_importCheck_5 ?_
  refine lv_iconst (v := (2 : Int32)) hx hb zd_ModuleFile_importCheck_8 (by decide) ?_
  refine lv_iload_n hx hb zd_ModuleFile_importCheck_9 rfl (lv_at hl 1 rfl) ?_
  refine lv_imul hx hb zd_ModuleFile_importCheck_10 ?_
  refine lv_iadd hx hb zd_ModuleFile_importCheck_11 ?_
  refine lv_iconst (v := (1 : Int32)) hx hb zd_ModuleFile_importCheck_12 (by decide) ?_
  refine lv_iadd hx hb zd_ModuleFile_importCheck_13 ?_
  obtain ⟨v2, u1, eu1, hF⟩ := xx_b2_some hF
  refine xx_callV (n := 1) (As := [.int (((u.1 12) + ((2 : Int32) * x1)) + (1 : Int32))]) (rest := []) C (zc_Tape_wordAt l g u (((u.1 12) + ((2 : Int32) * x1)) + (1 : Int32)) v2 u1 eu1) ⟨kw_510, kw_507, kw_508, kw_509, kw_4⟩ ⟨by decide +kernel, by decide +kernel, by decide +kernel⟩ rfl ⟨Nat.le_of_ble_eq_true rfl, Nat.le_of_ble_eq_true rfl⟩ 6 rfl rfl hl.1 rfl (Nat.le_of_ble_eq_true rfl) hA hK hP hD hS ⟨Nat.le_refl _, Nat.le_refl _⟩ rfl rfl rfl zd_ModuleFile_importCheck_14 (fun H locs hP hD hS => ?_)
  exact xx_iret C hF hK hP hD hS zd_ModuleFile_importCheck_17
theorem kw_105 : Cond.fieldLink "ModuleLoader$ModuleFile" 43 "ModuleLoader$ModuleFile" "exportsStart" "I" ∈ xx_tb := xx_in (List.mem_append_right _ (List.mem_of_getElem? (i := 105) (by decide +kernel))) (by decide +kernel)
theorem zd_ModuleFile_exportName_0 : decode kb_ModuleFile_exportName 0 = .ok (.aload_n 0, 1) := by decide +kernel
theorem zd_ModuleFile_exportName_1 : decode kb_ModuleFile_exportName 1 = .ok (.getfield 9, 3) := by decide +kernel
theorem zd_ModuleFile_exportName_4 : decode kb_ModuleFile_exportName 4 = .ok (.aload_n 0, 1) := by decide +kernel
theorem zd_ModuleFile_exportName_5 : decode kb_ModuleFile_exportName 5 = .ok (.getfield 43, 3) := by decide +kernel
theorem zd_ModuleFile_exportName_8 : decode kb_ModuleFile_exportName 8 = .ok (.iconst 3, 1) := by decide +kernel
theorem zd_ModuleFile_exportName_9 : decode kb_ModuleFile_exportName 9 = .ok (.iload_n 1, 1) := by decide +kernel
theorem zd_ModuleFile_exportName_10 : decode kb_ModuleFile_exportName 10 = .ok (.imul, 1) := by decide +kernel
theorem zd_ModuleFile_exportName_11 : decode kb_ModuleFile_exportName 11 = .ok (.iadd, 1) := by decide +kernel
theorem zd_ModuleFile_exportName_12 : decode kb_ModuleFile_exportName 12 = .ok (.invokevirtual 21, 3) := by decide +kernel
theorem zd_ModuleFile_exportName_15 : decode kb_ModuleFile_exportName 15 = .ok (.ireturn, 1) := by decide +kernel
def zf_ModuleFile_exportName (u : zz_S) (x1 : Int32) : Option (Int32 × zz_S) := xx_b2 (zf_Tape_wordAt u ((u.1 13) + ((3 : Int32) * x1))) fun v2 u1 => some (v2, u1)
set_option maxHeartbeats 4000000 in
set_option maxRecDepth 100000 in
theorem zc_ModuleFile_exportName (l : Launch) (g : xx_G) (u : zz_S) (x1 : Int32) (r : Int32) (u9 : zz_S) (hF : zf_ModuleFile_exportName u x1 = some (r, u9)) : xx_M l g.1 (zz_T g) (zz_W g) ky_ModuleFile_exportName kb_ModuleFile_exportName 2 (some .int) (xx_rm 1 21) [.ref (g.2.1 8), .int x1] u (some (.int r)) u9 := by
  refine xx_body (by decide) (Nat.le_of_ble_eq_true rfl) ?_
  intro p e s m args below meth c A ls C hin hK hl hA hP hD hS
  have hx := C.1
  have hb := C.2.1
  have hown := C.2.2.2.1
  have hts := C.2.2.2.2.1
  have hl : lv_has ls 2 [(0, .ref (g.2.1 8)), (1, .int x1)] := hl
  unfold zf_ModuleFile_exportName at hF
  refine lv_aload_n hx hb zd_ModuleFile_exportName_0 rfl (lv_at hl 0 rfl) ?_
  refine xx_get C ki_ModuleFile hK hP 8 rfl rfl 7 (by decide) kw_103 rfl rfl zd_ModuleFile_exportName_1 ?_
  refine lv_aload_n hx hb zd_ModuleFile_exportName_4 rfl (lv_at hl 0 rfl) ?_
  refine xx_get C ki_ModuleFile hK hP 8 rfl rfl 9 (by decide) kw_105 rfl rfl zd_ModuleFile_exportName_5 ?_
  refine lv_iconst (v := (3 : Int32)) hx hb zd_ModuleFile_exportName_8 (by decide) ?_
  refine lv_iload_n hx hb zd_ModuleFile_exportName_9 rfl (lv_at hl 1 rfl) ?_
  refine lv_imul hx hb zd_ModuleFile_exportName_10 ?_
  refine lv_iadd hx hb zd_ModuleFile_exportName_11 ?_
  obtain ⟨v2, u1, eu1, hF⟩ := xx_b2_some hF
  refine xx_callV (n := 1) (As := [.int ((u.1 13) + ((3 : Int32) * x1))]) (rest := []) C (zc_Tape_wordAt l g u ((u.1 13) + ((3 : Int32) * x1)) v2 u1 eu1) ⟨kw_510, kw_507, kw_508, kw_509, kw_4⟩ ⟨by decide +kernel, by decide +kernel, by decide +kernel⟩ rfl ⟨Nat.le_of_ble_eq_true rfl, Nat.le_of_ble_eq_true rfl⟩ 6 rfl rfl hl.1 rfl (Nat.le_of_ble_eq_true rfl) hA hK hP hD hS ⟨Nat.le_refl _, Nat.le_refl _⟩ rfl rfl rfl zd_ModuleFile_exportName_12 (fun H locs hP hD hS => ?_)
  exact xx_iret C hF hK hP hD hS zd_ModuleFile_exportName_15
theorem zd_ModuleFile_exportCheck_0 : decode kb_ModuleFile_exportCheck 0 = .ok (.aload_n 0, 1) := by decide +kernel
theorem zd_ModuleFile_exportCheck_1 : decode kb_ModuleFile_exportCheck 1 = .ok (.getfield 9, 3) := by decide +kernel
theorem zd_ModuleFile_exportCheck_4 : decode kb_ModuleFile_exportCheck 4 = .ok (.aload_n 0, 1) := by decide +kernel
theorem zd_ModuleFile_exportCheck_5 : decode kb_ModuleFile_exportCheck 5 = .ok (.getfield 43, 3) := by decide +kernel
theorem zd_ModuleFile_exportCheck_8 : decode kb_ModuleFile_exportCheck 8 = .ok (.iconst 3, 1) := by decide +kernel
theorem zd_ModuleFile_exportCheck_9 : decode kb_ModuleFile_exportCheck 9 = .ok (.iload_n 1, 1) := by decide +kernel
theorem zd_ModuleFile_exportCheck_10 : decode kb_ModuleFile_exportCheck 10 = .ok (.imul, 1) := by decide +kernel
theorem zd_ModuleFile_exportCheck_11 : decode kb_ModuleFile_exportCheck 11 = .ok (.iadd, 1) := by decide +kernel
theorem zd_ModuleFile_exportCheck_12 : decode kb_ModuleFile_exportCheck 12 = .ok (.iconst 1, 1) := by decide +kernel
theorem zd_ModuleFile_exportCheck_13 : decode kb_ModuleFile_exportCheck 13 = .ok (.iadd, 1) := by decide +kernel
theorem zd_ModuleFile_exportCheck_14 : decode kb_ModuleFile_exportCheck 14 = .ok (.invokevirtual 21, 3) := by decide +kernel
theorem zd_ModuleFile_exportCheck_17 : decode kb_ModuleFile_exportCheck 17 = .ok (.ireturn, 1) := by decide +kernel
def zf_ModuleFile_exportCheck (u : zz_S) (x1 : Int32) : Option (Int32 × zz_S) := xx_b2 (zf_Tape_wordAt u (((u.1 13) + ((3 : Int32) * x1)) + (1 : Int32))) fun v2 u1 => some (v2, u1)
set_option maxHeartbeats 4000000 in
set_option maxRecDepth 100000 in
theorem zc_ModuleFile_exportCheck (l : Launch) (g : xx_G) (u : zz_S) (x1 : Int32) (r : Int32) (u9 : zz_S) (hF : zf_ModuleFile_exportCheck u x1 = some (r, u9)) : xx_M l g.1 (zz_T g) (zz_W g) ky_ModuleFile_exportCheck kb_ModuleFile_exportCheck 2 (some .int) (xx_rm 1 21) [.ref (g.2.1 8), .int x1] u (some (.int r)) u9 := by
  refine xx_body (by decide) (Nat.le_of_ble_eq_true rfl) ?_
  intro p e s m args below meth c A ls C hin hK hl hA hP hD hS
  have hx := C.1
  have hb := C.2.1
  have hown := C.2.2.2.1
  have hts := C.2.2.2.2.1
  have hl : lv_has ls 2 [(0, .ref (g.2.1 8)), (1, .int x1)] := hl
  unfold zf_ModuleFile_exportCheck at hF
  refine lv_aload_n hx hb zd_ModuleFile_exportCheck_0 rfl (lv_at hl 0 rfl) ?_
  refine xx_get C ki_ModuleFile hK hP 8 rfl rfl 7 (by decide) kw_103 rfl rfl zd_ModuleFile_exportCheck_1 ?_
  refine lv_aload_n hx hb zd_ModuleFile_exportCheck_4 rfl (lv_at hl 0 rfl) ?_
  refine xx_get C ki_ModuleFile hK hP 8 rfl rfl 9 (by decide) kw_105 rfl rfl zd_ModuleFile_exportCheck_5 ?_
  refine lv_iconst (v := (3 : Int32)) hx hb zd_ModuleFile_exportCheck_8 (by decide) ?_
  refine lv_iload_n hx hb zd_ModuleFile_exportCheck_9 rfl (lv_at hl 1 rfl) ?_
  refine lv_imul hx hb zd_ModuleFile_exportCheck_10 ?_
  refine lv_iadd hx hb zd_ModuleFile_exportCheck_11 ?_
  refine lv_iconst (v := (1 : Int32)) hx hb zd_ModuleFile_exportCheck_12 (by decide) ?_
  refine lv_iadd hx hb zd_ModuleFile_exportCheck_13 ?_
  obtain ⟨v2, u1, eu1, hF⟩ := xx_b2_some hF
  refine xx_callV (n := 1) (As := [.int (((u.1 13) + ((3 : Int32) * x1)) + (1 : Int32))]) (rest := []) C (zc_Tape_wordAt l g u (((u.1 13) + ((3 : Int32) * x1)) + (1 : Int32)) v2 u1 eu1) ⟨kw_510, kw_507, kw_508, kw_509, kw_4⟩ ⟨by decide +kernel, by decide +kernel, by decide +kernel⟩ rfl ⟨Nat.le_of_ble_eq_true rfl, Nat.le_of_ble_eq_true rfl⟩ 6 rfl rfl hl.1 rfl (Nat.le_of_ble_eq_true rfl) hA hK hP hD hS ⟨Nat.le_refl _, Nat.le_refl _⟩ rfl rfl rfl zd_ModuleFile_exportCheck_14 (fun H locs hP hD hS => ?_)
  exact xx_iret C hF hK hP hD hS zd_ModuleFile_exportCheck_17
theorem zd_ModuleFile_exportOffset_0 : decode kb_ModuleFile_exportOffset 0 = .ok (.aload_n 0, 1) := by decide +kernel
theorem zd_ModuleFile_exportOffset_1 : decode kb_ModuleFile_exportOffset 1 = .ok (.getfield 9, 3) := by decide +kernel
theorem zd_ModuleFile_exportOffset_4 : decode kb_ModuleFile_exportOffset 4 = .ok (.aload_n 0, 1) := by decide +kernel
theorem zd_ModuleFile_exportOffset_5 : decode kb_ModuleFile_exportOffset 5 = .ok (.getfield 43, 3) := by decide +kernel
theorem zd_ModuleFile_exportOffset_8 : decode kb_ModuleFile_exportOffset 8 = .ok (.iconst 3, 1) := by decide +kernel
theorem zd_ModuleFile_exportOffset_9 : decode kb_ModuleFile_exportOffset 9 = .ok (.iload_n 1, 1) := by decide +kernel
theorem zd_ModuleFile_exportOffset_10 : decode kb_ModuleFile_exportOffset 10 = .ok (.imul, 1) := by decide +kernel
theorem zd_ModuleFile_exportOffset_11 : decode kb_ModuleFile_exportOffset 11 = .ok (.iadd, 1) := by decide +kernel
theorem zd_ModuleFile_exportOffset_12 : decode kb_ModuleFile_exportOffset 12 = .ok (.iconst 2, 1) := by decide +kernel
theorem zd_ModuleFile_exportOffset_13 : decode kb_ModuleFile_exportOffset 13 = .ok (.iadd, 1) := by decide +kernel
theorem zd_ModuleFile_exportOffset_14 : decode kb_ModuleFile_exportOffset 14 = .ok (.invokevirtual 21, 3) := by decide +kernel
theorem zd_ModuleFile_exportOffset_17 : decode kb_ModuleFile_exportOffset 17 = .ok (.ireturn, 1) := by decide +kernel
def zf_ModuleFile_exportOffset (u : zz_S) (x1 : Int32) : Option (Int32 × zz_S) := xx_b2 (zf_Tape_wordAt u (((u.1 13) + ((3 : Int32) * x1)) + (2 : Int32))) fun v2 u1 => some (v2, u1)
set_option maxHeartbeats 4000000 in
set_option maxRecDepth 100000 in
theorem zc_ModuleFile_exportOffset (l : Launch) (g : xx_G) (u : zz_S) (x1 : Int32) (r : Int32) (u9 : zz_S) (hF : zf_ModuleFile_exportOffset u x1 = some (r, u9)) : xx_M l g.1 (zz_T g) (zz_W g) ky_ModuleFile_exportOffset kb_ModuleFile_exportOffset 2 (some .int) (xx_rm 1 21) [.ref (g.2.1 8), .int x1] u (some (.int r)) u9 := by
  refine xx_body (by decide) (Nat.le_of_ble_eq_true rfl) ?_
  intro p e s m args below meth c A ls C hin hK hl hA hP hD hS
  have hx := C.1
  have hb := C.2.1
  have hown := C.2.2.2.1
  have hts := C.2.2.2.2.1
  have hl : lv_has ls 2 [(0, .ref (g.2.1 8)), (1, .int x1)] := hl
  unfold zf_ModuleFile_exportOffset at hF
  refine lv_aload_n hx hb zd_ModuleFile_exportOffset_0 rfl (lv_at hl 0 rfl) ?_
  refine xx_get C ki_ModuleFile hK hP 8 rfl rfl 7 (by decide) kw_103 rfl rfl zd_ModuleFile_exportOffset_1 ?_
  refine lv_aload_n hx hb zd_ModuleFile_exportOffset_4 rfl (lv_at hl 0 rfl) ?_
  refine xx_get C ki_ModuleFile hK hP 8 rfl rfl 9 (by decide) kw_105 rfl rfl zd_ModuleFile_exportOffset_5 ?_
  refine lv_iconst (v := (3 : Int32)) hx hb zd_ModuleFile_exportOffset_8 (by decide) ?_
  refine lv_iload_n hx hb zd_ModuleFile_exportOffset_9 rfl (lv_at hl 1 rfl) ?_
  refine lv_imul hx hb zd_ModuleFile_exportOffset_10 ?_
  refine lv_iadd hx hb zd_ModuleFile_exportOffset_11 ?_
  refine lv_iconst (v := (2 : Int32)) hx hb zd_ModuleFile_exportOffset_12 (by decide) ?_
  refine lv_iadd hx hb zd_ModuleFile_exportOffset_13 ?_
  obtain ⟨v2, u1, eu1, hF⟩ := xx_b2_some hF
  refine xx_callV (n := 1) (As := [.int (((u.1 13) + ((3 : Int32) * x1)) + (2 : Int32))]) (rest := []) C (zc_Tape_wordAt l g u (((u.1 13) + ((3 : Int32) * x1)) + (2 : Int32)) v2 u1 eu1) ⟨kw_510, kw_507, kw_508, kw_509, kw_4⟩ ⟨by decide +kernel, by decide +kernel, by decide +kernel⟩ rfl ⟨Nat.le_of_ble_eq_true rfl, Nat.le_of_ble_eq_true rfl⟩ 6 rfl rfl hl.1 rfl (Nat.le_of_ble_eq_true rfl) hA hK hP hD hS ⟨Nat.le_refl _, Nat.le_refl _⟩ rfl rfl rfl zd_ModuleFile_exportOffset_14 (fun H locs hP hD hS => ?_)
  exact xx_iret C hF hK hP hD hS zd_ModuleFile_exportOffset_17
theorem kw_106 : Cond.fieldLink "ModuleLoader$ModuleFile" 49 "ModuleLoader$ModuleFile" "placesStart" "I" ∈ xx_tb := xx_in (List.mem_append_right _ (List.mem_of_getElem? (i := 106) (by decide +kernel))) (by decide +kernel)
theorem zd_ModuleFile_placeKind_0 : decode kb_ModuleFile_placeKind 0 = .ok (.aload_n 0, 1) := by decide +kernel
theorem zd_ModuleFile_placeKind_1 : decode kb_ModuleFile_placeKind 1 = .ok (.getfield 9, 3) := by decide +kernel
theorem zd_ModuleFile_placeKind_4 : decode kb_ModuleFile_placeKind 4 = .ok (.aload_n 0, 1) := by decide +kernel
theorem zd_ModuleFile_placeKind_5 : decode kb_ModuleFile_placeKind 5 = .ok (.getfield 49, 3) := by decide +kernel
theorem zd_ModuleFile_placeKind_8 : decode kb_ModuleFile_placeKind 8 = .ok (.iconst 4, 1) := by decide +kernel
theorem zd_ModuleFile_placeKind_9 : decode kb_ModuleFile_placeKind 9 = .ok (.iload_n 1, 1) := by decide +kernel
theorem zd_ModuleFile_placeKind_10 : decode kb_ModuleFile_placeKind 10 = .ok (.imul, 1) := by decide +kernel
theorem zd_ModuleFile_placeKind_11 : decode kb_ModuleFile_placeKind 11 = .ok (.iadd, 1) := by decide +kernel
theorem zd_ModuleFile_placeKind_12 : decode kb_ModuleFile_placeKind 12 = .ok (.invokevirtual 21, 3) := by decide +kernel
theorem zd_ModuleFile_placeKind_15 : decode kb_ModuleFile_placeKind 15 = .ok (.ireturn, 1) := by decide +kernel
def zf_ModuleFile_placeKind (u : zz_S) (x1 : Int32) : Option (Int32 × zz_S) := xx_b2 (zf_Tape_wordAt u ((u.1 14) + ((4 : Int32) * x1))) fun v2 u1 => some (v2, u1)
set_option maxHeartbeats 4000000 in
set_option maxRecDepth 100000 in
theorem zc_ModuleFile_placeKind (l : Launch) (g : xx_G) (u : zz_S) (x1 : Int32) (r : Int32) (u9 : zz_S) (hF : zf_ModuleFile_placeKind u x1 = some (r, u9)) : xx_M l g.1 (zz_T g) (zz_W g) ky_ModuleFile_placeKind kb_ModuleFile_placeKind 2 (some .int) (xx_rm 1 21) [.ref (g.2.1 8), .int x1] u (some (.int r)) u9 := by
  refine xx_body (by decide) (Nat.le_of_ble_eq_true rfl) ?_
  intro p e s m args below meth c A ls C hin hK hl hA hP hD hS
  have hx := C.1
  have hb := C.2.1
  have hown := C.2.2.2.1
  have hts := C.2.2.2.2.1
  have hl : lv_has ls 2 [(0, .ref (g.2.1 8)), (1, .int x1)] := hl
  unfold zf_ModuleFile_placeKind at hF
  refine lv_aload_n hx hb zd_ModuleFile_placeKind_0 rfl (lv_at hl 0 rfl) ?_
  refine xx_get C ki_ModuleFile hK hP 8 rfl rfl 7 (by decide) kw_103 rfl rfl zd_ModuleFile_placeKind_1 ?_
  refine lv_aload_n hx hb zd_ModuleFile_placeKind_4 rfl (lv_at hl 0 rfl) ?_
  refine xx_get C ki_ModuleFile hK hP 8 rfl rfl 10 (by decide) kw_106 rfl rfl zd_ModuleFile_placeKind_5 ?_
  refine lv_iconst (v := (4 : Int32)) hx hb zd_ModuleFile_placeKind_8 (by decide) ?_
  refine lv_iload_n hx hb zd_ModuleFile_placeKind_9 rfl (lv_at hl 1 rfl) ?_
  refine lv_imul hx hb zd_ModuleFile_placeKind_10 ?_
  refine lv_iadd hx hb zd_ModuleFile_placeKind_11 ?_
  obtain ⟨v2, u1, eu1, hF⟩ := xx_b2_some hF
  refine xx_callV (n := 1) (As := [.int ((u.1 14) + ((4 : Int32) * x1))]) (rest := []) C (zc_Tape_wordAt l g u ((u.1 14) + ((4 : Int32) * x1)) v2 u1 eu1) ⟨kw_510, kw_507, kw_508, kw_509, kw_4⟩ ⟨by decide +kernel, by decide +kernel, by decide +kernel⟩ rfl ⟨Nat.le_of_ble_eq_true rfl, Nat.le_of_ble_eq_true rfl⟩ 6 rfl rfl hl.1 rfl (Nat.le_of_ble_eq_true rfl) hA hK hP hD hS ⟨Nat.le_refl _, Nat.le_refl _⟩ rfl rfl rfl zd_ModuleFile_placeKind_12 (fun H locs hP hD hS => ?_)
  exact xx_iret C hF hK hP hD hS zd_ModuleFile_placeKind_15
theorem zd_ModuleFile_placeOffset_0 : decode kb_ModuleFile_placeOffset 0 = .ok (.aload_n 0, 1) := by decide +kernel
theorem zd_ModuleFile_placeOffset_1 : decode kb_ModuleFile_placeOffset 1 = .ok (.getfield 9, 3) := by decide +kernel
theorem zd_ModuleFile_placeOffset_4 : decode kb_ModuleFile_placeOffset 4 = .ok (.aload_n 0, 1) := by decide +kernel
theorem zd_ModuleFile_placeOffset_5 : decode kb_ModuleFile_placeOffset 5 = .ok (.getfield 49, 3) := by decide +kernel
theorem zd_ModuleFile_placeOffset_8 : decode kb_ModuleFile_placeOffset 8 = .ok (.iconst 4, 1) := by decide +kernel
theorem zd_ModuleFile_placeOffset_9 : decode kb_ModuleFile_placeOffset 9 = .ok (.iload_n 1, 1) := by decide +kernel
theorem zd_ModuleFile_placeOffset_10 : decode kb_ModuleFile_placeOffset 10 = .ok (.imul, 1) := by decide +kernel
theorem zd_ModuleFile_placeOffset_11 : decode kb_ModuleFile_placeOffset 11 = .ok (.iadd, 1) := by decide +kernel
theorem zd_ModuleFile_placeOffset_12 : decode kb_ModuleFile_placeOffset 12 = .ok (.iconst 1, 1) := by decide +kernel
theorem zd_ModuleFile_placeOffset_13 : decode kb_ModuleFile_placeOffset 13 = .ok (.iadd, 1) := by decide +kernel
theorem zd_ModuleFile_placeOffset_14 : decode kb_ModuleFile_placeOffset 14 = .ok (.invokevirtual 21, 3) := by decide +kernel
theorem zd_ModuleFile_placeOffset_17 : decode kb_ModuleFile_placeOffset 17 = .ok (.ireturn, 1) := by decide +kernel
def zf_ModuleFile_placeOffset (u : zz_S) (x1 : Int32) : Option (Int32 × zz_S) := xx_b2 (zf_Tape_wordAt u (((u.1 14) + ((4 : Int32) * x1)) + (1 : Int32))) fun v2 u1 => some (v2, u1)
set_option maxHeartbeats 4000000 in
set_option maxRecDepth 100000 in
theorem zc_ModuleFile_placeOffset (l : Launch) (g : xx_G) (u : zz_S) (x1 : Int32) (r : Int32) (u9 : zz_S) (hF : zf_ModuleFile_placeOffset u x1 = some (r, u9)) : xx_M l g.1 (zz_T g) (zz_W g) ky_ModuleFile_placeOffset kb_ModuleFile_placeOffset 2 (some .int) (xx_rm 1 21) [.ref (g.2.1 8), .int x1] u (some (.int r)) u9 := by
  refine xx_body (by decide) (Nat.le_of_ble_eq_true rfl) ?_
  intro p e s m args below meth c A ls C hin hK hl hA hP hD hS
  have hx := C.1
  have hb := C.2.1
  have hown := C.2.2.2.1
  have hts := C.2.2.2.2.1
  have hl : lv_has ls 2 [(0, .ref (g.2.1 8)), (1, .int x1)] := hl
  unfold zf_ModuleFile_placeOffset at hF
  refine lv_aload_n hx hb zd_ModuleFile_placeOffset_0 rfl (lv_at hl 0 rfl) ?_
  refine xx_get C ki_ModuleFile hK hP 8 rfl rfl 7 (by decide) kw_103 rfl rfl zd_ModuleFile_placeOffset_1 ?_
  refine lv_aload_n hx hb zd_ModuleFile_placeOffset_4 rfl (lv_at hl 0 rfl) ?_
  refine xx_get C ki_ModuleFile hK hP 8 rfl rfl 10 (by decide) kw_106 rfl rfl zd_ModuleFile_placeOffset_5 ?_
  refine lv_iconst (v := (4 : Int32)) hx hb zd_ModuleFile_placeOffset_8 (by decide) ?_
  refine lv_iload_n hx hb zd_ModuleFile_placeOffset_9 rfl (lv_at hl 1 rfl) ?_
  refine lv_imul hx hb zd_ModuleFile_placeOffset_10 ?_
  refine lv_iadd hx hb zd_ModuleFile_placeOffset_11 ?_
  refine lv_iconst (v := (1 : Int32)) hx hb zd_ModuleFile_placeOffset_12 (by decide) ?_
  refine lv_iadd hx hb zd_ModuleFile_placeOffset_13 ?_
  obtain ⟨v2, u1, eu1, hF⟩ := xx_b2_some hF
  refine xx_callV (n := 1) (As := [.int (((u.1 14) + ((4 : Int32) * x1)) + (1 : Int32))]) (rest := []) C (zc_Tape_wordAt l g u (((u.1 14) + ((4 : Int32) * x1)) + (1 : Int32)) v2 u1 eu1) ⟨kw_510, kw_507, kw_508, kw_509, kw_4⟩ ⟨by decide +kernel, by decide +kernel, by decide +kernel⟩ rfl ⟨Nat.le_of_ble_eq_true rfl, Nat.le_of_ble_eq_true rfl⟩ 6 rfl rfl hl.1 rfl (Nat.le_of_ble_eq_true rfl) hA hK hP hD hS ⟨Nat.le_refl _, Nat.le_refl _⟩ rfl rfl rfl zd_ModuleFile_placeOffset_14 (fun H locs hP hD hS => ?_)
  exact xx_iret C hF hK hP hD hS zd_ModuleFile_placeOffset_17
theorem zd_ModuleFile_placeSource_0 : decode kb_ModuleFile_placeSource 0 = .ok (.aload_n 0, 1) := by decide +kernel
theorem zd_ModuleFile_placeSource_1 : decode kb_ModuleFile_placeSource 1 = .ok (.getfield 9, 3) := by decide +kernel
theorem zd_ModuleFile_placeSource_4 : decode kb_ModuleFile_placeSource 4 = .ok (.aload_n 0, 1) := by decide +kernel
theorem zd_ModuleFile_placeSource_5 : decode kb_ModuleFile_placeSource 5 = .ok (.getfield 49, 3) := by decide +kernel
theorem zd_ModuleFile_placeSource_8 : decode kb_ModuleFile_placeSource 8 = .ok (.iconst 4, 1) := by decide +kernel
theorem zd_ModuleFile_placeSource_9 : decode kb_ModuleFile_placeSource 9 = .ok (.iload_n 1, 1) := by decide +kernel
theorem zd_ModuleFile_placeSource_10 : decode kb_ModuleFile_placeSource 10 = .ok (.imul, 1) := by decide +kernel
theorem zd_ModuleFile_placeSource_11 : decode kb_ModuleFile_placeSource 11 = .ok (.iadd, 1) := by decide +kernel
theorem zd_ModuleFile_placeSource_12 : decode kb_ModuleFile_placeSource 12 = .ok (.iconst 2, 1) := by decide +kernel
theorem zd_ModuleFile_placeSource_13 : decode kb_ModuleFile_placeSource 13 = .ok (.iadd, 1) := by decide +kernel
theorem zd_ModuleFile_placeSource_14 : decode kb_ModuleFile_placeSource 14 = .ok (.invokevirtual 21, 3) := by decide +kernel
theorem zd_ModuleFile_placeSource_17 : decode kb_ModuleFile_placeSource 17 = .ok (.ireturn, 1) := by decide +kernel
def zf_ModuleFile_placeSource (u : zz_S) (x1 : Int32) : Option (Int32 × zz_S) := xx_b2 (zf_Tape_wordAt u (((u.1 14) + ((4 : Int32) * x1)) + (2 : Int32))) fun v2 u1 => some (v2, u1)
set_option maxHeartbeats 4000000 in
set_option maxRecDepth 100000 in
theorem zc_ModuleFile_placeSource (l : Launch) (g : xx_G) (u : zz_S) (x1 : Int32) (r : Int32) (u9 : zz_S) (hF : zf_ModuleFile_placeSource u x1 = some (r, u9)) : xx_M l g.1 (zz_T g) (zz_W g) ky_ModuleFile_placeSource kb_ModuleFile_placeSource 2 (some .int) (xx_rm 1 21) [.ref (g.2.1 8), .int x1] u (some (.int r)) u9 := by
  refine xx_body (by decide) (Nat.le_of_ble_eq_true rfl) ?_
  intro p e s m args below meth c A ls C hin hK hl hA hP hD hS
  have hx := C.1
  have hb := C.2.1
  have hown := C.2.2.2.1
  have hts := C.2.2.2.2.1
  have hl : lv_has ls 2 [(0, .ref (g.2.1 8)), (1, .int x1)] := hl
  unfold zf_ModuleFile_placeSource at hF
  refine lv_aload_n hx hb zd_ModuleFile_placeSource_0 rfl (lv_at hl 0 rfl) ?_
  refine xx_get C ki_ModuleFile hK hP 8 rfl rfl 7 (by decide) kw_103 rfl rfl zd_ModuleFile_placeSource_1 ?_
  refine lv_aload_n hx hb zd_ModuleFile_placeSource_4 rfl (lv_at hl 0 rfl) ?_
  refine xx_get C ki_ModuleFile hK hP 8 rfl rfl 10 (by decide) kw_106 rfl rfl zd_ModuleFile_placeSource_5 ?_
  refine lv_iconst (v := (4 : Int32)) hx hb zd_ModuleFile_placeSource_8 (by decide) ?_
  refine lv_iload_n hx hb zd_ModuleFile_placeSource_9 rfl (lv_at hl 1 rfl) ?_
  refine lv_imul hx hb zd_ModuleFile_placeSource_10 ?_
  refine lv_iadd hx hb zd_ModuleFile_placeSource_11 ?_
  refine lv_iconst (v := (2 : Int32)) hx hb zd_ModuleFile_placeSource_12 (by decide) ?_
  refine lv_iadd hx hb zd_ModuleFile_placeSource_13 ?_
  obtain ⟨v2, u1, eu1, hF⟩ := xx_b2_some hF
  refine xx_callV (n := 1) (As := [.int (((u.1 14) + ((4 : Int32) * x1)) + (2 : Int32))]) (rest := []) C (zc_Tape_wordAt l g u (((u.1 14) + ((4 : Int32) * x1)) + (2 : Int32)) v2 u1 eu1) ⟨kw_510, kw_507, kw_508, kw_509, kw_4⟩ ⟨by decide +kernel, by decide +kernel, by decide +kernel⟩ rfl ⟨Nat.le_of_ble_eq_true rfl, Nat.le_of_ble_eq_true rfl⟩ 6 rfl rfl hl.1 rfl (Nat.le_of_ble_eq_true rfl) hA hK hP hD hS ⟨Nat.le_refl _, Nat.le_refl _⟩ rfl rfl rfl zd_ModuleFile_placeSource_14 (fun H locs hP hD hS => ?_)
  exact xx_iret C hF hK hP hD hS zd_ModuleFile_placeSource_17
theorem zd_ModuleFile_placeAddend_0 : decode kb_ModuleFile_placeAddend 0 = .ok (.aload_n 0, 1) := by decide +kernel
theorem zd_ModuleFile_placeAddend_1 : decode kb_ModuleFile_placeAddend 1 = .ok (.getfield 9, 3) := by decide +kernel
theorem zd_ModuleFile_placeAddend_4 : decode kb_ModuleFile_placeAddend 4 = .ok (.aload_n 0, 1) := by decide +kernel
theorem zd_ModuleFile_placeAddend_5 : decode kb_ModuleFile_placeAddend 5 = .ok (.getfield 49, 3) := by decide +kernel
theorem zd_ModuleFile_placeAddend_8 : decode kb_ModuleFile_placeAddend 8 = .ok (.iconst 4, 1) := by decide +kernel
theorem zd_ModuleFile_placeAddend_9 : decode kb_ModuleFile_placeAddend 9 = .ok (.iload_n 1, 1) := by decide +kernel
theorem zd_ModuleFile_placeAddend_10 : decode kb_ModuleFile_placeAddend 10 = .ok (.imul, 1) := by decide +kernel
theorem zd_ModuleFile_placeAddend_11 : decode kb_ModuleFile_placeAddend 11 = .ok (.iadd, 1) := by decide +kernel
theorem zd_ModuleFile_placeAddend_12 : decode kb_ModuleFile_placeAddend 12 = .ok (.iconst 3, 1) := by decide +kernel
theorem zd_ModuleFile_placeAddend_13 : decode kb_ModuleFile_placeAddend 13 = .ok (.iadd, 1) := by decide +kernel
theorem zd_ModuleFile_placeAddend_14 : decode kb_ModuleFile_placeAddend 14 = .ok (.invokevirtual 21, 3) := by decide +kernel
theorem zd_ModuleFile_placeAddend_17 : decode kb_ModuleFile_placeAddend 17 = .ok (.ireturn, 1) := by decide +kernel
def zf_ModuleFile_placeAddend (u : zz_S) (x1 : Int32) : Option (Int32 × zz_S) := xx_b2 (zf_Tape_wordAt u (((u.1 14) + ((4 : Int32) * x1)) + (3 : Int32))) fun v2 u1 => some (v2, u1)
set_option maxHeartbeats 4000000 in
set_option maxRecDepth 100000 in
theorem zc_ModuleFile_placeAddend (l : Launch) (g : xx_G) (u : zz_S) (x1 : Int32) (r : Int32) (u9 : zz_S) (hF : zf_ModuleFile_placeAddend u x1 = some (r, u9)) : xx_M l g.1 (zz_T g) (zz_W g) ky_ModuleFile_placeAddend kb_ModuleFile_placeAddend 2 (some .int) (xx_rm 1 21) [.ref (g.2.1 8), .int x1] u (some (.int r)) u9 := by
  refine xx_body (by decide) (Nat.le_of_ble_eq_true rfl) ?_
  intro p e s m args below meth c A ls C hin hK hl hA hP hD hS
  have hx := C.1
  have hb := C.2.1
  have hown := C.2.2.2.1
  have hts := C.2.2.2.2.1
  have hl : lv_has ls 2 [(0, .ref (g.2.1 8)), (1, .int x1)] := hl
  unfold zf_ModuleFile_placeAddend at hF
  refine lv_aload_n hx hb zd_ModuleFile_placeAddend_0 rfl (lv_at hl 0 rfl) ?_
  refine xx_get C ki_ModuleFile hK hP 8 rfl rfl 7 (by decide) kw_103 rfl rfl zd_ModuleFile_placeAddend_1 ?_
  refine lv_aload_n hx hb zd_ModuleFile_placeAddend_4 rfl (lv_at hl 0 rfl) ?_
  refine xx_get C ki_ModuleFile hK hP 8 rfl rfl 10 (by decide) kw_106 rfl rfl zd_ModuleFile_placeAddend_5 ?_
  refine lv_iconst (v := (4 : Int32)) hx hb zd_ModuleFile_placeAddend_8 (by decide) ?_
  refine lv_iload_n hx hb zd_ModuleFile_placeAddend_9 rfl (lv_at hl 1 rfl) ?_
  refine lv_imul hx hb zd_ModuleFile_placeAddend_10 ?_
  refine lv_iadd hx hb zd_ModuleFile_placeAddend_11 ?_
  refine lv_iconst (v := (3 : Int32)) hx hb zd_ModuleFile_placeAddend_12 (by decide) ?_
  refine lv_iadd hx hb zd_ModuleFile_placeAddend_13 ?_
  obtain ⟨v2, u1, eu1, hF⟩ := xx_b2_some hF
  refine xx_callV (n := 1) (As := [.int (((u.1 14) + ((4 : Int32) * x1)) + (3 : Int32))]) (rest := []) C (zc_Tape_wordAt l g u (((u.1 14) + ((4 : Int32) * x1)) + (3 : Int32)) v2 u1 eu1) ⟨kw_510, kw_507, kw_508, kw_509, kw_4⟩ ⟨by decide +kernel, by decide +kernel, by decide +kernel⟩ rfl ⟨Nat.le_of_ble_eq_true rfl, Nat.le_of_ble_eq_true rfl⟩ 6 rfl rfl hl.1 rfl (Nat.le_of_ble_eq_true rfl) hA hK hP hD hS ⟨Nat.le_refl _, Nat.le_refl _⟩ rfl rfl rfl zd_ModuleFile_placeAddend_14 (fun H locs hP hD hS => ?_)
  exact xx_iret C hF hK hP hD hS zd_ModuleFile_placeAddend_17
theorem kw_284 : Cond.methodLink "ModuleLoader$ModuleTable" 24 ky_LoadedModule_needs ∈ xx_tb := xx_in (List.mem_append_right _ (List.mem_of_getElem? (i := 284) (by decide +kernel))) (by decide +kernel)
theorem zd_ModuleTable_howManyNeed_0 : decode kb_ModuleTable_howManyNeed 0 = .ok (.iconst 0, 1) := by decide +kernel
theorem zd_ModuleTable_howManyNeed_1 : decode kb_ModuleTable_howManyNeed 1 = .ok (.istore_n 2, 1) := by decide +kernel
theorem zd_ModuleTable_howManyNeed_2 : decode kb_ModuleTable_howManyNeed 2 = .ok (.iconst 0, 1) := by decide +kernel
theorem zd_ModuleTable_howManyNeed_3 : decode kb_ModuleTable_howManyNeed 3 = .ok (.istore_n 3, 1) := by decide +kernel
theorem zd_ModuleTable_howManyNeed_4 : decode kb_ModuleTable_howManyNeed 4 = .ok (.iload_n 3, 1) := by decide +kernel
theorem zd_ModuleTable_howManyNeed_5 : decode kb_ModuleTable_howManyNeed 5 = .ok (.aload_n 0, 1) := by decide +kernel
theorem zd_ModuleTable_howManyNeed_6 : decode kb_ModuleTable_howManyNeed 6 = .ok (.getfield 17, 3) := by decide +kernel
theorem zd_ModuleTable_howManyNeed_9 : decode kb_ModuleTable_howManyNeed 9 = .ok (.if_icmp .ge (34), 3) := by decide +kernel
theorem zd_ModuleTable_howManyNeed_12 : decode kb_ModuleTable_howManyNeed 12 = .ok (.aload_n 0, 1) := by decide +kernel
theorem zd_ModuleTable_howManyNeed_13 : decode kb_ModuleTable_howManyNeed 13 = .ok (.getfield 13, 3) := by decide +kernel
theorem zd_ModuleTable_howManyNeed_16 : decode kb_ModuleTable_howManyNeed 16 = .ok (.iload_n 3, 1) := by decide +kernel
theorem zd_ModuleTable_howManyNeed_17 : decode kb_ModuleTable_howManyNeed 17 = .ok (.aaload, 1) := by decide +kernel
theorem zd_ModuleTable_howManyNeed_18 : decode kb_ModuleTable_howManyNeed 18 = .ok (.ifnull (19), 3) := by decide +kernel
theorem zd_ModuleTable_howManyNeed_21 : decode kb_ModuleTable_howManyNeed 21 = .ok (.aload_n 0, 1) := by decide +kernel
theorem zd_ModuleTable_howManyNeed_22 : decode kb_ModuleTable_howManyNeed 22 = .ok (.getfield 13, 3) := by decide +kernel
theorem zd_ModuleTable_howManyNeed_25 : decode kb_ModuleTable_howManyNeed 25 = .ok (.iload_n 3, 1) := by decide +kernel
theorem zd_ModuleTable_howManyNeed_26 : decode kb_ModuleTable_howManyNeed 26 = .ok (.aaload, 1) := by decide +kernel
theorem zd_ModuleTable_howManyNeed_27 : decode kb_ModuleTable_howManyNeed 27 = .ok (.aload_n 1, 1) := by decide +kernel
theorem zd_ModuleTable_howManyNeed_28 : decode kb_ModuleTable_howManyNeed 28 = .ok (.invokevirtual 24, 3) := by decide +kernel
theorem zd_ModuleTable_howManyNeed_31 : decode kb_ModuleTable_howManyNeed 31 = .ok (.ifCond .eq (6), 3) := by decide +kernel
theorem zd_ModuleTable_howManyNeed_34 : decode kb_ModuleTable_howManyNeed 34 = .ok (.iinc 2 (1), 3) := by decide +kernel
theorem zd_ModuleTable_howManyNeed_37 : decode kb_ModuleTable_howManyNeed 37 = .ok (.iinc 3 (1), 3) := by decide +kernel
theorem zd_ModuleTable_howManyNeed_40 : decode kb_ModuleTable_howManyNeed 40 = .ok (.goto (-36), 3) := by decide +kernel
theorem zd_ModuleTable_howManyNeed_43 : decode kb_ModuleTable_howManyNeed 43 = .ok (.iload_n 2, 1) := by decide +kernel
theorem zd_ModuleTable_howManyNeed_44 : decode kb_ModuleTable_howManyNeed 44 = .ok (.ireturn, 1) := by decide +kernel
def zf_ModuleTable_howManyNeed_b37 (rec4 : zz_S → Option Nat → Int32 → Int32 → Option (Int32 × zz_S)) (u : zz_S) (x1 : Option Nat) (x2 : Int32) (x3 : Int32) : Option (Int32 × zz_S) := xx_nm (x3 + (1 : Int32)) fun v1 => rec4 u x1 x2 v1
def zf_ModuleTable_howManyNeed_b4 : Nat → zz_S → Option Nat → Int32 → Int32 → Option (Int32 × zz_S)
  | 0, _, _, _, _ => none
  | n + 1, u, x1, x2, x3 => if (u.1 16) ≤ x3 then (some (x2, u)) else ((xx_ag (u.2.2.1 1) 12 x3).bind fun v1 => xx_on v1 (zf_ModuleTable_howManyNeed_b37 (zf_ModuleTable_howManyNeed_b4 n) u x1 x2 x3) (fun a2 => (xx_ag (u.2.2.1 1) 12 x3).bind fun v3 => xx_nn v3 fun a4 => (zz_ok u a4 9).bind fun w5 => xx_b2 (zf_LoadedModule_needs u a4 x1) fun v7 u6 => if v7 = 0 then (zf_ModuleTable_howManyNeed_b37 (zf_ModuleTable_howManyNeed_b4 n) u6 x1 x2 x3) else (xx_nm (x2 + (1 : Int32)) fun v8 => zf_ModuleTable_howManyNeed_b37 (zf_ModuleTable_howManyNeed_b4 n) u6 x1 v8 x3)))
def zf_ModuleTable_howManyNeed (u : zz_S) (x1 : Option Nat) : Option (Int32 × zz_S) := xx_nm (0 : Int32) fun v1 => xx_nm (0 : Int32) fun v2 => zf_ModuleTable_howManyNeed_b4 xx_fu u x1 v1 v2
set_option maxHeartbeats 4000000 in
set_option maxRecDepth 100000 in
theorem zw_ModuleTable_howManyNeed_b37 {p : Program} {l : Launch} {e : Env} {s : State} {m : MethodId} {args : Array Value} {below : List Frame} {meth : Method} {c : Code} {A : Nat → Prop} {g : xx_G} {r : Int32} {u9 : zz_S} (C : xx_C p s m args meth c kb_ModuleTable_howManyNeed 4 kr_ModuleTable (some .int)) (hA : ∀ q, s.heap.size ≤ q → A q) (hK : va_K g.1 xx_cls (zz_T g) s) {rec4 : zz_S → Option Nat → Int32 → Int32 → Option (Int32 × zz_S)} (hrec4 : ∀ (u : zz_S) (x1 : Option Nat) (x2 : Int32) (x3 : Int32) (H : Heap) (locs : List Loc) (ls : Array Slot), rec4 u x1 x2 x3 = some (r, u9) → lv_has ls 4 [(0, .ref (g.2.1 11)), (1, (va_rf x1)), (2, .int x2), (3, .int x3)] → va_P g.1 xx_cls (zz_W g u) H → va_D A (zz_W g u) → va_S A s.heap H locs → W p l e (xx_rm 1 22) s m args below meth c H locs 0 0 (MQ below (xx_Q g.1 (zz_T g) (zz_W g) (some (.int r)) u9 A) args s 0 0 A) (F0 m 4 ls [])) : ∀ (u : zz_S) (x1 : Option Nat) (x2 : Int32) (x3 : Int32) (H : Heap) (locs : List Loc) (ls : Array Slot), zf_ModuleTable_howManyNeed_b37 rec4 u x1 x2 x3 = some (r, u9) → lv_has ls 4 [(0, .ref (g.2.1 11)), (1, (va_rf x1)), (2, .int x2), (3, .int x3)] → va_P g.1 xx_cls (zz_W g u) H → va_D A (zz_W g u) → va_S A s.heap H locs → W p l e (xx_rm 1 22) s m args below meth c H locs 0 0 (MQ below (xx_Q g.1 (zz_T g) (zz_W g) (some (.int r)) u9 A) args s 0 0 A) (F0 m 37 ls []) := by
  have hx := C.1
  have hb := C.2.1
  have hown := C.2.2.2.1
  have hts := C.2.2.2.2.1
  intro u x1 x2 x3 H locs ls hF hl hP hD hS
  unfold zf_ModuleTable_howManyNeed_b37 at hF
  obtain ⟨v1, ev1, hF⟩ := xx_nm_some hF
  refine lv_iinc (k := 3) (v := v1) hx hb zd_ModuleTable_howManyNeed_37 hl rfl (by rw [ev1, xx_lit1]) (by decide) rfl (fun ls hl => ?_)
  refine lv_goto (tgt := 4) hx hb zd_ModuleTable_howManyNeed_40 (by decide) ?_
  exact hrec4 u x1 x2 v1 _ _ _ hF (lv_sub hl [1, 2, 3, 0] rfl) hP hD hS
set_option maxHeartbeats 4000000 in
set_option maxRecDepth 100000 in
theorem zw_ModuleTable_howManyNeed_b4 {p : Program} {l : Launch} {e : Env} {s : State} {m : MethodId} {args : Array Value} {below : List Frame} {meth : Method} {c : Code} {A : Nat → Prop} {g : xx_G} {r : Int32} {u9 : zz_S} (C : xx_C p s m args meth c kb_ModuleTable_howManyNeed 4 kr_ModuleTable (some .int)) (hA : ∀ q, s.heap.size ≤ q → A q) (hK : va_K g.1 xx_cls (zz_T g) s) : ∀ (n : Nat), ∀ (u : zz_S) (x1 : Option Nat) (x2 : Int32) (x3 : Int32) (H : Heap) (locs : List Loc) (ls : Array Slot), zf_ModuleTable_howManyNeed_b4 n u x1 x2 x3 = some (r, u9) → lv_has ls 4 [(0, .ref (g.2.1 11)), (1, (va_rf x1)), (2, .int x2), (3, .int x3)] → va_P g.1 xx_cls (zz_W g u) H → va_D A (zz_W g u) → va_S A s.heap H locs → W p l e (xx_rm 1 22) s m args below meth c H locs 0 0 (MQ below (xx_Q g.1 (zz_T g) (zz_W g) (some (.int r)) u9 A) args s 0 0 A) (F0 m 4 ls []) := by
  have hx := C.1
  have hb := C.2.1
  have hown := C.2.2.2.1
  have hts := C.2.2.2.2.1
  intro n
  induction n with
  | zero =>
    intro u x1 x2 x3 H locs ls hF
    rw [zf_ModuleTable_howManyNeed_b4] at hF
    cases hF
  | succ n ih =>
    intro u x1 x2 x3 H locs ls hF hl hP hD hS
    rw [zf_ModuleTable_howManyNeed_b4] at hF
    refine lv_iload_n hx hb zd_ModuleTable_howManyNeed_4 rfl (lv_at hl 3 rfl) ?_
    refine lv_aload_n hx hb zd_ModuleTable_howManyNeed_5 rfl (lv_at hl 0 rfl) ?_
    refine xx_get C ki_ModuleTable hK hP 11 rfl rfl 1 (by decide) kw_154 rfl rfl zd_ModuleTable_howManyNeed_6 ?_
    refine lv_icmp_ge (tgt := 43) hx hb zd_ModuleTable_howManyNeed_9 (by decide) (fun hc => ?_) (fun hc => ?_)
    · have hF := xx_ip hc hF
      refine lv_iload_n hx hb zd_ModuleTable_howManyNeed_43 rfl (lv_at hl 2 rfl) ?_
      exact xx_iret C hF hK hP hD hS zd_ModuleTable_howManyNeed_44
    · have hF := xx_in' hc hF
      refine lv_aload_n hx hb zd_ModuleTable_howManyNeed_12 rfl (lv_at hl 0 rfl) ?_
      refine xx_get C ki_ModuleTable hK hP 11 rfl rfl 0 (by decide) kw_153 rfl rfl zd_ModuleTable_howManyNeed_13 ?_
      refine lv_iload_n hx hb zd_ModuleTable_howManyNeed_16 rfl (lv_at hl 3 rfl) ?_
      obtain ⟨v1, ev1, hF⟩ := xx_ob hF
      refine xx_qald C hK hP 12 3 rfl rfl ev1 zd_ModuleTable_howManyNeed_17 ?_
      refine xx_ifnull (tgt := 37) C zd_ModuleTable_howManyNeed_18 (by decide) (fun en => ?_) (fun a2 ea2 => ?_)
      · have hF := xx_on_n en hF
        exact zw_ModuleTable_howManyNeed_b37 C hA hK ih  u x1 x2 x3 _ _ _ hF (lv_sub hl [0, 1, 2, 3] rfl) hP hD hS
      · have hF := xx_on_s ea2 hF
        refine lv_aload_n hx hb zd_ModuleTable_howManyNeed_21 rfl (lv_at hl 0 rfl) ?_
        refine xx_get C ki_ModuleTable hK hP 11 rfl rfl 0 (by decide) kw_153 rfl rfl zd_ModuleTable_howManyNeed_22 ?_
        refine lv_iload_n hx hb zd_ModuleTable_howManyNeed_25 rfl (lv_at hl 3 rfl) ?_
        obtain ⟨v3, ev3, hF⟩ := xx_ob hF
        refine xx_qald C hK hP 12 3 rfl rfl ev3 zd_ModuleTable_howManyNeed_26 ?_
        refine xx_ald C zd_ModuleTable_howManyNeed_27 rfl (lv_at hl 1 rfl) ?_
        obtain ⟨a4, ea4, hF⟩ := xx_nn_some hF
        rw [ea4]
        obtain ⟨w5, ew5, hF⟩ := xx_ob hF
        obtain ⟨v7, u6, eu6, hF⟩ := xx_b2_some hF
        refine zz_callP (ci := 9) (n := 1) (As := [(va_rf x1)]) (rest := []) C (zc_LoadedModule_needs l g u a4 x1 v7 u6 eu6) ⟨kw_287, kw_284, kw_285, kw_286, kw_18⟩ ⟨by decide +kernel, by decide +kernel, by decide +kernel⟩ rfl ⟨Nat.le_of_ble_eq_true rfl, Nat.le_of_ble_eq_true rfl⟩ ew5 rfl hl.1 rfl (Nat.le_of_ble_eq_true rfl) hA hK hP hD hS ⟨Nat.le_refl _, Nat.le_refl _⟩ rfl rfl rfl zd_ModuleTable_howManyNeed_28 (fun H locs hP hD hS => ?_)
        refine lv_if_eq (tgt := 37) hx hb zd_ModuleTable_howManyNeed_31 (by decide) (fun hc => ?_) (fun hc => ?_)
        · have hF := xx_ip hc hF
          exact zw_ModuleTable_howManyNeed_b37 C hA hK ih  u6 x1 x2 x3 _ _ _ hF (lv_sub hl [0, 1, 2, 3] rfl) hP hD hS
        · have hF := xx_in' hc hF
          obtain ⟨v8, ev8, hF⟩ := xx_nm_some hF
          refine lv_iinc (lv' := [(2, .int v8), (0, .ref (g.2.1 11)), (1, (va_rf x1)), (3, .int x3)]) (k := 2) (v := v8) hx hb zd_ModuleTable_howManyNeed_34 hl rfl (by rw [ev8, xx_lit1]) (by decide) (by simp [xx_rfc, xx_ic, xx_rc]) (fun ls hl => ?_)
          exact zw_ModuleTable_howManyNeed_b37 C hA hK ih  u6 x1 v8 x3 _ _ _ hF (lv_sub hl [1, 2, 0, 3] rfl) hP hD hS
set_option maxHeartbeats 4000000 in
set_option maxRecDepth 100000 in
theorem zc_ModuleTable_howManyNeed (l : Launch) (g : xx_G) (u : zz_S) (x1 : Option Nat) (r : Int32) (u9 : zz_S) (hF : zf_ModuleTable_howManyNeed u x1 = some (r, u9)) : xx_M l g.1 (zz_T g) (zz_W g) ky_ModuleTable_howManyNeed kb_ModuleTable_howManyNeed 4 (some .int) (xx_rm 1 22) [.ref (g.2.1 11), (va_rf x1)] u (some (.int r)) u9 := by
  refine xx_body (by decide) (by simp [lg_sl, xx_rfc, xx_ic, xx_rc]) ?_
  intro p e s m args below meth c A ls C hin hK hl hA hP hD hS
  have hx := C.1
  have hb := C.2.1
  have hown := C.2.2.2.1
  have hts := C.2.2.2.2.1
  have hl : lv_has ls 4 [(0, .ref (g.2.1 11)), (1, (va_rf x1))] := by simpa [lv_args, xx_rfc, xx_ic, xx_rc] using hl
  unfold zf_ModuleTable_howManyNeed at hF
  refine lv_iconst (v := (0 : Int32)) hx hb zd_ModuleTable_howManyNeed_0 (by decide) ?_
  obtain ⟨v1, ev1, hF⟩ := xx_nm_some hF
  refine xx_topi ev1 ?_
  refine lv_istore_n (lv' := [(2, .int v1), (0, .ref (g.2.1 11)), (1, (va_rf x1))]) hx hb zd_ModuleTable_howManyNeed_1 rfl hl (by decide) (by simp [xx_rfc, xx_ic, xx_rc]) (fun ls hl => ?_)
  refine lv_iconst (v := (0 : Int32)) hx hb zd_ModuleTable_howManyNeed_2 (by decide) ?_
  obtain ⟨v2, ev2, hF⟩ := xx_nm_some hF
  refine xx_topi ev2 ?_
  refine lv_istore_n hx hb zd_ModuleTable_howManyNeed_3 rfl hl (by decide) rfl (fun ls hl => ?_)
  exact zw_ModuleTable_howManyNeed_b4 C hA hK xx_fu u x1 v1 v2 _ _ _ hF (lv_sub hl [2, 3, 1, 0] rfl) hP hD hS
theorem kw_679 : Cond.fieldLink "ModuleLoader$ModuleTable" 32 "ModuleLoader$LoadedModule" "address" "I" ∈ xx_tb := xx_in (List.mem_append_right _ (List.mem_of_getElem? (i := 679) (by decide +kernel))) (by decide +kernel)
set_option maxRecDepth 100000 in
theorem kw_580 : Cond.code ky_ModuleTable_isFull kb_ModuleTable_isFull 1 (some .boolean) ∈ xx_tb := xx_in (List.mem_append_right _ (List.mem_of_getElem? (i := 580) (by rfl))) (by decide +kernel)
theorem kw_729 : Cond.methodLink "ModuleLoader$ModuleTable" 28 ky_ModuleTable_isFull ∈ xx_tb := xx_in (List.mem_append_right _ (List.mem_of_getElem? (i := 729) (by decide +kernel))) (by decide +kernel)
theorem kw_578 : Cond.instanceMethod ky_ModuleTable_isFull ∈ xx_tb := xx_in (List.mem_append_right _ (List.mem_of_getElem? (i := 578) (by decide +kernel))) (by decide +kernel)
theorem kw_579 : Cond.selects "ModuleLoader$ModuleTable" ky_ModuleTable_isFull ky_ModuleTable_isFull ∈ xx_tb := xx_in (List.mem_append_right _ (List.mem_of_getElem? (i := 579) (by decide +kernel))) (by decide +kernel)
theorem xx_litm1 : Int32.ofInt (-1) = (-1 : Int32) := by decide
theorem zd_ModuleTable_insert_0 : decode kb_ModuleTable_insert 0 = .ok (.aload_n 0, 1) := by decide +kernel
theorem zd_ModuleTable_insert_1 : decode kb_ModuleTable_insert 1 = .ok (.invokevirtual 28, 3) := by decide +kernel
theorem zd_ModuleTable_insert_4 : decode kb_ModuleTable_insert 4 = .ok (.ifCond .eq (4), 3) := by decide +kernel
theorem zd_ModuleTable_insert_7 : decode kb_ModuleTable_insert 7 = .ok (.return_, 1) := by decide +kernel
theorem zd_ModuleTable_insert_8 : decode kb_ModuleTable_insert 8 = .ok (.aload_n 0, 1) := by decide +kernel
theorem zd_ModuleTable_insert_9 : decode kb_ModuleTable_insert 9 = .ok (.getfield 17, 3) := by decide +kernel
theorem zd_ModuleTable_insert_12 : decode kb_ModuleTable_insert 12 = .ok (.istore_n 2, 1) := by decide +kernel
theorem zd_ModuleTable_insert_13 : decode kb_ModuleTable_insert 13 = .ok (.iload_n 2, 1) := by decide +kernel
theorem zd_ModuleTable_insert_14 : decode kb_ModuleTable_insert 14 = .ok (.ifCond .le (52), 3) := by decide +kernel
theorem zd_ModuleTable_insert_17 : decode kb_ModuleTable_insert 17 = .ok (.aload_n 0, 1) := by decide +kernel
theorem zd_ModuleTable_insert_18 : decode kb_ModuleTable_insert 18 = .ok (.getfield 13, 3) := by decide +kernel
theorem zd_ModuleTable_insert_21 : decode kb_ModuleTable_insert 21 = .ok (.iload_n 2, 1) := by decide +kernel
theorem zd_ModuleTable_insert_22 : decode kb_ModuleTable_insert 22 = .ok (.iconst 1, 1) := by decide +kernel
theorem zd_ModuleTable_insert_23 : decode kb_ModuleTable_insert 23 = .ok (.isub, 1) := by decide +kernel
theorem zd_ModuleTable_insert_24 : decode kb_ModuleTable_insert 24 = .ok (.aaload, 1) := by decide +kernel
theorem zd_ModuleTable_insert_25 : decode kb_ModuleTable_insert 25 = .ok (.ifnull (41), 3) := by decide +kernel
theorem zd_ModuleTable_insert_28 : decode kb_ModuleTable_insert 28 = .ok (.aload_n 0, 1) := by decide +kernel
theorem zd_ModuleTable_insert_29 : decode kb_ModuleTable_insert 29 = .ok (.getfield 13, 3) := by decide +kernel
theorem zd_ModuleTable_insert_32 : decode kb_ModuleTable_insert 32 = .ok (.iload_n 2, 1) := by decide +kernel
theorem zd_ModuleTable_insert_33 : decode kb_ModuleTable_insert 33 = .ok (.iconst 1, 1) := by decide +kernel
theorem zd_ModuleTable_insert_34 : decode kb_ModuleTable_insert 34 = .ok (.isub, 1) := by decide +kernel
theorem zd_ModuleTable_insert_35 : decode kb_ModuleTable_insert 35 = .ok (.aaload, 1) := by decide +kernel
theorem zd_ModuleTable_insert_36 : decode kb_ModuleTable_insert 36 = .ok (.getfield 32, 3) := by decide +kernel
theorem zd_ModuleTable_insert_39 : decode kb_ModuleTable_insert 39 = .ok (.aload_n 1, 1) := by decide +kernel
theorem zd_ModuleTable_insert_40 : decode kb_ModuleTable_insert 40 = .ok (.getfield 32, 3) := by decide +kernel
theorem zd_ModuleTable_insert_43 : decode kb_ModuleTable_insert 43 = .ok (.if_icmp .le (23), 3) := by decide +kernel
theorem zd_ModuleTable_insert_46 : decode kb_ModuleTable_insert 46 = .ok (.aload_n 0, 1) := by decide +kernel
theorem zd_ModuleTable_insert_47 : decode kb_ModuleTable_insert 47 = .ok (.getfield 13, 3) := by decide +kernel
theorem zd_ModuleTable_insert_50 : decode kb_ModuleTable_insert 50 = .ok (.iload_n 2, 1) := by decide +kernel
theorem zd_ModuleTable_insert_51 : decode kb_ModuleTable_insert 51 = .ok (.aload_n 0, 1) := by decide +kernel
theorem zd_ModuleTable_insert_52 : decode kb_ModuleTable_insert 52 = .ok (.getfield 13, 3) := by decide +kernel
theorem zd_ModuleTable_insert_55 : decode kb_ModuleTable_insert 55 = .ok (.iload_n 2, 1) := by decide +kernel
theorem zd_ModuleTable_insert_56 : decode kb_ModuleTable_insert 56 = .ok (.iconst 1, 1) := by decide +kernel
theorem zd_ModuleTable_insert_57 : decode kb_ModuleTable_insert 57 = .ok (.isub, 1) := by decide +kernel
theorem zd_ModuleTable_insert_58 : decode kb_ModuleTable_insert 58 = .ok (.aaload, 1) := by decide +kernel
theorem zd_ModuleTable_insert_59 : decode kb_ModuleTable_insert 59 = .ok (.aastore, 1) := by decide +kernel
theorem zd_ModuleTable_insert_60 : decode kb_ModuleTable_insert 60 = .ok (.iinc 2 (-1), 3) := by decide +kernel
theorem zd_ModuleTable_insert_63 : decode kb_ModuleTable_insert 63 = .ok (.goto (-50), 3) := by decide +kernel
theorem zd_ModuleTable_insert_66 : decode kb_ModuleTable_insert 66 = .ok (.aload_n 0, 1) := by decide +kernel
theorem zd_ModuleTable_insert_67 : decode kb_ModuleTable_insert 67 = .ok (.getfield 13, 3) := by decide +kernel
theorem zd_ModuleTable_insert_70 : decode kb_ModuleTable_insert 70 = .ok (.iload_n 2, 1) := by decide +kernel
theorem zd_ModuleTable_insert_71 : decode kb_ModuleTable_insert 71 = .ok (.aload_n 1, 1) := by decide +kernel
theorem zd_ModuleTable_insert_72 : decode kb_ModuleTable_insert 72 = .ok (.aastore, 1) := by decide +kernel
theorem zd_ModuleTable_insert_73 : decode kb_ModuleTable_insert 73 = .ok (.aload_n 0, 1) := by decide +kernel
theorem zd_ModuleTable_insert_74 : decode kb_ModuleTable_insert 74 = .ok (.dup, 1) := by decide +kernel
theorem zd_ModuleTable_insert_75 : decode kb_ModuleTable_insert 75 = .ok (.getfield 17, 3) := by decide +kernel
theorem zd_ModuleTable_insert_78 : decode kb_ModuleTable_insert 78 = .ok (.iconst 1, 1) := by decide +kernel
theorem zd_ModuleTable_insert_79 : decode kb_ModuleTable_insert 79 = .ok (.iadd, 1) := by decide +kernel
theorem zd_ModuleTable_insert_80 : decode kb_ModuleTable_insert 80 = .ok (.putfield 17, 3) := by decide +kernel
theorem zd_ModuleTable_insert_83 : decode kb_ModuleTable_insert 83 = .ok (.return_, 1) := by decide +kernel
def zf_ModuleTable_insert_b66 (u : zz_S) (x1 : Option Nat) (x2 : Int32) : Option (zz_S) := xx_nn x1 fun a1 => (zz_as u 1 12 9 x2 a1).bind fun u2 => xx_nm ((u2.1 16) + (1 : Int32)) fun v3 => xx_nm (va_up u2.1 16 v3, u2.2) fun u4 => some u4
def zf_ModuleTable_insert_b13 : Nat → zz_S → Option Nat → Int32 → Option (zz_S)
  | 0, _, _, _ => none
  | n + 1, u, x1, x2 => if x2 ≤ 0 then (zf_ModuleTable_insert_b66 u x1 x2) else ((xx_ag (u.2.2.1 1) 12 (x2 - (1 : Int32))).bind fun v1 => xx_on v1 (zf_ModuleTable_insert_b66 u x1 x2) (fun a2 => (xx_ag (u.2.2.1 1) 12 (x2 - (1 : Int32))).bind fun v3 => xx_nn v3 fun a4 => (zz_pi u a4 9 1).bind fun v5 => xx_nn x1 fun a6 => (zz_pi u a6 9 1).bind fun v7 => if v5 ≤ v7 then (zf_ModuleTable_insert_b66 u x1 x2) else ((xx_ag (u.2.2.1 1) 12 (x2 - (1 : Int32))).bind fun v8 => xx_nn v8 fun a9 => (zz_as u 1 12 9 x2 a9).bind fun u10 => xx_nm (x2 + (-1 : Int32)) fun v11 => (zf_ModuleTable_insert_b13 n) u10 x1 v11)))
def zf_ModuleTable_insert (u : zz_S) (x1 : Option Nat) : Option (zz_S) := xx_b2 (zf_ModuleTable_isFull u) fun v2 u1 => if v2 = 0 then (xx_nm (u1.1 16) fun v3 => zf_ModuleTable_insert_b13 xx_fu u1 x1 v3) else (some u1)
set_option maxHeartbeats 4000000 in
set_option maxRecDepth 100000 in
theorem zw_ModuleTable_insert_b66 {p : Program} {l : Launch} {e : Env} {s : State} {m : MethodId} {args : Array Value} {below : List Frame} {meth : Method} {c : Code} {A : Nat → Prop} {g : xx_G} {u9 : zz_S} (C : xx_C p s m args meth c kb_ModuleTable_insert 3 kr_ModuleTable none) (hA : ∀ q, s.heap.size ≤ q → A q) (hK : va_K g.1 xx_cls (zz_T g) s) : ∀ (u : zz_S) (x1 : Option Nat) (x2 : Int32) (H : Heap) (locs : List Loc) (ls : Array Slot), zf_ModuleTable_insert_b66 u x1 x2 = some u9 → lv_has ls 3 [(0, .ref (g.2.1 11)), (1, (va_rf x1)), (2, .int x2)] → va_P g.1 xx_cls (zz_W g u) H → va_D A (zz_W g u) → va_S A s.heap H locs → W p l e (xx_rm 1 20) s m args below meth c H locs 0 0 (MQ below (xx_Q g.1 (zz_T g) (zz_W g) none u9 A) args s 0 0 A) (F0 m 66 ls []) := by
  have hx := C.1
  have hb := C.2.1
  have hown := C.2.2.2.1
  have hts := C.2.2.2.2.1
  intro u x1 x2 H locs ls hF hl hP hD hS
  unfold zf_ModuleTable_insert_b66 at hF
  refine lv_aload_n hx hb zd_ModuleTable_insert_66 rfl (lv_at hl 0 rfl) ?_
  refine xx_get C ki_ModuleTable hK hP 11 rfl rfl 0 (by decide) kw_153 rfl rfl zd_ModuleTable_insert_67 ?_
  refine lv_iload_n hx hb zd_ModuleTable_insert_70 rfl (lv_at hl 2 rfl) ?_
  refine xx_ald C zd_ModuleTable_insert_71 rfl (lv_at hl 1 rfl) ?_
  obtain ⟨a1, ea1, hF⟩ := xx_nn_some hF
  rw [ea1]
  obtain ⟨u2, eu2, hF⟩ := xx_ob hF
  refine zz_qast (u := u) (u1 := u2) (a := a1) C hK hP hD hS 12 3 1 9 rfl rfl rfl eu2 (fun _ => rfl) zd_ModuleTable_insert_72 (fun H locs hP hD hS => ?_)
  refine lv_aload_n hx hb zd_ModuleTable_insert_73 rfl (lv_at hl 0 rfl) ?_
  refine lv_dup hx hb zd_ModuleTable_insert_74 rfl ?_
  refine xx_get C ki_ModuleTable hK hP 11 rfl rfl 1 (by decide) kw_154 rfl rfl zd_ModuleTable_insert_75 ?_
  refine lv_iconst (v := (1 : Int32)) hx hb zd_ModuleTable_insert_78 (by decide) ?_
  refine lv_iadd hx hb zd_ModuleTable_insert_79 ?_
  obtain ⟨v3, ev3, hF⟩ := xx_nm_some hF
  refine xx_topi ev3 ?_
  obtain ⟨u4, eu4, hF⟩ := xx_nm_some hF
  refine xx_put (ws1 := zz_W g u4) C ki_ModuleTable kt_ModuleTable ko_ModuleTable kn_ModuleTable hK hP hD hS 11 rfl rfl 1 (by decide) kw_154 rfl rfl rfl rfl (Nat.le_of_ble_eq_true rfl) (by rw [eu4]; rfl) zd_ModuleTable_insert_80 (fun H locs hP hD hS => ?_)
  exact xx_vret C hF hK hP hD hS zd_ModuleTable_insert_83
set_option maxHeartbeats 4000000 in
set_option maxRecDepth 100000 in
theorem zw_ModuleTable_insert_b13 {p : Program} {l : Launch} {e : Env} {s : State} {m : MethodId} {args : Array Value} {below : List Frame} {meth : Method} {c : Code} {A : Nat → Prop} {g : xx_G} {u9 : zz_S} (C : xx_C p s m args meth c kb_ModuleTable_insert 3 kr_ModuleTable none) (hA : ∀ q, s.heap.size ≤ q → A q) (hK : va_K g.1 xx_cls (zz_T g) s) : ∀ (n : Nat), ∀ (u : zz_S) (x1 : Option Nat) (x2 : Int32) (H : Heap) (locs : List Loc) (ls : Array Slot), zf_ModuleTable_insert_b13 n u x1 x2 = some u9 → lv_has ls 3 [(0, .ref (g.2.1 11)), (1, (va_rf x1)), (2, .int x2)] → va_P g.1 xx_cls (zz_W g u) H → va_D A (zz_W g u) → va_S A s.heap H locs → W p l e (xx_rm 1 20) s m args below meth c H locs 0 0 (MQ below (xx_Q g.1 (zz_T g) (zz_W g) none u9 A) args s 0 0 A) (F0 m 13 ls []) := by
  have hx := C.1
  have hb := C.2.1
  have hown := C.2.2.2.1
  have hts := C.2.2.2.2.1
  intro n
  induction n with
  | zero =>
    intro u x1 x2 H locs ls hF
    rw [zf_ModuleTable_insert_b13] at hF
    cases hF
  | succ n ih =>
    intro u x1 x2 H locs ls hF hl hP hD hS
    rw [zf_ModuleTable_insert_b13] at hF
    refine lv_iload_n hx hb zd_ModuleTable_insert_13 rfl (lv_at hl 2 rfl) ?_
    refine lv_if_le (tgt := 66) hx hb zd_ModuleTable_insert_14 (by decide) (fun hc => ?_) (fun hc => ?_)
    · have hF := xx_ip hc hF
      exact zw_ModuleTable_insert_b66 C hA hK  u x1 x2 _ _ _ hF (lv_sub hl [0, 1, 2] rfl) hP hD hS
    · have hF := xx_in' hc hF
      refine lv_aload_n hx hb zd_ModuleTable_insert_17 rfl (lv_at hl 0 rfl) ?_
      refine xx_get C ki_ModuleTable hK hP 11 rfl rfl 0 (by decide) kw_153 rfl rfl zd_ModuleTable_insert_18 ?_
      refine lv_iload_n hx hb zd_ModuleTable_insert_21 rfl (lv_at hl 2 rfl) ?_
      refine lv_iconst (v := (1 : Int32)) hx hb zd_ModuleTable_insert_22 (by decide) ?_
      refine lv_isub hx hb zd_ModuleTable_insert_23 ?_
      obtain ⟨v1, ev1, hF⟩ := xx_ob hF
      refine xx_qald C hK hP 12 3 rfl rfl ev1 zd_ModuleTable_insert_24 ?_
      refine xx_ifnull (tgt := 66) C zd_ModuleTable_insert_25 (by decide) (fun en => ?_) (fun a2 ea2 => ?_)
      · have hF := xx_on_n en hF
        exact zw_ModuleTable_insert_b66 C hA hK  u x1 x2 _ _ _ hF (lv_sub hl [0, 1, 2] rfl) hP hD hS
      · have hF := xx_on_s ea2 hF
        refine lv_aload_n hx hb zd_ModuleTable_insert_28 rfl (lv_at hl 0 rfl) ?_
        refine xx_get C ki_ModuleTable hK hP 11 rfl rfl 0 (by decide) kw_153 rfl rfl zd_ModuleTable_insert_29 ?_
        refine lv_iload_n hx hb zd_ModuleTable_insert_32 rfl (lv_at hl 2 rfl) ?_
        refine lv_iconst (v := (1 : Int32)) hx hb zd_ModuleTable_insert_33 (by decide) ?_
        refine lv_isub hx hb zd_ModuleTable_insert_34 ?_
        obtain ⟨v3, ev3, hF⟩ := xx_ob hF
        refine xx_qald C hK hP 12 3 rfl rfl ev3 zd_ModuleTable_insert_35 ?_
        obtain ⟨a4, ea4, hF⟩ := xx_nn_some hF
        rw [ea4]
        obtain ⟨v5, ev5, hF⟩ := xx_ob hF
        refine zz_get (a := a4) (u := u) (ci := 9) C ki_LoadedModule hK hP rfl 1 (by decide) kw_679 rfl (zz_pi_some ev5) zd_ModuleTable_insert_36 ?_
        refine xx_ald C zd_ModuleTable_insert_39 rfl (lv_at hl 1 rfl) ?_
        obtain ⟨a6, ea6, hF⟩ := xx_nn_some hF
        rw [ea6]
        obtain ⟨v7, ev7, hF⟩ := xx_ob hF
        refine zz_get (a := a6) (u := u) (ci := 9) C ki_LoadedModule hK hP rfl 1 (by decide) kw_679 rfl (zz_pi_some ev7) zd_ModuleTable_insert_40 ?_
        refine lv_icmp_le (tgt := 66) hx hb zd_ModuleTable_insert_43 (by decide) (fun hc => ?_) (fun hc => ?_)
        · have hF := xx_ip hc hF
          exact zw_ModuleTable_insert_b66 C hA hK  u x1 x2 _ _ _ hF (lv_sub hl [0, 1, 2] rfl) hP hD hS
        · have hF := xx_in' hc hF
          refine lv_aload_n hx hb zd_ModuleTable_insert_46 rfl (lv_at hl 0 rfl) ?_
          refine xx_get C ki_ModuleTable hK hP 11 rfl rfl 0 (by decide) kw_153 rfl rfl zd_ModuleTable_insert_47 ?_
          refine lv_iload_n hx hb zd_ModuleTable_insert_50 rfl (lv_at hl 2 rfl) ?_
          refine lv_aload_n hx hb zd_ModuleTable_insert_51 rfl (lv_at hl 0 rfl) ?_
          refine xx_get C ki_ModuleTable hK hP 11 rfl rfl 0 (by decide) kw_153 rfl rfl zd_ModuleTable_insert_52 ?_
          refine lv_iload_n hx hb zd_ModuleTable_insert_55 rfl (lv_at hl 2 rfl) ?_
          refine lv_iconst (v := (1 : Int32)) hx hb zd_ModuleTable_insert_56 (by decide) ?_
          refine lv_isub hx hb zd_ModuleTable_insert_57 ?_
          obtain ⟨v8, ev8, hF⟩ := xx_ob hF
          refine xx_qald C hK hP 12 3 rfl rfl ev8 zd_ModuleTable_insert_58 ?_
          obtain ⟨a9, ea9, hF⟩ := xx_nn_some hF
          rw [ea9]
          obtain ⟨u10, eu10, hF⟩ := xx_ob hF
          refine zz_qast (u := u) (u1 := u10) (a := a9) C hK hP hD hS 12 3 1 9 rfl rfl rfl eu10 (fun _ => rfl) zd_ModuleTable_insert_59 (fun H locs hP hD hS => ?_)
          obtain ⟨v11, ev11, hF⟩ := xx_nm_some hF
          refine lv_iinc (lv' := [(2, .int v11), (0, .ref (g.2.1 11)), (1, (va_rf x1))]) (k := 2) (v := v11) hx hb zd_ModuleTable_insert_60 hl rfl (by rw [ev11, xx_litm1]) (by decide) (by simp [xx_rfc, xx_ic, xx_rc]) (fun ls hl => ?_)
          refine lv_goto (tgt := 13) hx hb zd_ModuleTable_insert_63 (by decide) ?_
          exact ih u10 x1 v11 _ _ _ hF (lv_sub hl [1, 2, 0] rfl) hP hD hS
set_option maxHeartbeats 4000000 in
set_option maxRecDepth 100000 in
theorem zc_ModuleTable_insert (l : Launch) (g : xx_G) (u : zz_S) (x1 : Option Nat) (u9 : zz_S) (hF : zf_ModuleTable_insert u x1 = some u9) : xx_M l g.1 (zz_T g) (zz_W g) ky_ModuleTable_insert kb_ModuleTable_insert 3 none (xx_rm 1 20) [.ref (g.2.1 11), (va_rf x1)] u none u9 := by
  refine xx_body (by decide) (by simp [lg_sl, xx_rfc, xx_ic, xx_rc]) ?_
  intro p e s m args below meth c A ls C hin hK hl hA hP hD hS
  have hx := C.1
  have hb := C.2.1
  have hown := C.2.2.2.1
  have hts := C.2.2.2.2.1
  have hl : lv_has ls 3 [(0, .ref (g.2.1 11)), (1, (va_rf x1))] := by simpa [lv_args, xx_rfc, xx_ic, xx_rc] using hl
  unfold zf_ModuleTable_insert at hF
  refine lv_aload_n hx hb zd_ModuleTable_insert_0 rfl (lv_at hl 0 rfl) ?_
  obtain ⟨v2, u1, eu1, hF⟩ := xx_b2_some hF
  refine xx_callV (n := 0) (As := []) (rest := []) C (zc_ModuleTable_isFull l g u v2 u1 eu1) ⟨kw_580, kw_729, kw_578, kw_579, kw_7⟩ ⟨by decide +kernel, by decide +kernel, by decide +kernel⟩ rfl ⟨Nat.le_of_ble_eq_true rfl, Nat.le_of_ble_eq_true rfl⟩ 11 rfl rfl hl.1 rfl (Nat.le_of_ble_eq_true rfl) hA hK hP hD hS ⟨Nat.le_refl _, Nat.le_refl _⟩ rfl rfl rfl zd_ModuleTable_insert_1 (fun H locs hP hD hS => ?_)
  refine lv_if_eq (tgt := 8) hx hb zd_ModuleTable_insert_4 (by decide) (fun hc => ?_) (fun hc => ?_)
  · have hF := xx_ip hc hF
    refine lv_aload_n hx hb zd_ModuleTable_insert_8 rfl (lv_at hl 0 rfl) ?_
    refine xx_get C ki_ModuleTable hK hP 11 rfl rfl 1 (by decide) kw_154 rfl rfl zd_ModuleTable_insert_9 ?_
    obtain ⟨v3, ev3, hF⟩ := xx_nm_some hF
    refine xx_topi ev3 ?_
    refine lv_istore_n (lv' := [(2, .int v3), (0, .ref (g.2.1 11)), (1, (va_rf x1))]) hx hb zd_ModuleTable_insert_12 rfl hl (by decide) (by simp [xx_rfc, xx_ic, xx_rc]) (fun ls hl => ?_)
    exact zw_ModuleTable_insert_b13 C hA hK xx_fu u1 x1 v3 _ _ _ hF (lv_sub hl [1, 2, 0] rfl) hP hD hS
  · have hF := xx_in' hc hF
    exact xx_vret C hF hK hP hD hS zd_ModuleTable_insert_7
theorem kw_312 : Cond.methodLink "ModuleLoader$ModuleTable" 35 ky_ModuleTable_get ∈ xx_tb := xx_in (List.mem_append_right _ (List.mem_of_getElem? (i := 312) (by decide +kernel))) (by decide +kernel)
theorem kw_691 : Cond.fieldLink "ModuleLoader$ModuleTable" 39 "ModuleLoader$LoadedModule" "rowBehind" "I" ∈ xx_tb := xx_in (List.mem_append_right _ (List.mem_of_getElem? (i := 691) (by decide +kernel))) (by decide +kernel)
theorem zd_ModuleTable_gapStart_0 : decode kb_ModuleTable_gapStart 0 = .ok (.aload_n 0, 1) := by decide +kernel
theorem zd_ModuleTable_gapStart_1 : decode kb_ModuleTable_gapStart 1 = .ok (.iload_n 1, 1) := by decide +kernel
theorem zd_ModuleTable_gapStart_2 : decode kb_ModuleTable_gapStart 2 = .ok (.invokevirtual 35, 3) := by decide +kernel
theorem zd_ModuleTable_gapStart_5 : decode kb_ModuleTable_gapStart 5 = .ok (.astore_n 2, 1) := by decide +kernel
theorem zd_ModuleTable_gapStart_6 : decode kb_ModuleTable_gapStart 6 = .ok (.aload_n 2, 1) := by decide +kernel
theorem zd_ModuleTable_gapStart_7 : decode kb_ModuleTable_gapStart 7 = .ok (.ifnonnull (7), 3) := by decide +kernel
theorem zd_ModuleTable_gapStart_10 : decode kb_ModuleTable_gapStart 10 = .ok (.iconst 0, 1) := by decide +kernel
theorem zd_ModuleTable_gapStart_11 : decode kb_ModuleTable_gapStart 11 = .ok (.goto (7), 3) := by decide +kernel
theorem zd_ModuleTable_gapStart_14 : decode kb_ModuleTable_gapStart 14 = .ok (.aload_n 2, 1) := by decide +kernel
theorem zd_ModuleTable_gapStart_15 : decode kb_ModuleTable_gapStart 15 = .ok (.getfield 39, 3) := by decide +kernel
theorem zd_ModuleTable_gapStart_18 : decode kb_ModuleTable_gapStart 18 = .ok (.ireturn, 1) := by decide +kernel
def zf_ModuleTable_gapStart_b18 (u : zz_S) (y0 : Int32) : Option (Int32 × zz_S) := some (y0, u)
def zf_ModuleTable_gapStart (u : zz_S) (x1 : Int32) : Option (Int32 × zz_S) := xx_b2 (zf_ModuleTable_get u x1) fun v2 u1 => xx_on v2 (zf_ModuleTable_gapStart_b18 u1 (0 : Int32)) (fun a3 => (zz_pi u1 a3 9 7).bind fun v4 => zf_ModuleTable_gapStart_b18 u1 v4)
set_option maxHeartbeats 4000000 in
set_option maxRecDepth 100000 in
theorem zw_ModuleTable_gapStart_b18 {p : Program} {l : Launch} {e : Env} {s : State} {m : MethodId} {args : Array Value} {below : List Frame} {meth : Method} {c : Code} {A : Nat → Prop} {g : xx_G} {r : Int32} {u9 : zz_S} (C : xx_C p s m args meth c kb_ModuleTable_gapStart 3 kr_ModuleTable (some .int)) (hA : ∀ q, s.heap.size ≤ q → A q) (hK : va_K g.1 xx_cls (zz_T g) s) : ∀ (u : zz_S) (y0 : Int32) (H : Heap) (locs : List Loc) (ls : Array Slot), zf_ModuleTable_gapStart_b18 u y0 = some (r, u9) → lv_has ls 3 [] → va_P g.1 xx_cls (zz_W g u) H → va_D A (zz_W g u) → va_S A s.heap H locs → W p l e (xx_rm 1 21) s m args below meth c H locs 0 0 (MQ below (xx_Q g.1 (zz_T g) (zz_W g) (some (.int r)) u9 A) args s 0 0 A) (F0 m 18 ls [.int y0]) := by
  have hx := C.1
  have hb := C.2.1
  have hown := C.2.2.2.1
  have hts := C.2.2.2.2.1
  intro u y0 H locs ls hF hl hP hD hS
  unfold zf_ModuleTable_gapStart_b18 at hF
  exact xx_iret C hF hK hP hD hS zd_ModuleTable_gapStart_18
set_option maxHeartbeats 4000000 in
set_option maxRecDepth 100000 in
theorem zc_ModuleTable_gapStart (l : Launch) (g : xx_G) (u : zz_S) (x1 : Int32) (r : Int32) (u9 : zz_S) (hF : zf_ModuleTable_gapStart u x1 = some (r, u9)) : xx_M l g.1 (zz_T g) (zz_W g) ky_ModuleTable_gapStart kb_ModuleTable_gapStart 3 (some .int) (xx_rm 1 21) [.ref (g.2.1 11), .int x1] u (some (.int r)) u9 := by
  refine xx_body (by decide) (Nat.le_of_ble_eq_true rfl) ?_
  intro p e s m args below meth c A ls C hin hK hl hA hP hD hS
  have hx := C.1
  have hb := C.2.1
  have hown := C.2.2.2.1
  have hts := C.2.2.2.2.1
  have hl : lv_has ls 3 [(0, .ref (g.2.1 11)), (1, .int x1)] := hl
  unfold zf_ModuleTable_gapStart at hF
  refine lv_aload_n hx hb zd_ModuleTable_gapStart_0 rfl (lv_at hl 0 rfl) ?_
  refine lv_iload_n hx hb zd_ModuleTable_gapStart_1 rfl (lv_at hl 1 rfl) ?_
  obtain ⟨v2, u1, eu1, hF⟩ := xx_b2_some hF
  refine xx_callV (n := 1) (As := [.int x1]) (rest := []) C (zc_ModuleTable_get l g u x1 v2 u1 eu1) ⟨kw_315, kw_312, kw_313, kw_314, kw_7⟩ ⟨by decide +kernel, by decide +kernel, by decide +kernel⟩ rfl ⟨Nat.le_of_ble_eq_true rfl, Nat.le_of_ble_eq_true rfl⟩ 11 rfl rfl hl.1 rfl (Nat.le_of_ble_eq_true rfl) hA hK hP hD hS ⟨Nat.le_refl _, Nat.le_refl _⟩ rfl rfl rfl zd_ModuleTable_gapStart_2 (fun H locs hP hD hS => ?_)
  refine xx_ast C zd_ModuleTable_gapStart_5 rfl hl (by decide) rfl (fun ls hl => ?_)
  refine xx_ald C zd_ModuleTable_gapStart_6 rfl (lv_at hl 0 rfl) ?_
  refine xx_ifnonnull (tgt := 14) C zd_ModuleTable_gapStart_7 (by decide) (fun en => ?_) (fun a3 ea3 => ?_)
  · have hF := xx_on_n en hF
    refine lv_iconst (v := (0 : Int32)) hx hb zd_ModuleTable_gapStart_10 (by decide) ?_
    refine lv_goto (tgt := 18) hx hb zd_ModuleTable_gapStart_11 (by decide) ?_
    exact zw_ModuleTable_gapStart_b18 C hA hK  u1 (0 : Int32) _ _ _ hF (lv_sub hl [] rfl) hP hD hS
  · have hF := xx_on_s ea3 hF
    refine xx_ald C zd_ModuleTable_gapStart_14 rfl (lv_at hl 0 rfl) ?_
    rw [ea3]
    obtain ⟨v4, ev4, hF⟩ := xx_ob hF
    refine zz_get (a := a3) (u := u1) (ci := 9) C ki_LoadedModule hK hP rfl 7 (by decide) kw_691 rfl (zz_pi_some ev4) zd_ModuleTable_gapStart_15 ?_
    exact zw_ModuleTable_gapStart_b18 C hA hK  u1 v4 _ _ _ hF (lv_sub hl [] rfl) hP hD hS
set_option maxRecDepth 100000 in
theorem kw_235 : Cond.code ky_Tape_appendByte kb_Tape_appendByte 4 none ∈ xx_tb := xx_in (List.mem_append_right _ (List.mem_of_getElem? (i := 235) (by rfl))) (by decide +kernel)
theorem kw_232 : Cond.methodLink "ModuleLoader$Tape" 17 ky_Tape_appendByte ∈ xx_tb := xx_in (List.mem_append_right _ (List.mem_of_getElem? (i := 232) (by decide +kernel))) (by decide +kernel)
theorem kw_234 : Cond.instanceMethod ky_Tape_appendByte ∈ xx_tb := xx_in (List.mem_append_right _ (List.mem_of_getElem? (i := 234) (by decide +kernel))) (by decide +kernel)
theorem ks_Tape_appendByte : Cond.selects "ModuleLoader$Tape" ky_Tape_appendByte ky_Tape_appendByte ∈ xx_tb := xx_in (List.mem_append_left _ (by decide +kernel)) (by decide +kernel)
theorem zd_Tape_append_0 : decode kb_Tape_append 0 = .ok (.aload_n 0, 1) := by decide +kernel
theorem zd_Tape_append_1 : decode kb_Tape_append 1 = .ok (.getfield 13, 3) := by decide +kernel
theorem zd_Tape_append_4 : decode kb_Tape_append 4 = .ok (.iload_n 2, 1) := by decide +kernel
theorem zd_Tape_append_5 : decode kb_Tape_append 5 = .ok (.iadd, 1) := by decide +kernel
theorem zd_Tape_append_6 : decode kb_Tape_append 6 = .ok (.sipush (1200), 3) := by decide +kernel
theorem zd_Tape_append_9 : decode kb_Tape_append 9 = .ok (.if_icmp .le (5), 3) := by decide +kernel
theorem zd_Tape_append_12 : decode kb_Tape_append 12 = .ok (.iconst 0, 1) := by decide +kernel
theorem zd_Tape_append_13 : decode kb_Tape_append 13 = .ok (.ireturn, 1) := by decide +kernel
theorem zd_Tape_append_14 : decode kb_Tape_append 14 = .ok (.iconst 0, 1) := by decide +kernel
theorem zd_Tape_append_15 : decode kb_Tape_append 15 = .ok (.istore_n 3, 1) := by decide +kernel
theorem zd_Tape_append_16 : decode kb_Tape_append 16 = .ok (.iload_n 3, 1) := by decide +kernel
theorem zd_Tape_append_17 : decode kb_Tape_append 17 = .ok (.iload_n 2, 1) := by decide +kernel
theorem zd_Tape_append_18 : decode kb_Tape_append 18 = .ok (.if_icmp .ge (23), 3) := by decide +kernel
theorem zd_Tape_append_21 : decode kb_Tape_append 21 = .ok (.aload_n 0, 1) := by decide +kernel
theorem zd_Tape_append_22 : decode kb_Tape_append 22 = .ok (.iload_n 1, 1) := by decide +kernel
theorem zd_Tape_append_23 : decode kb_Tape_append 23 = .ok (.bipush (8), 2) := by decide +kernel
theorem zd_Tape_append_25 : decode kb_Tape_append 25 = .ok (.iload_n 3, 1) := by decide +kernel
theorem zd_Tape_append_26 : decode kb_Tape_append 26 = .ok (.imul, 1) := by decide +kernel
theorem zd_Tape_append_27 : decode kb_Tape_append 27 = .ok (.iushr, 1) := by decide +kernel
theorem zd_Tape_append_28 : decode kb_Tape_append 28 = .ok (.sipush (255), 3) := by decide +kernel
theorem zd_Tape_append_31 : decode kb_Tape_append 31 = .ok (.iand, 1) := by decide +kernel
theorem zd_Tape_append_32 : decode kb_Tape_append 32 = .ok (.invokevirtual 17, 3) := by decide +kernel
theorem zd_Tape_append_35 : decode kb_Tape_append 35 = .ok (.iinc 3 (1), 3) := by decide +kernel
theorem zd_Tape_append_38 : decode kb_Tape_append 38 = .ok (.goto (-22), 3) := by decide +kernel
theorem zd_Tape_append_41 : decode kb_Tape_append 41 = .ok (.iconst 1, 1) := by decide +kernel
theorem zd_Tape_append_42 : decode kb_Tape_append 42 = .ok (.ireturn, 1) := by decide +kernel
def zf_Tape_append_b16 : Nat → zz_S → Int32 → Int32 → Int32 → Option (Int32 × zz_S)
  | 0, _, _, _, _ => none
  | n + 1, u, x1, x2, x3 => if x2 ≤ x3 then (some (vp_nar .boolean (1 : Int32), u)) else ((zf_Tape_appendByte u ((xx_ush x1 ((8 : Int32) * x3)) &&& (255 : Int32))).bind fun u1 => xx_nm (x3 + (1 : Int32)) fun v2 => (zf_Tape_append_b16 n) u1 x1 x2 v2)
def zf_Tape_append (u : zz_S) (x1 : Int32) (x2 : Int32) : Option (Int32 × zz_S) := if ((u.1 4) + x2) ≤ (1200 : Int32) then (xx_nm (0 : Int32) fun v1 => zf_Tape_append_b16 xx_fu u x1 x2 v1) else (some (vp_nar .boolean (0 : Int32), u))
set_option maxHeartbeats 4000000 in
set_option maxRecDepth 100000 in
theorem zw_Tape_append_b16 {p : Program} {l : Launch} {e : Env} {s : State} {m : MethodId} {args : Array Value} {below : List Frame} {meth : Method} {c : Code} {A : Nat → Prop} {g : xx_G} {r : Int32} {u9 : zz_S} (C : xx_C p s m args meth c kb_Tape_append 4 kr_Tape (some .boolean)) (hA : ∀ q, s.heap.size ≤ q → A q) (hK : va_K g.1 xx_cls (zz_T g) s) : ∀ (n : Nat), ∀ (u : zz_S) (x1 : Int32) (x2 : Int32) (x3 : Int32) (H : Heap) (locs : List Loc) (ls : Array Slot), zf_Tape_append_b16 n u x1 x2 x3 = some (r, u9) → lv_has ls 4 [(0, .ref (g.2.1 6)), (1, .int x1), (2, .int x2), (3, .int x3)] → va_P g.1 xx_cls (zz_W g u) H → va_D A (zz_W g u) → va_S A s.heap H locs → W p l e (xx_rm 1 23) s m args below meth c H locs 0 0 (MQ below (xx_Q g.1 (zz_T g) (zz_W g) (some (.int r)) u9 A) args s 0 0 A) (F0 m 16 ls []) := by
  have hx := C.1
  have hb := C.2.1
  have hown := C.2.2.2.1
  have hts := C.2.2.2.2.1
  intro n
  induction n with
  | zero =>
    intro u x1 x2 x3 H locs ls hF
    rw [zf_Tape_append_b16] at hF
    cases hF
  | succ n ih =>
    intro u x1 x2 x3 H locs ls hF hl hP hD hS
    rw [zf_Tape_append_b16] at hF
    refine lv_iload_n hx hb zd_Tape_append_16 rfl (lv_at hl 3 rfl) ?_
    refine lv_iload_n hx hb zd_Tape_append_17 rfl (lv_at hl 2 rfl) ?_
    refine lv_icmp_ge (tgt := 41) hx hb zd_Tape_append_18 (by decide) (fun hc => ?_) (fun hc => ?_)
    · have hF := xx_ip hc hF
      refine lv_iconst (v := (1 : Int32)) hx hb zd_Tape_append_41 (by decide) ?_
      exact xx_zret C hF hK hP hD hS zd_Tape_append_42
    · have hF := xx_in' hc hF
      refine lv_aload_n hx hb zd_Tape_append_21 rfl (lv_at hl 0 rfl) ?_
      refine lv_iload_n hx hb zd_Tape_append_22 rfl (lv_at hl 1 rfl) ?_
      refine lv_bipush (v := (8 : Int32)) hx hb zd_Tape_append_23 (by decide) ?_
      refine lv_iload_n hx hb zd_Tape_append_25 rfl (lv_at hl 3 rfl) ?_
      refine lv_imul hx hb zd_Tape_append_26 ?_
      refine lv_iushr hx hb zd_Tape_append_27 (xx_ush_eq x1 ((8 : Int32) * x3)) ?_
      refine lv_sipush (v := (255 : Int32)) hx hb zd_Tape_append_28 (by decide) ?_
      refine lv_iand hx hb zd_Tape_append_31 ?_
      obtain ⟨u1, eu1, hF⟩ := xx_ob hF
      refine xx_callV (n := 1) (As := [.int ((xx_ush x1 ((8 : Int32) * x3)) &&& (255 : Int32))]) (rest := []) C (zc_Tape_appendByte l g u ((xx_ush x1 ((8 : Int32) * x3)) &&& (255 : Int32)) u1 eu1) ⟨kw_235, kw_232, kw_234, ks_Tape_appendByte, kw_4⟩ ⟨by decide +kernel, by decide +kernel, by decide +kernel⟩ rfl ⟨Nat.le_of_ble_eq_true rfl, Nat.le_of_ble_eq_true rfl⟩ 6 rfl rfl hl.1 rfl (Nat.le_of_ble_eq_true rfl) hA hK hP hD hS ⟨Nat.le_refl _, Nat.le_refl _⟩ rfl rfl rfl zd_Tape_append_32 (fun H locs hP hD hS => ?_)
      obtain ⟨v2, ev2, hF⟩ := xx_nm_some hF
      refine lv_iinc (k := 3) (v := v2) hx hb zd_Tape_append_35 hl rfl (by rw [ev2, xx_lit1]) (by decide) rfl (fun ls hl => ?_)
      refine lv_goto (tgt := 16) hx hb zd_Tape_append_38 (by decide) ?_
      exact ih u1 x1 x2 v2 _ _ _ hF (lv_sub hl [1, 2, 3, 0] rfl) hP hD hS
set_option maxHeartbeats 4000000 in
set_option maxRecDepth 100000 in
theorem zc_Tape_append (l : Launch) (g : xx_G) (u : zz_S) (x1 : Int32) (x2 : Int32) (r : Int32) (u9 : zz_S) (hF : zf_Tape_append u x1 x2 = some (r, u9)) : xx_M l g.1 (zz_T g) (zz_W g) ky_Tape_append kb_Tape_append 4 (some .boolean) (xx_rm 1 23) [.ref (g.2.1 6), .int x1, .int x2] u (some (.int r)) u9 := by
  refine xx_body (by decide) (Nat.le_of_ble_eq_true rfl) ?_
  intro p e s m args below meth c A ls C hin hK hl hA hP hD hS
  have hx := C.1
  have hb := C.2.1
  have hown := C.2.2.2.1
  have hts := C.2.2.2.2.1
  have hl : lv_has ls 4 [(0, .ref (g.2.1 6)), (1, .int x1), (2, .int x2)] := hl
  unfold zf_Tape_append at hF
  refine lv_aload_n hx hb zd_Tape_append_0 rfl (lv_at hl 0 rfl) ?_
  refine xx_get C ki_Tape hK hP 6 rfl rfl 1 (by decide) kw_75 rfl rfl zd_Tape_append_1 ?_
  refine lv_iload_n hx hb zd_Tape_append_4 rfl (lv_at hl 2 rfl) ?_
  refine lv_iadd hx hb zd_Tape_append_5 ?_
  refine lv_sipush (v := (1200 : Int32)) hx hb zd_Tape_append_6 (by decide) ?_
  refine lv_icmp_le (tgt := 14) hx hb zd_Tape_append_9 (by decide) (fun hc => ?_) (fun hc => ?_)
  · have hF := xx_ip hc hF
    refine lv_iconst (v := (0 : Int32)) hx hb zd_Tape_append_14 (by decide) ?_
    obtain ⟨v1, ev1, hF⟩ := xx_nm_some hF
    refine xx_topi ev1 ?_
    refine lv_istore_n hx hb zd_Tape_append_15 rfl hl (by decide) rfl (fun ls hl => ?_)
    exact zw_Tape_append_b16 C hA hK xx_fu u x1 x2 v1 _ _ _ hF (lv_sub hl [1, 2, 3, 0] rfl) hP hD hS
  · have hF := xx_in' hc hF
    refine lv_iconst (v := (0 : Int32)) hx hb zd_Tape_append_12 (by decide) ?_
    exact xx_zret C hF hK hP hD hS zd_Tape_append_13
theorem kw_194 : Cond.fieldLink "ModuleLoader" 62 "ModuleLoader" "sealed" "Z" ∈ xx_tb := xx_in (List.mem_append_right _ (List.mem_of_getElem? (i := 194) (by decide +kernel))) (by decide +kernel)
theorem kw_187 : Cond.fieldLink "ModuleLoader" 10 "ModuleLoader" "memory" "LModuleLoader$Memory;" ∈ xx_tb := xx_in (List.mem_append_right _ (List.mem_of_getElem? (i := 187) (by decide +kernel))) (by decide +kernel)
set_option maxRecDepth 100000 in
theorem kw_219 : Cond.code ky_Memory_guard kb_Memory_guard 5 none ∈ xx_tb := xx_in (List.mem_append_right _ (List.mem_of_getElem? (i := 219) (by rfl))) (by decide +kernel)
theorem kw_216 : Cond.methodLink "ModuleLoader" 80 ky_Memory_guard ∈ xx_tb := xx_in (List.mem_append_right _ (List.mem_of_getElem? (i := 216) (by decide +kernel))) (by decide +kernel)
theorem kw_217 : Cond.instanceMethod ky_Memory_guard ∈ xx_tb := xx_in (List.mem_append_right _ (List.mem_of_getElem? (i := 217) (by decide +kernel))) (by decide +kernel)
theorem kw_218 : Cond.selects "ModuleLoader$Memory" ky_Memory_guard ky_Memory_guard ∈ xx_tb := xx_in (List.mem_append_right _ (List.mem_of_getElem? (i := 218) (by decide +kernel))) (by decide +kernel)
theorem zd_Loader_seal_0 : decode kb_Loader_seal 0 = .ok (.aload_n 0, 1) := by decide +kernel
theorem zd_Loader_seal_1 : decode kb_Loader_seal 1 = .ok (.getfield 62, 3) := by decide +kernel
theorem zd_Loader_seal_4 : decode kb_Loader_seal 4 = .ok (.ifCond .eq (5), 3) := by decide +kernel
theorem zd_Loader_seal_7 : decode kb_Loader_seal 7 = .ok (.iconst 0, 1) := by decide +kernel
theorem zd_Loader_seal_8 : decode kb_Loader_seal 8 = .ok (.ireturn, 1) := by decide +kernel
theorem zd_Loader_seal_9 : decode kb_Loader_seal 9 = .ok (.aload_n 0, 1) := by decide +kernel
theorem zd_Loader_seal_10 : decode kb_Loader_seal 10 = .ok (.iconst 1, 1) := by decide +kernel
theorem zd_Loader_seal_11 : decode kb_Loader_seal 11 = .ok (.putfield 62, 3) := by decide +kernel
theorem zd_Loader_seal_14 : decode kb_Loader_seal 14 = .ok (.aload_n 0, 1) := by decide +kernel
theorem zd_Loader_seal_15 : decode kb_Loader_seal 15 = .ok (.getfield 10, 3) := by decide +kernel
theorem zd_Loader_seal_18 : decode kb_Loader_seal 18 = .ok (.iconst 0, 1) := by decide +kernel
theorem zd_Loader_seal_19 : decode kb_Loader_seal 19 = .ok (.sipush (512), 3) := by decide +kernel
theorem zd_Loader_seal_22 : decode kb_Loader_seal 22 = .ok (.iconst 1, 1) := by decide +kernel
theorem zd_Loader_seal_23 : decode kb_Loader_seal 23 = .ok (.invokevirtual 80, 3) := by decide +kernel
theorem zd_Loader_seal_26 : decode kb_Loader_seal 26 = .ok (.iconst 1, 1) := by decide +kernel
theorem zd_Loader_seal_27 : decode kb_Loader_seal 27 = .ok (.ireturn, 1) := by decide +kernel
def zf_Loader_seal (u : zz_S) : Option (Int32 × zz_S) := if (u.1 0) = 0 then (xx_nm (va_up u.1 0 (1 : Int32), u.2) fun u1 => (zf_Memory_guard u1 (0 : Int32) (512 : Int32) (1 : Int32)).bind fun u2 => some (vp_nar .boolean (1 : Int32), u2)) else (some (vp_nar .boolean (0 : Int32), u))
set_option maxHeartbeats 4000000 in
set_option maxRecDepth 100000 in
theorem zc_Loader_seal (l : Launch) (g : xx_G) (u : zz_S) (r : Int32) (u9 : zz_S) (hF : zf_Loader_seal u = some (r, u9)) : xx_M l g.1 (zz_T g) (zz_W g) ky_Loader_seal kb_Loader_seal 1 (some .boolean) (xx_rm 2 45) [.ref (g.2.1 0)] u (some (.int r)) u9 := by
  refine xx_body (by decide) (Nat.le_of_ble_eq_true rfl) ?_
  intro p e s m args below meth c A ls C hin hK hl hA hP hD hS
  have hx := C.1
  have hb := C.2.1
  have hown := C.2.2.2.1
  have hts := C.2.2.2.2.1
  have hl : lv_has ls 1 [(0, .ref (g.2.1 0))] := hl
  unfold zf_Loader_seal at hF
  refine lv_aload_n hx hb zd_Loader_seal_0 rfl (lv_at hl 0 rfl) ?_
  refine xx_get C ki_Loader hK hP 0 rfl rfl 7 (by decide) kw_194 rfl rfl zd_Loader_seal_1 ?_
  refine lv_if_eq (tgt := 9) hx hb zd_Loader_seal_4 (by decide) (fun hc => ?_) (fun hc => ?_)
  · have hF := xx_ip hc hF
    refine lv_aload_n hx hb zd_Loader_seal_9 rfl (lv_at hl 0 rfl) ?_
    refine lv_iconst (v := (1 : Int32)) hx hb zd_Loader_seal_10 (by decide) ?_
    obtain ⟨u1, eu1, hF⟩ := xx_nm_some hF
    refine xx_put (ws1 := zz_W g u1) C ki_Loader kt_Loader ko_Loader kn_Loader hK hP hD hS 0 rfl rfl 7 (by decide) kw_194 rfl rfl rfl rfl (Nat.le_of_ble_eq_true rfl) (by rw [eu1]; rfl) zd_Loader_seal_11 (fun H locs hP hD hS => ?_)
    refine lv_aload_n hx hb zd_Loader_seal_14 rfl (lv_at hl 0 rfl) ?_
    refine xx_get C ki_Loader hK hP 0 rfl rfl 0 (by decide) kw_187 rfl rfl zd_Loader_seal_15 ?_
    refine lv_iconst (v := (0 : Int32)) hx hb zd_Loader_seal_18 (by decide) ?_
    refine lv_sipush (v := (512 : Int32)) hx hb zd_Loader_seal_19 (by decide) ?_
    refine lv_iconst (v := (1 : Int32)) hx hb zd_Loader_seal_22 (by decide) ?_
    obtain ⟨u2, eu2, hF⟩ := xx_ob hF
    refine xx_callV (n := 3) (As := [.int (0 : Int32), .int (512 : Int32), .int (1 : Int32)]) (rest := []) C (zc_Memory_guard l g u1 (0 : Int32) (512 : Int32) (1 : Int32) u2 eu2) ⟨kw_219, kw_216, kw_217, kw_218, kw_2⟩ ⟨by decide +kernel, by decide +kernel, by decide +kernel⟩ rfl ⟨Nat.le_of_ble_eq_true rfl, Nat.le_of_ble_eq_true rfl⟩ 1 rfl rfl hl.1 rfl (Nat.le_of_ble_eq_true rfl) hA hK hP hD hS ⟨Nat.le_refl _, Nat.le_refl _⟩ rfl rfl rfl zd_Loader_seal_23 (fun H locs hP hD hS => ?_)
    refine lv_iconst (v := (1 : Int32)) hx hb zd_Loader_seal_26 (by decide) ?_
    exact xx_zret C hF hK hP hD hS zd_Loader_seal_27
  · have hF := xx_in' hc hF
    refine lv_iconst (v := (0 : Int32)) hx hb zd_Loader_seal_7 (by decide) ?_
    exact xx_zret C hF hK hP hD hS zd_Loader_seal_8
